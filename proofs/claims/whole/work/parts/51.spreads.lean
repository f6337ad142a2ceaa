-- odds, the reference's side
def OM (τ : Mm) (A B : Nat → Int) : Prop := (∀ j, j < 340 → gA τ 12 j = iz (A j)) ∧ ∀ j, j < 340 → gA τ 13 j = iz (B j)
theorem OM.come {τ : Mm} {A B : Nat → Int} (h : OM τ A B) (c : Nat) (l : Int) : OM (mCome τ c l) A B := h
theorem eqM_13 {τ : Mm} {c k : Nat} {v : Int32} (hc : c = 11 ∨ c = 12 ∨ c = 13) : eqM τ (sA τ c k v) := by
  refine ⟨fun _ _ => Eq.refl _, fun c' hc' => ?_, fun k hk => ?_, Eq.refl _⟩
  · rw [gA_sA, if_neg (fun z => by rw [z] at hc'; rcases hc with rfl | rfl | rfl <;> cases hc')]
  · rw [gA_sA, if_neg (by omega)]
theorem OM.bmp {τ : Mm} {A B : Nat → Int} (h : OM τ A B) (j : Nat) (y : Int) : OM (sA τ 13 j (iz (B j + y))) A (bump B j y) := by
  refine ⟨fun i hi => ?_, fun i hi => ?_⟩
  · rw [gA_sA, if_neg (by decide)]; exact h.1 i hi
  · rw [gA_sA, if_pos rfl]
    unfold bump
    by_cases e : i = j
    · rw [e, pk_us, if_pos rfl]
    · rw [pk_un e, if_neg e]; exact h.2 i hi
theorem m_s140 {τ : Mm} {r sd acc y : Int} {w : Nat} (hr : 0 ≤ r ∧ r ≤ 3) (hsd : sd = 1 ∨ sd = 2) : f_M_spreads_140 τ (iz sd) (iz acc) (iz w) (iz r) (iz y) = some (.inl (τ, iz (if r = sd then acc + y else acc), iz ((w + 1 : Nat) : Int))) := by
  have kk : iz (w : Int) + 1 = iz ((w + 1 : Nat) : Int) := by rw [i1, iz_add]; rfl
  unfold f_M_spreads_140 f_M_spreads_154
  by_cases q : r = sd
  · rw [if_pos (by rw [q]), if_pos q, iz_add, nm_eq, kk, nm_eq]
  · rw [if_neg (by rw [iz_eq (by omega) (by omega) (by omega) (by omega)]; exact q), if_neg q, Int32.add_zero, nm_eq, kk, nm_eq]
theorem m_way {τ : Mm} {W R : Nat} {g : Nat → Bool} {lim lea st : Int} {tl : Nat → Int} {s w cn : Nat} {A : Nat → Int} {x : (Nat → Int) × Int} {sd u acc : Int} (Y : Yok W R g lim lea st) (M : YM τ W R g lim lea st) (T : TlM τ g tl) (hT : TlOk g tl) (h : OM τ A x.1) (hx2 : x.2 = u + acc) (hsd : sd = 1 ∨ sd = 2) (hs : s < 340) (hc : g (s / 17) = true) (hw : w < 4) (hcn : 0 < cn ∧ cn ≤ 4) :
    ∃ τ' acc', f_M_spreads_76_b (iz (s : Int)) (iz sd) (iz (cn : Int)) τ (iz acc) (iz w) = some (.inl (τ', iz acc', iz ((w + 1 : Nat) : Int))) ∧ eqM τ τ' ∧ OM τ' A (wA g lim lea tl sd (s / 17) (((s % 17 : Nat) : Int) - 8) (12 / (cn : Int) * A s) w x).1 ∧ (wA g lim lea tl sd (s / 17) (((s % 17 : Nat) : Int) - 8) (12 / (cn : Int) * A s) w x).2 = u + acc' := by
  have k4 : iz (w : Int) < 4 := by rw [i4, iz_lt (by omega) (by omega) (by omega) (by omega)]; omega
  have d1 : iz (s : Int) / 17 = iz ((s / 17 : Nat) : Int) := by
    rw [i17, iz_div (by omega) (by omega) (by decide) (by decide)]; rfl
  have d2 : rm32 (iz (s : Int)) 17 - 8 = iz (((s % 17 : Nat) : Int) - 8) := by
    rw [i17, iz_rm (by omega) (by omega) (by decide) (by decide), i8, iz_sub]; rfl
  have hd : (12 : Int32) / iz (cn : Int) = iz (12 / (cn : Int)) := by
    rw [i12, iz_div (by omega) (by omega) (by omega) (by omega)]
  have hn : ¬ iz (cn : Int) = 0 := by rw [i0, iz_eq (by omega) (by omega) (by omega) (by omega)]; omega
  have hC := m_comesBy (c := s / 17) (w := w) (l := ((s % 17 : Nat) : Int) - 8) Y M T hT (Y.g20 _ hc) hw (by omega) (by omega)
  rcases hx : nx g (s / 17) w with _ | c'
  · rw [hx] at hC
    dsimp only at hC
    rw [i3] at hC
    refine ⟨τ, acc, ?_, eqM.rfl, by unfold wA; rw [hx]; exact h, by unfold wA; rw [hx]; exact hx2⟩
    unfold f_M_spreads_76_b
    rw [if_pos k4, d1, d2, hC, bd_eq, ix_n hs (by decide), if_neg hn, h.1 s hs, hd, iz_mul, nm_eq, if_neg (by decide), m_s140 (by omega) hsd, if_neg (by omega)]
  · rw [hx] at hC
    dsimp only at hC
    obtain ⟨xg, -⟩ := nx_ok hx
    have xc := Y.g20 c' xg
    have hvc := vd_cases lim (((s % 17 : Nat) : Int) - 8 + tl c' + lea)
    have eW : wA g lim lea tl sd (s / 17) (((s % 17 : Nat) : Int) - 8) (12 / (cn : Int) * A s) w x = if vd lim (((s % 17 : Nat) : Int) - 8 + tl c' + lea) = sd then (x.1, x.2 + 12 / (cn : Int) * A s) else if vd lim (((s % 17 : Nat) : Int) - 8 + tl c' + lea) = 0 then (bump x.1 (17 * (c' : Int) + (((s % 17 : Nat) : Int) - 8 + tl c' + lea) + 8).toNat (12 / (cn : Int) * A s), x.2) else x := by
      unfold wA
      rw [hx]
    rw [eW]
    have h' := h.come c' (((s % 17 : Nat) : Int) - 8 + tl c' + lea)
    have base : f_M_spreads_76_b (iz (s : Int)) (iz sd) (iz (cn : Int)) τ (iz acc) (iz w) = (if iz (vd lim (((s % 17 : Nat) : Int) - 8 + tl c' + lea)) = 0 then (bd (f_M_spot (mCome τ c' (((s % 17 : Nat) : Int) - 8 + tl c' + lea)) (iz c') (iz (((s % 17 : Nat) : Int) - 8 + tl c' + lea))) fun r_2 σ2 => (ix r_2 340 fun j2 => (ix r_2 340 fun j3 => nm (sA σ2 13 j3 ((gA σ2 13 j2) + iz (12 / (cn : Int) * A s))) fun σ3 => f_M_spreads_140 σ3 (iz sd) (iz acc) (iz w) (iz (vd lim (((s % 17 : Nat) : Int) - 8 + tl c' + lea))) (iz (12 / (cn : Int) * A s))))) else f_M_spreads_140 (mCome τ c' (((s % 17 : Nat) : Int) - 8 + tl c' + lea)) (iz sd) (iz acc) (iz w) (iz (vd lim (((s % 17 : Nat) : Int) - 8 + tl c' + lea))) (iz (12 / (cn : Int) * A s))) := by
      unfold f_M_spreads_76_b
      rw [if_pos k4, d1, d2, hC, bd_eq, ix_n hs (by decide), if_neg hn, h'.1 s hs, hd, iz_mul, Int.mul_comm (A s), nm_eq, mCome_to, mCome_lean]
    rw [base]
    by_cases q2 : vd lim (((s % 17 : Nat) : Int) - 8 + tl c' + lea) = 0
    · obtain ⟨z1, z2⟩ := vd_0.mp q2
      have y4 := Y.2.2.2.1
      have es : 17 * (c' : Int) + (((s % 17 : Nat) : Int) - 8 + tl c' + lea) + 8 = (((17 * (c' : Int) + (((s % 17 : Nat) : Int) - 8 + tl c' + lea) + 8).toNat : Nat) : Int) := by omega
      have es2 : (17 * (c' : Int) + (((s % 17 : Nat) : Int) - 8 + tl c' + lea) + 8).toNat < 340 := by omega
      rw [if_pos (by rw [q2, i0]), m_spot, bd_eq, es, ix_n es2 (by decide), ix_n es2 (by decide), nm_eq, h'.2 _ es2, iz_add, m_s140 (by omega) hsd, if_neg (by omega), if_neg (by omega), if_pos q2]
      exact ⟨_, _, rfl, eqM_come.trans (eqM_13 (by simp)), h'.bmp _ _, hx2⟩
    · rw [if_neg (by rw [i0, iz_eq (by omega) (by omega) (by omega) (by omega)]; exact q2), m_s140 (by omega) hsd]
      by_cases q1 : vd lim (((s % 17 : Nat) : Int) - 8 + tl c' + lea) = sd
      · rw [if_pos q1, if_pos q1]
        exact ⟨_, _, rfl, eqM_come, h', by dsimp only; omega⟩
      · rw [if_neg q1, if_neg q1, if_neg q2]
        exact ⟨_, _, rfl, eqM_come, h', hx2⟩
theorem TlM.eqM {τ τ' : Mm} {g : Nat → Bool} {tl : Nat → Int} (e : eqM τ τ') (T : TlM τ g tl) : TlM τ' g tl := fun c hc => (congrFun (e.2.1 4 (by decide)) _).trans (T c hc)
theorem m_ways {τ : Mm} {W R : Nat} {g : Nat → Bool} {lim lea st : Int} {tl : Nat → Int} {s cn : Nat} {A : Nat → Int} {x : (Nat → Int) × Int} {sd : Int} (Y : Yok W R g lim lea st) (M : YM τ W R g lim lea st) (T : TlM τ g tl) (hT : TlOk g tl) (h : OM τ A x.1) (hsd : sd = 1 ∨ sd = 2) (hs : s < 340) (hc : g (s / 17) = true) (hcn : 0 < cn ∧ cn ≤ 4) :
    ∃ z, f_M_spreads_76 τ (iz (s : Int)) (iz sd) (iz (cn : Int)) 0 0 = some z ∧ ∃ τ' acc, z = (iz acc, τ') ∧ eqM τ τ' ∧ OM τ' A (wN g lim lea tl sd (s / 17) (((s % 17 : Nat) : Int) - 8) (12 / (cn : Int) * A s) 4 x).1 ∧ (wN g lim lea tl sd (s / 17) (((s % 17 : Nat) : Int) - 8) (12 / (cn : Int) * A s) 4 x).2 = x.2 + acc := by
  unfold f_M_spreads_76
  refine lp_ind (fun s => 4 - s.2.2.toNatClampNeg) (fun z => ∃ (τ' : Mm) (w : Nat) (acc : Int), z = (τ', iz acc, iz w) ∧ w ≤ 4 ∧ eqM τ τ' ∧ OM τ' A (wN g lim lea tl sd (s / 17) (((s % 17 : Nat) : Int) - 8) (12 / (cn : Int) * A s) w x).1 ∧ (wN g lim lea tl sd (s / 17) (((s % 17 : Nat) : Int) - 8) (12 / (cn : Int) * A s) w x).2 = x.2 + acc) _ (fun z hz => ?_) _ ⟨τ, 0, 0, rfl, by omega, eqM.rfl, h, (Int.add_zero _).symm⟩ ?_
  · obtain ⟨τ', w, acc, rfl, hw, e, h', h2⟩ := hz
    dsimp only
    by_cases k : w < 4
    · left
      obtain ⟨τ2, acc', a1, a2, a3, a4⟩ := m_way Y (M.ext e) (T.eqM e) hT h' h2 hsd hs hc k hcn
      refine ⟨_, a1, ⟨τ2, w + 1, acc', rfl, by omega, e.trans a2, a3, a4⟩, ?_⟩
      dsimp only
      rw [iz_nat (by omega) (by omega), iz_nat (by omega) (by omega)]
      omega
    · right
      have : w = 4 := by omega
      subst this
      refine ⟨(iz acc, τ'), ?_, τ', acc, rfl, e, h', h2⟩
      unfold f_M_spreads_76_b
      rw [if_neg (by decide)]
      rfl
  · dsimp only
    omega
theorem m_spreads {τ : Mm} {W R : Nat} {g : Nat → Bool} {lim lea st : Int} {tl : Nat → Int} {s : Nat} {A : Nat → Int} {x : (Nat → Int) × Int} {sd : Int} (Y : Yok W R g lim lea st) (M : YM τ W R g lim lea st) (T : TlM τ g tl) (hT : TlOk g tl) (h : OM τ A x.1) (hsd : sd = 1 ∨ sd = 2) (hs : s < 340) (hc : g (s / 17) = true) :
    ∃ z, f_M_spreads τ (iz (s : Int)) (iz sd) = some z ∧ ∃ τ' acc, z = (iz acc, τ') ∧ eqM τ τ' ∧ OM τ' A (sA1 g lim lea tl sd A s x).1 ∧ (sA1 g lim lea tl sd A s x).2 = x.2 + acc := by
  have hm := sm_le (pM_le g (s / 17)) 4
  have d1 : iz (s : Int) / 17 = iz ((s / 17 : Nat) : Int) := by
    rw [i17, iz_div (by omega) (by omega) (by decide) (by decide)]; rfl
  have d2 : rm32 (iz (s : Int)) 17 - 8 = iz (((s % 17 : Nat) : Int) - 8) := by
    rw [i17, iz_rm (by omega) (by omega) (by decide) (by decide), i8, iz_sub]; rfl
  unfold f_M_spreads f_M_spreads_8
  refine lp_ind (fun s => 4 - s.2.2.toNatClampNeg) (fun z => ∃ (τ' : Mm) (w : Nat), z = (τ', iz (sm (pM g (s / 17)) w : Nat), iz w) ∧ w ≤ 4 ∧ eqM τ τ' ∧ OM τ' A x.1) _ (fun z hz => ?_) _ ⟨τ, 0, rfl, by omega, eqM.rfl, h⟩ ?_
  · obtain ⟨τ', w, rfl, hw, e, h'⟩ := hz
    dsimp only
    by_cases k : w < 4
    · left
      have k4 : iz (w : Int) < 4 := by rw [i4, iz_lt (by omega) (by omega) (by omega) (by omega)]; omega
      have kk : iz (w : Int) + 1 = iz ((w + 1 : Nat) : Int) := by rw [i1, iz_add]; rfl
      have mu : ∀ (τ2 : Mm) (v : Int32), 4 - ((τ2, v, iz ((w + 1 : Nat) : Int)) : Mm × Int32 × Int32).2.2.toNatClampNeg < 4 - (iz (w : Int)).toNatClampNeg := fun τ2 v => by
        dsimp only
        rw [iz_nat (by omega) (by omega), iz_nat (by omega) (by omega)]
        omega
      have hC := m_comesBy (c := s / 17) (w := w) (l := ((s % 17 : Nat) : Int) - 8) Y (M.ext e) (T.eqM e) hT (Y.g20 _ hc) k (by omega) (by omega)
      have z1 : sm (pM g (s / 17)) (w + 1) = sm (pM g (s / 17)) w + pM g (s / 17) w := rfl
      have p1 : pM g (s / 17) w = match nx g (s / 17) w with | none => 0 | some _ => 1 := rfl
      have hw2 := sm_le (pM_le g (s / 17)) w
      rcases hx : nx g (s / 17) w with _ | c'
      · rw [hx] at hC p1
        dsimp only at hC p1
        refine ⟨(τ', iz (sm (pM g (s / 17)) (w + 1) : Nat), iz ((w + 1 : Nat) : Int)), ?_, ⟨τ', w + 1, rfl, by omega, e, h'⟩, mu ..⟩
        unfold f_M_spreads_8_b f_M_spreads_41
        rw [if_pos k4, d1, d2, hC, bd_eq, if_pos rfl, Int32.add_zero, nm_eq, kk, nm_eq, z1, p1]
        rfl
      · rw [hx] at hC p1
        dsimp only at hC p1
        have hvc := vd_cases lim (((s % 17 : Nat) : Int) - 8 + tl c' + lea)
        refine ⟨(mCome τ' c' (((s % 17 : Nat) : Int) - 8 + tl c' + lea), iz (sm (pM g (s / 17)) (w + 1) : Nat), iz ((w + 1 : Nat) : Int)), ?_, ⟨_, w + 1, rfl, by omega, e.trans eqM_come, h'.come _ _⟩, mu ..⟩
        unfold f_M_spreads_8_b f_M_spreads_41
        rw [if_pos k4, d1, d2, hC, bd_eq, if_neg (by rw [i3, iz_eq (by omega) (by omega) (by omega) (by omega)]; omega), nm_eq, kk, nm_eq, z1, p1, i1, iz_add]
        rfl
    · right
      have : w = 4 := by omega
      subst this
      have hb : f_M_spreads_8_b (iz (s : Int)) (iz sd) 0 τ' (iz (sm (pM g (s / 17)) 4 : Nat)) (iz ((4 : Nat) : Int)) = ((f_M_spreads_49 τ' (iz (s : Int)) (iz sd) (iz (sm (pM g (s / 17)) 4 : Nat)) 0 : Option (Int32 × Mm)).map Sum.inr) := by
        unfold f_M_spreads_8_b
        rw [if_neg (by decide)]
      rw [hb]
      unfold f_M_spreads_49 sA1
      by_cases q : sm (pM g (s / 17)) 4 = 0
      · rw [if_pos (by rw [q]; rfl), if_pos q, ix_n hs (by decide), ix_n hs (by decide), ix_n hs (by decide), nm_eq, h'.1 s hs, h'.2 s hs, i12, iz_mul, iz_add]
        exact ⟨_, rfl, _, 0, rfl, e.trans (eqM_13 (by simp)), h'.bmp _ _, (Int.add_zero _).symm⟩
      · rw [if_neg (by rw [i0, iz_eq (by omega) (by omega) (by omega) (by omega)]; omega), if_neg q]
        obtain ⟨_, a1, τ2, acc, rfl, a2, a3, a4⟩ := m_ways Y (M.ext e) (T.eqM e) hT h' hsd hs hc (cn := sm (pM g (s / 17)) 4) ⟨by omega, hm⟩
        rw [a1]
        exact ⟨_, rfl, τ2, acc, rfl, e.trans a2, a3, a4⟩
  · dsimp only
    omega
