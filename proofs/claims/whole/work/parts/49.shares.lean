-- odds, the class's side
theorem YG.eqT {σ σ' : Mm} (e : eqT σ σ') {g : Nat → Bool} {lim lea : Int} {tl : Nat → Int} (G : YG σ 11 g lim lea tl) : YG σ' 11 g lim lea tl := by
  obtain ⟨g1, g2, g3, g4⟩ := G
  refine ⟨?_, ?_, fun c hc => ?_, fun c w hc hw => ?_⟩
  · rw [e.1 11 2 (by decide)]; exact g1
  · rw [e.1 11 3 (by decide)]; exact g2
  · rw [e.2.1 (gTl 11) (by decide)]; exact g3 c hc
  · rw [e.2.1 (11 + 1) (by decide)]; exact g4 c w hc hw
def OC (σ : Mm) (tA tB : Nat) (A B : Nat → Int) (u lo sd : Int) : Prop := gR σ 33 0 = some tA ∧ gR σ 33 1 = some tB ∧ ((tA = 34 ∧ tB = 35) ∨ (tA = 35 ∧ tB = 34)) ∧ gR σ 33 4 = some 11 ∧ gI σ 33 5 = iz sd ∧ gI σ 33 2 = iz u ∧ gI σ 33 3 = iz lo ∧ (∀ j, j < 340 → gA σ tA j = iz (A j)) ∧ ∀ j, j < 340 → gA σ tB j = iz (B j)
theorem OC.rk4 {σ : Mm} {tA tB : Nat} {A B : Nat → Int} {u lo sd : Int} (h : OC σ tA tB A B u lo sd) {α : Type} (K : Nat → Option α) : rk (gR σ 33 4) okGr K = K 11 := by
  rw [h.2.2.2.1]
  exact rk_eq K rfl
theorem OC.rk0 {σ : Mm} {tA tB : Nat} {A B : Nat → Int} {u lo sd : Int} (h : OC σ tA tB A B u lo sd) {α : Type} (K : Nat → Option α) : rk (gR σ 33 0) okPa K = K tA := by
  rw [h.1]
  exact rk_eq K (by rcases h.2.2.1 with ⟨e, -⟩ | ⟨e, -⟩ <;> rw [e] <;> rfl)
theorem OC.rk1 {σ : Mm} {tA tB : Nat} {A B : Nat → Int} {u lo sd : Int} (h : OC σ tA tB A B u lo sd) {α : Type} (K : Nat → Option α) : rk (gR σ 33 1) okPa K = K tB := by
  rw [h.2.1]
  exact rk_eq K (by rcases h.2.2.1 with ⟨-, e⟩ | ⟨-, e⟩ <;> rw [e] <;> rfl)
theorem eqT_33 {σ : Mm} {k : Nat} {v : Int32} : eqT σ (sI σ 33 k v) := ⟨fun c j hc => by rw [gI_sI, if_neg (fun ⟨z, _⟩ => by rw [z] at hc; cases hc)], fun c _ => Eq.refl (gA σ c), Eq.refl (gR σ 0 2), Eq.refl (gR σ 0 3), Eq.refl (gJ σ), fun h => h⟩
theorem eqT_pa {σ : Mm} {t k : Nat} {v : Int32} (ht : t = 34 ∨ t = 35) : eqT σ (sA σ t k v) := ⟨fun c j _ => Eq.refl (gI σ c j), fun c hc => by rw [gA_sA, if_neg (fun z => by rw [z] at hc; rcases ht with rfl | rfl <;> cases hc)], Eq.refl (gR σ 0 2), Eq.refl (gR σ 0 3), Eq.refl (gJ σ), fun h => h⟩
theorem eqT_pas {σ : Mm} {t : Nat} {f : Nat → Int32} (ht : t = 34 ∨ t = 35) : eqT σ (sAs σ t f) := ⟨fun c j _ => Eq.refl (gI σ c j), fun c hc => by rw [gA_sAs, if_neg (fun z => by rw [z] at hc; rcases ht with rfl | rfl <;> cases hc)], Eq.refl (gR σ 0 2), Eq.refl (gR σ 0 3), Eq.refl (gJ σ), fun h => h⟩
theorem OC.up {σ : Mm} {tA tB : Nat} {A B : Nat → Int} {u lo sd y : Int} (h : OC σ tA tB A B u lo sd) : OC (sI σ 33 2 (iz (u + y))) tA tB A B (u + y) lo sd := by
  obtain ⟨h1, h2, h3, h4, h5, h6, h7, h8, h9⟩ := h
  refine ⟨h1, h2, h3, h4, ?_, ?_, ?_, h8, h9⟩
  · rw [gI_sI, if_neg (by decide)]; exact h5
  · rw [gI_sI, if_pos ⟨rfl, rfl⟩]
  · rw [gI_sI, if_neg (by decide)]; exact h7
theorem OC.bmp {σ : Mm} {tA tB : Nat} {A B : Nat → Int} {u lo sd y : Int} (h : OC σ tA tB A B u lo sd) (j : Nat) : OC (sA σ tB j (iz (B j + y))) tA tB A (bump B j y) u lo sd := by
  obtain ⟨h1, h2, h3, h4, h5, h6, h7, h8, h9⟩ := h
  refine ⟨h1, h2, h3, h4, h5, h6, h7, fun i hi => ?_, fun i hi => ?_⟩
  · rw [gA_sA, if_neg (by omega)]; exact h8 i hi
  · rw [gA_sA, if_pos rfl]
    unfold bump
    by_cases e : i = j
    · rw [e, pk_us, if_pos rfl]
    · rw [pk_un e, if_neg e]; exact h9 i hi
theorem t_way {σ : Mm} {g : Nat → Bool} {lim lea : Int} {tl : Nat → Int} {tA tB s w : Nat} {A : Nat → Int} {x : (Nat → Int) × Int} {lo sd y : Int} (G : YG σ 11 g lim lea tl) (hT : TlOk g tl) (hg : ∀ c, g c = true → c < 20) (hl1 : 2 ≤ lim) (hl2 : lim ≤ 9) (he : -2 ≤ lea ∧ lea ≤ 2) (h : OC σ tA tB A x.1 x.2 lo sd) (hsd : sd = 1 ∨ sd = 2) (hs : s < 340) (hc : g (s / 17) = true) (hw : w < 4) :
    ∃ σ', f_Ch_shareOut_53_b (iz (s : Int)) (iz ((s / 17 : Nat) : Int)) (iz y) σ (iz w) = some (.inl (σ', iz ((w + 1 : Nat) : Int))) ∧ eqT σ σ' ∧ OC σ' tA tB A (wA g lim lea tl sd (s / 17) (((s % 17 : Nat) : Int) - 8) y w x).1 (wA g lim lea tl sd (s / 17) (((s % 17 : Nat) : Int) - 8) y w x).2 lo sd := by
  have k4 : iz (w : Int) < 4 := by rw [i4, iz_lt (by omega) (by omega) (by omega) (by omega)]; omega
  have kk : iz (w : Int) + 1 = iz ((w + 1 : Nat) : Int) := by rw [i1, iz_add]; rfl
  have hB := t_beyond G (hg _ hc) hw
  rw [if_pos hc] at hB
  rcases hx : nx g (s / 17) w with _ | c'
  · rw [hx] at hB
    dsimp only at hB
    refine ⟨σ, ?_, eqT.rfl, by unfold wA; rw [hx]; exact h⟩
    unfold f_Ch_shareOut_53_b
    rw [if_pos k4, h.rk4, hB, bd_eq, if_pos (by decide), nm_eq, kk]
  · rw [hx] at hB
    dsimp only at hB
    obtain ⟨xg, -⟩ := nx_ok hx
    have xc := hg c' xg
    have xt := hT c' xg
    have hL := t_leanOn (l := ((s % 17 : Nat) : Int) - 8) G hT xc xg
    rw [show ((s % 17 : Nat) : Int) - 8 + (tl c' + lea) = ((s % 17 : Nat) : Int) - 8 + tl c' + lea by omega] at hL
    have hV := t_verdict (l := ((s % 17 : Nat) : Int) - 8 + tl c' + lea) G hl1 hl2 (by omega) (by omega)
    have hvc := vd_cases lim (((s % 17 : Nat) : Int) - 8 + tl c' + lea)
    have kn : ¬ iz (c' : Int) < 0 := by rw [i0, iz_lt (by omega) (by omega) (by omega) (by omega)]; omega
    obtain ⟨r5, hr5, hr6⟩ : ∃ r5, f_T_spotOf σ (iz c') (iz (((s % 17 : Nat) : Int) - 8 + tl c' + lea)) = some (r5, σ) ∧ (vd lim (((s % 17 : Nat) : Int) - 8 + tl c' + lea) = 0 → r5 = iz (((17 * (c' : Int) + (((s % 17 : Nat) : Int) - 8 + tl c' + lea) + 8).toNat : Nat) : Int) ∧ (17 * (c' : Int) + (((s % 17 : Nat) : Int) - 8 + tl c' + lea) + 8).toNat < 340) := by
      by_cases q : -8 ≤ ((s % 17 : Nat) : Int) - 8 + tl c' + lea ∧ ((s % 17 : Nat) : Int) - 8 + tl c' + lea ≤ 8
      · exact ⟨_, t_spotOf σ xc q.1 q.2, fun z => ⟨by congr 1; omega, by omega⟩⟩
      · exact ⟨_, t_spotOfN σ xc (by omega) (by omega) (by omega), fun z => by have := vd_0.mp z; omega⟩
    have eW : wA g lim lea tl sd (s / 17) (((s % 17 : Nat) : Int) - 8) y w x = if vd lim (((s % 17 : Nat) : Int) - 8 + tl c' + lea) = sd then (x.1, x.2 + y) else if vd lim (((s % 17 : Nat) : Int) - 8 + tl c' + lea) = 0 then (bump x.1 (17 * (c' : Int) + (((s % 17 : Nat) : Int) - 8 + tl c' + lea) + 8).toNat y, x.2) else x := by
      unfold wA
      rw [hx]
    rw [eW]
    have base : f_Ch_shareOut_53_b (iz (s : Int)) (iz ((s / 17 : Nat) : Int)) (iz y) σ (iz w) = (if iz (vd lim (((s % 17 : Nat) : Int) - 8 + tl c' + lea)) = gI σ 33 5 then (nm (sI σ 33 2 ((gI σ 33 2) + iz y)) fun σ7 => (nm (iz (w : Int) + 1) fun y4 => some (Sum.inl (σ7, y4)))) else (if iz (vd lim (((s % 17 : Nat) : Int) - 8 + tl c' + lea)) = 0 then (if r5 < 0 then (nm (iz (w : Int) + 1) fun y2 => some (Sum.inl (σ, y2))) else (rk (gR σ 33 1) okPa fun t4 => (ix r5 340 fun j1 => (ix r5 340 fun j2 => nm (sA σ t4 j2 ((gA σ t4 j1) + iz y)) fun σ6 => (nm (iz (w : Int) + 1) fun y3 => some (Sum.inl (σ6, y3))))))) else (nm (iz (w : Int) + 1) fun y1 => some (Sum.inl (σ, y1))))) := by
      unfold f_Ch_shareOut_53_b
      rw [if_pos k4, h.rk4, hB, bd_eq, if_neg kn, h.rk4, t_leanOf σ hs, bd_eq, hL, bd_eq, h.rk4, hV, bd_eq, hr5, bd_eq]
    rw [base, h.2.2.2.2.1, h.2.2.2.2.2.1, iz_add, kk]
    by_cases q1 : vd lim (((s % 17 : Nat) : Int) - 8 + tl c' + lea) = sd
    · rw [if_pos (by rw [q1]), if_pos q1, nm_eq, nm_eq]
      exact ⟨_, rfl, eqT_33, h.up⟩
    · rw [if_neg (by rw [iz_eq (by omega) (by omega) (by omega) (by omega)]; exact q1), if_neg q1]
      by_cases q2 : vd lim (((s % 17 : Nat) : Int) - 8 + tl c' + lea) = 0
      · obtain ⟨z1, z2⟩ := hr6 q2
        rw [if_pos (by rw [q2, i0]), if_pos q2, z1, if_neg (by rw [i0, iz_lt (by omega) (by omega) (by omega) (by omega)]; omega), h.rk1, ix_n z2 (by decide), ix_n z2 (by decide), nm_eq, nm_eq, h.2.2.2.2.2.2.2.2 _ z2, iz_add]
        exact ⟨_, rfl, eqT_pa (by rcases h.2.2.1 with ⟨-, e⟩ | ⟨-, e⟩ <;> rw [e] <;> simp), h.bmp _⟩
      · rw [if_neg (by rw [i0, iz_eq (by omega) (by omega) (by omega) (by omega)]; exact q2), if_neg q2, nm_eq]
        exact ⟨_, rfl, eqT.rfl, h⟩
theorem t_ways {σ : Mm} {g : Nat → Bool} {lim lea : Int} {tl : Nat → Int} {tA tB s : Nat} {A : Nat → Int} {x : (Nat → Int) × Int} {lo sd y : Int} (G : YG σ 11 g lim lea tl) (hT : TlOk g tl) (hg : ∀ c, g c = true → c < 20) (hl1 : 2 ≤ lim) (hl2 : lim ≤ 9) (he : -2 ≤ lea ∧ lea ≤ 2) (h : OC σ tA tB A x.1 x.2 lo sd) (hsd : sd = 1 ∨ sd = 2) (hs : s < 340) (hc : g (s / 17) = true) :
    ∃ z, f_Ch_shareOut_53 σ (iz (s : Int)) (iz ((s / 17 : Nat) : Int)) (iz y) (iz 0) = some z ∧ ∃ σ', z = (0, σ') ∧ eqT σ σ' ∧ OC σ' tA tB A (wN g lim lea tl sd (s / 17) (((s % 17 : Nat) : Int) - 8) y 4 x).1 (wN g lim lea tl sd (s / 17) (((s % 17 : Nat) : Int) - 8) y 4 x).2 lo sd := by
  unfold f_Ch_shareOut_53
  refine lp_ind (fun s => 4 - s.2.toNatClampNeg) (fun z => ∃ (σ' : Mm) (w : Nat), z = (σ', iz w) ∧ w ≤ 4 ∧ eqT σ σ' ∧ OC σ' tA tB A (wN g lim lea tl sd (s / 17) (((s % 17 : Nat) : Int) - 8) y w x).1 (wN g lim lea tl sd (s / 17) (((s % 17 : Nat) : Int) - 8) y w x).2 lo sd) _ (fun z hz => ?_) _ ⟨σ, 0, rfl, by omega, eqT.rfl, h⟩ ?_
  · obtain ⟨σ', w, rfl, hw, e, h'⟩ := hz
    dsimp only
    by_cases k : w < 4
    · left
      obtain ⟨σ2, a1, a2, a3⟩ := t_way (y := y) (G.eqT e) hT hg hl1 hl2 he h' hsd hs hc k
      refine ⟨_, a1, ⟨σ2, w + 1, rfl, by omega, e.trans a2, a3⟩, ?_⟩
      dsimp only
      rw [iz_nat (by omega) (by omega), iz_nat (by omega) (by omega)]
      omega
    · right
      have : w = 4 := by omega
      subst this
      refine ⟨(0, σ'), ?_, σ', rfl, e, h'⟩
      unfold f_Ch_shareOut_53_b
      rw [if_neg (by decide)]
      rfl
  · dsimp only
    omega
theorem t_waysFrom {σ : Mm} {g : Nat → Bool} {lim lea : Int} {tl : Nat → Int} (G : YG σ 11 g lim lea tl) (hg : ∀ c, g c = true → c < 20) {c : Nat} (hc : g c = true) : f_Gr_waysFrom σ 11 (iz c) = some (iz (sm (pM g c) 4 : Nat), σ) := by
  unfold f_Gr_waysFrom f_Gr_waysFrom_4
  refine lp_run (fun k => (σ, iz (sm (pM g c) k : Nat), iz (k : Int))) 4 (by decide) (fun k hk => ?_) ?_
  · dsimp only
    have k4 : iz (k : Int) < 4 := by rw [i4, iz_lt (by omega) (by omega) (by omega) (by omega)]; omega
    have kk : iz (k : Int) + 1 = iz ((k + 1 : Nat) : Int) := by rw [i1, iz_add]; rfl
    have hB := t_beyond G (hg c hc) hk
    rw [if_pos hc] at hB
    have z1 : sm (pM g c) (k + 1) = sm (pM g c) k + pM g c k := rfl
    have p1 : pM g c k = match nx g c k with | none => 0 | some _ => 1 := rfl
    rw [z1]
    unfold f_Gr_waysFrom_4_b
    rcases hx : nx g c k with _ | c'
    · rw [hx] at p1 hB
      dsimp only at p1 hB
      rw [if_pos k4, hB, bd_eq, if_pos (by decide), nm_eq, kk, p1]
      rfl
    · rw [hx] at p1 hB
      dsimp only at p1 hB
      have xc := hg c' (nx_ok hx).1
      have kA : iz ((sm (pM g c) k : Nat) : Int) + 1 = iz ((sm (pM g c) k + 1 : Nat) : Int) := by rw [i1, iz_add]; rfl
      rw [if_pos k4, hB, bd_eq, if_neg (by rw [i0, iz_lt (by omega) (by omega) (by omega) (by omega)]; omega), kA, nm_eq, kk, nm_eq, p1]
  · dsimp only
    unfold f_Gr_waysFrom_4_b
    rw [if_neg (by decide)]
theorem t_shareOut {σ : Mm} {g : Nat → Bool} {lim lea : Int} {tl : Nat → Int} {tA tB s : Nat} {A : Nat → Int} {x : (Nat → Int) × Int} {lo sd : Int} (G : YG σ 11 g lim lea tl) (hT : TlOk g tl) (hg : ∀ c, g c = true → c < 20) (hl1 : 2 ≤ lim) (hl2 : lim ≤ 9) (he : -2 ≤ lea ∧ lea ≤ 2) (h : OC σ tA tB A x.1 x.2 lo sd) (hsd : sd = 1 ∨ sd = 2) (hs : s < 340) (hc : g (s / 17) = true) :
    ∃ σ', f_Ch_shareOut σ (iz (s : Int)) = some (0, σ') ∧ eqT σ σ' ∧ OC σ' tA tB A (sA1 g lim lea tl sd A s x).1 (sA1 g lim lea tl sd A s x).2 lo sd := by
  have hm := sm_le (pM_le g (s / 17)) 4
  unfold f_Ch_shareOut
  rw [t_cellOf σ hs, bd_eq, h.rk4, t_waysFrom G hg hc, bd_eq]
  have eA := h.2.2.2.2.2.2.2.1 s hs
  have eB := h.2.2.2.2.2.2.2.2 s hs
  unfold sA1
  by_cases q : sm (pM g (s / 17)) 4 = 0
  · rw [if_pos (by rw [q]; decide), if_pos q, h.rk1, ix_n hs (by decide), h.rk0, ix_n hs (by decide), ix_n hs (by decide), nm_eq, eA, eB, i12, iz_mul, iz_add]
    exact ⟨_, rfl, eqT_pa (by rcases h.2.2.1 with ⟨-, e⟩ | ⟨-, e⟩ <;> rw [e] <;> simp), h.bmp s⟩
  · have hd : (12 : Int32) / iz ((sm (pM g (s / 17)) 4 : Nat) : Int) = iz (12 / ((sm (pM g (s / 17)) 4 : Nat) : Int)) := by
      rw [i12, iz_div (by omega) (by omega) (by omega) (by omega)]
    rw [if_neg (by rw [i0, iz_le (by omega) (by omega) (by omega) (by omega)]; omega), if_neg (by rw [i0, iz_eq (by omega) (by omega) (by omega) (by omega)]; omega), if_neg q, h.rk0, ix_n hs (by decide), eA, hd, iz_mul, nm_eq]
    obtain ⟨z, z1, σ', rfl, z2, z3⟩ := t_ways (y := 12 / ((sm (pM g (s / 17)) 4 : Nat) : Int) * A s) G hT hg hl1 hl2 he h hsd hs hc
    rw [← i0] at z1
    exact ⟨σ', z1, z2, z3⟩
