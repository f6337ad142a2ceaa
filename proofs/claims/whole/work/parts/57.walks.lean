-- soonest, the reference walks the nearest way
theorem m_s94_out {τ : Mm} {v1 v2 v3 v4 v5 v6 : Int32} {v7 v8 : Int} {s0 : Int32} : f_M_soonest_163 τ (iz v7) (iz v8) s0 = some (.inl (τ, (if s0 = 0 then iz v7 else iz v8), iz (v8 - 1))) := by
  have dec : iz v8 + -1 = iz (v8 - 1) := by
    rw [i1, iz_neg, iz_add]
    congr 1
  unfold f_M_soonest_163 f_M_soonest_177
  by_cases q : s0 = 0
  · rw [if_pos q, if_pos q, nm_eq, dec]
  · rw [if_neg q, if_neg q, nm_eq, dec]
theorem m_sway {τ : Mm} {W R : Nat} {g : Nat → Bool} {lim lea st : Int} {tl : Nat → Int} {D : Nat → Int} {sd k a : Int} {s w : Nat} {v2 v6 : Int32} (Y : Yok W R g lim lea st) (M : YM τ W R g lim lea st) (T : TlM τ g tl) (hT : TlOk g tl) (h : OD τ D) (hsd : sd = 1 ∨ sd = 2) (hk : 1 ≤ k ∧ k ≤ 400) (hs : s < 340) (hg : g (s / 17) = true) (hw : w < 4) :
    ∃ τ', eqM τ τ' ∧ OD τ' D ∧ ((hit (Tw g lim lea tl) (Ew g lim lea tl sd) k D s w → f_M_soonest_94_b (iz sd) v2 (iz ((s / 17 : Nat) : Int)) (iz (((s % 17 : Nat) : Int) - 8)) (iz k) v6 τ (iz a) (iz w) = some (.inl (τ', iz w, iz ((w : Int) - 1)))) ∧ (¬ hit (Tw g lim lea tl) (Ew g lim lea tl sd) k D s w → f_M_soonest_94_b (iz sd) v2 (iz ((s / 17 : Nat) : Int)) (iz (((s % 17 : Nat) : Int) - 8)) (iz k) v6 τ (iz a) (iz w) = some (.inl (τ', iz a, iz ((w : Int) - 1))))) := by
  have kn : ¬ iz (w : Int) < 0 := by rw [i0, iz_lt (by omega) (by omega) (by omega) (by omega)]; omega
  have hC := m_comesBy (c := s / 17) (w := w) (l := ((s % 17 : Nat) : Int) - 8) Y M T hT (Y.g20 _ hg) hw (by omega) (by omega)
  have hk1 : iz k = 1 ↔ k = 1 := by rw [i1, iz_eq (by omega) (by omega) (by omega) (by omega)]
  have o0 : ∀ τ : Mm, f_M_soonest_163 τ (iz a) (iz (w : Int)) 0 = some (.inl (τ, iz a, iz ((w : Int) - 1))) := fun τ => by
    rw [m_s94_out (v1 := 0) (v2 := 0) (v3 := 0) (v4 := 0) (v5 := 0) (v6 := 0), if_pos rfl]
  have o1 : ∀ τ : Mm, f_M_soonest_163 τ (iz a) (iz (w : Int)) 1 = some (.inl (τ, iz w, iz ((w : Int) - 1))) := fun τ => by
    rw [m_s94_out (v1 := 0) (v2 := 0) (v3 := 0) (v4 := 0) (v5 := 0) (v6 := 0), if_neg (by decide)]
  rcases way_cases g lim lea tl hsd Y.g20 Y.2.2.2.1 s w with ⟨c1, c2, c3⟩ | ⟨c', c1, c2, c3, hcase⟩
  · rw [c1] at hC
    dsimp only at hC
    have no : ¬ hit (Tw g lim lea tl) (Ew g lim lea tl sd) k D s w := by
      rintro (⟨-, z⟩ | ⟨-, t, z, -⟩)
      · rw [c3] at z; cases z
      · rw [c2] at z; cases z
    refine ⟨τ, eqM.rfl, h, fun z => absurd z no, fun _ => ?_⟩
    unfold f_M_soonest_94_b f_M_soonest_162
    rw [if_neg kn, hC, bd_eq]
    by_cases q : k = 1
    · rw [if_pos (hk1.mpr q), if_neg (by rw [i3, iz_eq (by omega) (by omega) (by omega) (by omega)]; omega), o0]
    · rw [if_neg (fun z => q (hk1.mp z)), if_neg (by decide), o0]
  · rw [c1] at hC
    dsimp only at hC
    have hvc := vd_cases lim (((s % 17 : Nat) : Int) - 8 + tl c' + lea)
    have hM : eqM τ (mCome τ c' (((s % 17 : Nat) : Int) - 8 + tl c' + lea)) := eqM_come
    refine ⟨mCome τ c' (((s % 17 : Nat) : Int) - 8 + tl c' + lea), hM, h, ?_⟩
    rcases hcase with ⟨q, c4, t, c5, c6, c7, c8, c9⟩ | ⟨q, c4, c5⟩
    · have hh : hit (Tw g lim lea tl) (Ew g lim lea tl sd) k D s w ↔ (2 ≤ k ∧ D t = k - 1) := by
        constructor
        · rintro (⟨-, z⟩ | ⟨z1, t', z2, z3⟩)
          · rw [c4] at z; cases z
          · rw [c5] at z2
            rw [← Option.some.inj z2] at z3
            exact ⟨z1, z3⟩
        · exact fun ⟨z1, z2⟩ => Or.inr ⟨z1, t, c5, z2⟩
      have e11 : gA (mCome τ c' (((s % 17 : Nat) : Int) - 8 + tl c' + lea)) 11 t = iz (D t) := h.1 t c7
      have hDt := h.2 t c7
      by_cases q1 : k = 1
      · have base : f_M_soonest_94_b (iz sd) v2 (iz ((s / 17 : Nat) : Int)) (iz (((s % 17 : Nat) : Int) - 8)) (iz k) v6 τ (iz a) (iz w) = some (.inl (mCome τ c' (((s % 17 : Nat) : Int) - 8 + tl c' + lea), iz a, iz ((w : Int) - 1))) := by
          unfold f_M_soonest_94_b f_M_soonest_162
          rw [if_neg kn, hC, bd_eq, if_pos (hk1.mpr q1), q, if_neg (by rw [iz_eq (by omega) (by omega) (by omega) (by omega)]; omega), o0]
        exact ⟨fun z => by have := (hh.mp z).1; omega, fun _ => base⟩
      · have base : f_M_soonest_94_b (iz sd) v2 (iz ((s / 17 : Nat) : Int)) (iz (((s % 17 : Nat) : Int) - 8)) (iz k) v6 τ (iz a) (iz w) = (if iz (D t) = iz k - 1 then f_M_soonest_163 (mCome τ c' (((s % 17 : Nat) : Int) - 8 + tl c' + lea)) (iz a) (iz w) 1 else f_M_soonest_163 (mCome τ c' (((s % 17 : Nat) : Int) - 8 + tl c' + lea)) (iz a) (iz w) 0) := by
          unfold f_M_soonest_94_b f_M_soonest_162
          rw [if_neg kn, hC, bd_eq, if_neg (fun z => q1 (hk1.mp z)), if_pos (by rw [q, i0]), mCome_to, mCome_lean, m_spot, bd_eq, ← c6, ix_n c7 (by decide), e11]
        rw [base, i1, iz_sub, ← i1]
        by_cases qd : D t = k - 1
        · rw [if_pos (by rw [qd]), o1]
          exact ⟨fun _ => rfl, fun z => absurd (hh.mpr ⟨by omega, qd⟩) z⟩
        · rw [if_neg (by rw [iz_eq (by omega) (by omega) (by omega) (by omega)]; exact qd), o0]
          exact ⟨fun z => absurd (hh.mp z).2 qd, fun _ => rfl⟩
    · have hh : hit (Tw g lim lea tl) (Ew g lim lea tl sd) k D s w ↔ (k = 1 ∧ vd lim (((s % 17 : Nat) : Int) - 8 + tl c' + lea) = sd) := by
        constructor
        · rintro (⟨z1, z2⟩ | ⟨-, t', z2, -⟩)
          · exact ⟨z1, c5.mp z2⟩
          · rw [c4] at z2; cases z2
        · exact fun ⟨z1, z2⟩ => Or.inl ⟨z1, c5.mpr z2⟩
      have base : f_M_soonest_94_b (iz sd) v2 (iz ((s / 17 : Nat) : Int)) (iz (((s % 17 : Nat) : Int) - 8)) (iz k) v6 τ (iz a) (iz w) = (if iz k = 1 then (if iz (vd lim (((s % 17 : Nat) : Int) - 8 + tl c' + lea)) = iz sd then f_M_soonest_163 (mCome τ c' (((s % 17 : Nat) : Int) - 8 + tl c' + lea)) (iz a) (iz w) 1 else f_M_soonest_163 (mCome τ c' (((s % 17 : Nat) : Int) - 8 + tl c' + lea)) (iz a) (iz w) 0) else f_M_soonest_163 (mCome τ c' (((s % 17 : Nat) : Int) - 8 + tl c' + lea)) (iz a) (iz w) 0) := by
        unfold f_M_soonest_94_b f_M_soonest_162
        rw [if_neg kn, hC, bd_eq]
        rw [if_neg (show ¬ iz (vd lim (((s % 17 : Nat) : Int) - 8 + tl c' + lea)) = 0 by rw [i0, iz_eq (by omega) (by omega) (by omega) (by omega)]; exact q)]
      rw [base]
      by_cases q2 : k = 1
      · rw [if_pos (hk1.mpr q2)]
        by_cases q1 : vd lim (((s % 17 : Nat) : Int) - 8 + tl c' + lea) = sd
        · rw [if_pos (by rw [q1]), o1]
          exact ⟨fun _ => rfl, fun z => absurd (hh.mpr ⟨q2, q1⟩) z⟩
        · rw [if_neg (by rw [iz_eq (by omega) (by omega) (by omega) (by omega)]; exact q1), o0]
          exact ⟨fun z => absurd (hh.mp z).2 q1, fun _ => rfl⟩
      · rw [if_neg (fun z => q2 (hk1.mp z)), o0]
        exact ⟨fun z => absurd (hh.mp z).1 q2, fun _ => rfl⟩
/-- one step of the nearest way: the least way that comes nearer -/
theorem m_s94 {τ : Mm} {W R : Nat} {g : Nat → Bool} {lim lea st : Int} {tl : Nat → Int} {D : Nat → Int} {sd k v2 d : Int} {s b : Nat} (Y : Yok W R g lim lea st) (M : YM τ W R g lim lea st) (T : TlM τ g tl) (hT : TlOk g tl) (h : OD τ D) (hsd : sd = 1 ∨ sd = 2) (hk : 1 ≤ k ∧ k ≤ 400) (hs : s < 340) (hg : g (s / 17) = true) (hb : b < 4) (h1 : hit (Tw g lim lea tl) (Ew g lim lea tl sd) k D s b) (h2 : ∀ u, u < b → ¬ hit (Tw g lim lea tl) (Ew g lim lea tl sd) k D s u) (hv : 0 ≤ v2 ∧ v2 < 2147483648) (hd : 0 ≤ d ∧ d ≤ 400) :
    ∃ z, f_M_soonest_94 τ (iz sd) (iz v2) (iz ((s / 17 : Nat) : Int)) (iz (((s % 17 : Nat) : Int) - 8)) (iz k) (iz d) (-9) 3 = some z ∧ ∃ τ', eqM τ τ' ∧ OD τ' D ∧ (d = v2 → z = Sum.inr (iz b, τ')) ∧ (d ≠ v2 → ∃ x y, z = Sum.inl (τ', x, y, iz (k - 1), iz (d + 1)) ∧ ∀ t, Tw g lim lea tl s b = some t → x = iz ((t / 17 : Nat) : Int) ∧ y = iz (((t % 17 : Nat) : Int) - 8)) := by
  unfold f_M_soonest_94
  refine lp_ind (fun s => (s.2.2.toInt + 1).toNat) (fun z => ∃ (τ' : Mm) (w : Nat) (a : Int), z = (τ', iz a, iz ((w : Int) - 1)) ∧ w ≤ 4 ∧ eqM τ τ' ∧ OD τ' D ∧ (w ≤ b → a = b)) _ (fun z hz => ?_) _ ⟨τ, 4, -9, rfl, by omega, eqM.rfl, h, fun z => by omega⟩ ?_
  · obtain ⟨τ', w, a, rfl, hw, e, hD, ha⟩ := hz
    dsimp only
    by_cases k0 : w = 0
    · right
      subst k0
      have hab := ha (Nat.zero_le b)
      rw [hab]
      have hb185 : f_M_soonest_94_b (iz sd) (iz v2) (iz ((s / 17 : Nat) : Int)) (iz (((s % 17 : Nat) : Int) - 8)) (iz k) (iz d) τ' (iz (b : Int)) (iz (((0 : Nat) : Int) - 1)) = (f_M_soonest_185 τ' (iz v2) (iz ((s / 17 : Nat) : Int)) (iz (((s % 17 : Nat) : Int) - 8)) (iz k) (iz d) (iz b) : Option ((Mm × Int32 × Int32 × Int32 × Int32) ⊕ (Int32 × Mm))).map Sum.inr := by
        unfold f_M_soonest_94_b
        rw [if_pos (by decide)]
      rw [hb185]
      unfold f_M_soonest_185
      by_cases q : d = v2
      · rw [if_pos (by rw [q])]
        exact ⟨_, rfl, τ', e, hD, fun _ => rfl, fun z => absurd q z⟩
      · have kk1 : iz k + -1 = iz (k - 1) := by
          rw [i1, iz_neg, iz_add]
          congr 1
        have kk2 : iz d + 1 = iz (d + 1) := by rw [i1, iz_add]
        have hC := m_comesBy (c := s / 17) (w := b) (l := ((s % 17 : Nat) : Int) - 8) Y (M.ext e) (T.eqM e) hT (Y.g20 _ hg) hb (by omega) (by omega)
        rw [if_neg (by rw [iz_eq (by omega) (by omega) (by omega) (by omega)]; exact q)]
        rcases way_cases g lim lea tl hsd Y.g20 Y.2.2.2.1 s b with ⟨c1, c2, c3⟩ | ⟨c', c1, c2, c3, hcase⟩
        · rw [c1] at hC
          dsimp only at hC
          rw [hC, bd_eq, nm_eq, nm_eq, nm_eq, nm_eq, kk1, kk2]
          exact ⟨_, rfl, τ', e, hD, fun z => absurd z q, fun _ => ⟨_, _, rfl, fun t ht => by rw [c2] at ht; cases ht⟩⟩
        · rw [c1] at hC
          dsimp only at hC
          rw [hC, bd_eq, nm_eq, nm_eq, nm_eq, nm_eq, kk1, kk2, mCome_to, mCome_lean]
          refine ⟨_, rfl, _, e.trans eqM_come, hD, fun z => absurd z q, fun _ => ⟨_, _, rfl, fun t ht => ?_⟩⟩
          rcases hcase with ⟨-, -, t', c5, c6, c7, c8, c9⟩ | ⟨-, c4, -⟩
          · rw [c5] at ht
            rw [← Option.some.inj ht]
            exact ⟨by rw [c8], by congr 1; omega⟩
          · rw [c4] at ht; cases ht
    · left
      obtain ⟨v, rfl⟩ : ∃ v, w = v + 1 := ⟨w - 1, by omega⟩
      have ev : ((v + 1 : Nat) : Int) - 1 = (v : Int) := by omega
      rw [ev]
      have mu : ∀ (τ2 : Mm) (b : Int32), (((τ2, b, iz ((v : Int) - 1)) : Mm × Int32 × Int32).2.2.toInt + 1).toNat < ((iz (v : Int)).toInt + 1).toNat := fun τ2 b => by
        dsimp only
        rw [iz_T (by omega) (by omega), iz_T (by omega) (by omega)]
        omega
      obtain ⟨τ2, a1, a2, a3, a4⟩ := m_sway (a := a) (v2 := iz v2) (v6 := iz d) (w := v) Y (M.ext e) (T.eqM e) hT hD hsd hk hs hg (by omega)
      by_cases q : hit (Tw g lim lea tl) (Ew g lim lea tl sd) k D s v
      · refine ⟨_, a3 q, ⟨τ2, v, v, rfl, by omega, e.trans a1, a2, fun z => ?_⟩, mu ..⟩
        by_cases q2 : v < b
        · exact absurd q (h2 v q2)
        · omega
      · refine ⟨_, a4 q, ⟨τ2, v, a, rfl, by omega, e.trans a1, a2, fun z => ?_⟩, mu ..⟩
        by_cases q2 : v = b
        · rw [q2] at q; exact absurd h1 q
        · exact ha (by omega)
  · dsimp only
    rw [show ((3 : Int32)).toInt = 3 from by decide]
    omega
theorem m_s82 {τ : Mm} {W R : Nat} {g : Nat → Bool} {lim lea st : Int} {tl : Nat → Int} {D : Nat → Int} {sd v2 : Int} {s0 n : Nat} {P Wy : Nat → Nat} (Y : Yok W R g lim lea st) (M : YM τ W R g lim lea st) (T : TlM τ g tl) (hT : TlOk g tl) (h : OD τ D) (hsd : sd = 1 ∨ sd = 2) (hn : n ≤ 400) (G : GP (Tw g lim lea tl) (Ew g lim lea tl sd) (Vw g) D n s0 P Wy) (hv : 0 ≤ v2 ∧ v2 < 2147483648) :
    ∃ z, f_M_soonest_82 τ (iz sd) (iz v2) (iz ((s0 / 17 : Nat) : Int)) (iz (((s0 % 17 : Nat) : Int) - 8)) (iz n) 0 = some z ∧ ∃ τ', z = (if v2 < n then iz (Wy v2.toNat) else iz (-5), τ') ∧ eqM τ τ' := by
  obtain ⟨G0, G1⟩ := G
  unfold f_M_soonest_82
  refine lp_ind (fun s => 401 - s.2.2.2.2.toNatClampNeg) (fun z => ∃ (τ' : Mm) (d : Nat) (x y : Int32), z = (τ', x, y, iz ((n : Int) - d), iz d) ∧ d ≤ n ∧ (d : Int) ≤ v2 ∧ eqM τ τ' ∧ OD τ' D ∧ (d < n → x = iz ((P d / 17 : Nat) : Int) ∧ y = iz (((P d % 17 : Nat) : Int) - 8))) _ (fun z hz => ?_) _ ⟨τ, 0, _, _, ?_, by omega, by omega, eqM.rfl, h, fun _ => ⟨rfl, rfl⟩⟩ ?_
  · obtain ⟨τ', d, x, y, rfl, hd, hd2, e, hD, hxy⟩ := hz
    dsimp only
    by_cases k : d < n
    · obtain ⟨rfl, rfl⟩ := hxy k
      obtain ⟨g1, g2, g3, g4, g5, g6⟩ := G1 d k
      obtain ⟨z, a1, τ2, a2, a3, a4, a5⟩ := m_s94 (v2 := v2) (d := d) Y (M.ext e) (T.eqM e) hT hD hsd (k := (n : Int) - d) (by omega) g1.1 g1.2 g3 g4 g5 hv (by omega)
      have hb : f_M_soonest_82_b (iz sd) (iz v2) τ' (iz ((P d / 17 : Nat) : Int)) (iz (((P d % 17 : Nat) : Int) - 8)) (iz ((n : Int) - d)) (iz (d : Int)) = some z := by
        unfold f_M_soonest_82_b
        rw [if_neg (by rw [i0, iz_le (by omega) (by omega) (by omega) (by omega)]; omega), a1]
      rw [hb]
      by_cases q : (d : Int) = v2
      · right
        rw [a4 q]
        refine ⟨(iz (Wy d), τ2), rfl, τ2, ?_, e.trans a2⟩
        rw [if_pos (by omega), show v2.toNat = d by omega]
      · left
        obtain ⟨x, y, b1, b2⟩ := a5 q
        rw [b1]
        refine ⟨_, rfl, ⟨τ2, d + 1, x, y, ?_, by omega, by omega, e.trans a2, a3, fun z => b2 _ (g6 z)⟩, ?_⟩
        · rw [show (n : Int) - (d : Int) - 1 = (n : Int) - ((d + 1 : Nat) : Int) by omega]
          rfl
        · dsimp only
          rw [iz_nat (by omega) (by omega), iz_nat (by omega) (by omega)]
          omega
    · right
      have : d = n := by omega
      subst this
      refine ⟨(iz (-5), τ'), ?_, τ', by rw [if_neg (by omega)], e⟩
      unfold f_M_soonest_82_b
      rw [if_pos (by rw [i0, iz_le (by omega) (by omega) (by omega) (by omega)]; omega)]
      rfl
  · rw [G0]
    congr 4
  · dsimp only
    omega
