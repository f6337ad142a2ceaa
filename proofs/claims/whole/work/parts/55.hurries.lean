-- soonest, the reference reckons how near
def OD (τ : Mm) (D : Nat → Int) : Prop := (∀ j, j < 340 → gA τ 11 j = iz (D j)) ∧ ∀ j, j < 340 → -9 ≤ D j ∧ D j ≤ 400
theorem m_h161_0 {τ : Mm} {v : Int} {k : Int32} {s w : Nat} (hv : v = 0 ∨ v = 1) (hs : s < 340) : f_M_hurries_161 τ (iz v) k (iz s) (iz w) 0 = some (.inl (sA τ 11 s (gA τ 11 s), iz v, iz ((w + 1 : Nat) : Int))) := by
  have kk : iz (w : Int) + 1 = iz ((w + 1 : Nat) : Int) := by rw [i1, iz_add]; rfl
  unfold f_M_hurries_161 f_M_hurries_185 f_M_hurries_195 f_M_hurries_200
  rw [if_pos rfl, ix_n hs (by decide), ix_n hs (by decide), nm_eq]
  rcases hv with rfl | rfl
  · rw [if_pos (by rw [i0]), if_pos rfl, nm_eq, kk, i0]
  · rw [if_neg (by decide), nm_eq, kk, ← i1]
theorem m_h161_1 {τ : Mm} {v k : Int} {s w : Nat} (hs : s < 340) : f_M_hurries_161 τ (iz v) (iz k) (iz s) (iz w) 1 = some (.inl (sA τ 11 s (iz k), iz 1, iz ((w + 1 : Nat) : Int))) := by
  have kk : iz (w : Int) + 1 = iz ((w + 1 : Nat) : Int) := by rw [i1, iz_add]; rfl
  unfold f_M_hurries_161 f_M_hurries_185 f_M_hurries_195 f_M_hurries_200
  rw [if_neg (by decide), ix_n hs (by decide), nm_eq]
  by_cases q : iz v = 0
  · rw [if_pos q, if_neg (by decide), nm_eq, kk, ← i1]
  · rw [if_neg q, nm_eq, kk, ← i1]
/-- one way looked at from a spot that isn't near yet -/
theorem m_hway {τ : Mm} {W R : Nat} {g : Nat → Bool} {lim lea st : Int} {tl : Nat → Int} {D : Nat → Int} {sd k v : Int} {s w : Nat} (Y : Yok W R g lim lea st) (M : YM τ W R g lim lea st) (T : TlM τ g tl) (hT : TlOk g tl) (h : OD τ D) (hsd : sd = 1 ∨ sd = 2) (hk : 1 ≤ k ∧ k ≤ 390) (hv : v = 0 ∨ v = 1) (hs : s < 340) (hg : g (s / 17) = true) (h0 : D s = -9) (hw : w < 4) :
    ∃ τ', eqM τ τ' ∧ gA τ' 11 = gA τ 11 ∧ ((hit (Tw g lim lea tl) (Ew g lim lea tl sd) k D s w → f_M_hurries_54_b (iz sd) (iz k) (iz s) (iz ((s / 17 : Nat) : Int)) τ (iz v) (iz w) = some (.inl (sA τ' 11 s (iz k), iz 1, iz ((w + 1 : Nat) : Int)))) ∧ (¬ hit (Tw g lim lea tl) (Ew g lim lea tl sd) k D s w → f_M_hurries_54_b (iz sd) (iz k) (iz s) (iz ((s / 17 : Nat) : Int)) τ (iz v) (iz w) = some (.inl (sA τ' 11 s (gA τ' 11 s), iz v, iz ((w + 1 : Nat) : Int))))) := by
  have k4 : iz (w : Int) < 4 := by rw [i4, iz_lt (by omega) (by omega) (by omega) (by omega)]; omega
  have d2 : rm32 (iz (s : Int)) 17 - 8 = iz (((s % 17 : Nat) : Int) - 8) := by
    rw [i17, iz_rm (by omega) (by omega) (by decide) (by decide), i8, iz_sub]; rfl
  have hgr := m_ground_cell Y M (Y.g20 _ hg)
  rw [if_pos hg] at hgr
  have hC := m_comesBy (c := s / 17) (w := w) (l := ((s % 17 : Nat) : Int) - 8) Y M T hT (Y.g20 _ hg) hw (by omega) (by omega)
  have e9 : gA τ 11 s = -9 := by rw [h.1 s hs, h0]; rfl
  have hk1 : iz k = 1 ↔ k = 1 := by rw [i1, iz_eq (by omega) (by omega) (by omega) (by omega)]
  rcases way_cases g lim lea tl hsd Y.g20 Y.2.2.2.1 s w with ⟨c1, c2, c3⟩ | ⟨c', c1, c2, c3, hcase⟩
  · rw [c1] at hC
    dsimp only at hC
    have no : ¬ hit (Tw g lim lea tl) (Ew g lim lea tl sd) k D s w := by
      rintro (⟨-, z⟩ | ⟨-, t, z, -⟩)
      · rw [c3] at z; cases z
      · rw [c2] at z; cases z
    refine ⟨τ, eqM.rfl, rfl, fun z => absurd z no, fun _ => ?_⟩
    unfold f_M_hurries_54_b f_M_hurries_160
    rw [if_pos k4, ix_n hs (by decide), if_pos e9, hgr, bd_eq, if_neg (by decide), d2, hC, bd_eq, if_neg (by rw [i3, iz_eq (by omega) (by omega) (by omega) (by omega)]; omega), if_neg (by decide), m_h161_0 hv hs]
  · rw [c1] at hC
    dsimp only at hC
    have hvc := vd_cases lim (((s % 17 : Nat) : Int) - 8 + tl c' + lea)
    have hM : eqM τ (mCome τ c' (((s % 17 : Nat) : Int) - 8 + tl c' + lea)) := eqM_come
    refine ⟨mCome τ c' (((s % 17 : Nat) : Int) - 8 + tl c' + lea), hM, rfl, ?_⟩
    rcases hcase with ⟨q, c4, t, c5, c6, c7, c8, c9⟩ | ⟨q, c4, c5⟩
    · have hh : hit (Tw g lim lea tl) (Ew g lim lea tl sd) k D s w ↔ (2 ≤ k ∧ D t = k - 1) := by
        constructor
        · rintro (⟨-, z⟩ | ⟨z1, t', z2, z3⟩)
          · rw [c4] at z; cases z
          · rw [c5] at z2
            rw [← Option.some.inj z2] at z3
            exact ⟨z1, z3⟩
        · exact fun ⟨z1, z2⟩ => Or.inr ⟨z1, t, c5, z2⟩
      have base : f_M_hurries_54_b (iz sd) (iz k) (iz s) (iz ((s / 17 : Nat) : Int)) τ (iz v) (iz w) = (if iz k ≤ 1 then f_M_hurries_161 (mCome τ c' (((s % 17 : Nat) : Int) - 8 + tl c' + lea)) (iz v) (iz k) (iz s) (iz w) 0 else (if iz (D t) = iz k - 1 then f_M_hurries_161 (mCome τ c' (((s % 17 : Nat) : Int) - 8 + tl c' + lea)) (iz v) (iz k) (iz s) (iz w) 1 else f_M_hurries_161 (mCome τ c' (((s % 17 : Nat) : Int) - 8 + tl c' + lea)) (iz v) (iz k) (iz s) (iz w) 0)) := by
        have e11 : gA (mCome τ c' (((s % 17 : Nat) : Int) - 8 + tl c' + lea)) 11 t = iz (D t) := h.1 t c7
        unfold f_M_hurries_54_b f_M_hurries_160
        rw [if_pos k4, ix_n hs (by decide), if_pos e9, hgr, bd_eq, if_neg (by decide), d2, hC, bd_eq, q, if_neg (by rw [iz_eq (by omega) (by omega) (by omega) (by omega)]; omega), if_pos (by rw [i0]), mCome_to, mCome_lean, m_spot, bd_eq, ← c6, ix_n c7 (by decide), e11]
      rw [base]
      have hDt := h.2 t c7
      by_cases qk : k ≤ 1
      · rw [if_pos (by rw [i1, iz_le (by omega) (by omega) (by omega) (by omega)]; exact qk)]
        exact ⟨fun z => by have := (hh.mp z).1; omega, fun _ => m_h161_0 hv hs⟩
      · rw [if_neg (by rw [i1, iz_le (by omega) (by omega) (by omega) (by omega)]; exact qk), i1, iz_sub, ← i1]
        by_cases qd : D t = k - 1
        · rw [if_pos (by rw [qd])]
          exact ⟨fun _ => m_h161_1 hs, fun z => absurd (hh.mpr ⟨by omega, qd⟩) z⟩
        · rw [if_neg (by rw [iz_eq (by omega) (by omega) (by omega) (by omega)]; exact qd)]
          exact ⟨fun z => absurd (hh.mp z).2 qd, fun _ => m_h161_0 hv hs⟩
    · have hh : hit (Tw g lim lea tl) (Ew g lim lea tl sd) k D s w ↔ (k = 1 ∧ vd lim (((s % 17 : Nat) : Int) - 8 + tl c' + lea) = sd) := by
        constructor
        · rintro (⟨z1, z2⟩ | ⟨-, t', z2, -⟩)
          · exact ⟨z1, c5.mp z2⟩
          · rw [c4] at z2; cases z2
        · exact fun ⟨z1, z2⟩ => Or.inl ⟨z1, c5.mpr z2⟩
      have base : f_M_hurries_54_b (iz sd) (iz k) (iz s) (iz ((s / 17 : Nat) : Int)) τ (iz v) (iz w) = (if iz (vd lim (((s % 17 : Nat) : Int) - 8 + tl c' + lea)) = iz sd then (if iz k = 1 then f_M_hurries_161 (mCome τ c' (((s % 17 : Nat) : Int) - 8 + tl c' + lea)) (iz v) (iz k) (iz s) (iz w) 1 else f_M_hurries_161 (mCome τ c' (((s % 17 : Nat) : Int) - 8 + tl c' + lea)) (iz v) (iz k) (iz s) (iz w) 0) else f_M_hurries_161 (mCome τ c' (((s % 17 : Nat) : Int) - 8 + tl c' + lea)) (iz v) (iz k) (iz s) (iz w) 0) := by
        unfold f_M_hurries_54_b f_M_hurries_160
        rw [if_pos k4, ix_n hs (by decide), if_pos e9, hgr, bd_eq, if_neg (by decide), d2, hC, bd_eq]
        rw [if_neg (show ¬ iz (vd lim (((s % 17 : Nat) : Int) - 8 + tl c' + lea)) = 0 by rw [i0, iz_eq (by omega) (by omega) (by omega) (by omega)]; exact q)]
      rw [base]
      by_cases q1 : vd lim (((s % 17 : Nat) : Int) - 8 + tl c' + lea) = sd
      · rw [if_pos (by rw [q1])]
        by_cases q2 : k = 1
        · rw [if_pos (hk1.mpr q2)]
          exact ⟨fun _ => m_h161_1 hs, fun z => absurd (hh.mpr ⟨q2, q1⟩) z⟩
        · rw [if_neg (fun z => q2 (hk1.mp z))]
          exact ⟨fun z => absurd (hh.mp z).1 q2, fun _ => m_h161_0 hv hs⟩
      · rw [if_neg (by rw [iz_eq (by omega) (by omega) (by omega) (by omega)]; exact q1)]
        exact ⟨fun z => absurd (hh.mp z).2 q1, fun _ => m_h161_0 hv hs⟩
theorem OD.same {τ τ' : Mm} {D : Nat → Int} (h : OD τ D) (e : gA τ' 11 = gA τ 11) (s : Nat) : OD (sA τ' 11 s (gA τ' 11 s)) D := by
  refine ⟨fun j hj => ?_, h.2⟩
  rw [gA_sA, if_pos rfl]
  by_cases q : j = s
  · rw [q, pk_us, e]
    rw [← q]
    exact h.1 j hj
  · rw [pk_un q, e]
    exact h.1 j hj
/-- one spot in one round -/
theorem m_hspot {τ : Mm} {W R : Nat} {g : Nat → Bool} {lim lea st : Int} {tl : Nat → Int} {D : Nat → Int} {sd k v : Int} {s : Nat} (Y : Yok W R g lim lea st) (M : YM τ W R g lim lea st) (T : TlM τ g tl) (hT : TlOk g tl) (h : OD τ D) (hsd : sd = 1 ∨ sd = 2) (hk : 1 ≤ k ∧ k ≤ 390) (hv : v = 0 ∨ v = 1) (hs : s < 340) :
    ∃ z, f_M_hurries_54 τ (iz sd) (iz k) (iz s) (iz ((s / 17 : Nat) : Int)) (iz v) 0 = some z ∧ ∃ τ' v' D', z = Sum.inl (τ', iz v', iz ((s + 1 : Nat) : Int)) ∧ eqM τ τ' ∧ OD τ' D' ∧ ((v' = v ∧ D' = D ∧ (Vw g s → D s = -9 → ∀ w, w < 4 → ¬ hit (Tw g lim lea tl) (Ew g lim lea tl sd) k D s w)) ∨ (v' = 1 ∧ Vw g s ∧ D s = -9 ∧ D' s = k ∧ (∀ j, j ≠ s → D' j = D j) ∧ ∃ w, w < 4 ∧ hit (Tw g lim lea tl) (Ew g lim lea tl sd) k D s w)) := by
  have out : iz (s : Int) + 1 = iz ((s + 1 : Nat) : Int) := by rw [i1, iz_add]; rfl
  unfold f_M_hurries_54
  refine lp_ind (fun s => 4 - s.2.2.toNatClampNeg) (fun z => ∃ (τ' : Mm) (w : Nat) (v' : Int) (D' : Nat → Int), z = (τ', iz v', iz w) ∧ w ≤ 4 ∧ eqM τ τ' ∧ OD τ' D' ∧ ((v' = v ∧ D' = D ∧ ∀ u, u < w → Vw g s → D s = -9 → ¬ hit (Tw g lim lea tl) (Ew g lim lea tl sd) k D s u) ∨ (v' = 1 ∧ Vw g s ∧ D s = -9 ∧ D' s = k ∧ (∀ j, j ≠ s → D' j = D j) ∧ ∃ w, w < 4 ∧ hit (Tw g lim lea tl) (Ew g lim lea tl sd) k D s w))) _ (fun z hz => ?_) _ ⟨τ, 0, v, D, rfl, by omega, eqM.rfl, h, Or.inl ⟨rfl, rfl, fun u hu => absurd hu (Nat.not_lt_zero u)⟩⟩ ?_
  · obtain ⟨τ', w, v', D', rfl, hw, e, hD, hc⟩ := hz
    dsimp only
    by_cases k4 : w < 4
    · have kw : iz (w : Int) < 4 := by rw [i4, iz_lt (by omega) (by omega) (by omega) (by omega)]; omega
      have mu : ∀ (τ2 : Mm) (x : Int32), 4 - ((τ2, x, iz ((w + 1 : Nat) : Int)) : Mm × Int32 × Int32).2.2.toNatClampNeg < 4 - (iz (w : Int)).toNatClampNeg := fun τ2 x => by
        dsimp only
        rw [iz_nat (by omega) (by omega), iz_nat (by omega) (by omega)]
        omega
      rcases hc with ⟨rfl, rfl, h3⟩ | hc
      · have hDs := hD.2 s hs
        by_cases q1 : D' s = -9
        · by_cases q2 : g (s / 17) = true
          · left
            obtain ⟨τ2, a1, a2, a3, a4⟩ := m_hway (w := w) Y (M.ext e) (T.eqM e) hT hD hsd hk hv hs q2 q1 k4
            by_cases q3 : hit (Tw g lim lea tl) (Ew g lim lea tl sd) k D' s w
            · obtain ⟨D2, d1, d2⟩ : ∃ D2 : Nat → Int, D2 s = k ∧ ∀ j, j ≠ s → D2 j = D' j := ⟨fun j => if j = s then k else D' j, if_pos rfl, fun j hj => if_neg hj⟩
              refine ⟨_, a3 q3, ⟨_, w + 1, 1, D2, rfl, by omega, (e.trans a1).trans (eqM_13 (by simp)), ⟨fun j hj => ?_, fun j hj => ?_⟩, Or.inr ⟨rfl, ⟨hs, q2⟩, q1, d1, d2, w, k4, q3⟩⟩, mu ..⟩
              · rw [gA_sA, if_pos rfl]
                by_cases qj : j = s
                · rw [qj, pk_us, d1]
                · rw [pk_un qj, d2 j qj, a2]; exact hD.1 j hj
              · by_cases qj : j = s
                · rw [qj, d1]; omega
                · rw [d2 j qj]; exact hD.2 j hj
            · refine ⟨_, a4 q3, ⟨_, w + 1, v', D', rfl, by omega, (e.trans a1).trans (eqM_13 (by simp)), hD.same a2 s, Or.inl ⟨rfl, rfl, fun u hu h5 h6 => ?_⟩⟩, mu ..⟩
              by_cases qu : u = w
              · rw [qu]; exact q3
              · exact h3 u (by omega) h5 h6
          · have hgr := m_ground_cell Y (M.ext e) (i := s / 17) (by omega)
            rw [if_neg q2] at hgr
            refine Or.inr ⟨Sum.inl (τ', iz v', iz ((s + 1 : Nat) : Int)), ?_, τ', v', D', rfl, e, hD, Or.inl ⟨rfl, rfl, fun z => absurd z.2 q2⟩⟩
            unfold f_M_hurries_54_b
            rw [if_pos kw, ix_n hs (by decide), if_pos (by rw [hD.1 s hs, q1]; rfl), hgr, bd_eq, if_pos rfl, nm_eq, out]
            rfl
        · refine Or.inr ⟨Sum.inl (τ', iz v', iz ((s + 1 : Nat) : Int)), ?_, τ', v', D', rfl, e, hD, Or.inl ⟨rfl, rfl, fun _ z => absurd z q1⟩⟩
          unfold f_M_hurries_54_b
          rw [if_pos kw, ix_n hs (by decide), if_neg (by rw [hD.1 s hs, i9, iz_neg, iz_eq (by omega) (by omega) (by omega) (by omega)]; exact q1), nm_eq, out]
          rfl
      · refine Or.inr ⟨Sum.inl (τ', iz v', iz ((s + 1 : Nat) : Int)), ?_, τ', v', D', rfl, e, hD, Or.inr hc⟩
        obtain ⟨-, -, -, c4, -⟩ := hc
        unfold f_M_hurries_54_b
        rw [if_pos kw, ix_n hs (by decide), if_neg (by rw [hD.1 s hs, c4, i9, iz_neg, iz_eq (by omega) (by omega) (by omega) (by omega)]; omega), nm_eq, out]
        rfl
    · have : w = 4 := by omega
      subst this
      refine Or.inr ⟨Sum.inl (τ', iz v', iz ((s + 1 : Nat) : Int)), ?_, τ', v', D', rfl, e, hD, ?_⟩
      · unfold f_M_hurries_54_b
        rw [if_neg (by decide), nm_eq, out]
        rfl
      · rcases hc with ⟨c1, c2, c3⟩ | hc
        · exact Or.inl ⟨c1, c2, fun z1 z2 u hu => c3 u hu z1 z2⟩
        · exact Or.inr hc
  · dsimp only
    omega
