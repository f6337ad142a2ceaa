-- reading: small steps of both
theorem t_inHand {σ : Mm} {a : Nat → Nat} {t n i : Nat} {Q G : Nat → Nat} (ha : ∀ j, j < t → a j < 256) (C : CH a t n Q G) (A : TA σ a t n Q G) (hi : i ≤ n) (h5 : gI σ 3 5 = iz (i : Nat)) {v : Int} (h1 : -3 ≤ v) (h2 : v < 256) : f_Re_isInHand σ (iz v) = some (if tk a n Q G i = v then 1 else 0, σ) := by
  have hb := tk_in ha C hi
  have hn := A.2.1
  unfold f_Re_isInHand
  rw [h5, A.1, if_pos (by rw [iz_lt (by omega) (by omega) (by omega) (by omega)]; omega), ix_n (by omega) (by decide), (A.2.2 i hi).1]
  by_cases q : tk a n Q G i = v
  · rw [if_pos (by rw [q]), if_pos q]
  · rw [if_neg (by rw [iz_eq (by omega) (by omega) (by omega) (by omega)]; exact q), if_neg q]
theorem t_readNumber {σ : Mm} {a : Nat → Nat} {t n i : Nat} {Q G : Nat → Nat} (ha : ∀ j, j < t → a j < 256) (C : CH a t n Q G) (A : TA σ a t n Q G) (hi : i ≤ n) (h5 : gI σ 3 5 = iz (i : Nat)) {lo hi' : Int} (h1 : -100 ≤ lo) (h2 : lo < 100) (h3 : -100 ≤ hi') (h4 : hi' < 100) :
    ((tk a n Q G i = -2 ∧ lo ≤ nv a Q G i ∧ nv a Q G i ≤ hi') → f_Re_readNumber σ (iz lo) (iz hi') = some (iz (nv a Q G i), sI σ 3 5 (iz ((i + 1 : Nat) : Int)))) ∧ (¬ (tk a n Q G i = -2 ∧ lo ≤ nv a Q G i ∧ nv a Q G i ≤ hi') → f_Re_readNumber σ (iz lo) (iz hi') = some (-1, σ)) := by
  have hb := tk_in ha C hi
  have hn := A.2.1
  have hH := t_inHand ha C A hi h5 (v := -2) (by decide) (by decide)
  have e2 : iz (-2) = -2 := rfl
  rw [e2] at hH
  unfold f_Re_readNumber
  by_cases q : tk a n Q G i = -2
  · obtain ⟨n1, n2⟩ := hb.2.2.2 q
    have e5 := (A.2.2 i hi).2.2 q
    rw [hH, if_pos q, bd_eq, if_neg (by decide), h5, ix_n (by omega) (by decide), e5]
    by_cases q1 : nv a Q G i < lo
    · rw [if_pos (by rw [iz_lt (by omega) (by omega) (by omega) (by omega)]; exact q1)]
      exact ⟨fun z => by omega, fun _ => rfl⟩
    · rw [if_neg (by rw [iz_lt (by omega) (by omega) (by omega) (by omega)]; exact q1), ix_n (by omega) (by decide), e5]
      by_cases q2 : nv a Q G i ≤ hi'
      · rw [if_pos (by rw [iz_le (by omega) (by omega) (by omega) (by omega)]; exact q2), ix_n (by omega) (by decide), e5, nm_eq, i1, iz_add, nm_eq]
        exact ⟨fun _ => rfl, fun z => absurd ⟨q, by omega, q2⟩ z⟩
      · rw [if_neg (by rw [iz_le (by omega) (by omega) (by omega) (by omega)]; exact q2)]
        exact ⟨fun z => absurd z.2.2 q2, fun _ => rfl⟩
  · rw [hH, if_neg q, bd_eq, if_pos rfl]
    exact ⟨fun z => absurd z.1 q, fun _ => rfl⟩
theorem TA.ext {σ σ' : Mm} {a : Nat → Nat} {t n : Nat} {Q G : Nat → Nat} (A : TA σ a t n Q G) (h4 : gI σ' 3 4 = gI σ 3 4) (e4 : gA σ' 4 = gA σ 4) (e5 : gA σ' 5 = gA σ 5) (e6 : gA σ' 6 = gA σ 6) : TA σ' a t n Q G := by
  unfold TA
  rw [h4, e4, e5, e6]
  exact A
-- the reference: well (slot 8 is -1), or at fault
theorem m_well {τ : Mm} (h : gI τ 0 8 = iz (-1)) : f_M_isWell τ = some (1, τ) := by
  unfold f_M_isWell
  rw [h, if_pos (by decide)]
theorem m_ill {τ : Mm} {w : Nat} (h : gI τ 0 8 = iz (w : Nat)) (hw : w ≤ 200) : f_M_isWell τ = some (0, τ) := by
  unfold f_M_isWell
  rw [h, if_neg (by rw [i0, iz_lt (by omega) (by omega) (by omega) (by omega)]; omega)]
theorem m_takes1 {τ : Mm} {a : Nat → Nat} {t n i : Nat} {Q G : Nat → Nat} (T : TXm τ a t) (C : CH a t n Q G) (K : RK τ a t n Q G i) (hw : gI τ 0 8 = iz (-1)) (hi : i < n) : ∃ τ', f_M_takes τ 1 = some (gI τ 0 7, τ') ∧ eqA τ τ' ∧ RK τ' a t n Q G (i + 1) := by
  obtain ⟨_, b1, τ', rfl, b2, b3⟩ := m_advances (i := i + 1) T C (by omega) (K.2.2.2.2 hi)
  refine ⟨τ', ?_, b2, b3⟩
  unfold f_M_takes
  rw [m_well hw, bd_eq, if_neg (by decide), if_neg (by decide), nm_eq, b1, bd_eq]
theorem m_takes0 {τ : Mm} {a : Nat → Nat} {t n i : Nat} {Q G : Nat → Nat} (K : RK τ a t n Q G i) (hw : gI τ 0 8 = iz (-1)) : f_M_takes τ 0 = some (0, sI τ 0 8 (iz (pl t n Q i : Nat))) := by
  unfold f_M_takes
  rw [m_well hw, bd_eq, if_neg (by decide), if_pos rfl, K.2.1, nm_eq]
theorem m_takesF {τ : Mm} {w : Nat} (h : gI τ 0 8 = iz (w : Nat)) (hw : w ≤ 200) (v : Int32) : f_M_takes τ v = some (0, τ) := by
  unfold f_M_takes
  rw [m_ill h hw, bd_eq, if_pos rfl]
theorem kd_2 {v : Int} (h1 : -3 ≤ v) (h2 : v < 256) : iz (kd v) = 2 ↔ v = -2 := by
  unfold kd
  rw [i2]
  by_cases q1 : v = -1
  · rw [if_pos q1, iz_eq (by omega) (by omega) (by omega) (by omega)]; omega
  rw [if_neg q1]
  by_cases q2 : v = -2
  · rw [if_pos q2]; exact ⟨fun _ => q2, fun _ => rfl⟩
  rw [if_neg q2]
  by_cases q3 : v = -3
  · rw [if_pos q3, iz_eq (by omega) (by omega) (by omega) (by omega)]; omega
  rw [if_neg q3]
  by_cases q4 : v = 59
  · rw [if_pos q4, iz_eq (by omega) (by omega) (by omega) (by omega)]; omega
  rw [if_neg q4]
  by_cases q5 : v = 119 ∨ v = 114 ∨ v = 120 ∨ v = 98 ∨ v = 107 ∨ v = 106
  · rw [if_pos q5, iz_eq (by omega) (by omega) (by omega) (by omega)]; omega
  · rw [if_neg q5, iz_eq (by omega) (by omega) (by omega) (by omega)]; omega
theorem kd_3 {v : Int} (h1 : -3 ≤ v) (h2 : v < 256) : iz (kd v) = 3 ↔ v = 59 := by
  unfold kd
  rw [i3]
  by_cases q1 : v = -1
  · rw [if_pos q1, iz_eq (by omega) (by omega) (by omega) (by omega)]; omega
  rw [if_neg q1]
  by_cases q2 : v = -2
  · rw [if_pos q2, iz_eq (by omega) (by omega) (by omega) (by omega)]; omega
  rw [if_neg q2]
  by_cases q3 : v = -3
  · rw [if_pos q3, iz_eq (by omega) (by omega) (by omega) (by omega)]; omega
  rw [if_neg q3]
  by_cases q4 : v = 59
  · rw [if_pos q4]; exact ⟨fun _ => q4, fun _ => rfl⟩
  rw [if_neg q4]
  by_cases q5 : v = 119 ∨ v = 114 ∨ v = 120 ∨ v = 98 ∨ v = 107 ∨ v = 106
  · rw [if_pos q5, iz_eq (by omega) (by omega) (by omega) (by omega)]; omega
  · rw [if_neg q5, iz_eq (by omega) (by omega) (by omega) (by omega)]; omega
theorem kd_0 {v : Int} (h1 : -3 ≤ v) (h2 : v < 256) : iz (kd v) = 0 ↔ v = -1 := by
  unfold kd
  rw [i0]
  by_cases q1 : v = -1
  · rw [if_pos q1]; exact ⟨fun _ => q1, fun _ => rfl⟩
  rw [if_neg q1]
  by_cases q2 : v = -2
  · rw [if_pos q2, iz_eq (by omega) (by omega) (by omega) (by omega)]; omega
  rw [if_neg q2]
  by_cases q3 : v = -3
  · rw [if_pos q3, iz_eq (by omega) (by omega) (by omega) (by omega)]; omega
  rw [if_neg q3]
  by_cases q4 : v = 59
  · rw [if_pos q4, iz_eq (by omega) (by omega) (by omega) (by omega)]; omega
  rw [if_neg q4]
  by_cases q5 : v = 119 ∨ v = 114 ∨ v = 120 ∨ v = 98 ∨ v = 107 ∨ v = 106
  · rw [if_pos q5, iz_eq (by omega) (by omega) (by omega) (by omega)]; omega
  · rw [if_neg q5, iz_eq (by omega) (by omega) (by omega) (by omega)]; omega
theorem kd_1 {v : Int} (h1 : -3 ≤ v) (h2 : v < 256) : iz (kd v) = 1 ↔ (v = 119 ∨ v = 114 ∨ v = 120 ∨ v = 98 ∨ v = 107 ∨ v = 106) := by
  unfold kd
  rw [i1]
  by_cases q1 : v = -1
  · rw [if_pos q1, iz_eq (by omega) (by omega) (by omega) (by omega)]; omega
  rw [if_neg q1]
  by_cases q2 : v = -2
  · rw [if_pos q2, iz_eq (by omega) (by omega) (by omega) (by omega)]; omega
  rw [if_neg q2]
  by_cases q3 : v = -3
  · rw [if_pos q3, iz_eq (by omega) (by omega) (by omega) (by omega)]; omega
  rw [if_neg q3]
  by_cases q4 : v = 59
  · rw [if_pos q4, iz_eq (by omega) (by omega) (by omega) (by omega)]; omega
  rw [if_neg q4]
  by_cases q5 : v = 119 ∨ v = 114 ∨ v = 120 ∨ v = 98 ∨ v = 107 ∨ v = 106
  · rw [if_pos q5]; exact ⟨fun _ => q5, fun _ => rfl⟩
  · rw [if_neg q5, iz_eq (by omega) (by omega) (by omega) (by omega)]; omega
theorem m_numberF {τ : Mm} {w : Nat} (h : gI τ 0 8 = iz (w : Nat)) (hw : w ≤ 200) {lo hi v : Int} (h1 : -100 ≤ lo) (h2 : lo < 100) (h3 : -100 ≤ hi) (h4 : hi < 100) (h7 : gI τ 0 5 = 2 → gI τ 0 7 = iz v) (hv : -1000 ≤ v ∧ v ≤ 1000) : f_M_number τ (iz lo) (iz hi) = some (0, τ) := by
  unfold f_M_number f_M_number_25 f_M_number_26
  by_cases q : gI τ 0 5 = 2
  · rw [if_pos q, h7 q, m_in_iz τ (by omega) (by omega) (by omega) (by omega) (by omega) (by omega), bd_eq]
    by_cases q2 : (if lo ≤ v ∧ v ≤ hi then (1 : Int32) else 0) = 0
    · rw [if_pos q2, m_takesF h hw, bd_eq]
    · rw [if_neg q2, m_takesF h hw, bd_eq]
  · rw [if_neg q, m_takesF h hw, bd_eq]
theorem m_number {τ : Mm} {a : Nat → Nat} {t n i : Nat} {Q G : Nat → Nat} (T : TXm τ a t) (C : CH a t n Q G) (K : RK τ a t n Q G i) (hw : gI τ 0 8 = iz (-1)) (hi : i ≤ n) {lo hi' : Int} (h1 : -100 ≤ lo) (h2 : lo < 100) (h3 : -100 ≤ hi') (h4 : hi' < 100) :
    ((tk a n Q G i = -2 ∧ lo ≤ nv a Q G i ∧ nv a Q G i ≤ hi') → ∃ τ', f_M_number τ (iz lo) (iz hi') = some (iz (nv a Q G i), τ') ∧ eqA τ τ' ∧ RK τ' a t n Q G (i + 1)) ∧ (¬ (tk a n Q G i = -2 ∧ lo ≤ nv a Q G i ∧ nv a Q G i ≤ hi') → f_M_number τ (iz lo) (iz hi') = some (0, sI τ 0 8 (iz (pl t n Q i : Nat)))) := by
  have hb := tk_in (fun j hj => (T.2.2 j hj).1) C hi
  have hk := kd_2 hb.1 hb.2.1
  unfold f_M_number f_M_number_25 f_M_number_26
  rw [K.1]
  by_cases q : tk a n Q G i = -2
  · obtain ⟨n1, n2⟩ := hb.2.2.2 q
    have hin : i < n := by
      by_cases z : i = n
      · have := hb.2.2.1.mpr z; omega
      · omega
    rw [if_pos (hk.mpr q), K.2.2.1 q, m_in_iz τ (by omega) (by omega) (by omega) (by omega) (by omega) (by omega), bd_eq]
    by_cases q1 : lo ≤ nv a Q G i ∧ nv a Q G i ≤ hi'
    · rw [if_pos q1, if_neg (by decide)]
      obtain ⟨τ', b1, b2, b3⟩ := m_takes1 T C K hw hin
      rw [b1, bd_eq, K.2.2.1 q]
      exact ⟨fun _ => ⟨τ', rfl, b2, b3⟩, fun z => absurd ⟨q, q1⟩ z⟩
    · rw [if_neg q1, if_pos rfl, m_takes0 K hw, bd_eq]
      exact ⟨fun z => absurd z.2 q1, fun _ => rfl⟩
  · rw [if_neg (fun z => q (hk.mp z)), m_takes0 K hw, bd_eq]
    exact ⟨fun z => absurd z.1 q, fun _ => rfl⟩
