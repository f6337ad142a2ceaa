-- the call odds
theorem m_in_iz (τ : Mm) {a lo hi : Int} (h1 : -2147483648 ≤ a) (h2 : a < 2147483648) (h3 : -1000 ≤ lo) (h4 : lo ≤ 1000) (h5 : -1000 ≤ hi) (h6 : hi ≤ 1000) : f_M_in τ (iz a) (iz lo) (iz hi) = some (if lo ≤ a ∧ a ≤ hi then 1 else 0, τ) := by
  unfold f_M_in
  by_cases q1 : a < lo
  · rw [if_pos (by rw [iz_lt (by omega) (by omega) (by omega) (by omega)]; exact q1), if_neg (by omega)]
  · rw [if_neg (by rw [iz_lt (by omega) (by omega) (by omega) (by omega)]; exact q1)]
    by_cases q2 : a ≤ hi
    · rw [if_pos (by rw [iz_le (by omega) (by omega) (by omega) (by omega)]; exact q2), if_pos (by omega)]
    · rw [if_neg (by rw [iz_le (by omega) (by omega) (by omega) (by omega)]; exact q2), if_neg (by omega)]
theorem m_in12 (τ : Mm) {a : Int} (h1 : -2147483648 ≤ a) (h2 : a < 2147483648) : f_M_in τ (iz a) 1 2 = some (if 1 ≤ a ∧ a ≤ 2 then 1 else 0, τ) := m_in_iz τ (lo := 1) (hi := 2) h1 h2 (by decide) (by decide) (by decide) (by decide)
theorem m_in04 (τ : Mm) {a : Int} (h1 : -2147483648 ≤ a) (h2 : a < 2147483648) : f_M_in τ (iz a) 0 4 = some (if 0 ≤ a ∧ a ≤ 4 then 1 else 0, τ) := m_in_iz τ (lo := 0) (hi := 4) h1 h2 (by decide) (by decide) (by decide) (by decide)
theorem m_in01 (τ : Mm) {a : Int} (h1 : -2147483648 ≤ a) (h2 : a < 2147483648) : f_M_in τ (iz a) 0 1 = some (if 0 ≤ a ∧ a ≤ 1 then 1 else 0, τ) := m_in_iz τ (lo := 0) (hi := 1) h1 h2 (by decide) (by decide) (by decide) (by decide)
theorem t_isNoSide (σ : Mm) {a : Int} (h1 : -2147483648 ≤ a) (h2 : a < 2147483648) : f_T_isNoSide σ (iz a) = some (if 1 ≤ a ∧ a ≤ 2 then 0 else 1, σ) := by
  unfold f_T_isNoSide
  by_cases q1 : a < 1
  · rw [if_pos (by rw [i1, iz_lt (by omega) (by omega) (by omega) (by omega)]; exact q1), if_neg (by omega)]
  · rw [if_neg (by rw [i1, iz_lt (by omega) (by omega) (by omega) (by omega)]; exact q1)]
    by_cases q2 : a ≤ 2
    · rw [if_pos (by rw [i2, iz_le (by omega) (by omega) (by omega) (by omega)]; exact q2), if_pos (by omega)]
    · rw [if_neg (by rw [i2, iz_le (by omega) (by omega) (by omega) (by omega)]; exact q2), if_neg (by omega)]
theorem t_odds_in {σ : Mm} {a b d : Int} (a1 : -2147483648 ≤ a) (a2 : a < 2147483648) (b1 : -2147483648 ≤ b) (b2 : b < 2147483648) (d1 : -2147483648 ≤ d) (d2 : d < 2147483648) : f_T_odds σ (iz a) (iz b) (iz d) = if (1 ≤ a ∧ a ≤ 2) ∧ (0 ≤ b ∧ b ≤ 4) ∧ (0 ≤ d ∧ d ≤ 1) then (bd (f_T_hasNoStart σ) fun r_2 σ2 => (if r_2 = 0 then (bd (f_Ch_reckon σ2 11 (gI σ2 36 3) (gI σ2 36 4) (iz a) (iz b)) fun r_3 σ3 => (if iz d = 0 then some ((gI σ3 33 2), σ3) else some ((gI σ3 33 3), σ3))) else some (((-2) : Int32), σ2))) else some (((-1) : Int32), σ) := by
  unfold f_T_odds
  rw [t_isNoSide σ a1 a2, bd_eq]
  by_cases qa : 1 ≤ a ∧ a ≤ 2
  · rw [if_pos qa, if_pos rfl]
    by_cases q1 : b < 0
    · rw [if_pos (by rw [i0, iz_lt (by omega) (by omega) (by omega) (by omega)]; exact q1), if_neg (by omega)]
    · rw [if_neg (by rw [i0, iz_lt (by omega) (by omega) (by omega) (by omega)]; exact q1)]
      by_cases q2 : b ≤ 4
      · rw [if_pos (by rw [i4, iz_le (by omega) (by omega) (by omega) (by omega)]; exact q2)]
        by_cases q3 : d < 0
        · rw [if_pos (by rw [i0, iz_lt (by omega) (by omega) (by omega) (by omega)]; exact q3), if_neg (by omega)]
        · rw [if_neg (by rw [i0, iz_lt (by omega) (by omega) (by omega) (by omega)]; exact q3)]
          by_cases q4 : d ≤ 1
          · rw [if_pos (by rw [i1, iz_le (by omega) (by omega) (by omega) (by omega)]; exact q4), if_pos (by omega)]
          · rw [if_neg (by rw [i1, iz_le (by omega) (by omega) (by omega) (by omega)]; exact q4), if_neg (by omega)]
      · rw [if_neg (by rw [i4, iz_le (by omega) (by omega) (by omega) (by omega)]; exact q2), if_neg (by omega)]
  · rw [if_neg qa, if_neg (by decide), if_neg (fun z => qa z.1)]
theorem m_odds_in {τ : Mm} {a b d : Int} (a1 : -2147483648 ≤ a) (a2 : a < 2147483648) (b1 : -2147483648 ≤ b) (b2 : b < 2147483648) (d1 : -2147483648 ≤ d) (d2 : d < 2147483648) : f_M_odds τ (iz a) (iz b) (iz d) = if (1 ≤ a ∧ a ≤ 2) ∧ (0 ≤ b ∧ b ≤ 4) ∧ (0 ≤ d ∧ d ≤ 1) then (bd (f_M_hasStart (sI τ 0 0 0)) fun r_4 σ5 => (if r_4 = 0 then some (((-2) : Int32), σ5) else f_M_odds_53 σ5 (iz a) (iz b) (iz d) 0 1 0)) else some (((-1) : Int32), sI τ 0 0 0) := by
  unfold f_M_odds
  rw [nm_eq, m_in12 _ a1 a2, bd_eq]
  by_cases qa : 1 ≤ a ∧ a ≤ 2
  · rw [if_pos qa, if_neg (by decide), m_in04 _ b1 b2, bd_eq]
    by_cases qb : 0 ≤ b ∧ b ≤ 4
    · rw [if_pos qb, if_neg (by decide), m_in01 _ d1 d2, bd_eq]
      by_cases qd : 0 ≤ d ∧ d ≤ 1
      · rw [if_pos qd, if_neg (by decide), if_pos ⟨qa, qb, qd⟩]
      · rw [if_neg qd, if_pos rfl, if_neg (fun z => qd z.2.2)]
    · rw [if_neg qb, if_pos rfl, if_neg (fun z => qb z.2.1)]
  · rw [if_neg qa, if_pos rfl, if_neg (fun z => qa z.1)]
theorem b_odds {n : Nat} {σ τ : Mm} (h : Rel n σ τ) (u v w : Int32) : Both n (f_T_odds σ u v w) (f_M_odds τ u v w) := by
  obtain ⟨a, a1, a2, rfl⟩ := iz_of u
  obtain ⟨b, b1, b2, rfl⟩ := iz_of v
  obtain ⟨e, d1, d2, rfl⟩ := iz_of w
  have hT := t_odds_in (σ := σ) a1 a2 b1 b2 d1 d2
  have hM := m_odds_in (τ := τ) a1 a2 b1 b2 d1 d2
  by_cases qq : (1 ≤ a ∧ a ≤ 2) ∧ (0 ≤ b ∧ b ≤ 4) ∧ (0 ≤ e ∧ e ≤ 1)
  · rw [if_pos qq] at hT hM
    obtain ⟨qa, qb, qd⟩ := qq
    obtain ⟨W, R, g, lim, lea, st, m, H⟩ := h
    obtain ⟨y1, y2, y3, y4, y5, y6, y7, y8⟩ := H.1
    have hst := H.1.st
    have hS := t_hasNoStart H.2.2.1 (by omega) (by omega)
    have hS2 := m_hasStart H.go'.1 H.go'.2.1
    by_cases q : st = -9
    · rw [if_pos q] at hS hS2
      refine Both.of (r := iz (-2)) ?_ ?_ (Rel.n1 ⟨W, R, g, lim, lea, st, m, H⟩)
      · rw [hT, hS, bd_eq, if_neg (by decide)]
        rfl
      · rw [hM, i0, hS2, bd_eq, if_pos (by decide)]
        rfl
    · rw [if_neg q] at hS hS2
      obtain ⟨g0, g1, g2, -⟩ := H.2.2.2.1
      obtain ⟨c, hc, hgc⟩ := g0.2 q
      have H0 := H.go'
      have f0 : gA (sI τ 0 0 (iz 0)) 4 0 = iz c := by rw [← hc]; exact H0.2.2.2.2.1.1 0 (by decide)
      have f1 : gA (sI τ 0 0 (iz 0)) 4 1 = iz (m 1) := H0.2.2.2.2.1.1 1 (by decide)
      have k0 : gI σ 36 3 = iz c := by rw [← hc]; exact H.2.2.2.2.2.1.1
      have k1 : gI σ 36 4 = iz (m 1) := H.2.2.2.2.2.1.2.1
      obtain ⟨n', hn'⟩ : ∃ n' : Nat, b = (n' : Int) := ⟨b.toNat, by omega⟩
      have hn4 : n' ≤ 4 := by omega
      rw [hn'] at hT hM ⊢
      have hsd : a = 1 ∨ a = 2 := by omega
      have hs : (17 * (c : Int) + m 1 + 8).toNat < 340 := by have := H.1.g20 c hgc; omega
      have hgs : g ((17 * (c : Int) + m 1 + 8).toNat / 17) = true := by rw [show (17 * (c : Int) + m 1 + 8).toNat / 17 = c by omega]; exact hgc
      obtain ⟨r1, r2, r3, r4⟩ := rN_in (lea := lea) (tl := fun c => m (7 + c)) (sd := a) y4 hs hgs hn4
      obtain ⟨p1, p2⟩ := p12_in hn4
      have h15 : p12 n' < (2 : Int) ^ 15 := by
        rw [show (2 : Int) ^ 15 = 32768 from rfl]
        omega
      obtain ⟨N, n1, n2, n3⟩ := est_end 15 (rN g lim lea (fun c => m (7 + c)) a (17 * (c : Int) + m 1 + 8).toNat n').2 (p12 n') r3 (by omega) h15
      obtain ⟨σ', s1, s2, s3, s4⟩ := t_reckon (n := n') H.YG H.TlOk H.1.g20 y3 y4 ⟨y5, y6⟩ hgc (by omega) (by omega) hn4 H.2.2.2.2.2.2.2.2.2.2.2.2.2 hsd (show N ≤ 60 by omega) n2 n3
      have hd : e = 0 ∨ e = 1 := by omega
      obtain ⟨_, t1, τ', rfl, t2⟩ := m_odds53 (n := n') (v := e) hd H0.1 H0.2.1 H0.TlM H0.TlOk f0 f1 hgc (by omega) (by omega) hn4 hsd (show N ≤ 60 by omega) n2 n3
      have fin : Rel (n + 1) σ' τ' := Rel.n1' ⟨W, R, g, lim, lea, st, m, H.ext (Nat.le_refl _) s2 (eqM_0.trans t2)⟩
      rw [hS, bd_eq, if_pos rfl, k0, k1, s1, bd_eq, s3, s4] at hT
      rw [← i0] at t1
      rw [i0, hS2, bd_eq, if_neg (by decide), ← i0, t1] at hM
      rcases hd with rfl | rfl
      · rw [if_pos (by rw [i0])] at hT
        rw [if_pos rfl] at hM
        exact Both.of hT hM fin
      · rw [if_neg (by decide)] at hT hM
        exact Both.of hT hM fin
  · rw [if_neg qq] at hT hM
    exact Both.of hT hM h.n1
