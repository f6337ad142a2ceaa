-- calls that push
theorem t_nextN {W R : Nat} {g : Nat → Bool} {lim lea st : Int} {m : Nat → Int} {n : Nat} {σ τ : Mm} (H : RelY W R g lim lea st m n σ τ) (hs : st = -9) (v : Int32) : f_T_nextCell σ v = some (-1, σ) := by
  have hS := t_hasNoStart H.2.2.1 (by omega) (by omega)
  rw [if_pos hs] at hS
  unfold f_T_nextCell
  rw [hS, bd_eq, if_neg (by decide)]
theorem t_next {W R : Nat} {g : Nat → Bool} {lim lea st : Int} {m : Nat → Int} {n : Nat} {σ τ : Mm} (H : RelY W R g lim lea st m n σ τ) (hn : n < 512) (hs : st ≠ -9) {c w : Nat} (hc : m 0 = c) (hg : g c = true) (hw : w < 4) : f_T_nextCell σ (iz w) = some ((match nx g c w with | some c' => iz c' | none => -1), σ) := by
  have hst := H.1.st
  have hS := t_hasNoStart H.2.2.1 (by omega) (by omega)
  rw [if_neg hs] at hS
  have hc20 := H.1.g20 c hg
  have hG := t_beyond H.YG hc20 hw
  rw [if_pos hg] at hG
  obtain ⟨h1, h2, h3, h4, h5, h6, h7⟩ := H
  obtain ⟨c0, c1, c2, c3, c4, c5, c6, hTl⟩ := h6
  obtain ⟨g0, g1, g2, g3, g4, g5, g6, g7⟩ := h4
  rw [hc] at c0
  unfold f_T_nextCell
  rw [hS, bd_eq, if_pos rfl, i0, i1, ix_iz (by decide) (by decide) (by decide), tn0, show gA σ 38 0 = iz (m 3) from c3, i999, if_pos ((iz_lt (by omega) (by omega) (by omega) (by omega)).mpr (by omega)), ix_iz (by decide) (by decide) (by decide), tn1, show gA σ 38 1 = iz (m 4) from c4, if_pos ((iz_lt (by omega) (by omega) (by omega) (by omega)).mpr (by omega)), c0, hG, bd_eq, ← i1]
  cases nx g c w <;> rfl
theorem b_would {n : Nat} {σ τ : Mm} (h : Rel n σ τ) (hn : n < 512) (v : Int32) : Both n (f_T_would σ v) (f_M_would τ v) := by
  obtain ⟨z, z1, z2, rfl⟩ := iz_of v
  have h' := h
  obtain ⟨W, R, g, lim, lea, st, m, H⟩ := h'
  have H' := H
  obtain ⟨h1, h2, h3, h4, h5, h6, h7, h8, h9, h10, h11, h12, h13, h14⟩ := H'
  have hst := h1.st
  have h3' := h3
  have h6' := h6
  have h4' := h4
  obtain ⟨p, d, e1, e2, e3, e4, e5, e6, e7, e8⟩ := h3'
  obtain ⟨c0, c1, c2, c3, c4, c5, c6, hTl⟩ := h6'
  obtain ⟨g0, g1, g2, g3, g4, g5, g6, g7⟩ := h4'
  have b0 := h5.1 0 (by decide)
  have b1 := h5.1 1 (by decide)
  have b2 := h5.1 2 (by decide)
  have b3 := h5.1 3 (by decide)
  have b4 := h5.1 4 (by decide)
  have b5 := h5.1 5 (by decide)
  have b6 := h5.1 6 (by decide)
  have epl : ∀ K : Nat → Option (Int32 × Mm), rk (gR σ 0 2) okPl K = K p := fun K => by rw [e1]; rcases e3 with ⟨rfl, _⟩ | ⟨rfl, _⟩ <;> rfl
  obtain ⟨y1, y2, y3, y4, y5, y6, y7, y8⟩ := h1
  obtain ⟨m1, m2, m3, m4, m5, m6⟩ := h2
  have h1 : Yok W R g lim lea st := H.1
  have h2 : YM τ W R g lim lea st := H.2.1
  have hS2 := m_hasStart H.go'.1 H.go'.2.1
  by_cases k1 : z < 0
  · exact Both.of (r := iz (-1)) (by simp (disch := omega) only [f_T_would, f_T_isNoWay, if_true, if_false, and_true, true_and, and_false, false_and, and_self, nm_eq, bd_eq, i0, i1, i2, i3, i4, i5, i6, i7, i8, i9, i10, i11, i12, i17, i20, i21, i26, i27, i32, i34, i48, i54, i57, i59, i64, i98, i99, i100, i106, i107, i114, i119, i120, i121, i141, i243, i255, i270, i340, i680, i999, i1000000, iz_add, iz_sub, iz_mul, iz_neg, iz_lt, iz_le, iz_eq, if_pos, if_neg, ix_iz, Int.toNat_natCast, tn0, tn1, tn2, tn3, tn4, tn5, tn6, tn7, tn8, tn9, tn10, tn11, tn12, tn13, tn14, tn15, tn16, tn17, tn18, tn19, tn20, tn21, tn22, tn23, tn24, tn25, tn26, tn27, gI_sI, gI_sA, gI_sAs, gI_sR, gI_sJ, gA_sI, gA_sA, gA_sAs, gA_sR, gA_sJ, gR_sI, gR_sA, gR_sAs, gR_sR, gR_sJ, gJ_sI, gJ_sA, gJ_sAs, gJ_sR, gJ_sJ]) (by simp (disch := omega) only [f_M_would, f_M_in, if_true, if_false, and_true, true_and, and_false, false_and, and_self, nm_eq, bd_eq, i0, i1, i2, i3, i4, i5, i6, i7, i8, i9, i10, i11, i12, i17, i20, i21, i26, i27, i32, i34, i48, i54, i57, i59, i64, i98, i99, i100, i106, i107, i114, i119, i120, i121, i141, i243, i255, i270, i340, i680, i999, i1000000, iz_add, iz_sub, iz_mul, iz_neg, iz_lt, iz_le, iz_eq, if_pos, if_neg, ix_iz, Int.toNat_natCast, tn0, tn1, tn2, tn3, tn4, tn5, tn6, tn7, tn8, tn9, tn10, tn11, tn12, tn13, tn14, tn15, tn16, tn17, tn18, tn19, tn20, tn21, tn22, tn23, tn24, tn25, tn26, tn27, gI_sI, gI_sA, gI_sAs, gI_sR, gI_sJ, gA_sI, gA_sA, gA_sAs, gA_sR, gA_sJ, gR_sI, gR_sA, gR_sAs, gR_sR, gR_sJ, gJ_sI, gJ_sA, gJ_sAs, gJ_sR, gJ_sJ]) h.n1
  by_cases k2 : z < 4
  · obtain ⟨w, rfl⟩ : ∃ w : Nat, z = w := ⟨z.toNat, by omega⟩
    have hw : w < 4 := by omega
    by_cases q : st = -9
    · have hN := t_nextN H q (iz w)
      rw [i1, iz_neg] at hN
      rw [if_pos q] at hS2
      exact Both.of (r := iz (-2)) (by simp (disch := omega) only [f_T_would, f_T_isNoWay, hN, if_true, if_false, and_true, true_and, and_false, false_and, and_self, nm_eq, bd_eq, i0, i1, i2, i3, i4, i5, i6, i7, i8, i9, i10, i11, i12, i17, i20, i21, i26, i27, i32, i34, i48, i54, i57, i59, i64, i98, i99, i100, i106, i107, i114, i119, i120, i121, i141, i243, i255, i270, i340, i680, i999, i1000000, iz_add, iz_sub, iz_mul, iz_neg, iz_lt, iz_le, iz_eq, if_pos, if_neg, ix_iz, Int.toNat_natCast, tn0, tn1, tn2, tn3, tn4, tn5, tn6, tn7, tn8, tn9, tn10, tn11, tn12, tn13, tn14, tn15, tn16, tn17, tn18, tn19, tn20, tn21, tn22, tn23, tn24, tn25, tn26, tn27, gI_sI, gI_sA, gI_sAs, gI_sR, gI_sJ, gA_sI, gA_sA, gA_sAs, gA_sR, gA_sJ, gR_sI, gR_sA, gR_sAs, gR_sR, gR_sJ, gJ_sI, gJ_sA, gJ_sAs, gJ_sR, gJ_sJ]) (by simp (disch := omega) only [f_M_would, f_M_would_44, f_M_in, hS2, if_true, if_false, and_true, true_and, and_false, false_and, and_self, nm_eq, bd_eq, i0, i1, i2, i3, i4, i5, i6, i7, i8, i9, i10, i11, i12, i17, i20, i21, i26, i27, i32, i34, i48, i54, i57, i59, i64, i98, i99, i100, i106, i107, i114, i119, i120, i121, i141, i243, i255, i270, i340, i680, i999, i1000000, iz_add, iz_sub, iz_mul, iz_neg, iz_lt, iz_le, iz_eq, if_pos, if_neg, ix_iz, Int.toNat_natCast, tn0, tn1, tn2, tn3, tn4, tn5, tn6, tn7, tn8, tn9, tn10, tn11, tn12, tn13, tn14, tn15, tn16, tn17, tn18, tn19, tn20, tn21, tn22, tn23, tn24, tn25, tn26, tn27, gI_sI, gI_sA, gI_sAs, gI_sR, gI_sJ, gA_sI, gA_sA, gA_sAs, gA_sR, gA_sJ, gR_sI, gR_sA, gR_sAs, gR_sR, gR_sJ, gJ_sI, gJ_sA, gJ_sAs, gJ_sR, gJ_sJ]) h.n1
    · rw [if_neg q] at hS2
      obtain ⟨c, hc, hgc⟩ := g0.2 q
      have hN := t_next H hn q hc hgc hw
      have hc20 := h1.g20 c hgc
      have hM := m_comesBy (c := c) (w := w) (l := m 1) H.go'.1 H.go'.2.1 H.go'.TlM H.go'.TlOk hc20 hw (by omega) (by omega)
      rw [hc] at b0
      rcases hx : nx g c w with _ | c'
      · rw [hx] at hN hM
        dsimp only at hN hM
        rw [i1, iz_neg] at hN
        rw [i3] at hM
        exact Both.of (r := iz (-2)) (by simp (disch := omega) only [f_T_would, f_T_isNoWay, hN, if_true, if_false, and_true, true_and, and_false, false_and, and_self, nm_eq, bd_eq, i0, i1, i2, i3, i4, i5, i6, i7, i8, i9, i10, i11, i12, i17, i20, i21, i26, i27, i32, i34, i48, i54, i57, i59, i64, i98, i99, i100, i106, i107, i114, i119, i120, i121, i141, i243, i255, i270, i340, i680, i999, i1000000, iz_add, iz_sub, iz_mul, iz_neg, iz_lt, iz_le, iz_eq, if_pos, if_neg, ix_iz, Int.toNat_natCast, tn0, tn1, tn2, tn3, tn4, tn5, tn6, tn7, tn8, tn9, tn10, tn11, tn12, tn13, tn14, tn15, tn16, tn17, tn18, tn19, tn20, tn21, tn22, tn23, tn24, tn25, tn26, tn27, gI_sI, gI_sA, gI_sAs, gI_sR, gI_sJ, gA_sI, gA_sA, gA_sAs, gA_sR, gA_sJ, gR_sI, gR_sA, gR_sAs, gR_sR, gR_sJ, gJ_sI, gJ_sA, gJ_sAs, gJ_sR, gJ_sJ]) (by simp (disch := omega) only [f_M_would, f_M_would_44, f_M_in, hS2, b0, b1, hM, if_true, if_false, and_true, true_and, and_false, false_and, and_self, nm_eq, bd_eq, i0, i1, i2, i3, i4, i5, i6, i7, i8, i9, i10, i11, i12, i17, i20, i21, i26, i27, i32, i34, i48, i54, i57, i59, i64, i98, i99, i100, i106, i107, i114, i119, i120, i121, i141, i243, i255, i270, i340, i680, i999, i1000000, iz_add, iz_sub, iz_mul, iz_neg, iz_lt, iz_le, iz_eq, if_pos, if_neg, ix_iz, Int.toNat_natCast, tn0, tn1, tn2, tn3, tn4, tn5, tn6, tn7, tn8, tn9, tn10, tn11, tn12, tn13, tn14, tn15, tn16, tn17, tn18, tn19, tn20, tn21, tn22, tn23, tn24, tn25, tn26, tn27, gI_sI, gI_sA, gI_sAs, gI_sR, gI_sJ, gA_sI, gA_sA, gA_sAs, gA_sR, gA_sJ, gR_sI, gR_sA, gR_sAs, gR_sR, gR_sJ, gJ_sI, gJ_sA, gJ_sAs, gJ_sR, gJ_sJ]) h.n1
      · rw [hx] at hN hM
        dsimp only at hN hM
        obtain ⟨xg, -⟩ := nx_ok hx
        have xc := h1.g20 c' xg
        have xt := g7 c' xg
        try dsimp only at xt
        have hL := t_leanOn (l := m 1) H.YG H.TlOk xc xg
        try dsimp only at hL
        rw [show m 1 + (m (7 + c') + lea) = m 1 + m (7 + c') + lea by omega] at hL
        have hV := t_verdict (l := m 1 + m (7 + c') + lea) H.YG y3 y4 (by omega) (by omega)
        have hv := vd_cases lim (m 1 + m (7 + c') + lea)
        exact Both.of (r := iz (vd lim (m 1 + m (7 + c') + lea))) (σ' := σ) (τ' := mCome (sI τ 0 0 (iz 0)) c' (m 1 + m (7 + c') + lea)) (by simp (disch := omega) only [f_T_would, f_T_isNoWay, hN, c1, hL, hV, if_true, if_false, and_true, true_and, and_false, false_and, and_self, nm_eq, bd_eq, i0, i1, i2, i3, i4, i5, i6, i7, i8, i9, i10, i11, i12, i17, i20, i21, i26, i27, i32, i34, i48, i54, i57, i59, i64, i98, i99, i100, i106, i107, i114, i119, i120, i121, i141, i243, i255, i270, i340, i680, i999, i1000000, iz_add, iz_sub, iz_mul, iz_neg, iz_lt, iz_le, iz_eq, if_pos, if_neg, ix_iz, Int.toNat_natCast, tn0, tn1, tn2, tn3, tn4, tn5, tn6, tn7, tn8, tn9, tn10, tn11, tn12, tn13, tn14, tn15, tn16, tn17, tn18, tn19, tn20, tn21, tn22, tn23, tn24, tn25, tn26, tn27, gI_sI, gI_sA, gI_sAs, gI_sR, gI_sJ, gA_sI, gA_sA, gA_sAs, gA_sR, gA_sJ, gR_sI, gR_sA, gR_sAs, gR_sR, gR_sJ, gJ_sI, gJ_sA, gJ_sAs, gJ_sR, gJ_sJ]) (by simp (disch := omega) only [f_M_would, f_M_would_44, f_M_in, hS2, b0, b1, hM, if_true, if_false, and_true, true_and, and_false, false_and, and_self, nm_eq, bd_eq, i0, i1, i2, i3, i4, i5, i6, i7, i8, i9, i10, i11, i12, i17, i20, i21, i26, i27, i32, i34, i48, i54, i57, i59, i64, i98, i99, i100, i106, i107, i114, i119, i120, i121, i141, i243, i255, i270, i340, i680, i999, i1000000, iz_add, iz_sub, iz_mul, iz_neg, iz_lt, iz_le, iz_eq, if_pos, if_neg, ix_iz, Int.toNat_natCast, tn0, tn1, tn2, tn3, tn4, tn5, tn6, tn7, tn8, tn9, tn10, tn11, tn12, tn13, tn14, tn15, tn16, tn17, tn18, tn19, tn20, tn21, tn22, tn23, tn24, tn25, tn26, tn27, gI_sI, gI_sA, gI_sAs, gI_sR, gI_sJ, gA_sI, gA_sA, gA_sAs, gA_sR, gA_sJ, gR_sI, gR_sA, gR_sAs, gR_sR, gR_sJ, gJ_sI, gJ_sA, gJ_sAs, gJ_sR, gJ_sJ]) (h.ext (Nat.le_succ _) eqT.rfl (eqM_0.trans eqM_come))
  · exact Both.of (r := iz (-1)) (by simp (disch := omega) only [f_T_would, f_T_isNoWay, if_true, if_false, and_true, true_and, and_false, false_and, and_self, nm_eq, bd_eq, i0, i1, i2, i3, i4, i5, i6, i7, i8, i9, i10, i11, i12, i17, i20, i21, i26, i27, i32, i34, i48, i54, i57, i59, i64, i98, i99, i100, i106, i107, i114, i119, i120, i121, i141, i243, i255, i270, i340, i680, i999, i1000000, iz_add, iz_sub, iz_mul, iz_neg, iz_lt, iz_le, iz_eq, if_pos, if_neg, ix_iz, Int.toNat_natCast, tn0, tn1, tn2, tn3, tn4, tn5, tn6, tn7, tn8, tn9, tn10, tn11, tn12, tn13, tn14, tn15, tn16, tn17, tn18, tn19, tn20, tn21, tn22, tn23, tn24, tn25, tn26, tn27, gI_sI, gI_sA, gI_sAs, gI_sR, gI_sJ, gA_sI, gA_sA, gA_sAs, gA_sR, gA_sJ, gR_sI, gR_sA, gR_sAs, gR_sR, gR_sJ, gJ_sI, gJ_sA, gJ_sAs, gJ_sR, gJ_sJ]) (by simp (disch := omega) only [f_M_would, f_M_in, if_true, if_false, and_true, true_and, and_false, false_and, and_self, nm_eq, bd_eq, i0, i1, i2, i3, i4, i5, i6, i7, i8, i9, i10, i11, i12, i17, i20, i21, i26, i27, i32, i34, i48, i54, i57, i59, i64, i98, i99, i100, i106, i107, i114, i119, i120, i121, i141, i243, i255, i270, i340, i680, i999, i1000000, iz_add, iz_sub, iz_mul, iz_neg, iz_lt, iz_le, iz_eq, if_pos, if_neg, ix_iz, Int.toNat_natCast, tn0, tn1, tn2, tn3, tn4, tn5, tn6, tn7, tn8, tn9, tn10, tn11, tn12, tn13, tn14, tn15, tn16, tn17, tn18, tn19, tn20, tn21, tn22, tn23, tn24, tn25, tn26, tn27, gI_sI, gI_sA, gI_sAs, gI_sR, gI_sJ, gA_sI, gA_sA, gA_sAs, gA_sR, gA_sJ, gR_sI, gR_sA, gR_sAs, gR_sR, gR_sJ, gJ_sI, gJ_sA, gJ_sAs, gJ_sR, gJ_sJ]) h.n1
theorem b_evens {n : Nat} {σ τ : Mm} (h : Rel n σ τ) (u v w : Int32) : Both n (f_T_evens σ u v w) (f_M_evens τ u v w) := by
  obtain ⟨x, x1, x2, rfl⟩ := iz_of u
  obtain ⟨y, z1, z2, rfl⟩ := iz_of v
  obtain ⟨e, k1, k2, rfl⟩ := iz_of w
  have h' := h
  obtain ⟨W, R, g, lim, lea, st, m, H⟩ := h'
  have H' := H
  obtain ⟨h1, h2, h3, h4, h5, h6, h7, h8, h9, h10, h11, h12, h13, h14⟩ := H'
  have hst := h1.st
  have h3' := h3
  have h6' := h6
  have h4' := h4
  obtain ⟨p, d, e1, e2, e3, e4, e5, e6, e7, e8⟩ := h3'
  obtain ⟨c0, c1, c2, c3, c4, c5, c6, hTl⟩ := h6'
  obtain ⟨g0, g1, g2, g3, g4, g5, g6, g7⟩ := h4'
  have b0 := h5.1 0 (by decide)
  have b1 := h5.1 1 (by decide)
  have b2 := h5.1 2 (by decide)
  have b3 := h5.1 3 (by decide)
  have b4 := h5.1 4 (by decide)
  have b5 := h5.1 5 (by decide)
  have b6 := h5.1 6 (by decide)
  have epl : ∀ K : Nat → Option (Int32 × Mm), rk (gR σ 0 2) okPl K = K p := fun K => by rw [e1]; rcases e3 with ⟨rfl, _⟩ | ⟨rfl, _⟩ <;> rfl
  obtain ⟨y1, y2, y3, y4, y5, y6, y7, y8⟩ := h1
  obtain ⟨m1, m2, m3, m4, m5, m6⟩ := h2
  have h1 : Yok W R g lim lea st := H.1
  have h2 : YM τ W R g lim lea st := H.2.1
  have hG := m_isGround H.go'.1 H.go'.2.1 x1 x2 z1 z2
  by_cases q : gx g x y = true
  · obtain ⟨c, a1, a2, a3, a4, a5, a6, a7, a8, a9⟩ := t_at hTl H.TlOk q
    rw [if_pos q] at hG
    have t4 := g7 c a2
    dsimp only at t4
    have e37 : gA σ 37 c = iz (m (7 + c)) := by rw [hTl c a1, if_pos a2]
    have f4 : gA τ 4 (7 + c) = iz (m (7 + c)) := h5.2 c a2
    have e9 : (7 : Int) + 5 * y + x = ((7 + c : Nat) : Int) := by omega
    by_cases q1 : e < -4
    · exact Both.of (r := iz (-1000000)) (by simp (disch := omega) only [f_T_evens, f_T_evens_30, a8, a9, if_true, if_false, and_true, true_and, and_false, false_and, and_self, nm_eq, bd_eq, i0, i1, i2, i3, i4, i5, i6, i7, i8, i9, i10, i11, i12, i17, i20, i21, i26, i27, i32, i34, i48, i54, i57, i59, i64, i98, i99, i100, i106, i107, i114, i119, i120, i121, i141, i243, i255, i270, i340, i680, i999, i1000000, iz_add, iz_sub, iz_mul, iz_neg, iz_lt, iz_le, iz_eq, if_pos, if_neg, ix_iz, Int.toNat_natCast, tn0, tn1, tn2, tn3, tn4, tn5, tn6, tn7, tn8, tn9, tn10, tn11, tn12, tn13, tn14, tn15, tn16, tn17, tn18, tn19, tn20, tn21, tn22, tn23, tn24, tn25, tn26, tn27, gI_sI, gI_sA, gI_sAs, gI_sR, gI_sJ, gA_sI, gA_sA, gA_sAs, gA_sR, gA_sJ, gR_sI, gR_sA, gR_sAs, gR_sR, gR_sJ, gJ_sI, gJ_sA, gJ_sAs, gJ_sR, gJ_sJ]) (by simp (disch := omega) only [f_M_evens, f_M_evens_41, f_M_in, hG, if_true, if_false, and_true, true_and, and_false, false_and, and_self, nm_eq, bd_eq, i0, i1, i2, i3, i4, i5, i6, i7, i8, i9, i10, i11, i12, i17, i20, i21, i26, i27, i32, i34, i48, i54, i57, i59, i64, i98, i99, i100, i106, i107, i114, i119, i120, i121, i141, i243, i255, i270, i340, i680, i999, i1000000, iz_add, iz_sub, iz_mul, iz_neg, iz_lt, iz_le, iz_eq, if_pos, if_neg, ix_iz, Int.toNat_natCast, tn0, tn1, tn2, tn3, tn4, tn5, tn6, tn7, tn8, tn9, tn10, tn11, tn12, tn13, tn14, tn15, tn16, tn17, tn18, tn19, tn20, tn21, tn22, tn23, tn24, tn25, tn26, tn27, gI_sI, gI_sA, gI_sAs, gI_sR, gI_sJ, gA_sI, gA_sA, gA_sAs, gA_sR, gA_sJ, gR_sI, gR_sA, gR_sAs, gR_sR, gR_sJ, gJ_sI, gJ_sA, gJ_sAs, gJ_sR, gJ_sJ]) h.n1
    by_cases q2 : e ≤ 4
    · by_cases q3 : m (7 + c) = e
      · exact Both.of (r := iz (-1000000)) (by simp (disch := omega) only [f_T_evens, f_T_evens_30, a8, a9, e37, q3, if_true, if_false, and_true, true_and, and_false, false_and, and_self, nm_eq, bd_eq, i0, i1, i2, i3, i4, i5, i6, i7, i8, i9, i10, i11, i12, i17, i20, i21, i26, i27, i32, i34, i48, i54, i57, i59, i64, i98, i99, i100, i106, i107, i114, i119, i120, i121, i141, i243, i255, i270, i340, i680, i999, i1000000, iz_add, iz_sub, iz_mul, iz_neg, iz_lt, iz_le, iz_eq, if_pos, if_neg, ix_iz, Int.toNat_natCast, tn0, tn1, tn2, tn3, tn4, tn5, tn6, tn7, tn8, tn9, tn10, tn11, tn12, tn13, tn14, tn15, tn16, tn17, tn18, tn19, tn20, tn21, tn22, tn23, tn24, tn25, tn26, tn27, gI_sI, gI_sA, gI_sAs, gI_sR, gI_sJ, gA_sI, gA_sA, gA_sAs, gA_sR, gA_sJ, gR_sI, gR_sA, gR_sAs, gR_sR, gR_sJ, gJ_sI, gJ_sA, gJ_sAs, gJ_sR, gJ_sJ]) (by simp (disch := omega) only [f_M_evens, f_M_evens_41, f_M_in, hG, e9, f4, q3, if_true, if_false, and_true, true_and, and_false, false_and, and_self, nm_eq, bd_eq, i0, i1, i2, i3, i4, i5, i6, i7, i8, i9, i10, i11, i12, i17, i20, i21, i26, i27, i32, i34, i48, i54, i57, i59, i64, i98, i99, i100, i106, i107, i114, i119, i120, i121, i141, i243, i255, i270, i340, i680, i999, i1000000, iz_add, iz_sub, iz_mul, iz_neg, iz_lt, iz_le, iz_eq, if_pos, if_neg, ix_iz, Int.toNat_natCast, tn0, tn1, tn2, tn3, tn4, tn5, tn6, tn7, tn8, tn9, tn10, tn11, tn12, tn13, tn14, tn15, tn16, tn17, tn18, tn19, tn20, tn21, tn22, tn23, tn24, tn25, tn26, tn27, gI_sI, gI_sA, gI_sAs, gI_sR, gI_sJ, gA_sI, gA_sA, gA_sAs, gA_sR, gA_sJ, gR_sI, gR_sA, gR_sAs, gR_sR, gR_sJ, gJ_sI, gJ_sA, gJ_sAs, gJ_sR, gJ_sJ]) h.n1
      · obtain ⟨σ', τ', s1, s2, s3, s4, s5⟩ := save_both H.go'
        have s3' := s3
        obtain ⟨w1, w2, w3, w4, w5, w6, w7, w8, w9, w10, w11, w12, w13, w14⟩ := s3'
        have u4 : gA τ' 4 (7 + c) = iz (m (7 + c)) := w5.2 c a2
        refine Both.of (r := iz (m (7 + c))) (σ' := sA σ' 37 c (iz e)) (τ' := sA τ' 4 (7 + c) (iz e)) (by simp (disch := omega) only [f_T_evens, f_T_evens_30, a8, a9, e37, s1, if_true, if_false, and_true, true_and, and_false, false_and, and_self, nm_eq, bd_eq, i0, i1, i2, i3, i4, i5, i6, i7, i8, i9, i10, i11, i12, i17, i20, i21, i26, i27, i32, i34, i48, i54, i57, i59, i64, i98, i99, i100, i106, i107, i114, i119, i120, i121, i141, i243, i255, i270, i340, i680, i999, i1000000, iz_add, iz_sub, iz_mul, iz_neg, iz_lt, iz_le, iz_eq, if_pos, if_neg, ix_iz, Int.toNat_natCast, tn0, tn1, tn2, tn3, tn4, tn5, tn6, tn7, tn8, tn9, tn10, tn11, tn12, tn13, tn14, tn15, tn16, tn17, tn18, tn19, tn20, tn21, tn22, tn23, tn24, tn25, tn26, tn27, gI_sI, gI_sA, gI_sAs, gI_sR, gI_sJ, gA_sI, gA_sA, gA_sAs, gA_sR, gA_sJ, gR_sI, gR_sA, gR_sAs, gR_sR, gR_sJ, gJ_sI, gJ_sA, gJ_sAs, gJ_sR, gJ_sJ]) (by simp (disch := omega) only [f_M_evens, f_M_evens_41, f_M_in, hG, e9, f4, s2, u4, if_true, if_false, and_true, true_and, and_false, false_and, and_self, nm_eq, bd_eq, i0, i1, i2, i3, i4, i5, i6, i7, i8, i9, i10, i11, i12, i17, i20, i21, i26, i27, i32, i34, i48, i54, i57, i59, i64, i98, i99, i100, i106, i107, i114, i119, i120, i121, i141, i243, i255, i270, i340, i680, i999, i1000000, iz_add, iz_sub, iz_mul, iz_neg, iz_lt, iz_le, iz_eq, if_pos, if_neg, ix_iz, Int.toNat_natCast, tn0, tn1, tn2, tn3, tn4, tn5, tn6, tn7, tn8, tn9, tn10, tn11, tn12, tn13, tn14, tn15, tn16, tn17, tn18, tn19, tn20, tn21, tn22, tn23, tn24, tn25, tn26, tn27, gI_sI, gI_sA, gI_sAs, gI_sR, gI_sJ, gA_sI, gA_sA, gA_sAs, gA_sR, gA_sJ, gR_sI, gR_sA, gR_sAs, gR_sR, gR_sJ, gJ_sI, gJ_sA, gJ_sAs, gJ_sR, gJ_sJ]) ?_
        obtain ⟨mn, qe, qo⟩ : ∃ mn : Nat → Int, mn (7 + c) = e ∧ ∀ k, k ≠ 7 + c → mn k = m k := by
          refine ⟨fun k => if k = 7 + c then e else m k, if_pos rfl, fun k k1 => ?_⟩
          dsimp only; rw [if_neg k1]
        have r0 := qo 0 (by omega)
        have r1 := qo 1 (by omega)
        have r2 := qo 2 (by omega)
        have r3 := qo 3 (by omega)
        have r4 := qo 4 (by omega)
        have r5 := qo 5 (by omega)
        have r6 := qo 6 (by omega)
        refine ⟨W, R, g, lim, lea, st, mn, w1, w2.ext' rfl rfl, w3.mv rfl rfl (fun _ => rfl) (fun _ => rfl), ?_, ?_, ?_, w7, w8, w9.mv (Nat.le_succ _) (eqH_sA (by decide)) rfl rfl rfl rfl, w10.mv (Nat.le_succ _) (eqH_sA (by decide)) rfl rfl rfl, w11, w12, w13, w14⟩
        · obtain ⟨v0, v1, v2, v3, v4, v5, v6, v7⟩ := w4
          refine ⟨by rw [r0]; exact v0, by rw [r1]; exact v1, by rw [r2]; exact v2, by rw [r3]; omega, by rw [r4]; omega, by rw [r5]; exact v5, by rw [r6]; exact v6, fun c' hc' => ?_⟩
          dsimp only
          by_cases z : c' = c
          · rw [z, qe]; omega
          · rw [qo _ (by omega)]; exact v7 c' hc'
        · refine ⟨fun k hk => ?_, fun c' hc' => ?_⟩
          · rw [gA_sA, if_pos rfl, pk_un (by omega), qo k (by omega)]
            exact w5.1 k hk
          · rw [gA_sA, if_pos rfl]
            by_cases z : c' = c
            · rw [z, pk_us, qe]
            · rw [pk_un (by omega), qo _ (by omega)]
              exact w5.2 c' hc'
        · obtain ⟨v0, v1, v2, v3, v4, v5, v6, v7⟩ := w6
          refine ⟨by rw [r0]; exact v0, by rw [r1]; exact v1, by rw [r2]; exact v2, by rw [r3]; exact v3, by rw [r4]; exact v4, by rw [r5]; exact v5, by rw [r6]; exact v6, fun c' hc' => ?_⟩
          have v7' := v7 c' hc'
          dsimp only at v7' ⊢
          rw [show (36 : Nat) + 1 = 37 from rfl, gA_sA, if_pos rfl]
          by_cases z : c' = c
          · rw [z, pk_us, if_pos a2, qe]
          · rw [pk_un z, qo _ (by omega)]
            exact v7'
    · exact Both.of (r := iz (-1000000)) (by simp (disch := omega) only [f_T_evens, f_T_evens_30, a8, a9, if_true, if_false, and_true, true_and, and_false, false_and, and_self, nm_eq, bd_eq, i0, i1, i2, i3, i4, i5, i6, i7, i8, i9, i10, i11, i12, i17, i20, i21, i26, i27, i32, i34, i48, i54, i57, i59, i64, i98, i99, i100, i106, i107, i114, i119, i120, i121, i141, i243, i255, i270, i340, i680, i999, i1000000, iz_add, iz_sub, iz_mul, iz_neg, iz_lt, iz_le, iz_eq, if_pos, if_neg, ix_iz, Int.toNat_natCast, tn0, tn1, tn2, tn3, tn4, tn5, tn6, tn7, tn8, tn9, tn10, tn11, tn12, tn13, tn14, tn15, tn16, tn17, tn18, tn19, tn20, tn21, tn22, tn23, tn24, tn25, tn26, tn27, gI_sI, gI_sA, gI_sAs, gI_sR, gI_sJ, gA_sI, gA_sA, gA_sAs, gA_sR, gA_sJ, gR_sI, gR_sA, gR_sAs, gR_sR, gR_sJ, gJ_sI, gJ_sA, gJ_sAs, gJ_sR, gJ_sJ]) (by simp (disch := omega) only [f_M_evens, f_M_evens_41, f_M_in, hG, if_true, if_false, and_true, true_and, and_false, false_and, and_self, nm_eq, bd_eq, i0, i1, i2, i3, i4, i5, i6, i7, i8, i9, i10, i11, i12, i17, i20, i21, i26, i27, i32, i34, i48, i54, i57, i59, i64, i98, i99, i100, i106, i107, i114, i119, i120, i121, i141, i243, i255, i270, i340, i680, i999, i1000000, iz_add, iz_sub, iz_mul, iz_neg, iz_lt, iz_le, iz_eq, if_pos, if_neg, ix_iz, Int.toNat_natCast, tn0, tn1, tn2, tn3, tn4, tn5, tn6, tn7, tn8, tn9, tn10, tn11, tn12, tn13, tn14, tn15, tn16, tn17, tn18, tn19, tn20, tn21, tn22, tn23, tn24, tn25, tn26, tn27, gI_sI, gI_sA, gI_sAs, gI_sR, gI_sJ, gA_sI, gA_sA, gA_sAs, gA_sR, gA_sJ, gR_sI, gR_sA, gR_sAs, gR_sR, gR_sJ, gJ_sI, gJ_sA, gJ_sAs, gJ_sR, gJ_sJ]) h.n1
  · obtain ⟨r, a8, a9⟩ := t_at0 hTl H.TlOk x1 x2 z1 z2 q
    rw [if_neg q] at hG
    exact Both.of (r := iz (-1000000)) (by simp (disch := omega) only [f_T_evens, f_T_evens_30, a8, a9, if_true, if_false, and_true, true_and, and_false, false_and, and_self, nm_eq, bd_eq, i0, i1, i2, i3, i4, i5, i6, i7, i8, i9, i10, i11, i12, i17, i20, i21, i26, i27, i32, i34, i48, i54, i57, i59, i64, i98, i99, i100, i106, i107, i114, i119, i120, i121, i141, i243, i255, i270, i340, i680, i999, i1000000, iz_add, iz_sub, iz_mul, iz_neg, iz_lt, iz_le, iz_eq, if_pos, if_neg, ix_iz, Int.toNat_natCast, tn0, tn1, tn2, tn3, tn4, tn5, tn6, tn7, tn8, tn9, tn10, tn11, tn12, tn13, tn14, tn15, tn16, tn17, tn18, tn19, tn20, tn21, tn22, tn23, tn24, tn25, tn26, tn27, gI_sI, gI_sA, gI_sAs, gI_sR, gI_sJ, gA_sI, gA_sA, gA_sAs, gA_sR, gA_sJ, gR_sI, gR_sA, gR_sAs, gR_sR, gR_sJ, gJ_sI, gJ_sA, gJ_sAs, gJ_sR, gJ_sJ]) (by simp (disch := omega) only [f_M_evens, f_M_evens_41, hG, if_true, if_false, and_true, true_and, and_false, false_and, and_self, nm_eq, bd_eq, i0, i1, i2, i3, i4, i5, i6, i7, i8, i9, i10, i11, i12, i17, i20, i21, i26, i27, i32, i34, i48, i54, i57, i59, i64, i98, i99, i100, i106, i107, i114, i119, i120, i121, i141, i243, i255, i270, i340, i680, i999, i1000000, iz_add, iz_sub, iz_mul, iz_neg, iz_lt, iz_le, iz_eq, if_pos, if_neg, ix_iz, Int.toNat_natCast, tn0, tn1, tn2, tn3, tn4, tn5, tn6, tn7, tn8, tn9, tn10, tn11, tn12, tn13, tn14, tn15, tn16, tn17, tn18, tn19, tn20, tn21, tn22, tn23, tn24, tn25, tn26, tn27, gI_sI, gI_sA, gI_sAs, gI_sR, gI_sJ, gA_sI, gA_sA, gA_sAs, gA_sR, gA_sJ, gR_sI, gR_sA, gR_sAs, gR_sR, gR_sJ, gJ_sI, gJ_sA, gJ_sAs, gJ_sR, gJ_sJ]) h.n1
