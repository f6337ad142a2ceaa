-- the call pushes
theorem t_pushes0 {σ σ' : Mm} {w c' : Nat} {a l' mo : Int} (hw : w < 4) (hc : c' < 20) (hN : f_T_nextCell σ (iz w) = some (iz c', σ)) (s1 : f_Hi_save σ 36 = some (0, σ')) (d1 : gI σ' 36 4 = iz a) (d2 : gI σ' 36 5 = iz mo) (hL : f_Gr_leanOn σ' 11 (iz c') (iz a) = some (iz l', σ')) (hV : f_Gr_verdict σ' 11 (iz l') = some (iz 0, σ')) : f_T_pushes σ (iz w) = some (iz 0, sI (sI (sI σ' 36 3 (iz c')) 36 4 (iz l')) 36 5 (iz (1 - mo))) := by
  simp (disch := omega) only [f_T_pushes, f_T_isNoWay, hN, s1, d1, hL, hV, d2, if_true, if_false, and_true, true_and, and_false, false_and, and_self, nm_eq, bd_eq, i0, i1, i2, i3, i4, i5, i6, i7, i8, i9, i10, i11, i12, i17, i20, i21, i26, i27, i32, i34, i48, i54, i57, i59, i64, i98, i99, i100, i106, i107, i114, i119, i120, i121, i141, i243, i255, i270, i340, i680, i999, i1000000, iz_add, iz_sub, iz_mul, iz_neg, iz_lt, iz_le, iz_eq, if_pos, if_neg, ix_iz, Int.toNat_natCast, tn0, tn1, tn2, tn3, tn4, tn5, tn6, tn7, tn8, tn9, tn10, tn11, tn12, tn13, tn14, tn15, tn16, tn17, tn18, tn19, tn20, tn21, tn22, tn23, tn24, tn25, tn26, tn27, gI_sI, gI_sA, gI_sAs, gI_sR, gI_sJ, gA_sI, gA_sA, gA_sAs, gA_sR, gA_sJ, gR_sI, gR_sA, gR_sAs, gR_sR, gR_sJ, gJ_sI, gJ_sA, gJ_sAs, gJ_sR, gJ_sJ]
theorem t_pushes1 {σ σ' σ2 : Mm} {w c' p : Nat} {a l' v st : Int} (hw : w < 4) (hc : c' < 20) (hv : v = 1 ∨ v = 2) (hN : f_T_nextCell σ (iz w) = some (iz c', σ)) (s1 : f_Hi_save σ 36 = some (0, σ')) (d1 : gI σ' 36 4 = iz a) (hL : f_Gr_leanOn σ' 11 (iz c') (iz a) = some (iz l', σ')) (hV : f_Gr_verdict σ' 11 (iz l') = some (iz v, σ')) (epl : ∀ K : Nat → Option (Int32 × Mm), rk (gR σ' 0 2) okPl K = K p) (e6 : gI σ' p 3 = iz st) (hT : f_Mo_tip σ' 36 (iz c') (iz v) (iz st) = some (0, σ2)) : f_T_pushes σ (iz w) = some (iz v, σ2) := by
  rw [i0] at hT
  simp (disch := omega) only [f_T_pushes, f_T_isNoWay, hN, s1, d1, hL, hV, epl, e6, hT, if_true, if_false, and_true, true_and, and_false, false_and, and_self, nm_eq, bd_eq, i0, i1, i2, i3, i4, i5, i6, i7, i8, i9, i10, i11, i12, i17, i20, i21, i26, i27, i32, i34, i48, i54, i57, i59, i64, i98, i99, i100, i106, i107, i114, i119, i120, i121, i141, i243, i255, i270, i340, i680, i999, i1000000, iz_add, iz_sub, iz_mul, iz_neg, iz_lt, iz_le, iz_eq, if_pos, if_neg, ix_iz, Int.toNat_natCast, tn0, tn1, tn2, tn3, tn4, tn5, tn6, tn7, tn8, tn9, tn10, tn11, tn12, tn13, tn14, tn15, tn16, tn17, tn18, tn19, tn20, tn21, tn22, tn23, tn24, tn25, tn26, tn27, gI_sI, gI_sA, gI_sAs, gI_sR, gI_sJ, gA_sI, gA_sA, gA_sAs, gA_sR, gA_sJ, gR_sI, gR_sA, gR_sAs, gR_sR, gR_sJ, gJ_sI, gJ_sA, gJ_sAs, gJ_sR, gJ_sJ]
theorem m_pushesA {τ τ2 : Mm} {w : Nat} {a l v : Int} (hw : w < 4) (hS : f_M_hasStart (sI τ 0 0 (iz 0)) = some (1, sI τ 0 0 (iz 0))) (b0 : gA τ 4 0 = iz a) (b1 : gA τ 4 1 = iz l) (hM : f_M_comesBy (sI τ 0 0 (iz 0)) (iz a) (iz l) (iz w) = some (iz v, τ2)) : f_M_pushes τ (iz w) = f_M_pushes_44 τ2 (iz v) := by
  simp (disch := omega) only [f_M_pushes, f_M_in, hS, b0, b1, hM, if_true, if_false, and_true, true_and, and_false, false_and, and_self, nm_eq, bd_eq, i0, i1, i2, i3, i4, i5, i6, i7, i8, i9, i10, i11, i12, i17, i20, i21, i26, i27, i32, i34, i48, i54, i57, i59, i64, i98, i99, i100, i106, i107, i114, i119, i120, i121, i141, i243, i255, i270, i340, i680, i999, i1000000, iz_add, iz_sub, iz_mul, iz_neg, iz_lt, iz_le, iz_eq, if_pos, if_neg, ix_iz, Int.toNat_natCast, tn0, tn1, tn2, tn3, tn4, tn5, tn6, tn7, tn8, tn9, tn10, tn11, tn12, tn13, tn14, tn15, tn16, tn17, tn18, tn19, tn20, tn21, tn22, tn23, tn24, tn25, tn26, tn27, gI_sI, gI_sA, gI_sAs, gI_sR, gI_sJ, gA_sI, gA_sA, gA_sAs, gA_sR, gA_sJ, gR_sI, gR_sA, gR_sAs, gR_sR, gR_sJ, gJ_sI, gJ_sA, gJ_sAs, gJ_sR, gJ_sJ]
theorem m_pushes0 {τ τ' : Mm} {c' : Nat} {a b l' mo : Int} (ha : 0 ≤ a) (ha2 : a < 999) (hb : 0 ≤ b) (hb2 : b < 999) (f3 : gA τ 4 3 = iz a) (f4 : gA τ 4 4 = iz b) (s2 : f_M_notes τ = some (0, τ')) (s4 : gI τ' 0 21 = iz c') (s5 : gI τ' 0 22 = iz l') (u2 : gA τ' 4 2 = iz mo) : f_M_pushes_44 τ (iz 0) = some (iz 0, sA (sA (sA τ' 4 0 (iz c')) 4 1 (iz l')) 4 2 (iz (1 - mo))) := by
  have un0 : ∀ x y : Int32, upd (upd (gA τ' 4) 0 x) 1 y 2 = gA τ' 4 2 := fun x y => by rw [pk_un (by decide), pk_un (by decide)]
  simp (disch := omega) only [f_M_pushes_44, f3, f4, s2, s4, s5, un0, u2, if_true, if_false, and_true, true_and, and_false, false_and, and_self, nm_eq, bd_eq, i0, i1, i2, i3, i4, i5, i6, i7, i8, i9, i10, i11, i12, i17, i20, i21, i26, i27, i32, i34, i48, i54, i57, i59, i64, i98, i99, i100, i106, i107, i114, i119, i120, i121, i141, i243, i255, i270, i340, i680, i999, i1000000, iz_add, iz_sub, iz_mul, iz_neg, iz_lt, iz_le, iz_eq, if_pos, if_neg, ix_iz, Int.toNat_natCast, tn0, tn1, tn2, tn3, tn4, tn5, tn6, tn7, tn8, tn9, tn10, tn11, tn12, tn13, tn14, tn15, tn16, tn17, tn18, tn19, tn20, tn21, tn22, tn23, tn24, tn25, tn26, tn27, gI_sI, gI_sA, gI_sAs, gI_sR, gI_sJ, gA_sI, gA_sA, gA_sAs, gA_sR, gA_sJ, gR_sI, gR_sA, gR_sAs, gR_sR, gR_sJ, gJ_sI, gJ_sA, gJ_sAs, gJ_sR, gJ_sJ]
theorem m_pushes1 {τ τ' τ2 : Mm} {c' : Nat} {a b v t : Int} (ha : 0 ≤ a) (ha2 : a < 999) (hb : 0 ≤ b) (hb2 : b < 999) (hv : v = 1 ∨ v = 2) (hc : c' < 20) (f3 : gA τ 4 3 = iz a) (f4 : gA τ 4 4 = iz b) (s2 : f_M_notes τ = some (0, τ')) (s4 : gI τ' 0 21 = iz c') (uc : gA τ' 4 (7 + c') = iz t) (hT : (if v = 1 then f_M_pushes_143 τ' (iz v) (iz t) (-1) else f_M_pushes_143 τ' (iz v) (iz t) 1) = some (iz v, τ2)) : f_M_pushes_44 τ (iz v) = some (iz v, τ2) := by
  have ec : (7 : Int) + c' = ((7 + c' : Nat) : Int) := by omega
  rw [i1, iz_neg] at hT
  simp (disch := omega) only [f_M_pushes_44, f3, f4, s2, s4, ec, uc, hT, if_true, if_false, and_true, true_and, and_false, false_and, and_self, nm_eq, bd_eq, i0, i1, i2, i3, i4, i5, i6, i7, i8, i9, i10, i11, i12, i17, i20, i21, i26, i27, i32, i34, i48, i54, i57, i59, i64, i98, i99, i100, i106, i107, i114, i119, i120, i121, i141, i243, i255, i270, i340, i680, i999, i1000000, iz_add, iz_sub, iz_mul, iz_neg, iz_lt, iz_le, iz_eq, if_pos, if_neg, ix_iz, Int.toNat_natCast, tn0, tn1, tn2, tn3, tn4, tn5, tn6, tn7, tn8, tn9, tn10, tn11, tn12, tn13, tn14, tn15, tn16, tn17, tn18, tn19, tn20, tn21, tn22, tn23, tn24, tn25, tn26, tn27, gI_sI, gI_sA, gI_sAs, gI_sR, gI_sJ, gA_sI, gA_sA, gA_sAs, gA_sR, gA_sJ, gR_sI, gR_sA, gR_sAs, gR_sR, gR_sJ, gJ_sI, gJ_sA, gJ_sAs, gJ_sR, gJ_sJ]
theorem m_pushes3 {τ : Mm} : f_M_pushes_44 τ (iz 3) = some (iz (-2), τ) := by
  simp (disch := omega) only [f_M_pushes_44, if_true, if_false, and_true, true_and, and_false, false_and, and_self, nm_eq, bd_eq, i0, i1, i2, i3, i4, i5, i6, i7, i8, i9, i10, i11, i12, i17, i20, i21, i26, i27, i32, i34, i48, i54, i57, i59, i64, i98, i99, i100, i106, i107, i114, i119, i120, i121, i141, i243, i255, i270, i340, i680, i999, i1000000, iz_add, iz_sub, iz_mul, iz_neg, iz_lt, iz_le, iz_eq, if_pos, if_neg, ix_iz, Int.toNat_natCast, tn0, tn1, tn2, tn3, tn4, tn5, tn6, tn7, tn8, tn9, tn10, tn11, tn12, tn13, tn14, tn15, tn16, tn17, tn18, tn19, tn20, tn21, tn22, tn23, tn24, tn25, tn26, tn27, gI_sI, gI_sA, gI_sAs, gI_sR, gI_sJ, gA_sI, gA_sA, gA_sAs, gA_sR, gA_sJ, gR_sI, gR_sA, gR_sAs, gR_sR, gR_sJ, gJ_sI, gJ_sA, gJ_sAs, gJ_sR, gJ_sJ]
theorem b_pushes {n : Nat} {σ τ : Mm} (h : Rel n σ τ) (hn : n < 512) (v : Int32) : Both n (f_T_pushes σ v) (f_M_pushes τ v) := by
  obtain ⟨z, z1, z2, rfl⟩ := iz_of v
  have h' := h
  obtain ⟨W, R, g, lim, lea, st, m, H⟩ := h'
  have H' := H
  obtain ⟨h1, h2, h3, h4, h5, h6, h7, h8, h9, h10, h11, h12, h13, h14⟩ := H'
  have hst := h1.st
  have h3' := h3
  have h6' := h6
  have h4' := h4
  obtain ⟨p, d, e1, e2, e3, e4, e5, e6, e7, e8⟩ := h3'
  obtain ⟨c0, c1, c2, c3, c4, c5, c6, hTl⟩ := h6'
  obtain ⟨g0, g1, g2, g3, g4, g5, g6, g7⟩ := h4'
  have b0 := h5.1 0 (by decide)
  have b1 := h5.1 1 (by decide)
  have b2 := h5.1 2 (by decide)
  have b3 := h5.1 3 (by decide)
  have b4 := h5.1 4 (by decide)
  have b5 := h5.1 5 (by decide)
  have b6 := h5.1 6 (by decide)
  have epl : ∀ K : Nat → Option (Int32 × Mm), rk (gR σ 0 2) okPl K = K p := fun K => by rw [e1]; rcases e3 with ⟨rfl, _⟩ | ⟨rfl, _⟩ <;> rfl
  obtain ⟨y1, y2, y3, y4, y5, y6, y7, y8⟩ := h1
  obtain ⟨m1, m2, m3, m4, m5, m6⟩ := h2
  have h1 : Yok W R g lim lea st := H.1
  have h2 : YM τ W R g lim lea st := H.2.1
  have hS2 := m_hasStart H.go'.1 H.go'.2.1
  by_cases k1 : z < 0
  · exact Both.of (r := iz (-1)) (by simp (disch := omega) only [f_T_pushes, f_T_isNoWay, if_true, if_false, and_true, true_and, and_false, false_and, and_self, nm_eq, bd_eq, i0, i1, i2, i3, i4, i5, i6, i7, i8, i9, i10, i11, i12, i17, i20, i21, i26, i27, i32, i34, i48, i54, i57, i59, i64, i98, i99, i100, i106, i107, i114, i119, i120, i121, i141, i243, i255, i270, i340, i680, i999, i1000000, iz_add, iz_sub, iz_mul, iz_neg, iz_lt, iz_le, iz_eq, if_pos, if_neg, ix_iz, Int.toNat_natCast, tn0, tn1, tn2, tn3, tn4, tn5, tn6, tn7, tn8, tn9, tn10, tn11, tn12, tn13, tn14, tn15, tn16, tn17, tn18, tn19, tn20, tn21, tn22, tn23, tn24, tn25, tn26, tn27, gI_sI, gI_sA, gI_sAs, gI_sR, gI_sJ, gA_sI, gA_sA, gA_sAs, gA_sR, gA_sJ, gR_sI, gR_sA, gR_sAs, gR_sR, gR_sJ, gJ_sI, gJ_sA, gJ_sAs, gJ_sR, gJ_sJ]) (by simp (disch := omega) only [f_M_pushes, f_M_in, if_true, if_false, and_true, true_and, and_false, false_and, and_self, nm_eq, bd_eq, i0, i1, i2, i3, i4, i5, i6, i7, i8, i9, i10, i11, i12, i17, i20, i21, i26, i27, i32, i34, i48, i54, i57, i59, i64, i98, i99, i100, i106, i107, i114, i119, i120, i121, i141, i243, i255, i270, i340, i680, i999, i1000000, iz_add, iz_sub, iz_mul, iz_neg, iz_lt, iz_le, iz_eq, if_pos, if_neg, ix_iz, Int.toNat_natCast, tn0, tn1, tn2, tn3, tn4, tn5, tn6, tn7, tn8, tn9, tn10, tn11, tn12, tn13, tn14, tn15, tn16, tn17, tn18, tn19, tn20, tn21, tn22, tn23, tn24, tn25, tn26, tn27, gI_sI, gI_sA, gI_sAs, gI_sR, gI_sJ, gA_sI, gA_sA, gA_sAs, gA_sR, gA_sJ, gR_sI, gR_sA, gR_sAs, gR_sR, gR_sJ, gJ_sI, gJ_sA, gJ_sAs, gJ_sR, gJ_sJ]) h.n1
  by_cases k2 : z < 4
  · obtain ⟨w, rfl⟩ : ∃ w : Nat, z = w := ⟨z.toNat, by omega⟩
    have hw : w < 4 := by omega
    by_cases q : st = -9
    · have hN := t_nextN H q (iz w)
      rw [i1, iz_neg] at hN
      rw [if_pos q] at hS2
      exact Both.of (r := iz (-2)) (by simp (disch := omega) only [f_T_pushes, f_T_isNoWay, hN, if_true, if_false, and_true, true_and, and_false, false_and, and_self, nm_eq, bd_eq, i0, i1, i2, i3, i4, i5, i6, i7, i8, i9, i10, i11, i12, i17, i20, i21, i26, i27, i32, i34, i48, i54, i57, i59, i64, i98, i99, i100, i106, i107, i114, i119, i120, i121, i141, i243, i255, i270, i340, i680, i999, i1000000, iz_add, iz_sub, iz_mul, iz_neg, iz_lt, iz_le, iz_eq, if_pos, if_neg, ix_iz, Int.toNat_natCast, tn0, tn1, tn2, tn3, tn4, tn5, tn6, tn7, tn8, tn9, tn10, tn11, tn12, tn13, tn14, tn15, tn16, tn17, tn18, tn19, tn20, tn21, tn22, tn23, tn24, tn25, tn26, tn27, gI_sI, gI_sA, gI_sAs, gI_sR, gI_sJ, gA_sI, gA_sA, gA_sAs, gA_sR, gA_sJ, gR_sI, gR_sA, gR_sAs, gR_sR, gR_sJ, gJ_sI, gJ_sA, gJ_sAs, gJ_sR, gJ_sJ]) (by simp (disch := omega) only [f_M_pushes, f_M_pushes_44, f_M_in, hS2, if_true, if_false, and_true, true_and, and_false, false_and, and_self, nm_eq, bd_eq, i0, i1, i2, i3, i4, i5, i6, i7, i8, i9, i10, i11, i12, i17, i20, i21, i26, i27, i32, i34, i48, i54, i57, i59, i64, i98, i99, i100, i106, i107, i114, i119, i120, i121, i141, i243, i255, i270, i340, i680, i999, i1000000, iz_add, iz_sub, iz_mul, iz_neg, iz_lt, iz_le, iz_eq, if_pos, if_neg, ix_iz, Int.toNat_natCast, tn0, tn1, tn2, tn3, tn4, tn5, tn6, tn7, tn8, tn9, tn10, tn11, tn12, tn13, tn14, tn15, tn16, tn17, tn18, tn19, tn20, tn21, tn22, tn23, tn24, tn25, tn26, tn27, gI_sI, gI_sA, gI_sAs, gI_sR, gI_sJ, gA_sI, gA_sA, gA_sAs, gA_sR, gA_sJ, gR_sI, gR_sA, gR_sAs, gR_sR, gR_sJ, gJ_sI, gJ_sA, gJ_sAs, gJ_sR, gJ_sJ]) h.n1
    · rw [if_neg q] at hS2
      obtain ⟨c, hc, hgc⟩ := g0.2 q
      have hN := t_next H hn q hc hgc hw
      have hc20 := h1.g20 c hgc
      have hM := m_comesBy (c := c) (w := w) (l := m 1) H.go'.1 H.go'.2.1 H.go'.TlM H.go'.TlOk hc20 hw (by omega) (by omega)
      rw [hc] at b0
      rcases hx : nx g c w with _ | c'
      · rw [hx] at hN hM
        dsimp only at hN hM
        rw [i1, iz_neg] at hN
        rw [i3] at hM
        exact Both.of (r := iz (-2)) (by simp (disch := omega) only [f_T_pushes, f_T_isNoWay, hN, if_true, if_false, and_true, true_and, and_false, false_and, and_self, nm_eq, bd_eq, i0, i1, i2, i3, i4, i5, i6, i7, i8, i9, i10, i11, i12, i17, i20, i21, i26, i27, i32, i34, i48, i54, i57, i59, i64, i98, i99, i100, i106, i107, i114, i119, i120, i121, i141, i243, i255, i270, i340, i680, i999, i1000000, iz_add, iz_sub, iz_mul, iz_neg, iz_lt, iz_le, iz_eq, if_pos, if_neg, ix_iz, Int.toNat_natCast, tn0, tn1, tn2, tn3, tn4, tn5, tn6, tn7, tn8, tn9, tn10, tn11, tn12, tn13, tn14, tn15, tn16, tn17, tn18, tn19, tn20, tn21, tn22, tn23, tn24, tn25, tn26, tn27, gI_sI, gI_sA, gI_sAs, gI_sR, gI_sJ, gA_sI, gA_sA, gA_sAs, gA_sR, gA_sJ, gR_sI, gR_sA, gR_sAs, gR_sR, gR_sJ, gJ_sI, gJ_sA, gJ_sAs, gJ_sR, gJ_sJ]) ((m_pushesA hw hS2 b0 b1 hM).trans m_pushes3) h.n1
      · rw [hx] at hN hM
        dsimp only at hN hM
        obtain ⟨xg, -⟩ := nx_ok hx
        have xc := h1.g20 c' xg
        have xt := g7 c' xg
        try dsimp only at xt
        have hv := vd_cases lim (m 1 + m (7 + c') + lea)
        have hH : RelY W R g lim lea st m n σ (mCome (sI τ 0 0 (iz 0)) c' (m 1 + m (7 + c') + lea)) := H.ext (Nat.le_refl _) eqT.rfl (eqM_0.trans eqM_come)
        obtain ⟨σ', τ', s1, s2, s3, s4, s5⟩ := save_both hH
        rw [mCome_to] at s4
        rw [mCome_lean] at s5
        have f3 : gA (mCome (sI τ 0 0 (iz 0)) c' (m 1 + m (7 + c') + lea)) 4 3 = iz (m 3) := b3
        have f4 : gA (mCome (sI τ 0 0 (iz 0)) c' (m 1 + m (7 + c') + lea)) 4 4 = iz (m 4) := b4
        have s3' := s3
        obtain ⟨w1, w2, w3, w4, w5, w6, w7, w8, w9⟩ := s3'
        have d1 : gI σ' 36 4 = iz (m 1) := w6.2.1
        have d2 : gI σ' 36 5 = iz (m 2) := w6.2.2.1
        have hA := m_pushesA hw hS2 b0 b1 hM
        have u2 : gA τ' 4 2 = iz (m 2) := w5.1 2 (by decide)
        have uc : gA τ' 4 (7 + c') = iz (m (7 + c')) := w5.2 c' xg
        have ec : (7 : Int) + c' = ((7 + c' : Nat) : Int) := by omega
        obtain ⟨p', d', x1, x2, x3, x4, x5, x6, x7, x8⟩ := w3
        have epl' : ∀ K : Nat → Option (Int32 × Mm), rk (gR σ' 0 2) okPl K = K p' := fun K => by rw [x1]; rcases x3 with ⟨rfl, _⟩ | ⟨rfl, _⟩ <;> rfl
        have hL := t_leanOn (l := m 1) s3.YG s3.TlOk xc xg
        try dsimp only at hL
        rw [show m 1 + (m (7 + c') + lea) = m 1 + m (7 + c') + lea by omega] at hL
        have hV := t_verdict (l := m 1 + m (7 + c') + lea) s3.YG y3 y4 (by omega) (by omega)
        by_cases q0 : vd lim (m 1 + m (7 + c') + lea) = 0
        · rw [q0] at hV hA
          exact Both.of (t_pushes0 hw xc hN s1 d1 d2 hL hV) (hA.trans (m_pushes0 g3.1 (by omega) g4.1 (by omega) f3 f4 s2 s4 s5 u2)) (b_push0 s3 xg q0 q)
        · have v12 : vd lim (m 1 + m (7 + c') + lea) = 1 ∨ vd lim (m 1 + m (7 + c') + lea) = 2 := by omega
          obtain ⟨i, mv, t', hp⟩ := Tp.ex v12 (m (7 + c'))
          have hi : i < 2 := by unfold Tp at hp; omega
          have a38 : gA σ' 38 i = iz (m (3 + i)) := by
            rcases (show i = 0 ∨ i = 1 by omega) with rfl | rfl
            · exact w6.2.2.2.1
            · exact w6.2.2.2.2.1
          have a37 : gA σ' 37 c' = iz (m (7 + c')) := by
            have := w6.2.2.2.2.2.2.2 c' xc
            rw [if_pos xg] at this
            exact this
          exact Both.of (t_pushes1 hw xc v12 hN s1 d1 hL hV epl' x6 (t_tip hp xc xt.1 xt.2 a37 a38)) (hA.trans (m_pushes1 g3.1 (by omega) g4.1 (by omega) v12 xc f3 f4 s2 s4 uc (m_tip hp xc xt.1 xt.2 s4 (w5.1 (3 + i) (by omega)) w2.2.2.1))) (b_push1 s3 xg q hp)
  · exact Both.of (r := iz (-1)) (by simp (disch := omega) only [f_T_pushes, f_T_isNoWay, if_true, if_false, and_true, true_and, and_false, false_and, and_self, nm_eq, bd_eq, i0, i1, i2, i3, i4, i5, i6, i7, i8, i9, i10, i11, i12, i17, i20, i21, i26, i27, i32, i34, i48, i54, i57, i59, i64, i98, i99, i100, i106, i107, i114, i119, i120, i121, i141, i243, i255, i270, i340, i680, i999, i1000000, iz_add, iz_sub, iz_mul, iz_neg, iz_lt, iz_le, iz_eq, if_pos, if_neg, ix_iz, Int.toNat_natCast, tn0, tn1, tn2, tn3, tn4, tn5, tn6, tn7, tn8, tn9, tn10, tn11, tn12, tn13, tn14, tn15, tn16, tn17, tn18, tn19, tn20, tn21, tn22, tn23, tn24, tn25, tn26, tn27, gI_sI, gI_sA, gI_sAs, gI_sR, gI_sJ, gA_sI, gA_sA, gA_sAs, gA_sR, gA_sJ, gR_sI, gR_sA, gR_sAs, gR_sR, gR_sJ, gJ_sI, gJ_sA, gJ_sAs, gJ_sR, gJ_sJ]) (by simp (disch := omega) only [f_M_pushes, f_M_in, if_true, if_false, and_true, true_and, and_false, false_and, and_self, nm_eq, bd_eq, i0, i1, i2, i3, i4, i5, i6, i7, i8, i9, i10, i11, i12, i17, i20, i21, i26, i27, i32, i34, i48, i54, i57, i59, i64, i98, i99, i100, i106, i107, i114, i119, i120, i121, i141, i243, i255, i270, i340, i680, i999, i1000000, iz_add, iz_sub, iz_mul, iz_neg, iz_lt, iz_le, iz_eq, if_pos, if_neg, ix_iz, Int.toNat_natCast, tn0, tn1, tn2, tn3, tn4, tn5, tn6, tn7, tn8, tn9, tn10, tn11, tn12, tn13, tn14, tn15, tn16, tn17, tn18, tn19, tn20, tn21, tn22, tn23, tn24, tn25, tn26, tn27, gI_sI, gI_sA, gI_sAs, gI_sR, gI_sJ, gA_sI, gA_sA, gA_sAs, gA_sR, gA_sJ, gR_sI, gR_sA, gR_sAs, gR_sR, gR_sJ, gJ_sI, gJ_sA, gJ_sAs, gJ_sR, gJ_sJ]) h.n1
