theorem Rhist.none {g : Nat → Bool} {lim st : Int} {n : Nat} {σ τ : Mm} {w : Nat} (hw : w < 10) (h1 : gI σ 16 1 = iz w) (h2 : gI σ 16 2 = iz 0) (h3 : gI τ 0 18 = iz 0) : Rhist g lim st n σ τ := ⟨0, w, by omega, hw, h2, h3, h1, fun i hi => absurd hi (Nat.not_lt_zero i)⟩
theorem b_back {n : Nat} {σ τ : Mm} (h : Rel n σ τ) (v : Int32) : Both n (f_T_back σ v) (f_M_back τ v) := by
  obtain ⟨z, z1, z2, rfl⟩ := iz_of v
  have h' := h
  obtain ⟨W, R, g, lim, lea, st, m, H⟩ := h'
  have H' := H
  obtain ⟨h1, h2, h3, h4, h5, h6, h7, h8, h9, h10, h11, h12, h13, h14⟩ := H'
  have hst := h1.st
  have h3' := h3
  have h6' := h6
  have h4' := h4
  obtain ⟨p, d, e1, e2, e3, e4, e5, e6, e7, e8⟩ := h3'
  obtain ⟨c0, c1, c2, c3, c4, c5, c6, hTl⟩ := h6'
  obtain ⟨g0, g1, g2, g3, g4, g5, g6, g7⟩ := h4'
  have b0 := h5.1 0 (by decide)
  have b1 := h5.1 1 (by decide)
  have b2 := h5.1 2 (by decide)
  have b3 := h5.1 3 (by decide)
  have b4 := h5.1 4 (by decide)
  have b5 := h5.1 5 (by decide)
  have b6 := h5.1 6 (by decide)
  have epl : ∀ K : Nat → Option (Int32 × Mm), rk (gR σ 0 2) okPl K = K p := fun K => by rw [e1]; rcases e3 with ⟨rfl, _⟩ | ⟨rfl, _⟩ <;> rfl
  obtain ⟨y1, y2, y3, y4, y5, y6, y7, y8⟩ := h1
  obtain ⟨m1, m2, m3, m4, m5, m6⟩ := h2
  have h1 : Yok W R g lim lea st := H.1
  have h2 : YM τ W R g lim lea st := H.2.1
  have hg := h1.g20
  by_cases q1 : z < 0
  · exact Both.of (r := iz (-1)) (by simp (disch := omega) only [f_T_back, if_true, if_false, and_true, true_and, and_false, false_and, and_self, nm_eq, bd_eq, i0, i1, i2, i3, i4, i5, i6, i7, i8, i9, i10, i11, i12, i17, i20, i21, i26, i27, i32, i34, i48, i54, i57, i59, i64, i98, i99, i100, i106, i107, i114, i119, i120, i121, i141, i243, i255, i270, i340, i680, i999, i1000000, iz_add, iz_sub, iz_mul, iz_neg, iz_lt, iz_le, iz_eq, if_pos, if_neg, ix_iz, Int.toNat_natCast, tn0, tn1, tn2, tn3, tn4, tn5, tn6, tn7, tn8, tn9, tn10, tn11, tn12, tn13, tn14, tn15, tn16, tn17, tn18, tn19, tn20, tn21, tn22, tn23, tn24, tn25, tn26, tn27, gI_sI, gI_sA, gI_sAs, gI_sR, gI_sJ, gA_sI, gA_sA, gA_sAs, gA_sR, gA_sJ, gR_sI, gR_sA, gR_sAs, gR_sR, gR_sJ, gJ_sI, gJ_sA, gJ_sAs, gJ_sR, gJ_sJ]) (by simp (disch := omega) only [f_M_back, f_M_in, if_true, if_false, and_true, true_and, and_false, false_and, and_self, nm_eq, bd_eq, i0, i1, i2, i3, i4, i5, i6, i7, i8, i9, i10, i11, i12, i17, i20, i21, i26, i27, i32, i34, i48, i54, i57, i59, i64, i98, i99, i100, i106, i107, i114, i119, i120, i121, i141, i243, i255, i270, i340, i680, i999, i1000000, iz_add, iz_sub, iz_mul, iz_neg, iz_lt, iz_le, iz_eq, if_pos, if_neg, ix_iz, Int.toNat_natCast, tn0, tn1, tn2, tn3, tn4, tn5, tn6, tn7, tn8, tn9, tn10, tn11, tn12, tn13, tn14, tn15, tn16, tn17, tn18, tn19, tn20, tn21, tn22, tn23, tn24, tn25, tn26, tn27, gI_sI, gI_sA, gI_sAs, gI_sR, gI_sJ, gA_sI, gA_sA, gA_sAs, gA_sR, gA_sJ, gR_sI, gR_sA, gR_sAs, gR_sR, gR_sJ, gJ_sI, gJ_sA, gJ_sAs, gJ_sR, gJ_sJ]) h.n1
  by_cases q2 : z < 2
  · obtain ⟨i, rfl⟩ : ∃ i : Nat, z = i := ⟨z.toNat, by omega⟩
    have hi : i < 2 := by omega
    rcases h10 i hi with ⟨x1, x2⟩ | ⟨x1, x2, m', x3, x4, x5⟩
    · rw [i0] at x1 x2
      exact Both.of (r := iz (-2)) (by simp (disch := omega) only [f_T_back, x1, if_true, if_false, and_true, true_and, and_false, false_and, and_self, nm_eq, bd_eq, i0, i1, i2, i3, i4, i5, i6, i7, i8, i9, i10, i11, i12, i17, i20, i21, i26, i27, i32, i34, i48, i54, i57, i59, i64, i98, i99, i100, i106, i107, i114, i119, i120, i121, i141, i243, i255, i270, i340, i680, i999, i1000000, iz_add, iz_sub, iz_mul, iz_neg, iz_lt, iz_le, iz_eq, if_pos, if_neg, ix_iz, Int.toNat_natCast, tn0, tn1, tn2, tn3, tn4, tn5, tn6, tn7, tn8, tn9, tn10, tn11, tn12, tn13, tn14, tn15, tn16, tn17, tn18, tn19, tn20, tn21, tn22, tn23, tn24, tn25, tn26, tn27, gI_sI, gI_sA, gI_sAs, gI_sR, gI_sJ, gA_sI, gA_sA, gA_sAs, gA_sR, gA_sJ, gR_sI, gR_sA, gR_sAs, gR_sR, gR_sJ, gJ_sI, gJ_sA, gJ_sAs, gJ_sR, gJ_sJ]) (by simp (disch := omega) only [f_M_back, f_M_in, x2, if_true, if_false, and_true, true_and, and_false, false_and, and_self, nm_eq, bd_eq, i0, i1, i2, i3, i4, i5, i6, i7, i8, i9, i10, i11, i12, i17, i20, i21, i26, i27, i32, i34, i48, i54, i57, i59, i64, i98, i99, i100, i106, i107, i114, i119, i120, i121, i141, i243, i255, i270, i340, i680, i999, i1000000, iz_add, iz_sub, iz_mul, iz_neg, iz_lt, iz_le, iz_eq, if_pos, if_neg, ix_iz, Int.toNat_natCast, tn0, tn1, tn2, tn3, tn4, tn5, tn6, tn7, tn8, tn9, tn10, tn11, tn12, tn13, tn14, tn15, tn16, tn17, tn18, tn19, tn20, tn21, tn22, tn23, tn24, tn25, tn26, tn27, gI_sI, gI_sA, gI_sAs, gI_sR, gI_sJ, gA_sI, gA_sA, gA_sAs, gA_sR, gA_sJ, gR_sI, gR_sA, gR_sAs, gR_sR, gR_sJ, gJ_sI, gJ_sA, gJ_sAs, gJ_sR, gJ_sJ]) h.n1
    · have x1' : gA σ 19 i = iz 1 := x1
      have x2' : gA τ 6 i = iz 1 := x2
      have f1 := f_bec (σ := σ) (r0 := 36) (r1 := 80 + 4 * i) (by omega)
      have hB := bec_MT (r0 := 36) (r1 := 80 + 4 * i) (by omega) x4
      have hT : f_T_back σ (iz i) = some (iz (m' 3 + m' 4), sI (bec σ 36 (80 + 4 * i)) 16 2 (iz 0)) := by
        have f2 := t_all (σ := sI (bec σ 36 (80 + 4 * i)) 16 2 (iz 0)) (r := 36) hB.2.2.2.1 hB.2.2.2.2.1
        simp (disch := omega) only [f_T_back, x1', f1, f2, if_true, if_false, and_true, true_and, and_false, false_and, and_self, nm_eq, bd_eq, i0, i1, i2, i3, i4, i5, i6, i7, i8, i9, i10, i11, i12, i17, i20, i21, i26, i27, i32, i34, i48, i54, i57, i59, i64, i98, i99, i100, i106, i107, i114, i119, i120, i121, i141, i243, i255, i270, i340, i680, i999, i1000000, iz_add, iz_sub, iz_mul, iz_neg, iz_lt, iz_le, iz_eq, if_pos, if_neg, ix_iz, Int.toNat_natCast, tn0, tn1, tn2, tn3, tn4, tn5, tn6, tn7, tn8, tn9, tn10, tn11, tn12, tn13, tn14, tn15, tn16, tn17, tn18, tn19, tn20, tn21, tn22, tn23, tn24, tn25, tn26, tn27, gI_sI, gI_sA, gI_sAs, gI_sR, gI_sJ, gA_sI, gA_sA, gA_sAs, gA_sR, gA_sJ, gR_sI, gR_sA, gR_sAs, gR_sR, gR_sJ, gJ_sI, gJ_sA, gJ_sAs, gJ_sR, gJ_sJ]
      have hM : f_M_back τ (iz i) = some (iz (m' 3 + m' 4), sI (sAs (sI τ 0 0 (iz 0)) 4 (va_cpy (gA τ 5) (gA τ 4) (27 * i) 0 27)) 0 18 (iz 0)) := by
        unfold f_M_back
        rw [nm_eq, i0, i1, m_in _ (by omega) (by omega) (by decide) (by decide) (by decide) (by decide), bd_eq, show (if (0 : Int) ≤ (i : Int) ∧ (i : Int) ≤ 1 then (1 : Int32) else 0) = 1 from if_pos (by omega), if_neg (by decide), ix_n hi (by decide), if_neg (by rw [show gA (sI τ 0 0 (iz 0)) 6 i = iz 1 from x2']; decide)]
        unfold f_M_back_30
        rw [lp_copy (E := fun s => f_M_back_59 s) _ 5 4 (27 * i) 0 27 (by decide) (Or.inl (by decide)) (fun f j hj => ?_) (fun f => ?_)]
        · have e3 : va_cpy (gA τ 5) (gA τ 4) (27 * i) 0 27 3 = iz (m' 3) := by
            rw [pk_cpy_in (by omega) (by omega)]
            exact x5.1 3 (by decide)
          have e4 : va_cpy (gA τ 5) (gA τ 4) (27 * i) 0 27 4 = iz (m' 4) := by
            rw [pk_cpy_in (by omega) (by omega)]
            exact x5.1 4 (by decide)
          simp (disch := omega) only [f_M_back_59, e3, e4, if_true, if_false, and_true, true_and, and_false, false_and, and_self, nm_eq, bd_eq, i0, i1, i2, i3, i4, i5, i6, i7, i8, i9, i10, i11, i12, i17, i20, i21, i26, i27, i32, i34, i48, i54, i57, i59, i64, i98, i99, i100, i106, i107, i114, i119, i120, i121, i141, i243, i255, i270, i340, i680, i999, i1000000, iz_add, iz_sub, iz_mul, iz_neg, iz_lt, iz_le, iz_eq, if_pos, if_neg, ix_iz, Int.toNat_natCast, tn0, tn1, tn2, tn3, tn4, tn5, tn6, tn7, tn8, tn9, tn10, tn11, tn12, tn13, tn14, tn15, tn16, tn17, tn18, tn19, tn20, tn21, tn22, tn23, tn24, tn25, tn26, tn27, gI_sI, gI_sA, gI_sAs, gI_sR, gI_sJ, gA_sI, gA_sA, gA_sAs, gA_sR, gA_sJ, gR_sI, gR_sA, gR_sAs, gR_sR, gR_sJ, gJ_sI, gJ_sA, gJ_sAs, gJ_sR, gJ_sJ]
        · have e : (27 : Int) * (i : Int) + j = ((27 * i + j : Nat) : Int) := by omega
          have e0 : 0 + j = j := Nat.zero_add j
          simp (disch := omega) only [f_M_back_30_b, e, e0, if_true, if_false, and_true, true_and, and_false, false_and, and_self, nm_eq, bd_eq, i0, i1, i2, i3, i4, i5, i6, i7, i8, i9, i10, i11, i12, i17, i20, i21, i26, i27, i32, i34, i48, i54, i57, i59, i64, i98, i99, i100, i106, i107, i114, i119, i120, i121, i141, i243, i255, i270, i340, i680, i999, i1000000, iz_add, iz_sub, iz_mul, iz_neg, iz_lt, iz_le, iz_eq, if_pos, if_neg, ix_iz, Int.toNat_natCast, tn0, tn1, tn2, tn3, tn4, tn5, tn6, tn7, tn8, tn9, tn10, tn11, tn12, tn13, tn14, tn15, tn16, tn17, tn18, tn19, tn20, tn21, tn22, tn23, tn24, tn25, tn26, tn27, gI_sI, gI_sA, gI_sAs, gI_sR, gI_sJ, gA_sI, gA_sA, gA_sAs, gA_sR, gA_sJ, gR_sI, gR_sA, gR_sAs, gR_sR, gR_sJ, gJ_sI, gJ_sA, gJ_sAs, gJ_sR, gJ_sJ]
        · simp (disch := omega) only [f_M_back_30_b, if_true, if_false, and_true, true_and, and_false, false_and, and_self, nm_eq, bd_eq, i0, i1, i2, i3, i4, i5, i6, i7, i8, i9, i10, i11, i12, i17, i20, i21, i26, i27, i32, i34, i48, i54, i57, i59, i64, i98, i99, i100, i106, i107, i114, i119, i120, i121, i141, i243, i255, i270, i340, i680, i999, i1000000, iz_add, iz_sub, iz_mul, iz_neg, iz_lt, iz_le, iz_eq, if_pos, if_neg, ix_iz, Int.toNat_natCast, tn0, tn1, tn2, tn3, tn4, tn5, tn6, tn7, tn8, tn9, tn10, tn11, tn12, tn13, tn14, tn15, tn16, tn17, tn18, tn19, tn20, tn21, tn22, tn23, tn24, tn25, tn26, tn27, gI_sI, gI_sA, gI_sAs, gI_sR, gI_sJ, gA_sI, gA_sA, gA_sAs, gA_sR, gA_sJ, gR_sI, gR_sA, gR_sAs, gR_sR, gR_sJ, gJ_sI, gJ_sA, gJ_sAs, gJ_sR, gJ_sJ]
      obtain ⟨k, w, k1, k2, k3, k4, k5, k6⟩ := h9
      refine Both.of hT hM ⟨W, R, g, lim, lea, st, m', h1, h2.ext' rfl rfl, h3.mv rfl rfl (fun q => ?_) (fun q => ?_), x3.up (Nat.le_succ _), ?_, ?_, ?_, ?_, ?_, ?_, ?_, ?_, ?_, ?_⟩
      · rw [gI_sI, if_neg (by omega), bec_I (by omega)]
      · rw [gI_sI, if_neg (by omega), bec_I (by omega)]
      · rw [gA_sI, gA_sAs, if_pos rfl]
        refine x5.congr hg (fun j hj => ?_)
        rw [pk_cpy_in (by omega) (by omega)]
        congr 1
      · exact hB.ext (fun q => by rw [gI_sI, if_neg (by omega)]) rfl rfl rfl
      · exact h7
      · intro c v hc hv
        rw [gA_sI, bec_A (by decide)]
        exact h8 c v hc hv
      · exact Rhist.none k2 (by rw [gI_sI, if_neg (by decide), bec_I (by decide)]; exact k5) (by rw [gI_sI, if_pos ⟨rfl, rfl⟩]) (by rw [gI_sI, if_pos ⟨rfl, rfl⟩])
      · intro i' hi'
        rw [gA_sI, bec_A (by decide)]
        rcases h10 i' hi' with z | ⟨y1, y2, m2, y3, y4, y5⟩
        · exact Or.inl z
        · exact Or.inr ⟨y1, y2, m2, y3.up (Nat.le_succ _), (bec_MTo (by omega) y4).ext (fun q => by rw [gI_sI, if_neg (by omega)]) rfl rfl rfl, y5⟩
      · exact h11
      · exact h12
      · exact h13
      · exact h14
  · exact Both.of (r := iz (-1)) (by simp (disch := omega) only [f_T_back, if_true, if_false, and_true, true_and, and_false, false_and, and_self, nm_eq, bd_eq, i0, i1, i2, i3, i4, i5, i6, i7, i8, i9, i10, i11, i12, i17, i20, i21, i26, i27, i32, i34, i48, i54, i57, i59, i64, i98, i99, i100, i106, i107, i114, i119, i120, i121, i141, i243, i255, i270, i340, i680, i999, i1000000, iz_add, iz_sub, iz_mul, iz_neg, iz_lt, iz_le, iz_eq, if_pos, if_neg, ix_iz, Int.toNat_natCast, tn0, tn1, tn2, tn3, tn4, tn5, tn6, tn7, tn8, tn9, tn10, tn11, tn12, tn13, tn14, tn15, tn16, tn17, tn18, tn19, tn20, tn21, tn22, tn23, tn24, tn25, tn26, tn27, gI_sI, gI_sA, gI_sAs, gI_sR, gI_sJ, gA_sI, gA_sA, gA_sAs, gA_sR, gA_sJ, gR_sI, gR_sA, gR_sAs, gR_sR, gR_sJ, gJ_sI, gJ_sA, gJ_sAs, gJ_sR, gJ_sJ]) (by simp (disch := omega) only [f_M_back, f_M_in, if_true, if_false, and_true, true_and, and_false, false_and, and_self, nm_eq, bd_eq, i0, i1, i2, i3, i4, i5, i6, i7, i8, i9, i10, i11, i12, i17, i20, i21, i26, i27, i32, i34, i48, i54, i57, i59, i64, i98, i99, i100, i106, i107, i114, i119, i120, i121, i141, i243, i255, i270, i340, i680, i999, i1000000, iz_add, iz_sub, iz_mul, iz_neg, iz_lt, iz_le, iz_eq, if_pos, if_neg, ix_iz, Int.toNat_natCast, tn0, tn1, tn2, tn3, tn4, tn5, tn6, tn7, tn8, tn9, tn10, tn11, tn12, tn13, tn14, tn15, tn16, tn17, tn18, tn19, tn20, tn21, tn22, tn23, tn24, tn25, tn26, tn27, gI_sI, gI_sA, gI_sAs, gI_sR, gI_sJ, gA_sI, gA_sA, gA_sAs, gA_sR, gA_sJ, gR_sI, gR_sA, gR_sAs, gR_sR, gR_sJ, gJ_sI, gJ_sA, gJ_sAs, gJ_sR, gJ_sJ]) h.n1
theorem b_objects {n : Nat} {σ τ : Mm} (h : Rel n σ τ) : Both n (f_T_objects σ) (f_M_objects τ) := by
  have h' := h
  obtain ⟨W, R, g, lim, lea, st, m, H⟩ := h'
  have H' := H
  obtain ⟨h1, h2, h3, h4, h5, h6, h7, h8, h9, h10, h11, h12, h13, h14⟩ := H'
  have hst := h1.st
  have h3' := h3
  have h6' := h6
  have h4' := h4
  obtain ⟨p, d, e1, e2, e3, e4, e5, e6, e7, e8⟩ := h3'
  obtain ⟨c0, c1, c2, c3, c4, c5, c6, hTl⟩ := h6'
  obtain ⟨g0, g1, g2, g3, g4, g5, g6, g7⟩ := h4'
  have b0 := h5.1 0 (by decide)
  have b1 := h5.1 1 (by decide)
  have b2 := h5.1 2 (by decide)
  have b3 := h5.1 3 (by decide)
  have b4 := h5.1 4 (by decide)
  have b5 := h5.1 5 (by decide)
  have b6 := h5.1 6 (by decide)
  have epl : ∀ K : Nat → Option (Int32 × Mm), rk (gR σ 0 2) okPl K = K p := fun K => by rw [e1]; rcases e3 with ⟨rfl, _⟩ | ⟨rfl, _⟩ <;> rfl
  obtain ⟨y1, y2, y3, y4, y5, y6, y7, y8⟩ := h1
  obtain ⟨m1, m2, m3, m4, m5, m6⟩ := h2
  have h1 : Yok W R g lim lea st := H.1
  have h2 : YM τ W R g lim lea st := H.2.1
  have hS := t_hasNoStart h3 (by omega) (by omega)
  have hS2 := m_hasStart H.go'.1 H.go'.2.1
  by_cases q : st = -9
  · rw [if_pos q] at hS hS2
    exact Both.of (r := iz (-2)) (by simp (disch := omega) only [f_T_objects, hS, if_true, if_false, and_true, true_and, and_false, false_and, and_self, nm_eq, bd_eq, i0, i1, i2, i3, i4, i5, i6, i7, i8, i9, i10, i11, i12, i17, i20, i21, i26, i27, i32, i34, i48, i54, i57, i59, i64, i98, i99, i100, i106, i107, i114, i119, i120, i121, i141, i243, i255, i270, i340, i680, i999, i1000000, iz_add, iz_sub, iz_mul, iz_neg, iz_lt, iz_le, iz_eq, if_pos, if_neg, ix_iz, Int.toNat_natCast, tn0, tn1, tn2, tn3, tn4, tn5, tn6, tn7, tn8, tn9, tn10, tn11, tn12, tn13, tn14, tn15, tn16, tn17, tn18, tn19, tn20, tn21, tn22, tn23, tn24, tn25, tn26, tn27, gI_sI, gI_sA, gI_sAs, gI_sR, gI_sJ, gA_sI, gA_sA, gA_sAs, gA_sR, gA_sJ, gR_sI, gR_sA, gR_sAs, gR_sR, gR_sJ, gJ_sI, gJ_sA, gJ_sAs, gJ_sR, gJ_sJ]) (by simp (disch := omega) only [f_M_objects, hS2, if_true, if_false, and_true, true_and, and_false, false_and, and_self, nm_eq, bd_eq, i0, i1, i2, i3, i4, i5, i6, i7, i8, i9, i10, i11, i12, i17, i20, i21, i26, i27, i32, i34, i48, i54, i57, i59, i64, i98, i99, i100, i106, i107, i114, i119, i120, i121, i141, i243, i255, i270, i340, i680, i999, i1000000, iz_add, iz_sub, iz_mul, iz_neg, iz_lt, iz_le, iz_eq, if_pos, if_neg, ix_iz, Int.toNat_natCast, tn0, tn1, tn2, tn3, tn4, tn5, tn6, tn7, tn8, tn9, tn10, tn11, tn12, tn13, tn14, tn15, tn16, tn17, tn18, tn19, tn20, tn21, tn22, tn23, tn24, tn25, tn26, tn27, gI_sI, gI_sA, gI_sAs, gI_sR, gI_sJ, gA_sI, gA_sA, gA_sAs, gA_sR, gA_sJ, gR_sI, gR_sA, gR_sAs, gR_sR, gR_sJ, gJ_sI, gJ_sA, gJ_sAs, gJ_sR, gJ_sJ]) h.n1
  · rw [if_neg q] at hS hS2
    obtain ⟨mv, hmv, hmv2⟩ : ∃ mv : Nat, m 2 = mv ∧ mv < 2 := by
      rcases g2 with h | h
      · exact ⟨0, h, by omega⟩
      · exact ⟨1, h, by omega⟩
    have cm : gA σ 39 mv = iz (m (5 + mv)) := by
      rcases (show mv = 0 ∨ mv = 1 by omega) with rfl | rfl
      · exact c5
      · exact c6
    have bm : gA τ 4 (5 + mv) = iz (m (5 + mv)) := h5.1 _ (by omega)
    have rm : 0 ≤ m (5 + mv) ∧ m (5 + mv) ≤ 3 := by
      rcases (show mv = 0 ∨ mv = 1 by omega) with rfl | rfl
      · exact g5
      · exact g6
    rw [hmv] at c2 b2
    have e5 : (5 : Int) + mv = ((5 + mv : Nat) : Int) := by omega
    by_cases q3 : m (5 + mv) = 3
    · have cm' : gA σ 39 mv = iz 3 := by rw [cm, q3]
      have bm' : gA τ 4 (5 + mv) = iz 3 := by rw [bm, q3]
      exact Both.of (r := iz (-2)) (by simp (disch := omega) only [f_T_objects, hS, c2, cm', if_true, if_false, and_true, true_and, and_false, false_and, and_self, nm_eq, bd_eq, i0, i1, i2, i3, i4, i5, i6, i7, i8, i9, i10, i11, i12, i17, i20, i21, i26, i27, i32, i34, i48, i54, i57, i59, i64, i98, i99, i100, i106, i107, i114, i119, i120, i121, i141, i243, i255, i270, i340, i680, i999, i1000000, iz_add, iz_sub, iz_mul, iz_neg, iz_lt, iz_le, iz_eq, if_pos, if_neg, ix_iz, Int.toNat_natCast, tn0, tn1, tn2, tn3, tn4, tn5, tn6, tn7, tn8, tn9, tn10, tn11, tn12, tn13, tn14, tn15, tn16, tn17, tn18, tn19, tn20, tn21, tn22, tn23, tn24, tn25, tn26, tn27, gI_sI, gI_sA, gI_sAs, gI_sR, gI_sJ, gA_sI, gA_sA, gA_sAs, gA_sR, gA_sJ, gR_sI, gR_sA, gR_sAs, gR_sR, gR_sJ, gJ_sI, gJ_sA, gJ_sAs, gJ_sR, gJ_sJ]) (by simp (disch := omega) only [f_M_objects, hS2, b2, e5, bm', if_true, if_false, and_true, true_and, and_false, false_and, and_self, nm_eq, bd_eq, i0, i1, i2, i3, i4, i5, i6, i7, i8, i9, i10, i11, i12, i17, i20, i21, i26, i27, i32, i34, i48, i54, i57, i59, i64, i98, i99, i100, i106, i107, i114, i119, i120, i121, i141, i243, i255, i270, i340, i680, i999, i1000000, iz_add, iz_sub, iz_mul, iz_neg, iz_lt, iz_le, iz_eq, if_pos, if_neg, ix_iz, Int.toNat_natCast, tn0, tn1, tn2, tn3, tn4, tn5, tn6, tn7, tn8, tn9, tn10, tn11, tn12, tn13, tn14, tn15, tn16, tn17, tn18, tn19, tn20, tn21, tn22, tn23, tn24, tn25, tn26, tn27, gI_sI, gI_sA, gI_sAs, gI_sR, gI_sJ, gA_sI, gA_sA, gA_sAs, gA_sR, gA_sJ, gR_sI, gR_sA, gR_sAs, gR_sR, gR_sJ, gJ_sI, gJ_sA, gJ_sAs, gJ_sR, gJ_sJ]) h.n1
    · obtain ⟨σ', τ', s1, s2, s3, s4, s5⟩ := save_both H.go'
      have s3' := s3
      obtain ⟨w1, w2, w3, w4, w5, w6, w7, w8, w9, w10, w11, w12, w13, w14⟩ := s3'
      have d2 : gI σ' 36 5 = iz mv := by rw [← hmv]; exact w6.2.2.1
      have dm : gA σ' 39 mv = iz (m (5 + mv)) := by
        rcases (show mv = 0 ∨ mv = 1 by omega) with rfl | rfl
        · exact w6.2.2.2.2.2.1
        · exact w6.2.2.2.2.2.2.1
      have u2 : gA τ' 4 2 = iz mv := by rw [← hmv]; exact w5.1 2 (by decide)
      have um : gA τ' 4 (5 + mv) = iz (m (5 + mv)) := w5.1 _ (by omega)
      have ne : ¬ (2 : Nat) = 5 + mv := by omega
      have ux : ∀ x, upd (gA τ' 4) (5 + mv) x 2 = iz mv := fun x => by rw [pk_un ne]; exact u2
      have us : ∀ (f : Nat → Int32) (k : Nat) (x : Int32), upd f k x k = x := fun f k x => pk_us
      refine Both.of (r := iz (1 - mv)) (σ' := sI (sA σ' 39 mv (iz (m (5 + mv) + 1))) 36 5 (iz (1 - mv))) (τ' := sA (sA τ' 4 (5 + mv) (iz (m (5 + mv) + 1))) 4 2 (iz (1 - mv))) (by simp (disch := omega) only [f_T_objects, hS, c2, cm, s1, dm, if_true, if_false, and_true, true_and, and_false, false_and, and_self, nm_eq, bd_eq, i0, i1, i2, i3, i4, i5, i6, i7, i8, i9, i10, i11, i12, i17, i20, i21, i26, i27, i32, i34, i48, i54, i57, i59, i64, i98, i99, i100, i106, i107, i114, i119, i120, i121, i141, i243, i255, i270, i340, i680, i999, i1000000, iz_add, iz_sub, iz_mul, iz_neg, iz_lt, iz_le, iz_eq, if_pos, if_neg, ix_iz, Int.toNat_natCast, tn0, tn1, tn2, tn3, tn4, tn5, tn6, tn7, tn8, tn9, tn10, tn11, tn12, tn13, tn14, tn15, tn16, tn17, tn18, tn19, tn20, tn21, tn22, tn23, tn24, tn25, tn26, tn27, gI_sI, gI_sA, gI_sAs, gI_sR, gI_sJ, gA_sI, gA_sA, gA_sAs, gA_sR, gA_sJ, gR_sI, gR_sA, gR_sAs, gR_sR, gR_sJ, gJ_sI, gJ_sA, gJ_sAs, gJ_sR, gJ_sJ]) (by simp (disch := omega) only [f_M_objects, hS2, b2, e5, bm, s2, u2, um, ux, us, if_true, if_false, and_true, true_and, and_false, false_and, and_self, nm_eq, bd_eq, i0, i1, i2, i3, i4, i5, i6, i7, i8, i9, i10, i11, i12, i17, i20, i21, i26, i27, i32, i34, i48, i54, i57, i59, i64, i98, i99, i100, i106, i107, i114, i119, i120, i121, i141, i243, i255, i270, i340, i680, i999, i1000000, iz_add, iz_sub, iz_mul, iz_neg, iz_lt, iz_le, iz_eq, if_pos, if_neg, ix_iz, Int.toNat_natCast, tn0, tn1, tn2, tn3, tn4, tn5, tn6, tn7, tn8, tn9, tn10, tn11, tn12, tn13, tn14, tn15, tn16, tn17, tn18, tn19, tn20, tn21, tn22, tn23, tn24, tn25, tn26, tn27, gI_sI, gI_sA, gI_sAs, gI_sR, gI_sJ, gA_sI, gA_sA, gA_sAs, gA_sR, gA_sJ, gR_sI, gR_sA, gR_sAs, gR_sR, gR_sJ, gJ_sI, gJ_sA, gJ_sAs, gJ_sR, gJ_sJ]) ?_
      obtain ⟨mn, q2, q5, qo⟩ : ∃ mn : Nat → Int, mn 2 = 1 - mv ∧ mn (5 + mv) = m (5 + mv) + 1 ∧ ∀ k, k ≠ 2 → k ≠ 5 + mv → mn k = m k := by
        refine ⟨fun k => if k = 2 then 1 - mv else if k = 5 + mv then m k + 1 else m k, if_pos rfl, ?_, fun k k1 k2 => ?_⟩
        · dsimp only; rw [if_neg (by omega), if_pos rfl]
        · dsimp only; rw [if_neg k1, if_neg k2]
      have q0 := qo 0 (by decide) (by omega)
      have q1 := qo 1 (by decide) (by omega)
      have q3' := qo 3 (by decide) (by omega)
      have q4' := qo 4 (by decide) (by omega)
      have q7 : ∀ c, mn (7 + c) = m (7 + c) := fun c => qo _ (by omega) (by omega)
      have ec := (show mv = 0 ∨ mv = 1 by omega)
      refine ⟨W, R, g, lim, lea, st, mn, w1, w2.ext' rfl rfl, w3.mv rfl rfl (fun _ => rfl) (fun _ => rfl), ?_, ?_, ?_, w7, w8, w9.mv (Nat.le_succ _) ((eqH_sA (by decide)).trans (eqH_sI (by decide))) rfl rfl rfl rfl, w10.mv (Nat.le_succ _) ((eqH_sA (by decide)).trans (eqH_sI (by decide))) rfl rfl rfl, w11, w12, w13, w14⟩
      · obtain ⟨v0, v1, v2, v3, v4, v5, v6, v7⟩ := w4
        refine ⟨by rw [q0]; exact v0, by rw [q1]; exact v1, by rw [q2]; omega, by rw [q3']; omega, by rw [q4']; omega, ?_, ?_, fun c hc => ?_⟩
        · rcases ec with rfl | rfl
          · have z : mn 5 = m 5 + 1 := q5
            have z2 : m 5 ≠ 3 := q3
            omega
          · have z : mn 5 = m 5 := qo 5 (by decide) (by decide)
            omega
        · rcases ec with rfl | rfl
          · have z : mn 6 = m 6 := qo 6 (by decide) (by decide)
            omega
          · have z : mn 6 = m 6 + 1 := q5
            have z2 : m 6 ≠ 3 := q3
            omega
        · have := v7 c hc
          dsimp only at this ⊢
          rw [q7]
          exact this
      · refine ⟨fun k hk => ?_, fun c hc => ?_⟩
        · rw [gA_sA, if_pos rfl, gA_sA, if_pos rfl]
          by_cases z : k = 2
          · rw [z, pk_us, q2]
          · rw [pk_un z]
            by_cases z2 : k = 5 + mv
            · rw [z2, pk_us, q5]
            · rw [pk_un z2, qo k z z2]
              exact w5.1 k hk
        · rw [gA_sA, if_pos rfl, gA_sA, if_pos rfl, pk_un (by omega), pk_un (by omega), q7]
          exact w5.2 c hc
      · obtain ⟨v0, v1, v2, v3, v4, v5, v6, v7⟩ := w6
        refine ⟨by rw [q0]; exact v0, by rw [q1]; exact v1, by rw [q2]; rfl, by rw [q3']; exact v3, by rw [q4']; exact v4, ?_, ?_, fun c hc => ?_⟩
        · rcases ec with rfl | rfl
          · rw [show mn 5 = m (5 + 0) + 1 from q5, gA_sI, gA_sA, if_pos rfl]; exact pk_us
          · rw [qo 5 (by decide) (by decide), gA_sI, gA_sA, if_pos rfl, pk_un (by decide)]
            exact v5
        · rcases ec with rfl | rfl
          · rw [qo 6 (by decide) (by decide), gA_sI, gA_sA, if_pos rfl, pk_un (by decide)]
            exact v6
          · rw [show mn 6 = m (5 + 1) + 1 from q5, gA_sI, gA_sA, if_pos rfl]; exact pk_us
        · have := v7 c hc
          dsimp only at this ⊢
          rw [q7]
          exact this
