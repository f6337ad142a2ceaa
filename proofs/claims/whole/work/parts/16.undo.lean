theorem Yok.g20 {W R : Nat} {g : Nat → Bool} {lim lea st : Int} (Y : Yok W R g lim lea st) : ∀ c, g c = true → c < 20 := fun c hc => (Y.2.2.2.2.2.2.1 c hc).1
theorem b_undo {n : Nat} {σ τ : Mm} (h : Rel n σ τ) : Both n (f_T_undo σ) (f_M_undo τ) := by
  have h' := h
  obtain ⟨W, R, g, lim, lea, st, m, H⟩ := h'
  have H' := H
  obtain ⟨h1, h2, h3, h4, h5, h6, h7, h8, h9, h10, h11, h12, h13, h14⟩ := H'
  have hst := h1.st
  have h3' := h3
  have h6' := h6
  have h4' := h4
  obtain ⟨p, d, e1, e2, e3, e4, e5, e6, e7, e8⟩ := h3'
  obtain ⟨c0, c1, c2, c3, c4, c5, c6, hTl⟩ := h6'
  obtain ⟨g0, g1, g2, g3, g4, g5, g6, g7⟩ := h4'
  have b0 := h5.1 0 (by decide)
  have b1 := h5.1 1 (by decide)
  have b2 := h5.1 2 (by decide)
  have b3 := h5.1 3 (by decide)
  have b4 := h5.1 4 (by decide)
  have b5 := h5.1 5 (by decide)
  have b6 := h5.1 6 (by decide)
  have epl : ∀ K : Nat → Option (Int32 × Mm), rk (gR σ 0 2) okPl K = K p := fun K => by rw [e1]; rcases e3 with ⟨rfl, _⟩ | ⟨rfl, _⟩ <;> rfl
  obtain ⟨y1, y2, y3, y4, y5, y6, y7, y8⟩ := h1
  obtain ⟨m1, m2, m3, m4, m5, m6⟩ := h2
  have h1 : Yok W R g lim lea st := H.1
  have h2 : YM τ W R g lim lea st := H.2.1
  obtain ⟨k, w, k1, k2, k3, k4, k5, k6⟩ := h9
  have hg := h1.g20
  by_cases q : k = 0
  · exact Both.of (r := iz (-2)) (by simp (disch := omega) only [f_T_undo, f_Hi_restore, k3, if_true, if_false, and_true, true_and, and_false, false_and, and_self, nm_eq, bd_eq, i0, i1, i2, i3, i4, i5, i6, i7, i8, i9, i10, i11, i12, i17, i20, i21, i26, i27, i32, i34, i48, i54, i57, i59, i64, i98, i99, i100, i106, i107, i114, i119, i120, i121, i141, i243, i255, i270, i340, i680, i999, i1000000, iz_add, iz_sub, iz_mul, iz_neg, iz_lt, iz_le, iz_eq, if_pos, if_neg, ix_iz, Int.toNat_natCast, tn0, tn1, tn2, tn3, tn4, tn5, tn6, tn7, tn8, tn9, tn10, tn11, tn12, tn13, tn14, tn15, tn16, tn17, tn18, tn19, tn20, tn21, tn22, tn23, tn24, tn25, tn26, tn27, gI_sI, gI_sA, gI_sAs, gI_sR, gI_sJ, gA_sI, gA_sA, gA_sAs, gA_sR, gA_sJ, gR_sI, gR_sA, gR_sAs, gR_sR, gR_sJ, gJ_sI, gJ_sA, gJ_sAs, gJ_sR, gJ_sJ]) (by simp (disch := omega) only [f_M_undo, k4, if_true, if_false, and_true, true_and, and_false, false_and, and_self, nm_eq, bd_eq, i0, i1, i2, i3, i4, i5, i6, i7, i8, i9, i10, i11, i12, i17, i20, i21, i26, i27, i32, i34, i48, i54, i57, i59, i64, i98, i99, i100, i106, i107, i114, i119, i120, i121, i141, i243, i255, i270, i340, i680, i999, i1000000, iz_add, iz_sub, iz_mul, iz_neg, iz_lt, iz_le, iz_eq, if_pos, if_neg, ix_iz, Int.toNat_natCast, tn0, tn1, tn2, tn3, tn4, tn5, tn6, tn7, tn8, tn9, tn10, tn11, tn12, tn13, tn14, tn15, tn16, tn17, tn18, tn19, tn20, tn21, tn22, tn23, tn24, tn25, tn26, tn27, gI_sI, gI_sA, gI_sAs, gI_sR, gI_sJ, gA_sI, gA_sA, gA_sAs, gA_sR, gA_sJ, gR_sI, gR_sA, gR_sAs, gR_sR, gR_sJ, gJ_sI, gJ_sA, gJ_sAs, gJ_sR, gJ_sJ]) h.n1
  · obtain ⟨m', a1, a2, a3⟩ := k6 0 (by omega)
    rw [show (w + 10 - 0) % 10 = w by omega] at a2
    have hT : f_T_undo σ = some (iz (k - 1 : Nat), sI (sI (bec σ 36 (40 + 4 * w)) 16 1 (iz ((w + 9) % 10 : Nat))) 16 2 (iz (k - 1 : Nat))) := by
      have f1 := f_bec (σ := σ) (r0 := 36) (r1 := 40 + 4 * w) (by omega)
      have f2 : gI (bec σ 36 (40 + 4 * w)) 16 1 = iz w := by rw [bec_I (by decide)]; exact k5
      have f3 : gI (bec σ 36 (40 + 4 * w)) 16 2 = iz k := by rw [bec_I (by decide)]; exact k3
      have f4 : rm32 (iz ((w : Int) + 10 - 1)) (iz 10) = iz ((w + 9) % 10 : Nat) := by
        rw [iz_rm (by omega) (by omega) (by decide) (by decide)]
        congr 1
        omega
      have f5 : (k : Int) - 1 = ((k - 1 : Nat) : Int) := by omega
      simp (disch := omega) only [f_T_undo, f_Hi_restore, k3, k5, f1, f2, f3, f4, f5, if_true, if_false, and_true, true_and, and_false, false_and, and_self, nm_eq, bd_eq, i0, i1, i2, i3, i4, i5, i6, i7, i8, i9, i10, i11, i12, i17, i20, i21, i26, i27, i32, i34, i48, i54, i57, i59, i64, i98, i99, i100, i106, i107, i114, i119, i120, i121, i141, i243, i255, i270, i340, i680, i999, i1000000, iz_add, iz_sub, iz_mul, iz_neg, iz_lt, iz_le, iz_eq, if_pos, if_neg, ix_iz, Int.toNat_natCast, tn0, tn1, tn2, tn3, tn4, tn5, tn6, tn7, tn8, tn9, tn10, tn11, tn12, tn13, tn14, tn15, tn16, tn17, tn18, tn19, tn20, tn21, tn22, tn23, tn24, tn25, tn26, tn27, gI_sI, gI_sA, gI_sAs, gI_sR, gI_sJ, gA_sI, gA_sA, gA_sAs, gA_sR, gA_sJ, gR_sI, gR_sA, gR_sAs, gR_sR, gR_sJ, gJ_sI, gJ_sA, gJ_sAs, gJ_sR, gJ_sJ]
    have hM : f_M_undo τ = some (iz (k - 1 : Nat), sAs (sI (sI τ 0 0 (iz 0)) 0 18 (iz (k - 1 : Nat))) 4 (va_cpy (gA τ 7) (gA τ 4) (27 * (k - 1)) 0 27)) := by
      have f5 : (k : Int) - 1 = ((k - 1 : Nat) : Int) := by omega
      unfold f_M_undo
      rw [nm_eq, show gI (sI τ 0 0 0) 0 18 = iz k from k4, if_neg (by rw [i0, iz_eq (by omega) (by omega) (by decide) (by decide)]; omega), nm_eq, i1, i0, iz_sub, f5]
      unfold f_M_undo_27
      rw [lp_copy (E := fun s => f_M_undo_59 s) _ 7 4 (27 * (k - 1)) 0 27 (by decide) (Or.inl (by decide)) (fun f j hj => ?_) (fun f => ?_)]
      · unfold f_M_undo_59
        rw [gI_sAs, gI_sI, if_pos ⟨rfl, rfl⟩]
        rfl
      · have e : (27 : Int) * ((k - 1 : Nat) : Int) + j = ((27 * (k - 1) + j : Nat) : Int) := by omega
        have e0 : 0 + j = j := Nat.zero_add j
        simp (disch := omega) only [f_M_undo_27_b, e, e0, if_true, if_false, and_true, true_and, and_false, false_and, and_self, nm_eq, bd_eq, i0, i1, i2, i3, i4, i5, i6, i7, i8, i9, i10, i11, i12, i17, i20, i21, i26, i27, i32, i34, i48, i54, i57, i59, i64, i98, i99, i100, i106, i107, i114, i119, i120, i121, i141, i243, i255, i270, i340, i680, i999, i1000000, iz_add, iz_sub, iz_mul, iz_neg, iz_lt, iz_le, iz_eq, if_pos, if_neg, ix_iz, Int.toNat_natCast, tn0, tn1, tn2, tn3, tn4, tn5, tn6, tn7, tn8, tn9, tn10, tn11, tn12, tn13, tn14, tn15, tn16, tn17, tn18, tn19, tn20, tn21, tn22, tn23, tn24, tn25, tn26, tn27, gI_sI, gI_sA, gI_sAs, gI_sR, gI_sJ, gA_sI, gA_sA, gA_sAs, gA_sR, gA_sJ, gR_sI, gR_sA, gR_sAs, gR_sR, gR_sJ, gJ_sI, gJ_sA, gJ_sAs, gJ_sR, gJ_sJ]
      · simp (disch := omega) only [f_M_undo_27_b, if_true, if_false, and_true, true_and, and_false, false_and, and_self, nm_eq, bd_eq, i0, i1, i2, i3, i4, i5, i6, i7, i8, i9, i10, i11, i12, i17, i20, i21, i26, i27, i32, i34, i48, i54, i57, i59, i64, i98, i99, i100, i106, i107, i114, i119, i120, i121, i141, i243, i255, i270, i340, i680, i999, i1000000, iz_add, iz_sub, iz_mul, iz_neg, iz_lt, iz_le, iz_eq, if_pos, if_neg, ix_iz, Int.toNat_natCast, tn0, tn1, tn2, tn3, tn4, tn5, tn6, tn7, tn8, tn9, tn10, tn11, tn12, tn13, tn14, tn15, tn16, tn17, tn18, tn19, tn20, tn21, tn22, tn23, tn24, tn25, tn26, tn27, gI_sI, gI_sA, gI_sAs, gI_sR, gI_sJ, gA_sI, gA_sA, gA_sAs, gA_sR, gA_sJ, gR_sI, gR_sA, gR_sAs, gR_sR, gR_sJ, gJ_sI, gJ_sA, gJ_sAs, gJ_sR, gJ_sJ]
    refine Both.of hT hM ⟨W, R, g, lim, lea, st, m', h1, h2.ext' rfl rfl, h3.mv rfl rfl (fun q => ?_) (fun q => ?_), a1.up (Nat.le_succ _), ?_, ?_, ?_, ?_, ?_, ?_, ?_, ?_, ?_, ?_⟩
    · rw [gI_sI, if_neg (by omega), gI_sI, if_neg (by omega), bec_I (by decide)]
    · rw [gI_sI, if_neg (by omega), gI_sI, if_neg (by omega), bec_I (by decide)]
    · rw [gA_sAs, if_pos rfl]
      refine MM.congr (f := fun j => gA τ 7 (27 * (k - 1 - 0) + j)) hg a3 (fun j hj => ?_)
      rw [pk_cpy_in (by omega) (by omega)]
      congr 1
    · exact (bec_MT (by omega) a2).ext (fun q => by rw [gI_sI, if_neg (by omega), gI_sI, if_neg (by omega)]) rfl rfl rfl
    · exact h7
    · intro c v hc hv
      rw [gA_sI, gA_sI, bec_A (by decide)]
      exact h8 c v hc hv
    · refine ⟨k - 1, (w + 9) % 10, by omega, by omega, ?_, ?_, ?_, fun i hi => ?_⟩
      · rw [gI_sI, if_pos ⟨rfl, rfl⟩]
      · rw [gI_sAs, gI_sI, if_pos ⟨rfl, rfl⟩]
      · rw [gI_sI, if_neg (by decide), gI_sI, if_pos ⟨rfl, rfl⟩]
      · obtain ⟨m2, z1, z2, z3⟩ := k6 (i + 1) (by omega)
        refine ⟨m2, z1.up (Nat.le_succ _), ?_, ?_⟩
        · rw [show ((w + 9) % 10 + 10 - i) % 10 = (w + 10 - (i + 1)) % 10 by omega]
          exact (bec_MTo (by omega) z2).ext (fun q => by rw [gI_sI, if_neg (by omega), gI_sI, if_neg (by omega)]) rfl rfl rfl
        · rw [gA_sAs, if_neg (by decide), show k - 1 - 1 - i = k - 1 - (i + 1) by omega]
          exact z3
    · intro i hi
      rw [gA_sAs, if_neg (by decide), gA_sAs, if_neg (by decide), gA_sI, gA_sI, bec_A (by decide)]
      rcases h10 i hi with z | ⟨x1, x2, m2, x3, x4, x5⟩
      · exact Or.inl z
      · exact Or.inr ⟨x1, x2, m2, x3.up (Nat.le_succ _), (bec_MTo (by omega) x4).ext (fun q => by rw [gI_sI, if_neg (by omega), gI_sI, if_neg (by omega)]) rfl rfl rfl, x5⟩
    · exact h11
    · exact h12
    · exact h13
    · exact h14
theorem t_all {σ : Mm} {a b : Int} {r : Nat} (h1 : gA σ (r + 2) 0 = iz a) (h2 : gA σ (r + 2) 1 = iz b) : f_Mo_allVerdicts σ r = some (iz (a + b), σ) := by
  unfold f_Mo_allVerdicts
  simp (disch := omega) only [h1, h2, if_true, if_false, and_true, true_and, and_false, false_and, and_self, nm_eq, bd_eq, i0, i1, i2, i3, i4, i5, i6, i7, i8, i9, i10, i11, i12, i17, i20, i21, i26, i27, i32, i34, i48, i54, i57, i59, i64, i98, i99, i100, i106, i107, i114, i119, i120, i121, i141, i243, i255, i270, i340, i680, i999, i1000000, iz_add, iz_sub, iz_mul, iz_neg, iz_lt, iz_le, iz_eq, if_pos, if_neg, ix_iz, Int.toNat_natCast, tn0, tn1, tn2, tn3, tn4, tn5, tn6, tn7, tn8, tn9, tn10, tn11, tn12, tn13, tn14, tn15, tn16, tn17, tn18, tn19, tn20, tn21, tn22, tn23, tn24, tn25, tn26, tn27, gI_sI, gI_sA, gI_sAs, gI_sR, gI_sJ, gA_sI, gA_sA, gA_sAs, gA_sR, gA_sJ, gR_sI, gR_sA, gR_sAs, gR_sR, gR_sJ, gJ_sI, gJ_sA, gJ_sAs, gJ_sR, gJ_sJ]
theorem b_keep {n : Nat} {σ τ : Mm} (h : Rel n σ τ) (v : Int32) : Both n (f_T_keep σ v) (f_M_keep τ v) := by
  obtain ⟨z, z1, z2, rfl⟩ := iz_of v
  have h' := h
  obtain ⟨W, R, g, lim, lea, st, m, H⟩ := h'
  have H' := H
  obtain ⟨h1, h2, h3, h4, h5, h6, h7, h8, h9, h10, h11, h12, h13, h14⟩ := H'
  have hst := h1.st
  have h3' := h3
  have h6' := h6
  have h4' := h4
  obtain ⟨p, d, e1, e2, e3, e4, e5, e6, e7, e8⟩ := h3'
  obtain ⟨c0, c1, c2, c3, c4, c5, c6, hTl⟩ := h6'
  obtain ⟨g0, g1, g2, g3, g4, g5, g6, g7⟩ := h4'
  have b0 := h5.1 0 (by decide)
  have b1 := h5.1 1 (by decide)
  have b2 := h5.1 2 (by decide)
  have b3 := h5.1 3 (by decide)
  have b4 := h5.1 4 (by decide)
  have b5 := h5.1 5 (by decide)
  have b6 := h5.1 6 (by decide)
  have epl : ∀ K : Nat → Option (Int32 × Mm), rk (gR σ 0 2) okPl K = K p := fun K => by rw [e1]; rcases e3 with ⟨rfl, _⟩ | ⟨rfl, _⟩ <;> rfl
  obtain ⟨y1, y2, y3, y4, y5, y6, y7, y8⟩ := h1
  obtain ⟨m1, m2, m3, m4, m5, m6⟩ := h2
  have h1 : Yok W R g lim lea st := H.1
  have h2 : YM τ W R g lim lea st := H.2.1
  have hg := h1.g20
  by_cases q1 : z < 0
  · exact Both.of (r := iz (-1)) (by simp (disch := omega) only [f_T_keep, if_true, if_false, and_true, true_and, and_false, false_and, and_self, nm_eq, bd_eq, i0, i1, i2, i3, i4, i5, i6, i7, i8, i9, i10, i11, i12, i17, i20, i21, i26, i27, i32, i34, i48, i54, i57, i59, i64, i98, i99, i100, i106, i107, i114, i119, i120, i121, i141, i243, i255, i270, i340, i680, i999, i1000000, iz_add, iz_sub, iz_mul, iz_neg, iz_lt, iz_le, iz_eq, if_pos, if_neg, ix_iz, Int.toNat_natCast, tn0, tn1, tn2, tn3, tn4, tn5, tn6, tn7, tn8, tn9, tn10, tn11, tn12, tn13, tn14, tn15, tn16, tn17, tn18, tn19, tn20, tn21, tn22, tn23, tn24, tn25, tn26, tn27, gI_sI, gI_sA, gI_sAs, gI_sR, gI_sJ, gA_sI, gA_sA, gA_sAs, gA_sR, gA_sJ, gR_sI, gR_sA, gR_sAs, gR_sR, gR_sJ, gJ_sI, gJ_sA, gJ_sAs, gJ_sR, gJ_sJ]) (by simp (disch := omega) only [f_M_keep, f_M_in, if_true, if_false, and_true, true_and, and_false, false_and, and_self, nm_eq, bd_eq, i0, i1, i2, i3, i4, i5, i6, i7, i8, i9, i10, i11, i12, i17, i20, i21, i26, i27, i32, i34, i48, i54, i57, i59, i64, i98, i99, i100, i106, i107, i114, i119, i120, i121, i141, i243, i255, i270, i340, i680, i999, i1000000, iz_add, iz_sub, iz_mul, iz_neg, iz_lt, iz_le, iz_eq, if_pos, if_neg, ix_iz, Int.toNat_natCast, tn0, tn1, tn2, tn3, tn4, tn5, tn6, tn7, tn8, tn9, tn10, tn11, tn12, tn13, tn14, tn15, tn16, tn17, tn18, tn19, tn20, tn21, tn22, tn23, tn24, tn25, tn26, tn27, gI_sI, gI_sA, gI_sAs, gI_sR, gI_sJ, gA_sI, gA_sA, gA_sAs, gA_sR, gA_sJ, gR_sI, gR_sA, gR_sAs, gR_sR, gR_sJ, gJ_sI, gJ_sA, gJ_sAs, gJ_sR, gJ_sJ]) h.n1
  by_cases q2 : z < 2
  · obtain ⟨i, rfl⟩ : ∃ i : Nat, z = i := ⟨z.toNat, by omega⟩
    have hi : i < 2 := by omega
    have hT : f_T_keep σ (iz i) = some (iz (m 3 + m 4), sA (bec σ (80 + 4 * i) 36) 19 i (iz 1)) := by
      have f1 := f_bec (σ := σ) (r0 := 80 + 4 * i) (r1 := 36) (by omega)
      have f2 := t_all (σ := sA (bec σ (80 + 4 * i) 36) 19 i (iz 1)) (r := 36) (a := m 3) (b := m 4) (by rw [gA_sA, if_neg (by decide), bec_A (by omega)]; exact c3) (by rw [gA_sA, if_neg (by decide), bec_A (by omega)]; exact c4)
      simp (disch := omega) only [f_T_keep, f1, f2, if_true, if_false, and_true, true_and, and_false, false_and, and_self, nm_eq, bd_eq, i0, i1, i2, i3, i4, i5, i6, i7, i8, i9, i10, i11, i12, i17, i20, i21, i26, i27, i32, i34, i48, i54, i57, i59, i64, i98, i99, i100, i106, i107, i114, i119, i120, i121, i141, i243, i255, i270, i340, i680, i999, i1000000, iz_add, iz_sub, iz_mul, iz_neg, iz_lt, iz_le, iz_eq, if_pos, if_neg, ix_iz, Int.toNat_natCast, tn0, tn1, tn2, tn3, tn4, tn5, tn6, tn7, tn8, tn9, tn10, tn11, tn12, tn13, tn14, tn15, tn16, tn17, tn18, tn19, tn20, tn21, tn22, tn23, tn24, tn25, tn26, tn27, gI_sI, gI_sA, gI_sAs, gI_sR, gI_sJ, gA_sI, gA_sA, gA_sAs, gA_sR, gA_sJ, gR_sI, gR_sA, gR_sAs, gR_sR, gR_sJ, gJ_sI, gJ_sA, gJ_sAs, gJ_sR, gJ_sJ]
    have hM : f_M_keep τ (iz i) = some (iz (m 3 + m 4), sA (sAs (sI τ 0 0 (iz 0)) 5 (va_cpy (gA τ 4) (gA τ 5) 0 (27 * i) 27)) 6 i (iz 1)) := by
      unfold f_M_keep
      rw [nm_eq, i0, i1, m_in _ (by omega) (by omega) (by decide) (by decide) (by decide) (by decide), bd_eq, show (if (0 : Int) ≤ (i : Int) ∧ (i : Int) ≤ 1 then (1 : Int32) else 0) = 1 from if_pos (by omega), if_neg (by decide)]
      unfold f_M_keep_18
      rw [lp_copy (E := fun s => f_M_keep_47 s (iz i)) _ 4 5 0 (27 * i) 27 (by decide) (Or.inl (by decide)) (fun f j hj => ?_) (fun f => ?_)]
      · have e := b3
        have e' := b4
        simp (disch := omega) only [f_M_keep_47, e, e', if_true, if_false, and_true, true_and, and_false, false_and, and_self, nm_eq, bd_eq, i0, i1, i2, i3, i4, i5, i6, i7, i8, i9, i10, i11, i12, i17, i20, i21, i26, i27, i32, i34, i48, i54, i57, i59, i64, i98, i99, i100, i106, i107, i114, i119, i120, i121, i141, i243, i255, i270, i340, i680, i999, i1000000, iz_add, iz_sub, iz_mul, iz_neg, iz_lt, iz_le, iz_eq, if_pos, if_neg, ix_iz, Int.toNat_natCast, tn0, tn1, tn2, tn3, tn4, tn5, tn6, tn7, tn8, tn9, tn10, tn11, tn12, tn13, tn14, tn15, tn16, tn17, tn18, tn19, tn20, tn21, tn22, tn23, tn24, tn25, tn26, tn27, gI_sI, gI_sA, gI_sAs, gI_sR, gI_sJ, gA_sI, gA_sA, gA_sAs, gA_sR, gA_sJ, gR_sI, gR_sA, gR_sAs, gR_sR, gR_sJ, gJ_sI, gJ_sA, gJ_sAs, gJ_sR, gJ_sJ]
      · have e : (27 : Int) * (i : Int) + j = ((27 * i + j : Nat) : Int) := by omega
        have e0 : 0 + j = j := Nat.zero_add j
        simp (disch := omega) only [f_M_keep_18_b, e, e0, if_true, if_false, and_true, true_and, and_false, false_and, and_self, nm_eq, bd_eq, i0, i1, i2, i3, i4, i5, i6, i7, i8, i9, i10, i11, i12, i17, i20, i21, i26, i27, i32, i34, i48, i54, i57, i59, i64, i98, i99, i100, i106, i107, i114, i119, i120, i121, i141, i243, i255, i270, i340, i680, i999, i1000000, iz_add, iz_sub, iz_mul, iz_neg, iz_lt, iz_le, iz_eq, if_pos, if_neg, ix_iz, Int.toNat_natCast, tn0, tn1, tn2, tn3, tn4, tn5, tn6, tn7, tn8, tn9, tn10, tn11, tn12, tn13, tn14, tn15, tn16, tn17, tn18, tn19, tn20, tn21, tn22, tn23, tn24, tn25, tn26, tn27, gI_sI, gI_sA, gI_sAs, gI_sR, gI_sJ, gA_sI, gA_sA, gA_sAs, gA_sR, gA_sJ, gR_sI, gR_sA, gR_sAs, gR_sR, gR_sJ, gJ_sI, gJ_sA, gJ_sAs, gJ_sR, gJ_sJ]
      · simp (disch := omega) only [f_M_keep_18_b, if_true, if_false, and_true, true_and, and_false, false_and, and_self, nm_eq, bd_eq, i0, i1, i2, i3, i4, i5, i6, i7, i8, i9, i10, i11, i12, i17, i20, i21, i26, i27, i32, i34, i48, i54, i57, i59, i64, i98, i99, i100, i106, i107, i114, i119, i120, i121, i141, i243, i255, i270, i340, i680, i999, i1000000, iz_add, iz_sub, iz_mul, iz_neg, iz_lt, iz_le, iz_eq, if_pos, if_neg, ix_iz, Int.toNat_natCast, tn0, tn1, tn2, tn3, tn4, tn5, tn6, tn7, tn8, tn9, tn10, tn11, tn12, tn13, tn14, tn15, tn16, tn17, tn18, tn19, tn20, tn21, tn22, tn23, tn24, tn25, tn26, tn27, gI_sI, gI_sA, gI_sAs, gI_sR, gI_sJ, gA_sI, gA_sA, gA_sAs, gA_sR, gA_sJ, gR_sI, gR_sA, gR_sAs, gR_sR, gR_sJ, gJ_sI, gJ_sA, gJ_sAs, gJ_sR, gJ_sJ]
    refine Both.of hT hM ⟨W, R, g, lim, lea, st, m, h1, h2.ext' rfl rfl, h3.mv rfl rfl (fun q => ?_) (fun q => ?_), h4.up (Nat.le_succ _), ?_, ?_, ?_, ?_, ?_, ?_, ?_, ?_, ?_, ?_⟩
    · rw [gI_sA, bec_I (by omega)]
    · rw [gI_sA, bec_I (by omega)]
    · exact h5
    · exact (bec_MTo (by omega) h6).ext (fun q => rfl) rfl rfl rfl
    · rw [gI_sA, gI_sA, bec_I (by omega), bec_I (by omega)]; exact h7
    · intro c v hc hv
      rw [gA_sA, if_neg (by decide), bec_A (by omega)]
      exact h8 c v hc hv
    · obtain ⟨k, w, k1, k2, k3, k4, k5, k6⟩ := h9
      refine ⟨k, w, k1, k2, ?_, k4, ?_, fun i' hi' => ?_⟩
      · rw [gI_sA, bec_I (by omega)]; exact k3
      · rw [gI_sA, bec_I (by omega)]; exact k5
      · obtain ⟨m2, x1, x2, x3⟩ := k6 i' hi'
        exact ⟨m2, x1.up (Nat.le_succ _), (bec_MTo (by omega) x2).ext (fun q => rfl) (by rw [gA_sA, if_neg (by omega)]) (by rw [gA_sA, if_neg (by omega)]) (by rw [gA_sA, if_neg (by omega)]), x3⟩
    · intro i' hi'
      rw [gA_sA, if_pos rfl, gA_sA, if_pos rfl, gA_sA, if_neg (by decide), bec_A (by omega), gA_sAs, if_neg (by decide), gA_sAs, if_pos rfl]
      by_cases e : i' = i
      · subst e
        refine Or.inr ⟨pk_us, pk_us, m, h4.up (Nat.le_succ _), ?_, MM.cpy (Y := True) hg h5⟩
        exact (bec_MT (by omega) h6).ext (fun q => rfl) (by rw [gA_sA, if_neg (by omega)]) (by rw [gA_sA, if_neg (by omega)]) (by rw [gA_sA, if_neg (by omega)])
      · rw [pk_un e, pk_un e]
        rcases h10 i' hi' with z | ⟨x1, x2, m2, x3, x4, x5⟩
        · exact Or.inl z
        · refine Or.inr ⟨x1, x2, m2, x3.up (Nat.le_succ _), ?_, x5.congr hg (fun j hj => ?_)⟩
          · exact (bec_MTo (by omega) x4).ext (fun q => rfl) (by rw [gA_sA, if_neg (by omega)]) (by rw [gA_sA, if_neg (by omega)]) (by rw [gA_sA, if_neg (by omega)])
          · rw [pk_cpy_out (by omega)]
    · unfold Rtold; rw [gI_sA, bec_I (by omega), gA_sA, if_neg (by decide), bec_A (by omega)]; exact h11
    · unfold Rtext; rw [gI_sA, bec_I (by omega), gA_sA, if_neg (by decide), bec_A (by omega)]; exact h12
    · exact h13
    · exact h14
  · exact Both.of (r := iz (-1)) (by simp (disch := omega) only [f_T_keep, if_true, if_false, and_true, true_and, and_false, false_and, and_self, nm_eq, bd_eq, i0, i1, i2, i3, i4, i5, i6, i7, i8, i9, i10, i11, i12, i17, i20, i21, i26, i27, i32, i34, i48, i54, i57, i59, i64, i98, i99, i100, i106, i107, i114, i119, i120, i121, i141, i243, i255, i270, i340, i680, i999, i1000000, iz_add, iz_sub, iz_mul, iz_neg, iz_lt, iz_le, iz_eq, if_pos, if_neg, ix_iz, Int.toNat_natCast, tn0, tn1, tn2, tn3, tn4, tn5, tn6, tn7, tn8, tn9, tn10, tn11, tn12, tn13, tn14, tn15, tn16, tn17, tn18, tn19, tn20, tn21, tn22, tn23, tn24, tn25, tn26, tn27, gI_sI, gI_sA, gI_sAs, gI_sR, gI_sJ, gA_sI, gA_sA, gA_sAs, gA_sR, gA_sJ, gR_sI, gR_sA, gR_sAs, gR_sR, gR_sJ, gJ_sI, gJ_sA, gJ_sAs, gJ_sR, gJ_sJ]) (by simp (disch := omega) only [f_M_keep, f_M_in, if_true, if_false, and_true, true_and, and_false, false_and, and_self, nm_eq, bd_eq, i0, i1, i2, i3, i4, i5, i6, i7, i8, i9, i10, i11, i12, i17, i20, i21, i26, i27, i32, i34, i48, i54, i57, i59, i64, i98, i99, i100, i106, i107, i114, i119, i120, i121, i141, i243, i255, i270, i340, i680, i999, i1000000, iz_add, iz_sub, iz_mul, iz_neg, iz_lt, iz_le, iz_eq, if_pos, if_neg, ix_iz, Int.toNat_natCast, tn0, tn1, tn2, tn3, tn4, tn5, tn6, tn7, tn8, tn9, tn10, tn11, tn12, tn13, tn14, tn15, tn16, tn17, tn18, tn19, tn20, tn21, tn22, tn23, tn24, tn25, tn26, tn27, gI_sI, gI_sA, gI_sAs, gI_sR, gI_sJ, gA_sI, gA_sA, gA_sAs, gA_sR, gA_sJ, gR_sI, gR_sA, gR_sAs, gR_sR, gR_sJ, gJ_sI, gJ_sA, gJ_sAs, gJ_sR, gJ_sJ]) h.n1
