-- a push
def Tp (w : Nat) (v mv t t' : Int) : Prop := ((w = 0 ∧ v = 1 ∧ mv = 1) ∧ t = -4 ∧ t' = -4) ∨ ((w = 0 ∧ v = 1 ∧ mv = 1) ∧ t ≠ -4 ∧ t' = t + -1) ∨ ((w = 1 ∧ v = 2 ∧ mv = 0) ∧ t = 4 ∧ t' = 4) ∨ ((w = 1 ∧ v = 2 ∧ mv = 0) ∧ t ≠ 4 ∧ t' = t + 1)
theorem Tp.ex {v : Int} (h : v = 1 ∨ v = 2) (t : Int) : ∃ w mv t', Tp w v mv t t' := by
  rcases h with rfl | rfl
  · by_cases q : t = -4
    · exact ⟨0, 1, -4, Or.inl ⟨⟨rfl, rfl, rfl⟩, q, rfl⟩⟩
    · exact ⟨0, 1, t + -1, Or.inr (Or.inl ⟨⟨rfl, rfl, rfl⟩, q, rfl⟩)⟩
  · by_cases q : t = 4
    · exact ⟨1, 0, 4, Or.inr (Or.inr (Or.inl ⟨⟨rfl, rfl, rfl⟩, q, rfl⟩))⟩
    · exact ⟨1, 0, t + 1, Or.inr (Or.inr (Or.inr ⟨⟨rfl, rfl, rfl⟩, q, rfl⟩))⟩
def aTip (σ : Mm) (w c : Nat) (mv t' k st : Int) : Mm := sI (sI (sI (sAs (sA (sA σ 37 c (iz t')) 38 w (iz (k + 1))) 39 (fun j => if j < 2 then iz 0 else gA σ 39 j)) 36 3 (iz st)) 36 4 (iz 0)) 36 5 (iz mv)
theorem t_tip {σ : Mm} {w c : Nat} {v mv t t' k st : Int} (hp : Tp w v mv t t') (hc : c < 20) (h1 : -4 ≤ t) (h2 : t ≤ 4) (h3 : gA σ 37 c = iz t) (h4 : gA σ 38 w = iz k) :
    f_Mo_tip σ 36 (iz c) (iz v) (iz st) = some (0, aTip σ w c mv t' k st) := by
  have ff : ∀ σ : Mm, f_Ar_fill σ 39 2 (iz 0) = some (iz 0, sAs σ 39 (fun j => if j < 2 then iz 0 else gA σ 39 j)) := fun σ => f_fill σ 39 2 (iz 0) (by decide)
  have n1 : (36 : Nat) + 1 = 37 := rfl
  have n2 : (36 : Nat) + 2 = 38 := rfl
  have n3 : (36 : Nat) + 3 = 39 := rfl
  have nn : ∀ (σ : Mm) (v : Int32), gA (sA σ 37 c v) 38 = gA σ 38 := fun σ v => by rw [gA_sA, if_neg (by decide)]
  have nm : ∀ (σ : Mm) (v : Int32) (v' : Int32), gA (sA (sA σ 37 c v) 38 w v') 39 = gA σ 39 := fun σ v v' => by rw [gA_sA, if_neg (by decide), gA_sA, if_neg (by decide)]
  unfold aTip
  rcases hp with ⟨⟨rfl, rfl, rfl⟩, q, rfl⟩ | ⟨⟨rfl, rfl, rfl⟩, q, rfl⟩ | ⟨⟨rfl, rfl, rfl⟩, q, rfl⟩ | ⟨⟨rfl, rfl, rfl⟩, q, rfl⟩
  · rw [q] at h3
    simp (disch := omega) only [f_Mo_tip, f_Mo_tip_16, f_Mo_tip_50, f_Mo_tip_84, h3, h4, ff, n1, n2, n3, nn, if_true, if_false, and_true, true_and, and_false, false_and, and_self, nm_eq, bd_eq, i0, i1, i2, i3, i4, i5, i6, i7, i8, i9, i10, i11, i12, i17, i20, i21, i26, i27, i32, i34, i48, i54, i57, i59, i64, i98, i99, i100, i106, i107, i114, i119, i120, i121, i141, i243, i255, i270, i340, i680, i999, i1000000, iz_add, iz_sub, iz_mul, iz_neg, iz_lt, iz_le, iz_eq, if_pos, if_neg, ix_iz, Int.toNat_natCast, tn0, tn1, tn2, tn3, tn4, tn5, tn6, tn7, tn8, tn9, tn10, tn11, tn12, tn13, tn14, tn15, tn16, tn17, tn18, tn19, tn20, tn21, tn22, tn23, tn24, tn25, tn26, tn27, gI_sI, gI_sA, gI_sAs, gI_sR, gI_sJ, gA_sI, gA_sA, gA_sAs, gA_sR, gA_sJ, gR_sI, gR_sA, gR_sAs, gR_sR, gR_sJ, gJ_sI, gJ_sA, gJ_sAs, gJ_sR, gJ_sJ]
  · by_cases q5 : t = -3
    · rw [q5] at h3 ⊢
      simp (disch := omega) only [f_Mo_tip, f_Mo_tip_16, f_Mo_tip_50, f_Mo_tip_84, h3, h4, ff, n1, n2, n3, nn, if_true, if_false, and_true, true_and, and_false, false_and, and_self, nm_eq, bd_eq, i0, i1, i2, i3, i4, i5, i6, i7, i8, i9, i10, i11, i12, i17, i20, i21, i26, i27, i32, i34, i48, i54, i57, i59, i64, i98, i99, i100, i106, i107, i114, i119, i120, i121, i141, i243, i255, i270, i340, i680, i999, i1000000, iz_add, iz_sub, iz_mul, iz_neg, iz_lt, iz_le, iz_eq, if_pos, if_neg, ix_iz, Int.toNat_natCast, tn0, tn1, tn2, tn3, tn4, tn5, tn6, tn7, tn8, tn9, tn10, tn11, tn12, tn13, tn14, tn15, tn16, tn17, tn18, tn19, tn20, tn21, tn22, tn23, tn24, tn25, tn26, tn27, gI_sI, gI_sA, gI_sAs, gI_sR, gI_sJ, gA_sI, gA_sA, gA_sAs, gA_sR, gA_sJ, gR_sI, gR_sA, gR_sAs, gR_sR, gR_sJ, gJ_sI, gJ_sA, gJ_sAs, gJ_sR, gJ_sJ]
      rfl
    · have q6 : -4 < t + -1 := by omega
      simp (disch := omega) only [f_Mo_tip, f_Mo_tip_16, f_Mo_tip_50, f_Mo_tip_84, h3, h4, ff, q6, n1, n2, n3, nn, if_true, if_false, and_true, true_and, and_false, false_and, and_self, nm_eq, bd_eq, i0, i1, i2, i3, i4, i5, i6, i7, i8, i9, i10, i11, i12, i17, i20, i21, i26, i27, i32, i34, i48, i54, i57, i59, i64, i98, i99, i100, i106, i107, i114, i119, i120, i121, i141, i243, i255, i270, i340, i680, i999, i1000000, iz_add, iz_sub, iz_mul, iz_neg, iz_lt, iz_le, iz_eq, if_pos, if_neg, ix_iz, Int.toNat_natCast, tn0, tn1, tn2, tn3, tn4, tn5, tn6, tn7, tn8, tn9, tn10, tn11, tn12, tn13, tn14, tn15, tn16, tn17, tn18, tn19, tn20, tn21, tn22, tn23, tn24, tn25, tn26, tn27, gI_sI, gI_sA, gI_sAs, gI_sR, gI_sJ, gA_sI, gA_sA, gA_sAs, gA_sR, gA_sJ, gR_sI, gR_sA, gR_sAs, gR_sR, gR_sJ, gJ_sI, gJ_sA, gJ_sAs, gJ_sR, gJ_sJ]
  · rw [q] at h3
    simp (disch := omega) only [f_Mo_tip, f_Mo_tip_16, f_Mo_tip_50, f_Mo_tip_84, h3, h4, ff, n1, n2, n3, nn, if_true, if_false, and_true, true_and, and_false, false_and, and_self, nm_eq, bd_eq, i0, i1, i2, i3, i4, i5, i6, i7, i8, i9, i10, i11, i12, i17, i20, i21, i26, i27, i32, i34, i48, i54, i57, i59, i64, i98, i99, i100, i106, i107, i114, i119, i120, i121, i141, i243, i255, i270, i340, i680, i999, i1000000, iz_add, iz_sub, iz_mul, iz_neg, iz_lt, iz_le, iz_eq, if_pos, if_neg, ix_iz, Int.toNat_natCast, tn0, tn1, tn2, tn3, tn4, tn5, tn6, tn7, tn8, tn9, tn10, tn11, tn12, tn13, tn14, tn15, tn16, tn17, tn18, tn19, tn20, tn21, tn22, tn23, tn24, tn25, tn26, tn27, gI_sI, gI_sA, gI_sAs, gI_sR, gI_sJ, gA_sI, gA_sA, gA_sAs, gA_sR, gA_sJ, gR_sI, gR_sA, gR_sAs, gR_sR, gR_sJ, gJ_sI, gJ_sA, gJ_sAs, gJ_sR, gJ_sJ]
  · by_cases q5 : t = 3
    · rw [q5] at h3 ⊢
      simp (disch := omega) only [f_Mo_tip, f_Mo_tip_16, f_Mo_tip_50, f_Mo_tip_84, h3, h4, ff, n1, n2, n3, nn, if_true, if_false, and_true, true_and, and_false, false_and, and_self, nm_eq, bd_eq, i0, i1, i2, i3, i4, i5, i6, i7, i8, i9, i10, i11, i12, i17, i20, i21, i26, i27, i32, i34, i48, i54, i57, i59, i64, i98, i99, i100, i106, i107, i114, i119, i120, i121, i141, i243, i255, i270, i340, i680, i999, i1000000, iz_add, iz_sub, iz_mul, iz_neg, iz_lt, iz_le, iz_eq, if_pos, if_neg, ix_iz, Int.toNat_natCast, tn0, tn1, tn2, tn3, tn4, tn5, tn6, tn7, tn8, tn9, tn10, tn11, tn12, tn13, tn14, tn15, tn16, tn17, tn18, tn19, tn20, tn21, tn22, tn23, tn24, tn25, tn26, tn27, gI_sI, gI_sA, gI_sAs, gI_sR, gI_sJ, gA_sI, gA_sA, gA_sAs, gA_sR, gA_sJ, gR_sI, gR_sA, gR_sAs, gR_sR, gR_sJ, gJ_sI, gJ_sA, gJ_sAs, gJ_sR, gJ_sJ]
      rfl
    · have q6 : t + 1 < 4 := by omega
      have q7 : -4 < t + 1 := by omega
      simp (disch := omega) only [f_Mo_tip, f_Mo_tip_16, f_Mo_tip_50, f_Mo_tip_84, h3, h4, ff, q6, q7, n1, n2, n3, nn, if_true, if_false, and_true, true_and, and_false, false_and, and_self, nm_eq, bd_eq, i0, i1, i2, i3, i4, i5, i6, i7, i8, i9, i10, i11, i12, i17, i20, i21, i26, i27, i32, i34, i48, i54, i57, i59, i64, i98, i99, i100, i106, i107, i114, i119, i120, i121, i141, i243, i255, i270, i340, i680, i999, i1000000, iz_add, iz_sub, iz_mul, iz_neg, iz_lt, iz_le, iz_eq, if_pos, if_neg, ix_iz, Int.toNat_natCast, tn0, tn1, tn2, tn3, tn4, tn5, tn6, tn7, tn8, tn9, tn10, tn11, tn12, tn13, tn14, tn15, tn16, tn17, tn18, tn19, tn20, tn21, tn22, tn23, tn24, tn25, tn26, tn27, gI_sI, gI_sA, gI_sAs, gI_sR, gI_sJ, gA_sI, gA_sA, gA_sAs, gA_sR, gA_sJ, gR_sI, gR_sA, gR_sAs, gR_sR, gR_sJ, gJ_sI, gJ_sA, gJ_sAs, gJ_sR, gJ_sJ]
def bTip (τ : Mm) (w c : Nat) (mv t' k st : Int) : Mm := sA (sA (sA (sA (sA (sA (sA τ 4 (7 + c) (iz t')) 4 (3 + w) (iz (k + 1))) 4 0 (iz st)) 4 1 (iz 0)) 4 2 (iz mv)) 4 5 (iz 0)) 4 6 (iz 0)
theorem m_tip {τ : Mm} {w c : Nat} {v mv t t' k st : Int} (hp : Tp w v mv t t') (hc : c < 20) (h1 : -4 ≤ t) (h2 : t ≤ 4) (h0 : gI τ 0 21 = iz c) (h4 : gA τ 4 (3 + w) = iz k) (h5 : gA τ 2 2 = iz st) :
    (if v = 1 then f_M_pushes_143 τ (iz v) (iz t) (-1) else f_M_pushes_143 τ (iz v) (iz t) 1) = some (iz v, bTip τ w c mv t' k st) := by
  have e1 : (7 : Int) + c = ((7 + c : Nat) : Int) := by omega
  have e2 : ∀ x : Int32, upd (gA τ 4) (7 + c) x 3 = gA τ 4 3 := fun x => pk_un (by omega)
  have e3 : ∀ x : Int32, upd (gA τ 4) (7 + c) x 4 = gA τ 4 4 := fun x => pk_un (by omega)
  have r1 : ((3 : Int) + 1 - 1).toNat = 3 := rfl
  have r2 : ((3 : Int) + 2 - 1).toNat = 4 := rfl
  have r3 : (3 : Nat) + 0 = 3 := rfl
  have r4 : (3 : Nat) + 1 = 4 := rfl
  unfold bTip
  rcases hp with ⟨⟨rfl, rfl, rfl⟩, q, rfl⟩ | ⟨⟨rfl, rfl, rfl⟩, q, rfl⟩ | ⟨⟨rfl, rfl, rfl⟩, q, rfl⟩ | ⟨⟨rfl, rfl, rfl⟩, q, rfl⟩
  · rw [q]
    have h4' : gA τ 4 3 = iz k := h4
    simp (disch := omega) only [f_M_pushes_143, f_M_pushes_177, f_M_pushes_226, h0, h4', h5, e1, e2, r1, r3, if_true, if_false, and_true, true_and, and_false, false_and, and_self, nm_eq, bd_eq, i0, i1, i2, i3, i4, i5, i6, i7, i8, i9, i10, i11, i12, i17, i20, i21, i26, i27, i32, i34, i48, i54, i57, i59, i64, i98, i99, i100, i106, i107, i114, i119, i120, i121, i141, i243, i255, i270, i340, i680, i999, i1000000, iz_add, iz_sub, iz_mul, iz_neg, iz_lt, iz_le, iz_eq, if_pos, if_neg, ix_iz, Int.toNat_natCast, tn0, tn1, tn2, tn3, tn4, tn5, tn6, tn7, tn8, tn9, tn10, tn11, tn12, tn13, tn14, tn15, tn16, tn17, tn18, tn19, tn20, tn21, tn22, tn23, tn24, tn25, tn26, tn27, gI_sI, gI_sA, gI_sAs, gI_sR, gI_sJ, gA_sI, gA_sA, gA_sAs, gA_sR, gA_sJ, gR_sI, gR_sA, gR_sAs, gR_sR, gR_sJ, gJ_sI, gJ_sA, gJ_sAs, gJ_sR, gJ_sJ]
  · have h4' : gA τ 4 3 = iz k := h4
    simp (disch := omega) only [f_M_pushes_143, f_M_pushes_177, f_M_pushes_226, h0, h4', h5, e1, e2, r1, r3, if_true, if_false, and_true, true_and, and_false, false_and, and_self, nm_eq, bd_eq, i0, i1, i2, i3, i4, i5, i6, i7, i8, i9, i10, i11, i12, i17, i20, i21, i26, i27, i32, i34, i48, i54, i57, i59, i64, i98, i99, i100, i106, i107, i114, i119, i120, i121, i141, i243, i255, i270, i340, i680, i999, i1000000, iz_add, iz_sub, iz_mul, iz_neg, iz_lt, iz_le, iz_eq, if_pos, if_neg, ix_iz, Int.toNat_natCast, tn0, tn1, tn2, tn3, tn4, tn5, tn6, tn7, tn8, tn9, tn10, tn11, tn12, tn13, tn14, tn15, tn16, tn17, tn18, tn19, tn20, tn21, tn22, tn23, tn24, tn25, tn26, tn27, gI_sI, gI_sA, gI_sAs, gI_sR, gI_sJ, gA_sI, gA_sA, gA_sAs, gA_sR, gA_sJ, gR_sI, gR_sA, gR_sAs, gR_sR, gR_sJ, gJ_sI, gJ_sA, gJ_sAs, gJ_sR, gJ_sJ]
  · rw [q]
    have h4' : gA τ 4 4 = iz k := h4
    simp (disch := omega) only [f_M_pushes_143, f_M_pushes_177, f_M_pushes_226, h0, h4', h5, e1, e3, r2, r4, if_true, if_false, and_true, true_and, and_false, false_and, and_self, nm_eq, bd_eq, i0, i1, i2, i3, i4, i5, i6, i7, i8, i9, i10, i11, i12, i17, i20, i21, i26, i27, i32, i34, i48, i54, i57, i59, i64, i98, i99, i100, i106, i107, i114, i119, i120, i121, i141, i243, i255, i270, i340, i680, i999, i1000000, iz_add, iz_sub, iz_mul, iz_neg, iz_lt, iz_le, iz_eq, if_pos, if_neg, ix_iz, Int.toNat_natCast, tn0, tn1, tn2, tn3, tn4, tn5, tn6, tn7, tn8, tn9, tn10, tn11, tn12, tn13, tn14, tn15, tn16, tn17, tn18, tn19, tn20, tn21, tn22, tn23, tn24, tn25, tn26, tn27, gI_sI, gI_sA, gI_sAs, gI_sR, gI_sJ, gA_sI, gA_sA, gA_sAs, gA_sR, gA_sJ, gR_sI, gR_sA, gR_sAs, gR_sR, gR_sJ, gJ_sI, gJ_sA, gJ_sAs, gJ_sR, gJ_sJ]
  · have h4' : gA τ 4 4 = iz k := h4
    simp (disch := omega) only [f_M_pushes_143, f_M_pushes_177, f_M_pushes_226, h0, h4', h5, e1, e3, r2, r4, if_true, if_false, and_true, true_and, and_false, false_and, and_self, nm_eq, bd_eq, i0, i1, i2, i3, i4, i5, i6, i7, i8, i9, i10, i11, i12, i17, i20, i21, i26, i27, i32, i34, i48, i54, i57, i59, i64, i98, i99, i100, i106, i107, i114, i119, i120, i121, i141, i243, i255, i270, i340, i680, i999, i1000000, iz_add, iz_sub, iz_mul, iz_neg, iz_lt, iz_le, iz_eq, if_pos, if_neg, ix_iz, Int.toNat_natCast, tn0, tn1, tn2, tn3, tn4, tn5, tn6, tn7, tn8, tn9, tn10, tn11, tn12, tn13, tn14, tn15, tn16, tn17, tn18, tn19, tn20, tn21, tn22, tn23, tn24, tn25, tn26, tn27, gI_sI, gI_sA, gI_sAs, gI_sR, gI_sJ, gA_sI, gA_sA, gA_sAs, gA_sR, gA_sJ, gR_sI, gR_sA, gR_sAs, gR_sR, gR_sJ, gJ_sI, gJ_sA, gJ_sAs, gJ_sR, gJ_sJ]
theorem b_push0 {W R : Nat} {g : Nat → Bool} {lim lea st : Int} {m : Nat → Int} {n : Nat} {σ τ : Mm} (H : RelY W R g lim lea st m n σ τ) {c' : Nat} {l' : Int} (hg : g c' = true) (hl : vd lim l' = 0) (hs : st ≠ -9) : Rel (n + 1) (sI (sI (sI σ 36 3 (iz c')) 36 4 (iz l')) 36 5 (iz (1 - m 2))) (sA (sA (sA τ 4 0 (iz c')) 4 1 (iz l')) 4 2 (iz (1 - m 2))) := by
  obtain ⟨w1, w2, w3, w4, w5, w6, w7, w8, w9, w10, w11, w12, w13, w14⟩ := H
  obtain ⟨mn, r0, r1, r2, qo⟩ : ∃ mn : Nat → Int, mn 0 = c' ∧ mn 1 = l' ∧ mn 2 = 1 - m 2 ∧ ∀ k, 3 ≤ k → mn k = m k := by
    refine ⟨fun k => if k = 0 then c' else if k = 1 then l' else if k = 2 then 1 - m 2 else m k, rfl, rfl, rfl, fun k k1 => ?_⟩
    dsimp only; rw [if_neg (by omega), if_neg (by omega), if_neg (by omega)]
  have r3 := qo 3 (by omega)
  have r4 := qo 4 (by omega)
  have r5 := qo 5 (by omega)
  have r6 := qo 6 (by omega)
  have r7 : ∀ c, mn (7 + c) = m (7 + c) := fun c => qo _ (by omega)
  have eH : eqH σ (sI (sI (sI σ 36 3 (iz c')) 36 4 (iz l')) 36 5 (iz (1 - m 2))) := ((eqH_sI (by decide)).trans (eqH_sI (by decide))).trans (eqH_sI (by decide))
  refine ⟨W, R, g, lim, lea, st, mn, w1, w2.ext' rfl rfl, w3.mv rfl rfl (fun _ => rfl) (fun _ => rfl), ?_, ?_, ?_, w7, w8, w9.mv (Nat.le_succ _) eH rfl rfl rfl rfl, w10.mv (Nat.le_succ _) eH rfl rfl rfl, w11, w12, w13, w14⟩
  · obtain ⟨v0, v1, v2, v3, v4, v5, v6, v7⟩ := w4
    refine ⟨⟨fun q => absurd q hs, fun _ => ⟨c', r0, hg⟩⟩, by rw [r1]; exact vd_0.mp hl, by rw [r2]; omega, by rw [r3]; omega, by rw [r4]; omega, by rw [r5]; exact v5, by rw [r6]; exact v6, fun c hc => ?_⟩
    have := v7 c hc
    dsimp only at this ⊢
    rw [r7]
    exact this
  · refine ⟨fun k hk => ?_, fun c hc => ?_⟩
    · rw [gA_sA, if_pos rfl, gA_sA, if_pos rfl, gA_sA, if_pos rfl]
      by_cases z2 : k = 2
      · rw [z2, pk_us, r2]
      · rw [pk_un z2]
        by_cases z1 : k = 1
        · rw [z1, pk_us, r1]
        · rw [pk_un z1]
          by_cases z0 : k = 0
          · rw [z0, pk_us, r0]
          · rw [pk_un z0, qo k (by omega)]
            exact w5.1 k hk
    · rw [gA_sA, if_pos rfl, gA_sA, if_pos rfl, gA_sA, if_pos rfl, pk_un (by omega), pk_un (by omega), pk_un (by omega), r7]
      exact w5.2 c hc
  · obtain ⟨v0, v1, v2, v3, v4, v5, v6, v7⟩ := w6
    refine ⟨by rw [r0]; rfl, by rw [r1]; rfl, by rw [r2]; rfl, by rw [r3]; exact v3, by rw [r4]; exact v4, by rw [r5]; exact v5, by rw [r6]; exact v6, fun c hc => ?_⟩
    have := v7 c hc
    dsimp only at this ⊢
    rw [r7]
    exact this
theorem b_push1 {W R : Nat} {g : Nat → Bool} {lim lea st : Int} {m : Nat → Int} {n : Nat} {σ τ : Mm} (H : RelY W R g lim lea st m n σ τ) {w c' : Nat} {v mv t' : Int} (hg : g c' = true) (hs : st ≠ -9) (hp : Tp w v mv (m (7 + c')) t') : Rel (n + 1) (aTip σ w c' mv t' (m (3 + w)) st) (bTip τ w c' mv t' (m (3 + w)) st) := by
  obtain ⟨w1, w2, w3, w4, w5, w6, w7, w8, w9, w10, w11, w12, w13, w14⟩ := H
  have hw : w < 2 := by unfold Tp at hp; omega
  have hmv : mv = 0 ∨ mv = 1 := by unfold Tp at hp; omega
  have ht := w4.2.2.2.2.2.2.2 c' hg
  dsimp only at ht
  have ht' : -4 ≤ t' ∧ t' ≤ 4 := by unfold Tp at hp; omega
  have hc20 := w1.g20 c' hg
  obtain ⟨mn, r0, r1, r2, rw', rc, r5, r6, qo⟩ : ∃ mn : Nat → Int, mn 0 = st ∧ mn 1 = 0 ∧ mn 2 = mv ∧ mn (3 + w) = m (3 + w) + 1 ∧ mn (7 + c') = t' ∧ mn 5 = 0 ∧ mn 6 = 0 ∧ ∀ k, 3 ≤ k → k ≠ 5 → k ≠ 6 → k ≠ 3 + w → k ≠ 7 + c' → mn k = m k := by
    refine ⟨fun k => if k = 0 then st else if k = 1 then 0 else if k = 2 then mv else if k = 5 then 0 else if k = 6 then 0 else if k = 3 + w then m k + 1 else if k = 7 + c' then t' else m k, rfl, rfl, rfl, ?_, ?_, rfl, rfl, fun k k1 k2 k3 k4 k5 => ?_⟩
    · dsimp only; rw [if_neg (by omega), if_neg (by omega), if_neg (by omega), if_neg (by omega), if_neg (by omega), if_pos rfl]
    · dsimp only; rw [if_neg (by omega), if_neg (by omega), if_neg (by omega), if_neg (by omega), if_neg (by omega), if_neg (by omega), if_pos rfl]
    · dsimp only; rw [if_neg (by omega), if_neg (by omega), if_neg (by omega), if_neg (by omega), if_neg (by omega), if_neg (by omega), if_neg (by omega)]
  have eH : eqH σ (aTip σ w c' mv t' (m (3 + w)) st) := (((((eqH_sA (by decide)).trans (eqH_sA (by decide))).trans (eqH_sAs (by decide))).trans (eqH_sI (by decide))).trans (eqH_sI (by decide))).trans (eqH_sI (by decide))
  refine ⟨W, R, g, lim, lea, st, mn, w1, w2.ext' rfl rfl, w3.mv rfl rfl (fun _ => rfl) (fun _ => rfl), ?_, ?_, ?_, w7, w8, w9.mv (Nat.le_succ _) eH rfl rfl rfl rfl, w10.mv (Nat.le_succ _) eH rfl rfl rfl, w11, w12, w13, w14⟩
  · obtain ⟨v0, v1, v2, v3, v4, v5, v6, v7⟩ := w4
    have h34 : (0 ≤ mn 3 ∧ mn 3 ≤ ((n + 1 : Nat) : Int)) ∧ (0 ≤ mn 4 ∧ mn 4 ≤ ((n + 1 : Nat) : Int)) := by
      rcases (show w = 0 ∨ w = 1 by omega) with rfl | rfl
      · have z : mn 3 = m 3 + 1 := rw'
        have z2 := qo 4 (by omega) (by omega) (by omega) (by omega) (by omega)
        omega
      · have z : mn 4 = m 4 + 1 := rw'
        have z2 := qo 3 (by omega) (by omega) (by omega) (by omega) (by omega)
        omega
    refine ⟨⟨fun q => absurd q hs, fun _ => ?_⟩, by rw [r1]; obtain ⟨-, -, y3, -⟩ := w1; omega, by rw [r2]; exact hmv, h34.1, h34.2, by rw [r5]; omega, by rw [r6]; omega, fun c hc => ?_⟩
    · obtain ⟨-, -, -, -, -, -, -, y⟩ := w1
      rcases y with y | ⟨c, y, yg⟩
      · exact absurd y hs
      · exact ⟨c, r0.trans y, yg⟩
    · dsimp only
      by_cases z : c = c'
      · rw [z, rc]; exact ht'
      · rw [qo _ (by omega) (by omega) (by omega) (by omega) (by omega)]; exact v7 c hc
  · unfold bTip
    refine ⟨fun k hk => ?_, fun c hc => ?_⟩
    · simp only [gA_sA, if_true]
      by_cases z6 : k = 6
      · rw [z6, pk_us, r6]
      rw [pk_un z6]
      by_cases z5 : k = 5
      · rw [z5, pk_us, r5]
      rw [pk_un z5]
      by_cases z2 : k = 2
      · rw [z2, pk_us, r2]
      rw [pk_un z2]
      by_cases z1 : k = 1
      · rw [z1, pk_us, r1]
      rw [pk_un z1]
      by_cases z0 : k = 0
      · rw [z0, pk_us, r0]
      rw [pk_un z0]
      by_cases z3 : k = 3 + w
      · rw [z3, pk_us, rw']
      rw [pk_un z3, pk_un (by omega), qo k (by omega) z5 z6 z3 (by omega)]
      exact w5.1 k hk
    · simp only [gA_sA, if_true]
      rw [pk_un (by omega), pk_un (by omega), pk_un (by omega), pk_un (by omega), pk_un (by omega), pk_un (by omega)]
      by_cases z : c = c'
      · rw [z, pk_us, rc]
      · rw [pk_un (by omega), qo _ (by omega) (by omega) (by omega) (by omega) (by omega)]
        exact w5.2 c hc
  · obtain ⟨v0, v1, v2, v3, v4, v5, v6, v7⟩ := w6
    have k37 : gA (aTip σ w c' mv t' (m (3 + w)) st) 37 = upd (gA σ 37) c' (iz t') := rfl
    have k38 : gA (aTip σ w c' mv t' (m (3 + w)) st) 38 = upd (gA σ 38) w (iz (m (3 + w) + 1)) := by
      unfold aTip
      rw [gA_sI, gA_sI, gA_sI, gA_sAs, if_neg (by decide), gA_sA, if_pos rfl, gA_sA, if_neg (by decide)]
    have k39 : gA (aTip σ w c' mv t' (m (3 + w)) st) 39 = fun j => if j < 2 then iz 0 else gA σ 39 j := rfl
    refine ⟨by rw [r0]; rfl, by rw [r1]; rfl, by rw [r2]; rfl, ?_, ?_, by rw [r5]; rfl, by rw [r6]; rfl, fun c hc => ?_⟩
    · rw [show (36 : Nat) + 2 = 38 from rfl, k38]
      rcases (show w = 0 ∨ w = 1 by omega) with rfl | rfl
      · rw [pk_us, show mn 3 = m (3 + 0) + 1 from rw']
      · rw [pk_un (by decide), qo 3 (by omega) (by omega) (by omega) (by omega) (by omega)]
        exact v3
    · rw [show (36 : Nat) + 2 = 38 from rfl, k38]
      rcases (show w = 0 ∨ w = 1 by omega) with rfl | rfl
      · rw [pk_un (by decide), qo 4 (by omega) (by omega) (by omega) (by omega) (by omega)]
        exact v4
      · rw [pk_us, show mn 4 = m (3 + 1) + 1 from rw']
    · have v7' := v7 c hc
      dsimp only at v7' ⊢
      rw [show (36 : Nat) + 1 = 37 from rfl, k37]
      by_cases z : c = c'
      · rw [z, pk_us, if_pos hg, rc]
      · rw [pk_un z, qo _ (by omega) (by omega) (by omega) (by omega) (by omega)]
        exact v7'
