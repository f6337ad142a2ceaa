-- the reference's rounds
def Lk (a b : Nat → Int32) (W L : Nat → Int) : Prop := ∀ j, j < 680 → a j = iz (W j) ∧ b j = iz (L j) ∧ (0 ≤ W j ∧ W j ≤ 2) ∧ 0 ≤ L j ∧ L j ≤ 700
theorem sx_eq {c p : Nat} {l : Int} (h1 : c < 20) (h2 : -9 < l) (h3 : l < 9) (h4 : p < 2) : ((sx c l p : Nat) : Int) = 2 * (17 * (c : Int) + l + 8) + p ∧ sx c l p < 680 := by
  unfold sx
  omega
theorem sx_inj {c p c' p' : Nat} {l l' : Int} (h1 : c < 20) (h2 : -9 < l) (h3 : l < 9) (h4 : p < 2) (h1' : c' < 20) (h2' : -9 < l') (h3' : l' < 9) (h4' : p' < 2) (h : sx c l p = sx c' l' p') : c = c' ∧ l = l' ∧ p = p' := by
  have a := (sx_eq h1 h2 h3 h4).1
  have b := (sx_eq h1' h2' h3' h4').1
  omega
theorem m_behind0 {τ : Mm} {W L : Nat → Int} {c p : Nat} {l : Int} (K : Lk (gA τ 9) (gA τ 10) W L) (h1 : c < 20) (h2 : -9 < l) (h3 : l < 9) (h4 : p < 2) : f_M_winnerBehind (mCome τ c l) (iz 0) (iz p) = some (iz (W (sx c l (1 - p))), mCome τ c l) ∧ f_M_pushesBehind (mCome τ c l) (iz 0) (iz p) = some (iz (L (sx c l (1 - p))), mCome τ c l) := by
  obtain ⟨e1, e2⟩ := sx_eq (p := 1 - p) h1 h2 h3 (by omega)
  obtain ⟨k1, k2, -⟩ := K _ e2
  have e3 : 2 * (17 * (c : Int) + l + 8) + 1 - p = ((sx c l (1 - p) : Nat) : Int) := by omega
  have hs := m_spot (mCome τ c l) c l
  have a1 : gA (mCome τ c l) 9 = gA τ 9 := rfl
  have a2 : gA (mCome τ c l) 10 = gA τ 10 := rfl
  rw [← a1] at k1
  rw [← a2] at k2
  have c1 := mCome_to (τ := τ) (c' := c) (l' := l)
  have c2 := mCome_lean (τ := τ) (c' := c) (l' := l)
  generalize sx c l (1 - p) = s at *
  generalize mCome τ c l = μ at *
  clear K
  constructor
  · simp (disch := omega) only [f_M_winnerBehind, c1, c2, hs, e3, k1, if_true, if_false, and_true, true_and, and_false, false_and, and_self, nm_eq, bd_eq, i0, i1, i2, i3, i4, i5, i6, i7, i8, i9, i10, i11, i12, i17, i20, i21, i26, i27, i32, i34, i48, i54, i57, i59, i64, i98, i99, i100, i106, i107, i114, i119, i120, i121, i141, i243, i255, i270, i340, i680, i999, i1000000, iz_add, iz_sub, iz_mul, iz_neg, iz_lt, iz_le, iz_eq, if_pos, if_neg, ix_iz, Int.toNat_natCast, tn0, tn1, tn2, tn3, tn4, tn5, tn6, tn7, tn8, tn9, tn10, tn11, tn12, tn13, tn14, tn15, tn16, tn17, tn18, tn19, tn20, tn21, tn22, tn23, tn24, tn25, tn26, tn27, gI_sI, gI_sA, gI_sAs, gI_sR, gI_sJ, gA_sI, gA_sA, gA_sAs, gA_sR, gA_sJ, gR_sI, gR_sA, gR_sAs, gR_sR, gR_sJ, gJ_sI, gJ_sA, gJ_sAs, gJ_sR, gJ_sJ]
  · simp (disch := omega) only [f_M_pushesBehind, c1, c2, hs, e3, k2, if_true, if_false, and_true, true_and, and_false, false_and, and_self, nm_eq, bd_eq, i0, i1, i2, i3, i4, i5, i6, i7, i8, i9, i10, i11, i12, i17, i20, i21, i26, i27, i32, i34, i48, i54, i57, i59, i64, i98, i99, i100, i106, i107, i114, i119, i120, i121, i141, i243, i255, i270, i340, i680, i999, i1000000, iz_add, iz_sub, iz_mul, iz_neg, iz_lt, iz_le, iz_eq, if_pos, if_neg, ix_iz, Int.toNat_natCast, tn0, tn1, tn2, tn3, tn4, tn5, tn6, tn7, tn8, tn9, tn10, tn11, tn12, tn13, tn14, tn15, tn16, tn17, tn18, tn19, tn20, tn21, tn22, tn23, tn24, tn25, tn26, tn27, gI_sI, gI_sA, gI_sAs, gI_sR, gI_sJ, gA_sI, gA_sA, gA_sAs, gA_sR, gA_sJ, gR_sI, gR_sA, gR_sAs, gR_sR, gR_sJ, gJ_sI, gJ_sA, gJ_sAs, gJ_sR, gJ_sJ]
theorem m_behind1 {τ : Mm} {v p : Int} (h : v = 1 ∨ v = 2) : f_M_winnerBehind τ (iz v) (iz p) = some (iz v, τ) ∧ f_M_pushesBehind τ (iz v) (iz p) = some (iz 0, τ) := by
  constructor
  · simp (disch := omega) only [f_M_winnerBehind, if_true, if_false, and_true, true_and, and_false, false_and, and_self, nm_eq, bd_eq, i0, i1, i2, i3, i4, i5, i6, i7, i8, i9, i10, i11, i12, i17, i20, i21, i26, i27, i32, i34, i48, i54, i57, i59, i64, i98, i99, i100, i106, i107, i114, i119, i120, i121, i141, i243, i255, i270, i340, i680, i999, i1000000, iz_add, iz_sub, iz_mul, iz_neg, iz_lt, iz_le, iz_eq, if_pos, if_neg, ix_iz, Int.toNat_natCast, tn0, tn1, tn2, tn3, tn4, tn5, tn6, tn7, tn8, tn9, tn10, tn11, tn12, tn13, tn14, tn15, tn16, tn17, tn18, tn19, tn20, tn21, tn22, tn23, tn24, tn25, tn26, tn27, gI_sI, gI_sA, gI_sAs, gI_sR, gI_sJ, gA_sI, gA_sA, gA_sAs, gA_sR, gA_sJ, gR_sI, gR_sA, gR_sAs, gR_sR, gR_sJ, gJ_sI, gJ_sA, gJ_sAs, gJ_sR, gJ_sJ]
  · simp (disch := omega) only [f_M_pushesBehind, if_true, if_false, and_true, true_and, and_false, false_and, and_self, nm_eq, bd_eq, i0, i1, i2, i3, i4, i5, i6, i7, i8, i9, i10, i11, i12, i17, i20, i21, i26, i27, i32, i34, i48, i54, i57, i59, i64, i98, i99, i100, i106, i107, i114, i119, i120, i121, i141, i243, i255, i270, i340, i680, i999, i1000000, iz_add, iz_sub, iz_mul, iz_neg, iz_lt, iz_le, iz_eq, if_pos, if_neg, ix_iz, Int.toNat_natCast, tn0, tn1, tn2, tn3, tn4, tn5, tn6, tn7, tn8, tn9, tn10, tn11, tn12, tn13, tn14, tn15, tn16, tn17, tn18, tn19, tn20, tn21, tn22, tn23, tn24, tn25, tn26, tn27, gI_sI, gI_sA, gI_sAs, gI_sR, gI_sJ, gA_sI, gA_sA, gA_sAs, gA_sR, gA_sJ, gR_sI, gR_sA, gR_sAs, gR_sR, gR_sJ, gJ_sI, gJ_sA, gJ_sAs, gJ_sR, gJ_sJ]
/-- one push looked at -/
theorem m_look {τ : Mm} {W R : Nat} {g : Nat → Bool} {lim lea st : Int} {tl : Nat → Int} {Wn Ln : Nat → Int} (Y : Yok W R g lim lea st) (M : YM τ W R g lim lea st) (T : TlM τ g tl) (hT : TlOk g tl) (K : Lk (gA τ 9) (gA τ 10) Wn Ln) {c p w : Nat} {l : Int} (hv : Lv g lim c l p) (hw : w < 4) :
    (mv g lim lea tl Wn Ln c l p w = none ∧ f_M_comesBy τ (iz c) (iz l) (iz w) = some (iz 3, τ)) ∨
    ∃ x y r c' l', mv g lim lea tl Wn Ln c l p w = some (x, y) ∧ (r = 0 ∨ r = 1 ∨ r = 2) ∧ (0 ≤ x ∧ x ≤ 2 ∧ 0 ≤ y ∧ y ≤ 700) ∧ f_M_comesBy τ (iz c) (iz l) (iz w) = some (iz r, mCome τ c' l') ∧ f_M_winnerBehind (mCome τ c' l') (iz r) (iz p) = some (iz x, mCome τ c' l') ∧ f_M_pushesBehind (mCome τ c' l') (iz r) (iz p) = some (iz y, mCome τ c' l') ∧ (r = 0 ↔ vd lim l' = 0) ∧ nx g c w = some c' ∧ l' = l + tl c' + lea := by
  obtain ⟨v1, v2, v3, v4⟩ := hv
  have y3 := Y.2.2.1
  have y4 := Y.2.2.2.1
  have y5 := Y.2.2.2.2.1
  have y6 := Y.2.2.2.2.2.1
  have hM := m_comesBy (c := c) (w := w) (l := l) Y M T hT (Y.g20 c v1) hw (by omega) (by omega)
  rcases hx : nx g c w with _ | c'
  · left
    rw [hx] at hM
    dsimp only at hM
    rw [i3] at hM
    exact ⟨by unfold mv; rw [hx], hM⟩
  · right
    rw [hx] at hM
    dsimp only at hM
    obtain ⟨xg, -⟩ := nx_ok hx
    have xc := Y.g20 c' xg
    have xt := hT c' xg
    by_cases q : vd lim (l + tl c' + lea) = 0
    · obtain ⟨q1, q2⟩ := vd_0.mp q
      obtain ⟨e1, e2⟩ := sx_eq (p := 1 - p) xc (show -9 < l + tl c' + lea by omega) (by omega) (by omega)
      obtain ⟨k1, k2, k3, k4, k5⟩ := K _ e2
      obtain ⟨b1, b2⟩ := m_behind0 (p := p) K xc (show -9 < l + tl c' + lea by omega) (by omega) v4
      rw [q] at hM
      refine ⟨_, _, 0, c', l + tl c' + lea, ?_, Or.inl rfl, ⟨k3.1, k3.2, k4, k5⟩, hM, b1, b2, ⟨fun _ => q, fun _ => rfl⟩, rfl, rfl⟩
      unfold mv
      rw [hx]
      dsimp only
      rw [if_pos q]
    · have q1 := vd_cases lim (l + tl c' + lea)
      have q2 : vd lim (l + tl c' + lea) = 1 ∨ vd lim (l + tl c' + lea) = 2 := by omega
      obtain ⟨b1, b2⟩ := m_behind1 (τ := mCome τ c' (l + tl c' + lea)) (p := p) q2
      refine ⟨vd lim (l + tl c' + lea), 0, vd lim (l + tl c' + lea), c', l + tl c' + lea, ?_, by omega, by omega, hM, b1, b2, Iff.rfl, rfl, rfl⟩
      unfold mv
      rw [hx]
      dsimp only
      rw [if_neg q]
-- steps of the loop isIn
theorem m_is_n {τ : Mm} {c : Nat} {l n s v5 v6 v7 : Int} {p w : Nat} (hw : w < 4) (h : f_M_comesBy τ (iz c) (iz l) (iz w) = some (iz 3, τ)) : f_M_isIn_23_b (iz c) (iz l) (iz p) (iz n) (iz s) τ (iz v5) (iz v6) (iz v7) (iz w) = some (.inl (τ, iz v5, iz v6, iz v7, iz ((w + 1 : Nat) : Int))) := by
  simp (disch := omega) only [f_M_isIn_23_b, h, if_true, if_false, and_true, true_and, and_false, false_and, and_self, nm_eq, bd_eq, i0, i1, i2, i3, i4, i5, i6, i7, i8, i9, i10, i11, i12, i17, i20, i21, i26, i27, i32, i34, i48, i54, i57, i59, i64, i98, i99, i100, i106, i107, i114, i119, i120, i121, i141, i243, i255, i270, i340, i680, i999, i1000000, iz_add, iz_sub, iz_mul, iz_neg, iz_lt, iz_le, iz_eq, if_pos, if_neg, ix_iz, Int.toNat_natCast, tn0, tn1, tn2, tn3, tn4, tn5, tn6, tn7, tn8, tn9, tn10, tn11, tn12, tn13, tn14, tn15, tn16, tn17, tn18, tn19, tn20, tn21, tn22, tn23, tn24, tn25, tn26, tn27, gI_sI, gI_sA, gI_sAs, gI_sR, gI_sJ, gA_sI, gA_sA, gA_sAs, gA_sR, gA_sJ, gR_sI, gR_sA, gR_sAs, gR_sR, gR_sJ, gJ_sI, gJ_sA, gJ_sAs, gJ_sR, gJ_sJ]
  rfl
theorem m_is_y {τ τ' : Mm} {c : Nat} {l n s v5 v6 v7 r x y : Int} {p w : Nat} (hw : w < 4) (hp : p < 2) (hn : 0 ≤ n ∧ n < 700) (hs : 0 ≤ s ∧ s < 680) (hr : r = 0 ∨ r = 1 ∨ r = 2) (hx : x = p + 1) (hy : y = n - 1) (h : f_M_comesBy τ (iz c) (iz l) (iz w) = some (iz r, τ')) (h1 : f_M_winnerBehind τ' (iz r) (iz p) = some (iz x, τ')) (h2 : f_M_pushesBehind τ' (iz r) (iz p) = some (iz y, τ')) : f_M_isIn_23_b (iz c) (iz l) (iz p) (iz n) (iz s) τ (iz v5) (iz v6) (iz v7) (iz w) = some (.inr (iz 1, sA (sA τ' 9 s.toNat (iz x)) 10 s.toNat (iz n))) := by
  simp (disch := omega) only [f_M_isIn_23_b, f_M_isIn_80, h, h1, h2, if_true, if_false, and_true, true_and, and_false, false_and, and_self, nm_eq, bd_eq, i0, i1, i2, i3, i4, i5, i6, i7, i8, i9, i10, i11, i12, i17, i20, i21, i26, i27, i32, i34, i48, i54, i57, i59, i64, i98, i99, i100, i106, i107, i114, i119, i120, i121, i141, i243, i255, i270, i340, i680, i999, i1000000, iz_add, iz_sub, iz_mul, iz_neg, iz_lt, iz_le, iz_eq, if_pos, if_neg, ix_iz, Int.toNat_natCast, tn0, tn1, tn2, tn3, tn4, tn5, tn6, tn7, tn8, tn9, tn10, tn11, tn12, tn13, tn14, tn15, tn16, tn17, tn18, tn19, tn20, tn21, tn22, tn23, tn24, tn25, tn26, tn27, gI_sI, gI_sA, gI_sAs, gI_sR, gI_sJ, gA_sI, gA_sA, gA_sAs, gA_sR, gA_sJ, gR_sI, gR_sA, gR_sAs, gR_sR, gR_sJ, gJ_sI, gJ_sA, gJ_sAs, gJ_sR, gJ_sJ]
  rfl
theorem m_is_m {τ τ' : Mm} {c : Nat} {l n s v5 v6 v7 r x y : Int} {p w : Nat} (hw : w < 4) (hp : p < 2) (hn : 0 ≤ n ∧ n < 700) (hr : r = 0 ∨ r = 1 ∨ r = 2) (hx : 0 ≤ x ∧ x ≤ 2) (hy : 0 ≤ y ∧ y ≤ 700) (h7 : -1 ≤ v7 ∧ v7 ≤ 700) (ne : ¬ (x = p + 1 ∧ y = n - 1)) (h : f_M_comesBy τ (iz c) (iz l) (iz w) = some (iz r, τ')) (h1 : f_M_winnerBehind τ' (iz r) (iz p) = some (iz x, τ')) (h2 : f_M_pushesBehind τ' (iz r) (iz p) = some (iz y, τ')) : f_M_isIn_23_b (iz c) (iz l) (iz p) (iz n) (iz s) τ (iz v5) (iz v6) (iz v7) (iz w) = some (.inl (τ', iz (v5 + 1), iz (if x = 2 - p then v6 + 1 else v6), iz (if x = 2 - p ∧ v7 < y then y else v7), iz ((w + 1 : Nat) : Int))) := by
  by_cases q1 : x = 2 - p
  · by_cases q2 : v7 < y
    · simp (disch := omega) only [f_M_isIn_23_b, f_M_isIn_100, f_M_isIn_118, f_M_isIn_141, f_M_isIn_143, h, h1, h2, if_true, if_false, and_true, true_and, and_false, false_and, and_self, nm_eq, bd_eq, i0, i1, i2, i3, i4, i5, i6, i7, i8, i9, i10, i11, i12, i17, i20, i21, i26, i27, i32, i34, i48, i54, i57, i59, i64, i98, i99, i100, i106, i107, i114, i119, i120, i121, i141, i243, i255, i270, i340, i680, i999, i1000000, iz_add, iz_sub, iz_mul, iz_neg, iz_lt, iz_le, iz_eq, if_pos, if_neg, ix_iz, Int.toNat_natCast, tn0, tn1, tn2, tn3, tn4, tn5, tn6, tn7, tn8, tn9, tn10, tn11, tn12, tn13, tn14, tn15, tn16, tn17, tn18, tn19, tn20, tn21, tn22, tn23, tn24, tn25, tn26, tn27, gI_sI, gI_sA, gI_sAs, gI_sR, gI_sJ, gA_sI, gA_sA, gA_sAs, gA_sR, gA_sJ, gR_sI, gR_sA, gR_sAs, gR_sR, gR_sJ, gJ_sI, gJ_sA, gJ_sAs, gJ_sR, gJ_sJ]
      rfl
    · simp (disch := omega) only [f_M_isIn_23_b, f_M_isIn_100, f_M_isIn_118, f_M_isIn_141, f_M_isIn_143, h, h1, h2, if_true, if_false, and_true, true_and, and_false, false_and, and_self, nm_eq, bd_eq, i0, i1, i2, i3, i4, i5, i6, i7, i8, i9, i10, i11, i12, i17, i20, i21, i26, i27, i32, i34, i48, i54, i57, i59, i64, i98, i99, i100, i106, i107, i114, i119, i120, i121, i141, i243, i255, i270, i340, i680, i999, i1000000, iz_add, iz_sub, iz_mul, iz_neg, iz_lt, iz_le, iz_eq, if_pos, if_neg, ix_iz, Int.toNat_natCast, tn0, tn1, tn2, tn3, tn4, tn5, tn6, tn7, tn8, tn9, tn10, tn11, tn12, tn13, tn14, tn15, tn16, tn17, tn18, tn19, tn20, tn21, tn22, tn23, tn24, tn25, tn26, tn27, gI_sI, gI_sA, gI_sAs, gI_sR, gI_sJ, gA_sI, gA_sA, gA_sAs, gA_sR, gA_sJ, gR_sI, gR_sA, gR_sAs, gR_sR, gR_sJ, gJ_sI, gJ_sA, gJ_sAs, gJ_sR, gJ_sJ]
      rfl
  · by_cases q3 : x = p + 1
    · simp (disch := omega) only [f_M_isIn_23_b, f_M_isIn_100, f_M_isIn_118, f_M_isIn_141, f_M_isIn_143, h, h1, h2, Int.add_zero, if_true, if_false, and_true, true_and, and_false, false_and, and_self, nm_eq, bd_eq, i0, i1, i2, i3, i4, i5, i6, i7, i8, i9, i10, i11, i12, i17, i20, i21, i26, i27, i32, i34, i48, i54, i57, i59, i64, i98, i99, i100, i106, i107, i114, i119, i120, i121, i141, i243, i255, i270, i340, i680, i999, i1000000, iz_add, iz_sub, iz_mul, iz_neg, iz_lt, iz_le, iz_eq, if_pos, if_neg, ix_iz, Int.toNat_natCast, tn0, tn1, tn2, tn3, tn4, tn5, tn6, tn7, tn8, tn9, tn10, tn11, tn12, tn13, tn14, tn15, tn16, tn17, tn18, tn19, tn20, tn21, tn22, tn23, tn24, tn25, tn26, tn27, gI_sI, gI_sA, gI_sAs, gI_sR, gI_sJ, gA_sI, gA_sA, gA_sAs, gA_sR, gA_sJ, gR_sI, gR_sA, gR_sAs, gR_sR, gR_sJ, gJ_sI, gJ_sA, gJ_sAs, gJ_sR, gJ_sJ]
      rfl
    · simp (disch := omega) only [f_M_isIn_23_b, f_M_isIn_100, f_M_isIn_118, f_M_isIn_141, f_M_isIn_143, h, h1, h2, Int.add_zero, if_true, if_false, and_true, true_and, and_false, false_and, and_self, nm_eq, bd_eq, i0, i1, i2, i3, i4, i5, i6, i7, i8, i9, i10, i11, i12, i17, i20, i21, i26, i27, i32, i34, i48, i54, i57, i59, i64, i98, i99, i100, i106, i107, i114, i119, i120, i121, i141, i243, i255, i270, i340, i680, i999, i1000000, iz_add, iz_sub, iz_mul, iz_neg, iz_lt, iz_le, iz_eq, if_pos, if_neg, ix_iz, Int.toNat_natCast, tn0, tn1, tn2, tn3, tn4, tn5, tn6, tn7, tn8, tn9, tn10, tn11, tn12, tn13, tn14, tn15, tn16, tn17, tn18, tn19, tn20, tn21, tn22, tn23, tn24, tn25, tn26, tn27, gI_sI, gI_sA, gI_sAs, gI_sR, gI_sJ, gA_sI, gA_sA, gA_sAs, gA_sR, gA_sJ, gR_sI, gR_sA, gR_sAs, gR_sR, gR_sJ, gJ_sI, gJ_sA, gJ_sAs, gJ_sR, gJ_sJ]
      rfl
