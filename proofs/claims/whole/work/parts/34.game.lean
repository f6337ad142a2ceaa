-- the call game, once the class's contest is solved
def LkC (a b : Nat → Int32) (W L : Nat → Int) : Prop := ∀ j, j < 680 → a j = iz (W j) ∧ (0 ≤ W j ∧ W j ≤ 2) ∧ (W j ≠ 0 → b j = iz (L j) ∧ 0 ≤ L j ∧ L j ≤ 700)
theorem t_winner {σ : Mm} {W L : Nat → Int} (K : LkC (gA σ 22) (gA σ 23) W L) {c p : Nat} {l : Int} (h : c < 20) (h1 : -9 < l) (h2 : l < 9) (h3 : p < 2) : f_Co_winner σ (iz c) (iz l) (iz p) = some (iz (W (sx c l p)), σ) := by
  have e := (sx_eq h h1 h2 h3).2
  unfold f_Co_winner
  rw [t_stateOf σ h (by omega) (by omega) h3, bd_eq, if_neg (by rw [i0, iz_lt (by omega) (by omega) (by omega) (by omega)]; omega), ix_n e (by decide), (K _ e).1]
theorem t_length {σ : Mm} {W L : Nat → Int} (K : LkC (gA σ 22) (gA σ 23) W L) {c p : Nat} {l : Int} (h : c < 20) (h1 : -9 < l) (h2 : l < 9) (h3 : p < 2) (h4 : W (sx c l p) ≠ 0) : f_Co_length σ (iz c) (iz l) (iz p) = some (iz (L (sx c l p)), σ) := by
  have e := (sx_eq h h1 h2 h3).2
  unfold f_Co_length
  rw [t_stateOf σ h (by omega) (by omega) h3, bd_eq, if_neg (by rw [i0, iz_lt (by omega) (by omega) (by omega) (by omega)]; omega), ix_n e (by decide), ((K _ e).2.2 h4).1]
theorem m_here {τ : Mm} {c p : Nat} {l : Int} (h0 : gA τ 4 0 = iz c) (h1 : gA τ 4 1 = iz l) (h2 : gA τ 4 2 = iz p) (hc : c < 20) (l1 : -9 < l) (l2 : l < 9) (hp : p < 2) : f_M_here τ = some (iz ((sx c l p : Nat) : Int), τ) := by
  have e := (sx_eq hc l1 l2 hp).1
  unfold f_M_here
  rw [i0, i1, i2, ix_iz (by decide) (by decide) (by decide), tn0, h0, ix_iz (by decide) (by decide) (by decide), tn1, h1, m_spot, bd_eq, ix_iz (by decide) (by decide) (by decide), tn2, h2, iz_mul, iz_add, e]
/-- what solving gives -/
def Solved (σ σ' : Mm) (r : Nat) (g : Nat → Bool) (lim lea : Int) (tl : Nat → Int) : Prop := ∃ W L, f_Co_solve σ r = some (0, σ') ∧ eqT σ σ' ∧ (∀ k, gI σ' 13 k = gI σ 13 k) ∧ gA σ' 14 = gA σ 14 ∧ gA σ' 15 = gA σ 15 ∧ LkC (gA σ' 22) (gA σ' 23) W L ∧ LC g lim lea tl W L
theorem t_game0 {σ σ' : Mm} {a b c : Int32} {w : Int} (hS : f_T_hasNoStart σ = some (0, σ)) (s1 : f_Co_solve σ 11 = some (0, σ')) (d0 : gI σ' 36 3 = a) (d1 : gI σ' 36 4 = b) (d2 : gI σ' 36 5 = c) (w1 : f_Co_winner σ' a b c = some (iz w, σ')) : f_T_game σ 0 = some (iz w, σ') := by
  unfold f_T_game
  rw [if_neg (by decide), if_pos (by decide), hS, bd_eq, if_pos rfl, s1, bd_eq, d0, d1, d2, w1, bd_eq, if_pos rfl]
theorem t_game1 {σ σ' : Mm} {a b c : Int32} {w x : Int} (hw : 0 ≤ w ∧ w ≤ 2) (hS : f_T_hasNoStart σ = some (0, σ)) (s1 : f_Co_solve σ 11 = some (0, σ')) (d0 : gI σ' 36 3 = a) (d1 : gI σ' 36 4 = b) (d2 : gI σ' 36 5 = c) (w1 : f_Co_winner σ' a b c = some (iz w, σ')) (w2 : w ≠ 0 → f_Co_length σ' a b c = some (iz x, σ')) : f_T_game σ 1 = some (if w = 0 then iz (-9) else iz x, σ') := by
  unfold f_T_game
  rw [if_neg (by decide), if_pos (by decide), hS, bd_eq, if_pos rfl, s1, bd_eq, d0, d1, d2, w1, bd_eq, if_neg (by decide)]
  by_cases q : w = 0
  · rw [if_pos (by rw [q, i0]), if_pos q, i9, iz_neg]
  · rw [if_neg (by rw [i0, iz_eq (by omega) (by omega) (by omega) (by omega)]; exact q), if_neg q, d0, d1, d2, w2 q, bd_eq]
theorem m_game0 {τ τ' : Mm} {s : Nat} {w : Int} (hs : s < 680) (hS : f_M_hasStart (sI τ 0 0 0) = some (1, sI τ 0 0 0)) (t1 : f_M_plays (sI τ 0 0 0) = some (0, τ')) (hh : f_M_here τ' = some (iz (s : Nat), τ')) (v1 : gA τ' 9 s = iz w) : f_M_game τ 0 = some (iz w, τ') := by
  unfold f_M_game f_M_in
  rw [nm_eq, if_neg (by decide), if_pos (by decide), bd_eq, if_neg (by decide), hS, bd_eq, if_neg (by decide), t1, bd_eq, if_pos rfl, hh, bd_eq, ix_n hs (by decide), v1]
theorem m_game1 {τ τ' : Mm} {s : Nat} {w x : Int} (hw : 0 ≤ w ∧ w ≤ 2) (hs : s < 680) (hS : f_M_hasStart (sI τ 0 0 0) = some (1, sI τ 0 0 0)) (t1 : f_M_plays (sI τ 0 0 0) = some (0, τ')) (hh : f_M_here τ' = some (iz (s : Nat), τ')) (v1 : gA τ' 9 s = iz w) (v2 : w ≠ 0 → gA τ' 10 s = iz x) : f_M_game τ 1 = some (if w = 0 then iz (-9) else iz x, τ') := by
  unfold f_M_game f_M_in
  rw [nm_eq, if_neg (by decide), if_pos (by decide), bd_eq, if_neg (by decide), hS, bd_eq, if_neg (by decide), t1, bd_eq, if_neg (by decide), hh, bd_eq, ix_n hs (by decide), v1]
  by_cases q : w = 0
  · rw [if_pos (by rw [q, i0]), if_pos q, i9, iz_neg]
  · rw [if_neg (by rw [i0, iz_eq (by omega) (by omega) (by omega) (by omega)]; exact q), if_neg q, hh, bd_eq, ix_n hs (by decide), v2 q]
theorem b_game_of {n : Nat} {σ τ : Mm} (h : Rel n σ τ) (hSv : ∀ W R g lim lea st m, RelY W R g lim lea st m n σ τ → ∃ σ', Solved σ σ' 11 g lim lea (fun c => m (7 + c))) (v : Int32) : Both n (f_T_game σ v) (f_M_game τ v) := by
  obtain ⟨z, z1, z2, rfl⟩ := iz_of v
  have h' := h
  obtain ⟨W, R, g, lim, lea, st, m, H⟩ := h'
  have H' := H
  obtain ⟨h1, h2, h3, h4, h5, h6, h7, h8, h9, h10, h11, h12, h13, h14⟩ := H'
  have hst := h1.st
  have h3' := h3
  have h6' := h6
  have h4' := h4
  obtain ⟨p, d, e1, e2, e3, e4, e5, e6, e7, e8⟩ := h3'
  obtain ⟨c0, c1, c2, c3, c4, c5, c6, hTl⟩ := h6'
  obtain ⟨g0, g1, g2, g3, g4, g5, g6, g7⟩ := h4'
  have b0 := h5.1 0 (by decide)
  have b1 := h5.1 1 (by decide)
  have b2 := h5.1 2 (by decide)
  have b3 := h5.1 3 (by decide)
  have b4 := h5.1 4 (by decide)
  have b5 := h5.1 5 (by decide)
  have b6 := h5.1 6 (by decide)
  have epl : ∀ K : Nat → Option (Int32 × Mm), rk (gR σ 0 2) okPl K = K p := fun K => by rw [e1]; rcases e3 with ⟨rfl, _⟩ | ⟨rfl, _⟩ <;> rfl
  obtain ⟨y1, y2, y3, y4, y5, y6, y7, y8⟩ := h1
  obtain ⟨m1, m2, m3, m4, m5, m6⟩ := h2
  have h1 : Yok W R g lim lea st := H.1
  have h2 : YM τ W R g lim lea st := H.2.1
  have hS := t_hasNoStart h3 (by omega) (by omega)
  have hS2 := m_hasStart H.go'.1 H.go'.2.1
  by_cases k1 : z < 0
  · exact Both.of (r := iz (-1)) (by simp (disch := omega) only [f_T_game, if_true, if_false, and_true, true_and, and_false, false_and, and_self, nm_eq, bd_eq, i0, i1, i2, i3, i4, i5, i6, i7, i8, i9, i10, i11, i12, i17, i20, i21, i26, i27, i32, i34, i48, i54, i57, i59, i64, i98, i99, i100, i106, i107, i114, i119, i120, i121, i141, i243, i255, i270, i340, i680, i999, i1000000, iz_add, iz_sub, iz_mul, iz_neg, iz_lt, iz_le, iz_eq, if_pos, if_neg, ix_iz, Int.toNat_natCast, tn0, tn1, tn2, tn3, tn4, tn5, tn6, tn7, tn8, tn9, tn10, tn11, tn12, tn13, tn14, tn15, tn16, tn17, tn18, tn19, tn20, tn21, tn22, tn23, tn24, tn25, tn26, tn27, gI_sI, gI_sA, gI_sAs, gI_sR, gI_sJ, gA_sI, gA_sA, gA_sAs, gA_sR, gA_sJ, gR_sI, gR_sA, gR_sAs, gR_sR, gR_sJ, gJ_sI, gJ_sA, gJ_sAs, gJ_sR, gJ_sJ]) (by simp (disch := omega) only [f_M_game, f_M_in, if_true, if_false, and_true, true_and, and_false, false_and, and_self, nm_eq, bd_eq, i0, i1, i2, i3, i4, i5, i6, i7, i8, i9, i10, i11, i12, i17, i20, i21, i26, i27, i32, i34, i48, i54, i57, i59, i64, i98, i99, i100, i106, i107, i114, i119, i120, i121, i141, i243, i255, i270, i340, i680, i999, i1000000, iz_add, iz_sub, iz_mul, iz_neg, iz_lt, iz_le, iz_eq, if_pos, if_neg, ix_iz, Int.toNat_natCast, tn0, tn1, tn2, tn3, tn4, tn5, tn6, tn7, tn8, tn9, tn10, tn11, tn12, tn13, tn14, tn15, tn16, tn17, tn18, tn19, tn20, tn21, tn22, tn23, tn24, tn25, tn26, tn27, gI_sI, gI_sA, gI_sAs, gI_sR, gI_sJ, gA_sI, gA_sA, gA_sAs, gA_sR, gA_sJ, gR_sI, gR_sA, gR_sAs, gR_sR, gR_sJ, gJ_sI, gJ_sA, gJ_sAs, gJ_sR, gJ_sJ]) h.n1
  by_cases k2 : z ≤ 1
  · by_cases q : st = -9
    · rw [if_pos q] at hS hS2
      exact Both.of (r := iz (-2)) (by simp (disch := omega) only [f_T_game, hS, if_true, if_false, and_true, true_and, and_false, false_and, and_self, nm_eq, bd_eq, i0, i1, i2, i3, i4, i5, i6, i7, i8, i9, i10, i11, i12, i17, i20, i21, i26, i27, i32, i34, i48, i54, i57, i59, i64, i98, i99, i100, i106, i107, i114, i119, i120, i121, i141, i243, i255, i270, i340, i680, i999, i1000000, iz_add, iz_sub, iz_mul, iz_neg, iz_lt, iz_le, iz_eq, if_pos, if_neg, ix_iz, Int.toNat_natCast, tn0, tn1, tn2, tn3, tn4, tn5, tn6, tn7, tn8, tn9, tn10, tn11, tn12, tn13, tn14, tn15, tn16, tn17, tn18, tn19, tn20, tn21, tn22, tn23, tn24, tn25, tn26, tn27, gI_sI, gI_sA, gI_sAs, gI_sR, gI_sJ, gA_sI, gA_sA, gA_sAs, gA_sR, gA_sJ, gR_sI, gR_sA, gR_sAs, gR_sR, gR_sJ, gJ_sI, gJ_sA, gJ_sAs, gJ_sR, gJ_sJ]) (by simp (disch := omega) only [f_M_game, f_M_in, hS2, if_true, if_false, and_true, true_and, and_false, false_and, and_self, nm_eq, bd_eq, i0, i1, i2, i3, i4, i5, i6, i7, i8, i9, i10, i11, i12, i17, i20, i21, i26, i27, i32, i34, i48, i54, i57, i59, i64, i98, i99, i100, i106, i107, i114, i119, i120, i121, i141, i243, i255, i270, i340, i680, i999, i1000000, iz_add, iz_sub, iz_mul, iz_neg, iz_lt, iz_le, iz_eq, if_pos, if_neg, ix_iz, Int.toNat_natCast, tn0, tn1, tn2, tn3, tn4, tn5, tn6, tn7, tn8, tn9, tn10, tn11, tn12, tn13, tn14, tn15, tn16, tn17, tn18, tn19, tn20, tn21, tn22, tn23, tn24, tn25, tn26, tn27, gI_sI, gI_sA, gI_sAs, gI_sR, gI_sJ, gA_sI, gA_sA, gA_sAs, gA_sR, gA_sJ, gR_sI, gR_sA, gR_sAs, gR_sR, gR_sJ, gJ_sI, gJ_sA, gJ_sAs, gJ_sR, gJ_sJ]) h.n1
    · rw [if_neg q] at hS hS2
      obtain ⟨c, hc, hgc⟩ := g0.2 q
      have hc20 := h1.g20 c hgc
      obtain ⟨p', hp', hp2⟩ : ∃ p' : Nat, m 2 = p' ∧ p' < 2 := by
        rcases g2 with h | h
        · exact ⟨0, h, by omega⟩
        · exact ⟨1, h, by omega⟩
      obtain ⟨σ', Wt, Lt, s1, s2, -, -, -, s6, s7⟩ := hSv W R g lim lea st m H
      obtain ⟨τ', Wm, Lm, t1, t2, t3, t4⟩ := m_plays H.go'.1 H.go'.2.1 H.go'.TlM H.go'.TlOk
      obtain ⟨u1, u2⟩ := LC.uniq s7 t4 c (m 1) p' ⟨hgc, g1.1, g1.2, hp2⟩
      have H2 : RelY W R g lim lea st m n σ' τ' := H.ext (Nat.le_refl _) s2 (eqM_0.trans t2)
      have es := (sx_eq (l := m 1) (p := p') hc20 (by omega) (by omega) hp2).2
      have hh := m_here (τ := τ') (c := c) (l := m 1) (p := p') (by rw [← hc]; exact H2.2.2.2.2.1.1 0 (by decide)) (H2.2.2.2.2.1.1 1 (by decide)) (by rw [← hp']; exact H2.2.2.2.2.1.1 2 (by decide)) hc20 (by omega) (by omega) hp2
      have d0 : gI σ' 36 3 = iz c := by rw [← hc]; exact H2.2.2.2.2.2.1.1
      have d1 : gI σ' 36 4 = iz (m 1) := H2.2.2.2.2.2.1.2.1
      have d2 : gI σ' 36 5 = iz p' := by rw [← hp']; exact H2.2.2.2.2.2.1.2.2.1
      have w1 := t_winner (l := m 1) s6 hc20 (by omega) (by omega) hp2
      obtain ⟨v1, v2, v3, v4, v5⟩ := t3 _ es
      rw [u1] at v1 v3
      have fin : Rel (n + 1) σ' τ' := Rel.n1' ⟨W, R, g, lim, lea, st, m, H2⟩
      have w2 := fun q => t_length (l := m 1) s6 hc20 (by omega) (by omega) hp2 q
      have hw := v3
      rcases (show z = 0 ∨ z = 1 by omega) with rfl | rfl
      · exact Both.of (t_game0 hS s1 d0 d1 d2 w1) (m_game0 es hS2 t1 hh v1) fin
      · exact Both.of (t_game1 hw hS s1 d0 d1 d2 w1 w2) (m_game1 hw es hS2 t1 hh v1 (fun q => by rw [← u2 q]; exact v2)) fin
  · exact Both.of (r := iz (-1)) (by simp (disch := omega) only [f_T_game, if_true, if_false, and_true, true_and, and_false, false_and, and_self, nm_eq, bd_eq, i0, i1, i2, i3, i4, i5, i6, i7, i8, i9, i10, i11, i12, i17, i20, i21, i26, i27, i32, i34, i48, i54, i57, i59, i64, i98, i99, i100, i106, i107, i114, i119, i120, i121, i141, i243, i255, i270, i340, i680, i999, i1000000, iz_add, iz_sub, iz_mul, iz_neg, iz_lt, iz_le, iz_eq, if_pos, if_neg, ix_iz, Int.toNat_natCast, tn0, tn1, tn2, tn3, tn4, tn5, tn6, tn7, tn8, tn9, tn10, tn11, tn12, tn13, tn14, tn15, tn16, tn17, tn18, tn19, tn20, tn21, tn22, tn23, tn24, tn25, tn26, tn27, gI_sI, gI_sA, gI_sAs, gI_sR, gI_sJ, gA_sI, gA_sA, gA_sAs, gA_sR, gA_sJ, gR_sI, gR_sA, gR_sAs, gR_sR, gR_sJ, gJ_sI, gJ_sA, gJ_sAs, gJ_sR, gJ_sJ]) (by simp (disch := omega) only [f_M_game, f_M_in, if_true, if_false, and_true, true_and, and_false, false_and, and_self, nm_eq, bd_eq, i0, i1, i2, i3, i4, i5, i6, i7, i8, i9, i10, i11, i12, i17, i20, i21, i26, i27, i32, i34, i48, i54, i57, i59, i64, i98, i99, i100, i106, i107, i114, i119, i120, i121, i141, i243, i255, i270, i340, i680, i999, i1000000, iz_add, iz_sub, iz_mul, iz_neg, iz_lt, iz_le, iz_eq, if_pos, if_neg, ix_iz, Int.toNat_natCast, tn0, tn1, tn2, tn3, tn4, tn5, tn6, tn7, tn8, tn9, tn10, tn11, tn12, tn13, tn14, tn15, tn16, tn17, tn18, tn19, tn20, tn21, tn22, tn23, tn24, tn25, tn26, tn27, gI_sI, gI_sA, gI_sAs, gI_sR, gI_sJ, gA_sI, gA_sA, gA_sAs, gA_sR, gA_sJ, gR_sI, gR_sA, gR_sAs, gR_sR, gR_sJ, gJ_sI, gJ_sA, gJ_sAs, gJ_sR, gJ_sJ]) h.n1
