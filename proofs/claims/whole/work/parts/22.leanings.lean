-- the call leanings
def eot (g : Nat → Bool) (lim e : Int) (tl : Nat → Int) (wy : Nat → Nat) : Nat → Nat → Nat → Int → Int → Int
  | 0, _, _, _, v => v
  | k + 1, j, c, l, v => if v = 0 then (match nx g c (wy j) with
    | none => 3
    | some c' => eot g lim e tl wy k (j + 1) c' (l + tl c' + e) (vd lim (l + tl c' + e))) else 3
theorem eot_s (g : Nat → Bool) (lim e : Int) (tl : Nat → Int) (wy : Nat → Nat) (k j c : Nat) (l v : Int) : eot g lim e tl wy (k + 1) j c l v = if v = 0 then (match nx g c (wy j) with
    | none => 3
    | some c' => eot g lim e tl wy k (j + 1) c' (l + tl c' + e) (vd lim (l + tl c' + e))) else 3 := rfl
theorem sub_s {t j : Nat} (h : j < t) : t - j = (t - (j + 1)) + 1 := by omega
theorem eot3 {g : Nat → Bool} {lim e : Int} {tl : Nat → Int} {wy : Nat → Nat} (k j c : Nat) (l : Int) : eot g lim e tl wy k j c l 3 = 3 := by
  cases k with
  | zero => rfl
  | succ k => unfold eot; rw [if_neg (by decide)]
theorem t_eot {σ : Mm} {g : Nat → Bool} {lim e : Int} {tl : Nat → Int} {wy : Nat → Nat} {t s0 p : Nat} (hT : gI σ 0 11 = iz t) (ht : t ≤ 8) (hw : ∀ j, j < t → wy j < 4 ∧ gA σ 20 j = iz (wy j)) (G : YG σ 13 g lim e tl) (hTl : TlOk g tl) (hl1 : 2 ≤ lim) (hl2 : lim ≤ 9) (he1 : -2 ≤ e) (he2 : e ≤ 2) (hg : ∀ c, g c = true → c < 20) (hs : g s0 = true) (hp : ∀ K : Nat → Option (Int32 × Mm), rk (gR σ 0 2) okPl K = K p) (hp3 : gI σ p 3 = iz s0) {R : Int} (hR : eot g lim e tl wy t 0 s0 0 0 = R) :
    f_T_endOfTold σ 13 = some (if R = 3 then iz (-1) else iz R, σ) := by
  have key : ∃ r, f_T_endOfTold_16 σ 13 (iz s0) (iz 0) (iz 0) (iz 0) = some r ∧ r = (if R = 3 then iz (-1) else iz R, σ) := by
    unfold f_T_endOfTold_16
    refine lp_ind (fun s => 8 - s.2.2.2.2.toNatClampNeg) (fun s => ∃ (j c : Nat) (l v : Int), s = (σ, iz c, iz l, iz v, iz j) ∧ j ≤ t ∧ g c = true ∧ (v = 0 ∨ v = 1 ∨ v = 2) ∧ (v = 0 → -lim < l ∧ l < lim) ∧ eot g lim e tl wy (t - j) j c l v = R) _ ?_ _ ⟨0, s0, 0, 0, rfl, Nat.zero_le _, hs, Or.inl rfl, fun _ => by omega, hR⟩ ?_
    · rintro _ ⟨j, c, l, v, rfl, hj, hc, hv, hv0, hE⟩
      have hc20 := hg c hc
      dsimp only
      by_cases q : j = t
      · right
        rw [q, Nat.sub_self] at hE
        rw [← hE]
        refine ⟨_, ?_, rfl⟩
        rw [show eot g lim e tl wy 0 t c l v = v from rfl, if_neg (by omega)]
        subst q
        simp (disch := omega) only [f_T_endOfTold_16_b, hT, if_true, if_false, and_true, true_and, and_false, false_and, and_self, nm_eq, bd_eq, i0, i1, i2, i3, i4, i5, i6, i7, i8, i9, i10, i11, i12, i17, i20, i21, i26, i27, i32, i34, i48, i54, i57, i59, i64, i98, i99, i100, i106, i107, i114, i119, i120, i121, i141, i243, i255, i270, i340, i680, i999, i1000000, iz_add, iz_sub, iz_mul, iz_neg, iz_lt, iz_le, iz_eq, if_pos, if_neg, ix_iz, Int.toNat_natCast, tn0, tn1, tn2, tn3, tn4, tn5, tn6, tn7, tn8, tn9, tn10, tn11, tn12, tn13, tn14, tn15, tn16, tn17, tn18, tn19, tn20, tn21, tn22, tn23, tn24, tn25, tn26, tn27, gI_sI, gI_sA, gI_sAs, gI_sR, gI_sJ, gA_sI, gA_sA, gA_sAs, gA_sR, gA_sJ, gR_sI, gR_sA, gR_sAs, gR_sR, gR_sJ, gJ_sI, gJ_sA, gJ_sAs, gJ_sR, gJ_sJ]
        rfl
      · obtain ⟨w1, w2⟩ := hw j (by omega)
        have hB := t_beyond G hc20 w1
        rw [if_pos hc] at hB
        rw [show t - j = (t - (j + 1)) + 1 by omega] at hE
        rw [eot_s] at hE
        by_cases q0 : v = 0
        · rw [if_pos q0] at hE
          subst q0
          rcases hx : nx g c (wy j) with _ | c'
          · right
            rw [hx] at hB hE
            dsimp only at hB hE
            rw [i1, iz_neg] at hB
            rw [← hE, if_pos rfl]
            refine ⟨_, ?_, rfl⟩
            simp (disch := omega) only [f_T_endOfTold_16_b, hT, w2, hB, if_true, if_false, and_true, true_and, and_false, false_and, and_self, nm_eq, bd_eq, i0, i1, i2, i3, i4, i5, i6, i7, i8, i9, i10, i11, i12, i17, i20, i21, i26, i27, i32, i34, i48, i54, i57, i59, i64, i98, i99, i100, i106, i107, i114, i119, i120, i121, i141, i243, i255, i270, i340, i680, i999, i1000000, iz_add, iz_sub, iz_mul, iz_neg, iz_lt, iz_le, iz_eq, if_pos, if_neg, ix_iz, Int.toNat_natCast, tn0, tn1, tn2, tn3, tn4, tn5, tn6, tn7, tn8, tn9, tn10, tn11, tn12, tn13, tn14, tn15, tn16, tn17, tn18, tn19, tn20, tn21, tn22, tn23, tn24, tn25, tn26, tn27, gI_sI, gI_sA, gI_sAs, gI_sR, gI_sJ, gA_sI, gA_sA, gA_sAs, gA_sR, gA_sJ, gR_sI, gR_sA, gR_sAs, gR_sR, gR_sJ, gJ_sI, gJ_sA, gJ_sAs, gJ_sR, gJ_sJ]
            rfl
          · left
            rw [hx] at hB hE
            dsimp only at hB hE
            obtain ⟨xg, -⟩ := nx_ok hx
            have xc := hg c' xg
            have xt := hTl c' xg
            have hv1 := hv0 rfl
            have hL := t_leanOn (l := l) G hTl xc xg
            rw [show l + (tl c' + e) = l + tl c' + e by omega] at hL
            have hV := t_verdict (l := l + tl c' + e) G hl1 hl2 (by omega) (by omega)
            refine ⟨(σ, iz c', iz (l + tl c' + e), iz (vd lim (l + tl c' + e)), iz ((j + 1 : Nat) : Int)), ?_, ⟨j + 1, c', _, _, rfl, by omega, xg, vd_cases _ _, fun q => vd_0.mp q, hE⟩, ?_⟩
            · clear hE
              simp (disch := omega) only [f_T_endOfTold_16_b, hT, w2, hB, hL, hV, if_true, if_false, and_true, true_and, and_false, false_and, and_self, nm_eq, bd_eq, i0, i1, i2, i3, i4, i5, i6, i7, i8, i9, i10, i11, i12, i17, i20, i21, i26, i27, i32, i34, i48, i54, i57, i59, i64, i98, i99, i100, i106, i107, i114, i119, i120, i121, i141, i243, i255, i270, i340, i680, i999, i1000000, iz_add, iz_sub, iz_mul, iz_neg, iz_lt, iz_le, iz_eq, if_pos, if_neg, ix_iz, Int.toNat_natCast, tn0, tn1, tn2, tn3, tn4, tn5, tn6, tn7, tn8, tn9, tn10, tn11, tn12, tn13, tn14, tn15, tn16, tn17, tn18, tn19, tn20, tn21, tn22, tn23, tn24, tn25, tn26, tn27, gI_sI, gI_sA, gI_sAs, gI_sR, gI_sJ, gA_sI, gA_sA, gA_sAs, gA_sR, gA_sJ, gR_sI, gR_sA, gR_sAs, gR_sR, gR_sJ, gJ_sI, gJ_sA, gJ_sAs, gJ_sR, gJ_sJ]
              rfl
            · dsimp only
              rw [iz_nat (by omega) (by omega), iz_nat (by omega) (by omega)]
              omega
        · right
          rw [if_neg q0] at hE
          rw [← hE, if_pos rfl]
          refine ⟨_, ?_, rfl⟩
          clear hE
          simp (disch := omega) only [f_T_endOfTold_16_b, hT, w2, hB, if_true, if_false, and_true, true_and, and_false, false_and, and_self, nm_eq, bd_eq, i0, i1, i2, i3, i4, i5, i6, i7, i8, i9, i10, i11, i12, i17, i20, i21, i26, i27, i32, i34, i48, i54, i57, i59, i64, i98, i99, i100, i106, i107, i114, i119, i120, i121, i141, i243, i255, i270, i340, i680, i999, i1000000, iz_add, iz_sub, iz_mul, iz_neg, iz_lt, iz_le, iz_eq, if_pos, if_neg, ix_iz, Int.toNat_natCast, tn0, tn1, tn2, tn3, tn4, tn5, tn6, tn7, tn8, tn9, tn10, tn11, tn12, tn13, tn14, tn15, tn16, tn17, tn18, tn19, tn20, tn21, tn22, tn23, tn24, tn25, tn26, tn27, gI_sI, gI_sA, gI_sAs, gI_sR, gI_sJ, gA_sI, gA_sA, gA_sAs, gA_sR, gA_sJ, gR_sI, gR_sA, gR_sAs, gR_sR, gR_sJ, gJ_sI, gJ_sA, gJ_sAs, gJ_sR, gJ_sJ]
          rfl
    · dsimp only; omega
  obtain ⟨r, h1, h2⟩ := key
  rw [h2] at h1
  simp (disch := omega) only [f_T_endOfTold, hp, hp3, h1, if_true, if_false, and_true, true_and, and_false, false_and, and_self, nm_eq, bd_eq, i0, i1, i2, i3, i4, i5, i6, i7, i8, i9, i10, i11, i12, i17, i20, i21, i26, i27, i32, i34, i48, i54, i57, i59, i64, i98, i99, i100, i106, i107, i114, i119, i120, i121, i141, i243, i255, i270, i340, i680, i999, i1000000, iz_add, iz_sub, iz_mul, iz_neg, iz_lt, iz_le, iz_eq, if_pos, if_neg, ix_iz, Int.toNat_natCast, tn0, tn1, tn2, tn3, tn4, tn5, tn6, tn7, tn8, tn9, tn10, tn11, tn12, tn13, tn14, tn15, tn16, tn17, tn18, tn19, tn20, tn21, tn22, tn23, tn24, tn25, tn26, tn27, gI_sI, gI_sA, gI_sAs, gI_sR, gI_sJ, gA_sI, gA_sA, gA_sAs, gA_sR, gA_sJ, gR_sI, gR_sA, gR_sAs, gR_sR, gR_sJ, gJ_sI, gJ_sA, gJ_sAs, gJ_sR, gJ_sJ]
theorem m_eot {τ : Mm} {W R : Nat} {g : Nat → Bool} {lim lea st e : Int} {tl : Nat → Int} {wy : Nat → Nat} {t s0 : Nat} (hT : gI τ 0 20 = iz t) (ht : t ≤ 8) (hw : ∀ j, j < t → wy j < 4 ∧ gA τ 8 j = iz (wy j)) (Y : Yok W R g lim lea st) (M : YM τ W R g lim lea st) (TM : TlM τ g tl) (hTl : TlOk g tl) (he1 : -2 ≤ e) (he2 : e ≤ 2) (hs : g s0 = true) (hst : st = s0) {r v1 : Int} (hv1 : 0 ≤ v1) (hv2 : v1 ≤ 2) (hR : eot g lim e tl wy t 0 s0 0 0 = r) :
    ∃ τ', f_M_endsSo τ (iz e) (iz v1) = some (if r = v1 then iz 1 else iz 0, τ') ∧ eqM τ τ' ∧ gI τ' 0 20 = gI τ 0 20 ∧ gA τ' 8 = gA τ 8 := by
  have hg := Y.g20
  obtain ⟨-, -, hl1, hl2, -⟩ := id Y
  have key : ∃ q, f_M_endsSo_16 τ (iz e) (iz v1) (iz s0) (iz 0) (iz 0) (iz 0) = some q ∧ ∃ τ', q = (if r = v1 then iz 1 else iz 0, τ') ∧ eqM τ τ' := by
    unfold f_M_endsSo_16
    refine lp_ind (fun s => 8 - s.2.2.2.2.toNatClampNeg) (fun s => ∃ (τ' : Mm) (j : Nat) (c3 l3 : Int32) (v : Int), s = (τ', c3, l3, iz v, iz j) ∧ j ≤ t ∧ (v = 0 ∨ v = 1 ∨ v = 2 ∨ v = 3) ∧ (v = 0 → ∃ (c : Nat) (l : Int), c3 = iz c ∧ l3 = iz l ∧ g c = true ∧ (-lim < l ∧ l < lim) ∧ eot g lim e tl wy (t - j) j c l 0 = r) ∧ (v ≠ 0 → (j = t → v = r) ∧ (j ≠ t → r = 3)) ∧ eqM τ τ') _ ?_ _ ⟨τ, 0, iz s0, iz 0, 0, rfl, Nat.zero_le _, Or.inl rfl, fun _ => ⟨s0, 0, rfl, rfl, hs, by omega, hR⟩, fun q => absurd rfl q, eqM.rfl⟩ ?_
    · rintro _ ⟨τ', j, c3, l3, v, rfl, hj, hv, h0, hn, hM⟩
      have hT' : gI τ' 0 20 = iz t := (hM.1 20 (by decide)).trans hT
      have h8 : gA τ' 8 = gA τ 8 := hM.2.1 8 (by decide)
      dsimp only
      by_cases q : j = t
      · right
        have hvr : v = r := by
          by_cases q0 : v = 0
          · obtain ⟨c, l, -, -, -, -, hE⟩ := h0 q0
            rw [q, Nat.sub_self] at hE
            exact q0.trans hE
          · exact (hn q0).1 q
        refine ⟨_, ?_, τ', rfl, hM⟩
        subst q
        subst hvr
        clear hM h8 hw h0 hn hR hT Y M TM hTl hg hs
        by_cases q2 : v = v1
        · rw [if_pos q2]
          simp (disch := omega) only [f_M_endsSo_16_b, f_M_endsSo_68, hT', q2, if_true, if_false, and_true, true_and, and_false, false_and, and_self, nm_eq, bd_eq, i0, i1, i2, i3, i4, i5, i6, i7, i8, i9, i10, i11, i12, i17, i20, i21, i26, i27, i32, i34, i48, i54, i57, i59, i64, i98, i99, i100, i106, i107, i114, i119, i120, i121, i141, i243, i255, i270, i340, i680, i999, i1000000, iz_add, iz_sub, iz_mul, iz_neg, iz_lt, iz_le, iz_eq, if_pos, if_neg, ix_iz, Int.toNat_natCast, tn0, tn1, tn2, tn3, tn4, tn5, tn6, tn7, tn8, tn9, tn10, tn11, tn12, tn13, tn14, tn15, tn16, tn17, tn18, tn19, tn20, tn21, tn22, tn23, tn24, tn25, tn26, tn27, gI_sI, gI_sA, gI_sAs, gI_sR, gI_sJ, gA_sI, gA_sA, gA_sAs, gA_sR, gA_sJ, gR_sI, gR_sA, gR_sAs, gR_sR, gR_sJ, gJ_sI, gJ_sA, gJ_sAs, gJ_sR, gJ_sJ]
          rfl
        · rw [if_neg q2]
          simp (disch := omega) only [f_M_endsSo_16_b, f_M_endsSo_68, hT', if_true, if_false, and_true, true_and, and_false, false_and, and_self, nm_eq, bd_eq, i0, i1, i2, i3, i4, i5, i6, i7, i8, i9, i10, i11, i12, i17, i20, i21, i26, i27, i32, i34, i48, i54, i57, i59, i64, i98, i99, i100, i106, i107, i114, i119, i120, i121, i141, i243, i255, i270, i340, i680, i999, i1000000, iz_add, iz_sub, iz_mul, iz_neg, iz_lt, iz_le, iz_eq, if_pos, if_neg, ix_iz, Int.toNat_natCast, tn0, tn1, tn2, tn3, tn4, tn5, tn6, tn7, tn8, tn9, tn10, tn11, tn12, tn13, tn14, tn15, tn16, tn17, tn18, tn19, tn20, tn21, tn22, tn23, tn24, tn25, tn26, tn27, gI_sI, gI_sA, gI_sAs, gI_sR, gI_sJ, gA_sI, gA_sA, gA_sAs, gA_sR, gA_sJ, gR_sI, gR_sA, gR_sAs, gR_sR, gR_sJ, gJ_sI, gJ_sA, gJ_sAs, gJ_sR, gJ_sJ]
          rfl
      · left
        obtain ⟨w1, w2⟩ := hw j (by omega)
        rw [← h8] at w2
        by_cases q0 : v = 0
        · obtain ⟨c, l, rfl, rfl, hc, hl, hE⟩ := h0 q0
          subst q0
          have hc20 := hg c hc
          rw [show t - j = (t - (j + 1)) + 1 by omega, eot_s, if_pos rfl] at hE
          have hC := m_comes (c := c) (w := wy j) (l := l) (e := e) Y (M.ext hM) (fun c hc => (congrFun (hM.2.1 4 (by decide)) _).trans (TM c hc)) hTl hc20 w1 (by omega) (by omega) (by omega) (by omega)
          rcases hx : nx g c (wy j) with _ | c'
          · rw [hx] at hC hE
            dsimp only at hC hE
            rw [i3] at hC
            refine ⟨(τ', gI τ' 0 21, gI τ' 0 22, iz 3, iz ((j + 1 : Nat) : Int)), ?_, ⟨τ', j + 1, _, _, 3, rfl, by omega, by omega, fun q => by omega, fun _ => ⟨fun _ => hE, fun _ => hE.symm⟩, hM⟩, ?_⟩
            · clear hE hM h8 hw h0 hn hR hT Y M TM hTl hg hs
              simp (disch := omega) only [f_M_endsSo_16_b, f_M_endsSo_49, hT', w2, hC, if_true, if_false, and_true, true_and, and_false, false_and, and_self, nm_eq, bd_eq, i0, i1, i2, i3, i4, i5, i6, i7, i8, i9, i10, i11, i12, i17, i20, i21, i26, i27, i32, i34, i48, i54, i57, i59, i64, i98, i99, i100, i106, i107, i114, i119, i120, i121, i141, i243, i255, i270, i340, i680, i999, i1000000, iz_add, iz_sub, iz_mul, iz_neg, iz_lt, iz_le, iz_eq, if_pos, if_neg, ix_iz, Int.toNat_natCast, tn0, tn1, tn2, tn3, tn4, tn5, tn6, tn7, tn8, tn9, tn10, tn11, tn12, tn13, tn14, tn15, tn16, tn17, tn18, tn19, tn20, tn21, tn22, tn23, tn24, tn25, tn26, tn27, gI_sI, gI_sA, gI_sAs, gI_sR, gI_sJ, gA_sI, gA_sA, gA_sAs, gA_sR, gA_sJ, gR_sI, gR_sA, gR_sAs, gR_sR, gR_sJ, gJ_sI, gJ_sA, gJ_sAs, gJ_sR, gJ_sJ]
              rfl
            · dsimp only
              rw [iz_nat (by omega) (by omega), iz_nat (by omega) (by omega)]
              omega
          · rw [hx] at hC hE
            dsimp only at hC hE
            obtain ⟨xg, -⟩ := nx_ok hx
            refine ⟨(mCome τ' c' (l + tl c' + e), iz c', iz (l + tl c' + e), iz (vd lim (l + tl c' + e)), iz ((j + 1 : Nat) : Int)), ?_, ⟨_, j + 1, _, _, vd lim (l + tl c' + e), rfl, by omega, by have := vd_cases lim (l + tl c' + e); omega, fun q => ⟨c', l + tl c' + e, rfl, rfl, xg, vd_0.mp q, by rw [q] at hE; exact hE⟩, fun q => ⟨fun q2 => ?_, fun q2 => ?_⟩, hM.trans eqM_come⟩, ?_⟩
            · clear hE hM h8 hw h0 hn hR hT Y M TM hTl hg hs
              simp (disch := omega) only [f_M_endsSo_16_b, f_M_endsSo_49, hT', w2, hC, mCome_to, mCome_lean, if_true, if_false, and_true, true_and, and_false, false_and, and_self, nm_eq, bd_eq, i0, i1, i2, i3, i4, i5, i6, i7, i8, i9, i10, i11, i12, i17, i20, i21, i26, i27, i32, i34, i48, i54, i57, i59, i64, i98, i99, i100, i106, i107, i114, i119, i120, i121, i141, i243, i255, i270, i340, i680, i999, i1000000, iz_add, iz_sub, iz_mul, iz_neg, iz_lt, iz_le, iz_eq, if_pos, if_neg, ix_iz, Int.toNat_natCast, tn0, tn1, tn2, tn3, tn4, tn5, tn6, tn7, tn8, tn9, tn10, tn11, tn12, tn13, tn14, tn15, tn16, tn17, tn18, tn19, tn20, tn21, tn22, tn23, tn24, tn25, tn26, tn27, gI_sI, gI_sA, gI_sAs, gI_sR, gI_sJ, gA_sI, gA_sA, gA_sAs, gA_sR, gA_sJ, gR_sI, gR_sA, gR_sAs, gR_sR, gR_sJ, gJ_sI, gJ_sA, gJ_sAs, gJ_sR, gJ_sJ]
              rfl
            · rw [← q2, Nat.sub_self] at hE
              exact hE
            · have jt : j + 1 < t := Nat.lt_of_le_of_ne (Nat.lt_of_le_of_ne hj ‹¬ j = t›) q2
              rw [sub_s jt, eot_s, if_neg q] at hE
              exact hE.symm
            · dsimp only
              rw [iz_nat (by omega) (by omega), iz_nat (by omega) (by omega)]
              omega
        · obtain ⟨hn1, hn2⟩ := hn q0
          have r3 := hn2 q
          refine ⟨(τ', gI τ' 0 21, gI τ' 0 22, iz 3, iz ((j + 1 : Nat) : Int)), ?_, ⟨τ', j + 1, _, _, 3, rfl, by omega, by omega, fun q => by omega, fun _ => ⟨fun _ => r3.symm, fun _ => r3⟩, hM⟩, ?_⟩
          · clear hM h8 hw h0 hn hR hT Y M TM hTl hg hs
            simp (disch := omega) only [f_M_endsSo_16_b, f_M_endsSo_49, hT', w2, if_true, if_false, and_true, true_and, and_false, false_and, and_self, nm_eq, bd_eq, i0, i1, i2, i3, i4, i5, i6, i7, i8, i9, i10, i11, i12, i17, i20, i21, i26, i27, i32, i34, i48, i54, i57, i59, i64, i98, i99, i100, i106, i107, i114, i119, i120, i121, i141, i243, i255, i270, i340, i680, i999, i1000000, iz_add, iz_sub, iz_mul, iz_neg, iz_lt, iz_le, iz_eq, if_pos, if_neg, ix_iz, Int.toNat_natCast, tn0, tn1, tn2, tn3, tn4, tn5, tn6, tn7, tn8, tn9, tn10, tn11, tn12, tn13, tn14, tn15, tn16, tn17, tn18, tn19, tn20, tn21, tn22, tn23, tn24, tn25, tn26, tn27, gI_sI, gI_sA, gI_sAs, gI_sR, gI_sJ, gA_sI, gA_sA, gA_sAs, gA_sR, gA_sJ, gR_sI, gR_sA, gR_sAs, gR_sR, gR_sJ, gJ_sI, gJ_sA, gJ_sAs, gJ_sR, gJ_sJ]
            rfl
          · dsimp only
            rw [iz_nat (by omega) (by omega), iz_nat (by omega) (by omega)]
            omega
    · dsimp only; omega
  obtain ⟨q, h1, τ', h2, h3⟩ := key
  rw [h2] at h1
  have hst2 : gA τ 2 2 = iz s0 := by rw [← hst]; exact M.2.2.1
  refine ⟨τ', ?_, h3, h3.1 20 (by decide), h3.2.1 8 (by decide)⟩
  clear hw h3 Y M TM hTl hg hs
  simp (disch := omega) only [f_M_endsSo, hst2, h1, if_true, if_false, and_true, true_and, and_false, false_and, and_self, nm_eq, bd_eq, i0, i1, i2, i3, i4, i5, i6, i7, i8, i9, i10, i11, i12, i17, i20, i21, i26, i27, i32, i34, i48, i54, i57, i59, i64, i98, i99, i100, i106, i107, i114, i119, i120, i121, i141, i243, i255, i270, i340, i680, i999, i1000000, iz_add, iz_sub, iz_mul, iz_neg, iz_lt, iz_le, iz_eq, if_pos, if_neg, ix_iz, Int.toNat_natCast, tn0, tn1, tn2, tn3, tn4, tn5, tn6, tn7, tn8, tn9, tn10, tn11, tn12, tn13, tn14, tn15, tn16, tn17, tn18, tn19, tn20, tn21, tn22, tn23, tn24, tn25, tn26, tn27, gI_sI, gI_sA, gI_sAs, gI_sR, gI_sJ, gA_sI, gA_sA, gA_sAs, gA_sR, gA_sJ, gR_sI, gR_sA, gR_sAs, gR_sR, gR_sJ, gJ_sI, gJ_sA, gJ_sAs, gJ_sR, gJ_sJ]
theorem eot_in {g : Nat → Bool} {lim e : Int} {tl : Nat → Int} {wy : Nat → Nat} (k j c : Nat) (l v : Int) (hv : -1 ≤ v ∧ v ≤ 3) : -1 ≤ eot g lim e tl wy k j c l v ∧ eot g lim e tl wy k j c l v ≤ 3 := by
  induction k generalizing j c l v with
  | zero => exact hv
  | succ k ih =>
    rw [eot_s]
    by_cases q : v = 0
    · rw [if_pos q]
      cases nx g c (wy j) with
      | none => exact ⟨(by decide : (-1 : Int) ≤ 3), (by decide : (3 : Int) ≤ 3)⟩
      | some c' => exact ih _ _ _ _ (by have := vd_cases lim (l + tl c' + e); omega)
    · rw [if_neg q]; exact ⟨by decide, by decide⟩
theorem t_gbec {σ : Mm} {W R : Nat} {g : Nat → Bool} {lim lea st : Int} {m : Nat → Int} {n : Nat} {τ : Mm} (H : RelY W R g lim lea st m n σ τ) : ∃ σ', f_Gr_become σ 13 11 = some (0, σ') ∧ RelY W R g lim lea st m n σ' τ ∧ YG σ' 13 g lim lea (fun c => m (7 + c)) ∧ (∀ c k, c ≠ 13 → gI σ' c k = gI σ c k) ∧ gA σ' 20 = gA σ 20 := by
  refine ⟨sI (sI (sAs (sAs σ 15 (va_cpy (gA σ 37) (gA σ 15) 0 0 20)) 14 (va_cpy (gA σ 12) (gA σ 14) 0 0 80)) 13 2 (gI σ 11 2)) 13 3 (gI σ 11 3), rfl, ?_, ?_, ?_, rfl⟩
  · refine H.ext (Nat.le_refl _) ⟨fun c k hc => ?_, fun c hc => ?_, Eq.refl (gR σ 0 2), Eq.refl (gR σ 0 3), Eq.refl (gJ σ), fun (h : Rparts σ) => h⟩ eqM.rfl
    · rw [gI_sI, if_neg (fun q => by rw [q.1] at hc; cases hc), gI_sI, if_neg (fun q => by rw [q.1] at hc; cases hc)]
      exact Eq.refl (gI σ c k)
    · rw [gA_sI, gA_sI, gA_sAs, if_neg (fun q => by rw [q] at hc; cases hc), gA_sAs, if_neg (fun q => by rw [q] at hc; cases hc)]
  · obtain ⟨G1, G2, G3, G4⟩ := H.YG
    refine ⟨?_, ?_, fun c hc => ?_, fun c w hc hw => ?_⟩
    · rw [gI_sI, if_neg (by decide), gI_sI, if_pos ⟨rfl, rfl⟩]; exact G1
    · rw [gI_sI, if_pos ⟨rfl, rfl⟩]; exact G2
    · have := G3 c hc
      rw [gA_sI, gA_sI, gA_sAs, if_neg (by decide), show gTl 13 = 15 from rfl, gA_sAs, if_pos rfl]
      rw [show va_cpy (gA σ 37) (gA σ 15) 0 0 20 c = gA σ 37 c from by
        rw [pk_cpy_in (by omega) (by omega)]
        congr 1
        omega]
      exact this
    · have := G4 c w hc hw
      rw [gA_sI, gA_sI, show (13 : Nat) + 1 = 14 from rfl, gA_sAs, if_pos rfl]
      rw [show va_cpy (gA σ 12) (gA σ 14) 0 0 80 (4 * c + w) = gA σ 12 (4 * c + w) from by
        rw [pk_cpy_in (by omega) (by omega)]
        congr 1
        omega]
      exact this
  · intro c k hc
    rw [gI_sI, if_neg (fun q => hc q.1), gI_sI, if_neg (fun q => hc q.1)]
    exact Eq.refl (gI σ c k)
def acc (P : Nat → Prop) [DecidablePred P] : Nat → Int32
  | 0 => iz 0
  | i + 1 => if P i then acc P i ||| (1 <<< (iz i &&& 31)) else acc P i
theorem b_leanings {n : Nat} {σ τ : Mm} (h : Rel n σ τ) (v : Int32) : Both n (f_T_leanings σ v) (f_M_leanings τ v) := by
  obtain ⟨z, z1, z2, rfl⟩ := iz_of v
  have h' := h
  obtain ⟨W, R, g, lim, lea, st, m, H⟩ := h'
  have H' := H
  obtain ⟨h1, h2, h3, h4, h5, h6, h7, h8, h9, h10, h11, h12, h13, h14⟩ := H'
  have hst := h1.st
  have h3' := h3
  have h6' := h6
  have h4' := h4
  obtain ⟨p, d, e1, e2, e3, e4, e5, e6, e7, e8⟩ := h3'
  obtain ⟨c0, c1, c2, c3, c4, c5, c6, hTl⟩ := h6'
  obtain ⟨g0, g1, g2, g3, g4, g5, g6, g7⟩ := h4'
  have b0 := h5.1 0 (by decide)
  have b1 := h5.1 1 (by decide)
  have b2 := h5.1 2 (by decide)
  have b3 := h5.1 3 (by decide)
  have b4 := h5.1 4 (by decide)
  have b5 := h5.1 5 (by decide)
  have b6 := h5.1 6 (by decide)
  have epl : ∀ K : Nat → Option (Int32 × Mm), rk (gR σ 0 2) okPl K = K p := fun K => by rw [e1]; rcases e3 with ⟨rfl, _⟩ | ⟨rfl, _⟩ <;> rfl
  obtain ⟨y1, y2, y3, y4, y5, y6, y7, y8⟩ := h1
  obtain ⟨m1, m2, m3, m4, m5, m6⟩ := h2
  have h1 : Yok W R g lim lea st := H.1
  have h2 : YM τ W R g lim lea st := H.2.1
  have hS := t_hasNoStart h3 (by omega) (by omega)
  have hS2 := m_hasStart H.go'.1 H.go'.2.1
  by_cases k1 : z < 0
  · exact Both.of (r := iz (-1)) (by simp (disch := omega) only [f_T_leanings, if_true, if_false, and_true, true_and, and_false, false_and, and_self, nm_eq, bd_eq, i0, i1, i2, i3, i4, i5, i6, i7, i8, i9, i10, i11, i12, i17, i20, i21, i26, i27, i32, i34, i48, i54, i57, i59, i64, i98, i99, i100, i106, i107, i114, i119, i120, i121, i141, i243, i255, i270, i340, i680, i999, i1000000, iz_add, iz_sub, iz_mul, iz_neg, iz_lt, iz_le, iz_eq, if_pos, if_neg, ix_iz, Int.toNat_natCast, tn0, tn1, tn2, tn3, tn4, tn5, tn6, tn7, tn8, tn9, tn10, tn11, tn12, tn13, tn14, tn15, tn16, tn17, tn18, tn19, tn20, tn21, tn22, tn23, tn24, tn25, tn26, tn27, gI_sI, gI_sA, gI_sAs, gI_sR, gI_sJ, gA_sI, gA_sA, gA_sAs, gA_sR, gA_sJ, gR_sI, gR_sA, gR_sAs, gR_sR, gR_sJ, gJ_sI, gJ_sA, gJ_sAs, gJ_sR, gJ_sJ]) (by simp (disch := omega) only [f_M_leanings, f_M_in, if_true, if_false, and_true, true_and, and_false, false_and, and_self, nm_eq, bd_eq, i0, i1, i2, i3, i4, i5, i6, i7, i8, i9, i10, i11, i12, i17, i20, i21, i26, i27, i32, i34, i48, i54, i57, i59, i64, i98, i99, i100, i106, i107, i114, i119, i120, i121, i141, i243, i255, i270, i340, i680, i999, i1000000, iz_add, iz_sub, iz_mul, iz_neg, iz_lt, iz_le, iz_eq, if_pos, if_neg, ix_iz, Int.toNat_natCast, tn0, tn1, tn2, tn3, tn4, tn5, tn6, tn7, tn8, tn9, tn10, tn11, tn12, tn13, tn14, tn15, tn16, tn17, tn18, tn19, tn20, tn21, tn22, tn23, tn24, tn25, tn26, tn27, gI_sI, gI_sA, gI_sAs, gI_sR, gI_sJ, gA_sI, gA_sA, gA_sAs, gA_sR, gA_sJ, gR_sI, gR_sA, gR_sAs, gR_sR, gR_sJ, gJ_sI, gJ_sA, gJ_sAs, gJ_sR, gJ_sJ]) h.n1
  by_cases k2 : z ≤ 2
  · by_cases q : st = -9
    · rw [if_pos q] at hS hS2
      exact Both.of (r := iz (-2)) (by simp (disch := omega) only [f_T_leanings, hS, if_true, if_false, and_true, true_and, and_false, false_and, and_self, nm_eq, bd_eq, i0, i1, i2, i3, i4, i5, i6, i7, i8, i9, i10, i11, i12, i17, i20, i21, i26, i27, i32, i34, i48, i54, i57, i59, i64, i98, i99, i100, i106, i107, i114, i119, i120, i121, i141, i243, i255, i270, i340, i680, i999, i1000000, iz_add, iz_sub, iz_mul, iz_neg, iz_lt, iz_le, iz_eq, if_pos, if_neg, ix_iz, Int.toNat_natCast, tn0, tn1, tn2, tn3, tn4, tn5, tn6, tn7, tn8, tn9, tn10, tn11, tn12, tn13, tn14, tn15, tn16, tn17, tn18, tn19, tn20, tn21, tn22, tn23, tn24, tn25, tn26, tn27, gI_sI, gI_sA, gI_sAs, gI_sR, gI_sJ, gA_sI, gA_sA, gA_sAs, gA_sR, gA_sJ, gR_sI, gR_sA, gR_sAs, gR_sR, gR_sJ, gJ_sI, gJ_sA, gJ_sAs, gJ_sR, gJ_sJ]) (by simp (disch := omega) only [f_M_leanings, f_M_in, hS2, if_true, if_false, and_true, true_and, and_false, false_and, and_self, nm_eq, bd_eq, i0, i1, i2, i3, i4, i5, i6, i7, i8, i9, i10, i11, i12, i17, i20, i21, i26, i27, i32, i34, i48, i54, i57, i59, i64, i98, i99, i100, i106, i107, i114, i119, i120, i121, i141, i243, i255, i270, i340, i680, i999, i1000000, iz_add, iz_sub, iz_mul, iz_neg, iz_lt, iz_le, iz_eq, if_pos, if_neg, ix_iz, Int.toNat_natCast, tn0, tn1, tn2, tn3, tn4, tn5, tn6, tn7, tn8, tn9, tn10, tn11, tn12, tn13, tn14, tn15, tn16, tn17, tn18, tn19, tn20, tn21, tn22, tn23, tn24, tn25, tn26, tn27, gI_sI, gI_sA, gI_sAs, gI_sR, gI_sJ, gA_sI, gA_sA, gA_sAs, gA_sR, gA_sJ, gR_sI, gR_sA, gR_sAs, gR_sR, gR_sJ, gJ_sI, gJ_sA, gJ_sAs, gJ_sR, gJ_sJ]) h.n1
    · rw [if_neg q] at hS hS2
      obtain ⟨s0, hs0, hgs⟩ : ∃ c : Nat, st = c ∧ g c = true := by
        rcases y8 with y | y
        · exact absurd y q
        · exact y
      obtain ⟨t, t1, t2, t3, t4⟩ := h11
      obtain ⟨wy, hwy⟩ : ∃ wy : Nat → Nat, ∀ j, j < t → wy j < 4 ∧ gA σ 20 j = iz (wy j) ∧ gA τ 8 j = iz (wy j) := by
        refine ⟨fun j => (gA σ 20 j).toNatClampNeg, fun j hj => ?_⟩
        obtain ⟨w, w1, w2, w3⟩ := t4 j hj
        have e : (gA σ 20 j).toNatClampNeg = w := by rw [w2, iz_nat (by omega) (by omega)]; omega
        dsimp only
        rw [e]
        exact ⟨w1, w2, w3⟩
      generalize hPd : (fun i : Nat => eot g lim ((i : Int) - 2) (fun c => m (7 + c)) wy t 0 s0 0 0 = z) = P
      have hP : ∀ i, P i ↔ eot g lim ((i : Int) - 2) (fun c => m (7 + c)) wy t 0 s0 0 0 = z := fun i => by rw [← hPd]
      have : DecidablePred P := fun i => Classical.propDecidable _
      have hz3 : ∀ i : Nat, -1 ≤ eot g lim ((i : Int) - 2) (fun c => m (7 + c)) wy t 0 s0 0 0 ∧ eot g lim ((i : Int) - 2) (fun c => m (7 + c)) wy t 0 s0 0 0 ≤ 3 := fun i => eot_in _ _ _ _ _ (by omega)
      obtain ⟨σ0, x1, x2, x3, x4, x5⟩ := t_gbec H
      have kT : ∃ r, f_T_leanings_36 σ0 (iz z) (iz 0) (iz 0) = some r ∧ ∃ σ', r = (acc P 5, σ') ∧ RelY W R g lim lea st m n σ' τ := by
        unfold f_T_leanings_36
        refine lp_ind (fun s => 5 - s.2.2.toNatClampNeg) (fun s => ∃ (σ' : Mm) (i : Nat) (e : Int), s = (σ', acc P i, iz i) ∧ i ≤ 5 ∧ RelY W R g lim lea st m n σ' τ ∧ YG σ' 13 g lim e (fun c => m (7 + c)) ∧ gI σ' 0 11 = iz t ∧ gA σ' 20 = gA σ 20) _ ?_ _ ⟨σ0, 0, lea, rfl, by omega, x2, x3, (x4 0 11 (by decide)).trans t2, x5⟩ ?_
        · rintro _ ⟨σ', i, e, rfl, hi, r1, r2, r3, r4⟩
          dsimp only
          by_cases q5 : i = 5
          · right
            refine ⟨_, ?_, σ', rfl, r1⟩
            subst q5
            unfold f_T_leanings_36_b
            rw [if_neg (by decide)]
            rfl
          · left
            have i5' : i < 5 := by omega
            have Y1 : YG (sI σ' 13 3 (iz ((i : Int) - 2))) 13 g lim ((i : Int) - 2) (fun c => m (7 + c)) := ⟨r2.1, by rw [gI_sI, if_pos ⟨rfl, rfl⟩], r2.2.2⟩
            have R1 : RelY W R g lim lea st m n (sI σ' 13 3 (iz ((i : Int) - 2))) τ := r1.ext (Nat.le_refl _) ⟨fun c k hc => by rw [gI_sI, if_neg (fun q => by rw [q.1] at hc; cases hc)], fun c _ => Eq.refl (gA σ' c), Eq.refl (gR σ' 0 2), Eq.refl (gR σ' 0 3), Eq.refl (gJ σ'), fun (h : Rparts σ') => h⟩ eqM.rfl
            obtain ⟨p', d', u1, u2, u3, u4, u5, u6, -⟩ := R1.2.2.1
            have epl' : ∀ K : Nat → Option (Int32 × Mm), rk (gR (sI σ' 13 3 (iz ((i : Int) - 2))) 0 2) okPl K = K p' := fun K => by rw [u1]; rcases u3 with ⟨rfl, _⟩ | ⟨rfl, _⟩ <;> rfl
            have hE := t_eot (σ := sI σ' 13 3 (iz ((i : Int) - 2))) (t := t) (wy := wy) (s0 := s0) (p := p') r3 t1 (fun j hj => ⟨(hwy j hj).1, (congrFun r4 j).trans (hwy j hj).2.1⟩) Y1 H.TlOk y3 y4 (by omega) (by omega) h1.g20 hgs epl' (by rw [u6, hs0]) rfl
            have hb := hz3 i
            have hPi := hP i
            have eI : iz (i : Int) - 2 = iz ((i : Int) - 2) := by rw [i2, iz_sub]
            have eI1 : iz (i : Int) + 1 = iz ((i + 1 : Nat) : Int) := by rw [i1, iz_add]; rfl
            generalize eot g lim ((i : Int) - 2) (fun c => m (7 + c)) wy t 0 s0 0 0 = Ri at hE hb hPi
            have hc : ((if Ri = 3 then iz (-1) else iz Ri) = iz z) ↔ P i := by
              rw [hPi]
              by_cases w : Ri = 3
              · rw [if_pos w, iz_eq (by omega) (by omega) (by omega) (by omega)]; omega
              · rw [if_neg w, iz_eq (by omega) (by omega) (by omega) (by omega)]
            refine ⟨(sI σ' 13 3 (iz ((i : Int) - 2)), acc P (i + 1), iz ((i + 1 : Nat) : Int)), ?_, ⟨_, i + 1, (i : Int) - 2, rfl, by omega, R1, Y1, r3, r4⟩, ?_⟩
            · unfold f_T_leanings_36_b
              rw [i5, if_pos ((iz_lt (by omega) (by omega) (by omega) (by omega)).mpr (by omega)), eI, nm_eq, hE, bd_eq, eI1]
              by_cases w : P i
              · rw [if_pos (hc.mpr w), nm_eq, nm_eq, acc, if_pos w]
              · rw [if_neg (fun w2 => w (hc.mp w2)), nm_eq, acc, if_neg w]
            · dsimp only
              rw [iz_nat (by omega) (by omega), iz_nat (by omega) (by omega)]
              omega
        · dsimp only; omega
      have kM : ∃ r, f_M_leanings_30 (sI τ 0 0 (iz 0)) (iz z) (iz 0) (iz 0) = some r ∧ ∃ τ', r = (acc P 5, τ') ∧ eqM τ τ' := by
        unfold f_M_leanings_30
        refine lp_ind (fun s => 5 - s.2.2.toNatClampNeg) (fun s => ∃ (τ' : Mm) (i : Nat), s = (τ', acc P i, iz i) ∧ i ≤ 5 ∧ eqM τ τ') _ ?_ _ ⟨_, 0, rfl, by omega, eqM_0⟩ ?_
        · rintro _ ⟨τ', i, rfl, hi, r1⟩
          dsimp only
          by_cases q5 : i = 5
          · right
            refine ⟨_, ?_, τ', rfl, r1⟩
            subst q5
            unfold f_M_leanings_30_b
            rw [if_neg (by decide)]
            rfl
          · left
            have i5' : i < 5 := by omega
            have R1 := H.ext (Nat.le_refl _) eqT.rfl r1
            obtain ⟨τ2, v1, v2, v3, v4⟩ := m_eot (τ := τ') (e := (i : Int) - 2) (t := t) (wy := wy) (s0 := s0) (v1 := z) ((r1.1 20 (by decide)).trans t3) t1 (fun j hj => ⟨(hwy j hj).1, (congrFun (r1.2.1 8 (by decide)) j).trans (hwy j hj).2.2⟩) h1 R1.2.1 R1.TlM H.TlOk (by omega) (by omega) hgs hs0 (by omega) k2 rfl
            have hPi := hP i
            have eI : iz (i : Int) - 2 = iz ((i : Int) - 2) := by rw [i2, iz_sub]
            have eI1 : iz (i : Int) + 1 = iz ((i + 1 : Nat) : Int) := by rw [i1, iz_add]; rfl
            refine ⟨(τ2, acc P (i + 1), iz ((i + 1 : Nat) : Int)), ?_, ⟨_, i + 1, rfl, by omega, r1.trans v2⟩, ?_⟩
            · unfold f_M_leanings_30_b
              rw [i5, if_pos ((iz_lt (by omega) (by omega) (by omega) (by omega)).mpr (by omega)), eI, v1, bd_eq]
              unfold f_M_leanings_54
              by_cases w : P i
              · rw [if_pos (hPi.mp w), if_neg (by decide), nm_eq, eI1, nm_eq, acc, if_pos w]
              · rw [if_neg (fun w2 => w (hPi.mpr w2)), if_pos (by decide), nm_eq, eI1, nm_eq, acc, if_neg w, Int32.or_zero]
            · dsimp only
              rw [iz_nat (by omega) (by omega), iz_nat (by omega) (by omega)]
              omega
        · dsimp only; omega
      obtain ⟨_, kT1, σ', rfl, kT2⟩ := kT
      obtain ⟨_, kM1, τ', rfl, kM2⟩ := kM
      refine Both.of (r := acc P 5) (σ' := σ') (τ' := τ') ?_ ?_ (Rel.n1' ⟨W, R, g, lim, lea, st, m, kT2.ext (Nat.le_refl _) eqT.rfl kM2⟩)
      · clear hwy hP hPd hz3 t4 kM1 kM2 kT2 x2 x3 x4 x5
        simp (disch := omega) only [f_T_leanings, hS, x1, kT1, if_true, if_false, and_true, true_and, and_false, false_and, and_self, nm_eq, bd_eq, i0, i1, i2, i3, i4, i5, i6, i7, i8, i9, i10, i11, i12, i17, i20, i21, i26, i27, i32, i34, i48, i54, i57, i59, i64, i98, i99, i100, i106, i107, i114, i119, i120, i121, i141, i243, i255, i270, i340, i680, i999, i1000000, iz_add, iz_sub, iz_mul, iz_neg, iz_lt, iz_le, iz_eq, if_pos, if_neg, ix_iz, Int.toNat_natCast, tn0, tn1, tn2, tn3, tn4, tn5, tn6, tn7, tn8, tn9, tn10, tn11, tn12, tn13, tn14, tn15, tn16, tn17, tn18, tn19, tn20, tn21, tn22, tn23, tn24, tn25, tn26, tn27, gI_sI, gI_sA, gI_sAs, gI_sR, gI_sJ, gA_sI, gA_sA, gA_sAs, gA_sR, gA_sJ, gR_sI, gR_sA, gR_sAs, gR_sR, gR_sJ, gJ_sI, gJ_sA, gJ_sAs, gJ_sR, gJ_sJ]
      · clear hwy hP hPd hz3 t4 kT1 kM2 kT2 x2 x3 x4 x5
        simp (disch := omega) only [f_M_leanings, f_M_in, hS2, kM1, if_true, if_false, and_true, true_and, and_false, false_and, and_self, nm_eq, bd_eq, i0, i1, i2, i3, i4, i5, i6, i7, i8, i9, i10, i11, i12, i17, i20, i21, i26, i27, i32, i34, i48, i54, i57, i59, i64, i98, i99, i100, i106, i107, i114, i119, i120, i121, i141, i243, i255, i270, i340, i680, i999, i1000000, iz_add, iz_sub, iz_mul, iz_neg, iz_lt, iz_le, iz_eq, if_pos, if_neg, ix_iz, Int.toNat_natCast, tn0, tn1, tn2, tn3, tn4, tn5, tn6, tn7, tn8, tn9, tn10, tn11, tn12, tn13, tn14, tn15, tn16, tn17, tn18, tn19, tn20, tn21, tn22, tn23, tn24, tn25, tn26, tn27, gI_sI, gI_sA, gI_sAs, gI_sR, gI_sJ, gA_sI, gA_sA, gA_sAs, gA_sR, gA_sJ, gR_sI, gR_sA, gR_sAs, gR_sR, gR_sJ, gJ_sI, gJ_sA, gJ_sAs, gJ_sR, gJ_sJ]
  · exact Both.of (r := iz (-1)) (by simp (disch := omega) only [f_T_leanings, if_true, if_false, and_true, true_and, and_false, false_and, and_self, nm_eq, bd_eq, i0, i1, i2, i3, i4, i5, i6, i7, i8, i9, i10, i11, i12, i17, i20, i21, i26, i27, i32, i34, i48, i54, i57, i59, i64, i98, i99, i100, i106, i107, i114, i119, i120, i121, i141, i243, i255, i270, i340, i680, i999, i1000000, iz_add, iz_sub, iz_mul, iz_neg, iz_lt, iz_le, iz_eq, if_pos, if_neg, ix_iz, Int.toNat_natCast, tn0, tn1, tn2, tn3, tn4, tn5, tn6, tn7, tn8, tn9, tn10, tn11, tn12, tn13, tn14, tn15, tn16, tn17, tn18, tn19, tn20, tn21, tn22, tn23, tn24, tn25, tn26, tn27, gI_sI, gI_sA, gI_sAs, gI_sR, gI_sJ, gA_sI, gA_sA, gA_sAs, gA_sR, gA_sJ, gR_sI, gR_sA, gR_sAs, gR_sR, gR_sJ, gJ_sI, gJ_sA, gJ_sAs, gJ_sR, gJ_sJ]) (by simp (disch := omega) only [f_M_leanings, f_M_in, if_true, if_false, and_true, true_and, and_false, false_and, and_self, nm_eq, bd_eq, i0, i1, i2, i3, i4, i5, i6, i7, i8, i9, i10, i11, i12, i17, i20, i21, i26, i27, i32, i34, i48, i54, i57, i59, i64, i98, i99, i100, i106, i107, i114, i119, i120, i121, i141, i243, i255, i270, i340, i680, i999, i1000000, iz_add, iz_sub, iz_mul, iz_neg, iz_lt, iz_le, iz_eq, if_pos, if_neg, ix_iz, Int.toNat_natCast, tn0, tn1, tn2, tn3, tn4, tn5, tn6, tn7, tn8, tn9, tn10, tn11, tn12, tn13, tn14, tn15, tn16, tn17, tn18, tn19, tn20, tn21, tn22, tn23, tn24, tn25, tn26, tn27, gI_sI, gI_sA, gI_sAs, gI_sR, gI_sJ, gA_sI, gA_sA, gA_sAs, gA_sR, gA_sJ, gR_sI, gR_sA, gR_sAs, gR_sR, gR_sJ, gJ_sI, gJ_sA, gJ_sAs, gJ_sR, gJ_sJ]) h.n1
