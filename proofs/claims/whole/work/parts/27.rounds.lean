-- the reference's rounds, run
def cz (W : Nat → Int) : Nat → Nat
  | 0 => 0
  | k + 1 => cz W k + if W k = 0 then 1 else 0
theorem cz_le (W : Nat → Int) (k : Nat) : cz W k ≤ k := by
  induction k with
  | zero => exact Nat.le_refl _
  | succ k ih =>
    unfold cz
    by_cases q : W k = 0
    · rw [if_pos q]; omega
    · rw [if_neg q]; omega
theorem cz_put0 {W L W' L' : Nat → Int} {s : Nat} {x n : Int} (P : Put s x n W L W' L') (k : Nat) (hk : k ≤ s) : cz W' k = cz W k := by
  induction k with
  | zero => rfl
  | succ k ih =>
    unfold cz
    rw [ih (by omega), (P.2.2 k (by omega)).1]
theorem cz_put {W L W' L' : Nat → Int} {s : Nat} {x n : Int} (P : Put s x n W L W' L') (h0 : W s = 0) (hx : x ≠ 0) (k : Nat) (hk : s < k) : cz W' k + 1 = cz W k := by
  induction k with
  | zero => omega
  | succ k ih =>
    unfold cz
    by_cases e : k = s
    · rw [e, cz_put0 P s (Nat.le_refl _), P.1, if_neg hx, if_pos h0]
    · rw [(P.2.2 k e).1]
      have := ih (by omega)
      omega
theorem gx_cell {g : Nat → Bool} {c : Nat} (h : c < 20) : gx g ((c % 5 : Nat) : Int) ((c / 5 : Nat) : Int) = true ↔ g c = true := by
  have e : (5 * ((c / 5 : Nat) : Int) + ((c % 5 : Nat) : Int)).toNat = c := by omega
  rw [gx_spec, e]
  constructor
  · exact fun h => h.2.2.2.2
  · exact fun h => ⟨by omega, by omega, by omega, by omega, h⟩
theorem m_r80 {τ : Mm} {n v2 a b : Int32} {v i : Int} (h : v = 0 ∨ v = 1) : f_M_rounds_80 τ n (iz v) (iz i) a b 0 = some (.inl (τ, iz v, iz (i + 1))) := by
  rcases h with rfl | rfl
  · simp (disch := omega) only [f_M_rounds_80, f_M_rounds_102, f_M_rounds_106, f_M_rounds_111, if_true, if_false, and_true, true_and, and_false, false_and, and_self, nm_eq, bd_eq, i0, i1, i2, i3, i4, i5, i6, i7, i8, i9, i10, i11, i12, i17, i20, i21, i26, i27, i32, i34, i48, i54, i57, i59, i64, i98, i99, i100, i106, i107, i114, i119, i120, i121, i141, i243, i255, i270, i340, i680, i999, i1000000, iz_add, iz_sub, iz_mul, iz_neg, iz_lt, iz_le, iz_eq, if_pos, if_neg, ix_iz, Int.toNat_natCast, tn0, tn1, tn2, tn3, tn4, tn5, tn6, tn7, tn8, tn9, tn10, tn11, tn12, tn13, tn14, tn15, tn16, tn17, tn18, tn19, tn20, tn21, tn22, tn23, tn24, tn25, tn26, tn27, gI_sI, gI_sA, gI_sAs, gI_sR, gI_sJ, gA_sI, gA_sA, gA_sAs, gA_sR, gA_sJ, gR_sI, gR_sA, gR_sAs, gR_sR, gR_sJ, gJ_sI, gJ_sA, gJ_sAs, gJ_sR, gJ_sJ]
  · simp (disch := omega) only [f_M_rounds_80, f_M_rounds_102, f_M_rounds_106, f_M_rounds_111, if_true, if_false, and_true, true_and, and_false, false_and, and_self, nm_eq, bd_eq, i0, i1, i2, i3, i4, i5, i6, i7, i8, i9, i10, i11, i12, i17, i20, i21, i26, i27, i32, i34, i48, i54, i57, i59, i64, i98, i99, i100, i106, i107, i114, i119, i120, i121, i141, i243, i255, i270, i340, i680, i999, i1000000, iz_add, iz_sub, iz_mul, iz_neg, iz_lt, iz_le, iz_eq, if_pos, if_neg, ix_iz, Int.toNat_natCast, tn0, tn1, tn2, tn3, tn4, tn5, tn6, tn7, tn8, tn9, tn10, tn11, tn12, tn13, tn14, tn15, tn16, tn17, tn18, tn19, tn20, tn21, tn22, tn23, tn24, tn25, tn26, tn27, gI_sI, gI_sA, gI_sAs, gI_sR, gI_sJ, gA_sI, gA_sA, gA_sAs, gA_sR, gA_sJ, gR_sI, gR_sA, gR_sAs, gR_sR, gR_sJ, gJ_sI, gJ_sA, gJ_sAs, gJ_sR, gJ_sJ]
theorem m_r80y {τ τ' : Mm} {n v2 a b : Int32} {p : Nat} {i : Int} (e : rm32 (iz i) 2 = iz p) (h : f_M_isIn τ a b (iz p) n = some (iz 1, τ')) : f_M_rounds_80 τ n v2 (iz i) a b 1 = some (.inl (τ', iz 1, iz (i + 1))) := by
  unfold f_M_rounds_80
  rw [if_neg (by decide), e, h, bd_eq, if_neg (by decide)]
  unfold f_M_rounds_106 f_M_rounds_111
  rw [nm_eq, i1, iz_add]
theorem m_r80n {τ τ' : Mm} {n a b : Int32} {p : Nat} {i v : Int} (hv : v = 0 ∨ v = 1) (e : rm32 (iz i) 2 = iz p) (h : f_M_isIn τ a b (iz p) n = some (iz 0, τ')) : f_M_rounds_80 τ n (iz v) (iz i) a b 1 = some (.inl (τ', iz v, iz (i + 1))) := by
  unfold f_M_rounds_80
  rw [if_neg (by decide), e, h, bd_eq, if_pos (by decide)]
  unfold f_M_rounds_102 f_M_rounds_106 f_M_rounds_111
  rcases hv with rfl | rfl
  · rw [if_pos (by decide), nm_eq, i1, iz_add, i0]
  · rw [if_neg (by decide), nm_eq, i1, iz_add]
theorem m_rstep {τ : Mm} {W R : Nat} {g : Nat → Bool} {lim lea st : Int} {tl : Nat → Int} {Wn Ln : Nat → Int} (Y : Yok W R g lim lea st) (M : YM τ W R g lim lea st) (T : TlM τ g tl) (hT : TlOk g tl) (K : Lk (gA τ 9) (gA τ 10) Wn Ln) {i : Nat} {n v : Int} (hi : i < 680) (hn : 0 ≤ n ∧ n < 700) (hv : v = 0 ∨ v = 1) :
    ∃ (v' : Int) (τ' : Mm) (W' L' : Nat → Int), f_M_rounds_4_b (iz n) τ (iz v) (iz i) = some (.inl (τ', iz v', iz ((i + 1 : Nat) : Int))) ∧ eqM τ τ' ∧ Lk (gA τ' 9) (gA τ' 10) W' L' ∧ ((v' = v ∧ W' = Wn ∧ L' = Ln ∧ ∀ c l p, Lv g lim c l p → sx c l p = i → Wn i = 0 → ¬ A1 g lim lea tl Wn Ln c l p n ∧ ¬ A2 g lim lea tl Wn Ln c l p n) ∨ (v' = 1 ∧ ∃ c l p x, Lv g lim c l p ∧ sx c l p = i ∧ Wn i = 0 ∧ Put i x n Wn Ln W' L' ∧ ((A1 g lim lea tl Wn Ln c l p n ∧ x = p + 1) ∨ (A2 g lim lea tl Wn Ln c l p n ∧ x = 2 - p)))) := by
  have hl := Y.2.2.2.1
  have hl0 := Y.2.2.1
  have d1 : iz (i : Int) / 34 = iz ((i / 34 : Nat) : Int) := by
    rw [i34, iz_div (by omega) (by omega) (by decide) (by decide)]; rfl
  have d2 : rm32 (iz (i : Int) / 2) 17 - 8 = iz (((i / 2 % 17 : Nat) : Int) - 8) := by
    rw [i2, iz_div (by omega) (by omega) (by decide) (by decide), i17, iz_rm (by omega) (by omega) (by decide) (by decide), i8, iz_sub]; rfl
  have d3 : rm32 (iz (i : Int)) 2 = iz ((i % 2 : Nat) : Int) := by
    rw [i2, iz_rm (by omega) (by omega) (by decide) (by decide)]; rfl
  have d4 : rm32 (iz ((i / 34 : Nat) : Int)) 5 = iz ((i / 34 % 5 : Nat) : Int) := by
    rw [i5, iz_rm (by omega) (by omega) (by decide) (by decide)]; rfl
  have d5 : iz ((i / 34 : Nat) : Int) / 5 = iz ((i / 34 / 5 : Nat) : Int) := by
    rw [i5, iz_div (by omega) (by omega) (by decide) (by decide)]; rfl
  have hc20 : i / 34 < 20 := by omega
  have hsx : ∀ c l p, Lv g lim c l p → sx c l p = i → c = i / 34 ∧ l = ((i / 2 % 17 : Nat) : Int) - 8 ∧ p = i % 2 := by
    intro c l p hv e
    obtain ⟨h1, h2, h3, h4⟩ := hv
    have := (sx_eq (l := l) (Y.g20 c h1) (by omega) (by omega) h4).1
    omega
  obtain ⟨k1, k2, k3, k4, k5⟩ := K i hi
  have base : f_M_rounds_4_b (iz n) τ (iz v) (iz i) = (if iz (Wn i) = 0 then (if g (i / 34) = true then (if iz (((i / 2 % 17 : Nat) : Int) - 8) < iz lim then (if iz (((i / 2 % 17 : Nat) : Int) - 8) ≤ - iz lim then f_M_rounds_80 τ (iz n) (iz v) (iz i) (iz ((i / 34 : Nat) : Int)) (iz (((i / 2 % 17 : Nat) : Int) - 8)) 0 else f_M_rounds_80 τ (iz n) (iz v) (iz i) (iz ((i / 34 : Nat) : Int)) (iz (((i / 2 % 17 : Nat) : Int) - 8)) 1) else f_M_rounds_80 τ (iz n) (iz v) (iz i) (iz ((i / 34 : Nat) : Int)) (iz (((i / 2 % 17 : Nat) : Int) - 8)) 0) else f_M_rounds_80 τ (iz n) (iz v) (iz i) (iz ((i / 34 : Nat) : Int)) (iz (((i / 2 % 17 : Nat) : Int) - 8)) 0) else f_M_rounds_80 τ (iz n) (iz v) (iz i) (iz ((i / 34 : Nat) : Int)) (iz (((i / 2 % 17 : Nat) : Int) - 8)) 0) := by
    unfold f_M_rounds_4_b
    rw [if_pos (by rw [show (680 : Int32) = iz 680 from rfl, iz_lt (by omega) (by omega) (by decide) (by decide)]; omega), d1, nm_eq, d2, nm_eq, ix_n hi (by decide), k1]
    by_cases q : iz (Wn i) = 0
    · rw [if_pos q, if_pos q, d4, d5, m_isGround Y M (by omega) (by omega) (by omega) (by omega), bd_eq]
      by_cases q2 : g (i / 34) = true
      · rw [if_pos q2, if_pos ((gx_cell hc20).mpr q2), if_neg (by decide), i3, ix_iz (by decide) (by decide) (by decide), tn3, M.2.2.2.1, ix_iz (by decide) (by decide) (by decide), tn3, M.2.2.2.1]
        rfl
      · rw [if_neg q2, if_neg (fun z => q2 ((gx_cell hc20).mp z)), if_pos (by decide)]
        rfl
    · rw [if_neg q, if_neg q]
      rfl
  have hI : iz ((i : Int) + 1) = iz ((i + 1 : Nat) : Int) := rfl
  have hz : iz (Wn i) = 0 ↔ Wn i = 0 := by rw [i0, iz_eq (by omega) (by omega) (by decide) (by decide)]
  have same : ∀ (no : ∀ c l p, Lv g lim c l p → sx c l p = i → Wn i = 0 → ¬ A1 g lim lea tl Wn Ln c l p n ∧ ¬ A2 g lim lea tl Wn Ln c l p n) (e : f_M_rounds_4_b (iz n) τ (iz v) (iz i) = f_M_rounds_80 τ (iz n) (iz v) (iz i) (iz ((i / 34 : Nat) : Int)) (iz (((i / 2 % 17 : Nat) : Int) - 8)) 0), ∃ (v' : Int) (τ' : Mm) (W' L' : Nat → Int), f_M_rounds_4_b (iz n) τ (iz v) (iz i) = some (.inl (τ', iz v', iz ((i + 1 : Nat) : Int))) ∧ eqM τ τ' ∧ Lk (gA τ' 9) (gA τ' 10) W' L' ∧ ((v' = v ∧ W' = Wn ∧ L' = Ln ∧ ∀ c l p, Lv g lim c l p → sx c l p = i → Wn i = 0 → ¬ A1 g lim lea tl Wn Ln c l p n ∧ ¬ A2 g lim lea tl Wn Ln c l p n) ∨ (v' = 1 ∧ ∃ c l p x, Lv g lim c l p ∧ sx c l p = i ∧ Wn i = 0 ∧ Put i x n Wn Ln W' L' ∧ ((A1 g lim lea tl Wn Ln c l p n ∧ x = p + 1) ∨ (A2 g lim lea tl Wn Ln c l p n ∧ x = 2 - p)))) := fun no e => ⟨v, τ, Wn, Ln, by rw [e, m_r80 (v2 := 0) hv, hI], eqM.rfl, K, Or.inl ⟨rfl, rfl, rfl, no⟩⟩
  by_cases q0 : Wn i = 0
  · rw [if_pos (hz.mpr q0)] at base
    by_cases q1 : g (i / 34) = true
    · rw [if_pos q1] at base
      by_cases q2 : ((i / 2 % 17 : Nat) : Int) - 8 < lim
      · rw [if_pos ((iz_lt (by omega) (by omega) (by omega) (by omega)).mpr q2)] at base
        by_cases q3 : ((i / 2 % 17 : Nat) : Int) - 8 ≤ -lim
        · rw [if_pos (by rw [iz_neg, iz_le (by omega) (by omega) (by omega) (by omega)]; exact q3)] at base
          refine same (fun c l p h e _ => ?_) base
          obtain ⟨e1, e2, e3⟩ := hsx c l p h e
          have := h.2.1
          omega
        · rw [if_neg (by rw [iz_neg, iz_le (by omega) (by omega) (by omega) (by omega)]; exact q3)] at base
          have hL : Lv g lim (i / 34) (((i / 2 % 17 : Nat) : Int) - 8) (i % 2) := ⟨q1, by omega, q2, by omega⟩
          have es : sx (i / 34) (((i / 2 % 17 : Nat) : Int) - 8) (i % 2) = i := by
            have := (sx_eq (l := ((i / 2 % 17 : Nat) : Int) - 8) (p := i % 2) hc20 (by omega) (by omega) (by omega)).1
            omega
          obtain ⟨b, τ', W', L', a1, a2, a3, a4⟩ := m_isIn Y M T hT K hL hn
          rw [es] at a4
          rcases a4 with ⟨rfl, a4⟩ | ⟨rfl, a4, a5, rfl, rfl⟩
          · refine ⟨1, τ', W', L', by rw [base, m_r80y d3 a1, hI], a2, a3, Or.inr ⟨rfl, ?_⟩⟩
            rcases a4 with ⟨a5, a6⟩ | ⟨-, a5, a6⟩
            · exact ⟨_, _, _, _, hL, es, q0, a6, Or.inl ⟨a5, rfl⟩⟩
            · exact ⟨_, _, _, _, hL, es, q0, a6, Or.inr ⟨a5, rfl⟩⟩
          · refine ⟨v, τ', _, _, by rw [base, m_r80n hv d3 a1, hI], a2, a3, Or.inl ⟨rfl, rfl, rfl, fun c l p h e _ => ?_⟩⟩
            obtain ⟨rfl, rfl, rfl⟩ := hsx c l p h e
            exact ⟨a4, a5⟩
      · rw [if_neg (fun z => q2 ((iz_lt (by omega) (by omega) (by omega) (by omega)).mp z))] at base
        refine same (fun c l p h e _ => ?_) base
        obtain ⟨e1, e2, e3⟩ := hsx c l p h e
        have := h.2.2.1
        omega
    · rw [if_neg q1] at base
      refine same (fun c l p h e _ => ?_) base
      obtain ⟨e1, e2, e3⟩ := hsx c l p h e
      rw [e1] at h
      exact absurd h.1 q1
  · rw [if_neg (fun z => q0 (hz.mp z))] at base
    exact same (fun c l p h e w => absurd w q0) base
