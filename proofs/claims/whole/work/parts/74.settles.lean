-- the reference settles a yard
theorem m_isCellW {τ : Mm} {W R : Nat} (w1 : W ≤ 5) (w2 : R ≤ 4) (a0 : gA τ 2 0 = iz W) (a1 : gA τ 2 1 = iz R) {c : Nat} (hc : c < 20) : f_M_isCell τ (rm32 (iz c) 5) (iz c / 5) = some (if c % 5 < W ∧ c / 5 < R then 1 else 0, τ) := by
  have d4 : rm32 (iz (c : Int)) 5 = iz ((c % 5 : Nat) : Int) := by
    rw [i5, iz_rm (by omega) (by omega) (by decide) (by decide)]; rfl
  have d5 : iz (c : Int) / 5 = iz ((c / 5 : Nat) : Int) := by
    rw [i5, iz_div (by omega) (by omega) (by decide) (by decide)]; rfl
  unfold f_M_isCell
  rw [d4, d5, i0, ix_iz (by decide) (by decide) (by decide), tn0, a0, i1, iz_sub, m_in_iz τ (by omega) (by omega) (by omega) (by omega) (by omega) (by omega), bd_eq]
  by_cases q1 : c % 5 < W
  · rw [if_pos (show (0 : Int) ≤ ((c % 5 : Nat) : Int) ∧ ((c % 5 : Nat) : Int) ≤ (W : Int) - 1 by omega), if_neg (by decide), ix_iz (by decide) (by decide) (by decide), tn1, a1, iz_sub, m_in_iz τ (by omega) (by omega) (by omega) (by omega) (by omega) (by omega), bd_eq]
    by_cases q2 : c / 5 < R
    · rw [if_pos (show (0 : Int) ≤ ((c / 5 : Nat) : Int) ∧ ((c / 5 : Nat) : Int) ≤ (R : Int) - 1 by omega), if_neg (by decide), if_pos ⟨q1, q2⟩]
    · rw [if_neg (show ¬ ((0 : Int) ≤ ((c / 5 : Nat) : Int) ∧ ((c / 5 : Nat) : Int) ≤ (R : Int) - 1) by omega), if_pos (by decide), if_neg (fun z => q2 z.2)]
  · rw [if_neg (show ¬ ((0 : Int) ≤ ((c % 5 : Nat) : Int) ∧ ((c % 5 : Nat) : Int) ≤ (W : Int) - 1) by omega), if_pos (by decide), if_neg (fun z => q1 z.1)]
/-- the rest of settling: what a yard begins with -/
def SE (τ τ' : Mm) (W R : Nat) (g : Nat → Bool) (lim lea st : Int) (tl : Nat → Int) : Prop := YM τ' W R g lim lea st ∧ gA τ' 4 0 = iz st ∧ (∀ k, 1 ≤ k → k < 7 → gA τ' 4 k = iz 0) ∧ (∀ c, g c = true → gA τ' 4 (7 + c) = iz (tl c)) ∧ gI τ' 0 3 = iz 0 ∧ gI τ' 0 18 = iz 0 ∧ gI τ' 0 20 = iz 0 ∧ gA τ' 6 0 = iz 0 ∧ gA τ' 6 1 = iz 0 ∧ gJ τ' = gJ τ
theorem m_settles {τ : Mm} {W R : Nat} {st lim lea : Int} {lt jt : Bool} {bk g : Nat → Bool} {tl : Nat → Int} (P : PM τ W R st lim lea lt jt bk g tl) (S : YS W R st lim lea g bk tl) : ∃ z, f_M_settles τ = some z ∧ ∃ τ', z = (0, τ') ∧ SE τ τ' W R g lim lea st tl := by
  obtain ⟨y1, y2, y3, y4, y5, y6, y7⟩ := S
  obtain ⟨p1, p2, p3, p4, p5, p6, p7, p8⟩ := P
  -- what the last loop needs
  have last : ∀ τ1 : Mm, gA τ1 2 0 = iz W → gA τ1 2 1 = iz R → gA τ1 2 2 = iz st → gA τ1 2 3 = iz lim → gA τ1 2 4 = iz lea → (∀ c : Nat, c < 20 → (((gI τ1 0 11 >>> (iz (c : Int) &&& 31)) &&& 1 = 0) ↔ bk c = false)) → (∀ c, g c = true → gA τ1 3 c = iz (tl c)) → gJ τ1 = gJ τ → gA τ1 4 0 = iz st → (∀ k, 1 ≤ k → k < 7 → gA τ1 4 k = iz 0) → ∃ z, f_M_settles_70 τ1 0 = some z ∧ ∃ τ', z = (0, τ') ∧ SE τ τ' W R g lim lea st tl := by
    intro τ1 h0 h1 h2 h3 h4 h11 h3t hJ h40 h4z
    unfold f_M_settles_70
    refine lp_ind (fun s => 20 - s.2.toNatClampNeg) (fun s => ∃ (τ2 : Mm) (i : Nat), s = (τ2, iz i) ∧ i ≤ 20 ∧ gA τ2 2 = gA τ1 2 ∧ gA τ2 3 = gA τ1 3 ∧ gI τ2 0 11 = gI τ1 0 11 ∧ gJ τ2 = gJ τ1 ∧ (∀ k, k < 7 → gA τ2 4 k = gA τ1 4 k) ∧ ∀ c, c < i → g c = true → gA τ2 4 (7 + c) = iz (tl c)) _ (fun s hs => ?_) _ ⟨τ1, 0, rfl, by omega, rfl, rfl, rfl, rfl, fun _ _ => rfl, fun c hc => absurd hc (Nat.not_lt_zero c)⟩ ?_
    · obtain ⟨τ2, i, rfl, hi, e2, e3, e11, eJ, e4, et⟩ := hs
      dsimp only
      by_cases k : i < 20
      · left
        have k20 : iz (i : Int) < 20 := by rw [i20, iz_lt (by omega) (by omega) (by omega) (by omega)]; omega
        have kk : iz (i : Int) + 1 = iz ((i + 1 : Nat) : Int) := by rw [i1, iz_add]; rfl
        have k7 : (7 : Int32) + iz (i : Int) = iz ((7 + i : Nat) : Int) := by rw [i7, iz_add]; rfl
        have hcell := m_isCellW (τ := τ2) y1 y2 (by rw [e2]; exact h0) (by rw [e2]; exact h1) k
        have key : ∃ v, f_M_settles_70_b τ2 (iz (i : Int)) = some (.inl (sA τ2 4 (7 + i) v, iz ((i + 1 : Nat) : Int))) ∧ (g i = true → v = iz (tl i)) := by
          unfold f_M_settles_70_b f_M_settles_107
          rw [if_pos k20, hcell, bd_eq]
          by_cases q : i % 5 < W ∧ i / 5 < R
          · rw [if_pos q, if_neg (by decide), ix_n k (by decide), k7, ix_n (by omega) (by decide), nm_eq, kk, nm_eq]
            refine ⟨_, rfl, fun hg => ?_⟩
            rw [e3]
            exact h3t i hg
          · rw [if_neg q, if_pos rfl, k7, ix_n (by omega) (by decide), nm_eq, kk, nm_eq]
            refine ⟨_, rfl, fun hg => ?_⟩
            have := (y7.1 i hg).2
            exact absurd ⟨this.1, by unfold dn at this; omega⟩ q
        obtain ⟨v, b1, b2⟩ := key
        refine ⟨_, b1, ⟨_, i + 1, rfl, by omega, ?_, ?_, ?_, ?_, fun j hj => ?_, fun c hc hg => ?_⟩, ?_⟩
        · rw [gA_sA, if_neg (by decide)]; exact e2
        · rw [gA_sA, if_neg (by decide)]; exact e3
        · rw [gI_sA]; exact e11
        · rw [gJ_sA]; exact eJ
        · rw [gA_sA, if_pos rfl, pk_un (by omega)]; exact e4 j hj
        · rw [gA_sA, if_pos rfl]
          by_cases q : c = i
          · rw [q, pk_us]
            rw [q] at hg
            exact b2 hg
          · rw [pk_un (by omega)]
            exact et c (by omega) hg
        · dsimp only
          rw [iz_nat (by omega) (by omega), iz_nat (by omega) (by omega)]
          omega
      · right
        have : i = 20 := by omega
        subst this
        refine ⟨(0, sA (sA (sI (sI (sI τ2 0 3 0) 0 20 0) 0 18 0) 6 0 0) 6 1 0), ?_, _, rfl, ?_⟩
        · unfold f_M_settles_70_b f_M_settles_114
          rw [if_neg (by decide), nm_eq, nm_eq, nm_eq, i0, ix_iz (by decide) (by decide) (by decide), tn0, nm_eq, i1, ix_iz (by decide) (by decide) (by decide), tn1, nm_eq]
          rfl
        · refine ⟨⟨?_, ?_, ?_, ?_, ?_, fun c hc hc1 hc2 => ?_⟩, ?_, fun j j1 j2 => ?_, fun c hg => ?_, ?_, ?_, ?_, ?_, ?_, ?_⟩
          · rw [gA_sA, if_neg (by decide), gA_sA, if_neg (by decide), gA_sI, gA_sI, gA_sI, e2]; exact h0
          · rw [gA_sA, if_neg (by decide), gA_sA, if_neg (by decide), gA_sI, gA_sI, gA_sI, e2]; exact h1
          · rw [gA_sA, if_neg (by decide), gA_sA, if_neg (by decide), gA_sI, gA_sI, gA_sI, e2]; exact h2
          · rw [gA_sA, if_neg (by decide), gA_sA, if_neg (by decide), gA_sI, gA_sI, gA_sI, e2]; exact h3
          · rw [gA_sA, if_neg (by decide), gA_sA, if_neg (by decide), gA_sI, gA_sI, gA_sI, e2]; exact h4
          · rw [gI_sA, gI_sA, gI_sI, if_neg (by decide), gI_sI, if_neg (by decide), gI_sI, if_neg (by decide), e11]
            have b1 := h11 c hc
            have b2 := y7.2.2.1 c hc ⟨hc1, Or.inl hc2⟩
            rw [b1]
            cases hb : bk c with
            | false =>
              refine ⟨fun _ => ?_, fun _ => rfl⟩
              cases hg : g c with
              | true => rfl
              | false => rw [b2.mpr hg] at hb; cases hb
            | true => exact ⟨(fun z => by cases z), fun z => by rw [b2.mp hb] at z; cases z⟩
          · rw [gA_sA, if_neg (by decide), gA_sA, if_neg (by decide), gA_sI, gA_sI, gA_sI, e4 0 (by decide)]; exact h40
          · rw [gA_sA, if_neg (by decide), gA_sA, if_neg (by decide), gA_sI, gA_sI, gA_sI, e4 j j2]; exact h4z j j1 j2
          · rw [gA_sA, if_neg (by decide), gA_sA, if_neg (by decide), gA_sI, gA_sI, gA_sI]
            exact et c (y7.1 c hg).1 hg
          · rw [gI_sA, gI_sA, gI_sI, if_neg (by decide), gI_sI, if_neg (by decide), gI_sI, if_pos ⟨rfl, rfl⟩]; rfl
          · rw [gI_sA, gI_sA, gI_sI, if_pos ⟨rfl, rfl⟩]; rfl
          · rw [gI_sA, gI_sA, gI_sI, if_neg (by decide), gI_sI, if_pos ⟨rfl, rfl⟩]; rfl
          · rw [gA_sA, if_pos rfl, pk_un (by decide), gA_sA, if_pos rfl, pk_us]; rfl
          · rw [gA_sA, if_pos rfl, pk_us]; rfl
          · rw [gJ_sA, gJ_sA, gJ_sI, gJ_sI, gJ_sI, eJ]; exact hJ
    · dsimp only
      omega
  -- clearing the moment
  have mid : ∀ τ1 : Mm, gA τ1 2 0 = iz W → gA τ1 2 1 = iz R → gA τ1 2 2 = iz st → gA τ1 2 3 = iz lim → gA τ1 2 4 = iz lea → (∀ c : Nat, c < 20 → (((gI τ1 0 11 >>> (iz (c : Int) &&& 31)) &&& 1 = 0) ↔ bk c = false)) → (∀ c, g c = true → gA τ1 3 c = iz (tl c)) → gJ τ1 = gJ τ → ∃ z, f_M_settles_37 τ1 0 = some z ∧ ∃ τ', z = (0, τ') ∧ SE τ τ' W R g lim lea st tl := by
    intro τ1 h0 h1 h2 h3 h4 h11 h3t hJ
    unfold f_M_settles_37
    refine lp_ind (fun s => 27 - s.2.toNatClampNeg) (fun s => ∃ (τ2 : Mm) (i : Nat), s = (τ2, iz i) ∧ i ≤ 27 ∧ gA τ2 2 = gA τ1 2 ∧ gA τ2 3 = gA τ1 3 ∧ gI τ2 0 11 = gI τ1 0 11 ∧ gJ τ2 = gJ τ1 ∧ ∀ k, k < i → gA τ2 4 k = iz 0) _ (fun s hs => ?_) _ ⟨τ1, 0, rfl, by omega, rfl, rfl, rfl, rfl, fun c hc => absurd hc (Nat.not_lt_zero c)⟩ ?_
    · obtain ⟨τ2, i, rfl, hi, e2, e3, e11, eJ, e4⟩ := hs
      dsimp only
      by_cases k : i < 27
      · left
        have k20 : iz (i : Int) < 27 := by rw [i27, iz_lt (by omega) (by omega) (by omega) (by omega)]; omega
        have kk : iz (i : Int) + 1 = iz ((i + 1 : Nat) : Int) := by rw [i1, iz_add]; rfl
        refine ⟨(sA τ2 4 i 0, iz ((i + 1 : Nat) : Int)), ?_, ⟨_, i + 1, rfl, by omega, ?_, ?_, ?_, ?_, fun j hj => ?_⟩, ?_⟩
        · unfold f_M_settles_37_b
          rw [if_pos k20, ix_n k (by decide), nm_eq, nm_eq, kk]
        · rw [gA_sA, if_neg (by decide)]; exact e2
        · rw [gA_sA, if_neg (by decide)]; exact e3
        · rw [gI_sA]; exact e11
        · rw [gJ_sA]; exact eJ
        · rw [gA_sA, if_pos rfl]
          by_cases q : j = i
          · rw [q, pk_us]; rfl
          · rw [pk_un q]; exact e4 j (by omega)
        · dsimp only
          rw [iz_nat (by omega) (by omega), iz_nat (by omega) (by omega)]
          omega
      · right
        have : i = 27 := by omega
        subst this
        obtain ⟨_, c1, τ', rfl, c2⟩ := last (sA τ2 4 0 (gA τ2 2 2)) (by rw [gA_sA, if_neg (by decide), e2]; exact h0) (by rw [gA_sA, if_neg (by decide), e2]; exact h1) (by rw [gA_sA, if_neg (by decide), e2]; exact h2) (by rw [gA_sA, if_neg (by decide), e2]; exact h3) (by rw [gA_sA, if_neg (by decide), e2]; exact h4) (fun c hc => by rw [gI_sA, e11]; exact h11 c hc) (fun c hg => by rw [gA_sA, if_neg (by decide), e3]; exact h3t c hg) (by rw [gJ_sA, eJ]; exact hJ) (by rw [gA_sA, if_pos rfl, pk_us, e2]; exact h2) (fun j j1 j2 => by rw [gA_sA, if_pos rfl, pk_un (by omega)]; exact e4 j (by omega))
        refine ⟨(0, τ'), ?_, τ', rfl, c2⟩
        unfold f_M_settles_37_b f_M_settles_56
        rw [if_neg (by decide), i2, ix_iz (by decide) (by decide) (by decide), tn2, i0, ix_iz (by decide) (by decide) (by decide), tn0, nm_eq, ← i0, c1]
        rfl
    · dsimp only
      omega
  unfold f_M_settles f_M_settles_2
  refine lp_ind (fun s => 5 - s.2.toNatClampNeg) (fun s => ∃ (τ2 : Mm) (i : Nat), s = (τ2, iz i) ∧ i ≤ 5 ∧ (∀ k, 5 ≤ k → gA τ2 2 k = gA τ 2 k) ∧ (∀ k, k < i → gA τ2 2 k = gA τ 2 (5 + k)) ∧ gA τ2 3 = gA τ 3 ∧ gI τ2 0 12 = gI τ 0 12 ∧ gJ τ2 = gJ τ) _ (fun s hs => ?_) _ ⟨τ, 0, rfl, by omega, fun _ _ => rfl, fun c hc => absurd hc (Nat.not_lt_zero c), rfl, rfl, rfl⟩ ?_
  · obtain ⟨τ2, i, rfl, hi, e2, e2b, e3, e12, eJ⟩ := hs
    dsimp only
    by_cases k : i < 5
    · left
      have k20 : iz (i : Int) < 5 := by rw [i5, iz_lt (by omega) (by omega) (by omega) (by omega)]; omega
      have kk : iz (i : Int) + 1 = iz ((i + 1 : Nat) : Int) := by rw [i1, iz_add]; rfl
      have k7 : (5 : Int32) + iz (i : Int) = iz ((5 + i : Nat) : Int) := by rw [i5, iz_add]; rfl
      refine ⟨(sA τ2 2 i (gA τ2 2 (5 + i)), iz ((i + 1 : Nat) : Int)), ?_, ⟨_, i + 1, rfl, by omega, fun j hj => ?_, fun j hj => ?_, ?_, ?_, ?_⟩, ?_⟩
      · unfold f_M_settles_2_b
        rw [if_pos k20, k7, ix_n (by omega) (by decide), ix_n (by omega) (by decide), nm_eq, nm_eq, kk]
      · rw [gA_sA, if_pos rfl, pk_un (by omega)]; exact e2 j hj
      · rw [gA_sA, if_pos rfl]
        by_cases q : j = i
        · rw [q, pk_us]; exact e2 _ (by omega)
        · rw [pk_un q]; exact e2b j (by omega)
      · rw [gA_sA, if_neg (by decide)]; exact e3
      · rw [gI_sA]; exact e12
      · rw [gJ_sA]; exact eJ
      · dsimp only
        rw [iz_nat (by omega) (by omega), iz_nat (by omega) (by omega)]
        omega
    · right
      have : i = 5 := by omega
      subst this
      obtain ⟨_, c1, τ', rfl, c2⟩ := mid (sI τ2 0 11 (gI τ2 0 12)) (by rw [gA_sI, e2b 0 (by decide)]; exact p1) (by rw [gA_sI, e2b 1 (by decide)]; exact p2) (by rw [gA_sI, e2b 2 (by decide)]; exact p3) (by rw [gA_sI, e2b 3 (by decide)]; exact p4) (by rw [gA_sI, e2b 4 (by decide)]; exact p5) (fun c hc => by rw [gI_sI, if_pos ⟨rfl, rfl⟩, e12]; exact p7 c hc) (fun c hg => by rw [gA_sI, e3]; exact p8 c hg) (by rw [gJ_sI]; exact eJ)
      refine ⟨(0, τ'), ?_, τ', rfl, c2⟩
      unfold f_M_settles_2_b f_M_settles_27
      rw [if_neg (by decide), nm_eq, c1]
      rfl
  · dsimp only
    omega
