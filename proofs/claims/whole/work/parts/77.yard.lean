-- a yard told by the text
theorem Rel_fresh {n : Nat} {σ τ : Mm} {W R : Nat} {g : Nat → Bool} {lim lea st : Int} {tl : Nat → Int} {w : Nat} (Y : Yok W R g lim lea st) (hT : TlOk g tl) (M : YM τ W R g lim lea st) (P : YP σ W R lim lea st) (m0 : gA τ 4 0 = iz st) (m1 : ∀ k, 1 ≤ k → k < 7 → gA τ 4 k = iz 0) (m7 : ∀ c, g c = true → gA τ 4 (7 + c) = iz (tl c)) (t37 : TlT σ 37 g tl) (t3 : gI σ 36 3 = iz st) (t4 : gI σ 36 4 = iz 0) (t5 : gI σ 36 5 = iz 0) (a0 : gA σ 38 0 = iz 0) (a1 : gA σ 38 1 = iz 0) (b0 : gA σ 39 0 = iz 0) (b1 : gA σ 39 1 = iz 0) (gr : gI σ 11 2 = iz lim ∧ gI σ 11 3 = iz lea) (hN : ∀ c w, c < 20 → w < 4 → gA σ 12 (4 * c + w) = nb g c w) (k1 : gI σ 16 2 = iz 0) (k2 : gI τ 0 18 = iz 0) (hw : w < 10) (k3 : gI σ 16 1 = iz (w : Nat)) (im : gA σ 19 0 = 0 ∧ gA σ 19 1 = 0) (im' : gA τ 6 0 = 0 ∧ gA τ 6 1 = 0) (td : gI σ 0 11 = iz 0) (td' : gI τ 0 20 = iz 0) (tx : gI σ 1 1 = iz 0) (tx' : gI τ 0 3 = iz 0) (hJ : gJ σ = gJ τ) (hP : Rparts σ) : Rel n σ τ := by
  have hl : 2 ≤ lim := Y.2.2.1
  refine ⟨W, R, g, lim, lea, st, fun k => if k = 0 then st else if k < 7 then 0 else tl (k - 7), Y, M, P, ⟨⟨fun h => h, fun h => ?_⟩, ⟨?_, ?_⟩, Or.inl rfl, ⟨?_, ?_⟩, ⟨?_, ?_⟩, ⟨?_, ?_⟩, ⟨?_, ?_⟩, fun c hc => ?_⟩, ⟨fun k hk => ?_, fun c hc => ?_⟩, ⟨t3, t4, t5, a0, a1, b0, b1, fun c hc => ?_⟩, gr, fun c w hc hw => hN c w hc hw, ⟨0, w, by omega, hw, k1, k2, k3, fun i hi => absurd hi (Nat.not_lt_zero i)⟩, fun i hi => Or.inl ?_, ⟨0, by omega, td, td', fun j hj => absurd hj (Nat.not_lt_zero j)⟩, ⟨0, by omega, tx, tx', fun j hj => absurd hj (Nat.not_lt_zero j)⟩, hJ, hP⟩
  · rcases Y.2.2.2.2.2.2.2 with z | z
    · exact absurd z h
    · exact z
  · show -lim < 0
    omega
  · show 0 < lim
    omega
  · exact Int.le_refl 0
  · exact Int.natCast_nonneg n
  · exact Int.le_refl 0
  · exact Int.natCast_nonneg n
  · exact Int.le_refl 0
  · show (0 : Int) ≤ 3
    omega
  · exact Int.le_refl 0
  · show (0 : Int) ≤ 3
    omega
  · dsimp only
    rw [if_neg (by omega), if_neg (by omega), show 7 + c - 7 = c by omega]
    exact hT c hc
  · dsimp only
    by_cases q : k = 0
    · rw [if_pos q, q]; exact m0
    · rw [if_neg q, if_pos hk]; exact m1 k (by omega) hk
  · dsimp only
    rw [if_neg (by omega), if_neg (by omega), show 7 + c - 7 = c by omega]
    exact m7 c hc
  · dsimp only
    rw [if_neg (show ¬ 7 + c = 0 by omega), if_neg (show ¬ 7 + c < 7 by omega), show 7 + c - 7 = c by omega]
    exact t37 c hc
  · rcases (show i = 0 ∨ i = 1 by omega) with rfl | rfl
    · exact ⟨im.1, im'.1⟩
    · exact ⟨im.2, im'.2⟩
theorem eqD.eqH {p : Nat} {σ σ' : Mm} (e : eqD p σ σ') : eqH σ σ' := ⟨fun c k hc => e.1 c k (okI_hi (by omega)) (fun z => by omega), fun c hc => e.2.1 c (okA_hi (by omega))⟩
theorem Rel.extD {n n' p : Nat} {σ τ σ' τ' : Mm} (hn : n ≤ n') (e : eqD p σ σ') (e2 : eqM τ τ') (hp : gR σ 0 2 = some p) (h : Rel n σ τ) : Rel n' σ' τ' := by
  obtain ⟨W, R, g, lim, lea, st, m, h1, h2, h3, h4, h5, h6, h7, h8, h9, h10, h11, h12, h13, h14⟩ := h
  refine ⟨W, R, g, lim, lea, st, m, h1, h2.ext e2, ?_, h4.up hn, by rw [e2.2.1 4 (by decide)]; exact h5, h6.ext (fun k => e.1 36 k (by decide) (fun z => by omega)) (e.2.1 _ (by decide)) (e.2.1 _ (by decide)) (e.2.1 _ (by decide)), ?_, ?_, h9.mv hn e.eqH (e.1 16 1 (by decide) (fun z => by omega)) (e.1 16 2 (by decide) (fun z => by omega)) (e2.1 18 (by decide)) (e2.2.1 7 (by decide)), h10.mv hn e.eqH (e.2.1 19 (by decide)) (e2.2.1 6 (by decide)) (e2.2.1 5 (by decide)), ?_, ?_, by rw [e.2.2.2.2.1, e2.2.2.2]; exact h13, e.2.2.2.2.2 h14⟩
  · obtain ⟨p', d, k1, k2, k3, k4⟩ := h3
    have : p' = p := Option.some.inj (k1.symm.trans hp)
    subst this
    have ok : okI p' = true := by rcases k3 with ⟨rfl, _⟩ | ⟨rfl, _⟩ <;> decide
    refine ⟨p', d, e.2.2.1.trans k1, e.2.2.2.1.trans k2, k3, ?_⟩
    rw [e.1 p' _ ok (fun _ => rfl), e.1 p' _ ok (fun _ => rfl), e.1 p' _ ok (fun _ => rfl), e.1 p' _ ok (fun _ => rfl), e.1 p' _ ok (fun _ => rfl)]
    exact k4
  · rw [e.1 11 2 (by decide) (fun z => by omega), e.1 11 3 (by decide) (fun z => by omega)]; exact h7
  · unfold NB; rw [e.2.1 12 (by decide)]; exact h8
  · unfold Rtold
    rw [e.1 0 11 (by decide) (fun z => by omega), e2.1 20 (by decide), e.2.1 20 (by decide), e2.2.1 8 (by decide)]
    exact h11
  · unfold Rtext
    rw [e.1 1 1 (by decide) (fun z => by omega), e2.1 3 (by decide), e.2.1 2 (by decide), e2.2.1 1 (by decide)]
    exact h12
/-- a plan is emptied -/
theorem t_empty {σ : Mm} {d : Nat} (hd : d = 7 ∨ d = 9) : ∃ σ', f_Pl_empty σ d = some (0, σ') ∧ (∀ c, c < 20 → gA σ' (d + 1) c = 100) ∧ gI σ' d 1 = iz 0 ∧ gI σ' d 2 = iz 0 ∧ gI σ' d 3 = iz (-9) ∧ gI σ' d 4 = iz 5 ∧ gI σ' d 5 = iz 0 ∧ (∀ c k, c ≠ d → gI σ' c k = gI σ c k) ∧ (∀ c, c ≠ d + 1 → gA σ' c = gA σ c) ∧ (∀ c k, gR σ' c k = gR σ c k) ∧ gJ σ' = gJ σ := by
  unfold f_Pl_empty
  rw [f_fill _ _ _ _ (by decide), bd_eq, nm_eq, nm_eq, nm_eq, nm_eq, nm_eq]
  refine ⟨_, rfl, fun c hc => ?_, ?_, ?_, ?_, ?_, ?_, fun c k hc => ?_, fun c hc => ?_, fun c k => rfl, rfl⟩
  · rw [gA_sI, gA_sI, gA_sI, gA_sI, gA_sI, gA_sAs, if_pos rfl, if_pos hc]
  · rw [gI_sI, if_neg (by omega), gI_sI, if_neg (by omega), gI_sI, if_neg (by omega), gI_sI, if_neg (by omega), gI_sI, if_pos ⟨rfl, rfl⟩]; rfl
  · rw [gI_sI, if_neg (by omega), gI_sI, if_neg (by omega), gI_sI, if_neg (by omega), gI_sI, if_pos ⟨rfl, rfl⟩]; rfl
  · rw [gI_sI, if_neg (by omega), gI_sI, if_neg (by omega), gI_sI, if_pos ⟨rfl, rfl⟩]; decide
  · rw [gI_sI, if_neg (by omega), gI_sI, if_pos ⟨rfl, rfl⟩]; decide
  · rw [gI_sI, if_pos ⟨rfl, rfl⟩]; rfl
  · rw [gI_sI, if_neg (fun z => hc z.1), gI_sI, if_neg (fun z => hc z.1), gI_sI, if_neg (fun z => hc z.1), gI_sI, if_neg (fun z => hc z.1), gI_sI, if_neg (fun z => hc z.1), gI_sAs]
  · rw [gA_sI, gA_sI, gA_sI, gA_sI, gA_sI, gA_sAs, if_neg hc]
theorem t_y105 (σ : Mm) (v : Int32) : f_T_yard_105 σ v 0 = some (v, sAs σ 19 (fun j => if j < 2 then 0 else gA σ 19 j)) := by
  unfold f_T_yard_105
  rw [i0]
  refine lp_fill (E := fun σ => some (v, σ)) σ 19 2 (iz 0) (by decide) (fun f k hk => ?_) (fun f => ?_)
  · dsimp only
    unfold f_T_yard_105_b
    rw [if_pos (by rw [i2, iz_lt (by omega) (by omega) (by omega) (by omega)]; omega), ix_n hk (by decide), nm_eq, i1, iz_add, nm_eq]
    rfl
  · dsimp only
    unfold f_T_yard_105_b
    rw [if_neg (by decide)]
theorem m_begins {τ : Mm} : ∃ τ', f_M_begins τ = some (0, τ') ∧ gA τ' 2 5 = iz 0 ∧ gA τ' 2 6 = iz 0 ∧ gA τ' 2 7 = iz (-9) ∧ gA τ' 2 8 = iz 5 ∧ gA τ' 2 9 = iz 0 ∧ gI τ' 0 10 = iz 0 ∧ gI τ' 0 12 = 0 ∧ (∀ k, k ≠ 10 → k ≠ 12 → gI τ' 0 k = gI τ 0 k) ∧ eqM τ τ' := by
  have h7ix : ∀ {α : Type} (K : Nat → Option α), ix 7 10 K = K 7 := fun K => by rw [i7, ix_iz (by decide) (by decide) (by decide)]; rfl
  have h8ix : ∀ {α : Type} (K : Nat → Option α), ix 8 10 K = K 8 := fun K => by rw [i8, ix_iz (by decide) (by decide) (by decide)]; rfl
  have h9ix : ∀ {α : Type} (K : Nat → Option α), ix 9 10 K = K 9 := fun K => by rw [i9, ix_iz (by decide) (by decide) (by decide)]; rfl
  unfold f_M_begins
  rw [nm_eq, nm_eq, h5ix, nm_eq, h6ix, nm_eq, h7ix, nm_eq, h8ix, nm_eq, h9ix, nm_eq]
  refine ⟨_, rfl, ?_, ?_, ?_, ?_, ?_, ?_, ?_, fun k q1 q2 => ?_, ?_⟩
  · rw [gA_sA, if_pos rfl, pk_un (by decide), gA_sA, if_pos rfl, pk_un (by decide), gA_sA, if_pos rfl, pk_un (by decide), gA_sA, if_pos rfl, pk_un (by decide), gA_sA, if_pos rfl, pk_us]; rfl
  · rw [gA_sA, if_pos rfl, pk_un (by decide), gA_sA, if_pos rfl, pk_un (by decide), gA_sA, if_pos rfl, pk_un (by decide), gA_sA, if_pos rfl, pk_us]; rfl
  · rw [gA_sA, if_pos rfl, pk_un (by decide), gA_sA, if_pos rfl, pk_un (by decide), gA_sA, if_pos rfl, pk_us]; decide
  · rw [gA_sA, if_pos rfl, pk_un (by decide), gA_sA, if_pos rfl, pk_us]; decide
  · rw [gA_sA, if_pos rfl, pk_us]; rfl
  · rw [gI_sA, gI_sA, gI_sA, gI_sA, gI_sA, gI_sI, if_neg (by decide), gI_sI, if_pos ⟨rfl, rfl⟩]; rfl
  · rw [gI_sA, gI_sA, gI_sA, gI_sA, gI_sA, gI_sI, if_pos ⟨rfl, rfl⟩]
  · rw [gI_sA, gI_sA, gI_sA, gI_sA, gI_sA, gI_sI, if_neg (fun z => q2 z.2), gI_sI, if_neg (fun z => q1 z.2)]
  · exact ((((((eqM_k (by simp)).trans (eqM_k (by simp))).trans (eqM_a2 (by decide))).trans (eqM_a2 (by decide))).trans (eqM_a2 (by decide))).trans (eqM_a2 (by decide))).trans (eqM_a2 (by decide))
/-- after a text was read well, the class makes the yard -/
theorem yard_tail {n : Nat} {σ0 τ0 σ1 τ1 τ2 : Mm} {a : Nat → Nat} {t m : Nat} {Q G : Nat → Nat} {p d i W R : Nat} {st lim lea : Int} {lt jt : Bool} {g bk : Nat → Bool} {tl : Nat → Int} (h0 : Rel n σ0 τ0) (e1 : gR σ0 0 2 = some p) (e2 : gR σ0 0 3 = some d) (e3 : (p = 7 ∧ d = 9) ∨ (p = 9 ∧ d = 7)) (S : PS p σ0 τ0 σ1 τ1 a t m Q G d i W R st lim lea lt jt g bk tl) (E : SE τ1 τ2 W R g lim lea st tl) (v : Int32) : ∃ σ2, (rk (gR σ1 0 2) okPl fun t2 => (rk (gR σ1 0 3) okPl fun t3 => (nm (sR σ1 0 2 (some t3)) fun σ2 => (nm (sR σ2 0 3 (some t2)) fun σ3 => (nm (sI σ3 1 1 0) fun σ4 => (rk (gR σ4 0 2) okPl fun t4 => (nm (sI σ4 11 2 (gI σ4 t4 4)) fun σ5 => (rk (gR σ5 0 2) okPl fun t5 => (nm (sI σ5 11 3 (gI σ5 t5 5)) fun σ6 => (rk (gR σ6 0 2) okPl fun t6 => (bd (f_Mo_begin σ6 36 t6) fun r_2 σ7 => (bd (f_Gr_survey σ7 11) fun r_3 σ8 => (nm (sI σ8 16 2 0) fun σ9 => (nm (sI σ9 0 11 0) fun σ10 => f_T_yard_105 σ10 v 0)))))))))))))) = some (v, σ2) ∧ Rel (n + 1) σ2 τ2 := by
  obtain ⟨s1, s2, s4, s5, s6, s7, s8, s9, s10⟩ := S
  obtain ⟨y1, y2, y3, y4, y5, y6, y7⟩ := s8
  obtain ⟨q1, q2, q3, q4, q5, q6, q7, q8, q9, q10⟩ := s4
  obtain ⟨z1, z2, z3, z4, z5, z6, z7, z8, z9, z10⟩ := E
  have okp : okPl p = true := by rcases e3 with ⟨rfl, _⟩ | ⟨rfl, _⟩ <;> rfl
  have okd : okPl d = true := by rcases e3 with ⟨_, rfl⟩ | ⟨_, rfl⟩ <;> rfl
  have hd : d = 7 ∨ d = 9 := q2
  have c1 : gR σ1 0 2 = some p := s9.2.2.1.trans e1
  have c2 : gR σ1 0 3 = some d := s9.2.2.2.1.trans e2
  obtain ⟨w, hw, k3⟩ : ∃ w : Nat, w < 10 ∧ gI σ0 16 1 = iz (w : Nat) := by
    obtain ⟨W, R, g, lim, lea, st, m, h1, h2, h3, h4, h5, h6, h7, h8, h9, h10⟩ := h0
    obtain ⟨k, w, x1, x2, x3, x4, x5, x6⟩ := h9
    exact ⟨w, x2, x5⟩
  have hJ0 : gJ σ0 = gJ τ0 := by
    obtain ⟨W, R, g, lim, lea, st, m, h1, h2, h3, h4, h5, h6, h7, h8, h9, h10, h11, h12, h13, h14⟩ := h0
    exact h13
  have hP0 : Rparts σ0 := by
    obtain ⟨W, R, g, lim, lea, st, m, h1, h2, h3, h4, h5, h6, h7, h8, h9, h10, h11, h12, h13, h14⟩ := h0
    exact h14
  rw [c1, c2, rk_eq _ okp, rk_eq _ okd, nm_eq, nm_eq, nm_eq]
  have rA : ∀ (σ : Mm) (x y z : Int32), gR (sI (sI (sI (sR (sR σ 0 2 (some d)) 0 3 (some p)) 1 1 x) 11 2 y) 11 3 z) 0 2 = some d := fun σ x y z => by
    rw [gR_sI, gR_sI, gR_sI, gR_sR, if_neg (by decide), gR_sR, if_pos ⟨rfl, rfl⟩]
  have rB : ∀ (σ : Mm) (x y : Int32), gR (sI (sI (sR (sR σ 0 2 (some d)) 0 3 (some p)) 1 1 x) 11 2 y) 0 2 = some d := fun σ x y => by
    rw [gR_sI, gR_sI, gR_sR, if_neg (by decide), gR_sR, if_pos ⟨rfl, rfl⟩]
  have rC : ∀ (σ : Mm) (x : Int32), gR (sI (sR (sR σ 0 2 (some d)) 0 3 (some p)) 1 1 x) 0 2 = some d := fun σ x => by
    rw [gR_sI, gR_sR, if_neg (by decide), gR_sR, if_pos ⟨rfl, rfl⟩]
  rw [rC, rk_eq _ okd, nm_eq, rB, rk_eq _ okd, nm_eq, rA, rk_eq _ okd]
  have l4 : gI (sI (sR (sR σ1 0 2 (some d)) 0 3 (some p)) 1 1 0) d 4 = iz lim := by
    rw [gI_sI, if_neg (by omega), gI_sR, gI_sR]; exact q6
  have l5 : gI (sI (sI (sR (sR σ1 0 2 (some d)) 0 3 (some p)) 1 1 0) 11 2 (iz lim)) d 5 = iz lea := by
    rw [gI_sI, if_neg (by omega), gI_sI, if_neg (by omega), gI_sR, gI_sR]; exact q7
  rw [l4, l5]
  -- the memory before the moment begins
  obtain ⟨σA, hA⟩ : ∃ σA, σA = sI (sI (sI (sR (sR σ1 0 2 (some d)) 0 3 (some p)) 1 1 0) 11 2 (iz lim)) 11 3 (iz lea) := ⟨_, rfl⟩
  have aI : ∀ c k, c ≠ 1 → c ≠ 11 → gI σA c k = gI σ1 c k := fun c k x1 x2 => by
    rw [hA, gI_sI, if_neg (fun z => x2 z.1), gI_sI, if_neg (fun z => x2 z.1), gI_sI, if_neg (fun z => x1 z.1), gI_sR, gI_sR]
  have a11 : gI σA 1 1 = iz 0 := by
    rw [hA, gI_sI, if_neg (by decide), gI_sI, if_neg (by decide), gI_sI, if_pos ⟨rfl, rfl⟩]; rfl
  have aL : gI σA 11 2 = iz lim := by
    rw [hA, gI_sI, if_neg (by decide), gI_sI, if_pos ⟨rfl, rfl⟩]
  have aE : gI σA 11 3 = iz lea := by
    rw [hA, gI_sI, if_pos ⟨rfl, rfl⟩]
  have aA : ∀ c, gA σA c = gA σ1 c := fun c => by
    rw [hA, gA_sI, gA_sI, gA_sI, gA_sR, gA_sR]
  have aR2 : gR σA 0 2 = some d := by rw [hA]; exact rA _ _ _ _
  have aR3 : gR σA 0 3 = some p := by rw [hA, gR_sI, gR_sI, gR_sI, gR_sR, if_pos ⟨rfl, rfl⟩]
  have aRo : ∀ k, gR σA 33 k = gR σ1 33 k := fun k => by rw [hA, gR_sI, gR_sI, gR_sI, gR_sR, if_neg (by omega), gR_sR, if_neg (by omega)]
  have aJ : gJ σA = gJ σ1 := by rw [hA, gJ_sI, gJ_sI, gJ_sI, gJ_sR, gJ_sR]
  rw [← hA]
  clear rA rB rC l4 l5
  obtain ⟨σB, b1, bT, b3, b4, b5, b6, b7, b8, b9, bI, bA, bR, bJ⟩ := t_begin (σ := σA) hd
  rw [b1, bd_eq]
  have T37 : TlT σB 37 g tl := fun c hc => by
    rw [bT c hc, aA]
    exact q10 c hc
  obtain ⟨_, v1, f, rfl, v2⟩ := t_survey T37 y7.2.1
  rw [v1, bd_eq, nm_eq, nm_eq, t_y105]
  refine ⟨_, rfl, ?_⟩
  -- the last memory
  obtain ⟨σD, hD⟩ : ∃ σD, σD = sAs (sI (sI (sAs σB 12 f) 16 2 0) 0 11 0) 19 (fun j => if j < 2 then (0 : Int32) else gA (sI (sI (sAs σB 12 f) 16 2 0) 0 11 0) 19 j) := ⟨_, rfl⟩
  rw [← hD]
  have dI : ∀ c k, c ≠ 16 → c ≠ 0 → gI σD c k = gI σB c k := fun c k x1 x2 => by
    rw [hD, gI_sAs, gI_sI, if_neg (fun z => x2 z.1), gI_sI, if_neg (fun z => x1 z.1), gI_sAs]
  have d16 : gI σD 16 2 = iz 0 := by rw [hD, gI_sAs, gI_sI, if_neg (by decide), gI_sI, if_pos ⟨rfl, rfl⟩]; rfl
  have d161 : gI σD 16 1 = gI σB 16 1 := by rw [hD, gI_sAs, gI_sI, if_neg (by decide), gI_sI, if_neg (by decide), gI_sAs]
  have d11 : gI σD 0 11 = iz 0 := by rw [hD, gI_sAs, gI_sI, if_pos ⟨rfl, rfl⟩]; rfl
  have dA : ∀ c, c ≠ 19 → c ≠ 12 → gA σD c = gA σB c := fun c x1 x2 => by
    rw [hD, gA_sAs, if_neg x1, gA_sI, gA_sI, gA_sAs, if_neg x2]
  have d12 : gA σD 12 = f := by rw [hD, gA_sAs, if_neg (by decide), gA_sI, gA_sI, gA_sAs, if_pos rfl]
  have d19 : gA σD 19 0 = 0 ∧ gA σD 19 1 = 0 := by
    rw [hD, gA_sAs, if_pos rfl]
    exact ⟨if_pos (by decide), if_pos (by decide)⟩
  have dR : ∀ c k, gR σD c k = gR σB c k := fun c k => by rw [hD, gR_sAs, gR_sI, gR_sI, gR_sAs]
  have dJ : gJ σD = gJ σB := by rw [hD, gJ_sAs, gJ_sI, gJ_sI, gJ_sAs]
  clear hD hA v1 b1
  have hg : ∀ c, g c = true → c < 20 ∧ c % 5 < W ∧ c / 5 < R := fun c hc => by
    have := y7.1 c hc
    unfold dn at this
    omega
  have pI : ∀ c k, c = 7 ∨ c = 9 → gI σD c k = gI σ1 c k := fun c k hc => by
    rw [dI c k (by omega) (by omega), bI c k (by omega), aI c k (by omega) (by omega)]
  refine Rel_fresh (W := W) (R := R) (g := g) (lim := lim) (lea := lea) (st := st) (tl := tl) (w := w) ⟨y1, y2, y3.1, y3.2, y4.1, y4.2, hg, y5⟩ y7.2.1 z1 ⟨d, p, (dR 0 2).trans ((bR 0 2).trans aR2), (dR 0 3).trans ((bR 0 3).trans aR3), e3.elim (fun z => Or.inr ⟨z.2, z.1⟩) (fun z => Or.inl ⟨z.2, z.1⟩), (pI d 1 hd).trans q3, (pI d 2 hd).trans q4, (pI d 3 hd).trans q5, (pI d 4 hd).trans q6, (pI d 5 hd).trans q7⟩ z2 z3 z4 ?_ ?_ ?_ ?_ ?_ ?_ ?_ ?_ ⟨?_, ?_⟩ ?_ d16 z6 hw ?_ d19 ⟨z8, z9⟩ d11 z7 ?_ z5 ?_ ?_
  · intro c hc
    rw [dA 37 (by decide) (by decide)]
    exact T37 c hc
  · rw [dI 36 3 (by decide) (by decide), b7, aI d 3 (by omega) (by omega)]; exact q5
  · rw [dI 36 4 (by decide) (by decide), b8]
  · rw [dI 36 5 (by decide) (by decide), b9]
  · rw [dA 38 (by decide) (by decide), b3]
  · rw [dA 38 (by decide) (by decide), b4]
  · rw [dA 39 (by decide) (by decide), b5]
  · rw [dA 39 (by decide) (by decide), b6]
  · rw [dI 11 2 (by decide) (by decide), bI 11 2 (by decide)]; exact aL
  · rw [dI 11 3 (by decide) (by decide), bI 11 3 (by decide)]; exact aE
  · intro c w hc hw
    rw [d12]
    exact v2 c w hc hw
  · rw [d161, bI 16 1 (by decide), aI 16 1 (by decide) (by decide), s9.1 16 1 (by decide) (fun z => by omega)]; exact k3
  · rw [dI 1 1 (by decide) (by decide), bI 1 1 (by decide)]; exact a11
  · rw [dJ, bJ, aJ, s9.2.2.2.2.1, hJ0, ← s10.2.2.2]; exact z10.symm
  · have h1 : Rparts σ1 := s9.2.2.2.2.2 hP0
    unfold Rparts at h1 ⊢
    rw [dR, dR, bR, bR, aRo, aRo]
    exact h1
theorem bk0 : ∀ c : Nat, c < 20 → (((0 : Int32) >>> (iz (c : Int) &&& 31)) &&& 1 = 0) := by decide
/-- where reading begins -/
theorem y_start {n : Nat} {σ τ : Mm} {p d : Nat} (h : Rel n σ τ) (e1 : gR σ 0 2 = some p) (e2 : gR σ 0 3 = some d) (e3 : (p = 7 ∧ d = 9) ∨ (p = 9 ∧ d = 7)) : ∃ a t m Q G σ' τ', f_Re_read σ d = f_Re_read_33 σ' 0 ∧ f_M_yard τ = f_M_yard_25 τ' 0 ∧ TXm τ a t ∧ CH a t m Q G ∧ PS p σ τ σ' τ' a t m Q G d 0 0 0 (-9) 5 0 false false (fun _ => false) (fun _ => false) (fun _ => 0) := by
  obtain ⟨W, R, g, lim, lea, st, m, h1, h2, h3, h4, h5, h6, h7, h8, h9, h10, h11, ⟨t, t1, t2, t3, t4⟩, h13, h14⟩ := h
  have hd : d = 7 ∨ d = 9 := by omega
  have okd : okPl d = true := by rcases e3 with ⟨_, rfl⟩ | ⟨_, rfl⟩ <;> rfl
  have tA : ∀ j, j < t → (gA σ 2 j).toNatClampNeg < 256 ∧ gA σ 2 j = iz ((gA σ 2 j).toNatClampNeg : Nat) ∧ gA τ 1 j = iz ((gA σ 2 j).toNatClampNeg : Nat) := fun j hj => by
    obtain ⟨a, a1, a2, a3⟩ := t4 j hj
    have e : (gA σ 2 j).toNatClampNeg = a := by
      rw [a2, iz_nat (by omega) (by omega)]
      omega
    rw [e]
    exact ⟨a1, a2, a3⟩
  obtain ⟨σ1, b1, bT, bw, br, bs, bl, be, bI, bA, bR, bJ⟩ := t_empty (σ := sR σ 3 6 (some d)) hd
  have F : f_Re_read σ d = (bd (f_Re_split (sI (sI (sI σ1 3 7 0) 3 8 0) 3 5 0)) fun r_2 σ6 => f_Re_read_33 σ6 0) := by
    unfold f_Re_read
    rw [nm_eq, gR_sR, if_pos ⟨rfl, rfl⟩, rk_eq _ okd, b1, bd_eq, nm_eq, nm_eq, nm_eq]
  have T1 : TXt (sI (sI (sI σ1 3 7 0) 3 8 0) 3 5 0) (fun j => (gA σ 2 j).toNatClampNeg) t := by
    refine ⟨t1, ?_, fun j hj => ⟨(tA j hj).1, ?_⟩⟩
    · rw [gI_sI, if_neg (by decide), gI_sI, if_neg (by decide), gI_sI, if_neg (by decide), bI 1 1 (by omega), gI_sR]; exact t2
    · rw [gA_sI, gA_sI, gA_sI, bA 2 (by omega), gA_sR]; exact (tA j hj).2.1
  obtain ⟨_, c1, σ2, N, Q, G, rfl, c2, c3, c4, c5, c6⟩ := t_split T1
  rw [c1, bd_eq] at F
  have Tm : TXm τ (fun j => (gA σ 2 j).toNatClampNeg) t := ⟨t1, t3, fun j hj => ⟨(tA j hj).1, (tA j hj).2.2⟩⟩
  obtain ⟨τ1, m1, m2, m3, m4, m5, m6, m7, m8, m9, m10⟩ := m_begins (τ := sI (sI (sI τ 0 0 0) 0 8 (-1)) 0 4 0)
  have e4 : eqM τ (sI (sI (sI τ 0 0 0) 0 8 (-1)) 0 4 0) := (eqM_0.trans (eqM_k (by simp))).trans (eqA_s (by omega)).eqM
  have Tm1 := Tm.extM (e4.trans m10)
  have k4 : gI τ1 0 4 = iz (G 0 : Nat) := by
    rw [m9 4 (by decide) (by decide), gI_sI, if_pos ⟨rfl, rfl⟩, c3.1]; rfl
  have k8 : gI τ1 0 8 = iz (-1) := by
    rw [m9 8 (by decide) (by decide), gI_sI, if_neg (by decide), gI_sI, if_pos ⟨rfl, rfl⟩]; decide
  obtain ⟨_, n1, τ2, rfl, n2, n3⟩ := m_advances Tm1 c3 (Nat.zero_le N) k4
  have H : f_M_yard τ = f_M_yard_25 τ2 0 := by
    unfold f_M_yard
    rw [nm_eq, nm_eq, nm_eq, m1, bd_eq, n1, bd_eq]
  refine ⟨_, t, N, Q, G, σ2, τ2, F, H, Tm, c3, c4, ⟨?_, Nat.zero_le N⟩, ⟨?_, hd, ?_, ?_, ?_, ?_, ?_, ?_, ?_, fun c hc => ?_⟩, n3, (n2.1 0 8 (by omega)).trans k8, ⟨?_, ?_, ?_, ?_, ?_, ?_, fun c hc => ?_, fun c hc => absurd hc Bool.false_ne_true⟩, ⟨by omega, by omega, by omega, by omega, Or.inl rfl, fun _ => rfl, fun c hc => absurd hc Bool.false_ne_true, fun c hc => absurd hc Bool.false_ne_true, fun c _ hc => ?_, fun c _ _ => rfl⟩, ?_, (e4.trans m10).trans n2.eqM⟩
  · rw [c5 5 (by decide), gI_sI, if_pos ⟨rfl, rfl⟩]; rfl
  · rw [c6.1, gR_sI, gR_sI, gR_sI, bR, gR_sR, if_pos ⟨rfl, rfl⟩]
  · rw [c2.1 d 1 (by rcases hd with rfl | rfl <;> rfl), gI_sI, if_neg (by omega), gI_sI, if_neg (by omega), gI_sI, if_neg (by omega)]; exact bw
  · rw [c2.1 d 2 (by rcases hd with rfl | rfl <;> rfl), gI_sI, if_neg (by omega), gI_sI, if_neg (by omega), gI_sI, if_neg (by omega)]; exact br
  · rw [c2.1 d 3 (by rcases hd with rfl | rfl <;> rfl), gI_sI, if_neg (by omega), gI_sI, if_neg (by omega), gI_sI, if_neg (by omega)]; exact bs
  · rw [c2.1 d 4 (by rcases hd with rfl | rfl <;> rfl), gI_sI, if_neg (by omega), gI_sI, if_neg (by omega), gI_sI, if_neg (by omega)]; exact bl
  · rw [c2.1 d 5 (by rcases hd with rfl | rfl <;> rfl), gI_sI, if_neg (by omega), gI_sI, if_neg (by omega), gI_sI, if_neg (by omega)]; exact be
  · rw [c5 7 (by decide), gI_sI, if_neg (by decide), gI_sI, if_neg (by decide), gI_sI, if_pos ⟨rfl, rfl⟩, if_neg (by decide)]
  · rw [c5 8 (by decide), gI_sI, if_neg (by decide), gI_sI, if_pos ⟨rfl, rfl⟩, if_neg (by decide)]
  · rw [if_neg Bool.false_ne_true]
    have e : gA σ2 (d + 1) = gA σ1 (d + 1) := by
      rcases hd with rfl | rfl
      · rw [c6.2.1, gA_sI, gA_sI, gA_sI]
      · rw [c6.2.2, gA_sI, gA_sI, gA_sI]
    rw [e]
    exact bT c hc
  · rw [n2.2.1]; exact m2
  · rw [n2.2.1]; exact m3
  · rw [n2.2.1]; exact m4
  · rw [n2.2.1]; exact m5
  · rw [n2.2.1]; exact m6
  · rw [n2.1 0 10 (by omega), m7]; rfl
  · rw [n2.1 0 12 (by omega), m8]
    exact ⟨fun _ => rfl, fun _ => bk0 c hc⟩
  · unfold dn at hc
    omega
  · refine eqD.trans ?_ (eqD.trans (eqD.trans (eqD.trans eqT_3.eqD eqT_3.eqD) eqT_3.eqD) c2.eqD)
    refine ⟨fun c k x1 x2 => ?_, fun c x1 => ?_, ?_, ?_, ?_, fun hP => ?_⟩
    · rw [bI c k (fun z => by have := x2 (by omega); omega), gI_sR]
    · rw [bA c (fun z => by rcases hd with rfl | rfl <;> (subst z; cases x1)), gA_sR]
    · rw [bR, gR_sR, if_neg (by decide)]
    · rw [bR, gR_sR, if_neg (by decide)]
    · rw [bJ, gJ_sR]
    · unfold Rparts at hP ⊢
      rw [bR, bR, gR_sR, if_neg (by decide), gR_sR, if_neg (by decide)]
      exact hP
theorem b_yard {n : Nat} {σ τ : Mm} (h : Rel n σ τ) : Both n (f_T_yard σ) (f_M_yard τ) := by
  obtain ⟨p, d, e1, e2, e3⟩ : ∃ p d, gR σ 0 2 = some p ∧ gR σ 0 3 = some d ∧ ((p = 7 ∧ d = 9) ∨ (p = 9 ∧ d = 7)) := by
    obtain ⟨W, R, g, lim, lea, st, m, h1, h2, ⟨p, d, k1, k2, k3, k4⟩, h4⟩ := h
    exact ⟨p, d, k1, k2, k3⟩
  have hp : d ≠ p := by omega
  have okd : okPl d = true := by rcases e3 with ⟨_, rfl⟩ | ⟨_, rfl⟩ <;> rfl
  obtain ⟨a, t, m, Q, G, σ', τ', F, H, T, C, S⟩ := y_start h e1 e2 e3
  have hm := S.1.2.1
  obtain ⟨r, r', a1, a2, a3⟩ := lp_two (YI p σ τ a t m Q G d) (YR p σ τ a t m Q G d) (fun k s s' hI => y_step hp T C k s s' hI) (k := m - 0) (by omega) (s := (σ', 0)) (s' := (τ', 0)) ⟨σ', τ', 0, 0, 0, 0, -9, 5, 0, false, false, _, _, _, rfl, rfl, rfl, by omega, fun _ => rfl, S⟩
  unfold f_Re_read_33 at F
  unfold f_M_yard_25 at H
  rw [a1] at F
  rw [a2] at H
  unfold f_T_yard
  rw [e2, rk_eq _ okd, F]
  rcases a3 with ⟨σ1, τ1, τ2, v, i, W, R, st, lim, lea, lt, jt, g, bk, tl, rfl, rfl, hv, S1, E⟩ | ⟨w, σ1, τ1, hw, rfl, rfl, x1, x2⟩
  · obtain ⟨σ2, c1, c2⟩ := yard_tail h e1 e2 e3 S1 E (iz (v : Nat))
    rw [bd_eq, if_neg (by rw [i0, iz_lt (by omega) (by omega) (by omega) (by omega)]; omega)]
    exact ⟨iz (v : Nat), σ2, τ2, c1, H, c2⟩
  · rw [bd_eq, if_pos (by rw [i0, iz_lt (by omega) (by omega) (by omega) (by omega)]; omega)]
    exact ⟨_, σ1, τ1, rfl, H, h.extD (by omega) x1 x2 e1⟩
