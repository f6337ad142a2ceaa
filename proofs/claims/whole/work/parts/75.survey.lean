-- the class surveys a yard
def nb (g : Nat → Bool) (c w : Nat) : Int32 := match (if g c = true then nx g c w else none) with
  | some c' => iz c'
  | none => -1
theorem nb_some {g : Nat → Bool} {c w : Nat} (hg : g c = true) (hx : gx g ((c % 5 : Nat) + dX w) ((c / 5 : Nat) + dY w) = true) : nb g c w = iz (((5 * ((c / 5 : Nat) + dY w) + ((c % 5 : Nat) + dX w)).toNat : Nat) : Int) := by
  unfold nb nx
  rw [if_pos hg, if_pos hx]
theorem nb_none {g : Nat → Bool} {c w : Nat} (h : ¬ (g c = true ∧ gx g ((c % 5 : Nat) + dX w) ((c / 5 : Nat) + dY w) = true)) : nb g c w = -1 := by
  unfold nb nx
  by_cases hg : g c = true
  · rw [if_pos hg, if_neg (fun z => h ⟨hg, z⟩)]
  · rw [if_neg hg]
theorem stepX_eq (w : Nat) : stepXI w = iz (dX w) := by
  unfold stepXI dX
  split
  · rfl
  · split <;> rfl
theorem stepY_eq (w : Nat) : stepYI w = iz (dY w) := by
  unfold stepYI dY
  split
  · first | rfl | (split <;> first | rfl | omega)
  · first | rfl | (split <;> first | rfl | (split <;> first | rfl | omega))
theorem t_sv67 (σ : Mm) {c w : Nat} (hc : c < 20) (hw : w < 4) (x : Int32) : f_Gr_survey_67 σ 11 (iz (w : Nat)) (4 * iz (c : Nat) + iz (w : Nat)) x = some (.inl (sA σ 12 (4 * c + w) x, iz ((w + 1 : Nat) : Int))) := by
  unfold f_Gr_survey_67
  rw [i4, iz_mul, iz_add, ix_iz (by omega) (by omega) (by decide), show ((4 : Int) * (c : Int) + (w : Int)).toNat = 4 * c + w by omega, nm_eq, i1, iz_add, nm_eq]
  rfl
theorem t_svb {σ : Mm} {g : Nat → Bool} {tl : Nat → Int} (T : TlT σ 37 g tl) (hT : TlOk g tl) {c w : Nat} (hc : c < 20) (hw : w < 4) : f_Gr_survey_10_b 11 (iz (c : Nat)) σ (iz (w : Nat)) = some (.inl (sA σ 12 (4 * c + w) (nb g c w), iz ((w + 1 : Nat) : Int))) := by
  have r1 : rm32 (iz (c : Int)) 5 = iz ((c % 5 : Nat) : Int) := by
    rw [i5, iz_rm (by omega) (by omega) (by decide) (by decide)]; rfl
  have r2 : iz (c : Int) / 5 = iz ((c / 5 : Nat) : Int) := by
    rw [i5, iz_div (by omega) (by omega) (by decide) (by decide)]; rfl
  have e67 := fun x => t_sv67 σ hc hw x
  have d1 := dX_in w
  have d2 := dY_in w
  have hw4 : iz (w : Int) < 4 := by rw [i4, iz_lt (by omega) (by omega) (by omega) (by omega)]; omega
  unfold f_Gr_survey_10_b f_Gr_survey_62
  rw [if_pos hw4, ix_n hw (by decide), ix_n hw (by decide), stepX_eq, stepY_eq, r1, r2, iz_add, iz_add, t_cellAt σ (by omega) (by omega) (by omega) (by omega), bd_eq, t_isBrick (r := 11) T hT hc, bd_eq]
  by_cases hg : g c = true
  · rw [if_pos hg, if_pos rfl]
    by_cases k : 0 ≤ ((c % 5 : Nat) : Int) + dX w ∧ ((c % 5 : Nat) : Int) + dX w < 5 ∧ 0 ≤ ((c / 5 : Nat) : Int) + dY w ∧ ((c / 5 : Nat) : Int) + dY w < 4
    · rw [if_pos k]
      have e : 5 * (((c / 5 : Nat) : Int) + dY w) + (((c % 5 : Nat) : Int) + dX w) = (((5 * (((c / 5 : Nat) : Int) + dY w) + (((c % 5 : Nat) : Int) + dX w)).toNat : Nat) : Int) := by omega
      rw [e, t_isBrick (r := 11) T hT (by omega), bd_eq]
      by_cases q : g (5 * (((c / 5 : Nat) : Int) + dY w) + (((c % 5 : Nat) : Int) + dX w)).toNat = true
      · rw [if_pos q, if_pos rfl, e67, nb_some hg (gx_spec.mpr ⟨k.1, k.2.1, k.2.2.1, k.2.2.2, q⟩)]
      · rw [if_neg q, if_neg (by decide), e67, nb_none (fun z => q (gx_spec.mp z.2).2.2.2.2)]
    · rw [if_neg k, t_isBrickN, bd_eq, if_neg (by decide), e67, nb_none (fun z => k (by
        have := gx_spec.mp z.2
        exact ⟨this.1, this.2.1, this.2.2.1, this.2.2.2.1⟩))]
  · rw [if_neg hg, if_neg (by decide), e67, nb_none (fun z => hg z.1)]
theorem TlT.s12 {σ : Mm} {g : Nat → Bool} {tl : Nat → Int} (T : TlT σ 37 g tl) (f : Nat → Int32) : TlT (sAs σ 12 f) 37 g tl := fun c hc => by
  rw [gA_sAs, if_neg (by decide)]
  exact T c hc
theorem t_sv10 {σ : Mm} {g : Nat → Bool} {tl : Nat → Int} (T : TlT σ 37 g tl) (hT : TlOk g tl) {c : Nat} (hc : c < 20) : ∃ r, f_Gr_survey_10 σ 11 (iz (c : Nat)) 0 = some r ∧ ∃ f, r = .inl (sAs σ 12 f, iz ((c + 1 : Nat) : Int)) ∧ (∀ j, j < 4 * c → f j = gA σ 12 j) ∧ ∀ w, w < 4 → f (4 * c + w) = nb g c w := by
  unfold f_Gr_survey_10
  refine lp_ind (fun s => 4 - s.2.toNatClampNeg) (fun s => ∃ (f : Nat → Int32) (w : Nat), s = (sAs σ 12 f, iz (w : Nat)) ∧ w ≤ 4 ∧ (∀ j, j < 4 * c → f j = gA σ 12 j) ∧ ∀ x, x < w → f (4 * c + x) = nb g c x) _ (fun s hs => ?_) _ ⟨gA σ 12, 0, by rw [sAs_id _ _ _ rfl]; rfl, by omega, fun _ _ => rfl, fun x hx => absurd hx (Nat.not_lt_zero x)⟩ ?_
  · obtain ⟨f, w, rfl, hw, h1, h2⟩ := hs
    dsimp only
    by_cases k : w < 4
    · left
      refine ⟨_, t_svb (T.s12 f) hT hc k, ⟨upd f (4 * c + w) (nb g c w), w + 1, ?_, by omega, fun j hj => ?_, fun x hx => ?_⟩, ?_⟩
      · unfold sA
        rw [sAs_sAs, gA_sAs, if_pos rfl]
      · rw [pk_un (by omega)]; exact h1 j hj
      · by_cases q : x = w
        · rw [q, pk_us]
        · rw [pk_un (by omega)]; exact h2 x (by omega)
      · dsimp only
        rw [iz_nat (by omega) (by omega), iz_nat (by omega) (by omega)]
        omega
    · right
      have : w = 4 := by omega
      subst this
      refine ⟨.inl (sAs σ 12 f, iz ((c + 1 : Nat) : Int)), ?_, f, rfl, h1, h2⟩
      unfold f_Gr_survey_10_b
      rw [if_neg (by decide), i1, iz_add, nm_eq]
      rfl
  · dsimp only
    omega
theorem t_survey {σ : Mm} {g : Nat → Bool} {tl : Nat → Int} (T : TlT σ 37 g tl) (hT : TlOk g tl) : ∃ r, f_Gr_survey σ 11 = some r ∧ ∃ f, r = (0, sAs σ 12 f) ∧ ∀ c w, c < 20 → w < 4 → f (4 * c + w) = nb g c w := by
  unfold f_Gr_survey f_Gr_survey_2
  refine lp_ind (fun s => 20 - s.2.toNatClampNeg) (fun s => ∃ (f : Nat → Int32) (c : Nat), s = (sAs σ 12 f, iz (c : Nat)) ∧ c ≤ 20 ∧ ∀ x w, x < c → w < 4 → f (4 * x + w) = nb g x w) _ (fun s hs => ?_) _ ⟨gA σ 12, 0, by rw [sAs_id _ _ _ rfl]; rfl, by omega, fun x w hx => absurd hx (Nat.not_lt_zero x)⟩ ?_
  · obtain ⟨f, c, rfl, hc, h1⟩ := hs
    dsimp only
    by_cases k : c < 20
    · left
      obtain ⟨_, b1, f', rfl, b2, b3⟩ := t_sv10 (T.s12 f) hT k
      have kc : iz (c : Int) < 20 := by rw [i20, iz_lt (by omega) (by omega) (by omega) (by omega)]; omega
      refine ⟨(sAs σ 12 f', iz ((c + 1 : Nat) : Int)), ?_, ⟨f', c + 1, rfl, by omega, fun x w hx hw => ?_⟩, ?_⟩
      · unfold f_Gr_survey_2_b
        rw [if_pos kc, b1, sAs_sAs]
      · by_cases q : x = c
        · rw [q]; exact b3 w hw
        · rw [b2 _ (by omega), gA_sAs, if_pos rfl]
          exact h1 x w (by omega) hw
      · dsimp only
        rw [iz_nat (by omega) (by omega), iz_nat (by omega) (by omega)]
        omega
    · right
      have : c = 20 := by omega
      subst this
      refine ⟨(0, sAs σ 12 f), ?_, f, rfl, h1⟩
      unfold f_Gr_survey_2_b
      rw [if_neg (by decide)]
      rfl
  · dsimp only
    omega
/-- a moment begins -/
theorem t_begin {σ : Mm} {p : Nat} (hp : p = 7 ∨ p = 9) : ∃ σ', f_Mo_begin σ 36 p = some (0, σ') ∧ (∀ c, c < 20 → gA σ' 37 c = gA σ (p + 1) c) ∧ gA σ' 38 0 = iz 0 ∧ gA σ' 38 1 = iz 0 ∧ gA σ' 39 0 = iz 0 ∧ gA σ' 39 1 = iz 0 ∧ gI σ' 36 3 = gI σ p 3 ∧ gI σ' 36 4 = iz 0 ∧ gI σ' 36 5 = iz 0 ∧ (∀ c k, c ≠ 36 → gI σ' c k = gI σ c k) ∧ (∀ c, c < 37 ∨ 39 < c → gA σ' c = gA σ c) ∧ (∀ c k, gR σ' c k = gR σ c k) ∧ gJ σ' = gJ σ := by
  unfold f_Mo_begin
  rw [nm_eq, f_fill _ _ _ _ (by decide), bd_eq, f_fill _ _ _ _ (by decide), bd_eq, nm_eq, nm_eq, nm_eq, show ((0 : Int32).toNatClampNeg) = 0 from rfl, show ((20 : Int32).toNatClampNeg) = 20 from rfl]
  refine ⟨_, rfl, fun c hc => ?_, ?_, ?_, ?_, ?_, ?_, ?_, ?_, fun c k hc => ?_, fun c hc => ?_, fun c k => rfl, rfl⟩
  · rw [gA_sI, gA_sI, gA_sI, gA_sAs, if_neg (by decide), gA_sAs, if_neg (by decide), gA_sAs, if_pos rfl, pk_cpy_in (by omega) (by omega)]
    congr 1
    omega
  · rw [gA_sI, gA_sI, gA_sI, gA_sAs, if_neg (by decide), gA_sAs, if_pos rfl, if_pos (by decide)]; rfl
  · rw [gA_sI, gA_sI, gA_sI, gA_sAs, if_neg (by decide), gA_sAs, if_pos rfl, if_pos (by decide)]; rfl
  · rw [gA_sI, gA_sI, gA_sI, gA_sAs, if_pos rfl, if_pos (by decide)]; rfl
  · rw [gA_sI, gA_sI, gA_sI, gA_sAs, if_pos rfl, if_pos (by decide)]; rfl
  · rw [gI_sI, if_neg (by decide), gI_sI, if_neg (by decide), gI_sI, if_pos ⟨rfl, rfl⟩, gI_sAs, gI_sAs, gI_sAs]
  · rw [gI_sI, if_neg (by decide), gI_sI, if_pos ⟨rfl, rfl⟩]; rfl
  · rw [gI_sI, if_pos ⟨rfl, rfl⟩]; rfl
  · rw [gI_sI, if_neg (fun z => hc z.1), gI_sI, if_neg (fun z => hc z.1), gI_sI, if_neg (fun z => hc z.1), gI_sAs, gI_sAs, gI_sAs]
  · rw [gA_sI, gA_sI, gA_sI, gA_sAs, if_neg (by omega), gA_sAs, if_neg (by omega), gA_sAs, if_neg (by omega)]
