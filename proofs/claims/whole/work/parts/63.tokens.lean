-- tokens of a text
def dg (a : Nat → Nat) (j : Nat) : Prop := 48 ≤ a j ∧ a j ≤ 57
/-- a number's value as the reference reads it, as the class reads it, and whether it is one -/
def rv (a : Nat → Nat) (q : Nat) : Nat → Int
  | 0 => 0
  | m + 1 => if rv a q m ≤ 99 then 10 * rv a q m + a (q + m) - 48 else rv a q m
def dv (a : Nat → Nat) (q : Nat) : Nat → Int
  | 0 => 0
  | m + 1 => if 10 * dv a q m + ((a (q + m) : Int) - 48) < 100 then 10 * dv a q m + ((a (q + m) : Int) - 48) else 100
def gd (a : Nat → Nat) (q : Nat) : Nat → Bool
  | 0 => true
  | 1 => true
  | m + 2 => gd a q (m + 1) && !(decide (dv a q (m + 1) = 0)) && decide (dv a q (m + 2) ≤ 99)
theorem num_eq {a : Nat → Nat} {q : Nat} (m : Nat) (h : ∀ j, q ≤ j → j < q + (m + 1) → dg a j) : (gd a q (m + 1) = true ↔ (rv a q (m + 1) ≤ 99 ∧ (a q ≠ 48 ∨ m = 0))) ∧ ((rv a q (m + 1) = dv a q (m + 1) ∧ 0 ≤ dv a q (m + 1) ∧ dv a q (m + 1) ≤ 99) ∨ (dv a q (m + 1) = 100 ∧ 100 ≤ rv a q (m + 1) ∧ rv a q (m + 1) ≤ 999)) ∧ (dv a q (m + 1) = 0 → a q = 48) ∧ (a q = 48 → m = 0 → dv a q (m + 1) = 0) := by
  induction m with
  | zero =>
    have h0 := h q (Nat.le_refl _) (by omega)
    have r1 : rv a q 1 = 10 * 0 + a (q + 0) - 48 := by
      unfold rv
      rw [show rv a q 0 = 0 from rfl, if_pos (by omega)]
    have d1 : dv a q 1 = 10 * 0 + ((a (q + 0) : Int) - 48) := by
      unfold dv dg at *
      rw [show dv a q 0 = 0 from rfl, if_pos (by rw [Nat.add_zero]; omega)]
    rw [Nat.add_zero] at r1 d1
    unfold dg at h0
    rw [Nat.zero_add]
    refine ⟨⟨fun _ => ⟨by omega, Or.inr rfl⟩, fun _ => rfl⟩, Or.inl ⟨by omega, by omega, by omega⟩, fun z => by omega, fun z _ => by omega⟩
  | succ m ih =>
    obtain ⟨i1, i2, i3, i4⟩ := ih (fun j h1 h2 => h j h1 (by omega))
    have hd := h (q + (m + 1)) (by omega) (by omega)
    unfold dg at hd
    have r1 : rv a q (m + 1 + 1) = if rv a q (m + 1) ≤ 99 then 10 * rv a q (m + 1) + a (q + (m + 1)) - 48 else rv a q (m + 1) := rfl
    have d1 : dv a q (m + 1 + 1) = if 10 * dv a q (m + 1) + ((a (q + (m + 1)) : Int) - 48) < 100 then 10 * dv a q (m + 1) + ((a (q + (m + 1)) : Int) - 48) else 100 := rfl
    have g1 : gd a q (m + 1 + 1) = (gd a q (m + 1) && !(decide (dv a q (m + 1) = 0)) && decide (dv a q (m + 2) ≤ 99)) := rfl
    have g2 : gd a q (m + 1 + 1) = true ↔ (gd a q (m + 1) = true ∧ dv a q (m + 1) ≠ 0 ∧ dv a q (m + 1 + 1) ≤ 99) := by
      rw [g1]
      simp [and_assoc]
    rw [g2, i1]
    have key : (rv a q (m + 1 + 1) = dv a q (m + 1 + 1) ∧ 0 ≤ dv a q (m + 1 + 1) ∧ dv a q (m + 1 + 1) ≤ 99 ∧ rv a q (m + 1) = dv a q (m + 1) ∧ dv a q (m + 1) ≤ 99) ∨ (dv a q (m + 1 + 1) = 100 ∧ 100 ≤ rv a q (m + 1 + 1) ∧ rv a q (m + 1 + 1) ≤ 999) := by
      rcases i2 with ⟨e1, e2, e3⟩ | ⟨e1, e2, e3⟩
      · rw [if_pos (by omega)] at r1
        by_cases z : 10 * dv a q (m + 1) + ((a (q + (m + 1)) : Int) - 48) < 100
        · rw [if_pos z] at d1
          left
          omega
        · rw [if_neg z] at d1
          right
          omega
      · rw [if_neg (by omega)] at r1
        rw [if_neg (by omega)] at d1
        right
        omega
    refine ⟨⟨fun ⟨⟨x1, x2⟩, x3, x4⟩ => ⟨by omega, Or.inl ?_⟩, fun ⟨x1, x2⟩ => ⟨⟨by omega, Or.inl (by omega)⟩, ?_, by omega⟩⟩, ?_, fun z => ?_, fun _ z => by omega⟩
    · rcases x2 with y | y
      · exact y
      · intro z
        exact x3 (i4 z y)
    · intro z
      have := i3 z
      omega
    · rcases key with ⟨k1, k2, k3, -⟩ | k
      · exact Or.inl ⟨k1, k2, k3⟩
      · exact Or.inr k
    · rcases i2 with ⟨e1, e2, e3⟩ | ⟨e1, e2, e3⟩
      · by_cases y : 10 * dv a q (m + 1) + ((a (q + (m + 1)) : Int) - 48) < 100
        · rw [if_pos y] at d1
          exact i3 (by omega)
        · rw [if_neg y] at d1
          omega
      · rw [if_neg (by omega)] at d1
        omega
/-- the tokens of a text's first p letters: token i lies from Q i up to G (i + 1) -/
def CH (a : Nat → Nat) (p n : Nat) (Q G : Nat → Nat) : Prop := G 0 = 0 ∧ (∀ i, i < n → G i ≤ Q i ∧ Q i < G (i + 1) ∧ G (i + 1) ≤ p ∧ (∀ j, G i ≤ j → j < Q i → a j = 32) ∧ (((∀ j, Q i ≤ j → j < G (i + 1) → dg a j) ∧ (G (i + 1) < p → ¬ dg a (G (i + 1)))) ∨ (¬ dg a (Q i) ∧ a (Q i) ≠ 32 ∧ G (i + 1) = Q i + 1))) ∧ (∀ j, G n ≤ j → j < p → a j = 32) ∧ G n ≤ p
theorem CH.le {a : Nat → Nat} {p n : Nat} {Q G : Nat → Nat} (h : CH a p n Q G) : ∀ i, i ≤ n → i ≤ G i := by
  intro i
  induction i with
  | zero => intro _; exact Nat.zero_le _
  | succ i ih =>
    intro hi
    obtain ⟨h1, h2, h3, -⟩ := h.2.1 i (by omega)
    have := ih (by omega)
    omega
theorem CH.space {a : Nat → Nat} {p n : Nat} {Q G : Nat → Nat} (h : CH a p n Q G) (hp : a p = 32) : CH a (p + 1) n Q G := by
  obtain ⟨h1, h2, h3, h4⟩ := h
  refine ⟨h1, fun i hi => ?_, fun j j1 j2 => ?_, by omega⟩
  · obtain ⟨a1, a2, a3, a4, a5⟩ := h2 i hi
    refine ⟨a1, a2, by omega, a4, ?_⟩
    rcases a5 with ⟨b1, b2⟩ | b
    · refine Or.inl ⟨b1, fun z => ?_⟩
      by_cases e : G (i + 1) = p
      · rw [e]; unfold dg; omega
      · exact b2 (by omega)
    · exact Or.inr b
  · by_cases e : j = p
    · rw [e]; exact hp
    · exact h3 j j1 (by omega)
/-- one more token of one letter -/
theorem CH.more {a : Nat → Nat} {p n : Nat} {Q G Q' G' : Nat → Nat} (h : CH a p n Q G) (hp : a p ≠ 32) (hd : dg a p → (p = 0 ∨ ¬ dg a (p - 1))) (q1 : Q' n = p) (q2 : ∀ i, i < n → Q' i = Q i) (g1 : G' (n + 1) = p + 1) (g2 : ∀ i, i ≤ n → G' i = G i) : CH a (p + 1) (n + 1) Q' G' := by
  obtain ⟨h1, h2, h3, h4⟩ := h
  refine ⟨by rw [g2 0 (Nat.zero_le _)]; exact h1, fun i hi => ?_, fun j j1 j2 => by omega, by omega⟩
  by_cases e : i = n
  · rw [e, q1, g1, g2 n (Nat.le_refl _)]
    refine ⟨h4, by omega, Nat.le_refl _, h3, ?_⟩
    by_cases z : dg a p
    · exact Or.inl ⟨fun j j1 j2 => by rw [show j = p by omega]; exact z, fun y => by omega⟩
    · exact Or.inr ⟨z, hp, rfl⟩
  · obtain ⟨a1, a2, a3, a4, a5⟩ := h2 i (by omega)
    rw [q2 i (by omega), g2 i (by omega), g2 (i + 1) (by omega)]
    refine ⟨a1, a2, by omega, a4, ?_⟩
    rcases a5 with ⟨b1, b2⟩ | b
    · refine Or.inl ⟨b1, fun z => ?_⟩
      by_cases e2 : G (i + 1) = p
      · rw [e2]
        intro y
        rcases hd y with z2 | z2
        · omega
        · exact z2 (b1 (p - 1) (by omega) (by omega))
      · exact b2 (by omega)
    · exact Or.inr b
/-- a number's next digit -/
theorem CH.last {a : Nat → Nat} {p n : Nat} {Q G : Nat → Nat} (h : CH a p n Q G) (hp : 0 < p) (hd : dg a (p - 1)) : ∃ n', n = n' + 1 ∧ G (n' + 1) = p ∧ Q n' < p ∧ ∀ j, Q n' ≤ j → j < p → dg a j := by
  obtain ⟨h1, h2, h3, h4⟩ := h
  have e : G n = p := by
    by_cases z : G n ≤ p - 1
    · have := h3 (p - 1) z (by omega)
      unfold dg at hd
      omega
    · omega
  rcases n with _ | n'
  · omega
  · obtain ⟨a1, a2, a3, a4, a5⟩ := h2 n' (by omega)
    refine ⟨n', rfl, e, by omega, ?_⟩
    rcases a5 with ⟨b1, -⟩ | ⟨b1, -, b3⟩
    · rw [← e]; exact b1
    · rw [show p - 1 = Q n' by omega] at hd
      exact absurd hd b1
theorem CH.digit {a : Nat → Nat} {p n : Nat} {Q G G' : Nat → Nat} (h : CH a p (n + 1) Q G) (hd : dg a p) (hG : G (n + 1) = p) (hr : ∀ j, Q n ≤ j → j < p → dg a j) (g1 : G' (n + 1) = p + 1) (g2 : ∀ i, i ≤ n → G' i = G i) : CH a (p + 1) (n + 1) Q G' := by
  obtain ⟨h1, h2, h3, h4⟩ := h
  refine ⟨by rw [g2 0 (Nat.zero_le _)]; exact h1, fun i hi => ?_, fun j j1 j2 => by omega, by omega⟩
  obtain ⟨a1, a2, a3, a4, a5⟩ := h2 i hi
  by_cases e : i = n
  · rw [e] at a1 a2 a4 ⊢
    rw [g1, g2 n (Nat.le_refl _)]
    refine ⟨a1, by omega, Nat.le_refl _, a4, Or.inl ⟨fun j j1 j2 => ?_, fun y => by omega⟩⟩
    by_cases z : j = p
    · rw [z]; exact hd
    · exact hr j j1 (by omega)
  · rw [g2 i (by omega), g2 (i + 1) (by omega)]
    refine ⟨a1, a2, by omega, a4, ?_⟩
    rcases a5 with ⟨b1, b2⟩ | b
    · have m1 := (h2 (i + 1) (by omega)).1
      have m2 : G (i + 1) < p := by
        have : ∀ k, i + 1 + k ≤ n → G (i + 1) ≤ G (i + 1 + k) := by
          intro k
          induction k with
          | zero => intro _; exact Nat.le_refl _
          | succ k ih =>
            intro hk
            obtain ⟨x1, x2, -⟩ := h2 (i + 1 + k) (by omega)
            have := ih (by omega)
            have : i + 1 + (k + 1) = i + 1 + k + 1 := by omega
            rw [this]
            omega
        have := this (n - (i + 1)) (by omega)
        rw [show i + 1 + (n - (i + 1)) = n by omega] at this
        obtain ⟨x1, x2, -⟩ := h2 n (by omega)
        omega
      exact Or.inl ⟨b1, fun _ => b2 m2⟩
    · exact Or.inr b
