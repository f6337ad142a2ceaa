-- soonest: how near a verdict is
def hit (T : Nat → Nat → Option Nat) (E : Nat → Nat → Bool) (k : Int) (D : Nat → Int) (s w : Nat) : Prop := (k = 1 ∧ E s w = true) ∨ (2 ≤ k ∧ ∃ t, T s w = some t ∧ D t = k - 1)
def DE (T : Nat → Nat → Option Nat) (E : Nat → Nat → Bool) (V : Nat → Prop) (D : Nat → Int) : Prop := ∀ s, V s → (D s = -9 ∨ 1 ≤ D s) ∧ (1 ≤ D s → ∃ w, w < 4 ∧ hit T E (D s) D s w) ∧ (∀ w, w < 4 → E s w = true → D s = 1) ∧ (∀ w t, w < 4 → T s w = some t → 1 ≤ D t → 1 ≤ D s ∧ D s ≤ D t + 1)
def HI (T : Nat → Nat → Option Nat) (E : Nat → Nat → Bool) (V : Nat → Prop) (k : Int) (i : Nat) (D : Nat → Int) : Prop := ∀ s, V s → (D s = -9 ∨ (1 ≤ D s ∧ D s ≤ k)) ∧ (1 ≤ D s → ∃ w, w < 4 ∧ hit T E (D s) D s w) ∧ (∀ w, w < 4 → E s w = true → (k ≠ 1 ∨ s < i) → D s = 1) ∧ (∀ w t, w < 4 → T s w = some t → 1 ≤ D t → D t + 1 ≤ k → (s < i ∨ D t + 2 ≤ k) → 1 ≤ D s ∧ D s ≤ D t + 1)
theorem HI.set {T : Nat → Nat → Option Nat} {E : Nat → Nat → Bool} {V : Nat → Prop} {k : Int} {D D' : Nat → Int} {s w : Nat} (I : HI T E V k s D) (hk : 1 ≤ k) (h0 : D s = -9) (h1 : D' s = k) (h2 : ∀ j, j ≠ s → D' j = D j) (hw : w < 4) (hh : hit T E k D s w) : HI T E V k (s + 1) D' := by
  intro u hu
  obtain ⟨i1, i2, i3, i4⟩ := I u hu
  by_cases e : u = s
  · subst e
    refine ⟨Or.inr ⟨by omega, by omega⟩, fun _ => ⟨w, hw, ?_⟩, fun v v1 v2 _ => ?_, fun v t v1 v2 v3 v4 _ => ?_⟩
    · rw [h1]
      rcases hh with z | ⟨z1, t, z2, z3⟩
      · exact Or.inl z
      · exact Or.inr ⟨z1, t, z2, by rw [h2 t (fun y => by rw [y] at z3; omega)]; exact z3⟩
    · by_cases q : k = 1
      · omega
      · have := i3 v v1 v2 (Or.inl q)
        omega
    · by_cases q : t = u
      · rw [q] at v4; omega
      · rw [h2 t q] at v3 v4 ⊢
        by_cases q2 : D t + 2 ≤ k
        · have := i4 v t v1 v2 v3 v4 (Or.inr q2)
          omega
        · omega
  · rw [h2 u e]
    refine ⟨i1, fun z => ?_, fun v v1 v2 v3 => i3 v v1 v2 (by omega), fun v t v1 v2 v3 v4 v5 => ?_⟩
    · obtain ⟨v, v1, v2⟩ := i2 z
      refine ⟨v, v1, ?_⟩
      rcases v2 with y | ⟨y1, t, y2, y3⟩
      · exact Or.inl y
      · exact Or.inr ⟨y1, t, y2, by rw [h2 t (fun x => by rw [x] at y3; omega)]; exact y3⟩
    · by_cases q : t = s
      · rw [q] at v4; omega
      · rw [h2 t q] at v3 v4 v5 ⊢
        exact i4 v t v1 v2 v3 v4 (by omega)
theorem HI.skip {T : Nat → Nat → Option Nat} {E : Nat → Nat → Bool} {V : Nat → Prop} {k : Int} {D : Nat → Int} {s : Nat} (I : HI T E V k s D) (h : V s → D s = -9 → ∀ w, w < 4 → ¬ hit T E k D s w) (hk : 1 ≤ k) : HI T E V k (s + 1) D := by
  intro u hu
  obtain ⟨i1, i2, i3, i4⟩ := I u hu
  refine ⟨i1, i2, fun v v1 v2 v3 => ?_, fun v t v1 v2 v3 v4 v5 => ?_⟩
  · by_cases e : u = s
    · subst e
      by_cases q : k = 1
      · rcases i1 with z | z
        · exact absurd (Or.inl ⟨q, v2⟩) (h hu z v v1)
        · omega
      · exact i3 v v1 v2 (Or.inl q)
    · exact i3 v v1 v2 (by omega)
  · by_cases e : u = s
    · subst e
      by_cases q : D t + 2 ≤ k
      · exact i4 v t v1 v2 v3 v4 (Or.inr q)
      · rcases i1 with z | z
        · exact absurd (Or.inr ⟨by omega, t, v2, by omega⟩) (h hu z v v1)
        · omega
    · exact i4 v t v1 v2 v3 v4 (by omega)
theorem HI.next {T : Nat → Nat → Option Nat} {E : Nat → Nat → Bool} {V : Nat → Prop} {k : Int} {D : Nat → Int} (hV : ∀ s, V s → s < 340) (I : HI T E V k 340 D) : HI T E V (k + 1) 0 D := by
  intro u hu
  have := hV u hu
  obtain ⟨i1, i2, i3, i4⟩ := I u hu
  exact ⟨by clear i2 i3 i4; omega, i2, fun v v1 v2 _ => i3 v v1 v2 (Or.inr this), fun v t v1 v2 v3 v4 v5 => i4 v t v1 v2 v3 (by omega) (Or.inl this)⟩
theorem HI.end {T : Nat → Nat → Option Nat} {E : Nat → Nat → Bool} {V : Nat → Prop} {k : Int} {D : Nat → Int} (hV : ∀ s, V s → s < 340) (hT : ∀ s w t, V s → w < 4 → T s w = some t → V t) (I : HI T E V k 340 D) (h : ∀ s, V s → D s ≠ k) : DE T E V D := by
  intro u hu
  have h3 := hV u hu
  obtain ⟨i1, i2, i3, i4⟩ := I u hu
  refine ⟨by clear i2 i3 i4; omega, i2, fun v v1 v2 => i3 v v1 v2 (Or.inr h3), fun v t v1 v2 v3 => ?_⟩
  have hVt := hT u v t hu v1 v2
  have := (I t hVt).1
  have := h t hVt
  exact i4 v t v1 v2 v3 (by omega) (Or.inl h3)
theorem least4 {P : Nat → Prop} (h : ∃ w, w < 4 ∧ P w) : ∃ w, w < 4 ∧ P w ∧ ∀ u, u < w → ¬ P u := by
  obtain ⟨w, hw, hp⟩ := h
  by_cases q0 : P 0
  · exact ⟨0, by omega, q0, fun u hu => by omega⟩
  by_cases q1 : P 1
  · exact ⟨1, by omega, q1, fun u hu => by rw [show u = 0 by omega]; exact q0⟩
  by_cases q2 : P 2
  · refine ⟨2, by omega, q2, fun u hu => ?_⟩
    rcases (show u = 0 ∨ u = 1 by omega) with rfl | rfl
    · exact q0
    · exact q1
  by_cases q3 : P 3
  · refine ⟨3, by omega, q3, fun u hu => ?_⟩
    rcases (show u = 0 ∨ u = 1 ∨ u = 2 by omega) with rfl | rfl | rfl
    · exact q0
    · exact q1
    · exact q2
  rcases (show w = 0 ∨ w = 1 ∨ w = 2 ∨ w = 3 by omega) with rfl | rfl | rfl | rfl
  · exact absurd hp q0
  · exact absurd hp q1
  · exact absurd hp q2
  · exact absurd hp q3
/-- the nearest way, push by push -/
def GP (T : Nat → Nat → Option Nat) (E : Nat → Nat → Bool) (V : Nat → Prop) (D : Nat → Int) (n : Nat) (s0 : Nat) (P Wy : Nat → Nat) : Prop := P 0 = s0 ∧ ∀ d, d < n → V (P d) ∧ D (P d) = n - d ∧ Wy d < 4 ∧ hit T E (n - d) D (P d) (Wy d) ∧ (∀ u, u < Wy d → ¬ hit T E (n - d) D (P d) u) ∧ (d + 1 < n → T (P d) (Wy d) = some (P (d + 1)))
theorem GP.ex {T : Nat → Nat → Option Nat} {E : Nat → Nat → Bool} {V : Nat → Prop} {D : Nat → Int} (hT : ∀ s w t, V s → w < 4 → T s w = some t → V t) (h : DE T E V D) (n : Nat) : ∀ s0, V s0 → D s0 = n + 1 → ∃ P Wy, GP T E V D (n + 1) s0 P Wy := by
  induction n with
  | zero =>
    intro s0 hs hd
    obtain ⟨w, w1, w2, w3⟩ := least4 ((h s0 hs).2.1 (by omega))
    refine ⟨fun _ => s0, fun _ => w, rfl, fun d hd' => ?_⟩
    have : d = 0 := by omega
    subst this
    have e : (((0 + 1 : Nat) : Int) - ((0 : Nat) : Int)) = D s0 := by omega
    rw [e]
    exact ⟨hs, rfl, w1, w2, w3, fun z => by omega⟩
  | succ n ih =>
    intro s0 hs hd
    obtain ⟨w, w1, w2, w3⟩ := least4 ((h s0 hs).2.1 (by omega))
    rcases id w2 with ⟨z, -⟩ | ⟨z1, t, z2, z3⟩
    · omega
    · obtain ⟨P, Wy, p1, p2⟩ := ih t (hT s0 w t hs w1 z2) (by omega)
      refine ⟨fun d => Nat.casesOn d s0 (fun e => P e), fun d => Nat.casesOn d w (fun e => Wy e), rfl, fun d hd' => ?_⟩
      rcases d with _ | d
      · have e : (((n + 1 + 1 : Nat) : Int) - ((0 : Nat) : Int)) = D s0 := by omega
        rw [e]
        exact ⟨hs, rfl, w1, w2, w3, fun _ => by show T s0 w = some (P 0); rw [p1]; exact z2⟩
      · obtain ⟨a1, a2, a3, a4, a5, a6⟩ := p2 d (by omega)
        have e : (((n + 1 + 1 : Nat) : Int) - ((d + 1 : Nat) : Int)) = ((n + 1 : Nat) : Int) - d := by omega
        rw [e]
        exact ⟨a1, a2, a3, a4, a5, fun z => a6 (by omega)⟩
-- spots of the yard
def Tw (g : Nat → Bool) (lim lea : Int) (tl : Nat → Int) (s w : Nat) : Option Nat := match nx g (s / 17) w with
  | none => none
  | some c' => if vd lim (((s % 17 : Nat) : Int) - 8 + tl c' + lea) = 0 then some (17 * (c' : Int) + (((s % 17 : Nat) : Int) - 8 + tl c' + lea) + 8).toNat else none
def Ew (g : Nat → Bool) (lim lea : Int) (tl : Nat → Int) (sd : Int) (s w : Nat) : Bool := match nx g (s / 17) w with
  | none => false
  | some c' => decide (vd lim (((s % 17 : Nat) : Int) - 8 + tl c' + lea) = sd)
def Vw (g : Nat → Bool) (s : Nat) : Prop := s < 340 ∧ g (s / 17) = true
theorem way_cases (g : Nat → Bool) (lim lea : Int) (tl : Nat → Int) {sd : Int} (hsd : sd = 1 ∨ sd = 2) (hg : ∀ c, g c = true → c < 20) (hl : lim ≤ 9) (s w : Nat) :
    (nx g (s / 17) w = none ∧ Tw g lim lea tl s w = none ∧ Ew g lim lea tl sd s w = false) ∨
    ∃ c', nx g (s / 17) w = some c' ∧ c' < 20 ∧ g c' = true ∧
      ((vd lim (((s % 17 : Nat) : Int) - 8 + tl c' + lea) = 0 ∧ Ew g lim lea tl sd s w = false ∧ ∃ t : Nat, Tw g lim lea tl s w = some t ∧ (t : Int) = 17 * (c' : Int) + (((s % 17 : Nat) : Int) - 8 + tl c' + lea) + 8 ∧ t < 340 ∧ t / 17 = c' ∧ (-9 < ((s % 17 : Nat) : Int) - 8 + tl c' + lea ∧ ((s % 17 : Nat) : Int) - 8 + tl c' + lea < 9)) ∨
       (vd lim (((s % 17 : Nat) : Int) - 8 + tl c' + lea) ≠ 0 ∧ Tw g lim lea tl s w = none ∧ (Ew g lim lea tl sd s w = true ↔ vd lim (((s % 17 : Nat) : Int) - 8 + tl c' + lea) = sd))) := by
  unfold Tw Ew
  rcases hx : nx g (s / 17) w with _ | c'
  · exact Or.inl ⟨rfl, rfl, rfl⟩
  · right
    obtain ⟨xg, -⟩ := nx_ok hx
    have xc := hg c' xg
    refine ⟨c', rfl, xc, xg, ?_⟩
    dsimp only
    by_cases q : vd lim (((s % 17 : Nat) : Int) - 8 + tl c' + lea) = 0
    · left
      obtain ⟨z1, z2⟩ := vd_0.mp q
      rw [if_pos q]
      exact ⟨q, decide_eq_false (by omega), _, rfl, by omega, by omega, by omega, by omega, by omega⟩
    · right
      rw [if_neg q]
      exact ⟨q, rfl, decide_eq_true_iff⟩
theorem Tw_V {g : Nat → Bool} {lim lea : Int} {tl : Nat → Int} (hg : ∀ c, g c = true → c < 20) (hl : lim ≤ 9) : ∀ s w t, Vw g s → w < 4 → Tw g lim lea tl s w = some t → Vw g t := by
  intro s w t hs hw h
  rcases way_cases g lim lea tl (sd := 1) (Or.inl rfl) hg hl s w with ⟨-, a, -⟩ | ⟨c', -, -, a2, ⟨-, -, t', a3, -, a4, a5, -⟩ | ⟨-, a, -⟩⟩
  · rw [a] at h; cases h
  · rw [a3] at h
    rw [← Option.some.inj h]
    exact ⟨a4, by rw [a5]; exact a2⟩
  · rw [a] at h; cases h
