-- odds: parts and ways
def bump (B : Nat → Int) (j : Nat) (y : Int) : Nat → Int := fun i => if i = j then B i + y else B i
def wA (g : Nat → Bool) (lim lea : Int) (tl : Nat → Int) (sd : Int) (c : Nat) (l y : Int) (w : Nat) (x : (Nat → Int) × Int) : (Nat → Int) × Int := match nx g c w with
  | none => x
  | some c' => if vd lim (l + tl c' + lea) = sd then (x.1, x.2 + y) else if vd lim (l + tl c' + lea) = 0 then (bump x.1 (17 * (c' : Int) + (l + tl c' + lea) + 8).toNat y, x.2) else x
def wN (g : Nat → Bool) (lim lea : Int) (tl : Nat → Int) (sd : Int) (c : Nat) (l y : Int) : Nat → (Nat → Int) × Int → (Nat → Int) × Int
  | 0, x => x
  | k + 1, x => wA g lim lea tl sd c l y k (wN g lim lea tl sd c l y k x)
def sA1 (g : Nat → Bool) (lim lea : Int) (tl : Nat → Int) (sd : Int) (A : Nat → Int) (s : Nat) (x : (Nat → Int) × Int) : (Nat → Int) × Int := if sm (pM g (s / 17)) 4 = 0 then (bump x.1 s (12 * A s), x.2) else wN g lim lea tl sd (s / 17) (((s % 17 : Nat) : Int) - 8) (12 / ((sm (pM g (s / 17)) 4 : Nat) : Int) * A s) 4 x
def sN (g : Nat → Bool) (lim lea : Int) (tl : Nat → Int) (sd : Int) (A : Nat → Int) : Nat → (Nat → Int) × Int → (Nat → Int) × Int
  | 0, x => x
  | k + 1, x => if A k ≤ 0 then sN g lim lea tl sd A k x else sA1 g lim lea tl sd A k (sN g lim lea tl sd A k x)
def SI (f : Nat → Int) : Nat → Int
  | 0 => 0
  | k + 1 => SI f k + f k
def PB (g : Nat → Bool) (M : Int) (x : (Nat → Int) × Int) : Prop := (∀ j, 0 ≤ x.1 j) ∧ (∀ j, j < 340 → x.1 j ≠ 0 → g (j / 17) = true) ∧ 0 ≤ x.2 ∧ SI x.1 340 + x.2 ≤ M
theorem SI_bump (B : Nat → Int) (j : Nat) (y : Int) (k : Nat) : SI (bump B j y) k = SI B k + if j < k then y else 0 := by
  induction k with
  | zero => rfl
  | succ k ih =>
    unfold SI
    rw [ih]
    by_cases e : k = j
    · have : bump B j y k = B k + y := if_pos e
      rw [this, if_neg (by omega), if_pos (by omega)]
      omega
    · have : bump B j y k = B k := if_neg e
      rw [this]
      by_cases e2 : j < k
      · rw [if_pos e2, if_pos (by omega)]; omega
      · rw [if_neg e2, if_neg (by omega)]; omega
theorem SI_nonneg {f : Nat → Int} (h : ∀ j, 0 ≤ f j) (k : Nat) : 0 ≤ SI f k := by
  induction k with
  | zero => exact Int.le_refl _
  | succ k ih => unfold SI; have := h k; omega
theorem SI_has {f : Nat → Int} (h : ∀ j, 0 ≤ f j) {j : Nat} (k : Nat) (hj : j < k) : f j ≤ SI f k := by
  induction k with
  | zero => omega
  | succ k ih =>
    unfold SI
    have h0 := SI_nonneg h k
    have h1 := h k
    by_cases e : j = k
    · rw [e]; omega
    · have := ih (by omega)
      omega
theorem PB.bmp {g : Nat → Bool} {M y : Int} {x : (Nat → Int) × Int} (h : PB g M x) (hy : 0 ≤ y) {j : Nat} (hg : g (j / 17) = true) : PB g (M + y) (bump x.1 j y, x.2) := by
  obtain ⟨h1, h2, h3, h4⟩ := h
  refine ⟨fun i => ?_, fun i hi hn => ?_, h3, ?_⟩
  · show 0 ≤ (if i = j then x.1 i + y else x.1 i)
    have := h1 i
    by_cases e : i = j
    · rw [if_pos e]; omega
    · rw [if_neg e]; omega
  · by_cases e : i = j
    · rw [e]; exact hg
    · refine h2 i hi (fun z => hn ?_)
      show (if i = j then x.1 i + y else x.1 i) = 0
      rw [if_neg e, z]
  · show SI (bump x.1 j y) 340 + x.2 ≤ M + y
    rw [SI_bump]
    by_cases e : j < 340
    · rw [if_pos e]; omega
    · rw [if_neg e]; omega
theorem PB.up {g : Nat → Bool} {M M' : Int} {x : (Nat → Int) × Int} (h : PB g M x) (hM : M ≤ M') : PB g M' x := ⟨h.1, h.2.1, h.2.2.1, by have := h.2.2.2; omega⟩
theorem spot_cell {c' : Nat} {l : Int} (h1 : -9 < l) (h2 : l < 9) : (17 * (c' : Int) + l + 8).toNat / 17 = c' := by omega
theorem PB.way {g : Nat → Bool} {lim lea : Int} {tl : Nat → Int} {sd M y l : Int} {c w : Nat} {x : (Nat → Int) × Int} (hl : lim ≤ 9) (h : PB g M x) (hy : 0 ≤ y) : PB g (M + y * (pM g c w : Nat)) (wA g lim lea tl sd c l y w x) := by
  unfold wA pM
  rcases hx : nx g c w with _ | c'
  · exact h.up (by simp)
  · dsimp only
    have e : y * ((1 : Nat) : Int) = y := by simp
    rw [e]
    by_cases q1 : vd lim (l + tl c' + lea) = sd
    · rw [if_pos q1]
      exact ⟨h.1, h.2.1, by have := h.2.2.1; dsimp only; omega, by have := h.2.2.2; dsimp only; omega⟩
    · rw [if_neg q1]
      by_cases q2 : vd lim (l + tl c' + lea) = 0
      · rw [if_pos q2]
        obtain ⟨z1, z2⟩ := vd_0.mp q2
        exact h.bmp hy (by rw [spot_cell (by omega) (by omega)]; exact (nx_ok hx).1)
      · rw [if_neg q2]
        exact h.up (by omega)
theorem PB.ways {g : Nat → Bool} {lim lea : Int} {tl : Nat → Int} {sd M y l : Int} {c : Nat} {x : (Nat → Int) × Int} (hl : lim ≤ 9) (h : PB g M x) (hy : 0 ≤ y) (k : Nat) : PB g (M + y * (sm (pM g c) k : Nat)) (wN g lim lea tl sd c l y k x) := by
  induction k with
  | zero => exact h.up (by simp [sm])
  | succ k ih =>
    unfold wN
    refine (PB.way (w := k) (c := c) (l := l) (lea := lea) (tl := tl) (sd := sd) hl ih hy).up ?_
    have e : ((sm (pM g c) (k + 1) : Nat) : Int) = (sm (pM g c) k : Nat) + (pM g c k : Nat) := by
      show ((sm (pM g c) k + pM g c k : Nat) : Int) = _
      omega
    rw [e, Int.mul_add]
    omega
theorem share_le {c : Nat} {a : Int} (h : c ≤ 4) (h0 : c ≠ 0) : 12 / (c : Int) * a * c = 12 * a := by
  rcases (show c = 1 ∨ c = 2 ∨ c = 3 ∨ c = 4 by omega) with rfl | rfl | rfl | rfl
  · show 12 * a * 1 = _; omega
  · show 6 * a * 2 = _; omega
  · show 4 * a * 3 = _; omega
  · show 3 * a * 4 = _; omega
theorem share_ge {c : Nat} {a : Int} (h : c ≤ 4) (h0 : c ≠ 0) (ha : 0 ≤ a) : 0 ≤ 12 / (c : Int) * a ∧ 12 / (c : Int) * a ≤ 12 * a := by
  rcases (show c = 1 ∨ c = 2 ∨ c = 3 ∨ c = 4 by omega) with rfl | rfl | rfl | rfl
  · show 0 ≤ 12 * a ∧ 12 * a ≤ 12 * a; omega
  · show 0 ≤ 6 * a ∧ 6 * a ≤ 12 * a; omega
  · show 0 ≤ 4 * a ∧ 4 * a ≤ 12 * a; omega
  · show 0 ≤ 3 * a ∧ 3 * a ≤ 12 * a; omega
theorem PB.one {g : Nat → Bool} {lim lea : Int} {tl : Nat → Int} {sd M : Int} {A : Nat → Int} {s : Nat} {x : (Nat → Int) × Int} (hl : lim ≤ 9) (h : PB g M x) (hA : 0 ≤ A s) (hg : g (s / 17) = true) : PB g (M + 12 * A s) (sA1 g lim lea tl sd A s x) := by
  unfold sA1
  by_cases q : sm (pM g (s / 17)) 4 = 0
  · rw [if_pos q]
    exact h.bmp (by omega) hg
  · rw [if_neg q]
    have hc := sm_le (pM_le g (s / 17)) 4
    have h1 := share_ge hc q hA
    have h2 := share_le (a := A s) hc q
    refine (PB.ways (c := s / 17) (lea := lea) (tl := tl) (sd := sd) hl h h1.1 4).up ?_
    rw [h2]
    exact Int.le_refl _
theorem PB.all {g : Nat → Bool} {lim lea : Int} {tl : Nat → Int} {sd M : Int} {A : Nat → Int} {x : (Nat → Int) × Int} (hl : lim ≤ 9) (h : PB g M x) (hA : ∀ j, 0 ≤ A j) (hA2 : ∀ j, j < 340 → A j ≠ 0 → g (j / 17) = true) (k : Nat) (hk : k ≤ 340) : PB g (M + 12 * SI A k) (sN g lim lea tl sd A k x) := by
  induction k with
  | zero => exact h.up (by unfold SI; omega)
  | succ k ih =>
    have ih := ih (by omega)
    unfold sN SI
    by_cases q : A k ≤ 0
    · rw [if_pos q]
      have := hA k
      exact ih.up (by omega)
    · rw [if_neg q]
      refine (PB.one hl ih (hA k) (hA2 k (by omega) (by omega))).up (by omega)
/-- the parts behind n pushes, and what tipped -/
def rN (g : Nat → Bool) (lim lea : Int) (tl : Nat → Int) (sd : Int) (s0 : Nat) : Nat → (Nat → Int) × Int
  | 0 => (bump (fun _ => 0) s0 1, 0)
  | n + 1 => sN g lim lea tl sd (rN g lim lea tl sd s0 n).1 340 (fun _ => 0, 12 * (rN g lim lea tl sd s0 n).2)
theorem SI_0 (k : Nat) : SI (fun _ => 0) k = 0 := by
  induction k with
  | zero => rfl
  | succ k ih => unfold SI; rw [ih]; rfl
def p12 : Nat → Int
  | 0 => 1
  | n + 1 => p12 n * 12
theorem PB.rnd {g : Nat → Bool} {lim lea : Int} {tl : Nat → Int} {sd : Int} {s0 : Nat} (hl : lim ≤ 9) (h0 : s0 < 340) (hg : g (s0 / 17) = true) (n : Nat) : PB g (p12 n) (rN g lim lea tl sd s0 n) := by
  induction n with
  | zero =>
    have hz : PB g 0 ((fun _ => 0, 0) : (Nat → Int) × Int) := ⟨fun _ => Int.le_refl _, fun _ _ z => absurd rfl z, Int.le_refl _, by show SI (fun _ => 0) 340 + 0 ≤ 0; rw [SI_0]; omega⟩
    exact (hz.bmp (y := 1) (by omega) hg).up (by unfold p12; omega)
  | succ n ih =>
    obtain ⟨i1, i2, i3, i4⟩ := ih
    have hz : PB g (12 * (rN g lim lea tl sd s0 n).2) ((fun _ => 0, 12 * (rN g lim lea tl sd s0 n).2) : (Nat → Int) × Int) := ⟨fun _ => Int.le_refl _, fun _ _ z => absurd rfl z, by show 0 ≤ 12 * _; omega, by show SI (fun _ => 0) 340 + 12 * _ ≤ _; rw [SI_0]; omega⟩
    refine (PB.all (lea := lea) (tl := tl) (sd := sd) hl hz i1 i2 340 (Nat.le_refl _)).up ?_
    unfold p12
    omega
/-- Euclid's steps -/
def est : Nat → Int → Int → Int × Int
  | 0, a, b => (a, b)
  | k + 1, a, b => est k b (a % b)
theorem est_next (k : Nat) : ∀ a b, est (k + 1) a b = ((est k a b).2, (est k a b).1 % (est k a b).2) := by
  induction k with
  | zero => intro a b; rfl
  | succ k ih => intro a b; exact ih b (a % b)
theorem est_in {M : Int} (k : Nat) : ∀ a b, 0 ≤ a → a ≤ M → 0 ≤ b → b ≤ M → (0 ≤ (est k a b).1 ∧ (est k a b).1 ≤ M) ∧ (0 ≤ (est k a b).2 ∧ (est k a b).2 ≤ M) := by
  induction k with
  | zero => intro a b h1 h2 h3 h4; exact ⟨⟨h1, h2⟩, h3, h4⟩
  | succ k ih =>
    intro a b h1 h2 h3 h4
    by_cases e : b = 0
    · subst e
      exact ih 0 (a % 0) h3 h4 (by rw [Int.emod_zero]; exact h1) (by rw [Int.emod_zero]; exact h2)
    · have e1 := Int.emod_nonneg a e
      have e2 := Int.emod_lt_of_pos a (b := b) (by omega)
      exact ih b (a % b) h3 h4 e1 (by omega)
theorem est_end (k : Nat) : ∀ a b, 0 ≤ a → 0 ≤ b → b < (2 : Int) ^ k → ∃ N, N ≤ 2 * k ∧ (est N a b).2 = 0 ∧ ∀ j, j < N → (est j a b).2 ≠ 0 := by
  induction k with
  | zero =>
    intro a b h1 h2 h3
    exact ⟨0, by omega, by show b = 0; omega, fun j hj => absurd hj (Nat.not_lt_zero j)⟩
  | succ k ih =>
    intro a b h1 h2 h3
    by_cases e : b = 0
    · exact ⟨0, by omega, e, fun j hj => absurd hj (Nat.not_lt_zero j)⟩
    · have e1 := Int.emod_nonneg a e
      have e2 := Int.emod_lt_of_pos a (b := b) (by omega)
      by_cases f : a % b = 0
      · refine ⟨1, by omega, f, fun j hj => ?_⟩
        have : j = 0 := by omega
        subst this
        exact e
      · have f1 := Int.emod_nonneg b f
        have f2 := Int.emod_lt_of_pos b (b := a % b) (by omega)
        have f3 : 2 * (b % (a % b)) < b := by
          have g1 := Int.emod_add_mul_ediv b (a % b)
          have g2 : 1 ≤ b / (a % b) := (Int.le_ediv_iff_mul_le (by omega)).mpr (by omega)
          have g3 : a % b ≤ a % b * (b / (a % b)) := by
            have := Int.mul_le_mul_of_nonneg_left g2 (show 0 ≤ a % b by omega)
            omega
          omega
        have f4 : b % (a % b) < (2 : Int) ^ k := by
          have : (2 : Int) ^ (k + 1) = 2 * 2 ^ k := by rw [Int.pow_succ]; omega
          omega
        obtain ⟨N, n1, n2, n3⟩ := ih (a % b) (b % (a % b)) e1 f1 f4
        refine ⟨N + 2, by omega, n2, fun j hj => ?_⟩
        match j, hj with
        | 0, _ => exact e
        | 1, _ => exact f
        | j + 2, hj => exact n3 j (by omega)
theorem est_pos {a b : Int} {N : Nat} (ha : 0 ≤ a) (hb : 0 < b) (h : (est N a b).2 = 0) (h2 : ∀ j, j < N → (est j a b).2 ≠ 0) : 0 < (est N a b).1 := by
  rcases N with _ | N
  · have : b = 0 := h
    omega
  · rw [est_next]
    have := h2 N (by omega)
    have := (est_in (M := a + b) N a b ha (by omega) (by omega) (by omega)).2.1
    dsimp only
    omega
