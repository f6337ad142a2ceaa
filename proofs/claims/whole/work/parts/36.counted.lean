-- the class's contest on numbered states: T targets, R verdicts of pushes that end, W winners, L lengths, Q queue, Ct pushes counted
def mvA (T : Nat → Nat → Option Nat) (R : Nat → Nat → Nat) (W L : Nat → Int) (s w : Nat) : Option (Int × Int) := match T s w with
  | some t => some (W t, L t)
  | none => if R s w = 0 then none else some ((R s w : Int), 0)
def unC (T : Nat → Nat → Option Nat) (Ct : Nat → Nat → Bool) (s w : Nat) : Nat := match T s w with
  | some t => if Ct t s = true then 0 else 1
  | none => 0
def B1 (T : Nat → Nat → Option Nat) (R : Nat → Nat → Nat) (W L : Nat → Int) (s : Nat) (n : Int) : Prop := (∃ w, w < 4 ∧ mvA T R W L s w = some (((s % 2 : Nat) : Int) + 1, n - 1)) ∧ ∀ w x, w < 4 → mvA T R W L s w = some (((s % 2 : Nat) : Int) + 1, x) → n - 1 ≤ x
def B2 (T : Nat → Nat → Option Nat) (R : Nat → Nat → Nat) (W L : Nat → Int) (s : Nat) (n : Int) : Prop := (∀ w x y, w < 4 → mvA T R W L s w = some (x, y) → x = 2 - ((s % 2 : Nat) : Int) ∧ y ≤ n - 1) ∧ ((n = 0 ∧ ∀ w, w < 4 → mvA T R W L s w = none) ∨ ∃ w, w < 4 ∧ mvA T R W L s w = some (2 - ((s % 2 : Nat) : Int), n - 1))
def L6 (T : Nat → Nat → Option Nat) (R : Nat → Nat → Nat) (W : Nat → Int) (Ct : Nat → Nat → Bool) (s : Nat) : Prop := (∀ w, w < 4 → R s w ≠ s % 2 + 1) ∧ (∀ w t, w < 4 → T s w = some t → Ct t s = true → W t = 2 - ((s % 2 : Nat) : Int)) ∧ 0 < sm (unC T Ct s) 4
def LI (T : Nat → Nat → Option Nat) (R : Nat → Nat → Nat) (i : Nat) (W L : Nat → Int) (Ct : Nat → Nat → Bool) (s : Nat) : Prop := (W s = 0 ∨ W s = ((s % 2 : Nat) : Int) + 1 ∨ W s = 2 - ((s % 2 : Nat) : Int)) ∧ (i ≤ s → W s = 0) ∧ 0 ≤ L s ∧ (W s = ((s % 2 : Nat) : Int) + 1 → B1 T R W L s (L s)) ∧ (W s = 2 - ((s % 2 : Nat) : Int) → B2 T R W L s (L s)) ∧ (s < i → W s = 0 → L6 T R W Ct s)
theorem mvA_put {T : Nat → Nat → Option Nat} {R : Nat → Nat → Nat} {W L W' L' : Nat → Int} {s : Nat} {x n : Int} (P : Put s x n W L W' L') (h0 : W s = 0) (u w : Nat) : mvA T R W' L' u w = mvA T R W L u w ∨ ((∃ y, mvA T R W L u w = some (0, y)) ∧ mvA T R W' L' u w = some (x, n)) := by
  obtain ⟨P1, P2, P3⟩ := P
  unfold mvA
  rcases T u w with _ | t
  · exact Or.inl rfl
  · dsimp only
    by_cases e : t = s
    · rw [e, P1, P2, h0]
      exact Or.inr ⟨⟨_, rfl⟩, rfl⟩
    · obtain ⟨e1, e2⟩ := P3 _ e
      rw [e1, e2]
      exact Or.inl rfl
theorem mvA_keep {T : Nat → Nat → Option Nat} {R : Nat → Nat → Nat} {W L W' L' : Nat → Int} {s : Nat} {x n : Int} (P : Put s x n W L W' L') (h0 : W s = 0) {u w : Nat} {a b : Int} (ha : a ≠ 0) (h : mvA T R W L u w = some (a, b)) : mvA T R W' L' u w = some (a, b) := by
  rcases mvA_put (T := T) (R := R) P h0 u w with e | ⟨⟨y, e⟩, -⟩
  · rw [e]; exact h
  · rw [e] at h
    exact absurd (congrArg Prod.fst (Option.some.inj h)).symm ha
theorem B1.put {T : Nat → Nat → Option Nat} {R : Nat → Nat → Nat} {W L W' L' : Nat → Int} {s : Nat} {x n : Int} (P : Put s x n W L W' L') (h0 : W s = 0) {u : Nat} {m : Int} (hm : m - 1 ≤ n) (h : B1 T R W L u m) : B1 T R W' L' u m := by
  obtain ⟨⟨w, w1, w2⟩, h2⟩ := h
  refine ⟨⟨w, w1, mvA_keep P h0 (by omega) w2⟩, fun v y v1 v2 => ?_⟩
  rcases mvA_put (T := T) (R := R) P h0 u v with e | ⟨-, e⟩
  · rw [e] at v2
    exact h2 v y v1 v2
  · rw [e] at v2
    have := congrArg Prod.snd (Option.some.inj v2)
    dsimp only at this
    omega
theorem B2.put {T : Nat → Nat → Option Nat} {R : Nat → Nat → Nat} {W L W' L' : Nat → Int} {s : Nat} {x n : Int} (P : Put s x n W L W' L') (h0 : W s = 0) {u : Nat} {m : Int} (h : B2 T R W L u m) : B2 T R W' L' u m := by
  obtain ⟨h1, h2⟩ := h
  have e : ∀ w, w < 4 → mvA T R W' L' u w = mvA T R W L u w := by
    intro w hw
    rcases mvA_put (T := T) (R := R) P h0 u w with e | ⟨⟨y, e⟩, -⟩
    · exact e
    · have := (h1 w _ _ hw e).1
      omega
  refine ⟨fun w x y hw hm => h1 w x y hw (by rw [← e w hw]; exact hm), ?_⟩
  rcases h2 with ⟨h3, h4⟩ | ⟨w, h3, h4⟩
  · exact Or.inl ⟨h3, fun w hw => by rw [e w hw]; exact h4 w hw⟩
  · exact Or.inr ⟨w, h3, by rw [e w h3]; exact h4⟩
theorem LI.settle {T : Nat → Nat → Option Nat} {R : Nat → Nat → Nat} {V : Nat → Prop} {i i' : Nat} {W L W' L' : Nat → Int} {Ct : Nat → Nat → Bool} {s : Nat} {x n : Int} (I : ∀ u, V u → LI T R i W L Ct u) (hN : ∀ u, V u → W u ≠ 0 → L u - 1 ≤ n) (P : Put s x n W L W' L') (h0 : W s = 0) (hn : 0 ≤ n) (ii : i ≤ i') (hi : s < i') (hi2 : ∀ u, V u → i ≤ u → u < i' → u = s) (hx : (x = ((s % 2 : Nat) : Int) + 1 ∧ B1 T R W L s n) ∨ (x = 2 - ((s % 2 : Nat) : Int) ∧ B2 T R W L s n)) : ∀ u, V u → LI T R i' W' L' Ct u := by
  intro u hu
  obtain ⟨P1, P2, P3⟩ := id P
  by_cases e : u = s
  · subst e
    unfold LI
    rw [P1, P2]
    refine ⟨by omega, fun _ => by omega, hn, fun q => ?_, fun q => ?_, fun _ q => by omega⟩
    · rcases hx with ⟨-, hx⟩ | ⟨hx, -⟩
      · exact hx.put P h0 (by omega)
      · omega
    · rcases hx with ⟨hx, -⟩ | ⟨-, hx⟩
      · omega
      · exact hx.put P h0
  · obtain ⟨e1, e2⟩ := P3 _ e
    obtain ⟨i1', i2', i3', i4', i5', i6'⟩ := I u hu
    unfold LI
    rw [e1, e2]
    refine ⟨i1', fun _ => i2' (by omega), i3', fun q => (i4' q).put P h0 (hN u hu (by omega)), fun q => (i5' q).put P h0, fun q1 q2 => ?_⟩
    by_cases q3 : u < i
    · obtain ⟨a1, a2, a3⟩ := i6' q3 q2
      refine ⟨a1, fun w t w1 w2 w3 => ?_, a3⟩
      have := a2 w t w1 w2 w3
      rw [(P3 t (fun z => by rw [z] at this; omega)).1]
      exact this
    · exact absurd (hi2 u hu (by omega) q1) e
theorem LI.skip {T : Nat → Nat → Option Nat} {R : Nat → Nat → Nat} {V : Nat → Prop} {i i' : Nat} {W L : Nat → Int} {Ct : Nat → Nat → Bool} (I : ∀ u, V u → LI T R i W L Ct u) (ii : i ≤ i') (h : ∀ u, V u → i ≤ u → u < i' → L6 T R W Ct u) : ∀ u, V u → LI T R i' W L Ct u := by
  intro u hu
  obtain ⟨i1', i2', i3', i4', i5', i6'⟩ := I u hu
  refine ⟨i1', fun _ => i2' (by omega), i3', i4', i5', fun q1 q2 => ?_⟩
  by_cases q3 : u < i
  · exact i6' q3 q2
  · exact h u hu (by omega) q1
def mk (Ct : Nat → Nat → Bool) (t s : Nat) : Nat → Nat → Bool := fun t' u => (decide (t' = t) && decide (u = s)) || Ct t' u
theorem mk_iff (Ct : Nat → Nat → Bool) (t s t' u : Nat) : mk Ct t s t' u = true ↔ (t' = t ∧ u = s) ∨ Ct t' u = true := by
  unfold mk
  rw [Bool.or_eq_true, Bool.and_eq_true, decide_eq_true_iff, decide_eq_true_iff]
theorem mk_ne {Ct : Nat → Nat → Bool} {t s u : Nat} (h : u ≠ s) (t' : Nat) : mk Ct t s t' u = Ct t' u := by
  unfold mk
  rw [show decide (u = s) = false from decide_eq_false h, Bool.and_false, Bool.false_or]
theorem unC_ne {T : Nat → Nat → Option Nat} {Ct : Nat → Nat → Bool} {t s u : Nat} (h : u ≠ s) (w : Nat) : unC T (mk Ct t s) u w = unC T Ct u w := by
  unfold unC
  rcases T u w with _ | t'
  · rfl
  · dsimp only
    rw [mk_ne h]
theorem L6.ne {T : Nat → Nat → Option Nat} {R : Nat → Nat → Nat} {W : Nat → Int} {Ct : Nat → Nat → Bool} {t s u : Nat} (h : u ≠ s) (I : L6 T R W Ct u) : L6 T R W (mk Ct t s) u := by
  obtain ⟨a1, a2, a3⟩ := I
  refine ⟨a1, fun w t' w1 w2 w3 => a2 w t' w1 w2 (by rw [← w3, mk_ne h]), ?_⟩
  rw [show unC T (mk Ct t s) u = unC T Ct u from funext fun w => unC_ne h w]
  exact a3
theorem LI.mark {T : Nat → Nat → Option Nat} {R : Nat → Nat → Nat} {V : Nat → Prop} {i : Nat} {W L : Nat → Int} {Ct : Nat → Nat → Bool} {t s : Nat} (I : ∀ u, V u → LI T R i W L Ct u) (h : W s = 0 → L6 T R W (mk Ct t s) s) : ∀ u, V u → LI T R i W L (mk Ct t s) u := by
  intro u hu
  obtain ⟨i1', i2', i3', i4', i5', i6'⟩ := I u hu
  refine ⟨i1', i2', i3', i4', i5', fun q1 q2 => ?_⟩
  by_cases e : u = s
  · rw [e] at q2 ⊢
    exact h q2
  · exact (i6' q1 q2).ne e
theorem sm_one {f f' : Nat → Nat} {v : Nat} (hv : v < 4) (h1 : f v = f' v + 1) (h2 : ∀ w, w ≠ v → f w = f' w) : sm f 4 = sm f' 4 + 1 := by
  unfold sm sm sm sm sm
  rcases (show v = 0 ∨ v = 1 ∨ v = 2 ∨ v = 3 by omega) with rfl | rfl | rfl | rfl
  · rw [h1, h2 1 (by decide), h2 2 (by decide), h2 3 (by decide)]; omega
  · rw [h1, h2 0 (by decide), h2 2 (by decide), h2 3 (by decide)]; omega
  · rw [h1, h2 1 (by decide), h2 0 (by decide), h2 3 (by decide)]; omega
  · rw [h1, h2 1 (by decide), h2 2 (by decide), h2 0 (by decide)]; omega
theorem sm_pos {f : Nat → Nat} (h : 0 < sm f 4) : ∃ w, w < 4 ∧ 0 < f w := by
  unfold sm sm sm sm sm at h
  by_cases q0 : 0 < f 0
  · exact ⟨0, by decide, q0⟩
  by_cases q1 : 0 < f 1
  · exact ⟨1, by decide, q1⟩
  by_cases q2 : 0 < f 2
  · exact ⟨2, by decide, q2⟩
  exact ⟨3, by decide, by omega⟩
theorem sm_has {f : Nat → Nat} {w : Nat} (hw : w < 4) : f w ≤ sm f 4 := by
  unfold sm sm sm sm sm
  rcases (show w = 0 ∨ w = 1 ∨ w = 2 ∨ w = 3 by omega) with rfl | rfl | rfl | rfl <;> omega
theorem unC_mk {T : Nat → Nat → Option Nat} {Ct : Nat → Nat → Bool} {t s v : Nat} (hI : ∀ w u t, w < 4 → u < 4 → T s w = some t → T s u = some t → w = u) (hv : v < 4) (h1 : T s v = some t) (h2 : Ct t s = false) : sm (unC T Ct s) 4 = sm (unC T (mk Ct t s) s) 4 + 1 := by
  have a1 : unC T Ct s v = unC T (mk Ct t s) s v + 1 := by
    unfold unC
    rw [h1]
    dsimp only
    rw [h2, if_neg (by decide), if_pos ((mk_iff ..).mpr (Or.inl ⟨rfl, rfl⟩))]
  have a2 : ∀ w, w < 4 → w ≠ v → unC T Ct s w = unC T (mk Ct t s) s w := by
    intro w w4 hw
    unfold unC
    rcases ht : T s w with _ | t'
    · rfl
    · dsimp only
      have ne : t' ≠ t := fun z => hw (hI w v t w4 hv (by rw [ht, z]) h1)
      have : mk Ct t s t' s = Ct t' s := by
        unfold mk
        rw [show decide (t' = t) = false from decide_eq_false ne, Bool.false_and, Bool.false_or]
      rw [this]
  unfold sm sm sm sm sm
  rcases (show v = 0 ∨ v = 1 ∨ v = 2 ∨ v = 3 by omega) with rfl | rfl | rfl | rfl
  · rw [a1, a2 1 (by decide) (by decide), a2 2 (by decide) (by decide), a2 3 (by decide) (by decide)]; omega
  · rw [a1, a2 0 (by decide) (by decide), a2 2 (by decide) (by decide), a2 3 (by decide) (by decide)]; omega
  · rw [a1, a2 1 (by decide) (by decide), a2 0 (by decide) (by decide), a2 3 (by decide) (by decide)]; omega
  · rw [a1, a2 1 (by decide) (by decide), a2 2 (by decide) (by decide), a2 0 (by decide) (by decide)]; omega
/-- a state whose last uncounted push is about to be counted: all others are counted -/
theorem unC_last {T : Nat → Nat → Option Nat} {Ct : Nat → Nat → Bool} {s t v : Nat} (hv : v < 4) (h1 : T s v = some t) (h2 : Ct t s = false) (h : sm (unC T Ct s) 4 = 1) {w t' : Nat} (hw : w < 4) (hne : w ≠ v) (ht : T s w = some t') : Ct t' s = true := by
  have a1 : unC T Ct s v = 1 := by
    unfold unC
    rw [h1]
    dsimp only
    rw [h2, if_neg (by decide)]
  have a2 : unC T Ct s w = 0 := by
    unfold sm sm sm sm sm at h
    rcases (show v = 0 ∨ v = 1 ∨ v = 2 ∨ v = 3 by omega) with rfl | rfl | rfl | rfl <;> rcases (show w = 0 ∨ w = 1 ∨ w = 2 ∨ w = 3 by omega) with rfl | rfl | rfl | rfl <;> omega
  unfold unC at a2
  rw [ht] at a2
  dsimp only at a2
  by_cases q : Ct t' s = true
  · exact q
  · rw [if_neg q] at a2; omega
