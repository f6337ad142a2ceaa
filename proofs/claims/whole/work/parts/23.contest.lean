-- the game, as equations on winners and lengths
def sx (c : Nat) (l : Int) (p : Nat) : Nat := (2 * (17 * (c : Int) + l + 8) + p).toNat
def Lv (g : Nat → Bool) (lim : Int) (c : Nat) (l : Int) (p : Nat) : Prop := g c = true ∧ -lim < l ∧ l < lim ∧ p < 2
/-- what a push from cell c at lean l by side p comes to: winner and length behind it -/
def mv (g : Nat → Bool) (lim lea : Int) (tl : Nat → Int) (W L : Nat → Int) (c : Nat) (l : Int) (p w : Nat) : Option (Int × Int) := match nx g c w with
  | none => none
  | some c' => if vd lim (l + tl c' + lea) = 0 then some (W (sx c' (l + tl c' + lea) (1 - p)), L (sx c' (l + tl c' + lea) (1 - p))) else some (vd lim (l + tl c' + lea), 0)
def LC (g : Nat → Bool) (lim lea : Int) (tl : Nat → Int) (W L : Nat → Int) : Prop := ∀ (c : Nat) (l : Int) (p : Nat), Lv g lim c l p →
  (W (sx c l p) = 0 ∨ W (sx c l p) = p + 1 ∨ W (sx c l p) = 2 - p) ∧ 0 ≤ L (sx c l p) ∧
  (W (sx c l p) = p + 1 → (∃ w, w < 4 ∧ mv g lim lea tl W L c l p w = some ((p : Int) + 1, L (sx c l p) - 1)) ∧ ∀ w x, w < 4 → mv g lim lea tl W L c l p w = some ((p : Int) + 1, x) → L (sx c l p) - 1 ≤ x) ∧
  (W (sx c l p) = 2 - p → (∀ w x y, w < 4 → mv g lim lea tl W L c l p w = some (x, y) → x = 2 - (p : Int) ∧ y ≤ L (sx c l p) - 1) ∧ ((L (sx c l p) = 0 ∧ ∀ w, w < 4 → mv g lim lea tl W L c l p w = none) ∨ ∃ w, w < 4 ∧ mv g lim lea tl W L c l p w = some (2 - (p : Int), L (sx c l p) - 1))) ∧
  (W (sx c l p) = 0 → (∀ w x, w < 4 → mv g lim lea tl W L c l p w ≠ some ((p : Int) + 1, x)) ∧ ∃ w x y, w < 4 ∧ mv g lim lea tl W L c l p w = some (x, y) ∧ x ≠ 2 - (p : Int))
theorem Lv.next {g : Nat → Bool} {lim : Int} {c c' : Nat} {l' : Int} {p w : Nat} (hx : nx g c w = some c') (h : vd lim l' = 0) : Lv g lim c' l' (1 - p) := by
  obtain ⟨h1, -⟩ := nx_ok hx
  obtain ⟨h2, h3⟩ := vd_0.mp h
  exact ⟨h1, h2, h3, by omega⟩
theorem LC.le {g : Nat → Bool} {lim lea : Int} {tl : Nat → Int} {W L W' L' : Nat → Int} (n : Int) (A : ∀ c l p, Lv g lim c l p → W (sx c l p) ≠ 0 → L (sx c l p) < n → W' (sx c l p) = W (sx c l p) ∧ L' (sx c l p) = L (sx c l p)) {c : Nat} {l : Int} {p w : Nat} {x y : Int} (hx : x ≠ 0) (hy : y < n) (h : mv g lim lea tl W L c l p w = some (x, y)) : mv g lim lea tl W' L' c l p w = some (x, y) := by
  unfold mv at h ⊢
  rcases hn : nx g c w with _ | c'
  · rw [hn] at h; cases h
  · rw [hn] at h
    dsimp only at h ⊢
    by_cases q : vd lim (l + tl c' + lea) = 0
    · rw [if_pos q] at h ⊢
      have e := Option.some.inj h
      have e1 : W (sx c' (l + tl c' + lea) (1 - p)) = x := congrArg Prod.fst e
      have e2 : L (sx c' (l + tl c' + lea) (1 - p)) = y := congrArg Prod.snd e
      obtain ⟨a1, a2⟩ := A c' (l + tl c' + lea) (1 - p) (Lv.next hn q) (by rw [e1]; exact hx) (by rw [e2]; exact hy)
      rw [a1, a2, e1, e2]
    · rw [if_neg q] at h ⊢
      exact h
theorem mv_none {g : Nat → Bool} {lim lea : Int} {tl : Nat → Int} {W L W' L' : Nat → Int} {c : Nat} {l : Int} {p w : Nat} (h : mv g lim lea tl W L c l p w = none) : mv g lim lea tl W' L' c l p w = none := by
  unfold mv at h ⊢
  rcases hn : nx g c w with _ | c'
  · rfl
  · rw [hn] at h
    dsimp only at h
    by_cases q : vd lim (l + tl c' + lea) = 0
    · rw [if_pos q] at h; cases h
    · rw [if_neg q] at h; cases h
theorem mv_some {g : Nat → Bool} {lim lea : Int} {tl : Nat → Int} {W L W' L' : Nat → Int} {c : Nat} {l : Int} {p w : Nat} {x : Int × Int} (h : mv g lim lea tl W L c l p w = some x) : ∃ y, mv g lim lea tl W' L' c l p w = some y := by
  rcases hy : mv g lim lea tl W' L' c l p w with _ | y
  · rw [mv_none hy] at h; cases h
  · exact ⟨y, rfl⟩
theorem LC.step {g : Nat → Bool} {lim lea : Int} {tl : Nat → Int} {W L W' L' : Nat → Int} (h : LC g lim lea tl W L) (h' : LC g lim lea tl W' L') (n : Int) (A : ∀ c l p, Lv g lim c l p → W (sx c l p) ≠ 0 → L (sx c l p) < n → W' (sx c l p) = W (sx c l p) ∧ L' (sx c l p) = L (sx c l p)) (B : ∀ c l p, Lv g lim c l p → W' (sx c l p) ≠ 0 → L' (sx c l p) < n → W (sx c l p) = W' (sx c l p) ∧ L (sx c l p) = L' (sx c l p)) (c : Nat) (l : Int) (p : Nat) (hv : Lv g lim c l p) (hW : W (sx c l p) ≠ 0) (hL : L (sx c l p) = n) : W' (sx c l p) = W (sx c l p) ∧ L' (sx c l p) = L (sx c l p) := by
  obtain ⟨a1, a2, a3, a4, a5⟩ := h c l p hv
  obtain ⟨b1, b2, b3, b4, b5⟩ := h' c l p hv
  have hp : p < 2 := hv.2.2.2
  rcases a1 with q | q | q
  · exact absurd q hW
  · obtain ⟨⟨w, w1, w2⟩, -⟩ := a3 q
    have w3 := LC.le n A (by omega) (by omega) w2
    have r : W' (sx c l p) = p + 1 := by
      rcases b1 with r | r | r
      · exact absurd w3 ((b5 r).1 w _ w1)
      · exact r
      · have := (b4 r).1 w _ _ w1 w3
        omega
    refine ⟨by omega, ?_⟩
    have r2 := (b3 r).2 w _ w1 w3
    by_cases r3 : L' (sx c l p) < n
    · obtain ⟨-, r4⟩ := B c l p hv (by omega) r3
      omega
    · omega
  · obtain ⟨q1, q2⟩ := a4 q
    have r : W' (sx c l p) = 2 - p := by
      rcases b1 with r | r | r
      · obtain ⟨-, w, x, y, w1, w2, w3⟩ := b5 r
        obtain ⟨⟨x2, y2⟩, w4⟩ := mv_some (W' := W) (L' := L) w2
        obtain ⟨w5, w6⟩ := q1 w x2 y2 w1 w4
        have w7 := LC.le n A (by omega) (by omega) w4
        rw [w2] at w7
        have := congrArg Prod.fst (Option.some.inj w7)
        dsimp only at this
        omega
      · obtain ⟨⟨w, w1, w2⟩, -⟩ := b3 r
        obtain ⟨⟨x2, y2⟩, w4⟩ := mv_some (W' := W) (L' := L) w2
        obtain ⟨w5, w6⟩ := q1 w x2 y2 w1 w4
        have w7 := LC.le n A (by omega) (by omega) w4
        rw [w2] at w7
        have := congrArg Prod.fst (Option.some.inj w7)
        dsimp only at this
        omega
      · exact r
    refine ⟨by omega, ?_⟩
    obtain ⟨r1, r2⟩ := b4 r
    rcases q2 with ⟨q3, q4⟩ | ⟨w, w1, w2⟩
    · rcases r2 with ⟨r3, r4⟩ | ⟨w, w1, w2⟩
      · omega
      · rw [mv_none (q4 w w1)] at w2; cases w2
    · have w3 := LC.le n A (by omega) (by omega) w2
      have w4 := (r1 w _ _ w1 w3).2
      rcases r2 with ⟨r3, r4⟩ | ⟨u, u1, u2⟩
      · rw [r4 w w1] at w3; cases w3
      · obtain ⟨⟨x2, y2⟩, u3⟩ := mv_some (W' := W) (L' := L) u2
        obtain ⟨u4, u5⟩ := q1 u x2 y2 u1 u3
        have u6 := LC.le n A (by omega) (by omega) u3
        rw [u2] at u6
        have := congrArg Prod.snd (Option.some.inj u6)
        dsimp only at this
        omega
theorem LC.uniq {g : Nat → Bool} {lim lea : Int} {tl : Nat → Int} {W L W' L' : Nat → Int} (h : LC g lim lea tl W L) (h' : LC g lim lea tl W' L') : ∀ c l p, Lv g lim c l p → W' (sx c l p) = W (sx c l p) ∧ (W (sx c l p) ≠ 0 → L' (sx c l p) = L (sx c l p)) := by
  have key : ∀ n : Nat, (∀ c l p, Lv g lim c l p → W (sx c l p) ≠ 0 → L (sx c l p) < n → W' (sx c l p) = W (sx c l p) ∧ L' (sx c l p) = L (sx c l p)) ∧ (∀ c l p, Lv g lim c l p → W' (sx c l p) ≠ 0 → L' (sx c l p) < n → W (sx c l p) = W' (sx c l p) ∧ L (sx c l p) = L' (sx c l p)) := by
    intro n
    induction n with
    | zero => exact ⟨fun c l p hv _ hl => by have := (h c l p hv).2.1; omega, fun c l p hv _ hl => by have := (h' c l p hv).2.1; omega⟩
    | succ n ih =>
      obtain ⟨A, B⟩ := ih
      refine ⟨fun c l p hv hW hl => ?_, fun c l p hv hW hl => ?_⟩
      · by_cases q : L (sx c l p) < n
        · exact A c l p hv hW q
        · exact LC.step h h' n A B c l p hv hW (by omega)
      · by_cases q : L' (sx c l p) < n
        · exact B c l p hv hW q
        · exact LC.step h' h n B A c l p hv hW (by omega)
  intro c l p hv
  by_cases q : W (sx c l p) = 0
  · by_cases q' : W' (sx c l p) = 0
    · exact ⟨by omega, fun r => absurd q r⟩
    · have := (key (L' (sx c l p) + 1).toNat).2 c l p hv q' (by have := (h' c l p hv).2.1; omega)
      omega
  · obtain ⟨r1, r2⟩ := (key (L (sx c l p) + 1).toNat).1 c l p hv q (by have := (h c l p hv).2.1; omega)
    exact ⟨r1, fun _ => r2⟩
