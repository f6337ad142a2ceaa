-- what holds while the rounds run
def RI (g : Nat → Bool) (lim lea : Int) (tl : Nat → Int) (n : Int) (i : Nat) (W L : Nat → Int) : Prop := ∀ (c : Nat) (l : Int) (p : Nat), Lv g lim c l p →
  (W (sx c l p) = 0 ∨ W (sx c l p) = p + 1 ∨ W (sx c l p) = 2 - p) ∧ 0 ≤ L (sx c l p) ∧ (W (sx c l p) ≠ 0 → L (sx c l p) ≤ n) ∧
  (W (sx c l p) = p + 1 → A1 g lim lea tl W L c l p (L (sx c l p)) ∧ ∀ w x, w < 4 → mv g lim lea tl W L c l p w = some ((p : Int) + 1, x) → L (sx c l p) - 1 ≤ x) ∧
  (W (sx c l p) = 2 - p → A2 g lim lea tl W L c l p (L (sx c l p))) ∧
  (W (sx c l p) = 0 → ∀ j, 0 ≤ j → (j < n ∨ (j = n ∧ sx c l p < i)) → ¬ A1 g lim lea tl W L c l p j ∧ ¬ A2 g lim lea tl W L c l p j)
theorem mv_put {g : Nat → Bool} {lim lea : Int} {tl : Nat → Int} {W L W' L' : Nat → Int} {s : Nat} {x n : Int} (P : Put s x n W L W' L') (h0 : W s = 0) (c : Nat) (l : Int) (p w : Nat) : mv g lim lea tl W' L' c l p w = mv g lim lea tl W L c l p w ∨ ((∃ y, mv g lim lea tl W L c l p w = some (0, y)) ∧ mv g lim lea tl W' L' c l p w = some (x, n)) := by
  obtain ⟨P1, P2, P3⟩ := P
  unfold mv
  rcases nx g c w with _ | c'
  · exact Or.inl rfl
  · dsimp only
    by_cases q : vd lim (l + tl c' + lea) = 0
    · rw [if_pos q, if_pos q]
      by_cases e : sx c' (l + tl c' + lea) (1 - p) = s
      · rw [e, P1, P2, h0]
        exact Or.inr ⟨⟨_, rfl⟩, rfl⟩
      · obtain ⟨e1, e2⟩ := P3 _ e
        rw [e1, e2]
        exact Or.inl rfl
    · rw [if_neg q, if_neg q]
      exact Or.inl rfl
theorem mv_keep {g : Nat → Bool} {lim lea : Int} {tl : Nat → Int} {W L W' L' : Nat → Int} {s : Nat} {x n : Int} (P : Put s x n W L W' L') (h0 : W s = 0) {c : Nat} {l : Int} {p w : Nat} {a b : Int} (ha : a ≠ 0) (h : mv g lim lea tl W L c l p w = some (a, b)) : mv g lim lea tl W' L' c l p w = some (a, b) := by
  rcases mv_put P h0 c l p w with e | ⟨⟨y, e⟩, -⟩
  · rw [e]; exact h
  · rw [e] at h
    exact absurd (congrArg Prod.fst (Option.some.inj h)).symm ha
theorem A2.put {g : Nat → Bool} {lim lea : Int} {tl : Nat → Int} {W L W' L' : Nat → Int} {s : Nat} {x n : Int} (P : Put s x n W L W' L') (h0 : W s = 0) {c : Nat} {l : Int} {p : Nat} (hp : p < 2) {j : Int} (h : A2 g lim lea tl W L c l p j) : A2 g lim lea tl W' L' c l p j := by
  obtain ⟨h1, h2⟩ := h
  have e : ∀ w, w < 4 → mv g lim lea tl W' L' c l p w = mv g lim lea tl W L c l p w := by
    intro w hw
    rcases mv_put P h0 c l p w with e | ⟨⟨y, e⟩, -⟩
    · exact e
    · have := (h1 w _ _ hw e).1
      omega
  refine ⟨fun w x y hw hm => h1 w x y hw (by rw [← e w hw]; exact hm), ?_⟩
  rcases h2 with ⟨h3, h4⟩ | ⟨w, h3, h4⟩
  · exact Or.inl ⟨h3, fun w hw => by rw [e w hw]; exact h4 w hw⟩
  · exact Or.inr ⟨w, h3, by rw [e w h3]; exact h4⟩
theorem A2.unput {g : Nat → Bool} {lim lea : Int} {tl : Nat → Int} {W L W' L' : Nat → Int} {s : Nat} {x n : Int} (P : Put s x n W L W' L') (h0 : W s = 0) {c : Nat} {l : Int} {p : Nat} {j : Int} (hj : j ≤ n) (h : A2 g lim lea tl W' L' c l p j) : A2 g lim lea tl W L c l p j := by
  obtain ⟨h1, h2⟩ := h
  have e : ∀ w, w < 4 → mv g lim lea tl W' L' c l p w = mv g lim lea tl W L c l p w := by
    intro w hw
    rcases mv_put P h0 c l p w with e | ⟨-, e⟩
    · exact e
    · have := (h1 w _ _ hw e).2
      omega
  refine ⟨fun w x y hw hm => h1 w x y hw (by rw [e w hw]; exact hm), ?_⟩
  rcases h2 with ⟨h3, h4⟩ | ⟨w, h3, h4⟩
  · exact Or.inl ⟨h3, fun w hw => by rw [← e w hw]; exact h4 w hw⟩
  · exact Or.inr ⟨w, h3, by rw [← e w h3]; exact h4⟩
theorem A1.unput {g : Nat → Bool} {lim lea : Int} {tl : Nat → Int} {W L W' L' : Nat → Int} {s : Nat} {x n : Int} (P : Put s x n W L W' L') (h0 : W s = 0) {c : Nat} {l : Int} {p : Nat} {j : Int} (hj : j ≤ n) (h : A1 g lim lea tl W' L' c l p j) : A1 g lim lea tl W L c l p j := by
  obtain ⟨w, hw, h1⟩ := h
  rcases mv_put P h0 c l p w with e | ⟨-, e⟩
  · exact ⟨w, hw, by rw [← e]; exact h1⟩
  · rw [e] at h1
    have := congrArg Prod.snd (Option.some.inj h1)
    dsimp only at this
    omega
theorem mv_ge {g : Nat → Bool} {lim lea : Int} {tl : Nat → Int} {W L : Nat → Int} (hL : ∀ c l p, Lv g lim c l p → 0 ≤ L (sx c l p)) {c : Nat} {l : Int} {p w : Nat} {x y : Int} (h : mv g lim lea tl W L c l p w = some (x, y)) : 0 ≤ y := by
  unfold mv at h
  rcases hn : nx g c w with _ | c'
  · rw [hn] at h; cases h
  · rw [hn] at h
    dsimp only at h
    by_cases q : vd lim (l + tl c' + lea) = 0
    · rw [if_pos q] at h
      have e := congrArg Prod.snd (Option.some.inj h)
      have := hL _ _ _ (Lv.next (p := p) hn q)
      dsimp only at e
      omega
    · rw [if_neg q] at h
      have e := congrArg Prod.snd (Option.some.inj h)
      dsimp only at e
      omega
theorem RI.put {g : Nat → Bool} {lim lea : Int} {tl : Nat → Int} {n : Int} {W L W' L' : Nat → Int} (hg : ∀ c, g c = true → c < 20) (hlim : lim ≤ 9) {c p : Nat} {l x : Int} (hv : Lv g lim c l p) (I : RI g lim lea tl n (sx c l p) W L) (hn : 0 ≤ n) (h0 : W (sx c l p) = 0) (P : Put (sx c l p) x n W L W' L') (hx : (A1 g lim lea tl W L c l p n ∧ x = p + 1) ∨ (A2 g lim lea tl W L c l p n ∧ x = 2 - p)) : RI g lim lea tl n (sx c l p + 1) W' L' := by
  have hL0 : ∀ c l p, Lv g lim c l p → 0 ≤ L (sx c l p) := fun c l p hv => (I c l p hv).2.1
  intro c2 l2 p2 hv2
  obtain ⟨P1, P2, P3⟩ := id P
  have hp := hv.2.2.2
  have hp2 := hv2.2.2.2
  by_cases e : sx c2 l2 p2 = sx c l p
  · obtain ⟨rfl, rfl, rfl⟩ := sx_inj (hg c2 hv2.1) (by have := hv2.2.1; omega) (by have := hv2.2.2.1; omega) hv2.2.2.2 (hg c hv.1) (by have := hv.2.1; omega) (by have := hv.2.2.1; omega) hv.2.2.2 e
    obtain ⟨-, -, -, -, -, i6⟩ := I c2 l2 p2 hv2
    rw [P1, P2]
    refine ⟨by omega, hn, fun _ => by omega, fun q => ?_, fun q => ?_, fun q => by omega⟩
    · rcases hx with ⟨⟨w, w1, w2⟩, -⟩ | ⟨-, hx⟩
      · refine ⟨⟨w, w1, mv_keep P h0 (by omega) w2⟩, fun u y u1 u2 => ?_⟩
        rcases mv_put P h0 c2 l2 p2 u with e | ⟨-, e⟩
        · rw [e] at u2
          have hy := mv_ge hL0 u2
          by_cases z : y + 1 < n
          · exact absurd ⟨u, u1, by rw [u2, show y + 1 - 1 = y by omega]⟩ (i6 h0 (y + 1) (by omega) (Or.inl z)).1
          · omega
        · rw [e] at u2
          have := congrArg Prod.snd (Option.some.inj u2)
          dsimp only at this
          omega
      · omega
    · rcases hx with ⟨-, hx⟩ | ⟨hx, -⟩
      · omega
      · exact hx.put P h0 hp
  · obtain ⟨e1, e2⟩ := P3 _ e
    obtain ⟨i1', i2', i3', i4', i5', i6'⟩ := I c2 l2 p2 hv2
    rw [e1, e2]
    refine ⟨i1', i2', i3', fun q => ?_, fun q => (i5' q).put P h0 hp2, fun q j j0 j1 => ?_⟩
    · obtain ⟨⟨w, w1, w2⟩, a2⟩ := i4' q
      refine ⟨⟨w, w1, mv_keep P h0 (by omega) w2⟩, fun u y u1 u2 => ?_⟩
      rcases mv_put P h0 c2 l2 p2 u with e | ⟨-, e⟩
      · rw [e] at u2
        exact a2 u y u1 u2
      · rw [e] at u2
        have := congrArg Prod.snd (Option.some.inj u2)
        dsimp only at this
        have := i3' (by omega)
        omega
    · have jn : j ≤ n := by omega
      obtain ⟨a1, a2⟩ := i6' q j j0 (by omega)
      exact ⟨fun h => a1 (h.unput P h0 jn), fun h => a2 (h.unput P h0 jn)⟩
theorem RI.skip {g : Nat → Bool} {lim lea : Int} {tl : Nat → Int} {n : Int} {i : Nat} {W L : Nat → Int} (I : RI g lim lea tl n i W L) (h : ∀ c l p, Lv g lim c l p → sx c l p = i → W i = 0 → ¬ A1 g lim lea tl W L c l p n ∧ ¬ A2 g lim lea tl W L c l p n) : RI g lim lea tl n (i + 1) W L := by
  intro c l p hv
  obtain ⟨i1, i2, i3, i4, i5, i6⟩ := I c l p hv
  refine ⟨i1, i2, i3, i4, i5, fun q j j0 j1 => ?_⟩
  by_cases e : sx c l p = i
  · by_cases z : j < n
    · exact i6 q j j0 (Or.inl z)
    · have : j = n := by omega
      rw [this]
      exact h c l p hv e (by rw [← e]; exact q)
  · exact i6 q j j0 (by omega)
theorem RI.next {g : Nat → Bool} {lim lea : Int} {tl : Nat → Int} {n : Int} {W L : Nat → Int} (hg : ∀ c, g c = true → c < 20) (hlim : lim ≤ 9) (I : RI g lim lea tl n 680 W L) : RI g lim lea tl (n + 1) 0 W L := by
  intro c l p hv
  obtain ⟨i1, i2, i3, i4, i5, i6⟩ := I c l p hv
  have e := (sx_eq (l := l) (hg c hv.1) (by have := hv.2.1; omega) (by have := hv.2.2.1; omega) hv.2.2.2).2
  refine ⟨i1, i2, fun q => by have := i3 q; omega, i4, i5, fun q j j0 j1 => i6 q j j0 (by omega)⟩
theorem RI.LC {g : Nat → Bool} {lim lea : Int} {tl : Nat → Int} {n : Int} {W L : Nat → Int} (hg : ∀ c, g c = true → c < 20) (hlim : lim ≤ 9) (hn : 0 ≤ n) (I0 : RI g lim lea tl n 680 W L) (I : RI g lim lea tl (n + 1) 680 W L) : LC g lim lea tl W L := by
  have hL0 : ∀ c l p, Lv g lim c l p → 0 ≤ L (sx c l p) := fun c l p hv => (I c l p hv).2.1
  have top : ∀ c l p w x y, Lv g lim c l p → mv g lim lea tl W L c l p w = some (x, y) → x ≠ 0 → y ≤ n := by
    intro c l p w x y hv h hx
    unfold mv at h
    rcases hn : nx g c w with _ | c'
    · rw [hn] at h; cases h
    · rw [hn] at h
      dsimp only at h
      by_cases q : vd lim (l + tl c' + lea) = 0
      · rw [if_pos q] at h
        have e1 := congrArg Prod.fst (Option.some.inj h)
        have e2 := congrArg Prod.snd (Option.some.inj h)
        dsimp only at e1 e2
        have := (I0 _ _ _ (Lv.next (p := p) hn q)).2.2.1 (by omega)
        omega
      · rw [if_neg q] at h
        have e := congrArg Prod.snd (Option.some.inj h)
        dsimp only at e
        omega
  intro c l p hv
  obtain ⟨i1, i2, i3, i4, i5, i6⟩ := I c l p hv
  have hp := hv.2.2.2
  have e := (sx_eq (l := l) (hg c hv.1) (by have := hv.2.1; omega) (by have := hv.2.2.1; omega) hv.2.2.2).2
  refine ⟨i1, i2, i4, i5, fun q => ⟨fun w x w1 w2 => ?_, ?_⟩⟩
  · have a := top c l p w _ _ hv w2 (by omega)
    have b := mv_ge hL0 w2
    exact (i6 q (x + 1) (by omega) (by omega)).1 ⟨w, w1, by rw [w2, show x + 1 - 1 = x by omega]⟩
  · apply Classical.byContradiction
    intro hc
    have all : ∀ w x y, w < 4 → mv g lim lea tl W L c l p w = some (x, y) → x = 2 - (p : Int) ∧ 0 ≤ y ∧ y ≤ n := by
      intro w x y w1 w2
      have z : x = 2 - (p : Int) := Classical.byContradiction fun z => hc ⟨w, x, y, w1, w2, z⟩
      exact ⟨z, mv_ge hL0 w2, top c l p w x y hv w2 (by omega)⟩
    have up : ∀ k : Nat, (k : Int) ≤ n + 1 → (∀ w x y, w < 4 → mv g lim lea tl W L c l p w = some (x, y) → y ≤ (k : Int) - 1) → False := by
      intro k
      induction k with
      | zero =>
        intro _ h
        refine (i6 q 0 (by omega) (by omega)).2 ⟨fun w x y w1 w2 => ⟨(all w x y w1 w2).1, h w x y w1 w2⟩, Or.inl ⟨rfl, fun w w1 => ?_⟩⟩
        rcases hm : mv g lim lea tl W L c l p w with _ | ⟨x, y⟩
        · rfl
        · have a := all w x y w1 hm
          have b := h w x y w1 hm
          omega
      | succ k ih =>
        intro hk h
        by_cases z : ∃ w, w < 4 ∧ mv g lim lea tl W L c l p w = some (2 - (p : Int), ((k + 1 : Nat) : Int) - 1)
        · exact (i6 q ((k + 1 : Nat) : Int) (by omega) (by omega)).2 ⟨fun w x y w1 w2 => ⟨(all w x y w1 w2).1, h w x y w1 w2⟩, Or.inr z⟩
        · refine ih (by omega) fun w x y w1 w2 => ?_
          have a := all w x y w1 w2
          have b := h w x y w1 w2
          by_cases z2 : y = ((k + 1 : Nat) : Int) - 1
          · exact absurd ⟨w, w1, by rw [w2, a.1, z2]⟩ z
          · omega
    exact up (n + 1).toNat (by omega) fun w x y w1 w2 => by have := all w x y w1 w2; omega
