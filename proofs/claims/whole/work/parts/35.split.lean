-- pushes split into those that end and those that go on
def tgt (g : Nat → Bool) (lim lea : Int) (tl : Nat → Int) (c : Nat) (l : Int) (p w : Nat) : Option Nat := match nx g c w with
  | none => none
  | some c' => if vd lim (l + tl c' + lea) = 0 then some (sx c' (l + tl c' + lea) (1 - p)) else none
def trm (g : Nat → Bool) (lim lea : Int) (tl : Nat → Int) (c : Nat) (l : Int) (w : Nat) : Option Int := match nx g c w with
  | none => none
  | some c' => if vd lim (l + tl c' + lea) = 0 then none else some (vd lim (l + tl c' + lea))
theorem mv_cases (g : Nat → Bool) (lim lea : Int) (tl : Nat → Int) (W L : Nat → Int) (c : Nat) (l : Int) (p w : Nat) :
    (nx g c w = none ∧ mv g lim lea tl W L c l p w = none ∧ tgt g lim lea tl c l p w = none ∧ trm g lim lea tl c l w = none ∧ pM g c w = 0 ∧ pN g lim lea tl c l w = 0 ∧ pV g lim lea tl c l w = 0) ∨
    (∃ c', nx g c w = some c' ∧ vd lim (l + tl c' + lea) = 0 ∧ mv g lim lea tl W L c l p w = some (W (sx c' (l + tl c' + lea) (1 - p)), L (sx c' (l + tl c' + lea) (1 - p))) ∧ tgt g lim lea tl c l p w = some (sx c' (l + tl c' + lea) (1 - p)) ∧ trm g lim lea tl c l w = none ∧ pM g c w = 1 ∧ pN g lim lea tl c l w = 1 ∧ pV g lim lea tl c l w = 0) ∨
    (∃ v : Nat, (v = 1 ∨ v = 2) ∧ mv g lim lea tl W L c l p w = some ((v : Int), 0) ∧ tgt g lim lea tl c l p w = none ∧ trm g lim lea tl c l w = some (v : Int) ∧ pM g c w = 1 ∧ pN g lim lea tl c l w = 0 ∧ pV g lim lea tl c l w = v) := by
  unfold mv tgt trm pM pN pV
  rcases hx : nx g c w with _ | c'
  · exact Or.inl ⟨rfl, rfl, rfl, rfl, rfl, rfl, rfl⟩
  · right
    dsimp only
    have hv := vd_cases lim (l + tl c' + lea)
    by_cases q : vd lim (l + tl c' + lea) = 0
    · left
      refine ⟨c', rfl, q, ?_⟩
      rw [if_pos q, if_pos q, if_pos q, if_pos q, q]
      exact ⟨rfl, rfl, rfl, rfl, rfl, rfl⟩
    · right
      refine ⟨(vd lim (l + tl c' + lea)).toNat, by omega, ?_⟩
      have e : (((vd lim (l + tl c' + lea)).toNat : Nat) : Int) = vd lim (l + tl c' + lea) := by omega
      rw [if_neg q, if_neg q, if_neg q, if_neg q, e]
      exact ⟨rfl, rfl, rfl, rfl, rfl, rfl⟩
