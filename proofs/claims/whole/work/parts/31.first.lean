-- the class settles what one push ahead shows
theorem bit4 : ∀ a, a < 4 → ∀ b, b < 3 → ∀ p, p < 2 → (((iz ((a ||| b : Nat) : Int) &&& iz ((p : Nat) + 1)) = 0) ↔ ((iz ((a : Nat) : Int) &&& iz ((p : Nat) + 1)) = 0 ∧ b ≠ p + 1)) := by decide
theorem om_bit {f : Nat → Nat} (h : ∀ w, f w < 3) {p : Nat} (hp : p < 2) (k : Nat) : ((iz ((om f k : Nat) : Int) &&& iz ((p : Nat) + 1)) = 0) ↔ ∀ w, w < k → f w ≠ p + 1 := by
  induction k with
  | zero => exact ⟨fun _ w hw => absurd hw (Nat.not_lt_zero w), fun _ => Int32.zero_and⟩
  | succ k ih =>
    rw [show om f (k + 1) = om f k ||| f k from rfl, bit4 _ (om_lt h k) _ (h k) p hp, ih]
    constructor
    · rintro ⟨h1, h2⟩ w hw
      by_cases q : w = k
      · rw [q]; exact h2
      · exact h1 w (by omega)
    · exact fun h1 => ⟨fun w hw => h1 w (by omega), h1 k (by omega)⟩
theorem t_83 {σ : Mm} {c p q s a b o : Nat} {l : Int} (hp : p < 2) (hs : f_Co_stateOf σ (iz c) (iz l) (iz p) = some (iz (s : Nat), σ)) (hs2 : s < 680) (hq : q < 680) (h : gI σ 21 4 = iz q) (ha : a ≤ 4) (hb : b ≤ 4) {own : Prop} (ho : (iz (o : Nat) &&& iz ((p : Nat) + 1)) = 0 ↔ ¬ own) :
    (own → f_Co_lookOnePushAhead_83_b (iz c) (iz l) (iz a) (iz b) (iz o) σ (iz p) = some (.inl (aSet (sA σ 24 s (iz b)) s q (p + 1) 1, iz ((p + 1 : Nat) : Int)))) ∧
    (¬ own → b = 0 → f_Co_lookOnePushAhead_83_b (iz c) (iz l) (iz a) (iz b) (iz o) σ (iz p) = some (.inl (aSet (sA σ 24 s (iz b)) s q (2 - p) (if a = 0 then 0 else 1), iz ((p + 1 : Nat) : Int)))) ∧
    (¬ own → b ≠ 0 → f_Co_lookOnePushAhead_83_b (iz c) (iz l) (iz a) (iz b) (iz o) σ (iz p) = some (.inl (sA σ 24 s (iz b), iz ((p + 1 : Nat) : Int)))) := by
  have k1 : iz (p : Int) < 2 := by rw [i2, iz_lt (by omega) (by omega) (by omega) (by omega)]; omega
  have kk : iz (p : Int) + 1 = iz ((p + 1 : Nat) : Int) := by rw [i1, iz_add]; rfl
  have ks : ∀ (σ : Mm), f_Co_sideOf σ (iz p) = some (iz ((p : Int) + 1), σ) := fun σ => by unfold f_Co_sideOf; rw [i1, iz_add]
  have kt : ∀ (σ : Mm), f_Co_sideOf σ (1 - iz p) = some (iz (2 - (p : Int)), σ) := fun σ => by
    unfold f_Co_sideOf
    rw [i1, iz_sub, iz_add, show (1 : Int) - p + 1 = 2 - p by omega]
  have hq' : gI (sA σ 24 s (iz b)) 21 4 = iz q := by rw [gI_sA]; exact h
  have set := fun x n => t_settle (σ := sA σ 24 s (iz b)) (x := x) (n := n) hs2 hq hq'
  have kb : iz (b : Int) = 0 ↔ b = 0 := by rw [i0, iz_eq (by omega) (by omega) (by omega) (by omega)]; omega
  have ka : iz (a : Int) = 0 ↔ a = 0 := by rw [i0, iz_eq (by omega) (by omega) (by omega) (by omega)]; omega
  have base : f_Co_lookOnePushAhead_83_b (iz c) (iz l) (iz a) (iz b) (iz o) σ (iz p) = (if (iz (o : Nat) &&& iz ((p : Int) + 1)) = 0 then (if iz (b : Int) = 0 then (if iz (a : Int) = 0 then f_Co_lookOnePushAhead_165 (sA σ 24 s (iz b)) (iz p) (iz s) (iz (2 - (p : Int))) 0 else f_Co_lookOnePushAhead_165 (sA σ 24 s (iz b)) (iz p) (iz s) (iz (2 - (p : Int))) 1) else some (.inl (sA σ 24 s (iz b), iz ((p + 1 : Nat) : Int)))) else some (.inl (aSet (sA σ 24 s (iz b)) s q (p + 1) 1, iz ((p + 1 : Nat) : Int)))) := by
    unfold f_Co_lookOnePushAhead_83_b
    rw [if_pos k1, hs, bd_eq, if_neg (by rw [i0, iz_lt (by omega) (by omega) (by omega) (by omega)]; omega), ix_n hs2 (by decide), nm_eq, ks, bd_eq]
    by_cases q1 : (iz (o : Nat) &&& iz ((p : Int) + 1)) = 0
    · rw [if_pos q1, if_pos q1]
      by_cases q2 : iz (b : Int) = 0
      · rw [if_pos q2, if_pos q2, kt, bd_eq]
      · rw [if_neg q2, if_neg q2, nm_eq, kk]
    · rw [if_neg q1, if_neg q1, ks, bd_eq, i1, set, bd_eq, nm_eq, ← i1, kk]
  refine ⟨fun w => ?_, fun w1 w2 => ?_, fun w1 w2 => ?_⟩
  · rw [base, if_neg (fun z => (ho.mp z) w)]
  · rw [base, if_pos (ho.mpr w1), if_pos (kb.mpr w2)]
    by_cases q3 : a = 0
    · rw [if_pos (ka.mpr q3), if_pos q3]
      unfold f_Co_lookOnePushAhead_165
      rw [i0, set, bd_eq, kk, nm_eq]
    · rw [if_neg (fun z => q3 (ka.mp z)), if_neg q3]
      unfold f_Co_lookOnePushAhead_165
      rw [i1, set, bd_eq, ← i1, kk, nm_eq]
  · rw [base, if_pos (ho.mpr w1), if_neg (fun z => w2 (kb.mp z))]
