-- the class passes back: small steps
theorem t_settleFrom {σ : Mm} {s q p : Nat} {x n O : Int} (hs : s < 680) (hq : q < 680) (h : gI σ 21 4 = iz q) (hp : s % 2 = p) (hO : gA σ 24 s = iz O) (hO2 : 0 ≤ O ∧ O ≤ 4) (hx : x = 1 ∨ x = 2) :
    f_Co_settleFrom σ (iz s) (iz x) (iz n) = some (0, if x = p + 1 ∨ O = 1 then aSet (sA σ 24 s (iz (O - 1))) s q x n else sA σ 24 s (iz (O - 1))) := by
  have e : rm32 (iz (s : Int)) 2 = iz (p : Int) := by
    rw [i2, iz_rm (by omega) (by omega) (by decide) (by decide)]
    congr 1
    omega
  have hq' : gI (sA σ 24 s (iz (O - 1))) 21 4 = iz q := by rw [gI_sA]; exact h
  have set := t_settle (σ := sA σ 24 s (iz (O - 1))) (x := x) (n := n) hs hq hq'
  have hp2 : p < 2 := by omega
  have hO' : gA (sA σ 24 s (iz (O - 1))) 24 s = iz (O - 1) := by rw [gA_sA, if_pos rfl, pk_us]
  unfold f_Co_settleFrom
  rw [ix_n hs (by decide), ix_n hs (by decide), hO, nm_eq, i1, iz_sub, e]
  unfold f_Co_sideOf f_Co_settleFrom_29
  rw [bd_eq, i1, iz_add]
  by_cases k : x = p + 1
  · rw [if_pos (by rw [k]), set, bd_eq, if_pos (Or.inl k)]
  · rw [if_neg (by rw [iz_eq (by omega) (by omega) (by omega) (by omega)]; exact k), ix_n hs (by decide), hO']
    by_cases k2 : O = 1
    · rw [if_pos (by rw [k2, i0]; rfl), set, bd_eq, if_pos (Or.inr k2)]
    · rw [if_neg (by rw [i0, iz_eq (by omega) (by omega) (by omega) (by omega)]; omega), if_neg (by omega)]
theorem t_pb0 {σ : Mm} {r c w : Nat} {v l : Int32} {z : Int32} (hr : ∀ K : Nat → Option ((Mm × Int32) ⊕ (Int32 × Mm)), rk (gR σ 21 5) okGr K = K r) (hw : w < 4) (hB : f_Gr_beyond σ r (iz c) (iz w) = some (-1, σ)) : f_Co_passBack_38_b v (iz c) l σ (iz w) = some (.inl (σ, iz ((w + 1 : Nat) : Int))) := by
  unfold f_Co_passBack_38_b
  rw [if_pos (by rw [i4, iz_lt (by omega) (by omega) (by omega) (by omega)]; omega), hr, hB, bd_eq, t_stateOfN, bd_eq, if_pos (by decide), nm_eq, i1, iz_add]
  rfl
theorem t_pb1 {σ σ' : Mm} {r c c2 w t s : Nat} {l W x n : Int} {p : Nat} (hr : ∀ K : Nat → Option ((Mm × Int32) ⊕ (Int32 × Mm)), rk (gR σ 21 5) okGr K = K r) (hw : w < 4) (ht : t < 680) (hp : t % 2 = p) (hB : f_Gr_beyond σ r (iz c) (iz w) = some (iz c2, σ)) (hs : f_Co_stateOf σ (iz c2) (iz l) (iz ((1 - p : Nat) : Int)) = some (iz (s : Nat), σ)) (hs2 : s < 680) (hW : gA σ 22 s = iz W) (hW2 : 0 ≤ W ∧ W ≤ 2) (ex : gA σ 22 t = iz x) (en : gA σ 23 t = iz n) (hS : W = 0 → f_Co_settleFrom σ (iz s) (iz x) (iz (n + 1)) = some (0, σ')) :
    f_Co_passBack_38_b (iz t) (iz c) (iz l) σ (iz w) = some (.inl (if W = 0 then σ' else σ, iz ((w + 1 : Nat) : Int))) := by
  have e : 1 - rm32 (iz (t : Int)) 2 = iz ((1 - p : Nat) : Int) := by
    rw [i2, iz_rm (by omega) (by omega) (by decide) (by decide), i1, iz_sub]
    congr 1
    omega
  unfold f_Co_passBack_38_b
  rw [if_pos (by rw [i4, iz_lt (by omega) (by omega) (by omega) (by omega)]; omega), hr, hB, bd_eq, e, hs, bd_eq, if_neg (by rw [i0, iz_lt (by omega) (by omega) (by omega) (by omega)]; omega), ix_n hs2 (by decide), hW]
  by_cases k : W = 0
  · rw [if_pos (by rw [k, i0]), if_pos k, ix_n ht (by decide), ix_n ht (by decide), ex, en, i1, iz_add, hS k, bd_eq, nm_eq, iz_add]
    rfl
  · rw [if_neg (by rw [i0, iz_eq (by omega) (by omega) (by omega) (by omega)]; exact k), if_neg k, nm_eq, i1, iz_add]
    rfl
