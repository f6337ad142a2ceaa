-- bits of a word
theorem b20 : ∀ j, j < 20 → ((iz ((j : Nat) : Int) &&& 31).toBitVec.smod 32).toNat = j := by decide
theorem one_bit : ∀ k, k < 20 → ∀ j, j < 20 → ((1 : Int32) <<< (iz ((k : Nat) : Int) &&& 31)).toBitVec.getLsbD j = decide (j = k) := by decide
theorem and1_bv (x : BitVec 32) : x &&& 1#32 = 0#32 ↔ x.getLsbD 0 = false := by
  constructor
  · intro h
    have := congrArg (fun y => BitVec.getLsbD y 0) h
    simpa using this
  · intro h
    apply BitVec.eq_of_getLsbD_eq
    intro i hi
    by_cases e : i = 0
    · subst e
      rw [BitVec.getLsbD_eq_getElem (by decide : 0 < 32)] at h
      simp [h]
    · simp [e]
theorem bit_z (m : Int32) {j : Nat} (hj : j < 20) : ((m >>> (iz (j : Int) &&& 31)) &&& 1 = 0) ↔ m.toBitVec.getLsbD j = false := by
  have e : ((m >>> (iz (j : Int) &&& 31)) &&& 1 = 0) ↔ (m >>> (iz (j : Int) &&& 31)).toBitVec &&& 1#32 = 0#32 := by
    constructor
    · intro h
      have := congrArg Int32.toBitVec h
      simpa using this
    · intro h
      apply Int32.toBitVec_inj.mp
      simpa using h
  rw [e, and1_bv, Int32.toBitVec_shiftRight, BitVec.sshiftRight_eq', b20 j hj, BitVec.getLsbD_sshiftRight]
  simp
  omega
theorem bit_or (m : Int32) {j k : Nat} (hj : j < 20) (hk : k < 20) : (((m ||| (1 <<< (iz (k : Int) &&& 31))) >>> (iz (j : Int) &&& 31)) &&& 1 = 0) ↔ (j ≠ k ∧ ((m >>> (iz (j : Int) &&& 31)) &&& 1 = 0)) := by
  rw [bit_z _ hj, bit_z _ hj, Int32.toBitVec_or, BitVec.getLsbD_or, one_bit k hk j hj]
  by_cases e : j = k
  · simp [e]
  · simp [e]
theorem bit_0 {j : Nat} (hj : j < 20) : (((0 : Int32) >>> (iz (j : Int) &&& 31)) &&& 1 = 0) := by
  rw [bit_z _ hj]
  simp
