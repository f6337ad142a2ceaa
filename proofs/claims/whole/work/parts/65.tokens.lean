-- all tokens, as the class has them, and as the reference comes to them
def dgb (a : Nat → Nat) (j : Nat) : Bool := decide (48 ≤ a j) && decide (a j ≤ 57)
theorem dgb_iff {a : Nat → Nat} {j : Nat} : dgb a j = true ↔ dg a j := by
  unfold dgb dg
  simp
/-- token i's word, number and place; token n is the text's end -/
def tk (a : Nat → Nat) (n : Nat) (Q G : Nat → Nat) (i : Nat) : Int := if i = n then -1 else if dgb a (Q i) = true then (if gd a (Q i) (G (i + 1) - Q i) = true then -2 else -3) else a (Q i)
def nv (a : Nat → Nat) (Q G : Nat → Nat) (i : Nat) : Int := dv a (Q i) (G (i + 1) - Q i)
def pl (t n : Nat) (Q : Nat → Nat) (i : Nat) : Nat := if i = n then t else Q i
def kd (v : Int) : Int := if v = -1 then 0 else if v = -2 then 2 else if v = -3 then 4 else if v = 59 then 3 else if v = 119 ∨ v = 114 ∨ v = 120 ∨ v = 98 ∨ v = 107 ∨ v = 106 then 1 else 4
theorem tk_in {a : Nat → Nat} {t n : Nat} {Q G : Nat → Nat} (ha : ∀ j, j < t → a j < 256) (C : CH a t n Q G) {i : Nat} (hi : i ≤ n) : -3 ≤ tk a n Q G i ∧ tk a n Q G i < 256 ∧ (tk a n Q G i = -1 ↔ i = n) ∧ (tk a n Q G i = -2 → 0 ≤ nv a Q G i ∧ nv a Q G i ≤ 99) := by
  unfold tk nv
  by_cases e : i = n
  · rw [if_pos e]
    exact ⟨by omega, by omega, ⟨fun _ => e, fun _ => rfl⟩, fun z => by omega⟩
  · rw [if_neg e]
    obtain ⟨c1, c2, c3, c4, c5⟩ := C.2.1 i (by omega)
    have := ha (Q i) (by omega)
    by_cases d : dgb a (Q i) = true
    · rw [if_pos d]
      have hd := dgb_iff.mp d
      obtain ⟨m, hm⟩ : ∃ m, G (i + 1) = Q i + (m + 1) := ⟨G (i + 1) - Q i - 1, by omega⟩
      have hr : ∀ j, Q i ≤ j → j < Q i + (m + 1) → dg a j := by
        rcases c5 with ⟨b1, -⟩ | ⟨b1, -⟩
        · rw [← hm]; exact b1
        · exact absurd hd b1
      obtain ⟨n1, n2, -⟩ := num_eq m hr
      rw [show G (i + 1) - Q i = m + 1 by omega]
      by_cases g : gd a (Q i) (m + 1) = true
      · rw [if_pos g]
        have := (n1.mp g).1
        exact ⟨by omega, by omega, ⟨fun z => by omega, fun z => absurd z e⟩, fun _ => by omega⟩
      · rw [if_neg g]
        exact ⟨by omega, by omega, ⟨fun z => by omega, fun z => absurd z e⟩, fun z => by omega⟩
    · rw [if_neg d]
      exact ⟨by omega, by omega, ⟨fun z => by omega, fun z => absurd z e⟩, fun z => by omega⟩
/-- the class's tokens, complete -/
def TA (σ : Mm) (a : Nat → Nat) (t n : Nat) (Q G : Nat → Nat) : Prop := gI σ 3 4 = iz ((n + 1 : Nat) : Int) ∧ n ≤ 120 ∧ ∀ i, i ≤ n → gA σ 4 i = iz (tk a n Q G i) ∧ gA σ 6 i = iz (pl t n Q i : Nat) ∧ (tk a n Q G i = -2 → gA σ 5 i = iz (nv a Q G i))
theorem t_split {σ : Mm} {a : Nat → Nat} {t : Nat} (T : TXt σ a t) : ∃ z, f_Re_split σ = some z ∧ ∃ σ' n Q G, z = (0, σ') ∧ eqT σ σ' ∧ CH a t n Q G ∧ TA σ' a t n Q G ∧ (∀ k, k ≠ 4 → gI σ' 3 k = gI σ 3 k) ∧ FX σ σ' := by
  have ht := T.1
  unfold f_Re_split
  rw [nm_eq]
  unfold f_Re_split_7
  refine lp_ind (fun s => 120 - s.2.toNatClampNeg) (fun z => ∃ (σ' : Mm) (p n : Nat) (Q G : Nat → Nat), z = (σ', iz p) ∧ p ≤ t ∧ eqT σ σ' ∧ CH a p n Q G ∧ TK σ' a n Q G ∧ (∀ k, k ≠ 4 → gI σ' 3 k = gI σ 3 k) ∧ FX σ σ') _ (fun z hz => ?_) _ ⟨sI σ 3 4 0, 0, 0, fun _ => 0, fun _ => 0, rfl, by omega, eqT_3, ⟨rfl, fun i hi => absurd hi (Nat.not_lt_zero i), fun j _ hj => absurd hj (Nat.not_lt_zero j), Nat.le_refl _⟩, ⟨by rw [gI_sI, if_pos ⟨rfl, rfl⟩]; rfl, fun i hi => absurd hi (Nat.not_lt_zero i)⟩, fun k hk => by rw [gI_sI, if_neg (fun ⟨_, z⟩ => hk z)], FX_sI⟩ ?_
  · obtain ⟨σ', p, n, Q, G, rfl, hp, e, C, K, fr, fR⟩ := hz
    have T' := T.ext e
    have hn := C.le n (Nat.le_refl _)
    have hnp := C.2.2.2
    dsimp only
    by_cases k : p < t
    · left
      obtain ⟨ha, -⟩ := T.2.2 p k
      have kt : iz (p : Int) < gI σ' 1 1 := by rw [T'.2.1, iz_lt (by omega) (by omega) (by omega) (by omega)]; omega
      have kk : iz (p : Int) + 1 = iz ((p + 1 : Nat) : Int) := by rw [i1, iz_add]; rfl
      have mu : ∀ σ2 : Mm, 120 - ((σ2, iz ((p + 1 : Nat) : Int)) : Mm × Int32).2.toNatClampNeg < 120 - (iz (p : Int)).toNatClampNeg := fun σ2 => by
        dsimp only
        rw [iz_nat (by omega) (by omega), iz_nat (by omega) (by omega)]
        omega
      have hI := t_isDigit σ' ha
      by_cases hd : dg a p
      · rw [if_pos (show 48 ≤ a p ∧ a p ≤ 57 from hd)] at hI
        obtain ⟨σ2, n2, Q2, G2, b1, b2, b3, b4, b5, b6⟩ := t_addDigit T' k C K hd
        refine ⟨(σ2, iz ((p + 1 : Nat) : Int)), ?_, ⟨σ2, p + 1, n2, Q2, G2, rfl, by omega, e.trans b2, b3, b4, fun k hk => (b5 k hk).trans (fr k hk), fR.trans b6⟩, mu σ2⟩
        unfold f_Re_split_7_b
        rw [if_pos kt, t_letterAt T' k, bd_eq, hI, bd_eq, if_neg (by decide), i48, iz_sub, b1, bd_eq, nm_eq, kk]
      · rw [if_neg (show ¬ (48 ≤ a p ∧ a p ≤ 57) from hd)] at hI
        by_cases h32 : a p = 32
        · refine ⟨(σ', iz ((p + 1 : Nat) : Int)), ?_, ⟨σ', p + 1, n, Q, G, rfl, by omega, e, C.space h32, K, fr, fR⟩, mu σ'⟩
          unfold f_Re_split_7_b
          rw [if_pos kt, t_letterAt T' k, bd_eq, hI, bd_eq, if_pos rfl, if_pos (by rw [h32]; rfl), nm_eq, kk]
        · obtain ⟨Q', q1, q2⟩ : ∃ Q' : Nat → Nat, Q' n = p ∧ ∀ i, i < n → Q' i = Q i := ⟨fun i => if i = n then p else Q i, if_pos rfl, fun i hi => if_neg (by omega)⟩
          obtain ⟨G', g1, g2⟩ : ∃ G' : Nat → Nat, G' (n + 1) = p + 1 ∧ ∀ i, i ≤ n → G' i = G i := ⟨fun i => if i = n + 1 then p + 1 else G i, if_pos rfl, fun i hi => if_neg (by omega)⟩
          refine ⟨(aTk σ' n (iz (a p : Nat)) (iz (p : Nat)) 0, iz ((p + 1 : Nat) : Int)), ?_, ⟨_, p + 1, n + 1, Q', G', rfl, by omega, e.trans eqT_aTk, C.more h32 (fun z => absurd z hd) q1 q2 g1 g2, K.more q1 q2 g1 g2 (fun z => absurd z hd) (fun _ => rfl), fun k hk => ?_, fR.trans FX_aTk⟩, mu _⟩
          · unfold f_Re_split_7_b
            rw [if_pos kt, t_letterAt T' k, bd_eq, hI, bd_eq, if_pos rfl, if_neg (by rw [i32, iz_eq (by omega) (by omega) (by omega) (by omega)]; omega), t_addToken K.1 (by omega), bd_eq, nm_eq, kk]
          · unfold aTk
            rw [gI_sI, if_neg (fun ⟨_, z⟩ => hk z), gI_sA, gI_sA, gI_sA]
            exact fr k hk
    · right
      have : p = t := by omega
      subst this
      have he : f_Re_split_65 σ' = some (0, aTk σ' n (-1) (iz (p : Nat)) 0) := by
        unfold f_Re_split_65
        rw [T'.2.1, t_addToken K.1 (by omega), bd_eq]
      refine ⟨(0, aTk σ' n (-1) (iz (p : Nat)) 0), ?_, _, n, Q, G, rfl, e.trans eqT_aTk, C, ⟨?_, by omega, fun i hi => ?_⟩, fun k hk => ?_, fR.trans FX_aTk⟩
      · unfold f_Re_split_7_b
        rw [if_neg (by rw [T'.2.1, iz_lt (by omega) (by omega) (by omega) (by omega)]; omega), he]
        rfl
      · unfold aTk
        rw [gI_sI, if_pos ⟨rfl, rfl⟩]
      · unfold aTk
        rw [gA_sI, gA_sI, gA_sI, gA_sA, if_neg (by decide), gA_sA, if_neg (by decide), gA_sA, if_pos rfl]
        rw [gA_sA, if_neg (by decide), gA_sA, if_pos rfl, gA_sA, if_neg (by decide)]
        rw [gA_sA, if_pos rfl, gA_sA, if_neg (by decide), gA_sA, if_neg (by decide)]
        unfold tk pl nv
        by_cases q : i = n
        · rw [if_pos q, if_pos q, q, pk_us, pk_us]
          exact ⟨rfl, rfl, fun z => by omega⟩
        · rw [if_neg q, if_neg q, pk_un q, pk_un q, pk_un q]
          obtain ⟨k1, k2, k3⟩ := K.2 i (by omega)
          by_cases d : dgb a (Q i) = true
          · rw [if_pos d]
            obtain ⟨k4, k5⟩ := k2 (dgb_iff.mp d)
            refine ⟨?_, k1, fun _ => k4⟩
            rw [k5]
            by_cases g : gd a (Q i) (G (i + 1) - Q i) = true
            · rw [if_pos g, if_pos g]
            · rw [if_neg g, if_neg g]
          · rw [if_neg d]
            exact ⟨k3 (fun z => d (dgb_iff.mpr z)), k1, fun z => by omega⟩
      · unfold aTk
        rw [gI_sI, if_neg (fun ⟨_, z⟩ => hk z), gI_sA, gI_sA, gI_sA]
        exact fr k hk
  · dsimp only
    omega
