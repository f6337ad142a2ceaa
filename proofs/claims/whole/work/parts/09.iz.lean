/-! PURE PART: no machine behind here. Ints as 32-bit words; loops; the two systems' functions over related memories -/
def iz (z : Int) : Int32 := Int32.ofInt z
theorem iz_T {z : Int} (h1 : -2147483648 ≤ z) (h2 : z < 2147483648) : (iz z).toInt = z := Int32.toInt_ofInt_of_le h1 h2
theorem iz_add (a b : Int) : iz a + iz b = iz (a + b) := (Int32.ofInt_add a b).symm
theorem iz_sub (a b : Int) : iz a - iz b = iz (a - b) := (Int32.ofInt_sub a b).symm
theorem iz_mul (a b : Int) : iz a * iz b = iz (a * b) := (Int32.ofInt_mul a b).symm
theorem iz_neg (a : Int) : -iz a = iz (-a) := (Int32.ofInt_neg a).symm
theorem iz_lt {a b : Int} (h1 : -2147483648 ≤ a) (h2 : a < 2147483648) (h3 : -2147483648 ≤ b) (h4 : b < 2147483648) : iz a < iz b ↔ a < b := by
  rw [Int32.lt_iff_toInt_lt, iz_T h1 h2, iz_T h3 h4]
theorem iz_le {a b : Int} (h1 : -2147483648 ≤ a) (h2 : a < 2147483648) (h3 : -2147483648 ≤ b) (h4 : b < 2147483648) : iz a ≤ iz b ↔ a ≤ b := by
  rw [Int32.le_iff_toInt_le, iz_T h1 h2, iz_T h3 h4]
theorem iz_eq {a b : Int} (h1 : -2147483648 ≤ a) (h2 : a < 2147483648) (h3 : -2147483648 ≤ b) (h4 : b < 2147483648) : iz a = iz b ↔ a = b := by
  rw [← Int32.toInt_inj, iz_T h1 h2, iz_T h3 h4]
theorem iz_nat {z : Int} (h1 : 0 ≤ z) (h2 : z < 2147483648) : (iz z).toNatClampNeg = z.toNat := Int32.toNatClampNeg_ofInt_of_le (by omega) h2
theorem iz_div {a b : Int} (h1 : 0 ≤ a) (h2 : a < 2147483648) (h3 : 0 < b) (h4 : b < 2147483648) : iz a / iz b = iz (a / b) := by
  rw [← Int32.toInt_inj, Int32.toInt_div_of_ne_right _ _ (fun e => by
    have e2 : (iz b).toInt = (-1 : Int32).toInt := by rw [e]
    rw [iz_T (by omega) h4] at e2
    have e3 : (-1 : Int32).toInt = -1 := by decide
    omega), iz_T (by omega) h2, iz_T (by omega) h4, Int.tdiv_eq_ediv_of_nonneg h1]
  have h5 : 0 ≤ a / b := Int.ediv_nonneg h1 (by omega)
  have h6 : a / b ≤ a := Int.ediv_le_self _ h1
  rw [iz_T (by omega) (by omega)]
theorem iz_rm {a b : Int} (h1 : 0 ≤ a) (h2 : a < 2147483648) (h3 : 0 < b) (h4 : b < 2147483648) : rm32 (iz a) (iz b) = iz (a % b) := by
  unfold rm32
  rw [iz_div h1 h2 h3 h4, iz_mul, iz_sub]
  congr 1
  rw [Int.emod_def, Int.mul_comm]
theorem iz_of (x : Int32) : ∃ z : Int, -2147483648 ≤ z ∧ z < 2147483648 ∧ x = iz z := ⟨x.toInt, Int32.le_toInt x, Int32.toInt_lt x, (Int32.ofInt_toInt x).symm⟩
theorem nI_iz (n : Nat) : nI n = iz n := (Int32.ofInt_eq_ofNat (n := n)).symm
theorem i0 : (0 : Int32) = iz 0 := by decide
theorem i1 : (1 : Int32) = iz 1 := by decide
theorem i2 : (2 : Int32) = iz 2 := by decide
theorem i3 : (3 : Int32) = iz 3 := by decide
theorem i4 : (4 : Int32) = iz 4 := by decide
theorem i5 : (5 : Int32) = iz 5 := by decide
theorem i6 : (6 : Int32) = iz 6 := by decide
theorem i7 : (7 : Int32) = iz 7 := by decide
theorem i8 : (8 : Int32) = iz 8 := by decide
theorem i9 : (9 : Int32) = iz 9 := by decide
theorem i10 : (10 : Int32) = iz 10 := by decide
theorem i11 : (11 : Int32) = iz 11 := by decide
theorem i12 : (12 : Int32) = iz 12 := by decide
theorem i17 : (17 : Int32) = iz 17 := by decide
theorem i20 : (20 : Int32) = iz 20 := by decide
theorem i21 : (21 : Int32) = iz 21 := by decide
theorem i26 : (26 : Int32) = iz 26 := by decide
theorem i27 : (27 : Int32) = iz 27 := by decide
theorem i32 : (32 : Int32) = iz 32 := by decide
theorem i34 : (34 : Int32) = iz 34 := by decide
theorem i48 : (48 : Int32) = iz 48 := by decide
theorem i54 : (54 : Int32) = iz 54 := by decide
theorem i57 : (57 : Int32) = iz 57 := by decide
theorem i59 : (59 : Int32) = iz 59 := by decide
theorem i64 : (64 : Int32) = iz 64 := by decide
theorem i98 : (98 : Int32) = iz 98 := by decide
theorem i99 : (99 : Int32) = iz 99 := by decide
theorem i100 : (100 : Int32) = iz 100 := by decide
theorem i106 : (106 : Int32) = iz 106 := by decide
theorem i107 : (107 : Int32) = iz 107 := by decide
theorem i114 : (114 : Int32) = iz 114 := by decide
theorem i119 : (119 : Int32) = iz 119 := by decide
theorem i120 : (120 : Int32) = iz 120 := by decide
theorem i121 : (121 : Int32) = iz 121 := by decide
theorem i141 : (141 : Int32) = iz 141 := by decide
theorem i243 : (243 : Int32) = iz 243 := by decide
theorem i255 : (255 : Int32) = iz 255 := by decide
theorem i270 : (270 : Int32) = iz 270 := by decide
theorem i340 : (340 : Int32) = iz 340 := by decide
theorem i680 : (680 : Int32) = iz 680 := by decide
theorem i999 : (999 : Int32) = iz 999 := by decide
theorem i1000000 : (1000000 : Int32) = iz 1000000 := by decide
theorem ix_iz {α : Type} {z : Int} {n : Nat} {K : Nat → Option α} (h0 : 0 ≤ z) (h1 : z < n) (hn : n < 2147483648) : ix (iz z) n K = K z.toNat := by
  unfold ix
  rw [if_neg (fun q => by rw [i0, iz_lt (by omega) (by omega) (by omega) (by omega)] at q; omega), iz_nat h0 (by omega), if_neg (by omega)]
theorem ix_n {α : Type} {i n : Nat} {K : Nat → Option α} (h1 : i < n) (hn : n < 2147483648) : ix (iz i) n K = K i := by
  rw [ix_iz (by omega) (by omega) hn]
  rfl
theorem bd_eq {α β γ : Type} (a : α) (b : β) (K : α → β → Option γ) : bd (some (a, b)) K = K a b := rfl
theorem nm_eq {α β : Type} (a : α) (K : α → β) : nm a K = K a := rfl
theorem rk_eq {α : Type} {t : Nat} {ok : Nat → Bool} (K : Nat → Option α) (h : ok t = true) : rk (some t) ok K = K t := by
  unfold rk
  simp only [h]
theorem lpn_run {S ρ : Type} (step : S → Option (S ⊕ ρ)) : ∀ (N : Nat) (st : Nat → S) (n : Nat), N < n → (∀ i, i < N → step (st i) = some (.inl (st (i + 1)))) → ∀ {E : Option ρ}, step (st N) = E.map Sum.inr → lpn step n (st 0) = E
  | 0, st, n, hn, _, E, hE => by
    obtain ⟨k, rfl⟩ : ∃ k, n = k + 1 := ⟨n - 1, by omega⟩
    unfold lpn
    rw [hE]
    cases E <;> rfl
  | N + 1, st, n, hn, h, E, hE => by
    obtain ⟨k, rfl⟩ : ∃ k, n = k + 1 := ⟨n - 1, by omega⟩
    unfold lpn
    rw [h 0 (by omega)]
    exact lpn_run step N (fun i => st (i + 1)) k (by omega) (fun i hi => h (i + 1) (by omega)) hE
theorem lp_run {S ρ : Type} {step : S → Option (S ⊕ ρ)} (st : Nat → S) (N : Nat) {E : Option ρ} (hN : N < 100000) (h : ∀ i, i < N → step (st i) = some (.inl (st (i + 1)))) (hE : step (st N) = E.map Sum.inr) : lp step (st 0) = E := lpn_run step N st FU hN h hE
theorem lp_ind {S ρ : Type} {step : S → Option (S ⊕ ρ)} (μ : S → Nat) (I : S → Prop) (Post : ρ → Prop) (h : ∀ s, I s → (∃ s', step s = some (.inl s') ∧ I s' ∧ μ s' < μ s) ∨ (∃ r, step s = some (.inr r) ∧ Post r)) (s : S) (hs : I s) (hμ : μ s < 100000) : ∃ r, lp step s = some r ∧ Post r := by
  have key : ∀ (n : Nat) (s : S), I s → μ s < n → ∃ r, lpn step n s = some r ∧ Post r := by
    intro n
    induction n with
    | zero => intro s _ h2; omega
    | succ n ih =>
      intro s hs hm
      unfold lpn
      rcases h s hs with ⟨s', e, h1, h2⟩ | ⟨r, e, h1⟩
      · rw [e]
        exact ih s' h1 (by omega)
      · rw [e]
        exact ⟨r, rfl, h1⟩
  exact key FU s hs hμ
