-- loops that copy and fill; moments
theorem sAs_sAs (σ : Mm) (c : Nat) (f f' : Nat → Int32) : sAs (sAs σ c f) c f' = sAs σ c f' := by
  unfold sAs
  refine Prod.ext rfl (Prod.ext ?_ rfl)
  funext a
  show (if a = c then f' else if a = c then f else σ.2.1 a) = if a = c then f' else σ.2.1 a
  by_cases h : a = c
  · rw [if_pos h, if_pos h]
  · rw [if_neg h, if_neg h, if_neg h]
theorem sAs_id (σ : Mm) (c : Nat) (f : Nat → Int32) (h : f = gA σ c) : sAs σ c f = σ := by
  subst h
  unfold sAs
  refine Prod.ext rfl (Prod.ext ?_ rfl)
  funext a
  show (if a = c then gA σ c else σ.2.1 a) = σ.2.1 a
  by_cases h : a = c
  · rw [if_pos h, h]; rfl
  · rw [if_neg h]
theorem cpy_0 (f g : Nat → Int32) (sp dp : Nat) : va_cpy f g sp dp 0 = g := by
  funext k
  unfold va_cpy
  rw [if_neg (by omega)]
theorem cpy_s (f g : Nat → Int32) (sp dp n : Nat) : upd (va_cpy f g sp dp n) (dp + n) (f (sp + n)) = va_cpy f g sp dp (n + 1) := by
  funext k
  unfold upd va_cpy
  by_cases h : k = dp + n
  · rw [if_pos h, if_pos (by omega), show k - dp = n by omega]
  · rw [if_neg h]
    by_cases h2 : dp ≤ k ∧ k < dp + n
    · rw [if_pos h2, if_pos (by omega)]
    · rw [if_neg h2, if_neg (by omega)]
theorem lp_copy {ρ : Type} {step : Mm × Int32 → Option ((Mm × Int32) ⊕ ρ)} {E : Mm → Option ρ} (σ0 : Mm) (a b oa ob N : Nat) (hN : N < 100000) (hab : a ≠ b ∨ ob ≤ oa) (hs : ∀ f k, k < N → step (sAs σ0 b f, iz k) = some (.inl (sA (sAs σ0 b f) b (ob + k) (gA (sAs σ0 b f) a (oa + k)), iz ((k : Int) + 1)))) (hE : ∀ f, step (sAs σ0 b f, iz N) = (E (sAs σ0 b f)).map Sum.inr) : lp step (σ0, iz 0) = E (sAs σ0 b (va_cpy (gA σ0 a) (gA σ0 b) oa ob N)) := by
  have h0 : (σ0, iz 0) = (fun k : Nat => (sAs σ0 b (va_cpy (gA σ0 a) (gA σ0 b) oa ob k), iz k)) 0 := by
    show (σ0, iz 0) = (sAs σ0 b (va_cpy (gA σ0 a) (gA σ0 b) oa ob 0), iz 0)
    rw [cpy_0, sAs_id _ _ _ rfl]
  rw [h0]
  refine lp_run (step := step) (fun k : Nat => (sAs σ0 b (va_cpy (gA σ0 a) (gA σ0 b) oa ob k), iz k)) N hN (fun k hk => ?_) (hE _)
  rw [hs _ k hk]
  unfold sA
  rw [sAs_sAs, gA_sAs σ0 b b, if_pos rfl]
  have e : gA (sAs σ0 b (va_cpy (gA σ0 a) (gA σ0 b) oa ob k)) a (oa + k) = gA σ0 a (oa + k) := by
    rw [gA_sAs]
    by_cases h : a = b
    · subst h
      rw [if_pos rfl]
      unfold va_cpy
      rw [if_neg (by omega)]
    · rw [if_neg h]
  rw [e, cpy_s]
  rfl
theorem lp_fill {ρ : Type} {step : Mm × Int32 → Option ((Mm × Int32) ⊕ ρ)} {E : Mm → Option ρ} (σ0 : Mm) (b N : Nat) (v : Int32) (hN : N < 100000) (hs : ∀ f k, k < N → step (sAs σ0 b f, iz k) = some (.inl (sA (sAs σ0 b f) b k v, iz ((k : Int) + 1)))) (hE : ∀ f, step (sAs σ0 b f, iz N) = (E (sAs σ0 b f)).map Sum.inr) : lp step (σ0, iz 0) = E (sAs σ0 b (fun j => if j < N then v else gA σ0 b j)) := by
  have h0 : (σ0, iz 0) = (fun k : Nat => (sAs σ0 b (fun j => if j < k then v else gA σ0 b j), iz k)) 0 := by
    show (σ0, iz 0) = (sAs σ0 b (fun j => if j < 0 then v else gA σ0 b j), iz 0)
    rw [sAs_id _ _ _ (by funext j; rw [if_neg (Nat.not_lt_zero j)])]
  rw [h0]
  refine lp_run (step := step) (fun k : Nat => (sAs σ0 b (fun j => if j < k then v else gA σ0 b j), iz k)) N hN (fun k hk => ?_) (hE _)
  rw [hs _ k hk]
  unfold sA
  rw [sAs_sAs, gA_sAs σ0 b b, if_pos rfl]
  have e : upd (fun j => if j < k then v else gA σ0 b j) k v = fun j => if j < k + 1 then v else gA σ0 b j := by
    funext j
    unfold upd
    by_cases h : j = k
    · rw [if_pos h, if_pos (by omega)]
    · rw [if_neg h]
      show (if j < k then v else gA σ0 b j) = _
      by_cases h2 : j < k
      · rw [if_pos h2, if_pos (by omega)]
      · rw [if_neg h2, if_neg (by omega)]
  rw [e]
  rfl
theorem f_fill (σ : Mm) (r n : Nat) (v : Int32) (hn : n < 1000) : f_Ar_fill σ r n v = some (0, sAs σ r (fun j => if j < n then v else gA σ r j)) := by
  unfold f_Ar_fill f_Ar_fill_5
  rw [nm_eq, nI_iz, i0]
  refine lp_fill (E := fun σ => some (iz 0, σ)) σ r n v (by omega) (fun f k hk => ?_) (fun f => ?_)
  · dsimp only
    simp (disch := omega) only [f_Ar_fill_5_b, if_true, if_false, and_true, true_and, and_false, false_and, and_self, nm_eq, bd_eq, i0, i1, i2, i3, i4, i5, i6, i7, i8, i9, i10, i11, i12, i17, i20, i21, i26, i27, i32, i34, i48, i54, i57, i59, i64, i98, i99, i100, i106, i107, i114, i119, i120, i121, i141, i243, i255, i270, i340, i680, i999, i1000000, iz_add, iz_sub, iz_mul, iz_neg, iz_lt, iz_le, iz_eq, if_pos, if_neg, ix_iz, Int.toNat_natCast, tn0, tn1, tn2, tn3, tn4, tn5, tn6, tn7, tn8, tn9, tn10, tn11, tn12, tn13, tn14, tn15, tn16, tn17, tn18, tn19, tn20, tn21, tn22, tn23, tn24, tn25, tn26, tn27, gI_sI, gI_sA, gI_sAs, gI_sR, gI_sJ, gA_sI, gA_sA, gA_sAs, gA_sR, gA_sJ, gR_sI, gR_sA, gR_sAs, gR_sR, gR_sJ, gJ_sI, gJ_sA, gJ_sAs, gJ_sR, gJ_sJ]
  · dsimp only
    simp (disch := omega) only [f_Ar_fill_5_b, if_true, if_false, and_true, true_and, and_false, false_and, and_self, nm_eq, bd_eq, i0, i1, i2, i3, i4, i5, i6, i7, i8, i9, i10, i11, i12, i17, i20, i21, i26, i27, i32, i34, i48, i54, i57, i59, i64, i98, i99, i100, i106, i107, i114, i119, i120, i121, i141, i243, i255, i270, i340, i680, i999, i1000000, iz_add, iz_sub, iz_mul, iz_neg, iz_lt, iz_le, iz_eq, if_pos, if_neg, ix_iz, Int.toNat_natCast, tn0, tn1, tn2, tn3, tn4, tn5, tn6, tn7, tn8, tn9, tn10, tn11, tn12, tn13, tn14, tn15, tn16, tn17, tn18, tn19, tn20, tn21, tn22, tn23, tn24, tn25, tn26, tn27, gI_sI, gI_sA, gI_sAs, gI_sR, gI_sJ, gA_sI, gA_sA, gA_sAs, gA_sR, gA_sJ, gR_sI, gR_sA, gR_sAs, gR_sR, gR_sJ, gJ_sI, gJ_sA, gJ_sAs, gJ_sR, gJ_sJ]
/-- a moment becomes another -/
def bec (σ : Mm) (r0 r1 : Nat) : Mm := sI (sI (sI (sAs (sAs (sAs σ (r0 + 1) (va_cpy (gA σ (r1 + 1)) (gA σ (r0 + 1)) 0 0 20)) (r0 + 2) (va_cpy (gA σ (r1 + 2)) (gA σ (r0 + 2)) 0 0 2)) (r0 + 3) (va_cpy (gA σ (r1 + 3)) (gA σ (r0 + 3)) 0 0 2)) r0 3 (gI σ r1 3)) r0 4 (gI σ r1 4)) r0 5 (gI σ r1 5)
theorem f_bec {σ : Mm} {r0 r1 : Nat} (h : r0 + 3 < r1 ∨ r1 + 3 < r0) : f_Mo_become σ r0 r1 = some (0, bec σ r0 r1) := by
  unfold f_Mo_become bec
  simp only [nm_eq, gA_sAs, gI_sAs, gI_sI, show ((0 : Int32).toNatClampNeg) = 0 from rfl, show ((20 : Int32).toNatClampNeg) = 20 from rfl, show ((2 : Int32).toNatClampNeg) = 2 from rfl]
  have n1 : ¬ r1 = r0 := by omega
  have n2 : ¬ r1 + 2 = r0 + 1 := by omega
  have n3 : ¬ r1 + 3 = r0 + 1 := by omega
  have n4 : ¬ r1 + 3 = r0 + 2 := by omega
  have n5 : ¬ r0 + 2 = r0 + 1 := by omega
  have n6 : ¬ r0 + 3 = r0 + 1 := by omega
  have n7 : ¬ r0 + 3 = r0 + 2 := by omega
  simp only [n1, n2, n3, n4, n5, n6, n7, if_false, false_and]
theorem bec_MT {g : Nat → Bool} {σ : Mm} {r0 r1 : Nat} {m : Nat → Int} (h : r0 + 3 < r1 ∨ r1 + 3 < r0) (hm : MT g σ r1 m) : MT g (bec σ r0 r1) r0 m := by
  obtain ⟨a1, a2, a3, a4, a5, a6, a7, a8⟩ := hm
  have n5 : ¬ r0 + 2 = r0 + 3 := by omega
  have n6 : ¬ r0 + 1 = r0 + 3 := by omega
  have n7 : ¬ r0 + 1 = r0 + 2 := by omega
  unfold MT bec TlT
  simp only [gI_sI, gA_sI, gA_sAs, gI_sAs, n5, n6, n7, if_false, if_true, and_true, and_false, true_and, show ¬ (3 : Nat) = 5 by decide, show ¬ (3 : Nat) = 4 by decide, show ¬ (4 : Nat) = 5 by decide]
  have c0 : ∀ f gg : Nat → Int32, ∀ n k, k < n → va_cpy f gg 0 0 n k = f k := fun f gg n k hk => by
    rw [pk_cpy_in (by omega) (by omega)]
    congr 1
    omega
  rw [c0 _ _ 2 0 (by decide), c0 _ _ 2 1 (by decide), c0 _ _ 2 0 (by decide), c0 _ _ 2 1 (by decide)]
  refine ⟨a1, a2, a3, a4, a5, a6, a7, fun c hc => ?_⟩
  rw [c0 _ _ 20 c hc]
  exact a8 c hc
theorem bec_I {σ : Mm} {r0 r1 c k : Nat} (h : c ≠ r0) : gI (bec σ r0 r1) c k = gI σ c k := by
  unfold bec
  simp only [gI_sI, gI_sAs, h, false_and, if_false]
theorem bec_A {σ : Mm} {r0 r1 c : Nat} (h : c ≤ r0 ∨ r0 + 3 < c) : gA (bec σ r0 r1) c = gA σ c := by
  have n1 : ¬ c = r0 + 1 := by omega
  have n2 : ¬ c = r0 + 2 := by omega
  have n3 : ¬ c = r0 + 3 := by omega
  unfold bec
  simp only [gA_sI, gA_sAs, n1, n2, n3, if_false]
theorem bec_R (σ : Mm) (r0 r1 c k : Nat) : gR (bec σ r0 r1) c k = gR σ c k := rfl
theorem bec_J (σ : Mm) (r0 r1 : Nat) : gJ (bec σ r0 r1) = gJ σ := rfl
theorem bec_MTo {g : Nat → Bool} {σ : Mm} {r0 r1 b : Nat} {m : Nat → Int} (h : b + 3 < r0 ∨ r0 + 3 < b) (hm : MT g σ b m) : MT g (bec σ r0 r1) b m := hm.ext (fun k => bec_I (by omega)) (bec_A (by omega)) (bec_A (by omega)) (bec_A (by omega))
