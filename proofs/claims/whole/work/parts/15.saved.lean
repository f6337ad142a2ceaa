-- what is saved and brought back
theorem t_save {σ : Mm} {k w : Nat} (h1 : k ≤ 10) (h2 : w < 10) (h3 : gI σ 16 2 = iz k) (h4 : gI σ 16 1 = iz w) : f_Hi_save σ 36 = some (0, sI (bec (sI σ 16 1 (iz ((w + 1) % 10 : Nat))) (40 + 4 * ((w + 1) % 10)) 36) 16 2 (iz (if k < 10 then k + 1 else 10 : Nat))) := by
  have e1 : rm32 (gI σ 16 1 + 1) 10 = iz ((w + 1) % 10 : Nat) := by
    rw [h4, i1, i10, iz_add, iz_rm (by omega) (by omega) (by decide) (by decide)]
    congr 1
  unfold f_Hi_save
  rw [nm_eq, e1, gI_sI, if_pos ⟨rfl, rfl⟩, ix_n (by omega) (by decide), f_bec (by omega), bd_eq]
  have e2 : gI (bec (sI σ 16 1 (iz ((w + 1) % 10 : Nat))) (40 + 4 * ((w + 1) % 10)) 36) 16 2 = iz k := by
    rw [bec_I (by omega), gI_sI, if_neg (by decide), h3]
  rw [e2, nm_eq, i1, i10, iz_add]
  by_cases q : k + 1 < 10
  · rw [if_pos (by rw [iz_lt (by omega) (by omega) (by decide) (by decide)]; omega), if_pos (by omega)]
    rfl
  · rw [if_neg (by rw [iz_lt (by omega) (by omega) (by decide) (by decide)]; omega)]
    by_cases q2 : k < 10
    · rw [if_pos q2, show k + 1 = 10 by omega]
      rfl
    · rw [if_neg q2]
      rfl
theorem m_notes {τ : Mm} {k : Nat} (h1 : k ≤ 10) (h3 : gI τ 0 18 = iz k) : f_M_notes τ = if k < 10 then some (0, sI (sAs τ 7 (va_cpy (gA τ 4) (gA τ 7) 0 (27 * k) 27)) 0 18 (iz (k + 1 : Nat))) else some (0, sI (sAs (sI (sAs τ 7 (va_cpy (gA τ 7) (gA τ 7) 27 0 243)) 0 18 9) 7 (va_cpy (gA τ 4) (va_cpy (gA τ 7) (gA τ 7) 27 0 243) 0 243 27)) 0 18 (iz 10)) := by
  have key : ∀ (υ : Mm) (q : Nat), q < 10 → gI υ 0 18 = iz q → f_M_notes_45 υ = some (0, sI (sAs υ 7 (va_cpy (gA υ 4) (gA υ 7) 0 (27 * q) 27)) 0 18 (iz (q + 1 : Nat))) := by
    intro υ q hq hu
    unfold f_M_notes_45 f_M_notes_47
    rw [i0, lp_copy (E := fun s => f_M_notes_79 s) υ 4 7 0 (27 * q) 27 (by decide) (Or.inl (by decide)) (fun f j hj => ?_) (fun f => ?_)]
    · unfold f_M_notes_79
      rw [nm_eq, gI_sAs, hu, i1, i0, iz_add]
      rfl
    · have e : (27 : Int) * q + j = ((27 * q + j : Nat) : Int) := by omega
      have e0 : 0 + j = j := Nat.zero_add j
      simp (disch := omega) only [f_M_notes_47_b, hu, e, e0, if_true, if_false, and_true, true_and, and_false, false_and, and_self, nm_eq, bd_eq, i0, i1, i2, i3, i4, i5, i6, i7, i8, i9, i10, i11, i12, i17, i20, i21, i26, i27, i32, i34, i48, i54, i57, i59, i64, i98, i99, i100, i106, i107, i114, i119, i120, i121, i141, i243, i255, i270, i340, i680, i999, i1000000, iz_add, iz_sub, iz_mul, iz_neg, iz_lt, iz_le, iz_eq, if_pos, if_neg, ix_iz, Int.toNat_natCast, tn0, tn1, tn2, tn3, tn4, tn5, tn6, tn7, tn8, tn9, tn10, tn11, tn12, tn13, tn14, tn15, tn16, tn17, tn18, tn19, tn20, tn21, tn22, tn23, tn24, tn25, tn26, tn27, gI_sI, gI_sA, gI_sAs, gI_sR, gI_sJ, gA_sI, gA_sA, gA_sAs, gA_sR, gA_sJ, gR_sI, gR_sA, gR_sAs, gR_sR, gR_sJ, gJ_sI, gJ_sA, gJ_sAs, gJ_sR, gJ_sJ]
    · simp (disch := omega) only [f_M_notes_47_b, if_true, if_false, and_true, true_and, and_false, false_and, and_self, nm_eq, bd_eq, i0, i1, i2, i3, i4, i5, i6, i7, i8, i9, i10, i11, i12, i17, i20, i21, i26, i27, i32, i34, i48, i54, i57, i59, i64, i98, i99, i100, i106, i107, i114, i119, i120, i121, i141, i243, i255, i270, i340, i680, i999, i1000000, iz_add, iz_sub, iz_mul, iz_neg, iz_lt, iz_le, iz_eq, if_pos, if_neg, ix_iz, Int.toNat_natCast, tn0, tn1, tn2, tn3, tn4, tn5, tn6, tn7, tn8, tn9, tn10, tn11, tn12, tn13, tn14, tn15, tn16, tn17, tn18, tn19, tn20, tn21, tn22, tn23, tn24, tn25, tn26, tn27, gI_sI, gI_sA, gI_sAs, gI_sR, gI_sJ, gA_sI, gA_sA, gA_sAs, gA_sR, gA_sJ, gR_sI, gR_sA, gR_sAs, gR_sR, gR_sJ, gJ_sI, gJ_sA, gJ_sAs, gJ_sR, gJ_sJ]
  unfold f_M_notes
  by_cases q : k < 10
  · rw [if_pos q, if_neg (by rw [h3, i10, iz_eq (by omega) (by omega) (by decide) (by decide)]; omega)]
    exact key τ k q h3
  · rw [if_neg q, if_pos (by rw [h3, i10, iz_eq (by omega) (by omega) (by decide) (by decide)]; omega)]
    unfold f_M_notes_11
    rw [i0, lp_copy (E := fun s => f_M_notes_39 s) τ 7 7 27 0 243 (by decide) (Or.inr (by decide)) (fun f j hj => ?_) (fun f => ?_)]
    · unfold f_M_notes_39
      rw [nm_eq, key _ 9 (by decide) (by rw [gI_sI, if_pos ⟨rfl, rfl⟩, i9]; rfl)]
      rw [gA_sI, gA_sI, gA_sAs, gA_sAs, if_neg (by decide), if_pos rfl]
      rfl
    · have e : (j : Int) + 27 = ((27 + j : Nat) : Int) := by omega
      have e0 : 0 + j = j := Nat.zero_add j
      simp (disch := omega) only [f_M_notes_11_b, e, e0, if_true, if_false, and_true, true_and, and_false, false_and, and_self, nm_eq, bd_eq, i0, i1, i2, i3, i4, i5, i6, i7, i8, i9, i10, i11, i12, i17, i20, i21, i26, i27, i32, i34, i48, i54, i57, i59, i64, i98, i99, i100, i106, i107, i114, i119, i120, i121, i141, i243, i255, i270, i340, i680, i999, i1000000, iz_add, iz_sub, iz_mul, iz_neg, iz_lt, iz_le, iz_eq, if_pos, if_neg, ix_iz, Int.toNat_natCast, tn0, tn1, tn2, tn3, tn4, tn5, tn6, tn7, tn8, tn9, tn10, tn11, tn12, tn13, tn14, tn15, tn16, tn17, tn18, tn19, tn20, tn21, tn22, tn23, tn24, tn25, tn26, tn27, gI_sI, gI_sA, gI_sAs, gI_sR, gI_sJ, gA_sI, gA_sA, gA_sAs, gA_sR, gA_sJ, gR_sI, gR_sA, gR_sAs, gR_sR, gR_sJ, gJ_sI, gJ_sA, gJ_sAs, gJ_sR, gJ_sJ]
    · simp (disch := omega) only [f_M_notes_11_b, if_true, if_false, and_true, true_and, and_false, false_and, and_self, nm_eq, bd_eq, i0, i1, i2, i3, i4, i5, i6, i7, i8, i9, i10, i11, i12, i17, i20, i21, i26, i27, i32, i34, i48, i54, i57, i59, i64, i98, i99, i100, i106, i107, i114, i119, i120, i121, i141, i243, i255, i270, i340, i680, i999, i1000000, iz_add, iz_sub, iz_mul, iz_neg, iz_lt, iz_le, iz_eq, if_pos, if_neg, ix_iz, Int.toNat_natCast, tn0, tn1, tn2, tn3, tn4, tn5, tn6, tn7, tn8, tn9, tn10, tn11, tn12, tn13, tn14, tn15, tn16, tn17, tn18, tn19, tn20, tn21, tn22, tn23, tn24, tn25, tn26, tn27, gI_sI, gI_sA, gI_sAs, gI_sR, gI_sJ, gA_sI, gA_sA, gA_sAs, gA_sR, gA_sJ, gR_sI, gR_sA, gR_sAs, gR_sR, gR_sJ, gJ_sI, gJ_sA, gJ_sAs, gJ_sR, gJ_sJ]
theorem MM.cpy {g : Nat → Bool} {Y : Prop} {f gg : Nat → Int32} {o : Nat} {m : Nat → Int} (hg : ∀ c, g c = true → c < 20) (h : MM g f m) : MM g (fun j => va_cpy f gg 0 o 27 (o + j)) m := by
  refine ⟨fun k hk => ?_, fun c hc => ?_⟩
  · show va_cpy f gg 0 o 27 (o + k) = _
    rw [pk_cpy_in (by omega) (by omega), show 0 + (o + k - o) = k by omega]
    exact h.1 k hk
  · have := hg c hc
    show va_cpy f gg 0 o 27 (o + (7 + c)) = _
    rw [pk_cpy_in (by omega) (by omega), show 0 + (o + (7 + c) - o) = 7 + c by omega]
    exact h.2 c hc
theorem MM.congr {g : Nat → Bool} {f f' : Nat → Int32} {m : Nat → Int} (hg : ∀ c, g c = true → c < 20) (h : MM g f m) (e : ∀ j, j < 27 → f' j = f j) : MM g f' m := ⟨fun k hk => (e k (by omega)).trans (h.1 k hk), fun c hc => (e (7 + c) (by have := hg c hc; omega)).trans (h.2 c hc)⟩
theorem save_both {W R : Nat} {g : Nat → Bool} {lim lea st : Int} {m : Nat → Int} {n : Nat} {σ τ : Mm} (H : RelY W R g lim lea st m n σ τ) : ∃ σ' τ', f_Hi_save σ 36 = some (0, σ') ∧ f_M_notes τ = some (0, τ') ∧ RelY W R g lim lea st m n σ' τ' ∧ gI τ' 0 21 = gI τ 0 21 ∧ gI τ' 0 22 = gI τ 0 22 := by
  obtain ⟨h1, h2, h3, h4, h5, h6, h7, h8, h9, h10, h11, h12, h13, h14⟩ := H
  obtain ⟨k, w, k1, k2, k3, k4, k5, k6⟩ := h9
  have hg : ∀ c, g c = true → c < 20 := fun c hc => (h1.2.2.2.2.2.2.1 c hc).1
  have hw : 36 + 3 < 40 + 4 * ((w + 1) % 10) := by omega
  generalize hσ : sI (bec (sI σ 16 1 (iz ((w + 1) % 10 : Nat))) (40 + 4 * ((w + 1) % 10)) 36) 16 2 (iz (if k < 10 then k + 1 else 10 : Nat)) = σ'
  have fT : f_Hi_save σ 36 = some (0, σ') := by rw [← hσ]; exact t_save k1 k2 k3 k5
  have sI' : ∀ c q, c ≠ 16 → c ≠ 40 + 4 * ((w + 1) % 10) → gI σ' c q = gI σ c q := fun c q a b => by
    rw [← hσ, gI_sI, if_neg (fun z => a z.1), bec_I b, gI_sI, if_neg (fun z => a z.1)]
  have sA' : ∀ c, (c ≤ 40 + 4 * ((w + 1) % 10) ∨ 40 + 4 * ((w + 1) % 10) + 3 < c) → gA σ' c = gA σ c := fun c b => by
    rw [← hσ, gA_sI, bec_A b, gA_sI]
  have sM : ∀ b m', (b + 3 < 40 + 4 * ((w + 1) % 10) ∨ 40 + 4 * ((w + 1) % 10) + 3 < b) → b ≠ 16 → MT g σ b m' → MT g σ' b m' := fun b m' hb hb2 hm => hm.ext (fun q => sI' b q hb2 (by omega)) (sA' _ (by omega)) (sA' _ (by omega)) (sA' _ (by omega))
  have sN : MT g σ' (40 + 4 * ((w + 1) % 10)) m := by
    have q := bec_MT (σ := sI σ 16 1 (iz ((w + 1) % 10 : Nat))) (r0 := 40 + 4 * ((w + 1) % 10)) (r1 := 36) (by omega) (h6.ext (σ' := sI σ 16 1 (iz ((w + 1) % 10 : Nat))) (fun q => by rw [gI_sI, if_neg (fun z => by omega)]) rfl rfl rfl)
    rw [← hσ]
    exact q.ext (fun q => by rw [gI_sI, if_neg (fun z => by omega)]) rfl rfl rfl
  have sw : gI σ' 16 1 = iz ((w + 1) % 10 : Nat) := by
    rw [← hσ, gI_sI, if_neg (by decide), bec_I (by omega), gI_sI, if_pos ⟨rfl, rfl⟩]
  have sk : gI σ' 16 2 = iz (if k < 10 then k + 1 else 10 : Nat) := by rw [← hσ, gI_sI, if_pos ⟨rfl, rfl⟩]
  have sR' : ∀ c q, gR σ' c q = gR σ c q := fun c q => by rw [← hσ]; rfl
  have sJ' : gJ σ' = gJ σ := by rw [← hσ]; rfl
  obtain ⟨τ', fM, t1, t2, t3, t4, t5, t6⟩ : ∃ τ', f_M_notes τ = some (0, τ') ∧ (∀ q, q ≠ 18 → gI τ' 0 q = gI τ 0 q) ∧ (∀ c, c ≠ 7 → gA τ' c = gA τ c) ∧ gI τ' 0 18 = iz (if k < 10 then k + 1 else 10 : Nat) ∧ MM g (fun j => gA τ' 7 (27 * ((if k < 10 then k + 1 else 10) - 1) + j)) m ∧ (∀ i m', i + 1 < (if k < 10 then k + 1 else 10) → MM g (fun j => gA τ 7 (27 * (k - 1 - i) + j)) m' → MM g (fun j => gA τ' 7 (27 * ((if k < 10 then k + 1 else 10) - 1 - (i + 1)) + j)) m') ∧ gJ τ' = gJ τ := by
    by_cases q : k < 10
    · simp only [if_pos q]
      refine ⟨sI (sAs τ 7 (va_cpy (gA τ 4) (gA τ 7) 0 (27 * k) 27)) 0 18 (iz (k + 1 : Nat)), by rw [m_notes k1 k4, if_pos q], fun z hz => ?_, fun c hc => ?_, ?_, ?_, fun i m' hi hm => ?_, rfl⟩
      · rw [gI_sI, if_neg (fun y => hz y.2), gI_sAs]
      · rw [gA_sI, gA_sAs, if_neg hc]
      · rw [gI_sI, if_pos ⟨rfl, rfl⟩]
      · rw [gA_sI, gA_sAs, if_pos rfl, show k + 1 - 1 = k by omega]
        exact MM.cpy (Y := True) hg h5
      · rw [gA_sI, gA_sAs, if_pos rfl]
        refine hm.congr hg (fun j hj => ?_)
        rw [pk_cpy_out (by omega)]
        congr 1
        omega
    · simp only [if_neg q]
      refine ⟨sI (sAs (sI (sAs τ 7 (va_cpy (gA τ 7) (gA τ 7) 27 0 243)) 0 18 9) 7 (va_cpy (gA τ 4) (va_cpy (gA τ 7) (gA τ 7) 27 0 243) 0 243 27)) 0 18 (iz 10), by rw [m_notes k1 k4, if_neg q], fun z hz => ?_, fun c hc => ?_, ?_, ?_, fun i m' hi hm => ?_, rfl⟩
      · rw [gI_sI, if_neg (fun y => hz y.2), gI_sAs, gI_sI, if_neg (fun y => hz y.2), gI_sAs]
      · rw [gA_sI, gA_sAs, if_neg hc, gA_sI, gA_sAs, if_neg hc]
      · rw [gI_sI, if_pos ⟨rfl, rfl⟩]; rfl
      · rw [gA_sI, gA_sAs, if_pos rfl]
        exact MM.cpy (Y := True) hg h5
      · rw [gA_sI, gA_sAs, if_pos rfl]
        refine hm.congr hg (fun j hj => ?_)
        rw [pk_cpy_out (by omega), pk_cpy_in (by omega) (by omega)]
        congr 1
        omega
  refine ⟨σ', τ', fT, fM, ⟨h1, ?_, ?_, h4, ?_, sM 36 m (by omega) (by decide) h6, ?_, ?_, ?_, ?_, ?_, ?_, ?_, ?_⟩, t1 21 (by decide), t1 22 (by decide)⟩
  · exact h2.ext' (t1 11 (by decide)) (t2 2 (by decide))
  · exact h3.mv (sR' _ _) (sR' _ _) (fun q => sI' 7 q (by decide) (by omega)) (fun q => sI' 9 q (by decide) (by omega))
  · rw [t2 4 (by decide)]; exact h5
  · rw [sI' 11 2 (by decide) (by omega), sI' 11 3 (by decide) (by omega)]; exact h7
  · unfold NB; rw [sA' 12 (by omega)]; exact h8
  · refine ⟨if k < 10 then k + 1 else 10, (w + 1) % 10, by split <;> omega, by omega, sk, t3, sw, fun i hi => ?_⟩
    match i with
    | 0 => 
      refine ⟨m, h4, ?_, ?_⟩
      · rw [show ((w + 1) % 10 + 10 - 0) % 10 = (w + 1) % 10 by omega]; exact sN
      · exact t4
    | i + 1 =>
      have hk : i < k := by
        by_cases q : k < 10
        · rw [if_pos q] at hi; omega
        · rw [if_neg q] at hi; omega
      have hi9 : i + 1 < 10 := by
        by_cases q : k < 10
        · rw [if_pos q] at hi; omega
        · rw [if_neg q] at hi; omega
      obtain ⟨m', a1, a2, a3⟩ := k6 i hk
      refine ⟨m', a1, ?_, t5 i m' hi a3⟩
      rw [show ((w + 1) % 10 + 10 - (i + 1)) % 10 = (w + 10 - i) % 10 by omega]
      exact sM _ m' (by omega) (by omega) a2
  · intro i hi
    rw [sA' 19 (by omega), t2 6 (by decide), t2 5 (by decide)]
    rcases h10 i hi with z | ⟨a1, a2, m', a3, a4, a5⟩
    · exact Or.inl z
    · exact Or.inr ⟨a1, a2, m', a3, sM _ m' (by omega) (by omega) a4, a5⟩
  · unfold Rtold; rw [sI' 0 11 (by decide) (by omega), t1 20 (by decide), sA' 20 (by omega), t2 8 (by decide)]; exact h11
  · unfold Rtext; rw [sI' 1 1 (by decide) (by omega), t1 3 (by decide), sA' 2 (by omega), t2 1 (by decide)]; exact h12
  · rw [sJ', t6]; exact h13
  · unfold Rparts; rw [sR' 33 0, sR' 33 1]; exact h14
