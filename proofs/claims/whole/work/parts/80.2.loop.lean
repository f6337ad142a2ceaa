/-! the law's loop -/
section LOOP
variable {p : Program} {l : Launch} {e : Env} {s : State} {m : MethodId} {below : List Frame} {meth : Method} {c : Code} {D : va_G} {cy : Nat → ClassId} {b L : Nat} {xs : Nat → Int32} {adT adM : Nat → Nat} {σ τ : Mm} {i n : Nat}
theorem Rel.up {n : Nat} {σ τ : Mm} (h : Rel n σ τ) : Rel (n + 1) σ τ := h.ext (Nat.le_succ _) eqT.rfl eqM.rfl
theorem law_exit (O : OkL p s m meth c D cy b L xs adT adM) : XL p l e s m below meth c D cy b adT adM σ τ 676 i [] := by
  intro H locs ls _ _ hS hl
  refine lv_iconst (v := 1) O.1 O.2.1 dL_law_676 (by decide) ?_
  refine va_forget (fun q hq => hS.2.2 q hq) ?_
  exact lw_ret O.1 O.2.1 O.2.2.1 O.2.2.2.2.2.2.2.1 dL_law_677
theorem law_670 (O : OkL p s m meth c D cy b L xs adT adM) (kk : XL p l e s m below meth c D cy b adT adM σ τ 18 (i + 4) []) : XL p l e s m below meth c D cy b adT adM σ τ 670 i [] := by
  intro H locs ls hT hM hS hl
  refine lv_iinc (k := 0) (lv' := [(3, .int (nI (i + 4))), (2, .ref (adM 0)), (1, .ref (adT 0)), (0, .ref b)]) O.1 O.2.1 dL_law_670 hl rfl (by rw [nI_iz, nI_iz]; show iz (i : Int) + iz 4 = iz ((i + 4 : Nat) : Int); rw [iz_add]; rfl) (by decide) rfl (fun ls hl => ?_)
  refine lv_goto (tgt := 18) O.1 O.2.1 dL_law_673 (by decide) ?_
  exact kk H locs ls hT hM hS hl
theorem law_sw (O : OkL p s m meth c D cy b L xs adT adM) (hR : Rel n σ τ) (hn : n < 512) (hi : i + 4 ≤ L) (kk : ∀ σ' τ', Rel (n + 1) σ' τ' → XL p l e s m below meth c D cy b adT adM σ' τ' 670 i []) (x : Int32) : XL p l e s m below meth c D cy b adT adM σ τ 32 i [.int x] := by
  by_cases h0 : x = 0
  · subst h0
    intro H locs ls hT hM hS hl
    exact lv_tableIn (tgt := 140) O.1 O.2.1 dL_law_32 (by decide) (by decide) rfl (by decide) (lc_type O hR hn hi kk H locs ls hT hM hS hl)
  by_cases h1 : x = 1
  · subst h1
    intro H locs ls hT hM hS hl
    exact lv_tableIn (tgt := 163) O.1 O.2.1 dL_law_32 (by decide) (by decide) rfl (by decide) (lc_clear O hR hn hi kk H locs ls hT hM hS hl)
  by_cases h2 : x = 2
  · subst h2
    intro H locs ls hT hM hS hl
    exact lv_tableIn (tgt := 176) O.1 O.2.1 dL_law_32 (by decide) (by decide) rfl (by decide) (lc_yard O hR hn hi kk H locs ls hT hM hS hl)
  by_cases h3 : x = 3
  · subst h3
    intro H locs ls hT hM hS hl
    exact lv_tableIn (tgt := 189) O.1 O.2.1 dL_law_32 (by decide) (by decide) rfl (by decide) (lc_tilt O hR hn hi kk H locs ls hT hM hS hl)
  by_cases h4 : x = 4
  · subst h4
    intro H locs ls hT hM hS hl
    exact lv_tableIn (tgt := 222) O.1 O.2.1 dL_law_32 (by decide) (by decide) rfl (by decide) (lc_now O hR hn hi kk H locs ls hT hM hS hl)
  by_cases h5 : x = 5
  · subst h5
    intro H locs ls hT hM hS hl
    exact lv_tableIn (tgt := 245) O.1 O.2.1 dL_law_32 (by decide) (by decide) rfl (by decide) (lc_pushes O hR hn hi kk H locs ls hT hM hS hl)
  by_cases h6 : x = 6
  · subst h6
    intro H locs ls hT hM hS hl
    exact lv_tableIn (tgt := 268) O.1 O.2.1 dL_law_32 (by decide) (by decide) rfl (by decide) (lc_objects O hR hn hi kk H locs ls hT hM hS hl)
  by_cases h7 : x = 7
  · subst h7
    intro H locs ls hT hM hS hl
    exact lv_tableIn (tgt := 281) O.1 O.2.1 dL_law_32 (by decide) (by decide) rfl (by decide) (lc_evens O hR hn hi kk H locs ls hT hM hS hl)
  by_cases h8 : x = 8
  · subst h8
    intro H locs ls hT hM hS hl
    exact lv_tableIn (tgt := 324) O.1 O.2.1 dL_law_32 (by decide) (by decide) rfl (by decide) (lc_undo O hR hn hi kk H locs ls hT hM hS hl)
  by_cases h9 : x = 9
  · subst h9
    intro H locs ls hT hM hS hl
    exact lv_tableIn (tgt := 337) O.1 O.2.1 dL_law_32 (by decide) (by decide) rfl (by decide) (lc_would O hR hn hi kk H locs ls hT hM hS hl)
  by_cases h10 : x = 10
  · subst h10
    intro H locs ls hT hM hS hl
    exact lv_tableIn (tgt := 360) O.1 O.2.1 dL_law_32 (by decide) (by decide) rfl (by decide) (lc_game O hR hn hi kk H locs ls hT hM hS hl)
  by_cases h11 : x = 11
  · subst h11
    intro H locs ls hT hM hS hl
    exact lv_tableIn (tgt := 383) O.1 O.2.1 dL_law_32 (by decide) (by decide) rfl (by decide) (lc_advice O hR hn hi kk H locs ls hT hM hS hl)
  by_cases h12 : x = 12
  · subst h12
    intro H locs ls hT hM hS hl
    exact lv_tableIn (tgt := 396) O.1 O.2.1 dL_law_32 (by decide) (by decide) rfl (by decide) (lc_soonest O hR hn hi kk H locs ls hT hM hS hl)
  by_cases h13 : x = 13
  · subst h13
    intro H locs ls hT hM hS hl
    exact lv_tableIn (tgt := 429) O.1 O.2.1 dL_law_32 (by decide) (by decide) rfl (by decide) (lc_odds O hR hn hi kk H locs ls hT hM hS hl)
  by_cases h14 : x = 14
  · subst h14
    intro H locs ls hT hM hS hl
    exact lv_tableIn (tgt := 472) O.1 O.2.1 dL_law_32 (by decide) (by decide) rfl (by decide) (lc_decides O hR hn hi kk H locs ls hT hM hS hl)
  by_cases h15 : x = 15
  · subst h15
    intro H locs ls hT hM hS hl
    exact lv_tableIn (tgt := 485) O.1 O.2.1 dL_law_32 (by decide) (by decide) rfl (by decide) (lc_tells O hR hn hi kk H locs ls hT hM hS hl)
  by_cases h16 : x = 16
  · subst h16
    intro H locs ls hT hM hS hl
    exact lv_tableIn (tgt := 508) O.1 O.2.1 dL_law_32 (by decide) (by decide) rfl (by decide) (lc_forget O hR hn hi kk H locs ls hT hM hS hl)
  by_cases h17 : x = 17
  · subst h17
    intro H locs ls hT hM hS hl
    exact lv_tableIn (tgt := 521) O.1 O.2.1 dL_law_32 (by decide) (by decide) rfl (by decide) (lc_leanings O hR hn hi kk H locs ls hT hM hS hl)
  by_cases h18 : x = 18
  · subst h18
    intro H locs ls hT hM hS hl
    exact lv_tableIn (tgt := 544) O.1 O.2.1 dL_law_32 (by decide) (by decide) rfl (by decide) (lc_rate O hR hn hi kk H locs ls hT hM hS hl)
  by_cases h19 : x = 19
  · subst h19
    intro H locs ls hT hM hS hl
    exact lv_tableIn (tgt := 587) O.1 O.2.1 dL_law_32 (by decide) (by decide) rfl (by decide) (lc_keep O hR hn hi kk H locs ls hT hM hS hl)
  by_cases h20 : x = 20
  · subst h20
    intro H locs ls hT hM hS hl
    exact lv_tableIn (tgt := 610) O.1 O.2.1 dL_law_32 (by decide) (by decide) rfl (by decide) (lc_back O hR hn hi kk H locs ls hT hM hS hl)
  by_cases h21 : x = 21
  · subst h21
    intro H locs ls hT hM hS hl
    exact lv_tableIn (tgt := 633) O.1 O.2.1 dL_law_32 (by decide) (by decide) rfl (by decide) (lc_count O hR hn hi kk H locs ls hT hM hS hl)
  by_cases h22 : x = 22
  · subst h22
    intro H locs ls hT hM hS hl
    exact lv_tableIn (tgt := 656) O.1 O.2.1 dL_law_32 (by decide) (by decide) rfl (by decide) (lc_trace O hR hn hi kk H locs ls hT hM hS hl)
  intro H locs ls hT hM hS hl
  refine lv_tableOut (tgt := 670) O.1 O.2.1 dL_law_32 (tb_out (hi := 22) (by decide) (fun k hk => ?_)) (by decide) (kk σ τ hR.up H locs ls hT hM hS hl)
  rcases (show k = 0 ∨ k = 1 ∨ k = 2 ∨ k = 3 ∨ k = 4 ∨ k = 5 ∨ k = 6 ∨ k = 7 ∨ k = 8 ∨ k = 9 ∨ k = 10 ∨ k = 11 ∨ k = 12 ∨ k = 13 ∨ k = 14 ∨ k = 15 ∨ k = 16 ∨ k = 17 ∨ k = 18 ∨ k = 19 ∨ k = 20 ∨ k = 21 ∨ k = 22 by omega) with rfl | rfl | rfl | rfl | rfl | rfl | rfl | rfl | rfl | rfl | rfl | rfl | rfl | rfl | rfl | rfl | rfl | rfl | rfl | rfl | rfl | rfl | rfl
  · exact h0
  · exact h1
  · exact h2
  · exact h3
  · exact h4
  · exact h5
  · exact h6
  · exact h7
  · exact h8
  · exact h9
  · exact h10
  · exact h11
  · exact h12
  · exact h13
  · exact h14
  · exact h15
  · exact h16
  · exact h17
  · exact h18
  · exact h19
  · exact h20
  · exact h21
  · exact h22
theorem law_26 (O : OkL p s m meth c D cy b L xs adT adM) (hR : Rel n σ τ) (hn : n < 512) (hi : i + 4 ≤ L) (kk : ∀ σ' τ', Rel (n + 1) σ' τ' → XL p l e s m below meth c D cy b adT adM σ' τ' 670 i []) : XL p l e s m below meth c D cy b adT adM σ τ 26 i [] := by
  intro H locs ls hT hM hS hl
  obtain ⟨hX, hbl, hL⟩ := O.2.2.2.2.2.2.1
  refine lv_aload_n O.1 O.2.1 dL_law_26 rfl (lv_at hl 3 rfl) ?_
  refine lv_iload_n O.1 O.2.1 dL_law_27 rfl (lv_at hl 0 rfl) ?_
  refine va_sld O.1 O.2.1 hX hbl (Nat.not_le.mpr hbl) hS (lI_in (by omega) hL) dL_law_28 ?_
  refine lv_bipush (v := 31) O.1 O.2.1 dL_law_29 (by decide) ?_
  refine lv_iand O.1 O.2.1 dL_law_31 ?_
  exact law_sw O hR hn hi kk _ H locs ls hT hM hS hl
theorem law_18 (O : OkL p s m meth c D cy b L xs adT adM) (hiL : i ≤ 4096) (k1 : i + 4 ≤ L → XL p l e s m below meth c D cy b adT adM σ τ 26 i []) : XL p l e s m below meth c D cy b adT adM σ τ 18 i [] := by
  intro H locs ls hT hM hS hl
  obtain ⟨hX, hbl, hL⟩ := O.2.2.2.2.2.2.1
  refine lv_iload_n O.1 O.2.1 dL_law_18 rfl (lv_at hl 0 rfl) ?_
  refine lv_aload_n O.1 O.2.1 dL_law_19 rfl (lv_at hl 3 rfl) ?_
  refine va_slen O.1 O.2.1 hX hbl (Nat.not_le.mpr hbl) hS dL_law_20 ?_
  refine lv_iconst (v := 4) O.1 O.2.1 dL_law_21 (by decide) ?_
  refine lv_isub O.1 O.2.1 dL_law_22 ?_
  have e1 : Int32.ofNat L - 4 = iz ((L : Int) - 4) := by
    show nI L - 4 = _
    rw [nI_iz, i4, iz_sub]
  refine lv_icmp_gt (tgt := 676) O.1 O.2.1 dL_law_23 (by decide) (fun _ => law_exit O H locs ls hT hM hS hl) (fun h => ?_)
  rw [e1, nI_iz, iz_lt (by omega) (by omega) (by omega) (by omega)] at h
  exact k1 (by omega) H locs ls hT hM hS hl
theorem law_loop (O : OkL p s m meth c D cy b L xs adT adM) : ∀ (k n : Nat) (σ τ : Mm), n + k = 513 → Rel n σ τ → XL p l e s m below meth c D cy b adT adM σ τ 18 (4 * n) [] := by
  have hL := O.2.2.2.2.2.2.1.2.2
  intro k
  induction k with
  | zero =>
    intro n σ τ hk hR
    exact law_18 O (by omega) (fun h => by omega)
  | succ k ih =>
    intro n σ τ hk hR
    refine law_18 O (by omega) (fun h => ?_)
    refine law_26 O hR (by omega) h (fun σ' τ' hR' => law_670 O ?_)
    have e : 4 * n + 4 = 4 * (n + 1) := by omega
    rw [e]
    exact ih (n + 1) σ' τ' (by omega) hR'
end LOOP
