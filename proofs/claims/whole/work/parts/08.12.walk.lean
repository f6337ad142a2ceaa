-- ===== TippedBarrow.count(I)I
theorem ca_X9_count : Ca yX9_count cX9_count 2 (some .int) wsX9_count rm_X9_count 1 := ⟨⟨_, rfl⟩, rfl, rfl, by decide +kernel, by decide +kernel, by decide +kernel⟩
theorem in_X9_count_X5 : ∀ w ∈ wsX50, w ∈ wsX9_count := by decide +kernel
theorem in_X9_count_X7 : ∀ w ∈ wsX70, w ∈ wsX9_count := by decide +kernel
theorem in_X9_count_X9 : ∀ w ∈ wsX90, w ∈ wsX9_count := by decide +kernel
theorem fl_X9_count_12 : Fl RX9 wsX9_count 12 9 0 true (.object "TippedBarrow$Text") := ⟨_, _, _, tyX9, rfl, in_X9_count_X9, by decide, by decide +kernel, tyX9_ok, nmX9, rfl, tyX9_ok 0 (by decide)⟩
theorem fl_X9_count_28 : Fl RX9 wsX9_count 28 9 2 false (.object "TippedBarrow$Plan") := ⟨_, _, _, tyX9, rfl, in_X9_count_X9, by decide, by decide +kernel, tyX9_ok, nmX9, rfl, tyX9_ok 2 (by decide)⟩
theorem fl_X9_count_101 : Fl RX9 wsX9_count 101 7 1 false .int := ⟨_, _, _, tyX7, rfl, in_X9_count_X7, by decide, by decide +kernel, tyX7_ok, nmX7, rfl, tyX7_ok 1 (by decide)⟩
theorem fl_X9_count_109 : Fl RX9 wsX9_count 109 5 4 false .int := ⟨_, _, _, tyX5, rfl, in_X9_count_X5, by decide, by decide +kernel, tyX5_ok, nmX5, rfl, tyX5_ok 4 (by decide)⟩
theorem fl_X9_count_113 : Fl RX9 wsX9_count 113 5 5 false .int := ⟨_, _, _, tyX5, rfl, in_X9_count_X5, by decide, by decide +kernel, tyX5_ok, nmX5, rfl, tyX5_ok 5 (by decide)⟩
theorem fl_X9_count_127 : Fl RX9 wsX9_count 127 9 11 false .int := ⟨_, _, _, tyX9, rfl, in_X9_count_X9, by decide, by decide +kernel, tyX9_ok, nmX9, rfl, tyX9_ok 11 (by decide)⟩
theorem fl_X9_count_153 : Fl RX9 wsX9_count 153 5 3 false .int := ⟨_, _, _, tyX5, rfl, in_X9_count_X5, by decide, by decide +kernel, tyX5_ok, nmX5, rfl, tyX5_ok 3 (by decide)⟩
theorem fl_X9_count_253 : Fl RX9 wsX9_count 253 5 1 false .int := ⟨_, _, _, tyX5, rfl, in_X9_count_X5, by decide, by decide +kernel, tyX5_ok, nmX5, rfl, tyX5_ok 1 (by decide)⟩
theorem fl_X9_count_256 : Fl RX9 wsX9_count 256 5 2 false .int := ⟨_, _, _, tyX5, rfl, in_X9_count_X5, by decide, by decide +kernel, tyX5_ok, nmX5, rfl, tyX5_ok 2 (by decide)⟩
set_option maxHeartbeats 4000000 in
set_option maxRecDepth 100000 in
theorem v_T_count {Γ : Cx} {ad : Nat → Nat} {rr : Int32} {σr : Mm} (O : Ok LT Γ ad cX9_count 2 RX9 wsX9_count rm_X9_count (some .int) (some (.int rr)) σr) {σ : Mm} {v1 : Int32}  (hf : f_T_count σ v1 = some (rr, σr)) : X LT Γ ad σ 0 [(0, .ref (ad 0)), (1, .int v1)] [] := by
  unfold f_T_count at hf
  refine x_iload_n O 1 dX9_count_0 rfl rfl ?_
  by_cases e0 : v1 = 0
  · rw [if_pos e0] at hf
    have hg9 := hf
    subst e0
    have hf := hg9
    refine x_tableIn O 44 dX9_count_1 (by decide) (by decide) rfl (by decide) ?_
    refine x_aload_n O 0 dX9_count_44 rfl rfl ?_
    refine x_getR O hf fl_X9_count_28 rfl dX9_count_45 (fun t5 ht5 hf => ?_)
    refine x_getI O fl_X9_count_253 (fk_of (fkPl ht5) rfl) dX9_count_48 ?_
    have hk : ((gI σ t5 1), σ) = (rr, σr) := Option.some.inj hf
    obtain ⟨rfl, rfl⟩ := Prod.mk.inj hk
    exact x_iret O rfl rfl ⟨_, rfl, rfl⟩ dX9_count_51
  · rw [if_neg e0] at hf
    by_cases e1 : v1 = 1
    · rw [if_pos e1] at hf
      have hg9 := hf
      subst e1
      have hf := hg9
      refine x_tableIn O 52 dX9_count_1 (by decide) (by decide) rfl (by decide) ?_
      refine x_aload_n O 0 dX9_count_52 rfl rfl ?_
      refine x_getR O hf fl_X9_count_28 rfl dX9_count_53 (fun t4 ht4 hf => ?_)
      refine x_getI O fl_X9_count_256 (fk_of (fkPl ht4) rfl) dX9_count_56 ?_
      have hk : ((gI σ t4 2), σ) = (rr, σr) := Option.some.inj hf
      obtain ⟨rfl, rfl⟩ := Prod.mk.inj hk
      exact x_iret O rfl rfl ⟨_, rfl, rfl⟩ dX9_count_59
    · rw [if_neg e1] at hf
      by_cases e2 : v1 = 2
      · rw [if_pos e2] at hf
        have hg9 := hf
        subst e2
        have hf := hg9
        refine x_tableIn O 60 dX9_count_1 (by decide) (by decide) rfl (by decide) ?_
        refine x_aload_n O 0 dX9_count_60 rfl rfl ?_
        refine x_getR O hf fl_X9_count_28 rfl dX9_count_61 (fun t3 ht3 hf => ?_)
        refine x_getI O fl_X9_count_153 (fk_of (fkPl ht3) rfl) dX9_count_64 ?_
        have hk : ((gI σ t3 3), σ) = (rr, σr) := Option.some.inj hf
        obtain ⟨rfl, rfl⟩ := Prod.mk.inj hk
        exact x_iret O rfl rfl ⟨_, rfl, rfl⟩ dX9_count_67
      · rw [if_neg e2] at hf
        by_cases e3 : v1 = 3
        · rw [if_pos e3] at hf
          have hg9 := hf
          subst e3
          have hf := hg9
          refine x_tableIn O 68 dX9_count_1 (by decide) (by decide) rfl (by decide) ?_
          refine x_aload_n O 0 dX9_count_68 rfl rfl ?_
          refine x_getR O hf fl_X9_count_28 rfl dX9_count_69 (fun t2 ht2 hf => ?_)
          refine x_getI O fl_X9_count_109 (fk_of (fkPl ht2) rfl) dX9_count_72 ?_
          have hk : ((gI σ t2 4), σ) = (rr, σr) := Option.some.inj hf
          obtain ⟨rfl, rfl⟩ := Prod.mk.inj hk
          exact x_iret O rfl rfl ⟨_, rfl, rfl⟩ dX9_count_75
        · rw [if_neg e3] at hf
          by_cases e4 : v1 = 4
          · rw [if_pos e4] at hf
            have hg9 := hf
            subst e4
            have hf := hg9
            refine x_tableIn O 76 dX9_count_1 (by decide) (by decide) rfl (by decide) ?_
            refine x_aload_n O 0 dX9_count_76 rfl rfl ?_
            refine x_getR O hf fl_X9_count_28 rfl dX9_count_77 (fun t1 ht1 hf => ?_)
            refine x_getI O fl_X9_count_113 (fk_of (fkPl ht1) rfl) dX9_count_80 ?_
            refine x_iconst O (v := 2) dX9_count_83 (by decide) ?_
            refine x_iadd O dX9_count_84 ?_
            have hk : (((gI σ t1 5) + 2), σ) = (rr, σr) := Option.some.inj hf
            obtain ⟨rfl, rfl⟩ := Prod.mk.inj hk
            exact x_iret O rfl rfl ⟨_, rfl, rfl⟩ dX9_count_85
          · rw [if_neg e4] at hf
            by_cases e5 : v1 = 5
            · rw [if_pos e5] at hf
              have hg9 := hf
              subst e5
              have hf := hg9
              refine x_tableIn O 86 dX9_count_1 (by decide) (by decide) rfl (by decide) ?_
              refine x_aload_n O 0 dX9_count_86 rfl rfl ?_
              refine x_getI O fl_X9_count_127 rfl dX9_count_87 ?_
              have hk : ((gI σ 0 11), σ) = (rr, σr) := Option.some.inj hf
              obtain ⟨rfl, rfl⟩ := Prod.mk.inj hk
              exact x_iret O rfl rfl ⟨_, rfl, rfl⟩ dX9_count_90
            · rw [if_neg e5] at hf
              by_cases e6 : v1 = 6
              · rw [if_pos e6] at hf
                have hg9 := hf
                subst e6
                have hf := hg9
                refine x_tableIn O 91 dX9_count_1 (by decide) (by decide) rfl (by decide) ?_
                refine x_aload_n O 0 dX9_count_91 rfl rfl ?_
                refine x_getF O (t := 1) fl_X9_count_12 rfl dX9_count_92 ?_
                refine x_getI O fl_X9_count_101 rfl dX9_count_95 ?_
                have hk : ((gI σ 1 1), σ) = (rr, σr) := Option.some.inj hf
                obtain ⟨rfl, rfl⟩ := Prod.mk.inj hk
                exact x_iret O rfl rfl ⟨_, rfl, rfl⟩ dX9_count_98
              · rw [if_neg e6] at hf
                refine x_tableOut O 99 dX9_count_1 (tb_out (x := v1) (hi := 6) (by decide) (fun k hk => by rcases (show k = 0 ∨ k = 1 ∨ k = 2 ∨ k = 3 ∨ k = 4 ∨ k = 5 ∨ k = 6 by omega) with rfl | rfl | rfl | rfl | rfl | rfl | rfl <;> first | exact e0 | exact e1 | exact e2 | exact e3 | exact e4 | exact e5 | exact e6)) (by decide) ?_
                refine x_iconst O (v := -1) dX9_count_99 (by decide) ?_
                have hk : ((-1), σ) = (rr, σr) := Option.some.inj hf
                obtain ⟨rfl, rfl⟩ := Prod.mk.inj hk
                exact x_iret O rfl rfl ⟨_, rfl, rfl⟩ dX9_count_100
theorem k_T_count {σ σr : Mm} {rr : Int32} {v1 : Int32}  (hf : f_T_count σ v1 = some (rr, σr)) : CT LT yX9_count wsX9_count rm_X9_count (fun ad => [.ref (ad 0), .int v1]) σ (some (.int rr)) σr := CT_of2 (cc := cX9_count) (maxL := 2) (rt := (some .int)) (own := RX9) (by decide) rfl rfl (fun _ => Nat.le_of_ble_eq_true rfl) (fun _ => rfl) (fun Γ ad O => v_T_count O  hf)

-- ===== TippedBarrow.trace()J
theorem ca_X9_trace : Ca yX9_trace cX9_trace 1 (some .long) wsX9_trace rm_X9_trace 0 := ⟨⟨_, rfl⟩, rfl, rfl, by decide +kernel, by decide +kernel, by decide +kernel⟩
theorem in_X9_trace_X9 : ∀ w ∈ wsX90, w ∈ wsX9_trace := by decide +kernel
theorem fl_X9_trace_259 : Fl RX9 wsX9_trace 259 9 12 false .long := ⟨_, _, _, tyX9, rfl, in_X9_trace_X9, by decide, by decide +kernel, tyX9_ok, nmX9, rfl, tyX9_ok 12 (by decide)⟩
set_option maxHeartbeats 4000000 in
set_option maxRecDepth 100000 in
theorem v_T_trace {Γ : Cx} {ad : Nat → Nat} {rr : Int64} {σr : Mm} (O : Ok LT Γ ad cX9_trace 1 RX9 wsX9_trace rm_X9_trace (some .long) (some (.long rr)) σr) {σ : Mm}   (hf : f_T_trace σ = some (rr, σr)) : X LT Γ ad σ 0 [(0, .ref (ad 0))] [] := by
  unfold f_T_trace at hf
  refine x_aload_n O 0 dX9_trace_0 rfl rfl ?_
  refine x_getJ O fl_X9_trace_259 rfl dX9_trace_1 ?_
  have hk : ((gJ σ), σ) = (rr, σr) := Option.some.inj hf
  obtain ⟨rfl, rfl⟩ := Prod.mk.inj hk
  exact x_lret O rfl rfl rfl dX9_trace_4
theorem k_T_trace {σ σr : Mm} {rr : Int64}   (hf : f_T_trace σ = some (rr, σr)) : CT LT yX9_trace wsX9_trace rm_X9_trace (fun ad => [.ref (ad 0)]) σ (some (.long rr)) σr := CT_of2 (cc := cX9_trace) (maxL := 1) (rt := (some .long)) (own := RX9) (by decide) rfl rfl (fun _ => Nat.le_of_ble_eq_true rfl) (fun _ => rfl) (fun Γ ad O => v_T_trace O  hf)
