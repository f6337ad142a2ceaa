-- ===== TippedBarrow$Moment.begin(LTippedBarrow$Plan;)V
theorem ca_X4_begin : Ca yX4_begin cX4_begin 2 none wsX4_begin rm_X4_begin 1 := ⟨⟨_, rfl⟩, rfl, rfl, by decide +kernel, by decide +kernel, by decide +kernel⟩
theorem in_X4_begin_X4 : ∀ w ∈ wsX40, w ∈ wsX4_begin := by decide +kernel
theorem in_X4_begin_X5 : ∀ w ∈ wsX50, w ∈ wsX4_begin := by decide +kernel
theorem fl_X4_begin_9 : Fl RX4 wsX4_begin 9 4 0 true (.array .int) := ⟨_, _, _, tyX4, rfl, in_X4_begin_X4, by decide, by decide +kernel, tyX4_ok, nmX4, rfl, tyX4_ok 0 (by decide)⟩
theorem fl_X4_begin_15 : Fl RX4 wsX4_begin 15 4 1 true (.array .int) := ⟨_, _, _, tyX4, rfl, in_X4_begin_X4, by decide, by decide +kernel, tyX4_ok, nmX4, rfl, tyX4_ok 1 (by decide)⟩
theorem fl_X4_begin_18 : Fl RX4 wsX4_begin 18 4 2 true (.array .int) := ⟨_, _, _, tyX4, rfl, in_X4_begin_X4, by decide, by decide +kernel, tyX4_ok, nmX4, rfl, tyX4_ok 2 (by decide)⟩
theorem fl_X4_begin_21 : Fl RX4 wsX4_begin 21 4 3 false .int := ⟨_, _, _, tyX4, rfl, in_X4_begin_X4, by decide, by decide +kernel, tyX4_ok, nmX4, rfl, tyX4_ok 3 (by decide)⟩
theorem fl_X4_begin_31 : Fl RX4 wsX4_begin 31 5 0 true (.array .int) := ⟨_, _, _, tyX5, rfl, in_X4_begin_X5, by decide, by decide +kernel, tyX5_ok, nmX5, rfl, tyX5_ok 0 (by decide)⟩
theorem fl_X4_begin_40 : Fl RX4 wsX4_begin 40 5 3 false .int := ⟨_, _, _, tyX5, rfl, in_X4_begin_X5, by decide, by decide +kernel, tyX5_ok, nmX5, rfl, tyX5_ok 3 (by decide)⟩
theorem fl_X4_begin_43 : Fl RX4 wsX4_begin 43 4 4 false .int := ⟨_, _, _, tyX4, rfl, in_X4_begin_X4, by decide, by decide +kernel, tyX4_ok, nmX4, rfl, tyX4_ok 4 (by decide)⟩
theorem fl_X4_begin_46 : Fl RX4 wsX4_begin 46 4 5 false .int := ⟨_, _, _, tyX4, rfl, in_X4_begin_X4, by decide, by decide +kernel, tyX4_ok, nmX4, rfl, tyX4_ok 5 (by decide)⟩
theorem mw_X4_begin_0 : Cond.methodLink RX4 34 arraycopyName ∈ wsX4_begin := by decide +kernel
theorem mw_X4_begin_1 : Cond.native arraycopyName ∈ wsX4_begin := by decide +kernel
theorem mw_X4_begin_2 : Cond.static arraycopyName ∈ wsX4_begin := by decide +kernel
theorem mw_X4_begin_3 : Cond.initialized "java/lang/System" ∈ wsX4_begin := by decide +kernel
set_option maxHeartbeats 4000000 in
set_option maxRecDepth 100000 in
theorem v_Mo_begin {Γ : Cx} {ad : Nat → Nat} {rr : Int32} {σr : Mm} (O : Ok LT Γ ad cX4_begin 2 RX4 wsX4_begin rm_X4_begin none none σr) {σ : Mm} {r0 : Nat} {r1 : Nat} (h0 : okMo r0 = true) (h1 : okPl r1 = true) (hf : f_Mo_begin σ r0 r1 = some (rr, σr)) : X LT Γ ad σ 0 [(0, .ref (ad r0)), (1, .ref (ad r1))] [] := by
  unfold f_Mo_begin at hf
  refine x_aload_n O 1 dX4_begin_0 rfl rfl ?_
  refine x_getF O (t := (r1 + 1)) fl_X4_begin_31 (fk_of (fkPl h1) rfl) dX4_begin_1 ?_
  refine x_iconst O (v := 0) dX4_begin_4 (by decide) ?_
  refine x_aload_n O 0 dX4_begin_5 rfl rfl ?_
  refine x_getF O (t := (r0 + 1)) fl_X4_begin_9 (fk_of (fkMo h0) rfl) dX4_begin_6 ?_
  refine x_iconst O (v := 0) dX4_begin_9 (by decide) ?_
  refine x_bipush O (v := 20) dX4_begin_10 (by decide) ?_
  refine x_copyN O hf mw_X4_begin_0 mw_X4_begin_1 mw_X4_begin_2 mw_X4_begin_3 (arPl h1) (arMo1 h0) (by decide) (by decide) (by decide) (by decide) (by decide) (Nat.le_of_ble_eq_true rfl) (Nat.le_of_ble_eq_true rfl) dX4_begin_12 (fun σ1 hf => ?_)
  refine x_aload_n O 0 dX4_begin_15 rfl rfl ?_
  refine x_getF O (t := (r0 + 2)) fl_X4_begin_15 (fk_of (fkMo h0) rfl) dX4_begin_16 ?_
  refine x_iconst O (v := 0) dX4_begin_19 (by decide) ?_
  obtain ⟨r_1, σ2, hc, hf⟩ := bd_some hf
  refine x_callS O (k_Ar_fill (arMo2 h0) hc) ca_J7_fill_53178 gX4_begin_J7_fill_53178 rfl rfl rfl (Nat.le_of_ble_eq_true rfl) ⟨Nat.le_of_ble_eq_true rfl, Nat.le_of_ble_eq_true rfl⟩ dX4_begin_20 ?_
  refine x_pushN O ?_
  refine x_aload_n O 0 dX4_begin_23 rfl rfl ?_
  refine x_getF O (t := (r0 + 3)) fl_X4_begin_18 (fk_of (fkMo h0) rfl) dX4_begin_24 ?_
  refine x_iconst O (v := 0) dX4_begin_27 (by decide) ?_
  obtain ⟨r_2, σ3, hc, hf⟩ := bd_some hf
  refine x_callS O (k_Ar_fill (arMo3 h0) hc) ca_J7_fill_53178 gX4_begin_J7_fill_53178 rfl rfl rfl (Nat.le_of_ble_eq_true rfl) ⟨Nat.le_of_ble_eq_true rfl, Nat.le_of_ble_eq_true rfl⟩ dX4_begin_28 ?_
  refine x_pushN O ?_
  refine x_aload_n O 0 dX4_begin_31 rfl rfl ?_
  refine x_aload_n O 1 dX4_begin_32 rfl rfl ?_
  refine x_getI O fl_X4_begin_40 (fk_of (fkPl h1) rfl) dX4_begin_33 ?_
  refine x_putIN O hf rfl rfl fl_X4_begin_21 (fk_of (fkMo h0) rfl) dX4_begin_36 (fun σ4 hf => ?_)
  refine x_aload_n O 0 dX4_begin_39 rfl rfl ?_
  refine x_iconst O (v := 0) dX4_begin_40 (by decide) ?_
  refine x_putIN O hf rfl rfl fl_X4_begin_43 (fk_of (fkMo h0) rfl) dX4_begin_41 (fun σ5 hf => ?_)
  refine x_aload_n O 0 dX4_begin_44 rfl rfl ?_
  refine x_iconst O (v := 0) dX4_begin_45 (by decide) ?_
  refine x_putIN O hf rfl rfl fl_X4_begin_46 (fk_of (fkMo h0) rfl) dX4_begin_46 (fun σ6 hf => ?_)
  have hk : ((0 : Int32), σ6) = (rr, σr) := Option.some.inj hf
  obtain ⟨rfl, rfl⟩ := Prod.mk.inj hk
  exact x_vret O rfl rfl rfl dX4_begin_49
theorem k_Mo_begin {σ σr : Mm} {rr : Int32} {r0 : Nat} {r1 : Nat} (h0 : okMo r0 = true) (h1 : okPl r1 = true) (hf : f_Mo_begin σ r0 r1 = some (rr, σr)) : CT LT yX4_begin wsX4_begin rm_X4_begin (fun ad => [.ref (ad r0), .ref (ad r1)]) σ none σr := CT_of2 (cc := cX4_begin) (maxL := 2) (rt := none) (own := RX4) (by decide) rfl rfl (fun _ => Nat.le_of_ble_eq_true rfl) (fun _ => rfl) (fun Γ ad O => v_Mo_begin O h0 h1 hf)

-- ===== TippedBarrow$Ground.isBrick(I)Z
theorem ca_X2_isBrick : Ca yX2_isBrick cX2_isBrick 2 (some .boolean) wsX2_isBrick rm_X2_isBrick 1 := ⟨⟨_, rfl⟩, rfl, rfl, by decide +kernel, by decide +kernel, by decide +kernel⟩
theorem in_X2_isBrick_X2 : ∀ w ∈ wsX20, w ∈ wsX2_isBrick := by decide +kernel
theorem fl_X2_isBrick_19 : Fl RX2 wsX2_isBrick 19 2 0 true (.array .int) := ⟨_, _, _, tyX2, rfl, in_X2_isBrick_X2, by decide, by decide +kernel, tyX2_ok, nmX2, rfl, tyX2_ok 0 (by decide)⟩
set_option maxHeartbeats 4000000 in
set_option maxRecDepth 100000 in
theorem v_Gr_isBrick {Γ : Cx} {ad : Nat → Nat} {rr : Int32} {σr : Mm} (O : Ok LT Γ ad cX2_isBrick 2 RX2 wsX2_isBrick rm_X2_isBrick (some .boolean) (some (.int rr)) σr) {σ : Mm} {r0 : Nat} {v1 : Int32} (h0 : okGr r0 = true) (hf : f_Gr_isBrick σ r0 v1 = some (rr, σr)) : X LT Γ ad σ 0 [(0, .ref (ad r0)), (1, .int v1)] [] := by
  unfold f_Gr_isBrick at hf
  refine x_iload_n O 1 dX2_isBrick_0 rfl rfl ?_
  refine x_if_lt O 21 hf dX2_isBrick_1 (by decide) (fun hf => ?_) (fun hf => ?_)
  · refine x_iconst O (v := 1) dX2_isBrick_21 (by decide) ?_
    refine x_goto O 26 dX2_isBrick_22 (by decide) ?_
    have hk : (1, σ) = (rr, σr) := Option.some.inj hf
    obtain ⟨rfl, rfl⟩ := Prod.mk.inj hk
    exact x_iret O rfl rfl ⟨_, rfl, rfl⟩ dX2_isBrick_26
  · refine x_iload_n O 1 dX2_isBrick_4 rfl rfl ?_
    refine x_bipush O (v := 20) dX2_isBrick_5 (by decide) ?_
    refine x_icmp_ge O 21 hf dX2_isBrick_7 (by decide) (fun hf => ?_) (fun hf => ?_)
    · refine x_iconst O (v := 1) dX2_isBrick_21 (by decide) ?_
      refine x_goto O 26 dX2_isBrick_22 (by decide) ?_
      have hk : (1, σ) = (rr, σr) := Option.some.inj hf
      obtain ⟨rfl, rfl⟩ := Prod.mk.inj hk
      exact x_iret O rfl rfl ⟨_, rfl, rfl⟩ dX2_isBrick_26
    · refine x_aload_n O 0 dX2_isBrick_10 rfl rfl ?_
      refine x_getF O (t := (gTl r0)) fl_X2_isBrick_19 (fk_of (fkGr h0) rfl) dX2_isBrick_11 ?_
      refine x_iload_n O 1 dX2_isBrick_14 rfl rfl ?_
      refine x_iald O hf (arGrT h0) dX2_isBrick_15 (fun j1 hf => ?_)
      refine x_bipush O (v := 100) dX2_isBrick_16 (by decide) ?_
      refine x_icmp_ne O 25 hf dX2_isBrick_18 (by decide) (fun hf => ?_) (fun hf => ?_)
      · refine x_iconst O (v := 0) dX2_isBrick_25 (by decide) ?_
        have hk : (0, σ) = (rr, σr) := Option.some.inj hf
        obtain ⟨rfl, rfl⟩ := Prod.mk.inj hk
        exact x_iret O rfl rfl ⟨_, rfl, rfl⟩ dX2_isBrick_26
      · refine x_iconst O (v := 1) dX2_isBrick_21 (by decide) ?_
        refine x_goto O 26 dX2_isBrick_22 (by decide) ?_
        have hk : (1, σ) = (rr, σr) := Option.some.inj hf
        obtain ⟨rfl, rfl⟩ := Prod.mk.inj hk
        exact x_iret O rfl rfl ⟨_, rfl, rfl⟩ dX2_isBrick_26
theorem k_Gr_isBrick {σ σr : Mm} {rr : Int32} {r0 : Nat} {v1 : Int32} (h0 : okGr r0 = true) (hf : f_Gr_isBrick σ r0 v1 = some (rr, σr)) : CT LT yX2_isBrick wsX2_isBrick rm_X2_isBrick (fun ad => [.ref (ad r0), .int v1]) σ (some (.int rr)) σr := CT_of2 (cc := cX2_isBrick) (maxL := 2) (rt := (some .boolean)) (own := RX2) (by decide) rfl rfl (fun _ => Nat.le_of_ble_eq_true rfl) (fun _ => rfl) (fun Γ ad O => v_Gr_isBrick O h0 hf)

-- ===== TippedBarrow$Ground.survey()V
theorem ca_X2_survey : Ca yX2_survey cX2_survey 4 none wsX2_survey rm_X2_survey 0 := ⟨⟨_, rfl⟩, rfl, rfl, by decide +kernel, by decide +kernel, by decide +kernel⟩
theorem in_X2_survey_X2 : ∀ w ∈ wsX20, w ∈ wsX2_survey := by decide +kernel
theorem fl_X2_survey_9 : Fl RX2 wsX2_survey 9 2 1 true (.array .int) := ⟨_, _, _, tyX2, rfl, in_X2_survey_X2, by decide, by decide +kernel, tyX2_ok, nmX2, rfl, tyX2_ok 1 (by decide)⟩
theorem mw_X2_survey_0 : Cond.fieldLink RX2 28 "TippedBarrow$Ground" "STEP_X" "[I" ∈ wsX2_survey := by decide +kernel
theorem mw_X2_survey_1 : Cond.fieldLink RX2 31 "TippedBarrow$Ground" "STEP_Y" "[I" ∈ wsX2_survey := by decide +kernel
theorem mw_X2_survey_2 : Cond.static yX9_cellAt ∈ wsX2_survey := by decide +kernel
theorem mw_X2_survey_3 : Cond.initialized yX9_cellAt.cls ∈ wsX2_survey := by decide +kernel
set_option maxHeartbeats 4000000 in
set_option maxRecDepth 100000 in
theorem v_Gr_survey_67 {Γ : Cx} {ad : Nat → Nat} {rr : Int32} {σr : Mm} (O : Ok LT Γ ad cX2_survey 4 RX2 wsX2_survey rm_X2_survey none none σr) {σ : Mm} {r0 : Nat} {v1 : Int32} {v2 : Int32} {s1 : Int32} {s2 : Int32} (h0 : okGr r0 = true) {x : (Mm × Int32) ⊕ ((Mm × Int32) ⊕ (Int32 × Mm))} (hf : f_Gr_survey_67 σ r0 v2 s1 s2 = some x) (hk : (kx (fun s : Mm × Int32 => X LT Γ ad s.1 10 [(0, .ref (ad r0)), (1, .int v1), (2, .int s.2)] []) (kx (fun s : Mm × Int32 => X LT Γ ad s.1 2 [(0, .ref (ad r0)), (1, .int s.2)] []) (fun q : Int32 × Mm => q = (rr, σr)))) x) : X LT Γ ad σ 67 [(0, .ref (ad r0)), (1, .int v1), (2, .int v2)] [.int s2, .int s1, .ref (ad (r0 + 1))] := by
  unfold f_Gr_survey_67 at hf
  refine x_iastN O hf (arGrN h0) dX2_survey_67 (fun σ1 hf => ?_)
  refine x_iincN O hf dX2_survey_68 rfl rfl (by decide) (fun y1 hf => ?_)
  refine x_goto O 10 dX2_survey_71 (by decide) ?_
  obtain rfl := Option.some.inj hf
  have hk := kx_l hk
  exact x_jmp O hk rfl
set_option maxHeartbeats 4000000 in
set_option maxRecDepth 100000 in
theorem v_Gr_survey_62 {Γ : Cx} {ad : Nat → Nat} {rr : Int32} {σr : Mm} (O : Ok LT Γ ad cX2_survey 4 RX2 wsX2_survey rm_X2_survey none none σr) {σ : Mm} {r0 : Nat} {v1 : Int32} {v2 : Int32} {s1 : Int32} (h0 : okGr r0 = true) {x : (Mm × Int32) ⊕ ((Mm × Int32) ⊕ (Int32 × Mm))} (hf : f_Gr_survey_62 σ r0 v2 s1 = some x) (hk : (kx (fun s : Mm × Int32 => X LT Γ ad s.1 10 [(0, .ref (ad r0)), (1, .int v1), (2, .int s.2)] []) (kx (fun s : Mm × Int32 => X LT Γ ad s.1 2 [(0, .ref (ad r0)), (1, .int s.2)] []) (fun q : Int32 × Mm => q = (rr, σr)))) x) : X LT Γ ad σ 62 [(0, .ref (ad r0)), (1, .int v1), (2, .int v2)] [.int s1, .ref (ad (r0 + 1))] := by
  unfold f_Gr_survey_62 at hf
  refine x_iconst O (v := -1) dX2_survey_62 (by decide) ?_
  refine x_goto O 67 dX2_survey_63 (by decide) ?_
  exact x_jmp O (v_Gr_survey_67 O (σ := σ) (r0 := r0) (v1 := v1) (v2 := v2) (s1 := s1) (s2 := (-1)) h0 hf hk) rfl
set_option maxHeartbeats 4000000 in
set_option maxRecDepth 100000 in
theorem v_Gr_survey_10_b {Γ : Cx} {ad : Nat → Nat} {rr : Int32} {σr : Mm} (O : Ok LT Γ ad cX2_survey 4 RX2 wsX2_survey rm_X2_survey none none σr) {σ : Mm} {r0 : Nat} {v1 : Int32} {v2 : Int32} (h0 : okGr r0 = true) {x : (Mm × Int32) ⊕ ((Mm × Int32) ⊕ (Int32 × Mm))} (hf : f_Gr_survey_10_b r0 v1 σ v2 = some x) (hk : (kx (fun s : Mm × Int32 => X LT Γ ad s.1 10 [(0, .ref (ad r0)), (1, .int v1), (2, .int s.2)] []) (kx (fun s : Mm × Int32 => X LT Γ ad s.1 2 [(0, .ref (ad r0)), (1, .int s.2)] []) (fun q : Int32 × Mm => q = (rr, σr)))) x) : X LT Γ ad σ 10 [(0, .ref (ad r0)), (1, .int v1), (2, .int v2)] [] := by
  unfold f_Gr_survey_10_b at hf
  refine x_iload_n O 2 dX2_survey_10 rfl rfl ?_
  refine x_iconst O (v := 4) dX2_survey_11 (by decide) ?_
  refine x_icmp_ge O 74 hf dX2_survey_12 (by decide) (fun hf => ?_) (fun hf => ?_)
  · obtain ⟨x', hg1, hx⟩ := map_inr hf
    subst hx
    have hk := kx_r hk
    have hf := hg1
    refine x_iincN O hf dX2_survey_74 rfl rfl (by decide) (fun y1 hf => ?_)
    refine x_goto O 2 dX2_survey_77 (by decide) ?_
    obtain rfl := Option.some.inj hf
    have hk := kx_l hk
    exact x_jmp O hk rfl
  · refine x_iload_n O 1 dX2_survey_15 rfl rfl ?_
    refine x_iconst O (v := 5) dX2_survey_16 (by decide) ?_
    refine x_iremK O (by decide) dX2_survey_17 ?_
    refine x_stepX O mw_X2_survey_0 dX2_survey_18 (fun tx1 htx1 => ?_)
    refine x_iload_n O 2 dX2_survey_21 rfl rfl ?_
    refine htx1 _ _ _ _ _ _ _ _ hf dX2_survey_22 (fun j1 hf => ?_)
    refine x_iadd O dX2_survey_23 ?_
    refine x_iload_n O 1 dX2_survey_24 rfl rfl ?_
    refine x_iconst O (v := 5) dX2_survey_25 (by decide) ?_
    refine x_idivK O (by decide) dX2_survey_26 ?_
    refine x_stepY O mw_X2_survey_1 dX2_survey_27 (fun tx2 htx2 => ?_)
    refine x_iload_n O 2 dX2_survey_30 rfl rfl ?_
    refine htx2 _ _ _ _ _ _ _ _ hf dX2_survey_31 (fun j2 hf => ?_)
    refine x_iadd O dX2_survey_32 ?_
    obtain ⟨r_1, σ1, hc, hf⟩ := bd_some hf
    refine x_callN O (k_T_cellAt  hc) ca_X9_cellAt gX2_survey_X9_cellAt_n34 (by decide +kernel) mw_X2_survey_2 mw_X2_survey_3 rfl rfl rfl (Nat.le_of_ble_eq_true rfl) ⟨Nat.le_of_ble_eq_true rfl, Nat.le_of_ble_eq_true rfl⟩ dX2_survey_33 ?_
    refine x_push O ?_
    refine x_istore_n O 3 dX2_survey_36 rfl (by decide) ?_
    refine x_aload_n O 0 dX2_survey_37 rfl rfl ?_
    refine x_getF O (t := (r0 + 1)) fl_X2_survey_9 (fk_of (fkGr h0) rfl) dX2_survey_38 ?_
    refine x_iconst O (v := 4) dX2_survey_41 (by decide) ?_
    refine x_iload_n O 1 dX2_survey_42 rfl rfl ?_
    refine x_imul O dX2_survey_43 ?_
    refine x_iload_n O 2 dX2_survey_44 rfl rfl ?_
    refine x_iadd O dX2_survey_45 ?_
    refine x_aload_n O 0 dX2_survey_46 rfl rfl ?_
    refine x_iload_n O 1 dX2_survey_47 rfl rfl ?_
    obtain ⟨r_2, σ2, hc, hf⟩ := bd_some hf
    refine x_callV O (k_Gr_isBrick h0 hc) ca_X2_isBrick gX2_survey_X2_isBrick rfl (okCl_Gr h0) rfl rfl rfl (Nat.le_of_ble_eq_true rfl) ⟨Nat.le_of_ble_eq_true rfl, Nat.le_of_ble_eq_true rfl⟩ dX2_survey_48 ?_
    refine x_push O ?_
    refine x_if_ne O 62 hf dX2_survey_51 (by decide) (fun hf => ?_) (fun hf => ?_)
    · exact x_jmp O (v_Gr_survey_62 O (σ := σ2) (r0 := r0) (v1 := v1) (v2 := v2) (s1 := ((4 * v1) + v2)) h0 hf hk) rfl
    · refine x_aload_n O 0 dX2_survey_54 rfl rfl ?_
      refine x_iload_n O 3 dX2_survey_55 rfl rfl ?_
      obtain ⟨r_3, σ3, hc, hf⟩ := bd_some hf
      refine x_callV O (k_Gr_isBrick h0 hc) ca_X2_isBrick gX2_survey_X2_isBrick rfl (okCl_Gr h0) rfl rfl rfl (Nat.le_of_ble_eq_true rfl) ⟨Nat.le_of_ble_eq_true rfl, Nat.le_of_ble_eq_true rfl⟩ dX2_survey_56 ?_
      refine x_push O ?_
      refine x_if_eq O 66 hf dX2_survey_59 (by decide) (fun hf => ?_) (fun hf => ?_)
      · refine x_iload_n O 3 dX2_survey_66 rfl rfl ?_
        exact x_jmp O (v_Gr_survey_67 O (σ := σ3) (r0 := r0) (v1 := v1) (v2 := v2) (s1 := ((4 * v1) + v2)) (s2 := r_1) h0 hf hk) rfl
      · exact x_jmp O (v_Gr_survey_62 O (σ := σ3) (r0 := r0) (v1 := v1) (v2 := v2) (s1 := ((4 * v1) + v2)) h0 hf hk) rfl
set_option maxHeartbeats 4000000 in
set_option maxRecDepth 100000 in
theorem v_Gr_survey_10 {Γ : Cx} {ad : Nat → Nat} {rr : Int32} {σr : Mm} (O : Ok LT Γ ad cX2_survey 4 RX2 wsX2_survey rm_X2_survey none none σr) {σ : Mm} {r0 : Nat} {v1 : Int32} {v2 : Int32} (h0 : okGr r0 = true) {x : (Mm × Int32) ⊕ (Int32 × Mm)} (hf : f_Gr_survey_10 σ r0 v1 v2 = some x) (hk : (kx (fun s : Mm × Int32 => X LT Γ ad s.1 2 [(0, .ref (ad r0)), (1, .int s.2)] []) (fun q : Int32 × Mm => q = (rr, σr))) x) : X LT Γ ad σ 10 [(0, .ref (ad r0)), (1, .int v1), (2, .int v2)] [] := lpX (P := (fun s : Mm × Int32 => X LT Γ ad s.1 10 [(0, .ref (ad r0)), (1, .int v1), (2, .int s.2)] [])) (K := (kx (fun s : Mm × Int32 => X LT Γ ad s.1 2 [(0, .ref (ad r0)), (1, .int s.2)] []) (fun q : Int32 × Mm => q = (rr, σr)))) (fun s x g1 g2 => v_Gr_survey_10_b O (σ := s.1) (r0 := r0) (v1 := v1) (v2 := s.2) h0 g1 g2) (σ, v2) _ hf hk
set_option maxHeartbeats 4000000 in
set_option maxRecDepth 100000 in
theorem v_Gr_survey_2_b {Γ : Cx} {ad : Nat → Nat} {rr : Int32} {σr : Mm} (O : Ok LT Γ ad cX2_survey 4 RX2 wsX2_survey rm_X2_survey none none σr) {σ : Mm} {r0 : Nat} {v1 : Int32} (h0 : okGr r0 = true) {x : (Mm × Int32) ⊕ (Int32 × Mm)} (hf : f_Gr_survey_2_b r0 σ v1 = some x) (hk : (kx (fun s : Mm × Int32 => X LT Γ ad s.1 2 [(0, .ref (ad r0)), (1, .int s.2)] []) (fun q : Int32 × Mm => q = (rr, σr))) x) : X LT Γ ad σ 2 [(0, .ref (ad r0)), (1, .int v1)] [] := by
  unfold f_Gr_survey_2_b at hf
  refine x_iload_n O 1 dX2_survey_2 rfl rfl ?_
  refine x_bipush O (v := 20) dX2_survey_3 (by decide) ?_
  refine x_icmp_ge O 80 hf dX2_survey_5 (by decide) (fun hf => ?_) (fun hf => ?_)
  · obtain ⟨x', hg1, hx⟩ := map_inr hf
    subst hx
    have hk := kx_r hk
    have hx : x' = (rr, σr) := hk
    subst hx
    have hf := hg1
    have hk : ((0 : Int32), σ) = (rr, σr) := Option.some.inj hf
    obtain ⟨rfl, rfl⟩ := Prod.mk.inj hk
    exact x_vret O rfl rfl rfl dX2_survey_80
  · refine x_iconst O (v := 0) dX2_survey_8 (by decide) ?_
    refine x_istore_n O 2 dX2_survey_9 rfl (by decide) ?_
    exact x_jmp O (v_Gr_survey_10 O (σ := σ) (r0 := r0) (v1 := v1) (v2 := 0) h0 hf hk) rfl
set_option maxHeartbeats 4000000 in
set_option maxRecDepth 100000 in
theorem v_Gr_survey_2 {Γ : Cx} {ad : Nat → Nat} {rr : Int32} {σr : Mm} (O : Ok LT Γ ad cX2_survey 4 RX2 wsX2_survey rm_X2_survey none none σr) {σ : Mm} {r0 : Nat} {v1 : Int32} (h0 : okGr r0 = true) (hf : f_Gr_survey_2 σ r0 v1 = some (rr, σr)) : X LT Γ ad σ 2 [(0, .ref (ad r0)), (1, .int v1)] [] := lpX (P := (fun s : Mm × Int32 => X LT Γ ad s.1 2 [(0, .ref (ad r0)), (1, .int s.2)] [])) (K := (fun q : Int32 × Mm => q = (rr, σr))) (fun s x g1 g2 => v_Gr_survey_2_b O (σ := s.1) (r0 := r0) (v1 := s.2) h0 g1 g2) (σ, v1) _ hf rfl
set_option maxHeartbeats 4000000 in
set_option maxRecDepth 100000 in
theorem v_Gr_survey {Γ : Cx} {ad : Nat → Nat} {rr : Int32} {σr : Mm} (O : Ok LT Γ ad cX2_survey 4 RX2 wsX2_survey rm_X2_survey none none σr) {σ : Mm} {r0 : Nat} (h0 : okGr r0 = true) (hf : f_Gr_survey σ r0 = some (rr, σr)) : X LT Γ ad σ 0 [(0, .ref (ad r0))] [] := by
  unfold f_Gr_survey at hf
  refine x_iconst O (v := 0) dX2_survey_0 (by decide) ?_
  refine x_istore_n O 1 dX2_survey_1 rfl (by decide) ?_
  exact x_jmp O (v_Gr_survey_2 O (σ := σ) (r0 := r0) (v1 := 0) h0 hf) rfl
theorem k_Gr_survey {σ σr : Mm} {rr : Int32} {r0 : Nat} (h0 : okGr r0 = true) (hf : f_Gr_survey σ r0 = some (rr, σr)) : CT LT yX2_survey wsX2_survey rm_X2_survey (fun ad => [.ref (ad r0)]) σ none σr := CT_of2 (cc := cX2_survey) (maxL := 4) (rt := none) (own := RX2) (by decide) rfl rfl (fun _ => Nat.le_of_ble_eq_true rfl) (fun _ => rfl) (fun Γ ad O => v_Gr_survey O h0 hf)

-- ===== TippedBarrow.yard()I
theorem ca_X9_yard : Ca yX9_yard cX9_yard 4 (some .int) wsX9_yard rm_X9_yard 0 := ⟨⟨_, rfl⟩, rfl, rfl, by decide +kernel, by decide +kernel, by decide +kernel⟩
theorem in_X9_yard_X2 : ∀ w ∈ wsX20, w ∈ wsX9_yard := by decide +kernel
theorem in_X9_yard_X3 : ∀ w ∈ wsX30, w ∈ wsX9_yard := by decide +kernel
theorem in_X9_yard_X5 : ∀ w ∈ wsX50, w ∈ wsX9_yard := by decide +kernel
theorem in_X9_yard_X7 : ∀ w ∈ wsX70, w ∈ wsX9_yard := by decide +kernel
theorem in_X9_yard_X9 : ∀ w ∈ wsX90, w ∈ wsX9_yard := by decide +kernel
theorem fl_X9_yard_12 : Fl RX9 wsX9_yard 12 9 0 true (.object "TippedBarrow$Text") := ⟨_, _, _, tyX9, rfl, in_X9_yard_X9, by decide, by decide +kernel, tyX9_ok, nmX9, rfl, tyX9_ok 0 (by decide)⟩
theorem fl_X9_yard_21 : Fl RX9 wsX9_yard 21 9 1 true (.object "TippedBarrow$Reader") := ⟨_, _, _, tyX9, rfl, in_X9_yard_X9, by decide, by decide +kernel, tyX9_ok, nmX9, rfl, tyX9_ok 1 (by decide)⟩
theorem fl_X9_yard_28 : Fl RX9 wsX9_yard 28 9 2 false (.object "TippedBarrow$Plan") := ⟨_, _, _, tyX9, rfl, in_X9_yard_X9, by decide, by decide +kernel, tyX9_ok, nmX9, rfl, tyX9_ok 2 (by decide)⟩
theorem fl_X9_yard_32 : Fl RX9 wsX9_yard 32 9 3 false (.object "TippedBarrow$Plan") := ⟨_, _, _, tyX9, rfl, in_X9_yard_X9, by decide, by decide +kernel, tyX9_ok, nmX9, rfl, tyX9_ok 3 (by decide)⟩
theorem fl_X9_yard_38 : Fl RX9 wsX9_yard 38 9 4 true (.object "TippedBarrow$Moment") := ⟨_, _, _, tyX9, rfl, in_X9_yard_X9, by decide, by decide +kernel, tyX9_ok, nmX9, rfl, tyX9_ok 4 (by decide)⟩
theorem fl_X9_yard_51 : Fl RX9 wsX9_yard 51 9 5 true (.object "TippedBarrow$Ground") := ⟨_, _, _, tyX9, rfl, in_X9_yard_X9, by decide, by decide +kernel, tyX9_ok, nmX9, rfl, tyX9_ok 5 (by decide)⟩
theorem fl_X9_yard_61 : Fl RX9 wsX9_yard 61 9 7 true (.object "TippedBarrow$History") := ⟨_, _, _, tyX9, rfl, in_X9_yard_X9, by decide, by decide +kernel, tyX9_ok, nmX9, rfl, tyX9_ok 7 (by decide)⟩
theorem fl_X9_yard_69 : Fl RX9 wsX9_yard 69 9 9 true (.array .boolean) := ⟨_, _, _, tyX9, rfl, in_X9_yard_X9, by decide, by decide +kernel, tyX9_ok, nmX9, rfl, tyX9_ok 9 (by decide)⟩
theorem fl_X9_yard_101 : Fl RX9 wsX9_yard 101 7 1 false .int := ⟨_, _, _, tyX7, rfl, in_X9_yard_X7, by decide, by decide +kernel, tyX7_ok, nmX7, rfl, tyX7_ok 1 (by decide)⟩
theorem fl_X9_yard_109 : Fl RX9 wsX9_yard 109 5 4 false .int := ⟨_, _, _, tyX5, rfl, in_X9_yard_X5, by decide, by decide +kernel, tyX5_ok, nmX5, rfl, tyX5_ok 4 (by decide)⟩
theorem fl_X9_yard_112 : Fl RX9 wsX9_yard 112 2 2 false .int := ⟨_, _, _, tyX2, rfl, in_X9_yard_X2, by decide, by decide +kernel, tyX2_ok, nmX2, rfl, tyX2_ok 2 (by decide)⟩
theorem fl_X9_yard_113 : Fl RX9 wsX9_yard 113 5 5 false .int := ⟨_, _, _, tyX5, rfl, in_X9_yard_X5, by decide, by decide +kernel, tyX5_ok, nmX5, rfl, tyX5_ok 5 (by decide)⟩
theorem fl_X9_yard_116 : Fl RX9 wsX9_yard 116 2 3 false .int := ⟨_, _, _, tyX2, rfl, in_X9_yard_X2, by decide, by decide +kernel, tyX2_ok, nmX2, rfl, tyX2_ok 3 (by decide)⟩
theorem fl_X9_yard_124 : Fl RX9 wsX9_yard 124 3 2 false .int := ⟨_, _, _, tyX3, rfl, in_X9_yard_X3, by decide, by decide +kernel, tyX3_ok, nmX3, rfl, tyX3_ok 2 (by decide)⟩
theorem fl_X9_yard_127 : Fl RX9 wsX9_yard 127 9 11 false .int := ⟨_, _, _, tyX9, rfl, in_X9_yard_X9, by decide, by decide +kernel, tyX9_ok, nmX9, rfl, tyX9_ok 11 (by decide)⟩
set_option maxHeartbeats 4000000 in
set_option maxRecDepth 100000 in
theorem v_T_yard_105_b {Γ : Cx} {ad : Nat → Nat} {rr : Int32} {σr : Mm} (O : Ok LT Γ ad cX9_yard 4 RX9 wsX9_yard rm_X9_yard (some .int) (some (.int rr)) σr) {σ : Mm} {v1 : Int32} {v3 : Int32}  {x : (Mm × Int32) ⊕ (Int32 × Mm)} (hf : f_T_yard_105_b v1 σ v3 = some x) (hk : (kx (fun s : Mm × Int32 => X LT Γ ad s.1 105 [(0, .ref (ad 0)), (1, .int v1), (3, .int s.2)] []) (fun q : Int32 × Mm => q = (rr, σr))) x) : X LT Γ ad σ 105 [(0, .ref (ad 0)), (1, .int v1), (3, .int v3)] [] := by
  unfold f_T_yard_105_b at hf
  refine x_iload_n O 3 dX9_yard_105 rfl rfl ?_
  refine x_iconst O (v := 2) dX9_yard_106 (by decide) ?_
  refine x_icmp_ge O 123 hf dX9_yard_107 (by decide) (fun hf => ?_) (fun hf => ?_)
  · obtain ⟨x', hg1, hx⟩ := map_inr hf
    subst hx
    have hk := kx_r hk
    have hx : x' = (rr, σr) := hk
    subst hx
    have hf := hg1
    refine x_iload_n O 1 dX9_yard_123 rfl rfl ?_
    have hk : (v1, σ) = (rr, σr) := Option.some.inj hf
    obtain ⟨rfl, rfl⟩ := Prod.mk.inj hk
    exact x_iret O rfl rfl ⟨_, rfl, rfl⟩ dX9_yard_124
  · refine x_aload_n O 0 dX9_yard_110 rfl rfl ?_
    refine x_getF O (t := 19) fl_X9_yard_69 rfl dX9_yard_111 ?_
    refine x_iload_n O 3 dX9_yard_114 rfl rfl ?_
    refine x_iconst O (v := 0) dX9_yard_115 (by decide) ?_
    refine x_zastN O hf (by decide) rfl dX9_yard_116 (fun σ1 hf => ?_)
    refine x_iincN O hf dX9_yard_117 rfl rfl (by decide) (fun y1 hf => ?_)
    refine x_goto O 105 dX9_yard_120 (by decide) ?_
    obtain rfl := Option.some.inj hf
    have hk := kx_l hk
    exact x_jmp O hk rfl
set_option maxHeartbeats 4000000 in
set_option maxRecDepth 100000 in
theorem v_T_yard_105 {Γ : Cx} {ad : Nat → Nat} {rr : Int32} {σr : Mm} (O : Ok LT Γ ad cX9_yard 4 RX9 wsX9_yard rm_X9_yard (some .int) (some (.int rr)) σr) {σ : Mm} {v1 : Int32} {v3 : Int32}  (hf : f_T_yard_105 σ v1 v3 = some (rr, σr)) : X LT Γ ad σ 105 [(0, .ref (ad 0)), (1, .int v1), (3, .int v3)] [] := lpX (P := (fun s : Mm × Int32 => X LT Γ ad s.1 105 [(0, .ref (ad 0)), (1, .int v1), (3, .int s.2)] [])) (K := (fun q : Int32 × Mm => q = (rr, σr))) (fun s x g1 g2 => v_T_yard_105_b O (σ := s.1) (v1 := v1) (v3 := s.2)  g1 g2) (σ, v3) _ hf rfl
set_option maxHeartbeats 4000000 in
set_option maxRecDepth 100000 in
theorem v_T_yard {Γ : Cx} {ad : Nat → Nat} {rr : Int32} {σr : Mm} (O : Ok LT Γ ad cX9_yard 4 RX9 wsX9_yard rm_X9_yard (some .int) (some (.int rr)) σr) {σ : Mm}   (hf : f_T_yard σ = some (rr, σr)) : X LT Γ ad σ 0 [(0, .ref (ad 0))] [] := by
  unfold f_T_yard at hf
  refine x_aload_n O 0 dX9_yard_0 rfl rfl ?_
  refine x_getF O (t := 3) fl_X9_yard_21 rfl dX9_yard_1 ?_
  refine x_aload_n O 0 dX9_yard_4 rfl rfl ?_
  refine x_getR O hf fl_X9_yard_32 rfl dX9_yard_5 (fun t1 ht1 hf => ?_)
  obtain ⟨r_1, σ1, hc, hf⟩ := bd_some hf
  refine x_callV O (k_Re_read ht1 hc) ca_X6_read gX9_yard_X6_read rfl ⟨_, _, _, _, rfl, rfl⟩ rfl rfl rfl (Nat.le_of_ble_eq_true rfl) ⟨Nat.le_of_ble_eq_true rfl, Nat.le_of_ble_eq_true rfl⟩ dX9_yard_8 ?_
  refine x_push O ?_
  refine x_istore_n O 1 dX9_yard_11 rfl (by decide) ?_
  refine x_iload_n O 1 dX9_yard_12 rfl rfl ?_
  refine x_if_ge O 18 hf dX9_yard_13 (by decide) (fun hf => ?_) (fun hf => ?_)
  · refine x_aload_n O 0 dX9_yard_18 rfl rfl ?_
    refine x_getR O hf fl_X9_yard_28 rfl dX9_yard_19 (fun t2 ht2 hf => ?_)
    refine x_astore_n O 2 dX9_yard_22 rfl (by decide) ?_
    refine x_aload_n O 0 dX9_yard_23 rfl rfl ?_
    refine x_aload_n O 0 dX9_yard_24 rfl rfl ?_
    refine x_getR O hf fl_X9_yard_32 rfl dX9_yard_25 (fun t3 ht3 hf => ?_)
    refine x_putRN O hf rfl rfl fl_X9_yard_28 rfl dX9_yard_28 (fun σ2 hf => ?_)
    refine x_aload_n O 0 dX9_yard_31 rfl rfl ?_
    refine x_aload_n O 2 dX9_yard_32 rfl rfl ?_
    refine x_putRN O hf rfl rfl fl_X9_yard_32 rfl dX9_yard_33 (fun σ3 hf => ?_)
    refine x_aload_n O 0 dX9_yard_36 rfl rfl ?_
    refine x_getF O (t := 1) fl_X9_yard_12 rfl dX9_yard_37 ?_
    refine x_iconst O (v := 0) dX9_yard_40 (by decide) ?_
    refine x_putIN O hf rfl rfl fl_X9_yard_101 rfl dX9_yard_41 (fun σ4 hf => ?_)
    refine x_aload_n O 0 dX9_yard_44 rfl rfl ?_
    refine x_getF O (t := 11) fl_X9_yard_51 rfl dX9_yard_45 ?_
    refine x_aload_n O 0 dX9_yard_48 rfl rfl ?_
    refine x_getR O hf fl_X9_yard_28 rfl dX9_yard_49 (fun t4 ht4 hf => ?_)
    refine x_getI O fl_X9_yard_109 (fk_of (fkPl ht4) rfl) dX9_yard_52 ?_
    refine x_putIN O hf rfl rfl fl_X9_yard_112 rfl dX9_yard_55 (fun σ5 hf => ?_)
    refine x_aload_n O 0 dX9_yard_58 rfl rfl ?_
    refine x_getF O (t := 11) fl_X9_yard_51 rfl dX9_yard_59 ?_
    refine x_aload_n O 0 dX9_yard_62 rfl rfl ?_
    refine x_getR O hf fl_X9_yard_28 rfl dX9_yard_63 (fun t5 ht5 hf => ?_)
    refine x_getI O fl_X9_yard_113 (fk_of (fkPl ht5) rfl) dX9_yard_66 ?_
    refine x_putIN O hf rfl rfl fl_X9_yard_116 rfl dX9_yard_69 (fun σ6 hf => ?_)
    refine x_aload_n O 0 dX9_yard_72 rfl rfl ?_
    refine x_getF O (t := 36) fl_X9_yard_38 rfl dX9_yard_73 ?_
    refine x_aload_n O 0 dX9_yard_76 rfl rfl ?_
    refine x_getR O hf fl_X9_yard_28 rfl dX9_yard_77 (fun t6 ht6 hf => ?_)
    obtain ⟨r_2, σ7, hc, hf⟩ := bd_some hf
    refine x_callV O (k_Mo_begin rfl ht6 hc) ca_X4_begin gX9_yard_X4_begin rfl ⟨_, _, _, _, rfl, rfl⟩ rfl rfl rfl (Nat.le_of_ble_eq_true rfl) ⟨Nat.le_of_ble_eq_true rfl, Nat.le_of_ble_eq_true rfl⟩ dX9_yard_80 ?_
    refine x_pushN O ?_
    refine x_aload_n O 0 dX9_yard_83 rfl rfl ?_
    refine x_getF O (t := 11) fl_X9_yard_51 rfl dX9_yard_84 ?_
    obtain ⟨r_3, σ8, hc, hf⟩ := bd_some hf
    refine x_callV O (k_Gr_survey rfl hc) ca_X2_survey gX9_yard_X2_survey rfl ⟨_, _, _, _, rfl, rfl⟩ rfl rfl rfl (Nat.le_of_ble_eq_true rfl) ⟨Nat.le_of_ble_eq_true rfl, Nat.le_of_ble_eq_true rfl⟩ dX9_yard_87 ?_
    refine x_pushN O ?_
    refine x_aload_n O 0 dX9_yard_90 rfl rfl ?_
    refine x_getF O (t := 16) fl_X9_yard_61 rfl dX9_yard_91 ?_
    refine x_iconst O (v := 0) dX9_yard_94 (by decide) ?_
    refine x_putIN O hf rfl rfl fl_X9_yard_124 rfl dX9_yard_95 (fun σ9 hf => ?_)
    refine x_aload_n O 0 dX9_yard_98 rfl rfl ?_
    refine x_iconst O (v := 0) dX9_yard_99 (by decide) ?_
    refine x_putIN O hf rfl rfl fl_X9_yard_127 rfl dX9_yard_100 (fun σ10 hf => ?_)
    refine x_iconst O (v := 0) dX9_yard_103 (by decide) ?_
    refine x_istore_n O 3 dX9_yard_104 rfl (by decide) ?_
    exact x_jmp O (v_T_yard_105 O (σ := σ10) (v1 := r_1) (v3 := 0)  hf) rfl
  · refine x_iload_n O 1 dX9_yard_16 rfl rfl ?_
    have hk : (r_1, σ1) = (rr, σr) := Option.some.inj hf
    obtain ⟨rfl, rfl⟩ := Prod.mk.inj hk
    exact x_iret O rfl rfl ⟨_, rfl, rfl⟩ dX9_yard_17
theorem k_T_yard {σ σr : Mm} {rr : Int32}   (hf : f_T_yard σ = some (rr, σr)) : CT LT yX9_yard wsX9_yard rm_X9_yard (fun ad => [.ref (ad 0)]) σ (some (.int rr)) σr := CT_of2 (cc := cX9_yard) (maxL := 4) (rt := (some .int)) (own := RX9) (by decide) rfl rfl (fun _ => Nat.le_of_ble_eq_true rfl) (fun _ => rfl) (fun Γ ad O => v_T_yard O  hf)

-- ===== TippedBarrow.tilt(II)I
theorem ca_X9_tilt : Ca yX9_tilt cX9_tilt 4 (some .int) wsX9_tilt rm_X9_tilt 2 := ⟨⟨_, rfl⟩, rfl, rfl, by decide +kernel, by decide +kernel, by decide +kernel⟩
theorem in_X9_tilt_X4 : ∀ w ∈ wsX40, w ∈ wsX9_tilt := by decide +kernel
theorem in_X9_tilt_X9 : ∀ w ∈ wsX90, w ∈ wsX9_tilt := by decide +kernel
theorem fl_X9_tilt_38 : Fl RX9 wsX9_tilt 38 9 4 true (.object "TippedBarrow$Moment") := ⟨_, _, _, tyX9, rfl, in_X9_tilt_X9, by decide, by decide +kernel, tyX9_ok, nmX9, rfl, tyX9_ok 4 (by decide)⟩
theorem fl_X9_tilt_44 : Fl RX9 wsX9_tilt 44 4 0 true (.array .int) := ⟨_, _, _, tyX4, rfl, in_X9_tilt_X4, by decide, by decide +kernel, tyX4_ok, nmX4, rfl, tyX4_ok 0 (by decide)⟩
theorem fl_X9_tilt_51 : Fl RX9 wsX9_tilt 51 9 5 true (.object "TippedBarrow$Ground") := ⟨_, _, _, tyX9, rfl, in_X9_tilt_X9, by decide, by decide +kernel, tyX9_ok, nmX9, rfl, tyX9_ok 5 (by decide)⟩
theorem mw_X9_tilt_0 : Cond.constant RX9 137 (-1000000) ∈ wsX9_tilt := by decide +kernel
set_option maxHeartbeats 4000000 in
set_option maxRecDepth 100000 in
theorem v_T_tilt {Γ : Cx} {ad : Nat → Nat} {rr : Int32} {σr : Mm} (O : Ok LT Γ ad cX9_tilt 4 RX9 wsX9_tilt rm_X9_tilt (some .int) (some (.int rr)) σr) {σ : Mm} {v1 : Int32} {v2 : Int32}  (hf : f_T_tilt σ v1 v2 = some (rr, σr)) : X LT Γ ad σ 0 [(0, .ref (ad 0)), (1, .int v1), (2, .int v2)] [] := by
  unfold f_T_tilt at hf
  refine x_iload_n O 1 dX9_tilt_0 rfl rfl ?_
  refine x_iload_n O 2 dX9_tilt_1 rfl rfl ?_
  obtain ⟨r_1, σ1, hc, hf⟩ := bd_some hf
  refine x_callS O (k_T_cellAt  hc) ca_X9_cellAt gX9_tilt_X9_cellAt rfl rfl rfl (Nat.le_of_ble_eq_true rfl) ⟨Nat.le_of_ble_eq_true rfl, Nat.le_of_ble_eq_true rfl⟩ dX9_tilt_2 ?_
  refine x_push O ?_
  refine x_istore_n O 3 dX9_tilt_5 rfl (by decide) ?_
  refine x_aload_n O 0 dX9_tilt_6 rfl rfl ?_
  refine x_getF O (t := 11) fl_X9_tilt_51 rfl dX9_tilt_7 ?_
  refine x_iload_n O 3 dX9_tilt_10 rfl rfl ?_
  obtain ⟨r_2, σ2, hc, hf⟩ := bd_some hf
  refine x_callV O (k_Gr_isBrick rfl hc) ca_X2_isBrick gX9_tilt_X2_isBrick rfl ⟨_, _, _, _, rfl, rfl⟩ rfl rfl rfl (Nat.le_of_ble_eq_true rfl) ⟨Nat.le_of_ble_eq_true rfl, Nat.le_of_ble_eq_true rfl⟩ dX9_tilt_11 ?_
  refine x_push O ?_
  refine x_if_eq O 22 hf dX9_tilt_14 (by decide) (fun hf => ?_) (fun hf => ?_)
  · refine x_aload_n O 0 dX9_tilt_22 rfl rfl ?_
    refine x_getF O (t := 36) fl_X9_tilt_38 rfl dX9_tilt_23 ?_
    refine x_getF O (t := 37) fl_X9_tilt_44 rfl dX9_tilt_26 ?_
    refine x_iload_n O 3 dX9_tilt_29 rfl rfl ?_
    refine x_iald O hf rfl dX9_tilt_30 (fun j1 hf => ?_)
    have hk : ((gA σ2 37 j1), σ2) = (rr, σr) := Option.some.inj hf
    obtain ⟨rfl, rfl⟩ := Prod.mk.inj hk
    exact x_iret O rfl rfl ⟨_, rfl, rfl⟩ dX9_tilt_31
  · refine x_ldc O (v := -1000000) mw_X9_tilt_0 dX9_tilt_17 ?_
    refine x_goto O 31 dX9_tilt_19 (by decide) ?_
    have hk : ((-1000000), σ2) = (rr, σr) := Option.some.inj hf
    obtain ⟨rfl, rfl⟩ := Prod.mk.inj hk
    exact x_iret O rfl rfl ⟨_, rfl, rfl⟩ dX9_tilt_31
theorem k_T_tilt {σ σr : Mm} {rr : Int32} {v1 : Int32} {v2 : Int32}  (hf : f_T_tilt σ v1 v2 = some (rr, σr)) : CT LT yX9_tilt wsX9_tilt rm_X9_tilt (fun ad => [.ref (ad 0), .int v1, .int v2]) σ (some (.int rr)) σr := CT_of2 (cc := cX9_tilt) (maxL := 4) (rt := (some .int)) (own := RX9) (by decide) rfl rfl (fun _ => Nat.le_of_ble_eq_true rfl) (fun _ => rfl) (fun Γ ad O => v_T_tilt O  hf)

-- ===== TippedBarrow.now(I)I
theorem ca_X9_now : Ca yX9_now cX9_now 2 (some .int) wsX9_now rm_X9_now 1 := ⟨⟨_, rfl⟩, rfl, rfl, by decide +kernel, by decide +kernel, by decide +kernel⟩
theorem in_X9_now_X3 : ∀ w ∈ wsX30, w ∈ wsX9_now := by decide +kernel
theorem in_X9_now_X4 : ∀ w ∈ wsX40, w ∈ wsX9_now := by decide +kernel
theorem in_X9_now_X9 : ∀ w ∈ wsX90, w ∈ wsX9_now := by decide +kernel
theorem fl_X9_now_38 : Fl RX9 wsX9_now 38 9 4 true (.object "TippedBarrow$Moment") := ⟨_, _, _, tyX9, rfl, in_X9_now_X9, by decide, by decide +kernel, tyX9_ok, nmX9, rfl, tyX9_ok 4 (by decide)⟩
theorem fl_X9_now_61 : Fl RX9 wsX9_now 61 9 7 true (.object "TippedBarrow$History") := ⟨_, _, _, tyX9, rfl, in_X9_now_X9, by decide, by decide +kernel, tyX9_ok, nmX9, rfl, tyX9_ok 7 (by decide)⟩
theorem fl_X9_now_124 : Fl RX9 wsX9_now 124 3 2 false .int := ⟨_, _, _, tyX3, rfl, in_X9_now_X3, by decide, by decide +kernel, tyX3_ok, nmX3, rfl, tyX3_ok 2 (by decide)⟩
theorem fl_X9_now_138 : Fl RX9 wsX9_now 138 4 3 false .int := ⟨_, _, _, tyX4, rfl, in_X9_now_X4, by decide, by decide +kernel, tyX4_ok, nmX4, rfl, tyX4_ok 3 (by decide)⟩
theorem fl_X9_now_141 : Fl RX9 wsX9_now 141 4 4 false .int := ⟨_, _, _, tyX4, rfl, in_X9_now_X4, by decide, by decide +kernel, tyX4_ok, nmX4, rfl, tyX4_ok 4 (by decide)⟩
theorem fl_X9_now_144 : Fl RX9 wsX9_now 144 4 5 false .int := ⟨_, _, _, tyX4, rfl, in_X9_now_X4, by decide, by decide +kernel, tyX4_ok, nmX4, rfl, tyX4_ok 5 (by decide)⟩
theorem fl_X9_now_147 : Fl RX9 wsX9_now 147 4 1 true (.array .int) := ⟨_, _, _, tyX4, rfl, in_X9_now_X4, by decide, by decide +kernel, tyX4_ok, nmX4, rfl, tyX4_ok 1 (by decide)⟩
theorem fl_X9_now_150 : Fl RX9 wsX9_now 150 4 2 true (.array .int) := ⟨_, _, _, tyX4, rfl, in_X9_now_X4, by decide, by decide +kernel, tyX4_ok, nmX4, rfl, tyX4_ok 2 (by decide)⟩
theorem mw_X9_now_0 : Cond.constant RX9 137 (-1000000) ∈ wsX9_now := by decide +kernel
set_option maxHeartbeats 4000000 in
set_option maxRecDepth 100000 in
theorem v_T_now {Γ : Cx} {ad : Nat → Nat} {rr : Int32} {σr : Mm} (O : Ok LT Γ ad cX9_now 2 RX9 wsX9_now rm_X9_now (some .int) (some (.int rr)) σr) {σ : Mm} {v1 : Int32}  (hf : f_T_now σ v1 = some (rr, σr)) : X LT Γ ad σ 0 [(0, .ref (ad 0)), (1, .int v1)] [] := by
  unfold f_T_now at hf
  refine x_iload_n O 1 dX9_now_0 rfl rfl ?_
  by_cases e0 : v1 = 0
  · rw [if_pos e0] at hf
    have hg9 := hf
    subst e0
    have hf := hg9
    refine x_tableIn O 48 dX9_now_1 (by decide) (by decide) rfl (by decide) ?_
    refine x_aload_n O 0 dX9_now_48 rfl rfl ?_
    refine x_getF O (t := 36) fl_X9_now_38 rfl dX9_now_49 ?_
    refine x_getI O fl_X9_now_138 rfl dX9_now_52 ?_
    have hk : ((gI σ 36 3), σ) = (rr, σr) := Option.some.inj hf
    obtain ⟨rfl, rfl⟩ := Prod.mk.inj hk
    exact x_iret O rfl rfl ⟨_, rfl, rfl⟩ dX9_now_55
  · rw [if_neg e0] at hf
    by_cases e1 : v1 = 1
    · rw [if_pos e1] at hf
      have hg9 := hf
      subst e1
      have hf := hg9
      refine x_tableIn O 56 dX9_now_1 (by decide) (by decide) rfl (by decide) ?_
      refine x_aload_n O 0 dX9_now_56 rfl rfl ?_
      refine x_getF O (t := 36) fl_X9_now_38 rfl dX9_now_57 ?_
      refine x_getI O fl_X9_now_141 rfl dX9_now_60 ?_
      have hk : ((gI σ 36 4), σ) = (rr, σr) := Option.some.inj hf
      obtain ⟨rfl, rfl⟩ := Prod.mk.inj hk
      exact x_iret O rfl rfl ⟨_, rfl, rfl⟩ dX9_now_63
    · rw [if_neg e1] at hf
      by_cases e2 : v1 = 2
      · rw [if_pos e2] at hf
        have hg9 := hf
        subst e2
        have hf := hg9
        refine x_tableIn O 64 dX9_now_1 (by decide) (by decide) rfl (by decide) ?_
        refine x_aload_n O 0 dX9_now_64 rfl rfl ?_
        refine x_getF O (t := 36) fl_X9_now_38 rfl dX9_now_65 ?_
        refine x_getI O fl_X9_now_144 rfl dX9_now_68 ?_
        have hk : ((gI σ 36 5), σ) = (rr, σr) := Option.some.inj hf
        obtain ⟨rfl, rfl⟩ := Prod.mk.inj hk
        exact x_iret O rfl rfl ⟨_, rfl, rfl⟩ dX9_now_71
      · rw [if_neg e2] at hf
        by_cases e3 : v1 = 3
        · rw [if_pos e3] at hf
          have hg9 := hf
          subst e3
          have hf := hg9
          refine x_tableIn O 72 dX9_now_1 (by decide) (by decide) rfl (by decide) ?_
          refine x_aload_n O 0 dX9_now_72 rfl rfl ?_
          refine x_getF O (t := 36) fl_X9_now_38 rfl dX9_now_73 ?_
          refine x_getF O (t := 38) fl_X9_now_147 rfl dX9_now_76 ?_
          refine x_iconst O (v := 0) dX9_now_79 (by decide) ?_
          refine x_iald O hf rfl dX9_now_80 (fun j4 hf => ?_)
          have hk : ((gA σ 38 j4), σ) = (rr, σr) := Option.some.inj hf
          obtain ⟨rfl, rfl⟩ := Prod.mk.inj hk
          exact x_iret O rfl rfl ⟨_, rfl, rfl⟩ dX9_now_81
        · rw [if_neg e3] at hf
          by_cases e4 : v1 = 4
          · rw [if_pos e4] at hf
            have hg9 := hf
            subst e4
            have hf := hg9
            refine x_tableIn O 82 dX9_now_1 (by decide) (by decide) rfl (by decide) ?_
            refine x_aload_n O 0 dX9_now_82 rfl rfl ?_
            refine x_getF O (t := 36) fl_X9_now_38 rfl dX9_now_83 ?_
            refine x_getF O (t := 38) fl_X9_now_147 rfl dX9_now_86 ?_
            refine x_iconst O (v := 1) dX9_now_89 (by decide) ?_
            refine x_iald O hf rfl dX9_now_90 (fun j3 hf => ?_)
            have hk : ((gA σ 38 j3), σ) = (rr, σr) := Option.some.inj hf
            obtain ⟨rfl, rfl⟩ := Prod.mk.inj hk
            exact x_iret O rfl rfl ⟨_, rfl, rfl⟩ dX9_now_91
          · rw [if_neg e4] at hf
            by_cases e5 : v1 = 5
            · rw [if_pos e5] at hf
              have hg9 := hf
              subst e5
              have hf := hg9
              refine x_tableIn O 92 dX9_now_1 (by decide) (by decide) rfl (by decide) ?_
              refine x_aload_n O 0 dX9_now_92 rfl rfl ?_
              refine x_getF O (t := 36) fl_X9_now_38 rfl dX9_now_93 ?_
              refine x_getF O (t := 39) fl_X9_now_150 rfl dX9_now_96 ?_
              refine x_iconst O (v := 0) dX9_now_99 (by decide) ?_
              refine x_iald O hf rfl dX9_now_100 (fun j2 hf => ?_)
              have hk : ((gA σ 39 j2), σ) = (rr, σr) := Option.some.inj hf
              obtain ⟨rfl, rfl⟩ := Prod.mk.inj hk
              exact x_iret O rfl rfl ⟨_, rfl, rfl⟩ dX9_now_101
            · rw [if_neg e5] at hf
              by_cases e6 : v1 = 6
              · rw [if_pos e6] at hf
                have hg9 := hf
                subst e6
                have hf := hg9
                refine x_tableIn O 102 dX9_now_1 (by decide) (by decide) rfl (by decide) ?_
                refine x_aload_n O 0 dX9_now_102 rfl rfl ?_
                refine x_getF O (t := 36) fl_X9_now_38 rfl dX9_now_103 ?_
                refine x_getF O (t := 39) fl_X9_now_150 rfl dX9_now_106 ?_
                refine x_iconst O (v := 1) dX9_now_109 (by decide) ?_
                refine x_iald O hf rfl dX9_now_110 (fun j1 hf => ?_)
                have hk : ((gA σ 39 j1), σ) = (rr, σr) := Option.some.inj hf
                obtain ⟨rfl, rfl⟩ := Prod.mk.inj hk
                exact x_iret O rfl rfl ⟨_, rfl, rfl⟩ dX9_now_111
              · rw [if_neg e6] at hf
                by_cases e7 : v1 = 7
                · rw [if_pos e7] at hf
                  have hg9 := hf
                  subst e7
                  have hf := hg9
                  refine x_tableIn O 112 dX9_now_1 (by decide) (by decide) rfl (by decide) ?_
                  refine x_aload_n O 0 dX9_now_112 rfl rfl ?_
                  refine x_getF O (t := 16) fl_X9_now_61 rfl dX9_now_113 ?_
                  refine x_getI O fl_X9_now_124 rfl dX9_now_116 ?_
                  have hk : ((gI σ 16 2), σ) = (rr, σr) := Option.some.inj hf
                  obtain ⟨rfl, rfl⟩ := Prod.mk.inj hk
                  exact x_iret O rfl rfl ⟨_, rfl, rfl⟩ dX9_now_119
                · rw [if_neg e7] at hf
                  refine x_tableOut O 120 dX9_now_1 (tb_out (x := v1) (hi := 7) (by decide) (fun k hk => by rcases (show k = 0 ∨ k = 1 ∨ k = 2 ∨ k = 3 ∨ k = 4 ∨ k = 5 ∨ k = 6 ∨ k = 7 by omega) with rfl | rfl | rfl | rfl | rfl | rfl | rfl | rfl <;> first | exact e0 | exact e1 | exact e2 | exact e3 | exact e4 | exact e5 | exact e6 | exact e7)) (by decide) ?_
                  refine x_ldc O (v := -1000000) mw_X9_now_0 dX9_now_120 ?_
                  have hk : ((-1000000), σ) = (rr, σr) := Option.some.inj hf
                  obtain ⟨rfl, rfl⟩ := Prod.mk.inj hk
                  exact x_iret O rfl rfl ⟨_, rfl, rfl⟩ dX9_now_122
theorem k_T_now {σ σr : Mm} {rr : Int32} {v1 : Int32}  (hf : f_T_now σ v1 = some (rr, σr)) : CT LT yX9_now wsX9_now rm_X9_now (fun ad => [.ref (ad 0), .int v1]) σ (some (.int rr)) σr := CT_of2 (cc := cX9_now) (maxL := 2) (rt := (some .int)) (own := RX9) (by decide) rfl rfl (fun _ => Nat.le_of_ble_eq_true rfl) (fun _ => rfl) (fun Γ ad O => v_T_now O  hf)

-- ===== TippedBarrow.hasNoStart()Z
theorem ca_X9_hasNoStart : Ca yX9_hasNoStart cX9_hasNoStart 1 (some .boolean) wsX9_hasNoStart rm_X9_hasNoStart 0 := ⟨⟨_, rfl⟩, rfl, rfl, by decide +kernel, by decide +kernel, by decide +kernel⟩
theorem in_X9_hasNoStart_X5 : ∀ w ∈ wsX50, w ∈ wsX9_hasNoStart := by decide +kernel
theorem in_X9_hasNoStart_X9 : ∀ w ∈ wsX90, w ∈ wsX9_hasNoStart := by decide +kernel
theorem fl_X9_hasNoStart_28 : Fl RX9 wsX9_hasNoStart 28 9 2 false (.object "TippedBarrow$Plan") := ⟨_, _, _, tyX9, rfl, in_X9_hasNoStart_X9, by decide, by decide +kernel, tyX9_ok, nmX9, rfl, tyX9_ok 2 (by decide)⟩
theorem fl_X9_hasNoStart_153 : Fl RX9 wsX9_hasNoStart 153 5 3 false .int := ⟨_, _, _, tyX5, rfl, in_X9_hasNoStart_X5, by decide, by decide +kernel, tyX5_ok, nmX5, rfl, tyX5_ok 3 (by decide)⟩
set_option maxHeartbeats 4000000 in
set_option maxRecDepth 100000 in
theorem v_T_hasNoStart {Γ : Cx} {ad : Nat → Nat} {rr : Int32} {σr : Mm} (O : Ok LT Γ ad cX9_hasNoStart 1 RX9 wsX9_hasNoStart rm_X9_hasNoStart (some .boolean) (some (.int rr)) σr) {σ : Mm}   (hf : f_T_hasNoStart σ = some (rr, σr)) : X LT Γ ad σ 0 [(0, .ref (ad 0))] [] := by
  unfold f_T_hasNoStart at hf
  refine x_aload_n O 0 dX9_hasNoStart_0 rfl rfl ?_
  refine x_getR O hf fl_X9_hasNoStart_28 rfl dX9_hasNoStart_1 (fun t1 ht1 hf => ?_)
  refine x_getI O fl_X9_hasNoStart_153 (fk_of (fkPl ht1) rfl) dX9_hasNoStart_4 ?_
  refine x_bipush O (v := -9) dX9_hasNoStart_7 (by decide) ?_
  refine x_icmp_ne O 16 hf dX9_hasNoStart_9 (by decide) (fun hf => ?_) (fun hf => ?_)
  · refine x_iconst O (v := 0) dX9_hasNoStart_16 (by decide) ?_
    have hk : (0, σ) = (rr, σr) := Option.some.inj hf
    obtain ⟨rfl, rfl⟩ := Prod.mk.inj hk
    exact x_iret O rfl rfl ⟨_, rfl, rfl⟩ dX9_hasNoStart_17
  · refine x_iconst O (v := 1) dX9_hasNoStart_12 (by decide) ?_
    refine x_goto O 17 dX9_hasNoStart_13 (by decide) ?_
    have hk : (1, σ) = (rr, σr) := Option.some.inj hf
    obtain ⟨rfl, rfl⟩ := Prod.mk.inj hk
    exact x_iret O rfl rfl ⟨_, rfl, rfl⟩ dX9_hasNoStart_17
theorem k_T_hasNoStart {σ σr : Mm} {rr : Int32}   (hf : f_T_hasNoStart σ = some (rr, σr)) : CT LT yX9_hasNoStart wsX9_hasNoStart rm_X9_hasNoStart (fun ad => [.ref (ad 0)]) σ (some (.int rr)) σr := CT_of2 (cc := cX9_hasNoStart) (maxL := 1) (rt := (some .boolean)) (own := RX9) (by decide) rfl rfl (fun _ => Nat.le_of_ble_eq_true rfl) (fun _ => rfl) (fun Γ ad O => v_T_hasNoStart O  hf)

-- ===== TippedBarrow.isNoWay(I)Z
theorem ca_X9_isNoWay : Ca yX9_isNoWay cX9_isNoWay 1 (some .boolean) wsX9_isNoWay rm_X9_isNoWay 1 := ⟨⟨_, rfl⟩, rfl, rfl, by decide +kernel, by decide +kernel, by decide +kernel⟩
set_option maxHeartbeats 4000000 in
set_option maxRecDepth 100000 in
theorem v_T_isNoWay {Γ : Cx} {ad : Nat → Nat} {rr : Int32} {σr : Mm} (O : Ok LT Γ ad cX9_isNoWay 1 RX9 wsX9_isNoWay rm_X9_isNoWay (some .boolean) (some (.int rr)) σr) {σ : Mm} {v0 : Int32}  (hf : f_T_isNoWay σ v0 = some (rr, σr)) : X LT Γ ad σ 0 [(0, .int v0)] [] := by
  unfold f_T_isNoWay at hf
  refine x_iload_n O 0 dX9_isNoWay_0 rfl rfl ?_
  refine x_if_lt O 9 hf dX9_isNoWay_1 (by decide) (fun hf => ?_) (fun hf => ?_)
  · refine x_iconst O (v := 1) dX9_isNoWay_9 (by decide) ?_
    refine x_goto O 14 dX9_isNoWay_10 (by decide) ?_
    have hk : (1, σ) = (rr, σr) := Option.some.inj hf
    obtain ⟨rfl, rfl⟩ := Prod.mk.inj hk
    exact x_iret O rfl rfl ⟨_, rfl, rfl⟩ dX9_isNoWay_14
  · refine x_iload_n O 0 dX9_isNoWay_4 rfl rfl ?_
    refine x_iconst O (v := 4) dX9_isNoWay_5 (by decide) ?_
    refine x_icmp_lt O 13 hf dX9_isNoWay_6 (by decide) (fun hf => ?_) (fun hf => ?_)
    · refine x_iconst O (v := 0) dX9_isNoWay_13 (by decide) ?_
      have hk : (0, σ) = (rr, σr) := Option.some.inj hf
      obtain ⟨rfl, rfl⟩ := Prod.mk.inj hk
      exact x_iret O rfl rfl ⟨_, rfl, rfl⟩ dX9_isNoWay_14
    · refine x_iconst O (v := 1) dX9_isNoWay_9 (by decide) ?_
      refine x_goto O 14 dX9_isNoWay_10 (by decide) ?_
      have hk : (1, σ) = (rr, σr) := Option.some.inj hf
      obtain ⟨rfl, rfl⟩ := Prod.mk.inj hk
      exact x_iret O rfl rfl ⟨_, rfl, rfl⟩ dX9_isNoWay_14
theorem k_T_isNoWay {σ σr : Mm} {rr : Int32} {v0 : Int32}  (hf : f_T_isNoWay σ v0 = some (rr, σr)) : CT LT yX9_isNoWay wsX9_isNoWay rm_X9_isNoWay (fun ad => [.int v0]) σ (some (.int rr)) σr := CT_of2 (cc := cX9_isNoWay) (maxL := 1) (rt := (some .boolean)) (own := RX9) (by decide) rfl rfl (fun _ => Nat.le_of_ble_eq_true rfl) (fun _ => rfl) (fun Γ ad O => v_T_isNoWay O  hf)

-- ===== TippedBarrow$Ground.beyond(II)I
theorem ca_X2_beyond : Ca yX2_beyond cX2_beyond 3 (some .int) wsX2_beyond rm_X2_beyond 2 := ⟨⟨_, rfl⟩, rfl, rfl, by decide +kernel, by decide +kernel, by decide +kernel⟩
theorem in_X2_beyond_X2 : ∀ w ∈ wsX20, w ∈ wsX2_beyond := by decide +kernel
theorem fl_X2_beyond_9 : Fl RX2 wsX2_beyond 9 2 1 true (.array .int) := ⟨_, _, _, tyX2, rfl, in_X2_beyond_X2, by decide, by decide +kernel, tyX2_ok, nmX2, rfl, tyX2_ok 1 (by decide)⟩
set_option maxHeartbeats 4000000 in
set_option maxRecDepth 100000 in
theorem v_Gr_beyond {Γ : Cx} {ad : Nat → Nat} {rr : Int32} {σr : Mm} (O : Ok LT Γ ad cX2_beyond 3 RX2 wsX2_beyond rm_X2_beyond (some .int) (some (.int rr)) σr) {σ : Mm} {r0 : Nat} {v1 : Int32} {v2 : Int32} (h0 : okGr r0 = true) (hf : f_Gr_beyond σ r0 v1 v2 = some (rr, σr)) : X LT Γ ad σ 0 [(0, .ref (ad r0)), (1, .int v1), (2, .int v2)] [] := by
  unfold f_Gr_beyond at hf
  refine x_iload_n O 1 dX2_beyond_0 rfl rfl ?_
  refine x_if_lt O 19 hf dX2_beyond_1 (by decide) (fun hf => ?_) (fun hf => ?_)
  · refine x_iconst O (v := -1) dX2_beyond_19 (by decide) ?_
    have hk : ((-1), σ) = (rr, σr) := Option.some.inj hf
    obtain ⟨rfl, rfl⟩ := Prod.mk.inj hk
    exact x_iret O rfl rfl ⟨_, rfl, rfl⟩ dX2_beyond_20
  · refine x_iload_n O 1 dX2_beyond_4 rfl rfl ?_
    refine x_bipush O (v := 20) dX2_beyond_5 (by decide) ?_
    refine x_icmp_ge O 19 hf dX2_beyond_7 (by decide) (fun hf => ?_) (fun hf => ?_)
    · refine x_iconst O (v := -1) dX2_beyond_19 (by decide) ?_
      have hk : ((-1), σ) = (rr, σr) := Option.some.inj hf
      obtain ⟨rfl, rfl⟩ := Prod.mk.inj hk
      exact x_iret O rfl rfl ⟨_, rfl, rfl⟩ dX2_beyond_20
    · refine x_iload_n O 2 dX2_beyond_10 rfl rfl ?_
      refine x_if_lt O 19 hf dX2_beyond_11 (by decide) (fun hf => ?_) (fun hf => ?_)
      · refine x_iconst O (v := -1) dX2_beyond_19 (by decide) ?_
        have hk : ((-1), σ) = (rr, σr) := Option.some.inj hf
        obtain ⟨rfl, rfl⟩ := Prod.mk.inj hk
        exact x_iret O rfl rfl ⟨_, rfl, rfl⟩ dX2_beyond_20
      · refine x_iload_n O 2 dX2_beyond_14 rfl rfl ?_
        refine x_iconst O (v := 4) dX2_beyond_15 (by decide) ?_
        refine x_icmp_lt O 21 hf dX2_beyond_16 (by decide) (fun hf => ?_) (fun hf => ?_)
        · refine x_aload_n O 0 dX2_beyond_21 rfl rfl ?_
          refine x_getF O (t := (r0 + 1)) fl_X2_beyond_9 (fk_of (fkGr h0) rfl) dX2_beyond_22 ?_
          refine x_iconst O (v := 4) dX2_beyond_25 (by decide) ?_
          refine x_iload_n O 1 dX2_beyond_26 rfl rfl ?_
          refine x_imul O dX2_beyond_27 ?_
          refine x_iload_n O 2 dX2_beyond_28 rfl rfl ?_
          refine x_iadd O dX2_beyond_29 ?_
          refine x_iald O hf (arGrN h0) dX2_beyond_30 (fun j1 hf => ?_)
          have hk : ((gA σ (r0 + 1) j1), σ) = (rr, σr) := Option.some.inj hf
          obtain ⟨rfl, rfl⟩ := Prod.mk.inj hk
          exact x_iret O rfl rfl ⟨_, rfl, rfl⟩ dX2_beyond_31
        · refine x_iconst O (v := -1) dX2_beyond_19 (by decide) ?_
          have hk : ((-1), σ) = (rr, σr) := Option.some.inj hf
          obtain ⟨rfl, rfl⟩ := Prod.mk.inj hk
          exact x_iret O rfl rfl ⟨_, rfl, rfl⟩ dX2_beyond_20
theorem k_Gr_beyond {σ σr : Mm} {rr : Int32} {r0 : Nat} {v1 : Int32} {v2 : Int32} (h0 : okGr r0 = true) (hf : f_Gr_beyond σ r0 v1 v2 = some (rr, σr)) : CT LT yX2_beyond wsX2_beyond rm_X2_beyond (fun ad => [.ref (ad r0), .int v1, .int v2]) σ (some (.int rr)) σr := CT_of2 (cc := cX2_beyond) (maxL := 3) (rt := (some .int)) (own := RX2) (by decide) rfl rfl (fun _ => Nat.le_of_ble_eq_true rfl) (fun _ => rfl) (fun Γ ad O => v_Gr_beyond O h0 hf)

-- ===== TippedBarrow.nextCell(I)I
theorem ca_X9_nextCell : Ca yX9_nextCell cX9_nextCell 2 (some .int) wsX9_nextCell rm_X9_nextCell 1 := ⟨⟨_, rfl⟩, rfl, rfl, by decide +kernel, by decide +kernel, by decide +kernel⟩
theorem in_X9_nextCell_X4 : ∀ w ∈ wsX40, w ∈ wsX9_nextCell := by decide +kernel
theorem in_X9_nextCell_X9 : ∀ w ∈ wsX90, w ∈ wsX9_nextCell := by decide +kernel
theorem fl_X9_nextCell_38 : Fl RX9 wsX9_nextCell 38 9 4 true (.object "TippedBarrow$Moment") := ⟨_, _, _, tyX9, rfl, in_X9_nextCell_X9, by decide, by decide +kernel, tyX9_ok, nmX9, rfl, tyX9_ok 4 (by decide)⟩
theorem fl_X9_nextCell_51 : Fl RX9 wsX9_nextCell 51 9 5 true (.object "TippedBarrow$Ground") := ⟨_, _, _, tyX9, rfl, in_X9_nextCell_X9, by decide, by decide +kernel, tyX9_ok, nmX9, rfl, tyX9_ok 5 (by decide)⟩
theorem fl_X9_nextCell_138 : Fl RX9 wsX9_nextCell 138 4 3 false .int := ⟨_, _, _, tyX4, rfl, in_X9_nextCell_X4, by decide, by decide +kernel, tyX4_ok, nmX4, rfl, tyX4_ok 3 (by decide)⟩
theorem fl_X9_nextCell_147 : Fl RX9 wsX9_nextCell 147 4 1 true (.array .int) := ⟨_, _, _, tyX4, rfl, in_X9_nextCell_X4, by decide, by decide +kernel, tyX4_ok, nmX4, rfl, tyX4_ok 1 (by decide)⟩
set_option maxHeartbeats 4000000 in
set_option maxRecDepth 100000 in
theorem v_T_nextCell {Γ : Cx} {ad : Nat → Nat} {rr : Int32} {σr : Mm} (O : Ok LT Γ ad cX9_nextCell 2 RX9 wsX9_nextCell rm_X9_nextCell (some .int) (some (.int rr)) σr) {σ : Mm} {v1 : Int32}  (hf : f_T_nextCell σ v1 = some (rr, σr)) : X LT Γ ad σ 0 [(0, .ref (ad 0)), (1, .int v1)] [] := by
  unfold f_T_nextCell at hf
  refine x_aload_n O 0 dX9_nextCell_0 rfl rfl ?_
  obtain ⟨r_1, σ1, hc, hf⟩ := bd_some hf
  refine x_callV O (k_T_hasNoStart  hc) ca_X9_hasNoStart gX9_nextCell_X9_hasNoStart rfl ⟨_, _, _, _, rfl, rfl⟩ rfl rfl rfl (Nat.le_of_ble_eq_true rfl) ⟨Nat.le_of_ble_eq_true rfl, Nat.le_of_ble_eq_true rfl⟩ dX9_nextCell_1 ?_
  refine x_push O ?_
  refine x_if_ne O 37 hf dX9_nextCell_4 (by decide) (fun hf => ?_) (fun hf => ?_)
  · refine x_iconst O (v := -1) dX9_nextCell_37 (by decide) ?_
    have hk : ((-1), σ1) = (rr, σr) := Option.some.inj hf
    obtain ⟨rfl, rfl⟩ := Prod.mk.inj hk
    exact x_iret O rfl rfl ⟨_, rfl, rfl⟩ dX9_nextCell_38
  · refine x_aload_n O 0 dX9_nextCell_7 rfl rfl ?_
    refine x_getF O (t := 36) fl_X9_nextCell_38 rfl dX9_nextCell_8 ?_
    refine x_getF O (t := 38) fl_X9_nextCell_147 rfl dX9_nextCell_11 ?_
    refine x_iconst O (v := 0) dX9_nextCell_14 (by decide) ?_
    refine x_iald O hf rfl dX9_nextCell_15 (fun j1 hf => ?_)
    refine x_sipush O (v := 999) dX9_nextCell_16 (by decide) ?_
    refine x_icmp_ge O 37 hf dX9_nextCell_19 (by decide) (fun hf => ?_) (fun hf => ?_)
    · refine x_iconst O (v := -1) dX9_nextCell_37 (by decide) ?_
      have hk : ((-1), σ1) = (rr, σr) := Option.some.inj hf
      obtain ⟨rfl, rfl⟩ := Prod.mk.inj hk
      exact x_iret O rfl rfl ⟨_, rfl, rfl⟩ dX9_nextCell_38
    · refine x_aload_n O 0 dX9_nextCell_22 rfl rfl ?_
      refine x_getF O (t := 36) fl_X9_nextCell_38 rfl dX9_nextCell_23 ?_
      refine x_getF O (t := 38) fl_X9_nextCell_147 rfl dX9_nextCell_26 ?_
      refine x_iconst O (v := 1) dX9_nextCell_29 (by decide) ?_
      refine x_iald O hf rfl dX9_nextCell_30 (fun j2 hf => ?_)
      refine x_sipush O (v := 999) dX9_nextCell_31 (by decide) ?_
      refine x_icmp_lt O 39 hf dX9_nextCell_34 (by decide) (fun hf => ?_) (fun hf => ?_)
      · refine x_aload_n O 0 dX9_nextCell_39 rfl rfl ?_
        refine x_getF O (t := 11) fl_X9_nextCell_51 rfl dX9_nextCell_40 ?_
        refine x_aload_n O 0 dX9_nextCell_43 rfl rfl ?_
        refine x_getF O (t := 36) fl_X9_nextCell_38 rfl dX9_nextCell_44 ?_
        refine x_getI O fl_X9_nextCell_138 rfl dX9_nextCell_47 ?_
        refine x_iload_n O 1 dX9_nextCell_50 rfl rfl ?_
        obtain ⟨r_2, σ2, hc, hf⟩ := bd_some hf
        refine x_callV O (k_Gr_beyond rfl hc) ca_X2_beyond gX9_nextCell_X2_beyond rfl ⟨_, _, _, _, rfl, rfl⟩ rfl rfl rfl (Nat.le_of_ble_eq_true rfl) ⟨Nat.le_of_ble_eq_true rfl, Nat.le_of_ble_eq_true rfl⟩ dX9_nextCell_51 ?_
        refine x_push O ?_
        have hk : (r_2, σ2) = (rr, σr) := Option.some.inj hf
        obtain ⟨rfl, rfl⟩ := Prod.mk.inj hk
        exact x_iret O rfl rfl ⟨_, rfl, rfl⟩ dX9_nextCell_54
      · refine x_iconst O (v := -1) dX9_nextCell_37 (by decide) ?_
        have hk : ((-1), σ1) = (rr, σr) := Option.some.inj hf
        obtain ⟨rfl, rfl⟩ := Prod.mk.inj hk
        exact x_iret O rfl rfl ⟨_, rfl, rfl⟩ dX9_nextCell_38
theorem k_T_nextCell {σ σr : Mm} {rr : Int32} {v1 : Int32}  (hf : f_T_nextCell σ v1 = some (rr, σr)) : CT LT yX9_nextCell wsX9_nextCell rm_X9_nextCell (fun ad => [.ref (ad 0), .int v1]) σ (some (.int rr)) σr := CT_of2 (cc := cX9_nextCell) (maxL := 2) (rt := (some .int)) (own := RX9) (by decide) rfl rfl (fun _ => Nat.le_of_ble_eq_true rfl) (fun _ => rfl) (fun Γ ad O => v_T_nextCell O  hf)

-- ===== TippedBarrow$Moment.become(LTippedBarrow$Moment;)V
theorem ca_X4_become : Ca yX4_become cX4_become 2 none wsX4_become rm_X4_become 1 := ⟨⟨_, rfl⟩, rfl, rfl, by decide +kernel, by decide +kernel, by decide +kernel⟩
theorem in_X4_become_X4 : ∀ w ∈ wsX40, w ∈ wsX4_become := by decide +kernel
theorem fl_X4_become_9 : Fl RX4 wsX4_become 9 4 0 true (.array .int) := ⟨_, _, _, tyX4, rfl, in_X4_become_X4, by decide, by decide +kernel, tyX4_ok, nmX4, rfl, tyX4_ok 0 (by decide)⟩
theorem fl_X4_become_15 : Fl RX4 wsX4_become 15 4 1 true (.array .int) := ⟨_, _, _, tyX4, rfl, in_X4_become_X4, by decide, by decide +kernel, tyX4_ok, nmX4, rfl, tyX4_ok 1 (by decide)⟩
theorem fl_X4_become_18 : Fl RX4 wsX4_become 18 4 2 true (.array .int) := ⟨_, _, _, tyX4, rfl, in_X4_become_X4, by decide, by decide +kernel, tyX4_ok, nmX4, rfl, tyX4_ok 2 (by decide)⟩
theorem fl_X4_become_21 : Fl RX4 wsX4_become 21 4 3 false .int := ⟨_, _, _, tyX4, rfl, in_X4_become_X4, by decide, by decide +kernel, tyX4_ok, nmX4, rfl, tyX4_ok 3 (by decide)⟩
theorem fl_X4_become_43 : Fl RX4 wsX4_become 43 4 4 false .int := ⟨_, _, _, tyX4, rfl, in_X4_become_X4, by decide, by decide +kernel, tyX4_ok, nmX4, rfl, tyX4_ok 4 (by decide)⟩
theorem fl_X4_become_46 : Fl RX4 wsX4_become 46 4 5 false .int := ⟨_, _, _, tyX4, rfl, in_X4_become_X4, by decide, by decide +kernel, tyX4_ok, nmX4, rfl, tyX4_ok 5 (by decide)⟩
theorem mw_X4_become_0 : Cond.methodLink RX4 34 arraycopyName ∈ wsX4_become := by decide +kernel
theorem mw_X4_become_1 : Cond.native arraycopyName ∈ wsX4_become := by decide +kernel
theorem mw_X4_become_2 : Cond.static arraycopyName ∈ wsX4_become := by decide +kernel
theorem mw_X4_become_3 : Cond.initialized "java/lang/System" ∈ wsX4_become := by decide +kernel
set_option maxHeartbeats 4000000 in
set_option maxRecDepth 100000 in
theorem v_Mo_become {Γ : Cx} {ad : Nat → Nat} {rr : Int32} {σr : Mm} (O : Ok LT Γ ad cX4_become 2 RX4 wsX4_become rm_X4_become none none σr) {σ : Mm} {r0 : Nat} {r1 : Nat} (h0 : okMo r0 = true) (h1 : okMo r1 = true) (hf : f_Mo_become σ r0 r1 = some (rr, σr)) : X LT Γ ad σ 0 [(0, .ref (ad r0)), (1, .ref (ad r1))] [] := by
  unfold f_Mo_become at hf
  refine x_aload_n O 1 dX4_become_0 rfl rfl ?_
  refine x_getF O (t := (r1 + 1)) fl_X4_become_9 (fk_of (fkMo h1) rfl) dX4_become_1 ?_
  refine x_iconst O (v := 0) dX4_become_4 (by decide) ?_
  refine x_aload_n O 0 dX4_become_5 rfl rfl ?_
  refine x_getF O (t := (r0 + 1)) fl_X4_become_9 (fk_of (fkMo h0) rfl) dX4_become_6 ?_
  refine x_iconst O (v := 0) dX4_become_9 (by decide) ?_
  refine x_bipush O (v := 20) dX4_become_10 (by decide) ?_
  refine x_copyN O hf mw_X4_become_0 mw_X4_become_1 mw_X4_become_2 mw_X4_become_3 (arMo1 h1) (arMo1 h0) (by decide) (by decide) (by decide) (by decide) (by decide) (Nat.le_of_ble_eq_true rfl) (Nat.le_of_ble_eq_true rfl) dX4_become_12 (fun σ1 hf => ?_)
  refine x_aload_n O 1 dX4_become_15 rfl rfl ?_
  refine x_getF O (t := (r1 + 2)) fl_X4_become_15 (fk_of (fkMo h1) rfl) dX4_become_16 ?_
  refine x_iconst O (v := 0) dX4_become_19 (by decide) ?_
  refine x_aload_n O 0 dX4_become_20 rfl rfl ?_
  refine x_getF O (t := (r0 + 2)) fl_X4_become_15 (fk_of (fkMo h0) rfl) dX4_become_21 ?_
  refine x_iconst O (v := 0) dX4_become_24 (by decide) ?_
  refine x_iconst O (v := 2) dX4_become_25 (by decide) ?_
  refine x_copyN O hf mw_X4_become_0 mw_X4_become_1 mw_X4_become_2 mw_X4_become_3 (arMo2 h1) (arMo2 h0) (by decide) (by decide) (by decide) (by decide) (by decide) (Nat.le_of_ble_eq_true rfl) (Nat.le_of_ble_eq_true rfl) dX4_become_26 (fun σ2 hf => ?_)
  refine x_aload_n O 1 dX4_become_29 rfl rfl ?_
  refine x_getF O (t := (r1 + 3)) fl_X4_become_18 (fk_of (fkMo h1) rfl) dX4_become_30 ?_
  refine x_iconst O (v := 0) dX4_become_33 (by decide) ?_
  refine x_aload_n O 0 dX4_become_34 rfl rfl ?_
  refine x_getF O (t := (r0 + 3)) fl_X4_become_18 (fk_of (fkMo h0) rfl) dX4_become_35 ?_
  refine x_iconst O (v := 0) dX4_become_38 (by decide) ?_
  refine x_iconst O (v := 2) dX4_become_39 (by decide) ?_
  refine x_copyN O hf mw_X4_become_0 mw_X4_become_1 mw_X4_become_2 mw_X4_become_3 (arMo3 h1) (arMo3 h0) (by decide) (by decide) (by decide) (by decide) (by decide) (Nat.le_of_ble_eq_true rfl) (Nat.le_of_ble_eq_true rfl) dX4_become_40 (fun σ3 hf => ?_)
  refine x_aload_n O 0 dX4_become_43 rfl rfl ?_
  refine x_aload_n O 1 dX4_become_44 rfl rfl ?_
  refine x_getI O fl_X4_become_21 (fk_of (fkMo h1) rfl) dX4_become_45 ?_
  refine x_putIN O hf rfl rfl fl_X4_become_21 (fk_of (fkMo h0) rfl) dX4_become_48 (fun σ4 hf => ?_)
  refine x_aload_n O 0 dX4_become_51 rfl rfl ?_
  refine x_aload_n O 1 dX4_become_52 rfl rfl ?_
  refine x_getI O fl_X4_become_43 (fk_of (fkMo h1) rfl) dX4_become_53 ?_
  refine x_putIN O hf rfl rfl fl_X4_become_43 (fk_of (fkMo h0) rfl) dX4_become_56 (fun σ5 hf => ?_)
  refine x_aload_n O 0 dX4_become_59 rfl rfl ?_
  refine x_aload_n O 1 dX4_become_60 rfl rfl ?_
  refine x_getI O fl_X4_become_46 (fk_of (fkMo h1) rfl) dX4_become_61 ?_
  refine x_putIN O hf rfl rfl fl_X4_become_46 (fk_of (fkMo h0) rfl) dX4_become_64 (fun σ6 hf => ?_)
  have hk : ((0 : Int32), σ6) = (rr, σr) := Option.some.inj hf
  obtain ⟨rfl, rfl⟩ := Prod.mk.inj hk
  exact x_vret O rfl rfl rfl dX4_become_67
theorem k_Mo_become {σ σr : Mm} {rr : Int32} {r0 : Nat} {r1 : Nat} (h0 : okMo r0 = true) (h1 : okMo r1 = true) (hf : f_Mo_become σ r0 r1 = some (rr, σr)) : CT LT yX4_become wsX4_become rm_X4_become (fun ad => [.ref (ad r0), .ref (ad r1)]) σ none σr := CT_of2 (cc := cX4_become) (maxL := 2) (rt := none) (own := RX4) (by decide) rfl rfl (fun _ => Nat.le_of_ble_eq_true rfl) (fun _ => rfl) (fun Γ ad O => v_Mo_become O h0 h1 hf)

-- ===== TippedBarrow$History.save(LTippedBarrow$Moment;)V
theorem ca_X3_save : Ca yX3_save cX3_save 2 none wsX3_save rm_X3_save 1 := ⟨⟨_, rfl⟩, rfl, rfl, by decide +kernel, by decide +kernel, by decide +kernel⟩
theorem in_X3_save_X3 : ∀ w ∈ wsX30, w ∈ wsX3_save := by decide +kernel
theorem fl_X3_save_11 : Fl RX3 wsX3_save 11 3 0 true (.array (.object "TippedBarrow$Moment")) := ⟨_, _, _, tyX3, rfl, in_X3_save_X3, by decide, by decide +kernel, tyX3_ok, nmX3, rfl, tyX3_ok 0 (by decide)⟩
theorem fl_X3_save_16 : Fl RX3 wsX3_save 16 3 1 false .int := ⟨_, _, _, tyX3, rfl, in_X3_save_X3, by decide, by decide +kernel, tyX3_ok, nmX3, rfl, tyX3_ok 1 (by decide)⟩
theorem fl_X3_save_24 : Fl RX3 wsX3_save 24 3 2 false .int := ⟨_, _, _, tyX3, rfl, in_X3_save_X3, by decide, by decide +kernel, tyX3_ok, nmX3, rfl, tyX3_ok 2 (by decide)⟩
theorem mw_X3_save_0 : Cond.methodLink RX3 27 Lib.Math.min.name ∈ wsX3_save := by decide +kernel
theorem mw_X3_save_1 : Cond.static Lib.Math.min.name ∈ wsX3_save := by decide +kernel
theorem mw_X3_save_2 : Cond.initialized "java/lang/Math" ∈ wsX3_save := by decide +kernel
theorem mw_X3_save_3 : Cond.code Lib.Math.min.name Lib.Math.min.code 2 (some .int) ∈ wsX3_save := by decide +kernel
set_option maxHeartbeats 4000000 in
set_option maxRecDepth 100000 in
theorem v_Hi_save {Γ : Cx} {ad : Nat → Nat} {rr : Int32} {σr : Mm} (O : Ok LT Γ ad cX3_save 2 RX3 wsX3_save rm_X3_save none none σr) {σ : Mm} {r1 : Nat} (h1 : okMo r1 = true) (hf : f_Hi_save σ r1 = some (rr, σr)) : X LT Γ ad σ 0 [(0, .ref (ad 16)), (1, .ref (ad r1))] [] := by
  unfold f_Hi_save at hf
  refine x_aload_n O 0 dX3_save_0 rfl rfl ?_
  refine x_aload_n O 0 dX3_save_1 rfl rfl ?_
  refine x_getI O fl_X3_save_16 rfl dX3_save_2 ?_
  refine x_iconst O (v := 1) dX3_save_5 (by decide) ?_
  refine x_iadd O dX3_save_6 ?_
  refine x_bipush O (v := 10) dX3_save_7 (by decide) ?_
  refine x_iremK O (by decide) dX3_save_9 ?_
  refine x_putIN O hf rfl rfl fl_X3_save_16 rfl dX3_save_10 (fun σ1 hf => ?_)
  refine x_aload_n O 0 dX3_save_13 rfl rfl ?_
  refine x_getF O (t := 17) fl_X3_save_11 rfl dX3_save_14 ?_
  refine x_aload_n O 0 dX3_save_17 rfl rfl ?_
  refine x_getI O fl_X3_save_16 rfl dX3_save_18 ?_
  refine x_aald O (g := fun j => 40 + 4 * j) hf rfl rfl idMo_h dX3_save_21 (fun j1 hj1 hf => ?_)
  refine x_aload_n O 1 dX3_save_22 rfl rfl ?_
  obtain ⟨r_1, σ2, hc, hf⟩ := bd_some hf
  refine x_callV O (k_Mo_become (okMo_h hj1) h1 hc) ca_X4_become gX3_save_X4_become rfl (okCl_Mo (okMo_h hj1)) rfl rfl rfl (Nat.le_of_ble_eq_true rfl) ⟨Nat.le_of_ble_eq_true rfl, Nat.le_of_ble_eq_true rfl⟩ dX3_save_23 ?_
  refine x_pushN O ?_
  refine x_aload_n O 0 dX3_save_26 rfl rfl ?_
  refine x_bipush O (v := 10) dX3_save_27 (by decide) ?_
  refine x_aload_n O 0 dX3_save_29 rfl rfl ?_
  refine x_getI O fl_X3_save_24 rfl dX3_save_30 ?_
  refine x_iconst O (v := 1) dX3_save_33 (by decide) ?_
  refine x_iadd O dX3_save_34 ?_
  refine x_min O mw_X3_save_0 mw_X3_save_1 mw_X3_save_2 mw_X3_save_3 (Nat.le_of_ble_eq_true rfl) (Nat.le_of_ble_eq_true rfl) dX3_save_35 ?_
  refine x_putIN O hf rfl rfl fl_X3_save_24 rfl dX3_save_38 (fun σ3 hf => ?_)
  have hk : ((0 : Int32), σ3) = (rr, σr) := Option.some.inj hf
  obtain ⟨rfl, rfl⟩ := Prod.mk.inj hk
  exact x_vret O rfl rfl rfl dX3_save_41
theorem k_Hi_save {σ σr : Mm} {rr : Int32} {r1 : Nat} (h1 : okMo r1 = true) (hf : f_Hi_save σ r1 = some (rr, σr)) : CT LT yX3_save wsX3_save rm_X3_save (fun ad => [.ref (ad 16), .ref (ad r1)]) σ none σr := CT_of2 (cc := cX3_save) (maxL := 2) (rt := none) (own := RX3) (by decide) rfl rfl (fun _ => Nat.le_of_ble_eq_true rfl) (fun _ => rfl) (fun Γ ad O => v_Hi_save O h1 hf)

-- ===== TippedBarrow$Ground.gain(I)I
theorem ca_X2_gain : Ca yX2_gain cX2_gain 2 (some .int) wsX2_gain rm_X2_gain 1 := ⟨⟨_, rfl⟩, rfl, rfl, by decide +kernel, by decide +kernel, by decide +kernel⟩
theorem in_X2_gain_X2 : ∀ w ∈ wsX20, w ∈ wsX2_gain := by decide +kernel
theorem fl_X2_gain_19 : Fl RX2 wsX2_gain 19 2 0 true (.array .int) := ⟨_, _, _, tyX2, rfl, in_X2_gain_X2, by decide, by decide +kernel, tyX2_ok, nmX2, rfl, tyX2_ok 0 (by decide)⟩
theorem fl_X2_gain_48 : Fl RX2 wsX2_gain 48 2 3 false .int := ⟨_, _, _, tyX2, rfl, in_X2_gain_X2, by decide, by decide +kernel, tyX2_ok, nmX2, rfl, tyX2_ok 3 (by decide)⟩
set_option maxHeartbeats 4000000 in
set_option maxRecDepth 100000 in
theorem v_Gr_gain {Γ : Cx} {ad : Nat → Nat} {rr : Int32} {σr : Mm} (O : Ok LT Γ ad cX2_gain 2 RX2 wsX2_gain rm_X2_gain (some .int) (some (.int rr)) σr) {σ : Mm} {r0 : Nat} {v1 : Int32} (h0 : okGr r0 = true) (hf : f_Gr_gain σ r0 v1 = some (rr, σr)) : X LT Γ ad σ 0 [(0, .ref (ad r0)), (1, .int v1)] [] := by
  unfold f_Gr_gain at hf
  refine x_aload_n O 0 dX2_gain_0 rfl rfl ?_
  refine x_iload_n O 1 dX2_gain_1 rfl rfl ?_
  obtain ⟨r_1, σ1, hc, hf⟩ := bd_some hf
  refine x_callV O (k_Gr_isBrick h0 hc) ca_X2_isBrick gX2_gain_X2_isBrick rfl (okCl_Gr h0) rfl rfl rfl (Nat.le_of_ble_eq_true rfl) ⟨Nat.le_of_ble_eq_true rfl, Nat.le_of_ble_eq_true rfl⟩ dX2_gain_2 ?_
  refine x_push O ?_
  refine x_if_eq O 12 hf dX2_gain_5 (by decide) (fun hf => ?_) (fun hf => ?_)
  · refine x_aload_n O 0 dX2_gain_12 rfl rfl ?_
    refine x_getF O (t := (gTl r0)) fl_X2_gain_19 (fk_of (fkGr h0) rfl) dX2_gain_13 ?_
    refine x_iload_n O 1 dX2_gain_16 rfl rfl ?_
    refine x_iald O hf (arGrT h0) dX2_gain_17 (fun j1 hf => ?_)
    refine x_aload_n O 0 dX2_gain_18 rfl rfl ?_
    refine x_getI O fl_X2_gain_48 (fk_of (fkGr h0) rfl) dX2_gain_19 ?_
    refine x_iadd O dX2_gain_22 ?_
    have hk : (((gA σ1 (gTl r0) j1) + (gI σ1 r0 3)), σ1) = (rr, σr) := Option.some.inj hf
    obtain ⟨rfl, rfl⟩ := Prod.mk.inj hk
    exact x_iret O rfl rfl ⟨_, rfl, rfl⟩ dX2_gain_23
  · refine x_iconst O (v := 0) dX2_gain_8 (by decide) ?_
    refine x_goto O 23 dX2_gain_9 (by decide) ?_
    have hk : (0, σ1) = (rr, σr) := Option.some.inj hf
    obtain ⟨rfl, rfl⟩ := Prod.mk.inj hk
    exact x_iret O rfl rfl ⟨_, rfl, rfl⟩ dX2_gain_23
theorem k_Gr_gain {σ σr : Mm} {rr : Int32} {r0 : Nat} {v1 : Int32} (h0 : okGr r0 = true) (hf : f_Gr_gain σ r0 v1 = some (rr, σr)) : CT LT yX2_gain wsX2_gain rm_X2_gain (fun ad => [.ref (ad r0), .int v1]) σ (some (.int rr)) σr := CT_of2 (cc := cX2_gain) (maxL := 2) (rt := (some .int)) (own := RX2) (by decide) rfl rfl (fun _ => Nat.le_of_ble_eq_true rfl) (fun _ => rfl) (fun Γ ad O => v_Gr_gain O h0 hf)

-- ===== TippedBarrow$Ground.leanOn(II)I
theorem ca_X2_leanOn : Ca yX2_leanOn cX2_leanOn 3 (some .int) wsX2_leanOn rm_X2_leanOn 2 := ⟨⟨_, rfl⟩, rfl, rfl, by decide +kernel, by decide +kernel, by decide +kernel⟩
set_option maxHeartbeats 4000000 in
set_option maxRecDepth 100000 in
theorem v_Gr_leanOn {Γ : Cx} {ad : Nat → Nat} {rr : Int32} {σr : Mm} (O : Ok LT Γ ad cX2_leanOn 3 RX2 wsX2_leanOn rm_X2_leanOn (some .int) (some (.int rr)) σr) {σ : Mm} {r0 : Nat} {v1 : Int32} {v2 : Int32} (h0 : okGr r0 = true) (hf : f_Gr_leanOn σ r0 v1 v2 = some (rr, σr)) : X LT Γ ad σ 0 [(0, .ref (ad r0)), (1, .int v1), (2, .int v2)] [] := by
  unfold f_Gr_leanOn at hf
  refine x_iload_n O 2 dX2_leanOn_0 rfl rfl ?_
  refine x_aload_n O 0 dX2_leanOn_1 rfl rfl ?_
  refine x_iload_n O 1 dX2_leanOn_2 rfl rfl ?_
  obtain ⟨r_1, σ1, hc, hf⟩ := bd_some hf
  refine x_callV O (k_Gr_gain h0 hc) ca_X2_gain gX2_leanOn_X2_gain rfl (okCl_Gr h0) rfl rfl rfl (Nat.le_of_ble_eq_true rfl) ⟨Nat.le_of_ble_eq_true rfl, Nat.le_of_ble_eq_true rfl⟩ dX2_leanOn_3 ?_
  refine x_push O ?_
  refine x_iadd O dX2_leanOn_6 ?_
  have hk : ((v2 + r_1), σ1) = (rr, σr) := Option.some.inj hf
  obtain ⟨rfl, rfl⟩ := Prod.mk.inj hk
  exact x_iret O rfl rfl ⟨_, rfl, rfl⟩ dX2_leanOn_7
theorem k_Gr_leanOn {σ σr : Mm} {rr : Int32} {r0 : Nat} {v1 : Int32} {v2 : Int32} (h0 : okGr r0 = true) (hf : f_Gr_leanOn σ r0 v1 v2 = some (rr, σr)) : CT LT yX2_leanOn wsX2_leanOn rm_X2_leanOn (fun ad => [.ref (ad r0), .int v1, .int v2]) σ (some (.int rr)) σr := CT_of2 (cc := cX2_leanOn) (maxL := 3) (rt := (some .int)) (own := RX2) (by decide) rfl rfl (fun _ => Nat.le_of_ble_eq_true rfl) (fun _ => rfl) (fun Γ ad O => v_Gr_leanOn O h0 hf)

-- ===== TippedBarrow$Ground.verdict(I)I
theorem ca_X2_verdict : Ca yX2_verdict cX2_verdict 2 (some .int) wsX2_verdict rm_X2_verdict 1 := ⟨⟨_, rfl⟩, rfl, rfl, by decide +kernel, by decide +kernel, by decide +kernel⟩
theorem in_X2_verdict_X2 : ∀ w ∈ wsX20, w ∈ wsX2_verdict := by decide +kernel
theorem fl_X2_verdict_15 : Fl RX2 wsX2_verdict 15 2 2 false .int := ⟨_, _, _, tyX2, rfl, in_X2_verdict_X2, by decide, by decide +kernel, tyX2_ok, nmX2, rfl, tyX2_ok 2 (by decide)⟩
set_option maxHeartbeats 4000000 in
set_option maxRecDepth 100000 in
theorem v_Gr_verdict {Γ : Cx} {ad : Nat → Nat} {rr : Int32} {σr : Mm} (O : Ok LT Γ ad cX2_verdict 2 RX2 wsX2_verdict rm_X2_verdict (some .int) (some (.int rr)) σr) {σ : Mm} {r0 : Nat} {v1 : Int32} (h0 : okGr r0 = true) (hf : f_Gr_verdict σ r0 v1 = some (rr, σr)) : X LT Γ ad σ 0 [(0, .ref (ad r0)), (1, .int v1)] [] := by
  unfold f_Gr_verdict at hf
  refine x_iload_n O 1 dX2_verdict_0 rfl rfl ?_
  refine x_aload_n O 0 dX2_verdict_1 rfl rfl ?_
  refine x_getI O fl_X2_verdict_15 (fk_of (fkGr h0) rfl) dX2_verdict_2 ?_
  refine x_ineg O dX2_verdict_5 ?_
  refine x_icmp_gt O 11 hf dX2_verdict_6 (by decide) (fun hf => ?_) (fun hf => ?_)
  · refine x_iload_n O 1 dX2_verdict_11 rfl rfl ?_
    refine x_aload_n O 0 dX2_verdict_12 rfl rfl ?_
    refine x_getI O fl_X2_verdict_15 (fk_of (fkGr h0) rfl) dX2_verdict_13 ?_
    refine x_icmp_lt O 23 hf dX2_verdict_16 (by decide) (fun hf => ?_) (fun hf => ?_)
    · refine x_iconst O (v := 0) dX2_verdict_23 (by decide) ?_
      have hk : (0, σ) = (rr, σr) := Option.some.inj hf
      obtain ⟨rfl, rfl⟩ := Prod.mk.inj hk
      exact x_iret O rfl rfl ⟨_, rfl, rfl⟩ dX2_verdict_24
    · refine x_iconst O (v := 2) dX2_verdict_19 (by decide) ?_
      refine x_goto O 24 dX2_verdict_20 (by decide) ?_
      have hk : (2, σ) = (rr, σr) := Option.some.inj hf
      obtain ⟨rfl, rfl⟩ := Prod.mk.inj hk
      exact x_iret O rfl rfl ⟨_, rfl, rfl⟩ dX2_verdict_24
  · refine x_iconst O (v := 1) dX2_verdict_9 (by decide) ?_
    have hk : (1, σ) = (rr, σr) := Option.some.inj hf
    obtain ⟨rfl, rfl⟩ := Prod.mk.inj hk
    exact x_iret O rfl rfl ⟨_, rfl, rfl⟩ dX2_verdict_10
theorem k_Gr_verdict {σ σr : Mm} {rr : Int32} {r0 : Nat} {v1 : Int32} (h0 : okGr r0 = true) (hf : f_Gr_verdict σ r0 v1 = some (rr, σr)) : CT LT yX2_verdict wsX2_verdict rm_X2_verdict (fun ad => [.ref (ad r0), .int v1]) σ (some (.int rr)) σr := CT_of2 (cc := cX2_verdict) (maxL := 2) (rt := (some .int)) (own := RX2) (by decide) rfl rfl (fun _ => Nat.le_of_ble_eq_true rfl) (fun _ => rfl) (fun Γ ad O => v_Gr_verdict O h0 hf)
