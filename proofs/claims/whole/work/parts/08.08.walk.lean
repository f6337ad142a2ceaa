-- ===== TippedBarrow$Moment.tip(III)V
theorem ca_X4_tip : Ca yX4_tip cX4_tip 5 none wsX4_tip rm_X4_tip 3 := ⟨⟨_, rfl⟩, rfl, rfl, by decide +kernel, by decide +kernel, by decide +kernel⟩
theorem in_X4_tip_X4 : ∀ w ∈ wsX40, w ∈ wsX4_tip := by decide +kernel
theorem fl_X4_tip_9 : Fl RX4 wsX4_tip 9 4 0 true (.array .int) := ⟨_, _, _, tyX4, rfl, in_X4_tip_X4, by decide, by decide +kernel, tyX4_ok, nmX4, rfl, tyX4_ok 0 (by decide)⟩
theorem fl_X4_tip_15 : Fl RX4 wsX4_tip 15 4 1 true (.array .int) := ⟨_, _, _, tyX4, rfl, in_X4_tip_X4, by decide, by decide +kernel, tyX4_ok, nmX4, rfl, tyX4_ok 1 (by decide)⟩
theorem fl_X4_tip_18 : Fl RX4 wsX4_tip 18 4 2 true (.array .int) := ⟨_, _, _, tyX4, rfl, in_X4_tip_X4, by decide, by decide +kernel, tyX4_ok, nmX4, rfl, tyX4_ok 2 (by decide)⟩
theorem fl_X4_tip_21 : Fl RX4 wsX4_tip 21 4 3 false .int := ⟨_, _, _, tyX4, rfl, in_X4_tip_X4, by decide, by decide +kernel, tyX4_ok, nmX4, rfl, tyX4_ok 3 (by decide)⟩
theorem fl_X4_tip_43 : Fl RX4 wsX4_tip 43 4 4 false .int := ⟨_, _, _, tyX4, rfl, in_X4_tip_X4, by decide, by decide +kernel, tyX4_ok, nmX4, rfl, tyX4_ok 4 (by decide)⟩
theorem fl_X4_tip_46 : Fl RX4 wsX4_tip 46 4 5 false .int := ⟨_, _, _, tyX4, rfl, in_X4_tip_X4, by decide, by decide +kernel, tyX4_ok, nmX4, rfl, tyX4_ok 5 (by decide)⟩
theorem mw_X4_tip_0 : Cond.methodLink RX4 49 Lib.Math.min.name ∈ wsX4_tip := by decide +kernel
theorem mw_X4_tip_1 : Cond.static Lib.Math.min.name ∈ wsX4_tip := by decide +kernel
theorem mw_X4_tip_2 : Cond.initialized "java/lang/Math" ∈ wsX4_tip := by decide +kernel
theorem mw_X4_tip_3 : Cond.code Lib.Math.min.name Lib.Math.min.code 2 (some .int) ∈ wsX4_tip := by decide +kernel
theorem mw_X4_tip_4 : Cond.methodLink RX4 55 Lib.Math.max.name ∈ wsX4_tip := by decide +kernel
theorem mw_X4_tip_5 : Cond.static Lib.Math.max.name ∈ wsX4_tip := by decide +kernel
theorem mw_X4_tip_6 : Cond.code Lib.Math.max.name Lib.Math.max.code 2 (some .int) ∈ wsX4_tip := by decide +kernel
set_option maxHeartbeats 4000000 in
set_option maxRecDepth 100000 in
theorem v_Mo_tip_84 {Γ : Cx} {ad : Nat → Nat} {rr : Int32} {σr : Mm} (O : Ok LT Γ ad cX4_tip 5 RX4 wsX4_tip rm_X4_tip none none σr) {σ : Mm} {r0 : Nat} {s1 : Int32} (h0 : okMo r0 = true) (hf : f_Mo_tip_84 σ r0 s1 = some (rr, σr)) : X LT Γ ad σ 84 [] [.int s1, .ref (ad r0)] := by
  unfold f_Mo_tip_84 at hf
  refine x_putIN O hf rfl rfl fl_X4_tip_46 (fk_of (fkMo h0) rfl) dX4_tip_84 (fun σ1 hf => ?_)
  have hk : ((0 : Int32), σ1) = (rr, σr) := Option.some.inj hf
  obtain ⟨rfl, rfl⟩ := Prod.mk.inj hk
  exact x_vret O rfl rfl rfl dX4_tip_87
set_option maxHeartbeats 4000000 in
set_option maxRecDepth 100000 in
theorem v_Mo_tip_50 {Γ : Cx} {ad : Nat → Nat} {rr : Int32} {σr : Mm} (O : Ok LT Γ ad cX4_tip 5 RX4 wsX4_tip rm_X4_tip none none σr) {σ : Mm} {r0 : Nat} {v2 : Int32} {v3 : Int32} {s1 : Int32} (h0 : okMo r0 = true) (hf : f_Mo_tip_50 σ r0 v2 v3 s1 = some (rr, σr)) : X LT Γ ad σ 50 [(0, .ref (ad r0)), (2, .int v2), (3, .int v3)] [.int s1, .ref (ad (r0 + 2))] := by
  unfold f_Mo_tip_50 at hf
  refine x_dup2 O dX4_tip_50 rfl rfl ?_
  refine x_iald O hf (arMo2 h0) dX4_tip_51 (fun j1 hf => ?_)
  refine x_iconst O (v := 1) dX4_tip_52 (by decide) ?_
  refine x_iadd O dX4_tip_53 ?_
  refine x_iastN O hf (arMo2 h0) dX4_tip_54 (fun σ1 hf => ?_)
  refine x_aload_n O 0 dX4_tip_55 rfl rfl ?_
  refine x_getF O (t := (r0 + 3)) fl_X4_tip_18 (fk_of (fkMo h0) rfl) dX4_tip_56 ?_
  refine x_iconst O (v := 0) dX4_tip_59 (by decide) ?_
  obtain ⟨r_1, σ2, hc, hf⟩ := bd_some hf
  refine x_callS O (k_Ar_fill (arMo3 h0) hc) ca_J7_fill_53178 gX4_tip_J7_fill_53178 rfl rfl rfl (Nat.le_of_ble_eq_true rfl) ⟨Nat.le_of_ble_eq_true rfl, Nat.le_of_ble_eq_true rfl⟩ dX4_tip_60 ?_
  refine x_pushN O ?_
  refine x_aload_n O 0 dX4_tip_63 rfl rfl ?_
  refine x_iload_n O 3 dX4_tip_64 rfl rfl ?_
  refine x_putIN O hf rfl rfl fl_X4_tip_21 (fk_of (fkMo h0) rfl) dX4_tip_65 (fun σ3 hf => ?_)
  refine x_aload_n O 0 dX4_tip_68 rfl rfl ?_
  refine x_iconst O (v := 0) dX4_tip_69 (by decide) ?_
  refine x_putIN O hf rfl rfl fl_X4_tip_43 (fk_of (fkMo h0) rfl) dX4_tip_70 (fun σ4 hf => ?_)
  refine x_aload_n O 0 dX4_tip_73 rfl rfl ?_
  refine x_iload_n O 2 dX4_tip_74 rfl rfl ?_
  refine x_iconst O (v := 1) dX4_tip_75 (by decide) ?_
  refine x_icmp_ne O 83 hf dX4_tip_76 (by decide) (fun hf => ?_) (fun hf => ?_)
  · refine x_iconst O (v := 0) dX4_tip_83 (by decide) ?_
    exact x_jmp O (v_Mo_tip_84 O (σ := σ4) (r0 := r0) (s1 := 0) h0 hf) rfl
  · refine x_iconst O (v := 1) dX4_tip_79 (by decide) ?_
    refine x_goto O 84 dX4_tip_80 (by decide) ?_
    exact x_jmp O (v_Mo_tip_84 O (σ := σ4) (r0 := r0) (s1 := 1) h0 hf) rfl
set_option maxHeartbeats 4000000 in
set_option maxRecDepth 100000 in
theorem v_Mo_tip_16 {Γ : Cx} {ad : Nat → Nat} {rr : Int32} {σr : Mm} (O : Ok LT Γ ad cX4_tip 5 RX4 wsX4_tip rm_X4_tip none none σr) {σ : Mm} {r0 : Nat} {v1 : Int32} {v2 : Int32} {v3 : Int32} {s0 : Int32} {s1 : Int32} (h0 : okMo r0 = true) (hf : f_Mo_tip_16 σ r0 v1 v2 v3 s0 s1 = some (rr, σr)) : X LT Γ ad σ 16 [(0, .ref (ad r0)), (1, .int v1), (2, .int v2), (3, .int v3)] [.int s1, .int s0] := by
  unfold f_Mo_tip_16 at hf
  refine x_iadd O dX4_tip_16 ?_
  refine x_istoreN O hf dX4_tip_17 (by decide) (fun y1 hf => ?_)
  refine x_aload_n O 0 dX4_tip_19 rfl rfl ?_
  refine x_getF O (t := (r0 + 1)) fl_X4_tip_9 (fk_of (fkMo h0) rfl) dX4_tip_20 ?_
  refine x_iload_n O 1 dX4_tip_23 rfl rfl ?_
  refine x_bipush O (v := -4) dX4_tip_24 (by decide) ?_
  refine x_iconst O (v := 4) dX4_tip_26 (by decide) ?_
  refine x_iload O dX4_tip_27 rfl ?_
  refine x_min O mw_X4_tip_0 mw_X4_tip_1 mw_X4_tip_2 mw_X4_tip_3 (Nat.le_of_ble_eq_true rfl) (Nat.le_of_ble_eq_true rfl) dX4_tip_29 ?_
  refine x_max O mw_X4_tip_4 mw_X4_tip_5 mw_X4_tip_2 mw_X4_tip_6 (Nat.le_of_ble_eq_true rfl) (Nat.le_of_ble_eq_true rfl) dX4_tip_32 ?_
  refine x_iastN O hf (arMo1 h0) dX4_tip_35 (fun σ1 hf => ?_)
  refine x_aload_n O 0 dX4_tip_36 rfl rfl ?_
  refine x_getF O (t := (r0 + 2)) fl_X4_tip_15 (fk_of (fkMo h0) rfl) dX4_tip_37 ?_
  refine x_iload_n O 2 dX4_tip_40 rfl rfl ?_
  refine x_iconst O (v := 1) dX4_tip_41 (by decide) ?_
  refine x_icmp_ne O 49 hf dX4_tip_42 (by decide) (fun hf => ?_) (fun hf => ?_)
  · refine x_iconst O (v := 1) dX4_tip_49 (by decide) ?_
    exact x_jmp O (v_Mo_tip_50 O (σ := σ1) (r0 := r0) (v2 := v2) (v3 := v3) (s1 := 1) h0 hf) rfl
  · refine x_iconst O (v := 0) dX4_tip_45 (by decide) ?_
    refine x_goto O 50 dX4_tip_46 (by decide) ?_
    exact x_jmp O (v_Mo_tip_50 O (σ := σ1) (r0 := r0) (v2 := v2) (v3 := v3) (s1 := 0) h0 hf) rfl
set_option maxHeartbeats 4000000 in
set_option maxRecDepth 100000 in
theorem v_Mo_tip {Γ : Cx} {ad : Nat → Nat} {rr : Int32} {σr : Mm} (O : Ok LT Γ ad cX4_tip 5 RX4 wsX4_tip rm_X4_tip none none σr) {σ : Mm} {r0 : Nat} {v1 : Int32} {v2 : Int32} {v3 : Int32} (h0 : okMo r0 = true) (hf : f_Mo_tip σ r0 v1 v2 v3 = some (rr, σr)) : X LT Γ ad σ 0 [(0, .ref (ad r0)), (1, .int v1), (2, .int v2), (3, .int v3)] [] := by
  unfold f_Mo_tip at hf
  refine x_aload_n O 0 dX4_tip_0 rfl rfl ?_
  refine x_getF O (t := (r0 + 1)) fl_X4_tip_9 (fk_of (fkMo h0) rfl) dX4_tip_1 ?_
  refine x_iload_n O 1 dX4_tip_4 rfl rfl ?_
  refine x_iald O hf (arMo1 h0) dX4_tip_5 (fun j1 hf => ?_)
  refine x_iload_n O 2 dX4_tip_6 rfl rfl ?_
  refine x_iconst O (v := 1) dX4_tip_7 (by decide) ?_
  refine x_icmp_ne O 15 hf dX4_tip_8 (by decide) (fun hf => ?_) (fun hf => ?_)
  · refine x_iconst O (v := 1) dX4_tip_15 (by decide) ?_
    exact x_jmp O (v_Mo_tip_16 O (σ := σ) (r0 := r0) (v1 := v1) (v2 := v2) (v3 := v3) (s0 := (gA σ (r0 + 1) j1)) (s1 := 1) h0 hf) rfl
  · refine x_iconst O (v := -1) dX4_tip_11 (by decide) ?_
    refine x_goto O 16 dX4_tip_12 (by decide) ?_
    exact x_jmp O (v_Mo_tip_16 O (σ := σ) (r0 := r0) (v1 := v1) (v2 := v2) (v3 := v3) (s0 := (gA σ (r0 + 1) j1)) (s1 := (-1)) h0 hf) rfl
theorem k_Mo_tip {σ σr : Mm} {rr : Int32} {r0 : Nat} {v1 : Int32} {v2 : Int32} {v3 : Int32} (h0 : okMo r0 = true) (hf : f_Mo_tip σ r0 v1 v2 v3 = some (rr, σr)) : CT LT yX4_tip wsX4_tip rm_X4_tip (fun ad => [.ref (ad r0), .int v1, .int v2, .int v3]) σ none σr := CT_of2 (cc := cX4_tip) (maxL := 5) (rt := none) (own := RX4) (by decide) rfl rfl (fun _ => Nat.le_of_ble_eq_true rfl) (fun _ => rfl) (fun Γ ad O => v_Mo_tip O h0 hf)

-- ===== TippedBarrow.pushes(I)I
theorem ca_X9_pushes : Ca yX9_pushes cX9_pushes 5 (some .int) wsX9_pushes rm_X9_pushes 1 := ⟨⟨_, rfl⟩, rfl, rfl, by decide +kernel, by decide +kernel, by decide +kernel⟩
theorem in_X9_pushes_X4 : ∀ w ∈ wsX40, w ∈ wsX9_pushes := by decide +kernel
theorem in_X9_pushes_X5 : ∀ w ∈ wsX50, w ∈ wsX9_pushes := by decide +kernel
theorem in_X9_pushes_X9 : ∀ w ∈ wsX90, w ∈ wsX9_pushes := by decide +kernel
theorem fl_X9_pushes_28 : Fl RX9 wsX9_pushes 28 9 2 false (.object "TippedBarrow$Plan") := ⟨_, _, _, tyX9, rfl, in_X9_pushes_X9, by decide, by decide +kernel, tyX9_ok, nmX9, rfl, tyX9_ok 2 (by decide)⟩
theorem fl_X9_pushes_38 : Fl RX9 wsX9_pushes 38 9 4 true (.object "TippedBarrow$Moment") := ⟨_, _, _, tyX9, rfl, in_X9_pushes_X9, by decide, by decide +kernel, tyX9_ok, nmX9, rfl, tyX9_ok 4 (by decide)⟩
theorem fl_X9_pushes_51 : Fl RX9 wsX9_pushes 51 9 5 true (.object "TippedBarrow$Ground") := ⟨_, _, _, tyX9, rfl, in_X9_pushes_X9, by decide, by decide +kernel, tyX9_ok, nmX9, rfl, tyX9_ok 5 (by decide)⟩
theorem fl_X9_pushes_61 : Fl RX9 wsX9_pushes 61 9 7 true (.object "TippedBarrow$History") := ⟨_, _, _, tyX9, rfl, in_X9_pushes_X9, by decide, by decide +kernel, tyX9_ok, nmX9, rfl, tyX9_ok 7 (by decide)⟩
theorem fl_X9_pushes_138 : Fl RX9 wsX9_pushes 138 4 3 false .int := ⟨_, _, _, tyX4, rfl, in_X9_pushes_X4, by decide, by decide +kernel, tyX4_ok, nmX4, rfl, tyX4_ok 3 (by decide)⟩
theorem fl_X9_pushes_141 : Fl RX9 wsX9_pushes 141 4 4 false .int := ⟨_, _, _, tyX4, rfl, in_X9_pushes_X4, by decide, by decide +kernel, tyX4_ok, nmX4, rfl, tyX4_ok 4 (by decide)⟩
theorem fl_X9_pushes_144 : Fl RX9 wsX9_pushes 144 4 5 false .int := ⟨_, _, _, tyX4, rfl, in_X9_pushes_X4, by decide, by decide +kernel, tyX4_ok, nmX4, rfl, tyX4_ok 5 (by decide)⟩
theorem fl_X9_pushes_153 : Fl RX9 wsX9_pushes 153 5 3 false .int := ⟨_, _, _, tyX5, rfl, in_X9_pushes_X5, by decide, by decide +kernel, tyX5_ok, nmX5, rfl, tyX5_ok 3 (by decide)⟩
set_option maxHeartbeats 4000000 in
set_option maxRecDepth 100000 in
theorem v_T_pushes {Γ : Cx} {ad : Nat → Nat} {rr : Int32} {σr : Mm} (O : Ok LT Γ ad cX9_pushes 5 RX9 wsX9_pushes rm_X9_pushes (some .int) (some (.int rr)) σr) {σ : Mm} {v1 : Int32}  (hf : f_T_pushes σ v1 = some (rr, σr)) : X LT Γ ad σ 0 [(0, .ref (ad 0)), (1, .int v1)] [] := by
  unfold f_T_pushes at hf
  refine x_iload_n O 1 dX9_pushes_0 rfl rfl ?_
  obtain ⟨r_1, σ1, hc, hf⟩ := bd_some hf
  refine x_callS O (k_T_isNoWay  hc) ca_X9_isNoWay gX9_pushes_X9_isNoWay rfl rfl rfl (Nat.le_of_ble_eq_true rfl) ⟨Nat.le_of_ble_eq_true rfl, Nat.le_of_ble_eq_true rfl⟩ dX9_pushes_1 ?_
  refine x_push O ?_
  refine x_if_eq O 9 hf dX9_pushes_4 (by decide) (fun hf => ?_) (fun hf => ?_)
  · refine x_aload_n O 0 dX9_pushes_9 rfl rfl ?_
    refine x_iload_n O 1 dX9_pushes_10 rfl rfl ?_
    obtain ⟨r_2, σ2, hc, hf⟩ := bd_some hf
    refine x_callV O (k_T_nextCell  hc) ca_X9_nextCell gX9_pushes_X9_nextCell rfl ⟨_, _, _, _, rfl, rfl⟩ rfl rfl rfl (Nat.le_of_ble_eq_true rfl) ⟨Nat.le_of_ble_eq_true rfl, Nat.le_of_ble_eq_true rfl⟩ dX9_pushes_11 ?_
    refine x_push O ?_
    refine x_istore_n O 2 dX9_pushes_14 rfl (by decide) ?_
    refine x_iload_n O 2 dX9_pushes_15 rfl rfl ?_
    refine x_if_ge O 22 hf dX9_pushes_16 (by decide) (fun hf => ?_) (fun hf => ?_)
    · refine x_aload_n O 0 dX9_pushes_22 rfl rfl ?_
      refine x_getF O (t := 16) fl_X9_pushes_61 rfl dX9_pushes_23 ?_
      refine x_aload_n O 0 dX9_pushes_26 rfl rfl ?_
      refine x_getF O (t := 36) fl_X9_pushes_38 rfl dX9_pushes_27 ?_
      obtain ⟨r_3, σ3, hc, hf⟩ := bd_some hf
      refine x_callV O (k_Hi_save rfl hc) ca_X3_save gX9_pushes_X3_save rfl ⟨_, _, _, _, rfl, rfl⟩ rfl rfl rfl (Nat.le_of_ble_eq_true rfl) ⟨Nat.le_of_ble_eq_true rfl, Nat.le_of_ble_eq_true rfl⟩ dX9_pushes_30 ?_
      refine x_pushN O ?_
      refine x_aload_n O 0 dX9_pushes_33 rfl rfl ?_
      refine x_getF O (t := 11) fl_X9_pushes_51 rfl dX9_pushes_34 ?_
      refine x_iload_n O 2 dX9_pushes_37 rfl rfl ?_
      refine x_aload_n O 0 dX9_pushes_38 rfl rfl ?_
      refine x_getF O (t := 36) fl_X9_pushes_38 rfl dX9_pushes_39 ?_
      refine x_getI O fl_X9_pushes_141 rfl dX9_pushes_42 ?_
      obtain ⟨r_4, σ4, hc, hf⟩ := bd_some hf
      refine x_callV O (k_Gr_leanOn rfl hc) ca_X2_leanOn gX9_pushes_X2_leanOn rfl ⟨_, _, _, _, rfl, rfl⟩ rfl rfl rfl (Nat.le_of_ble_eq_true rfl) ⟨Nat.le_of_ble_eq_true rfl, Nat.le_of_ble_eq_true rfl⟩ dX9_pushes_45 ?_
      refine x_push O ?_
      refine x_istore_n O 3 dX9_pushes_48 rfl (by decide) ?_
      refine x_aload_n O 0 dX9_pushes_49 rfl rfl ?_
      refine x_getF O (t := 11) fl_X9_pushes_51 rfl dX9_pushes_50 ?_
      refine x_iload_n O 3 dX9_pushes_53 rfl rfl ?_
      obtain ⟨r_5, σ5, hc, hf⟩ := bd_some hf
      refine x_callV O (k_Gr_verdict rfl hc) ca_X2_verdict gX9_pushes_X2_verdict rfl ⟨_, _, _, _, rfl, rfl⟩ rfl rfl rfl (Nat.le_of_ble_eq_true rfl) ⟨Nat.le_of_ble_eq_true rfl, Nat.le_of_ble_eq_true rfl⟩ dX9_pushes_54 ?_
      refine x_push O ?_
      refine x_istore O dX9_pushes_57 (by decide) ?_
      refine x_iload O dX9_pushes_59 rfl ?_
      refine x_if_ne O 99 hf dX9_pushes_61 (by decide) (fun hf => ?_) (fun hf => ?_)
      · refine x_aload_n O 0 dX9_pushes_99 rfl rfl ?_
        refine x_getF O (t := 36) fl_X9_pushes_38 rfl dX9_pushes_100 ?_
        refine x_iload_n O 2 dX9_pushes_103 rfl rfl ?_
        refine x_iload O dX9_pushes_104 rfl ?_
        refine x_aload_n O 0 dX9_pushes_106 rfl rfl ?_
        refine x_getR O hf fl_X9_pushes_28 rfl dX9_pushes_107 (fun t1 ht1 hf => ?_)
        refine x_getI O fl_X9_pushes_153 (fk_of (fkPl ht1) rfl) dX9_pushes_110 ?_
        obtain ⟨r_6, σ6, hc, hf⟩ := bd_some hf
        refine x_callV O (k_Mo_tip rfl hc) ca_X4_tip gX9_pushes_X4_tip rfl ⟨_, _, _, _, rfl, rfl⟩ rfl rfl rfl (Nat.le_of_ble_eq_true rfl) ⟨Nat.le_of_ble_eq_true rfl, Nat.le_of_ble_eq_true rfl⟩ dX9_pushes_113 ?_
        refine x_pushN O ?_
        refine x_iload O dX9_pushes_116 rfl ?_
        have hk : (r_5, σ6) = (rr, σr) := Option.some.inj hf
        obtain ⟨rfl, rfl⟩ := Prod.mk.inj hk
        exact x_iret O rfl rfl ⟨_, rfl, rfl⟩ dX9_pushes_118
      · refine x_aload_n O 0 dX9_pushes_64 rfl rfl ?_
        refine x_getF O (t := 36) fl_X9_pushes_38 rfl dX9_pushes_65 ?_
        refine x_iload_n O 2 dX9_pushes_68 rfl rfl ?_
        refine x_putIN O hf rfl rfl fl_X9_pushes_138 rfl dX9_pushes_69 (fun σ7 hf => ?_)
        refine x_aload_n O 0 dX9_pushes_72 rfl rfl ?_
        refine x_getF O (t := 36) fl_X9_pushes_38 rfl dX9_pushes_73 ?_
        refine x_iload_n O 3 dX9_pushes_76 rfl rfl ?_
        refine x_putIN O hf rfl rfl fl_X9_pushes_141 rfl dX9_pushes_77 (fun σ8 hf => ?_)
        refine x_aload_n O 0 dX9_pushes_80 rfl rfl ?_
        refine x_getF O (t := 36) fl_X9_pushes_38 rfl dX9_pushes_81 ?_
        refine x_iconst O (v := 1) dX9_pushes_84 (by decide) ?_
        refine x_aload_n O 0 dX9_pushes_85 rfl rfl ?_
        refine x_getF O (t := 36) fl_X9_pushes_38 rfl dX9_pushes_86 ?_
        refine x_getI O fl_X9_pushes_144 rfl dX9_pushes_89 ?_
        refine x_isub O dX9_pushes_92 ?_
        refine x_putIN O hf rfl rfl fl_X9_pushes_144 rfl dX9_pushes_93 (fun σ9 hf => ?_)
        refine x_goto O 116 dX9_pushes_96 (by decide) ?_
        refine x_iload O dX9_pushes_116 rfl ?_
        have hk : (r_5, σ9) = (rr, σr) := Option.some.inj hf
        obtain ⟨rfl, rfl⟩ := Prod.mk.inj hk
        exact x_iret O rfl rfl ⟨_, rfl, rfl⟩ dX9_pushes_118
    · refine x_bipush O (v := -2) dX9_pushes_19 (by decide) ?_
      have hk : ((-2), σ2) = (rr, σr) := Option.some.inj hf
      obtain ⟨rfl, rfl⟩ := Prod.mk.inj hk
      exact x_iret O rfl rfl ⟨_, rfl, rfl⟩ dX9_pushes_21
  · refine x_iconst O (v := -1) dX9_pushes_7 (by decide) ?_
    have hk : ((-1), σ1) = (rr, σr) := Option.some.inj hf
    obtain ⟨rfl, rfl⟩ := Prod.mk.inj hk
    exact x_iret O rfl rfl ⟨_, rfl, rfl⟩ dX9_pushes_8
theorem k_T_pushes {σ σr : Mm} {rr : Int32} {v1 : Int32}  (hf : f_T_pushes σ v1 = some (rr, σr)) : CT LT yX9_pushes wsX9_pushes rm_X9_pushes (fun ad => [.ref (ad 0), .int v1]) σ (some (.int rr)) σr := CT_of2 (cc := cX9_pushes) (maxL := 5) (rt := (some .int)) (own := RX9) (by decide) rfl rfl (fun _ => Nat.le_of_ble_eq_true rfl) (fun _ => rfl) (fun Γ ad O => v_T_pushes O  hf)

-- ===== TippedBarrow.objects()I
theorem ca_X9_objects : Ca yX9_objects cX9_objects 2 (some .int) wsX9_objects rm_X9_objects 0 := ⟨⟨_, rfl⟩, rfl, rfl, by decide +kernel, by decide +kernel, by decide +kernel⟩
theorem in_X9_objects_X4 : ∀ w ∈ wsX40, w ∈ wsX9_objects := by decide +kernel
theorem in_X9_objects_X9 : ∀ w ∈ wsX90, w ∈ wsX9_objects := by decide +kernel
theorem fl_X9_objects_38 : Fl RX9 wsX9_objects 38 9 4 true (.object "TippedBarrow$Moment") := ⟨_, _, _, tyX9, rfl, in_X9_objects_X9, by decide, by decide +kernel, tyX9_ok, nmX9, rfl, tyX9_ok 4 (by decide)⟩
theorem fl_X9_objects_61 : Fl RX9 wsX9_objects 61 9 7 true (.object "TippedBarrow$History") := ⟨_, _, _, tyX9, rfl, in_X9_objects_X9, by decide, by decide +kernel, tyX9_ok, nmX9, rfl, tyX9_ok 7 (by decide)⟩
theorem fl_X9_objects_144 : Fl RX9 wsX9_objects 144 4 5 false .int := ⟨_, _, _, tyX4, rfl, in_X9_objects_X4, by decide, by decide +kernel, tyX4_ok, nmX4, rfl, tyX4_ok 5 (by decide)⟩
theorem fl_X9_objects_150 : Fl RX9 wsX9_objects 150 4 2 true (.array .int) := ⟨_, _, _, tyX4, rfl, in_X9_objects_X4, by decide, by decide +kernel, tyX4_ok, nmX4, rfl, tyX4_ok 2 (by decide)⟩
set_option maxHeartbeats 4000000 in
set_option maxRecDepth 100000 in
theorem v_T_objects {Γ : Cx} {ad : Nat → Nat} {rr : Int32} {σr : Mm} (O : Ok LT Γ ad cX9_objects 2 RX9 wsX9_objects rm_X9_objects (some .int) (some (.int rr)) σr) {σ : Mm}   (hf : f_T_objects σ = some (rr, σr)) : X LT Γ ad σ 0 [(0, .ref (ad 0))] [] := by
  unfold f_T_objects at hf
  refine x_aload_n O 0 dX9_objects_0 rfl rfl ?_
  refine x_getF O (t := 36) fl_X9_objects_38 rfl dX9_objects_1 ?_
  refine x_getI O fl_X9_objects_144 rfl dX9_objects_4 ?_
  refine x_istore_nN O 1 hf dX9_objects_7 rfl (by decide) (fun y1 hf => ?_)
  refine x_aload_n O 0 dX9_objects_8 rfl rfl ?_
  obtain ⟨r_1, σ1, hc, hf⟩ := bd_some hf
  refine x_callV O (k_T_hasNoStart  hc) ca_X9_hasNoStart gX9_objects_X9_hasNoStart rfl ⟨_, _, _, _, rfl, rfl⟩ rfl rfl rfl (Nat.le_of_ble_eq_true rfl) ⟨Nat.le_of_ble_eq_true rfl, Nat.le_of_ble_eq_true rfl⟩ dX9_objects_9 ?_
  refine x_push O ?_
  refine x_if_ne O 28 hf dX9_objects_12 (by decide) (fun hf => ?_) (fun hf => ?_)
  · refine x_bipush O (v := -2) dX9_objects_28 (by decide) ?_
    have hk : ((-2), σ1) = (rr, σr) := Option.some.inj hf
    obtain ⟨rfl, rfl⟩ := Prod.mk.inj hk
    exact x_iret O rfl rfl ⟨_, rfl, rfl⟩ dX9_objects_30
  · refine x_aload_n O 0 dX9_objects_15 rfl rfl ?_
    refine x_getF O (t := 36) fl_X9_objects_38 rfl dX9_objects_16 ?_
    refine x_getF O (t := 39) fl_X9_objects_150 rfl dX9_objects_19 ?_
    refine x_iload_n O 1 dX9_objects_22 rfl rfl ?_
    refine x_iald O hf rfl dX9_objects_23 (fun j1 hf => ?_)
    refine x_iconst O (v := 3) dX9_objects_24 (by decide) ?_
    refine x_icmp_lt O 31 hf dX9_objects_25 (by decide) (fun hf => ?_) (fun hf => ?_)
    · refine x_aload_n O 0 dX9_objects_31 rfl rfl ?_
      refine x_getF O (t := 16) fl_X9_objects_61 rfl dX9_objects_32 ?_
      refine x_aload_n O 0 dX9_objects_35 rfl rfl ?_
      refine x_getF O (t := 36) fl_X9_objects_38 rfl dX9_objects_36 ?_
      obtain ⟨r_2, σ2, hc, hf⟩ := bd_some hf
      refine x_callV O (k_Hi_save rfl hc) ca_X3_save gX9_objects_X3_save rfl ⟨_, _, _, _, rfl, rfl⟩ rfl rfl rfl (Nat.le_of_ble_eq_true rfl) ⟨Nat.le_of_ble_eq_true rfl, Nat.le_of_ble_eq_true rfl⟩ dX9_objects_39 ?_
      refine x_pushN O ?_
      refine x_aload_n O 0 dX9_objects_42 rfl rfl ?_
      refine x_getF O (t := 36) fl_X9_objects_38 rfl dX9_objects_43 ?_
      refine x_getF O (t := 39) fl_X9_objects_150 rfl dX9_objects_46 ?_
      refine x_iload_n O 1 dX9_objects_49 rfl rfl ?_
      refine x_dup2 O dX9_objects_50 rfl rfl ?_
      refine x_iald O hf rfl dX9_objects_51 (fun j2 hf => ?_)
      refine x_iconst O (v := 1) dX9_objects_52 (by decide) ?_
      refine x_iadd O dX9_objects_53 ?_
      refine x_iastN O hf rfl dX9_objects_54 (fun σ3 hf => ?_)
      refine x_aload_n O 0 dX9_objects_55 rfl rfl ?_
      refine x_getF O (t := 36) fl_X9_objects_38 rfl dX9_objects_56 ?_
      refine x_iconst O (v := 1) dX9_objects_59 (by decide) ?_
      refine x_iload_n O 1 dX9_objects_60 rfl rfl ?_
      refine x_isub O dX9_objects_61 ?_
      refine x_putIN O hf rfl rfl fl_X9_objects_144 rfl dX9_objects_62 (fun σ4 hf => ?_)
      refine x_aload_n O 0 dX9_objects_65 rfl rfl ?_
      refine x_getF O (t := 36) fl_X9_objects_38 rfl dX9_objects_66 ?_
      refine x_getI O fl_X9_objects_144 rfl dX9_objects_69 ?_
      have hk : ((gI σ4 36 5), σ4) = (rr, σr) := Option.some.inj hf
      obtain ⟨rfl, rfl⟩ := Prod.mk.inj hk
      exact x_iret O rfl rfl ⟨_, rfl, rfl⟩ dX9_objects_72
    · refine x_bipush O (v := -2) dX9_objects_28 (by decide) ?_
      have hk : ((-2), σ1) = (rr, σr) := Option.some.inj hf
      obtain ⟨rfl, rfl⟩ := Prod.mk.inj hk
      exact x_iret O rfl rfl ⟨_, rfl, rfl⟩ dX9_objects_30
theorem k_T_objects {σ σr : Mm} {rr : Int32}   (hf : f_T_objects σ = some (rr, σr)) : CT LT yX9_objects wsX9_objects rm_X9_objects (fun ad => [.ref (ad 0)]) σ (some (.int rr)) σr := CT_of2 (cc := cX9_objects) (maxL := 2) (rt := (some .int)) (own := RX9) (by decide) rfl rfl (fun _ => Nat.le_of_ble_eq_true rfl) (fun _ => rfl) (fun Γ ad O => v_T_objects O  hf)

-- ===== TippedBarrow.evens(III)I
theorem ca_X9_evens : Ca yX9_evens cX9_evens 6 (some .int) wsX9_evens rm_X9_evens 3 := ⟨⟨_, rfl⟩, rfl, rfl, by decide +kernel, by decide +kernel, by decide +kernel⟩
theorem in_X9_evens_X4 : ∀ w ∈ wsX40, w ∈ wsX9_evens := by decide +kernel
theorem in_X9_evens_X9 : ∀ w ∈ wsX90, w ∈ wsX9_evens := by decide +kernel
theorem fl_X9_evens_38 : Fl RX9 wsX9_evens 38 9 4 true (.object "TippedBarrow$Moment") := ⟨_, _, _, tyX9, rfl, in_X9_evens_X9, by decide, by decide +kernel, tyX9_ok, nmX9, rfl, tyX9_ok 4 (by decide)⟩
theorem fl_X9_evens_44 : Fl RX9 wsX9_evens 44 4 0 true (.array .int) := ⟨_, _, _, tyX4, rfl, in_X9_evens_X4, by decide, by decide +kernel, tyX4_ok, nmX4, rfl, tyX4_ok 0 (by decide)⟩
theorem fl_X9_evens_51 : Fl RX9 wsX9_evens 51 9 5 true (.object "TippedBarrow$Ground") := ⟨_, _, _, tyX9, rfl, in_X9_evens_X9, by decide, by decide +kernel, tyX9_ok, nmX9, rfl, tyX9_ok 5 (by decide)⟩
theorem fl_X9_evens_61 : Fl RX9 wsX9_evens 61 9 7 true (.object "TippedBarrow$History") := ⟨_, _, _, tyX9, rfl, in_X9_evens_X9, by decide, by decide +kernel, tyX9_ok, nmX9, rfl, tyX9_ok 7 (by decide)⟩
theorem mw_X9_evens_0 : Cond.constant RX9 137 (-1000000) ∈ wsX9_evens := by decide +kernel
set_option maxHeartbeats 4000000 in
set_option maxRecDepth 100000 in
theorem v_T_evens_30 {Γ : Cx} {ad : Nat → Nat} {rr : Int32} {σr : Mm} (O : Ok LT Γ ad cX9_evens 6 RX9 wsX9_evens rm_X9_evens (some .int) (some (.int rr)) σr) {σ : Mm}   (hf : f_T_evens_30 σ = some (rr, σr)) : X LT Γ ad σ 30 [] [] := by
  unfold f_T_evens_30 at hf
  refine x_ldc O (v := -1000000) mw_X9_evens_0 dX9_evens_30 ?_
  have hk : ((-1000000), σ) = (rr, σr) := Option.some.inj hf
  obtain ⟨rfl, rfl⟩ := Prod.mk.inj hk
  exact x_iret O rfl rfl ⟨_, rfl, rfl⟩ dX9_evens_32
set_option maxHeartbeats 4000000 in
set_option maxRecDepth 100000 in
theorem v_T_evens {Γ : Cx} {ad : Nat → Nat} {rr : Int32} {σr : Mm} (O : Ok LT Γ ad cX9_evens 6 RX9 wsX9_evens rm_X9_evens (some .int) (some (.int rr)) σr) {σ : Mm} {v1 : Int32} {v2 : Int32} {v3 : Int32}  (hf : f_T_evens σ v1 v2 v3 = some (rr, σr)) : X LT Γ ad σ 0 [(0, .ref (ad 0)), (1, .int v1), (2, .int v2), (3, .int v3)] [] := by
  unfold f_T_evens at hf
  refine x_iload_n O 1 dX9_evens_0 rfl rfl ?_
  refine x_iload_n O 2 dX9_evens_1 rfl rfl ?_
  obtain ⟨r_1, σ1, hc, hf⟩ := bd_some hf
  refine x_callS O (k_T_cellAt  hc) ca_X9_cellAt gX9_evens_X9_cellAt rfl rfl rfl (Nat.le_of_ble_eq_true rfl) ⟨Nat.le_of_ble_eq_true rfl, Nat.le_of_ble_eq_true rfl⟩ dX9_evens_2 ?_
  refine x_push O ?_
  refine x_istore O dX9_evens_5 (by decide) ?_
  refine x_aload_n O 0 dX9_evens_7 rfl rfl ?_
  refine x_getF O (t := 11) fl_X9_evens_51 rfl dX9_evens_8 ?_
  refine x_iload O dX9_evens_11 rfl ?_
  obtain ⟨r_2, σ2, hc, hf⟩ := bd_some hf
  refine x_callV O (k_Gr_isBrick rfl hc) ca_X2_isBrick gX9_evens_X2_isBrick rfl ⟨_, _, _, _, rfl, rfl⟩ rfl rfl rfl (Nat.le_of_ble_eq_true rfl) ⟨Nat.le_of_ble_eq_true rfl, Nat.le_of_ble_eq_true rfl⟩ dX9_evens_13 ?_
  refine x_push O ?_
  refine x_if_ne O 30 hf dX9_evens_16 (by decide) (fun hf => ?_) (fun hf => ?_)
  · exact x_jmp O (v_T_evens_30 O (σ := σ2)   hf) rfl
  · refine x_iload_n O 3 dX9_evens_19 rfl rfl ?_
    refine x_bipush O (v := -4) dX9_evens_20 (by decide) ?_
    refine x_icmp_lt O 30 hf dX9_evens_22 (by decide) (fun hf => ?_) (fun hf => ?_)
    · exact x_jmp O (v_T_evens_30 O (σ := σ2)   hf) rfl
    · refine x_iload_n O 3 dX9_evens_25 rfl rfl ?_
      refine x_iconst O (v := 4) dX9_evens_26 (by decide) ?_
      refine x_icmp_le O 33 hf dX9_evens_27 (by decide) (fun hf => ?_) (fun hf => ?_)
      · refine x_aload_n O 0 dX9_evens_33 rfl rfl ?_
        refine x_getF O (t := 36) fl_X9_evens_38 rfl dX9_evens_34 ?_
        refine x_getF O (t := 37) fl_X9_evens_44 rfl dX9_evens_37 ?_
        refine x_iload O dX9_evens_40 rfl ?_
        refine x_iald O hf rfl dX9_evens_42 (fun j1 hf => ?_)
        refine x_istoreN O hf dX9_evens_43 (by decide) (fun y1 hf => ?_)
        refine x_iload O dX9_evens_45 rfl ?_
        refine x_iload_n O 3 dX9_evens_47 rfl rfl ?_
        refine x_icmp_ne O 54 hf dX9_evens_48 (by decide) (fun hf => ?_) (fun hf => ?_)
        · refine x_aload_n O 0 dX9_evens_54 rfl rfl ?_
          refine x_getF O (t := 16) fl_X9_evens_61 rfl dX9_evens_55 ?_
          refine x_aload_n O 0 dX9_evens_58 rfl rfl ?_
          refine x_getF O (t := 36) fl_X9_evens_38 rfl dX9_evens_59 ?_
          obtain ⟨r_3, σ3, hc, hf⟩ := bd_some hf
          refine x_callV O (k_Hi_save rfl hc) ca_X3_save gX9_evens_X3_save rfl ⟨_, _, _, _, rfl, rfl⟩ rfl rfl rfl (Nat.le_of_ble_eq_true rfl) ⟨Nat.le_of_ble_eq_true rfl, Nat.le_of_ble_eq_true rfl⟩ dX9_evens_62 ?_
          refine x_pushN O ?_
          refine x_aload_n O 0 dX9_evens_65 rfl rfl ?_
          refine x_getF O (t := 36) fl_X9_evens_38 rfl dX9_evens_66 ?_
          refine x_getF O (t := 37) fl_X9_evens_44 rfl dX9_evens_69 ?_
          refine x_iload O dX9_evens_72 rfl ?_
          refine x_iload_n O 3 dX9_evens_74 rfl rfl ?_
          refine x_iastN O hf rfl dX9_evens_75 (fun σ4 hf => ?_)
          refine x_iload O dX9_evens_76 rfl ?_
          have hk : (y1, σ4) = (rr, σr) := Option.some.inj hf
          obtain ⟨rfl, rfl⟩ := Prod.mk.inj hk
          exact x_iret O rfl rfl ⟨_, rfl, rfl⟩ dX9_evens_78
        · refine x_ldc O (v := -1000000) mw_X9_evens_0 dX9_evens_51 ?_
          have hk : ((-1000000), σ2) = (rr, σr) := Option.some.inj hf
          obtain ⟨rfl, rfl⟩ := Prod.mk.inj hk
          exact x_iret O rfl rfl ⟨_, rfl, rfl⟩ dX9_evens_53
      · exact x_jmp O (v_T_evens_30 O (σ := σ2)   hf) rfl
theorem k_T_evens {σ σr : Mm} {rr : Int32} {v1 : Int32} {v2 : Int32} {v3 : Int32}  (hf : f_T_evens σ v1 v2 v3 = some (rr, σr)) : CT LT yX9_evens wsX9_evens rm_X9_evens (fun ad => [.ref (ad 0), .int v1, .int v2, .int v3]) σ (some (.int rr)) σr := CT_of2 (cc := cX9_evens) (maxL := 6) (rt := (some .int)) (own := RX9) (by decide) rfl rfl (fun _ => Nat.le_of_ble_eq_true rfl) (fun _ => rfl) (fun Γ ad O => v_T_evens O  hf)

-- ===== TippedBarrow$History.restore(LTippedBarrow$Moment;)Z
theorem ca_X3_restore : Ca yX3_restore cX3_restore 2 (some .boolean) wsX3_restore rm_X3_restore 1 := ⟨⟨_, rfl⟩, rfl, rfl, by decide +kernel, by decide +kernel, by decide +kernel⟩
theorem in_X3_restore_X3 : ∀ w ∈ wsX30, w ∈ wsX3_restore := by decide +kernel
theorem fl_X3_restore_11 : Fl RX3 wsX3_restore 11 3 0 true (.array (.object "TippedBarrow$Moment")) := ⟨_, _, _, tyX3, rfl, in_X3_restore_X3, by decide, by decide +kernel, tyX3_ok, nmX3, rfl, tyX3_ok 0 (by decide)⟩
theorem fl_X3_restore_16 : Fl RX3 wsX3_restore 16 3 1 false .int := ⟨_, _, _, tyX3, rfl, in_X3_restore_X3, by decide, by decide +kernel, tyX3_ok, nmX3, rfl, tyX3_ok 1 (by decide)⟩
theorem fl_X3_restore_24 : Fl RX3 wsX3_restore 24 3 2 false .int := ⟨_, _, _, tyX3, rfl, in_X3_restore_X3, by decide, by decide +kernel, tyX3_ok, nmX3, rfl, tyX3_ok 2 (by decide)⟩
set_option maxHeartbeats 4000000 in
set_option maxRecDepth 100000 in
theorem v_Hi_restore {Γ : Cx} {ad : Nat → Nat} {rr : Int32} {σr : Mm} (O : Ok LT Γ ad cX3_restore 2 RX3 wsX3_restore rm_X3_restore (some .boolean) (some (.int rr)) σr) {σ : Mm} {r1 : Nat} (h1 : okMo r1 = true) (hf : f_Hi_restore σ r1 = some (rr, σr)) : X LT Γ ad σ 0 [(0, .ref (ad 16)), (1, .ref (ad r1))] [] := by
  unfold f_Hi_restore at hf
  refine x_aload_n O 0 dX3_restore_0 rfl rfl ?_
  refine x_getI O fl_X3_restore_24 rfl dX3_restore_1 ?_
  refine x_if_gt O 9 hf dX3_restore_4 (by decide) (fun hf => ?_) (fun hf => ?_)
  · refine x_aload_n O 1 dX3_restore_9 rfl rfl ?_
    refine x_aload_n O 0 dX3_restore_10 rfl rfl ?_
    refine x_getF O (t := 17) fl_X3_restore_11 rfl dX3_restore_11 ?_
    refine x_aload_n O 0 dX3_restore_14 rfl rfl ?_
    refine x_getI O fl_X3_restore_16 rfl dX3_restore_15 ?_
    refine x_aald O (g := fun j => 40 + 4 * j) hf rfl rfl idMo_h dX3_restore_18 (fun j1 hj1 hf => ?_)
    obtain ⟨r_1, σ1, hc, hf⟩ := bd_some hf
    refine x_callV O (k_Mo_become h1 (okMo_h hj1) hc) ca_X4_become gX3_restore_X4_become rfl (okCl_Mo h1) rfl rfl rfl (Nat.le_of_ble_eq_true rfl) ⟨Nat.le_of_ble_eq_true rfl, Nat.le_of_ble_eq_true rfl⟩ dX3_restore_19 ?_
    refine x_pushN O ?_
    refine x_aload_n O 0 dX3_restore_22 rfl rfl ?_
    refine x_aload_n O 0 dX3_restore_23 rfl rfl ?_
    refine x_getI O fl_X3_restore_16 rfl dX3_restore_24 ?_
    refine x_bipush O (v := 10) dX3_restore_27 (by decide) ?_
    refine x_iadd O dX3_restore_29 ?_
    refine x_iconst O (v := 1) dX3_restore_30 (by decide) ?_
    refine x_isub O dX3_restore_31 ?_
    refine x_bipush O (v := 10) dX3_restore_32 (by decide) ?_
    refine x_iremK O (by decide) dX3_restore_34 ?_
    refine x_putIN O hf rfl rfl fl_X3_restore_16 rfl dX3_restore_35 (fun σ2 hf => ?_)
    refine x_aload_n O 0 dX3_restore_38 rfl rfl ?_
    refine x_dup O dX3_restore_39 rfl ?_
    refine x_getI O fl_X3_restore_24 rfl dX3_restore_40 ?_
    refine x_iconst O (v := 1) dX3_restore_43 (by decide) ?_
    refine x_isub O dX3_restore_44 ?_
    refine x_putIN O hf rfl rfl fl_X3_restore_24 rfl dX3_restore_45 (fun σ3 hf => ?_)
    refine x_iconst O (v := 1) dX3_restore_48 (by decide) ?_
    have hk : (1, σ3) = (rr, σr) := Option.some.inj hf
    obtain ⟨rfl, rfl⟩ := Prod.mk.inj hk
    exact x_iret O rfl rfl ⟨_, rfl, rfl⟩ dX3_restore_49
  · refine x_iconst O (v := 0) dX3_restore_7 (by decide) ?_
    have hk : (0, σ) = (rr, σr) := Option.some.inj hf
    obtain ⟨rfl, rfl⟩ := Prod.mk.inj hk
    exact x_iret O rfl rfl ⟨_, rfl, rfl⟩ dX3_restore_8
theorem k_Hi_restore {σ σr : Mm} {rr : Int32} {r1 : Nat} (h1 : okMo r1 = true) (hf : f_Hi_restore σ r1 = some (rr, σr)) : CT LT yX3_restore wsX3_restore rm_X3_restore (fun ad => [.ref (ad 16), .ref (ad r1)]) σ (some (.int rr)) σr := CT_of2 (cc := cX3_restore) (maxL := 2) (rt := (some .boolean)) (own := RX3) (by decide) rfl rfl (fun _ => Nat.le_of_ble_eq_true rfl) (fun _ => rfl) (fun Γ ad O => v_Hi_restore O h1 hf)

-- ===== TippedBarrow.undo()I
theorem ca_X9_undo : Ca yX9_undo cX9_undo 1 (some .int) wsX9_undo rm_X9_undo 0 := ⟨⟨_, rfl⟩, rfl, rfl, by decide +kernel, by decide +kernel, by decide +kernel⟩
theorem in_X9_undo_X3 : ∀ w ∈ wsX30, w ∈ wsX9_undo := by decide +kernel
theorem in_X9_undo_X9 : ∀ w ∈ wsX90, w ∈ wsX9_undo := by decide +kernel
theorem fl_X9_undo_38 : Fl RX9 wsX9_undo 38 9 4 true (.object "TippedBarrow$Moment") := ⟨_, _, _, tyX9, rfl, in_X9_undo_X9, by decide, by decide +kernel, tyX9_ok, nmX9, rfl, tyX9_ok 4 (by decide)⟩
theorem fl_X9_undo_61 : Fl RX9 wsX9_undo 61 9 7 true (.object "TippedBarrow$History") := ⟨_, _, _, tyX9, rfl, in_X9_undo_X9, by decide, by decide +kernel, tyX9_ok, nmX9, rfl, tyX9_ok 7 (by decide)⟩
theorem fl_X9_undo_124 : Fl RX9 wsX9_undo 124 3 2 false .int := ⟨_, _, _, tyX3, rfl, in_X9_undo_X3, by decide, by decide +kernel, tyX3_ok, nmX3, rfl, tyX3_ok 2 (by decide)⟩
set_option maxHeartbeats 4000000 in
set_option maxRecDepth 100000 in
theorem v_T_undo {Γ : Cx} {ad : Nat → Nat} {rr : Int32} {σr : Mm} (O : Ok LT Γ ad cX9_undo 1 RX9 wsX9_undo rm_X9_undo (some .int) (some (.int rr)) σr) {σ : Mm}   (hf : f_T_undo σ = some (rr, σr)) : X LT Γ ad σ 0 [(0, .ref (ad 0))] [] := by
  unfold f_T_undo at hf
  refine x_aload_n O 0 dX9_undo_0 rfl rfl ?_
  refine x_getF O (t := 16) fl_X9_undo_61 rfl dX9_undo_1 ?_
  refine x_aload_n O 0 dX9_undo_4 rfl rfl ?_
  refine x_getF O (t := 36) fl_X9_undo_38 rfl dX9_undo_5 ?_
  obtain ⟨r_1, σ1, hc, hf⟩ := bd_some hf
  refine x_callV O (k_Hi_restore rfl hc) ca_X3_restore gX9_undo_X3_restore rfl ⟨_, _, _, _, rfl, rfl⟩ rfl rfl rfl (Nat.le_of_ble_eq_true rfl) ⟨Nat.le_of_ble_eq_true rfl, Nat.le_of_ble_eq_true rfl⟩ dX9_undo_8 ?_
  refine x_push O ?_
  refine x_if_eq O 24 hf dX9_undo_11 (by decide) (fun hf => ?_) (fun hf => ?_)
  · refine x_bipush O (v := -2) dX9_undo_24 (by decide) ?_
    have hk : ((-2), σ1) = (rr, σr) := Option.some.inj hf
    obtain ⟨rfl, rfl⟩ := Prod.mk.inj hk
    exact x_iret O rfl rfl ⟨_, rfl, rfl⟩ dX9_undo_26
  · refine x_aload_n O 0 dX9_undo_14 rfl rfl ?_
    refine x_getF O (t := 16) fl_X9_undo_61 rfl dX9_undo_15 ?_
    refine x_getI O fl_X9_undo_124 rfl dX9_undo_18 ?_
    refine x_goto O 26 dX9_undo_21 (by decide) ?_
    have hk : ((gI σ1 16 2), σ1) = (rr, σr) := Option.some.inj hf
    obtain ⟨rfl, rfl⟩ := Prod.mk.inj hk
    exact x_iret O rfl rfl ⟨_, rfl, rfl⟩ dX9_undo_26
theorem k_T_undo {σ σr : Mm} {rr : Int32}   (hf : f_T_undo σ = some (rr, σr)) : CT LT yX9_undo wsX9_undo rm_X9_undo (fun ad => [.ref (ad 0)]) σ (some (.int rr)) σr := CT_of2 (cc := cX9_undo) (maxL := 1) (rt := (some .int)) (own := RX9) (by decide) rfl rfl (fun _ => Nat.le_of_ble_eq_true rfl) (fun _ => rfl) (fun Γ ad O => v_T_undo O  hf)

-- ===== TippedBarrow.would(I)I
theorem ca_X9_would : Ca yX9_would cX9_would 3 (some .int) wsX9_would rm_X9_would 1 := ⟨⟨_, rfl⟩, rfl, rfl, by decide +kernel, by decide +kernel, by decide +kernel⟩
theorem in_X9_would_X4 : ∀ w ∈ wsX40, w ∈ wsX9_would := by decide +kernel
theorem in_X9_would_X9 : ∀ w ∈ wsX90, w ∈ wsX9_would := by decide +kernel
theorem fl_X9_would_38 : Fl RX9 wsX9_would 38 9 4 true (.object "TippedBarrow$Moment") := ⟨_, _, _, tyX9, rfl, in_X9_would_X9, by decide, by decide +kernel, tyX9_ok, nmX9, rfl, tyX9_ok 4 (by decide)⟩
theorem fl_X9_would_51 : Fl RX9 wsX9_would 51 9 5 true (.object "TippedBarrow$Ground") := ⟨_, _, _, tyX9, rfl, in_X9_would_X9, by decide, by decide +kernel, tyX9_ok, nmX9, rfl, tyX9_ok 5 (by decide)⟩
theorem fl_X9_would_141 : Fl RX9 wsX9_would 141 4 4 false .int := ⟨_, _, _, tyX4, rfl, in_X9_would_X4, by decide, by decide +kernel, tyX4_ok, nmX4, rfl, tyX4_ok 4 (by decide)⟩
set_option maxHeartbeats 4000000 in
set_option maxRecDepth 100000 in
theorem v_T_would {Γ : Cx} {ad : Nat → Nat} {rr : Int32} {σr : Mm} (O : Ok LT Γ ad cX9_would 3 RX9 wsX9_would rm_X9_would (some .int) (some (.int rr)) σr) {σ : Mm} {v1 : Int32}  (hf : f_T_would σ v1 = some (rr, σr)) : X LT Γ ad σ 0 [(0, .ref (ad 0)), (1, .int v1)] [] := by
  unfold f_T_would at hf
  refine x_iload_n O 1 dX9_would_0 rfl rfl ?_
  obtain ⟨r_1, σ1, hc, hf⟩ := bd_some hf
  refine x_callS O (k_T_isNoWay  hc) ca_X9_isNoWay gX9_would_X9_isNoWay rfl rfl rfl (Nat.le_of_ble_eq_true rfl) ⟨Nat.le_of_ble_eq_true rfl, Nat.le_of_ble_eq_true rfl⟩ dX9_would_1 ?_
  refine x_push O ?_
  refine x_if_eq O 9 hf dX9_would_4 (by decide) (fun hf => ?_) (fun hf => ?_)
  · refine x_aload_n O 0 dX9_would_9 rfl rfl ?_
    refine x_iload_n O 1 dX9_would_10 rfl rfl ?_
    obtain ⟨r_2, σ2, hc, hf⟩ := bd_some hf
    refine x_callV O (k_T_nextCell  hc) ca_X9_nextCell gX9_would_X9_nextCell rfl ⟨_, _, _, _, rfl, rfl⟩ rfl rfl rfl (Nat.le_of_ble_eq_true rfl) ⟨Nat.le_of_ble_eq_true rfl, Nat.le_of_ble_eq_true rfl⟩ dX9_would_11 ?_
    refine x_push O ?_
    refine x_istore_n O 2 dX9_would_14 rfl (by decide) ?_
    refine x_iload_n O 2 dX9_would_15 rfl rfl ?_
    refine x_if_ge O 24 hf dX9_would_16 (by decide) (fun hf => ?_) (fun hf => ?_)
    · refine x_aload_n O 0 dX9_would_24 rfl rfl ?_
      refine x_getF O (t := 11) fl_X9_would_51 rfl dX9_would_25 ?_
      refine x_aload_n O 0 dX9_would_28 rfl rfl ?_
      refine x_getF O (t := 11) fl_X9_would_51 rfl dX9_would_29 ?_
      refine x_iload_n O 2 dX9_would_32 rfl rfl ?_
      refine x_aload_n O 0 dX9_would_33 rfl rfl ?_
      refine x_getF O (t := 36) fl_X9_would_38 rfl dX9_would_34 ?_
      refine x_getI O fl_X9_would_141 rfl dX9_would_37 ?_
      obtain ⟨r_3, σ3, hc, hf⟩ := bd_some hf
      refine x_callV O (k_Gr_leanOn rfl hc) ca_X2_leanOn gX9_would_X2_leanOn rfl ⟨_, _, _, _, rfl, rfl⟩ rfl rfl rfl (Nat.le_of_ble_eq_true rfl) ⟨Nat.le_of_ble_eq_true rfl, Nat.le_of_ble_eq_true rfl⟩ dX9_would_40 ?_
      refine x_push O ?_
      obtain ⟨r_4, σ4, hc, hf⟩ := bd_some hf
      refine x_callV O (k_Gr_verdict rfl hc) ca_X2_verdict gX9_would_X2_verdict rfl ⟨_, _, _, _, rfl, rfl⟩ rfl rfl rfl (Nat.le_of_ble_eq_true rfl) ⟨Nat.le_of_ble_eq_true rfl, Nat.le_of_ble_eq_true rfl⟩ dX9_would_43 ?_
      refine x_push O ?_
      have hk : (r_4, σ4) = (rr, σr) := Option.some.inj hf
      obtain ⟨rfl, rfl⟩ := Prod.mk.inj hk
      exact x_iret O rfl rfl ⟨_, rfl, rfl⟩ dX9_would_46
    · refine x_bipush O (v := -2) dX9_would_19 (by decide) ?_
      refine x_goto O 46 dX9_would_21 (by decide) ?_
      have hk : ((-2), σ2) = (rr, σr) := Option.some.inj hf
      obtain ⟨rfl, rfl⟩ := Prod.mk.inj hk
      exact x_iret O rfl rfl ⟨_, rfl, rfl⟩ dX9_would_46
  · refine x_iconst O (v := -1) dX9_would_7 (by decide) ?_
    have hk : ((-1), σ1) = (rr, σr) := Option.some.inj hf
    obtain ⟨rfl, rfl⟩ := Prod.mk.inj hk
    exact x_iret O rfl rfl ⟨_, rfl, rfl⟩ dX9_would_8
theorem k_T_would {σ σr : Mm} {rr : Int32} {v1 : Int32}  (hf : f_T_would σ v1 = some (rr, σr)) : CT LT yX9_would wsX9_would rm_X9_would (fun ad => [.ref (ad 0), .int v1]) σ (some (.int rr)) σr := CT_of2 (cc := cX9_would) (maxL := 3) (rt := (some .int)) (own := RX9) (by decide) rfl rfl (fun _ => Nat.le_of_ble_eq_true rfl) (fun _ => rfl) (fun Γ ad O => v_T_would O  hf)

-- ===== TippedBarrow.spotOf(II)I
theorem ca_X9_spotOf : Ca yX9_spotOf cX9_spotOf 2 (some .int) wsX9_spotOf rm_X9_spotOf 2 := ⟨⟨_, rfl⟩, rfl, rfl, by decide +kernel, by decide +kernel, by decide +kernel⟩
set_option maxHeartbeats 4000000 in
set_option maxRecDepth 100000 in
theorem v_T_spotOf {Γ : Cx} {ad : Nat → Nat} {rr : Int32} {σr : Mm} (O : Ok LT Γ ad cX9_spotOf 2 RX9 wsX9_spotOf rm_X9_spotOf (some .int) (some (.int rr)) σr) {σ : Mm} {v0 : Int32} {v1 : Int32}  (hf : f_T_spotOf σ v0 v1 = some (rr, σr)) : X LT Γ ad σ 0 [(0, .int v0), (1, .int v1)] [] := by
  unfold f_T_spotOf at hf
  refine x_iload_n O 0 dX9_spotOf_0 rfl rfl ?_
  refine x_if_lt O 22 hf dX9_spotOf_1 (by decide) (fun hf => ?_) (fun hf => ?_)
  · refine x_iconst O (v := -1) dX9_spotOf_22 (by decide) ?_
    have hk : ((-1), σ) = (rr, σr) := Option.some.inj hf
    obtain ⟨rfl, rfl⟩ := Prod.mk.inj hk
    exact x_iret O rfl rfl ⟨_, rfl, rfl⟩ dX9_spotOf_23
  · refine x_iload_n O 0 dX9_spotOf_4 rfl rfl ?_
    refine x_bipush O (v := 20) dX9_spotOf_5 (by decide) ?_
    refine x_icmp_ge O 22 hf dX9_spotOf_7 (by decide) (fun hf => ?_) (fun hf => ?_)
    · refine x_iconst O (v := -1) dX9_spotOf_22 (by decide) ?_
      have hk : ((-1), σ) = (rr, σr) := Option.some.inj hf
      obtain ⟨rfl, rfl⟩ := Prod.mk.inj hk
      exact x_iret O rfl rfl ⟨_, rfl, rfl⟩ dX9_spotOf_23
    · refine x_iload_n O 1 dX9_spotOf_10 rfl rfl ?_
      refine x_bipush O (v := -8) dX9_spotOf_11 (by decide) ?_
      refine x_icmp_lt O 22 hf dX9_spotOf_13 (by decide) (fun hf => ?_) (fun hf => ?_)
      · refine x_iconst O (v := -1) dX9_spotOf_22 (by decide) ?_
        have hk : ((-1), σ) = (rr, σr) := Option.some.inj hf
        obtain ⟨rfl, rfl⟩ := Prod.mk.inj hk
        exact x_iret O rfl rfl ⟨_, rfl, rfl⟩ dX9_spotOf_23
      · refine x_iload_n O 1 dX9_spotOf_16 rfl rfl ?_
        refine x_bipush O (v := 8) dX9_spotOf_17 (by decide) ?_
        refine x_icmp_le O 24 hf dX9_spotOf_19 (by decide) (fun hf => ?_) (fun hf => ?_)
        · refine x_bipush O (v := 17) dX9_spotOf_24 (by decide) ?_
          refine x_iload_n O 0 dX9_spotOf_26 rfl rfl ?_
          refine x_imul O dX9_spotOf_27 ?_
          refine x_iload_n O 1 dX9_spotOf_28 rfl rfl ?_
          refine x_iadd O dX9_spotOf_29 ?_
          refine x_bipush O (v := 8) dX9_spotOf_30 (by decide) ?_
          refine x_iadd O dX9_spotOf_32 ?_
          have hk : ((((17 * v0) + v1) + 8), σ) = (rr, σr) := Option.some.inj hf
          obtain ⟨rfl, rfl⟩ := Prod.mk.inj hk
          exact x_iret O rfl rfl ⟨_, rfl, rfl⟩ dX9_spotOf_33
        · refine x_iconst O (v := -1) dX9_spotOf_22 (by decide) ?_
          have hk : ((-1), σ) = (rr, σr) := Option.some.inj hf
          obtain ⟨rfl, rfl⟩ := Prod.mk.inj hk
          exact x_iret O rfl rfl ⟨_, rfl, rfl⟩ dX9_spotOf_23
theorem k_T_spotOf {σ σr : Mm} {rr : Int32} {v0 : Int32} {v1 : Int32}  (hf : f_T_spotOf σ v0 v1 = some (rr, σr)) : CT LT yX9_spotOf wsX9_spotOf rm_X9_spotOf (fun ad => [.int v0, .int v1]) σ (some (.int rr)) σr := CT_of2 (cc := cX9_spotOf) (maxL := 2) (rt := (some .int)) (own := RX9) (by decide) rfl rfl (fun _ => Nat.le_of_ble_eq_true rfl) (fun _ => rfl) (fun Γ ad O => v_T_spotOf O  hf)

-- ===== TippedBarrow$Contest.stateOf(III)I
theorem ca_X1_stateOf : Ca yX1_stateOf cX1_stateOf 4 (some .int) wsX1_stateOf rm_X1_stateOf 3 := ⟨⟨_, rfl⟩, rfl, rfl, by decide +kernel, by decide +kernel, by decide +kernel⟩
theorem mw_X1_stateOf_0 : Cond.static yX9_spotOf ∈ wsX1_stateOf := by decide +kernel
theorem mw_X1_stateOf_1 : Cond.initialized yX9_spotOf.cls ∈ wsX1_stateOf := by decide +kernel
set_option maxHeartbeats 4000000 in
set_option maxRecDepth 100000 in
theorem v_Co_stateOf {Γ : Cx} {ad : Nat → Nat} {rr : Int32} {σr : Mm} (O : Ok LT Γ ad cX1_stateOf 4 RX1 wsX1_stateOf rm_X1_stateOf (some .int) (some (.int rr)) σr) {σ : Mm} {v0 : Int32} {v1 : Int32} {v2 : Int32}  (hf : f_Co_stateOf σ v0 v1 v2 = some (rr, σr)) : X LT Γ ad σ 0 [(0, .int v0), (1, .int v1), (2, .int v2)] [] := by
  unfold f_Co_stateOf at hf
  refine x_iload_n O 0 dX1_stateOf_0 rfl rfl ?_
  refine x_iload_n O 1 dX1_stateOf_1 rfl rfl ?_
  obtain ⟨r_1, σ1, hc, hf⟩ := bd_some hf
  refine x_callN O (k_T_spotOf  hc) ca_X9_spotOf gX1_stateOf_X9_spotOf_n60 (by decide +kernel) mw_X1_stateOf_0 mw_X1_stateOf_1 rfl rfl rfl (Nat.le_of_ble_eq_true rfl) ⟨Nat.le_of_ble_eq_true rfl, Nat.le_of_ble_eq_true rfl⟩ dX1_stateOf_2 ?_
  refine x_push O ?_
  refine x_istore_n O 3 dX1_stateOf_5 rfl (by decide) ?_
  refine x_iload_n O 3 dX1_stateOf_6 rfl rfl ?_
  refine x_if_lt O 19 hf dX1_stateOf_7 (by decide) (fun hf => ?_) (fun hf => ?_)
  · refine x_iconst O (v := -1) dX1_stateOf_19 (by decide) ?_
    refine x_goto O 28 dX1_stateOf_20 (by decide) ?_
    have hk : ((-1), σ1) = (rr, σr) := Option.some.inj hf
    obtain ⟨rfl, rfl⟩ := Prod.mk.inj hk
    exact x_iret O rfl rfl ⟨_, rfl, rfl⟩ dX1_stateOf_28
  · refine x_iload_n O 2 dX1_stateOf_10 rfl rfl ?_
    refine x_if_lt O 19 hf dX1_stateOf_11 (by decide) (fun hf => ?_) (fun hf => ?_)
    · refine x_iconst O (v := -1) dX1_stateOf_19 (by decide) ?_
      refine x_goto O 28 dX1_stateOf_20 (by decide) ?_
      have hk : ((-1), σ1) = (rr, σr) := Option.some.inj hf
      obtain ⟨rfl, rfl⟩ := Prod.mk.inj hk
      exact x_iret O rfl rfl ⟨_, rfl, rfl⟩ dX1_stateOf_28
    · refine x_iload_n O 2 dX1_stateOf_14 rfl rfl ?_
      refine x_iconst O (v := 1) dX1_stateOf_15 (by decide) ?_
      refine x_icmp_le O 23 hf dX1_stateOf_16 (by decide) (fun hf => ?_) (fun hf => ?_)
      · refine x_iconst O (v := 2) dX1_stateOf_23 (by decide) ?_
        refine x_iload_n O 3 dX1_stateOf_24 rfl rfl ?_
        refine x_imul O dX1_stateOf_25 ?_
        refine x_iload_n O 2 dX1_stateOf_26 rfl rfl ?_
        refine x_iadd O dX1_stateOf_27 ?_
        have hk : (((2 * r_1) + v2), σ1) = (rr, σr) := Option.some.inj hf
        obtain ⟨rfl, rfl⟩ := Prod.mk.inj hk
        exact x_iret O rfl rfl ⟨_, rfl, rfl⟩ dX1_stateOf_28
      · refine x_iconst O (v := -1) dX1_stateOf_19 (by decide) ?_
        refine x_goto O 28 dX1_stateOf_20 (by decide) ?_
        have hk : ((-1), σ1) = (rr, σr) := Option.some.inj hf
        obtain ⟨rfl, rfl⟩ := Prod.mk.inj hk
        exact x_iret O rfl rfl ⟨_, rfl, rfl⟩ dX1_stateOf_28
theorem k_Co_stateOf {σ σr : Mm} {rr : Int32} {v0 : Int32} {v1 : Int32} {v2 : Int32}  (hf : f_Co_stateOf σ v0 v1 v2 = some (rr, σr)) : CT LT yX1_stateOf wsX1_stateOf rm_X1_stateOf (fun ad => [.int v0, .int v1, .int v2]) σ (some (.int rr)) σr := CT_of2 (cc := cX1_stateOf) (maxL := 4) (rt := (some .int)) (own := RX1) (by decide) rfl rfl (fun _ => Nat.le_of_ble_eq_true rfl) (fun _ => rfl) (fun Γ ad O => v_Co_stateOf O  hf)

-- ===== TippedBarrow$Contest.sideOf(I)I
theorem ca_X1_sideOf : Ca yX1_sideOf cX1_sideOf 1 (some .int) wsX1_sideOf rm_X1_sideOf 1 := ⟨⟨_, rfl⟩, rfl, rfl, by decide +kernel, by decide +kernel, by decide +kernel⟩
set_option maxHeartbeats 4000000 in
set_option maxRecDepth 100000 in
theorem v_Co_sideOf {Γ : Cx} {ad : Nat → Nat} {rr : Int32} {σr : Mm} (O : Ok LT Γ ad cX1_sideOf 1 RX1 wsX1_sideOf rm_X1_sideOf (some .int) (some (.int rr)) σr) {σ : Mm} {v0 : Int32}  (hf : f_Co_sideOf σ v0 = some (rr, σr)) : X LT Γ ad σ 0 [(0, .int v0)] [] := by
  unfold f_Co_sideOf at hf
  refine x_iload_n O 0 dX1_sideOf_0 rfl rfl ?_
  refine x_iconst O (v := 1) dX1_sideOf_1 (by decide) ?_
  refine x_iadd O dX1_sideOf_2 ?_
  have hk : ((v0 + 1), σ) = (rr, σr) := Option.some.inj hf
  obtain ⟨rfl, rfl⟩ := Prod.mk.inj hk
  exact x_iret O rfl rfl ⟨_, rfl, rfl⟩ dX1_sideOf_3
theorem k_Co_sideOf {σ σr : Mm} {rr : Int32} {v0 : Int32}  (hf : f_Co_sideOf σ v0 = some (rr, σr)) : CT LT yX1_sideOf wsX1_sideOf rm_X1_sideOf (fun ad => [.int v0]) σ (some (.int rr)) σr := CT_of2 (cc := cX1_sideOf) (maxL := 1) (rt := (some .int)) (own := RX1) (by decide) rfl rfl (fun _ => Nat.le_of_ble_eq_true rfl) (fun _ => rfl) (fun Γ ad O => v_Co_sideOf O  hf)

-- ===== TippedBarrow$Contest.settle(III)V
theorem ca_X1_settle : Ca yX1_settle cX1_settle 4 none wsX1_settle rm_X1_settle 3 := ⟨⟨_, rfl⟩, rfl, rfl, by decide +kernel, by decide +kernel, by decide +kernel⟩
theorem in_X1_settle_X1 : ∀ w ∈ wsX10, w ∈ wsX1_settle := by decide +kernel
theorem fl_X1_settle_11 : Fl RX1 wsX1_settle 11 1 0 true (.array .int) := ⟨_, _, _, tyX1, rfl, in_X1_settle_X1, by decide, by decide +kernel, tyX1_ok, nmX1, rfl, tyX1_ok 0 (by decide)⟩
theorem fl_X1_settle_15 : Fl RX1 wsX1_settle 15 1 1 true (.array .int) := ⟨_, _, _, tyX1, rfl, in_X1_settle_X1, by decide, by decide +kernel, tyX1_ok, nmX1, rfl, tyX1_ok 1 (by decide)⟩
theorem fl_X1_settle_21 : Fl RX1 wsX1_settle 21 1 3 true (.array .int) := ⟨_, _, _, tyX1, rfl, in_X1_settle_X1, by decide, by decide +kernel, tyX1_ok, nmX1, rfl, tyX1_ok 3 (by decide)⟩
theorem fl_X1_settle_28 : Fl RX1 wsX1_settle 28 1 4 false .int := ⟨_, _, _, tyX1, rfl, in_X1_settle_X1, by decide, by decide +kernel, tyX1_ok, nmX1, rfl, tyX1_ok 4 (by decide)⟩
set_option maxHeartbeats 4000000 in
set_option maxRecDepth 100000 in
theorem v_Co_settle {Γ : Cx} {ad : Nat → Nat} {rr : Int32} {σr : Mm} (O : Ok LT Γ ad cX1_settle 4 RX1 wsX1_settle rm_X1_settle none none σr) {σ : Mm} {v1 : Int32} {v2 : Int32} {v3 : Int32}  (hf : f_Co_settle σ v1 v2 v3 = some (rr, σr)) : X LT Γ ad σ 0 [(0, .ref (ad 21)), (1, .int v1), (2, .int v2), (3, .int v3)] [] := by
  unfold f_Co_settle at hf
  refine x_aload_n O 0 dX1_settle_0 rfl rfl ?_
  refine x_getF O (t := 22) fl_X1_settle_11 rfl dX1_settle_1 ?_
  refine x_iload_n O 1 dX1_settle_4 rfl rfl ?_
  refine x_iload_n O 2 dX1_settle_5 rfl rfl ?_
  refine x_iastN O hf rfl dX1_settle_6 (fun σ1 hf => ?_)
  refine x_aload_n O 0 dX1_settle_7 rfl rfl ?_
  refine x_getF O (t := 23) fl_X1_settle_15 rfl dX1_settle_8 ?_
  refine x_iload_n O 1 dX1_settle_11 rfl rfl ?_
  refine x_iload_n O 3 dX1_settle_12 rfl rfl ?_
  refine x_iastN O hf rfl dX1_settle_13 (fun σ2 hf => ?_)
  refine x_aload_n O 0 dX1_settle_14 rfl rfl ?_
  refine x_getI O fl_X1_settle_28 rfl dX1_settle_15 ?_
  refine x_sipush O (v := 680) dX1_settle_18 (by decide) ?_
  refine x_icmp_ge O 44 hf dX1_settle_21 (by decide) (fun hf => ?_) (fun hf => ?_)
  · have hk : ((0 : Int32), σ2) = (rr, σr) := Option.some.inj hf
    obtain ⟨rfl, rfl⟩ := Prod.mk.inj hk
    exact x_vret O rfl rfl rfl dX1_settle_44
  · refine x_aload_n O 0 dX1_settle_24 rfl rfl ?_
    refine x_getF O (t := 25) fl_X1_settle_21 rfl dX1_settle_25 ?_
    refine x_aload_n O 0 dX1_settle_28 rfl rfl ?_
    refine x_getI O fl_X1_settle_28 rfl dX1_settle_29 ?_
    refine x_iload_n O 1 dX1_settle_32 rfl rfl ?_
    refine x_iastN O hf rfl dX1_settle_33 (fun σ3 hf => ?_)
    refine x_aload_n O 0 dX1_settle_34 rfl rfl ?_
    refine x_dup O dX1_settle_35 rfl ?_
    refine x_getI O fl_X1_settle_28 rfl dX1_settle_36 ?_
    refine x_iconst O (v := 1) dX1_settle_39 (by decide) ?_
    refine x_iadd O dX1_settle_40 ?_
    refine x_putIN O hf rfl rfl fl_X1_settle_28 rfl dX1_settle_41 (fun σ4 hf => ?_)
    have hk : ((0 : Int32), σ4) = (rr, σr) := Option.some.inj hf
    obtain ⟨rfl, rfl⟩ := Prod.mk.inj hk
    exact x_vret O rfl rfl rfl dX1_settle_44
theorem k_Co_settle {σ σr : Mm} {rr : Int32} {v1 : Int32} {v2 : Int32} {v3 : Int32}  (hf : f_Co_settle σ v1 v2 v3 = some (rr, σr)) : CT LT yX1_settle wsX1_settle rm_X1_settle (fun ad => [.ref (ad 21), .int v1, .int v2, .int v3]) σ none σr := CT_of2 (cc := cX1_settle) (maxL := 4) (rt := none) (own := RX1) (by decide) rfl rfl (fun _ => Nat.le_of_ble_eq_true rfl) (fun _ => rfl) (fun Γ ad O => v_Co_settle O  hf)

-- ===== TippedBarrow$Contest.lookOnePushAhead(II)V
theorem ca_X1_lookOnePushAhead : Ca yX1_lookOnePushAhead cX1_lookOnePushAhead 9 none wsX1_lookOnePushAhead rm_X1_lookOnePushAhead 2 := ⟨⟨_, rfl⟩, rfl, rfl, by decide +kernel, by decide +kernel, by decide +kernel⟩
theorem in_X1_lookOnePushAhead_X1 : ∀ w ∈ wsX10, w ∈ wsX1_lookOnePushAhead := by decide +kernel
theorem fl_X1_lookOnePushAhead_18 : Fl RX1 wsX1_lookOnePushAhead 18 1 2 true (.array .int) := ⟨_, _, _, tyX1, rfl, in_X1_lookOnePushAhead_X1, by decide, by decide +kernel, tyX1_ok, nmX1, rfl, tyX1_ok 2 (by decide)⟩
theorem fl_X1_lookOnePushAhead_24 : Fl RX1 wsX1_lookOnePushAhead 24 1 5 false (.object "TippedBarrow$Ground") := ⟨_, _, _, tyX1, rfl, in_X1_lookOnePushAhead_X1, by decide, by decide +kernel, tyX1_ok, nmX1, rfl, tyX1_ok 5 (by decide)⟩
set_option maxHeartbeats 4000000 in
set_option maxRecDepth 100000 in
theorem v_Co_lookOnePushAhead_165 {Γ : Cx} {ad : Nat → Nat} {rr : Int32} {σr : Mm} (O : Ok LT Γ ad cX1_lookOnePushAhead 9 RX1 wsX1_lookOnePushAhead rm_X1_lookOnePushAhead none none σr) {σ : Mm} {v1 : Int32} {v2 : Int32} {v3 : Int32} {v4 : Int32} {v5 : Int32} {v6 : Int32} {s1 : Int32} {s2 : Int32} {s3 : Int32}  {x : (Mm × Int32) ⊕ (Int32 × Mm)} (hf : f_Co_lookOnePushAhead_165 σ v6 s1 s2 s3 = some x) (hk : (kx (fun s : Mm × Int32 => X LT Γ ad s.1 83 [(0, .ref (ad 21)), (1, .int v1), (2, .int v2), (3, .int v3), (4, .int v4), (5, .int v5), (6, .int s.2)] []) (fun q : Int32 × Mm => q = (rr, σr))) x) : X LT Γ ad σ 165 [(0, .ref (ad 21)), (1, .int v1), (2, .int v2), (3, .int v3), (4, .int v4), (5, .int v5), (6, .int v6)] [.int s3, .int s2, .int s1, .ref (ad 21)] := by
  unfold f_Co_lookOnePushAhead_165 at hf
  obtain ⟨r_1, σ1, hc, hf⟩ := bd_some hf
  refine x_callV O (k_Co_settle  hc) ca_X1_settle gX1_lookOnePushAhead_X1_settle rfl ⟨_, _, _, _, rfl, rfl⟩ rfl rfl rfl (Nat.le_of_ble_eq_true rfl) ⟨Nat.le_of_ble_eq_true rfl, Nat.le_of_ble_eq_true rfl⟩ dX1_lookOnePushAhead_165 ?_
  refine x_pushN O ?_
  refine x_iincN O hf dX1_lookOnePushAhead_168 rfl rfl (by decide) (fun y1 hf => ?_)
  refine x_goto O 83 dX1_lookOnePushAhead_171 (by decide) ?_
  obtain rfl := Option.some.inj hf
  have hk := kx_l hk
  exact x_jmp O hk rfl
set_option maxHeartbeats 4000000 in
set_option maxRecDepth 100000 in
theorem v_Co_lookOnePushAhead_83_b {Γ : Cx} {ad : Nat → Nat} {rr : Int32} {σr : Mm} (O : Ok LT Γ ad cX1_lookOnePushAhead 9 RX1 wsX1_lookOnePushAhead rm_X1_lookOnePushAhead none none σr) {σ : Mm} {v1 : Int32} {v2 : Int32} {v3 : Int32} {v4 : Int32} {v5 : Int32} {v6 : Int32}  {x : (Mm × Int32) ⊕ (Int32 × Mm)} (hf : f_Co_lookOnePushAhead_83_b v1 v2 v3 v4 v5 σ v6 = some x) (hk : (kx (fun s : Mm × Int32 => X LT Γ ad s.1 83 [(0, .ref (ad 21)), (1, .int v1), (2, .int v2), (3, .int v3), (4, .int v4), (5, .int v5), (6, .int s.2)] []) (fun q : Int32 × Mm => q = (rr, σr))) x) : X LT Γ ad σ 83 [(0, .ref (ad 21)), (1, .int v1), (2, .int v2), (3, .int v3), (4, .int v4), (5, .int v5), (6, .int v6)] [] := by
  unfold f_Co_lookOnePushAhead_83_b at hf
  refine x_iload O dX1_lookOnePushAhead_83 rfl ?_
  refine x_iconst O (v := 2) dX1_lookOnePushAhead_85 (by decide) ?_
  refine x_icmp_ge O 174 hf dX1_lookOnePushAhead_86 (by decide) (fun hf => ?_) (fun hf => ?_)
  · obtain ⟨x', hg1, hx⟩ := map_inr hf
    subst hx
    have hk := kx_r hk
    have hx : x' = (rr, σr) := hk
    subst hx
    have hf := hg1
    have hk : ((0 : Int32), σ) = (rr, σr) := Option.some.inj hf
    obtain ⟨rfl, rfl⟩ := Prod.mk.inj hk
    exact x_vret O rfl rfl rfl dX1_lookOnePushAhead_174
  · refine x_iload_n O 1 dX1_lookOnePushAhead_89 rfl rfl ?_
    refine x_iload_n O 2 dX1_lookOnePushAhead_90 rfl rfl ?_
    refine x_iload O dX1_lookOnePushAhead_91 rfl ?_
    obtain ⟨r_1, σ1, hc, hf⟩ := bd_some hf
    refine x_callS O (k_Co_stateOf  hc) ca_X1_stateOf gX1_lookOnePushAhead_X1_stateOf rfl rfl rfl (Nat.le_of_ble_eq_true rfl) ⟨Nat.le_of_ble_eq_true rfl, Nat.le_of_ble_eq_true rfl⟩ dX1_lookOnePushAhead_93 ?_
    refine x_push O ?_
    refine x_istore O dX1_lookOnePushAhead_96 (by decide) ?_
    refine x_iload O dX1_lookOnePushAhead_98 rfl ?_
    refine x_if_ge O 106 hf dX1_lookOnePushAhead_100 (by decide) (fun hf => ?_) (fun hf => ?_)
    · refine x_aload_n O 0 dX1_lookOnePushAhead_106 rfl rfl ?_
      refine x_getF O (t := 24) fl_X1_lookOnePushAhead_18 rfl dX1_lookOnePushAhead_107 ?_
      refine x_iload O dX1_lookOnePushAhead_110 rfl ?_
      refine x_iload O dX1_lookOnePushAhead_112 rfl ?_
      refine x_iastN O hf rfl dX1_lookOnePushAhead_114 (fun σ2 hf => ?_)
      refine x_iload O dX1_lookOnePushAhead_115 rfl ?_
      refine x_iload O dX1_lookOnePushAhead_117 rfl ?_
      obtain ⟨r_2, σ3, hc, hf⟩ := bd_some hf
      refine x_callS O (k_Co_sideOf  hc) ca_X1_sideOf gX1_lookOnePushAhead_X1_sideOf rfl rfl rfl (Nat.le_of_ble_eq_true rfl) ⟨Nat.le_of_ble_eq_true rfl, Nat.le_of_ble_eq_true rfl⟩ dX1_lookOnePushAhead_119 ?_
      refine x_push O ?_
      refine x_iand O dX1_lookOnePushAhead_122 ?_
      refine x_if_eq O 141 hf dX1_lookOnePushAhead_123 (by decide) (fun hf => ?_) (fun hf => ?_)
      · refine x_iload O dX1_lookOnePushAhead_141 rfl ?_
        refine x_if_ne O 168 hf dX1_lookOnePushAhead_143 (by decide) (fun hf => ?_) (fun hf => ?_)
        · refine x_iincN O hf dX1_lookOnePushAhead_168 rfl rfl (by decide) (fun y1 hf => ?_)
          refine x_goto O 83 dX1_lookOnePushAhead_171 (by decide) ?_
          obtain rfl := Option.some.inj hf
          have hk := kx_l hk
          exact x_jmp O hk rfl
        · refine x_aload_n O 0 dX1_lookOnePushAhead_146 rfl rfl ?_
          refine x_iload O dX1_lookOnePushAhead_147 rfl ?_
          refine x_iconst O (v := 1) dX1_lookOnePushAhead_149 (by decide) ?_
          refine x_iload O dX1_lookOnePushAhead_150 rfl ?_
          refine x_isub O dX1_lookOnePushAhead_152 ?_
          obtain ⟨r_3, σ4, hc, hf⟩ := bd_some hf
          refine x_callS O (k_Co_sideOf  hc) ca_X1_sideOf gX1_lookOnePushAhead_X1_sideOf rfl rfl rfl (Nat.le_of_ble_eq_true rfl) ⟨Nat.le_of_ble_eq_true rfl, Nat.le_of_ble_eq_true rfl⟩ dX1_lookOnePushAhead_153 ?_
          refine x_push O ?_
          refine x_iload_n O 3 dX1_lookOnePushAhead_156 rfl rfl ?_
          refine x_if_ne O 164 hf dX1_lookOnePushAhead_157 (by decide) (fun hf => ?_) (fun hf => ?_)
          · refine x_iconst O (v := 1) dX1_lookOnePushAhead_164 (by decide) ?_
            exact x_jmp O (v_Co_lookOnePushAhead_165 O (σ := σ4) (v1 := v1) (v2 := v2) (v3 := v3) (v4 := v4) (v5 := v5) (v6 := v6) (s1 := r_1) (s2 := r_3) (s3 := 1)  hf hk) rfl
          · refine x_iconst O (v := 0) dX1_lookOnePushAhead_160 (by decide) ?_
            refine x_goto O 165 dX1_lookOnePushAhead_161 (by decide) ?_
            exact x_jmp O (v_Co_lookOnePushAhead_165 O (σ := σ4) (v1 := v1) (v2 := v2) (v3 := v3) (v4 := v4) (v5 := v5) (v6 := v6) (s1 := r_1) (s2 := r_3) (s3 := 0)  hf hk) rfl
      · refine x_aload_n O 0 dX1_lookOnePushAhead_126 rfl rfl ?_
        refine x_iload O dX1_lookOnePushAhead_127 rfl ?_
        refine x_iload O dX1_lookOnePushAhead_129 rfl ?_
        obtain ⟨r_4, σ5, hc, hf⟩ := bd_some hf
        refine x_callS O (k_Co_sideOf  hc) ca_X1_sideOf gX1_lookOnePushAhead_X1_sideOf rfl rfl rfl (Nat.le_of_ble_eq_true rfl) ⟨Nat.le_of_ble_eq_true rfl, Nat.le_of_ble_eq_true rfl⟩ dX1_lookOnePushAhead_131 ?_
        refine x_push O ?_
        refine x_iconst O (v := 1) dX1_lookOnePushAhead_134 (by decide) ?_
        obtain ⟨r_5, σ6, hc, hf⟩ := bd_some hf
        refine x_callV O (k_Co_settle  hc) ca_X1_settle gX1_lookOnePushAhead_X1_settle rfl ⟨_, _, _, _, rfl, rfl⟩ rfl rfl rfl (Nat.le_of_ble_eq_true rfl) ⟨Nat.le_of_ble_eq_true rfl, Nat.le_of_ble_eq_true rfl⟩ dX1_lookOnePushAhead_135 ?_
        refine x_pushN O ?_
        refine x_goto O 168 dX1_lookOnePushAhead_138 (by decide) ?_
        refine x_iincN O hf dX1_lookOnePushAhead_168 rfl rfl (by decide) (fun y2 hf => ?_)
        refine x_goto O 83 dX1_lookOnePushAhead_171 (by decide) ?_
        obtain rfl := Option.some.inj hf
        have hk := kx_l hk
        exact x_jmp O hk rfl
    · refine x_goto O 168 dX1_lookOnePushAhead_103 (by decide) ?_
      refine x_iincN O hf dX1_lookOnePushAhead_168 rfl rfl (by decide) (fun y3 hf => ?_)
      refine x_goto O 83 dX1_lookOnePushAhead_171 (by decide) ?_
      obtain rfl := Option.some.inj hf
      have hk := kx_l hk
      exact x_jmp O hk rfl
set_option maxHeartbeats 4000000 in
set_option maxRecDepth 100000 in
theorem v_Co_lookOnePushAhead_83 {Γ : Cx} {ad : Nat → Nat} {rr : Int32} {σr : Mm} (O : Ok LT Γ ad cX1_lookOnePushAhead 9 RX1 wsX1_lookOnePushAhead rm_X1_lookOnePushAhead none none σr) {σ : Mm} {v1 : Int32} {v2 : Int32} {v3 : Int32} {v4 : Int32} {v5 : Int32} {v6 : Int32}  (hf : f_Co_lookOnePushAhead_83 σ v1 v2 v3 v4 v5 v6 = some (rr, σr)) : X LT Γ ad σ 83 [(0, .ref (ad 21)), (1, .int v1), (2, .int v2), (3, .int v3), (4, .int v4), (5, .int v5), (6, .int v6)] [] := lpX (P := (fun s : Mm × Int32 => X LT Γ ad s.1 83 [(0, .ref (ad 21)), (1, .int v1), (2, .int v2), (3, .int v3), (4, .int v4), (5, .int v5), (6, .int s.2)] [])) (K := (fun q : Int32 × Mm => q = (rr, σr))) (fun s x g1 g2 => v_Co_lookOnePushAhead_83_b O (σ := s.1) (v1 := v1) (v2 := v2) (v3 := v3) (v4 := v4) (v5 := v5) (v6 := s.2)  g1 g2) (σ, v6) _ hf rfl
set_option maxHeartbeats 4000000 in
set_option maxRecDepth 100000 in
theorem v_Co_lookOnePushAhead_80 {Γ : Cx} {ad : Nat → Nat} {rr : Int32} {σr : Mm} (O : Ok LT Γ ad cX1_lookOnePushAhead 9 RX1 wsX1_lookOnePushAhead rm_X1_lookOnePushAhead none none σr) {σ : Mm} {v1 : Int32} {v2 : Int32} {v3 : Int32} {v4 : Int32} {v5 : Int32}  (hf : f_Co_lookOnePushAhead_80 σ v1 v2 v3 v4 v5 = some (rr, σr)) : X LT Γ ad σ 80 [(0, .ref (ad 21)), (1, .int v1), (2, .int v2), (3, .int v3), (4, .int v4), (5, .int v5)] [] := by
  unfold f_Co_lookOnePushAhead_80 at hf
  refine x_iconst O (v := 0) dX1_lookOnePushAhead_80 (by decide) ?_
  refine x_istore O dX1_lookOnePushAhead_81 (by decide) ?_
  exact x_jmp O (v_Co_lookOnePushAhead_83 O (σ := σ) (v1 := v1) (v2 := v2) (v3 := v3) (v4 := v4) (v5 := v5) (v6 := 0)  hf) rfl
set_option maxHeartbeats 4000000 in
set_option maxRecDepth 100000 in
theorem v_Co_lookOnePushAhead_67 {Γ : Cx} {ad : Nat → Nat} {rr : Int32} {σr : Mm} (O : Ok LT Γ ad cX1_lookOnePushAhead 9 RX1 wsX1_lookOnePushAhead rm_X1_lookOnePushAhead none none σr) {σ : Mm} {v1 : Int32} {v2 : Int32} {v3 : Int32} {v4 : Int32} {v5 : Int32} {v6 : Int32} {v8 : Int32}  {x : (Mm × Int32 × Int32 × Int32 × Int32) ⊕ (Int32 × Mm)} (hf : f_Co_lookOnePushAhead_67 σ v3 v4 v5 v6 v8 = some x) (hk : (kx (fun s : Mm × Int32 × Int32 × Int32 × Int32 => X LT Γ ad s.1 11 [(0, .ref (ad 21)), (1, .int v1), (2, .int v2), (3, .int s.2.1), (4, .int s.2.2.1), (5, .int s.2.2.2.1), (6, .int s.2.2.2.2)] []) (fun q : Int32 × Mm => q = (rr, σr))) x) : X LT Γ ad σ 67 [(0, .ref (ad 21)), (1, .int v1), (2, .int v2), (3, .int v3), (4, .int v4), (5, .int v5), (6, .int v6), (8, .int v8)] [] := by
  unfold f_Co_lookOnePushAhead_67 at hf
  refine x_iload O dX1_lookOnePushAhead_67 rfl ?_
  refine x_iload O dX1_lookOnePushAhead_69 rfl ?_
  refine x_ior O dX1_lookOnePushAhead_71 ?_
  refine x_istoreN O hf dX1_lookOnePushAhead_72 (by decide) (fun y1 hf => ?_)
  refine x_iincN O hf dX1_lookOnePushAhead_74 rfl rfl (by decide) (fun y2 hf => ?_)
  refine x_goto O 11 dX1_lookOnePushAhead_77 (by decide) ?_
  obtain rfl := Option.some.inj hf
  have hk := kx_l hk
  exact x_jmp O hk rfl
set_option maxHeartbeats 4000000 in
set_option maxRecDepth 100000 in
theorem v_Co_lookOnePushAhead_11_b {Γ : Cx} {ad : Nat → Nat} {rr : Int32} {σr : Mm} (O : Ok LT Γ ad cX1_lookOnePushAhead 9 RX1 wsX1_lookOnePushAhead rm_X1_lookOnePushAhead none none σr) {σ : Mm} {v1 : Int32} {v2 : Int32} {v3 : Int32} {v4 : Int32} {v5 : Int32} {v6 : Int32}  {x : (Mm × Int32 × Int32 × Int32 × Int32) ⊕ (Int32 × Mm)} (hf : f_Co_lookOnePushAhead_11_b v1 v2 σ v3 v4 v5 v6 = some x) (hk : (kx (fun s : Mm × Int32 × Int32 × Int32 × Int32 => X LT Γ ad s.1 11 [(0, .ref (ad 21)), (1, .int v1), (2, .int v2), (3, .int s.2.1), (4, .int s.2.2.1), (5, .int s.2.2.2.1), (6, .int s.2.2.2.2)] []) (fun q : Int32 × Mm => q = (rr, σr))) x) : X LT Γ ad σ 11 [(0, .ref (ad 21)), (1, .int v1), (2, .int v2), (3, .int v3), (4, .int v4), (5, .int v5), (6, .int v6)] [] := by
  unfold f_Co_lookOnePushAhead_11_b at hf
  refine x_iload O dX1_lookOnePushAhead_11 rfl ?_
  refine x_iconst O (v := 4) dX1_lookOnePushAhead_13 (by decide) ?_
  refine x_icmp_ge O 80 hf dX1_lookOnePushAhead_14 (by decide) (fun hf => ?_) (fun hf => ?_)
  · obtain ⟨x', hg1, hx⟩ := map_inr hf
    subst hx
    have hk := kx_r hk
    have hx : x' = (rr, σr) := hk
    subst hx
    have hf := hg1
    exact x_jmp O (v_Co_lookOnePushAhead_80 O (σ := σ) (v1 := v1) (v2 := v2) (v3 := v3) (v4 := v4) (v5 := v5)  hf) rfl
  · refine x_aload_n O 0 dX1_lookOnePushAhead_17 rfl rfl ?_
    refine x_getR O hf fl_X1_lookOnePushAhead_24 rfl dX1_lookOnePushAhead_18 (fun t1 ht1 hf => ?_)
    refine x_iload_n O 1 dX1_lookOnePushAhead_21 rfl rfl ?_
    refine x_iload O dX1_lookOnePushAhead_22 rfl ?_
    obtain ⟨r_1, σ1, hc, hf⟩ := bd_some hf
    refine x_callV O (k_Gr_beyond ht1 hc) ca_X2_beyond gX1_lookOnePushAhead_X2_beyond rfl (okCl_Gr ht1) rfl rfl rfl (Nat.le_of_ble_eq_true rfl) ⟨Nat.le_of_ble_eq_true rfl, Nat.le_of_ble_eq_true rfl⟩ dX1_lookOnePushAhead_24 ?_
    refine x_push O ?_
    refine x_istore O dX1_lookOnePushAhead_27 (by decide) ?_
    refine x_iload O dX1_lookOnePushAhead_29 rfl ?_
    refine x_if_ge O 37 hf dX1_lookOnePushAhead_31 (by decide) (fun hf => ?_) (fun hf => ?_)
    · refine x_iincN O hf dX1_lookOnePushAhead_37 rfl rfl (by decide) (fun y1 hf => ?_)
      refine x_aload_n O 0 dX1_lookOnePushAhead_40 rfl rfl ?_
      refine x_getR O hf fl_X1_lookOnePushAhead_24 rfl dX1_lookOnePushAhead_41 (fun t2 ht2 hf => ?_)
      refine x_aload_n O 0 dX1_lookOnePushAhead_44 rfl rfl ?_
      refine x_getR O hf fl_X1_lookOnePushAhead_24 rfl dX1_lookOnePushAhead_45 (fun t3 ht3 hf => ?_)
      refine x_iload O dX1_lookOnePushAhead_48 rfl ?_
      refine x_iload_n O 2 dX1_lookOnePushAhead_50 rfl rfl ?_
      obtain ⟨r_2, σ2, hc, hf⟩ := bd_some hf
      refine x_callV O (k_Gr_leanOn ht3 hc) ca_X2_leanOn gX1_lookOnePushAhead_X2_leanOn rfl (okCl_Gr ht3) rfl rfl rfl (Nat.le_of_ble_eq_true rfl) ⟨Nat.le_of_ble_eq_true rfl, Nat.le_of_ble_eq_true rfl⟩ dX1_lookOnePushAhead_51 ?_
      refine x_push O ?_
      obtain ⟨r_3, σ3, hc, hf⟩ := bd_some hf
      refine x_callV O (k_Gr_verdict ht2 hc) ca_X2_verdict gX1_lookOnePushAhead_X2_verdict rfl (okCl_Gr ht2) rfl rfl rfl (Nat.le_of_ble_eq_true rfl) ⟨Nat.le_of_ble_eq_true rfl, Nat.le_of_ble_eq_true rfl⟩ dX1_lookOnePushAhead_54 ?_
      refine x_push O ?_
      refine x_istore O dX1_lookOnePushAhead_57 (by decide) ?_
      refine x_iload O dX1_lookOnePushAhead_59 rfl ?_
      refine x_if_ne O 67 hf dX1_lookOnePushAhead_61 (by decide) (fun hf => ?_) (fun hf => ?_)
      · exact x_jmp O (v_Co_lookOnePushAhead_67 O (σ := σ3) (v1 := v1) (v2 := v2) (v3 := y1) (v4 := v4) (v5 := v5) (v6 := v6) (v8 := r_3)  hf hk) rfl
      · refine x_iincN O hf dX1_lookOnePushAhead_64 rfl rfl (by decide) (fun y2 hf => ?_)
        exact x_jmp O (v_Co_lookOnePushAhead_67 O (σ := σ3) (v1 := v1) (v2 := v2) (v3 := y1) (v4 := y2) (v5 := v5) (v6 := v6) (v8 := r_3)  hf hk) rfl
    · refine x_goto O 74 dX1_lookOnePushAhead_34 (by decide) ?_
      refine x_iincN O hf dX1_lookOnePushAhead_74 rfl rfl (by decide) (fun y3 hf => ?_)
      refine x_goto O 11 dX1_lookOnePushAhead_77 (by decide) ?_
      obtain rfl := Option.some.inj hf
      have hk := kx_l hk
      exact x_jmp O hk rfl
set_option maxHeartbeats 4000000 in
set_option maxRecDepth 100000 in
theorem v_Co_lookOnePushAhead_11 {Γ : Cx} {ad : Nat → Nat} {rr : Int32} {σr : Mm} (O : Ok LT Γ ad cX1_lookOnePushAhead 9 RX1 wsX1_lookOnePushAhead rm_X1_lookOnePushAhead none none σr) {σ : Mm} {v1 : Int32} {v2 : Int32} {v3 : Int32} {v4 : Int32} {v5 : Int32} {v6 : Int32}  (hf : f_Co_lookOnePushAhead_11 σ v1 v2 v3 v4 v5 v6 = some (rr, σr)) : X LT Γ ad σ 11 [(0, .ref (ad 21)), (1, .int v1), (2, .int v2), (3, .int v3), (4, .int v4), (5, .int v5), (6, .int v6)] [] := lpX (P := (fun s : Mm × Int32 × Int32 × Int32 × Int32 => X LT Γ ad s.1 11 [(0, .ref (ad 21)), (1, .int v1), (2, .int v2), (3, .int s.2.1), (4, .int s.2.2.1), (5, .int s.2.2.2.1), (6, .int s.2.2.2.2)] [])) (K := (fun q : Int32 × Mm => q = (rr, σr))) (fun s x g1 g2 => v_Co_lookOnePushAhead_11_b O (σ := s.1) (v1 := v1) (v2 := v2) (v3 := s.2.1) (v4 := s.2.2.1) (v5 := s.2.2.2.1) (v6 := s.2.2.2.2)  g1 g2) (σ, v3, v4, v5, v6) _ hf rfl
set_option maxHeartbeats 4000000 in
set_option maxRecDepth 100000 in
theorem v_Co_lookOnePushAhead {Γ : Cx} {ad : Nat → Nat} {rr : Int32} {σr : Mm} (O : Ok LT Γ ad cX1_lookOnePushAhead 9 RX1 wsX1_lookOnePushAhead rm_X1_lookOnePushAhead none none σr) {σ : Mm} {v1 : Int32} {v2 : Int32}  (hf : f_Co_lookOnePushAhead σ v1 v2 = some (rr, σr)) : X LT Γ ad σ 0 [(0, .ref (ad 21)), (1, .int v1), (2, .int v2)] [] := by
  unfold f_Co_lookOnePushAhead at hf
  refine x_iconst O (v := 0) dX1_lookOnePushAhead_0 (by decide) ?_
  refine x_istore_n O 3 dX1_lookOnePushAhead_1 rfl (by decide) ?_
  refine x_iconst O (v := 0) dX1_lookOnePushAhead_2 (by decide) ?_
  refine x_istore O dX1_lookOnePushAhead_3 (by decide) ?_
  refine x_iconst O (v := 0) dX1_lookOnePushAhead_5 (by decide) ?_
  refine x_istore O dX1_lookOnePushAhead_6 (by decide) ?_
  refine x_iconst O (v := 0) dX1_lookOnePushAhead_8 (by decide) ?_
  refine x_istore O dX1_lookOnePushAhead_9 (by decide) ?_
  exact x_jmp O (v_Co_lookOnePushAhead_11 O (σ := σ) (v1 := v1) (v2 := v2) (v3 := 0) (v4 := 0) (v5 := 0) (v6 := 0)  hf) rfl
theorem k_Co_lookOnePushAhead {σ σr : Mm} {rr : Int32} {v1 : Int32} {v2 : Int32}  (hf : f_Co_lookOnePushAhead σ v1 v2 = some (rr, σr)) : CT LT yX1_lookOnePushAhead wsX1_lookOnePushAhead rm_X1_lookOnePushAhead (fun ad => [.ref (ad 21), .int v1, .int v2]) σ none σr := CT_of2 (cc := cX1_lookOnePushAhead) (maxL := 9) (rt := none) (own := RX1) (by decide) rfl rfl (fun _ => Nat.le_of_ble_eq_true rfl) (fun _ => rfl) (fun Γ ad O => v_Co_lookOnePushAhead O  hf)

-- ===== TippedBarrow.cellOf(I)I
theorem ca_X9_cellOf : Ca yX9_cellOf cX9_cellOf 1 (some .int) wsX9_cellOf rm_X9_cellOf 1 := ⟨⟨_, rfl⟩, rfl, rfl, by decide +kernel, by decide +kernel, by decide +kernel⟩
set_option maxHeartbeats 4000000 in
set_option maxRecDepth 100000 in
theorem v_T_cellOf {Γ : Cx} {ad : Nat → Nat} {rr : Int32} {σr : Mm} (O : Ok LT Γ ad cX9_cellOf 1 RX9 wsX9_cellOf rm_X9_cellOf (some .int) (some (.int rr)) σr) {σ : Mm} {v0 : Int32}  (hf : f_T_cellOf σ v0 = some (rr, σr)) : X LT Γ ad σ 0 [(0, .int v0)] [] := by
  unfold f_T_cellOf at hf
  refine x_iload_n O 0 dX9_cellOf_0 rfl rfl ?_
  refine x_bipush O (v := 17) dX9_cellOf_1 (by decide) ?_
  refine x_idivK O (by decide) dX9_cellOf_3 ?_
  have hk : ((v0 / 17), σ) = (rr, σr) := Option.some.inj hf
  obtain ⟨rfl, rfl⟩ := Prod.mk.inj hk
  exact x_iret O rfl rfl ⟨_, rfl, rfl⟩ dX9_cellOf_4
theorem k_T_cellOf {σ σr : Mm} {rr : Int32} {v0 : Int32}  (hf : f_T_cellOf σ v0 = some (rr, σr)) : CT LT yX9_cellOf wsX9_cellOf rm_X9_cellOf (fun ad => [.int v0]) σ (some (.int rr)) σr := CT_of2 (cc := cX9_cellOf) (maxL := 1) (rt := (some .int)) (own := RX9) (by decide) rfl rfl (fun _ => Nat.le_of_ble_eq_true rfl) (fun _ => rfl) (fun Γ ad O => v_T_cellOf O  hf)

-- ===== TippedBarrow.leanOf(I)I
theorem ca_X9_leanOf : Ca yX9_leanOf cX9_leanOf 1 (some .int) wsX9_leanOf rm_X9_leanOf 1 := ⟨⟨_, rfl⟩, rfl, rfl, by decide +kernel, by decide +kernel, by decide +kernel⟩
set_option maxHeartbeats 4000000 in
set_option maxRecDepth 100000 in
theorem v_T_leanOf {Γ : Cx} {ad : Nat → Nat} {rr : Int32} {σr : Mm} (O : Ok LT Γ ad cX9_leanOf 1 RX9 wsX9_leanOf rm_X9_leanOf (some .int) (some (.int rr)) σr) {σ : Mm} {v0 : Int32}  (hf : f_T_leanOf σ v0 = some (rr, σr)) : X LT Γ ad σ 0 [(0, .int v0)] [] := by
  unfold f_T_leanOf at hf
  refine x_iload_n O 0 dX9_leanOf_0 rfl rfl ?_
  refine x_bipush O (v := 17) dX9_leanOf_1 (by decide) ?_
  refine x_iremK O (by decide) dX9_leanOf_3 ?_
  refine x_bipush O (v := 8) dX9_leanOf_4 (by decide) ?_
  refine x_isub O dX9_leanOf_6 ?_
  have hk : (((rm32 v0 17) - 8), σ) = (rr, σr) := Option.some.inj hf
  obtain ⟨rfl, rfl⟩ := Prod.mk.inj hk
  exact x_iret O rfl rfl ⟨_, rfl, rfl⟩ dX9_leanOf_7
theorem k_T_leanOf {σ σr : Mm} {rr : Int32} {v0 : Int32}  (hf : f_T_leanOf σ v0 = some (rr, σr)) : CT LT yX9_leanOf wsX9_leanOf rm_X9_leanOf (fun ad => [.int v0]) σ (some (.int rr)) σr := CT_of2 (cc := cX9_leanOf) (maxL := 1) (rt := (some .int)) (own := RX9) (by decide) rfl rfl (fun _ => Nat.le_of_ble_eq_true rfl) (fun _ => rfl) (fun Γ ad O => v_T_leanOf O  hf)
