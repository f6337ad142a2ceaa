-- ===== TippedBarrowModel.readsItem(I)V
theorem ca_X10_readsItem : Ca yX10_readsItem cX10_readsItem 2 none wsX10_readsItem rm_X10_readsItem 1 := ⟨⟨_, rfl⟩, rfl, rfl, by decide +kernel, by decide +kernel, by decide +kernel⟩
theorem in_X10_readsItem_X10 : ∀ w ∈ wsX100, w ∈ wsX10_readsItem := by decide +kernel
theorem fl_X10_readsItem_13 : Fl RX10 wsX10_readsItem 13 10 9 true (.array .int) := ⟨_, _, _, tyX10, rfl, in_X10_readsItem_X10, by decide, by decide +kernel, tyX10_ok, nmX10, rfl, tyX10_ok 9 (by decide)⟩
theorem fl_X10_readsItem_101 : Fl RX10 wsX10_readsItem 101 10 10 false .int := ⟨_, _, _, tyX10, rfl, in_X10_readsItem_X10, by decide, by decide +kernel, tyX10_ok, nmX10, rfl, tyX10_ok 10 (by decide)⟩
set_option maxHeartbeats 4000000 in
set_option maxRecDepth 100000 in
theorem v_M_readsItem_85 {Γ : Cx} {ad : Nat → Nat} {rr : Int32} {σr : Mm} (O : Ok LM Γ ad cX10_readsItem 2 RX10 wsX10_readsItem rm_X10_readsItem none none σr) {σ : Mm} {v1 : Int32}  (hf : f_M_readsItem_85 σ v1 = some (rr, σr)) : X LM Γ ad σ 85 [(0, .ref (ad 0)), (1, .int v1)] [] := by
  unfold f_M_readsItem_85 at hf
  refine x_aload_n O 0 dX10_readsItem_85 rfl rfl ?_
  refine x_dup O dX10_readsItem_86 rfl ?_
  refine x_getI O fl_X10_readsItem_101 rfl dX10_readsItem_87 ?_
  refine x_iload_n O 1 dX10_readsItem_90 rfl rfl ?_
  obtain ⟨r_1, σ1, hc, hf⟩ := bd_some hf
  refine x_callS O (k_M_bitOf  hc) ca_X10_bitOf gX10_readsItem_X10_bitOf rfl rfl rfl (Nat.le_of_ble_eq_true rfl) ⟨Nat.le_of_ble_eq_true rfl, Nat.le_of_ble_eq_true rfl⟩ dX10_readsItem_91 ?_
  refine x_push O ?_
  refine x_ior O dX10_readsItem_94 ?_
  refine x_putIN O hf rfl rfl fl_X10_readsItem_101 rfl dX10_readsItem_95 (fun σ2 hf => ?_)
  have hk : ((0 : Int32), σ2) = (rr, σr) := Option.some.inj hf
  obtain ⟨rfl, rfl⟩ := Prod.mk.inj hk
  exact x_vret O rfl rfl rfl dX10_readsItem_98
set_option maxHeartbeats 4000000 in
set_option maxRecDepth 100000 in
theorem v_M_readsItem {Γ : Cx} {ad : Nat → Nat} {rr : Int32} {σr : Mm} (O : Ok LM Γ ad cX10_readsItem 2 RX10 wsX10_readsItem rm_X10_readsItem none none σr) {σ : Mm} {v1 : Int32}  (hf : f_M_readsItem σ v1 = some (rr, σr)) : X LM Γ ad σ 0 [(0, .ref (ad 0)), (1, .int v1)] [] := by
  unfold f_M_readsItem at hf
  refine x_iload_n O 1 dX10_readsItem_0 rfl rfl ?_
  refine x_bipush O (v := 119) dX10_readsItem_1 (by decide) ?_
  refine x_icmp_ne O 21 hf dX10_readsItem_3 (by decide) (fun hf => ?_) (fun hf => ?_)
  · refine x_iload_n O 1 dX10_readsItem_21 rfl rfl ?_
    refine x_bipush O (v := 114) dX10_readsItem_22 (by decide) ?_
    refine x_icmp_ne O 34 hf dX10_readsItem_24 (by decide) (fun hf => ?_) (fun hf => ?_)
    · refine x_iload_n O 1 dX10_readsItem_34 rfl rfl ?_
      refine x_bipush O (v := 98) dX10_readsItem_35 (by decide) ?_
      refine x_icmp_ne O 47 hf dX10_readsItem_37 (by decide) (fun hf => ?_) (fun hf => ?_)
      · refine x_iload_n O 1 dX10_readsItem_47 rfl rfl ?_
        refine x_bipush O (v := 107) dX10_readsItem_48 (by decide) ?_
        refine x_icmp_ne O 70 hf dX10_readsItem_50 (by decide) (fun hf => ?_) (fun hf => ?_)
        · refine x_aload_n O 0 dX10_readsItem_70 rfl rfl ?_
          refine x_getF O (t := 2) fl_X10_readsItem_13 rfl dX10_readsItem_71 ?_
          refine x_bipush O (v := 9) dX10_readsItem_74 (by decide) ?_
          refine x_aload_n O 0 dX10_readsItem_76 rfl rfl ?_
          refine x_iconst O (v := 0) dX10_readsItem_77 (by decide) ?_
          refine x_iconst O (v := 4) dX10_readsItem_78 (by decide) ?_
          obtain ⟨r_1, σ1, hc, hf⟩ := bd_some hf
          refine x_callV O (k_M_number  hc) ca_X10_number gX10_readsItem_X10_number rfl ⟨_, _, _, _, rfl, rfl⟩ rfl rfl rfl (Nat.le_of_ble_eq_true rfl) ⟨Nat.le_of_ble_eq_true rfl, Nat.le_of_ble_eq_true rfl⟩ dX10_readsItem_79 ?_
          refine x_push O ?_
          refine x_iconst O (v := 2) dX10_readsItem_82 (by decide) ?_
          refine x_isub O dX10_readsItem_83 ?_
          refine x_iastN O hf rfl dX10_readsItem_84 (fun σ2 hf => ?_)
          exact x_jmp O (v_M_readsItem_85 O (σ := σ2) (v1 := v1)  hf) rfl
        · refine x_aload_n O 0 dX10_readsItem_53 rfl rfl ?_
          refine x_getF O (t := 2) fl_X10_readsItem_13 rfl dX10_readsItem_54 ?_
          refine x_bipush O (v := 8) dX10_readsItem_57 (by decide) ?_
          refine x_aload_n O 0 dX10_readsItem_59 rfl rfl ?_
          refine x_iconst O (v := 2) dX10_readsItem_60 (by decide) ?_
          refine x_bipush O (v := 9) dX10_readsItem_61 (by decide) ?_
          obtain ⟨r_2, σ3, hc, hf⟩ := bd_some hf
          refine x_callV O (k_M_number  hc) ca_X10_number gX10_readsItem_X10_number rfl ⟨_, _, _, _, rfl, rfl⟩ rfl rfl rfl (Nat.le_of_ble_eq_true rfl) ⟨Nat.le_of_ble_eq_true rfl, Nat.le_of_ble_eq_true rfl⟩ dX10_readsItem_63 ?_
          refine x_push O ?_
          refine x_iastN O hf rfl dX10_readsItem_66 (fun σ4 hf => ?_)
          refine x_goto O 85 dX10_readsItem_67 (by decide) ?_
          exact x_jmp O (v_M_readsItem_85 O (σ := σ4) (v1 := v1)  hf) rfl
      · refine x_aload_n O 0 dX10_readsItem_40 rfl rfl ?_
        obtain ⟨r_3, σ5, hc, hf⟩ := bd_some hf
        refine x_callV O (k_M_readsStart  hc) ca_X10_readsStart gX10_readsItem_X10_readsStart rfl ⟨_, _, _, _, rfl, rfl⟩ rfl rfl rfl (Nat.le_of_ble_eq_true rfl) ⟨Nat.le_of_ble_eq_true rfl, Nat.le_of_ble_eq_true rfl⟩ dX10_readsItem_41 ?_
        refine x_pushN O ?_
        refine x_goto O 85 dX10_readsItem_44 (by decide) ?_
        exact x_jmp O (v_M_readsItem_85 O (σ := σ5) (v1 := v1)  hf) rfl
    · refine x_aload_n O 0 dX10_readsItem_27 rfl rfl ?_
      obtain ⟨r_4, σ6, hc, hf⟩ := bd_some hf
      refine x_callV O (k_M_readsRow  hc) ca_X10_readsRow gX10_readsItem_X10_readsRow rfl ⟨_, _, _, _, rfl, rfl⟩ rfl rfl rfl (Nat.le_of_ble_eq_true rfl) ⟨Nat.le_of_ble_eq_true rfl, Nat.le_of_ble_eq_true rfl⟩ dX10_readsItem_28 ?_
      refine x_pushN O ?_
      refine x_goto O 98 dX10_readsItem_31 (by decide) ?_
      have hk : ((0 : Int32), σ6) = (rr, σr) := Option.some.inj hf
      obtain ⟨rfl, rfl⟩ := Prod.mk.inj hk
      exact x_vret O rfl rfl rfl dX10_readsItem_98
  · refine x_aload_n O 0 dX10_readsItem_6 rfl rfl ?_
    refine x_getF O (t := 2) fl_X10_readsItem_13 rfl dX10_readsItem_7 ?_
    refine x_iconst O (v := 5) dX10_readsItem_10 (by decide) ?_
    refine x_aload_n O 0 dX10_readsItem_11 rfl rfl ?_
    refine x_iconst O (v := 1) dX10_readsItem_12 (by decide) ?_
    refine x_iconst O (v := 5) dX10_readsItem_13 (by decide) ?_
    obtain ⟨r_5, σ7, hc, hf⟩ := bd_some hf
    refine x_callV O (k_M_number  hc) ca_X10_number gX10_readsItem_X10_number rfl ⟨_, _, _, _, rfl, rfl⟩ rfl rfl rfl (Nat.le_of_ble_eq_true rfl) ⟨Nat.le_of_ble_eq_true rfl, Nat.le_of_ble_eq_true rfl⟩ dX10_readsItem_14 ?_
    refine x_push O ?_
    refine x_iastN O hf rfl dX10_readsItem_17 (fun σ8 hf => ?_)
    refine x_goto O 98 dX10_readsItem_18 (by decide) ?_
    have hk : ((0 : Int32), σ8) = (rr, σr) := Option.some.inj hf
    obtain ⟨rfl, rfl⟩ := Prod.mk.inj hk
    exact x_vret O rfl rfl rfl dX10_readsItem_98
theorem k_M_readsItem {σ σr : Mm} {rr : Int32} {v1 : Int32}  (hf : f_M_readsItem σ v1 = some (rr, σr)) : CT LM yX10_readsItem wsX10_readsItem rm_X10_readsItem (fun ad => [.ref (ad 0), .int v1]) σ none σr := CT_of2 (cc := cX10_readsItem) (maxL := 2) (rt := none) (own := RX10) (by decide) rfl rfl (fun _ => Nat.le_of_ble_eq_true rfl) (fun _ => rfl) (fun Γ ad O => v_M_readsItem O  hf)

-- ===== TippedBarrowModel.isCell(II)Z
theorem ca_X10_isCell : Ca yX10_isCell cX10_isCell 3 (some .boolean) wsX10_isCell rm_X10_isCell 2 := ⟨⟨_, rfl⟩, rfl, rfl, by decide +kernel, by decide +kernel, by decide +kernel⟩
theorem in_X10_isCell_X10 : ∀ w ∈ wsX100, w ∈ wsX10_isCell := by decide +kernel
theorem fl_X10_isCell_13 : Fl RX10 wsX10_isCell 13 10 9 true (.array .int) := ⟨_, _, _, tyX10, rfl, in_X10_isCell_X10, by decide, by decide +kernel, tyX10_ok, nmX10, rfl, tyX10_ok 9 (by decide)⟩
set_option maxHeartbeats 4000000 in
set_option maxRecDepth 100000 in
theorem v_M_isCell {Γ : Cx} {ad : Nat → Nat} {rr : Int32} {σr : Mm} (O : Ok LM Γ ad cX10_isCell 3 RX10 wsX10_isCell rm_X10_isCell (some .boolean) (some (.int rr)) σr) {σ : Mm} {v1 : Int32} {v2 : Int32}  (hf : f_M_isCell σ v1 v2 = some (rr, σr)) : X LM Γ ad σ 0 [(0, .ref (ad 0)), (1, .int v1), (2, .int v2)] [] := by
  unfold f_M_isCell at hf
  refine x_iload_n O 1 dX10_isCell_0 rfl rfl ?_
  refine x_iconst O (v := 0) dX10_isCell_1 (by decide) ?_
  refine x_aload_n O 0 dX10_isCell_2 rfl rfl ?_
  refine x_getF O (t := 2) fl_X10_isCell_13 rfl dX10_isCell_3 ?_
  refine x_iconst O (v := 0) dX10_isCell_6 (by decide) ?_
  refine x_iald O hf rfl dX10_isCell_7 (fun j1 hf => ?_)
  refine x_iconst O (v := 1) dX10_isCell_8 (by decide) ?_
  refine x_isub O dX10_isCell_9 ?_
  obtain ⟨r_1, σ1, hc, hf⟩ := bd_some hf
  refine x_callS O (k_M_in  hc) ca_X10_in gX10_isCell_X10_in rfl rfl rfl (Nat.le_of_ble_eq_true rfl) ⟨Nat.le_of_ble_eq_true rfl, Nat.le_of_ble_eq_true rfl⟩ dX10_isCell_10 ?_
  refine x_push O ?_
  refine x_if_eq O 36 hf dX10_isCell_13 (by decide) (fun hf => ?_) (fun hf => ?_)
  · refine x_iconst O (v := 0) dX10_isCell_36 (by decide) ?_
    have hk : (0, σ1) = (rr, σr) := Option.some.inj hf
    obtain ⟨rfl, rfl⟩ := Prod.mk.inj hk
    exact x_iret O rfl rfl ⟨_, rfl, rfl⟩ dX10_isCell_37
  · refine x_iload_n O 2 dX10_isCell_16 rfl rfl ?_
    refine x_iconst O (v := 0) dX10_isCell_17 (by decide) ?_
    refine x_aload_n O 0 dX10_isCell_18 rfl rfl ?_
    refine x_getF O (t := 2) fl_X10_isCell_13 rfl dX10_isCell_19 ?_
    refine x_iconst O (v := 1) dX10_isCell_22 (by decide) ?_
    refine x_iald O hf rfl dX10_isCell_23 (fun j2 hf => ?_)
    refine x_iconst O (v := 1) dX10_isCell_24 (by decide) ?_
    refine x_isub O dX10_isCell_25 ?_
    obtain ⟨r_2, σ2, hc, hf⟩ := bd_some hf
    refine x_callS O (k_M_in  hc) ca_X10_in gX10_isCell_X10_in rfl rfl rfl (Nat.le_of_ble_eq_true rfl) ⟨Nat.le_of_ble_eq_true rfl, Nat.le_of_ble_eq_true rfl⟩ dX10_isCell_26 ?_
    refine x_push O ?_
    refine x_if_eq O 36 hf dX10_isCell_29 (by decide) (fun hf => ?_) (fun hf => ?_)
    · refine x_iconst O (v := 0) dX10_isCell_36 (by decide) ?_
      have hk : (0, σ2) = (rr, σr) := Option.some.inj hf
      obtain ⟨rfl, rfl⟩ := Prod.mk.inj hk
      exact x_iret O rfl rfl ⟨_, rfl, rfl⟩ dX10_isCell_37
    · refine x_iconst O (v := 1) dX10_isCell_32 (by decide) ?_
      refine x_goto O 37 dX10_isCell_33 (by decide) ?_
      have hk : (1, σ2) = (rr, σr) := Option.some.inj hf
      obtain ⟨rfl, rfl⟩ := Prod.mk.inj hk
      exact x_iret O rfl rfl ⟨_, rfl, rfl⟩ dX10_isCell_37
theorem k_M_isCell {σ σr : Mm} {rr : Int32} {v1 : Int32} {v2 : Int32}  (hf : f_M_isCell σ v1 v2 = some (rr, σr)) : CT LM yX10_isCell wsX10_isCell rm_X10_isCell (fun ad => [.ref (ad 0), .int v1, .int v2]) σ (some (.int rr)) σr := CT_of2 (cc := cX10_isCell) (maxL := 3) (rt := (some .boolean)) (own := RX10) (by decide) rfl rfl (fun _ => Nat.le_of_ble_eq_true rfl) (fun _ => rfl) (fun Γ ad O => v_M_isCell O  hf)

-- ===== TippedBarrowModel.settles()V
theorem ca_X10_settles : Ca yX10_settles cX10_settles 2 none wsX10_settles rm_X10_settles 0 := ⟨⟨_, rfl⟩, rfl, rfl, by decide +kernel, by decide +kernel, by decide +kernel⟩
theorem in_X10_settles_X10 : ∀ w ∈ wsX100, w ∈ wsX10_settles := by decide +kernel
theorem fl_X10_settles_13 : Fl RX10 wsX10_settles 13 10 9 true (.array .int) := ⟨_, _, _, tyX10, rfl, in_X10_settles_X10, by decide, by decide +kernel, tyX10_ok, nmX10, rfl, tyX10_ok 9 (by decide)⟩
theorem fl_X10_settles_16 : Fl RX10 wsX10_settles 16 10 13 true (.array .int) := ⟨_, _, _, tyX10, rfl, in_X10_settles_X10, by decide, by decide +kernel, tyX10_ok, nmX10, rfl, tyX10_ok 13 (by decide)⟩
theorem fl_X10_settles_19 : Fl RX10 wsX10_settles 19 10 14 true (.array .int) := ⟨_, _, _, tyX10, rfl, in_X10_settles_X10, by decide, by decide +kernel, tyX10_ok, nmX10, rfl, tyX10_ok 14 (by decide)⟩
theorem fl_X10_settles_25 : Fl RX10 wsX10_settles 25 10 16 true (.array .boolean) := ⟨_, _, _, tyX10, rfl, in_X10_settles_X10, by decide, by decide +kernel, tyX10_ok, nmX10, rfl, tyX10_ok 16 (by decide)⟩
theorem fl_X10_settles_64 : Fl RX10 wsX10_settles 64 10 3 false .int := ⟨_, _, _, tyX10, rfl, in_X10_settles_X10, by decide, by decide +kernel, tyX10_ok, nmX10, rfl, tyX10_ok 3 (by decide)⟩
theorem fl_X10_settles_104 : Fl RX10 wsX10_settles 104 10 12 false .int := ⟨_, _, _, tyX10, rfl, in_X10_settles_X10, by decide, by decide +kernel, tyX10_ok, nmX10, rfl, tyX10_ok 12 (by decide)⟩
theorem fl_X10_settles_127 : Fl RX10 wsX10_settles 127 10 11 false .int := ⟨_, _, _, tyX10, rfl, in_X10_settles_X10, by decide, by decide +kernel, tyX10_ok, nmX10, rfl, tyX10_ok 11 (by decide)⟩
theorem fl_X10_settles_134 : Fl RX10 wsX10_settles 134 10 20 false .int := ⟨_, _, _, tyX10, rfl, in_X10_settles_X10, by decide, by decide +kernel, tyX10_ok, nmX10, rfl, tyX10_ok 20 (by decide)⟩
theorem fl_X10_settles_137 : Fl RX10 wsX10_settles 137 10 18 false .int := ⟨_, _, _, tyX10, rfl, in_X10_settles_X10, by decide, by decide +kernel, tyX10_ok, nmX10, rfl, tyX10_ok 18 (by decide)⟩
set_option maxHeartbeats 4000000 in
set_option maxRecDepth 100000 in
theorem v_M_settles_114 {Γ : Cx} {ad : Nat → Nat} {rr : Int32} {σr : Mm} (O : Ok LM Γ ad cX10_settles 2 RX10 wsX10_settles rm_X10_settles none none σr) {σ : Mm}   (hf : f_M_settles_114 σ = some (rr, σr)) : X LM Γ ad σ 114 [(0, .ref (ad 0))] [] := by
  unfold f_M_settles_114 at hf
  refine x_aload_n O 0 dX10_settles_114 rfl rfl ?_
  refine x_iconst O (v := 0) dX10_settles_115 (by decide) ?_
  refine x_putIN O hf rfl rfl fl_X10_settles_64 rfl dX10_settles_116 (fun σ1 hf => ?_)
  refine x_aload_n O 0 dX10_settles_119 rfl rfl ?_
  refine x_iconst O (v := 0) dX10_settles_120 (by decide) ?_
  refine x_putIN O hf rfl rfl fl_X10_settles_134 rfl dX10_settles_121 (fun σ2 hf => ?_)
  refine x_aload_n O 0 dX10_settles_124 rfl rfl ?_
  refine x_iconst O (v := 0) dX10_settles_125 (by decide) ?_
  refine x_putIN O hf rfl rfl fl_X10_settles_137 rfl dX10_settles_126 (fun σ3 hf => ?_)
  refine x_aload_n O 0 dX10_settles_129 rfl rfl ?_
  refine x_getF O (t := 6) fl_X10_settles_25 rfl dX10_settles_130 ?_
  refine x_iconst O (v := 0) dX10_settles_133 (by decide) ?_
  refine x_iconst O (v := 0) dX10_settles_134 (by decide) ?_
  refine x_zastN O hf (by decide) rfl dX10_settles_135 (fun σ4 hf => ?_)
  refine x_aload_n O 0 dX10_settles_136 rfl rfl ?_
  refine x_getF O (t := 6) fl_X10_settles_25 rfl dX10_settles_137 ?_
  refine x_iconst O (v := 1) dX10_settles_140 (by decide) ?_
  refine x_iconst O (v := 0) dX10_settles_141 (by decide) ?_
  refine x_zastN O hf (by decide) rfl dX10_settles_142 (fun σ5 hf => ?_)
  have hk : ((0 : Int32), σ5) = (rr, σr) := Option.some.inj hf
  obtain ⟨rfl, rfl⟩ := Prod.mk.inj hk
  exact x_vret O rfl rfl rfl dX10_settles_143
set_option maxHeartbeats 4000000 in
set_option maxRecDepth 100000 in
theorem v_M_settles_107 {Γ : Cx} {ad : Nat → Nat} {rr : Int32} {σr : Mm} (O : Ok LM Γ ad cX10_settles 2 RX10 wsX10_settles rm_X10_settles none none σr) {σ : Mm} {v1 : Int32} {s1 : Int32} {s2 : Int32}  {x : (Mm × Int32) ⊕ (Int32 × Mm)} (hf : f_M_settles_107 σ v1 s1 s2 = some x) (hk : (kx (fun s : Mm × Int32 => X LM Γ ad s.1 70 [(0, .ref (ad 0)), (1, .int s.2)] []) (fun q : Int32 × Mm => q = (rr, σr))) x) : X LM Γ ad σ 107 [(0, .ref (ad 0)), (1, .int v1)] [.int s2, .int s1, .ref (ad 4)] := by
  unfold f_M_settles_107 at hf
  refine x_iastN O hf rfl dX10_settles_107 (fun σ1 hf => ?_)
  refine x_iincN O hf dX10_settles_108 rfl rfl (by decide) (fun y1 hf => ?_)
  refine x_goto O 70 dX10_settles_111 (by decide) ?_
  obtain rfl := Option.some.inj hf
  have hk := kx_l hk
  exact x_jmp O hk rfl
set_option maxHeartbeats 4000000 in
set_option maxRecDepth 100000 in
theorem v_M_settles_70_b {Γ : Cx} {ad : Nat → Nat} {rr : Int32} {σr : Mm} (O : Ok LM Γ ad cX10_settles 2 RX10 wsX10_settles rm_X10_settles none none σr) {σ : Mm} {v1 : Int32}  {x : (Mm × Int32) ⊕ (Int32 × Mm)} (hf : f_M_settles_70_b σ v1 = some x) (hk : (kx (fun s : Mm × Int32 => X LM Γ ad s.1 70 [(0, .ref (ad 0)), (1, .int s.2)] []) (fun q : Int32 × Mm => q = (rr, σr))) x) : X LM Γ ad σ 70 [(0, .ref (ad 0)), (1, .int v1)] [] := by
  unfold f_M_settles_70_b at hf
  refine x_iload_n O 1 dX10_settles_70 rfl rfl ?_
  refine x_bipush O (v := 20) dX10_settles_71 (by decide) ?_
  refine x_icmp_ge O 114 hf dX10_settles_73 (by decide) (fun hf => ?_) (fun hf => ?_)
  · obtain ⟨x', hg1, hx⟩ := map_inr hf
    subst hx
    have hk := kx_r hk
    have hx : x' = (rr, σr) := hk
    subst hx
    have hf := hg1
    exact x_jmp O (v_M_settles_114 O (σ := σ)   hf) rfl
  · refine x_aload_n O 0 dX10_settles_76 rfl rfl ?_
    refine x_getF O (t := 4) fl_X10_settles_19 rfl dX10_settles_77 ?_
    refine x_bipush O (v := 7) dX10_settles_80 (by decide) ?_
    refine x_iload_n O 1 dX10_settles_82 rfl rfl ?_
    refine x_iadd O dX10_settles_83 ?_
    refine x_aload_n O 0 dX10_settles_84 rfl rfl ?_
    refine x_iload_n O 1 dX10_settles_85 rfl rfl ?_
    refine x_iconst O (v := 5) dX10_settles_86 (by decide) ?_
    refine x_iremK O (by decide) dX10_settles_87 ?_
    refine x_iload_n O 1 dX10_settles_88 rfl rfl ?_
    refine x_iconst O (v := 5) dX10_settles_89 (by decide) ?_
    refine x_idivK O (by decide) dX10_settles_90 ?_
    obtain ⟨r_1, σ1, hc, hf⟩ := bd_some hf
    refine x_callV O (k_M_isCell  hc) ca_X10_isCell gX10_settles_X10_isCell rfl ⟨_, _, _, _, rfl, rfl⟩ rfl rfl rfl (Nat.le_of_ble_eq_true rfl) ⟨Nat.le_of_ble_eq_true rfl, Nat.le_of_ble_eq_true rfl⟩ dX10_settles_91 ?_
    refine x_push O ?_
    refine x_if_eq O 106 hf dX10_settles_94 (by decide) (fun hf => ?_) (fun hf => ?_)
    · refine x_iconst O (v := 0) dX10_settles_106 (by decide) ?_
      exact x_jmp O (v_M_settles_107 O (σ := σ1) (v1 := v1) (s1 := (7 + v1)) (s2 := 0)  hf hk) rfl
    · refine x_aload_n O 0 dX10_settles_97 rfl rfl ?_
      refine x_getF O (t := 3) fl_X10_settles_16 rfl dX10_settles_98 ?_
      refine x_iload_n O 1 dX10_settles_101 rfl rfl ?_
      refine x_iald O hf rfl dX10_settles_102 (fun j1 hf => ?_)
      refine x_goto O 107 dX10_settles_103 (by decide) ?_
      exact x_jmp O (v_M_settles_107 O (σ := σ1) (v1 := v1) (s1 := (7 + v1)) (s2 := (gA σ1 3 j1))  hf hk) rfl
set_option maxHeartbeats 4000000 in
set_option maxRecDepth 100000 in
theorem v_M_settles_70 {Γ : Cx} {ad : Nat → Nat} {rr : Int32} {σr : Mm} (O : Ok LM Γ ad cX10_settles 2 RX10 wsX10_settles rm_X10_settles none none σr) {σ : Mm} {v1 : Int32}  (hf : f_M_settles_70 σ v1 = some (rr, σr)) : X LM Γ ad σ 70 [(0, .ref (ad 0)), (1, .int v1)] [] := lpX (P := (fun s : Mm × Int32 => X LM Γ ad s.1 70 [(0, .ref (ad 0)), (1, .int s.2)] [])) (K := (fun q : Int32 × Mm => q = (rr, σr))) (fun s x g1 g2 => v_M_settles_70_b O (σ := s.1)  (v1 := s.2)  g1 g2) (σ, v1) _ hf rfl
set_option maxHeartbeats 4000000 in
set_option maxRecDepth 100000 in
theorem v_M_settles_56 {Γ : Cx} {ad : Nat → Nat} {rr : Int32} {σr : Mm} (O : Ok LM Γ ad cX10_settles 2 RX10 wsX10_settles rm_X10_settles none none σr) {σ : Mm}   (hf : f_M_settles_56 σ = some (rr, σr)) : X LM Γ ad σ 56 [(0, .ref (ad 0))] [] := by
  unfold f_M_settles_56 at hf
  refine x_aload_n O 0 dX10_settles_56 rfl rfl ?_
  refine x_getF O (t := 4) fl_X10_settles_19 rfl dX10_settles_57 ?_
  refine x_iconst O (v := 0) dX10_settles_60 (by decide) ?_
  refine x_aload_n O 0 dX10_settles_61 rfl rfl ?_
  refine x_getF O (t := 2) fl_X10_settles_13 rfl dX10_settles_62 ?_
  refine x_iconst O (v := 2) dX10_settles_65 (by decide) ?_
  refine x_iald O hf rfl dX10_settles_66 (fun j1 hf => ?_)
  refine x_iastN O hf rfl dX10_settles_67 (fun σ1 hf => ?_)
  refine x_iconst O (v := 0) dX10_settles_68 (by decide) ?_
  refine x_istore_n O 1 dX10_settles_69 rfl (by decide) ?_
  exact x_jmp O (v_M_settles_70 O (σ := σ1) (v1 := 0)  hf) rfl
set_option maxHeartbeats 4000000 in
set_option maxRecDepth 100000 in
theorem v_M_settles_37_b {Γ : Cx} {ad : Nat → Nat} {rr : Int32} {σr : Mm} (O : Ok LM Γ ad cX10_settles 2 RX10 wsX10_settles rm_X10_settles none none σr) {σ : Mm} {v1 : Int32}  {x : (Mm × Int32) ⊕ (Int32 × Mm)} (hf : f_M_settles_37_b σ v1 = some x) (hk : (kx (fun s : Mm × Int32 => X LM Γ ad s.1 37 [(0, .ref (ad 0)), (1, .int s.2)] []) (fun q : Int32 × Mm => q = (rr, σr))) x) : X LM Γ ad σ 37 [(0, .ref (ad 0)), (1, .int v1)] [] := by
  unfold f_M_settles_37_b at hf
  refine x_iload_n O 1 dX10_settles_37 rfl rfl ?_
  refine x_bipush O (v := 27) dX10_settles_38 (by decide) ?_
  refine x_icmp_ge O 56 hf dX10_settles_40 (by decide) (fun hf => ?_) (fun hf => ?_)
  · obtain ⟨x', hg1, hx⟩ := map_inr hf
    subst hx
    have hk := kx_r hk
    have hx : x' = (rr, σr) := hk
    subst hx
    have hf := hg1
    exact x_jmp O (v_M_settles_56 O (σ := σ)   hf) rfl
  · refine x_aload_n O 0 dX10_settles_43 rfl rfl ?_
    refine x_getF O (t := 4) fl_X10_settles_19 rfl dX10_settles_44 ?_
    refine x_iload_n O 1 dX10_settles_47 rfl rfl ?_
    refine x_iconst O (v := 0) dX10_settles_48 (by decide) ?_
    refine x_iastN O hf rfl dX10_settles_49 (fun σ1 hf => ?_)
    refine x_iincN O hf dX10_settles_50 rfl rfl (by decide) (fun y1 hf => ?_)
    refine x_goto O 37 dX10_settles_53 (by decide) ?_
    obtain rfl := Option.some.inj hf
    have hk := kx_l hk
    exact x_jmp O hk rfl
set_option maxHeartbeats 4000000 in
set_option maxRecDepth 100000 in
theorem v_M_settles_37 {Γ : Cx} {ad : Nat → Nat} {rr : Int32} {σr : Mm} (O : Ok LM Γ ad cX10_settles 2 RX10 wsX10_settles rm_X10_settles none none σr) {σ : Mm} {v1 : Int32}  (hf : f_M_settles_37 σ v1 = some (rr, σr)) : X LM Γ ad σ 37 [(0, .ref (ad 0)), (1, .int v1)] [] := lpX (P := (fun s : Mm × Int32 => X LM Γ ad s.1 37 [(0, .ref (ad 0)), (1, .int s.2)] [])) (K := (fun q : Int32 × Mm => q = (rr, σr))) (fun s x g1 g2 => v_M_settles_37_b O (σ := s.1)  (v1 := s.2)  g1 g2) (σ, v1) _ hf rfl
set_option maxHeartbeats 4000000 in
set_option maxRecDepth 100000 in
theorem v_M_settles_27 {Γ : Cx} {ad : Nat → Nat} {rr : Int32} {σr : Mm} (O : Ok LM Γ ad cX10_settles 2 RX10 wsX10_settles rm_X10_settles none none σr) {σ : Mm}   (hf : f_M_settles_27 σ = some (rr, σr)) : X LM Γ ad σ 27 [(0, .ref (ad 0))] [] := by
  unfold f_M_settles_27 at hf
  refine x_aload_n O 0 dX10_settles_27 rfl rfl ?_
  refine x_aload_n O 0 dX10_settles_28 rfl rfl ?_
  refine x_getI O fl_X10_settles_104 rfl dX10_settles_29 ?_
  refine x_putIN O hf rfl rfl fl_X10_settles_127 rfl dX10_settles_32 (fun σ1 hf => ?_)
  refine x_iconst O (v := 0) dX10_settles_35 (by decide) ?_
  refine x_istore_n O 1 dX10_settles_36 rfl (by decide) ?_
  exact x_jmp O (v_M_settles_37 O (σ := σ1) (v1 := 0)  hf) rfl
set_option maxHeartbeats 4000000 in
set_option maxRecDepth 100000 in
theorem v_M_settles_2_b {Γ : Cx} {ad : Nat → Nat} {rr : Int32} {σr : Mm} (O : Ok LM Γ ad cX10_settles 2 RX10 wsX10_settles rm_X10_settles none none σr) {σ : Mm} {v1 : Int32}  {x : (Mm × Int32) ⊕ (Int32 × Mm)} (hf : f_M_settles_2_b σ v1 = some x) (hk : (kx (fun s : Mm × Int32 => X LM Γ ad s.1 2 [(0, .ref (ad 0)), (1, .int s.2)] []) (fun q : Int32 × Mm => q = (rr, σr))) x) : X LM Γ ad σ 2 [(0, .ref (ad 0)), (1, .int v1)] [] := by
  unfold f_M_settles_2_b at hf
  refine x_iload_n O 1 dX10_settles_2 rfl rfl ?_
  refine x_iconst O (v := 5) dX10_settles_3 (by decide) ?_
  refine x_icmp_ge O 27 hf dX10_settles_4 (by decide) (fun hf => ?_) (fun hf => ?_)
  · obtain ⟨x', hg1, hx⟩ := map_inr hf
    subst hx
    have hk := kx_r hk
    have hx : x' = (rr, σr) := hk
    subst hx
    have hf := hg1
    exact x_jmp O (v_M_settles_27 O (σ := σ)   hf) rfl
  · refine x_aload_n O 0 dX10_settles_7 rfl rfl ?_
    refine x_getF O (t := 2) fl_X10_settles_13 rfl dX10_settles_8 ?_
    refine x_iload_n O 1 dX10_settles_11 rfl rfl ?_
    refine x_aload_n O 0 dX10_settles_12 rfl rfl ?_
    refine x_getF O (t := 2) fl_X10_settles_13 rfl dX10_settles_13 ?_
    refine x_iconst O (v := 5) dX10_settles_16 (by decide) ?_
    refine x_iload_n O 1 dX10_settles_17 rfl rfl ?_
    refine x_iadd O dX10_settles_18 ?_
    refine x_iald O hf rfl dX10_settles_19 (fun j1 hf => ?_)
    refine x_iastN O hf rfl dX10_settles_20 (fun σ1 hf => ?_)
    refine x_iincN O hf dX10_settles_21 rfl rfl (by decide) (fun y1 hf => ?_)
    refine x_goto O 2 dX10_settles_24 (by decide) ?_
    obtain rfl := Option.some.inj hf
    have hk := kx_l hk
    exact x_jmp O hk rfl
set_option maxHeartbeats 4000000 in
set_option maxRecDepth 100000 in
theorem v_M_settles_2 {Γ : Cx} {ad : Nat → Nat} {rr : Int32} {σr : Mm} (O : Ok LM Γ ad cX10_settles 2 RX10 wsX10_settles rm_X10_settles none none σr) {σ : Mm} {v1 : Int32}  (hf : f_M_settles_2 σ v1 = some (rr, σr)) : X LM Γ ad σ 2 [(0, .ref (ad 0)), (1, .int v1)] [] := lpX (P := (fun s : Mm × Int32 => X LM Γ ad s.1 2 [(0, .ref (ad 0)), (1, .int s.2)] [])) (K := (fun q : Int32 × Mm => q = (rr, σr))) (fun s x g1 g2 => v_M_settles_2_b O (σ := s.1)  (v1 := s.2)  g1 g2) (σ, v1) _ hf rfl
set_option maxHeartbeats 4000000 in
set_option maxRecDepth 100000 in
theorem v_M_settles {Γ : Cx} {ad : Nat → Nat} {rr : Int32} {σr : Mm} (O : Ok LM Γ ad cX10_settles 2 RX10 wsX10_settles rm_X10_settles none none σr) {σ : Mm}   (hf : f_M_settles σ = some (rr, σr)) : X LM Γ ad σ 0 [(0, .ref (ad 0))] [] := by
  unfold f_M_settles at hf
  refine x_iconst O (v := 0) dX10_settles_0 (by decide) ?_
  refine x_istore_n O 1 dX10_settles_1 rfl (by decide) ?_
  exact x_jmp O (v_M_settles_2 O (σ := σ) (v1 := 0)  hf) rfl
theorem k_M_settles {σ σr : Mm} {rr : Int32}   (hf : f_M_settles σ = some (rr, σr)) : CT LM yX10_settles wsX10_settles rm_X10_settles (fun ad => [.ref (ad 0)]) σ none σr := CT_of2 (cc := cX10_settles) (maxL := 2) (rt := none) (own := RX10) (by decide) rfl rfl (fun _ => Nat.le_of_ble_eq_true rfl) (fun _ => rfl) (fun Γ ad O => v_M_settles O  hf)

-- ===== TippedBarrowModel.yard()I
theorem ca_X10_yard : Ca yX10_yard cX10_yard 3 (some .int) wsX10_yard rm_X10_yard 0 := ⟨⟨_, rfl⟩, rfl, rfl, by decide +kernel, by decide +kernel, by decide +kernel⟩
theorem in_X10_yard_X10 : ∀ w ∈ wsX100, w ∈ wsX10_yard := by decide +kernel
theorem fl_X10_yard_56 : Fl RX10 wsX10_yard 56 10 0 false .int := ⟨_, _, _, tyX10, rfl, in_X10_yard_X10, by decide, by decide +kernel, tyX10_ok, nmX10, rfl, tyX10_ok 0 (by decide)⟩
theorem fl_X10_yard_67 : Fl RX10 wsX10_yard 67 10 4 false .int := ⟨_, _, _, tyX10, rfl, in_X10_yard_X10, by decide, by decide +kernel, tyX10_ok, nmX10, rfl, tyX10_ok 4 (by decide)⟩
theorem fl_X10_yard_77 : Fl RX10 wsX10_yard 77 10 5 false .int := ⟨_, _, _, tyX10, rfl, in_X10_yard_X10, by decide, by decide +kernel, tyX10_ok, nmX10, rfl, tyX10_ok 5 (by decide)⟩
theorem fl_X10_yard_87 : Fl RX10 wsX10_yard 87 10 8 false .int := ⟨_, _, _, tyX10, rfl, in_X10_yard_X10, by decide, by decide +kernel, tyX10_ok, nmX10, rfl, tyX10_ok 8 (by decide)⟩
set_option maxHeartbeats 4000000 in
set_option maxRecDepth 100000 in
theorem v_M_yard_101 {Γ : Cx} {ad : Nat → Nat} {rr : Int32} {σr : Mm} (O : Ok LM Γ ad cX10_yard 3 RX10 wsX10_yard rm_X10_yard (some .int) (some (.int rr)) σr) {σ : Mm} {v1 : Int32}  (hf : f_M_yard_101 σ v1 = some (rr, σr)) : X LM Γ ad σ 101 [(0, .ref (ad 0)), (1, .int v1)] [] := by
  unfold f_M_yard_101 at hf
  refine x_aload_n O 0 dX10_yard_101 rfl rfl ?_
  obtain ⟨r_1, σ1, hc, hf⟩ := bd_some hf
  refine x_callV O (k_M_isWell  hc) ca_X10_isWell gX10_yard_X10_isWell rfl ⟨_, _, _, _, rfl, rfl⟩ rfl rfl rfl (Nat.le_of_ble_eq_true rfl) ⟨Nat.le_of_ble_eq_true rfl, Nat.le_of_ble_eq_true rfl⟩ dX10_yard_102 ?_
  refine x_push O ?_
  refine x_if_ne O 116 hf dX10_yard_105 (by decide) (fun hf => ?_) (fun hf => ?_)
  · refine x_aload_n O 0 dX10_yard_116 rfl rfl ?_
    obtain ⟨r_2, σ2, hc, hf⟩ := bd_some hf
    refine x_callV O (k_M_settles  hc) ca_X10_settles gX10_yard_X10_settles rfl ⟨_, _, _, _, rfl, rfl⟩ rfl rfl rfl (Nat.le_of_ble_eq_true rfl) ⟨Nat.le_of_ble_eq_true rfl, Nat.le_of_ble_eq_true rfl⟩ dX10_yard_117 ?_
    refine x_pushN O ?_
    refine x_iload_n O 1 dX10_yard_120 rfl rfl ?_
    have hk : (v1, σ2) = (rr, σr) := Option.some.inj hf
    obtain ⟨rfl, rfl⟩ := Prod.mk.inj hk
    exact x_iret O rfl rfl ⟨_, rfl, rfl⟩ dX10_yard_121
  · refine x_bipush O (v := -10) dX10_yard_108 (by decide) ?_
    refine x_aload_n O 0 dX10_yard_110 rfl rfl ?_
    refine x_getI O fl_X10_yard_87 rfl dX10_yard_111 ?_
    refine x_isub O dX10_yard_114 ?_
    have hk : (((-10) - (gI σ1 0 8)), σ1) = (rr, σr) := Option.some.inj hf
    obtain ⟨rfl, rfl⟩ := Prod.mk.inj hk
    exact x_iret O rfl rfl ⟨_, rfl, rfl⟩ dX10_yard_115
set_option maxHeartbeats 4000000 in
set_option maxRecDepth 100000 in
theorem v_M_yard_91 {Γ : Cx} {ad : Nat → Nat} {rr : Int32} {σr : Mm} (O : Ok LM Γ ad cX10_yard 3 RX10 wsX10_yard rm_X10_yard (some .int) (some (.int rr)) σr) {σ : Mm} {v1 : Int32} {s1 : Int32}  {x : (Mm × Int32) ⊕ (Int32 × Mm)} (hf : f_M_yard_91 σ v1 s1 = some x) (hk : (kx (fun s : Mm × Int32 => X LM Γ ad s.1 25 [(0, .ref (ad 0)), (1, .int s.2)] []) (fun q : Int32 × Mm => q = (rr, σr))) x) : X LM Γ ad σ 91 [(0, .ref (ad 0)), (1, .int v1)] [.int s1, .ref (ad 0)] := by
  unfold f_M_yard_91 at hf
  obtain ⟨r_1, σ1, hc, hf⟩ := bd_some hf
  refine x_callV O (k_M_takes  hc) ca_X10_takes gX10_yard_X10_takes rfl ⟨_, _, _, _, rfl, rfl⟩ rfl rfl rfl (Nat.le_of_ble_eq_true rfl) ⟨Nat.le_of_ble_eq_true rfl, Nat.le_of_ble_eq_true rfl⟩ dX10_yard_91 ?_
  refine x_push O ?_
  refine x_pop O dX10_yard_94 rfl ?_
  refine x_iincN O hf dX10_yard_95 rfl rfl (by decide) (fun y1 hf => ?_)
  refine x_goto O 25 dX10_yard_98 (by decide) ?_
  obtain rfl := Option.some.inj hf
  have hk := kx_l hk
  exact x_jmp O hk rfl
set_option maxHeartbeats 4000000 in
set_option maxRecDepth 100000 in
theorem v_M_yard_77 {Γ : Cx} {ad : Nat → Nat} {rr : Int32} {σr : Mm} (O : Ok LM Γ ad cX10_yard 3 RX10 wsX10_yard rm_X10_yard (some .int) (some (.int rr)) σr) {σ : Mm} {v1 : Int32}  {x : (Mm × Int32) ⊕ (Int32 × Mm)} (hf : f_M_yard_77 σ v1 = some x) (hk : (kx (fun s : Mm × Int32 => X LM Γ ad s.1 25 [(0, .ref (ad 0)), (1, .int s.2)] []) (fun q : Int32 × Mm => q = (rr, σr))) x) : X LM Γ ad σ 77 [(0, .ref (ad 0)), (1, .int v1)] [] := by
  unfold f_M_yard_77 at hf
  refine x_aload_n O 0 dX10_yard_77 rfl rfl ?_
  refine x_aload_n O 0 dX10_yard_78 rfl rfl ?_
  refine x_getI O fl_X10_yard_77 rfl dX10_yard_79 ?_
  refine x_iconst O (v := 3) dX10_yard_82 (by decide) ?_
  refine x_icmp_ne O 90 hf dX10_yard_83 (by decide) (fun hf => ?_) (fun hf => ?_)
  · refine x_iconst O (v := 0) dX10_yard_90 (by decide) ?_
    exact x_jmp O (v_M_yard_91 O (σ := σ) (v1 := v1) (s1 := 0)  hf hk) rfl
  · refine x_iconst O (v := 1) dX10_yard_86 (by decide) ?_
    refine x_goto O 91 dX10_yard_87 (by decide) ?_
    exact x_jmp O (v_M_yard_91 O (σ := σ) (v1 := v1) (s1 := 1)  hf hk) rfl
set_option maxHeartbeats 4000000 in
set_option maxRecDepth 100000 in
theorem v_M_yard_61 {Γ : Cx} {ad : Nat → Nat} {rr : Int32} {σr : Mm} (O : Ok LM Γ ad cX10_yard 3 RX10 wsX10_yard rm_X10_yard (some .int) (some (.int rr)) σr) {σ : Mm} {v1 : Int32} {s1 : Int32}  {x : (Mm × Int32) ⊕ (Int32 × Mm)} (hf : f_M_yard_61 σ v1 s1 = some x) (hk : (kx (fun s : Mm × Int32 => X LM Γ ad s.1 25 [(0, .ref (ad 0)), (1, .int s.2)] []) (fun q : Int32 × Mm => q = (rr, σr))) x) : X LM Γ ad σ 61 [(0, .ref (ad 0)), (1, .int v1)] [.int s1, .ref (ad 0)] := by
  unfold f_M_yard_61 at hf
  obtain ⟨r_1, σ1, hc, hf⟩ := bd_some hf
  refine x_callV O (k_M_takes  hc) ca_X10_takes gX10_yard_X10_takes rfl ⟨_, _, _, _, rfl, rfl⟩ rfl rfl rfl (Nat.le_of_ble_eq_true rfl) ⟨Nat.le_of_ble_eq_true rfl, Nat.le_of_ble_eq_true rfl⟩ dX10_yard_61 ?_
  refine x_push O ?_
  refine x_istore_n O 2 dX10_yard_64 rfl (by decide) ?_
  refine x_aload_n O 0 dX10_yard_65 rfl rfl ?_
  obtain ⟨r_2, σ2, hc, hf⟩ := bd_some hf
  refine x_callV O (k_M_isWell  hc) ca_X10_isWell gX10_yard_X10_isWell rfl ⟨_, _, _, _, rfl, rfl⟩ rfl rfl rfl (Nat.le_of_ble_eq_true rfl) ⟨Nat.le_of_ble_eq_true rfl, Nat.le_of_ble_eq_true rfl⟩ dX10_yard_66 ?_
  refine x_push O ?_
  refine x_if_eq O 77 hf dX10_yard_69 (by decide) (fun hf => ?_) (fun hf => ?_)
  · exact x_jmp O (v_M_yard_77 O (σ := σ2) (v1 := v1)  hf hk) rfl
  · refine x_aload_n O 0 dX10_yard_72 rfl rfl ?_
    refine x_iload_n O 2 dX10_yard_73 rfl rfl ?_
    obtain ⟨r_3, σ3, hc, hf⟩ := bd_some hf
    refine x_callV O (k_M_readsItem  hc) ca_X10_readsItem gX10_yard_X10_readsItem rfl ⟨_, _, _, _, rfl, rfl⟩ rfl rfl rfl (Nat.le_of_ble_eq_true rfl) ⟨Nat.le_of_ble_eq_true rfl, Nat.le_of_ble_eq_true rfl⟩ dX10_yard_74 ?_
    refine x_pushN O ?_
    exact x_jmp O (v_M_yard_77 O (σ := σ3) (v1 := v1)  hf hk) rfl
set_option maxHeartbeats 4000000 in
set_option maxRecDepth 100000 in
theorem v_M_yard_60 {Γ : Cx} {ad : Nat → Nat} {rr : Int32} {σr : Mm} (O : Ok LM Γ ad cX10_yard 3 RX10 wsX10_yard rm_X10_yard (some .int) (some (.int rr)) σr) {σ : Mm} {v1 : Int32}  {x : (Mm × Int32) ⊕ (Int32 × Mm)} (hf : f_M_yard_60 σ v1 = some x) (hk : (kx (fun s : Mm × Int32 => X LM Γ ad s.1 25 [(0, .ref (ad 0)), (1, .int s.2)] []) (fun q : Int32 × Mm => q = (rr, σr))) x) : X LM Γ ad σ 60 [(0, .ref (ad 0)), (1, .int v1)] [.ref (ad 0)] := by
  unfold f_M_yard_60 at hf
  refine x_iconst O (v := 0) dX10_yard_60 (by decide) ?_
  exact x_jmp O (v_M_yard_61 O (σ := σ) (v1 := v1) (s1 := 0)  hf hk) rfl
set_option maxHeartbeats 4000000 in
set_option maxRecDepth 100000 in
theorem v_M_yard_25_b {Γ : Cx} {ad : Nat → Nat} {rr : Int32} {σr : Mm} (O : Ok LM Γ ad cX10_yard 3 RX10 wsX10_yard rm_X10_yard (some .int) (some (.int rr)) σr) {σ : Mm} {v1 : Int32}  {x : (Mm × Int32) ⊕ (Int32 × Mm)} (hf : f_M_yard_25_b σ v1 = some x) (hk : (kx (fun s : Mm × Int32 => X LM Γ ad s.1 25 [(0, .ref (ad 0)), (1, .int s.2)] []) (fun q : Int32 × Mm => q = (rr, σr))) x) : X LM Γ ad σ 25 [(0, .ref (ad 0)), (1, .int v1)] [] := by
  unfold f_M_yard_25_b at hf
  refine x_aload_n O 0 dX10_yard_25 rfl rfl ?_
  obtain ⟨r_1, σ1, hc, hf⟩ := bd_some hf
  refine x_callV O (k_M_isWell  hc) ca_X10_isWell gX10_yard_X10_isWell rfl ⟨_, _, _, _, rfl, rfl⟩ rfl rfl rfl (Nat.le_of_ble_eq_true rfl) ⟨Nat.le_of_ble_eq_true rfl, Nat.le_of_ble_eq_true rfl⟩ dX10_yard_26 ?_
  refine x_push O ?_
  refine x_if_eq O 101 hf dX10_yard_29 (by decide) (fun hf => ?_) (fun hf => ?_)
  · obtain ⟨x', hg1, hx⟩ := map_inr hf
    subst hx
    have hk := kx_r hk
    have hx : x' = (rr, σr) := hk
    subst hx
    have hf := hg1
    exact x_jmp O (v_M_yard_101 O (σ := σ1) (v1 := v1)  hf) rfl
  · refine x_aload_n O 0 dX10_yard_32 rfl rfl ?_
    refine x_getI O fl_X10_yard_77 rfl dX10_yard_33 ?_
    refine x_if_eq O 101 hf dX10_yard_36 (by decide) (fun hf => ?_) (fun hf => ?_)
    · obtain ⟨x', hg2, hx⟩ := map_inr hf
      subst hx
      have hk := kx_r hk
      have hx : x' = (rr, σr) := hk
      subst hx
      have hf := hg2
      exact x_jmp O (v_M_yard_101 O (σ := σ1) (v1 := v1)  hf) rfl
    · refine x_aload_n O 0 dX10_yard_39 rfl rfl ?_
      refine x_aload_n O 0 dX10_yard_40 rfl rfl ?_
      refine x_getI O fl_X10_yard_77 rfl dX10_yard_41 ?_
      refine x_iconst O (v := 1) dX10_yard_44 (by decide) ?_
      refine x_icmp_ne O 60 hf dX10_yard_45 (by decide) (fun hf => ?_) (fun hf => ?_)
      · exact x_jmp O (v_M_yard_60 O (σ := σ1) (v1 := v1)  hf hk) rfl
      · refine x_aload_n O 0 dX10_yard_48 rfl rfl ?_
        refine x_iload_n O 1 dX10_yard_49 rfl rfl ?_
        obtain ⟨r_2, σ2, hc, hf⟩ := bd_some hf
        refine x_callV O (k_M_mayBegin  hc) ca_X10_mayBegin gX10_yard_X10_mayBegin rfl ⟨_, _, _, _, rfl, rfl⟩ rfl rfl rfl (Nat.le_of_ble_eq_true rfl) ⟨Nat.le_of_ble_eq_true rfl, Nat.le_of_ble_eq_true rfl⟩ dX10_yard_50 ?_
        refine x_push O ?_
        refine x_if_eq O 60 hf dX10_yard_53 (by decide) (fun hf => ?_) (fun hf => ?_)
        · exact x_jmp O (v_M_yard_60 O (σ := σ2) (v1 := v1)  hf hk) rfl
        · refine x_iconst O (v := 1) dX10_yard_56 (by decide) ?_
          refine x_goto O 61 dX10_yard_57 (by decide) ?_
          exact x_jmp O (v_M_yard_61 O (σ := σ2) (v1 := v1) (s1 := 1)  hf hk) rfl
set_option maxHeartbeats 4000000 in
set_option maxRecDepth 100000 in
theorem v_M_yard_25 {Γ : Cx} {ad : Nat → Nat} {rr : Int32} {σr : Mm} (O : Ok LM Γ ad cX10_yard 3 RX10 wsX10_yard rm_X10_yard (some .int) (some (.int rr)) σr) {σ : Mm} {v1 : Int32}  (hf : f_M_yard_25 σ v1 = some (rr, σr)) : X LM Γ ad σ 25 [(0, .ref (ad 0)), (1, .int v1)] [] := lpX (P := (fun s : Mm × Int32 => X LM Γ ad s.1 25 [(0, .ref (ad 0)), (1, .int s.2)] [])) (K := (fun q : Int32 × Mm => q = (rr, σr))) (fun s x g1 g2 => v_M_yard_25_b O (σ := s.1)  (v1 := s.2)  g1 g2) (σ, v1) _ hf rfl
set_option maxHeartbeats 4000000 in
set_option maxRecDepth 100000 in
theorem v_M_yard {Γ : Cx} {ad : Nat → Nat} {rr : Int32} {σr : Mm} (O : Ok LM Γ ad cX10_yard 3 RX10 wsX10_yard rm_X10_yard (some .int) (some (.int rr)) σr) {σ : Mm}   (hf : f_M_yard σ = some (rr, σr)) : X LM Γ ad σ 0 [(0, .ref (ad 0))] [] := by
  unfold f_M_yard at hf
  refine x_aload_n O 0 dX10_yard_0 rfl rfl ?_
  refine x_iconst O (v := 0) dX10_yard_1 (by decide) ?_
  refine x_putIN O hf rfl rfl fl_X10_yard_56 rfl dX10_yard_2 (fun σ1 hf => ?_)
  refine x_aload_n O 0 dX10_yard_5 rfl rfl ?_
  refine x_iconst O (v := -1) dX10_yard_6 (by decide) ?_
  refine x_putIN O hf rfl rfl fl_X10_yard_87 rfl dX10_yard_7 (fun σ2 hf => ?_)
  refine x_aload_n O 0 dX10_yard_10 rfl rfl ?_
  refine x_iconst O (v := 0) dX10_yard_11 (by decide) ?_
  refine x_putIN O hf rfl rfl fl_X10_yard_67 rfl dX10_yard_12 (fun σ3 hf => ?_)
  refine x_aload_n O 0 dX10_yard_15 rfl rfl ?_
  obtain ⟨r_1, σ4, hc, hf⟩ := bd_some hf
  refine x_callV O (k_M_begins  hc) ca_X10_begins gX10_yard_X10_begins rfl ⟨_, _, _, _, rfl, rfl⟩ rfl rfl rfl (Nat.le_of_ble_eq_true rfl) ⟨Nat.le_of_ble_eq_true rfl, Nat.le_of_ble_eq_true rfl⟩ dX10_yard_16 ?_
  refine x_pushN O ?_
  refine x_iconst O (v := 0) dX10_yard_19 (by decide) ?_
  refine x_istore_n O 1 dX10_yard_20 rfl (by decide) ?_
  refine x_aload_n O 0 dX10_yard_21 rfl rfl ?_
  obtain ⟨r_2, σ5, hc, hf⟩ := bd_some hf
  refine x_callV O (k_M_advances  hc) ca_X10_advances gX10_yard_X10_advances rfl ⟨_, _, _, _, rfl, rfl⟩ rfl rfl rfl (Nat.le_of_ble_eq_true rfl) ⟨Nat.le_of_ble_eq_true rfl, Nat.le_of_ble_eq_true rfl⟩ dX10_yard_22 ?_
  refine x_pushN O ?_
  exact x_jmp O (v_M_yard_25 O (σ := σ5) (v1 := 0)  hf) rfl
theorem k_M_yard {σ σr : Mm} {rr : Int32}   (hf : f_M_yard σ = some (rr, σr)) : CT LM yX10_yard wsX10_yard rm_X10_yard (fun ad => [.ref (ad 0)]) σ (some (.int rr)) σr := CT_of2 (cc := cX10_yard) (maxL := 3) (rt := (some .int)) (own := RX10) (by decide) rfl rfl (fun _ => Nat.le_of_ble_eq_true rfl) (fun _ => rfl) (fun Γ ad O => v_M_yard O  hf)

-- ===== TippedBarrowModel.isGround(II)Z
theorem ca_X10_isGround : Ca yX10_isGround cX10_isGround 3 (some .boolean) wsX10_isGround rm_X10_isGround 2 := ⟨⟨_, rfl⟩, rfl, rfl, by decide +kernel, by decide +kernel, by decide +kernel⟩
theorem in_X10_isGround_X10 : ∀ w ∈ wsX100, w ∈ wsX10_isGround := by decide +kernel
theorem fl_X10_isGround_127 : Fl RX10 wsX10_isGround 127 10 11 false .int := ⟨_, _, _, tyX10, rfl, in_X10_isGround_X10, by decide, by decide +kernel, tyX10_ok, nmX10, rfl, tyX10_ok 11 (by decide)⟩
set_option maxHeartbeats 4000000 in
set_option maxRecDepth 100000 in
theorem v_M_isGround {Γ : Cx} {ad : Nat → Nat} {rr : Int32} {σr : Mm} (O : Ok LM Γ ad cX10_isGround 3 RX10 wsX10_isGround rm_X10_isGround (some .boolean) (some (.int rr)) σr) {σ : Mm} {v1 : Int32} {v2 : Int32}  (hf : f_M_isGround σ v1 v2 = some (rr, σr)) : X LM Γ ad σ 0 [(0, .ref (ad 0)), (1, .int v1), (2, .int v2)] [] := by
  unfold f_M_isGround at hf
  refine x_aload_n O 0 dX10_isGround_0 rfl rfl ?_
  refine x_iload_n O 1 dX10_isGround_1 rfl rfl ?_
  refine x_iload_n O 2 dX10_isGround_2 rfl rfl ?_
  obtain ⟨r_1, σ1, hc, hf⟩ := bd_some hf
  refine x_callV O (k_M_isCell  hc) ca_X10_isCell gX10_isGround_X10_isCell rfl ⟨_, _, _, _, rfl, rfl⟩ rfl rfl rfl (Nat.le_of_ble_eq_true rfl) ⟨Nat.le_of_ble_eq_true rfl, Nat.le_of_ble_eq_true rfl⟩ dX10_isGround_3 ?_
  refine x_push O ?_
  refine x_if_eq O 28 hf dX10_isGround_6 (by decide) (fun hf => ?_) (fun hf => ?_)
  · refine x_iconst O (v := 0) dX10_isGround_28 (by decide) ?_
    have hk : (0, σ1) = (rr, σr) := Option.some.inj hf
    obtain ⟨rfl, rfl⟩ := Prod.mk.inj hk
    exact x_iret O rfl rfl ⟨_, rfl, rfl⟩ dX10_isGround_29
  · refine x_aload_n O 0 dX10_isGround_9 rfl rfl ?_
    refine x_getI O fl_X10_isGround_127 rfl dX10_isGround_10 ?_
    refine x_iconst O (v := 5) dX10_isGround_13 (by decide) ?_
    refine x_iload_n O 2 dX10_isGround_14 rfl rfl ?_
    refine x_imul O dX10_isGround_15 ?_
    refine x_iload_n O 1 dX10_isGround_16 rfl rfl ?_
    refine x_iadd O dX10_isGround_17 ?_
    refine x_ishr O dX10_isGround_18 ?_
    refine x_iconst O (v := 1) dX10_isGround_19 (by decide) ?_
    refine x_iand O dX10_isGround_20 ?_
    refine x_if_ne O 28 hf dX10_isGround_21 (by decide) (fun hf => ?_) (fun hf => ?_)
    · refine x_iconst O (v := 0) dX10_isGround_28 (by decide) ?_
      have hk : (0, σ1) = (rr, σr) := Option.some.inj hf
      obtain ⟨rfl, rfl⟩ := Prod.mk.inj hk
      exact x_iret O rfl rfl ⟨_, rfl, rfl⟩ dX10_isGround_29
    · refine x_iconst O (v := 1) dX10_isGround_24 (by decide) ?_
      refine x_goto O 29 dX10_isGround_25 (by decide) ?_
      have hk : (1, σ1) = (rr, σr) := Option.some.inj hf
      obtain ⟨rfl, rfl⟩ := Prod.mk.inj hk
      exact x_iret O rfl rfl ⟨_, rfl, rfl⟩ dX10_isGround_29
theorem k_M_isGround {σ σr : Mm} {rr : Int32} {v1 : Int32} {v2 : Int32}  (hf : f_M_isGround σ v1 v2 = some (rr, σr)) : CT LM yX10_isGround wsX10_isGround rm_X10_isGround (fun ad => [.ref (ad 0), .int v1, .int v2]) σ (some (.int rr)) σr := CT_of2 (cc := cX10_isGround) (maxL := 3) (rt := (some .boolean)) (own := RX10) (by decide) rfl rfl (fun _ => Nat.le_of_ble_eq_true rfl) (fun _ => rfl) (fun Γ ad O => v_M_isGround O  hf)

-- ===== TippedBarrowModel.hasStart()Z
theorem ca_X10_hasStart : Ca yX10_hasStart cX10_hasStart 1 (some .boolean) wsX10_hasStart rm_X10_hasStart 0 := ⟨⟨_, rfl⟩, rfl, rfl, by decide +kernel, by decide +kernel, by decide +kernel⟩
theorem in_X10_hasStart_X10 : ∀ w ∈ wsX100, w ∈ wsX10_hasStart := by decide +kernel
theorem fl_X10_hasStart_13 : Fl RX10 wsX10_hasStart 13 10 9 true (.array .int) := ⟨_, _, _, tyX10, rfl, in_X10_hasStart_X10, by decide, by decide +kernel, tyX10_ok, nmX10, rfl, tyX10_ok 9 (by decide)⟩
set_option maxHeartbeats 4000000 in
set_option maxRecDepth 100000 in
theorem v_M_hasStart {Γ : Cx} {ad : Nat → Nat} {rr : Int32} {σr : Mm} (O : Ok LM Γ ad cX10_hasStart 1 RX10 wsX10_hasStart rm_X10_hasStart (some .boolean) (some (.int rr)) σr) {σ : Mm}   (hf : f_M_hasStart σ = some (rr, σr)) : X LM Γ ad σ 0 [(0, .ref (ad 0))] [] := by
  unfold f_M_hasStart at hf
  refine x_aload_n O 0 dX10_hasStart_0 rfl rfl ?_
  refine x_getF O (t := 2) fl_X10_hasStart_13 rfl dX10_hasStart_1 ?_
  refine x_iconst O (v := 2) dX10_hasStart_4 (by decide) ?_
  refine x_iald O hf rfl dX10_hasStart_5 (fun j1 hf => ?_)
  refine x_bipush O (v := -9) dX10_hasStart_6 (by decide) ?_
  refine x_icmp_eq O 15 hf dX10_hasStart_8 (by decide) (fun hf => ?_) (fun hf => ?_)
  · refine x_iconst O (v := 0) dX10_hasStart_15 (by decide) ?_
    have hk : (0, σ) = (rr, σr) := Option.some.inj hf
    obtain ⟨rfl, rfl⟩ := Prod.mk.inj hk
    exact x_iret O rfl rfl ⟨_, rfl, rfl⟩ dX10_hasStart_16
  · refine x_iconst O (v := 1) dX10_hasStart_11 (by decide) ?_
    refine x_goto O 16 dX10_hasStart_12 (by decide) ?_
    have hk : (1, σ) = (rr, σr) := Option.some.inj hf
    obtain ⟨rfl, rfl⟩ := Prod.mk.inj hk
    exact x_iret O rfl rfl ⟨_, rfl, rfl⟩ dX10_hasStart_16
theorem k_M_hasStart {σ σr : Mm} {rr : Int32}   (hf : f_M_hasStart σ = some (rr, σr)) : CT LM yX10_hasStart wsX10_hasStart rm_X10_hasStart (fun ad => [.ref (ad 0)]) σ (some (.int rr)) σr := CT_of2 (cc := cX10_hasStart) (maxL := 1) (rt := (some .boolean)) (own := RX10) (by decide) rfl rfl (fun _ => Nat.le_of_ble_eq_true rfl) (fun _ => rfl) (fun Γ ad O => v_M_hasStart O  hf)

-- ===== TippedBarrowModel.tilt(II)I
theorem ca_X10_tilt : Ca yX10_tilt cX10_tilt 3 (some .int) wsX10_tilt rm_X10_tilt 2 := ⟨⟨_, rfl⟩, rfl, rfl, by decide +kernel, by decide +kernel, by decide +kernel⟩
theorem in_X10_tilt_X10 : ∀ w ∈ wsX100, w ∈ wsX10_tilt := by decide +kernel
theorem fl_X10_tilt_19 : Fl RX10 wsX10_tilt 19 10 14 true (.array .int) := ⟨_, _, _, tyX10, rfl, in_X10_tilt_X10, by decide, by decide +kernel, tyX10_ok, nmX10, rfl, tyX10_ok 14 (by decide)⟩
theorem fl_X10_tilt_56 : Fl RX10 wsX10_tilt 56 10 0 false .int := ⟨_, _, _, tyX10, rfl, in_X10_tilt_X10, by decide, by decide +kernel, tyX10_ok, nmX10, rfl, tyX10_ok 0 (by decide)⟩
theorem mw_X10_tilt_0 : Cond.constant RX10 143 (-1000000) ∈ wsX10_tilt := by decide +kernel
set_option maxHeartbeats 4000000 in
set_option maxRecDepth 100000 in
theorem v_M_tilt {Γ : Cx} {ad : Nat → Nat} {rr : Int32} {σr : Mm} (O : Ok LM Γ ad cX10_tilt 3 RX10 wsX10_tilt rm_X10_tilt (some .int) (some (.int rr)) σr) {σ : Mm} {v1 : Int32} {v2 : Int32}  (hf : f_M_tilt σ v1 v2 = some (rr, σr)) : X LM Γ ad σ 0 [(0, .ref (ad 0)), (1, .int v1), (2, .int v2)] [] := by
  unfold f_M_tilt at hf
  refine x_aload_n O 0 dX10_tilt_0 rfl rfl ?_
  refine x_iconst O (v := 0) dX10_tilt_1 (by decide) ?_
  refine x_putIN O hf rfl rfl fl_X10_tilt_56 rfl dX10_tilt_2 (fun σ1 hf => ?_)
  refine x_aload_n O 0 dX10_tilt_5 rfl rfl ?_
  refine x_iload_n O 1 dX10_tilt_6 rfl rfl ?_
  refine x_iload_n O 2 dX10_tilt_7 rfl rfl ?_
  obtain ⟨r_1, σ2, hc, hf⟩ := bd_some hf
  refine x_callV O (k_M_isGround  hc) ca_X10_isGround gX10_tilt_X10_isGround rfl ⟨_, _, _, _, rfl, rfl⟩ rfl rfl rfl (Nat.le_of_ble_eq_true rfl) ⟨Nat.le_of_ble_eq_true rfl, Nat.le_of_ble_eq_true rfl⟩ dX10_tilt_8 ?_
  refine x_push O ?_
  refine x_if_eq O 30 hf dX10_tilt_11 (by decide) (fun hf => ?_) (fun hf => ?_)
  · refine x_ldc O (v := -1000000) mw_X10_tilt_0 dX10_tilt_30 ?_
    have hk : ((-1000000), σ2) = (rr, σr) := Option.some.inj hf
    obtain ⟨rfl, rfl⟩ := Prod.mk.inj hk
    exact x_iret O rfl rfl ⟨_, rfl, rfl⟩ dX10_tilt_32
  · refine x_aload_n O 0 dX10_tilt_14 rfl rfl ?_
    refine x_getF O (t := 4) fl_X10_tilt_19 rfl dX10_tilt_15 ?_
    refine x_bipush O (v := 7) dX10_tilt_18 (by decide) ?_
    refine x_iconst O (v := 5) dX10_tilt_20 (by decide) ?_
    refine x_iload_n O 2 dX10_tilt_21 rfl rfl ?_
    refine x_imul O dX10_tilt_22 ?_
    refine x_iadd O dX10_tilt_23 ?_
    refine x_iload_n O 1 dX10_tilt_24 rfl rfl ?_
    refine x_iadd O dX10_tilt_25 ?_
    refine x_iald O hf rfl dX10_tilt_26 (fun j1 hf => ?_)
    refine x_goto O 32 dX10_tilt_27 (by decide) ?_
    have hk : ((gA σ2 4 j1), σ2) = (rr, σr) := Option.some.inj hf
    obtain ⟨rfl, rfl⟩ := Prod.mk.inj hk
    exact x_iret O rfl rfl ⟨_, rfl, rfl⟩ dX10_tilt_32
theorem k_M_tilt {σ σr : Mm} {rr : Int32} {v1 : Int32} {v2 : Int32}  (hf : f_M_tilt σ v1 v2 = some (rr, σr)) : CT LM yX10_tilt wsX10_tilt rm_X10_tilt (fun ad => [.ref (ad 0), .int v1, .int v2]) σ (some (.int rr)) σr := CT_of2 (cc := cX10_tilt) (maxL := 3) (rt := (some .int)) (own := RX10) (by decide) rfl rfl (fun _ => Nat.le_of_ble_eq_true rfl) (fun _ => rfl) (fun Γ ad O => v_M_tilt O  hf)

-- ===== TippedBarrowModel.now(I)I
theorem ca_X10_now : Ca yX10_now cX10_now 2 (some .int) wsX10_now rm_X10_now 1 := ⟨⟨_, rfl⟩, rfl, rfl, by decide +kernel, by decide +kernel, by decide +kernel⟩
theorem in_X10_now_X10 : ∀ w ∈ wsX100, w ∈ wsX10_now := by decide +kernel
theorem fl_X10_now_19 : Fl RX10 wsX10_now 19 10 14 true (.array .int) := ⟨_, _, _, tyX10, rfl, in_X10_now_X10, by decide, by decide +kernel, tyX10_ok, nmX10, rfl, tyX10_ok 14 (by decide)⟩
theorem fl_X10_now_56 : Fl RX10 wsX10_now 56 10 0 false .int := ⟨_, _, _, tyX10, rfl, in_X10_now_X10, by decide, by decide +kernel, tyX10_ok, nmX10, rfl, tyX10_ok 0 (by decide)⟩
theorem fl_X10_now_137 : Fl RX10 wsX10_now 137 10 18 false .int := ⟨_, _, _, tyX10, rfl, in_X10_now_X10, by decide, by decide +kernel, tyX10_ok, nmX10, rfl, tyX10_ok 18 (by decide)⟩
theorem mw_X10_now_0 : Cond.constant RX10 143 (-1000000) ∈ wsX10_now := by decide +kernel
set_option maxHeartbeats 4000000 in
set_option maxRecDepth 100000 in
theorem v_M_now {Γ : Cx} {ad : Nat → Nat} {rr : Int32} {σr : Mm} (O : Ok LM Γ ad cX10_now 2 RX10 wsX10_now rm_X10_now (some .int) (some (.int rr)) σr) {σ : Mm} {v1 : Int32}  (hf : f_M_now σ v1 = some (rr, σr)) : X LM Γ ad σ 0 [(0, .ref (ad 0)), (1, .int v1)] [] := by
  unfold f_M_now at hf
  refine x_aload_n O 0 dX10_now_0 rfl rfl ?_
  refine x_iconst O (v := 0) dX10_now_1 (by decide) ?_
  refine x_putIN O hf rfl rfl fl_X10_now_56 rfl dX10_now_2 (fun σ1 hf => ?_)
  refine x_iload_n O 1 dX10_now_5 rfl rfl ?_
  refine x_iconst O (v := 0) dX10_now_6 (by decide) ?_
  refine x_bipush O (v := 6) dX10_now_7 (by decide) ?_
  obtain ⟨r_1, σ2, hc, hf⟩ := bd_some hf
  refine x_callS O (k_M_in  hc) ca_X10_in gX10_now_X10_in rfl rfl rfl (Nat.le_of_ble_eq_true rfl) ⟨Nat.le_of_ble_eq_true rfl, Nat.le_of_ble_eq_true rfl⟩ dX10_now_9 ?_
  refine x_push O ?_
  refine x_if_eq O 24 hf dX10_now_12 (by decide) (fun hf => ?_) (fun hf => ?_)
  · refine x_iload_n O 1 dX10_now_24 rfl rfl ?_
    refine x_bipush O (v := 7) dX10_now_25 (by decide) ?_
    refine x_icmp_ne O 37 hf dX10_now_27 (by decide) (fun hf => ?_) (fun hf => ?_)
    · refine x_ldc O (v := -1000000) mw_X10_now_0 dX10_now_37 ?_
      have hk : ((-1000000), σ2) = (rr, σr) := Option.some.inj hf
      obtain ⟨rfl, rfl⟩ := Prod.mk.inj hk
      exact x_iret O rfl rfl ⟨_, rfl, rfl⟩ dX10_now_39
    · refine x_aload_n O 0 dX10_now_30 rfl rfl ?_
      refine x_getI O fl_X10_now_137 rfl dX10_now_31 ?_
      refine x_goto O 39 dX10_now_34 (by decide) ?_
      have hk : ((gI σ2 0 18), σ2) = (rr, σr) := Option.some.inj hf
      obtain ⟨rfl, rfl⟩ := Prod.mk.inj hk
      exact x_iret O rfl rfl ⟨_, rfl, rfl⟩ dX10_now_39
  · refine x_aload_n O 0 dX10_now_15 rfl rfl ?_
    refine x_getF O (t := 4) fl_X10_now_19 rfl dX10_now_16 ?_
    refine x_iload_n O 1 dX10_now_19 rfl rfl ?_
    refine x_iald O hf rfl dX10_now_20 (fun j1 hf => ?_)
    refine x_goto O 39 dX10_now_21 (by decide) ?_
    have hk : ((gA σ2 4 j1), σ2) = (rr, σr) := Option.some.inj hf
    obtain ⟨rfl, rfl⟩ := Prod.mk.inj hk
    exact x_iret O rfl rfl ⟨_, rfl, rfl⟩ dX10_now_39
theorem k_M_now {σ σr : Mm} {rr : Int32} {v1 : Int32}  (hf : f_M_now σ v1 = some (rr, σr)) : CT LM yX10_now wsX10_now rm_X10_now (fun ad => [.ref (ad 0), .int v1]) σ (some (.int rr)) σr := CT_of2 (cc := cX10_now) (maxL := 2) (rt := (some .int)) (own := RX10) (by decide) rfl rfl (fun _ => Nat.le_of_ble_eq_true rfl) (fun _ => rfl) (fun Γ ad O => v_M_now O  hf)

-- ===== TippedBarrowModel.notes()V
theorem ca_X10_notes : Ca yX10_notes cX10_notes 2 none wsX10_notes rm_X10_notes 0 := ⟨⟨_, rfl⟩, rfl, rfl, by decide +kernel, by decide +kernel, by decide +kernel⟩
theorem in_X10_notes_X10 : ∀ w ∈ wsX100, w ∈ wsX10_notes := by decide +kernel
theorem fl_X10_notes_19 : Fl RX10 wsX10_notes 19 10 14 true (.array .int) := ⟨_, _, _, tyX10, rfl, in_X10_notes_X10, by decide, by decide +kernel, tyX10_ok, nmX10, rfl, tyX10_ok 14 (by decide)⟩
theorem fl_X10_notes_29 : Fl RX10 wsX10_notes 29 10 17 true (.array .int) := ⟨_, _, _, tyX10, rfl, in_X10_notes_X10, by decide, by decide +kernel, tyX10_ok, nmX10, rfl, tyX10_ok 17 (by decide)⟩
theorem fl_X10_notes_137 : Fl RX10 wsX10_notes 137 10 18 false .int := ⟨_, _, _, tyX10, rfl, in_X10_notes_X10, by decide, by decide +kernel, tyX10_ok, nmX10, rfl, tyX10_ok 18 (by decide)⟩
set_option maxHeartbeats 4000000 in
set_option maxRecDepth 100000 in
theorem v_M_notes_79 {Γ : Cx} {ad : Nat → Nat} {rr : Int32} {σr : Mm} (O : Ok LM Γ ad cX10_notes 2 RX10 wsX10_notes rm_X10_notes none none σr) {σ : Mm}   (hf : f_M_notes_79 σ = some (rr, σr)) : X LM Γ ad σ 79 [(0, .ref (ad 0))] [] := by
  unfold f_M_notes_79 at hf
  refine x_aload_n O 0 dX10_notes_79 rfl rfl ?_
  refine x_dup O dX10_notes_80 rfl ?_
  refine x_getI O fl_X10_notes_137 rfl dX10_notes_81 ?_
  refine x_iconst O (v := 1) dX10_notes_84 (by decide) ?_
  refine x_iadd O dX10_notes_85 ?_
  refine x_putIN O hf rfl rfl fl_X10_notes_137 rfl dX10_notes_86 (fun σ1 hf => ?_)
  have hk : ((0 : Int32), σ1) = (rr, σr) := Option.some.inj hf
  obtain ⟨rfl, rfl⟩ := Prod.mk.inj hk
  exact x_vret O rfl rfl rfl dX10_notes_89
set_option maxHeartbeats 4000000 in
set_option maxRecDepth 100000 in
theorem v_M_notes_47_b {Γ : Cx} {ad : Nat → Nat} {rr : Int32} {σr : Mm} (O : Ok LM Γ ad cX10_notes 2 RX10 wsX10_notes rm_X10_notes none none σr) {σ : Mm} {v1 : Int32}  {x : (Mm × Int32) ⊕ (Int32 × Mm)} (hf : f_M_notes_47_b σ v1 = some x) (hk : (kx (fun s : Mm × Int32 => X LM Γ ad s.1 47 [(0, .ref (ad 0)), (1, .int s.2)] []) (fun q : Int32 × Mm => q = (rr, σr))) x) : X LM Γ ad σ 47 [(0, .ref (ad 0)), (1, .int v1)] [] := by
  unfold f_M_notes_47_b at hf
  refine x_iload_n O 1 dX10_notes_47 rfl rfl ?_
  refine x_bipush O (v := 27) dX10_notes_48 (by decide) ?_
  refine x_icmp_ge O 79 hf dX10_notes_50 (by decide) (fun hf => ?_) (fun hf => ?_)
  · obtain ⟨x', hg1, hx⟩ := map_inr hf
    subst hx
    have hk := kx_r hk
    have hx : x' = (rr, σr) := hk
    subst hx
    have hf := hg1
    exact x_jmp O (v_M_notes_79 O (σ := σ)   hf) rfl
  · refine x_aload_n O 0 dX10_notes_53 rfl rfl ?_
    refine x_getF O (t := 7) fl_X10_notes_29 rfl dX10_notes_54 ?_
    refine x_bipush O (v := 27) dX10_notes_57 (by decide) ?_
    refine x_aload_n O 0 dX10_notes_59 rfl rfl ?_
    refine x_getI O fl_X10_notes_137 rfl dX10_notes_60 ?_
    refine x_imul O dX10_notes_63 ?_
    refine x_iload_n O 1 dX10_notes_64 rfl rfl ?_
    refine x_iadd O dX10_notes_65 ?_
    refine x_aload_n O 0 dX10_notes_66 rfl rfl ?_
    refine x_getF O (t := 4) fl_X10_notes_19 rfl dX10_notes_67 ?_
    refine x_iload_n O 1 dX10_notes_70 rfl rfl ?_
    refine x_iald O hf rfl dX10_notes_71 (fun j1 hf => ?_)
    refine x_iastN O hf rfl dX10_notes_72 (fun σ1 hf => ?_)
    refine x_iincN O hf dX10_notes_73 rfl rfl (by decide) (fun y1 hf => ?_)
    refine x_goto O 47 dX10_notes_76 (by decide) ?_
    obtain rfl := Option.some.inj hf
    have hk := kx_l hk
    exact x_jmp O hk rfl
set_option maxHeartbeats 4000000 in
set_option maxRecDepth 100000 in
theorem v_M_notes_47 {Γ : Cx} {ad : Nat → Nat} {rr : Int32} {σr : Mm} (O : Ok LM Γ ad cX10_notes 2 RX10 wsX10_notes rm_X10_notes none none σr) {σ : Mm} {v1 : Int32}  (hf : f_M_notes_47 σ v1 = some (rr, σr)) : X LM Γ ad σ 47 [(0, .ref (ad 0)), (1, .int v1)] [] := lpX (P := (fun s : Mm × Int32 => X LM Γ ad s.1 47 [(0, .ref (ad 0)), (1, .int s.2)] [])) (K := (fun q : Int32 × Mm => q = (rr, σr))) (fun s x g1 g2 => v_M_notes_47_b O (σ := s.1)  (v1 := s.2)  g1 g2) (σ, v1) _ hf rfl
set_option maxHeartbeats 4000000 in
set_option maxRecDepth 100000 in
theorem v_M_notes_45 {Γ : Cx} {ad : Nat → Nat} {rr : Int32} {σr : Mm} (O : Ok LM Γ ad cX10_notes 2 RX10 wsX10_notes rm_X10_notes none none σr) {σ : Mm}   (hf : f_M_notes_45 σ = some (rr, σr)) : X LM Γ ad σ 45 [(0, .ref (ad 0))] [] := by
  unfold f_M_notes_45 at hf
  refine x_iconst O (v := 0) dX10_notes_45 (by decide) ?_
  refine x_istore_n O 1 dX10_notes_46 rfl (by decide) ?_
  exact x_jmp O (v_M_notes_47 O (σ := σ) (v1 := 0)  hf) rfl
set_option maxHeartbeats 4000000 in
set_option maxRecDepth 100000 in
theorem v_M_notes_39 {Γ : Cx} {ad : Nat → Nat} {rr : Int32} {σr : Mm} (O : Ok LM Γ ad cX10_notes 2 RX10 wsX10_notes rm_X10_notes none none σr) {σ : Mm}   (hf : f_M_notes_39 σ = some (rr, σr)) : X LM Γ ad σ 39 [(0, .ref (ad 0))] [] := by
  unfold f_M_notes_39 at hf
  refine x_aload_n O 0 dX10_notes_39 rfl rfl ?_
  refine x_bipush O (v := 9) dX10_notes_40 (by decide) ?_
  refine x_putIN O hf rfl rfl fl_X10_notes_137 rfl dX10_notes_42 (fun σ1 hf => ?_)
  exact x_jmp O (v_M_notes_45 O (σ := σ1)   hf) rfl
set_option maxHeartbeats 4000000 in
set_option maxRecDepth 100000 in
theorem v_M_notes_11_b {Γ : Cx} {ad : Nat → Nat} {rr : Int32} {σr : Mm} (O : Ok LM Γ ad cX10_notes 2 RX10 wsX10_notes rm_X10_notes none none σr) {σ : Mm} {v1 : Int32}  {x : (Mm × Int32) ⊕ (Int32 × Mm)} (hf : f_M_notes_11_b σ v1 = some x) (hk : (kx (fun s : Mm × Int32 => X LM Γ ad s.1 11 [(0, .ref (ad 0)), (1, .int s.2)] []) (fun q : Int32 × Mm => q = (rr, σr))) x) : X LM Γ ad σ 11 [(0, .ref (ad 0)), (1, .int v1)] [] := by
  unfold f_M_notes_11_b at hf
  refine x_iload_n O 1 dX10_notes_11 rfl rfl ?_
  refine x_sipush O (v := 243) dX10_notes_12 (by decide) ?_
  refine x_icmp_ge O 39 hf dX10_notes_15 (by decide) (fun hf => ?_) (fun hf => ?_)
  · obtain ⟨x', hg1, hx⟩ := map_inr hf
    subst hx
    have hk := kx_r hk
    have hx : x' = (rr, σr) := hk
    subst hx
    have hf := hg1
    exact x_jmp O (v_M_notes_39 O (σ := σ)   hf) rfl
  · refine x_aload_n O 0 dX10_notes_18 rfl rfl ?_
    refine x_getF O (t := 7) fl_X10_notes_29 rfl dX10_notes_19 ?_
    refine x_iload_n O 1 dX10_notes_22 rfl rfl ?_
    refine x_aload_n O 0 dX10_notes_23 rfl rfl ?_
    refine x_getF O (t := 7) fl_X10_notes_29 rfl dX10_notes_24 ?_
    refine x_iload_n O 1 dX10_notes_27 rfl rfl ?_
    refine x_bipush O (v := 27) dX10_notes_28 (by decide) ?_
    refine x_iadd O dX10_notes_30 ?_
    refine x_iald O hf rfl dX10_notes_31 (fun j1 hf => ?_)
    refine x_iastN O hf rfl dX10_notes_32 (fun σ1 hf => ?_)
    refine x_iincN O hf dX10_notes_33 rfl rfl (by decide) (fun y1 hf => ?_)
    refine x_goto O 11 dX10_notes_36 (by decide) ?_
    obtain rfl := Option.some.inj hf
    have hk := kx_l hk
    exact x_jmp O hk rfl
set_option maxHeartbeats 4000000 in
set_option maxRecDepth 100000 in
theorem v_M_notes_11 {Γ : Cx} {ad : Nat → Nat} {rr : Int32} {σr : Mm} (O : Ok LM Γ ad cX10_notes 2 RX10 wsX10_notes rm_X10_notes none none σr) {σ : Mm} {v1 : Int32}  (hf : f_M_notes_11 σ v1 = some (rr, σr)) : X LM Γ ad σ 11 [(0, .ref (ad 0)), (1, .int v1)] [] := lpX (P := (fun s : Mm × Int32 => X LM Γ ad s.1 11 [(0, .ref (ad 0)), (1, .int s.2)] [])) (K := (fun q : Int32 × Mm => q = (rr, σr))) (fun s x g1 g2 => v_M_notes_11_b O (σ := s.1)  (v1 := s.2)  g1 g2) (σ, v1) _ hf rfl
set_option maxHeartbeats 4000000 in
set_option maxRecDepth 100000 in
theorem v_M_notes {Γ : Cx} {ad : Nat → Nat} {rr : Int32} {σr : Mm} (O : Ok LM Γ ad cX10_notes 2 RX10 wsX10_notes rm_X10_notes none none σr) {σ : Mm}   (hf : f_M_notes σ = some (rr, σr)) : X LM Γ ad σ 0 [(0, .ref (ad 0))] [] := by
  unfold f_M_notes at hf
  refine x_aload_n O 0 dX10_notes_0 rfl rfl ?_
  refine x_getI O fl_X10_notes_137 rfl dX10_notes_1 ?_
  refine x_bipush O (v := 10) dX10_notes_4 (by decide) ?_
  refine x_icmp_ne O 45 hf dX10_notes_6 (by decide) (fun hf => ?_) (fun hf => ?_)
  · exact x_jmp O (v_M_notes_45 O (σ := σ)   hf) rfl
  · refine x_iconst O (v := 0) dX10_notes_9 (by decide) ?_
    refine x_istore_n O 1 dX10_notes_10 rfl (by decide) ?_
    exact x_jmp O (v_M_notes_11 O (σ := σ) (v1 := 0)  hf) rfl
theorem k_M_notes {σ σr : Mm} {rr : Int32}   (hf : f_M_notes σ = some (rr, σr)) : CT LM yX10_notes wsX10_notes rm_X10_notes (fun ad => [.ref (ad 0)]) σ none σr := CT_of2 (cc := cX10_notes) (maxL := 2) (rt := none) (own := RX10) (by decide) rfl rfl (fun _ => Nat.le_of_ble_eq_true rfl) (fun _ => rfl) (fun Γ ad O => v_M_notes O  hf)

-- ===== TippedBarrowModel.comes(IIII)I
theorem ca_X10_comes : Ca yX10_comes cX10_comes 7 (some .int) wsX10_comes rm_X10_comes 4 := ⟨⟨_, rfl⟩, rfl, rfl, by decide +kernel, by decide +kernel, by decide +kernel⟩
theorem in_X10_comes_X10 : ∀ w ∈ wsX100, w ∈ wsX10_comes := by decide +kernel
theorem fl_X10_comes_13 : Fl RX10 wsX10_comes 13 10 9 true (.array .int) := ⟨_, _, _, tyX10, rfl, in_X10_comes_X10, by decide, by decide +kernel, tyX10_ok, nmX10, rfl, tyX10_ok 9 (by decide)⟩
theorem fl_X10_comes_19 : Fl RX10 wsX10_comes 19 10 14 true (.array .int) := ⟨_, _, _, tyX10, rfl, in_X10_comes_X10, by decide, by decide +kernel, tyX10_ok, nmX10, rfl, tyX10_ok 14 (by decide)⟩
theorem fl_X10_comes_144 : Fl RX10 wsX10_comes 144 10 21 false .int := ⟨_, _, _, tyX10, rfl, in_X10_comes_X10, by decide, by decide +kernel, tyX10_ok, nmX10, rfl, tyX10_ok 21 (by decide)⟩
theorem fl_X10_comes_147 : Fl RX10 wsX10_comes 147 10 22 false .int := ⟨_, _, _, tyX10, rfl, in_X10_comes_X10, by decide, by decide +kernel, tyX10_ok, nmX10, rfl, tyX10_ok 22 (by decide)⟩
set_option maxHeartbeats 4000000 in
set_option maxRecDepth 100000 in
theorem v_M_comes_46 {Γ : Cx} {ad : Nat → Nat} {rr : Int32} {σr : Mm} (O : Ok LM Γ ad cX10_comes 7 RX10 wsX10_comes rm_X10_comes (some .int) (some (.int rr)) σr) {σ : Mm} {v2 : Int32} {v4 : Int32} {v5 : Int32} {s0 : Int32} {s1 : Int32}  (hf : f_M_comes_46 σ v2 v4 v5 s0 s1 = some (rr, σr)) : X LM Γ ad σ 46 [(0, .ref (ad 0)), (2, .int v2), (4, .int v4), (5, .int v5)] [.int s1, .int s0] := by
  unfold f_M_comes_46 at hf
  refine x_iadd O dX10_comes_46 ?_
  refine x_istoreN O hf dX10_comes_47 (by decide) (fun y1 hf => ?_)
  refine x_aload_n O 0 dX10_comes_49 rfl rfl ?_
  refine x_iload O dX10_comes_50 rfl ?_
  refine x_iload O dX10_comes_52 rfl ?_
  obtain ⟨r_1, σ1, hc, hf⟩ := bd_some hf
  refine x_callV O (k_M_isGround  hc) ca_X10_isGround gX10_comes_X10_isGround rfl ⟨_, _, _, _, rfl, rfl⟩ rfl rfl rfl (Nat.le_of_ble_eq_true rfl) ⟨Nat.le_of_ble_eq_true rfl, Nat.le_of_ble_eq_true rfl⟩ dX10_comes_54 ?_
  refine x_push O ?_
  refine x_if_ne O 62 hf dX10_comes_57 (by decide) (fun hf => ?_) (fun hf => ?_)
  · refine x_aload_n O 0 dX10_comes_62 rfl rfl ?_
    refine x_iconst O (v := 5) dX10_comes_63 (by decide) ?_
    refine x_iload O dX10_comes_64 rfl ?_
    refine x_imul O dX10_comes_66 ?_
    refine x_iload O dX10_comes_67 rfl ?_
    refine x_iadd O dX10_comes_69 ?_
    refine x_putIN O hf rfl rfl fl_X10_comes_144 rfl dX10_comes_70 (fun σ2 hf => ?_)
    refine x_aload_n O 0 dX10_comes_73 rfl rfl ?_
    refine x_iload_n O 2 dX10_comes_74 rfl rfl ?_
    refine x_aload_n O 0 dX10_comes_75 rfl rfl ?_
    refine x_getF O (t := 4) fl_X10_comes_19 rfl dX10_comes_76 ?_
    refine x_bipush O (v := 7) dX10_comes_79 (by decide) ?_
    refine x_aload_n O 0 dX10_comes_81 rfl rfl ?_
    refine x_getI O fl_X10_comes_144 rfl dX10_comes_82 ?_
    refine x_iadd O dX10_comes_85 ?_
    refine x_iald O hf rfl dX10_comes_86 (fun j1 hf => ?_)
    refine x_iadd O dX10_comes_87 ?_
    refine x_iload O dX10_comes_88 rfl ?_
    refine x_iadd O dX10_comes_90 ?_
    refine x_putIN O hf rfl rfl fl_X10_comes_147 rfl dX10_comes_91 (fun σ3 hf => ?_)
    refine x_aload_n O 0 dX10_comes_94 rfl rfl ?_
    refine x_getI O fl_X10_comes_147 rfl dX10_comes_95 ?_
    refine x_aload_n O 0 dX10_comes_98 rfl rfl ?_
    refine x_getF O (t := 2) fl_X10_comes_13 rfl dX10_comes_99 ?_
    refine x_iconst O (v := 3) dX10_comes_102 (by decide) ?_
    refine x_iald O hf rfl dX10_comes_103 (fun j2 hf => ?_)
    refine x_ineg O dX10_comes_104 ?_
    refine x_icmp_gt O 112 hf dX10_comes_105 (by decide) (fun hf => ?_) (fun hf => ?_)
    · refine x_aload_n O 0 dX10_comes_112 rfl rfl ?_
      refine x_getI O fl_X10_comes_147 rfl dX10_comes_113 ?_
      refine x_aload_n O 0 dX10_comes_116 rfl rfl ?_
      refine x_getF O (t := 2) fl_X10_comes_13 rfl dX10_comes_117 ?_
      refine x_iconst O (v := 3) dX10_comes_120 (by decide) ?_
      refine x_iald O hf rfl dX10_comes_121 (fun j3 hf => ?_)
      refine x_icmp_lt O 129 hf dX10_comes_122 (by decide) (fun hf => ?_) (fun hf => ?_)
      · refine x_iconst O (v := 0) dX10_comes_129 (by decide) ?_
        have hk : (0, σ3) = (rr, σr) := Option.some.inj hf
        obtain ⟨rfl, rfl⟩ := Prod.mk.inj hk
        exact x_iret O rfl rfl ⟨_, rfl, rfl⟩ dX10_comes_130
      · refine x_iconst O (v := 2) dX10_comes_125 (by decide) ?_
        refine x_goto O 130 dX10_comes_126 (by decide) ?_
        have hk : (2, σ3) = (rr, σr) := Option.some.inj hf
        obtain ⟨rfl, rfl⟩ := Prod.mk.inj hk
        exact x_iret O rfl rfl ⟨_, rfl, rfl⟩ dX10_comes_130
    · refine x_iconst O (v := 1) dX10_comes_108 (by decide) ?_
      refine x_goto O 130 dX10_comes_109 (by decide) ?_
      have hk : (1, σ3) = (rr, σr) := Option.some.inj hf
      obtain ⟨rfl, rfl⟩ := Prod.mk.inj hk
      exact x_iret O rfl rfl ⟨_, rfl, rfl⟩ dX10_comes_130
  · refine x_iconst O (v := 3) dX10_comes_60 (by decide) ?_
    have hk : (3, σ1) = (rr, σr) := Option.some.inj hf
    obtain ⟨rfl, rfl⟩ := Prod.mk.inj hk
    exact x_iret O rfl rfl ⟨_, rfl, rfl⟩ dX10_comes_61
set_option maxHeartbeats 4000000 in
set_option maxRecDepth 100000 in
theorem v_M_comes_22 {Γ : Cx} {ad : Nat → Nat} {rr : Int32} {σr : Mm} (O : Ok LM Γ ad cX10_comes 7 RX10 wsX10_comes rm_X10_comes (some .int) (some (.int rr)) σr) {σ : Mm} {v1 : Int32} {v2 : Int32} {v3 : Int32} {v4 : Int32} {s0 : Int32} {s1 : Int32}  (hf : f_M_comes_22 σ v1 v2 v3 v4 s0 s1 = some (rr, σr)) : X LM Γ ad σ 22 [(0, .ref (ad 0)), (1, .int v1), (2, .int v2), (3, .int v3), (4, .int v4)] [.int s1, .int s0] := by
  unfold f_M_comes_22 at hf
  refine x_iadd O dX10_comes_22 ?_
  refine x_istoreN O hf dX10_comes_23 (by decide) (fun y1 hf => ?_)
  refine x_iload_n O 1 dX10_comes_25 rfl rfl ?_
  refine x_iconst O (v := 5) dX10_comes_26 (by decide) ?_
  refine x_idivK O (by decide) dX10_comes_27 ?_
  refine x_iload_n O 3 dX10_comes_28 rfl rfl ?_
  refine x_iconst O (v := 2) dX10_comes_29 (by decide) ?_
  refine x_icmp_ne O 37 hf dX10_comes_30 (by decide) (fun hf => ?_) (fun hf => ?_)
  · refine x_iload_n O 3 dX10_comes_37 rfl rfl ?_
    refine x_if_ne O 45 hf dX10_comes_38 (by decide) (fun hf => ?_) (fun hf => ?_)
    · refine x_iconst O (v := 0) dX10_comes_45 (by decide) ?_
      exact x_jmp O (v_M_comes_46 O (σ := σ) (v2 := v2) (v4 := v4) (v5 := y1) (s0 := (v1 / 5)) (s1 := 0)  hf) rfl
    · refine x_iconst O (v := -1) dX10_comes_41 (by decide) ?_
      refine x_goto O 46 dX10_comes_42 (by decide) ?_
      exact x_jmp O (v_M_comes_46 O (σ := σ) (v2 := v2) (v4 := v4) (v5 := y1) (s0 := (v1 / 5)) (s1 := (-1))  hf) rfl
  · refine x_iconst O (v := 1) dX10_comes_33 (by decide) ?_
    refine x_goto O 46 dX10_comes_34 (by decide) ?_
    exact x_jmp O (v_M_comes_46 O (σ := σ) (v2 := v2) (v4 := v4) (v5 := y1) (s0 := (v1 / 5)) (s1 := 1)  hf) rfl
set_option maxHeartbeats 4000000 in
set_option maxRecDepth 100000 in
theorem v_M_comes {Γ : Cx} {ad : Nat → Nat} {rr : Int32} {σr : Mm} (O : Ok LM Γ ad cX10_comes 7 RX10 wsX10_comes rm_X10_comes (some .int) (some (.int rr)) σr) {σ : Mm} {v1 : Int32} {v2 : Int32} {v3 : Int32} {v4 : Int32}  (hf : f_M_comes σ v1 v2 v3 v4 = some (rr, σr)) : X LM Γ ad σ 0 [(0, .ref (ad 0)), (1, .int v1), (2, .int v2), (3, .int v3), (4, .int v4)] [] := by
  unfold f_M_comes at hf
  refine x_iload_n O 1 dX10_comes_0 rfl rfl ?_
  refine x_iconst O (v := 5) dX10_comes_1 (by decide) ?_
  refine x_iremK O (by decide) dX10_comes_2 ?_
  refine x_iload_n O 3 dX10_comes_3 rfl rfl ?_
  refine x_iconst O (v := 1) dX10_comes_4 (by decide) ?_
  refine x_icmp_ne O 12 hf dX10_comes_5 (by decide) (fun hf => ?_) (fun hf => ?_)
  · refine x_iload_n O 3 dX10_comes_12 rfl rfl ?_
    refine x_iconst O (v := 3) dX10_comes_13 (by decide) ?_
    refine x_icmp_ne O 21 hf dX10_comes_14 (by decide) (fun hf => ?_) (fun hf => ?_)
    · refine x_iconst O (v := 0) dX10_comes_21 (by decide) ?_
      exact x_jmp O (v_M_comes_22 O (σ := σ) (v1 := v1) (v2 := v2) (v3 := v3) (v4 := v4) (s0 := (rm32 v1 5)) (s1 := 0)  hf) rfl
    · refine x_iconst O (v := -1) dX10_comes_17 (by decide) ?_
      refine x_goto O 22 dX10_comes_18 (by decide) ?_
      exact x_jmp O (v_M_comes_22 O (σ := σ) (v1 := v1) (v2 := v2) (v3 := v3) (v4 := v4) (s0 := (rm32 v1 5)) (s1 := (-1))  hf) rfl
  · refine x_iconst O (v := 1) dX10_comes_8 (by decide) ?_
    refine x_goto O 22 dX10_comes_9 (by decide) ?_
    exact x_jmp O (v_M_comes_22 O (σ := σ) (v1 := v1) (v2 := v2) (v3 := v3) (v4 := v4) (s0 := (rm32 v1 5)) (s1 := 1)  hf) rfl
theorem k_M_comes {σ σr : Mm} {rr : Int32} {v1 : Int32} {v2 : Int32} {v3 : Int32} {v4 : Int32}  (hf : f_M_comes σ v1 v2 v3 v4 = some (rr, σr)) : CT LM yX10_comes wsX10_comes rm_X10_comes (fun ad => [.ref (ad 0), .int v1, .int v2, .int v3, .int v4]) σ (some (.int rr)) σr := CT_of2 (cc := cX10_comes) (maxL := 7) (rt := (some .int)) (own := RX10) (by decide) rfl rfl (fun _ => Nat.le_of_ble_eq_true rfl) (fun _ => rfl) (fun Γ ad O => v_M_comes O  hf)

-- ===== TippedBarrowModel.comesBy(III)I
theorem ca_X10_comesBy : Ca yX10_comesBy cX10_comesBy 4 (some .int) wsX10_comesBy rm_X10_comesBy 3 := ⟨⟨_, rfl⟩, rfl, rfl, by decide +kernel, by decide +kernel, by decide +kernel⟩
theorem in_X10_comesBy_X10 : ∀ w ∈ wsX100, w ∈ wsX10_comesBy := by decide +kernel
theorem fl_X10_comesBy_13 : Fl RX10 wsX10_comesBy 13 10 9 true (.array .int) := ⟨_, _, _, tyX10, rfl, in_X10_comesBy_X10, by decide, by decide +kernel, tyX10_ok, nmX10, rfl, tyX10_ok 9 (by decide)⟩
set_option maxHeartbeats 4000000 in
set_option maxRecDepth 100000 in
theorem v_M_comesBy {Γ : Cx} {ad : Nat → Nat} {rr : Int32} {σr : Mm} (O : Ok LM Γ ad cX10_comesBy 4 RX10 wsX10_comesBy rm_X10_comesBy (some .int) (some (.int rr)) σr) {σ : Mm} {v1 : Int32} {v2 : Int32} {v3 : Int32}  (hf : f_M_comesBy σ v1 v2 v3 = some (rr, σr)) : X LM Γ ad σ 0 [(0, .ref (ad 0)), (1, .int v1), (2, .int v2), (3, .int v3)] [] := by
  unfold f_M_comesBy at hf
  refine x_aload_n O 0 dX10_comesBy_0 rfl rfl ?_
  refine x_iload_n O 1 dX10_comesBy_1 rfl rfl ?_
  refine x_iload_n O 2 dX10_comesBy_2 rfl rfl ?_
  refine x_iload_n O 3 dX10_comesBy_3 rfl rfl ?_
  refine x_aload_n O 0 dX10_comesBy_4 rfl rfl ?_
  refine x_getF O (t := 2) fl_X10_comesBy_13 rfl dX10_comesBy_5 ?_
  refine x_iconst O (v := 4) dX10_comesBy_8 (by decide) ?_
  refine x_iald O hf rfl dX10_comesBy_9 (fun j1 hf => ?_)
  obtain ⟨r_1, σ1, hc, hf⟩ := bd_some hf
  refine x_callV O (k_M_comes  hc) ca_X10_comes gX10_comesBy_X10_comes rfl ⟨_, _, _, _, rfl, rfl⟩ rfl rfl rfl (Nat.le_of_ble_eq_true rfl) ⟨Nat.le_of_ble_eq_true rfl, Nat.le_of_ble_eq_true rfl⟩ dX10_comesBy_10 ?_
  refine x_push O ?_
  have hk : (r_1, σ1) = (rr, σr) := Option.some.inj hf
  obtain ⟨rfl, rfl⟩ := Prod.mk.inj hk
  exact x_iret O rfl rfl ⟨_, rfl, rfl⟩ dX10_comesBy_13
theorem k_M_comesBy {σ σr : Mm} {rr : Int32} {v1 : Int32} {v2 : Int32} {v3 : Int32}  (hf : f_M_comesBy σ v1 v2 v3 = some (rr, σr)) : CT LM yX10_comesBy wsX10_comesBy rm_X10_comesBy (fun ad => [.ref (ad 0), .int v1, .int v2, .int v3]) σ (some (.int rr)) σr := CT_of2 (cc := cX10_comesBy) (maxL := 4) (rt := (some .int)) (own := RX10) (by decide) rfl rfl (fun _ => Nat.le_of_ble_eq_true rfl) (fun _ => rfl) (fun Γ ad O => v_M_comesBy O  hf)

-- ===== TippedBarrowModel.pushes(I)I
theorem ca_X10_pushes : Ca yX10_pushes cX10_pushes 4 (some .int) wsX10_pushes rm_X10_pushes 1 := ⟨⟨_, rfl⟩, rfl, rfl, by decide +kernel, by decide +kernel, by decide +kernel⟩
theorem in_X10_pushes_X10 : ∀ w ∈ wsX100, w ∈ wsX10_pushes := by decide +kernel
theorem fl_X10_pushes_13 : Fl RX10 wsX10_pushes 13 10 9 true (.array .int) := ⟨_, _, _, tyX10, rfl, in_X10_pushes_X10, by decide, by decide +kernel, tyX10_ok, nmX10, rfl, tyX10_ok 9 (by decide)⟩
theorem fl_X10_pushes_19 : Fl RX10 wsX10_pushes 19 10 14 true (.array .int) := ⟨_, _, _, tyX10, rfl, in_X10_pushes_X10, by decide, by decide +kernel, tyX10_ok, nmX10, rfl, tyX10_ok 14 (by decide)⟩
theorem fl_X10_pushes_56 : Fl RX10 wsX10_pushes 56 10 0 false .int := ⟨_, _, _, tyX10, rfl, in_X10_pushes_X10, by decide, by decide +kernel, tyX10_ok, nmX10, rfl, tyX10_ok 0 (by decide)⟩
theorem fl_X10_pushes_144 : Fl RX10 wsX10_pushes 144 10 21 false .int := ⟨_, _, _, tyX10, rfl, in_X10_pushes_X10, by decide, by decide +kernel, tyX10_ok, nmX10, rfl, tyX10_ok 21 (by decide)⟩
theorem fl_X10_pushes_147 : Fl RX10 wsX10_pushes 147 10 22 false .int := ⟨_, _, _, tyX10, rfl, in_X10_pushes_X10, by decide, by decide +kernel, tyX10_ok, nmX10, rfl, tyX10_ok 22 (by decide)⟩
set_option maxHeartbeats 4000000 in
set_option maxRecDepth 100000 in
theorem v_M_pushes_226 {Γ : Cx} {ad : Nat → Nat} {rr : Int32} {σr : Mm} (O : Ok LM Γ ad cX10_pushes 4 RX10 wsX10_pushes rm_X10_pushes (some .int) (some (.int rr)) σr) {σ : Mm} {v2 : Int32} {s1 : Int32} {s2 : Int32}  (hf : f_M_pushes_226 σ v2 s1 s2 = some (rr, σr)) : X LM Γ ad σ 226 [(0, .ref (ad 0)), (2, .int v2)] [.int s2, .int s1, .ref (ad 4)] := by
  unfold f_M_pushes_226 at hf
  refine x_iastN O hf rfl dX10_pushes_226 (fun σ1 hf => ?_)
  refine x_aload_n O 0 dX10_pushes_227 rfl rfl ?_
  refine x_getF O (t := 4) fl_X10_pushes_19 rfl dX10_pushes_228 ?_
  refine x_iconst O (v := 5) dX10_pushes_231 (by decide) ?_
  refine x_iconst O (v := 0) dX10_pushes_232 (by decide) ?_
  refine x_iastN O hf rfl dX10_pushes_233 (fun σ2 hf => ?_)
  refine x_aload_n O 0 dX10_pushes_234 rfl rfl ?_
  refine x_getF O (t := 4) fl_X10_pushes_19 rfl dX10_pushes_235 ?_
  refine x_bipush O (v := 6) dX10_pushes_238 (by decide) ?_
  refine x_iconst O (v := 0) dX10_pushes_240 (by decide) ?_
  refine x_iastN O hf rfl dX10_pushes_241 (fun σ3 hf => ?_)
  refine x_iload_n O 2 dX10_pushes_242 rfl rfl ?_
  have hk : (v2, σ3) = (rr, σr) := Option.some.inj hf
  obtain ⟨rfl, rfl⟩ := Prod.mk.inj hk
  exact x_iret O rfl rfl ⟨_, rfl, rfl⟩ dX10_pushes_243
set_option maxHeartbeats 4000000 in
set_option maxRecDepth 100000 in
theorem v_M_pushes_177 {Γ : Cx} {ad : Nat → Nat} {rr : Int32} {σr : Mm} (O : Ok LM Γ ad cX10_pushes 4 RX10 wsX10_pushes rm_X10_pushes (some .int) (some (.int rr)) σr) {σ : Mm} {v2 : Int32} {s1 : Int32} {s2 : Int32}  (hf : f_M_pushes_177 σ v2 s1 s2 = some (rr, σr)) : X LM Γ ad σ 177 [(0, .ref (ad 0)), (2, .int v2)] [.int s2, .int s1, .ref (ad 4)] := by
  unfold f_M_pushes_177 at hf
  refine x_iastN O hf rfl dX10_pushes_177 (fun σ1 hf => ?_)
  refine x_aload_n O 0 dX10_pushes_178 rfl rfl ?_
  refine x_getF O (t := 4) fl_X10_pushes_19 rfl dX10_pushes_179 ?_
  refine x_iconst O (v := 3) dX10_pushes_182 (by decide) ?_
  refine x_iload_n O 2 dX10_pushes_183 rfl rfl ?_
  refine x_iadd O dX10_pushes_184 ?_
  refine x_iconst O (v := 1) dX10_pushes_185 (by decide) ?_
  refine x_isub O dX10_pushes_186 ?_
  refine x_dup2 O dX10_pushes_187 rfl rfl ?_
  refine x_iald O hf rfl dX10_pushes_188 (fun j2 hf => ?_)
  refine x_iconst O (v := 1) dX10_pushes_189 (by decide) ?_
  refine x_iadd O dX10_pushes_190 ?_
  refine x_iastN O hf rfl dX10_pushes_191 (fun σ2 hf => ?_)
  refine x_aload_n O 0 dX10_pushes_192 rfl rfl ?_
  refine x_getF O (t := 4) fl_X10_pushes_19 rfl dX10_pushes_193 ?_
  refine x_iconst O (v := 0) dX10_pushes_196 (by decide) ?_
  refine x_aload_n O 0 dX10_pushes_197 rfl rfl ?_
  refine x_getF O (t := 2) fl_X10_pushes_13 rfl dX10_pushes_198 ?_
  refine x_iconst O (v := 2) dX10_pushes_201 (by decide) ?_
  refine x_iald O hf rfl dX10_pushes_202 (fun j4 hf => ?_)
  refine x_iastN O hf rfl dX10_pushes_203 (fun σ3 hf => ?_)
  refine x_aload_n O 0 dX10_pushes_204 rfl rfl ?_
  refine x_getF O (t := 4) fl_X10_pushes_19 rfl dX10_pushes_205 ?_
  refine x_iconst O (v := 1) dX10_pushes_208 (by decide) ?_
  refine x_iconst O (v := 0) dX10_pushes_209 (by decide) ?_
  refine x_iastN O hf rfl dX10_pushes_210 (fun σ4 hf => ?_)
  refine x_aload_n O 0 dX10_pushes_211 rfl rfl ?_
  refine x_getF O (t := 4) fl_X10_pushes_19 rfl dX10_pushes_212 ?_
  refine x_iconst O (v := 2) dX10_pushes_215 (by decide) ?_
  refine x_iload_n O 2 dX10_pushes_216 rfl rfl ?_
  refine x_iconst O (v := 1) dX10_pushes_217 (by decide) ?_
  refine x_icmp_ne O 225 hf dX10_pushes_218 (by decide) (fun hf => ?_) (fun hf => ?_)
  · refine x_iconst O (v := 0) dX10_pushes_225 (by decide) ?_
    exact x_jmp O (v_M_pushes_226 O (σ := σ4) (v2 := v2) (s1 := 2) (s2 := 0)  hf) rfl
  · refine x_iconst O (v := 1) dX10_pushes_221 (by decide) ?_
    refine x_goto O 226 dX10_pushes_222 (by decide) ?_
    exact x_jmp O (v_M_pushes_226 O (σ := σ4) (v2 := v2) (s1 := 2) (s2 := 1)  hf) rfl
set_option maxHeartbeats 4000000 in
set_option maxRecDepth 100000 in
theorem v_M_pushes_143 {Γ : Cx} {ad : Nat → Nat} {rr : Int32} {σr : Mm} (O : Ok LM Γ ad cX10_pushes 4 RX10 wsX10_pushes rm_X10_pushes (some .int) (some (.int rr)) σr) {σ : Mm} {v2 : Int32} {s0 : Int32} {s1 : Int32}  (hf : f_M_pushes_143 σ v2 s0 s1 = some (rr, σr)) : X LM Γ ad σ 143 [(0, .ref (ad 0)), (2, .int v2)] [.int s1, .int s0] := by
  unfold f_M_pushes_143 at hf
  refine x_iadd O dX10_pushes_143 ?_
  refine x_istore_nN O 3 hf dX10_pushes_144 rfl (by decide) (fun y1 hf => ?_)
  refine x_aload_n O 0 dX10_pushes_145 rfl rfl ?_
  refine x_getF O (t := 4) fl_X10_pushes_19 rfl dX10_pushes_146 ?_
  refine x_bipush O (v := 7) dX10_pushes_149 (by decide) ?_
  refine x_aload_n O 0 dX10_pushes_151 rfl rfl ?_
  refine x_getI O fl_X10_pushes_144 rfl dX10_pushes_152 ?_
  refine x_iadd O dX10_pushes_155 ?_
  refine x_iload_n O 3 dX10_pushes_156 rfl rfl ?_
  refine x_bipush O (v := -4) dX10_pushes_157 (by decide) ?_
  refine x_icmp_ge O 167 hf dX10_pushes_159 (by decide) (fun hf => ?_) (fun hf => ?_)
  · refine x_iload_n O 3 dX10_pushes_167 rfl rfl ?_
    refine x_iconst O (v := 4) dX10_pushes_168 (by decide) ?_
    refine x_icmp_le O 176 hf dX10_pushes_169 (by decide) (fun hf => ?_) (fun hf => ?_)
    · refine x_iload_n O 3 dX10_pushes_176 rfl rfl ?_
      exact x_jmp O (v_M_pushes_177 O (σ := σ) (v2 := v2) (s1 := (7 + (gI σ 0 21))) (s2 := y1)  hf) rfl
    · refine x_iconst O (v := 4) dX10_pushes_172 (by decide) ?_
      refine x_goto O 177 dX10_pushes_173 (by decide) ?_
      exact x_jmp O (v_M_pushes_177 O (σ := σ) (v2 := v2) (s1 := (7 + (gI σ 0 21))) (s2 := 4)  hf) rfl
  · refine x_bipush O (v := -4) dX10_pushes_162 (by decide) ?_
    refine x_goto O 177 dX10_pushes_164 (by decide) ?_
    exact x_jmp O (v_M_pushes_177 O (σ := σ) (v2 := v2) (s1 := (7 + (gI σ 0 21))) (s2 := (-4))  hf) rfl
set_option maxHeartbeats 4000000 in
set_option maxRecDepth 100000 in
theorem v_M_pushes_44 {Γ : Cx} {ad : Nat → Nat} {rr : Int32} {σr : Mm} (O : Ok LM Γ ad cX10_pushes 4 RX10 wsX10_pushes rm_X10_pushes (some .int) (some (.int rr)) σr) {σ : Mm} {s0 : Int32}  (hf : f_M_pushes_44 σ s0 = some (rr, σr)) : X LM Γ ad σ 44 [(0, .ref (ad 0))] [.int s0] := by
  unfold f_M_pushes_44 at hf
  refine x_istore_n O 2 dX10_pushes_44 rfl (by decide) ?_
  refine x_iload_n O 2 dX10_pushes_45 rfl rfl ?_
  refine x_iconst O (v := 3) dX10_pushes_46 (by decide) ?_
  refine x_icmp_eq O 74 hf dX10_pushes_47 (by decide) (fun hf => ?_) (fun hf => ?_)
  · refine x_bipush O (v := -2) dX10_pushes_74 (by decide) ?_
    have hk : ((-2), σ) = (rr, σr) := Option.some.inj hf
    obtain ⟨rfl, rfl⟩ := Prod.mk.inj hk
    exact x_iret O rfl rfl ⟨_, rfl, rfl⟩ dX10_pushes_76
  · refine x_aload_n O 0 dX10_pushes_50 rfl rfl ?_
    refine x_getF O (t := 4) fl_X10_pushes_19 rfl dX10_pushes_51 ?_
    refine x_iconst O (v := 3) dX10_pushes_54 (by decide) ?_
    refine x_iald O hf rfl dX10_pushes_55 (fun j1 hf => ?_)
    refine x_sipush O (v := 999) dX10_pushes_56 (by decide) ?_
    refine x_icmp_eq O 74 hf dX10_pushes_59 (by decide) (fun hf => ?_) (fun hf => ?_)
    · refine x_bipush O (v := -2) dX10_pushes_74 (by decide) ?_
      have hk : ((-2), σ) = (rr, σr) := Option.some.inj hf
      obtain ⟨rfl, rfl⟩ := Prod.mk.inj hk
      exact x_iret O rfl rfl ⟨_, rfl, rfl⟩ dX10_pushes_76
    · refine x_aload_n O 0 dX10_pushes_62 rfl rfl ?_
      refine x_getF O (t := 4) fl_X10_pushes_19 rfl dX10_pushes_63 ?_
      refine x_iconst O (v := 4) dX10_pushes_66 (by decide) ?_
      refine x_iald O hf rfl dX10_pushes_67 (fun j2 hf => ?_)
      refine x_sipush O (v := 999) dX10_pushes_68 (by decide) ?_
      refine x_icmp_ne O 77 hf dX10_pushes_71 (by decide) (fun hf => ?_) (fun hf => ?_)
      · refine x_aload_n O 0 dX10_pushes_77 rfl rfl ?_
        obtain ⟨r_1, σ1, hc, hf⟩ := bd_some hf
        refine x_callV O (k_M_notes  hc) ca_X10_notes gX10_pushes_X10_notes rfl ⟨_, _, _, _, rfl, rfl⟩ rfl rfl rfl (Nat.le_of_ble_eq_true rfl) ⟨Nat.le_of_ble_eq_true rfl, Nat.le_of_ble_eq_true rfl⟩ dX10_pushes_78 ?_
        refine x_pushN O ?_
        refine x_iload_n O 2 dX10_pushes_81 rfl rfl ?_
        refine x_if_ne O 121 hf dX10_pushes_82 (by decide) (fun hf => ?_) (fun hf => ?_)
        · refine x_aload_n O 0 dX10_pushes_121 rfl rfl ?_
          refine x_getF O (t := 4) fl_X10_pushes_19 rfl dX10_pushes_122 ?_
          refine x_bipush O (v := 7) dX10_pushes_125 (by decide) ?_
          refine x_aload_n O 0 dX10_pushes_127 rfl rfl ?_
          refine x_getI O fl_X10_pushes_144 rfl dX10_pushes_128 ?_
          refine x_iadd O dX10_pushes_131 ?_
          refine x_iald O hf rfl dX10_pushes_132 (fun j3 hf => ?_)
          refine x_iload_n O 2 dX10_pushes_133 rfl rfl ?_
          refine x_iconst O (v := 1) dX10_pushes_134 (by decide) ?_
          refine x_icmp_ne O 142 hf dX10_pushes_135 (by decide) (fun hf => ?_) (fun hf => ?_)
          · refine x_iconst O (v := 1) dX10_pushes_142 (by decide) ?_
            exact x_jmp O (v_M_pushes_143 O (σ := σ1) (v2 := s0) (s0 := (gA σ1 4 j3)) (s1 := 1)  hf) rfl
          · refine x_iconst O (v := -1) dX10_pushes_138 (by decide) ?_
            refine x_goto O 143 dX10_pushes_139 (by decide) ?_
            exact x_jmp O (v_M_pushes_143 O (σ := σ1) (v2 := s0) (s0 := (gA σ1 4 j3)) (s1 := (-1))  hf) rfl
        · refine x_aload_n O 0 dX10_pushes_85 rfl rfl ?_
          refine x_getF O (t := 4) fl_X10_pushes_19 rfl dX10_pushes_86 ?_
          refine x_iconst O (v := 0) dX10_pushes_89 (by decide) ?_
          refine x_aload_n O 0 dX10_pushes_90 rfl rfl ?_
          refine x_getI O fl_X10_pushes_144 rfl dX10_pushes_91 ?_
          refine x_iastN O hf rfl dX10_pushes_94 (fun σ2 hf => ?_)
          refine x_aload_n O 0 dX10_pushes_95 rfl rfl ?_
          refine x_getF O (t := 4) fl_X10_pushes_19 rfl dX10_pushes_96 ?_
          refine x_iconst O (v := 1) dX10_pushes_99 (by decide) ?_
          refine x_aload_n O 0 dX10_pushes_100 rfl rfl ?_
          refine x_getI O fl_X10_pushes_147 rfl dX10_pushes_101 ?_
          refine x_iastN O hf rfl dX10_pushes_104 (fun σ3 hf => ?_)
          refine x_aload_n O 0 dX10_pushes_105 rfl rfl ?_
          refine x_getF O (t := 4) fl_X10_pushes_19 rfl dX10_pushes_106 ?_
          refine x_iconst O (v := 2) dX10_pushes_109 (by decide) ?_
          refine x_iconst O (v := 1) dX10_pushes_110 (by decide) ?_
          refine x_aload_n O 0 dX10_pushes_111 rfl rfl ?_
          refine x_getF O (t := 4) fl_X10_pushes_19 rfl dX10_pushes_112 ?_
          refine x_iconst O (v := 2) dX10_pushes_115 (by decide) ?_
          refine x_iald O hf rfl dX10_pushes_116 (fun j6 hf => ?_)
          refine x_isub O dX10_pushes_117 ?_
          refine x_iastN O hf rfl dX10_pushes_118 (fun σ4 hf => ?_)
          refine x_iload_n O 2 dX10_pushes_119 rfl rfl ?_
          have hk : (s0, σ4) = (rr, σr) := Option.some.inj hf
          obtain ⟨rfl, rfl⟩ := Prod.mk.inj hk
          exact x_iret O rfl rfl ⟨_, rfl, rfl⟩ dX10_pushes_120
      · refine x_bipush O (v := -2) dX10_pushes_74 (by decide) ?_
        have hk : ((-2), σ) = (rr, σr) := Option.some.inj hf
        obtain ⟨rfl, rfl⟩ := Prod.mk.inj hk
        exact x_iret O rfl rfl ⟨_, rfl, rfl⟩ dX10_pushes_76
set_option maxHeartbeats 4000000 in
set_option maxRecDepth 100000 in
theorem v_M_pushes {Γ : Cx} {ad : Nat → Nat} {rr : Int32} {σr : Mm} (O : Ok LM Γ ad cX10_pushes 4 RX10 wsX10_pushes rm_X10_pushes (some .int) (some (.int rr)) σr) {σ : Mm} {v1 : Int32}  (hf : f_M_pushes σ v1 = some (rr, σr)) : X LM Γ ad σ 0 [(0, .ref (ad 0)), (1, .int v1)] [] := by
  unfold f_M_pushes at hf
  refine x_aload_n O 0 dX10_pushes_0 rfl rfl ?_
  refine x_iconst O (v := 0) dX10_pushes_1 (by decide) ?_
  refine x_putIN O hf rfl rfl fl_X10_pushes_56 rfl dX10_pushes_2 (fun σ1 hf => ?_)
  refine x_iload_n O 1 dX10_pushes_5 rfl rfl ?_
  refine x_iconst O (v := 0) dX10_pushes_6 (by decide) ?_
  refine x_iconst O (v := 3) dX10_pushes_7 (by decide) ?_
  obtain ⟨r_1, σ2, hc, hf⟩ := bd_some hf
  refine x_callS O (k_M_in  hc) ca_X10_in gX10_pushes_X10_in rfl rfl rfl (Nat.le_of_ble_eq_true rfl) ⟨Nat.le_of_ble_eq_true rfl, Nat.le_of_ble_eq_true rfl⟩ dX10_pushes_8 ?_
  refine x_push O ?_
  refine x_if_ne O 16 hf dX10_pushes_11 (by decide) (fun hf => ?_) (fun hf => ?_)
  · refine x_aload_n O 0 dX10_pushes_16 rfl rfl ?_
    obtain ⟨r_2, σ3, hc, hf⟩ := bd_some hf
    refine x_callV O (k_M_hasStart  hc) ca_X10_hasStart gX10_pushes_X10_hasStart rfl ⟨_, _, _, _, rfl, rfl⟩ rfl rfl rfl (Nat.le_of_ble_eq_true rfl) ⟨Nat.le_of_ble_eq_true rfl, Nat.le_of_ble_eq_true rfl⟩ dX10_pushes_17 ?_
    refine x_push O ?_
    refine x_if_eq O 43 hf dX10_pushes_20 (by decide) (fun hf => ?_) (fun hf => ?_)
    · refine x_iconst O (v := 3) dX10_pushes_43 (by decide) ?_
      exact x_jmp O (v_M_pushes_44 O (σ := σ3) (s0 := 3)  hf) rfl
    · refine x_aload_n O 0 dX10_pushes_23 rfl rfl ?_
      refine x_aload_n O 0 dX10_pushes_24 rfl rfl ?_
      refine x_getF O (t := 4) fl_X10_pushes_19 rfl dX10_pushes_25 ?_
      refine x_iconst O (v := 0) dX10_pushes_28 (by decide) ?_
      refine x_iald O hf rfl dX10_pushes_29 (fun j1 hf => ?_)
      refine x_aload_n O 0 dX10_pushes_30 rfl rfl ?_
      refine x_getF O (t := 4) fl_X10_pushes_19 rfl dX10_pushes_31 ?_
      refine x_iconst O (v := 1) dX10_pushes_34 (by decide) ?_
      refine x_iald O hf rfl dX10_pushes_35 (fun j2 hf => ?_)
      refine x_iload_n O 1 dX10_pushes_36 rfl rfl ?_
      obtain ⟨r_3, σ4, hc, hf⟩ := bd_some hf
      refine x_callV O (k_M_comesBy  hc) ca_X10_comesBy gX10_pushes_X10_comesBy rfl ⟨_, _, _, _, rfl, rfl⟩ rfl rfl rfl (Nat.le_of_ble_eq_true rfl) ⟨Nat.le_of_ble_eq_true rfl, Nat.le_of_ble_eq_true rfl⟩ dX10_pushes_37 ?_
      refine x_push O ?_
      refine x_goto O 44 dX10_pushes_40 (by decide) ?_
      exact x_jmp O (v_M_pushes_44 O (σ := σ4) (s0 := r_3)  hf) rfl
  · refine x_iconst O (v := -1) dX10_pushes_14 (by decide) ?_
    have hk : ((-1), σ2) = (rr, σr) := Option.some.inj hf
    obtain ⟨rfl, rfl⟩ := Prod.mk.inj hk
    exact x_iret O rfl rfl ⟨_, rfl, rfl⟩ dX10_pushes_15
theorem k_M_pushes {σ σr : Mm} {rr : Int32} {v1 : Int32}  (hf : f_M_pushes σ v1 = some (rr, σr)) : CT LM yX10_pushes wsX10_pushes rm_X10_pushes (fun ad => [.ref (ad 0), .int v1]) σ (some (.int rr)) σr := CT_of2 (cc := cX10_pushes) (maxL := 4) (rt := (some .int)) (own := RX10) (by decide) rfl rfl (fun _ => Nat.le_of_ble_eq_true rfl) (fun _ => rfl) (fun Γ ad O => v_M_pushes O  hf)
