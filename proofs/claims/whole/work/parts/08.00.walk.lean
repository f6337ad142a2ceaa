-- ===== TippedBarrowModel.in(III)Z
theorem ca_X10_in : Ca yX10_in cX10_in 3 (some .boolean) wsX10_in rm_X10_in 3 := ⟨⟨_, rfl⟩, rfl, rfl, by decide +kernel, by decide +kernel, by decide +kernel⟩
set_option maxHeartbeats 4000000 in
set_option maxRecDepth 100000 in
theorem v_M_in {Γ : Cx} {ad : Nat → Nat} {rr : Int32} {σr : Mm} (O : Ok LM Γ ad cX10_in 3 RX10 wsX10_in rm_X10_in (some .boolean) (some (.int rr)) σr) {σ : Mm} {v0 : Int32} {v1 : Int32} {v2 : Int32}  (hf : f_M_in σ v0 v1 v2 = some (rr, σr)) : X LM Γ ad σ 0 [(0, .int v0), (1, .int v1), (2, .int v2)] [] := by
  unfold f_M_in at hf
  refine x_iload_n O 0 dX10_in_0 rfl rfl ?_
  refine x_iload_n O 1 dX10_in_1 rfl rfl ?_
  refine x_icmp_lt O 14 hf dX10_in_2 (by decide) (fun hf => ?_) (fun hf => ?_)
  · refine x_iconst O (v := 0) dX10_in_14 (by decide) ?_
    have hk : (0, σ) = (rr, σr) := Option.some.inj hf
    obtain ⟨rfl, rfl⟩ := Prod.mk.inj hk
    exact x_iret O rfl rfl ⟨_, rfl, rfl⟩ dX10_in_15
  · refine x_iload_n O 0 dX10_in_5 rfl rfl ?_
    refine x_iload_n O 2 dX10_in_6 rfl rfl ?_
    refine x_icmp_gt O 14 hf dX10_in_7 (by decide) (fun hf => ?_) (fun hf => ?_)
    · refine x_iconst O (v := 0) dX10_in_14 (by decide) ?_
      have hk : (0, σ) = (rr, σr) := Option.some.inj hf
      obtain ⟨rfl, rfl⟩ := Prod.mk.inj hk
      exact x_iret O rfl rfl ⟨_, rfl, rfl⟩ dX10_in_15
    · refine x_iconst O (v := 1) dX10_in_10 (by decide) ?_
      refine x_goto O 15 dX10_in_11 (by decide) ?_
      have hk : (1, σ) = (rr, σr) := Option.some.inj hf
      obtain ⟨rfl, rfl⟩ := Prod.mk.inj hk
      exact x_iret O rfl rfl ⟨_, rfl, rfl⟩ dX10_in_15
theorem k_M_in {σ σr : Mm} {rr : Int32} {v0 : Int32} {v1 : Int32} {v2 : Int32}  (hf : f_M_in σ v0 v1 v2 = some (rr, σr)) : CT LM yX10_in wsX10_in rm_X10_in (fun ad => [.int v0, .int v1, .int v2]) σ (some (.int rr)) σr := CT_of2 (cc := cX10_in) (maxL := 3) (rt := (some .boolean)) (own := RX10) (by decide) rfl rfl (fun _ => Nat.le_of_ble_eq_true rfl) (fun _ => rfl) (fun Γ ad O => v_M_in O  hf)

-- ===== TippedBarrowModel.type(I)I
theorem ca_X10_type : Ca yX10_type cX10_type 2 (some .int) wsX10_type rm_X10_type 1 := ⟨⟨_, rfl⟩, rfl, rfl, by decide +kernel, by decide +kernel, by decide +kernel⟩
theorem in_X10_type_X10 : ∀ w ∈ wsX100, w ∈ wsX10_type := by decide +kernel
theorem fl_X10_type_7 : Fl RX10 wsX10_type 7 10 2 true (.array .int) := ⟨_, _, _, tyX10, rfl, in_X10_type_X10, by decide, by decide +kernel, tyX10_ok, nmX10, rfl, tyX10_ok 2 (by decide)⟩
theorem fl_X10_type_56 : Fl RX10 wsX10_type 56 10 0 false .int := ⟨_, _, _, tyX10, rfl, in_X10_type_X10, by decide, by decide +kernel, tyX10_ok, nmX10, rfl, tyX10_ok 0 (by decide)⟩
theorem fl_X10_type_64 : Fl RX10 wsX10_type 64 10 3 false .int := ⟨_, _, _, tyX10, rfl, in_X10_type_X10, by decide, by decide +kernel, tyX10_ok, nmX10, rfl, tyX10_ok 3 (by decide)⟩
set_option maxHeartbeats 4000000 in
set_option maxRecDepth 100000 in
theorem v_M_type {Γ : Cx} {ad : Nat → Nat} {rr : Int32} {σr : Mm} (O : Ok LM Γ ad cX10_type 2 RX10 wsX10_type rm_X10_type (some .int) (some (.int rr)) σr) {σ : Mm} {v1 : Int32}  (hf : f_M_type σ v1 = some (rr, σr)) : X LM Γ ad σ 0 [(0, .ref (ad 0)), (1, .int v1)] [] := by
  unfold f_M_type at hf
  refine x_aload_n O 0 dX10_type_0 rfl rfl ?_
  refine x_iconst O (v := 0) dX10_type_1 (by decide) ?_
  refine x_putIN O hf rfl rfl fl_X10_type_56 rfl dX10_type_2 (fun σ1 hf => ?_)
  refine x_iload_n O 1 dX10_type_5 rfl rfl ?_
  refine x_iconst O (v := 0) dX10_type_6 (by decide) ?_
  refine x_sipush O (v := 255) dX10_type_7 (by decide) ?_
  obtain ⟨r_1, σ2, hc, hf⟩ := bd_some hf
  refine x_callS O (k_M_in  hc) ca_X10_in gX10_type_X10_in rfl rfl rfl (Nat.le_of_ble_eq_true rfl) ⟨Nat.le_of_ble_eq_true rfl, Nat.le_of_ble_eq_true rfl⟩ dX10_type_10 ?_
  refine x_push O ?_
  refine x_if_ne O 18 hf dX10_type_13 (by decide) (fun hf => ?_) (fun hf => ?_)
  · refine x_aload_n O 0 dX10_type_18 rfl rfl ?_
    refine x_getI O fl_X10_type_64 rfl dX10_type_19 ?_
    refine x_bipush O (v := 120) dX10_type_22 (by decide) ?_
    refine x_icmp_ne O 30 hf dX10_type_24 (by decide) (fun hf => ?_) (fun hf => ?_)
    · refine x_aload_n O 0 dX10_type_30 rfl rfl ?_
      refine x_getF O (t := 1) fl_X10_type_7 rfl dX10_type_31 ?_
      refine x_aload_n O 0 dX10_type_34 rfl rfl ?_
      refine x_getI O fl_X10_type_64 rfl dX10_type_35 ?_
      refine x_iload_n O 1 dX10_type_38 rfl rfl ?_
      refine x_iastN O hf rfl dX10_type_39 (fun σ3 hf => ?_)
      refine x_aload_n O 0 dX10_type_40 rfl rfl ?_
      refine x_dup O dX10_type_41 rfl ?_
      refine x_getI O fl_X10_type_64 rfl dX10_type_42 ?_
      refine x_iconst O (v := 1) dX10_type_45 (by decide) ?_
      refine x_iadd O dX10_type_46 ?_
      refine x_putIN O hf rfl rfl fl_X10_type_64 rfl dX10_type_47 (fun σ4 hf => ?_)
      refine x_aload_n O 0 dX10_type_50 rfl rfl ?_
      refine x_getI O fl_X10_type_64 rfl dX10_type_51 ?_
      have hk : ((gI σ4 0 3), σ4) = (rr, σr) := Option.some.inj hf
      obtain ⟨rfl, rfl⟩ := Prod.mk.inj hk
      exact x_iret O rfl rfl ⟨_, rfl, rfl⟩ dX10_type_54
    · refine x_bipush O (v := -3) dX10_type_27 (by decide) ?_
      have hk : ((-3), σ2) = (rr, σr) := Option.some.inj hf
      obtain ⟨rfl, rfl⟩ := Prod.mk.inj hk
      exact x_iret O rfl rfl ⟨_, rfl, rfl⟩ dX10_type_29
  · refine x_iconst O (v := -1) dX10_type_16 (by decide) ?_
    have hk : ((-1), σ2) = (rr, σr) := Option.some.inj hf
    obtain ⟨rfl, rfl⟩ := Prod.mk.inj hk
    exact x_iret O rfl rfl ⟨_, rfl, rfl⟩ dX10_type_17
theorem k_M_type {σ σr : Mm} {rr : Int32} {v1 : Int32}  (hf : f_M_type σ v1 = some (rr, σr)) : CT LM yX10_type wsX10_type rm_X10_type (fun ad => [.ref (ad 0), .int v1]) σ (some (.int rr)) σr := CT_of2 (cc := cX10_type) (maxL := 2) (rt := (some .int)) (own := RX10) (by decide) rfl rfl (fun _ => Nat.le_of_ble_eq_true rfl) (fun _ => rfl) (fun Γ ad O => v_M_type O  hf)

-- ===== TippedBarrowModel.clear()I
theorem ca_X10_clear : Ca yX10_clear cX10_clear 2 (some .int) wsX10_clear rm_X10_clear 0 := ⟨⟨_, rfl⟩, rfl, rfl, by decide +kernel, by decide +kernel, by decide +kernel⟩
theorem in_X10_clear_X10 : ∀ w ∈ wsX100, w ∈ wsX10_clear := by decide +kernel
theorem fl_X10_clear_56 : Fl RX10 wsX10_clear 56 10 0 false .int := ⟨_, _, _, tyX10, rfl, in_X10_clear_X10, by decide, by decide +kernel, tyX10_ok, nmX10, rfl, tyX10_ok 0 (by decide)⟩
theorem fl_X10_clear_64 : Fl RX10 wsX10_clear 64 10 3 false .int := ⟨_, _, _, tyX10, rfl, in_X10_clear_X10, by decide, by decide +kernel, tyX10_ok, nmX10, rfl, tyX10_ok 3 (by decide)⟩
set_option maxHeartbeats 4000000 in
set_option maxRecDepth 100000 in
theorem v_M_clear {Γ : Cx} {ad : Nat → Nat} {rr : Int32} {σr : Mm} (O : Ok LM Γ ad cX10_clear 2 RX10 wsX10_clear rm_X10_clear (some .int) (some (.int rr)) σr) {σ : Mm}   (hf : f_M_clear σ = some (rr, σr)) : X LM Γ ad σ 0 [(0, .ref (ad 0))] [] := by
  unfold f_M_clear at hf
  refine x_aload_n O 0 dX10_clear_0 rfl rfl ?_
  refine x_iconst O (v := 0) dX10_clear_1 (by decide) ?_
  refine x_putIN O hf rfl rfl fl_X10_clear_56 rfl dX10_clear_2 (fun σ1 hf => ?_)
  refine x_aload_n O 0 dX10_clear_5 rfl rfl ?_
  refine x_getI O fl_X10_clear_64 rfl dX10_clear_6 ?_
  refine x_istore_nN O 1 hf dX10_clear_9 rfl (by decide) (fun y1 hf => ?_)
  refine x_aload_n O 0 dX10_clear_10 rfl rfl ?_
  refine x_iconst O (v := 0) dX10_clear_11 (by decide) ?_
  refine x_putIN O hf rfl rfl fl_X10_clear_64 rfl dX10_clear_12 (fun σ2 hf => ?_)
  refine x_iload_n O 1 dX10_clear_15 rfl rfl ?_
  have hk : (y1, σ2) = (rr, σr) := Option.some.inj hf
  obtain ⟨rfl, rfl⟩ := Prod.mk.inj hk
  exact x_iret O rfl rfl ⟨_, rfl, rfl⟩ dX10_clear_16
theorem k_M_clear {σ σr : Mm} {rr : Int32}   (hf : f_M_clear σ = some (rr, σr)) : CT LM yX10_clear wsX10_clear rm_X10_clear (fun ad => [.ref (ad 0)]) σ (some (.int rr)) σr := CT_of2 (cc := cX10_clear) (maxL := 2) (rt := (some .int)) (own := RX10) (by decide) rfl rfl (fun _ => Nat.le_of_ble_eq_true rfl) (fun _ => rfl) (fun Γ ad O => v_M_clear O  hf)

-- ===== TippedBarrowModel.letterAt(I)I
theorem ca_X10_letterAt : Ca yX10_letterAt cX10_letterAt 2 (some .int) wsX10_letterAt rm_X10_letterAt 1 := ⟨⟨_, rfl⟩, rfl, rfl, by decide +kernel, by decide +kernel, by decide +kernel⟩
theorem in_X10_letterAt_X10 : ∀ w ∈ wsX100, w ∈ wsX10_letterAt := by decide +kernel
theorem fl_X10_letterAt_7 : Fl RX10 wsX10_letterAt 7 10 2 true (.array .int) := ⟨_, _, _, tyX10, rfl, in_X10_letterAt_X10, by decide, by decide +kernel, tyX10_ok, nmX10, rfl, tyX10_ok 2 (by decide)⟩
theorem fl_X10_letterAt_64 : Fl RX10 wsX10_letterAt 64 10 3 false .int := ⟨_, _, _, tyX10, rfl, in_X10_letterAt_X10, by decide, by decide +kernel, tyX10_ok, nmX10, rfl, tyX10_ok 3 (by decide)⟩
set_option maxHeartbeats 4000000 in
set_option maxRecDepth 100000 in
theorem v_M_letterAt {Γ : Cx} {ad : Nat → Nat} {rr : Int32} {σr : Mm} (O : Ok LM Γ ad cX10_letterAt 2 RX10 wsX10_letterAt rm_X10_letterAt (some .int) (some (.int rr)) σr) {σ : Mm} {v1 : Int32}  (hf : f_M_letterAt σ v1 = some (rr, σr)) : X LM Γ ad σ 0 [(0, .ref (ad 0)), (1, .int v1)] [] := by
  unfold f_M_letterAt at hf
  refine x_iload_n O 1 dX10_letterAt_0 rfl rfl ?_
  refine x_aload_n O 0 dX10_letterAt_1 rfl rfl ?_
  refine x_getI O fl_X10_letterAt_64 rfl dX10_letterAt_2 ?_
  refine x_icmp_ge O 17 hf dX10_letterAt_5 (by decide) (fun hf => ?_) (fun hf => ?_)
  · refine x_iconst O (v := -1) dX10_letterAt_17 (by decide) ?_
    have hk : ((-1), σ) = (rr, σr) := Option.some.inj hf
    obtain ⟨rfl, rfl⟩ := Prod.mk.inj hk
    exact x_iret O rfl rfl ⟨_, rfl, rfl⟩ dX10_letterAt_18
  · refine x_aload_n O 0 dX10_letterAt_8 rfl rfl ?_
    refine x_getF O (t := 1) fl_X10_letterAt_7 rfl dX10_letterAt_9 ?_
    refine x_iload_n O 1 dX10_letterAt_12 rfl rfl ?_
    refine x_iald O hf rfl dX10_letterAt_13 (fun j1 hf => ?_)
    refine x_goto O 18 dX10_letterAt_14 (by decide) ?_
    have hk : ((gA σ 1 j1), σ) = (rr, σr) := Option.some.inj hf
    obtain ⟨rfl, rfl⟩ := Prod.mk.inj hk
    exact x_iret O rfl rfl ⟨_, rfl, rfl⟩ dX10_letterAt_18
theorem k_M_letterAt {σ σr : Mm} {rr : Int32} {v1 : Int32}  (hf : f_M_letterAt σ v1 = some (rr, σr)) : CT LM yX10_letterAt wsX10_letterAt rm_X10_letterAt (fun ad => [.ref (ad 0), .int v1]) σ (some (.int rr)) σr := CT_of2 (cc := cX10_letterAt) (maxL := 2) (rt := (some .int)) (own := RX10) (by decide) rfl rfl (fun _ => Nat.le_of_ble_eq_true rfl) (fun _ => rfl) (fun Γ ad O => v_M_letterAt O  hf)

-- ===== TippedBarrowModel.isLetter(I)Z
theorem ca_X10_isLetter : Ca yX10_isLetter cX10_isLetter 1 (some .boolean) wsX10_isLetter rm_X10_isLetter 1 := ⟨⟨_, rfl⟩, rfl, rfl, by decide +kernel, by decide +kernel, by decide +kernel⟩
set_option maxHeartbeats 4000000 in
set_option maxRecDepth 100000 in
theorem v_M_isLetter {Γ : Cx} {ad : Nat → Nat} {rr : Int32} {σr : Mm} (O : Ok LM Γ ad cX10_isLetter 1 RX10 wsX10_isLetter rm_X10_isLetter (some .boolean) (some (.int rr)) σr) {σ : Mm} {v0 : Int32}  (hf : f_M_isLetter σ v0 = some (rr, σr)) : X LM Γ ad σ 0 [(0, .int v0)] [] := by
  unfold f_M_isLetter at hf
  refine x_iload_n O 0 dX10_isLetter_0 rfl rfl ?_
  refine x_bipush O (v := 119) dX10_isLetter_1 (by decide) ?_
  refine x_icmp_eq O 36 hf dX10_isLetter_3 (by decide) (fun hf => ?_) (fun hf => ?_)
  · refine x_iconst O (v := 1) dX10_isLetter_36 (by decide) ?_
    refine x_goto O 41 dX10_isLetter_37 (by decide) ?_
    have hk : (1, σ) = (rr, σr) := Option.some.inj hf
    obtain ⟨rfl, rfl⟩ := Prod.mk.inj hk
    exact x_iret O rfl rfl ⟨_, rfl, rfl⟩ dX10_isLetter_41
  · refine x_iload_n O 0 dX10_isLetter_6 rfl rfl ?_
    refine x_bipush O (v := 114) dX10_isLetter_7 (by decide) ?_
    refine x_icmp_eq O 36 hf dX10_isLetter_9 (by decide) (fun hf => ?_) (fun hf => ?_)
    · refine x_iconst O (v := 1) dX10_isLetter_36 (by decide) ?_
      refine x_goto O 41 dX10_isLetter_37 (by decide) ?_
      have hk : (1, σ) = (rr, σr) := Option.some.inj hf
      obtain ⟨rfl, rfl⟩ := Prod.mk.inj hk
      exact x_iret O rfl rfl ⟨_, rfl, rfl⟩ dX10_isLetter_41
    · refine x_iload_n O 0 dX10_isLetter_12 rfl rfl ?_
      refine x_bipush O (v := 120) dX10_isLetter_13 (by decide) ?_
      refine x_icmp_eq O 36 hf dX10_isLetter_15 (by decide) (fun hf => ?_) (fun hf => ?_)
      · refine x_iconst O (v := 1) dX10_isLetter_36 (by decide) ?_
        refine x_goto O 41 dX10_isLetter_37 (by decide) ?_
        have hk : (1, σ) = (rr, σr) := Option.some.inj hf
        obtain ⟨rfl, rfl⟩ := Prod.mk.inj hk
        exact x_iret O rfl rfl ⟨_, rfl, rfl⟩ dX10_isLetter_41
      · refine x_iload_n O 0 dX10_isLetter_18 rfl rfl ?_
        refine x_bipush O (v := 98) dX10_isLetter_19 (by decide) ?_
        refine x_icmp_eq O 36 hf dX10_isLetter_21 (by decide) (fun hf => ?_) (fun hf => ?_)
        · refine x_iconst O (v := 1) dX10_isLetter_36 (by decide) ?_
          refine x_goto O 41 dX10_isLetter_37 (by decide) ?_
          have hk : (1, σ) = (rr, σr) := Option.some.inj hf
          obtain ⟨rfl, rfl⟩ := Prod.mk.inj hk
          exact x_iret O rfl rfl ⟨_, rfl, rfl⟩ dX10_isLetter_41
        · refine x_iload_n O 0 dX10_isLetter_24 rfl rfl ?_
          refine x_bipush O (v := 107) dX10_isLetter_25 (by decide) ?_
          refine x_icmp_eq O 36 hf dX10_isLetter_27 (by decide) (fun hf => ?_) (fun hf => ?_)
          · refine x_iconst O (v := 1) dX10_isLetter_36 (by decide) ?_
            refine x_goto O 41 dX10_isLetter_37 (by decide) ?_
            have hk : (1, σ) = (rr, σr) := Option.some.inj hf
            obtain ⟨rfl, rfl⟩ := Prod.mk.inj hk
            exact x_iret O rfl rfl ⟨_, rfl, rfl⟩ dX10_isLetter_41
          · refine x_iload_n O 0 dX10_isLetter_30 rfl rfl ?_
            refine x_bipush O (v := 106) dX10_isLetter_31 (by decide) ?_
            refine x_icmp_ne O 40 hf dX10_isLetter_33 (by decide) (fun hf => ?_) (fun hf => ?_)
            · refine x_iconst O (v := 0) dX10_isLetter_40 (by decide) ?_
              have hk : (0, σ) = (rr, σr) := Option.some.inj hf
              obtain ⟨rfl, rfl⟩ := Prod.mk.inj hk
              exact x_iret O rfl rfl ⟨_, rfl, rfl⟩ dX10_isLetter_41
            · refine x_iconst O (v := 1) dX10_isLetter_36 (by decide) ?_
              refine x_goto O 41 dX10_isLetter_37 (by decide) ?_
              have hk : (1, σ) = (rr, σr) := Option.some.inj hf
              obtain ⟨rfl, rfl⟩ := Prod.mk.inj hk
              exact x_iret O rfl rfl ⟨_, rfl, rfl⟩ dX10_isLetter_41
theorem k_M_isLetter {σ σr : Mm} {rr : Int32} {v0 : Int32}  (hf : f_M_isLetter σ v0 = some (rr, σr)) : CT LM yX10_isLetter wsX10_isLetter rm_X10_isLetter (fun ad => [.int v0]) σ (some (.int rr)) σr := CT_of2 (cc := cX10_isLetter) (maxL := 1) (rt := (some .boolean)) (own := RX10) (by decide) rfl rfl (fun _ => Nat.le_of_ble_eq_true rfl) (fun _ => rfl) (fun Γ ad O => v_M_isLetter O  hf)

-- ===== TippedBarrowModel.advances()V
theorem ca_X10_advances : Ca yX10_advances cX10_advances 2 none wsX10_advances rm_X10_advances 0 := ⟨⟨_, rfl⟩, rfl, rfl, by decide +kernel, by decide +kernel, by decide +kernel⟩
theorem in_X10_advances_X10 : ∀ w ∈ wsX100, w ∈ wsX10_advances := by decide +kernel
theorem fl_X10_advances_67 : Fl RX10 wsX10_advances 67 10 4 false .int := ⟨_, _, _, tyX10, rfl, in_X10_advances_X10, by decide, by decide +kernel, tyX10_ok, nmX10, rfl, tyX10_ok 4 (by decide)⟩
theorem fl_X10_advances_74 : Fl RX10 wsX10_advances 74 10 6 false .int := ⟨_, _, _, tyX10, rfl, in_X10_advances_X10, by decide, by decide +kernel, tyX10_ok, nmX10, rfl, tyX10_ok 6 (by decide)⟩
theorem fl_X10_advances_77 : Fl RX10 wsX10_advances 77 10 5 false .int := ⟨_, _, _, tyX10, rfl, in_X10_advances_X10, by decide, by decide +kernel, tyX10_ok, nmX10, rfl, tyX10_ok 5 (by decide)⟩
theorem fl_X10_advances_80 : Fl RX10 wsX10_advances 80 10 7 false .int := ⟨_, _, _, tyX10, rfl, in_X10_advances_X10, by decide, by decide +kernel, tyX10_ok, nmX10, rfl, tyX10_ok 7 (by decide)⟩
set_option maxHeartbeats 4000000 in
set_option maxRecDepth 100000 in
theorem v_M_advances_219 {Γ : Cx} {ad : Nat → Nat} {rr : Int32} {σr : Mm} (O : Ok LM Γ ad cX10_advances 2 RX10 wsX10_advances rm_X10_advances none none σr) {σ : Mm} {s1 : Int32}  (hf : f_M_advances_219 σ s1 = some (rr, σr)) : X LM Γ ad σ 219 [] [.int s1, .ref (ad 0)] := by
  unfold f_M_advances_219 at hf
  refine x_putIN O hf rfl rfl fl_X10_advances_77 rfl dX10_advances_219 (fun σ1 hf => ?_)
  have hk : ((0 : Int32), σ1) = (rr, σr) := Option.some.inj hf
  obtain ⟨rfl, rfl⟩ := Prod.mk.inj hk
  exact x_vret O rfl rfl rfl dX10_advances_222
set_option maxHeartbeats 4000000 in
set_option maxRecDepth 100000 in
theorem v_M_advances_175 {Γ : Cx} {ad : Nat → Nat} {rr : Int32} {σr : Mm} (O : Ok LM Γ ad cX10_advances 2 RX10 wsX10_advances rm_X10_advances none none σr) {σ : Mm} {s1 : Int32}  (hf : f_M_advances_175 σ s1 = some (rr, σr)) : X LM Γ ad σ 175 [] [.int s1, .ref (ad 0)] := by
  unfold f_M_advances_175 at hf
  refine x_putIN O hf rfl rfl fl_X10_advances_77 rfl dX10_advances_175 (fun σ1 hf => ?_)
  refine x_goto O 222 dX10_advances_178 (by decide) ?_
  have hk : ((0 : Int32), σ1) = (rr, σr) := Option.some.inj hf
  obtain ⟨rfl, rfl⟩ := Prod.mk.inj hk
  exact x_vret O rfl rfl rfl dX10_advances_222
set_option maxHeartbeats 4000000 in
set_option maxRecDepth 100000 in
theorem v_M_advances_174 {Γ : Cx} {ad : Nat → Nat} {rr : Int32} {σr : Mm} (O : Ok LM Γ ad cX10_advances 2 RX10 wsX10_advances rm_X10_advances none none σr) {σ : Mm}   (hf : f_M_advances_174 σ = some (rr, σr)) : X LM Γ ad σ 174 [] [.ref (ad 0)] := by
  unfold f_M_advances_174 at hf
  refine x_iconst O (v := 2) dX10_advances_174 (by decide) ?_
  exact x_jmp O (v_M_advances_175 O (σ := σ) (s1 := 2)  hf) rfl
set_option maxHeartbeats 4000000 in
set_option maxRecDepth 100000 in
theorem v_M_advances_170 {Γ : Cx} {ad : Nat → Nat} {rr : Int32} {σr : Mm} (O : Ok LM Γ ad cX10_advances 2 RX10 wsX10_advances rm_X10_advances none none σr) {σ : Mm}   (hf : f_M_advances_170 σ = some (rr, σr)) : X LM Γ ad σ 170 [] [.ref (ad 0)] := by
  unfold f_M_advances_170 at hf
  refine x_iconst O (v := 4) dX10_advances_170 (by decide) ?_
  refine x_goto O 175 dX10_advances_171 (by decide) ?_
  exact x_jmp O (v_M_advances_175 O (σ := σ) (s1 := 4)  hf) rfl
set_option maxHeartbeats 4000000 in
set_option maxRecDepth 100000 in
theorem v_M_advances_141 {Γ : Cx} {ad : Nat → Nat} {rr : Int32} {σr : Mm} (O : Ok LM Γ ad cX10_advances 2 RX10 wsX10_advances rm_X10_advances none none σr) {σ : Mm} {v1 : Int32}  (hf : f_M_advances_141 σ v1 = some (rr, σr)) : X LM Γ ad σ 141 [(0, .ref (ad 0)), (1, .int v1)] [] := by
  unfold f_M_advances_141 at hf
  refine x_aload_n O 0 dX10_advances_141 rfl rfl ?_
  refine x_aload_n O 0 dX10_advances_142 rfl rfl ?_
  refine x_getI O fl_X10_advances_80 rfl dX10_advances_143 ?_
  refine x_bipush O (v := 99) dX10_advances_146 (by decide) ?_
  refine x_icmp_gt O 170 hf dX10_advances_148 (by decide) (fun hf => ?_) (fun hf => ?_)
  · exact x_jmp O (v_M_advances_170 O (σ := σ)   hf) rfl
  · refine x_iload_n O 1 dX10_advances_151 rfl rfl ?_
    refine x_bipush O (v := 48) dX10_advances_152 (by decide) ?_
    refine x_icmp_ne O 174 hf dX10_advances_154 (by decide) (fun hf => ?_) (fun hf => ?_)
    · exact x_jmp O (v_M_advances_174 O (σ := σ)   hf) rfl
    · refine x_aload_n O 0 dX10_advances_157 rfl rfl ?_
      refine x_getI O fl_X10_advances_67 rfl dX10_advances_158 ?_
      refine x_aload_n O 0 dX10_advances_161 rfl rfl ?_
      refine x_getI O fl_X10_advances_74 rfl dX10_advances_162 ?_
      refine x_isub O dX10_advances_165 ?_
      refine x_iconst O (v := 1) dX10_advances_166 (by decide) ?_
      refine x_icmp_le O 174 hf dX10_advances_167 (by decide) (fun hf => ?_) (fun hf => ?_)
      · exact x_jmp O (v_M_advances_174 O (σ := σ)   hf) rfl
      · exact x_jmp O (v_M_advances_170 O (σ := σ)   hf) rfl
set_option maxHeartbeats 4000000 in
set_option maxRecDepth 100000 in
theorem v_M_advances_125 {Γ : Cx} {ad : Nat → Nat} {rr : Int32} {σr : Mm} (O : Ok LM Γ ad cX10_advances 2 RX10 wsX10_advances rm_X10_advances none none σr) {σ : Mm} {v1 : Int32} {s1 : Int32}  {x : (Mm) ⊕ (Int32 × Mm)} (hf : f_M_advances_125 σ s1 = some x) (hk : (kx (fun s : Mm => X LM Γ ad s 71 [(0, .ref (ad 0)), (1, .int v1)] []) (fun q : Int32 × Mm => q = (rr, σr))) x) : X LM Γ ad σ 125 [(0, .ref (ad 0)), (1, .int v1)] [.int s1, .ref (ad 0)] := by
  unfold f_M_advances_125 at hf
  refine x_putIN O hf rfl rfl fl_X10_advances_80 rfl dX10_advances_125 (fun σ1 hf => ?_)
  refine x_aload_n O 0 dX10_advances_128 rfl rfl ?_
  refine x_dup O dX10_advances_129 rfl ?_
  refine x_getI O fl_X10_advances_67 rfl dX10_advances_130 ?_
  refine x_iconst O (v := 1) dX10_advances_133 (by decide) ?_
  refine x_iadd O dX10_advances_134 ?_
  refine x_putIN O hf rfl rfl fl_X10_advances_67 rfl dX10_advances_135 (fun σ2 hf => ?_)
  refine x_goto O 71 dX10_advances_138 (by decide) ?_
  obtain rfl := Option.some.inj hf
  have hk := kx_l hk
  exact x_jmp O hk rfl
set_option maxHeartbeats 4000000 in
set_option maxRecDepth 100000 in
theorem v_M_advances_71_b {Γ : Cx} {ad : Nat → Nat} {rr : Int32} {σr : Mm} (O : Ok LM Γ ad cX10_advances 2 RX10 wsX10_advances rm_X10_advances none none σr) {σ : Mm} {v1 : Int32}  {x : (Mm) ⊕ (Int32 × Mm)} (hf : f_M_advances_71_b v1 σ = some x) (hk : (kx (fun s : Mm => X LM Γ ad s 71 [(0, .ref (ad 0)), (1, .int v1)] []) (fun q : Int32 × Mm => q = (rr, σr))) x) : X LM Γ ad σ 71 [(0, .ref (ad 0)), (1, .int v1)] [] := by
  unfold f_M_advances_71_b at hf
  refine x_aload_n O 0 dX10_advances_71 rfl rfl ?_
  refine x_aload_n O 0 dX10_advances_72 rfl rfl ?_
  refine x_getI O fl_X10_advances_67 rfl dX10_advances_73 ?_
  obtain ⟨r_1, σ1, hc, hf⟩ := bd_some hf
  refine x_callV O (k_M_letterAt  hc) ca_X10_letterAt gX10_advances_X10_letterAt rfl ⟨_, _, _, _, rfl, rfl⟩ rfl rfl rfl (Nat.le_of_ble_eq_true rfl) ⟨Nat.le_of_ble_eq_true rfl, Nat.le_of_ble_eq_true rfl⟩ dX10_advances_76 ?_
  refine x_push O ?_
  refine x_bipush O (v := 48) dX10_advances_79 (by decide) ?_
  refine x_bipush O (v := 57) dX10_advances_81 (by decide) ?_
  obtain ⟨r_2, σ2, hc, hf⟩ := bd_some hf
  refine x_callS O (k_M_in  hc) ca_X10_in gX10_advances_X10_in rfl rfl rfl (Nat.le_of_ble_eq_true rfl) ⟨Nat.le_of_ble_eq_true rfl, Nat.le_of_ble_eq_true rfl⟩ dX10_advances_83 ?_
  refine x_push O ?_
  refine x_if_eq O 141 hf dX10_advances_86 (by decide) (fun hf => ?_) (fun hf => ?_)
  · obtain ⟨x', hg1, hx⟩ := map_inr hf
    subst hx
    have hk := kx_r hk
    have hx : x' = (rr, σr) := hk
    subst hx
    have hf := hg1
    exact x_jmp O (v_M_advances_141 O (σ := σ2) (v1 := v1)  hf) rfl
  · refine x_aload_n O 0 dX10_advances_89 rfl rfl ?_
    refine x_aload_n O 0 dX10_advances_90 rfl rfl ?_
    refine x_getI O fl_X10_advances_80 rfl dX10_advances_91 ?_
    refine x_bipush O (v := 99) dX10_advances_94 (by decide) ?_
    refine x_icmp_le O 106 hf dX10_advances_96 (by decide) (fun hf => ?_) (fun hf => ?_)
    · refine x_bipush O (v := 10) dX10_advances_106 (by decide) ?_
      refine x_aload_n O 0 dX10_advances_108 rfl rfl ?_
      refine x_getI O fl_X10_advances_80 rfl dX10_advances_109 ?_
      refine x_imul O dX10_advances_112 ?_
      refine x_aload_n O 0 dX10_advances_113 rfl rfl ?_
      refine x_aload_n O 0 dX10_advances_114 rfl rfl ?_
      refine x_getI O fl_X10_advances_67 rfl dX10_advances_115 ?_
      obtain ⟨r_3, σ3, hc, hf⟩ := bd_some hf
      refine x_callV O (k_M_letterAt  hc) ca_X10_letterAt gX10_advances_X10_letterAt rfl ⟨_, _, _, _, rfl, rfl⟩ rfl rfl rfl (Nat.le_of_ble_eq_true rfl) ⟨Nat.le_of_ble_eq_true rfl, Nat.le_of_ble_eq_true rfl⟩ dX10_advances_118 ?_
      refine x_push O ?_
      refine x_iadd O dX10_advances_121 ?_
      refine x_bipush O (v := 48) dX10_advances_122 (by decide) ?_
      refine x_isub O dX10_advances_124 ?_
      exact x_jmp O (v_M_advances_125 O (σ := σ3) (v1 := v1) (s1 := (((10 * (gI σ2 0 7)) + r_3) - 48))  hf hk) rfl
    · refine x_aload_n O 0 dX10_advances_99 rfl rfl ?_
      refine x_getI O fl_X10_advances_80 rfl dX10_advances_100 ?_
      refine x_goto O 125 dX10_advances_103 (by decide) ?_
      exact x_jmp O (v_M_advances_125 O (σ := σ2) (v1 := v1) (s1 := (gI σ2 0 7))  hf hk) rfl
set_option maxHeartbeats 4000000 in
set_option maxRecDepth 100000 in
theorem v_M_advances_71 {Γ : Cx} {ad : Nat → Nat} {rr : Int32} {σr : Mm} (O : Ok LM Γ ad cX10_advances 2 RX10 wsX10_advances rm_X10_advances none none σr) {σ : Mm} {v1 : Int32}  (hf : f_M_advances_71 σ v1 = some (rr, σr)) : X LM Γ ad σ 71 [(0, .ref (ad 0)), (1, .int v1)] [] := lpX (P := (fun s : Mm => X LM Γ ad s 71 [(0, .ref (ad 0)), (1, .int v1)] [])) (K := (fun q : Int32 × Mm => q = (rr, σr))) (fun s x g1 g2 => v_M_advances_71_b O (σ := s) (v1 := v1)   g1 g2) σ _ hf rfl
set_option maxHeartbeats 4000000 in
set_option maxRecDepth 100000 in
theorem v_M_advances_26 {Γ : Cx} {ad : Nat → Nat} {rr : Int32} {σr : Mm} (O : Ok LM Γ ad cX10_advances 2 RX10 wsX10_advances rm_X10_advances none none σr) {σ : Mm}   (hf : f_M_advances_26 σ = some (rr, σr)) : X LM Γ ad σ 26 [(0, .ref (ad 0))] [] := by
  unfold f_M_advances_26 at hf
  refine x_aload_n O 0 dX10_advances_26 rfl rfl ?_
  refine x_aload_n O 0 dX10_advances_27 rfl rfl ?_
  refine x_getI O fl_X10_advances_67 rfl dX10_advances_28 ?_
  refine x_putIN O hf rfl rfl fl_X10_advances_74 rfl dX10_advances_31 (fun σ1 hf => ?_)
  refine x_aload_n O 0 dX10_advances_34 rfl rfl ?_
  refine x_aload_n O 0 dX10_advances_35 rfl rfl ?_
  refine x_getI O fl_X10_advances_67 rfl dX10_advances_36 ?_
  obtain ⟨r_1, σ2, hc, hf⟩ := bd_some hf
  refine x_callV O (k_M_letterAt  hc) ca_X10_letterAt gX10_advances_X10_letterAt rfl ⟨_, _, _, _, rfl, rfl⟩ rfl rfl rfl (Nat.le_of_ble_eq_true rfl) ⟨Nat.le_of_ble_eq_true rfl, Nat.le_of_ble_eq_true rfl⟩ dX10_advances_39 ?_
  refine x_push O ?_
  refine x_istore_n O 1 dX10_advances_42 rfl (by decide) ?_
  refine x_iload_n O 1 dX10_advances_43 rfl rfl ?_
  refine x_if_ge O 55 hf dX10_advances_44 (by decide) (fun hf => ?_) (fun hf => ?_)
  · refine x_iload_n O 1 dX10_advances_55 rfl rfl ?_
    refine x_bipush O (v := 48) dX10_advances_56 (by decide) ?_
    refine x_bipush O (v := 57) dX10_advances_58 (by decide) ?_
    obtain ⟨r_2, σ3, hc, hf⟩ := bd_some hf
    refine x_callS O (k_M_in  hc) ca_X10_in gX10_advances_X10_in rfl rfl rfl (Nat.le_of_ble_eq_true rfl) ⟨Nat.le_of_ble_eq_true rfl, Nat.le_of_ble_eq_true rfl⟩ dX10_advances_60 ?_
    refine x_push O ?_
    refine x_if_eq O 181 hf dX10_advances_63 (by decide) (fun hf => ?_) (fun hf => ?_)
    · refine x_aload_n O 0 dX10_advances_181 rfl rfl ?_
      refine x_dup O dX10_advances_182 rfl ?_
      refine x_getI O fl_X10_advances_67 rfl dX10_advances_183 ?_
      refine x_iconst O (v := 1) dX10_advances_186 (by decide) ?_
      refine x_iadd O dX10_advances_187 ?_
      refine x_putIN O hf rfl rfl fl_X10_advances_67 rfl dX10_advances_188 (fun σ4 hf => ?_)
      refine x_aload_n O 0 dX10_advances_191 rfl rfl ?_
      refine x_iload_n O 1 dX10_advances_192 rfl rfl ?_
      refine x_putIN O hf rfl rfl fl_X10_advances_80 rfl dX10_advances_193 (fun σ5 hf => ?_)
      refine x_aload_n O 0 dX10_advances_196 rfl rfl ?_
      refine x_iload_n O 1 dX10_advances_197 rfl rfl ?_
      refine x_bipush O (v := 59) dX10_advances_198 (by decide) ?_
      refine x_icmp_ne O 207 hf dX10_advances_200 (by decide) (fun hf => ?_) (fun hf => ?_)
      · refine x_iload_n O 1 dX10_advances_207 rfl rfl ?_
        obtain ⟨r_3, σ6, hc, hf⟩ := bd_some hf
        refine x_callS O (k_M_isLetter  hc) ca_X10_isLetter gX10_advances_X10_isLetter rfl rfl rfl (Nat.le_of_ble_eq_true rfl) ⟨Nat.le_of_ble_eq_true rfl, Nat.le_of_ble_eq_true rfl⟩ dX10_advances_208 ?_
        refine x_push O ?_
        refine x_if_eq O 218 hf dX10_advances_211 (by decide) (fun hf => ?_) (fun hf => ?_)
        · refine x_iconst O (v := 4) dX10_advances_218 (by decide) ?_
          exact x_jmp O (v_M_advances_219 O (σ := σ6) (s1 := 4)  hf) rfl
        · refine x_iconst O (v := 1) dX10_advances_214 (by decide) ?_
          refine x_goto O 219 dX10_advances_215 (by decide) ?_
          exact x_jmp O (v_M_advances_219 O (σ := σ6) (s1 := 1)  hf) rfl
      · refine x_iconst O (v := 3) dX10_advances_203 (by decide) ?_
        refine x_goto O 219 dX10_advances_204 (by decide) ?_
        exact x_jmp O (v_M_advances_219 O (σ := σ5) (s1 := 3)  hf) rfl
    · refine x_aload_n O 0 dX10_advances_66 rfl rfl ?_
      refine x_iconst O (v := 0) dX10_advances_67 (by decide) ?_
      refine x_putIN O hf rfl rfl fl_X10_advances_80 rfl dX10_advances_68 (fun σ7 hf => ?_)
      exact x_jmp O (v_M_advances_71 O (σ := σ7) (v1 := r_1)  hf) rfl
  · refine x_aload_n O 0 dX10_advances_47 rfl rfl ?_
    refine x_iconst O (v := 0) dX10_advances_48 (by decide) ?_
    refine x_putIN O hf rfl rfl fl_X10_advances_77 rfl dX10_advances_49 (fun σ8 hf => ?_)
    refine x_goto O 222 dX10_advances_52 (by decide) ?_
    have hk : ((0 : Int32), σ8) = (rr, σr) := Option.some.inj hf
    obtain ⟨rfl, rfl⟩ := Prod.mk.inj hk
    exact x_vret O rfl rfl rfl dX10_advances_222
set_option maxHeartbeats 4000000 in
set_option maxRecDepth 100000 in
theorem v_M_advances_0_b {Γ : Cx} {ad : Nat → Nat} {rr : Int32} {σr : Mm} (O : Ok LM Γ ad cX10_advances 2 RX10 wsX10_advances rm_X10_advances none none σr) {σ : Mm}   {x : (Mm) ⊕ (Int32 × Mm)} (hf : f_M_advances_0_b σ = some x) (hk : (kx (fun s : Mm => X LM Γ ad s 0 [(0, .ref (ad 0))] []) (fun q : Int32 × Mm => q = (rr, σr))) x) : X LM Γ ad σ 0 [(0, .ref (ad 0))] [] := by
  unfold f_M_advances_0_b at hf
  refine x_aload_n O 0 dX10_advances_0 rfl rfl ?_
  refine x_aload_n O 0 dX10_advances_1 rfl rfl ?_
  refine x_getI O fl_X10_advances_67 rfl dX10_advances_2 ?_
  obtain ⟨r_1, σ1, hc, hf⟩ := bd_some hf
  refine x_callV O (k_M_letterAt  hc) ca_X10_letterAt gX10_advances_X10_letterAt rfl ⟨_, _, _, _, rfl, rfl⟩ rfl rfl rfl (Nat.le_of_ble_eq_true rfl) ⟨Nat.le_of_ble_eq_true rfl, Nat.le_of_ble_eq_true rfl⟩ dX10_advances_5 ?_
  refine x_push O ?_
  refine x_bipush O (v := 32) dX10_advances_8 (by decide) ?_
  refine x_icmp_ne O 26 hf dX10_advances_10 (by decide) (fun hf => ?_) (fun hf => ?_)
  · obtain ⟨x', hg1, hx⟩ := map_inr hf
    subst hx
    have hk := kx_r hk
    have hx : x' = (rr, σr) := hk
    subst hx
    have hf := hg1
    exact x_jmp O (v_M_advances_26 O (σ := σ1)   hf) rfl
  · refine x_aload_n O 0 dX10_advances_13 rfl rfl ?_
    refine x_dup O dX10_advances_14 rfl ?_
    refine x_getI O fl_X10_advances_67 rfl dX10_advances_15 ?_
    refine x_iconst O (v := 1) dX10_advances_18 (by decide) ?_
    refine x_iadd O dX10_advances_19 ?_
    refine x_putIN O hf rfl rfl fl_X10_advances_67 rfl dX10_advances_20 (fun σ2 hf => ?_)
    refine x_goto O 0 dX10_advances_23 (by decide) ?_
    obtain rfl := Option.some.inj hf
    have hk := kx_l hk
    exact x_jmp O hk rfl
set_option maxHeartbeats 4000000 in
set_option maxRecDepth 100000 in
theorem v_M_advances_0 {Γ : Cx} {ad : Nat → Nat} {rr : Int32} {σr : Mm} (O : Ok LM Γ ad cX10_advances 2 RX10 wsX10_advances rm_X10_advances none none σr) {σ : Mm}   (hf : f_M_advances_0 σ = some (rr, σr)) : X LM Γ ad σ 0 [(0, .ref (ad 0))] [] := lpX (P := (fun s : Mm => X LM Γ ad s 0 [(0, .ref (ad 0))] [])) (K := (fun q : Int32 × Mm => q = (rr, σr))) (fun s x g1 g2 => v_M_advances_0_b O (σ := s)    g1 g2) σ _ hf rfl
set_option maxHeartbeats 4000000 in
set_option maxRecDepth 100000 in
theorem v_M_advances {Γ : Cx} {ad : Nat → Nat} {rr : Int32} {σr : Mm} (O : Ok LM Γ ad cX10_advances 2 RX10 wsX10_advances rm_X10_advances none none σr) {σ : Mm}   (hf : f_M_advances σ = some (rr, σr)) : X LM Γ ad σ 0 [(0, .ref (ad 0))] [] := by
  unfold f_M_advances at hf
  exact x_jmp O (v_M_advances_0 O (σ := σ)   hf) rfl
theorem k_M_advances {σ σr : Mm} {rr : Int32}   (hf : f_M_advances σ = some (rr, σr)) : CT LM yX10_advances wsX10_advances rm_X10_advances (fun ad => [.ref (ad 0)]) σ none σr := CT_of2 (cc := cX10_advances) (maxL := 2) (rt := none) (own := RX10) (by decide) rfl rfl (fun _ => Nat.le_of_ble_eq_true rfl) (fun _ => rfl) (fun Γ ad O => v_M_advances O  hf)

-- ===== TippedBarrowModel.isWell()Z
theorem ca_X10_isWell : Ca yX10_isWell cX10_isWell 1 (some .boolean) wsX10_isWell rm_X10_isWell 0 := ⟨⟨_, rfl⟩, rfl, rfl, by decide +kernel, by decide +kernel, by decide +kernel⟩
theorem in_X10_isWell_X10 : ∀ w ∈ wsX100, w ∈ wsX10_isWell := by decide +kernel
theorem fl_X10_isWell_87 : Fl RX10 wsX10_isWell 87 10 8 false .int := ⟨_, _, _, tyX10, rfl, in_X10_isWell_X10, by decide, by decide +kernel, tyX10_ok, nmX10, rfl, tyX10_ok 8 (by decide)⟩
set_option maxHeartbeats 4000000 in
set_option maxRecDepth 100000 in
theorem v_M_isWell {Γ : Cx} {ad : Nat → Nat} {rr : Int32} {σr : Mm} (O : Ok LM Γ ad cX10_isWell 1 RX10 wsX10_isWell rm_X10_isWell (some .boolean) (some (.int rr)) σr) {σ : Mm}   (hf : f_M_isWell σ = some (rr, σr)) : X LM Γ ad σ 0 [(0, .ref (ad 0))] [] := by
  unfold f_M_isWell at hf
  refine x_aload_n O 0 dX10_isWell_0 rfl rfl ?_
  refine x_getI O fl_X10_isWell_87 rfl dX10_isWell_1 ?_
  refine x_if_ge O 11 hf dX10_isWell_4 (by decide) (fun hf => ?_) (fun hf => ?_)
  · refine x_iconst O (v := 0) dX10_isWell_11 (by decide) ?_
    have hk : (0, σ) = (rr, σr) := Option.some.inj hf
    obtain ⟨rfl, rfl⟩ := Prod.mk.inj hk
    exact x_iret O rfl rfl ⟨_, rfl, rfl⟩ dX10_isWell_12
  · refine x_iconst O (v := 1) dX10_isWell_7 (by decide) ?_
    refine x_goto O 12 dX10_isWell_8 (by decide) ?_
    have hk : (1, σ) = (rr, σr) := Option.some.inj hf
    obtain ⟨rfl, rfl⟩ := Prod.mk.inj hk
    exact x_iret O rfl rfl ⟨_, rfl, rfl⟩ dX10_isWell_12
theorem k_M_isWell {σ σr : Mm} {rr : Int32}   (hf : f_M_isWell σ = some (rr, σr)) : CT LM yX10_isWell wsX10_isWell rm_X10_isWell (fun ad => [.ref (ad 0)]) σ (some (.int rr)) σr := CT_of2 (cc := cX10_isWell) (maxL := 1) (rt := (some .boolean)) (own := RX10) (by decide) rfl rfl (fun _ => Nat.le_of_ble_eq_true rfl) (fun _ => rfl) (fun Γ ad O => v_M_isWell O  hf)

-- ===== TippedBarrowModel.takes(Z)I
theorem ca_X10_takes : Ca yX10_takes cX10_takes 3 (some .int) wsX10_takes rm_X10_takes 1 := ⟨⟨_, rfl⟩, rfl, rfl, by decide +kernel, by decide +kernel, by decide +kernel⟩
theorem in_X10_takes_X10 : ∀ w ∈ wsX100, w ∈ wsX10_takes := by decide +kernel
theorem fl_X10_takes_74 : Fl RX10 wsX10_takes 74 10 6 false .int := ⟨_, _, _, tyX10, rfl, in_X10_takes_X10, by decide, by decide +kernel, tyX10_ok, nmX10, rfl, tyX10_ok 6 (by decide)⟩
theorem fl_X10_takes_80 : Fl RX10 wsX10_takes 80 10 7 false .int := ⟨_, _, _, tyX10, rfl, in_X10_takes_X10, by decide, by decide +kernel, tyX10_ok, nmX10, rfl, tyX10_ok 7 (by decide)⟩
theorem fl_X10_takes_87 : Fl RX10 wsX10_takes 87 10 8 false .int := ⟨_, _, _, tyX10, rfl, in_X10_takes_X10, by decide, by decide +kernel, tyX10_ok, nmX10, rfl, tyX10_ok 8 (by decide)⟩
set_option maxHeartbeats 4000000 in
set_option maxRecDepth 100000 in
theorem v_M_takes {Γ : Cx} {ad : Nat → Nat} {rr : Int32} {σr : Mm} (O : Ok LM Γ ad cX10_takes 3 RX10 wsX10_takes rm_X10_takes (some .int) (some (.int rr)) σr) {σ : Mm} {v1 : Int32}  (hf : f_M_takes σ v1 = some (rr, σr)) : X LM Γ ad σ 0 [(0, .ref (ad 0)), (1, .int v1)] [] := by
  unfold f_M_takes at hf
  refine x_aload_n O 0 dX10_takes_0 rfl rfl ?_
  obtain ⟨r_1, σ1, hc, hf⟩ := bd_some hf
  refine x_callV O (k_M_isWell  hc) ca_X10_isWell gX10_takes_X10_isWell rfl ⟨_, _, _, _, rfl, rfl⟩ rfl rfl rfl (Nat.le_of_ble_eq_true rfl) ⟨Nat.le_of_ble_eq_true rfl, Nat.le_of_ble_eq_true rfl⟩ dX10_takes_1 ?_
  refine x_push O ?_
  refine x_if_ne O 9 hf dX10_takes_4 (by decide) (fun hf => ?_) (fun hf => ?_)
  · refine x_iload_n O 1 dX10_takes_9 rfl rfl ?_
    refine x_if_ne O 23 hf dX10_takes_10 (by decide) (fun hf => ?_) (fun hf => ?_)
    · refine x_aload_n O 0 dX10_takes_23 rfl rfl ?_
      refine x_getI O fl_X10_takes_80 rfl dX10_takes_24 ?_
      refine x_istore_nN O 2 hf dX10_takes_27 rfl (by decide) (fun y1 hf => ?_)
      refine x_aload_n O 0 dX10_takes_28 rfl rfl ?_
      obtain ⟨r_2, σ2, hc, hf⟩ := bd_some hf
      refine x_callV O (k_M_advances  hc) ca_X10_advances gX10_takes_X10_advances rfl ⟨_, _, _, _, rfl, rfl⟩ rfl rfl rfl (Nat.le_of_ble_eq_true rfl) ⟨Nat.le_of_ble_eq_true rfl, Nat.le_of_ble_eq_true rfl⟩ dX10_takes_29 ?_
      refine x_pushN O ?_
      refine x_iload_n O 2 dX10_takes_32 rfl rfl ?_
      have hk : (y1, σ2) = (rr, σr) := Option.some.inj hf
      obtain ⟨rfl, rfl⟩ := Prod.mk.inj hk
      exact x_iret O rfl rfl ⟨_, rfl, rfl⟩ dX10_takes_33
    · refine x_aload_n O 0 dX10_takes_13 rfl rfl ?_
      refine x_aload_n O 0 dX10_takes_14 rfl rfl ?_
      refine x_getI O fl_X10_takes_74 rfl dX10_takes_15 ?_
      refine x_putIN O hf rfl rfl fl_X10_takes_87 rfl dX10_takes_18 (fun σ3 hf => ?_)
      refine x_iconst O (v := 0) dX10_takes_21 (by decide) ?_
      have hk : (0, σ3) = (rr, σr) := Option.some.inj hf
      obtain ⟨rfl, rfl⟩ := Prod.mk.inj hk
      exact x_iret O rfl rfl ⟨_, rfl, rfl⟩ dX10_takes_22
  · refine x_iconst O (v := 0) dX10_takes_7 (by decide) ?_
    have hk : (0, σ1) = (rr, σr) := Option.some.inj hf
    obtain ⟨rfl, rfl⟩ := Prod.mk.inj hk
    exact x_iret O rfl rfl ⟨_, rfl, rfl⟩ dX10_takes_8
theorem k_M_takes {σ σr : Mm} {rr : Int32} {v1 : Int32}  (hf : f_M_takes σ v1 = some (rr, σr)) : CT LM yX10_takes wsX10_takes rm_X10_takes (fun ad => [.ref (ad 0), .int v1]) σ (some (.int rr)) σr := CT_of2 (cc := cX10_takes) (maxL := 3) (rt := (some .int)) (own := RX10) (by decide) rfl rfl (fun _ => Nat.le_of_ble_eq_true rfl) (fun _ => rfl) (fun Γ ad O => v_M_takes O  hf)

-- ===== TippedBarrowModel.number(II)I
theorem ca_X10_number : Ca yX10_number cX10_number 3 (some .int) wsX10_number rm_X10_number 2 := ⟨⟨_, rfl⟩, rfl, rfl, by decide +kernel, by decide +kernel, by decide +kernel⟩
theorem in_X10_number_X10 : ∀ w ∈ wsX100, w ∈ wsX10_number := by decide +kernel
theorem fl_X10_number_77 : Fl RX10 wsX10_number 77 10 5 false .int := ⟨_, _, _, tyX10, rfl, in_X10_number_X10, by decide, by decide +kernel, tyX10_ok, nmX10, rfl, tyX10_ok 5 (by decide)⟩
theorem fl_X10_number_80 : Fl RX10 wsX10_number 80 10 7 false .int := ⟨_, _, _, tyX10, rfl, in_X10_number_X10, by decide, by decide +kernel, tyX10_ok, nmX10, rfl, tyX10_ok 7 (by decide)⟩
set_option maxHeartbeats 4000000 in
set_option maxRecDepth 100000 in
theorem v_M_number_26 {Γ : Cx} {ad : Nat → Nat} {rr : Int32} {σr : Mm} (O : Ok LM Γ ad cX10_number 3 RX10 wsX10_number rm_X10_number (some .int) (some (.int rr)) σr) {σ : Mm} {s1 : Int32}  (hf : f_M_number_26 σ s1 = some (rr, σr)) : X LM Γ ad σ 26 [] [.int s1, .ref (ad 0)] := by
  unfold f_M_number_26 at hf
  obtain ⟨r_1, σ1, hc, hf⟩ := bd_some hf
  refine x_callV O (k_M_takes  hc) ca_X10_takes gX10_number_X10_takes rfl ⟨_, _, _, _, rfl, rfl⟩ rfl rfl rfl (Nat.le_of_ble_eq_true rfl) ⟨Nat.le_of_ble_eq_true rfl, Nat.le_of_ble_eq_true rfl⟩ dX10_number_26 ?_
  refine x_push O ?_
  have hk : (r_1, σ1) = (rr, σr) := Option.some.inj hf
  obtain ⟨rfl, rfl⟩ := Prod.mk.inj hk
  exact x_iret O rfl rfl ⟨_, rfl, rfl⟩ dX10_number_29
set_option maxHeartbeats 4000000 in
set_option maxRecDepth 100000 in
theorem v_M_number_25 {Γ : Cx} {ad : Nat → Nat} {rr : Int32} {σr : Mm} (O : Ok LM Γ ad cX10_number 3 RX10 wsX10_number rm_X10_number (some .int) (some (.int rr)) σr) {σ : Mm}   (hf : f_M_number_25 σ = some (rr, σr)) : X LM Γ ad σ 25 [] [.ref (ad 0)] := by
  unfold f_M_number_25 at hf
  refine x_iconst O (v := 0) dX10_number_25 (by decide) ?_
  exact x_jmp O (v_M_number_26 O (σ := σ) (s1 := 0)  hf) rfl
set_option maxHeartbeats 4000000 in
set_option maxRecDepth 100000 in
theorem v_M_number {Γ : Cx} {ad : Nat → Nat} {rr : Int32} {σr : Mm} (O : Ok LM Γ ad cX10_number 3 RX10 wsX10_number rm_X10_number (some .int) (some (.int rr)) σr) {σ : Mm} {v1 : Int32} {v2 : Int32}  (hf : f_M_number σ v1 v2 = some (rr, σr)) : X LM Γ ad σ 0 [(0, .ref (ad 0)), (1, .int v1), (2, .int v2)] [] := by
  unfold f_M_number at hf
  refine x_aload_n O 0 dX10_number_0 rfl rfl ?_
  refine x_aload_n O 0 dX10_number_1 rfl rfl ?_
  refine x_getI O fl_X10_number_77 rfl dX10_number_2 ?_
  refine x_iconst O (v := 2) dX10_number_5 (by decide) ?_
  refine x_icmp_ne O 25 hf dX10_number_6 (by decide) (fun hf => ?_) (fun hf => ?_)
  · exact x_jmp O (v_M_number_25 O (σ := σ)   hf) rfl
  · refine x_aload_n O 0 dX10_number_9 rfl rfl ?_
    refine x_getI O fl_X10_number_80 rfl dX10_number_10 ?_
    refine x_iload_n O 1 dX10_number_13 rfl rfl ?_
    refine x_iload_n O 2 dX10_number_14 rfl rfl ?_
    obtain ⟨r_1, σ1, hc, hf⟩ := bd_some hf
    refine x_callS O (k_M_in  hc) ca_X10_in gX10_number_X10_in rfl rfl rfl (Nat.le_of_ble_eq_true rfl) ⟨Nat.le_of_ble_eq_true rfl, Nat.le_of_ble_eq_true rfl⟩ dX10_number_15 ?_
    refine x_push O ?_
    refine x_if_eq O 25 hf dX10_number_18 (by decide) (fun hf => ?_) (fun hf => ?_)
    · exact x_jmp O (v_M_number_25 O (σ := σ1)   hf) rfl
    · refine x_iconst O (v := 1) dX10_number_21 (by decide) ?_
      refine x_goto O 26 dX10_number_22 (by decide) ?_
      exact x_jmp O (v_M_number_26 O (σ := σ1) (s1 := 1)  hf) rfl
theorem k_M_number {σ σr : Mm} {rr : Int32} {v1 : Int32} {v2 : Int32}  (hf : f_M_number σ v1 v2 = some (rr, σr)) : CT LM yX10_number wsX10_number rm_X10_number (fun ad => [.ref (ad 0), .int v1, .int v2]) σ (some (.int rr)) σr := CT_of2 (cc := cX10_number) (maxL := 3) (rt := (some .int)) (own := RX10) (by decide) rfl rfl (fun _ => Nat.le_of_ble_eq_true rfl) (fun _ => rfl) (fun Γ ad O => v_M_number O  hf)

-- ===== TippedBarrowModel.begins()V
theorem ca_X10_begins : Ca yX10_begins cX10_begins 1 none wsX10_begins rm_X10_begins 0 := ⟨⟨_, rfl⟩, rfl, rfl, by decide +kernel, by decide +kernel, by decide +kernel⟩
theorem in_X10_begins_X10 : ∀ w ∈ wsX100, w ∈ wsX10_begins := by decide +kernel
theorem fl_X10_begins_13 : Fl RX10 wsX10_begins 13 10 9 true (.array .int) := ⟨_, _, _, tyX10, rfl, in_X10_begins_X10, by decide, by decide +kernel, tyX10_ok, nmX10, rfl, tyX10_ok 9 (by decide)⟩
theorem fl_X10_begins_101 : Fl RX10 wsX10_begins 101 10 10 false .int := ⟨_, _, _, tyX10, rfl, in_X10_begins_X10, by decide, by decide +kernel, tyX10_ok, nmX10, rfl, tyX10_ok 10 (by decide)⟩
theorem fl_X10_begins_104 : Fl RX10 wsX10_begins 104 10 12 false .int := ⟨_, _, _, tyX10, rfl, in_X10_begins_X10, by decide, by decide +kernel, tyX10_ok, nmX10, rfl, tyX10_ok 12 (by decide)⟩
set_option maxHeartbeats 4000000 in
set_option maxRecDepth 100000 in
theorem v_M_begins {Γ : Cx} {ad : Nat → Nat} {rr : Int32} {σr : Mm} (O : Ok LM Γ ad cX10_begins 1 RX10 wsX10_begins rm_X10_begins none none σr) {σ : Mm}   (hf : f_M_begins σ = some (rr, σr)) : X LM Γ ad σ 0 [(0, .ref (ad 0))] [] := by
  unfold f_M_begins at hf
  refine x_aload_n O 0 dX10_begins_0 rfl rfl ?_
  refine x_iconst O (v := 0) dX10_begins_1 (by decide) ?_
  refine x_putIN O hf rfl rfl fl_X10_begins_101 rfl dX10_begins_2 (fun σ1 hf => ?_)
  refine x_aload_n O 0 dX10_begins_5 rfl rfl ?_
  refine x_iconst O (v := 0) dX10_begins_6 (by decide) ?_
  refine x_putIN O hf rfl rfl fl_X10_begins_104 rfl dX10_begins_7 (fun σ2 hf => ?_)
  refine x_aload_n O 0 dX10_begins_10 rfl rfl ?_
  refine x_getF O (t := 2) fl_X10_begins_13 rfl dX10_begins_11 ?_
  refine x_iconst O (v := 5) dX10_begins_14 (by decide) ?_
  refine x_iconst O (v := 0) dX10_begins_15 (by decide) ?_
  refine x_iastN O hf rfl dX10_begins_16 (fun σ3 hf => ?_)
  refine x_aload_n O 0 dX10_begins_17 rfl rfl ?_
  refine x_getF O (t := 2) fl_X10_begins_13 rfl dX10_begins_18 ?_
  refine x_bipush O (v := 6) dX10_begins_21 (by decide) ?_
  refine x_iconst O (v := 0) dX10_begins_23 (by decide) ?_
  refine x_iastN O hf rfl dX10_begins_24 (fun σ4 hf => ?_)
  refine x_aload_n O 0 dX10_begins_25 rfl rfl ?_
  refine x_getF O (t := 2) fl_X10_begins_13 rfl dX10_begins_26 ?_
  refine x_bipush O (v := 7) dX10_begins_29 (by decide) ?_
  refine x_bipush O (v := -9) dX10_begins_31 (by decide) ?_
  refine x_iastN O hf rfl dX10_begins_33 (fun σ5 hf => ?_)
  refine x_aload_n O 0 dX10_begins_34 rfl rfl ?_
  refine x_getF O (t := 2) fl_X10_begins_13 rfl dX10_begins_35 ?_
  refine x_bipush O (v := 8) dX10_begins_38 (by decide) ?_
  refine x_iconst O (v := 5) dX10_begins_40 (by decide) ?_
  refine x_iastN O hf rfl dX10_begins_41 (fun σ6 hf => ?_)
  refine x_aload_n O 0 dX10_begins_42 rfl rfl ?_
  refine x_getF O (t := 2) fl_X10_begins_13 rfl dX10_begins_43 ?_
  refine x_bipush O (v := 9) dX10_begins_46 (by decide) ?_
  refine x_iconst O (v := 0) dX10_begins_48 (by decide) ?_
  refine x_iastN O hf rfl dX10_begins_49 (fun σ7 hf => ?_)
  have hk : ((0 : Int32), σ7) = (rr, σr) := Option.some.inj hf
  obtain ⟨rfl, rfl⟩ := Prod.mk.inj hk
  exact x_vret O rfl rfl rfl dX10_begins_50
theorem k_M_begins {σ σr : Mm} {rr : Int32}   (hf : f_M_begins σ = some (rr, σr)) : CT LM yX10_begins wsX10_begins rm_X10_begins (fun ad => [.ref (ad 0)]) σ none σr := CT_of2 (cc := cX10_begins) (maxL := 1) (rt := none) (own := RX10) (by decide) rfl rfl (fun _ => Nat.le_of_ble_eq_true rfl) (fun _ => rfl) (fun Γ ad O => v_M_begins O  hf)

-- ===== TippedBarrowModel.bitOf(I)I
theorem ca_X10_bitOf : Ca yX10_bitOf cX10_bitOf 1 (some .int) wsX10_bitOf rm_X10_bitOf 1 := ⟨⟨_, rfl⟩, rfl, rfl, by decide +kernel, by decide +kernel, by decide +kernel⟩
set_option maxHeartbeats 4000000 in
set_option maxRecDepth 100000 in
theorem v_M_bitOf {Γ : Cx} {ad : Nat → Nat} {rr : Int32} {σr : Mm} (O : Ok LM Γ ad cX10_bitOf 1 RX10 wsX10_bitOf rm_X10_bitOf (some .int) (some (.int rr)) σr) {σ : Mm} {v0 : Int32}  (hf : f_M_bitOf σ v0 = some (rr, σr)) : X LM Γ ad σ 0 [(0, .int v0)] [] := by
  unfold f_M_bitOf at hf
  refine x_iload_n O 0 dX10_bitOf_0 rfl rfl ?_
  refine x_bipush O (v := 98) dX10_bitOf_1 (by decide) ?_
  refine x_icmp_ne O 10 hf dX10_bitOf_3 (by decide) (fun hf => ?_) (fun hf => ?_)
  · refine x_iload_n O 0 dX10_bitOf_10 rfl rfl ?_
    refine x_bipush O (v := 107) dX10_bitOf_11 (by decide) ?_
    refine x_icmp_ne O 20 hf dX10_bitOf_13 (by decide) (fun hf => ?_) (fun hf => ?_)
    · refine x_iconst O (v := 4) dX10_bitOf_20 (by decide) ?_
      have hk : (4, σ) = (rr, σr) := Option.some.inj hf
      obtain ⟨rfl, rfl⟩ := Prod.mk.inj hk
      exact x_iret O rfl rfl ⟨_, rfl, rfl⟩ dX10_bitOf_21
    · refine x_iconst O (v := 2) dX10_bitOf_16 (by decide) ?_
      refine x_goto O 21 dX10_bitOf_17 (by decide) ?_
      have hk : (2, σ) = (rr, σr) := Option.some.inj hf
      obtain ⟨rfl, rfl⟩ := Prod.mk.inj hk
      exact x_iret O rfl rfl ⟨_, rfl, rfl⟩ dX10_bitOf_21
  · refine x_iconst O (v := 1) dX10_bitOf_6 (by decide) ?_
    refine x_goto O 21 dX10_bitOf_7 (by decide) ?_
    have hk : (1, σ) = (rr, σr) := Option.some.inj hf
    obtain ⟨rfl, rfl⟩ := Prod.mk.inj hk
    exact x_iret O rfl rfl ⟨_, rfl, rfl⟩ dX10_bitOf_21
theorem k_M_bitOf {σ σr : Mm} {rr : Int32} {v0 : Int32}  (hf : f_M_bitOf σ v0 = some (rr, σr)) : CT LM yX10_bitOf wsX10_bitOf rm_X10_bitOf (fun ad => [.int v0]) σ (some (.int rr)) σr := CT_of2 (cc := cX10_bitOf) (maxL := 1) (rt := (some .int)) (own := RX10) (by decide) rfl rfl (fun _ => Nat.le_of_ble_eq_true rfl) (fun _ => rfl) (fun Γ ad O => v_M_bitOf O  hf)

-- ===== TippedBarrowModel.mayBegin(I)Z
theorem ca_X10_mayBegin : Ca yX10_mayBegin cX10_mayBegin 2 (some .boolean) wsX10_mayBegin rm_X10_mayBegin 1 := ⟨⟨_, rfl⟩, rfl, rfl, by decide +kernel, by decide +kernel, by decide +kernel⟩
theorem in_X10_mayBegin_X10 : ∀ w ∈ wsX100, w ∈ wsX10_mayBegin := by decide +kernel
theorem fl_X10_mayBegin_13 : Fl RX10 wsX10_mayBegin 13 10 9 true (.array .int) := ⟨_, _, _, tyX10, rfl, in_X10_mayBegin_X10, by decide, by decide +kernel, tyX10_ok, nmX10, rfl, tyX10_ok 9 (by decide)⟩
theorem fl_X10_mayBegin_80 : Fl RX10 wsX10_mayBegin 80 10 7 false .int := ⟨_, _, _, tyX10, rfl, in_X10_mayBegin_X10, by decide, by decide +kernel, tyX10_ok, nmX10, rfl, tyX10_ok 7 (by decide)⟩
theorem fl_X10_mayBegin_101 : Fl RX10 wsX10_mayBegin 101 10 10 false .int := ⟨_, _, _, tyX10, rfl, in_X10_mayBegin_X10, by decide, by decide +kernel, tyX10_ok, nmX10, rfl, tyX10_ok 10 (by decide)⟩
set_option maxHeartbeats 4000000 in
set_option maxRecDepth 100000 in
theorem v_M_mayBegin {Γ : Cx} {ad : Nat → Nat} {rr : Int32} {σr : Mm} (O : Ok LM Γ ad cX10_mayBegin 2 RX10 wsX10_mayBegin rm_X10_mayBegin (some .boolean) (some (.int rr)) σr) {σ : Mm} {v1 : Int32}  (hf : f_M_mayBegin σ v1 = some (rr, σr)) : X LM Γ ad σ 0 [(0, .ref (ad 0)), (1, .int v1)] [] := by
  unfold f_M_mayBegin at hf
  refine x_aload_n O 0 dX10_mayBegin_0 rfl rfl ?_
  refine x_getI O fl_X10_mayBegin_80 rfl dX10_mayBegin_1 ?_
  refine x_bipush O (v := 119) dX10_mayBegin_4 (by decide) ?_
  refine x_icmp_ne O 19 hf dX10_mayBegin_6 (by decide) (fun hf => ?_) (fun hf => ?_)
  · refine x_aload_n O 0 dX10_mayBegin_19 rfl rfl ?_
    refine x_getI O fl_X10_mayBegin_80 rfl dX10_mayBegin_20 ?_
    refine x_bipush O (v := 114) dX10_mayBegin_23 (by decide) ?_
    refine x_icmp_ne O 63 hf dX10_mayBegin_25 (by decide) (fun hf => ?_) (fun hf => ?_)
    · refine x_aload_n O 0 dX10_mayBegin_63 rfl rfl ?_
      refine x_getI O fl_X10_mayBegin_80 rfl dX10_mayBegin_64 ?_
      refine x_bipush O (v := 120) dX10_mayBegin_67 (by decide) ?_
      refine x_icmp_eq O 91 hf dX10_mayBegin_69 (by decide) (fun hf => ?_) (fun hf => ?_)
      · refine x_iconst O (v := 0) dX10_mayBegin_91 (by decide) ?_
        have hk : (0, σ) = (rr, σr) := Option.some.inj hf
        obtain ⟨rfl, rfl⟩ := Prod.mk.inj hk
        exact x_iret O rfl rfl ⟨_, rfl, rfl⟩ dX10_mayBegin_92
      · refine x_aload_n O 0 dX10_mayBegin_72 rfl rfl ?_
        refine x_getI O fl_X10_mayBegin_101 rfl dX10_mayBegin_73 ?_
        refine x_aload_n O 0 dX10_mayBegin_76 rfl rfl ?_
        refine x_getI O fl_X10_mayBegin_80 rfl dX10_mayBegin_77 ?_
        obtain ⟨r_1, σ1, hc, hf⟩ := bd_some hf
        refine x_callS O (k_M_bitOf  hc) ca_X10_bitOf gX10_mayBegin_X10_bitOf rfl rfl rfl (Nat.le_of_ble_eq_true rfl) ⟨Nat.le_of_ble_eq_true rfl, Nat.le_of_ble_eq_true rfl⟩ dX10_mayBegin_80 ?_
        refine x_push O ?_
        refine x_iand O dX10_mayBegin_83 ?_
        refine x_if_ne O 91 hf dX10_mayBegin_84 (by decide) (fun hf => ?_) (fun hf => ?_)
        · refine x_iconst O (v := 0) dX10_mayBegin_91 (by decide) ?_
          have hk : (0, σ1) = (rr, σr) := Option.some.inj hf
          obtain ⟨rfl, rfl⟩ := Prod.mk.inj hk
          exact x_iret O rfl rfl ⟨_, rfl, rfl⟩ dX10_mayBegin_92
        · refine x_iconst O (v := 1) dX10_mayBegin_87 (by decide) ?_
          refine x_goto O 92 dX10_mayBegin_88 (by decide) ?_
          have hk : (1, σ1) = (rr, σr) := Option.some.inj hf
          obtain ⟨rfl, rfl⟩ := Prod.mk.inj hk
          exact x_iret O rfl rfl ⟨_, rfl, rfl⟩ dX10_mayBegin_92
    · refine x_aload_n O 0 dX10_mayBegin_28 rfl rfl ?_
      refine x_getF O (t := 2) fl_X10_mayBegin_13 rfl dX10_mayBegin_29 ?_
      refine x_iconst O (v := 5) dX10_mayBegin_32 (by decide) ?_
      refine x_iald O hf rfl dX10_mayBegin_33 (fun j1 hf => ?_)
      refine x_if_le O 61 hf dX10_mayBegin_34 (by decide) (fun hf => ?_) (fun hf => ?_)
      · refine x_iconst O (v := 0) dX10_mayBegin_61 (by decide) ?_
        have hk : (0, σ) = (rr, σr) := Option.some.inj hf
        obtain ⟨rfl, rfl⟩ := Prod.mk.inj hk
        exact x_iret O rfl rfl ⟨_, rfl, rfl⟩ dX10_mayBegin_62
      · refine x_aload_n O 0 dX10_mayBegin_37 rfl rfl ?_
        refine x_getF O (t := 2) fl_X10_mayBegin_13 rfl dX10_mayBegin_38 ?_
        refine x_bipush O (v := 6) dX10_mayBegin_41 (by decide) ?_
        refine x_iald O hf rfl dX10_mayBegin_43 (fun j2 hf => ?_)
        refine x_iconst O (v := 4) dX10_mayBegin_44 (by decide) ?_
        refine x_icmp_ge O 61 hf dX10_mayBegin_45 (by decide) (fun hf => ?_) (fun hf => ?_)
        · refine x_iconst O (v := 0) dX10_mayBegin_61 (by decide) ?_
          have hk : (0, σ) = (rr, σr) := Option.some.inj hf
          obtain ⟨rfl, rfl⟩ := Prod.mk.inj hk
          exact x_iret O rfl rfl ⟨_, rfl, rfl⟩ dX10_mayBegin_62
        · refine x_aload_n O 0 dX10_mayBegin_48 rfl rfl ?_
          refine x_getI O fl_X10_mayBegin_101 rfl dX10_mayBegin_49 ?_
          refine x_iconst O (v := 1) dX10_mayBegin_52 (by decide) ?_
          refine x_iand O dX10_mayBegin_53 ?_
          refine x_if_ne O 61 hf dX10_mayBegin_54 (by decide) (fun hf => ?_) (fun hf => ?_)
          · refine x_iconst O (v := 0) dX10_mayBegin_61 (by decide) ?_
            have hk : (0, σ) = (rr, σr) := Option.some.inj hf
            obtain ⟨rfl, rfl⟩ := Prod.mk.inj hk
            exact x_iret O rfl rfl ⟨_, rfl, rfl⟩ dX10_mayBegin_62
          · refine x_iconst O (v := 1) dX10_mayBegin_57 (by decide) ?_
            refine x_goto O 62 dX10_mayBegin_58 (by decide) ?_
            have hk : (1, σ) = (rr, σr) := Option.some.inj hf
            obtain ⟨rfl, rfl⟩ := Prod.mk.inj hk
            exact x_iret O rfl rfl ⟨_, rfl, rfl⟩ dX10_mayBegin_62
  · refine x_iload_n O 1 dX10_mayBegin_9 rfl rfl ?_
    refine x_if_ne O 17 hf dX10_mayBegin_10 (by decide) (fun hf => ?_) (fun hf => ?_)
    · refine x_iconst O (v := 0) dX10_mayBegin_17 (by decide) ?_
      have hk : (0, σ) = (rr, σr) := Option.some.inj hf
      obtain ⟨rfl, rfl⟩ := Prod.mk.inj hk
      exact x_iret O rfl rfl ⟨_, rfl, rfl⟩ dX10_mayBegin_18
    · refine x_iconst O (v := 1) dX10_mayBegin_13 (by decide) ?_
      refine x_goto O 18 dX10_mayBegin_14 (by decide) ?_
      have hk : (1, σ) = (rr, σr) := Option.some.inj hf
      obtain ⟨rfl, rfl⟩ := Prod.mk.inj hk
      exact x_iret O rfl rfl ⟨_, rfl, rfl⟩ dX10_mayBegin_18
theorem k_M_mayBegin {σ σr : Mm} {rr : Int32} {v1 : Int32}  (hf : f_M_mayBegin σ v1 = some (rr, σr)) : CT LM yX10_mayBegin wsX10_mayBegin rm_X10_mayBegin (fun ad => [.ref (ad 0), .int v1]) σ (some (.int rr)) σr := CT_of2 (cc := cX10_mayBegin) (maxL := 2) (rt := (some .boolean)) (own := RX10) (by decide) rfl rfl (fun _ => Nat.le_of_ble_eq_true rfl) (fun _ => rfl) (fun Γ ad O => v_M_mayBegin O  hf)

-- ===== TippedBarrowModel.readsRow()V
theorem ca_X10_readsRow : Ca yX10_readsRow cX10_readsRow 5 none wsX10_readsRow rm_X10_readsRow 0 := ⟨⟨_, rfl⟩, rfl, rfl, by decide +kernel, by decide +kernel, by decide +kernel⟩
theorem in_X10_readsRow_X10 : ∀ w ∈ wsX100, w ∈ wsX10_readsRow := by decide +kernel
theorem fl_X10_readsRow_13 : Fl RX10 wsX10_readsRow 13 10 9 true (.array .int) := ⟨_, _, _, tyX10, rfl, in_X10_readsRow_X10, by decide, by decide +kernel, tyX10_ok, nmX10, rfl, tyX10_ok 9 (by decide)⟩
theorem fl_X10_readsRow_16 : Fl RX10 wsX10_readsRow 16 10 13 true (.array .int) := ⟨_, _, _, tyX10, rfl, in_X10_readsRow_X10, by decide, by decide +kernel, tyX10_ok, nmX10, rfl, tyX10_ok 13 (by decide)⟩
theorem fl_X10_readsRow_77 : Fl RX10 wsX10_readsRow 77 10 5 false .int := ⟨_, _, _, tyX10, rfl, in_X10_readsRow_X10, by decide, by decide +kernel, tyX10_ok, nmX10, rfl, tyX10_ok 5 (by decide)⟩
theorem fl_X10_readsRow_80 : Fl RX10 wsX10_readsRow 80 10 7 false .int := ⟨_, _, _, tyX10, rfl, in_X10_readsRow_X10, by decide, by decide +kernel, tyX10_ok, nmX10, rfl, tyX10_ok 7 (by decide)⟩
theorem fl_X10_readsRow_104 : Fl RX10 wsX10_readsRow 104 10 12 false .int := ⟨_, _, _, tyX10, rfl, in_X10_readsRow_X10, by decide, by decide +kernel, tyX10_ok, nmX10, rfl, tyX10_ok 12 (by decide)⟩
set_option maxHeartbeats 4000000 in
set_option maxRecDepth 100000 in
theorem v_M_readsRow_123 {Γ : Cx} {ad : Nat → Nat} {rr : Int32} {σr : Mm} (O : Ok LM Γ ad cX10_readsRow 5 RX10 wsX10_readsRow rm_X10_readsRow none none σr) {σ : Mm}   (hf : f_M_readsRow_123 σ = some (rr, σr)) : X LM Γ ad σ 123 [(0, .ref (ad 0))] [] := by
  unfold f_M_readsRow_123 at hf
  refine x_aload_n O 0 dX10_readsRow_123 rfl rfl ?_
  refine x_getF O (t := 2) fl_X10_readsRow_13 rfl dX10_readsRow_124 ?_
  refine x_bipush O (v := 6) dX10_readsRow_127 (by decide) ?_
  refine x_dup2 O dX10_readsRow_129 rfl rfl ?_
  refine x_iald O hf rfl dX10_readsRow_130 (fun j1 hf => ?_)
  refine x_iconst O (v := 1) dX10_readsRow_131 (by decide) ?_
  refine x_iadd O dX10_readsRow_132 ?_
  refine x_iastN O hf rfl dX10_readsRow_133 (fun σ1 hf => ?_)
  have hk : ((0 : Int32), σ1) = (rr, σr) := Option.some.inj hf
  obtain ⟨rfl, rfl⟩ := Prod.mk.inj hk
  exact x_vret O rfl rfl rfl dX10_readsRow_134
set_option maxHeartbeats 4000000 in
set_option maxRecDepth 100000 in
theorem v_M_readsRow_113 {Γ : Cx} {ad : Nat → Nat} {rr : Int32} {σr : Mm} (O : Ok LM Γ ad cX10_readsRow 5 RX10 wsX10_readsRow rm_X10_readsRow none none σr) {σ : Mm} {v1 : Int32} {s1 : Int32} {s2 : Int32}  {x : (Mm × Int32) ⊕ (Int32 × Mm)} (hf : f_M_readsRow_113 σ v1 s1 s2 = some x) (hk : (kx (fun s : Mm × Int32 => X LM Γ ad s.1 2 [(0, .ref (ad 0)), (1, .int s.2)] []) (fun q : Int32 × Mm => q = (rr, σr))) x) : X LM Γ ad σ 113 [(0, .ref (ad 0)), (1, .int v1)] [.int s2, .int s1, .ref (ad 0)] := by
  unfold f_M_readsRow_113 at hf
  refine x_ior O dX10_readsRow_113 ?_
  refine x_putIN O hf rfl rfl fl_X10_readsRow_104 rfl dX10_readsRow_114 (fun σ1 hf => ?_)
  refine x_iincN O hf dX10_readsRow_117 rfl rfl (by decide) (fun y1 hf => ?_)
  refine x_goto O 2 dX10_readsRow_120 (by decide) ?_
  obtain rfl := Option.some.inj hf
  have hk := kx_l hk
  exact x_jmp O hk rfl
set_option maxHeartbeats 4000000 in
set_option maxRecDepth 100000 in
theorem v_M_readsRow_96 {Γ : Cx} {ad : Nat → Nat} {rr : Int32} {σr : Mm} (O : Ok LM Γ ad cX10_readsRow 5 RX10 wsX10_readsRow rm_X10_readsRow none none σr) {σ : Mm} {v1 : Int32} {v2 : Int32} {v3 : Int32} {s1 : Int32} {s2 : Int32}  {x : (Mm × Int32) ⊕ (Int32 × Mm)} (hf : f_M_readsRow_96 σ v1 v2 v3 s1 s2 = some x) (hk : (kx (fun s : Mm × Int32 => X LM Γ ad s.1 2 [(0, .ref (ad 0)), (1, .int s.2)] []) (fun q : Int32 × Mm => q = (rr, σr))) x) : X LM Γ ad σ 96 [(0, .ref (ad 0)), (1, .int v1), (2, .int v2), (3, .int v3)] [.int s2, .int s1, .ref (ad 3)] := by
  unfold f_M_readsRow_96 at hf
  refine x_iastN O hf rfl dX10_readsRow_96 (fun σ1 hf => ?_)
  refine x_aload_n O 0 dX10_readsRow_97 rfl rfl ?_
  refine x_dup O dX10_readsRow_98 rfl ?_
  refine x_getI O fl_X10_readsRow_104 rfl dX10_readsRow_99 ?_
  refine x_iload_n O 3 dX10_readsRow_102 rfl rfl ?_
  refine x_if_eq O 112 hf dX10_readsRow_103 (by decide) (fun hf => ?_) (fun hf => ?_)
  · refine x_iconst O (v := 0) dX10_readsRow_112 (by decide) ?_
    exact x_jmp O (v_M_readsRow_113 O (σ := σ1) (v1 := v1) (s1 := (gI σ1 0 12)) (s2 := 0)  hf hk) rfl
  · refine x_iconst O (v := 1) dX10_readsRow_106 (by decide) ?_
    refine x_iload_n O 2 dX10_readsRow_107 rfl rfl ?_
    refine x_ishl O dX10_readsRow_108 ?_
    refine x_goto O 113 dX10_readsRow_109 (by decide) ?_
    exact x_jmp O (v_M_readsRow_113 O (σ := σ1) (v1 := v1) (s1 := (gI σ1 0 12)) (s2 := (1 <<< (v2 &&& 31)))  hf hk) rfl
set_option maxHeartbeats 4000000 in
set_option maxRecDepth 100000 in
theorem v_M_readsRow_74 {Γ : Cx} {ad : Nat → Nat} {rr : Int32} {σr : Mm} (O : Ok LM Γ ad cX10_readsRow 5 RX10 wsX10_readsRow rm_X10_readsRow none none σr) {σ : Mm} {v1 : Int32} {v2 : Int32} {v3 : Int32} {s1 : Int32}  {x : (Mm × Int32) ⊕ (Int32 × Mm)} (hf : f_M_readsRow_74 σ v1 v2 v3 s1 = some x) (hk : (kx (fun s : Mm × Int32 => X LM Γ ad s.1 2 [(0, .ref (ad 0)), (1, .int s.2)] []) (fun q : Int32 × Mm => q = (rr, σr))) x) : X LM Γ ad σ 74 [(0, .ref (ad 0)), (1, .int v1), (2, .int v2), (3, .int v3)] [.int s1, .ref (ad 0)] := by
  unfold f_M_readsRow_74 at hf
  obtain ⟨r_1, σ1, hc, hf⟩ := bd_some hf
  refine x_callV O (k_M_takes  hc) ca_X10_takes gX10_readsRow_X10_takes rfl ⟨_, _, _, _, rfl, rfl⟩ rfl rfl rfl (Nat.le_of_ble_eq_true rfl) ⟨Nat.le_of_ble_eq_true rfl, Nat.le_of_ble_eq_true rfl⟩ dX10_readsRow_74 ?_
  refine x_push O ?_
  refine x_istore O dX10_readsRow_77 (by decide) ?_
  refine x_aload_n O 0 dX10_readsRow_79 rfl rfl ?_
  refine x_getF O (t := 3) fl_X10_readsRow_16 rfl dX10_readsRow_80 ?_
  refine x_iload_n O 2 dX10_readsRow_83 rfl rfl ?_
  refine x_iload_n O 3 dX10_readsRow_84 rfl rfl ?_
  refine x_if_eq O 92 hf dX10_readsRow_85 (by decide) (fun hf => ?_) (fun hf => ?_)
  · refine x_iload O dX10_readsRow_92 rfl ?_
    refine x_iconst O (v := 4) dX10_readsRow_94 (by decide) ?_
    refine x_isub O dX10_readsRow_95 ?_
    exact x_jmp O (v_M_readsRow_96 O (σ := σ1) (v1 := v1) (v2 := v2) (v3 := v3) (s1 := v2) (s2 := (r_1 - 4))  hf hk) rfl
  · refine x_iconst O (v := 0) dX10_readsRow_88 (by decide) ?_
    refine x_goto O 96 dX10_readsRow_89 (by decide) ?_
    exact x_jmp O (v_M_readsRow_96 O (σ := σ1) (v1 := v1) (v2 := v2) (v3 := v3) (s1 := v2) (s2 := 0)  hf hk) rfl
set_option maxHeartbeats 4000000 in
set_option maxRecDepth 100000 in
theorem v_M_readsRow_73 {Γ : Cx} {ad : Nat → Nat} {rr : Int32} {σr : Mm} (O : Ok LM Γ ad cX10_readsRow 5 RX10 wsX10_readsRow rm_X10_readsRow none none σr) {σ : Mm} {v1 : Int32} {v2 : Int32} {v3 : Int32}  {x : (Mm × Int32) ⊕ (Int32 × Mm)} (hf : f_M_readsRow_73 σ v1 v2 v3 = some x) (hk : (kx (fun s : Mm × Int32 => X LM Γ ad s.1 2 [(0, .ref (ad 0)), (1, .int s.2)] []) (fun q : Int32 × Mm => q = (rr, σr))) x) : X LM Γ ad σ 73 [(0, .ref (ad 0)), (1, .int v1), (2, .int v2), (3, .int v3)] [.ref (ad 0)] := by
  unfold f_M_readsRow_73 at hf
  refine x_iconst O (v := 0) dX10_readsRow_73 (by decide) ?_
  exact x_jmp O (v_M_readsRow_74 O (σ := σ) (v1 := v1) (v2 := v2) (v3 := v3) (s1 := 0)  hf hk) rfl
set_option maxHeartbeats 4000000 in
set_option maxRecDepth 100000 in
theorem v_M_readsRow_69 {Γ : Cx} {ad : Nat → Nat} {rr : Int32} {σr : Mm} (O : Ok LM Γ ad cX10_readsRow 5 RX10 wsX10_readsRow rm_X10_readsRow none none σr) {σ : Mm} {v1 : Int32} {v2 : Int32} {v3 : Int32}  {x : (Mm × Int32) ⊕ (Int32 × Mm)} (hf : f_M_readsRow_69 σ v1 v2 v3 = some x) (hk : (kx (fun s : Mm × Int32 => X LM Γ ad s.1 2 [(0, .ref (ad 0)), (1, .int s.2)] []) (fun q : Int32 × Mm => q = (rr, σr))) x) : X LM Γ ad σ 69 [(0, .ref (ad 0)), (1, .int v1), (2, .int v2), (3, .int v3)] [.ref (ad 0)] := by
  unfold f_M_readsRow_69 at hf
  refine x_iconst O (v := 1) dX10_readsRow_69 (by decide) ?_
  refine x_goto O 74 dX10_readsRow_70 (by decide) ?_
  exact x_jmp O (v_M_readsRow_74 O (σ := σ) (v1 := v1) (v2 := v2) (v3 := v3) (s1 := 1)  hf hk) rfl
set_option maxHeartbeats 4000000 in
set_option maxRecDepth 100000 in
theorem v_M_readsRow_46 {Γ : Cx} {ad : Nat → Nat} {rr : Int32} {σr : Mm} (O : Ok LM Γ ad cX10_readsRow 5 RX10 wsX10_readsRow rm_X10_readsRow none none σr) {σ : Mm} {v1 : Int32} {v2 : Int32} {s0 : Int32}  {x : (Mm × Int32) ⊕ (Int32 × Mm)} (hf : f_M_readsRow_46 σ v1 v2 s0 = some x) (hk : (kx (fun s : Mm × Int32 => X LM Γ ad s.1 2 [(0, .ref (ad 0)), (1, .int s.2)] []) (fun q : Int32 × Mm => q = (rr, σr))) x) : X LM Γ ad σ 46 [(0, .ref (ad 0)), (1, .int v1), (2, .int v2)] [.int s0] := by
  unfold f_M_readsRow_46 at hf
  refine x_istore_n O 3 dX10_readsRow_46 rfl (by decide) ?_
  refine x_aload_n O 0 dX10_readsRow_47 rfl rfl ?_
  refine x_iload_n O 3 dX10_readsRow_48 rfl rfl ?_
  refine x_if_ne O 69 hf dX10_readsRow_49 (by decide) (fun hf => ?_) (fun hf => ?_)
  · exact x_jmp O (v_M_readsRow_69 O (σ := σ) (v1 := v1) (v2 := v2) (v3 := s0)  hf hk) rfl
  · refine x_aload_n O 0 dX10_readsRow_52 rfl rfl ?_
    refine x_getI O fl_X10_readsRow_77 rfl dX10_readsRow_53 ?_
    refine x_iconst O (v := 2) dX10_readsRow_56 (by decide) ?_
    refine x_icmp_ne O 73 hf dX10_readsRow_57 (by decide) (fun hf => ?_) (fun hf => ?_)
    · exact x_jmp O (v_M_readsRow_73 O (σ := σ) (v1 := v1) (v2 := v2) (v3 := s0)  hf hk) rfl
    · refine x_aload_n O 0 dX10_readsRow_60 rfl rfl ?_
      refine x_getI O fl_X10_readsRow_80 rfl dX10_readsRow_61 ?_
      refine x_bipush O (v := 8) dX10_readsRow_64 (by decide) ?_
      refine x_icmp_gt O 73 hf dX10_readsRow_66 (by decide) (fun hf => ?_) (fun hf => ?_)
      · exact x_jmp O (v_M_readsRow_73 O (σ := σ) (v1 := v1) (v2 := v2) (v3 := s0)  hf hk) rfl
      · exact x_jmp O (v_M_readsRow_69 O (σ := σ) (v1 := v1) (v2 := v2) (v3 := s0)  hf hk) rfl
set_option maxHeartbeats 4000000 in
set_option maxRecDepth 100000 in
theorem v_M_readsRow_45 {Γ : Cx} {ad : Nat → Nat} {rr : Int32} {σr : Mm} (O : Ok LM Γ ad cX10_readsRow 5 RX10 wsX10_readsRow rm_X10_readsRow none none σr) {σ : Mm} {v1 : Int32} {v2 : Int32}  {x : (Mm × Int32) ⊕ (Int32 × Mm)} (hf : f_M_readsRow_45 σ v1 v2 = some x) (hk : (kx (fun s : Mm × Int32 => X LM Γ ad s.1 2 [(0, .ref (ad 0)), (1, .int s.2)] []) (fun q : Int32 × Mm => q = (rr, σr))) x) : X LM Γ ad σ 45 [(0, .ref (ad 0)), (1, .int v1), (2, .int v2)] [] := by
  unfold f_M_readsRow_45 at hf
  refine x_iconst O (v := 0) dX10_readsRow_45 (by decide) ?_
  exact x_jmp O (v_M_readsRow_46 O (σ := σ) (v1 := v1) (v2 := v2) (s0 := 0)  hf hk) rfl
set_option maxHeartbeats 4000000 in
set_option maxRecDepth 100000 in
theorem v_M_readsRow_2_b {Γ : Cx} {ad : Nat → Nat} {rr : Int32} {σr : Mm} (O : Ok LM Γ ad cX10_readsRow 5 RX10 wsX10_readsRow rm_X10_readsRow none none σr) {σ : Mm} {v1 : Int32}  {x : (Mm × Int32) ⊕ (Int32 × Mm)} (hf : f_M_readsRow_2_b σ v1 = some x) (hk : (kx (fun s : Mm × Int32 => X LM Γ ad s.1 2 [(0, .ref (ad 0)), (1, .int s.2)] []) (fun q : Int32 × Mm => q = (rr, σr))) x) : X LM Γ ad σ 2 [(0, .ref (ad 0)), (1, .int v1)] [] := by
  unfold f_M_readsRow_2_b at hf
  refine x_iload_n O 1 dX10_readsRow_2 rfl rfl ?_
  refine x_aload_n O 0 dX10_readsRow_3 rfl rfl ?_
  refine x_getF O (t := 2) fl_X10_readsRow_13 rfl dX10_readsRow_4 ?_
  refine x_iconst O (v := 5) dX10_readsRow_7 (by decide) ?_
  refine x_iald O hf rfl dX10_readsRow_8 (fun j1 hf => ?_)
  refine x_icmp_ge O 123 hf dX10_readsRow_9 (by decide) (fun hf => ?_) (fun hf => ?_)
  · obtain ⟨x', hg1, hx⟩ := map_inr hf
    subst hx
    have hk := kx_r hk
    have hx : x' = (rr, σr) := hk
    subst hx
    have hf := hg1
    exact x_jmp O (v_M_readsRow_123 O (σ := σ)   hf) rfl
  · refine x_iconst O (v := 5) dX10_readsRow_12 (by decide) ?_
    refine x_aload_n O 0 dX10_readsRow_13 rfl rfl ?_
    refine x_getF O (t := 2) fl_X10_readsRow_13 rfl dX10_readsRow_14 ?_
    refine x_bipush O (v := 6) dX10_readsRow_17 (by decide) ?_
    refine x_iald O hf rfl dX10_readsRow_19 (fun j2 hf => ?_)
    refine x_imul O dX10_readsRow_20 ?_
    refine x_iload_n O 1 dX10_readsRow_21 rfl rfl ?_
    refine x_iadd O dX10_readsRow_22 ?_
    refine x_istore_nN O 2 hf dX10_readsRow_23 rfl (by decide) (fun y1 hf => ?_)
    refine x_aload_n O 0 dX10_readsRow_24 rfl rfl ?_
    refine x_getI O fl_X10_readsRow_77 rfl dX10_readsRow_25 ?_
    refine x_iconst O (v := 1) dX10_readsRow_28 (by decide) ?_
    refine x_icmp_ne O 45 hf dX10_readsRow_29 (by decide) (fun hf => ?_) (fun hf => ?_)
    · exact x_jmp O (v_M_readsRow_45 O (σ := σ) (v1 := v1) (v2 := y1)  hf hk) rfl
    · refine x_aload_n O 0 dX10_readsRow_32 rfl rfl ?_
      refine x_getI O fl_X10_readsRow_80 rfl dX10_readsRow_33 ?_
      refine x_bipush O (v := 120) dX10_readsRow_36 (by decide) ?_
      refine x_icmp_ne O 45 hf dX10_readsRow_38 (by decide) (fun hf => ?_) (fun hf => ?_)
      · exact x_jmp O (v_M_readsRow_45 O (σ := σ) (v1 := v1) (v2 := y1)  hf hk) rfl
      · refine x_iconst O (v := 1) dX10_readsRow_41 (by decide) ?_
        refine x_goto O 46 dX10_readsRow_42 (by decide) ?_
        exact x_jmp O (v_M_readsRow_46 O (σ := σ) (v1 := v1) (v2 := y1) (s0 := 1)  hf hk) rfl
set_option maxHeartbeats 4000000 in
set_option maxRecDepth 100000 in
theorem v_M_readsRow_2 {Γ : Cx} {ad : Nat → Nat} {rr : Int32} {σr : Mm} (O : Ok LM Γ ad cX10_readsRow 5 RX10 wsX10_readsRow rm_X10_readsRow none none σr) {σ : Mm} {v1 : Int32}  (hf : f_M_readsRow_2 σ v1 = some (rr, σr)) : X LM Γ ad σ 2 [(0, .ref (ad 0)), (1, .int v1)] [] := lpX (P := (fun s : Mm × Int32 => X LM Γ ad s.1 2 [(0, .ref (ad 0)), (1, .int s.2)] [])) (K := (fun q : Int32 × Mm => q = (rr, σr))) (fun s x g1 g2 => v_M_readsRow_2_b O (σ := s.1)  (v1 := s.2)  g1 g2) (σ, v1) _ hf rfl
set_option maxHeartbeats 4000000 in
set_option maxRecDepth 100000 in
theorem v_M_readsRow {Γ : Cx} {ad : Nat → Nat} {rr : Int32} {σr : Mm} (O : Ok LM Γ ad cX10_readsRow 5 RX10 wsX10_readsRow rm_X10_readsRow none none σr) {σ : Mm}   (hf : f_M_readsRow σ = some (rr, σr)) : X LM Γ ad σ 0 [(0, .ref (ad 0))] [] := by
  unfold f_M_readsRow at hf
  refine x_iconst O (v := 0) dX10_readsRow_0 (by decide) ?_
  refine x_istore_n O 1 dX10_readsRow_1 rfl (by decide) ?_
  exact x_jmp O (v_M_readsRow_2 O (σ := σ) (v1 := 0)  hf) rfl
theorem k_M_readsRow {σ σr : Mm} {rr : Int32}   (hf : f_M_readsRow σ = some (rr, σr)) : CT LM yX10_readsRow wsX10_readsRow rm_X10_readsRow (fun ad => [.ref (ad 0)]) σ none σr := CT_of2 (cc := cX10_readsRow) (maxL := 5) (rt := none) (own := RX10) (by decide) rfl rfl (fun _ => Nat.le_of_ble_eq_true rfl) (fun _ => rfl) (fun Γ ad O => v_M_readsRow O  hf)

-- ===== TippedBarrowModel.readsStart()V
theorem ca_X10_readsStart : Ca yX10_readsStart cX10_readsStart 4 none wsX10_readsStart rm_X10_readsStart 0 := ⟨⟨_, rfl⟩, rfl, rfl, by decide +kernel, by decide +kernel, by decide +kernel⟩
theorem in_X10_readsStart_X10 : ∀ w ∈ wsX100, w ∈ wsX10_readsStart := by decide +kernel
theorem fl_X10_readsStart_13 : Fl RX10 wsX10_readsStart 13 10 9 true (.array .int) := ⟨_, _, _, tyX10, rfl, in_X10_readsStart_X10, by decide, by decide +kernel, tyX10_ok, nmX10, rfl, tyX10_ok 9 (by decide)⟩
theorem fl_X10_readsStart_77 : Fl RX10 wsX10_readsStart 77 10 5 false .int := ⟨_, _, _, tyX10, rfl, in_X10_readsStart_X10, by decide, by decide +kernel, tyX10_ok, nmX10, rfl, tyX10_ok 5 (by decide)⟩
theorem fl_X10_readsStart_80 : Fl RX10 wsX10_readsStart 80 10 7 false .int := ⟨_, _, _, tyX10, rfl, in_X10_readsStart_X10, by decide, by decide +kernel, tyX10_ok, nmX10, rfl, tyX10_ok 7 (by decide)⟩
theorem fl_X10_readsStart_104 : Fl RX10 wsX10_readsStart 104 10 12 false .int := ⟨_, _, _, tyX10, rfl, in_X10_readsStart_X10, by decide, by decide +kernel, tyX10_ok, nmX10, rfl, tyX10_ok 12 (by decide)⟩
set_option maxHeartbeats 4000000 in
set_option maxRecDepth 100000 in
theorem v_M_readsStart_86 {Γ : Cx} {ad : Nat → Nat} {rr : Int32} {σr : Mm} (O : Ok LM Γ ad cX10_readsStart 4 RX10 wsX10_readsStart rm_X10_readsStart none none σr) {σ : Mm} {v3 : Int32} {s1 : Int32}  (hf : f_M_readsStart_86 σ v3 s1 = some (rr, σr)) : X LM Γ ad σ 86 [(0, .ref (ad 0)), (3, .int v3)] [.int s1, .ref (ad 0)] := by
  unfold f_M_readsStart_86 at hf
  obtain ⟨r_1, σ1, hc, hf⟩ := bd_some hf
  refine x_callV O (k_M_takes  hc) ca_X10_takes gX10_readsStart_X10_takes rfl ⟨_, _, _, _, rfl, rfl⟩ rfl rfl rfl (Nat.le_of_ble_eq_true rfl) ⟨Nat.le_of_ble_eq_true rfl, Nat.le_of_ble_eq_true rfl⟩ dX10_readsStart_86 ?_
  refine x_push O ?_
  refine x_pop O dX10_readsStart_89 rfl ?_
  refine x_aload_n O 0 dX10_readsStart_90 rfl rfl ?_
  refine x_getF O (t := 2) fl_X10_readsStart_13 rfl dX10_readsStart_91 ?_
  refine x_bipush O (v := 7) dX10_readsStart_94 (by decide) ?_
  refine x_iload_n O 3 dX10_readsStart_96 rfl rfl ?_
  refine x_iastN O hf rfl dX10_readsStart_97 (fun σ2 hf => ?_)
  have hk : ((0 : Int32), σ2) = (rr, σr) := Option.some.inj hf
  obtain ⟨rfl, rfl⟩ := Prod.mk.inj hk
  exact x_vret O rfl rfl rfl dX10_readsStart_98
set_option maxHeartbeats 4000000 in
set_option maxRecDepth 100000 in
theorem v_M_readsStart_85 {Γ : Cx} {ad : Nat → Nat} {rr : Int32} {σr : Mm} (O : Ok LM Γ ad cX10_readsStart 4 RX10 wsX10_readsStart rm_X10_readsStart none none σr) {σ : Mm} {v3 : Int32}  (hf : f_M_readsStart_85 σ v3 = some (rr, σr)) : X LM Γ ad σ 85 [(0, .ref (ad 0)), (3, .int v3)] [.ref (ad 0)] := by
  unfold f_M_readsStart_85 at hf
  refine x_iconst O (v := 0) dX10_readsStart_85 (by decide) ?_
  exact x_jmp O (v_M_readsStart_86 O (σ := σ) (v3 := v3) (s1 := 0)  hf) rfl
set_option maxHeartbeats 4000000 in
set_option maxRecDepth 100000 in
theorem v_M_readsStart_64 {Γ : Cx} {ad : Nat → Nat} {rr : Int32} {σr : Mm} (O : Ok LM Γ ad cX10_readsStart 4 RX10 wsX10_readsStart rm_X10_readsStart none none σr) {σ : Mm} {v2 : Int32} {s0 : Int32}  (hf : f_M_readsStart_64 σ v2 s0 = some (rr, σr)) : X LM Γ ad σ 64 [(0, .ref (ad 0)), (2, .int v2)] [.int s0] := by
  unfold f_M_readsStart_64 at hf
  refine x_istore_n O 3 dX10_readsStart_64 rfl (by decide) ?_
  refine x_aload_n O 0 dX10_readsStart_65 rfl rfl ?_
  refine x_iload_n O 2 dX10_readsStart_66 rfl rfl ?_
  refine x_if_eq O 85 hf dX10_readsStart_67 (by decide) (fun hf => ?_) (fun hf => ?_)
  · exact x_jmp O (v_M_readsStart_85 O (σ := σ) (v3 := s0)  hf) rfl
  · refine x_aload_n O 0 dX10_readsStart_70 rfl rfl ?_
    refine x_getI O fl_X10_readsStart_104 rfl dX10_readsStart_71 ?_
    refine x_iload_n O 3 dX10_readsStart_74 rfl rfl ?_
    refine x_ishr O dX10_readsStart_75 ?_
    refine x_iconst O (v := 1) dX10_readsStart_76 (by decide) ?_
    refine x_iand O dX10_readsStart_77 ?_
    refine x_if_ne O 85 hf dX10_readsStart_78 (by decide) (fun hf => ?_) (fun hf => ?_)
    · exact x_jmp O (v_M_readsStart_85 O (σ := σ) (v3 := s0)  hf) rfl
    · refine x_iconst O (v := 1) dX10_readsStart_81 (by decide) ?_
      refine x_goto O 86 dX10_readsStart_82 (by decide) ?_
      exact x_jmp O (v_M_readsStart_86 O (σ := σ) (v3 := s0) (s1 := 1)  hf) rfl
set_option maxHeartbeats 4000000 in
set_option maxRecDepth 100000 in
theorem v_M_readsStart_47 {Γ : Cx} {ad : Nat → Nat} {rr : Int32} {σr : Mm} (O : Ok LM Γ ad cX10_readsStart 4 RX10 wsX10_readsStart rm_X10_readsStart none none σr) {σ : Mm} {v1 : Int32} {s0 : Int32}  (hf : f_M_readsStart_47 σ v1 s0 = some (rr, σr)) : X LM Γ ad σ 47 [(0, .ref (ad 0)), (1, .int v1)] [.int s0] := by
  unfold f_M_readsStart_47 at hf
  refine x_istore_n O 2 dX10_readsStart_47 rfl (by decide) ?_
  refine x_iload_n O 2 dX10_readsStart_48 rfl rfl ?_
  refine x_if_eq O 63 hf dX10_readsStart_49 (by decide) (fun hf => ?_) (fun hf => ?_)
  · refine x_iconst O (v := 0) dX10_readsStart_63 (by decide) ?_
    exact x_jmp O (v_M_readsStart_64 O (σ := σ) (v2 := s0) (s0 := 0)  hf) rfl
  · refine x_iconst O (v := 5) dX10_readsStart_52 (by decide) ?_
    refine x_aload_n O 0 dX10_readsStart_53 rfl rfl ?_
    refine x_getI O fl_X10_readsStart_80 rfl dX10_readsStart_54 ?_
    refine x_imul O dX10_readsStart_57 ?_
    refine x_iload_n O 1 dX10_readsStart_58 rfl rfl ?_
    refine x_iadd O dX10_readsStart_59 ?_
    refine x_goto O 64 dX10_readsStart_60 (by decide) ?_
    exact x_jmp O (v_M_readsStart_64 O (σ := σ) (v2 := s0) (s0 := ((5 * (gI σ 0 7)) + v1))  hf) rfl
set_option maxHeartbeats 4000000 in
set_option maxRecDepth 100000 in
theorem v_M_readsStart_46 {Γ : Cx} {ad : Nat → Nat} {rr : Int32} {σr : Mm} (O : Ok LM Γ ad cX10_readsStart 4 RX10 wsX10_readsStart rm_X10_readsStart none none σr) {σ : Mm} {v1 : Int32}  (hf : f_M_readsStart_46 σ v1 = some (rr, σr)) : X LM Γ ad σ 46 [(0, .ref (ad 0)), (1, .int v1)] [] := by
  unfold f_M_readsStart_46 at hf
  refine x_iconst O (v := 0) dX10_readsStart_46 (by decide) ?_
  exact x_jmp O (v_M_readsStart_47 O (σ := σ) (v1 := v1) (s0 := 0)  hf) rfl
set_option maxHeartbeats 4000000 in
set_option maxRecDepth 100000 in
theorem v_M_readsStart {Γ : Cx} {ad : Nat → Nat} {rr : Int32} {σr : Mm} (O : Ok LM Γ ad cX10_readsStart 4 RX10 wsX10_readsStart rm_X10_readsStart none none σr) {σ : Mm}   (hf : f_M_readsStart σ = some (rr, σr)) : X LM Γ ad σ 0 [(0, .ref (ad 0))] [] := by
  unfold f_M_readsStart at hf
  refine x_aload_n O 0 dX10_readsStart_0 rfl rfl ?_
  refine x_iconst O (v := 0) dX10_readsStart_1 (by decide) ?_
  refine x_aload_n O 0 dX10_readsStart_2 rfl rfl ?_
  refine x_getF O (t := 2) fl_X10_readsStart_13 rfl dX10_readsStart_3 ?_
  refine x_iconst O (v := 5) dX10_readsStart_6 (by decide) ?_
  refine x_iald O hf rfl dX10_readsStart_7 (fun j1 hf => ?_)
  refine x_iconst O (v := 1) dX10_readsStart_8 (by decide) ?_
  refine x_isub O dX10_readsStart_9 ?_
  obtain ⟨r_1, σ1, hc, hf⟩ := bd_some hf
  refine x_callV O (k_M_number  hc) ca_X10_number gX10_readsStart_X10_number rfl ⟨_, _, _, _, rfl, rfl⟩ rfl rfl rfl (Nat.le_of_ble_eq_true rfl) ⟨Nat.le_of_ble_eq_true rfl, Nat.le_of_ble_eq_true rfl⟩ dX10_readsStart_10 ?_
  refine x_push O ?_
  refine x_istore_n O 1 dX10_readsStart_13 rfl (by decide) ?_
  refine x_aload_n O 0 dX10_readsStart_14 rfl rfl ?_
  refine x_getI O fl_X10_readsStart_77 rfl dX10_readsStart_15 ?_
  refine x_iconst O (v := 2) dX10_readsStart_18 (by decide) ?_
  refine x_icmp_ne O 46 hf dX10_readsStart_19 (by decide) (fun hf => ?_) (fun hf => ?_)
  · exact x_jmp O (v_M_readsStart_46 O (σ := σ1) (v1 := r_1)  hf) rfl
  · refine x_aload_n O 0 dX10_readsStart_22 rfl rfl ?_
    refine x_getI O fl_X10_readsStart_80 rfl dX10_readsStart_23 ?_
    refine x_iconst O (v := 0) dX10_readsStart_26 (by decide) ?_
    refine x_aload_n O 0 dX10_readsStart_27 rfl rfl ?_
    refine x_getF O (t := 2) fl_X10_readsStart_13 rfl dX10_readsStart_28 ?_
    refine x_bipush O (v := 6) dX10_readsStart_31 (by decide) ?_
    refine x_iald O hf rfl dX10_readsStart_33 (fun j2 hf => ?_)
    refine x_iconst O (v := 1) dX10_readsStart_34 (by decide) ?_
    refine x_isub O dX10_readsStart_35 ?_
    obtain ⟨r_2, σ2, hc, hf⟩ := bd_some hf
    refine x_callS O (k_M_in  hc) ca_X10_in gX10_readsStart_X10_in rfl rfl rfl (Nat.le_of_ble_eq_true rfl) ⟨Nat.le_of_ble_eq_true rfl, Nat.le_of_ble_eq_true rfl⟩ dX10_readsStart_36 ?_
    refine x_push O ?_
    refine x_if_eq O 46 hf dX10_readsStart_39 (by decide) (fun hf => ?_) (fun hf => ?_)
    · exact x_jmp O (v_M_readsStart_46 O (σ := σ2) (v1 := r_1)  hf) rfl
    · refine x_iconst O (v := 1) dX10_readsStart_42 (by decide) ?_
      refine x_goto O 47 dX10_readsStart_43 (by decide) ?_
      exact x_jmp O (v_M_readsStart_47 O (σ := σ2) (v1 := r_1) (s0 := 1)  hf) rfl
theorem k_M_readsStart {σ σr : Mm} {rr : Int32}   (hf : f_M_readsStart σ = some (rr, σr)) : CT LM yX10_readsStart wsX10_readsStart rm_X10_readsStart (fun ad => [.ref (ad 0)]) σ none σr := CT_of2 (cc := cX10_readsStart) (maxL := 4) (rt := none) (own := RX10) (by decide) rfl rfl (fun _ => Nat.le_of_ble_eq_true rfl) (fun _ => rfl) (fun Γ ad O => v_M_readsStart O  hf)
