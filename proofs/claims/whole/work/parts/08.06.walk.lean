-- ===== TippedBarrow$Reader.split()V
theorem ca_X6_split : Ca yX6_split cX6_split 3 none wsX6_split rm_X6_split 0 := ⟨⟨_, rfl⟩, rfl, rfl, by decide +kernel, by decide +kernel, by decide +kernel⟩
theorem in_X6_split_X6 : ∀ w ∈ wsX60, w ∈ wsX6_split := by decide +kernel
theorem in_X6_split_X7 : ∀ w ∈ wsX70, w ∈ wsX6_split := by decide +kernel
theorem fl_X6_split_21 : Fl RX6 wsX6_split 21 6 0 true (.object "TippedBarrow$Text") := ⟨_, _, _, tyX6, rfl, in_X6_split_X6, by decide, by decide +kernel, tyX6_ok, nmX6, rfl, tyX6_ok 0 (by decide)⟩
theorem fl_X6_split_55 : Fl RX6 wsX6_split 55 6 4 false .int := ⟨_, _, _, tyX6, rfl, in_X6_split_X6, by decide, by decide +kernel, tyX6_ok, nmX6, rfl, tyX6_ok 4 (by decide)⟩
theorem fl_X6_split_58 : Fl RX6 wsX6_split 58 7 1 false .int := ⟨_, _, _, tyX7, rfl, in_X6_split_X7, by decide, by decide +kernel, tyX7_ok, nmX7, rfl, tyX7_ok 1 (by decide)⟩
set_option maxHeartbeats 4000000 in
set_option maxRecDepth 100000 in
theorem v_Re_split_65 {Γ : Cx} {ad : Nat → Nat} {rr : Int32} {σr : Mm} (O : Ok LT Γ ad cX6_split 3 RX6 wsX6_split rm_X6_split none none σr) {σ : Mm}   (hf : f_Re_split_65 σ = some (rr, σr)) : X LT Γ ad σ 65 [(0, .ref (ad 3))] [] := by
  unfold f_Re_split_65 at hf
  refine x_aload_n O 0 dX6_split_65 rfl rfl ?_
  refine x_iconst O (v := -1) dX6_split_66 (by decide) ?_
  refine x_aload_n O 0 dX6_split_67 rfl rfl ?_
  refine x_getF O (t := 1) fl_X6_split_21 rfl dX6_split_68 ?_
  refine x_getI O fl_X6_split_58 rfl dX6_split_71 ?_
  refine x_iconst O (v := 0) dX6_split_74 (by decide) ?_
  obtain ⟨r_1, σ1, hc, hf⟩ := bd_some hf
  refine x_callV O (k_Re_addToken  hc) ca_X6_addToken gX6_split_X6_addToken rfl ⟨_, _, _, _, rfl, rfl⟩ rfl rfl rfl (Nat.le_of_ble_eq_true rfl) ⟨Nat.le_of_ble_eq_true rfl, Nat.le_of_ble_eq_true rfl⟩ dX6_split_75 ?_
  refine x_pushN O ?_
  have hk : ((0 : Int32), σ1) = (rr, σr) := Option.some.inj hf
  obtain ⟨rfl, rfl⟩ := Prod.mk.inj hk
  exact x_vret O rfl rfl rfl dX6_split_78
set_option maxHeartbeats 4000000 in
set_option maxRecDepth 100000 in
theorem v_Re_split_7_b {Γ : Cx} {ad : Nat → Nat} {rr : Int32} {σr : Mm} (O : Ok LT Γ ad cX6_split 3 RX6 wsX6_split rm_X6_split none none σr) {σ : Mm} {v1 : Int32}  {x : (Mm × Int32) ⊕ (Int32 × Mm)} (hf : f_Re_split_7_b σ v1 = some x) (hk : (kx (fun s : Mm × Int32 => X LT Γ ad s.1 7 [(0, .ref (ad 3)), (1, .int s.2)] []) (fun q : Int32 × Mm => q = (rr, σr))) x) : X LT Γ ad σ 7 [(0, .ref (ad 3)), (1, .int v1)] [] := by
  unfold f_Re_split_7_b at hf
  refine x_iload_n O 1 dX6_split_7 rfl rfl ?_
  refine x_aload_n O 0 dX6_split_8 rfl rfl ?_
  refine x_getF O (t := 1) fl_X6_split_21 rfl dX6_split_9 ?_
  refine x_getI O fl_X6_split_58 rfl dX6_split_12 ?_
  refine x_icmp_ge O 65 hf dX6_split_15 (by decide) (fun hf => ?_) (fun hf => ?_)
  · obtain ⟨x', hg1, hx⟩ := map_inr hf
    subst hx
    have hk := kx_r hk
    have hx : x' = (rr, σr) := hk
    subst hx
    have hf := hg1
    exact x_jmp O (v_Re_split_65 O (σ := σ)   hf) rfl
  · refine x_aload_n O 0 dX6_split_18 rfl rfl ?_
    refine x_getF O (t := 1) fl_X6_split_21 rfl dX6_split_19 ?_
    refine x_iload_n O 1 dX6_split_22 rfl rfl ?_
    obtain ⟨r_1, σ1, hc, hf⟩ := bd_some hf
    refine x_callV O (k_Te_letterAt  hc) ca_X7_letterAt gX6_split_X7_letterAt rfl ⟨_, _, _, _, rfl, rfl⟩ rfl rfl rfl (Nat.le_of_ble_eq_true rfl) ⟨Nat.le_of_ble_eq_true rfl, Nat.le_of_ble_eq_true rfl⟩ dX6_split_23 ?_
    refine x_push O ?_
    refine x_istore_n O 2 dX6_split_26 rfl (by decide) ?_
    refine x_iload_n O 2 dX6_split_27 rfl rfl ?_
    obtain ⟨r_2, σ2, hc, hf⟩ := bd_some hf
    refine x_callS O (k_Re_isDigit  hc) ca_X6_isDigit gX6_split_X6_isDigit rfl rfl rfl (Nat.le_of_ble_eq_true rfl) ⟨Nat.le_of_ble_eq_true rfl, Nat.le_of_ble_eq_true rfl⟩ dX6_split_28 ?_
    refine x_push O ?_
    refine x_if_eq O 46 hf dX6_split_31 (by decide) (fun hf => ?_) (fun hf => ?_)
    · refine x_iload_n O 2 dX6_split_46 rfl rfl ?_
      refine x_bipush O (v := 32) dX6_split_47 (by decide) ?_
      refine x_icmp_eq O 59 hf dX6_split_49 (by decide) (fun hf => ?_) (fun hf => ?_)
      · refine x_iincN O hf dX6_split_59 rfl rfl (by decide) (fun y1 hf => ?_)
        refine x_goto O 7 dX6_split_62 (by decide) ?_
        obtain rfl := Option.some.inj hf
        have hk := kx_l hk
        exact x_jmp O hk rfl
      · refine x_aload_n O 0 dX6_split_52 rfl rfl ?_
        refine x_iload_n O 2 dX6_split_53 rfl rfl ?_
        refine x_iload_n O 1 dX6_split_54 rfl rfl ?_
        refine x_iconst O (v := 0) dX6_split_55 (by decide) ?_
        obtain ⟨r_3, σ3, hc, hf⟩ := bd_some hf
        refine x_callV O (k_Re_addToken  hc) ca_X6_addToken gX6_split_X6_addToken rfl ⟨_, _, _, _, rfl, rfl⟩ rfl rfl rfl (Nat.le_of_ble_eq_true rfl) ⟨Nat.le_of_ble_eq_true rfl, Nat.le_of_ble_eq_true rfl⟩ dX6_split_56 ?_
        refine x_pushN O ?_
        refine x_iincN O hf dX6_split_59 rfl rfl (by decide) (fun y2 hf => ?_)
        refine x_goto O 7 dX6_split_62 (by decide) ?_
        obtain rfl := Option.some.inj hf
        have hk := kx_l hk
        exact x_jmp O hk rfl
    · refine x_aload_n O 0 dX6_split_34 rfl rfl ?_
      refine x_iload_n O 2 dX6_split_35 rfl rfl ?_
      refine x_bipush O (v := 48) dX6_split_36 (by decide) ?_
      refine x_isub O dX6_split_38 ?_
      refine x_iload_n O 1 dX6_split_39 rfl rfl ?_
      obtain ⟨r_4, σ4, hc, hf⟩ := bd_some hf
      refine x_callV O (k_Re_addDigit  hc) ca_X6_addDigit gX6_split_X6_addDigit rfl ⟨_, _, _, _, rfl, rfl⟩ rfl rfl rfl (Nat.le_of_ble_eq_true rfl) ⟨Nat.le_of_ble_eq_true rfl, Nat.le_of_ble_eq_true rfl⟩ dX6_split_40 ?_
      refine x_pushN O ?_
      refine x_goto O 59 dX6_split_43 (by decide) ?_
      refine x_iincN O hf dX6_split_59 rfl rfl (by decide) (fun y3 hf => ?_)
      refine x_goto O 7 dX6_split_62 (by decide) ?_
      obtain rfl := Option.some.inj hf
      have hk := kx_l hk
      exact x_jmp O hk rfl
set_option maxHeartbeats 4000000 in
set_option maxRecDepth 100000 in
theorem v_Re_split_7 {Γ : Cx} {ad : Nat → Nat} {rr : Int32} {σr : Mm} (O : Ok LT Γ ad cX6_split 3 RX6 wsX6_split rm_X6_split none none σr) {σ : Mm} {v1 : Int32}  (hf : f_Re_split_7 σ v1 = some (rr, σr)) : X LT Γ ad σ 7 [(0, .ref (ad 3)), (1, .int v1)] [] := lpX (P := (fun s : Mm × Int32 => X LT Γ ad s.1 7 [(0, .ref (ad 3)), (1, .int s.2)] [])) (K := (fun q : Int32 × Mm => q = (rr, σr))) (fun s x g1 g2 => v_Re_split_7_b O (σ := s.1)  (v1 := s.2)  g1 g2) (σ, v1) _ hf rfl
set_option maxHeartbeats 4000000 in
set_option maxRecDepth 100000 in
theorem v_Re_split {Γ : Cx} {ad : Nat → Nat} {rr : Int32} {σr : Mm} (O : Ok LT Γ ad cX6_split 3 RX6 wsX6_split rm_X6_split none none σr) {σ : Mm}   (hf : f_Re_split σ = some (rr, σr)) : X LT Γ ad σ 0 [(0, .ref (ad 3))] [] := by
  unfold f_Re_split at hf
  refine x_aload_n O 0 dX6_split_0 rfl rfl ?_
  refine x_iconst O (v := 0) dX6_split_1 (by decide) ?_
  refine x_putIN O hf rfl rfl fl_X6_split_55 rfl dX6_split_2 (fun σ1 hf => ?_)
  refine x_iconst O (v := 0) dX6_split_5 (by decide) ?_
  refine x_istore_n O 1 dX6_split_6 rfl (by decide) ?_
  exact x_jmp O (v_Re_split_7 O (σ := σ1) (v1 := 0)  hf) rfl
theorem k_Re_split {σ σr : Mm} {rr : Int32}   (hf : f_Re_split σ = some (rr, σr)) : CT LT yX6_split wsX6_split rm_X6_split (fun ad => [.ref (ad 3)]) σ none σr := CT_of2 (cc := cX6_split) (maxL := 3) (rt := none) (own := RX6) (by decide) rfl rfl (fun _ => Nat.le_of_ble_eq_true rfl) (fun _ => rfl) (fun Γ ad O => v_Re_split O  hf)

-- ===== TippedBarrow$Reader.isInHand(I)Z
theorem ca_X6_isInHand : Ca yX6_isInHand cX6_isInHand 2 (some .boolean) wsX6_isInHand rm_X6_isInHand 1 := ⟨⟨_, rfl⟩, rfl, rfl, by decide +kernel, by decide +kernel, by decide +kernel⟩
theorem in_X6_isInHand_X6 : ∀ w ∈ wsX60, w ∈ wsX6_isInHand := by decide +kernel
theorem fl_X6_isInHand_11 : Fl RX6 wsX6_isInHand 11 6 1 true (.array .int) := ⟨_, _, _, tyX6, rfl, in_X6_isInHand_X6, by decide, by decide +kernel, tyX6_ok, nmX6, rfl, tyX6_ok 1 (by decide)⟩
theorem fl_X6_isInHand_41 : Fl RX6 wsX6_isInHand 41 6 5 false .int := ⟨_, _, _, tyX6, rfl, in_X6_isInHand_X6, by decide, by decide +kernel, tyX6_ok, nmX6, rfl, tyX6_ok 5 (by decide)⟩
theorem fl_X6_isInHand_55 : Fl RX6 wsX6_isInHand 55 6 4 false .int := ⟨_, _, _, tyX6, rfl, in_X6_isInHand_X6, by decide, by decide +kernel, tyX6_ok, nmX6, rfl, tyX6_ok 4 (by decide)⟩
set_option maxHeartbeats 4000000 in
set_option maxRecDepth 100000 in
theorem v_Re_isInHand {Γ : Cx} {ad : Nat → Nat} {rr : Int32} {σr : Mm} (O : Ok LT Γ ad cX6_isInHand 2 RX6 wsX6_isInHand rm_X6_isInHand (some .boolean) (some (.int rr)) σr) {σ : Mm} {v1 : Int32}  (hf : f_Re_isInHand σ v1 = some (rr, σr)) : X LT Γ ad σ 0 [(0, .ref (ad 3)), (1, .int v1)] [] := by
  unfold f_Re_isInHand at hf
  refine x_aload_n O 0 dX6_isInHand_0 rfl rfl ?_
  refine x_getI O fl_X6_isInHand_41 rfl dX6_isInHand_1 ?_
  refine x_aload_n O 0 dX6_isInHand_4 rfl rfl ?_
  refine x_getI O fl_X6_isInHand_55 rfl dX6_isInHand_5 ?_
  refine x_icmp_ge O 28 hf dX6_isInHand_8 (by decide) (fun hf => ?_) (fun hf => ?_)
  · refine x_iconst O (v := 0) dX6_isInHand_28 (by decide) ?_
    have hk : (0, σ) = (rr, σr) := Option.some.inj hf
    obtain ⟨rfl, rfl⟩ := Prod.mk.inj hk
    exact x_iret O rfl rfl ⟨_, rfl, rfl⟩ dX6_isInHand_29
  · refine x_aload_n O 0 dX6_isInHand_11 rfl rfl ?_
    refine x_getF O (t := 4) fl_X6_isInHand_11 rfl dX6_isInHand_12 ?_
    refine x_aload_n O 0 dX6_isInHand_15 rfl rfl ?_
    refine x_getI O fl_X6_isInHand_41 rfl dX6_isInHand_16 ?_
    refine x_iald O hf rfl dX6_isInHand_19 (fun j1 hf => ?_)
    refine x_iload_n O 1 dX6_isInHand_20 rfl rfl ?_
    refine x_icmp_ne O 28 hf dX6_isInHand_21 (by decide) (fun hf => ?_) (fun hf => ?_)
    · refine x_iconst O (v := 0) dX6_isInHand_28 (by decide) ?_
      have hk : (0, σ) = (rr, σr) := Option.some.inj hf
      obtain ⟨rfl, rfl⟩ := Prod.mk.inj hk
      exact x_iret O rfl rfl ⟨_, rfl, rfl⟩ dX6_isInHand_29
    · refine x_iconst O (v := 1) dX6_isInHand_24 (by decide) ?_
      refine x_goto O 29 dX6_isInHand_25 (by decide) ?_
      have hk : (1, σ) = (rr, σr) := Option.some.inj hf
      obtain ⟨rfl, rfl⟩ := Prod.mk.inj hk
      exact x_iret O rfl rfl ⟨_, rfl, rfl⟩ dX6_isInHand_29
theorem k_Re_isInHand {σ σr : Mm} {rr : Int32} {v1 : Int32}  (hf : f_Re_isInHand σ v1 = some (rr, σr)) : CT LT yX6_isInHand wsX6_isInHand rm_X6_isInHand (fun ad => [.ref (ad 3), .int v1]) σ (some (.int rr)) σr := CT_of2 (cc := cX6_isInHand) (maxL := 2) (rt := (some .boolean)) (own := RX6) (by decide) rfl rfl (fun _ => Nat.le_of_ble_eq_true rfl) (fun _ => rfl) (fun Γ ad O => v_Re_isInHand O  hf)

-- ===== TippedBarrow$Reader.readNumber(II)I
theorem ca_X6_readNumber : Ca yX6_readNumber cX6_readNumber 4 (some .int) wsX6_readNumber rm_X6_readNumber 2 := ⟨⟨_, rfl⟩, rfl, rfl, by decide +kernel, by decide +kernel, by decide +kernel⟩
theorem in_X6_readNumber_X6 : ∀ w ∈ wsX60, w ∈ wsX6_readNumber := by decide +kernel
theorem fl_X6_readNumber_15 : Fl RX6 wsX6_readNumber 15 6 2 true (.array .int) := ⟨_, _, _, tyX6, rfl, in_X6_readNumber_X6, by decide, by decide +kernel, tyX6_ok, nmX6, rfl, tyX6_ok 2 (by decide)⟩
theorem fl_X6_readNumber_41 : Fl RX6 wsX6_readNumber 41 6 5 false .int := ⟨_, _, _, tyX6, rfl, in_X6_readNumber_X6, by decide, by decide +kernel, tyX6_ok, nmX6, rfl, tyX6_ok 5 (by decide)⟩
set_option maxHeartbeats 4000000 in
set_option maxRecDepth 100000 in
theorem v_Re_readNumber {Γ : Cx} {ad : Nat → Nat} {rr : Int32} {σr : Mm} (O : Ok LT Γ ad cX6_readNumber 4 RX6 wsX6_readNumber rm_X6_readNumber (some .int) (some (.int rr)) σr) {σ : Mm} {v1 : Int32} {v2 : Int32}  (hf : f_Re_readNumber σ v1 v2 = some (rr, σr)) : X LT Γ ad σ 0 [(0, .ref (ad 3)), (1, .int v1), (2, .int v2)] [] := by
  unfold f_Re_readNumber at hf
  refine x_aload_n O 0 dX6_readNumber_0 rfl rfl ?_
  refine x_bipush O (v := -2) dX6_readNumber_1 (by decide) ?_
  obtain ⟨r_1, σ1, hc, hf⟩ := bd_some hf
  refine x_callV O (k_Re_isInHand  hc) ca_X6_isInHand gX6_readNumber_X6_isInHand rfl ⟨_, _, _, _, rfl, rfl⟩ rfl rfl rfl (Nat.le_of_ble_eq_true rfl) ⟨Nat.le_of_ble_eq_true rfl, Nat.le_of_ble_eq_true rfl⟩ dX6_readNumber_3 ?_
  refine x_push O ?_
  refine x_if_eq O 35 hf dX6_readNumber_6 (by decide) (fun hf => ?_) (fun hf => ?_)
  · refine x_iconst O (v := -1) dX6_readNumber_35 (by decide) ?_
    have hk : ((-1), σ1) = (rr, σr) := Option.some.inj hf
    obtain ⟨rfl, rfl⟩ := Prod.mk.inj hk
    exact x_iret O rfl rfl ⟨_, rfl, rfl⟩ dX6_readNumber_36
  · refine x_aload_n O 0 dX6_readNumber_9 rfl rfl ?_
    refine x_getF O (t := 5) fl_X6_readNumber_15 rfl dX6_readNumber_10 ?_
    refine x_aload_n O 0 dX6_readNumber_13 rfl rfl ?_
    refine x_getI O fl_X6_readNumber_41 rfl dX6_readNumber_14 ?_
    refine x_iald O hf rfl dX6_readNumber_17 (fun j1 hf => ?_)
    refine x_iload_n O 1 dX6_readNumber_18 rfl rfl ?_
    refine x_icmp_lt O 35 hf dX6_readNumber_19 (by decide) (fun hf => ?_) (fun hf => ?_)
    · refine x_iconst O (v := -1) dX6_readNumber_35 (by decide) ?_
      have hk : ((-1), σ1) = (rr, σr) := Option.some.inj hf
      obtain ⟨rfl, rfl⟩ := Prod.mk.inj hk
      exact x_iret O rfl rfl ⟨_, rfl, rfl⟩ dX6_readNumber_36
    · refine x_aload_n O 0 dX6_readNumber_22 rfl rfl ?_
      refine x_getF O (t := 5) fl_X6_readNumber_15 rfl dX6_readNumber_23 ?_
      refine x_aload_n O 0 dX6_readNumber_26 rfl rfl ?_
      refine x_getI O fl_X6_readNumber_41 rfl dX6_readNumber_27 ?_
      refine x_iald O hf rfl dX6_readNumber_30 (fun j2 hf => ?_)
      refine x_iload_n O 2 dX6_readNumber_31 rfl rfl ?_
      refine x_icmp_le O 37 hf dX6_readNumber_32 (by decide) (fun hf => ?_) (fun hf => ?_)
      · refine x_aload_n O 0 dX6_readNumber_37 rfl rfl ?_
        refine x_getF O (t := 5) fl_X6_readNumber_15 rfl dX6_readNumber_38 ?_
        refine x_aload_n O 0 dX6_readNumber_41 rfl rfl ?_
        refine x_getI O fl_X6_readNumber_41 rfl dX6_readNumber_42 ?_
        refine x_iald O hf rfl dX6_readNumber_45 (fun j3 hf => ?_)
        refine x_istore_nN O 3 hf dX6_readNumber_46 rfl (by decide) (fun y1 hf => ?_)
        refine x_aload_n O 0 dX6_readNumber_47 rfl rfl ?_
        refine x_dup O dX6_readNumber_48 rfl ?_
        refine x_getI O fl_X6_readNumber_41 rfl dX6_readNumber_49 ?_
        refine x_iconst O (v := 1) dX6_readNumber_52 (by decide) ?_
        refine x_iadd O dX6_readNumber_53 ?_
        refine x_putIN O hf rfl rfl fl_X6_readNumber_41 rfl dX6_readNumber_54 (fun σ2 hf => ?_)
        refine x_iload_n O 3 dX6_readNumber_57 rfl rfl ?_
        have hk : (y1, σ2) = (rr, σr) := Option.some.inj hf
        obtain ⟨rfl, rfl⟩ := Prod.mk.inj hk
        exact x_iret O rfl rfl ⟨_, rfl, rfl⟩ dX6_readNumber_58
      · refine x_iconst O (v := -1) dX6_readNumber_35 (by decide) ?_
        have hk : ((-1), σ1) = (rr, σr) := Option.some.inj hf
        obtain ⟨rfl, rfl⟩ := Prod.mk.inj hk
        exact x_iret O rfl rfl ⟨_, rfl, rfl⟩ dX6_readNumber_36
theorem k_Re_readNumber {σ σr : Mm} {rr : Int32} {v1 : Int32} {v2 : Int32}  (hf : f_Re_readNumber σ v1 v2 = some (rr, σr)) : CT LT yX6_readNumber wsX6_readNumber rm_X6_readNumber (fun ad => [.ref (ad 3), .int v1, .int v2]) σ (some (.int rr)) σr := CT_of2 (cc := cX6_readNumber) (maxL := 4) (rt := (some .int)) (own := RX6) (by decide) rfl rfl (fun _ => Nat.le_of_ble_eq_true rfl) (fun _ => rfl) (fun Γ ad O => v_Re_readNumber O  hf)

-- ===== TippedBarrow$Reader.readWide()Z
theorem ca_X6_readWide : Ca yX6_readWide cX6_readWide 2 (some .boolean) wsX6_readWide rm_X6_readWide 0 := ⟨⟨_, rfl⟩, rfl, rfl, by decide +kernel, by decide +kernel, by decide +kernel⟩
theorem in_X6_readWide_X5 : ∀ w ∈ wsX50, w ∈ wsX6_readWide := by decide +kernel
theorem in_X6_readWide_X6 : ∀ w ∈ wsX60, w ∈ wsX6_readWide := by decide +kernel
theorem fl_X6_readWide_25 : Fl RX6 wsX6_readWide 25 6 6 false (.object "TippedBarrow$Plan") := ⟨_, _, _, tyX6, rfl, in_X6_readWide_X6, by decide, by decide +kernel, tyX6_ok, nmX6, rfl, tyX6_ok 6 (by decide)⟩
theorem fl_X6_readWide_41 : Fl RX6 wsX6_readWide 41 6 5 false .int := ⟨_, _, _, tyX6, rfl, in_X6_readWide_X6, by decide, by decide +kernel, tyX6_ok, nmX6, rfl, tyX6_ok 5 (by decide)⟩
theorem fl_X6_readWide_103 : Fl RX6 wsX6_readWide 103 5 1 false .int := ⟨_, _, _, tyX5, rfl, in_X6_readWide_X5, by decide, by decide +kernel, tyX5_ok, nmX5, rfl, tyX5_ok 1 (by decide)⟩
set_option maxHeartbeats 4000000 in
set_option maxRecDepth 100000 in
theorem v_Re_readWide {Γ : Cx} {ad : Nat → Nat} {rr : Int32} {σr : Mm} (O : Ok LT Γ ad cX6_readWide 2 RX6 wsX6_readWide rm_X6_readWide (some .boolean) (some (.int rr)) σr) {σ : Mm}   (hf : f_Re_readWide σ = some (rr, σr)) : X LT Γ ad σ 0 [(0, .ref (ad 3))] [] := by
  unfold f_Re_readWide at hf
  refine x_aload_n O 0 dX6_readWide_0 rfl rfl ?_
  refine x_dup O dX6_readWide_1 rfl ?_
  refine x_getI O fl_X6_readWide_41 rfl dX6_readWide_2 ?_
  refine x_iconst O (v := 1) dX6_readWide_5 (by decide) ?_
  refine x_iadd O dX6_readWide_6 ?_
  refine x_putIN O hf rfl rfl fl_X6_readWide_41 rfl dX6_readWide_7 (fun σ1 hf => ?_)
  refine x_aload_n O 0 dX6_readWide_10 rfl rfl ?_
  refine x_iconst O (v := 1) dX6_readWide_11 (by decide) ?_
  refine x_iconst O (v := 5) dX6_readWide_12 (by decide) ?_
  obtain ⟨r_1, σ2, hc, hf⟩ := bd_some hf
  refine x_callV O (k_Re_readNumber  hc) ca_X6_readNumber gX6_readWide_X6_readNumber rfl ⟨_, _, _, _, rfl, rfl⟩ rfl rfl rfl (Nat.le_of_ble_eq_true rfl) ⟨Nat.le_of_ble_eq_true rfl, Nat.le_of_ble_eq_true rfl⟩ dX6_readWide_13 ?_
  refine x_push O ?_
  refine x_istore_n O 1 dX6_readWide_16 rfl (by decide) ?_
  refine x_iload_n O 1 dX6_readWide_17 rfl rfl ?_
  refine x_if_ge O 23 hf dX6_readWide_18 (by decide) (fun hf => ?_) (fun hf => ?_)
  · refine x_aload_n O 0 dX6_readWide_23 rfl rfl ?_
    refine x_getR O hf fl_X6_readWide_25 rfl dX6_readWide_24 (fun t1 ht1 hf => ?_)
    refine x_iload_n O 1 dX6_readWide_27 rfl rfl ?_
    refine x_putIN O hf rfl rfl fl_X6_readWide_103 (fk_of (fkPl ht1) rfl) dX6_readWide_28 (fun σ3 hf => ?_)
    refine x_iconst O (v := 1) dX6_readWide_31 (by decide) ?_
    have hk : (1, σ3) = (rr, σr) := Option.some.inj hf
    obtain ⟨rfl, rfl⟩ := Prod.mk.inj hk
    exact x_iret O rfl rfl ⟨_, rfl, rfl⟩ dX6_readWide_32
  · refine x_iconst O (v := 0) dX6_readWide_21 (by decide) ?_
    have hk : (0, σ2) = (rr, σr) := Option.some.inj hf
    obtain ⟨rfl, rfl⟩ := Prod.mk.inj hk
    exact x_iret O rfl rfl ⟨_, rfl, rfl⟩ dX6_readWide_22
theorem k_Re_readWide {σ σr : Mm} {rr : Int32}   (hf : f_Re_readWide σ = some (rr, σr)) : CT LT yX6_readWide wsX6_readWide rm_X6_readWide (fun ad => [.ref (ad 3)]) σ (some (.int rr)) σr := CT_of2 (cc := cX6_readWide) (maxL := 2) (rt := (some .boolean)) (own := RX6) (by decide) rfl rfl (fun _ => Nat.le_of_ble_eq_true rfl) (fun _ => rfl) (fun Γ ad O => v_Re_readWide O  hf)

-- ===== TippedBarrow.cellAt(II)I
theorem ca_X9_cellAt : Ca yX9_cellAt cX9_cellAt 2 (some .int) wsX9_cellAt rm_X9_cellAt 2 := ⟨⟨_, rfl⟩, rfl, rfl, by decide +kernel, by decide +kernel, by decide +kernel⟩
set_option maxHeartbeats 4000000 in
set_option maxRecDepth 100000 in
theorem v_T_cellAt {Γ : Cx} {ad : Nat → Nat} {rr : Int32} {σr : Mm} (O : Ok LT Γ ad cX9_cellAt 2 RX9 wsX9_cellAt rm_X9_cellAt (some .int) (some (.int rr)) σr) {σ : Mm} {v0 : Int32} {v1 : Int32}  (hf : f_T_cellAt σ v0 v1 = some (rr, σr)) : X LT Γ ad σ 0 [(0, .int v0), (1, .int v1)] [] := by
  unfold f_T_cellAt at hf
  refine x_iload_n O 0 dX9_cellAt_0 rfl rfl ?_
  refine x_if_lt O 18 hf dX9_cellAt_1 (by decide) (fun hf => ?_) (fun hf => ?_)
  · refine x_iconst O (v := -1) dX9_cellAt_18 (by decide) ?_
    have hk : ((-1), σ) = (rr, σr) := Option.some.inj hf
    obtain ⟨rfl, rfl⟩ := Prod.mk.inj hk
    exact x_iret O rfl rfl ⟨_, rfl, rfl⟩ dX9_cellAt_19
  · refine x_iload_n O 0 dX9_cellAt_4 rfl rfl ?_
    refine x_iconst O (v := 5) dX9_cellAt_5 (by decide) ?_
    refine x_icmp_ge O 18 hf dX9_cellAt_6 (by decide) (fun hf => ?_) (fun hf => ?_)
    · refine x_iconst O (v := -1) dX9_cellAt_18 (by decide) ?_
      have hk : ((-1), σ) = (rr, σr) := Option.some.inj hf
      obtain ⟨rfl, rfl⟩ := Prod.mk.inj hk
      exact x_iret O rfl rfl ⟨_, rfl, rfl⟩ dX9_cellAt_19
    · refine x_iload_n O 1 dX9_cellAt_9 rfl rfl ?_
      refine x_if_lt O 18 hf dX9_cellAt_10 (by decide) (fun hf => ?_) (fun hf => ?_)
      · refine x_iconst O (v := -1) dX9_cellAt_18 (by decide) ?_
        have hk : ((-1), σ) = (rr, σr) := Option.some.inj hf
        obtain ⟨rfl, rfl⟩ := Prod.mk.inj hk
        exact x_iret O rfl rfl ⟨_, rfl, rfl⟩ dX9_cellAt_19
      · refine x_iload_n O 1 dX9_cellAt_13 rfl rfl ?_
        refine x_iconst O (v := 4) dX9_cellAt_14 (by decide) ?_
        refine x_icmp_lt O 20 hf dX9_cellAt_15 (by decide) (fun hf => ?_) (fun hf => ?_)
        · refine x_iconst O (v := 5) dX9_cellAt_20 (by decide) ?_
          refine x_iload_n O 1 dX9_cellAt_21 rfl rfl ?_
          refine x_imul O dX9_cellAt_22 ?_
          refine x_iload_n O 0 dX9_cellAt_23 rfl rfl ?_
          refine x_iadd O dX9_cellAt_24 ?_
          have hk : (((5 * v1) + v0), σ) = (rr, σr) := Option.some.inj hf
          obtain ⟨rfl, rfl⟩ := Prod.mk.inj hk
          exact x_iret O rfl rfl ⟨_, rfl, rfl⟩ dX9_cellAt_25
        · refine x_iconst O (v := -1) dX9_cellAt_18 (by decide) ?_
          have hk : ((-1), σ) = (rr, σr) := Option.some.inj hf
          obtain ⟨rfl, rfl⟩ := Prod.mk.inj hk
          exact x_iret O rfl rfl ⟨_, rfl, rfl⟩ dX9_cellAt_19
theorem k_T_cellAt {σ σr : Mm} {rr : Int32} {v0 : Int32} {v1 : Int32}  (hf : f_T_cellAt σ v0 v1 = some (rr, σr)) : CT LT yX9_cellAt wsX9_cellAt rm_X9_cellAt (fun ad => [.int v0, .int v1]) σ (some (.int rr)) σr := CT_of2 (cc := cX9_cellAt) (maxL := 2) (rt := (some .int)) (own := RX9) (by decide) rfl rfl (fun _ => Nat.le_of_ble_eq_true rfl) (fun _ => rfl) (fun Γ ad O => v_T_cellAt O  hf)

-- ===== TippedBarrow$Reader.readCell(I)Z
theorem ca_X6_readCell : Ca yX6_readCell cX6_readCell 3 (some .boolean) wsX6_readCell rm_X6_readCell 1 := ⟨⟨_, rfl⟩, rfl, rfl, by decide +kernel, by decide +kernel, by decide +kernel⟩
theorem in_X6_readCell_X5 : ∀ w ∈ wsX50, w ∈ wsX6_readCell := by decide +kernel
theorem in_X6_readCell_X6 : ∀ w ∈ wsX60, w ∈ wsX6_readCell := by decide +kernel
theorem fl_X6_readCell_25 : Fl RX6 wsX6_readCell 25 6 6 false (.object "TippedBarrow$Plan") := ⟨_, _, _, tyX6, rfl, in_X6_readCell_X6, by decide, by decide +kernel, tyX6_ok, nmX6, rfl, tyX6_ok 6 (by decide)⟩
theorem fl_X6_readCell_41 : Fl RX6 wsX6_readCell 41 6 5 false .int := ⟨_, _, _, tyX6, rfl, in_X6_readCell_X6, by decide, by decide +kernel, tyX6_ok, nmX6, rfl, tyX6_ok 5 (by decide)⟩
theorem fl_X6_readCell_118 : Fl RX6 wsX6_readCell 118 5 0 true (.array .int) := ⟨_, _, _, tyX5, rfl, in_X6_readCell_X5, by decide, by decide +kernel, tyX5_ok, nmX5, rfl, tyX5_ok 0 (by decide)⟩
set_option maxHeartbeats 4000000 in
set_option maxRecDepth 100000 in
theorem v_Re_readCell {Γ : Cx} {ad : Nat → Nat} {rr : Int32} {σr : Mm} (O : Ok LT Γ ad cX6_readCell 3 RX6 wsX6_readCell rm_X6_readCell (some .boolean) (some (.int rr)) σr) {σ : Mm} {v1 : Int32}  (hf : f_Re_readCell σ v1 = some (rr, σr)) : X LT Γ ad σ 0 [(0, .ref (ad 3)), (1, .int v1)] [] := by
  unfold f_Re_readCell at hf
  refine x_aload_n O 0 dX6_readCell_0 rfl rfl ?_
  refine x_bipush O (v := 120) dX6_readCell_1 (by decide) ?_
  obtain ⟨r_1, σ1, hc, hf⟩ := bd_some hf
  refine x_callV O (k_Re_isInHand  hc) ca_X6_isInHand gX6_readCell_X6_isInHand rfl ⟨_, _, _, _, rfl, rfl⟩ rfl rfl rfl (Nat.le_of_ble_eq_true rfl) ⟨Nat.le_of_ble_eq_true rfl, Nat.le_of_ble_eq_true rfl⟩ dX6_readCell_3 ?_
  refine x_push O ?_
  refine x_if_eq O 32 hf dX6_readCell_6 (by decide) (fun hf => ?_) (fun hf => ?_)
  · refine x_aload_n O 0 dX6_readCell_32 rfl rfl ?_
    refine x_iconst O (v := 0) dX6_readCell_33 (by decide) ?_
    refine x_bipush O (v := 8) dX6_readCell_34 (by decide) ?_
    obtain ⟨r_2, σ2, hc, hf⟩ := bd_some hf
    refine x_callV O (k_Re_readNumber  hc) ca_X6_readNumber gX6_readCell_X6_readNumber rfl ⟨_, _, _, _, rfl, rfl⟩ rfl rfl rfl (Nat.le_of_ble_eq_true rfl) ⟨Nat.le_of_ble_eq_true rfl, Nat.le_of_ble_eq_true rfl⟩ dX6_readCell_36 ?_
    refine x_push O ?_
    refine x_istore_n O 2 dX6_readCell_39 rfl (by decide) ?_
    refine x_iload_n O 2 dX6_readCell_40 rfl rfl ?_
    refine x_if_ge O 46 hf dX6_readCell_41 (by decide) (fun hf => ?_) (fun hf => ?_)
    · refine x_aload_n O 0 dX6_readCell_46 rfl rfl ?_
      refine x_getR O hf fl_X6_readCell_25 rfl dX6_readCell_47 (fun t1 ht1 hf => ?_)
      refine x_getF O (t := (t1 + 1)) fl_X6_readCell_118 (fk_of (fkPl ht1) rfl) dX6_readCell_50 ?_
      refine x_iload_n O 1 dX6_readCell_53 rfl rfl ?_
      refine x_iload_n O 2 dX6_readCell_54 rfl rfl ?_
      refine x_iconst O (v := 4) dX6_readCell_55 (by decide) ?_
      refine x_isub O dX6_readCell_56 ?_
      refine x_iastN O hf (arPl ht1) dX6_readCell_57 (fun σ3 hf => ?_)
      refine x_iconst O (v := 1) dX6_readCell_58 (by decide) ?_
      have hk : (1, σ3) = (rr, σr) := Option.some.inj hf
      obtain ⟨rfl, rfl⟩ := Prod.mk.inj hk
      exact x_iret O rfl rfl ⟨_, rfl, rfl⟩ dX6_readCell_59
    · refine x_iconst O (v := 0) dX6_readCell_44 (by decide) ?_
      have hk : (0, σ2) = (rr, σr) := Option.some.inj hf
      obtain ⟨rfl, rfl⟩ := Prod.mk.inj hk
      exact x_iret O rfl rfl ⟨_, rfl, rfl⟩ dX6_readCell_45
  · refine x_aload_n O 0 dX6_readCell_9 rfl rfl ?_
    refine x_dup O dX6_readCell_10 rfl ?_
    refine x_getI O fl_X6_readCell_41 rfl dX6_readCell_11 ?_
    refine x_iconst O (v := 1) dX6_readCell_14 (by decide) ?_
    refine x_iadd O dX6_readCell_15 ?_
    refine x_putIN O hf rfl rfl fl_X6_readCell_41 rfl dX6_readCell_16 (fun σ4 hf => ?_)
    refine x_aload_n O 0 dX6_readCell_19 rfl rfl ?_
    refine x_getR O hf fl_X6_readCell_25 rfl dX6_readCell_20 (fun t2 ht2 hf => ?_)
    refine x_getF O (t := (t2 + 1)) fl_X6_readCell_118 (fk_of (fkPl ht2) rfl) dX6_readCell_23 ?_
    refine x_iload_n O 1 dX6_readCell_26 rfl rfl ?_
    refine x_bipush O (v := 100) dX6_readCell_27 (by decide) ?_
    refine x_iastN O hf (arPl ht2) dX6_readCell_29 (fun σ5 hf => ?_)
    refine x_iconst O (v := 1) dX6_readCell_30 (by decide) ?_
    have hk : (1, σ5) = (rr, σr) := Option.some.inj hf
    obtain ⟨rfl, rfl⟩ := Prod.mk.inj hk
    exact x_iret O rfl rfl ⟨_, rfl, rfl⟩ dX6_readCell_31
theorem k_Re_readCell {σ σr : Mm} {rr : Int32} {v1 : Int32}  (hf : f_Re_readCell σ v1 = some (rr, σr)) : CT LT yX6_readCell wsX6_readCell rm_X6_readCell (fun ad => [.ref (ad 3), .int v1]) σ (some (.int rr)) σr := CT_of2 (cc := cX6_readCell) (maxL := 3) (rt := (some .boolean)) (own := RX6) (by decide) rfl rfl (fun _ => Nat.le_of_ble_eq_true rfl) (fun _ => rfl) (fun Γ ad O => v_Re_readCell O  hf)

-- ===== TippedBarrow$Reader.readRow()Z
theorem ca_X6_readRow : Ca yX6_readRow cX6_readRow 3 (some .boolean) wsX6_readRow rm_X6_readRow 0 := ⟨⟨_, rfl⟩, rfl, rfl, by decide +kernel, by decide +kernel, by decide +kernel⟩
theorem in_X6_readRow_X5 : ∀ w ∈ wsX50, w ∈ wsX6_readRow := by decide +kernel
theorem in_X6_readRow_X6 : ∀ w ∈ wsX60, w ∈ wsX6_readRow := by decide +kernel
theorem fl_X6_readRow_25 : Fl RX6 wsX6_readRow 25 6 6 false (.object "TippedBarrow$Plan") := ⟨_, _, _, tyX6, rfl, in_X6_readRow_X6, by decide, by decide +kernel, tyX6_ok, nmX6, rfl, tyX6_ok 6 (by decide)⟩
theorem fl_X6_readRow_41 : Fl RX6 wsX6_readRow 41 6 5 false .int := ⟨_, _, _, tyX6, rfl, in_X6_readRow_X6, by decide, by decide +kernel, tyX6_ok, nmX6, rfl, tyX6_ok 5 (by decide)⟩
theorem fl_X6_readRow_103 : Fl RX6 wsX6_readRow 103 5 1 false .int := ⟨_, _, _, tyX5, rfl, in_X6_readRow_X5, by decide, by decide +kernel, tyX5_ok, nmX5, rfl, tyX5_ok 1 (by decide)⟩
theorem fl_X6_readRow_106 : Fl RX6 wsX6_readRow 106 5 3 false .int := ⟨_, _, _, tyX5, rfl, in_X6_readRow_X5, by decide, by decide +kernel, tyX5_ok, nmX5, rfl, tyX5_ok 3 (by decide)⟩
theorem fl_X6_readRow_109 : Fl RX6 wsX6_readRow 109 5 2 false .int := ⟨_, _, _, tyX5, rfl, in_X6_readRow_X5, by decide, by decide +kernel, tyX5_ok, nmX5, rfl, tyX5_ok 2 (by decide)⟩
theorem mw_X6_readRow_0 : Cond.static yX9_cellAt ∈ wsX6_readRow := by decide +kernel
theorem mw_X6_readRow_1 : Cond.initialized yX9_cellAt.cls ∈ wsX6_readRow := by decide +kernel
set_option maxHeartbeats 4000000 in
set_option maxRecDepth 100000 in
theorem v_Re_readRow_90 {Γ : Cx} {ad : Nat → Nat} {rr : Int32} {σr : Mm} (O : Ok LT Γ ad cX6_readRow 3 RX6 wsX6_readRow rm_X6_readRow (some .boolean) (some (.int rr)) σr) {σ : Mm}   (hf : f_Re_readRow_90 σ = some (rr, σr)) : X LT Γ ad σ 90 [(0, .ref (ad 3))] [] := by
  unfold f_Re_readRow_90 at hf
  refine x_aload_n O 0 dX6_readRow_90 rfl rfl ?_
  refine x_getR O hf fl_X6_readRow_25 rfl dX6_readRow_91 (fun t1 ht1 hf => ?_)
  refine x_dup O dX6_readRow_94 rfl ?_
  refine x_getI O fl_X6_readRow_109 (fk_of (fkPl ht1) rfl) dX6_readRow_95 ?_
  refine x_iconst O (v := 1) dX6_readRow_98 (by decide) ?_
  refine x_iadd O dX6_readRow_99 ?_
  refine x_putIN O hf rfl rfl fl_X6_readRow_109 (fk_of (fkPl ht1) rfl) dX6_readRow_100 (fun σ1 hf => ?_)
  refine x_iconst O (v := 1) dX6_readRow_103 (by decide) ?_
  have hk : (1, σ1) = (rr, σr) := Option.some.inj hf
  obtain ⟨rfl, rfl⟩ := Prod.mk.inj hk
  exact x_iret O rfl rfl ⟨_, rfl, rfl⟩ dX6_readRow_104
set_option maxHeartbeats 4000000 in
set_option maxRecDepth 100000 in
theorem v_Re_readRow_47_b {Γ : Cx} {ad : Nat → Nat} {rr : Int32} {σr : Mm} (O : Ok LT Γ ad cX6_readRow 3 RX6 wsX6_readRow rm_X6_readRow (some .boolean) (some (.int rr)) σr) {σ : Mm} {v1 : Int32}  {x : (Mm × Int32) ⊕ (Int32 × Mm)} (hf : f_Re_readRow_47_b σ v1 = some x) (hk : (kx (fun s : Mm × Int32 => X LT Γ ad s.1 47 [(0, .ref (ad 3)), (1, .int s.2)] []) (fun q : Int32 × Mm => q = (rr, σr))) x) : X LT Γ ad σ 47 [(0, .ref (ad 3)), (1, .int v1)] [] := by
  unfold f_Re_readRow_47_b at hf
  refine x_iload_n O 1 dX6_readRow_47 rfl rfl ?_
  refine x_aload_n O 0 dX6_readRow_48 rfl rfl ?_
  refine x_getR O hf fl_X6_readRow_25 rfl dX6_readRow_49 (fun t1 ht1 hf => ?_)
  refine x_getI O fl_X6_readRow_103 (fk_of (fkPl ht1) rfl) dX6_readRow_52 ?_
  refine x_icmp_ge O 90 hf dX6_readRow_55 (by decide) (fun hf => ?_) (fun hf => ?_)
  · obtain ⟨x', hg1, hx⟩ := map_inr hf
    subst hx
    have hk := kx_r hk
    have hx : x' = (rr, σr) := hk
    subst hx
    have hf := hg1
    exact x_jmp O (v_Re_readRow_90 O (σ := σ)   hf) rfl
  · refine x_iload_n O 1 dX6_readRow_58 rfl rfl ?_
    refine x_aload_n O 0 dX6_readRow_59 rfl rfl ?_
    refine x_getR O hf fl_X6_readRow_25 rfl dX6_readRow_60 (fun t2 ht2 hf => ?_)
    refine x_getI O fl_X6_readRow_109 (fk_of (fkPl ht2) rfl) dX6_readRow_63 ?_
    obtain ⟨r_1, σ1, hc, hf⟩ := bd_some hf
    refine x_callN O (k_T_cellAt  hc) ca_X9_cellAt gX6_readRow_X9_cellAt_n112 (by decide +kernel) mw_X6_readRow_0 mw_X6_readRow_1 rfl rfl rfl (Nat.le_of_ble_eq_true rfl) ⟨Nat.le_of_ble_eq_true rfl, Nat.le_of_ble_eq_true rfl⟩ dX6_readRow_66 ?_
    refine x_push O ?_
    refine x_istore_n O 2 dX6_readRow_69 rfl (by decide) ?_
    refine x_iload_n O 2 dX6_readRow_70 rfl rfl ?_
    refine x_if_lt O 82 hf dX6_readRow_71 (by decide) (fun hf => ?_) (fun hf => ?_)
    · obtain ⟨x', hg2, hx⟩ := map_inr hf
      subst hx
      have hk := kx_r hk
      have hx : x' = (rr, σr) := hk
      subst hx
      have hf := hg2
      refine x_iconst O (v := 0) dX6_readRow_82 (by decide) ?_
      have hk : (0, σ1) = (rr, σr) := Option.some.inj hf
      obtain ⟨rfl, rfl⟩ := Prod.mk.inj hk
      exact x_iret O rfl rfl ⟨_, rfl, rfl⟩ dX6_readRow_83
    · refine x_aload_n O 0 dX6_readRow_74 rfl rfl ?_
      refine x_iload_n O 2 dX6_readRow_75 rfl rfl ?_
      obtain ⟨r_2, σ2, hc, hf⟩ := bd_some hf
      refine x_callV O (k_Re_readCell  hc) ca_X6_readCell gX6_readRow_X6_readCell rfl ⟨_, _, _, _, rfl, rfl⟩ rfl rfl rfl (Nat.le_of_ble_eq_true rfl) ⟨Nat.le_of_ble_eq_true rfl, Nat.le_of_ble_eq_true rfl⟩ dX6_readRow_76 ?_
      refine x_push O ?_
      refine x_if_ne O 84 hf dX6_readRow_79 (by decide) (fun hf => ?_) (fun hf => ?_)
      · refine x_iincN O hf dX6_readRow_84 rfl rfl (by decide) (fun y1 hf => ?_)
        refine x_goto O 47 dX6_readRow_87 (by decide) ?_
        obtain rfl := Option.some.inj hf
        have hk := kx_l hk
        exact x_jmp O hk rfl
      · obtain ⟨x', hg3, hx⟩ := map_inr hf
        subst hx
        have hk := kx_r hk
        have hx : x' = (rr, σr) := hk
        subst hx
        have hf := hg3
        refine x_iconst O (v := 0) dX6_readRow_82 (by decide) ?_
        have hk : (0, σ2) = (rr, σr) := Option.some.inj hf
        obtain ⟨rfl, rfl⟩ := Prod.mk.inj hk
        exact x_iret O rfl rfl ⟨_, rfl, rfl⟩ dX6_readRow_83
set_option maxHeartbeats 4000000 in
set_option maxRecDepth 100000 in
theorem v_Re_readRow_47 {Γ : Cx} {ad : Nat → Nat} {rr : Int32} {σr : Mm} (O : Ok LT Γ ad cX6_readRow 3 RX6 wsX6_readRow rm_X6_readRow (some .boolean) (some (.int rr)) σr) {σ : Mm} {v1 : Int32}  (hf : f_Re_readRow_47 σ v1 = some (rr, σr)) : X LT Γ ad σ 47 [(0, .ref (ad 3)), (1, .int v1)] [] := lpX (P := (fun s : Mm × Int32 => X LT Γ ad s.1 47 [(0, .ref (ad 3)), (1, .int s.2)] [])) (K := (fun q : Int32 × Mm => q = (rr, σr))) (fun s x g1 g2 => v_Re_readRow_47_b O (σ := s.1)  (v1 := s.2)  g1 g2) (σ, v1) _ hf rfl
set_option maxHeartbeats 4000000 in
set_option maxRecDepth 100000 in
theorem v_Re_readRow {Γ : Cx} {ad : Nat → Nat} {rr : Int32} {σr : Mm} (O : Ok LT Γ ad cX6_readRow 3 RX6 wsX6_readRow rm_X6_readRow (some .boolean) (some (.int rr)) σr) {σ : Mm}   (hf : f_Re_readRow σ = some (rr, σr)) : X LT Γ ad σ 0 [(0, .ref (ad 3))] [] := by
  unfold f_Re_readRow at hf
  refine x_aload_n O 0 dX6_readRow_0 rfl rfl ?_
  refine x_getR O hf fl_X6_readRow_25 rfl dX6_readRow_1 (fun t1 ht1 hf => ?_)
  refine x_getI O fl_X6_readRow_103 (fk_of (fkPl ht1) rfl) dX6_readRow_4 ?_
  refine x_if_eq O 33 hf dX6_readRow_7 (by decide) (fun hf => ?_) (fun hf => ?_)
  · refine x_iconst O (v := 0) dX6_readRow_33 (by decide) ?_
    have hk : (0, σ) = (rr, σr) := Option.some.inj hf
    obtain ⟨rfl, rfl⟩ := Prod.mk.inj hk
    exact x_iret O rfl rfl ⟨_, rfl, rfl⟩ dX6_readRow_34
  · refine x_aload_n O 0 dX6_readRow_10 rfl rfl ?_
    refine x_getR O hf fl_X6_readRow_25 rfl dX6_readRow_11 (fun t2 ht2 hf => ?_)
    refine x_getI O fl_X6_readRow_106 (fk_of (fkPl ht2) rfl) dX6_readRow_14 ?_
    refine x_bipush O (v := -9) dX6_readRow_17 (by decide) ?_
    refine x_icmp_ne O 33 hf dX6_readRow_19 (by decide) (fun hf => ?_) (fun hf => ?_)
    · refine x_iconst O (v := 0) dX6_readRow_33 (by decide) ?_
      have hk : (0, σ) = (rr, σr) := Option.some.inj hf
      obtain ⟨rfl, rfl⟩ := Prod.mk.inj hk
      exact x_iret O rfl rfl ⟨_, rfl, rfl⟩ dX6_readRow_34
    · refine x_aload_n O 0 dX6_readRow_22 rfl rfl ?_
      refine x_getR O hf fl_X6_readRow_25 rfl dX6_readRow_23 (fun t3 ht3 hf => ?_)
      refine x_getI O fl_X6_readRow_109 (fk_of (fkPl ht3) rfl) dX6_readRow_26 ?_
      refine x_iconst O (v := 4) dX6_readRow_29 (by decide) ?_
      refine x_icmp_lt O 35 hf dX6_readRow_30 (by decide) (fun hf => ?_) (fun hf => ?_)
      · refine x_aload_n O 0 dX6_readRow_35 rfl rfl ?_
        refine x_dup O dX6_readRow_36 rfl ?_
        refine x_getI O fl_X6_readRow_41 rfl dX6_readRow_37 ?_
        refine x_iconst O (v := 1) dX6_readRow_40 (by decide) ?_
        refine x_iadd O dX6_readRow_41 ?_
        refine x_putIN O hf rfl rfl fl_X6_readRow_41 rfl dX6_readRow_42 (fun σ1 hf => ?_)
        refine x_iconst O (v := 0) dX6_readRow_45 (by decide) ?_
        refine x_istore_n O 1 dX6_readRow_46 rfl (by decide) ?_
        exact x_jmp O (v_Re_readRow_47 O (σ := σ1) (v1 := 0)  hf) rfl
      · refine x_iconst O (v := 0) dX6_readRow_33 (by decide) ?_
        have hk : (0, σ) = (rr, σr) := Option.some.inj hf
        obtain ⟨rfl, rfl⟩ := Prod.mk.inj hk
        exact x_iret O rfl rfl ⟨_, rfl, rfl⟩ dX6_readRow_34
theorem k_Re_readRow {σ σr : Mm} {rr : Int32}   (hf : f_Re_readRow σ = some (rr, σr)) : CT LT yX6_readRow wsX6_readRow rm_X6_readRow (fun ad => [.ref (ad 3)]) σ (some (.int rr)) σr := CT_of2 (cc := cX6_readRow) (maxL := 3) (rt := (some .boolean)) (own := RX6) (by decide) rfl rfl (fun _ => Nat.le_of_ble_eq_true rfl) (fun _ => rfl) (fun Γ ad O => v_Re_readRow O  hf)

-- ===== TippedBarrow$Reader.readStart()Z
theorem ca_X6_readStart : Ca yX6_readStart cX6_readStart 3 (some .boolean) wsX6_readStart rm_X6_readStart 0 := ⟨⟨_, rfl⟩, rfl, rfl, by decide +kernel, by decide +kernel, by decide +kernel⟩
theorem in_X6_readStart_X5 : ∀ w ∈ wsX50, w ∈ wsX6_readStart := by decide +kernel
theorem in_X6_readStart_X6 : ∀ w ∈ wsX60, w ∈ wsX6_readStart := by decide +kernel
theorem fl_X6_readStart_15 : Fl RX6 wsX6_readStart 15 6 2 true (.array .int) := ⟨_, _, _, tyX6, rfl, in_X6_readStart_X6, by decide, by decide +kernel, tyX6_ok, nmX6, rfl, tyX6_ok 2 (by decide)⟩
theorem fl_X6_readStart_25 : Fl RX6 wsX6_readStart 25 6 6 false (.object "TippedBarrow$Plan") := ⟨_, _, _, tyX6, rfl, in_X6_readStart_X6, by decide, by decide +kernel, tyX6_ok, nmX6, rfl, tyX6_ok 6 (by decide)⟩
theorem fl_X6_readStart_41 : Fl RX6 wsX6_readStart 41 6 5 false .int := ⟨_, _, _, tyX6, rfl, in_X6_readStart_X6, by decide, by decide +kernel, tyX6_ok, nmX6, rfl, tyX6_ok 5 (by decide)⟩
theorem fl_X6_readStart_103 : Fl RX6 wsX6_readStart 103 5 1 false .int := ⟨_, _, _, tyX5, rfl, in_X6_readStart_X5, by decide, by decide +kernel, tyX5_ok, nmX5, rfl, tyX5_ok 1 (by decide)⟩
theorem fl_X6_readStart_106 : Fl RX6 wsX6_readStart 106 5 3 false .int := ⟨_, _, _, tyX5, rfl, in_X6_readStart_X5, by decide, by decide +kernel, tyX5_ok, nmX5, rfl, tyX5_ok 3 (by decide)⟩
theorem fl_X6_readStart_109 : Fl RX6 wsX6_readStart 109 5 2 false .int := ⟨_, _, _, tyX5, rfl, in_X6_readStart_X5, by decide, by decide +kernel, tyX5_ok, nmX5, rfl, tyX5_ok 2 (by decide)⟩
theorem fl_X6_readStart_118 : Fl RX6 wsX6_readStart 118 5 0 true (.array .int) := ⟨_, _, _, tyX5, rfl, in_X6_readStart_X5, by decide, by decide +kernel, tyX5_ok, nmX5, rfl, tyX5_ok 0 (by decide)⟩
theorem mw_X6_readStart_0 : Cond.static yX9_cellAt ∈ wsX6_readStart := by decide +kernel
theorem mw_X6_readStart_1 : Cond.initialized yX9_cellAt.cls ∈ wsX6_readStart := by decide +kernel
set_option maxHeartbeats 4000000 in
set_option maxRecDepth 100000 in
theorem v_Re_readStart {Γ : Cx} {ad : Nat → Nat} {rr : Int32} {σr : Mm} (O : Ok LT Γ ad cX6_readStart 3 RX6 wsX6_readStart rm_X6_readStart (some .boolean) (some (.int rr)) σr) {σ : Mm}   (hf : f_Re_readStart σ = some (rr, σr)) : X LT Γ ad σ 0 [(0, .ref (ad 3))] [] := by
  unfold f_Re_readStart at hf
  refine x_aload_n O 0 dX6_readStart_0 rfl rfl ?_
  refine x_getR O hf fl_X6_readStart_25 rfl dX6_readStart_1 (fun t1 ht1 hf => ?_)
  refine x_getI O fl_X6_readStart_106 (fk_of (fkPl ht1) rfl) dX6_readStart_4 ?_
  refine x_bipush O (v := -9) dX6_readStart_7 (by decide) ?_
  refine x_icmp_eq O 14 hf dX6_readStart_9 (by decide) (fun hf => ?_) (fun hf => ?_)
  · refine x_aload_n O 0 dX6_readStart_14 rfl rfl ?_
    refine x_dup O dX6_readStart_15 rfl ?_
    refine x_getI O fl_X6_readStart_41 rfl dX6_readStart_16 ?_
    refine x_iconst O (v := 1) dX6_readStart_19 (by decide) ?_
    refine x_iadd O dX6_readStart_20 ?_
    refine x_putIN O hf rfl rfl fl_X6_readStart_41 rfl dX6_readStart_21 (fun σ1 hf => ?_)
    refine x_aload_n O 0 dX6_readStart_24 rfl rfl ?_
    refine x_iconst O (v := 0) dX6_readStart_25 (by decide) ?_
    refine x_aload_n O 0 dX6_readStart_26 rfl rfl ?_
    refine x_getR O hf fl_X6_readStart_25 rfl dX6_readStart_27 (fun t2 ht2 hf => ?_)
    refine x_getI O fl_X6_readStart_103 (fk_of (fkPl ht2) rfl) dX6_readStart_30 ?_
    refine x_iconst O (v := 1) dX6_readStart_33 (by decide) ?_
    refine x_isub O dX6_readStart_34 ?_
    obtain ⟨r_1, σ2, hc, hf⟩ := bd_some hf
    refine x_callV O (k_Re_readNumber  hc) ca_X6_readNumber gX6_readStart_X6_readNumber rfl ⟨_, _, _, _, rfl, rfl⟩ rfl rfl rfl (Nat.le_of_ble_eq_true rfl) ⟨Nat.le_of_ble_eq_true rfl, Nat.le_of_ble_eq_true rfl⟩ dX6_readStart_35 ?_
    refine x_push O ?_
    refine x_istore_n O 1 dX6_readStart_38 rfl (by decide) ?_
    refine x_iload_n O 1 dX6_readStart_39 rfl rfl ?_
    refine x_if_lt O 71 hf dX6_readStart_40 (by decide) (fun hf => ?_) (fun hf => ?_)
    · refine x_iconst O (v := 0) dX6_readStart_71 (by decide) ?_
      have hk : (0, σ2) = (rr, σr) := Option.some.inj hf
      obtain ⟨rfl, rfl⟩ := Prod.mk.inj hk
      exact x_iret O rfl rfl ⟨_, rfl, rfl⟩ dX6_readStart_72
    · refine x_aload_n O 0 dX6_readStart_43 rfl rfl ?_
      refine x_bipush O (v := -2) dX6_readStart_44 (by decide) ?_
      obtain ⟨r_2, σ3, hc, hf⟩ := bd_some hf
      refine x_callV O (k_Re_isInHand  hc) ca_X6_isInHand gX6_readStart_X6_isInHand rfl ⟨_, _, _, _, rfl, rfl⟩ rfl rfl rfl (Nat.le_of_ble_eq_true rfl) ⟨Nat.le_of_ble_eq_true rfl, Nat.le_of_ble_eq_true rfl⟩ dX6_readStart_46 ?_
      refine x_push O ?_
      refine x_if_eq O 71 hf dX6_readStart_49 (by decide) (fun hf => ?_) (fun hf => ?_)
      · refine x_iconst O (v := 0) dX6_readStart_71 (by decide) ?_
        have hk : (0, σ3) = (rr, σr) := Option.some.inj hf
        obtain ⟨rfl, rfl⟩ := Prod.mk.inj hk
        exact x_iret O rfl rfl ⟨_, rfl, rfl⟩ dX6_readStart_72
      · refine x_aload_n O 0 dX6_readStart_52 rfl rfl ?_
        refine x_getF O (t := 5) fl_X6_readStart_15 rfl dX6_readStart_53 ?_
        refine x_aload_n O 0 dX6_readStart_56 rfl rfl ?_
        refine x_getI O fl_X6_readStart_41 rfl dX6_readStart_57 ?_
        refine x_iald O hf rfl dX6_readStart_60 (fun j1 hf => ?_)
        refine x_aload_n O 0 dX6_readStart_61 rfl rfl ?_
        refine x_getR O hf fl_X6_readStart_25 rfl dX6_readStart_62 (fun t3 ht3 hf => ?_)
        refine x_getI O fl_X6_readStart_109 (fk_of (fkPl ht3) rfl) dX6_readStart_65 ?_
        refine x_icmp_lt O 73 hf dX6_readStart_68 (by decide) (fun hf => ?_) (fun hf => ?_)
        · refine x_iload_n O 1 dX6_readStart_73 rfl rfl ?_
          refine x_aload_n O 0 dX6_readStart_74 rfl rfl ?_
          refine x_getF O (t := 5) fl_X6_readStart_15 rfl dX6_readStart_75 ?_
          refine x_aload_n O 0 dX6_readStart_78 rfl rfl ?_
          refine x_getI O fl_X6_readStart_41 rfl dX6_readStart_79 ?_
          refine x_iald O hf rfl dX6_readStart_82 (fun j2 hf => ?_)
          obtain ⟨r_3, σ4, hc, hf⟩ := bd_some hf
          refine x_callN O (k_T_cellAt  hc) ca_X9_cellAt gX6_readStart_X9_cellAt_n112 (by decide +kernel) mw_X6_readStart_0 mw_X6_readStart_1 rfl rfl rfl (Nat.le_of_ble_eq_true rfl) ⟨Nat.le_of_ble_eq_true rfl, Nat.le_of_ble_eq_true rfl⟩ dX6_readStart_83 ?_
          refine x_push O ?_
          refine x_istore_n O 2 dX6_readStart_86 rfl (by decide) ?_
          refine x_iload_n O 2 dX6_readStart_87 rfl rfl ?_
          refine x_if_lt O 105 hf dX6_readStart_88 (by decide) (fun hf => ?_) (fun hf => ?_)
          · refine x_iconst O (v := 0) dX6_readStart_105 (by decide) ?_
            have hk : (0, σ4) = (rr, σr) := Option.some.inj hf
            obtain ⟨rfl, rfl⟩ := Prod.mk.inj hk
            exact x_iret O rfl rfl ⟨_, rfl, rfl⟩ dX6_readStart_106
          · refine x_aload_n O 0 dX6_readStart_91 rfl rfl ?_
            refine x_getR O hf fl_X6_readStart_25 rfl dX6_readStart_92 (fun t4 ht4 hf => ?_)
            refine x_getF O (t := (t4 + 1)) fl_X6_readStart_118 (fk_of (fkPl ht4) rfl) dX6_readStart_95 ?_
            refine x_iload_n O 2 dX6_readStart_98 rfl rfl ?_
            refine x_iald O hf (arPl ht4) dX6_readStart_99 (fun j3 hf => ?_)
            refine x_bipush O (v := 100) dX6_readStart_100 (by decide) ?_
            refine x_icmp_ne O 107 hf dX6_readStart_102 (by decide) (fun hf => ?_) (fun hf => ?_)
            · refine x_aload_n O 0 dX6_readStart_107 rfl rfl ?_
              refine x_dup O dX6_readStart_108 rfl ?_
              refine x_getI O fl_X6_readStart_41 rfl dX6_readStart_109 ?_
              refine x_iconst O (v := 1) dX6_readStart_112 (by decide) ?_
              refine x_iadd O dX6_readStart_113 ?_
              refine x_putIN O hf rfl rfl fl_X6_readStart_41 rfl dX6_readStart_114 (fun σ5 hf => ?_)
              refine x_aload_n O 0 dX6_readStart_117 rfl rfl ?_
              refine x_getR O hf fl_X6_readStart_25 rfl dX6_readStart_118 (fun t5 ht5 hf => ?_)
              refine x_iload_n O 2 dX6_readStart_121 rfl rfl ?_
              refine x_putIN O hf rfl rfl fl_X6_readStart_106 (fk_of (fkPl ht5) rfl) dX6_readStart_122 (fun σ6 hf => ?_)
              refine x_iconst O (v := 1) dX6_readStart_125 (by decide) ?_
              have hk : (1, σ6) = (rr, σr) := Option.some.inj hf
              obtain ⟨rfl, rfl⟩ := Prod.mk.inj hk
              exact x_iret O rfl rfl ⟨_, rfl, rfl⟩ dX6_readStart_126
            · refine x_iconst O (v := 0) dX6_readStart_105 (by decide) ?_
              have hk : (0, σ4) = (rr, σr) := Option.some.inj hf
              obtain ⟨rfl, rfl⟩ := Prod.mk.inj hk
              exact x_iret O rfl rfl ⟨_, rfl, rfl⟩ dX6_readStart_106
        · refine x_iconst O (v := 0) dX6_readStart_71 (by decide) ?_
          have hk : (0, σ3) = (rr, σr) := Option.some.inj hf
          obtain ⟨rfl, rfl⟩ := Prod.mk.inj hk
          exact x_iret O rfl rfl ⟨_, rfl, rfl⟩ dX6_readStart_72
  · refine x_iconst O (v := 0) dX6_readStart_12 (by decide) ?_
    have hk : (0, σ) = (rr, σr) := Option.some.inj hf
    obtain ⟨rfl, rfl⟩ := Prod.mk.inj hk
    exact x_iret O rfl rfl ⟨_, rfl, rfl⟩ dX6_readStart_13
theorem k_Re_readStart {σ σr : Mm} {rr : Int32}   (hf : f_Re_readStart σ = some (rr, σr)) : CT LT yX6_readStart wsX6_readStart rm_X6_readStart (fun ad => [.ref (ad 3)]) σ (some (.int rr)) σr := CT_of2 (cc := cX6_readStart) (maxL := 3) (rt := (some .boolean)) (own := RX6) (by decide) rfl rfl (fun _ => Nat.le_of_ble_eq_true rfl) (fun _ => rfl) (fun Γ ad O => v_Re_readStart O  hf)

-- ===== TippedBarrow$Reader.readLimit()Z
theorem ca_X6_readLimit : Ca yX6_readLimit cX6_readLimit 2 (some .boolean) wsX6_readLimit rm_X6_readLimit 0 := ⟨⟨_, rfl⟩, rfl, rfl, by decide +kernel, by decide +kernel, by decide +kernel⟩
theorem in_X6_readLimit_X5 : ∀ w ∈ wsX50, w ∈ wsX6_readLimit := by decide +kernel
theorem in_X6_readLimit_X6 : ∀ w ∈ wsX60, w ∈ wsX6_readLimit := by decide +kernel
theorem fl_X6_readLimit_25 : Fl RX6 wsX6_readLimit 25 6 6 false (.object "TippedBarrow$Plan") := ⟨_, _, _, tyX6, rfl, in_X6_readLimit_X6, by decide, by decide +kernel, tyX6_ok, nmX6, rfl, tyX6_ok 6 (by decide)⟩
theorem fl_X6_readLimit_34 : Fl RX6 wsX6_readLimit 34 6 7 false .boolean := ⟨_, _, _, tyX6, rfl, in_X6_readLimit_X6, by decide, by decide +kernel, tyX6_ok, nmX6, rfl, tyX6_ok 7 (by decide)⟩
theorem fl_X6_readLimit_41 : Fl RX6 wsX6_readLimit 41 6 5 false .int := ⟨_, _, _, tyX6, rfl, in_X6_readLimit_X6, by decide, by decide +kernel, tyX6_ok, nmX6, rfl, tyX6_ok 5 (by decide)⟩
theorem fl_X6_readLimit_121 : Fl RX6 wsX6_readLimit 121 5 4 false .int := ⟨_, _, _, tyX5, rfl, in_X6_readLimit_X5, by decide, by decide +kernel, tyX5_ok, nmX5, rfl, tyX5_ok 4 (by decide)⟩
set_option maxHeartbeats 4000000 in
set_option maxRecDepth 100000 in
theorem v_Re_readLimit {Γ : Cx} {ad : Nat → Nat} {rr : Int32} {σr : Mm} (O : Ok LT Γ ad cX6_readLimit 2 RX6 wsX6_readLimit rm_X6_readLimit (some .boolean) (some (.int rr)) σr) {σ : Mm}   (hf : f_Re_readLimit σ = some (rr, σr)) : X LT Γ ad σ 0 [(0, .ref (ad 3))] [] := by
  unfold f_Re_readLimit at hf
  refine x_aload_n O 0 dX6_readLimit_0 rfl rfl ?_
  refine x_getI O fl_X6_readLimit_34 rfl dX6_readLimit_1 ?_
  refine x_if_eq O 9 hf dX6_readLimit_4 (by decide) (fun hf => ?_) (fun hf => ?_)
  · refine x_aload_n O 0 dX6_readLimit_9 rfl rfl ?_
    refine x_iconst O (v := 1) dX6_readLimit_10 (by decide) ?_
    refine x_putIN O hf rfl rfl fl_X6_readLimit_34 rfl dX6_readLimit_11 (fun σ1 hf => ?_)
    refine x_aload_n O 0 dX6_readLimit_14 rfl rfl ?_
    refine x_dup O dX6_readLimit_15 rfl ?_
    refine x_getI O fl_X6_readLimit_41 rfl dX6_readLimit_16 ?_
    refine x_iconst O (v := 1) dX6_readLimit_19 (by decide) ?_
    refine x_iadd O dX6_readLimit_20 ?_
    refine x_putIN O hf rfl rfl fl_X6_readLimit_41 rfl dX6_readLimit_21 (fun σ2 hf => ?_)
    refine x_aload_n O 0 dX6_readLimit_24 rfl rfl ?_
    refine x_iconst O (v := 2) dX6_readLimit_25 (by decide) ?_
    refine x_bipush O (v := 9) dX6_readLimit_26 (by decide) ?_
    obtain ⟨r_1, σ3, hc, hf⟩ := bd_some hf
    refine x_callV O (k_Re_readNumber  hc) ca_X6_readNumber gX6_readLimit_X6_readNumber rfl ⟨_, _, _, _, rfl, rfl⟩ rfl rfl rfl (Nat.le_of_ble_eq_true rfl) ⟨Nat.le_of_ble_eq_true rfl, Nat.le_of_ble_eq_true rfl⟩ dX6_readLimit_28 ?_
    refine x_push O ?_
    refine x_istore_n O 1 dX6_readLimit_31 rfl (by decide) ?_
    refine x_iload_n O 1 dX6_readLimit_32 rfl rfl ?_
    refine x_if_ge O 38 hf dX6_readLimit_33 (by decide) (fun hf => ?_) (fun hf => ?_)
    · refine x_aload_n O 0 dX6_readLimit_38 rfl rfl ?_
      refine x_getR O hf fl_X6_readLimit_25 rfl dX6_readLimit_39 (fun t1 ht1 hf => ?_)
      refine x_iload_n O 1 dX6_readLimit_42 rfl rfl ?_
      refine x_putIN O hf rfl rfl fl_X6_readLimit_121 (fk_of (fkPl ht1) rfl) dX6_readLimit_43 (fun σ4 hf => ?_)
      refine x_iconst O (v := 1) dX6_readLimit_46 (by decide) ?_
      have hk : (1, σ4) = (rr, σr) := Option.some.inj hf
      obtain ⟨rfl, rfl⟩ := Prod.mk.inj hk
      exact x_iret O rfl rfl ⟨_, rfl, rfl⟩ dX6_readLimit_47
    · refine x_iconst O (v := 0) dX6_readLimit_36 (by decide) ?_
      have hk : (0, σ3) = (rr, σr) := Option.some.inj hf
      obtain ⟨rfl, rfl⟩ := Prod.mk.inj hk
      exact x_iret O rfl rfl ⟨_, rfl, rfl⟩ dX6_readLimit_37
  · refine x_iconst O (v := 0) dX6_readLimit_7 (by decide) ?_
    have hk : (0, σ) = (rr, σr) := Option.some.inj hf
    obtain ⟨rfl, rfl⟩ := Prod.mk.inj hk
    exact x_iret O rfl rfl ⟨_, rfl, rfl⟩ dX6_readLimit_8
theorem k_Re_readLimit {σ σr : Mm} {rr : Int32}   (hf : f_Re_readLimit σ = some (rr, σr)) : CT LT yX6_readLimit wsX6_readLimit rm_X6_readLimit (fun ad => [.ref (ad 3)]) σ (some (.int rr)) σr := CT_of2 (cc := cX6_readLimit) (maxL := 2) (rt := (some .boolean)) (own := RX6) (by decide) rfl rfl (fun _ => Nat.le_of_ble_eq_true rfl) (fun _ => rfl) (fun Γ ad O => v_Re_readLimit O  hf)

-- ===== TippedBarrow$Reader.readLeaning()Z
theorem ca_X6_readLeaning : Ca yX6_readLeaning cX6_readLeaning 2 (some .boolean) wsX6_readLeaning rm_X6_readLeaning 0 := ⟨⟨_, rfl⟩, rfl, rfl, by decide +kernel, by decide +kernel, by decide +kernel⟩
theorem in_X6_readLeaning_X5 : ∀ w ∈ wsX50, w ∈ wsX6_readLeaning := by decide +kernel
theorem in_X6_readLeaning_X6 : ∀ w ∈ wsX60, w ∈ wsX6_readLeaning := by decide +kernel
theorem fl_X6_readLeaning_25 : Fl RX6 wsX6_readLeaning 25 6 6 false (.object "TippedBarrow$Plan") := ⟨_, _, _, tyX6, rfl, in_X6_readLeaning_X6, by decide, by decide +kernel, tyX6_ok, nmX6, rfl, tyX6_ok 6 (by decide)⟩
theorem fl_X6_readLeaning_38 : Fl RX6 wsX6_readLeaning 38 6 8 false .boolean := ⟨_, _, _, tyX6, rfl, in_X6_readLeaning_X6, by decide, by decide +kernel, tyX6_ok, nmX6, rfl, tyX6_ok 8 (by decide)⟩
theorem fl_X6_readLeaning_41 : Fl RX6 wsX6_readLeaning 41 6 5 false .int := ⟨_, _, _, tyX6, rfl, in_X6_readLeaning_X6, by decide, by decide +kernel, tyX6_ok, nmX6, rfl, tyX6_ok 5 (by decide)⟩
theorem fl_X6_readLeaning_124 : Fl RX6 wsX6_readLeaning 124 5 5 false .int := ⟨_, _, _, tyX5, rfl, in_X6_readLeaning_X5, by decide, by decide +kernel, tyX5_ok, nmX5, rfl, tyX5_ok 5 (by decide)⟩
set_option maxHeartbeats 4000000 in
set_option maxRecDepth 100000 in
theorem v_Re_readLeaning {Γ : Cx} {ad : Nat → Nat} {rr : Int32} {σr : Mm} (O : Ok LT Γ ad cX6_readLeaning 2 RX6 wsX6_readLeaning rm_X6_readLeaning (some .boolean) (some (.int rr)) σr) {σ : Mm}   (hf : f_Re_readLeaning σ = some (rr, σr)) : X LT Γ ad σ 0 [(0, .ref (ad 3))] [] := by
  unfold f_Re_readLeaning at hf
  refine x_aload_n O 0 dX6_readLeaning_0 rfl rfl ?_
  refine x_getI O fl_X6_readLeaning_38 rfl dX6_readLeaning_1 ?_
  refine x_if_eq O 9 hf dX6_readLeaning_4 (by decide) (fun hf => ?_) (fun hf => ?_)
  · refine x_aload_n O 0 dX6_readLeaning_9 rfl rfl ?_
    refine x_iconst O (v := 1) dX6_readLeaning_10 (by decide) ?_
    refine x_putIN O hf rfl rfl fl_X6_readLeaning_38 rfl dX6_readLeaning_11 (fun σ1 hf => ?_)
    refine x_aload_n O 0 dX6_readLeaning_14 rfl rfl ?_
    refine x_dup O dX6_readLeaning_15 rfl ?_
    refine x_getI O fl_X6_readLeaning_41 rfl dX6_readLeaning_16 ?_
    refine x_iconst O (v := 1) dX6_readLeaning_19 (by decide) ?_
    refine x_iadd O dX6_readLeaning_20 ?_
    refine x_putIN O hf rfl rfl fl_X6_readLeaning_41 rfl dX6_readLeaning_21 (fun σ2 hf => ?_)
    refine x_aload_n O 0 dX6_readLeaning_24 rfl rfl ?_
    refine x_iconst O (v := 0) dX6_readLeaning_25 (by decide) ?_
    refine x_iconst O (v := 4) dX6_readLeaning_26 (by decide) ?_
    obtain ⟨r_1, σ3, hc, hf⟩ := bd_some hf
    refine x_callV O (k_Re_readNumber  hc) ca_X6_readNumber gX6_readLeaning_X6_readNumber rfl ⟨_, _, _, _, rfl, rfl⟩ rfl rfl rfl (Nat.le_of_ble_eq_true rfl) ⟨Nat.le_of_ble_eq_true rfl, Nat.le_of_ble_eq_true rfl⟩ dX6_readLeaning_27 ?_
    refine x_push O ?_
    refine x_istore_n O 1 dX6_readLeaning_30 rfl (by decide) ?_
    refine x_iload_n O 1 dX6_readLeaning_31 rfl rfl ?_
    refine x_if_ge O 37 hf dX6_readLeaning_32 (by decide) (fun hf => ?_) (fun hf => ?_)
    · refine x_aload_n O 0 dX6_readLeaning_37 rfl rfl ?_
      refine x_getR O hf fl_X6_readLeaning_25 rfl dX6_readLeaning_38 (fun t1 ht1 hf => ?_)
      refine x_iload_n O 1 dX6_readLeaning_41 rfl rfl ?_
      refine x_iconst O (v := 2) dX6_readLeaning_42 (by decide) ?_
      refine x_isub O dX6_readLeaning_43 ?_
      refine x_putIN O hf rfl rfl fl_X6_readLeaning_124 (fk_of (fkPl ht1) rfl) dX6_readLeaning_44 (fun σ4 hf => ?_)
      refine x_iconst O (v := 1) dX6_readLeaning_47 (by decide) ?_
      have hk : (1, σ4) = (rr, σr) := Option.some.inj hf
      obtain ⟨rfl, rfl⟩ := Prod.mk.inj hk
      exact x_iret O rfl rfl ⟨_, rfl, rfl⟩ dX6_readLeaning_48
    · refine x_iconst O (v := 0) dX6_readLeaning_35 (by decide) ?_
      have hk : (0, σ3) = (rr, σr) := Option.some.inj hf
      obtain ⟨rfl, rfl⟩ := Prod.mk.inj hk
      exact x_iret O rfl rfl ⟨_, rfl, rfl⟩ dX6_readLeaning_36
  · refine x_iconst O (v := 0) dX6_readLeaning_7 (by decide) ?_
    have hk : (0, σ) = (rr, σr) := Option.some.inj hf
    obtain ⟨rfl, rfl⟩ := Prod.mk.inj hk
    exact x_iret O rfl rfl ⟨_, rfl, rfl⟩ dX6_readLeaning_8
theorem k_Re_readLeaning {σ σr : Mm} {rr : Int32}   (hf : f_Re_readLeaning σ = some (rr, σr)) : CT LT yX6_readLeaning wsX6_readLeaning rm_X6_readLeaning (fun ad => [.ref (ad 3)]) σ (some (.int rr)) σr := CT_of2 (cc := cX6_readLeaning) (maxL := 2) (rt := (some .boolean)) (own := RX6) (by decide) rfl rfl (fun _ => Nat.le_of_ble_eq_true rfl) (fun _ => rfl) (fun Γ ad O => v_Re_readLeaning O  hf)

-- ===== TippedBarrow$Reader.readItem(I)Z
theorem ca_X6_readItem : Ca yX6_readItem cX6_readItem 2 (some .boolean) wsX6_readItem rm_X6_readItem 1 := ⟨⟨_, rfl⟩, rfl, rfl, by decide +kernel, by decide +kernel, by decide +kernel⟩
theorem in_X6_readItem_X6 : ∀ w ∈ wsX60, w ∈ wsX6_readItem := by decide +kernel
theorem fl_X6_readItem_11 : Fl RX6 wsX6_readItem 11 6 1 true (.array .int) := ⟨_, _, _, tyX6, rfl, in_X6_readItem_X6, by decide, by decide +kernel, tyX6_ok, nmX6, rfl, tyX6_ok 1 (by decide)⟩
theorem fl_X6_readItem_41 : Fl RX6 wsX6_readItem 41 6 5 false .int := ⟨_, _, _, tyX6, rfl, in_X6_readItem_X6, by decide, by decide +kernel, tyX6_ok, nmX6, rfl, tyX6_ok 5 (by decide)⟩
theorem fl_X6_readItem_55 : Fl RX6 wsX6_readItem 55 6 4 false .int := ⟨_, _, _, tyX6, rfl, in_X6_readItem_X6, by decide, by decide +kernel, tyX6_ok, nmX6, rfl, tyX6_ok 4 (by decide)⟩
set_option maxHeartbeats 4000000 in
set_option maxRecDepth 100000 in
theorem v_Re_readItem {Γ : Cx} {ad : Nat → Nat} {rr : Int32} {σr : Mm} (O : Ok LT Γ ad cX6_readItem 2 RX6 wsX6_readItem rm_X6_readItem (some .boolean) (some (.int rr)) σr) {σ : Mm} {v1 : Int32}  (hf : f_Re_readItem σ v1 = some (rr, σr)) : X LT Γ ad σ 0 [(0, .ref (ad 3)), (1, .int v1)] [] := by
  unfold f_Re_readItem at hf
  refine x_aload_n O 0 dX6_readItem_0 rfl rfl ?_
  refine x_getI O fl_X6_readItem_41 rfl dX6_readItem_1 ?_
  refine x_aload_n O 0 dX6_readItem_4 rfl rfl ?_
  refine x_getI O fl_X6_readItem_55 rfl dX6_readItem_5 ?_
  refine x_icmp_lt O 13 hf dX6_readItem_8 (by decide) (fun hf => ?_) (fun hf => ?_)
  · refine x_aload_n O 0 dX6_readItem_13 rfl rfl ?_
    refine x_getF O (t := 4) fl_X6_readItem_11 rfl dX6_readItem_14 ?_
    refine x_aload_n O 0 dX6_readItem_17 rfl rfl ?_
    refine x_getI O fl_X6_readItem_41 rfl dX6_readItem_18 ?_
    refine x_iald O hf rfl dX6_readItem_21 (fun j1 hf => ?_)
    generalize (gA σ 4 j1) = w1 at hf ⊢
    by_cases e98 : w1 = 98
    · rw [if_pos e98] at hf
      have hg9 := hf
      subst e98
      have hf := hg9
      refine x_lookup O 94 dX6_readItem_22 (by decide) (off := 72) (by decide) (by decide) ?_
      refine x_aload_n O 0 dX6_readItem_94 rfl rfl ?_
      obtain ⟨r_5, σ5, hc, hf⟩ := bd_some hf
      refine x_callV O (k_Re_readStart  hc) ca_X6_readStart gX6_readItem_X6_readStart rfl ⟨_, _, _, _, rfl, rfl⟩ rfl rfl rfl (Nat.le_of_ble_eq_true rfl) ⟨Nat.le_of_ble_eq_true rfl, Nat.le_of_ble_eq_true rfl⟩ dX6_readItem_95 ?_
      refine x_push O ?_
      by_cases hb : r_5 = 0 ∨ r_5 = 1
      · rw [if_pos hb] at hf
        have hk : (r_5, σ5) = (rr, σr) := Option.some.inj hf
        obtain ⟨rfl, rfl⟩ := Prod.mk.inj hk
        exact x_iret O rfl rfl ⟨_, rfl, nb_ok hb⟩ dX6_readItem_98
      · rw [if_neg hb] at hf; cases hf
    · rw [if_neg e98] at hf
      by_cases e106 : w1 = 106
      · rw [if_pos e106] at hf
        have hg9 := hf
        subst e106
        have hf := hg9
        refine x_lookup O 104 dX6_readItem_22 (by decide) (off := 82) (by decide) (by decide) ?_
        refine x_aload_n O 0 dX6_readItem_104 rfl rfl ?_
        obtain ⟨r_4, σ4, hc, hf⟩ := bd_some hf
        refine x_callV O (k_Re_readLeaning  hc) ca_X6_readLeaning gX6_readItem_X6_readLeaning rfl ⟨_, _, _, _, rfl, rfl⟩ rfl rfl rfl (Nat.le_of_ble_eq_true rfl) ⟨Nat.le_of_ble_eq_true rfl, Nat.le_of_ble_eq_true rfl⟩ dX6_readItem_105 ?_
        refine x_push O ?_
        by_cases hb : r_4 = 0 ∨ r_4 = 1
        · rw [if_pos hb] at hf
          have hk : (r_4, σ4) = (rr, σr) := Option.some.inj hf
          obtain ⟨rfl, rfl⟩ := Prod.mk.inj hk
          exact x_iret O rfl rfl ⟨_, rfl, nb_ok hb⟩ dX6_readItem_108
        · rw [if_neg hb] at hf; cases hf
      · rw [if_neg e106] at hf
        by_cases e107 : w1 = 107
        · rw [if_pos e107] at hf
          have hg9 := hf
          subst e107
          have hf := hg9
          refine x_lookup O 99 dX6_readItem_22 (by decide) (off := 77) (by decide) (by decide) ?_
          refine x_aload_n O 0 dX6_readItem_99 rfl rfl ?_
          obtain ⟨r_3, σ3, hc, hf⟩ := bd_some hf
          refine x_callV O (k_Re_readLimit  hc) ca_X6_readLimit gX6_readItem_X6_readLimit rfl ⟨_, _, _, _, rfl, rfl⟩ rfl rfl rfl (Nat.le_of_ble_eq_true rfl) ⟨Nat.le_of_ble_eq_true rfl, Nat.le_of_ble_eq_true rfl⟩ dX6_readItem_100 ?_
          refine x_push O ?_
          by_cases hb : r_3 = 0 ∨ r_3 = 1
          · rw [if_pos hb] at hf
            have hk : (r_3, σ3) = (rr, σr) := Option.some.inj hf
            obtain ⟨rfl, rfl⟩ := Prod.mk.inj hk
            exact x_iret O rfl rfl ⟨_, rfl, nb_ok hb⟩ dX6_readItem_103
          · rw [if_neg hb] at hf; cases hf
        · rw [if_neg e107] at hf
          by_cases e114 : w1 = 114
          · rw [if_pos e114] at hf
            have hg9 := hf
            subst e114
            have hf := hg9
            refine x_lookup O 89 dX6_readItem_22 (by decide) (off := 67) (by decide) (by decide) ?_
            refine x_aload_n O 0 dX6_readItem_89 rfl rfl ?_
            obtain ⟨r_2, σ2, hc, hf⟩ := bd_some hf
            refine x_callV O (k_Re_readRow  hc) ca_X6_readRow gX6_readItem_X6_readRow rfl ⟨_, _, _, _, rfl, rfl⟩ rfl rfl rfl (Nat.le_of_ble_eq_true rfl) ⟨Nat.le_of_ble_eq_true rfl, Nat.le_of_ble_eq_true rfl⟩ dX6_readItem_90 ?_
            refine x_push O ?_
            by_cases hb : r_2 = 0 ∨ r_2 = 1
            · rw [if_pos hb] at hf
              have hk : (r_2, σ2) = (rr, σr) := Option.some.inj hf
              obtain ⟨rfl, rfl⟩ := Prod.mk.inj hk
              exact x_iret O rfl rfl ⟨_, rfl, nb_ok hb⟩ dX6_readItem_93
            · rw [if_neg hb] at hf; cases hf
          · rw [if_neg e114] at hf
            by_cases e119 : w1 = 119
            · rw [if_pos e119] at hf
              have hg9 := hf
              subst e119
              have hf := hg9
              refine x_lookup O 72 dX6_readItem_22 (by decide) (off := 50) (by decide) (by decide) ?_
              refine x_iload_n O 1 dX6_readItem_72 rfl rfl ?_
              refine x_if_ne O 87 hf dX6_readItem_73 (by decide) (fun hf => ?_) (fun hf => ?_)
              · refine x_iconst O (v := 0) dX6_readItem_87 (by decide) ?_
                have hk : (0, σ) = (rr, σr) := Option.some.inj hf
                obtain ⟨rfl, rfl⟩ := Prod.mk.inj hk
                exact x_iret O rfl rfl ⟨_, rfl, rfl⟩ dX6_readItem_88
              · refine x_aload_n O 0 dX6_readItem_76 rfl rfl ?_
                obtain ⟨r_1, σ1, hc, hf⟩ := bd_some hf
                refine x_callV O (k_Re_readWide  hc) ca_X6_readWide gX6_readItem_X6_readWide rfl ⟨_, _, _, _, rfl, rfl⟩ rfl rfl rfl (Nat.le_of_ble_eq_true rfl) ⟨Nat.le_of_ble_eq_true rfl, Nat.le_of_ble_eq_true rfl⟩ dX6_readItem_77 ?_
                refine x_push O ?_
                refine x_if_eq O 87 hf dX6_readItem_80 (by decide) (fun hf => ?_) (fun hf => ?_)
                · refine x_iconst O (v := 0) dX6_readItem_87 (by decide) ?_
                  have hk : (0, σ1) = (rr, σr) := Option.some.inj hf
                  obtain ⟨rfl, rfl⟩ := Prod.mk.inj hk
                  exact x_iret O rfl rfl ⟨_, rfl, rfl⟩ dX6_readItem_88
                · refine x_iconst O (v := 1) dX6_readItem_83 (by decide) ?_
                  refine x_goto O 88 dX6_readItem_84 (by decide) ?_
                  have hk : (1, σ1) = (rr, σr) := Option.some.inj hf
                  obtain ⟨rfl, rfl⟩ := Prod.mk.inj hk
                  exact x_iret O rfl rfl ⟨_, rfl, rfl⟩ dX6_readItem_88
            · rw [if_neg e119] at hf
              refine x_lookup O 109 dX6_readItem_22 (by decide) (off := 87) (by show Op.lookupswitch.offset [(98, 72), (106, 82), (107, 77), (114, 67), (119, 50)] _ _ = _; rw [lv_osw (a := 98) e98 (by decide)]; rw [lv_osw (a := 106) e106 (by decide)]; rw [lv_osw (a := 107) e107 (by decide)]; rw [lv_osw (a := 114) e114 (by decide)]; rw [lv_osw (a := 119) e119 (by decide)]; rfl) (by decide) ?_
              refine x_iconst O (v := 0) dX6_readItem_109 (by decide) ?_
              have hk : (0, σ) = (rr, σr) := Option.some.inj hf
              obtain ⟨rfl, rfl⟩ := Prod.mk.inj hk
              exact x_iret O rfl rfl ⟨_, rfl, rfl⟩ dX6_readItem_110
  · refine x_iconst O (v := 0) dX6_readItem_11 (by decide) ?_
    have hk : (0, σ) = (rr, σr) := Option.some.inj hf
    obtain ⟨rfl, rfl⟩ := Prod.mk.inj hk
    exact x_iret O rfl rfl ⟨_, rfl, rfl⟩ dX6_readItem_12
theorem k_Re_readItem {σ σr : Mm} {rr : Int32} {v1 : Int32}  (hf : f_Re_readItem σ v1 = some (rr, σr)) : CT LT yX6_readItem wsX6_readItem rm_X6_readItem (fun ad => [.ref (ad 3), .int v1]) σ (some (.int rr)) σr := CT_of2 (cc := cX6_readItem) (maxL := 2) (rt := (some .boolean)) (own := RX6) (by decide) rfl rfl (fun _ => Nat.le_of_ble_eq_true rfl) (fun _ => rfl) (fun Γ ad O => v_Re_readItem O  hf)

-- ===== TippedBarrow$Reader.read(LTippedBarrow$Plan;)I
theorem ca_X6_read : Ca yX6_read cX6_read 3 (some .int) wsX6_read rm_X6_read 1 := ⟨⟨_, rfl⟩, rfl, rfl, by decide +kernel, by decide +kernel, by decide +kernel⟩
theorem in_X6_read_X6 : ∀ w ∈ wsX60, w ∈ wsX6_read := by decide +kernel
theorem in_X6_read_X7 : ∀ w ∈ wsX70, w ∈ wsX6_read := by decide +kernel
theorem fl_X6_read_18 : Fl RX6 wsX6_read 18 6 3 true (.array .int) := ⟨_, _, _, tyX6, rfl, in_X6_read_X6, by decide, by decide +kernel, tyX6_ok, nmX6, rfl, tyX6_ok 3 (by decide)⟩
theorem fl_X6_read_21 : Fl RX6 wsX6_read 21 6 0 true (.object "TippedBarrow$Text") := ⟨_, _, _, tyX6, rfl, in_X6_read_X6, by decide, by decide +kernel, tyX6_ok, nmX6, rfl, tyX6_ok 0 (by decide)⟩
theorem fl_X6_read_25 : Fl RX6 wsX6_read 25 6 6 false (.object "TippedBarrow$Plan") := ⟨_, _, _, tyX6, rfl, in_X6_read_X6, by decide, by decide +kernel, tyX6_ok, nmX6, rfl, tyX6_ok 6 (by decide)⟩
theorem fl_X6_read_34 : Fl RX6 wsX6_read 34 6 7 false .boolean := ⟨_, _, _, tyX6, rfl, in_X6_read_X6, by decide, by decide +kernel, tyX6_ok, nmX6, rfl, tyX6_ok 7 (by decide)⟩
theorem fl_X6_read_38 : Fl RX6 wsX6_read 38 6 8 false .boolean := ⟨_, _, _, tyX6, rfl, in_X6_read_X6, by decide, by decide +kernel, tyX6_ok, nmX6, rfl, tyX6_ok 8 (by decide)⟩
theorem fl_X6_read_41 : Fl RX6 wsX6_read 41 6 5 false .int := ⟨_, _, _, tyX6, rfl, in_X6_read_X6, by decide, by decide +kernel, tyX6_ok, nmX6, rfl, tyX6_ok 5 (by decide)⟩
theorem fl_X6_read_55 : Fl RX6 wsX6_read 55 6 4 false .int := ⟨_, _, _, tyX6, rfl, in_X6_read_X6, by decide, by decide +kernel, tyX6_ok, nmX6, rfl, tyX6_ok 4 (by decide)⟩
theorem fl_X6_read_58 : Fl RX6 wsX6_read 58 7 1 false .int := ⟨_, _, _, tyX7, rfl, in_X6_read_X7, by decide, by decide +kernel, tyX7_ok, nmX7, rfl, tyX7_ok 1 (by decide)⟩
set_option maxHeartbeats 4000000 in
set_option maxRecDepth 100000 in
theorem v_Re_read_117 {Γ : Cx} {ad : Nat → Nat} {rr : Int32} {σr : Mm} (O : Ok LT Γ ad cX6_read 3 RX6 wsX6_read rm_X6_read (some .int) (some (.int rr)) σr) {σ : Mm} {r1 : Nat} {s0 : Int32} {s1 : Int32} (h1 : okPl r1 = true) (hf : f_Re_read_117 σ s0 s1 = some (rr, σr)) : X LT Γ ad σ 117 [] [.int s1, .int s0] := by
  unfold f_Re_read_117 at hf
  refine x_isub O dX6_read_117 ?_
  have hk : ((s0 - s1), σ) = (rr, σr) := Option.some.inj hf
  obtain ⟨rfl, rfl⟩ := Prod.mk.inj hk
  exact x_iret O rfl rfl ⟨_, rfl, rfl⟩ dX6_read_118
set_option maxHeartbeats 4000000 in
set_option maxRecDepth 100000 in
theorem v_Re_read_85 {Γ : Cx} {ad : Nat → Nat} {rr : Int32} {σr : Mm} (O : Ok LT Γ ad cX6_read 3 RX6 wsX6_read rm_X6_read (some .int) (some (.int rr)) σr) {σ : Mm} {r1 : Nat} (h1 : okPl r1 = true) (hf : f_Re_read_85 σ = some (rr, σr)) : X LT Γ ad σ 85 [(0, .ref (ad 3))] [] := by
  unfold f_Re_read_85 at hf
  refine x_bipush O (v := -10) dX6_read_85 (by decide) ?_
  refine x_aload_n O 0 dX6_read_87 rfl rfl ?_
  refine x_getI O fl_X6_read_41 rfl dX6_read_88 ?_
  refine x_aload_n O 0 dX6_read_91 rfl rfl ?_
  refine x_getI O fl_X6_read_55 rfl dX6_read_92 ?_
  refine x_icmp_ge O 110 hf dX6_read_95 (by decide) (fun hf => ?_) (fun hf => ?_)
  · refine x_aload_n O 0 dX6_read_110 rfl rfl ?_
    refine x_getF O (t := 1) fl_X6_read_21 rfl dX6_read_111 ?_
    refine x_getI O fl_X6_read_58 rfl dX6_read_114 ?_
    exact x_jmp O (v_Re_read_117 O (σ := σ) (r1 := r1) (s0 := (-10)) (s1 := (gI σ 1 1)) h1 hf) rfl
  · refine x_aload_n O 0 dX6_read_98 rfl rfl ?_
    refine x_getF O (t := 6) fl_X6_read_18 rfl dX6_read_99 ?_
    refine x_aload_n O 0 dX6_read_102 rfl rfl ?_
    refine x_getI O fl_X6_read_41 rfl dX6_read_103 ?_
    refine x_iald O hf rfl dX6_read_106 (fun j1 hf => ?_)
    refine x_goto O 117 dX6_read_107 (by decide) ?_
    exact x_jmp O (v_Re_read_117 O (σ := σ) (r1 := r1) (s0 := (-10)) (s1 := (gA σ 6 j1)) h1 hf) rfl
set_option maxHeartbeats 4000000 in
set_option maxRecDepth 100000 in
theorem v_Re_read_66 {Γ : Cx} {ad : Nat → Nat} {rr : Int32} {σr : Mm} (O : Ok LT Γ ad cX6_read 3 RX6 wsX6_read rm_X6_read (some .int) (some (.int rr)) σr) {σ : Mm} {r1 : Nat} (h1 : okPl r1 = true) (hf : f_Re_read_66 σ = some (rr, σr)) : X LT Γ ad σ 66 [(0, .ref (ad 3))] [] := by
  unfold f_Re_read_66 at hf
  refine x_goto O 85 dX6_read_66 (by decide) ?_
  exact x_jmp O (v_Re_read_85 O (σ := σ) (r1 := r1) h1 hf) rfl
set_option maxHeartbeats 4000000 in
set_option maxRecDepth 100000 in
theorem v_Re_read_33_b {Γ : Cx} {ad : Nat → Nat} {rr : Int32} {σr : Mm} (O : Ok LT Γ ad cX6_read 3 RX6 wsX6_read rm_X6_read (some .int) (some (.int rr)) σr) {σ : Mm} {r1 : Nat} {v2 : Int32} (h1 : okPl r1 = true) {x : (Mm × Int32) ⊕ (Int32 × Mm)} (hf : f_Re_read_33_b σ v2 = some x) (hk : (kx (fun s : Mm × Int32 => X LT Γ ad s.1 33 [(0, .ref (ad 3)), (2, .int s.2)] []) (fun q : Int32 × Mm => q = (rr, σr))) x) : X LT Γ ad σ 33 [(0, .ref (ad 3)), (2, .int v2)] [] := by
  unfold f_Re_read_33_b at hf
  refine x_iload_n O 2 dX6_read_33 rfl rfl ?_
  refine x_bipush O (v := 121) dX6_read_34 (by decide) ?_
  refine x_icmp_ge O 85 hf dX6_read_36 (by decide) (fun hf => ?_) (fun hf => ?_)
  · obtain ⟨x', hg1, hx⟩ := map_inr hf
    subst hx
    have hk := kx_r hk
    have hx : x' = (rr, σr) := hk
    subst hx
    have hf := hg1
    exact x_jmp O (v_Re_read_85 O (σ := σ) (r1 := r1) h1 hf) rfl
  · refine x_aload_n O 0 dX6_read_39 rfl rfl ?_
    refine x_iconst O (v := -1) dX6_read_40 (by decide) ?_
    obtain ⟨r_1, σ1, hc, hf⟩ := bd_some hf
    refine x_callV O (k_Re_isInHand  hc) ca_X6_isInHand gX6_read_X6_isInHand rfl ⟨_, _, _, _, rfl, rfl⟩ rfl rfl rfl (Nat.le_of_ble_eq_true rfl) ⟨Nat.le_of_ble_eq_true rfl, Nat.le_of_ble_eq_true rfl⟩ dX6_read_41 ?_
    refine x_push O ?_
    refine x_if_eq O 49 hf dX6_read_44 (by decide) (fun hf => ?_) (fun hf => ?_)
    · refine x_aload_n O 0 dX6_read_49 rfl rfl ?_
      refine x_iload_n O 2 dX6_read_50 rfl rfl ?_
      obtain ⟨r_2, σ2, hc, hf⟩ := bd_some hf
      refine x_callV O (k_Re_readItem  hc) ca_X6_readItem gX6_read_X6_readItem rfl ⟨_, _, _, _, rfl, rfl⟩ rfl rfl rfl (Nat.le_of_ble_eq_true rfl) ⟨Nat.le_of_ble_eq_true rfl, Nat.le_of_ble_eq_true rfl⟩ dX6_read_51 ?_
      refine x_push O ?_
      refine x_if_eq O 85 hf dX6_read_54 (by decide) (fun hf => ?_) (fun hf => ?_)
      · obtain ⟨x', hg2, hx⟩ := map_inr hf
        subst hx
        have hk := kx_r hk
        have hx : x' = (rr, σr) := hk
        subst hx
        have hf := hg2
        exact x_jmp O (v_Re_read_85 O (σ := σ2) (r1 := r1) h1 hf) rfl
      · refine x_aload_n O 0 dX6_read_57 rfl rfl ?_
        refine x_bipush O (v := 59) dX6_read_58 (by decide) ?_
        obtain ⟨r_3, σ3, hc, hf⟩ := bd_some hf
        refine x_callV O (k_Re_isInHand  hc) ca_X6_isInHand gX6_read_X6_isInHand rfl ⟨_, _, _, _, rfl, rfl⟩ rfl rfl rfl (Nat.le_of_ble_eq_true rfl) ⟨Nat.le_of_ble_eq_true rfl, Nat.le_of_ble_eq_true rfl⟩ dX6_read_60 ?_
        refine x_push O ?_
        refine x_if_ne O 69 hf dX6_read_63 (by decide) (fun hf => ?_) (fun hf => ?_)
        · refine x_aload_n O 0 dX6_read_69 rfl rfl ?_
          refine x_dup O dX6_read_70 rfl ?_
          refine x_getI O fl_X6_read_41 rfl dX6_read_71 ?_
          refine x_iconst O (v := 1) dX6_read_74 (by decide) ?_
          refine x_iadd O dX6_read_75 ?_
          refine x_putIN O hf rfl rfl fl_X6_read_41 rfl dX6_read_76 (fun σ4 hf => ?_)
          refine x_iincN O hf dX6_read_79 rfl rfl (by decide) (fun y1 hf => ?_)
          refine x_goto O 33 dX6_read_82 (by decide) ?_
          obtain rfl := Option.some.inj hf
          have hk := kx_l hk
          exact x_jmp O hk rfl
        · obtain ⟨x', hg3, hx⟩ := map_inr hf
          subst hx
          have hk := kx_r hk
          have hx : x' = (rr, σr) := hk
          subst hx
          have hf := hg3
          exact x_jmp O (v_Re_read_66 O (σ := σ3) (r1 := r1) h1 hf) rfl
    · obtain ⟨x', hg4, hx⟩ := map_inr hf
      subst hx
      have hk := kx_r hk
      have hx : x' = (rr, σr) := hk
      subst hx
      have hf := hg4
      refine x_iload_n O 2 dX6_read_47 rfl rfl ?_
      have hk : (v2, σ1) = (rr, σr) := Option.some.inj hf
      obtain ⟨rfl, rfl⟩ := Prod.mk.inj hk
      exact x_iret O rfl rfl ⟨_, rfl, rfl⟩ dX6_read_48
set_option maxHeartbeats 4000000 in
set_option maxRecDepth 100000 in
theorem v_Re_read_33 {Γ : Cx} {ad : Nat → Nat} {rr : Int32} {σr : Mm} (O : Ok LT Γ ad cX6_read 3 RX6 wsX6_read rm_X6_read (some .int) (some (.int rr)) σr) {σ : Mm} {r1 : Nat} {v2 : Int32} (h1 : okPl r1 = true) (hf : f_Re_read_33 σ v2 = some (rr, σr)) : X LT Γ ad σ 33 [(0, .ref (ad 3)), (2, .int v2)] [] := lpX (P := (fun s : Mm × Int32 => X LT Γ ad s.1 33 [(0, .ref (ad 3)), (2, .int s.2)] [])) (K := (fun q : Int32 × Mm => q = (rr, σr))) (fun s x g1 g2 => v_Re_read_33_b O (σ := s.1) (r1 := r1) (v2 := s.2) h1 g1 g2) (σ, v2) _ hf rfl
set_option maxHeartbeats 4000000 in
set_option maxRecDepth 100000 in
theorem v_Re_read {Γ : Cx} {ad : Nat → Nat} {rr : Int32} {σr : Mm} (O : Ok LT Γ ad cX6_read 3 RX6 wsX6_read rm_X6_read (some .int) (some (.int rr)) σr) {σ : Mm} {r1 : Nat} (h1 : okPl r1 = true) (hf : f_Re_read σ r1 = some (rr, σr)) : X LT Γ ad σ 0 [(0, .ref (ad 3)), (1, .ref (ad r1))] [] := by
  unfold f_Re_read at hf
  refine x_aload_n O 0 dX6_read_0 rfl rfl ?_
  refine x_aload_n O 1 dX6_read_1 rfl rfl ?_
  refine x_putRN O hf rfl rfl fl_X6_read_25 rfl dX6_read_2 (fun σ1 hf => ?_)
  refine x_aload_n O 0 dX6_read_5 rfl rfl ?_
  refine x_getR O hf fl_X6_read_25 rfl dX6_read_6 (fun t1 ht1 hf => ?_)
  obtain ⟨r_1, σ2, hc, hf⟩ := bd_some hf
  refine x_callV O (k_Pl_empty ht1 hc) ca_X5_empty gX6_read_X5_empty rfl (okCl_Pl ht1) rfl rfl rfl (Nat.le_of_ble_eq_true rfl) ⟨Nat.le_of_ble_eq_true rfl, Nat.le_of_ble_eq_true rfl⟩ dX6_read_9 ?_
  refine x_pushN O ?_
  refine x_aload_n O 0 dX6_read_12 rfl rfl ?_
  refine x_iconst O (v := 0) dX6_read_13 (by decide) ?_
  refine x_putIN O hf rfl rfl fl_X6_read_34 rfl dX6_read_14 (fun σ3 hf => ?_)
  refine x_aload_n O 0 dX6_read_17 rfl rfl ?_
  refine x_iconst O (v := 0) dX6_read_18 (by decide) ?_
  refine x_putIN O hf rfl rfl fl_X6_read_38 rfl dX6_read_19 (fun σ4 hf => ?_)
  refine x_aload_n O 0 dX6_read_22 rfl rfl ?_
  refine x_iconst O (v := 0) dX6_read_23 (by decide) ?_
  refine x_putIN O hf rfl rfl fl_X6_read_41 rfl dX6_read_24 (fun σ5 hf => ?_)
  refine x_aload_n O 0 dX6_read_27 rfl rfl ?_
  obtain ⟨r_2, σ6, hc, hf⟩ := bd_some hf
  refine x_callV O (k_Re_split  hc) ca_X6_split gX6_read_X6_split rfl ⟨_, _, _, _, rfl, rfl⟩ rfl rfl rfl (Nat.le_of_ble_eq_true rfl) ⟨Nat.le_of_ble_eq_true rfl, Nat.le_of_ble_eq_true rfl⟩ dX6_read_28 ?_
  refine x_pushN O ?_
  refine x_iconst O (v := 0) dX6_read_31 (by decide) ?_
  refine x_istore_n O 2 dX6_read_32 rfl (by decide) ?_
  exact x_jmp O (v_Re_read_33 O (σ := σ6) (r1 := r1) (v2 := 0) h1 hf) rfl
theorem k_Re_read {σ σr : Mm} {rr : Int32} {r1 : Nat} (h1 : okPl r1 = true) (hf : f_Re_read σ r1 = some (rr, σr)) : CT LT yX6_read wsX6_read rm_X6_read (fun ad => [.ref (ad 3), .ref (ad r1)]) σ (some (.int rr)) σr := CT_of2 (cc := cX6_read) (maxL := 3) (rt := (some .int)) (own := RX6) (by decide) rfl rfl (fun _ => Nat.le_of_ble_eq_true rfl) (fun _ => rfl) (fun Γ ad O => v_Re_read O h1 hf)
