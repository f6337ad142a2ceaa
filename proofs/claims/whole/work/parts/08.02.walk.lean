-- ===== TippedBarrowModel.objects()I
theorem ca_X10_objects : Ca yX10_objects cX10_objects 1 (some .int) wsX10_objects rm_X10_objects 0 := ⟨⟨_, rfl⟩, rfl, rfl, by decide +kernel, by decide +kernel, by decide +kernel⟩
theorem in_X10_objects_X10 : ∀ w ∈ wsX100, w ∈ wsX10_objects := by decide +kernel
theorem fl_X10_objects_19 : Fl RX10 wsX10_objects 19 10 14 true (.array .int) := ⟨_, _, _, tyX10, rfl, in_X10_objects_X10, by decide, by decide +kernel, tyX10_ok, nmX10, rfl, tyX10_ok 14 (by decide)⟩
theorem fl_X10_objects_56 : Fl RX10 wsX10_objects 56 10 0 false .int := ⟨_, _, _, tyX10, rfl, in_X10_objects_X10, by decide, by decide +kernel, tyX10_ok, nmX10, rfl, tyX10_ok 0 (by decide)⟩
set_option maxHeartbeats 4000000 in
set_option maxRecDepth 100000 in
theorem v_M_objects {Γ : Cx} {ad : Nat → Nat} {rr : Int32} {σr : Mm} (O : Ok LM Γ ad cX10_objects 1 RX10 wsX10_objects rm_X10_objects (some .int) (some (.int rr)) σr) {σ : Mm}   (hf : f_M_objects σ = some (rr, σr)) : X LM Γ ad σ 0 [(0, .ref (ad 0))] [] := by
  unfold f_M_objects at hf
  refine x_aload_n O 0 dX10_objects_0 rfl rfl ?_
  refine x_iconst O (v := 0) dX10_objects_1 (by decide) ?_
  refine x_putIN O hf rfl rfl fl_X10_objects_56 rfl dX10_objects_2 (fun σ1 hf => ?_)
  refine x_aload_n O 0 dX10_objects_5 rfl rfl ?_
  obtain ⟨r_1, σ2, hc, hf⟩ := bd_some hf
  refine x_callV O (k_M_hasStart  hc) ca_X10_hasStart gX10_objects_X10_hasStart rfl ⟨_, _, _, _, rfl, rfl⟩ rfl rfl rfl (Nat.le_of_ble_eq_true rfl) ⟨Nat.le_of_ble_eq_true rfl, Nat.le_of_ble_eq_true rfl⟩ dX10_objects_6 ?_
  refine x_push O ?_
  refine x_if_eq O 29 hf dX10_objects_9 (by decide) (fun hf => ?_) (fun hf => ?_)
  · refine x_bipush O (v := -2) dX10_objects_29 (by decide) ?_
    have hk : ((-2), σ2) = (rr, σr) := Option.some.inj hf
    obtain ⟨rfl, rfl⟩ := Prod.mk.inj hk
    exact x_iret O rfl rfl ⟨_, rfl, rfl⟩ dX10_objects_31
  · refine x_aload_n O 0 dX10_objects_12 rfl rfl ?_
    refine x_getF O (t := 4) fl_X10_objects_19 rfl dX10_objects_13 ?_
    refine x_iconst O (v := 5) dX10_objects_16 (by decide) ?_
    refine x_aload_n O 0 dX10_objects_17 rfl rfl ?_
    refine x_getF O (t := 4) fl_X10_objects_19 rfl dX10_objects_18 ?_
    refine x_iconst O (v := 2) dX10_objects_21 (by decide) ?_
    refine x_iald O hf rfl dX10_objects_22 (fun j1 hf => ?_)
    refine x_iadd O dX10_objects_23 ?_
    refine x_iald O hf rfl dX10_objects_24 (fun j2 hf => ?_)
    refine x_iconst O (v := 3) dX10_objects_25 (by decide) ?_
    refine x_icmp_ne O 32 hf dX10_objects_26 (by decide) (fun hf => ?_) (fun hf => ?_)
    · refine x_aload_n O 0 dX10_objects_32 rfl rfl ?_
      obtain ⟨r_2, σ3, hc, hf⟩ := bd_some hf
      refine x_callV O (k_M_notes  hc) ca_X10_notes gX10_objects_X10_notes rfl ⟨_, _, _, _, rfl, rfl⟩ rfl rfl rfl (Nat.le_of_ble_eq_true rfl) ⟨Nat.le_of_ble_eq_true rfl, Nat.le_of_ble_eq_true rfl⟩ dX10_objects_33 ?_
      refine x_pushN O ?_
      refine x_aload_n O 0 dX10_objects_36 rfl rfl ?_
      refine x_getF O (t := 4) fl_X10_objects_19 rfl dX10_objects_37 ?_
      refine x_iconst O (v := 5) dX10_objects_40 (by decide) ?_
      refine x_aload_n O 0 dX10_objects_41 rfl rfl ?_
      refine x_getF O (t := 4) fl_X10_objects_19 rfl dX10_objects_42 ?_
      refine x_iconst O (v := 2) dX10_objects_45 (by decide) ?_
      refine x_iald O hf rfl dX10_objects_46 (fun j3 hf => ?_)
      refine x_iadd O dX10_objects_47 ?_
      refine x_dup2 O dX10_objects_48 rfl rfl ?_
      refine x_iald O hf rfl dX10_objects_49 (fun j4 hf => ?_)
      refine x_iconst O (v := 1) dX10_objects_50 (by decide) ?_
      refine x_iadd O dX10_objects_51 ?_
      refine x_iastN O hf rfl dX10_objects_52 (fun σ4 hf => ?_)
      refine x_aload_n O 0 dX10_objects_53 rfl rfl ?_
      refine x_getF O (t := 4) fl_X10_objects_19 rfl dX10_objects_54 ?_
      refine x_iconst O (v := 2) dX10_objects_57 (by decide) ?_
      refine x_iconst O (v := 1) dX10_objects_58 (by decide) ?_
      refine x_aload_n O 0 dX10_objects_59 rfl rfl ?_
      refine x_getF O (t := 4) fl_X10_objects_19 rfl dX10_objects_60 ?_
      refine x_iconst O (v := 2) dX10_objects_63 (by decide) ?_
      refine x_iald O hf rfl dX10_objects_64 (fun j6 hf => ?_)
      refine x_isub O dX10_objects_65 ?_
      refine x_iastN O hf rfl dX10_objects_66 (fun σ5 hf => ?_)
      refine x_aload_n O 0 dX10_objects_67 rfl rfl ?_
      refine x_getF O (t := 4) fl_X10_objects_19 rfl dX10_objects_68 ?_
      refine x_iconst O (v := 2) dX10_objects_71 (by decide) ?_
      refine x_iald O hf rfl dX10_objects_72 (fun j8 hf => ?_)
      have hk : ((gA σ5 4 j8), σ5) = (rr, σr) := Option.some.inj hf
      obtain ⟨rfl, rfl⟩ := Prod.mk.inj hk
      exact x_iret O rfl rfl ⟨_, rfl, rfl⟩ dX10_objects_73
    · refine x_bipush O (v := -2) dX10_objects_29 (by decide) ?_
      have hk : ((-2), σ2) = (rr, σr) := Option.some.inj hf
      obtain ⟨rfl, rfl⟩ := Prod.mk.inj hk
      exact x_iret O rfl rfl ⟨_, rfl, rfl⟩ dX10_objects_31
theorem k_M_objects {σ σr : Mm} {rr : Int32}   (hf : f_M_objects σ = some (rr, σr)) : CT LM yX10_objects wsX10_objects rm_X10_objects (fun ad => [.ref (ad 0)]) σ (some (.int rr)) σr := CT_of2 (cc := cX10_objects) (maxL := 1) (rt := (some .int)) (own := RX10) (by decide) rfl rfl (fun _ => Nat.le_of_ble_eq_true rfl) (fun _ => rfl) (fun Γ ad O => v_M_objects O  hf)

-- ===== TippedBarrowModel.evens(III)I
theorem ca_X10_evens : Ca yX10_evens cX10_evens 5 (some .int) wsX10_evens rm_X10_evens 3 := ⟨⟨_, rfl⟩, rfl, rfl, by decide +kernel, by decide +kernel, by decide +kernel⟩
theorem in_X10_evens_X10 : ∀ w ∈ wsX100, w ∈ wsX10_evens := by decide +kernel
theorem fl_X10_evens_19 : Fl RX10 wsX10_evens 19 10 14 true (.array .int) := ⟨_, _, _, tyX10, rfl, in_X10_evens_X10, by decide, by decide +kernel, tyX10_ok, nmX10, rfl, tyX10_ok 14 (by decide)⟩
theorem fl_X10_evens_56 : Fl RX10 wsX10_evens 56 10 0 false .int := ⟨_, _, _, tyX10, rfl, in_X10_evens_X10, by decide, by decide +kernel, tyX10_ok, nmX10, rfl, tyX10_ok 0 (by decide)⟩
theorem mw_X10_evens_0 : Cond.constant RX10 143 (-1000000) ∈ wsX10_evens := by decide +kernel
set_option maxHeartbeats 4000000 in
set_option maxRecDepth 100000 in
theorem v_M_evens_41 {Γ : Cx} {ad : Nat → Nat} {rr : Int32} {σr : Mm} (O : Ok LM Γ ad cX10_evens 5 RX10 wsX10_evens rm_X10_evens (some .int) (some (.int rr)) σr) {σ : Mm}   (hf : f_M_evens_41 σ = some (rr, σr)) : X LM Γ ad σ 41 [] [] := by
  unfold f_M_evens_41 at hf
  refine x_ldc O (v := -1000000) mw_X10_evens_0 dX10_evens_41 ?_
  have hk : ((-1000000), σ) = (rr, σr) := Option.some.inj hf
  obtain ⟨rfl, rfl⟩ := Prod.mk.inj hk
  exact x_iret O rfl rfl ⟨_, rfl, rfl⟩ dX10_evens_43
set_option maxHeartbeats 4000000 in
set_option maxRecDepth 100000 in
theorem v_M_evens {Γ : Cx} {ad : Nat → Nat} {rr : Int32} {σr : Mm} (O : Ok LM Γ ad cX10_evens 5 RX10 wsX10_evens rm_X10_evens (some .int) (some (.int rr)) σr) {σ : Mm} {v1 : Int32} {v2 : Int32} {v3 : Int32}  (hf : f_M_evens σ v1 v2 v3 = some (rr, σr)) : X LM Γ ad σ 0 [(0, .ref (ad 0)), (1, .int v1), (2, .int v2), (3, .int v3)] [] := by
  unfold f_M_evens at hf
  refine x_aload_n O 0 dX10_evens_0 rfl rfl ?_
  refine x_iconst O (v := 0) dX10_evens_1 (by decide) ?_
  refine x_putIN O hf rfl rfl fl_X10_evens_56 rfl dX10_evens_2 (fun σ1 hf => ?_)
  refine x_aload_n O 0 dX10_evens_5 rfl rfl ?_
  refine x_iload_n O 1 dX10_evens_6 rfl rfl ?_
  refine x_iload_n O 2 dX10_evens_7 rfl rfl ?_
  obtain ⟨r_1, σ2, hc, hf⟩ := bd_some hf
  refine x_callV O (k_M_isGround  hc) ca_X10_isGround gX10_evens_X10_isGround rfl ⟨_, _, _, _, rfl, rfl⟩ rfl rfl rfl (Nat.le_of_ble_eq_true rfl) ⟨Nat.le_of_ble_eq_true rfl, Nat.le_of_ble_eq_true rfl⟩ dX10_evens_8 ?_
  refine x_push O ?_
  refine x_if_eq O 41 hf dX10_evens_11 (by decide) (fun hf => ?_) (fun hf => ?_)
  · exact x_jmp O (v_M_evens_41 O (σ := σ2)   hf) rfl
  · refine x_iload_n O 3 dX10_evens_14 rfl rfl ?_
    refine x_bipush O (v := -4) dX10_evens_15 (by decide) ?_
    refine x_iconst O (v := 4) dX10_evens_17 (by decide) ?_
    obtain ⟨r_2, σ3, hc, hf⟩ := bd_some hf
    refine x_callS O (k_M_in  hc) ca_X10_in gX10_evens_X10_in rfl rfl rfl (Nat.le_of_ble_eq_true rfl) ⟨Nat.le_of_ble_eq_true rfl, Nat.le_of_ble_eq_true rfl⟩ dX10_evens_18 ?_
    refine x_push O ?_
    refine x_if_eq O 41 hf dX10_evens_21 (by decide) (fun hf => ?_) (fun hf => ?_)
    · exact x_jmp O (v_M_evens_41 O (σ := σ3)   hf) rfl
    · refine x_aload_n O 0 dX10_evens_24 rfl rfl ?_
      refine x_getF O (t := 4) fl_X10_evens_19 rfl dX10_evens_25 ?_
      refine x_bipush O (v := 7) dX10_evens_28 (by decide) ?_
      refine x_iconst O (v := 5) dX10_evens_30 (by decide) ?_
      refine x_iload_n O 2 dX10_evens_31 rfl rfl ?_
      refine x_imul O dX10_evens_32 ?_
      refine x_iadd O dX10_evens_33 ?_
      refine x_iload_n O 1 dX10_evens_34 rfl rfl ?_
      refine x_iadd O dX10_evens_35 ?_
      refine x_iald O hf rfl dX10_evens_36 (fun j1 hf => ?_)
      refine x_iload_n O 3 dX10_evens_37 rfl rfl ?_
      refine x_icmp_ne O 44 hf dX10_evens_38 (by decide) (fun hf => ?_) (fun hf => ?_)
      · refine x_aload_n O 0 dX10_evens_44 rfl rfl ?_
        obtain ⟨r_3, σ4, hc, hf⟩ := bd_some hf
        refine x_callV O (k_M_notes  hc) ca_X10_notes gX10_evens_X10_notes rfl ⟨_, _, _, _, rfl, rfl⟩ rfl rfl rfl (Nat.le_of_ble_eq_true rfl) ⟨Nat.le_of_ble_eq_true rfl, Nat.le_of_ble_eq_true rfl⟩ dX10_evens_45 ?_
        refine x_pushN O ?_
        refine x_aload_n O 0 dX10_evens_48 rfl rfl ?_
        refine x_getF O (t := 4) fl_X10_evens_19 rfl dX10_evens_49 ?_
        refine x_bipush O (v := 7) dX10_evens_52 (by decide) ?_
        refine x_iconst O (v := 5) dX10_evens_54 (by decide) ?_
        refine x_iload_n O 2 dX10_evens_55 rfl rfl ?_
        refine x_imul O dX10_evens_56 ?_
        refine x_iadd O dX10_evens_57 ?_
        refine x_iload_n O 1 dX10_evens_58 rfl rfl ?_
        refine x_iadd O dX10_evens_59 ?_
        refine x_iald O hf rfl dX10_evens_60 (fun j2 hf => ?_)
        refine x_istoreN O hf dX10_evens_61 (by decide) (fun y1 hf => ?_)
        refine x_aload_n O 0 dX10_evens_63 rfl rfl ?_
        refine x_getF O (t := 4) fl_X10_evens_19 rfl dX10_evens_64 ?_
        refine x_bipush O (v := 7) dX10_evens_67 (by decide) ?_
        refine x_iconst O (v := 5) dX10_evens_69 (by decide) ?_
        refine x_iload_n O 2 dX10_evens_70 rfl rfl ?_
        refine x_imul O dX10_evens_71 ?_
        refine x_iadd O dX10_evens_72 ?_
        refine x_iload_n O 1 dX10_evens_73 rfl rfl ?_
        refine x_iadd O dX10_evens_74 ?_
        refine x_iload_n O 3 dX10_evens_75 rfl rfl ?_
        refine x_iastN O hf rfl dX10_evens_76 (fun σ5 hf => ?_)
        refine x_iload O dX10_evens_77 rfl ?_
        have hk : (y1, σ5) = (rr, σr) := Option.some.inj hf
        obtain ⟨rfl, rfl⟩ := Prod.mk.inj hk
        exact x_iret O rfl rfl ⟨_, rfl, rfl⟩ dX10_evens_79
      · exact x_jmp O (v_M_evens_41 O (σ := σ3)   hf) rfl
theorem k_M_evens {σ σr : Mm} {rr : Int32} {v1 : Int32} {v2 : Int32} {v3 : Int32}  (hf : f_M_evens σ v1 v2 v3 = some (rr, σr)) : CT LM yX10_evens wsX10_evens rm_X10_evens (fun ad => [.ref (ad 0), .int v1, .int v2, .int v3]) σ (some (.int rr)) σr := CT_of2 (cc := cX10_evens) (maxL := 5) (rt := (some .int)) (own := RX10) (by decide) rfl rfl (fun _ => Nat.le_of_ble_eq_true rfl) (fun _ => rfl) (fun Γ ad O => v_M_evens O  hf)

-- ===== TippedBarrowModel.undo()I
theorem ca_X10_undo : Ca yX10_undo cX10_undo 2 (some .int) wsX10_undo rm_X10_undo 0 := ⟨⟨_, rfl⟩, rfl, rfl, by decide +kernel, by decide +kernel, by decide +kernel⟩
theorem in_X10_undo_X10 : ∀ w ∈ wsX100, w ∈ wsX10_undo := by decide +kernel
theorem fl_X10_undo_19 : Fl RX10 wsX10_undo 19 10 14 true (.array .int) := ⟨_, _, _, tyX10, rfl, in_X10_undo_X10, by decide, by decide +kernel, tyX10_ok, nmX10, rfl, tyX10_ok 14 (by decide)⟩
theorem fl_X10_undo_29 : Fl RX10 wsX10_undo 29 10 17 true (.array .int) := ⟨_, _, _, tyX10, rfl, in_X10_undo_X10, by decide, by decide +kernel, tyX10_ok, nmX10, rfl, tyX10_ok 17 (by decide)⟩
theorem fl_X10_undo_56 : Fl RX10 wsX10_undo 56 10 0 false .int := ⟨_, _, _, tyX10, rfl, in_X10_undo_X10, by decide, by decide +kernel, tyX10_ok, nmX10, rfl, tyX10_ok 0 (by decide)⟩
theorem fl_X10_undo_137 : Fl RX10 wsX10_undo 137 10 18 false .int := ⟨_, _, _, tyX10, rfl, in_X10_undo_X10, by decide, by decide +kernel, tyX10_ok, nmX10, rfl, tyX10_ok 18 (by decide)⟩
set_option maxHeartbeats 4000000 in
set_option maxRecDepth 100000 in
theorem v_M_undo_59 {Γ : Cx} {ad : Nat → Nat} {rr : Int32} {σr : Mm} (O : Ok LM Γ ad cX10_undo 2 RX10 wsX10_undo rm_X10_undo (some .int) (some (.int rr)) σr) {σ : Mm}   (hf : f_M_undo_59 σ = some (rr, σr)) : X LM Γ ad σ 59 [(0, .ref (ad 0))] [] := by
  unfold f_M_undo_59 at hf
  refine x_aload_n O 0 dX10_undo_59 rfl rfl ?_
  refine x_getI O fl_X10_undo_137 rfl dX10_undo_60 ?_
  have hk : ((gI σ 0 18), σ) = (rr, σr) := Option.some.inj hf
  obtain ⟨rfl, rfl⟩ := Prod.mk.inj hk
  exact x_iret O rfl rfl ⟨_, rfl, rfl⟩ dX10_undo_63
set_option maxHeartbeats 4000000 in
set_option maxRecDepth 100000 in
theorem v_M_undo_27_b {Γ : Cx} {ad : Nat → Nat} {rr : Int32} {σr : Mm} (O : Ok LM Γ ad cX10_undo 2 RX10 wsX10_undo rm_X10_undo (some .int) (some (.int rr)) σr) {σ : Mm} {v1 : Int32}  {x : (Mm × Int32) ⊕ (Int32 × Mm)} (hf : f_M_undo_27_b σ v1 = some x) (hk : (kx (fun s : Mm × Int32 => X LM Γ ad s.1 27 [(0, .ref (ad 0)), (1, .int s.2)] []) (fun q : Int32 × Mm => q = (rr, σr))) x) : X LM Γ ad σ 27 [(0, .ref (ad 0)), (1, .int v1)] [] := by
  unfold f_M_undo_27_b at hf
  refine x_iload_n O 1 dX10_undo_27 rfl rfl ?_
  refine x_bipush O (v := 27) dX10_undo_28 (by decide) ?_
  refine x_icmp_ge O 59 hf dX10_undo_30 (by decide) (fun hf => ?_) (fun hf => ?_)
  · obtain ⟨x', hg1, hx⟩ := map_inr hf
    subst hx
    have hk := kx_r hk
    have hx : x' = (rr, σr) := hk
    subst hx
    have hf := hg1
    exact x_jmp O (v_M_undo_59 O (σ := σ)   hf) rfl
  · refine x_aload_n O 0 dX10_undo_33 rfl rfl ?_
    refine x_getF O (t := 4) fl_X10_undo_19 rfl dX10_undo_34 ?_
    refine x_iload_n O 1 dX10_undo_37 rfl rfl ?_
    refine x_aload_n O 0 dX10_undo_38 rfl rfl ?_
    refine x_getF O (t := 7) fl_X10_undo_29 rfl dX10_undo_39 ?_
    refine x_bipush O (v := 27) dX10_undo_42 (by decide) ?_
    refine x_aload_n O 0 dX10_undo_44 rfl rfl ?_
    refine x_getI O fl_X10_undo_137 rfl dX10_undo_45 ?_
    refine x_imul O dX10_undo_48 ?_
    refine x_iload_n O 1 dX10_undo_49 rfl rfl ?_
    refine x_iadd O dX10_undo_50 ?_
    refine x_iald O hf rfl dX10_undo_51 (fun j1 hf => ?_)
    refine x_iastN O hf rfl dX10_undo_52 (fun σ1 hf => ?_)
    refine x_iincN O hf dX10_undo_53 rfl rfl (by decide) (fun y1 hf => ?_)
    refine x_goto O 27 dX10_undo_56 (by decide) ?_
    obtain rfl := Option.some.inj hf
    have hk := kx_l hk
    exact x_jmp O hk rfl
set_option maxHeartbeats 4000000 in
set_option maxRecDepth 100000 in
theorem v_M_undo_27 {Γ : Cx} {ad : Nat → Nat} {rr : Int32} {σr : Mm} (O : Ok LM Γ ad cX10_undo 2 RX10 wsX10_undo rm_X10_undo (some .int) (some (.int rr)) σr) {σ : Mm} {v1 : Int32}  (hf : f_M_undo_27 σ v1 = some (rr, σr)) : X LM Γ ad σ 27 [(0, .ref (ad 0)), (1, .int v1)] [] := lpX (P := (fun s : Mm × Int32 => X LM Γ ad s.1 27 [(0, .ref (ad 0)), (1, .int s.2)] [])) (K := (fun q : Int32 × Mm => q = (rr, σr))) (fun s x g1 g2 => v_M_undo_27_b O (σ := s.1)  (v1 := s.2)  g1 g2) (σ, v1) _ hf rfl
set_option maxHeartbeats 4000000 in
set_option maxRecDepth 100000 in
theorem v_M_undo {Γ : Cx} {ad : Nat → Nat} {rr : Int32} {σr : Mm} (O : Ok LM Γ ad cX10_undo 2 RX10 wsX10_undo rm_X10_undo (some .int) (some (.int rr)) σr) {σ : Mm}   (hf : f_M_undo σ = some (rr, σr)) : X LM Γ ad σ 0 [(0, .ref (ad 0))] [] := by
  unfold f_M_undo at hf
  refine x_aload_n O 0 dX10_undo_0 rfl rfl ?_
  refine x_iconst O (v := 0) dX10_undo_1 (by decide) ?_
  refine x_putIN O hf rfl rfl fl_X10_undo_56 rfl dX10_undo_2 (fun σ1 hf => ?_)
  refine x_aload_n O 0 dX10_undo_5 rfl rfl ?_
  refine x_getI O fl_X10_undo_137 rfl dX10_undo_6 ?_
  refine x_if_ne O 15 hf dX10_undo_9 (by decide) (fun hf => ?_) (fun hf => ?_)
  · refine x_aload_n O 0 dX10_undo_15 rfl rfl ?_
    refine x_dup O dX10_undo_16 rfl ?_
    refine x_getI O fl_X10_undo_137 rfl dX10_undo_17 ?_
    refine x_iconst O (v := 1) dX10_undo_20 (by decide) ?_
    refine x_isub O dX10_undo_21 ?_
    refine x_putIN O hf rfl rfl fl_X10_undo_137 rfl dX10_undo_22 (fun σ2 hf => ?_)
    refine x_iconst O (v := 0) dX10_undo_25 (by decide) ?_
    refine x_istore_n O 1 dX10_undo_26 rfl (by decide) ?_
    exact x_jmp O (v_M_undo_27 O (σ := σ2) (v1 := 0)  hf) rfl
  · refine x_bipush O (v := -2) dX10_undo_12 (by decide) ?_
    have hk : ((-2), σ1) = (rr, σr) := Option.some.inj hf
    obtain ⟨rfl, rfl⟩ := Prod.mk.inj hk
    exact x_iret O rfl rfl ⟨_, rfl, rfl⟩ dX10_undo_14
theorem k_M_undo {σ σr : Mm} {rr : Int32}   (hf : f_M_undo σ = some (rr, σr)) : CT LM yX10_undo wsX10_undo rm_X10_undo (fun ad => [.ref (ad 0)]) σ (some (.int rr)) σr := CT_of2 (cc := cX10_undo) (maxL := 2) (rt := (some .int)) (own := RX10) (by decide) rfl rfl (fun _ => Nat.le_of_ble_eq_true rfl) (fun _ => rfl) (fun Γ ad O => v_M_undo O  hf)

-- ===== TippedBarrowModel.would(I)I
theorem ca_X10_would : Ca yX10_would cX10_would 3 (some .int) wsX10_would rm_X10_would 1 := ⟨⟨_, rfl⟩, rfl, rfl, by decide +kernel, by decide +kernel, by decide +kernel⟩
theorem in_X10_would_X10 : ∀ w ∈ wsX100, w ∈ wsX10_would := by decide +kernel
theorem fl_X10_would_19 : Fl RX10 wsX10_would 19 10 14 true (.array .int) := ⟨_, _, _, tyX10, rfl, in_X10_would_X10, by decide, by decide +kernel, tyX10_ok, nmX10, rfl, tyX10_ok 14 (by decide)⟩
theorem fl_X10_would_56 : Fl RX10 wsX10_would 56 10 0 false .int := ⟨_, _, _, tyX10, rfl, in_X10_would_X10, by decide, by decide +kernel, tyX10_ok, nmX10, rfl, tyX10_ok 0 (by decide)⟩
set_option maxHeartbeats 4000000 in
set_option maxRecDepth 100000 in
theorem v_M_would_44 {Γ : Cx} {ad : Nat → Nat} {rr : Int32} {σr : Mm} (O : Ok LM Γ ad cX10_would 3 RX10 wsX10_would rm_X10_would (some .int) (some (.int rr)) σr) {σ : Mm} {s0 : Int32}  (hf : f_M_would_44 σ s0 = some (rr, σr)) : X LM Γ ad σ 44 [] [.int s0] := by
  unfold f_M_would_44 at hf
  refine x_istore_n O 2 dX10_would_44 rfl (by decide) ?_
  refine x_iload_n O 2 dX10_would_45 rfl rfl ?_
  refine x_iconst O (v := 3) dX10_would_46 (by decide) ?_
  refine x_icmp_ne O 55 hf dX10_would_47 (by decide) (fun hf => ?_) (fun hf => ?_)
  · refine x_iload_n O 2 dX10_would_55 rfl rfl ?_
    have hk : (s0, σ) = (rr, σr) := Option.some.inj hf
    obtain ⟨rfl, rfl⟩ := Prod.mk.inj hk
    exact x_iret O rfl rfl ⟨_, rfl, rfl⟩ dX10_would_56
  · refine x_bipush O (v := -2) dX10_would_50 (by decide) ?_
    refine x_goto O 56 dX10_would_52 (by decide) ?_
    have hk : ((-2), σ) = (rr, σr) := Option.some.inj hf
    obtain ⟨rfl, rfl⟩ := Prod.mk.inj hk
    exact x_iret O rfl rfl ⟨_, rfl, rfl⟩ dX10_would_56
set_option maxHeartbeats 4000000 in
set_option maxRecDepth 100000 in
theorem v_M_would {Γ : Cx} {ad : Nat → Nat} {rr : Int32} {σr : Mm} (O : Ok LM Γ ad cX10_would 3 RX10 wsX10_would rm_X10_would (some .int) (some (.int rr)) σr) {σ : Mm} {v1 : Int32}  (hf : f_M_would σ v1 = some (rr, σr)) : X LM Γ ad σ 0 [(0, .ref (ad 0)), (1, .int v1)] [] := by
  unfold f_M_would at hf
  refine x_aload_n O 0 dX10_would_0 rfl rfl ?_
  refine x_iconst O (v := 0) dX10_would_1 (by decide) ?_
  refine x_putIN O hf rfl rfl fl_X10_would_56 rfl dX10_would_2 (fun σ1 hf => ?_)
  refine x_iload_n O 1 dX10_would_5 rfl rfl ?_
  refine x_iconst O (v := 0) dX10_would_6 (by decide) ?_
  refine x_iconst O (v := 3) dX10_would_7 (by decide) ?_
  obtain ⟨r_1, σ2, hc, hf⟩ := bd_some hf
  refine x_callS O (k_M_in  hc) ca_X10_in gX10_would_X10_in rfl rfl rfl (Nat.le_of_ble_eq_true rfl) ⟨Nat.le_of_ble_eq_true rfl, Nat.le_of_ble_eq_true rfl⟩ dX10_would_8 ?_
  refine x_push O ?_
  refine x_if_ne O 16 hf dX10_would_11 (by decide) (fun hf => ?_) (fun hf => ?_)
  · refine x_aload_n O 0 dX10_would_16 rfl rfl ?_
    obtain ⟨r_2, σ3, hc, hf⟩ := bd_some hf
    refine x_callV O (k_M_hasStart  hc) ca_X10_hasStart gX10_would_X10_hasStart rfl ⟨_, _, _, _, rfl, rfl⟩ rfl rfl rfl (Nat.le_of_ble_eq_true rfl) ⟨Nat.le_of_ble_eq_true rfl, Nat.le_of_ble_eq_true rfl⟩ dX10_would_17 ?_
    refine x_push O ?_
    refine x_if_eq O 43 hf dX10_would_20 (by decide) (fun hf => ?_) (fun hf => ?_)
    · refine x_iconst O (v := 3) dX10_would_43 (by decide) ?_
      exact x_jmp O (v_M_would_44 O (σ := σ3) (s0 := 3)  hf) rfl
    · refine x_aload_n O 0 dX10_would_23 rfl rfl ?_
      refine x_aload_n O 0 dX10_would_24 rfl rfl ?_
      refine x_getF O (t := 4) fl_X10_would_19 rfl dX10_would_25 ?_
      refine x_iconst O (v := 0) dX10_would_28 (by decide) ?_
      refine x_iald O hf rfl dX10_would_29 (fun j1 hf => ?_)
      refine x_aload_n O 0 dX10_would_30 rfl rfl ?_
      refine x_getF O (t := 4) fl_X10_would_19 rfl dX10_would_31 ?_
      refine x_iconst O (v := 1) dX10_would_34 (by decide) ?_
      refine x_iald O hf rfl dX10_would_35 (fun j2 hf => ?_)
      refine x_iload_n O 1 dX10_would_36 rfl rfl ?_
      obtain ⟨r_3, σ4, hc, hf⟩ := bd_some hf
      refine x_callV O (k_M_comesBy  hc) ca_X10_comesBy gX10_would_X10_comesBy rfl ⟨_, _, _, _, rfl, rfl⟩ rfl rfl rfl (Nat.le_of_ble_eq_true rfl) ⟨Nat.le_of_ble_eq_true rfl, Nat.le_of_ble_eq_true rfl⟩ dX10_would_37 ?_
      refine x_push O ?_
      refine x_goto O 44 dX10_would_40 (by decide) ?_
      exact x_jmp O (v_M_would_44 O (σ := σ4) (s0 := r_3)  hf) rfl
  · refine x_iconst O (v := -1) dX10_would_14 (by decide) ?_
    have hk : ((-1), σ2) = (rr, σr) := Option.some.inj hf
    obtain ⟨rfl, rfl⟩ := Prod.mk.inj hk
    exact x_iret O rfl rfl ⟨_, rfl, rfl⟩ dX10_would_15
theorem k_M_would {σ σr : Mm} {rr : Int32} {v1 : Int32}  (hf : f_M_would σ v1 = some (rr, σr)) : CT LM yX10_would wsX10_would rm_X10_would (fun ad => [.ref (ad 0), .int v1]) σ (some (.int rr)) σr := CT_of2 (cc := cX10_would) (maxL := 3) (rt := (some .int)) (own := RX10) (by decide) rfl rfl (fun _ => Nat.le_of_ble_eq_true rfl) (fun _ => rfl) (fun Γ ad O => v_M_would O  hf)

-- ===== TippedBarrowModel.spot(II)I
theorem ca_X10_spot : Ca yX10_spot cX10_spot 2 (some .int) wsX10_spot rm_X10_spot 2 := ⟨⟨_, rfl⟩, rfl, rfl, by decide +kernel, by decide +kernel, by decide +kernel⟩
set_option maxHeartbeats 4000000 in
set_option maxRecDepth 100000 in
theorem v_M_spot {Γ : Cx} {ad : Nat → Nat} {rr : Int32} {σr : Mm} (O : Ok LM Γ ad cX10_spot 2 RX10 wsX10_spot rm_X10_spot (some .int) (some (.int rr)) σr) {σ : Mm} {v0 : Int32} {v1 : Int32}  (hf : f_M_spot σ v0 v1 = some (rr, σr)) : X LM Γ ad σ 0 [(0, .int v0), (1, .int v1)] [] := by
  unfold f_M_spot at hf
  refine x_bipush O (v := 17) dX10_spot_0 (by decide) ?_
  refine x_iload_n O 0 dX10_spot_2 rfl rfl ?_
  refine x_imul O dX10_spot_3 ?_
  refine x_iload_n O 1 dX10_spot_4 rfl rfl ?_
  refine x_iadd O dX10_spot_5 ?_
  refine x_bipush O (v := 8) dX10_spot_6 (by decide) ?_
  refine x_iadd O dX10_spot_8 ?_
  have hk : ((((17 * v0) + v1) + 8), σ) = (rr, σr) := Option.some.inj hf
  obtain ⟨rfl, rfl⟩ := Prod.mk.inj hk
  exact x_iret O rfl rfl ⟨_, rfl, rfl⟩ dX10_spot_9
theorem k_M_spot {σ σr : Mm} {rr : Int32} {v0 : Int32} {v1 : Int32}  (hf : f_M_spot σ v0 v1 = some (rr, σr)) : CT LM yX10_spot wsX10_spot rm_X10_spot (fun ad => [.int v0, .int v1]) σ (some (.int rr)) σr := CT_of2 (cc := cX10_spot) (maxL := 2) (rt := (some .int)) (own := RX10) (by decide) rfl rfl (fun _ => Nat.le_of_ble_eq_true rfl) (fun _ => rfl) (fun Γ ad O => v_M_spot O  hf)

-- ===== TippedBarrowModel.winnerBehind(II)I
theorem ca_X10_winnerBehind : Ca yX10_winnerBehind cX10_winnerBehind 3 (some .int) wsX10_winnerBehind rm_X10_winnerBehind 2 := ⟨⟨_, rfl⟩, rfl, rfl, by decide +kernel, by decide +kernel, by decide +kernel⟩
theorem in_X10_winnerBehind_X10 : ∀ w ∈ wsX100, w ∈ wsX10_winnerBehind := by decide +kernel
theorem fl_X10_winnerBehind_35 : Fl RX10 wsX10_winnerBehind 35 10 23 true (.array .int) := ⟨_, _, _, tyX10, rfl, in_X10_winnerBehind_X10, by decide, by decide +kernel, tyX10_ok, nmX10, rfl, tyX10_ok 23 (by decide)⟩
theorem fl_X10_winnerBehind_144 : Fl RX10 wsX10_winnerBehind 144 10 21 false .int := ⟨_, _, _, tyX10, rfl, in_X10_winnerBehind_X10, by decide, by decide +kernel, tyX10_ok, nmX10, rfl, tyX10_ok 21 (by decide)⟩
theorem fl_X10_winnerBehind_147 : Fl RX10 wsX10_winnerBehind 147 10 22 false .int := ⟨_, _, _, tyX10, rfl, in_X10_winnerBehind_X10, by decide, by decide +kernel, tyX10_ok, nmX10, rfl, tyX10_ok 22 (by decide)⟩
set_option maxHeartbeats 4000000 in
set_option maxRecDepth 100000 in
theorem v_M_winnerBehind {Γ : Cx} {ad : Nat → Nat} {rr : Int32} {σr : Mm} (O : Ok LM Γ ad cX10_winnerBehind 3 RX10 wsX10_winnerBehind rm_X10_winnerBehind (some .int) (some (.int rr)) σr) {σ : Mm} {v1 : Int32} {v2 : Int32}  (hf : f_M_winnerBehind σ v1 v2 = some (rr, σr)) : X LM Γ ad σ 0 [(0, .ref (ad 0)), (1, .int v1), (2, .int v2)] [] := by
  unfold f_M_winnerBehind at hf
  refine x_iload_n O 1 dX10_winnerBehind_0 rfl rfl ?_
  refine x_if_ne O 29 hf dX10_winnerBehind_1 (by decide) (fun hf => ?_) (fun hf => ?_)
  · refine x_iload_n O 1 dX10_winnerBehind_29 rfl rfl ?_
    have hk : (v1, σ) = (rr, σr) := Option.some.inj hf
    obtain ⟨rfl, rfl⟩ := Prod.mk.inj hk
    exact x_iret O rfl rfl ⟨_, rfl, rfl⟩ dX10_winnerBehind_30
  · refine x_aload_n O 0 dX10_winnerBehind_4 rfl rfl ?_
    refine x_getF O (t := 9) fl_X10_winnerBehind_35 rfl dX10_winnerBehind_5 ?_
    refine x_iconst O (v := 2) dX10_winnerBehind_8 (by decide) ?_
    refine x_aload_n O 0 dX10_winnerBehind_9 rfl rfl ?_
    refine x_getI O fl_X10_winnerBehind_144 rfl dX10_winnerBehind_10 ?_
    refine x_aload_n O 0 dX10_winnerBehind_13 rfl rfl ?_
    refine x_getI O fl_X10_winnerBehind_147 rfl dX10_winnerBehind_14 ?_
    obtain ⟨r_1, σ1, hc, hf⟩ := bd_some hf
    refine x_callS O (k_M_spot  hc) ca_X10_spot gX10_winnerBehind_X10_spot rfl rfl rfl (Nat.le_of_ble_eq_true rfl) ⟨Nat.le_of_ble_eq_true rfl, Nat.le_of_ble_eq_true rfl⟩ dX10_winnerBehind_17 ?_
    refine x_push O ?_
    refine x_imul O dX10_winnerBehind_20 ?_
    refine x_iconst O (v := 1) dX10_winnerBehind_21 (by decide) ?_
    refine x_iadd O dX10_winnerBehind_22 ?_
    refine x_iload_n O 2 dX10_winnerBehind_23 rfl rfl ?_
    refine x_isub O dX10_winnerBehind_24 ?_
    refine x_iald O hf rfl dX10_winnerBehind_25 (fun j1 hf => ?_)
    refine x_goto O 30 dX10_winnerBehind_26 (by decide) ?_
    have hk : ((gA σ1 9 j1), σ1) = (rr, σr) := Option.some.inj hf
    obtain ⟨rfl, rfl⟩ := Prod.mk.inj hk
    exact x_iret O rfl rfl ⟨_, rfl, rfl⟩ dX10_winnerBehind_30
theorem k_M_winnerBehind {σ σr : Mm} {rr : Int32} {v1 : Int32} {v2 : Int32}  (hf : f_M_winnerBehind σ v1 v2 = some (rr, σr)) : CT LM yX10_winnerBehind wsX10_winnerBehind rm_X10_winnerBehind (fun ad => [.ref (ad 0), .int v1, .int v2]) σ (some (.int rr)) σr := CT_of2 (cc := cX10_winnerBehind) (maxL := 3) (rt := (some .int)) (own := RX10) (by decide) rfl rfl (fun _ => Nat.le_of_ble_eq_true rfl) (fun _ => rfl) (fun Γ ad O => v_M_winnerBehind O  hf)

-- ===== TippedBarrowModel.pushesBehind(II)I
theorem ca_X10_pushesBehind : Ca yX10_pushesBehind cX10_pushesBehind 3 (some .int) wsX10_pushesBehind rm_X10_pushesBehind 2 := ⟨⟨_, rfl⟩, rfl, rfl, by decide +kernel, by decide +kernel, by decide +kernel⟩
theorem in_X10_pushesBehind_X10 : ∀ w ∈ wsX100, w ∈ wsX10_pushesBehind := by decide +kernel
theorem fl_X10_pushesBehind_38 : Fl RX10 wsX10_pushesBehind 38 10 24 true (.array .int) := ⟨_, _, _, tyX10, rfl, in_X10_pushesBehind_X10, by decide, by decide +kernel, tyX10_ok, nmX10, rfl, tyX10_ok 24 (by decide)⟩
theorem fl_X10_pushesBehind_144 : Fl RX10 wsX10_pushesBehind 144 10 21 false .int := ⟨_, _, _, tyX10, rfl, in_X10_pushesBehind_X10, by decide, by decide +kernel, tyX10_ok, nmX10, rfl, tyX10_ok 21 (by decide)⟩
theorem fl_X10_pushesBehind_147 : Fl RX10 wsX10_pushesBehind 147 10 22 false .int := ⟨_, _, _, tyX10, rfl, in_X10_pushesBehind_X10, by decide, by decide +kernel, tyX10_ok, nmX10, rfl, tyX10_ok 22 (by decide)⟩
set_option maxHeartbeats 4000000 in
set_option maxRecDepth 100000 in
theorem v_M_pushesBehind {Γ : Cx} {ad : Nat → Nat} {rr : Int32} {σr : Mm} (O : Ok LM Γ ad cX10_pushesBehind 3 RX10 wsX10_pushesBehind rm_X10_pushesBehind (some .int) (some (.int rr)) σr) {σ : Mm} {v1 : Int32} {v2 : Int32}  (hf : f_M_pushesBehind σ v1 v2 = some (rr, σr)) : X LM Γ ad σ 0 [(0, .ref (ad 0)), (1, .int v1), (2, .int v2)] [] := by
  unfold f_M_pushesBehind at hf
  refine x_iload_n O 1 dX10_pushesBehind_0 rfl rfl ?_
  refine x_if_ne O 29 hf dX10_pushesBehind_1 (by decide) (fun hf => ?_) (fun hf => ?_)
  · refine x_iconst O (v := 0) dX10_pushesBehind_29 (by decide) ?_
    have hk : (0, σ) = (rr, σr) := Option.some.inj hf
    obtain ⟨rfl, rfl⟩ := Prod.mk.inj hk
    exact x_iret O rfl rfl ⟨_, rfl, rfl⟩ dX10_pushesBehind_30
  · refine x_aload_n O 0 dX10_pushesBehind_4 rfl rfl ?_
    refine x_getF O (t := 10) fl_X10_pushesBehind_38 rfl dX10_pushesBehind_5 ?_
    refine x_iconst O (v := 2) dX10_pushesBehind_8 (by decide) ?_
    refine x_aload_n O 0 dX10_pushesBehind_9 rfl rfl ?_
    refine x_getI O fl_X10_pushesBehind_144 rfl dX10_pushesBehind_10 ?_
    refine x_aload_n O 0 dX10_pushesBehind_13 rfl rfl ?_
    refine x_getI O fl_X10_pushesBehind_147 rfl dX10_pushesBehind_14 ?_
    obtain ⟨r_1, σ1, hc, hf⟩ := bd_some hf
    refine x_callS O (k_M_spot  hc) ca_X10_spot gX10_pushesBehind_X10_spot rfl rfl rfl (Nat.le_of_ble_eq_true rfl) ⟨Nat.le_of_ble_eq_true rfl, Nat.le_of_ble_eq_true rfl⟩ dX10_pushesBehind_17 ?_
    refine x_push O ?_
    refine x_imul O dX10_pushesBehind_20 ?_
    refine x_iconst O (v := 1) dX10_pushesBehind_21 (by decide) ?_
    refine x_iadd O dX10_pushesBehind_22 ?_
    refine x_iload_n O 2 dX10_pushesBehind_23 rfl rfl ?_
    refine x_isub O dX10_pushesBehind_24 ?_
    refine x_iald O hf rfl dX10_pushesBehind_25 (fun j1 hf => ?_)
    refine x_goto O 30 dX10_pushesBehind_26 (by decide) ?_
    have hk : ((gA σ1 10 j1), σ1) = (rr, σr) := Option.some.inj hf
    obtain ⟨rfl, rfl⟩ := Prod.mk.inj hk
    exact x_iret O rfl rfl ⟨_, rfl, rfl⟩ dX10_pushesBehind_30
theorem k_M_pushesBehind {σ σr : Mm} {rr : Int32} {v1 : Int32} {v2 : Int32}  (hf : f_M_pushesBehind σ v1 v2 = some (rr, σr)) : CT LM yX10_pushesBehind wsX10_pushesBehind rm_X10_pushesBehind (fun ad => [.ref (ad 0), .int v1, .int v2]) σ (some (.int rr)) σr := CT_of2 (cc := cX10_pushesBehind) (maxL := 3) (rt := (some .int)) (own := RX10) (by decide) rfl rfl (fun _ => Nat.le_of_ble_eq_true rfl) (fun _ => rfl) (fun Γ ad O => v_M_pushesBehind O  hf)

-- ===== TippedBarrowModel.isIn(IIII)Z
theorem ca_X10_isIn : Ca yX10_isIn cX10_isIn 13 (some .boolean) wsX10_isIn rm_X10_isIn 4 := ⟨⟨_, rfl⟩, rfl, rfl, by decide +kernel, by decide +kernel, by decide +kernel⟩
theorem in_X10_isIn_X10 : ∀ w ∈ wsX100, w ∈ wsX10_isIn := by decide +kernel
theorem fl_X10_isIn_35 : Fl RX10 wsX10_isIn 35 10 23 true (.array .int) := ⟨_, _, _, tyX10, rfl, in_X10_isIn_X10, by decide, by decide +kernel, tyX10_ok, nmX10, rfl, tyX10_ok 23 (by decide)⟩
theorem fl_X10_isIn_38 : Fl RX10 wsX10_isIn 38 10 24 true (.array .int) := ⟨_, _, _, tyX10, rfl, in_X10_isIn_X10, by decide, by decide +kernel, tyX10_ok, nmX10, rfl, tyX10_ok 24 (by decide)⟩
set_option maxHeartbeats 4000000 in
set_option maxRecDepth 100000 in
theorem v_M_isIn_151 {Γ : Cx} {ad : Nat → Nat} {rr : Int32} {σr : Mm} (O : Ok LM Γ ad cX10_isIn 13 RX10 wsX10_isIn rm_X10_isIn (some .boolean) (some (.int rr)) σr) {σ : Mm} {v3 : Int32} {v4 : Int32} {v5 : Int32} {v6 : Int32} {v7 : Int32} {v8 : Int32}  (hf : f_M_isIn_151 σ v3 v4 v5 v6 v7 v8 = some (rr, σr)) : X LM Γ ad σ 151 [(0, .ref (ad 0)), (3, .int v3), (4, .int v4), (5, .int v5), (6, .int v6), (7, .int v7), (8, .int v8)] [] := by
  unfold f_M_isIn_151 at hf
  refine x_iload O dX10_isIn_151 rfl ?_
  refine x_iload O dX10_isIn_153 rfl ?_
  refine x_icmp_ne O 188 hf dX10_isIn_155 (by decide) (fun hf => ?_) (fun hf => ?_)
  · refine x_iconst O (v := 0) dX10_isIn_188 (by decide) ?_
    have hk : (0, σ) = (rr, σr) := Option.some.inj hf
    obtain ⟨rfl, rfl⟩ := Prod.mk.inj hk
    exact x_iret O rfl rfl ⟨_, rfl, rfl⟩ dX10_isIn_189
  · refine x_iload O dX10_isIn_158 rfl ?_
    refine x_iload O dX10_isIn_160 rfl ?_
    refine x_iconst O (v := 1) dX10_isIn_162 (by decide) ?_
    refine x_isub O dX10_isIn_163 ?_
    refine x_icmp_ne O 188 hf dX10_isIn_164 (by decide) (fun hf => ?_) (fun hf => ?_)
    · refine x_iconst O (v := 0) dX10_isIn_188 (by decide) ?_
      have hk : (0, σ) = (rr, σr) := Option.some.inj hf
      obtain ⟨rfl, rfl⟩ := Prod.mk.inj hk
      exact x_iret O rfl rfl ⟨_, rfl, rfl⟩ dX10_isIn_189
    · refine x_aload_n O 0 dX10_isIn_167 rfl rfl ?_
      refine x_getF O (t := 9) fl_X10_isIn_35 rfl dX10_isIn_168 ?_
      refine x_iload O dX10_isIn_171 rfl ?_
      refine x_iconst O (v := 2) dX10_isIn_173 (by decide) ?_
      refine x_iload_n O 3 dX10_isIn_174 rfl rfl ?_
      refine x_isub O dX10_isIn_175 ?_
      refine x_iastN O hf rfl dX10_isIn_176 (fun σ1 hf => ?_)
      refine x_aload_n O 0 dX10_isIn_177 rfl rfl ?_
      refine x_getF O (t := 10) fl_X10_isIn_38 rfl dX10_isIn_178 ?_
      refine x_iload O dX10_isIn_181 rfl ?_
      refine x_iload O dX10_isIn_183 rfl ?_
      refine x_iastN O hf rfl dX10_isIn_185 (fun σ2 hf => ?_)
      refine x_iconst O (v := 1) dX10_isIn_186 (by decide) ?_
      have hk : (1, σ2) = (rr, σr) := Option.some.inj hf
      obtain ⟨rfl, rfl⟩ := Prod.mk.inj hk
      exact x_iret O rfl rfl ⟨_, rfl, rfl⟩ dX10_isIn_187
set_option maxHeartbeats 4000000 in
set_option maxRecDepth 100000 in
theorem v_M_isIn_143 {Γ : Cx} {ad : Nat → Nat} {rr : Int32} {σr : Mm} (O : Ok LM Γ ad cX10_isIn 13 RX10 wsX10_isIn rm_X10_isIn (some .boolean) (some (.int rr)) σr) {σ : Mm} {v1 : Int32} {v2 : Int32} {v3 : Int32} {v4 : Int32} {v5 : Int32} {v6 : Int32} {v8 : Int32} {v9 : Int32} {s0 : Int32}  {x : (Mm × Int32 × Int32 × Int32 × Int32) ⊕ (Int32 × Mm)} (hf : f_M_isIn_143 σ v5 v6 v9 s0 = some x) (hk : (kx (fun s : Mm × Int32 × Int32 × Int32 × Int32 => X LM Γ ad s.1 23 [(0, .ref (ad 0)), (1, .int v1), (2, .int v2), (3, .int v3), (4, .int v4), (5, .int s.2.1), (6, .int s.2.2.1), (7, .int s.2.2.2.1), (8, .int v8), (9, .int s.2.2.2.2)] []) (fun q : Int32 × Mm => q = (rr, σr))) x) : X LM Γ ad σ 143 [(0, .ref (ad 0)), (1, .int v1), (2, .int v2), (3, .int v3), (4, .int v4), (5, .int v5), (6, .int v6), (8, .int v8), (9, .int v9)] [.int s0] := by
  unfold f_M_isIn_143 at hf
  refine x_istore O dX10_isIn_143 (by decide) ?_
  refine x_iincN O hf dX10_isIn_145 rfl rfl (by decide) (fun y1 hf => ?_)
  refine x_goto O 23 dX10_isIn_148 (by decide) ?_
  obtain rfl := Option.some.inj hf
  have hk := kx_l hk
  exact x_jmp O hk rfl
set_option maxHeartbeats 4000000 in
set_option maxRecDepth 100000 in
theorem v_M_isIn_141 {Γ : Cx} {ad : Nat → Nat} {rr : Int32} {σr : Mm} (O : Ok LM Γ ad cX10_isIn 13 RX10 wsX10_isIn rm_X10_isIn (some .boolean) (some (.int rr)) σr) {σ : Mm} {v1 : Int32} {v2 : Int32} {v3 : Int32} {v4 : Int32} {v5 : Int32} {v6 : Int32} {v7 : Int32} {v8 : Int32} {v9 : Int32}  {x : (Mm × Int32 × Int32 × Int32 × Int32) ⊕ (Int32 × Mm)} (hf : f_M_isIn_141 σ v5 v6 v7 v9 = some x) (hk : (kx (fun s : Mm × Int32 × Int32 × Int32 × Int32 => X LM Γ ad s.1 23 [(0, .ref (ad 0)), (1, .int v1), (2, .int v2), (3, .int v3), (4, .int v4), (5, .int s.2.1), (6, .int s.2.2.1), (7, .int s.2.2.2.1), (8, .int v8), (9, .int s.2.2.2.2)] []) (fun q : Int32 × Mm => q = (rr, σr))) x) : X LM Γ ad σ 141 [(0, .ref (ad 0)), (1, .int v1), (2, .int v2), (3, .int v3), (4, .int v4), (5, .int v5), (6, .int v6), (7, .int v7), (8, .int v8), (9, .int v9)] [] := by
  unfold f_M_isIn_141 at hf
  refine x_iload O dX10_isIn_141 rfl ?_
  exact x_jmp O (v_M_isIn_143 O (σ := σ) (v1 := v1) (v2 := v2) (v3 := v3) (v4 := v4) (v5 := v5) (v6 := v6) (v8 := v8) (v9 := v9) (s0 := v7)  hf hk) rfl
set_option maxHeartbeats 4000000 in
set_option maxRecDepth 100000 in
theorem v_M_isIn_118 {Γ : Cx} {ad : Nat → Nat} {rr : Int32} {σr : Mm} (O : Ok LM Γ ad cX10_isIn 13 RX10 wsX10_isIn rm_X10_isIn (some .boolean) (some (.int rr)) σr) {σ : Mm} {v1 : Int32} {v2 : Int32} {v3 : Int32} {v4 : Int32} {v5 : Int32} {v7 : Int32} {v8 : Int32} {v9 : Int32} {v11 : Int32} {v12 : Int32} {s0 : Int32} {s1 : Int32}  {x : (Mm × Int32 × Int32 × Int32 × Int32) ⊕ (Int32 × Mm)} (hf : f_M_isIn_118 σ v3 v5 v7 v9 v11 v12 s0 s1 = some x) (hk : (kx (fun s : Mm × Int32 × Int32 × Int32 × Int32 => X LM Γ ad s.1 23 [(0, .ref (ad 0)), (1, .int v1), (2, .int v2), (3, .int v3), (4, .int v4), (5, .int s.2.1), (6, .int s.2.2.1), (7, .int s.2.2.2.1), (8, .int v8), (9, .int s.2.2.2.2)] []) (fun q : Int32 × Mm => q = (rr, σr))) x) : X LM Γ ad σ 118 [(0, .ref (ad 0)), (1, .int v1), (2, .int v2), (3, .int v3), (4, .int v4), (5, .int v5), (7, .int v7), (8, .int v8), (9, .int v9), (11, .int v11), (12, .int v12)] [.int s1, .int s0] := by
  unfold f_M_isIn_118 at hf
  refine x_iadd O dX10_isIn_118 ?_
  refine x_istoreN O hf dX10_isIn_119 (by decide) (fun y1 hf => ?_)
  refine x_iload O dX10_isIn_121 rfl ?_
  refine x_iconst O (v := 2) dX10_isIn_123 (by decide) ?_
  refine x_iload_n O 3 dX10_isIn_124 rfl rfl ?_
  refine x_isub O dX10_isIn_125 ?_
  refine x_icmp_ne O 141 hf dX10_isIn_126 (by decide) (fun hf => ?_) (fun hf => ?_)
  · exact x_jmp O (v_M_isIn_141 O (σ := σ) (v1 := v1) (v2 := v2) (v3 := v3) (v4 := v4) (v5 := v5) (v6 := y1) (v7 := v7) (v8 := v8) (v9 := v9)  hf hk) rfl
  · refine x_iload O dX10_isIn_129 rfl ?_
    refine x_iload O dX10_isIn_131 rfl ?_
    refine x_icmp_le O 141 hf dX10_isIn_133 (by decide) (fun hf => ?_) (fun hf => ?_)
    · exact x_jmp O (v_M_isIn_141 O (σ := σ) (v1 := v1) (v2 := v2) (v3 := v3) (v4 := v4) (v5 := v5) (v6 := y1) (v7 := v7) (v8 := v8) (v9 := v9)  hf hk) rfl
    · refine x_iload O dX10_isIn_136 rfl ?_
      refine x_goto O 143 dX10_isIn_138 (by decide) ?_
      exact x_jmp O (v_M_isIn_143 O (σ := σ) (v1 := v1) (v2 := v2) (v3 := v3) (v4 := v4) (v5 := v5) (v6 := y1) (v8 := v8) (v9 := v9) (s0 := v12)  hf hk) rfl
set_option maxHeartbeats 4000000 in
set_option maxRecDepth 100000 in
theorem v_M_isIn_100 {Γ : Cx} {ad : Nat → Nat} {rr : Int32} {σr : Mm} (O : Ok LM Γ ad cX10_isIn 13 RX10 wsX10_isIn rm_X10_isIn (some .boolean) (some (.int rr)) σr) {σ : Mm} {v1 : Int32} {v2 : Int32} {v3 : Int32} {v4 : Int32} {v5 : Int32} {v6 : Int32} {v7 : Int32} {v8 : Int32} {v9 : Int32} {v11 : Int32} {v12 : Int32}  {x : (Mm × Int32 × Int32 × Int32 × Int32) ⊕ (Int32 × Mm)} (hf : f_M_isIn_100 σ v3 v5 v6 v7 v9 v11 v12 = some x) (hk : (kx (fun s : Mm × Int32 × Int32 × Int32 × Int32 => X LM Γ ad s.1 23 [(0, .ref (ad 0)), (1, .int v1), (2, .int v2), (3, .int v3), (4, .int v4), (5, .int s.2.1), (6, .int s.2.2.1), (7, .int s.2.2.2.1), (8, .int v8), (9, .int s.2.2.2.2)] []) (fun q : Int32 × Mm => q = (rr, σr))) x) : X LM Γ ad σ 100 [(0, .ref (ad 0)), (1, .int v1), (2, .int v2), (3, .int v3), (4, .int v4), (5, .int v5), (6, .int v6), (7, .int v7), (8, .int v8), (9, .int v9), (11, .int v11), (12, .int v12)] [] := by
  unfold f_M_isIn_100 at hf
  refine x_iincN O hf dX10_isIn_100 rfl rfl (by decide) (fun y1 hf => ?_)
  refine x_iload O dX10_isIn_103 rfl ?_
  refine x_iload O dX10_isIn_105 rfl ?_
  refine x_iconst O (v := 2) dX10_isIn_107 (by decide) ?_
  refine x_iload_n O 3 dX10_isIn_108 rfl rfl ?_
  refine x_isub O dX10_isIn_109 ?_
  refine x_icmp_ne O 117 hf dX10_isIn_110 (by decide) (fun hf => ?_) (fun hf => ?_)
  · refine x_iconst O (v := 0) dX10_isIn_117 (by decide) ?_
    exact x_jmp O (v_M_isIn_118 O (σ := σ) (v1 := v1) (v2 := v2) (v3 := v3) (v4 := v4) (v5 := y1) (v7 := v7) (v8 := v8) (v9 := v9) (v11 := v11) (v12 := v12) (s0 := v6) (s1 := 0)  hf hk) rfl
  · refine x_iconst O (v := 1) dX10_isIn_113 (by decide) ?_
    refine x_goto O 118 dX10_isIn_114 (by decide) ?_
    exact x_jmp O (v_M_isIn_118 O (σ := σ) (v1 := v1) (v2 := v2) (v3 := v3) (v4 := v4) (v5 := y1) (v7 := v7) (v8 := v8) (v9 := v9) (v11 := v11) (v12 := v12) (s0 := v6) (s1 := 1)  hf hk) rfl
set_option maxHeartbeats 4000000 in
set_option maxRecDepth 100000 in
theorem v_M_isIn_80 {Γ : Cx} {ad : Nat → Nat} {rr : Int32} {σr : Mm} (O : Ok LM Γ ad cX10_isIn 13 RX10 wsX10_isIn rm_X10_isIn (some .boolean) (some (.int rr)) σr) {σ : Mm} {v4 : Int32} {v8 : Int32} {v11 : Int32}  (hf : f_M_isIn_80 σ v4 v8 v11 = some (rr, σr)) : X LM Γ ad σ 80 [(0, .ref (ad 0)), (4, .int v4), (8, .int v8), (11, .int v11)] [] := by
  unfold f_M_isIn_80 at hf
  refine x_aload_n O 0 dX10_isIn_80 rfl rfl ?_
  refine x_getF O (t := 9) fl_X10_isIn_35 rfl dX10_isIn_81 ?_
  refine x_iload O dX10_isIn_84 rfl ?_
  refine x_iload O dX10_isIn_86 rfl ?_
  refine x_iastN O hf rfl dX10_isIn_88 (fun σ1 hf => ?_)
  refine x_aload_n O 0 dX10_isIn_89 rfl rfl ?_
  refine x_getF O (t := 10) fl_X10_isIn_38 rfl dX10_isIn_90 ?_
  refine x_iload O dX10_isIn_93 rfl ?_
  refine x_iload O dX10_isIn_95 rfl ?_
  refine x_iastN O hf rfl dX10_isIn_97 (fun σ2 hf => ?_)
  refine x_iconst O (v := 1) dX10_isIn_98 (by decide) ?_
  have hk : (1, σ2) = (rr, σr) := Option.some.inj hf
  obtain ⟨rfl, rfl⟩ := Prod.mk.inj hk
  exact x_iret O rfl rfl ⟨_, rfl, rfl⟩ dX10_isIn_99
set_option maxHeartbeats 4000000 in
set_option maxRecDepth 100000 in
theorem v_M_isIn_23_b {Γ : Cx} {ad : Nat → Nat} {rr : Int32} {σr : Mm} (O : Ok LM Γ ad cX10_isIn 13 RX10 wsX10_isIn rm_X10_isIn (some .boolean) (some (.int rr)) σr) {σ : Mm} {v1 : Int32} {v2 : Int32} {v3 : Int32} {v4 : Int32} {v5 : Int32} {v6 : Int32} {v7 : Int32} {v8 : Int32} {v9 : Int32}  {x : (Mm × Int32 × Int32 × Int32 × Int32) ⊕ (Int32 × Mm)} (hf : f_M_isIn_23_b v1 v2 v3 v4 v8 σ v5 v6 v7 v9 = some x) (hk : (kx (fun s : Mm × Int32 × Int32 × Int32 × Int32 => X LM Γ ad s.1 23 [(0, .ref (ad 0)), (1, .int v1), (2, .int v2), (3, .int v3), (4, .int v4), (5, .int s.2.1), (6, .int s.2.2.1), (7, .int s.2.2.2.1), (8, .int v8), (9, .int s.2.2.2.2)] []) (fun q : Int32 × Mm => q = (rr, σr))) x) : X LM Γ ad σ 23 [(0, .ref (ad 0)), (1, .int v1), (2, .int v2), (3, .int v3), (4, .int v4), (5, .int v5), (6, .int v6), (7, .int v7), (8, .int v8), (9, .int v9)] [] := by
  unfold f_M_isIn_23_b at hf
  refine x_iload O dX10_isIn_23 rfl ?_
  refine x_iconst O (v := 4) dX10_isIn_25 (by decide) ?_
  refine x_icmp_ge O 151 hf dX10_isIn_26 (by decide) (fun hf => ?_) (fun hf => ?_)
  · obtain ⟨x', hg1, hx⟩ := map_inr hf
    subst hx
    have hk := kx_r hk
    have hx : x' = (rr, σr) := hk
    subst hx
    have hf := hg1
    exact x_jmp O (v_M_isIn_151 O (σ := σ) (v3 := v3) (v4 := v4) (v5 := v5) (v6 := v6) (v7 := v7) (v8 := v8)  hf) rfl
  · refine x_aload_n O 0 dX10_isIn_29 rfl rfl ?_
    refine x_iload_n O 1 dX10_isIn_30 rfl rfl ?_
    refine x_iload_n O 2 dX10_isIn_31 rfl rfl ?_
    refine x_iload O dX10_isIn_32 rfl ?_
    obtain ⟨r_1, σ1, hc, hf⟩ := bd_some hf
    refine x_callV O (k_M_comesBy  hc) ca_X10_comesBy gX10_isIn_X10_comesBy rfl ⟨_, _, _, _, rfl, rfl⟩ rfl rfl rfl (Nat.le_of_ble_eq_true rfl) ⟨Nat.le_of_ble_eq_true rfl, Nat.le_of_ble_eq_true rfl⟩ dX10_isIn_34 ?_
    refine x_push O ?_
    refine x_istore O dX10_isIn_37 (by decide) ?_
    refine x_iload O dX10_isIn_39 rfl ?_
    refine x_iconst O (v := 3) dX10_isIn_41 (by decide) ?_
    refine x_icmp_eq O 145 hf dX10_isIn_42 (by decide) (fun hf => ?_) (fun hf => ?_)
    · refine x_iincN O hf dX10_isIn_145 rfl rfl (by decide) (fun y1 hf => ?_)
      refine x_goto O 23 dX10_isIn_148 (by decide) ?_
      obtain rfl := Option.some.inj hf
      have hk := kx_l hk
      exact x_jmp O hk rfl
    · refine x_aload_n O 0 dX10_isIn_45 rfl rfl ?_
      refine x_iload O dX10_isIn_46 rfl ?_
      refine x_iload_n O 3 dX10_isIn_48 rfl rfl ?_
      obtain ⟨r_2, σ2, hc, hf⟩ := bd_some hf
      refine x_callV O (k_M_winnerBehind  hc) ca_X10_winnerBehind gX10_isIn_X10_winnerBehind rfl ⟨_, _, _, _, rfl, rfl⟩ rfl rfl rfl (Nat.le_of_ble_eq_true rfl) ⟨Nat.le_of_ble_eq_true rfl, Nat.le_of_ble_eq_true rfl⟩ dX10_isIn_49 ?_
      refine x_push O ?_
      refine x_istore O dX10_isIn_52 (by decide) ?_
      refine x_aload_n O 0 dX10_isIn_54 rfl rfl ?_
      refine x_iload O dX10_isIn_55 rfl ?_
      refine x_iload_n O 3 dX10_isIn_57 rfl rfl ?_
      obtain ⟨r_3, σ3, hc, hf⟩ := bd_some hf
      refine x_callV O (k_M_pushesBehind  hc) ca_X10_pushesBehind gX10_isIn_X10_pushesBehind rfl ⟨_, _, _, _, rfl, rfl⟩ rfl rfl rfl (Nat.le_of_ble_eq_true rfl) ⟨Nat.le_of_ble_eq_true rfl, Nat.le_of_ble_eq_true rfl⟩ dX10_isIn_58 ?_
      refine x_push O ?_
      refine x_istore O dX10_isIn_61 (by decide) ?_
      refine x_iload O dX10_isIn_63 rfl ?_
      refine x_iload_n O 3 dX10_isIn_65 rfl rfl ?_
      refine x_iconst O (v := 1) dX10_isIn_66 (by decide) ?_
      refine x_iadd O dX10_isIn_67 ?_
      refine x_icmp_ne O 100 hf dX10_isIn_68 (by decide) (fun hf => ?_) (fun hf => ?_)
      · exact x_jmp O (v_M_isIn_100 O (σ := σ3) (v1 := v1) (v2 := v2) (v3 := v3) (v4 := v4) (v5 := v5) (v6 := v6) (v7 := v7) (v8 := v8) (v9 := v9) (v11 := r_2) (v12 := r_3)  hf hk) rfl
      · refine x_iload O dX10_isIn_71 rfl ?_
        refine x_iload O dX10_isIn_73 rfl ?_
        refine x_iconst O (v := 1) dX10_isIn_75 (by decide) ?_
        refine x_isub O dX10_isIn_76 ?_
        refine x_icmp_ne O 100 hf dX10_isIn_77 (by decide) (fun hf => ?_) (fun hf => ?_)
        · exact x_jmp O (v_M_isIn_100 O (σ := σ3) (v1 := v1) (v2 := v2) (v3 := v3) (v4 := v4) (v5 := v5) (v6 := v6) (v7 := v7) (v8 := v8) (v9 := v9) (v11 := r_2) (v12 := r_3)  hf hk) rfl
        · obtain ⟨x', hg2, hx⟩ := map_inr hf
          subst hx
          have hk := kx_r hk
          have hx : x' = (rr, σr) := hk
          subst hx
          have hf := hg2
          exact x_jmp O (v_M_isIn_80 O (σ := σ3) (v4 := v4) (v8 := v8) (v11 := r_2)  hf) rfl
set_option maxHeartbeats 4000000 in
set_option maxRecDepth 100000 in
theorem v_M_isIn_23 {Γ : Cx} {ad : Nat → Nat} {rr : Int32} {σr : Mm} (O : Ok LM Γ ad cX10_isIn 13 RX10 wsX10_isIn rm_X10_isIn (some .boolean) (some (.int rr)) σr) {σ : Mm} {v1 : Int32} {v2 : Int32} {v3 : Int32} {v4 : Int32} {v5 : Int32} {v6 : Int32} {v7 : Int32} {v8 : Int32} {v9 : Int32}  (hf : f_M_isIn_23 σ v1 v2 v3 v4 v8 v5 v6 v7 v9 = some (rr, σr)) : X LM Γ ad σ 23 [(0, .ref (ad 0)), (1, .int v1), (2, .int v2), (3, .int v3), (4, .int v4), (5, .int v5), (6, .int v6), (7, .int v7), (8, .int v8), (9, .int v9)] [] := lpX (P := (fun s : Mm × Int32 × Int32 × Int32 × Int32 => X LM Γ ad s.1 23 [(0, .ref (ad 0)), (1, .int v1), (2, .int v2), (3, .int v3), (4, .int v4), (5, .int s.2.1), (6, .int s.2.2.1), (7, .int s.2.2.2.1), (8, .int v8), (9, .int s.2.2.2.2)] [])) (K := (fun q : Int32 × Mm => q = (rr, σr))) (fun s x g1 g2 => v_M_isIn_23_b O (σ := s.1) (v1 := v1) (v2 := v2) (v3 := v3) (v4 := v4) (v8 := v8) (v5 := s.2.1) (v6 := s.2.2.1) (v7 := s.2.2.2.1) (v9 := s.2.2.2.2)  g1 g2) (σ, v5, v6, v7, v9) _ hf rfl
set_option maxHeartbeats 4000000 in
set_option maxRecDepth 100000 in
theorem v_M_isIn {Γ : Cx} {ad : Nat → Nat} {rr : Int32} {σr : Mm} (O : Ok LM Γ ad cX10_isIn 13 RX10 wsX10_isIn rm_X10_isIn (some .boolean) (some (.int rr)) σr) {σ : Mm} {v1 : Int32} {v2 : Int32} {v3 : Int32} {v4 : Int32}  (hf : f_M_isIn σ v1 v2 v3 v4 = some (rr, σr)) : X LM Γ ad σ 0 [(0, .ref (ad 0)), (1, .int v1), (2, .int v2), (3, .int v3), (4, .int v4)] [] := by
  unfold f_M_isIn at hf
  refine x_iconst O (v := 0) dX10_isIn_0 (by decide) ?_
  refine x_istore O dX10_isIn_1 (by decide) ?_
  refine x_iconst O (v := 0) dX10_isIn_3 (by decide) ?_
  refine x_istore O dX10_isIn_4 (by decide) ?_
  refine x_iconst O (v := -1) dX10_isIn_6 (by decide) ?_
  refine x_istore O dX10_isIn_7 (by decide) ?_
  refine x_iconst O (v := 2) dX10_isIn_9 (by decide) ?_
  refine x_iload_n O 1 dX10_isIn_10 rfl rfl ?_
  refine x_iload_n O 2 dX10_isIn_11 rfl rfl ?_
  obtain ⟨r_1, σ1, hc, hf⟩ := bd_some hf
  refine x_callS O (k_M_spot  hc) ca_X10_spot gX10_isIn_X10_spot rfl rfl rfl (Nat.le_of_ble_eq_true rfl) ⟨Nat.le_of_ble_eq_true rfl, Nat.le_of_ble_eq_true rfl⟩ dX10_isIn_12 ?_
  refine x_push O ?_
  refine x_imul O dX10_isIn_15 ?_
  refine x_iload_n O 3 dX10_isIn_16 rfl rfl ?_
  refine x_iadd O dX10_isIn_17 ?_
  refine x_istoreN O hf dX10_isIn_18 (by decide) (fun y1 hf => ?_)
  refine x_iconst O (v := 0) dX10_isIn_20 (by decide) ?_
  refine x_istore O dX10_isIn_21 (by decide) ?_
  exact x_jmp O (v_M_isIn_23 O (σ := σ1) (v1 := v1) (v2 := v2) (v3 := v3) (v4 := v4) (v5 := 0) (v6 := 0) (v7 := (-1)) (v8 := y1) (v9 := 0)  hf) rfl
theorem k_M_isIn {σ σr : Mm} {rr : Int32} {v1 : Int32} {v2 : Int32} {v3 : Int32} {v4 : Int32}  (hf : f_M_isIn σ v1 v2 v3 v4 = some (rr, σr)) : CT LM yX10_isIn wsX10_isIn rm_X10_isIn (fun ad => [.ref (ad 0), .int v1, .int v2, .int v3, .int v4]) σ (some (.int rr)) σr := CT_of2 (cc := cX10_isIn) (maxL := 13) (rt := (some .boolean)) (own := RX10) (by decide) rfl rfl (fun _ => Nat.le_of_ble_eq_true rfl) (fun _ => rfl) (fun Γ ad O => v_M_isIn O  hf)

-- ===== TippedBarrowModel.rounds(I)Z
theorem ca_X10_rounds : Ca yX10_rounds cX10_rounds 7 (some .boolean) wsX10_rounds rm_X10_rounds 1 := ⟨⟨_, rfl⟩, rfl, rfl, by decide +kernel, by decide +kernel, by decide +kernel⟩
theorem in_X10_rounds_X10 : ∀ w ∈ wsX100, w ∈ wsX10_rounds := by decide +kernel
theorem fl_X10_rounds_13 : Fl RX10 wsX10_rounds 13 10 9 true (.array .int) := ⟨_, _, _, tyX10, rfl, in_X10_rounds_X10, by decide, by decide +kernel, tyX10_ok, nmX10, rfl, tyX10_ok 9 (by decide)⟩
theorem fl_X10_rounds_35 : Fl RX10 wsX10_rounds 35 10 23 true (.array .int) := ⟨_, _, _, tyX10, rfl, in_X10_rounds_X10, by decide, by decide +kernel, tyX10_ok, nmX10, rfl, tyX10_ok 23 (by decide)⟩
set_option maxHeartbeats 4000000 in
set_option maxRecDepth 100000 in
theorem v_M_rounds_111 {Γ : Cx} {ad : Nat → Nat} {rr : Int32} {σr : Mm} (O : Ok LM Γ ad cX10_rounds 7 RX10 wsX10_rounds rm_X10_rounds (some .boolean) (some (.int rr)) σr) {σ : Mm} {v1 : Int32} {v3 : Int32} {s0 : Int32}  {x : (Mm × Int32 × Int32) ⊕ (Int32 × Mm)} (hf : f_M_rounds_111 σ v3 s0 = some x) (hk : (kx (fun s : Mm × Int32 × Int32 => X LM Γ ad s.1 4 [(0, .ref (ad 0)), (1, .int v1), (2, .int s.2.1), (3, .int s.2.2)] []) (fun q : Int32 × Mm => q = (rr, σr))) x) : X LM Γ ad σ 111 [(0, .ref (ad 0)), (1, .int v1), (3, .int v3)] [.int s0] := by
  unfold f_M_rounds_111 at hf
  refine x_istore_n O 2 dX10_rounds_111 rfl (by decide) ?_
  refine x_iincN O hf dX10_rounds_112 rfl rfl (by decide) (fun y1 hf => ?_)
  refine x_goto O 4 dX10_rounds_115 (by decide) ?_
  obtain rfl := Option.some.inj hf
  have hk := kx_l hk
  exact x_jmp O hk rfl
set_option maxHeartbeats 4000000 in
set_option maxRecDepth 100000 in
theorem v_M_rounds_106 {Γ : Cx} {ad : Nat → Nat} {rr : Int32} {σr : Mm} (O : Ok LM Γ ad cX10_rounds 7 RX10 wsX10_rounds rm_X10_rounds (some .boolean) (some (.int rr)) σr) {σ : Mm} {v1 : Int32} {v3 : Int32}  {x : (Mm × Int32 × Int32) ⊕ (Int32 × Mm)} (hf : f_M_rounds_106 σ v3 = some x) (hk : (kx (fun s : Mm × Int32 × Int32 => X LM Γ ad s.1 4 [(0, .ref (ad 0)), (1, .int v1), (2, .int s.2.1), (3, .int s.2.2)] []) (fun q : Int32 × Mm => q = (rr, σr))) x) : X LM Γ ad σ 106 [(0, .ref (ad 0)), (1, .int v1), (3, .int v3)] [] := by
  unfold f_M_rounds_106 at hf
  refine x_iconst O (v := 1) dX10_rounds_106 (by decide) ?_
  refine x_goto O 111 dX10_rounds_107 (by decide) ?_
  exact x_jmp O (v_M_rounds_111 O (σ := σ) (v1 := v1) (v3 := v3) (s0 := 1)  hf hk) rfl
set_option maxHeartbeats 4000000 in
set_option maxRecDepth 100000 in
theorem v_M_rounds_102 {Γ : Cx} {ad : Nat → Nat} {rr : Int32} {σr : Mm} (O : Ok LM Γ ad cX10_rounds 7 RX10 wsX10_rounds rm_X10_rounds (some .boolean) (some (.int rr)) σr) {σ : Mm} {v1 : Int32} {v2 : Int32} {v3 : Int32}  {x : (Mm × Int32 × Int32) ⊕ (Int32 × Mm)} (hf : f_M_rounds_102 σ v2 v3 = some x) (hk : (kx (fun s : Mm × Int32 × Int32 => X LM Γ ad s.1 4 [(0, .ref (ad 0)), (1, .int v1), (2, .int s.2.1), (3, .int s.2.2)] []) (fun q : Int32 × Mm => q = (rr, σr))) x) : X LM Γ ad σ 102 [(0, .ref (ad 0)), (1, .int v1), (2, .int v2), (3, .int v3)] [] := by
  unfold f_M_rounds_102 at hf
  refine x_iload_n O 2 dX10_rounds_102 rfl rfl ?_
  refine x_if_eq O 110 hf dX10_rounds_103 (by decide) (fun hf => ?_) (fun hf => ?_)
  · refine x_iconst O (v := 0) dX10_rounds_110 (by decide) ?_
    exact x_jmp O (v_M_rounds_111 O (σ := σ) (v1 := v1) (v3 := v3) (s0 := 0)  hf hk) rfl
  · exact x_jmp O (v_M_rounds_106 O (σ := σ) (v1 := v1) (v3 := v3)  hf hk) rfl
set_option maxHeartbeats 4000000 in
set_option maxRecDepth 100000 in
theorem v_M_rounds_80 {Γ : Cx} {ad : Nat → Nat} {rr : Int32} {σr : Mm} (O : Ok LM Γ ad cX10_rounds 7 RX10 wsX10_rounds rm_X10_rounds (some .boolean) (some (.int rr)) σr) {σ : Mm} {v1 : Int32} {v2 : Int32} {v3 : Int32} {v4 : Int32} {v5 : Int32} {s0 : Int32}  {x : (Mm × Int32 × Int32) ⊕ (Int32 × Mm)} (hf : f_M_rounds_80 σ v1 v2 v3 v4 v5 s0 = some x) (hk : (kx (fun s : Mm × Int32 × Int32 => X LM Γ ad s.1 4 [(0, .ref (ad 0)), (1, .int v1), (2, .int s.2.1), (3, .int s.2.2)] []) (fun q : Int32 × Mm => q = (rr, σr))) x) : X LM Γ ad σ 80 [(0, .ref (ad 0)), (1, .int v1), (2, .int v2), (3, .int v3), (4, .int v4), (5, .int v5)] [.int s0] := by
  unfold f_M_rounds_80 at hf
  refine x_istore O dX10_rounds_80 (by decide) ?_
  refine x_iload O dX10_rounds_82 rfl ?_
  refine x_if_eq O 102 hf dX10_rounds_84 (by decide) (fun hf => ?_) (fun hf => ?_)
  · exact x_jmp O (v_M_rounds_102 O (σ := σ) (v1 := v1) (v2 := v2) (v3 := v3)  hf hk) rfl
  · refine x_aload_n O 0 dX10_rounds_87 rfl rfl ?_
    refine x_iload O dX10_rounds_88 rfl ?_
    refine x_iload O dX10_rounds_90 rfl ?_
    refine x_iload_n O 3 dX10_rounds_92 rfl rfl ?_
    refine x_iconst O (v := 2) dX10_rounds_93 (by decide) ?_
    refine x_iremK O (by decide) dX10_rounds_94 ?_
    refine x_iload_n O 1 dX10_rounds_95 rfl rfl ?_
    obtain ⟨r_1, σ1, hc, hf⟩ := bd_some hf
    refine x_callV O (k_M_isIn  hc) ca_X10_isIn gX10_rounds_X10_isIn rfl ⟨_, _, _, _, rfl, rfl⟩ rfl rfl rfl (Nat.le_of_ble_eq_true rfl) ⟨Nat.le_of_ble_eq_true rfl, Nat.le_of_ble_eq_true rfl⟩ dX10_rounds_96 ?_
    refine x_push O ?_
    refine x_if_ne O 106 hf dX10_rounds_99 (by decide) (fun hf => ?_) (fun hf => ?_)
    · exact x_jmp O (v_M_rounds_106 O (σ := σ1) (v1 := v1) (v3 := v3)  hf hk) rfl
    · exact x_jmp O (v_M_rounds_102 O (σ := σ1) (v1 := v1) (v2 := v2) (v3 := v3)  hf hk) rfl
set_option maxHeartbeats 4000000 in
set_option maxRecDepth 100000 in
theorem v_M_rounds_79 {Γ : Cx} {ad : Nat → Nat} {rr : Int32} {σr : Mm} (O : Ok LM Γ ad cX10_rounds 7 RX10 wsX10_rounds rm_X10_rounds (some .boolean) (some (.int rr)) σr) {σ : Mm} {v1 : Int32} {v2 : Int32} {v3 : Int32} {v4 : Int32} {v5 : Int32}  {x : (Mm × Int32 × Int32) ⊕ (Int32 × Mm)} (hf : f_M_rounds_79 σ v1 v2 v3 v4 v5 = some x) (hk : (kx (fun s : Mm × Int32 × Int32 => X LM Γ ad s.1 4 [(0, .ref (ad 0)), (1, .int v1), (2, .int s.2.1), (3, .int s.2.2)] []) (fun q : Int32 × Mm => q = (rr, σr))) x) : X LM Γ ad σ 79 [(0, .ref (ad 0)), (1, .int v1), (2, .int v2), (3, .int v3), (4, .int v4), (5, .int v5)] [] := by
  unfold f_M_rounds_79 at hf
  refine x_iconst O (v := 0) dX10_rounds_79 (by decide) ?_
  exact x_jmp O (v_M_rounds_80 O (σ := σ) (v1 := v1) (v2 := v2) (v3 := v3) (v4 := v4) (v5 := v5) (s0 := 0)  hf hk) rfl
set_option maxHeartbeats 4000000 in
set_option maxRecDepth 100000 in
theorem v_M_rounds_4_b {Γ : Cx} {ad : Nat → Nat} {rr : Int32} {σr : Mm} (O : Ok LM Γ ad cX10_rounds 7 RX10 wsX10_rounds rm_X10_rounds (some .boolean) (some (.int rr)) σr) {σ : Mm} {v1 : Int32} {v2 : Int32} {v3 : Int32}  {x : (Mm × Int32 × Int32) ⊕ (Int32 × Mm)} (hf : f_M_rounds_4_b v1 σ v2 v3 = some x) (hk : (kx (fun s : Mm × Int32 × Int32 => X LM Γ ad s.1 4 [(0, .ref (ad 0)), (1, .int v1), (2, .int s.2.1), (3, .int s.2.2)] []) (fun q : Int32 × Mm => q = (rr, σr))) x) : X LM Γ ad σ 4 [(0, .ref (ad 0)), (1, .int v1), (2, .int v2), (3, .int v3)] [] := by
  unfold f_M_rounds_4_b at hf
  refine x_iload_n O 3 dX10_rounds_4 rfl rfl ?_
  refine x_sipush O (v := 680) dX10_rounds_5 (by decide) ?_
  refine x_icmp_ge O 118 hf dX10_rounds_8 (by decide) (fun hf => ?_) (fun hf => ?_)
  · obtain ⟨x', hg1, hx⟩ := map_inr hf
    subst hx
    have hk := kx_r hk
    have hx : x' = (rr, σr) := hk
    subst hx
    have hf := hg1
    refine x_iload_n O 2 dX10_rounds_118 rfl rfl ?_
    by_cases hb : v2 = 0 ∨ v2 = 1
    · rw [if_pos hb] at hf
      have hk : (v2, σ) = (rr, σr) := Option.some.inj hf
      obtain ⟨rfl, rfl⟩ := Prod.mk.inj hk
      exact x_iret O rfl rfl ⟨_, rfl, nb_ok hb⟩ dX10_rounds_119
    · rw [if_neg hb] at hf; cases hf
  · refine x_iload_n O 3 dX10_rounds_11 rfl rfl ?_
    refine x_bipush O (v := 34) dX10_rounds_12 (by decide) ?_
    refine x_idivK O (by decide) dX10_rounds_14 ?_
    refine x_istoreN O hf dX10_rounds_15 (by decide) (fun y1 hf => ?_)
    refine x_iload_n O 3 dX10_rounds_17 rfl rfl ?_
    refine x_iconst O (v := 2) dX10_rounds_18 (by decide) ?_
    refine x_idivK O (by decide) dX10_rounds_19 ?_
    refine x_bipush O (v := 17) dX10_rounds_20 (by decide) ?_
    refine x_iremK O (by decide) dX10_rounds_22 ?_
    refine x_bipush O (v := 8) dX10_rounds_23 (by decide) ?_
    refine x_isub O dX10_rounds_25 ?_
    refine x_istoreN O hf dX10_rounds_26 (by decide) (fun y2 hf => ?_)
    refine x_aload_n O 0 dX10_rounds_28 rfl rfl ?_
    refine x_getF O (t := 9) fl_X10_rounds_35 rfl dX10_rounds_29 ?_
    refine x_iload_n O 3 dX10_rounds_32 rfl rfl ?_
    refine x_iald O hf rfl dX10_rounds_33 (fun j1 hf => ?_)
    refine x_if_ne O 79 hf dX10_rounds_34 (by decide) (fun hf => ?_) (fun hf => ?_)
    · exact x_jmp O (v_M_rounds_79 O (σ := σ) (v1 := v1) (v2 := v2) (v3 := v3) (v4 := y1) (v5 := y2)  hf hk) rfl
    · refine x_aload_n O 0 dX10_rounds_37 rfl rfl ?_
      refine x_iload O dX10_rounds_38 rfl ?_
      refine x_iconst O (v := 5) dX10_rounds_40 (by decide) ?_
      refine x_iremK O (by decide) dX10_rounds_41 ?_
      refine x_iload O dX10_rounds_42 rfl ?_
      refine x_iconst O (v := 5) dX10_rounds_44 (by decide) ?_
      refine x_idivK O (by decide) dX10_rounds_45 ?_
      obtain ⟨r_1, σ1, hc, hf⟩ := bd_some hf
      refine x_callV O (k_M_isGround  hc) ca_X10_isGround gX10_rounds_X10_isGround rfl ⟨_, _, _, _, rfl, rfl⟩ rfl rfl rfl (Nat.le_of_ble_eq_true rfl) ⟨Nat.le_of_ble_eq_true rfl, Nat.le_of_ble_eq_true rfl⟩ dX10_rounds_46 ?_
      refine x_push O ?_
      refine x_if_eq O 79 hf dX10_rounds_49 (by decide) (fun hf => ?_) (fun hf => ?_)
      · exact x_jmp O (v_M_rounds_79 O (σ := σ1) (v1 := v1) (v2 := v2) (v3 := v3) (v4 := y1) (v5 := y2)  hf hk) rfl
      · refine x_iload O dX10_rounds_52 rfl ?_
        refine x_aload_n O 0 dX10_rounds_54 rfl rfl ?_
        refine x_getF O (t := 2) fl_X10_rounds_13 rfl dX10_rounds_55 ?_
        refine x_iconst O (v := 3) dX10_rounds_58 (by decide) ?_
        refine x_iald O hf rfl dX10_rounds_59 (fun j2 hf => ?_)
        refine x_icmp_ge O 79 hf dX10_rounds_60 (by decide) (fun hf => ?_) (fun hf => ?_)
        · exact x_jmp O (v_M_rounds_79 O (σ := σ1) (v1 := v1) (v2 := v2) (v3 := v3) (v4 := y1) (v5 := y2)  hf hk) rfl
        · refine x_iload O dX10_rounds_63 rfl ?_
          refine x_aload_n O 0 dX10_rounds_65 rfl rfl ?_
          refine x_getF O (t := 2) fl_X10_rounds_13 rfl dX10_rounds_66 ?_
          refine x_iconst O (v := 3) dX10_rounds_69 (by decide) ?_
          refine x_iald O hf rfl dX10_rounds_70 (fun j3 hf => ?_)
          refine x_ineg O dX10_rounds_71 ?_
          refine x_icmp_le O 79 hf dX10_rounds_72 (by decide) (fun hf => ?_) (fun hf => ?_)
          · exact x_jmp O (v_M_rounds_79 O (σ := σ1) (v1 := v1) (v2 := v2) (v3 := v3) (v4 := y1) (v5 := y2)  hf hk) rfl
          · refine x_iconst O (v := 1) dX10_rounds_75 (by decide) ?_
            refine x_goto O 80 dX10_rounds_76 (by decide) ?_
            exact x_jmp O (v_M_rounds_80 O (σ := σ1) (v1 := v1) (v2 := v2) (v3 := v3) (v4 := y1) (v5 := y2) (s0 := 1)  hf hk) rfl
set_option maxHeartbeats 4000000 in
set_option maxRecDepth 100000 in
theorem v_M_rounds_4 {Γ : Cx} {ad : Nat → Nat} {rr : Int32} {σr : Mm} (O : Ok LM Γ ad cX10_rounds 7 RX10 wsX10_rounds rm_X10_rounds (some .boolean) (some (.int rr)) σr) {σ : Mm} {v1 : Int32} {v2 : Int32} {v3 : Int32}  (hf : f_M_rounds_4 σ v1 v2 v3 = some (rr, σr)) : X LM Γ ad σ 4 [(0, .ref (ad 0)), (1, .int v1), (2, .int v2), (3, .int v3)] [] := lpX (P := (fun s : Mm × Int32 × Int32 => X LM Γ ad s.1 4 [(0, .ref (ad 0)), (1, .int v1), (2, .int s.2.1), (3, .int s.2.2)] [])) (K := (fun q : Int32 × Mm => q = (rr, σr))) (fun s x g1 g2 => v_M_rounds_4_b O (σ := s.1) (v1 := v1) (v2 := s.2.1) (v3 := s.2.2)  g1 g2) (σ, v2, v3) _ hf rfl
set_option maxHeartbeats 4000000 in
set_option maxRecDepth 100000 in
theorem v_M_rounds {Γ : Cx} {ad : Nat → Nat} {rr : Int32} {σr : Mm} (O : Ok LM Γ ad cX10_rounds 7 RX10 wsX10_rounds rm_X10_rounds (some .boolean) (some (.int rr)) σr) {σ : Mm} {v1 : Int32}  (hf : f_M_rounds σ v1 = some (rr, σr)) : X LM Γ ad σ 0 [(0, .ref (ad 0)), (1, .int v1)] [] := by
  unfold f_M_rounds at hf
  refine x_iconst O (v := 0) dX10_rounds_0 (by decide) ?_
  refine x_istore_n O 2 dX10_rounds_1 rfl (by decide) ?_
  refine x_iconst O (v := 0) dX10_rounds_2 (by decide) ?_
  refine x_istore_n O 3 dX10_rounds_3 rfl (by decide) ?_
  exact x_jmp O (v_M_rounds_4 O (σ := σ) (v1 := v1) (v2 := 0) (v3 := 0)  hf) rfl
theorem k_M_rounds {σ σr : Mm} {rr : Int32} {v1 : Int32}  (hf : f_M_rounds σ v1 = some (rr, σr)) : CT LM yX10_rounds wsX10_rounds rm_X10_rounds (fun ad => [.ref (ad 0), .int v1]) σ (some (.int rr)) σr := CT_of2 (cc := cX10_rounds) (maxL := 7) (rt := (some .boolean)) (own := RX10) (by decide) rfl rfl (fun _ => Nat.le_of_ble_eq_true rfl) (fun _ => rfl) (fun Γ ad O => v_M_rounds O  hf)

-- ===== TippedBarrowModel.plays()V
theorem ca_X10_plays : Ca yX10_plays cX10_plays 2 none wsX10_plays rm_X10_plays 0 := ⟨⟨_, rfl⟩, rfl, rfl, by decide +kernel, by decide +kernel, by decide +kernel⟩
theorem in_X10_plays_X10 : ∀ w ∈ wsX100, w ∈ wsX10_plays := by decide +kernel
theorem fl_X10_plays_35 : Fl RX10 wsX10_plays 35 10 23 true (.array .int) := ⟨_, _, _, tyX10, rfl, in_X10_plays_X10, by decide, by decide +kernel, tyX10_ok, nmX10, rfl, tyX10_ok 23 (by decide)⟩
theorem fl_X10_plays_38 : Fl RX10 wsX10_plays 38 10 24 true (.array .int) := ⟨_, _, _, tyX10, rfl, in_X10_plays_X10, by decide, by decide +kernel, tyX10_ok, nmX10, rfl, tyX10_ok 24 (by decide)⟩
set_option maxHeartbeats 4000000 in
set_option maxRecDepth 100000 in
theorem v_M_plays_37_b {Γ : Cx} {ad : Nat → Nat} {rr : Int32} {σr : Mm} (O : Ok LM Γ ad cX10_plays 2 RX10 wsX10_plays rm_X10_plays none none σr) {σ : Mm} {v1 : Int32}  {x : (Mm × Int32) ⊕ (Int32 × Mm)} (hf : f_M_plays_37_b σ v1 = some x) (hk : (kx (fun s : Mm × Int32 => X LM Γ ad s.1 37 [(0, .ref (ad 0)), (1, .int s.2)] []) (fun q : Int32 × Mm => q = (rr, σr))) x) : X LM Γ ad σ 37 [(0, .ref (ad 0)), (1, .int v1)] [] := by
  unfold f_M_plays_37_b at hf
  refine x_aload_n O 0 dX10_plays_37 rfl rfl ?_
  refine x_iload_n O 1 dX10_plays_38 rfl rfl ?_
  obtain ⟨r_1, σ1, hc, hf⟩ := bd_some hf
  refine x_callV O (k_M_rounds  hc) ca_X10_rounds gX10_plays_X10_rounds rfl ⟨_, _, _, _, rfl, rfl⟩ rfl rfl rfl (Nat.le_of_ble_eq_true rfl) ⟨Nat.le_of_ble_eq_true rfl, Nat.le_of_ble_eq_true rfl⟩ dX10_plays_39 ?_
  refine x_push O ?_
  refine x_if_eq O 51 hf dX10_plays_42 (by decide) (fun hf => ?_) (fun hf => ?_)
  · obtain ⟨x', hg1, hx⟩ := map_inr hf
    subst hx
    have hk := kx_r hk
    have hx : x' = (rr, σr) := hk
    subst hx
    have hf := hg1
    have hk : ((0 : Int32), σ1) = (rr, σr) := Option.some.inj hf
    obtain ⟨rfl, rfl⟩ := Prod.mk.inj hk
    exact x_vret O rfl rfl rfl dX10_plays_51
  · refine x_iincN O hf dX10_plays_45 rfl rfl (by decide) (fun y1 hf => ?_)
    refine x_goto O 37 dX10_plays_48 (by decide) ?_
    obtain rfl := Option.some.inj hf
    have hk := kx_l hk
    exact x_jmp O hk rfl
set_option maxHeartbeats 4000000 in
set_option maxRecDepth 100000 in
theorem v_M_plays_37 {Γ : Cx} {ad : Nat → Nat} {rr : Int32} {σr : Mm} (O : Ok LM Γ ad cX10_plays 2 RX10 wsX10_plays rm_X10_plays none none σr) {σ : Mm} {v1 : Int32}  (hf : f_M_plays_37 σ v1 = some (rr, σr)) : X LM Γ ad σ 37 [(0, .ref (ad 0)), (1, .int v1)] [] := lpX (P := (fun s : Mm × Int32 => X LM Γ ad s.1 37 [(0, .ref (ad 0)), (1, .int s.2)] [])) (K := (fun q : Int32 × Mm => q = (rr, σr))) (fun s x g1 g2 => v_M_plays_37_b O (σ := s.1)  (v1 := s.2)  g1 g2) (σ, v1) _ hf rfl
set_option maxHeartbeats 4000000 in
set_option maxRecDepth 100000 in
theorem v_M_plays_29 {Γ : Cx} {ad : Nat → Nat} {rr : Int32} {σr : Mm} (O : Ok LM Γ ad cX10_plays 2 RX10 wsX10_plays rm_X10_plays none none σr) {σ : Mm}   (hf : f_M_plays_29 σ = some (rr, σr)) : X LM Γ ad σ 29 [(0, .ref (ad 0))] [] := by
  unfold f_M_plays_29 at hf
  refine x_aload_n O 0 dX10_plays_29 rfl rfl ?_
  refine x_iconst O (v := 0) dX10_plays_30 (by decide) ?_
  obtain ⟨r_1, σ1, hc, hf⟩ := bd_some hf
  refine x_callV O (k_M_rounds  hc) ca_X10_rounds gX10_plays_X10_rounds rfl ⟨_, _, _, _, rfl, rfl⟩ rfl rfl rfl (Nat.le_of_ble_eq_true rfl) ⟨Nat.le_of_ble_eq_true rfl, Nat.le_of_ble_eq_true rfl⟩ dX10_plays_31 ?_
  refine x_push O ?_
  refine x_pop O dX10_plays_34 rfl ?_
  refine x_iconst O (v := 1) dX10_plays_35 (by decide) ?_
  refine x_istore_n O 1 dX10_plays_36 rfl (by decide) ?_
  exact x_jmp O (v_M_plays_37 O (σ := σ1) (v1 := 1)  hf) rfl
set_option maxHeartbeats 4000000 in
set_option maxRecDepth 100000 in
theorem v_M_plays_2_b {Γ : Cx} {ad : Nat → Nat} {rr : Int32} {σr : Mm} (O : Ok LM Γ ad cX10_plays 2 RX10 wsX10_plays rm_X10_plays none none σr) {σ : Mm} {v1 : Int32}  {x : (Mm × Int32) ⊕ (Int32 × Mm)} (hf : f_M_plays_2_b σ v1 = some x) (hk : (kx (fun s : Mm × Int32 => X LM Γ ad s.1 2 [(0, .ref (ad 0)), (1, .int s.2)] []) (fun q : Int32 × Mm => q = (rr, σr))) x) : X LM Γ ad σ 2 [(0, .ref (ad 0)), (1, .int v1)] [] := by
  unfold f_M_plays_2_b at hf
  refine x_iload_n O 1 dX10_plays_2 rfl rfl ?_
  refine x_sipush O (v := 680) dX10_plays_3 (by decide) ?_
  refine x_icmp_ge O 29 hf dX10_plays_6 (by decide) (fun hf => ?_) (fun hf => ?_)
  · obtain ⟨x', hg1, hx⟩ := map_inr hf
    subst hx
    have hk := kx_r hk
    have hx : x' = (rr, σr) := hk
    subst hx
    have hf := hg1
    exact x_jmp O (v_M_plays_29 O (σ := σ)   hf) rfl
  · refine x_aload_n O 0 dX10_plays_9 rfl rfl ?_
    refine x_getF O (t := 9) fl_X10_plays_35 rfl dX10_plays_10 ?_
    refine x_iload_n O 1 dX10_plays_13 rfl rfl ?_
    refine x_iconst O (v := 0) dX10_plays_14 (by decide) ?_
    refine x_iastN O hf rfl dX10_plays_15 (fun σ1 hf => ?_)
    refine x_aload_n O 0 dX10_plays_16 rfl rfl ?_
    refine x_getF O (t := 10) fl_X10_plays_38 rfl dX10_plays_17 ?_
    refine x_iload_n O 1 dX10_plays_20 rfl rfl ?_
    refine x_iconst O (v := 0) dX10_plays_21 (by decide) ?_
    refine x_iastN O hf rfl dX10_plays_22 (fun σ2 hf => ?_)
    refine x_iincN O hf dX10_plays_23 rfl rfl (by decide) (fun y1 hf => ?_)
    refine x_goto O 2 dX10_plays_26 (by decide) ?_
    obtain rfl := Option.some.inj hf
    have hk := kx_l hk
    exact x_jmp O hk rfl
set_option maxHeartbeats 4000000 in
set_option maxRecDepth 100000 in
theorem v_M_plays_2 {Γ : Cx} {ad : Nat → Nat} {rr : Int32} {σr : Mm} (O : Ok LM Γ ad cX10_plays 2 RX10 wsX10_plays rm_X10_plays none none σr) {σ : Mm} {v1 : Int32}  (hf : f_M_plays_2 σ v1 = some (rr, σr)) : X LM Γ ad σ 2 [(0, .ref (ad 0)), (1, .int v1)] [] := lpX (P := (fun s : Mm × Int32 => X LM Γ ad s.1 2 [(0, .ref (ad 0)), (1, .int s.2)] [])) (K := (fun q : Int32 × Mm => q = (rr, σr))) (fun s x g1 g2 => v_M_plays_2_b O (σ := s.1)  (v1 := s.2)  g1 g2) (σ, v1) _ hf rfl
set_option maxHeartbeats 4000000 in
set_option maxRecDepth 100000 in
theorem v_M_plays {Γ : Cx} {ad : Nat → Nat} {rr : Int32} {σr : Mm} (O : Ok LM Γ ad cX10_plays 2 RX10 wsX10_plays rm_X10_plays none none σr) {σ : Mm}   (hf : f_M_plays σ = some (rr, σr)) : X LM Γ ad σ 0 [(0, .ref (ad 0))] [] := by
  unfold f_M_plays at hf
  refine x_iconst O (v := 0) dX10_plays_0 (by decide) ?_
  refine x_istore_n O 1 dX10_plays_1 rfl (by decide) ?_
  exact x_jmp O (v_M_plays_2 O (σ := σ) (v1 := 0)  hf) rfl
theorem k_M_plays {σ σr : Mm} {rr : Int32}   (hf : f_M_plays σ = some (rr, σr)) : CT LM yX10_plays wsX10_plays rm_X10_plays (fun ad => [.ref (ad 0)]) σ none σr := CT_of2 (cc := cX10_plays) (maxL := 2) (rt := none) (own := RX10) (by decide) rfl rfl (fun _ => Nat.le_of_ble_eq_true rfl) (fun _ => rfl) (fun Γ ad O => v_M_plays O  hf)

-- ===== TippedBarrowModel.here()I
theorem ca_X10_here : Ca yX10_here cX10_here 1 (some .int) wsX10_here rm_X10_here 0 := ⟨⟨_, rfl⟩, rfl, rfl, by decide +kernel, by decide +kernel, by decide +kernel⟩
theorem in_X10_here_X10 : ∀ w ∈ wsX100, w ∈ wsX10_here := by decide +kernel
theorem fl_X10_here_19 : Fl RX10 wsX10_here 19 10 14 true (.array .int) := ⟨_, _, _, tyX10, rfl, in_X10_here_X10, by decide, by decide +kernel, tyX10_ok, nmX10, rfl, tyX10_ok 14 (by decide)⟩
set_option maxHeartbeats 4000000 in
set_option maxRecDepth 100000 in
theorem v_M_here {Γ : Cx} {ad : Nat → Nat} {rr : Int32} {σr : Mm} (O : Ok LM Γ ad cX10_here 1 RX10 wsX10_here rm_X10_here (some .int) (some (.int rr)) σr) {σ : Mm}   (hf : f_M_here σ = some (rr, σr)) : X LM Γ ad σ 0 [(0, .ref (ad 0))] [] := by
  unfold f_M_here at hf
  refine x_iconst O (v := 2) dX10_here_0 (by decide) ?_
  refine x_aload_n O 0 dX10_here_1 rfl rfl ?_
  refine x_getF O (t := 4) fl_X10_here_19 rfl dX10_here_2 ?_
  refine x_iconst O (v := 0) dX10_here_5 (by decide) ?_
  refine x_iald O hf rfl dX10_here_6 (fun j1 hf => ?_)
  refine x_aload_n O 0 dX10_here_7 rfl rfl ?_
  refine x_getF O (t := 4) fl_X10_here_19 rfl dX10_here_8 ?_
  refine x_iconst O (v := 1) dX10_here_11 (by decide) ?_
  refine x_iald O hf rfl dX10_here_12 (fun j2 hf => ?_)
  obtain ⟨r_1, σ1, hc, hf⟩ := bd_some hf
  refine x_callS O (k_M_spot  hc) ca_X10_spot gX10_here_X10_spot rfl rfl rfl (Nat.le_of_ble_eq_true rfl) ⟨Nat.le_of_ble_eq_true rfl, Nat.le_of_ble_eq_true rfl⟩ dX10_here_13 ?_
  refine x_push O ?_
  refine x_imul O dX10_here_16 ?_
  refine x_aload_n O 0 dX10_here_17 rfl rfl ?_
  refine x_getF O (t := 4) fl_X10_here_19 rfl dX10_here_18 ?_
  refine x_iconst O (v := 2) dX10_here_21 (by decide) ?_
  refine x_iald O hf rfl dX10_here_22 (fun j3 hf => ?_)
  refine x_iadd O dX10_here_23 ?_
  have hk : (((2 * r_1) + (gA σ1 4 j3)), σ1) = (rr, σr) := Option.some.inj hf
  obtain ⟨rfl, rfl⟩ := Prod.mk.inj hk
  exact x_iret O rfl rfl ⟨_, rfl, rfl⟩ dX10_here_24
theorem k_M_here {σ σr : Mm} {rr : Int32}   (hf : f_M_here σ = some (rr, σr)) : CT LM yX10_here wsX10_here rm_X10_here (fun ad => [.ref (ad 0)]) σ (some (.int rr)) σr := CT_of2 (cc := cX10_here) (maxL := 1) (rt := (some .int)) (own := RX10) (by decide) rfl rfl (fun _ => Nat.le_of_ble_eq_true rfl) (fun _ => rfl) (fun Γ ad O => v_M_here O  hf)
