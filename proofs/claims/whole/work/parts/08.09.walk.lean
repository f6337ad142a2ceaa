-- ===== TippedBarrow$Contest.settleFrom(III)V
theorem ca_X1_settleFrom : Ca yX1_settleFrom cX1_settleFrom 4 none wsX1_settleFrom rm_X1_settleFrom 3 := ⟨⟨_, rfl⟩, rfl, rfl, by decide +kernel, by decide +kernel, by decide +kernel⟩
theorem in_X1_settleFrom_X1 : ∀ w ∈ wsX10, w ∈ wsX1_settleFrom := by decide +kernel
theorem fl_X1_settleFrom_18 : Fl RX1 wsX1_settleFrom 18 1 2 true (.array .int) := ⟨_, _, _, tyX1, rfl, in_X1_settleFrom_X1, by decide, by decide +kernel, tyX1_ok, nmX1, rfl, tyX1_ok 2 (by decide)⟩
set_option maxHeartbeats 4000000 in
set_option maxRecDepth 100000 in
theorem v_Co_settleFrom_29 {Γ : Cx} {ad : Nat → Nat} {rr : Int32} {σr : Mm} (O : Ok LT Γ ad cX1_settleFrom 4 RX1 wsX1_settleFrom rm_X1_settleFrom none none σr) {σ : Mm} {v1 : Int32} {v2 : Int32} {v3 : Int32}  (hf : f_Co_settleFrom_29 σ v1 v2 v3 = some (rr, σr)) : X LT Γ ad σ 29 [(0, .ref (ad 21)), (1, .int v1), (2, .int v2), (3, .int v3)] [] := by
  unfold f_Co_settleFrom_29 at hf
  refine x_aload_n O 0 dX1_settleFrom_29 rfl rfl ?_
  refine x_iload_n O 1 dX1_settleFrom_30 rfl rfl ?_
  refine x_iload_n O 2 dX1_settleFrom_31 rfl rfl ?_
  refine x_iload_n O 3 dX1_settleFrom_32 rfl rfl ?_
  obtain ⟨r_1, σ1, hc, hf⟩ := bd_some hf
  refine x_callV O (k_Co_settle  hc) ca_X1_settle gX1_settleFrom_X1_settle rfl ⟨_, _, _, _, rfl, rfl⟩ rfl rfl rfl (Nat.le_of_ble_eq_true rfl) ⟨Nat.le_of_ble_eq_true rfl, Nat.le_of_ble_eq_true rfl⟩ dX1_settleFrom_33 ?_
  refine x_pushN O ?_
  have hk : ((0 : Int32), σ1) = (rr, σr) := Option.some.inj hf
  obtain ⟨rfl, rfl⟩ := Prod.mk.inj hk
  exact x_vret O rfl rfl rfl dX1_settleFrom_36
set_option maxHeartbeats 4000000 in
set_option maxRecDepth 100000 in
theorem v_Co_settleFrom {Γ : Cx} {ad : Nat → Nat} {rr : Int32} {σr : Mm} (O : Ok LT Γ ad cX1_settleFrom 4 RX1 wsX1_settleFrom rm_X1_settleFrom none none σr) {σ : Mm} {v1 : Int32} {v2 : Int32} {v3 : Int32}  (hf : f_Co_settleFrom σ v1 v2 v3 = some (rr, σr)) : X LT Γ ad σ 0 [(0, .ref (ad 21)), (1, .int v1), (2, .int v2), (3, .int v3)] [] := by
  unfold f_Co_settleFrom at hf
  refine x_aload_n O 0 dX1_settleFrom_0 rfl rfl ?_
  refine x_getF O (t := 24) fl_X1_settleFrom_18 rfl dX1_settleFrom_1 ?_
  refine x_iload_n O 1 dX1_settleFrom_4 rfl rfl ?_
  refine x_dup2 O dX1_settleFrom_5 rfl rfl ?_
  refine x_iald O hf rfl dX1_settleFrom_6 (fun j1 hf => ?_)
  refine x_iconst O (v := 1) dX1_settleFrom_7 (by decide) ?_
  refine x_isub O dX1_settleFrom_8 ?_
  refine x_iastN O hf rfl dX1_settleFrom_9 (fun σ1 hf => ?_)
  refine x_iload_n O 2 dX1_settleFrom_10 rfl rfl ?_
  refine x_iload_n O 1 dX1_settleFrom_11 rfl rfl ?_
  refine x_iconst O (v := 2) dX1_settleFrom_12 (by decide) ?_
  refine x_iremK O (by decide) dX1_settleFrom_13 ?_
  obtain ⟨r_1, σ2, hc, hf⟩ := bd_some hf
  refine x_callS O (k_Co_sideOf  hc) ca_X1_sideOf gX1_settleFrom_X1_sideOf rfl rfl rfl (Nat.le_of_ble_eq_true rfl) ⟨Nat.le_of_ble_eq_true rfl, Nat.le_of_ble_eq_true rfl⟩ dX1_settleFrom_14 ?_
  refine x_push O ?_
  refine x_icmp_eq O 29 hf dX1_settleFrom_17 (by decide) (fun hf => ?_) (fun hf => ?_)
  · exact x_jmp O (v_Co_settleFrom_29 O (σ := σ2) (v1 := v1) (v2 := v2) (v3 := v3)  hf) rfl
  · refine x_aload_n O 0 dX1_settleFrom_20 rfl rfl ?_
    refine x_getF O (t := 24) fl_X1_settleFrom_18 rfl dX1_settleFrom_21 ?_
    refine x_iload_n O 1 dX1_settleFrom_24 rfl rfl ?_
    refine x_iald O hf rfl dX1_settleFrom_25 (fun j3 hf => ?_)
    refine x_if_ne O 36 hf dX1_settleFrom_26 (by decide) (fun hf => ?_) (fun hf => ?_)
    · have hk : ((0 : Int32), σ2) = (rr, σr) := Option.some.inj hf
      obtain ⟨rfl, rfl⟩ := Prod.mk.inj hk
      exact x_vret O rfl rfl rfl dX1_settleFrom_36
    · exact x_jmp O (v_Co_settleFrom_29 O (σ := σ2) (v1 := v1) (v2 := v2) (v3 := v3)  hf) rfl
theorem k_Co_settleFrom {σ σr : Mm} {rr : Int32} {v1 : Int32} {v2 : Int32} {v3 : Int32}  (hf : f_Co_settleFrom σ v1 v2 v3 = some (rr, σr)) : CT LT yX1_settleFrom wsX1_settleFrom rm_X1_settleFrom (fun ad => [.ref (ad 21), .int v1, .int v2, .int v3]) σ none σr := CT_of2 (cc := cX1_settleFrom) (maxL := 4) (rt := none) (own := RX1) (by decide) rfl rfl (fun _ => Nat.le_of_ble_eq_true rfl) (fun _ => rfl) (fun Γ ad O => v_Co_settleFrom O  hf)

-- ===== TippedBarrow$Contest.passBack(I)V
theorem ca_X1_passBack : Ca yX1_passBack cX1_passBack 6 none wsX1_passBack rm_X1_passBack 1 := ⟨⟨_, rfl⟩, rfl, rfl, by decide +kernel, by decide +kernel, by decide +kernel⟩
theorem in_X1_passBack_X1 : ∀ w ∈ wsX10, w ∈ wsX1_passBack := by decide +kernel
theorem fl_X1_passBack_11 : Fl RX1 wsX1_passBack 11 1 0 true (.array .int) := ⟨_, _, _, tyX1, rfl, in_X1_passBack_X1, by decide, by decide +kernel, tyX1_ok, nmX1, rfl, tyX1_ok 0 (by decide)⟩
theorem fl_X1_passBack_15 : Fl RX1 wsX1_passBack 15 1 1 true (.array .int) := ⟨_, _, _, tyX1, rfl, in_X1_passBack_X1, by decide, by decide +kernel, tyX1_ok, nmX1, rfl, tyX1_ok 1 (by decide)⟩
theorem fl_X1_passBack_24 : Fl RX1 wsX1_passBack 24 1 5 false (.object "TippedBarrow$Ground") := ⟨_, _, _, tyX1, rfl, in_X1_passBack_X1, by decide, by decide +kernel, tyX1_ok, nmX1, rfl, tyX1_ok 5 (by decide)⟩
theorem mw_X1_passBack_0 : Cond.static yX9_cellOf ∈ wsX1_passBack := by decide +kernel
theorem mw_X1_passBack_1 : Cond.initialized yX9_cellOf.cls ∈ wsX1_passBack := by decide +kernel
theorem mw_X1_passBack_2 : Cond.static yX9_leanOf ∈ wsX1_passBack := by decide +kernel
theorem mw_X1_passBack_3 : Cond.initialized yX9_leanOf.cls ∈ wsX1_passBack := by decide +kernel
set_option maxHeartbeats 4000000 in
set_option maxRecDepth 100000 in
theorem v_Co_passBack_38_b {Γ : Cx} {ad : Nat → Nat} {rr : Int32} {σr : Mm} (O : Ok LT Γ ad cX1_passBack 6 RX1 wsX1_passBack rm_X1_passBack none none σr) {σ : Mm} {v1 : Int32} {v2 : Int32} {v3 : Int32} {v4 : Int32}  {x : (Mm × Int32) ⊕ (Int32 × Mm)} (hf : f_Co_passBack_38_b v1 v2 v3 σ v4 = some x) (hk : (kx (fun s : Mm × Int32 => X LT Γ ad s.1 38 [(0, .ref (ad 21)), (1, .int v1), (2, .int v2), (3, .int v3), (4, .int s.2)] []) (fun q : Int32 × Mm => q = (rr, σr))) x) : X LT Γ ad σ 38 [(0, .ref (ad 21)), (1, .int v1), (2, .int v2), (3, .int v3), (4, .int v4)] [] := by
  unfold f_Co_passBack_38_b at hf
  refine x_iload O dX1_passBack_38 rfl ?_
  refine x_iconst O (v := 4) dX1_passBack_40 (by decide) ?_
  refine x_icmp_ge O 106 hf dX1_passBack_41 (by decide) (fun hf => ?_) (fun hf => ?_)
  · obtain ⟨x', hg1, hx⟩ := map_inr hf
    subst hx
    have hk := kx_r hk
    have hx : x' = (rr, σr) := hk
    subst hx
    have hf := hg1
    have hk : ((0 : Int32), σ) = (rr, σr) := Option.some.inj hf
    obtain ⟨rfl, rfl⟩ := Prod.mk.inj hk
    exact x_vret O rfl rfl rfl dX1_passBack_106
  · refine x_aload_n O 0 dX1_passBack_44 rfl rfl ?_
    refine x_getR O hf fl_X1_passBack_24 rfl dX1_passBack_45 (fun t1 ht1 hf => ?_)
    refine x_iload_n O 2 dX1_passBack_48 rfl rfl ?_
    refine x_iload O dX1_passBack_49 rfl ?_
    obtain ⟨r_1, σ1, hc, hf⟩ := bd_some hf
    refine x_callV O (k_Gr_beyond ht1 hc) ca_X2_beyond gX1_passBack_X2_beyond rfl (okCl_Gr ht1) rfl rfl rfl (Nat.le_of_ble_eq_true rfl) ⟨Nat.le_of_ble_eq_true rfl, Nat.le_of_ble_eq_true rfl⟩ dX1_passBack_51 ?_
    refine x_push O ?_
    refine x_iload_n O 3 dX1_passBack_54 rfl rfl ?_
    refine x_iconst O (v := 1) dX1_passBack_55 (by decide) ?_
    refine x_iload_n O 1 dX1_passBack_56 rfl rfl ?_
    refine x_iconst O (v := 2) dX1_passBack_57 (by decide) ?_
    refine x_iremK O (by decide) dX1_passBack_58 ?_
    refine x_isub O dX1_passBack_59 ?_
    obtain ⟨r_2, σ2, hc, hf⟩ := bd_some hf
    refine x_callS O (k_Co_stateOf  hc) ca_X1_stateOf gX1_passBack_X1_stateOf rfl rfl rfl (Nat.le_of_ble_eq_true rfl) ⟨Nat.le_of_ble_eq_true rfl, Nat.le_of_ble_eq_true rfl⟩ dX1_passBack_60 ?_
    refine x_push O ?_
    refine x_istore O dX1_passBack_63 (by decide) ?_
    refine x_iload O dX1_passBack_65 rfl ?_
    refine x_if_lt O 100 hf dX1_passBack_67 (by decide) (fun hf => ?_) (fun hf => ?_)
    · refine x_iincN O hf dX1_passBack_100 rfl rfl (by decide) (fun y1 hf => ?_)
      refine x_goto O 38 dX1_passBack_103 (by decide) ?_
      obtain rfl := Option.some.inj hf
      have hk := kx_l hk
      exact x_jmp O hk rfl
    · refine x_aload_n O 0 dX1_passBack_70 rfl rfl ?_
      refine x_getF O (t := 22) fl_X1_passBack_11 rfl dX1_passBack_71 ?_
      refine x_iload O dX1_passBack_74 rfl ?_
      refine x_iald O hf rfl dX1_passBack_76 (fun j1 hf => ?_)
      refine x_if_ne O 100 hf dX1_passBack_77 (by decide) (fun hf => ?_) (fun hf => ?_)
      · refine x_iincN O hf dX1_passBack_100 rfl rfl (by decide) (fun y2 hf => ?_)
        refine x_goto O 38 dX1_passBack_103 (by decide) ?_
        obtain rfl := Option.some.inj hf
        have hk := kx_l hk
        exact x_jmp O hk rfl
      · refine x_aload_n O 0 dX1_passBack_80 rfl rfl ?_
        refine x_iload O dX1_passBack_81 rfl ?_
        refine x_aload_n O 0 dX1_passBack_83 rfl rfl ?_
        refine x_getF O (t := 22) fl_X1_passBack_11 rfl dX1_passBack_84 ?_
        refine x_iload_n O 1 dX1_passBack_87 rfl rfl ?_
        refine x_iald O hf rfl dX1_passBack_88 (fun j2 hf => ?_)
        refine x_aload_n O 0 dX1_passBack_89 rfl rfl ?_
        refine x_getF O (t := 23) fl_X1_passBack_15 rfl dX1_passBack_90 ?_
        refine x_iload_n O 1 dX1_passBack_93 rfl rfl ?_
        refine x_iald O hf rfl dX1_passBack_94 (fun j3 hf => ?_)
        refine x_iconst O (v := 1) dX1_passBack_95 (by decide) ?_
        refine x_iadd O dX1_passBack_96 ?_
        obtain ⟨r_3, σ3, hc, hf⟩ := bd_some hf
        refine x_callV O (k_Co_settleFrom  hc) ca_X1_settleFrom gX1_passBack_X1_settleFrom rfl ⟨_, _, _, _, rfl, rfl⟩ rfl rfl rfl (Nat.le_of_ble_eq_true rfl) ⟨Nat.le_of_ble_eq_true rfl, Nat.le_of_ble_eq_true rfl⟩ dX1_passBack_97 ?_
        refine x_pushN O ?_
        refine x_iincN O hf dX1_passBack_100 rfl rfl (by decide) (fun y3 hf => ?_)
        refine x_goto O 38 dX1_passBack_103 (by decide) ?_
        obtain rfl := Option.some.inj hf
        have hk := kx_l hk
        exact x_jmp O hk rfl
set_option maxHeartbeats 4000000 in
set_option maxRecDepth 100000 in
theorem v_Co_passBack_38 {Γ : Cx} {ad : Nat → Nat} {rr : Int32} {σr : Mm} (O : Ok LT Γ ad cX1_passBack 6 RX1 wsX1_passBack rm_X1_passBack none none σr) {σ : Mm} {v1 : Int32} {v2 : Int32} {v3 : Int32} {v4 : Int32}  (hf : f_Co_passBack_38 σ v1 v2 v3 v4 = some (rr, σr)) : X LT Γ ad σ 38 [(0, .ref (ad 21)), (1, .int v1), (2, .int v2), (3, .int v3), (4, .int v4)] [] := lpX (P := (fun s : Mm × Int32 => X LT Γ ad s.1 38 [(0, .ref (ad 21)), (1, .int v1), (2, .int v2), (3, .int v3), (4, .int s.2)] [])) (K := (fun q : Int32 × Mm => q = (rr, σr))) (fun s x g1 g2 => v_Co_passBack_38_b O (σ := s.1) (v1 := v1) (v2 := v2) (v3 := v3) (v4 := s.2)  g1 g2) (σ, v4) _ hf rfl
set_option maxHeartbeats 4000000 in
set_option maxRecDepth 100000 in
theorem v_Co_passBack {Γ : Cx} {ad : Nat → Nat} {rr : Int32} {σr : Mm} (O : Ok LT Γ ad cX1_passBack 6 RX1 wsX1_passBack rm_X1_passBack none none σr) {σ : Mm} {v1 : Int32}  (hf : f_Co_passBack σ v1 = some (rr, σr)) : X LT Γ ad σ 0 [(0, .ref (ad 21)), (1, .int v1)] [] := by
  unfold f_Co_passBack at hf
  refine x_iload_n O 1 dX1_passBack_0 rfl rfl ?_
  refine x_iconst O (v := 2) dX1_passBack_1 (by decide) ?_
  refine x_idivK O (by decide) dX1_passBack_2 ?_
  obtain ⟨r_1, σ1, hc, hf⟩ := bd_some hf
  refine x_callN O (k_T_cellOf  hc) ca_X9_cellOf gX1_passBack_X9_cellOf_n77 (by decide +kernel) mw_X1_passBack_0 mw_X1_passBack_1 rfl rfl rfl (Nat.le_of_ble_eq_true rfl) ⟨Nat.le_of_ble_eq_true rfl, Nat.le_of_ble_eq_true rfl⟩ dX1_passBack_3 ?_
  refine x_push O ?_
  refine x_istore_n O 2 dX1_passBack_6 rfl (by decide) ?_
  refine x_iload_n O 1 dX1_passBack_7 rfl rfl ?_
  refine x_iconst O (v := 2) dX1_passBack_8 (by decide) ?_
  refine x_idivK O (by decide) dX1_passBack_9 ?_
  obtain ⟨r_2, σ2, hc, hf⟩ := bd_some hf
  refine x_callN O (k_T_leanOf  hc) ca_X9_leanOf gX1_passBack_X9_leanOf_n80 (by decide +kernel) mw_X1_passBack_2 mw_X1_passBack_3 rfl rfl rfl (Nat.le_of_ble_eq_true rfl) ⟨Nat.le_of_ble_eq_true rfl, Nat.le_of_ble_eq_true rfl⟩ dX1_passBack_10 ?_
  refine x_push O ?_
  refine x_aload_n O 0 dX1_passBack_13 rfl rfl ?_
  refine x_getR O hf fl_X1_passBack_24 rfl dX1_passBack_14 (fun t1 ht1 hf => ?_)
  refine x_iload_n O 2 dX1_passBack_17 rfl rfl ?_
  obtain ⟨r_3, σ3, hc, hf⟩ := bd_some hf
  refine x_callV O (k_Gr_gain ht1 hc) ca_X2_gain gX1_passBack_X2_gain rfl (okCl_Gr ht1) rfl rfl rfl (Nat.le_of_ble_eq_true rfl) ⟨Nat.le_of_ble_eq_true rfl, Nat.le_of_ble_eq_true rfl⟩ dX1_passBack_18 ?_
  refine x_push O ?_
  refine x_isub O dX1_passBack_21 ?_
  refine x_istore_nN O 3 hf dX1_passBack_22 rfl (by decide) (fun y1 hf => ?_)
  refine x_aload_n O 0 dX1_passBack_23 rfl rfl ?_
  refine x_getR O hf fl_X1_passBack_24 rfl dX1_passBack_24 (fun t2 ht2 hf => ?_)
  refine x_iload_n O 3 dX1_passBack_27 rfl rfl ?_
  obtain ⟨r_4, σ4, hc, hf⟩ := bd_some hf
  refine x_callV O (k_Gr_verdict ht2 hc) ca_X2_verdict gX1_passBack_X2_verdict rfl (okCl_Gr ht2) rfl rfl rfl (Nat.le_of_ble_eq_true rfl) ⟨Nat.le_of_ble_eq_true rfl, Nat.le_of_ble_eq_true rfl⟩ dX1_passBack_28 ?_
  refine x_push O ?_
  refine x_if_eq O 35 hf dX1_passBack_31 (by decide) (fun hf => ?_) (fun hf => ?_)
  · refine x_iconst O (v := 0) dX1_passBack_35 (by decide) ?_
    refine x_istore O dX1_passBack_36 (by decide) ?_
    exact x_jmp O (v_Co_passBack_38 O (σ := σ4) (v1 := v1) (v2 := r_1) (v3 := y1) (v4 := 0)  hf) rfl
  · have hk : ((0 : Int32), σ4) = (rr, σr) := Option.some.inj hf
    obtain ⟨rfl, rfl⟩ := Prod.mk.inj hk
    exact x_vret O rfl rfl rfl dX1_passBack_34
theorem k_Co_passBack {σ σr : Mm} {rr : Int32} {v1 : Int32}  (hf : f_Co_passBack σ v1 = some (rr, σr)) : CT LT yX1_passBack wsX1_passBack rm_X1_passBack (fun ad => [.ref (ad 21), .int v1]) σ none σr := CT_of2 (cc := cX1_passBack) (maxL := 6) (rt := none) (own := RX1) (by decide) rfl rfl (fun _ => Nat.le_of_ble_eq_true rfl) (fun _ => rfl) (fun Γ ad O => v_Co_passBack O  hf)

-- ===== TippedBarrow$Contest.solve(LTippedBarrow$Ground;)V
theorem ca_X1_solve : Ca yX1_solve cX1_solve 4 none wsX1_solve rm_X1_solve 1 := ⟨⟨_, rfl⟩, rfl, rfl, by decide +kernel, by decide +kernel, by decide +kernel⟩
theorem in_X1_solve_X1 : ∀ w ∈ wsX10, w ∈ wsX1_solve := by decide +kernel
theorem fl_X1_solve_11 : Fl RX1 wsX1_solve 11 1 0 true (.array .int) := ⟨_, _, _, tyX1, rfl, in_X1_solve_X1, by decide, by decide +kernel, tyX1_ok, nmX1, rfl, tyX1_ok 0 (by decide)⟩
theorem fl_X1_solve_21 : Fl RX1 wsX1_solve 21 1 3 true (.array .int) := ⟨_, _, _, tyX1, rfl, in_X1_solve_X1, by decide, by decide +kernel, tyX1_ok, nmX1, rfl, tyX1_ok 3 (by decide)⟩
theorem fl_X1_solve_24 : Fl RX1 wsX1_solve 24 1 5 false (.object "TippedBarrow$Ground") := ⟨_, _, _, tyX1, rfl, in_X1_solve_X1, by decide, by decide +kernel, tyX1_ok, nmX1, rfl, tyX1_ok 5 (by decide)⟩
theorem fl_X1_solve_28 : Fl RX1 wsX1_solve 28 1 4 false .int := ⟨_, _, _, tyX1, rfl, in_X1_solve_X1, by decide, by decide +kernel, tyX1_ok, nmX1, rfl, tyX1_ok 4 (by decide)⟩
set_option maxHeartbeats 4000000 in
set_option maxRecDepth 100000 in
theorem v_Co_solve_80_b {Γ : Cx} {ad : Nat → Nat} {rr : Int32} {σr : Mm} (O : Ok LT Γ ad cX1_solve 4 RX1 wsX1_solve rm_X1_solve none none σr) {σ : Mm} {r1 : Nat} {v2 : Int32} (h1 : okGr r1 = true) {x : (Mm × Int32) ⊕ (Int32 × Mm)} (hf : f_Co_solve_80_b σ v2 = some x) (hk : (kx (fun s : Mm × Int32 => X LT Γ ad s.1 80 [(0, .ref (ad 21)), (2, .int s.2)] []) (fun q : Int32 × Mm => q = (rr, σr))) x) : X LT Γ ad σ 80 [(0, .ref (ad 21)), (2, .int v2)] [] := by
  unfold f_Co_solve_80_b at hf
  refine x_iload_n O 2 dX1_solve_80 rfl rfl ?_
  refine x_aload_n O 0 dX1_solve_81 rfl rfl ?_
  refine x_getI O fl_X1_solve_28 rfl dX1_solve_82 ?_
  refine x_icmp_ge O 111 hf dX1_solve_85 (by decide) (fun hf => ?_) (fun hf => ?_)
  · obtain ⟨x', hg1, hx⟩ := map_inr hf
    subst hx
    have hk := kx_r hk
    have hx : x' = (rr, σr) := hk
    subst hx
    have hf := hg1
    have hk : ((0 : Int32), σ) = (rr, σr) := Option.some.inj hf
    obtain ⟨rfl, rfl⟩ := Prod.mk.inj hk
    exact x_vret O rfl rfl rfl dX1_solve_111
  · refine x_iload_n O 2 dX1_solve_88 rfl rfl ?_
    refine x_sipush O (v := 680) dX1_solve_89 (by decide) ?_
    refine x_icmp_ge O 111 hf dX1_solve_92 (by decide) (fun hf => ?_) (fun hf => ?_)
    · obtain ⟨x', hg2, hx⟩ := map_inr hf
      subst hx
      have hk := kx_r hk
      have hx : x' = (rr, σr) := hk
      subst hx
      have hf := hg2
      have hk : ((0 : Int32), σ) = (rr, σr) := Option.some.inj hf
      obtain ⟨rfl, rfl⟩ := Prod.mk.inj hk
      exact x_vret O rfl rfl rfl dX1_solve_111
    · refine x_aload_n O 0 dX1_solve_95 rfl rfl ?_
      refine x_aload_n O 0 dX1_solve_96 rfl rfl ?_
      refine x_getF O (t := 25) fl_X1_solve_21 rfl dX1_solve_97 ?_
      refine x_iload_n O 2 dX1_solve_100 rfl rfl ?_
      refine x_iald O hf rfl dX1_solve_101 (fun j1 hf => ?_)
      obtain ⟨r_1, σ1, hc, hf⟩ := bd_some hf
      refine x_callV O (k_Co_passBack  hc) ca_X1_passBack gX1_solve_X1_passBack rfl ⟨_, _, _, _, rfl, rfl⟩ rfl rfl rfl (Nat.le_of_ble_eq_true rfl) ⟨Nat.le_of_ble_eq_true rfl, Nat.le_of_ble_eq_true rfl⟩ dX1_solve_102 ?_
      refine x_pushN O ?_
      refine x_iincN O hf dX1_solve_105 rfl rfl (by decide) (fun y1 hf => ?_)
      refine x_goto O 80 dX1_solve_108 (by decide) ?_
      obtain rfl := Option.some.inj hf
      have hk := kx_l hk
      exact x_jmp O hk rfl
set_option maxHeartbeats 4000000 in
set_option maxRecDepth 100000 in
theorem v_Co_solve_80 {Γ : Cx} {ad : Nat → Nat} {rr : Int32} {σr : Mm} (O : Ok LT Γ ad cX1_solve 4 RX1 wsX1_solve rm_X1_solve none none σr) {σ : Mm} {r1 : Nat} {v2 : Int32} (h1 : okGr r1 = true) (hf : f_Co_solve_80 σ v2 = some (rr, σr)) : X LT Γ ad σ 80 [(0, .ref (ad 21)), (2, .int v2)] [] := lpX (P := (fun s : Mm × Int32 => X LT Γ ad s.1 80 [(0, .ref (ad 21)), (2, .int s.2)] [])) (K := (fun q : Int32 × Mm => q = (rr, σr))) (fun s x g1 g2 => v_Co_solve_80_b O (σ := s.1) (r1 := r1) (v2 := s.2) h1 g1 g2) (σ, v2) _ hf rfl
set_option maxHeartbeats 4000000 in
set_option maxRecDepth 100000 in
theorem v_Co_solve_78 {Γ : Cx} {ad : Nat → Nat} {rr : Int32} {σr : Mm} (O : Ok LT Γ ad cX1_solve 4 RX1 wsX1_solve rm_X1_solve none none σr) {σ : Mm} {r1 : Nat} (h1 : okGr r1 = true) (hf : f_Co_solve_78 σ = some (rr, σr)) : X LT Γ ad σ 78 [(0, .ref (ad 21))] [] := by
  unfold f_Co_solve_78 at hf
  refine x_iconst O (v := 0) dX1_solve_78 (by decide) ?_
  refine x_istore_n O 2 dX1_solve_79 rfl (by decide) ?_
  exact x_jmp O (v_Co_solve_80 O (σ := σ) (r1 := r1) (v2 := 0) h1 hf) rfl
set_option maxHeartbeats 4000000 in
set_option maxRecDepth 100000 in
theorem v_Co_solve_43_b {Γ : Cx} {ad : Nat → Nat} {rr : Int32} {σr : Mm} (O : Ok LT Γ ad cX1_solve 4 RX1 wsX1_solve rm_X1_solve none none σr) {σ : Mm} {r1 : Nat} {v2 : Int32} {v3 : Int32} (h1 : okGr r1 = true) {x : (Mm × Int32) ⊕ ((Mm × Int32) ⊕ (Int32 × Mm))} (hf : f_Co_solve_43_b v2 σ v3 = some x) (hk : (kx (fun s : Mm × Int32 => X LT Γ ad s.1 43 [(0, .ref (ad 21)), (2, .int v2), (3, .int s.2)] []) (kx (fun s : Mm × Int32 => X LT Γ ad s.1 20 [(0, .ref (ad 21)), (2, .int s.2)] []) (fun q : Int32 × Mm => q = (rr, σr)))) x) : X LT Γ ad σ 43 [(0, .ref (ad 21)), (2, .int v2), (3, .int v3)] [] := by
  unfold f_Co_solve_43_b at hf
  refine x_iload_n O 3 dX1_solve_43 rfl rfl ?_
  refine x_bipush O (v := 8) dX1_solve_44 (by decide) ?_
  refine x_icmp_gt O 72 hf dX1_solve_46 (by decide) (fun hf => ?_) (fun hf => ?_)
  · obtain ⟨x', hg1, hx⟩ := map_inr hf
    subst hx
    have hk := kx_r hk
    have hf := hg1
    refine x_iincN O hf dX1_solve_72 rfl rfl (by decide) (fun y1 hf => ?_)
    refine x_goto O 20 dX1_solve_75 (by decide) ?_
    obtain rfl := Option.some.inj hf
    have hk := kx_l hk
    exact x_jmp O hk rfl
  · refine x_aload_n O 0 dX1_solve_49 rfl rfl ?_
    refine x_getR O hf fl_X1_solve_24 rfl dX1_solve_50 (fun t1 ht1 hf => ?_)
    refine x_iload_n O 3 dX1_solve_53 rfl rfl ?_
    obtain ⟨r_1, σ1, hc, hf⟩ := bd_some hf
    refine x_callV O (k_Gr_verdict ht1 hc) ca_X2_verdict gX1_solve_X2_verdict rfl (okCl_Gr ht1) rfl rfl rfl (Nat.le_of_ble_eq_true rfl) ⟨Nat.le_of_ble_eq_true rfl, Nat.le_of_ble_eq_true rfl⟩ dX1_solve_54 ?_
    refine x_push O ?_
    refine x_if_ne O 66 hf dX1_solve_57 (by decide) (fun hf => ?_) (fun hf => ?_)
    · refine x_iincN O hf dX1_solve_66 rfl rfl (by decide) (fun y2 hf => ?_)
      refine x_goto O 43 dX1_solve_69 (by decide) ?_
      obtain rfl := Option.some.inj hf
      have hk := kx_l hk
      exact x_jmp O hk rfl
    · refine x_aload_n O 0 dX1_solve_60 rfl rfl ?_
      refine x_iload_n O 2 dX1_solve_61 rfl rfl ?_
      refine x_iload_n O 3 dX1_solve_62 rfl rfl ?_
      obtain ⟨r_2, σ2, hc, hf⟩ := bd_some hf
      refine x_callV O (k_Co_lookOnePushAhead  hc) ca_X1_lookOnePushAhead gX1_solve_X1_lookOnePushAhead rfl ⟨_, _, _, _, rfl, rfl⟩ rfl rfl rfl (Nat.le_of_ble_eq_true rfl) ⟨Nat.le_of_ble_eq_true rfl, Nat.le_of_ble_eq_true rfl⟩ dX1_solve_63 ?_
      refine x_pushN O ?_
      refine x_iincN O hf dX1_solve_66 rfl rfl (by decide) (fun y3 hf => ?_)
      refine x_goto O 43 dX1_solve_69 (by decide) ?_
      obtain rfl := Option.some.inj hf
      have hk := kx_l hk
      exact x_jmp O hk rfl
set_option maxHeartbeats 4000000 in
set_option maxRecDepth 100000 in
theorem v_Co_solve_43 {Γ : Cx} {ad : Nat → Nat} {rr : Int32} {σr : Mm} (O : Ok LT Γ ad cX1_solve 4 RX1 wsX1_solve rm_X1_solve none none σr) {σ : Mm} {r1 : Nat} {v2 : Int32} {v3 : Int32} (h1 : okGr r1 = true) {x : (Mm × Int32) ⊕ (Int32 × Mm)} (hf : f_Co_solve_43 σ v2 v3 = some x) (hk : (kx (fun s : Mm × Int32 => X LT Γ ad s.1 20 [(0, .ref (ad 21)), (2, .int s.2)] []) (fun q : Int32 × Mm => q = (rr, σr))) x) : X LT Γ ad σ 43 [(0, .ref (ad 21)), (2, .int v2), (3, .int v3)] [] := lpX (P := (fun s : Mm × Int32 => X LT Γ ad s.1 43 [(0, .ref (ad 21)), (2, .int v2), (3, .int s.2)] [])) (K := (kx (fun s : Mm × Int32 => X LT Γ ad s.1 20 [(0, .ref (ad 21)), (2, .int s.2)] []) (fun q : Int32 × Mm => q = (rr, σr)))) (fun s x g1 g2 => v_Co_solve_43_b O (σ := s.1) (r1 := r1) (v2 := v2) (v3 := s.2) h1 g1 g2) (σ, v3) _ hf hk
set_option maxHeartbeats 4000000 in
set_option maxRecDepth 100000 in
theorem v_Co_solve_20_b {Γ : Cx} {ad : Nat → Nat} {rr : Int32} {σr : Mm} (O : Ok LT Γ ad cX1_solve 4 RX1 wsX1_solve rm_X1_solve none none σr) {σ : Mm} {r1 : Nat} {v2 : Int32} (h1 : okGr r1 = true) {x : (Mm × Int32) ⊕ (Int32 × Mm)} (hf : f_Co_solve_20_b σ v2 = some x) (hk : (kx (fun s : Mm × Int32 => X LT Γ ad s.1 20 [(0, .ref (ad 21)), (2, .int s.2)] []) (fun q : Int32 × Mm => q = (rr, σr))) x) : X LT Γ ad σ 20 [(0, .ref (ad 21)), (2, .int v2)] [] := by
  unfold f_Co_solve_20_b at hf
  refine x_iload_n O 2 dX1_solve_20 rfl rfl ?_
  refine x_bipush O (v := 20) dX1_solve_21 (by decide) ?_
  refine x_icmp_ge O 78 hf dX1_solve_23 (by decide) (fun hf => ?_) (fun hf => ?_)
  · obtain ⟨x', hg1, hx⟩ := map_inr hf
    subst hx
    have hk := kx_r hk
    have hx : x' = (rr, σr) := hk
    subst hx
    have hf := hg1
    exact x_jmp O (v_Co_solve_78 O (σ := σ) (r1 := r1) h1 hf) rfl
  · refine x_aload_n O 0 dX1_solve_26 rfl rfl ?_
    refine x_getR O hf fl_X1_solve_24 rfl dX1_solve_27 (fun t1 ht1 hf => ?_)
    refine x_iload_n O 2 dX1_solve_30 rfl rfl ?_
    obtain ⟨r_1, σ1, hc, hf⟩ := bd_some hf
    refine x_callV O (k_Gr_isBrick ht1 hc) ca_X2_isBrick gX1_solve_X2_isBrick rfl (okCl_Gr ht1) rfl rfl rfl (Nat.le_of_ble_eq_true rfl) ⟨Nat.le_of_ble_eq_true rfl, Nat.le_of_ble_eq_true rfl⟩ dX1_solve_31 ?_
    refine x_push O ?_
    refine x_if_eq O 40 hf dX1_solve_34 (by decide) (fun hf => ?_) (fun hf => ?_)
    · refine x_bipush O (v := -8) dX1_solve_40 (by decide) ?_
      refine x_istore_n O 3 dX1_solve_42 rfl (by decide) ?_
      exact x_jmp O (v_Co_solve_43 O (σ := σ1) (r1 := r1) (v2 := v2) (v3 := (-8)) h1 hf hk) rfl
    · refine x_goto O 72 dX1_solve_37 (by decide) ?_
      refine x_iincN O hf dX1_solve_72 rfl rfl (by decide) (fun y1 hf => ?_)
      refine x_goto O 20 dX1_solve_75 (by decide) ?_
      obtain rfl := Option.some.inj hf
      have hk := kx_l hk
      exact x_jmp O hk rfl
set_option maxHeartbeats 4000000 in
set_option maxRecDepth 100000 in
theorem v_Co_solve_20 {Γ : Cx} {ad : Nat → Nat} {rr : Int32} {σr : Mm} (O : Ok LT Γ ad cX1_solve 4 RX1 wsX1_solve rm_X1_solve none none σr) {σ : Mm} {r1 : Nat} {v2 : Int32} (h1 : okGr r1 = true) (hf : f_Co_solve_20 σ v2 = some (rr, σr)) : X LT Γ ad σ 20 [(0, .ref (ad 21)), (2, .int v2)] [] := lpX (P := (fun s : Mm × Int32 => X LT Γ ad s.1 20 [(0, .ref (ad 21)), (2, .int s.2)] [])) (K := (fun q : Int32 × Mm => q = (rr, σr))) (fun s x g1 g2 => v_Co_solve_20_b O (σ := s.1) (r1 := r1) (v2 := s.2) h1 g1 g2) (σ, v2) _ hf rfl
set_option maxHeartbeats 4000000 in
set_option maxRecDepth 100000 in
theorem v_Co_solve {Γ : Cx} {ad : Nat → Nat} {rr : Int32} {σr : Mm} (O : Ok LT Γ ad cX1_solve 4 RX1 wsX1_solve rm_X1_solve none none σr) {σ : Mm} {r1 : Nat} (h1 : okGr r1 = true) (hf : f_Co_solve σ r1 = some (rr, σr)) : X LT Γ ad σ 0 [(0, .ref (ad 21)), (1, .ref (ad r1))] [] := by
  unfold f_Co_solve at hf
  refine x_aload_n O 0 dX1_solve_0 rfl rfl ?_
  refine x_aload_n O 1 dX1_solve_1 rfl rfl ?_
  refine x_putRN O hf rfl rfl fl_X1_solve_24 rfl dX1_solve_2 (fun σ1 hf => ?_)
  refine x_aload_n O 0 dX1_solve_5 rfl rfl ?_
  refine x_iconst O (v := 0) dX1_solve_6 (by decide) ?_
  refine x_putIN O hf rfl rfl fl_X1_solve_28 rfl dX1_solve_7 (fun σ2 hf => ?_)
  refine x_aload_n O 0 dX1_solve_10 rfl rfl ?_
  refine x_getF O (t := 22) fl_X1_solve_11 rfl dX1_solve_11 ?_
  refine x_iconst O (v := 0) dX1_solve_14 (by decide) ?_
  obtain ⟨r_1, σ3, hc, hf⟩ := bd_some hf
  refine x_callS O (k_Ar_fill rfl hc) ca_J7_fill_53178 gX1_solve_J7_fill_53178 rfl rfl rfl (Nat.le_of_ble_eq_true rfl) ⟨Nat.le_of_ble_eq_true rfl, Nat.le_of_ble_eq_true rfl⟩ dX1_solve_15 ?_
  refine x_pushN O ?_
  refine x_iconst O (v := 0) dX1_solve_18 (by decide) ?_
  refine x_istore_n O 2 dX1_solve_19 rfl (by decide) ?_
  exact x_jmp O (v_Co_solve_20 O (σ := σ3) (r1 := r1) (v2 := 0) h1 hf) rfl
theorem k_Co_solve {σ σr : Mm} {rr : Int32} {r1 : Nat} (h1 : okGr r1 = true) (hf : f_Co_solve σ r1 = some (rr, σr)) : CT LT yX1_solve wsX1_solve rm_X1_solve (fun ad => [.ref (ad 21), .ref (ad r1)]) σ none σr := CT_of2 (cc := cX1_solve) (maxL := 4) (rt := none) (own := RX1) (by decide) rfl rfl (fun _ => Nat.le_of_ble_eq_true rfl) (fun _ => rfl) (fun Γ ad O => v_Co_solve O h1 hf)

-- ===== TippedBarrow$Contest.winner(III)I
theorem ca_X1_winner : Ca yX1_winner cX1_winner 5 (some .int) wsX1_winner rm_X1_winner 3 := ⟨⟨_, rfl⟩, rfl, rfl, by decide +kernel, by decide +kernel, by decide +kernel⟩
theorem in_X1_winner_X1 : ∀ w ∈ wsX10, w ∈ wsX1_winner := by decide +kernel
theorem fl_X1_winner_11 : Fl RX1 wsX1_winner 11 1 0 true (.array .int) := ⟨_, _, _, tyX1, rfl, in_X1_winner_X1, by decide, by decide +kernel, tyX1_ok, nmX1, rfl, tyX1_ok 0 (by decide)⟩
set_option maxHeartbeats 4000000 in
set_option maxRecDepth 100000 in
theorem v_Co_winner {Γ : Cx} {ad : Nat → Nat} {rr : Int32} {σr : Mm} (O : Ok LT Γ ad cX1_winner 5 RX1 wsX1_winner rm_X1_winner (some .int) (some (.int rr)) σr) {σ : Mm} {v1 : Int32} {v2 : Int32} {v3 : Int32}  (hf : f_Co_winner σ v1 v2 v3 = some (rr, σr)) : X LT Γ ad σ 0 [(0, .ref (ad 21)), (1, .int v1), (2, .int v2), (3, .int v3)] [] := by
  unfold f_Co_winner at hf
  refine x_iload_n O 1 dX1_winner_0 rfl rfl ?_
  refine x_iload_n O 2 dX1_winner_1 rfl rfl ?_
  refine x_iload_n O 3 dX1_winner_2 rfl rfl ?_
  obtain ⟨r_1, σ1, hc, hf⟩ := bd_some hf
  refine x_callS O (k_Co_stateOf  hc) ca_X1_stateOf gX1_winner_X1_stateOf rfl rfl rfl (Nat.le_of_ble_eq_true rfl) ⟨Nat.le_of_ble_eq_true rfl, Nat.le_of_ble_eq_true rfl⟩ dX1_winner_3 ?_
  refine x_push O ?_
  refine x_istore O dX1_winner_6 (by decide) ?_
  refine x_iload O dX1_winner_8 rfl ?_
  refine x_if_ge O 17 hf dX1_winner_10 (by decide) (fun hf => ?_) (fun hf => ?_)
  · refine x_aload_n O 0 dX1_winner_17 rfl rfl ?_
    refine x_getF O (t := 22) fl_X1_winner_11 rfl dX1_winner_18 ?_
    refine x_iload O dX1_winner_21 rfl ?_
    refine x_iald O hf rfl dX1_winner_23 (fun j1 hf => ?_)
    have hk : ((gA σ1 22 j1), σ1) = (rr, σr) := Option.some.inj hf
    obtain ⟨rfl, rfl⟩ := Prod.mk.inj hk
    exact x_iret O rfl rfl ⟨_, rfl, rfl⟩ dX1_winner_24
  · refine x_iconst O (v := 0) dX1_winner_13 (by decide) ?_
    refine x_goto O 24 dX1_winner_14 (by decide) ?_
    have hk : (0, σ1) = (rr, σr) := Option.some.inj hf
    obtain ⟨rfl, rfl⟩ := Prod.mk.inj hk
    exact x_iret O rfl rfl ⟨_, rfl, rfl⟩ dX1_winner_24
theorem k_Co_winner {σ σr : Mm} {rr : Int32} {v1 : Int32} {v2 : Int32} {v3 : Int32}  (hf : f_Co_winner σ v1 v2 v3 = some (rr, σr)) : CT LT yX1_winner wsX1_winner rm_X1_winner (fun ad => [.ref (ad 21), .int v1, .int v2, .int v3]) σ (some (.int rr)) σr := CT_of2 (cc := cX1_winner) (maxL := 5) (rt := (some .int)) (own := RX1) (by decide) rfl rfl (fun _ => Nat.le_of_ble_eq_true rfl) (fun _ => rfl) (fun Γ ad O => v_Co_winner O  hf)

-- ===== TippedBarrow$Contest.length(III)I
theorem ca_X1_length : Ca yX1_length cX1_length 5 (some .int) wsX1_length rm_X1_length 3 := ⟨⟨_, rfl⟩, rfl, rfl, by decide +kernel, by decide +kernel, by decide +kernel⟩
theorem in_X1_length_X1 : ∀ w ∈ wsX10, w ∈ wsX1_length := by decide +kernel
theorem fl_X1_length_15 : Fl RX1 wsX1_length 15 1 1 true (.array .int) := ⟨_, _, _, tyX1, rfl, in_X1_length_X1, by decide, by decide +kernel, tyX1_ok, nmX1, rfl, tyX1_ok 1 (by decide)⟩
set_option maxHeartbeats 4000000 in
set_option maxRecDepth 100000 in
theorem v_Co_length {Γ : Cx} {ad : Nat → Nat} {rr : Int32} {σr : Mm} (O : Ok LT Γ ad cX1_length 5 RX1 wsX1_length rm_X1_length (some .int) (some (.int rr)) σr) {σ : Mm} {v1 : Int32} {v2 : Int32} {v3 : Int32}  (hf : f_Co_length σ v1 v2 v3 = some (rr, σr)) : X LT Γ ad σ 0 [(0, .ref (ad 21)), (1, .int v1), (2, .int v2), (3, .int v3)] [] := by
  unfold f_Co_length at hf
  refine x_iload_n O 1 dX1_length_0 rfl rfl ?_
  refine x_iload_n O 2 dX1_length_1 rfl rfl ?_
  refine x_iload_n O 3 dX1_length_2 rfl rfl ?_
  obtain ⟨r_1, σ1, hc, hf⟩ := bd_some hf
  refine x_callS O (k_Co_stateOf  hc) ca_X1_stateOf gX1_length_X1_stateOf rfl rfl rfl (Nat.le_of_ble_eq_true rfl) ⟨Nat.le_of_ble_eq_true rfl, Nat.le_of_ble_eq_true rfl⟩ dX1_length_3 ?_
  refine x_push O ?_
  refine x_istore O dX1_length_6 (by decide) ?_
  refine x_iload O dX1_length_8 rfl ?_
  refine x_if_ge O 17 hf dX1_length_10 (by decide) (fun hf => ?_) (fun hf => ?_)
  · refine x_aload_n O 0 dX1_length_17 rfl rfl ?_
    refine x_getF O (t := 23) fl_X1_length_15 rfl dX1_length_18 ?_
    refine x_iload O dX1_length_21 rfl ?_
    refine x_iald O hf rfl dX1_length_23 (fun j1 hf => ?_)
    have hk : ((gA σ1 23 j1), σ1) = (rr, σr) := Option.some.inj hf
    obtain ⟨rfl, rfl⟩ := Prod.mk.inj hk
    exact x_iret O rfl rfl ⟨_, rfl, rfl⟩ dX1_length_24
  · refine x_iconst O (v := 0) dX1_length_13 (by decide) ?_
    refine x_goto O 24 dX1_length_14 (by decide) ?_
    have hk : (0, σ1) = (rr, σr) := Option.some.inj hf
    obtain ⟨rfl, rfl⟩ := Prod.mk.inj hk
    exact x_iret O rfl rfl ⟨_, rfl, rfl⟩ dX1_length_24
theorem k_Co_length {σ σr : Mm} {rr : Int32} {v1 : Int32} {v2 : Int32} {v3 : Int32}  (hf : f_Co_length σ v1 v2 v3 = some (rr, σr)) : CT LT yX1_length wsX1_length rm_X1_length (fun ad => [.ref (ad 21), .int v1, .int v2, .int v3]) σ (some (.int rr)) σr := CT_of2 (cc := cX1_length) (maxL := 5) (rt := (some .int)) (own := RX1) (by decide) rfl rfl (fun _ => Nat.le_of_ble_eq_true rfl) (fun _ => rfl) (fun Γ ad O => v_Co_length O  hf)

-- ===== TippedBarrow.game(I)I
theorem ca_X9_game : Ca yX9_game cX9_game 3 (some .int) wsX9_game rm_X9_game 1 := ⟨⟨_, rfl⟩, rfl, rfl, by decide +kernel, by decide +kernel, by decide +kernel⟩
theorem in_X9_game_X4 : ∀ w ∈ wsX40, w ∈ wsX9_game := by decide +kernel
theorem in_X9_game_X9 : ∀ w ∈ wsX90, w ∈ wsX9_game := by decide +kernel
theorem fl_X9_game_38 : Fl RX9 wsX9_game 38 9 4 true (.object "TippedBarrow$Moment") := ⟨_, _, _, tyX9, rfl, in_X9_game_X9, by decide, by decide +kernel, tyX9_ok, nmX9, rfl, tyX9_ok 4 (by decide)⟩
theorem fl_X9_game_51 : Fl RX9 wsX9_game 51 9 5 true (.object "TippedBarrow$Ground") := ⟨_, _, _, tyX9, rfl, in_X9_game_X9, by decide, by decide +kernel, tyX9_ok, nmX9, rfl, tyX9_ok 5 (by decide)⟩
theorem fl_X9_game_79 : Fl RX9 wsX9_game 79 9 13 true (.object "TippedBarrow$Contest") := ⟨_, _, _, tyX9, rfl, in_X9_game_X9, by decide, by decide +kernel, tyX9_ok, nmX9, rfl, tyX9_ok 13 (by decide)⟩
theorem fl_X9_game_138 : Fl RX9 wsX9_game 138 4 3 false .int := ⟨_, _, _, tyX4, rfl, in_X9_game_X4, by decide, by decide +kernel, tyX4_ok, nmX4, rfl, tyX4_ok 3 (by decide)⟩
theorem fl_X9_game_141 : Fl RX9 wsX9_game 141 4 4 false .int := ⟨_, _, _, tyX4, rfl, in_X9_game_X4, by decide, by decide +kernel, tyX4_ok, nmX4, rfl, tyX4_ok 4 (by decide)⟩
theorem fl_X9_game_144 : Fl RX9 wsX9_game 144 4 5 false .int := ⟨_, _, _, tyX4, rfl, in_X9_game_X4, by decide, by decide +kernel, tyX4_ok, nmX4, rfl, tyX4_ok 5 (by decide)⟩
set_option maxHeartbeats 4000000 in
set_option maxRecDepth 100000 in
theorem v_T_game {Γ : Cx} {ad : Nat → Nat} {rr : Int32} {σr : Mm} (O : Ok LT Γ ad cX9_game 3 RX9 wsX9_game rm_X9_game (some .int) (some (.int rr)) σr) {σ : Mm} {v1 : Int32}  (hf : f_T_game σ v1 = some (rr, σr)) : X LT Γ ad σ 0 [(0, .ref (ad 0)), (1, .int v1)] [] := by
  unfold f_T_game at hf
  refine x_iload_n O 1 dX9_game_0 rfl rfl ?_
  refine x_if_lt O 9 hf dX9_game_1 (by decide) (fun hf => ?_) (fun hf => ?_)
  · refine x_iconst O (v := -1) dX9_game_9 (by decide) ?_
    have hk : ((-1), σ) = (rr, σr) := Option.some.inj hf
    obtain ⟨rfl, rfl⟩ := Prod.mk.inj hk
    exact x_iret O rfl rfl ⟨_, rfl, rfl⟩ dX9_game_10
  · refine x_iload_n O 1 dX9_game_4 rfl rfl ?_
    refine x_iconst O (v := 1) dX9_game_5 (by decide) ?_
    refine x_icmp_le O 11 hf dX9_game_6 (by decide) (fun hf => ?_) (fun hf => ?_)
    · refine x_aload_n O 0 dX9_game_11 rfl rfl ?_
      obtain ⟨r_1, σ1, hc, hf⟩ := bd_some hf
      refine x_callV O (k_T_hasNoStart  hc) ca_X9_hasNoStart gX9_game_X9_hasNoStart rfl ⟨_, _, _, _, rfl, rfl⟩ rfl rfl rfl (Nat.le_of_ble_eq_true rfl) ⟨Nat.le_of_ble_eq_true rfl, Nat.le_of_ble_eq_true rfl⟩ dX9_game_12 ?_
      refine x_push O ?_
      refine x_if_eq O 21 hf dX9_game_15 (by decide) (fun hf => ?_) (fun hf => ?_)
      · refine x_aload_n O 0 dX9_game_21 rfl rfl ?_
        refine x_getF O (t := 21) fl_X9_game_79 rfl dX9_game_22 ?_
        refine x_aload_n O 0 dX9_game_25 rfl rfl ?_
        refine x_getF O (t := 11) fl_X9_game_51 rfl dX9_game_26 ?_
        obtain ⟨r_2, σ2, hc, hf⟩ := bd_some hf
        refine x_callV O (k_Co_solve rfl hc) ca_X1_solve gX9_game_X1_solve rfl ⟨_, _, _, _, rfl, rfl⟩ rfl rfl rfl (Nat.le_of_ble_eq_true rfl) ⟨Nat.le_of_ble_eq_true rfl, Nat.le_of_ble_eq_true rfl⟩ dX9_game_29 ?_
        refine x_pushN O ?_
        refine x_aload_n O 0 dX9_game_32 rfl rfl ?_
        refine x_getF O (t := 21) fl_X9_game_79 rfl dX9_game_33 ?_
        refine x_aload_n O 0 dX9_game_36 rfl rfl ?_
        refine x_getF O (t := 36) fl_X9_game_38 rfl dX9_game_37 ?_
        refine x_getI O fl_X9_game_138 rfl dX9_game_40 ?_
        refine x_aload_n O 0 dX9_game_43 rfl rfl ?_
        refine x_getF O (t := 36) fl_X9_game_38 rfl dX9_game_44 ?_
        refine x_getI O fl_X9_game_141 rfl dX9_game_47 ?_
        refine x_aload_n O 0 dX9_game_50 rfl rfl ?_
        refine x_getF O (t := 36) fl_X9_game_38 rfl dX9_game_51 ?_
        refine x_getI O fl_X9_game_144 rfl dX9_game_54 ?_
        obtain ⟨r_3, σ3, hc, hf⟩ := bd_some hf
        refine x_callV O (k_Co_winner  hc) ca_X1_winner gX9_game_X1_winner rfl ⟨_, _, _, _, rfl, rfl⟩ rfl rfl rfl (Nat.le_of_ble_eq_true rfl) ⟨Nat.le_of_ble_eq_true rfl, Nat.le_of_ble_eq_true rfl⟩ dX9_game_57 ?_
        refine x_push O ?_
        refine x_istore_n O 2 dX9_game_60 rfl (by decide) ?_
        refine x_iload_n O 1 dX9_game_61 rfl rfl ?_
        refine x_if_ne O 67 hf dX9_game_62 (by decide) (fun hf => ?_) (fun hf => ?_)
        · refine x_iload_n O 2 dX9_game_67 rfl rfl ?_
          refine x_if_ne O 76 hf dX9_game_68 (by decide) (fun hf => ?_) (fun hf => ?_)
          · refine x_aload_n O 0 dX9_game_76 rfl rfl ?_
            refine x_getF O (t := 21) fl_X9_game_79 rfl dX9_game_77 ?_
            refine x_aload_n O 0 dX9_game_80 rfl rfl ?_
            refine x_getF O (t := 36) fl_X9_game_38 rfl dX9_game_81 ?_
            refine x_getI O fl_X9_game_138 rfl dX9_game_84 ?_
            refine x_aload_n O 0 dX9_game_87 rfl rfl ?_
            refine x_getF O (t := 36) fl_X9_game_38 rfl dX9_game_88 ?_
            refine x_getI O fl_X9_game_141 rfl dX9_game_91 ?_
            refine x_aload_n O 0 dX9_game_94 rfl rfl ?_
            refine x_getF O (t := 36) fl_X9_game_38 rfl dX9_game_95 ?_
            refine x_getI O fl_X9_game_144 rfl dX9_game_98 ?_
            obtain ⟨r_4, σ4, hc, hf⟩ := bd_some hf
            refine x_callV O (k_Co_length  hc) ca_X1_length gX9_game_X1_length rfl ⟨_, _, _, _, rfl, rfl⟩ rfl rfl rfl (Nat.le_of_ble_eq_true rfl) ⟨Nat.le_of_ble_eq_true rfl, Nat.le_of_ble_eq_true rfl⟩ dX9_game_101 ?_
            refine x_push O ?_
            have hk : (r_4, σ4) = (rr, σr) := Option.some.inj hf
            obtain ⟨rfl, rfl⟩ := Prod.mk.inj hk
            exact x_iret O rfl rfl ⟨_, rfl, rfl⟩ dX9_game_104
          · refine x_bipush O (v := -9) dX9_game_71 (by decide) ?_
            refine x_goto O 104 dX9_game_73 (by decide) ?_
            have hk : ((-9), σ3) = (rr, σr) := Option.some.inj hf
            obtain ⟨rfl, rfl⟩ := Prod.mk.inj hk
            exact x_iret O rfl rfl ⟨_, rfl, rfl⟩ dX9_game_104
        · refine x_iload_n O 2 dX9_game_65 rfl rfl ?_
          have hk : (r_3, σ3) = (rr, σr) := Option.some.inj hf
          obtain ⟨rfl, rfl⟩ := Prod.mk.inj hk
          exact x_iret O rfl rfl ⟨_, rfl, rfl⟩ dX9_game_66
      · refine x_bipush O (v := -2) dX9_game_18 (by decide) ?_
        have hk : ((-2), σ1) = (rr, σr) := Option.some.inj hf
        obtain ⟨rfl, rfl⟩ := Prod.mk.inj hk
        exact x_iret O rfl rfl ⟨_, rfl, rfl⟩ dX9_game_20
    · refine x_iconst O (v := -1) dX9_game_9 (by decide) ?_
      have hk : ((-1), σ) = (rr, σr) := Option.some.inj hf
      obtain ⟨rfl, rfl⟩ := Prod.mk.inj hk
      exact x_iret O rfl rfl ⟨_, rfl, rfl⟩ dX9_game_10
theorem k_T_game {σ σr : Mm} {rr : Int32} {v1 : Int32}  (hf : f_T_game σ v1 = some (rr, σr)) : CT LT yX9_game wsX9_game rm_X9_game (fun ad => [.ref (ad 0), .int v1]) σ (some (.int rr)) σr := CT_of2 (cc := cX9_game) (maxL := 3) (rt := (some .int)) (own := RX9) (by decide) rfl rfl (fun _ => Nat.le_of_ble_eq_true rfl) (fun _ => rfl) (fun Γ ad O => v_T_game O  hf)

-- ===== TippedBarrow.comesSo(I)Z
theorem ca_X9_comesSo : Ca yX9_comesSo cX9_comesSo 7 (some .boolean) wsX9_comesSo rm_X9_comesSo 1 := ⟨⟨_, rfl⟩, rfl, rfl, by decide +kernel, by decide +kernel, by decide +kernel⟩
theorem in_X9_comesSo_X4 : ∀ w ∈ wsX40, w ∈ wsX9_comesSo := by decide +kernel
theorem in_X9_comesSo_X9 : ∀ w ∈ wsX90, w ∈ wsX9_comesSo := by decide +kernel
theorem fl_X9_comesSo_38 : Fl RX9 wsX9_comesSo 38 9 4 true (.object "TippedBarrow$Moment") := ⟨_, _, _, tyX9, rfl, in_X9_comesSo_X9, by decide, by decide +kernel, tyX9_ok, nmX9, rfl, tyX9_ok 4 (by decide)⟩
theorem fl_X9_comesSo_51 : Fl RX9 wsX9_comesSo 51 9 5 true (.object "TippedBarrow$Ground") := ⟨_, _, _, tyX9, rfl, in_X9_comesSo_X9, by decide, by decide +kernel, tyX9_ok, nmX9, rfl, tyX9_ok 5 (by decide)⟩
theorem fl_X9_comesSo_79 : Fl RX9 wsX9_comesSo 79 9 13 true (.object "TippedBarrow$Contest") := ⟨_, _, _, tyX9, rfl, in_X9_comesSo_X9, by decide, by decide +kernel, tyX9_ok, nmX9, rfl, tyX9_ok 13 (by decide)⟩
theorem fl_X9_comesSo_138 : Fl RX9 wsX9_comesSo 138 4 3 false .int := ⟨_, _, _, tyX4, rfl, in_X9_comesSo_X4, by decide, by decide +kernel, tyX4_ok, nmX4, rfl, tyX4_ok 3 (by decide)⟩
theorem fl_X9_comesSo_141 : Fl RX9 wsX9_comesSo 141 4 4 false .int := ⟨_, _, _, tyX4, rfl, in_X9_comesSo_X4, by decide, by decide +kernel, tyX4_ok, nmX4, rfl, tyX4_ok 4 (by decide)⟩
theorem fl_X9_comesSo_144 : Fl RX9 wsX9_comesSo 144 4 5 false .int := ⟨_, _, _, tyX4, rfl, in_X9_comesSo_X4, by decide, by decide +kernel, tyX4_ok, nmX4, rfl, tyX4_ok 5 (by decide)⟩
set_option maxHeartbeats 4000000 in
set_option maxRecDepth 100000 in
theorem v_T_comesSo {Γ : Cx} {ad : Nat → Nat} {rr : Int32} {σr : Mm} (O : Ok LT Γ ad cX9_comesSo 7 RX9 wsX9_comesSo rm_X9_comesSo (some .boolean) (some (.int rr)) σr) {σ : Mm} {v1 : Int32}  (hf : f_T_comesSo σ v1 = some (rr, σr)) : X LT Γ ad σ 0 [(0, .ref (ad 0)), (1, .int v1)] [] := by
  unfold f_T_comesSo at hf
  refine x_aload_n O 0 dX9_comesSo_0 rfl rfl ?_
  refine x_getF O (t := 21) fl_X9_comesSo_79 rfl dX9_comesSo_1 ?_
  refine x_aload_n O 0 dX9_comesSo_4 rfl rfl ?_
  refine x_getF O (t := 36) fl_X9_comesSo_38 rfl dX9_comesSo_5 ?_
  refine x_getI O fl_X9_comesSo_138 rfl dX9_comesSo_8 ?_
  refine x_aload_n O 0 dX9_comesSo_11 rfl rfl ?_
  refine x_getF O (t := 36) fl_X9_comesSo_38 rfl dX9_comesSo_12 ?_
  refine x_getI O fl_X9_comesSo_141 rfl dX9_comesSo_15 ?_
  refine x_aload_n O 0 dX9_comesSo_18 rfl rfl ?_
  refine x_getF O (t := 36) fl_X9_comesSo_38 rfl dX9_comesSo_19 ?_
  refine x_getI O fl_X9_comesSo_144 rfl dX9_comesSo_22 ?_
  obtain ⟨r_1, σ1, hc, hf⟩ := bd_some hf
  refine x_callV O (k_Co_winner  hc) ca_X1_winner gX9_comesSo_X1_winner rfl ⟨_, _, _, _, rfl, rfl⟩ rfl rfl rfl (Nat.le_of_ble_eq_true rfl) ⟨Nat.le_of_ble_eq_true rfl, Nat.le_of_ble_eq_true rfl⟩ dX9_comesSo_25 ?_
  refine x_push O ?_
  refine x_istore_n O 2 dX9_comesSo_28 rfl (by decide) ?_
  refine x_aload_n O 0 dX9_comesSo_29 rfl rfl ?_
  refine x_getF O (t := 21) fl_X9_comesSo_79 rfl dX9_comesSo_30 ?_
  refine x_aload_n O 0 dX9_comesSo_33 rfl rfl ?_
  refine x_getF O (t := 36) fl_X9_comesSo_38 rfl dX9_comesSo_34 ?_
  refine x_getI O fl_X9_comesSo_138 rfl dX9_comesSo_37 ?_
  refine x_aload_n O 0 dX9_comesSo_40 rfl rfl ?_
  refine x_getF O (t := 36) fl_X9_comesSo_38 rfl dX9_comesSo_41 ?_
  refine x_getI O fl_X9_comesSo_141 rfl dX9_comesSo_44 ?_
  refine x_aload_n O 0 dX9_comesSo_47 rfl rfl ?_
  refine x_getF O (t := 36) fl_X9_comesSo_38 rfl dX9_comesSo_48 ?_
  refine x_getI O fl_X9_comesSo_144 rfl dX9_comesSo_51 ?_
  obtain ⟨r_2, σ2, hc, hf⟩ := bd_some hf
  refine x_callV O (k_Co_length  hc) ca_X1_length gX9_comesSo_X1_length rfl ⟨_, _, _, _, rfl, rfl⟩ rfl rfl rfl (Nat.le_of_ble_eq_true rfl) ⟨Nat.le_of_ble_eq_true rfl, Nat.le_of_ble_eq_true rfl⟩ dX9_comesSo_54 ?_
  refine x_push O ?_
  refine x_istore_n O 3 dX9_comesSo_57 rfl (by decide) ?_
  refine x_aload_n O 0 dX9_comesSo_58 rfl rfl ?_
  refine x_getF O (t := 11) fl_X9_comesSo_51 rfl dX9_comesSo_59 ?_
  refine x_iload_n O 1 dX9_comesSo_62 rfl rfl ?_
  refine x_aload_n O 0 dX9_comesSo_63 rfl rfl ?_
  refine x_getF O (t := 36) fl_X9_comesSo_38 rfl dX9_comesSo_64 ?_
  refine x_getI O fl_X9_comesSo_141 rfl dX9_comesSo_67 ?_
  obtain ⟨r_3, σ3, hc, hf⟩ := bd_some hf
  refine x_callV O (k_Gr_leanOn rfl hc) ca_X2_leanOn gX9_comesSo_X2_leanOn rfl ⟨_, _, _, _, rfl, rfl⟩ rfl rfl rfl (Nat.le_of_ble_eq_true rfl) ⟨Nat.le_of_ble_eq_true rfl, Nat.le_of_ble_eq_true rfl⟩ dX9_comesSo_70 ?_
  refine x_push O ?_
  refine x_istore O dX9_comesSo_73 (by decide) ?_
  refine x_aload_n O 0 dX9_comesSo_75 rfl rfl ?_
  refine x_getF O (t := 11) fl_X9_comesSo_51 rfl dX9_comesSo_76 ?_
  refine x_iload O dX9_comesSo_79 rfl ?_
  obtain ⟨r_4, σ4, hc, hf⟩ := bd_some hf
  refine x_callV O (k_Gr_verdict rfl hc) ca_X2_verdict gX9_comesSo_X2_verdict rfl ⟨_, _, _, _, rfl, rfl⟩ rfl rfl rfl (Nat.le_of_ble_eq_true rfl) ⟨Nat.le_of_ble_eq_true rfl, Nat.le_of_ble_eq_true rfl⟩ dX9_comesSo_81 ?_
  refine x_push O ?_
  refine x_istore O dX9_comesSo_84 (by decide) ?_
  refine x_iload O dX9_comesSo_86 rfl ?_
  refine x_if_eq O 108 hf dX9_comesSo_88 (by decide) (fun hf => ?_) (fun hf => ?_)
  · refine x_iconst O (v := 1) dX9_comesSo_108 (by decide) ?_
    refine x_aload_n O 0 dX9_comesSo_109 rfl rfl ?_
    refine x_getF O (t := 36) fl_X9_comesSo_38 rfl dX9_comesSo_110 ?_
    refine x_getI O fl_X9_comesSo_144 rfl dX9_comesSo_113 ?_
    refine x_isub O dX9_comesSo_116 ?_
    refine x_istoreN O hf dX9_comesSo_117 (by decide) (fun y1 hf => ?_)
    refine x_aload_n O 0 dX9_comesSo_119 rfl rfl ?_
    refine x_getF O (t := 21) fl_X9_comesSo_79 rfl dX9_comesSo_120 ?_
    refine x_iload_n O 1 dX9_comesSo_123 rfl rfl ?_
    refine x_iload O dX9_comesSo_124 rfl ?_
    refine x_iload O dX9_comesSo_126 rfl ?_
    obtain ⟨r_5, σ5, hc, hf⟩ := bd_some hf
    refine x_callV O (k_Co_winner  hc) ca_X1_winner gX9_comesSo_X1_winner rfl ⟨_, _, _, _, rfl, rfl⟩ rfl rfl rfl (Nat.le_of_ble_eq_true rfl) ⟨Nat.le_of_ble_eq_true rfl, Nat.le_of_ble_eq_true rfl⟩ dX9_comesSo_128 ?_
    refine x_push O ?_
    refine x_iload_n O 2 dX9_comesSo_131 rfl rfl ?_
    refine x_icmp_eq O 137 hf dX9_comesSo_132 (by decide) (fun hf => ?_) (fun hf => ?_)
    · refine x_iload_n O 2 dX9_comesSo_137 rfl rfl ?_
      refine x_if_eq O 159 hf dX9_comesSo_138 (by decide) (fun hf => ?_) (fun hf => ?_)
      · refine x_iconst O (v := 1) dX9_comesSo_159 (by decide) ?_
        refine x_goto O 164 dX9_comesSo_160 (by decide) ?_
        have hk : (1, σ5) = (rr, σr) := Option.some.inj hf
        obtain ⟨rfl, rfl⟩ := Prod.mk.inj hk
        exact x_iret O rfl rfl ⟨_, rfl, rfl⟩ dX9_comesSo_164
      · refine x_aload_n O 0 dX9_comesSo_141 rfl rfl ?_
        refine x_getF O (t := 21) fl_X9_comesSo_79 rfl dX9_comesSo_142 ?_
        refine x_iload_n O 1 dX9_comesSo_145 rfl rfl ?_
        refine x_iload O dX9_comesSo_146 rfl ?_
        refine x_iload O dX9_comesSo_148 rfl ?_
        obtain ⟨r_6, σ6, hc, hf⟩ := bd_some hf
        refine x_callV O (k_Co_length  hc) ca_X1_length gX9_comesSo_X1_length rfl ⟨_, _, _, _, rfl, rfl⟩ rfl rfl rfl (Nat.le_of_ble_eq_true rfl) ⟨Nat.le_of_ble_eq_true rfl, Nat.le_of_ble_eq_true rfl⟩ dX9_comesSo_150 ?_
        refine x_push O ?_
        refine x_iload_n O 3 dX9_comesSo_153 rfl rfl ?_
        refine x_iconst O (v := 1) dX9_comesSo_154 (by decide) ?_
        refine x_isub O dX9_comesSo_155 ?_
        refine x_icmp_ne O 163 hf dX9_comesSo_156 (by decide) (fun hf => ?_) (fun hf => ?_)
        · refine x_iconst O (v := 0) dX9_comesSo_163 (by decide) ?_
          have hk : (0, σ6) = (rr, σr) := Option.some.inj hf
          obtain ⟨rfl, rfl⟩ := Prod.mk.inj hk
          exact x_iret O rfl rfl ⟨_, rfl, rfl⟩ dX9_comesSo_164
        · refine x_iconst O (v := 1) dX9_comesSo_159 (by decide) ?_
          refine x_goto O 164 dX9_comesSo_160 (by decide) ?_
          have hk : (1, σ6) = (rr, σr) := Option.some.inj hf
          obtain ⟨rfl, rfl⟩ := Prod.mk.inj hk
          exact x_iret O rfl rfl ⟨_, rfl, rfl⟩ dX9_comesSo_164
    · refine x_iconst O (v := 0) dX9_comesSo_135 (by decide) ?_
      have hk : (0, σ5) = (rr, σr) := Option.some.inj hf
      obtain ⟨rfl, rfl⟩ := Prod.mk.inj hk
      exact x_iret O rfl rfl ⟨_, rfl, rfl⟩ dX9_comesSo_136
  · refine x_iload O dX9_comesSo_91 rfl ?_
    refine x_iload_n O 2 dX9_comesSo_93 rfl rfl ?_
    refine x_icmp_ne O 106 hf dX9_comesSo_94 (by decide) (fun hf => ?_) (fun hf => ?_)
    · refine x_iconst O (v := 0) dX9_comesSo_106 (by decide) ?_
      have hk : (0, σ4) = (rr, σr) := Option.some.inj hf
      obtain ⟨rfl, rfl⟩ := Prod.mk.inj hk
      exact x_iret O rfl rfl ⟨_, rfl, rfl⟩ dX9_comesSo_107
    · refine x_iload_n O 3 dX9_comesSo_97 rfl rfl ?_
      refine x_iconst O (v := 1) dX9_comesSo_98 (by decide) ?_
      refine x_icmp_ne O 106 hf dX9_comesSo_99 (by decide) (fun hf => ?_) (fun hf => ?_)
      · refine x_iconst O (v := 0) dX9_comesSo_106 (by decide) ?_
        have hk : (0, σ4) = (rr, σr) := Option.some.inj hf
        obtain ⟨rfl, rfl⟩ := Prod.mk.inj hk
        exact x_iret O rfl rfl ⟨_, rfl, rfl⟩ dX9_comesSo_107
      · refine x_iconst O (v := 1) dX9_comesSo_102 (by decide) ?_
        refine x_goto O 107 dX9_comesSo_103 (by decide) ?_
        have hk : (1, σ4) = (rr, σr) := Option.some.inj hf
        obtain ⟨rfl, rfl⟩ := Prod.mk.inj hk
        exact x_iret O rfl rfl ⟨_, rfl, rfl⟩ dX9_comesSo_107
theorem k_T_comesSo {σ σr : Mm} {rr : Int32} {v1 : Int32}  (hf : f_T_comesSo σ v1 = some (rr, σr)) : CT LT yX9_comesSo wsX9_comesSo rm_X9_comesSo (fun ad => [.ref (ad 0), .int v1]) σ (some (.int rr)) σr := CT_of2 (cc := cX9_comesSo) (maxL := 7) (rt := (some .boolean)) (own := RX9) (by decide) rfl rfl (fun _ => Nat.le_of_ble_eq_true rfl) (fun _ => rfl) (fun Γ ad O => v_T_comesSo O  hf)

-- ===== TippedBarrow.advice()I
theorem ca_X9_advice : Ca yX9_advice cX9_advice 3 (some .int) wsX9_advice rm_X9_advice 0 := ⟨⟨_, rfl⟩, rfl, rfl, by decide +kernel, by decide +kernel, by decide +kernel⟩
theorem in_X9_advice_X4 : ∀ w ∈ wsX40, w ∈ wsX9_advice := by decide +kernel
theorem in_X9_advice_X9 : ∀ w ∈ wsX90, w ∈ wsX9_advice := by decide +kernel
theorem fl_X9_advice_38 : Fl RX9 wsX9_advice 38 9 4 true (.object "TippedBarrow$Moment") := ⟨_, _, _, tyX9, rfl, in_X9_advice_X9, by decide, by decide +kernel, tyX9_ok, nmX9, rfl, tyX9_ok 4 (by decide)⟩
theorem fl_X9_advice_51 : Fl RX9 wsX9_advice 51 9 5 true (.object "TippedBarrow$Ground") := ⟨_, _, _, tyX9, rfl, in_X9_advice_X9, by decide, by decide +kernel, tyX9_ok, nmX9, rfl, tyX9_ok 5 (by decide)⟩
theorem fl_X9_advice_79 : Fl RX9 wsX9_advice 79 9 13 true (.object "TippedBarrow$Contest") := ⟨_, _, _, tyX9, rfl, in_X9_advice_X9, by decide, by decide +kernel, tyX9_ok, nmX9, rfl, tyX9_ok 13 (by decide)⟩
theorem fl_X9_advice_138 : Fl RX9 wsX9_advice 138 4 3 false .int := ⟨_, _, _, tyX4, rfl, in_X9_advice_X4, by decide, by decide +kernel, tyX4_ok, nmX4, rfl, tyX4_ok 3 (by decide)⟩
set_option maxHeartbeats 4000000 in
set_option maxRecDepth 100000 in
theorem v_T_advice_23_b {Γ : Cx} {ad : Nat → Nat} {rr : Int32} {σr : Mm} (O : Ok LT Γ ad cX9_advice 3 RX9 wsX9_advice rm_X9_advice (some .int) (some (.int rr)) σr) {σ : Mm} {v1 : Int32}  {x : (Mm × Int32) ⊕ (Int32 × Mm)} (hf : f_T_advice_23_b σ v1 = some x) (hk : (kx (fun s : Mm × Int32 => X LT Γ ad s.1 23 [(0, .ref (ad 0)), (1, .int s.2)] []) (fun q : Int32 × Mm => q = (rr, σr))) x) : X LT Γ ad σ 23 [(0, .ref (ad 0)), (1, .int v1)] [] := by
  unfold f_T_advice_23_b at hf
  refine x_iload_n O 1 dX9_advice_23 rfl rfl ?_
  refine x_iconst O (v := 4) dX9_advice_24 (by decide) ?_
  refine x_icmp_ge O 64 hf dX9_advice_25 (by decide) (fun hf => ?_) (fun hf => ?_)
  · obtain ⟨x', hg1, hx⟩ := map_inr hf
    subst hx
    have hk := kx_r hk
    have hx : x' = (rr, σr) := hk
    subst hx
    have hf := hg1
    refine x_bipush O (v := -9) dX9_advice_64 (by decide) ?_
    have hk : ((-9), σ) = (rr, σr) := Option.some.inj hf
    obtain ⟨rfl, rfl⟩ := Prod.mk.inj hk
    exact x_iret O rfl rfl ⟨_, rfl, rfl⟩ dX9_advice_66
  · refine x_aload_n O 0 dX9_advice_28 rfl rfl ?_
    refine x_getF O (t := 11) fl_X9_advice_51 rfl dX9_advice_29 ?_
    refine x_aload_n O 0 dX9_advice_32 rfl rfl ?_
    refine x_getF O (t := 36) fl_X9_advice_38 rfl dX9_advice_33 ?_
    refine x_getI O fl_X9_advice_138 rfl dX9_advice_36 ?_
    refine x_iload_n O 1 dX9_advice_39 rfl rfl ?_
    obtain ⟨r_1, σ1, hc, hf⟩ := bd_some hf
    refine x_callV O (k_Gr_beyond rfl hc) ca_X2_beyond gX9_advice_X2_beyond rfl ⟨_, _, _, _, rfl, rfl⟩ rfl rfl rfl (Nat.le_of_ble_eq_true rfl) ⟨Nat.le_of_ble_eq_true rfl, Nat.le_of_ble_eq_true rfl⟩ dX9_advice_40 ?_
    refine x_push O ?_
    refine x_istore_n O 2 dX9_advice_43 rfl (by decide) ?_
    refine x_iload_n O 2 dX9_advice_44 rfl rfl ?_
    refine x_if_lt O 58 hf dX9_advice_45 (by decide) (fun hf => ?_) (fun hf => ?_)
    · refine x_iincN O hf dX9_advice_58 rfl rfl (by decide) (fun y1 hf => ?_)
      refine x_goto O 23 dX9_advice_61 (by decide) ?_
      obtain rfl := Option.some.inj hf
      have hk := kx_l hk
      exact x_jmp O hk rfl
    · refine x_aload_n O 0 dX9_advice_48 rfl rfl ?_
      refine x_iload_n O 2 dX9_advice_49 rfl rfl ?_
      obtain ⟨r_2, σ2, hc, hf⟩ := bd_some hf
      refine x_callV O (k_T_comesSo  hc) ca_X9_comesSo gX9_advice_X9_comesSo rfl ⟨_, _, _, _, rfl, rfl⟩ rfl rfl rfl (Nat.le_of_ble_eq_true rfl) ⟨Nat.le_of_ble_eq_true rfl, Nat.le_of_ble_eq_true rfl⟩ dX9_advice_50 ?_
      refine x_push O ?_
      refine x_if_eq O 58 hf dX9_advice_53 (by decide) (fun hf => ?_) (fun hf => ?_)
      · refine x_iincN O hf dX9_advice_58 rfl rfl (by decide) (fun y2 hf => ?_)
        refine x_goto O 23 dX9_advice_61 (by decide) ?_
        obtain rfl := Option.some.inj hf
        have hk := kx_l hk
        exact x_jmp O hk rfl
      · obtain ⟨x', hg2, hx⟩ := map_inr hf
        subst hx
        have hk := kx_r hk
        have hx : x' = (rr, σr) := hk
        subst hx
        have hf := hg2
        refine x_iload_n O 1 dX9_advice_56 rfl rfl ?_
        have hk : (v1, σ2) = (rr, σr) := Option.some.inj hf
        obtain ⟨rfl, rfl⟩ := Prod.mk.inj hk
        exact x_iret O rfl rfl ⟨_, rfl, rfl⟩ dX9_advice_57
set_option maxHeartbeats 4000000 in
set_option maxRecDepth 100000 in
theorem v_T_advice_23 {Γ : Cx} {ad : Nat → Nat} {rr : Int32} {σr : Mm} (O : Ok LT Γ ad cX9_advice 3 RX9 wsX9_advice rm_X9_advice (some .int) (some (.int rr)) σr) {σ : Mm} {v1 : Int32}  (hf : f_T_advice_23 σ v1 = some (rr, σr)) : X LT Γ ad σ 23 [(0, .ref (ad 0)), (1, .int v1)] [] := lpX (P := (fun s : Mm × Int32 => X LT Γ ad s.1 23 [(0, .ref (ad 0)), (1, .int s.2)] [])) (K := (fun q : Int32 × Mm => q = (rr, σr))) (fun s x g1 g2 => v_T_advice_23_b O (σ := s.1)  (v1 := s.2)  g1 g2) (σ, v1) _ hf rfl
set_option maxHeartbeats 4000000 in
set_option maxRecDepth 100000 in
theorem v_T_advice {Γ : Cx} {ad : Nat → Nat} {rr : Int32} {σr : Mm} (O : Ok LT Γ ad cX9_advice 3 RX9 wsX9_advice rm_X9_advice (some .int) (some (.int rr)) σr) {σ : Mm}   (hf : f_T_advice σ = some (rr, σr)) : X LT Γ ad σ 0 [(0, .ref (ad 0))] [] := by
  unfold f_T_advice at hf
  refine x_aload_n O 0 dX9_advice_0 rfl rfl ?_
  obtain ⟨r_1, σ1, hc, hf⟩ := bd_some hf
  refine x_callV O (k_T_hasNoStart  hc) ca_X9_hasNoStart gX9_advice_X9_hasNoStart rfl ⟨_, _, _, _, rfl, rfl⟩ rfl rfl rfl (Nat.le_of_ble_eq_true rfl) ⟨Nat.le_of_ble_eq_true rfl, Nat.le_of_ble_eq_true rfl⟩ dX9_advice_1 ?_
  refine x_push O ?_
  refine x_if_eq O 10 hf dX9_advice_4 (by decide) (fun hf => ?_) (fun hf => ?_)
  · refine x_aload_n O 0 dX9_advice_10 rfl rfl ?_
    refine x_getF O (t := 21) fl_X9_advice_79 rfl dX9_advice_11 ?_
    refine x_aload_n O 0 dX9_advice_14 rfl rfl ?_
    refine x_getF O (t := 11) fl_X9_advice_51 rfl dX9_advice_15 ?_
    obtain ⟨r_2, σ2, hc, hf⟩ := bd_some hf
    refine x_callV O (k_Co_solve rfl hc) ca_X1_solve gX9_advice_X1_solve rfl ⟨_, _, _, _, rfl, rfl⟩ rfl rfl rfl (Nat.le_of_ble_eq_true rfl) ⟨Nat.le_of_ble_eq_true rfl, Nat.le_of_ble_eq_true rfl⟩ dX9_advice_18 ?_
    refine x_pushN O ?_
    refine x_iconst O (v := 0) dX9_advice_21 (by decide) ?_
    refine x_istore_n O 1 dX9_advice_22 rfl (by decide) ?_
    exact x_jmp O (v_T_advice_23 O (σ := σ2) (v1 := 0)  hf) rfl
  · refine x_bipush O (v := -2) dX9_advice_7 (by decide) ?_
    have hk : ((-2), σ1) = (rr, σr) := Option.some.inj hf
    obtain ⟨rfl, rfl⟩ := Prod.mk.inj hk
    exact x_iret O rfl rfl ⟨_, rfl, rfl⟩ dX9_advice_9
theorem k_T_advice {σ σr : Mm} {rr : Int32}   (hf : f_T_advice σ = some (rr, σr)) : CT LT yX9_advice wsX9_advice rm_X9_advice (fun ad => [.ref (ad 0)]) σ (some (.int rr)) σr := CT_of2 (cc := cX9_advice) (maxL := 3) (rt := (some .int)) (own := RX9) (by decide) rfl rfl (fun _ => Nat.le_of_ble_eq_true rfl) (fun _ => rfl) (fun Γ ad O => v_T_advice O  hf)

-- ===== TippedBarrow.isNoSide(I)Z
theorem ca_X9_isNoSide : Ca yX9_isNoSide cX9_isNoSide 1 (some .boolean) wsX9_isNoSide rm_X9_isNoSide 1 := ⟨⟨_, rfl⟩, rfl, rfl, by decide +kernel, by decide +kernel, by decide +kernel⟩
set_option maxHeartbeats 4000000 in
set_option maxRecDepth 100000 in
theorem v_T_isNoSide {Γ : Cx} {ad : Nat → Nat} {rr : Int32} {σr : Mm} (O : Ok LT Γ ad cX9_isNoSide 1 RX9 wsX9_isNoSide rm_X9_isNoSide (some .boolean) (some (.int rr)) σr) {σ : Mm} {v0 : Int32}  (hf : f_T_isNoSide σ v0 = some (rr, σr)) : X LT Γ ad σ 0 [(0, .int v0)] [] := by
  unfold f_T_isNoSide at hf
  refine x_iload_n O 0 dX9_isNoSide_0 rfl rfl ?_
  refine x_iconst O (v := 1) dX9_isNoSide_1 (by decide) ?_
  refine x_icmp_lt O 10 hf dX9_isNoSide_2 (by decide) (fun hf => ?_) (fun hf => ?_)
  · refine x_iconst O (v := 1) dX9_isNoSide_10 (by decide) ?_
    refine x_goto O 15 dX9_isNoSide_11 (by decide) ?_
    have hk : (1, σ) = (rr, σr) := Option.some.inj hf
    obtain ⟨rfl, rfl⟩ := Prod.mk.inj hk
    exact x_iret O rfl rfl ⟨_, rfl, rfl⟩ dX9_isNoSide_15
  · refine x_iload_n O 0 dX9_isNoSide_5 rfl rfl ?_
    refine x_iconst O (v := 2) dX9_isNoSide_6 (by decide) ?_
    refine x_icmp_le O 14 hf dX9_isNoSide_7 (by decide) (fun hf => ?_) (fun hf => ?_)
    · refine x_iconst O (v := 0) dX9_isNoSide_14 (by decide) ?_
      have hk : (0, σ) = (rr, σr) := Option.some.inj hf
      obtain ⟨rfl, rfl⟩ := Prod.mk.inj hk
      exact x_iret O rfl rfl ⟨_, rfl, rfl⟩ dX9_isNoSide_15
    · refine x_iconst O (v := 1) dX9_isNoSide_10 (by decide) ?_
      refine x_goto O 15 dX9_isNoSide_11 (by decide) ?_
      have hk : (1, σ) = (rr, σr) := Option.some.inj hf
      obtain ⟨rfl, rfl⟩ := Prod.mk.inj hk
      exact x_iret O rfl rfl ⟨_, rfl, rfl⟩ dX9_isNoSide_15
theorem k_T_isNoSide {σ σr : Mm} {rr : Int32} {v0 : Int32}  (hf : f_T_isNoSide σ v0 = some (rr, σr)) : CT LT yX9_isNoSide wsX9_isNoSide rm_X9_isNoSide (fun ad => [.int v0]) σ (some (.int rr)) σr := CT_of2 (cc := cX9_isNoSide) (maxL := 1) (rt := (some .boolean)) (own := RX9) (by decide) rfl rfl (fun _ => Nat.le_of_ble_eq_true rfl) (fun _ => rfl) (fun Γ ad O => v_T_isNoSide O  hf)

-- ===== TippedBarrow$Walk.visit(III)V
theorem ca_X8_visit : Ca yX8_visit cX8_visit 4 none wsX8_visit rm_X8_visit 3 := ⟨⟨_, rfl⟩, rfl, rfl, by decide +kernel, by decide +kernel, by decide +kernel⟩
theorem in_X8_visit_X8 : ∀ w ∈ wsX80, w ∈ wsX8_visit := by decide +kernel
theorem fl_X8_visit_9 : Fl RX8 wsX8_visit 9 8 0 true (.array .int) := ⟨_, _, _, tyX8, rfl, in_X8_visit_X8, by decide, by decide +kernel, tyX8_ok, nmX8, rfl, tyX8_ok 0 (by decide)⟩
theorem fl_X8_visit_15 : Fl RX8 wsX8_visit 15 8 1 true (.array .int) := ⟨_, _, _, tyX8, rfl, in_X8_visit_X8, by decide, by decide +kernel, tyX8_ok, nmX8, rfl, tyX8_ok 1 (by decide)⟩
theorem fl_X8_visit_18 : Fl RX8 wsX8_visit 18 8 2 true (.array .int) := ⟨_, _, _, tyX8, rfl, in_X8_visit_X8, by decide, by decide +kernel, tyX8_ok, nmX8, rfl, tyX8_ok 2 (by decide)⟩
theorem fl_X8_visit_21 : Fl RX8 wsX8_visit 21 8 3 true (.array .int) := ⟨_, _, _, tyX8, rfl, in_X8_visit_X8, by decide, by decide +kernel, tyX8_ok, nmX8, rfl, tyX8_ok 3 (by decide)⟩
theorem fl_X8_visit_24 : Fl RX8 wsX8_visit 24 8 4 true (.array .boolean) := ⟨_, _, _, tyX8, rfl, in_X8_visit_X8, by decide, by decide +kernel, tyX8_ok, nmX8, rfl, tyX8_ok 4 (by decide)⟩
theorem fl_X8_visit_35 : Fl RX8 wsX8_visit 35 8 6 false .int := ⟨_, _, _, tyX8, rfl, in_X8_visit_X8, by decide, by decide +kernel, tyX8_ok, nmX8, rfl, tyX8_ok 6 (by decide)⟩
set_option maxHeartbeats 4000000 in
set_option maxRecDepth 100000 in
theorem v_Wa_visit_85 {Γ : Cx} {ad : Nat → Nat} {rr : Int32} {σr : Mm} (O : Ok LT Γ ad cX8_visit 4 RX8 wsX8_visit rm_X8_visit none none σr) {σ : Mm} {s1 : Int32} {s2 : Int32}  (hf : f_Wa_visit_85 σ s1 s2 = some (rr, σr)) : X LT Γ ad σ 85 [(0, .ref (ad 26))] [.int s2, .int s1, .ref (ad 30)] := by
  unfold f_Wa_visit_85 at hf
  refine x_iastN O hf rfl dX8_visit_85 (fun σ1 hf => ?_)
  refine x_aload_n O 0 dX8_visit_86 rfl rfl ?_
  refine x_dup O dX8_visit_87 rfl ?_
  refine x_getI O fl_X8_visit_35 rfl dX8_visit_88 ?_
  refine x_iconst O (v := 1) dX8_visit_91 (by decide) ?_
  refine x_iadd O dX8_visit_92 ?_
  refine x_putIN O hf rfl rfl fl_X8_visit_35 rfl dX8_visit_93 (fun σ2 hf => ?_)
  have hk : ((0 : Int32), σ2) = (rr, σr) := Option.some.inj hf
  obtain ⟨rfl, rfl⟩ := Prod.mk.inj hk
  exact x_vret O rfl rfl rfl dX8_visit_96
set_option maxHeartbeats 4000000 in
set_option maxRecDepth 100000 in
theorem v_Wa_visit {Γ : Cx} {ad : Nat → Nat} {rr : Int32} {σr : Mm} (O : Ok LT Γ ad cX8_visit 4 RX8 wsX8_visit rm_X8_visit none none σr) {σ : Mm} {v1 : Int32} {v2 : Int32} {v3 : Int32}  (hf : f_Wa_visit σ v1 v2 v3 = some (rr, σr)) : X LT Γ ad σ 0 [(0, .ref (ad 26)), (1, .int v1), (2, .int v2), (3, .int v3)] [] := by
  unfold f_Wa_visit at hf
  refine x_iload_n O 1 dX8_visit_0 rfl rfl ?_
  refine x_if_lt O 23 hf dX8_visit_1 (by decide) (fun hf => ?_) (fun hf => ?_)
  · have hk : ((0 : Int32), σ) = (rr, σr) := Option.some.inj hf
    obtain ⟨rfl, rfl⟩ := Prod.mk.inj hk
    exact x_vret O rfl rfl rfl dX8_visit_23
  · refine x_aload_n O 0 dX8_visit_4 rfl rfl ?_
    refine x_getF O (t := 31) fl_X8_visit_24 rfl dX8_visit_5 ?_
    refine x_iload_n O 1 dX8_visit_8 rfl rfl ?_
    refine x_zald O hf rfl dX8_visit_9 (fun j1 hf => ?_)
    refine x_if_ne O 23 hf dX8_visit_10 (by decide) (fun hf => ?_) (fun hf => ?_)
    · have hk : ((0 : Int32), σ) = (rr, σr) := Option.some.inj hf
      obtain ⟨rfl, rfl⟩ := Prod.mk.inj hk
      exact x_vret O rfl rfl rfl dX8_visit_23
    · refine x_aload_n O 0 dX8_visit_13 rfl rfl ?_
      refine x_getI O fl_X8_visit_35 rfl dX8_visit_14 ?_
      refine x_sipush O (v := 340) dX8_visit_17 (by decide) ?_
      refine x_icmp_lt O 24 hf dX8_visit_20 (by decide) (fun hf => ?_) (fun hf => ?_)
      · refine x_aload_n O 0 dX8_visit_24 rfl rfl ?_
        refine x_getF O (t := 31) fl_X8_visit_24 rfl dX8_visit_25 ?_
        refine x_iload_n O 1 dX8_visit_28 rfl rfl ?_
        refine x_iconst O (v := 1) dX8_visit_29 (by decide) ?_
        refine x_zastN O hf (by decide) rfl dX8_visit_30 (fun σ1 hf => ?_)
        refine x_aload_n O 0 dX8_visit_31 rfl rfl ?_
        refine x_getF O (t := 27) fl_X8_visit_9 rfl dX8_visit_32 ?_
        refine x_aload_n O 0 dX8_visit_35 rfl rfl ?_
        refine x_getI O fl_X8_visit_35 rfl dX8_visit_36 ?_
        refine x_iload_n O 1 dX8_visit_39 rfl rfl ?_
        refine x_iastN O hf rfl dX8_visit_40 (fun σ2 hf => ?_)
        refine x_aload_n O 0 dX8_visit_41 rfl rfl ?_
        refine x_getF O (t := 28) fl_X8_visit_15 rfl dX8_visit_42 ?_
        refine x_aload_n O 0 dX8_visit_45 rfl rfl ?_
        refine x_getI O fl_X8_visit_35 rfl dX8_visit_46 ?_
        refine x_iload_n O 2 dX8_visit_49 rfl rfl ?_
        refine x_iastN O hf rfl dX8_visit_50 (fun σ3 hf => ?_)
        refine x_aload_n O 0 dX8_visit_51 rfl rfl ?_
        refine x_getF O (t := 29) fl_X8_visit_18 rfl dX8_visit_52 ?_
        refine x_aload_n O 0 dX8_visit_55 rfl rfl ?_
        refine x_getI O fl_X8_visit_35 rfl dX8_visit_56 ?_
        refine x_iload_n O 3 dX8_visit_59 rfl rfl ?_
        refine x_iastN O hf rfl dX8_visit_60 (fun σ4 hf => ?_)
        refine x_aload_n O 0 dX8_visit_61 rfl rfl ?_
        refine x_getF O (t := 30) fl_X8_visit_21 rfl dX8_visit_62 ?_
        refine x_aload_n O 0 dX8_visit_65 rfl rfl ?_
        refine x_getI O fl_X8_visit_35 rfl dX8_visit_66 ?_
        refine x_iload_n O 2 dX8_visit_69 rfl rfl ?_
        refine x_if_ge O 77 hf dX8_visit_70 (by decide) (fun hf => ?_) (fun hf => ?_)
        · refine x_aload_n O 0 dX8_visit_77 rfl rfl ?_
          refine x_getF O (t := 30) fl_X8_visit_21 rfl dX8_visit_78 ?_
          refine x_iload_n O 2 dX8_visit_81 rfl rfl ?_
          refine x_iald O hf rfl dX8_visit_82 (fun j6 hf => ?_)
          refine x_iconst O (v := 1) dX8_visit_83 (by decide) ?_
          refine x_iadd O dX8_visit_84 ?_
          exact x_jmp O (v_Wa_visit_85 O (σ := σ4) (s1 := (gI σ4 26 6)) (s2 := ((gA σ4 30 j6) + 1))  hf) rfl
        · refine x_iconst O (v := 0) dX8_visit_73 (by decide) ?_
          refine x_goto O 85 dX8_visit_74 (by decide) ?_
          exact x_jmp O (v_Wa_visit_85 O (σ := σ4) (s1 := (gI σ4 26 6)) (s2 := 0)  hf) rfl
      · have hk : ((0 : Int32), σ) = (rr, σr) := Option.some.inj hf
        obtain ⟨rfl, rfl⟩ := Prod.mk.inj hk
        exact x_vret O rfl rfl rfl dX8_visit_23
theorem k_Wa_visit {σ σr : Mm} {rr : Int32} {v1 : Int32} {v2 : Int32} {v3 : Int32}  (hf : f_Wa_visit σ v1 v2 v3 = some (rr, σr)) : CT LT yX8_visit wsX8_visit rm_X8_visit (fun ad => [.ref (ad 26), .int v1, .int v2, .int v3]) σ none σr := CT_of2 (cc := cX8_visit) (maxL := 4) (rt := none) (own := RX8) (by decide) rfl rfl (fun _ => Nat.le_of_ble_eq_true rfl) (fun _ => rfl) (fun Γ ad O => v_Wa_visit O  hf)

-- ===== TippedBarrow$Walk.visitFrom(II)I
theorem ca_X8_visitFrom : Ca yX8_visitFrom cX8_visitFrom 8 (some .int) wsX8_visitFrom rm_X8_visitFrom 2 := ⟨⟨_, rfl⟩, rfl, rfl, by decide +kernel, by decide +kernel, by decide +kernel⟩
theorem in_X8_visitFrom_X8 : ∀ w ∈ wsX80, w ∈ wsX8_visitFrom := by decide +kernel
theorem fl_X8_visitFrom_9 : Fl RX8 wsX8_visitFrom 9 8 0 true (.array .int) := ⟨_, _, _, tyX8, rfl, in_X8_visitFrom_X8, by decide, by decide +kernel, tyX8_ok, nmX8, rfl, tyX8_ok 0 (by decide)⟩
theorem fl_X8_visitFrom_31 : Fl RX8 wsX8_visitFrom 31 8 7 false (.object "TippedBarrow$Ground") := ⟨_, _, _, tyX8, rfl, in_X8_visitFrom_X8, by decide, by decide +kernel, tyX8_ok, nmX8, rfl, tyX8_ok 7 (by decide)⟩
theorem mw_X8_visitFrom_0 : Cond.static yX9_leanOf ∈ wsX8_visitFrom := by decide +kernel
theorem mw_X8_visitFrom_1 : Cond.initialized yX9_leanOf.cls ∈ wsX8_visitFrom := by decide +kernel
theorem mw_X8_visitFrom_2 : Cond.static yX9_spotOf ∈ wsX8_visitFrom := by decide +kernel
theorem mw_X8_visitFrom_3 : Cond.initialized yX9_spotOf.cls ∈ wsX8_visitFrom := by decide +kernel
theorem mw_X8_visitFrom_4 : Cond.static yX9_cellOf ∈ wsX8_visitFrom := by decide +kernel
theorem mw_X8_visitFrom_5 : Cond.initialized yX9_cellOf.cls ∈ wsX8_visitFrom := by decide +kernel
set_option maxHeartbeats 4000000 in
set_option maxRecDepth 100000 in
theorem v_Wa_visitFrom_13_b {Γ : Cx} {ad : Nat → Nat} {rr : Int32} {σr : Mm} (O : Ok LT Γ ad cX8_visitFrom 8 RX8 wsX8_visitFrom rm_X8_visitFrom (some .int) (some (.int rr)) σr) {σ : Mm} {v1 : Int32} {v2 : Int32} {v3 : Int32} {v4 : Int32}  {x : (Mm × Int32) ⊕ (Int32 × Mm)} (hf : f_Wa_visitFrom_13_b v1 v2 v3 σ v4 = some x) (hk : (kx (fun s : Mm × Int32 => X LT Γ ad s.1 13 [(0, .ref (ad 26)), (1, .int v1), (2, .int v2), (3, .int v3), (4, .int s.2)] []) (fun q : Int32 × Mm => q = (rr, σr))) x) : X LT Γ ad σ 13 [(0, .ref (ad 26)), (1, .int v1), (2, .int v2), (3, .int v3), (4, .int v4)] [] := by
  unfold f_Wa_visitFrom_13_b at hf
  refine x_iload O dX8_visitFrom_13 rfl ?_
  refine x_iconst O (v := 4) dX8_visitFrom_15 (by decide) ?_
  refine x_icmp_ge O 104 hf dX8_visitFrom_16 (by decide) (fun hf => ?_) (fun hf => ?_)
  · obtain ⟨x', hg1, hx⟩ := map_inr hf
    subst hx
    have hk := kx_r hk
    have hx : x' = (rr, σr) := hk
    subst hx
    have hf := hg1
    refine x_iconst O (v := -1) dX8_visitFrom_104 (by decide) ?_
    have hk : ((-1), σ) = (rr, σr) := Option.some.inj hf
    obtain ⟨rfl, rfl⟩ := Prod.mk.inj hk
    exact x_iret O rfl rfl ⟨_, rfl, rfl⟩ dX8_visitFrom_105
  · refine x_aload_n O 0 dX8_visitFrom_19 rfl rfl ?_
    refine x_getR O hf fl_X8_visitFrom_31 rfl dX8_visitFrom_20 (fun t1 ht1 hf => ?_)
    refine x_iload_n O 3 dX8_visitFrom_23 rfl rfl ?_
    refine x_iload O dX8_visitFrom_24 rfl ?_
    obtain ⟨r_1, σ1, hc, hf⟩ := bd_some hf
    refine x_callV O (k_Gr_beyond ht1 hc) ca_X2_beyond gX8_visitFrom_X2_beyond rfl (okCl_Gr ht1) rfl rfl rfl (Nat.le_of_ble_eq_true rfl) ⟨Nat.le_of_ble_eq_true rfl, Nat.le_of_ble_eq_true rfl⟩ dX8_visitFrom_26 ?_
    refine x_push O ?_
    refine x_istore O dX8_visitFrom_29 (by decide) ?_
    refine x_iload O dX8_visitFrom_31 rfl ?_
    refine x_if_ge O 39 hf dX8_visitFrom_33 (by decide) (fun hf => ?_) (fun hf => ?_)
    · refine x_aload_n O 0 dX8_visitFrom_39 rfl rfl ?_
      refine x_getR O hf fl_X8_visitFrom_31 rfl dX8_visitFrom_40 (fun t2 ht2 hf => ?_)
      refine x_iload O dX8_visitFrom_43 rfl ?_
      refine x_aload_n O 0 dX8_visitFrom_45 rfl rfl ?_
      refine x_getF O (t := 27) fl_X8_visitFrom_9 rfl dX8_visitFrom_46 ?_
      refine x_iload_n O 1 dX8_visitFrom_49 rfl rfl ?_
      refine x_iald O hf rfl dX8_visitFrom_50 (fun j1 hf => ?_)
      obtain ⟨r_2, σ2, hc, hf⟩ := bd_some hf
      refine x_callN O (k_T_leanOf  hc) ca_X9_leanOf gX8_visitFrom_X9_leanOf_n62 (by decide +kernel) mw_X8_visitFrom_0 mw_X8_visitFrom_1 rfl rfl rfl (Nat.le_of_ble_eq_true rfl) ⟨Nat.le_of_ble_eq_true rfl, Nat.le_of_ble_eq_true rfl⟩ dX8_visitFrom_51 ?_
      refine x_push O ?_
      obtain ⟨r_3, σ3, hc, hf⟩ := bd_some hf
      refine x_callV O (k_Gr_leanOn ht2 hc) ca_X2_leanOn gX8_visitFrom_X2_leanOn rfl (okCl_Gr ht2) rfl rfl rfl (Nat.le_of_ble_eq_true rfl) ⟨Nat.le_of_ble_eq_true rfl, Nat.le_of_ble_eq_true rfl⟩ dX8_visitFrom_54 ?_
      refine x_push O ?_
      refine x_istore O dX8_visitFrom_57 (by decide) ?_
      refine x_aload_n O 0 dX8_visitFrom_59 rfl rfl ?_
      refine x_getR O hf fl_X8_visitFrom_31 rfl dX8_visitFrom_60 (fun t3 ht3 hf => ?_)
      refine x_iload O dX8_visitFrom_63 rfl ?_
      obtain ⟨r_4, σ4, hc, hf⟩ := bd_some hf
      refine x_callV O (k_Gr_verdict ht3 hc) ca_X2_verdict gX8_visitFrom_X2_verdict rfl (okCl_Gr ht3) rfl rfl rfl (Nat.le_of_ble_eq_true rfl) ⟨Nat.le_of_ble_eq_true rfl, Nat.le_of_ble_eq_true rfl⟩ dX8_visitFrom_65 ?_
      refine x_push O ?_
      refine x_istore O dX8_visitFrom_68 (by decide) ?_
      refine x_iload O dX8_visitFrom_70 rfl ?_
      refine x_iload_n O 2 dX8_visitFrom_72 rfl rfl ?_
      refine x_icmp_ne O 79 hf dX8_visitFrom_73 (by decide) (fun hf => ?_) (fun hf => ?_)
      · refine x_iload O dX8_visitFrom_79 rfl ?_
        refine x_if_ne O 98 hf dX8_visitFrom_81 (by decide) (fun hf => ?_) (fun hf => ?_)
        · refine x_iincN O hf dX8_visitFrom_98 rfl rfl (by decide) (fun y1 hf => ?_)
          refine x_goto O 13 dX8_visitFrom_101 (by decide) ?_
          obtain rfl := Option.some.inj hf
          have hk := kx_l hk
          exact x_jmp O hk rfl
        · refine x_aload_n O 0 dX8_visitFrom_84 rfl rfl ?_
          refine x_iload O dX8_visitFrom_85 rfl ?_
          refine x_iload O dX8_visitFrom_87 rfl ?_
          obtain ⟨r_5, σ5, hc, hf⟩ := bd_some hf
          refine x_callN O (k_T_spotOf  hc) ca_X9_spotOf gX8_visitFrom_X9_spotOf_n39 (by decide +kernel) mw_X8_visitFrom_2 mw_X8_visitFrom_3 rfl rfl rfl (Nat.le_of_ble_eq_true rfl) ⟨Nat.le_of_ble_eq_true rfl, Nat.le_of_ble_eq_true rfl⟩ dX8_visitFrom_89 ?_
          refine x_push O ?_
          refine x_iload_n O 1 dX8_visitFrom_92 rfl rfl ?_
          refine x_iload O dX8_visitFrom_93 rfl ?_
          obtain ⟨r_6, σ6, hc, hf⟩ := bd_some hf
          refine x_callV O (k_Wa_visit  hc) ca_X8_visit gX8_visitFrom_X8_visit rfl ⟨_, _, _, _, rfl, rfl⟩ rfl rfl rfl (Nat.le_of_ble_eq_true rfl) ⟨Nat.le_of_ble_eq_true rfl, Nat.le_of_ble_eq_true rfl⟩ dX8_visitFrom_95 ?_
          refine x_pushN O ?_
          refine x_iincN O hf dX8_visitFrom_98 rfl rfl (by decide) (fun y2 hf => ?_)
          refine x_goto O 13 dX8_visitFrom_101 (by decide) ?_
          obtain rfl := Option.some.inj hf
          have hk := kx_l hk
          exact x_jmp O hk rfl
      · obtain ⟨x', hg2, hx⟩ := map_inr hf
        subst hx
        have hk := kx_r hk
        have hx : x' = (rr, σr) := hk
        subst hx
        have hf := hg2
        refine x_iload O dX8_visitFrom_76 rfl ?_
        have hk : (v4, σ4) = (rr, σr) := Option.some.inj hf
        obtain ⟨rfl, rfl⟩ := Prod.mk.inj hk
        exact x_iret O rfl rfl ⟨_, rfl, rfl⟩ dX8_visitFrom_78
    · refine x_goto O 98 dX8_visitFrom_36 (by decide) ?_
      refine x_iincN O hf dX8_visitFrom_98 rfl rfl (by decide) (fun y3 hf => ?_)
      refine x_goto O 13 dX8_visitFrom_101 (by decide) ?_
      obtain rfl := Option.some.inj hf
      have hk := kx_l hk
      exact x_jmp O hk rfl
set_option maxHeartbeats 4000000 in
set_option maxRecDepth 100000 in
theorem v_Wa_visitFrom_13 {Γ : Cx} {ad : Nat → Nat} {rr : Int32} {σr : Mm} (O : Ok LT Γ ad cX8_visitFrom 8 RX8 wsX8_visitFrom rm_X8_visitFrom (some .int) (some (.int rr)) σr) {σ : Mm} {v1 : Int32} {v2 : Int32} {v3 : Int32} {v4 : Int32}  (hf : f_Wa_visitFrom_13 σ v1 v2 v3 v4 = some (rr, σr)) : X LT Γ ad σ 13 [(0, .ref (ad 26)), (1, .int v1), (2, .int v2), (3, .int v3), (4, .int v4)] [] := lpX (P := (fun s : Mm × Int32 => X LT Γ ad s.1 13 [(0, .ref (ad 26)), (1, .int v1), (2, .int v2), (3, .int v3), (4, .int s.2)] [])) (K := (fun q : Int32 × Mm => q = (rr, σr))) (fun s x g1 g2 => v_Wa_visitFrom_13_b O (σ := s.1) (v1 := v1) (v2 := v2) (v3 := v3) (v4 := s.2)  g1 g2) (σ, v4) _ hf rfl
set_option maxHeartbeats 4000000 in
set_option maxRecDepth 100000 in
theorem v_Wa_visitFrom {Γ : Cx} {ad : Nat → Nat} {rr : Int32} {σr : Mm} (O : Ok LT Γ ad cX8_visitFrom 8 RX8 wsX8_visitFrom rm_X8_visitFrom (some .int) (some (.int rr)) σr) {σ : Mm} {v1 : Int32} {v2 : Int32}  (hf : f_Wa_visitFrom σ v1 v2 = some (rr, σr)) : X LT Γ ad σ 0 [(0, .ref (ad 26)), (1, .int v1), (2, .int v2)] [] := by
  unfold f_Wa_visitFrom at hf
  refine x_aload_n O 0 dX8_visitFrom_0 rfl rfl ?_
  refine x_getF O (t := 27) fl_X8_visitFrom_9 rfl dX8_visitFrom_1 ?_
  refine x_iload_n O 1 dX8_visitFrom_4 rfl rfl ?_
  refine x_iald O hf rfl dX8_visitFrom_5 (fun j1 hf => ?_)
  obtain ⟨r_1, σ1, hc, hf⟩ := bd_some hf
  refine x_callN O (k_T_cellOf  hc) ca_X9_cellOf gX8_visitFrom_X9_cellOf_n53 (by decide +kernel) mw_X8_visitFrom_4 mw_X8_visitFrom_5 rfl rfl rfl (Nat.le_of_ble_eq_true rfl) ⟨Nat.le_of_ble_eq_true rfl, Nat.le_of_ble_eq_true rfl⟩ dX8_visitFrom_6 ?_
  refine x_push O ?_
  refine x_istore_n O 3 dX8_visitFrom_9 rfl (by decide) ?_
  refine x_iconst O (v := 0) dX8_visitFrom_10 (by decide) ?_
  refine x_istore O dX8_visitFrom_11 (by decide) ?_
  exact x_jmp O (v_Wa_visitFrom_13 O (σ := σ1) (v1 := v1) (v2 := v2) (v3 := r_1) (v4 := 0)  hf) rfl
theorem k_Wa_visitFrom {σ σr : Mm} {rr : Int32} {v1 : Int32} {v2 : Int32}  (hf : f_Wa_visitFrom σ v1 v2 = some (rr, σr)) : CT LT yX8_visitFrom wsX8_visitFrom rm_X8_visitFrom (fun ad => [.ref (ad 26), .int v1, .int v2]) σ (some (.int rr)) σr := CT_of2 (cc := cX8_visitFrom) (maxL := 8) (rt := (some .int)) (own := RX8) (by decide) rfl rfl (fun _ => Nat.le_of_ble_eq_true rfl) (fun _ => rfl) (fun Γ ad O => v_Wa_visitFrom O  hf)
