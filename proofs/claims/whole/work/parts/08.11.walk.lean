-- ===== TippedBarrow$Ground.become(LTippedBarrow$Ground;)V
theorem ca_X2_become : Ca yX2_become cX2_become 2 none wsX2_become rm_X2_become 1 := ⟨⟨_, rfl⟩, rfl, rfl, by decide +kernel, by decide +kernel, by decide +kernel⟩
theorem in_X2_become_X2 : ∀ w ∈ wsX20, w ∈ wsX2_become := by decide +kernel
theorem fl_X2_become_9 : Fl RX2 wsX2_become 9 2 1 true (.array .int) := ⟨_, _, _, tyX2, rfl, in_X2_become_X2, by decide, by decide +kernel, tyX2_ok, nmX2, rfl, tyX2_ok 1 (by decide)⟩
theorem fl_X2_become_15 : Fl RX2 wsX2_become 15 2 2 false .int := ⟨_, _, _, tyX2, rfl, in_X2_become_X2, by decide, by decide +kernel, tyX2_ok, nmX2, rfl, tyX2_ok 2 (by decide)⟩
theorem fl_X2_become_19 : Fl RX2 wsX2_become 19 2 0 true (.array .int) := ⟨_, _, _, tyX2, rfl, in_X2_become_X2, by decide, by decide +kernel, tyX2_ok, nmX2, rfl, tyX2_ok 0 (by decide)⟩
theorem fl_X2_become_48 : Fl RX2 wsX2_become 48 2 3 false .int := ⟨_, _, _, tyX2, rfl, in_X2_become_X2, by decide, by decide +kernel, tyX2_ok, nmX2, rfl, tyX2_ok 3 (by decide)⟩
theorem mw_X2_become_0 : Cond.methodLink RX2 42 arraycopyName ∈ wsX2_become := by decide +kernel
theorem mw_X2_become_1 : Cond.native arraycopyName ∈ wsX2_become := by decide +kernel
theorem mw_X2_become_2 : Cond.static arraycopyName ∈ wsX2_become := by decide +kernel
theorem mw_X2_become_3 : Cond.initialized "java/lang/System" ∈ wsX2_become := by decide +kernel
set_option maxHeartbeats 4000000 in
set_option maxRecDepth 100000 in
theorem v_Gr_become {Γ : Cx} {ad : Nat → Nat} {rr : Int32} {σr : Mm} (O : Ok LT Γ ad cX2_become 2 RX2 wsX2_become rm_X2_become none none σr) {σ : Mm} {r0 : Nat} {r1 : Nat} (h0 : okGr r0 = true) (h1 : okGr r1 = true) (hf : f_Gr_become σ r0 r1 = some (rr, σr)) : X LT Γ ad σ 0 [(0, .ref (ad r0)), (1, .ref (ad r1))] [] := by
  unfold f_Gr_become at hf
  refine x_aload_n O 1 dX2_become_0 rfl rfl ?_
  refine x_getF O (t := (gTl r1)) fl_X2_become_19 (fk_of (fkGr h1) rfl) dX2_become_1 ?_
  refine x_iconst O (v := 0) dX2_become_4 (by decide) ?_
  refine x_aload_n O 0 dX2_become_5 rfl rfl ?_
  refine x_getF O (t := (gTl r0)) fl_X2_become_19 (fk_of (fkGr h0) rfl) dX2_become_6 ?_
  refine x_iconst O (v := 0) dX2_become_9 (by decide) ?_
  refine x_bipush O (v := 20) dX2_become_10 (by decide) ?_
  refine x_copyN O hf mw_X2_become_0 mw_X2_become_1 mw_X2_become_2 mw_X2_become_3 (arGrT h1) (arGrT h0) (by decide) (by decide) (by decide) (by decide) (by decide) (Nat.le_of_ble_eq_true rfl) (Nat.le_of_ble_eq_true rfl) dX2_become_12 (fun σ1 hf => ?_)
  refine x_aload_n O 1 dX2_become_15 rfl rfl ?_
  refine x_getF O (t := (r1 + 1)) fl_X2_become_9 (fk_of (fkGr h1) rfl) dX2_become_16 ?_
  refine x_iconst O (v := 0) dX2_become_19 (by decide) ?_
  refine x_aload_n O 0 dX2_become_20 rfl rfl ?_
  refine x_getF O (t := (r0 + 1)) fl_X2_become_9 (fk_of (fkGr h0) rfl) dX2_become_21 ?_
  refine x_iconst O (v := 0) dX2_become_24 (by decide) ?_
  refine x_bipush O (v := 80) dX2_become_25 (by decide) ?_
  refine x_copyN O hf mw_X2_become_0 mw_X2_become_1 mw_X2_become_2 mw_X2_become_3 (arGrN h1) (arGrN h0) (by decide) (by decide) (by decide) (by decide) (by decide) (Nat.le_of_ble_eq_true rfl) (Nat.le_of_ble_eq_true rfl) dX2_become_27 (fun σ2 hf => ?_)
  refine x_aload_n O 0 dX2_become_30 rfl rfl ?_
  refine x_aload_n O 1 dX2_become_31 rfl rfl ?_
  refine x_getI O fl_X2_become_15 (fk_of (fkGr h1) rfl) dX2_become_32 ?_
  refine x_putIN O hf rfl rfl fl_X2_become_15 (fk_of (fkGr h0) rfl) dX2_become_35 (fun σ3 hf => ?_)
  refine x_aload_n O 0 dX2_become_38 rfl rfl ?_
  refine x_aload_n O 1 dX2_become_39 rfl rfl ?_
  refine x_getI O fl_X2_become_48 (fk_of (fkGr h1) rfl) dX2_become_40 ?_
  refine x_putIN O hf rfl rfl fl_X2_become_48 (fk_of (fkGr h0) rfl) dX2_become_43 (fun σ4 hf => ?_)
  have hk : ((0 : Int32), σ4) = (rr, σr) := Option.some.inj hf
  obtain ⟨rfl, rfl⟩ := Prod.mk.inj hk
  exact x_vret O rfl rfl rfl dX2_become_46
theorem k_Gr_become {σ σr : Mm} {rr : Int32} {r0 : Nat} {r1 : Nat} (h0 : okGr r0 = true) (h1 : okGr r1 = true) (hf : f_Gr_become σ r0 r1 = some (rr, σr)) : CT LT yX2_become wsX2_become rm_X2_become (fun ad => [.ref (ad r0), .ref (ad r1)]) σ none σr := CT_of2 (cc := cX2_become) (maxL := 2) (rt := none) (own := RX2) (by decide) rfl rfl (fun _ => Nat.le_of_ble_eq_true rfl) (fun _ => rfl) (fun Γ ad O => v_Gr_become O h0 h1 hf)

-- ===== TippedBarrow.decides()I
theorem ca_X9_decides : Ca yX9_decides cX9_decides 5 (some .int) wsX9_decides rm_X9_decides 0 := ⟨⟨_, rfl⟩, rfl, rfl, by decide +kernel, by decide +kernel, by decide +kernel⟩
theorem in_X9_decides_X2 : ∀ w ∈ wsX20, w ∈ wsX9_decides := by decide +kernel
theorem in_X9_decides_X4 : ∀ w ∈ wsX40, w ∈ wsX9_decides := by decide +kernel
theorem in_X9_decides_X9 : ∀ w ∈ wsX90, w ∈ wsX9_decides := by decide +kernel
theorem fl_X9_decides_38 : Fl RX9 wsX9_decides 38 9 4 true (.object "TippedBarrow$Moment") := ⟨_, _, _, tyX9, rfl, in_X9_decides_X9, by decide, by decide +kernel, tyX9_ok, nmX9, rfl, tyX9_ok 4 (by decide)⟩
theorem fl_X9_decides_51 : Fl RX9 wsX9_decides 51 9 5 true (.object "TippedBarrow$Ground") := ⟨_, _, _, tyX9, rfl, in_X9_decides_X9, by decide, by decide +kernel, tyX9_ok, nmX9, rfl, tyX9_ok 5 (by decide)⟩
theorem fl_X9_decides_55 : Fl RX9 wsX9_decides 55 9 6 true (.object "TippedBarrow$Ground") := ⟨_, _, _, tyX9, rfl, in_X9_decides_X9, by decide, by decide +kernel, tyX9_ok, nmX9, rfl, tyX9_ok 6 (by decide)⟩
theorem fl_X9_decides_79 : Fl RX9 wsX9_decides 79 9 13 true (.object "TippedBarrow$Contest") := ⟨_, _, _, tyX9, rfl, in_X9_decides_X9, by decide, by decide +kernel, tyX9_ok, nmX9, rfl, tyX9_ok 13 (by decide)⟩
theorem fl_X9_decides_138 : Fl RX9 wsX9_decides 138 4 3 false .int := ⟨_, _, _, tyX4, rfl, in_X9_decides_X4, by decide, by decide +kernel, tyX4_ok, nmX4, rfl, tyX4_ok 3 (by decide)⟩
theorem fl_X9_decides_141 : Fl RX9 wsX9_decides 141 4 4 false .int := ⟨_, _, _, tyX4, rfl, in_X9_decides_X4, by decide, by decide +kernel, tyX4_ok, nmX4, rfl, tyX4_ok 4 (by decide)⟩
theorem fl_X9_decides_144 : Fl RX9 wsX9_decides 144 4 5 false .int := ⟨_, _, _, tyX4, rfl, in_X9_decides_X4, by decide, by decide +kernel, tyX4_ok, nmX4, rfl, tyX4_ok 5 (by decide)⟩
theorem fl_X9_decides_224 : Fl RX9 wsX9_decides 224 2 0 true (.array .int) := ⟨_, _, _, tyX2, rfl, in_X9_decides_X2, by decide, by decide +kernel, tyX2_ok, nmX2, rfl, tyX2_ok 0 (by decide)⟩
set_option maxHeartbeats 4000000 in
set_option maxRecDepth 100000 in
theorem v_T_decides_156 {Γ : Cx} {ad : Nat → Nat} {rr : Int32} {σr : Mm} (O : Ok LT Γ ad cX9_decides 5 RX9 wsX9_decides rm_X9_decides (some .int) (some (.int rr)) σr) {σ : Mm} {v1 : Int32} {v2 : Int32} {v3 : Int32} {v4 : Int32}  {x : (Mm × Int32 × Int32) ⊕ (Int32 × Mm)} (hf : f_T_decides_156 σ v2 v3 v4 = some x) (hk : (kx (fun s : Mm × Int32 × Int32 => X LT Γ ad s.1 65 [(0, .ref (ad 0)), (1, .int v1), (2, .int s.2.1), (3, .int s.2.2)] []) (fun q : Int32 × Mm => q = (rr, σr))) x) : X LT Γ ad σ 156 [(0, .ref (ad 0)), (1, .int v1), (2, .int v2), (3, .int v3), (4, .int v4)] [] := by
  unfold f_T_decides_156 at hf
  refine x_aload_n O 0 dX9_decides_156 rfl rfl ?_
  refine x_getF O (t := 13) fl_X9_decides_55 rfl dX9_decides_157 ?_
  refine x_getF O (t := 15) fl_X9_decides_224 rfl dX9_decides_160 ?_
  refine x_iload_n O 3 dX9_decides_163 rfl rfl ?_
  refine x_iload O dX9_decides_164 rfl ?_
  refine x_iastN O hf rfl dX9_decides_166 (fun σ1 hf => ?_)
  refine x_iincN O hf dX9_decides_167 rfl rfl (by decide) (fun y1 hf => ?_)
  refine x_goto O 65 dX9_decides_170 (by decide) ?_
  obtain rfl := Option.some.inj hf
  have hk := kx_l hk
  exact x_jmp O hk rfl
set_option maxHeartbeats 4000000 in
set_option maxRecDepth 100000 in
theorem v_T_decides_65_b {Γ : Cx} {ad : Nat → Nat} {rr : Int32} {σr : Mm} (O : Ok LT Γ ad cX9_decides 5 RX9 wsX9_decides rm_X9_decides (some .int) (some (.int rr)) σr) {σ : Mm} {v1 : Int32} {v2 : Int32} {v3 : Int32}  {x : (Mm × Int32 × Int32) ⊕ (Int32 × Mm)} (hf : f_T_decides_65_b v1 σ v2 v3 = some x) (hk : (kx (fun s : Mm × Int32 × Int32 => X LT Γ ad s.1 65 [(0, .ref (ad 0)), (1, .int v1), (2, .int s.2.1), (3, .int s.2.2)] []) (fun q : Int32 × Mm => q = (rr, σr))) x) : X LT Γ ad σ 65 [(0, .ref (ad 0)), (1, .int v1), (2, .int v2), (3, .int v3)] [] := by
  unfold f_T_decides_65_b at hf
  refine x_iload_n O 3 dX9_decides_65 rfl rfl ?_
  refine x_bipush O (v := 20) dX9_decides_66 (by decide) ?_
  refine x_icmp_ge O 173 hf dX9_decides_68 (by decide) (fun hf => ?_) (fun hf => ?_)
  · obtain ⟨x', hg1, hx⟩ := map_inr hf
    subst hx
    have hk := kx_r hk
    have hx : x' = (rr, σr) := hk
    subst hx
    have hf := hg1
    refine x_iload_n O 2 dX9_decides_173 rfl rfl ?_
    have hk : (v2, σ) = (rr, σr) := Option.some.inj hf
    obtain ⟨rfl, rfl⟩ := Prod.mk.inj hk
    exact x_iret O rfl rfl ⟨_, rfl, rfl⟩ dX9_decides_174
  · refine x_aload_n O 0 dX9_decides_71 rfl rfl ?_
    refine x_getF O (t := 13) fl_X9_decides_55 rfl dX9_decides_72 ?_
    refine x_getF O (t := 15) fl_X9_decides_224 rfl dX9_decides_75 ?_
    refine x_iload_n O 3 dX9_decides_78 rfl rfl ?_
    refine x_iald O hf rfl dX9_decides_79 (fun j1 hf => ?_)
    refine x_istoreN O hf dX9_decides_80 (by decide) (fun y1 hf => ?_)
    refine x_iload O dX9_decides_82 rfl ?_
    refine x_bipush O (v := 100) dX9_decides_84 (by decide) ?_
    refine x_icmp_eq O 167 hf dX9_decides_86 (by decide) (fun hf => ?_) (fun hf => ?_)
    · refine x_iincN O hf dX9_decides_167 rfl rfl (by decide) (fun y2 hf => ?_)
      refine x_goto O 65 dX9_decides_170 (by decide) ?_
      obtain rfl := Option.some.inj hf
      have hk := kx_l hk
      exact x_jmp O hk rfl
    · refine x_iload O dX9_decides_89 rfl ?_
      refine x_if_ne O 97 hf dX9_decides_91 (by decide) (fun hf => ?_) (fun hf => ?_)
      · refine x_aload_n O 0 dX9_decides_97 rfl rfl ?_
        refine x_getF O (t := 13) fl_X9_decides_55 rfl dX9_decides_98 ?_
        refine x_getF O (t := 15) fl_X9_decides_224 rfl dX9_decides_101 ?_
        refine x_iload_n O 3 dX9_decides_104 rfl rfl ?_
        refine x_iconst O (v := 0) dX9_decides_105 (by decide) ?_
        refine x_iastN O hf rfl dX9_decides_106 (fun σ1 hf => ?_)
        refine x_aload_n O 0 dX9_decides_107 rfl rfl ?_
        refine x_getF O (t := 21) fl_X9_decides_79 rfl dX9_decides_108 ?_
        refine x_aload_n O 0 dX9_decides_111 rfl rfl ?_
        refine x_getF O (t := 13) fl_X9_decides_55 rfl dX9_decides_112 ?_
        obtain ⟨r_1, σ2, hc, hf⟩ := bd_some hf
        refine x_callV O (k_Co_solve rfl hc) ca_X1_solve gX9_decides_X1_solve rfl ⟨_, _, _, _, rfl, rfl⟩ rfl rfl rfl (Nat.le_of_ble_eq_true rfl) ⟨Nat.le_of_ble_eq_true rfl, Nat.le_of_ble_eq_true rfl⟩ dX9_decides_115 ?_
        refine x_pushN O ?_
        refine x_aload_n O 0 dX9_decides_118 rfl rfl ?_
        refine x_getF O (t := 21) fl_X9_decides_79 rfl dX9_decides_119 ?_
        refine x_aload_n O 0 dX9_decides_122 rfl rfl ?_
        refine x_getF O (t := 36) fl_X9_decides_38 rfl dX9_decides_123 ?_
        refine x_getI O fl_X9_decides_138 rfl dX9_decides_126 ?_
        refine x_aload_n O 0 dX9_decides_129 rfl rfl ?_
        refine x_getF O (t := 36) fl_X9_decides_38 rfl dX9_decides_130 ?_
        refine x_getI O fl_X9_decides_141 rfl dX9_decides_133 ?_
        refine x_aload_n O 0 dX9_decides_136 rfl rfl ?_
        refine x_getF O (t := 36) fl_X9_decides_38 rfl dX9_decides_137 ?_
        refine x_getI O fl_X9_decides_144 rfl dX9_decides_140 ?_
        obtain ⟨r_2, σ3, hc, hf⟩ := bd_some hf
        refine x_callV O (k_Co_winner  hc) ca_X1_winner gX9_decides_X1_winner rfl ⟨_, _, _, _, rfl, rfl⟩ rfl rfl rfl (Nat.le_of_ble_eq_true rfl) ⟨Nat.le_of_ble_eq_true rfl, Nat.le_of_ble_eq_true rfl⟩ dX9_decides_143 ?_
        refine x_push O ?_
        refine x_iload_n O 1 dX9_decides_146 rfl rfl ?_
        refine x_icmp_eq O 156 hf dX9_decides_147 (by decide) (fun hf => ?_) (fun hf => ?_)
        · exact x_jmp O (v_T_decides_156 O (σ := σ3) (v1 := v1) (v2 := v2) (v3 := v3) (v4 := y1)  hf hk) rfl
        · refine x_iload_n O 2 dX9_decides_150 rfl rfl ?_
          refine x_iconst O (v := 1) dX9_decides_151 (by decide) ?_
          refine x_iload_n O 3 dX9_decides_152 rfl rfl ?_
          refine x_ishl O dX9_decides_153 ?_
          refine x_ior O dX9_decides_154 ?_
          refine x_istore_nN O 2 hf dX9_decides_155 rfl (by decide) (fun y3 hf => ?_)
          exact x_jmp O (v_T_decides_156 O (σ := σ3) (v1 := v1) (v2 := y3) (v3 := v3) (v4 := y1)  hf hk) rfl
      · refine x_goto O 167 dX9_decides_94 (by decide) ?_
        refine x_iincN O hf dX9_decides_167 rfl rfl (by decide) (fun y4 hf => ?_)
        refine x_goto O 65 dX9_decides_170 (by decide) ?_
        obtain rfl := Option.some.inj hf
        have hk := kx_l hk
        exact x_jmp O hk rfl
set_option maxHeartbeats 4000000 in
set_option maxRecDepth 100000 in
theorem v_T_decides_65 {Γ : Cx} {ad : Nat → Nat} {rr : Int32} {σr : Mm} (O : Ok LT Γ ad cX9_decides 5 RX9 wsX9_decides rm_X9_decides (some .int) (some (.int rr)) σr) {σ : Mm} {v1 : Int32} {v2 : Int32} {v3 : Int32}  (hf : f_T_decides_65 σ v1 v2 v3 = some (rr, σr)) : X LT Γ ad σ 65 [(0, .ref (ad 0)), (1, .int v1), (2, .int v2), (3, .int v3)] [] := lpX (P := (fun s : Mm × Int32 × Int32 => X LT Γ ad s.1 65 [(0, .ref (ad 0)), (1, .int v1), (2, .int s.2.1), (3, .int s.2.2)] [])) (K := (fun q : Int32 × Mm => q = (rr, σr))) (fun s x g1 g2 => v_T_decides_65_b O (σ := s.1) (v1 := v1) (v2 := s.2.1) (v3 := s.2.2)  g1 g2) (σ, v2, v3) _ hf rfl
set_option maxHeartbeats 4000000 in
set_option maxRecDepth 100000 in
theorem v_T_decides {Γ : Cx} {ad : Nat → Nat} {rr : Int32} {σr : Mm} (O : Ok LT Γ ad cX9_decides 5 RX9 wsX9_decides rm_X9_decides (some .int) (some (.int rr)) σr) {σ : Mm}   (hf : f_T_decides σ = some (rr, σr)) : X LT Γ ad σ 0 [(0, .ref (ad 0))] [] := by
  unfold f_T_decides at hf
  refine x_aload_n O 0 dX9_decides_0 rfl rfl ?_
  obtain ⟨r_1, σ1, hc, hf⟩ := bd_some hf
  refine x_callV O (k_T_hasNoStart  hc) ca_X9_hasNoStart gX9_decides_X9_hasNoStart rfl ⟨_, _, _, _, rfl, rfl⟩ rfl rfl rfl (Nat.le_of_ble_eq_true rfl) ⟨Nat.le_of_ble_eq_true rfl, Nat.le_of_ble_eq_true rfl⟩ dX9_decides_1 ?_
  refine x_push O ?_
  refine x_if_eq O 10 hf dX9_decides_4 (by decide) (fun hf => ?_) (fun hf => ?_)
  · refine x_aload_n O 0 dX9_decides_10 rfl rfl ?_
    refine x_getF O (t := 21) fl_X9_decides_79 rfl dX9_decides_11 ?_
    refine x_aload_n O 0 dX9_decides_14 rfl rfl ?_
    refine x_getF O (t := 11) fl_X9_decides_51 rfl dX9_decides_15 ?_
    obtain ⟨r_2, σ2, hc, hf⟩ := bd_some hf
    refine x_callV O (k_Co_solve rfl hc) ca_X1_solve gX9_decides_X1_solve rfl ⟨_, _, _, _, rfl, rfl⟩ rfl rfl rfl (Nat.le_of_ble_eq_true rfl) ⟨Nat.le_of_ble_eq_true rfl, Nat.le_of_ble_eq_true rfl⟩ dX9_decides_18 ?_
    refine x_pushN O ?_
    refine x_aload_n O 0 dX9_decides_21 rfl rfl ?_
    refine x_getF O (t := 21) fl_X9_decides_79 rfl dX9_decides_22 ?_
    refine x_aload_n O 0 dX9_decides_25 rfl rfl ?_
    refine x_getF O (t := 36) fl_X9_decides_38 rfl dX9_decides_26 ?_
    refine x_getI O fl_X9_decides_138 rfl dX9_decides_29 ?_
    refine x_aload_n O 0 dX9_decides_32 rfl rfl ?_
    refine x_getF O (t := 36) fl_X9_decides_38 rfl dX9_decides_33 ?_
    refine x_getI O fl_X9_decides_141 rfl dX9_decides_36 ?_
    refine x_aload_n O 0 dX9_decides_39 rfl rfl ?_
    refine x_getF O (t := 36) fl_X9_decides_38 rfl dX9_decides_40 ?_
    refine x_getI O fl_X9_decides_144 rfl dX9_decides_43 ?_
    obtain ⟨r_3, σ3, hc, hf⟩ := bd_some hf
    refine x_callV O (k_Co_winner  hc) ca_X1_winner gX9_decides_X1_winner rfl ⟨_, _, _, _, rfl, rfl⟩ rfl rfl rfl (Nat.le_of_ble_eq_true rfl) ⟨Nat.le_of_ble_eq_true rfl, Nat.le_of_ble_eq_true rfl⟩ dX9_decides_46 ?_
    refine x_push O ?_
    refine x_istore_n O 1 dX9_decides_49 rfl (by decide) ?_
    refine x_iconst O (v := 0) dX9_decides_50 (by decide) ?_
    refine x_istore_n O 2 dX9_decides_51 rfl (by decide) ?_
    refine x_aload_n O 0 dX9_decides_52 rfl rfl ?_
    refine x_getF O (t := 13) fl_X9_decides_55 rfl dX9_decides_53 ?_
    refine x_aload_n O 0 dX9_decides_56 rfl rfl ?_
    refine x_getF O (t := 11) fl_X9_decides_51 rfl dX9_decides_57 ?_
    obtain ⟨r_4, σ4, hc, hf⟩ := bd_some hf
    refine x_callV O (k_Gr_become rfl rfl hc) ca_X2_become gX9_decides_X2_become rfl ⟨_, _, _, _, rfl, rfl⟩ rfl rfl rfl (Nat.le_of_ble_eq_true rfl) ⟨Nat.le_of_ble_eq_true rfl, Nat.le_of_ble_eq_true rfl⟩ dX9_decides_60 ?_
    refine x_pushN O ?_
    refine x_iconst O (v := 0) dX9_decides_63 (by decide) ?_
    refine x_istore_n O 3 dX9_decides_64 rfl (by decide) ?_
    exact x_jmp O (v_T_decides_65 O (σ := σ4) (v1 := r_3) (v2 := 0) (v3 := 0)  hf) rfl
  · refine x_bipush O (v := -2) dX9_decides_7 (by decide) ?_
    have hk : ((-2), σ1) = (rr, σr) := Option.some.inj hf
    obtain ⟨rfl, rfl⟩ := Prod.mk.inj hk
    exact x_iret O rfl rfl ⟨_, rfl, rfl⟩ dX9_decides_9
theorem k_T_decides {σ σr : Mm} {rr : Int32}   (hf : f_T_decides σ = some (rr, σr)) : CT LT yX9_decides wsX9_decides rm_X9_decides (fun ad => [.ref (ad 0)]) σ (some (.int rr)) σr := CT_of2 (cc := cX9_decides) (maxL := 5) (rt := (some .int)) (own := RX9) (by decide) rfl rfl (fun _ => Nat.le_of_ble_eq_true rfl) (fun _ => rfl) (fun Γ ad O => v_T_decides O  hf)

-- ===== TippedBarrow.tells(I)I
theorem ca_X9_tells : Ca yX9_tells cX9_tells 2 (some .int) wsX9_tells rm_X9_tells 1 := ⟨⟨_, rfl⟩, rfl, rfl, by decide +kernel, by decide +kernel, by decide +kernel⟩
theorem in_X9_tells_X9 : ∀ w ∈ wsX90, w ∈ wsX9_tells := by decide +kernel
theorem fl_X9_tells_73 : Fl RX9 wsX9_tells 73 9 10 true (.array .int) := ⟨_, _, _, tyX9, rfl, in_X9_tells_X9, by decide, by decide +kernel, tyX9_ok, nmX9, rfl, tyX9_ok 10 (by decide)⟩
theorem fl_X9_tells_127 : Fl RX9 wsX9_tells 127 9 11 false .int := ⟨_, _, _, tyX9, rfl, in_X9_tells_X9, by decide, by decide +kernel, tyX9_ok, nmX9, rfl, tyX9_ok 11 (by decide)⟩
set_option maxHeartbeats 4000000 in
set_option maxRecDepth 100000 in
theorem v_T_tells {Γ : Cx} {ad : Nat → Nat} {rr : Int32} {σr : Mm} (O : Ok LT Γ ad cX9_tells 2 RX9 wsX9_tells rm_X9_tells (some .int) (some (.int rr)) σr) {σ : Mm} {v1 : Int32}  (hf : f_T_tells σ v1 = some (rr, σr)) : X LT Γ ad σ 0 [(0, .ref (ad 0)), (1, .int v1)] [] := by
  unfold f_T_tells at hf
  refine x_iload_n O 1 dX9_tells_0 rfl rfl ?_
  obtain ⟨r_1, σ1, hc, hf⟩ := bd_some hf
  refine x_callS O (k_T_isNoWay  hc) ca_X9_isNoWay gX9_tells_X9_isNoWay rfl rfl rfl (Nat.le_of_ble_eq_true rfl) ⟨Nat.le_of_ble_eq_true rfl, Nat.le_of_ble_eq_true rfl⟩ dX9_tells_1 ?_
  refine x_push O ?_
  refine x_if_eq O 9 hf dX9_tells_4 (by decide) (fun hf => ?_) (fun hf => ?_)
  · refine x_aload_n O 0 dX9_tells_9 rfl rfl ?_
    refine x_getI O fl_X9_tells_127 rfl dX9_tells_10 ?_
    refine x_bipush O (v := 8) dX9_tells_13 (by decide) ?_
    refine x_icmp_lt O 21 hf dX9_tells_15 (by decide) (fun hf => ?_) (fun hf => ?_)
    · refine x_aload_n O 0 dX9_tells_21 rfl rfl ?_
      refine x_getF O (t := 20) fl_X9_tells_73 rfl dX9_tells_22 ?_
      refine x_aload_n O 0 dX9_tells_25 rfl rfl ?_
      refine x_getI O fl_X9_tells_127 rfl dX9_tells_26 ?_
      refine x_iload_n O 1 dX9_tells_29 rfl rfl ?_
      refine x_iastN O hf rfl dX9_tells_30 (fun σ2 hf => ?_)
      refine x_aload_n O 0 dX9_tells_31 rfl rfl ?_
      refine x_dup O dX9_tells_32 rfl ?_
      refine x_getI O fl_X9_tells_127 rfl dX9_tells_33 ?_
      refine x_iconst O (v := 1) dX9_tells_36 (by decide) ?_
      refine x_iadd O dX9_tells_37 ?_
      refine x_putIN O hf rfl rfl fl_X9_tells_127 rfl dX9_tells_38 (fun σ3 hf => ?_)
      refine x_aload_n O 0 dX9_tells_41 rfl rfl ?_
      refine x_getI O fl_X9_tells_127 rfl dX9_tells_42 ?_
      have hk : ((gI σ3 0 11), σ3) = (rr, σr) := Option.some.inj hf
      obtain ⟨rfl, rfl⟩ := Prod.mk.inj hk
      exact x_iret O rfl rfl ⟨_, rfl, rfl⟩ dX9_tells_45
    · refine x_bipush O (v := -3) dX9_tells_18 (by decide) ?_
      have hk : ((-3), σ1) = (rr, σr) := Option.some.inj hf
      obtain ⟨rfl, rfl⟩ := Prod.mk.inj hk
      exact x_iret O rfl rfl ⟨_, rfl, rfl⟩ dX9_tells_20
  · refine x_iconst O (v := -1) dX9_tells_7 (by decide) ?_
    have hk : ((-1), σ1) = (rr, σr) := Option.some.inj hf
    obtain ⟨rfl, rfl⟩ := Prod.mk.inj hk
    exact x_iret O rfl rfl ⟨_, rfl, rfl⟩ dX9_tells_8
theorem k_T_tells {σ σr : Mm} {rr : Int32} {v1 : Int32}  (hf : f_T_tells σ v1 = some (rr, σr)) : CT LT yX9_tells wsX9_tells rm_X9_tells (fun ad => [.ref (ad 0), .int v1]) σ (some (.int rr)) σr := CT_of2 (cc := cX9_tells) (maxL := 2) (rt := (some .int)) (own := RX9) (by decide) rfl rfl (fun _ => Nat.le_of_ble_eq_true rfl) (fun _ => rfl) (fun Γ ad O => v_T_tells O  hf)

-- ===== TippedBarrow.forget()I
theorem ca_X9_forget : Ca yX9_forget cX9_forget 2 (some .int) wsX9_forget rm_X9_forget 0 := ⟨⟨_, rfl⟩, rfl, rfl, by decide +kernel, by decide +kernel, by decide +kernel⟩
theorem in_X9_forget_X9 : ∀ w ∈ wsX90, w ∈ wsX9_forget := by decide +kernel
theorem fl_X9_forget_127 : Fl RX9 wsX9_forget 127 9 11 false .int := ⟨_, _, _, tyX9, rfl, in_X9_forget_X9, by decide, by decide +kernel, tyX9_ok, nmX9, rfl, tyX9_ok 11 (by decide)⟩
set_option maxHeartbeats 4000000 in
set_option maxRecDepth 100000 in
theorem v_T_forget {Γ : Cx} {ad : Nat → Nat} {rr : Int32} {σr : Mm} (O : Ok LT Γ ad cX9_forget 2 RX9 wsX9_forget rm_X9_forget (some .int) (some (.int rr)) σr) {σ : Mm}   (hf : f_T_forget σ = some (rr, σr)) : X LT Γ ad σ 0 [(0, .ref (ad 0))] [] := by
  unfold f_T_forget at hf
  refine x_aload_n O 0 dX9_forget_0 rfl rfl ?_
  refine x_getI O fl_X9_forget_127 rfl dX9_forget_1 ?_
  refine x_istore_nN O 1 hf dX9_forget_4 rfl (by decide) (fun y1 hf => ?_)
  refine x_aload_n O 0 dX9_forget_5 rfl rfl ?_
  refine x_iconst O (v := 0) dX9_forget_6 (by decide) ?_
  refine x_putIN O hf rfl rfl fl_X9_forget_127 rfl dX9_forget_7 (fun σ1 hf => ?_)
  refine x_iload_n O 1 dX9_forget_10 rfl rfl ?_
  have hk : (y1, σ1) = (rr, σr) := Option.some.inj hf
  obtain ⟨rfl, rfl⟩ := Prod.mk.inj hk
  exact x_iret O rfl rfl ⟨_, rfl, rfl⟩ dX9_forget_11
theorem k_T_forget {σ σr : Mm} {rr : Int32}   (hf : f_T_forget σ = some (rr, σr)) : CT LT yX9_forget wsX9_forget rm_X9_forget (fun ad => [.ref (ad 0)]) σ (some (.int rr)) σr := CT_of2 (cc := cX9_forget) (maxL := 2) (rt := (some .int)) (own := RX9) (by decide) rfl rfl (fun _ => Nat.le_of_ble_eq_true rfl) (fun _ => rfl) (fun Γ ad O => v_T_forget O  hf)

-- ===== TippedBarrow.endOfTold(LTippedBarrow$Ground;)I
theorem ca_X9_endOfTold : Ca yX9_endOfTold cX9_endOfTold 7 (some .int) wsX9_endOfTold rm_X9_endOfTold 1 := ⟨⟨_, rfl⟩, rfl, rfl, by decide +kernel, by decide +kernel, by decide +kernel⟩
theorem in_X9_endOfTold_X5 : ∀ w ∈ wsX50, w ∈ wsX9_endOfTold := by decide +kernel
theorem in_X9_endOfTold_X9 : ∀ w ∈ wsX90, w ∈ wsX9_endOfTold := by decide +kernel
theorem fl_X9_endOfTold_28 : Fl RX9 wsX9_endOfTold 28 9 2 false (.object "TippedBarrow$Plan") := ⟨_, _, _, tyX9, rfl, in_X9_endOfTold_X9, by decide, by decide +kernel, tyX9_ok, nmX9, rfl, tyX9_ok 2 (by decide)⟩
theorem fl_X9_endOfTold_73 : Fl RX9 wsX9_endOfTold 73 9 10 true (.array .int) := ⟨_, _, _, tyX9, rfl, in_X9_endOfTold_X9, by decide, by decide +kernel, tyX9_ok, nmX9, rfl, tyX9_ok 10 (by decide)⟩
theorem fl_X9_endOfTold_127 : Fl RX9 wsX9_endOfTold 127 9 11 false .int := ⟨_, _, _, tyX9, rfl, in_X9_endOfTold_X9, by decide, by decide +kernel, tyX9_ok, nmX9, rfl, tyX9_ok 11 (by decide)⟩
theorem fl_X9_endOfTold_153 : Fl RX9 wsX9_endOfTold 153 5 3 false .int := ⟨_, _, _, tyX5, rfl, in_X9_endOfTold_X5, by decide, by decide +kernel, tyX5_ok, nmX5, rfl, tyX5_ok 3 (by decide)⟩
set_option maxHeartbeats 4000000 in
set_option maxRecDepth 100000 in
theorem v_T_endOfTold_16_b {Γ : Cx} {ad : Nat → Nat} {rr : Int32} {σr : Mm} (O : Ok LT Γ ad cX9_endOfTold 7 RX9 wsX9_endOfTold rm_X9_endOfTold (some .int) (some (.int rr)) σr) {σ : Mm} {r1 : Nat} {v2 : Int32} {v3 : Int32} {v4 : Int32} {v5 : Int32} (h1 : okGr r1 = true) {x : (Mm × Int32 × Int32 × Int32 × Int32) ⊕ (Int32 × Mm)} (hf : f_T_endOfTold_16_b r1 σ v2 v3 v4 v5 = some x) (hk : (kx (fun s : Mm × Int32 × Int32 × Int32 × Int32 => X LT Γ ad s.1 16 [(0, .ref (ad 0)), (1, .ref (ad r1)), (2, .int s.2.1), (3, .int s.2.2.1), (4, .int s.2.2.2.1), (5, .int s.2.2.2.2)] []) (fun q : Int32 × Mm => q = (rr, σr))) x) : X LT Γ ad σ 16 [(0, .ref (ad 0)), (1, .ref (ad r1)), (2, .int v2), (3, .int v3), (4, .int v4), (5, .int v5)] [] := by
  unfold f_T_endOfTold_16_b at hf
  refine x_iload O dX9_endOfTold_16 rfl ?_
  refine x_aload_n O 0 dX9_endOfTold_18 rfl rfl ?_
  refine x_getI O fl_X9_endOfTold_127 rfl dX9_endOfTold_19 ?_
  refine x_icmp_ge O 82 hf dX9_endOfTold_22 (by decide) (fun hf => ?_) (fun hf => ?_)
  · obtain ⟨x', hg1, hx⟩ := map_inr hf
    subst hx
    have hk := kx_r hk
    have hx : x' = (rr, σr) := hk
    subst hx
    have hf := hg1
    refine x_iload O dX9_endOfTold_82 rfl ?_
    have hk : (v4, σ) = (rr, σr) := Option.some.inj hf
    obtain ⟨rfl, rfl⟩ := Prod.mk.inj hk
    exact x_iret O rfl rfl ⟨_, rfl, rfl⟩ dX9_endOfTold_84
  · refine x_iload O dX9_endOfTold_25 rfl ?_
    refine x_bipush O (v := 8) dX9_endOfTold_27 (by decide) ?_
    refine x_icmp_ge O 82 hf dX9_endOfTold_29 (by decide) (fun hf => ?_) (fun hf => ?_)
    · obtain ⟨x', hg2, hx⟩ := map_inr hf
      subst hx
      have hk := kx_r hk
      have hx : x' = (rr, σr) := hk
      subst hx
      have hf := hg2
      refine x_iload O dX9_endOfTold_82 rfl ?_
      have hk : (v4, σ) = (rr, σr) := Option.some.inj hf
      obtain ⟨rfl, rfl⟩ := Prod.mk.inj hk
      exact x_iret O rfl rfl ⟨_, rfl, rfl⟩ dX9_endOfTold_84
    · refine x_aload_n O 1 dX9_endOfTold_32 rfl rfl ?_
      refine x_iload_n O 2 dX9_endOfTold_33 rfl rfl ?_
      refine x_aload_n O 0 dX9_endOfTold_34 rfl rfl ?_
      refine x_getF O (t := 20) fl_X9_endOfTold_73 rfl dX9_endOfTold_35 ?_
      refine x_iload O dX9_endOfTold_38 rfl ?_
      refine x_iald O hf rfl dX9_endOfTold_40 (fun j1 hf => ?_)
      obtain ⟨r_1, σ1, hc, hf⟩ := bd_some hf
      refine x_callV O (k_Gr_beyond h1 hc) ca_X2_beyond gX9_endOfTold_X2_beyond rfl (okCl_Gr h1) rfl rfl rfl (Nat.le_of_ble_eq_true rfl) ⟨Nat.le_of_ble_eq_true rfl, Nat.le_of_ble_eq_true rfl⟩ dX9_endOfTold_41 ?_
      refine x_push O ?_
      refine x_istore O dX9_endOfTold_44 (by decide) ?_
      refine x_iload O dX9_endOfTold_46 rfl ?_
      refine x_if_ne O 56 hf dX9_endOfTold_48 (by decide) (fun hf => ?_) (fun hf => ?_)
      · obtain ⟨x', hg3, hx⟩ := map_inr hf
        subst hx
        have hk := kx_r hk
        have hx : x' = (rr, σr) := hk
        subst hx
        have hf := hg3
        refine x_iconst O (v := -1) dX9_endOfTold_56 (by decide) ?_
        have hk : ((-1), σ1) = (rr, σr) := Option.some.inj hf
        obtain ⟨rfl, rfl⟩ := Prod.mk.inj hk
        exact x_iret O rfl rfl ⟨_, rfl, rfl⟩ dX9_endOfTold_57
      · refine x_iload O dX9_endOfTold_51 rfl ?_
        refine x_if_ge O 58 hf dX9_endOfTold_53 (by decide) (fun hf => ?_) (fun hf => ?_)
        · refine x_iload O dX9_endOfTold_58 rfl ?_
          refine x_istore_n O 2 dX9_endOfTold_60 rfl (by decide) ?_
          refine x_aload_n O 1 dX9_endOfTold_61 rfl rfl ?_
          refine x_iload O dX9_endOfTold_62 rfl ?_
          refine x_iload_n O 3 dX9_endOfTold_64 rfl rfl ?_
          obtain ⟨r_2, σ2, hc, hf⟩ := bd_some hf
          refine x_callV O (k_Gr_leanOn h1 hc) ca_X2_leanOn gX9_endOfTold_X2_leanOn rfl (okCl_Gr h1) rfl rfl rfl (Nat.le_of_ble_eq_true rfl) ⟨Nat.le_of_ble_eq_true rfl, Nat.le_of_ble_eq_true rfl⟩ dX9_endOfTold_65 ?_
          refine x_push O ?_
          refine x_istore_n O 3 dX9_endOfTold_68 rfl (by decide) ?_
          refine x_aload_n O 1 dX9_endOfTold_69 rfl rfl ?_
          refine x_iload_n O 3 dX9_endOfTold_70 rfl rfl ?_
          obtain ⟨r_3, σ3, hc, hf⟩ := bd_some hf
          refine x_callV O (k_Gr_verdict h1 hc) ca_X2_verdict gX9_endOfTold_X2_verdict rfl (okCl_Gr h1) rfl rfl rfl (Nat.le_of_ble_eq_true rfl) ⟨Nat.le_of_ble_eq_true rfl, Nat.le_of_ble_eq_true rfl⟩ dX9_endOfTold_71 ?_
          refine x_push O ?_
          refine x_istore O dX9_endOfTold_74 (by decide) ?_
          refine x_iincN O hf dX9_endOfTold_76 rfl rfl (by decide) (fun y1 hf => ?_)
          refine x_goto O 16 dX9_endOfTold_79 (by decide) ?_
          obtain rfl := Option.some.inj hf
          have hk := kx_l hk
          exact x_jmp O hk rfl
        · obtain ⟨x', hg4, hx⟩ := map_inr hf
          subst hx
          have hk := kx_r hk
          have hx : x' = (rr, σr) := hk
          subst hx
          have hf := hg4
          refine x_iconst O (v := -1) dX9_endOfTold_56 (by decide) ?_
          have hk : ((-1), σ1) = (rr, σr) := Option.some.inj hf
          obtain ⟨rfl, rfl⟩ := Prod.mk.inj hk
          exact x_iret O rfl rfl ⟨_, rfl, rfl⟩ dX9_endOfTold_57
set_option maxHeartbeats 4000000 in
set_option maxRecDepth 100000 in
theorem v_T_endOfTold_16 {Γ : Cx} {ad : Nat → Nat} {rr : Int32} {σr : Mm} (O : Ok LT Γ ad cX9_endOfTold 7 RX9 wsX9_endOfTold rm_X9_endOfTold (some .int) (some (.int rr)) σr) {σ : Mm} {r1 : Nat} {v2 : Int32} {v3 : Int32} {v4 : Int32} {v5 : Int32} (h1 : okGr r1 = true) (hf : f_T_endOfTold_16 σ r1 v2 v3 v4 v5 = some (rr, σr)) : X LT Γ ad σ 16 [(0, .ref (ad 0)), (1, .ref (ad r1)), (2, .int v2), (3, .int v3), (4, .int v4), (5, .int v5)] [] := lpX (P := (fun s : Mm × Int32 × Int32 × Int32 × Int32 => X LT Γ ad s.1 16 [(0, .ref (ad 0)), (1, .ref (ad r1)), (2, .int s.2.1), (3, .int s.2.2.1), (4, .int s.2.2.2.1), (5, .int s.2.2.2.2)] [])) (K := (fun q : Int32 × Mm => q = (rr, σr))) (fun s x g1 g2 => v_T_endOfTold_16_b O (σ := s.1) (r1 := r1) (v2 := s.2.1) (v3 := s.2.2.1) (v4 := s.2.2.2.1) (v5 := s.2.2.2.2) h1 g1 g2) (σ, v2, v3, v4, v5) _ hf rfl
set_option maxHeartbeats 4000000 in
set_option maxRecDepth 100000 in
theorem v_T_endOfTold {Γ : Cx} {ad : Nat → Nat} {rr : Int32} {σr : Mm} (O : Ok LT Γ ad cX9_endOfTold 7 RX9 wsX9_endOfTold rm_X9_endOfTold (some .int) (some (.int rr)) σr) {σ : Mm} {r1 : Nat} (h1 : okGr r1 = true) (hf : f_T_endOfTold σ r1 = some (rr, σr)) : X LT Γ ad σ 0 [(0, .ref (ad 0)), (1, .ref (ad r1))] [] := by
  unfold f_T_endOfTold at hf
  refine x_aload_n O 0 dX9_endOfTold_0 rfl rfl ?_
  refine x_getR O hf fl_X9_endOfTold_28 rfl dX9_endOfTold_1 (fun t1 ht1 hf => ?_)
  refine x_getI O fl_X9_endOfTold_153 (fk_of (fkPl ht1) rfl) dX9_endOfTold_4 ?_
  refine x_istore_nN O 2 hf dX9_endOfTold_7 rfl (by decide) (fun y1 hf => ?_)
  refine x_iconst O (v := 0) dX9_endOfTold_8 (by decide) ?_
  refine x_istore_n O 3 dX9_endOfTold_9 rfl (by decide) ?_
  refine x_iconst O (v := 0) dX9_endOfTold_10 (by decide) ?_
  refine x_istore O dX9_endOfTold_11 (by decide) ?_
  refine x_iconst O (v := 0) dX9_endOfTold_13 (by decide) ?_
  refine x_istore O dX9_endOfTold_14 (by decide) ?_
  exact x_jmp O (v_T_endOfTold_16 O (σ := σ) (r1 := r1) (v2 := y1) (v3 := 0) (v4 := 0) (v5 := 0) h1 hf) rfl
theorem k_T_endOfTold {σ σr : Mm} {rr : Int32} {r1 : Nat} (h1 : okGr r1 = true) (hf : f_T_endOfTold σ r1 = some (rr, σr)) : CT LT yX9_endOfTold wsX9_endOfTold rm_X9_endOfTold (fun ad => [.ref (ad 0), .ref (ad r1)]) σ (some (.int rr)) σr := CT_of2 (cc := cX9_endOfTold) (maxL := 7) (rt := (some .int)) (own := RX9) (by decide) rfl rfl (fun _ => Nat.le_of_ble_eq_true rfl) (fun _ => rfl) (fun Γ ad O => v_T_endOfTold O h1 hf)

-- ===== TippedBarrow.leanings(I)I
theorem ca_X9_leanings : Ca yX9_leanings cX9_leanings 4 (some .int) wsX9_leanings rm_X9_leanings 1 := ⟨⟨_, rfl⟩, rfl, rfl, by decide +kernel, by decide +kernel, by decide +kernel⟩
theorem in_X9_leanings_X2 : ∀ w ∈ wsX20, w ∈ wsX9_leanings := by decide +kernel
theorem in_X9_leanings_X9 : ∀ w ∈ wsX90, w ∈ wsX9_leanings := by decide +kernel
theorem fl_X9_leanings_51 : Fl RX9 wsX9_leanings 51 9 5 true (.object "TippedBarrow$Ground") := ⟨_, _, _, tyX9, rfl, in_X9_leanings_X9, by decide, by decide +kernel, tyX9_ok, nmX9, rfl, tyX9_ok 5 (by decide)⟩
theorem fl_X9_leanings_55 : Fl RX9 wsX9_leanings 55 9 6 true (.object "TippedBarrow$Ground") := ⟨_, _, _, tyX9, rfl, in_X9_leanings_X9, by decide, by decide +kernel, tyX9_ok, nmX9, rfl, tyX9_ok 6 (by decide)⟩
theorem fl_X9_leanings_116 : Fl RX9 wsX9_leanings 116 2 3 false .int := ⟨_, _, _, tyX2, rfl, in_X9_leanings_X2, by decide, by decide +kernel, tyX2_ok, nmX2, rfl, tyX2_ok 3 (by decide)⟩
set_option maxHeartbeats 4000000 in
set_option maxRecDepth 100000 in
theorem v_T_leanings_36_b {Γ : Cx} {ad : Nat → Nat} {rr : Int32} {σr : Mm} (O : Ok LT Γ ad cX9_leanings 4 RX9 wsX9_leanings rm_X9_leanings (some .int) (some (.int rr)) σr) {σ : Mm} {v1 : Int32} {v2 : Int32} {v3 : Int32}  {x : (Mm × Int32 × Int32) ⊕ (Int32 × Mm)} (hf : f_T_leanings_36_b v1 σ v2 v3 = some x) (hk : (kx (fun s : Mm × Int32 × Int32 => X LT Γ ad s.1 36 [(0, .ref (ad 0)), (1, .int v1), (2, .int s.2.1), (3, .int s.2.2)] []) (fun q : Int32 × Mm => q = (rr, σr))) x) : X LT Γ ad σ 36 [(0, .ref (ad 0)), (1, .int v1), (2, .int v2), (3, .int v3)] [] := by
  unfold f_T_leanings_36_b at hf
  refine x_iload_n O 3 dX9_leanings_36 rfl rfl ?_
  refine x_iconst O (v := 5) dX9_leanings_37 (by decide) ?_
  refine x_icmp_ge O 75 hf dX9_leanings_38 (by decide) (fun hf => ?_) (fun hf => ?_)
  · obtain ⟨x', hg1, hx⟩ := map_inr hf
    subst hx
    have hk := kx_r hk
    have hx : x' = (rr, σr) := hk
    subst hx
    have hf := hg1
    refine x_iload_n O 2 dX9_leanings_75 rfl rfl ?_
    have hk : (v2, σ) = (rr, σr) := Option.some.inj hf
    obtain ⟨rfl, rfl⟩ := Prod.mk.inj hk
    exact x_iret O rfl rfl ⟨_, rfl, rfl⟩ dX9_leanings_76
  · refine x_aload_n O 0 dX9_leanings_41 rfl rfl ?_
    refine x_getF O (t := 13) fl_X9_leanings_55 rfl dX9_leanings_42 ?_
    refine x_iload_n O 3 dX9_leanings_45 rfl rfl ?_
    refine x_iconst O (v := 2) dX9_leanings_46 (by decide) ?_
    refine x_isub O dX9_leanings_47 ?_
    refine x_putIN O hf rfl rfl fl_X9_leanings_116 rfl dX9_leanings_48 (fun σ1 hf => ?_)
    refine x_aload_n O 0 dX9_leanings_51 rfl rfl ?_
    refine x_aload_n O 0 dX9_leanings_52 rfl rfl ?_
    refine x_getF O (t := 13) fl_X9_leanings_55 rfl dX9_leanings_53 ?_
    obtain ⟨r_1, σ2, hc, hf⟩ := bd_some hf
    refine x_callV O (k_T_endOfTold rfl hc) ca_X9_endOfTold gX9_leanings_X9_endOfTold rfl ⟨_, _, _, _, rfl, rfl⟩ rfl rfl rfl (Nat.le_of_ble_eq_true rfl) ⟨Nat.le_of_ble_eq_true rfl, Nat.le_of_ble_eq_true rfl⟩ dX9_leanings_56 ?_
    refine x_push O ?_
    refine x_iload_n O 1 dX9_leanings_59 rfl rfl ?_
    refine x_icmp_ne O 69 hf dX9_leanings_60 (by decide) (fun hf => ?_) (fun hf => ?_)
    · refine x_iincN O hf dX9_leanings_69 rfl rfl (by decide) (fun y1 hf => ?_)
      refine x_goto O 36 dX9_leanings_72 (by decide) ?_
      obtain rfl := Option.some.inj hf
      have hk := kx_l hk
      exact x_jmp O hk rfl
    · refine x_iload_n O 2 dX9_leanings_63 rfl rfl ?_
      refine x_iconst O (v := 1) dX9_leanings_64 (by decide) ?_
      refine x_iload_n O 3 dX9_leanings_65 rfl rfl ?_
      refine x_ishl O dX9_leanings_66 ?_
      refine x_ior O dX9_leanings_67 ?_
      refine x_istore_nN O 2 hf dX9_leanings_68 rfl (by decide) (fun y2 hf => ?_)
      refine x_iincN O hf dX9_leanings_69 rfl rfl (by decide) (fun y3 hf => ?_)
      refine x_goto O 36 dX9_leanings_72 (by decide) ?_
      obtain rfl := Option.some.inj hf
      have hk := kx_l hk
      exact x_jmp O hk rfl
set_option maxHeartbeats 4000000 in
set_option maxRecDepth 100000 in
theorem v_T_leanings_36 {Γ : Cx} {ad : Nat → Nat} {rr : Int32} {σr : Mm} (O : Ok LT Γ ad cX9_leanings 4 RX9 wsX9_leanings rm_X9_leanings (some .int) (some (.int rr)) σr) {σ : Mm} {v1 : Int32} {v2 : Int32} {v3 : Int32}  (hf : f_T_leanings_36 σ v1 v2 v3 = some (rr, σr)) : X LT Γ ad σ 36 [(0, .ref (ad 0)), (1, .int v1), (2, .int v2), (3, .int v3)] [] := lpX (P := (fun s : Mm × Int32 × Int32 => X LT Γ ad s.1 36 [(0, .ref (ad 0)), (1, .int v1), (2, .int s.2.1), (3, .int s.2.2)] [])) (K := (fun q : Int32 × Mm => q = (rr, σr))) (fun s x g1 g2 => v_T_leanings_36_b O (σ := s.1) (v1 := v1) (v2 := s.2.1) (v3 := s.2.2)  g1 g2) (σ, v2, v3) _ hf rfl
set_option maxHeartbeats 4000000 in
set_option maxRecDepth 100000 in
theorem v_T_leanings {Γ : Cx} {ad : Nat → Nat} {rr : Int32} {σr : Mm} (O : Ok LT Γ ad cX9_leanings 4 RX9 wsX9_leanings rm_X9_leanings (some .int) (some (.int rr)) σr) {σ : Mm} {v1 : Int32}  (hf : f_T_leanings σ v1 = some (rr, σr)) : X LT Γ ad σ 0 [(0, .ref (ad 0)), (1, .int v1)] [] := by
  unfold f_T_leanings at hf
  refine x_iload_n O 1 dX9_leanings_0 rfl rfl ?_
  refine x_if_lt O 9 hf dX9_leanings_1 (by decide) (fun hf => ?_) (fun hf => ?_)
  · refine x_iconst O (v := -1) dX9_leanings_9 (by decide) ?_
    have hk : ((-1), σ) = (rr, σr) := Option.some.inj hf
    obtain ⟨rfl, rfl⟩ := Prod.mk.inj hk
    exact x_iret O rfl rfl ⟨_, rfl, rfl⟩ dX9_leanings_10
  · refine x_iload_n O 1 dX9_leanings_4 rfl rfl ?_
    refine x_iconst O (v := 2) dX9_leanings_5 (by decide) ?_
    refine x_icmp_le O 11 hf dX9_leanings_6 (by decide) (fun hf => ?_) (fun hf => ?_)
    · refine x_aload_n O 0 dX9_leanings_11 rfl rfl ?_
      obtain ⟨r_1, σ1, hc, hf⟩ := bd_some hf
      refine x_callV O (k_T_hasNoStart  hc) ca_X9_hasNoStart gX9_leanings_X9_hasNoStart rfl ⟨_, _, _, _, rfl, rfl⟩ rfl rfl rfl (Nat.le_of_ble_eq_true rfl) ⟨Nat.le_of_ble_eq_true rfl, Nat.le_of_ble_eq_true rfl⟩ dX9_leanings_12 ?_
      refine x_push O ?_
      refine x_if_eq O 21 hf dX9_leanings_15 (by decide) (fun hf => ?_) (fun hf => ?_)
      · refine x_iconst O (v := 0) dX9_leanings_21 (by decide) ?_
        refine x_istore_n O 2 dX9_leanings_22 rfl (by decide) ?_
        refine x_aload_n O 0 dX9_leanings_23 rfl rfl ?_
        refine x_getF O (t := 13) fl_X9_leanings_55 rfl dX9_leanings_24 ?_
        refine x_aload_n O 0 dX9_leanings_27 rfl rfl ?_
        refine x_getF O (t := 11) fl_X9_leanings_51 rfl dX9_leanings_28 ?_
        obtain ⟨r_2, σ2, hc, hf⟩ := bd_some hf
        refine x_callV O (k_Gr_become rfl rfl hc) ca_X2_become gX9_leanings_X2_become rfl ⟨_, _, _, _, rfl, rfl⟩ rfl rfl rfl (Nat.le_of_ble_eq_true rfl) ⟨Nat.le_of_ble_eq_true rfl, Nat.le_of_ble_eq_true rfl⟩ dX9_leanings_31 ?_
        refine x_pushN O ?_
        refine x_iconst O (v := 0) dX9_leanings_34 (by decide) ?_
        refine x_istore_n O 3 dX9_leanings_35 rfl (by decide) ?_
        exact x_jmp O (v_T_leanings_36 O (σ := σ2) (v1 := v1) (v2 := 0) (v3 := 0)  hf) rfl
      · refine x_bipush O (v := -2) dX9_leanings_18 (by decide) ?_
        have hk : ((-2), σ1) = (rr, σr) := Option.some.inj hf
        obtain ⟨rfl, rfl⟩ := Prod.mk.inj hk
        exact x_iret O rfl rfl ⟨_, rfl, rfl⟩ dX9_leanings_20
    · refine x_iconst O (v := -1) dX9_leanings_9 (by decide) ?_
      have hk : ((-1), σ) = (rr, σr) := Option.some.inj hf
      obtain ⟨rfl, rfl⟩ := Prod.mk.inj hk
      exact x_iret O rfl rfl ⟨_, rfl, rfl⟩ dX9_leanings_10
theorem k_T_leanings {σ σr : Mm} {rr : Int32} {v1 : Int32}  (hf : f_T_leanings σ v1 = some (rr, σr)) : CT LT yX9_leanings wsX9_leanings rm_X9_leanings (fun ad => [.ref (ad 0), .int v1]) σ (some (.int rr)) σr := CT_of2 (cc := cX9_leanings) (maxL := 4) (rt := (some .int)) (own := RX9) (by decide) rfl rfl (fun _ => Nat.le_of_ble_eq_true rfl) (fun _ => rfl) (fun Γ ad O => v_T_leanings O  hf)

-- ===== TippedBarrow.rateCell(I)I
theorem ca_X9_rateCell : Ca yX9_rateCell cX9_rateCell 2 (some .int) wsX9_rateCell rm_X9_rateCell 1 := ⟨⟨_, rfl⟩, rfl, rfl, by decide +kernel, by decide +kernel, by decide +kernel⟩
theorem in_X9_rateCell_X4 : ∀ w ∈ wsX40, w ∈ wsX9_rateCell := by decide +kernel
theorem in_X9_rateCell_X9 : ∀ w ∈ wsX90, w ∈ wsX9_rateCell := by decide +kernel
theorem fl_X9_rateCell_38 : Fl RX9 wsX9_rateCell 38 9 4 true (.object "TippedBarrow$Moment") := ⟨_, _, _, tyX9, rfl, in_X9_rateCell_X9, by decide, by decide +kernel, tyX9_ok, nmX9, rfl, tyX9_ok 4 (by decide)⟩
theorem fl_X9_rateCell_44 : Fl RX9 wsX9_rateCell 44 4 0 true (.array .int) := ⟨_, _, _, tyX4, rfl, in_X9_rateCell_X4, by decide, by decide +kernel, tyX4_ok, nmX4, rfl, tyX4_ok 0 (by decide)⟩
theorem fl_X9_rateCell_259 : Fl RX9 wsX9_rateCell 259 9 12 false .long := ⟨_, _, _, tyX9, rfl, in_X9_rateCell_X9, by decide, by decide +kernel, tyX9_ok, nmX9, rfl, tyX9_ok 12 (by decide)⟩
set_option maxHeartbeats 4000000 in
set_option maxRecDepth 100000 in
theorem v_T_rateCell {Γ : Cx} {ad : Nat → Nat} {rr : Int32} {σr : Mm} (O : Ok LT Γ ad cX9_rateCell 2 RX9 wsX9_rateCell rm_X9_rateCell (some .int) (some (.int rr)) σr) {σ : Mm} {v1 : Int32}  (hf : f_T_rateCell σ v1 = some (rr, σr)) : X LT Γ ad σ 0 [(0, .ref (ad 0)), (1, .int v1)] [] := by
  unfold f_T_rateCell at hf
  refine x_aload_n O 0 dX9_rateCell_0 rfl rfl ?_
  refine x_dup O dX9_rateCell_1 rfl ?_
  refine x_getJ O fl_X9_rateCell_259 rfl dX9_rateCell_2 ?_
  refine x_lconst O (v := 1) dX9_rateCell_5 (by decide) ?_
  refine x_ladd O dX9_rateCell_6 ?_
  refine x_putJN O hf hsetT nJ_T rfl rfl fl_X9_rateCell_259 rfl dX9_rateCell_7 (fun σ1 hf => ?_)
  refine x_aload_n O 0 dX9_rateCell_10 rfl rfl ?_
  refine x_getF O (t := 36) fl_X9_rateCell_38 rfl dX9_rateCell_11 ?_
  refine x_getF O (t := 37) fl_X9_rateCell_44 rfl dX9_rateCell_14 ?_
  refine x_iload_n O 1 dX9_rateCell_17 rfl rfl ?_
  refine x_iald O hf rfl dX9_rateCell_18 (fun j1 hf => ?_)
  have hk : ((gA σ1 37 j1), σ1) = (rr, σr) := Option.some.inj hf
  obtain ⟨rfl, rfl⟩ := Prod.mk.inj hk
  exact x_iret O rfl rfl ⟨_, rfl, rfl⟩ dX9_rateCell_19
theorem k_T_rateCell {σ σr : Mm} {rr : Int32} {v1 : Int32}  (hf : f_T_rateCell σ v1 = some (rr, σr)) : CT LT yX9_rateCell wsX9_rateCell rm_X9_rateCell (fun ad => [.ref (ad 0), .int v1]) σ (some (.int rr)) σr := CT_of2 (cc := cX9_rateCell) (maxL := 2) (rt := (some .int)) (own := RX9) (by decide) rfl rfl (fun _ => Nat.le_of_ble_eq_true rfl) (fun _ => rfl) (fun Γ ad O => v_T_rateCell O  hf)

-- ===== TippedBarrow.rateRut(I)I
theorem ca_X9_rateRut : Ca yX9_rateRut cX9_rateRut 2 (some .int) wsX9_rateRut rm_X9_rateRut 1 := ⟨⟨_, rfl⟩, rfl, rfl, by decide +kernel, by decide +kernel, by decide +kernel⟩
theorem in_X9_rateRut_X9 : ∀ w ∈ wsX90, w ∈ wsX9_rateRut := by decide +kernel
theorem fl_X9_rateRut_259 : Fl RX9 wsX9_rateRut 259 9 12 false .long := ⟨_, _, _, tyX9, rfl, in_X9_rateRut_X9, by decide, by decide +kernel, tyX9_ok, nmX9, rfl, tyX9_ok 12 (by decide)⟩
theorem mw_X9_rateRut_0 : Cond.constantLong RX9 263 (10) ∈ wsX9_rateRut := by decide +kernel
set_option maxHeartbeats 4000000 in
set_option maxRecDepth 100000 in
theorem v_T_rateRut {Γ : Cx} {ad : Nat → Nat} {rr : Int32} {σr : Mm} (O : Ok LT Γ ad cX9_rateRut 2 RX9 wsX9_rateRut rm_X9_rateRut (some .int) (some (.int rr)) σr) {σ : Mm} {v1 : Int32}  (hf : f_T_rateRut σ v1 = some (rr, σr)) : X LT Γ ad σ 0 [(0, .ref (ad 0)), (1, .int v1)] [] := by
  unfold f_T_rateRut at hf
  refine x_aload_n O 0 dX9_rateRut_0 rfl rfl ?_
  refine x_dup O dX9_rateRut_1 rfl ?_
  refine x_getJ O fl_X9_rateRut_259 rfl dX9_rateRut_2 ?_
  refine x_ldc2 O (v := 10) mw_X9_rateRut_0 dX9_rateRut_5 ?_
  refine x_ladd O dX9_rateRut_8 ?_
  refine x_putJN O hf hsetT nJ_T rfl rfl fl_X9_rateRut_259 rfl dX9_rateRut_9 (fun σ1 hf => ?_)
  refine x_aload_n O 0 dX9_rateRut_12 rfl rfl ?_
  refine x_iload_n O 1 dX9_rateRut_13 rfl rfl ?_
  obtain ⟨r_1, σ2, hc, hf⟩ := bd_some hf
  refine x_callV O (k_T_rateCell  hc) ca_X9_rateCell gX9_rateRut_X9_rateCell rfl ⟨_, _, _, _, rfl, rfl⟩ rfl rfl rfl (Nat.le_of_ble_eq_true rfl) ⟨Nat.le_of_ble_eq_true rfl, Nat.le_of_ble_eq_true rfl⟩ dX9_rateRut_14 ?_
  refine x_push O ?_
  refine x_iload_n O 1 dX9_rateRut_17 rfl rfl ?_
  refine x_iconst O (v := 5) dX9_rateRut_18 (by decide) ?_
  refine x_iremK O (by decide) dX9_rateRut_19 ?_
  refine x_iadd O dX9_rateRut_20 ?_
  have hk : ((r_1 + (rm32 v1 5)), σ2) = (rr, σr) := Option.some.inj hf
  obtain ⟨rfl, rfl⟩ := Prod.mk.inj hk
  exact x_iret O rfl rfl ⟨_, rfl, rfl⟩ dX9_rateRut_21
theorem k_T_rateRut {σ σr : Mm} {rr : Int32} {v1 : Int32}  (hf : f_T_rateRut σ v1 = some (rr, σr)) : CT LT yX9_rateRut wsX9_rateRut rm_X9_rateRut (fun ad => [.ref (ad 0), .int v1]) σ (some (.int rr)) σr := CT_of2 (cc := cX9_rateRut) (maxL := 2) (rt := (some .int)) (own := RX9) (by decide) rfl rfl (fun _ => Nat.le_of_ble_eq_true rfl) (fun _ => rfl) (fun Γ ad O => v_T_rateRut O  hf)

-- ===== TippedBarrow.ratePuddle(I)I
theorem ca_X9_ratePuddle : Ca yX9_ratePuddle cX9_ratePuddle 2 (some .int) wsX9_ratePuddle rm_X9_ratePuddle 1 := ⟨⟨_, rfl⟩, rfl, rfl, by decide +kernel, by decide +kernel, by decide +kernel⟩
theorem in_X9_ratePuddle_X4 : ∀ w ∈ wsX40, w ∈ wsX9_ratePuddle := by decide +kernel
theorem in_X9_ratePuddle_X9 : ∀ w ∈ wsX90, w ∈ wsX9_ratePuddle := by decide +kernel
theorem fl_X9_ratePuddle_38 : Fl RX9 wsX9_ratePuddle 38 9 4 true (.object "TippedBarrow$Moment") := ⟨_, _, _, tyX9, rfl, in_X9_ratePuddle_X9, by decide, by decide +kernel, tyX9_ok, nmX9, rfl, tyX9_ok 4 (by decide)⟩
theorem fl_X9_ratePuddle_141 : Fl RX9 wsX9_ratePuddle 141 4 4 false .int := ⟨_, _, _, tyX4, rfl, in_X9_ratePuddle_X4, by decide, by decide +kernel, tyX4_ok, nmX4, rfl, tyX4_ok 4 (by decide)⟩
theorem fl_X9_ratePuddle_259 : Fl RX9 wsX9_ratePuddle 259 9 12 false .long := ⟨_, _, _, tyX9, rfl, in_X9_ratePuddle_X9, by decide, by decide +kernel, tyX9_ok, nmX9, rfl, tyX9_ok 12 (by decide)⟩
theorem mw_X9_ratePuddle_0 : Cond.constantLong RX9 265 (100) ∈ wsX9_ratePuddle := by decide +kernel
set_option maxHeartbeats 4000000 in
set_option maxRecDepth 100000 in
theorem v_T_ratePuddle {Γ : Cx} {ad : Nat → Nat} {rr : Int32} {σr : Mm} (O : Ok LT Γ ad cX9_ratePuddle 2 RX9 wsX9_ratePuddle rm_X9_ratePuddle (some .int) (some (.int rr)) σr) {σ : Mm} {v1 : Int32}  (hf : f_T_ratePuddle σ v1 = some (rr, σr)) : X LT Γ ad σ 0 [(0, .ref (ad 0)), (1, .int v1)] [] := by
  unfold f_T_ratePuddle at hf
  refine x_aload_n O 0 dX9_ratePuddle_0 rfl rfl ?_
  refine x_dup O dX9_ratePuddle_1 rfl ?_
  refine x_getJ O fl_X9_ratePuddle_259 rfl dX9_ratePuddle_2 ?_
  refine x_ldc2 O (v := 100) mw_X9_ratePuddle_0 dX9_ratePuddle_5 ?_
  refine x_ladd O dX9_ratePuddle_8 ?_
  refine x_putJN O hf hsetT nJ_T rfl rfl fl_X9_ratePuddle_259 rfl dX9_ratePuddle_9 (fun σ1 hf => ?_)
  refine x_aload_n O 0 dX9_ratePuddle_12 rfl rfl ?_
  refine x_iload_n O 1 dX9_ratePuddle_13 rfl rfl ?_
  obtain ⟨r_1, σ2, hc, hf⟩ := bd_some hf
  refine x_callV O (k_T_rateCell  hc) ca_X9_rateCell gX9_ratePuddle_X9_rateCell rfl ⟨_, _, _, _, rfl, rfl⟩ rfl rfl rfl (Nat.le_of_ble_eq_true rfl) ⟨Nat.le_of_ble_eq_true rfl, Nat.le_of_ble_eq_true rfl⟩ dX9_ratePuddle_14 ?_
  refine x_push O ?_
  refine x_aload_n O 0 dX9_ratePuddle_17 rfl rfl ?_
  refine x_getF O (t := 36) fl_X9_ratePuddle_38 rfl dX9_ratePuddle_18 ?_
  refine x_getI O fl_X9_ratePuddle_141 rfl dX9_ratePuddle_21 ?_
  refine x_isub O dX9_ratePuddle_24 ?_
  have hk : ((r_1 - (gI σ2 36 4)), σ2) = (rr, σr) := Option.some.inj hf
  obtain ⟨rfl, rfl⟩ := Prod.mk.inj hk
  exact x_iret O rfl rfl ⟨_, rfl, rfl⟩ dX9_ratePuddle_25
theorem k_T_ratePuddle {σ σr : Mm} {rr : Int32} {v1 : Int32}  (hf : f_T_ratePuddle σ v1 = some (rr, σr)) : CT LT yX9_ratePuddle wsX9_ratePuddle rm_X9_ratePuddle (fun ad => [.ref (ad 0), .int v1]) σ (some (.int rr)) σr := CT_of2 (cc := cX9_ratePuddle) (maxL := 2) (rt := (some .int)) (own := RX9) (by decide) rfl rfl (fun _ => Nat.le_of_ble_eq_true rfl) (fun _ => rfl) (fun Γ ad O => v_T_ratePuddle O  hf)

-- ===== TippedBarrow.ratePlank(I)I
theorem ca_X9_ratePlank : Ca yX9_ratePlank cX9_ratePlank 2 (some .int) wsX9_ratePlank rm_X9_ratePlank 1 := ⟨⟨_, rfl⟩, rfl, rfl, by decide +kernel, by decide +kernel, by decide +kernel⟩
theorem in_X9_ratePlank_X9 : ∀ w ∈ wsX90, w ∈ wsX9_ratePlank := by decide +kernel
theorem fl_X9_ratePlank_259 : Fl RX9 wsX9_ratePlank 259 9 12 false .long := ⟨_, _, _, tyX9, rfl, in_X9_ratePlank_X9, by decide, by decide +kernel, tyX9_ok, nmX9, rfl, tyX9_ok 12 (by decide)⟩
theorem mw_X9_ratePlank_0 : Cond.constantLong RX9 267 (1000) ∈ wsX9_ratePlank := by decide +kernel
set_option maxHeartbeats 4000000 in
set_option maxRecDepth 100000 in
theorem v_T_ratePlank {Γ : Cx} {ad : Nat → Nat} {rr : Int32} {σr : Mm} (O : Ok LT Γ ad cX9_ratePlank 2 RX9 wsX9_ratePlank rm_X9_ratePlank (some .int) (some (.int rr)) σr) {σ : Mm} {v1 : Int32}  (hf : f_T_ratePlank σ v1 = some (rr, σr)) : X LT Γ ad σ 0 [(0, .ref (ad 0)), (1, .int v1)] [] := by
  unfold f_T_ratePlank at hf
  refine x_aload_n O 0 dX9_ratePlank_0 rfl rfl ?_
  refine x_dup O dX9_ratePlank_1 rfl ?_
  refine x_getJ O fl_X9_ratePlank_259 rfl dX9_ratePlank_2 ?_
  refine x_ldc2 O (v := 1000) mw_X9_ratePlank_0 dX9_ratePlank_5 ?_
  refine x_ladd O dX9_ratePlank_8 ?_
  refine x_putJN O hf hsetT nJ_T rfl rfl fl_X9_ratePlank_259 rfl dX9_ratePlank_9 (fun σ1 hf => ?_)
  refine x_iconst O (v := 2) dX9_ratePlank_12 (by decide) ?_
  refine x_aload_n O 0 dX9_ratePlank_13 rfl rfl ?_
  refine x_iload_n O 1 dX9_ratePlank_14 rfl rfl ?_
  obtain ⟨r_1, σ2, hc, hf⟩ := bd_some hf
  refine x_callV O (k_T_rateRut  hc) ca_X9_rateRut gX9_ratePlank_X9_rateRut rfl ⟨_, _, _, _, rfl, rfl⟩ rfl rfl rfl (Nat.le_of_ble_eq_true rfl) ⟨Nat.le_of_ble_eq_true rfl, Nat.le_of_ble_eq_true rfl⟩ dX9_ratePlank_15 ?_
  refine x_push O ?_
  refine x_imul O dX9_ratePlank_18 ?_
  have hk : ((2 * r_1), σ2) = (rr, σr) := Option.some.inj hf
  obtain ⟨rfl, rfl⟩ := Prod.mk.inj hk
  exact x_iret O rfl rfl ⟨_, rfl, rfl⟩ dX9_ratePlank_19
theorem k_T_ratePlank {σ σr : Mm} {rr : Int32} {v1 : Int32}  (hf : f_T_ratePlank σ v1 = some (rr, σr)) : CT LT yX9_ratePlank wsX9_ratePlank rm_X9_ratePlank (fun ad => [.ref (ad 0), .int v1]) σ (some (.int rr)) σr := CT_of2 (cc := cX9_ratePlank) (maxL := 2) (rt := (some .int)) (own := RX9) (by decide) rfl rfl (fun _ => Nat.le_of_ble_eq_true rfl) (fun _ => rfl) (fun Γ ad O => v_T_ratePlank O  hf)

-- ===== TippedBarrow.rateBean(I)I
theorem ca_X9_rateBean : Ca yX9_rateBean cX9_rateBean 2 (some .int) wsX9_rateBean rm_X9_rateBean 1 := ⟨⟨_, rfl⟩, rfl, rfl, by decide +kernel, by decide +kernel, by decide +kernel⟩
theorem in_X9_rateBean_X9 : ∀ w ∈ wsX90, w ∈ wsX9_rateBean := by decide +kernel
theorem fl_X9_rateBean_259 : Fl RX9 wsX9_rateBean 259 9 12 false .long := ⟨_, _, _, tyX9, rfl, in_X9_rateBean_X9, by decide, by decide +kernel, tyX9_ok, nmX9, rfl, tyX9_ok 12 (by decide)⟩
theorem mw_X9_rateBean_0 : Cond.constantLong RX9 269 (10000) ∈ wsX9_rateBean := by decide +kernel
set_option maxHeartbeats 4000000 in
set_option maxRecDepth 100000 in
theorem v_T_rateBean {Γ : Cx} {ad : Nat → Nat} {rr : Int32} {σr : Mm} (O : Ok LT Γ ad cX9_rateBean 2 RX9 wsX9_rateBean rm_X9_rateBean (some .int) (some (.int rr)) σr) {σ : Mm} {v1 : Int32}  (hf : f_T_rateBean σ v1 = some (rr, σr)) : X LT Γ ad σ 0 [(0, .ref (ad 0)), (1, .int v1)] [] := by
  unfold f_T_rateBean at hf
  refine x_aload_n O 0 dX9_rateBean_0 rfl rfl ?_
  refine x_dup O dX9_rateBean_1 rfl ?_
  refine x_getJ O fl_X9_rateBean_259 rfl dX9_rateBean_2 ?_
  refine x_ldc2 O (v := 10000) mw_X9_rateBean_0 dX9_rateBean_5 ?_
  refine x_ladd O dX9_rateBean_8 ?_
  refine x_putJN O hf hsetT nJ_T rfl rfl fl_X9_rateBean_259 rfl dX9_rateBean_9 (fun σ1 hf => ?_)
  refine x_aload_n O 0 dX9_rateBean_12 rfl rfl ?_
  refine x_iload_n O 1 dX9_rateBean_13 rfl rfl ?_
  obtain ⟨r_1, σ2, hc, hf⟩ := bd_some hf
  refine x_callV O (k_T_ratePuddle  hc) ca_X9_ratePuddle gX9_rateBean_X9_ratePuddle rfl ⟨_, _, _, _, rfl, rfl⟩ rfl rfl rfl (Nat.le_of_ble_eq_true rfl) ⟨Nat.le_of_ble_eq_true rfl, Nat.le_of_ble_eq_true rfl⟩ dX9_rateBean_14 ?_
  refine x_push O ?_
  refine x_iload_n O 1 dX9_rateBean_17 rfl rfl ?_
  refine x_iconst O (v := 5) dX9_rateBean_18 (by decide) ?_
  refine x_idivK O (by decide) dX9_rateBean_19 ?_
  refine x_iadd O dX9_rateBean_20 ?_
  have hk : ((r_1 + (v1 / 5)), σ2) = (rr, σr) := Option.some.inj hf
  obtain ⟨rfl, rfl⟩ := Prod.mk.inj hk
  exact x_iret O rfl rfl ⟨_, rfl, rfl⟩ dX9_rateBean_21
theorem k_T_rateBean {σ σr : Mm} {rr : Int32} {v1 : Int32}  (hf : f_T_rateBean σ v1 = some (rr, σr)) : CT LT yX9_rateBean wsX9_rateBean rm_X9_rateBean (fun ad => [.ref (ad 0), .int v1]) σ (some (.int rr)) σr := CT_of2 (cc := cX9_rateBean) (maxL := 2) (rt := (some .int)) (own := RX9) (by decide) rfl rfl (fun _ => Nat.le_of_ble_eq_true rfl) (fun _ => rfl) (fun Γ ad O => v_T_rateBean O  hf)

-- ===== TippedBarrow$Moment.allVerdicts()I
theorem ca_X4_allVerdicts : Ca yX4_allVerdicts cX4_allVerdicts 1 (some .int) wsX4_allVerdicts rm_X4_allVerdicts 0 := ⟨⟨_, rfl⟩, rfl, rfl, by decide +kernel, by decide +kernel, by decide +kernel⟩
theorem in_X4_allVerdicts_X4 : ∀ w ∈ wsX40, w ∈ wsX4_allVerdicts := by decide +kernel
theorem fl_X4_allVerdicts_15 : Fl RX4 wsX4_allVerdicts 15 4 1 true (.array .int) := ⟨_, _, _, tyX4, rfl, in_X4_allVerdicts_X4, by decide, by decide +kernel, tyX4_ok, nmX4, rfl, tyX4_ok 1 (by decide)⟩
set_option maxHeartbeats 4000000 in
set_option maxRecDepth 100000 in
theorem v_Mo_allVerdicts {Γ : Cx} {ad : Nat → Nat} {rr : Int32} {σr : Mm} (O : Ok LT Γ ad cX4_allVerdicts 1 RX4 wsX4_allVerdicts rm_X4_allVerdicts (some .int) (some (.int rr)) σr) {σ : Mm} {r0 : Nat} (h0 : okMo r0 = true) (hf : f_Mo_allVerdicts σ r0 = some (rr, σr)) : X LT Γ ad σ 0 [(0, .ref (ad r0))] [] := by
  unfold f_Mo_allVerdicts at hf
  refine x_aload_n O 0 dX4_allVerdicts_0 rfl rfl ?_
  refine x_getF O (t := (r0 + 2)) fl_X4_allVerdicts_15 (fk_of (fkMo h0) rfl) dX4_allVerdicts_1 ?_
  refine x_iconst O (v := 0) dX4_allVerdicts_4 (by decide) ?_
  refine x_iald O hf (arMo2 h0) dX4_allVerdicts_5 (fun j1 hf => ?_)
  refine x_aload_n O 0 dX4_allVerdicts_6 rfl rfl ?_
  refine x_getF O (t := (r0 + 2)) fl_X4_allVerdicts_15 (fk_of (fkMo h0) rfl) dX4_allVerdicts_7 ?_
  refine x_iconst O (v := 1) dX4_allVerdicts_10 (by decide) ?_
  refine x_iald O hf (arMo2 h0) dX4_allVerdicts_11 (fun j2 hf => ?_)
  refine x_iadd O dX4_allVerdicts_12 ?_
  have hk : (((gA σ (r0 + 2) j1) + (gA σ (r0 + 2) j2)), σ) = (rr, σr) := Option.some.inj hf
  obtain ⟨rfl, rfl⟩ := Prod.mk.inj hk
  exact x_iret O rfl rfl ⟨_, rfl, rfl⟩ dX4_allVerdicts_13
theorem k_Mo_allVerdicts {σ σr : Mm} {rr : Int32} {r0 : Nat} (h0 : okMo r0 = true) (hf : f_Mo_allVerdicts σ r0 = some (rr, σr)) : CT LT yX4_allVerdicts wsX4_allVerdicts rm_X4_allVerdicts (fun ad => [.ref (ad r0)]) σ (some (.int rr)) σr := CT_of2 (cc := cX4_allVerdicts) (maxL := 1) (rt := (some .int)) (own := RX4) (by decide) rfl rfl (fun _ => Nat.le_of_ble_eq_true rfl) (fun _ => rfl) (fun Γ ad O => v_Mo_allVerdicts O h0 hf)

-- ===== TippedBarrow.rateQuarry(I)I
theorem ca_X9_rateQuarry : Ca yX9_rateQuarry cX9_rateQuarry 2 (some .int) wsX9_rateQuarry rm_X9_rateQuarry 1 := ⟨⟨_, rfl⟩, rfl, rfl, by decide +kernel, by decide +kernel, by decide +kernel⟩
theorem in_X9_rateQuarry_X9 : ∀ w ∈ wsX90, w ∈ wsX9_rateQuarry := by decide +kernel
theorem fl_X9_rateQuarry_38 : Fl RX9 wsX9_rateQuarry 38 9 4 true (.object "TippedBarrow$Moment") := ⟨_, _, _, tyX9, rfl, in_X9_rateQuarry_X9, by decide, by decide +kernel, tyX9_ok, nmX9, rfl, tyX9_ok 4 (by decide)⟩
theorem fl_X9_rateQuarry_259 : Fl RX9 wsX9_rateQuarry 259 9 12 false .long := ⟨_, _, _, tyX9, rfl, in_X9_rateQuarry_X9, by decide, by decide +kernel, tyX9_ok, nmX9, rfl, tyX9_ok 12 (by decide)⟩
theorem mw_X9_rateQuarry_0 : Cond.constantLong RX9 271 (100000) ∈ wsX9_rateQuarry := by decide +kernel
set_option maxHeartbeats 4000000 in
set_option maxRecDepth 100000 in
theorem v_T_rateQuarry {Γ : Cx} {ad : Nat → Nat} {rr : Int32} {σr : Mm} (O : Ok LT Γ ad cX9_rateQuarry 2 RX9 wsX9_rateQuarry rm_X9_rateQuarry (some .int) (some (.int rr)) σr) {σ : Mm} {v1 : Int32}  (hf : f_T_rateQuarry σ v1 = some (rr, σr)) : X LT Γ ad σ 0 [(0, .ref (ad 0)), (1, .int v1)] [] := by
  unfold f_T_rateQuarry at hf
  refine x_aload_n O 0 dX9_rateQuarry_0 rfl rfl ?_
  refine x_dup O dX9_rateQuarry_1 rfl ?_
  refine x_getJ O fl_X9_rateQuarry_259 rfl dX9_rateQuarry_2 ?_
  refine x_ldc2 O (v := 100000) mw_X9_rateQuarry_0 dX9_rateQuarry_5 ?_
  refine x_ladd O dX9_rateQuarry_8 ?_
  refine x_putJN O hf hsetT nJ_T rfl rfl fl_X9_rateQuarry_259 rfl dX9_rateQuarry_9 (fun σ1 hf => ?_)
  refine x_aload_n O 0 dX9_rateQuarry_12 rfl rfl ?_
  refine x_iload_n O 1 dX9_rateQuarry_13 rfl rfl ?_
  obtain ⟨r_1, σ2, hc, hf⟩ := bd_some hf
  refine x_callV O (k_T_rateCell  hc) ca_X9_rateCell gX9_rateQuarry_X9_rateCell rfl ⟨_, _, _, _, rfl, rfl⟩ rfl rfl rfl (Nat.le_of_ble_eq_true rfl) ⟨Nat.le_of_ble_eq_true rfl, Nat.le_of_ble_eq_true rfl⟩ dX9_rateQuarry_14 ?_
  refine x_push O ?_
  refine x_aload_n O 0 dX9_rateQuarry_17 rfl rfl ?_
  refine x_getF O (t := 36) fl_X9_rateQuarry_38 rfl dX9_rateQuarry_18 ?_
  obtain ⟨r_2, σ3, hc, hf⟩ := bd_some hf
  refine x_callV O (k_Mo_allVerdicts rfl hc) ca_X4_allVerdicts gX9_rateQuarry_X4_allVerdicts rfl ⟨_, _, _, _, rfl, rfl⟩ rfl rfl rfl (Nat.le_of_ble_eq_true rfl) ⟨Nat.le_of_ble_eq_true rfl, Nat.le_of_ble_eq_true rfl⟩ dX9_rateQuarry_21 ?_
  refine x_push O ?_
  refine x_iadd O dX9_rateQuarry_24 ?_
  have hk : ((r_1 + r_2), σ3) = (rr, σr) := Option.some.inj hf
  obtain ⟨rfl, rfl⟩ := Prod.mk.inj hk
  exact x_iret O rfl rfl ⟨_, rfl, rfl⟩ dX9_rateQuarry_25
theorem k_T_rateQuarry {σ σr : Mm} {rr : Int32} {v1 : Int32}  (hf : f_T_rateQuarry σ v1 = some (rr, σr)) : CT LT yX9_rateQuarry wsX9_rateQuarry rm_X9_rateQuarry (fun ad => [.ref (ad 0), .int v1]) σ (some (.int rr)) σr := CT_of2 (cc := cX9_rateQuarry) (maxL := 2) (rt := (some .int)) (own := RX9) (by decide) rfl rfl (fun _ => Nat.le_of_ble_eq_true rfl) (fun _ => rfl) (fun Γ ad O => v_T_rateQuarry O  hf)

-- ===== TippedBarrow.rate(III)I
theorem ca_X9_rate : Ca yX9_rate cX9_rate 5 (some .int) wsX9_rate rm_X9_rate 3 := ⟨⟨_, rfl⟩, rfl, rfl, by decide +kernel, by decide +kernel, by decide +kernel⟩
theorem in_X9_rate_X9 : ∀ w ∈ wsX90, w ∈ wsX9_rate := by decide +kernel
theorem fl_X9_rate_51 : Fl RX9 wsX9_rate 51 9 5 true (.object "TippedBarrow$Ground") := ⟨_, _, _, tyX9, rfl, in_X9_rate_X9, by decide, by decide +kernel, tyX9_ok, nmX9, rfl, tyX9_ok 5 (by decide)⟩
theorem mw_X9_rate_0 : Cond.constant RX9 137 (-1000000) ∈ wsX9_rate := by decide +kernel
set_option maxHeartbeats 4000000 in
set_option maxRecDepth 100000 in
theorem v_T_rate {Γ : Cx} {ad : Nat → Nat} {rr : Int32} {σr : Mm} (O : Ok LT Γ ad cX9_rate 5 RX9 wsX9_rate rm_X9_rate (some .int) (some (.int rr)) σr) {σ : Mm} {v1 : Int32} {v2 : Int32} {v3 : Int32}  (hf : f_T_rate σ v1 v2 v3 = some (rr, σr)) : X LT Γ ad σ 0 [(0, .ref (ad 0)), (1, .int v1), (2, .int v2), (3, .int v3)] [] := by
  unfold f_T_rate at hf
  refine x_iload_n O 2 dX9_rate_0 rfl rfl ?_
  refine x_iload_n O 3 dX9_rate_1 rfl rfl ?_
  obtain ⟨r_1, σ1, hc, hf⟩ := bd_some hf
  refine x_callS O (k_T_cellAt  hc) ca_X9_cellAt gX9_rate_X9_cellAt rfl rfl rfl (Nat.le_of_ble_eq_true rfl) ⟨Nat.le_of_ble_eq_true rfl, Nat.le_of_ble_eq_true rfl⟩ dX9_rate_2 ?_
  refine x_push O ?_
  refine x_istore O dX9_rate_5 (by decide) ?_
  refine x_aload_n O 0 dX9_rate_7 rfl rfl ?_
  refine x_getF O (t := 11) fl_X9_rate_51 rfl dX9_rate_8 ?_
  refine x_iload O dX9_rate_11 rfl ?_
  obtain ⟨r_2, σ2, hc, hf⟩ := bd_some hf
  refine x_callV O (k_Gr_isBrick rfl hc) ca_X2_isBrick gX9_rate_X2_isBrick rfl ⟨_, _, _, _, rfl, rfl⟩ rfl rfl rfl (Nat.le_of_ble_eq_true rfl) ⟨Nat.le_of_ble_eq_true rfl, Nat.le_of_ble_eq_true rfl⟩ dX9_rate_13 ?_
  refine x_push O ?_
  refine x_if_eq O 22 hf dX9_rate_16 (by decide) (fun hf => ?_) (fun hf => ?_)
  · refine x_iload_n O 1 dX9_rate_22 rfl rfl ?_
    by_cases e0 : v1 = 0
    · rw [if_pos e0] at hf
      have hg9 := hf
      subst e0
      have hf := hg9
      refine x_tableIn O 60 dX9_rate_23 (by decide) (by decide) rfl (by decide) ?_
      refine x_aload_n O 0 dX9_rate_60 rfl rfl ?_
      refine x_iload O dX9_rate_61 rfl ?_
      obtain ⟨r_8, σ8, hc, hf⟩ := bd_some hf
      refine x_callV O (k_T_rateCell  hc) ca_X9_rateCell gX9_rate_X9_rateCell rfl ⟨_, _, _, _, rfl, rfl⟩ rfl rfl rfl (Nat.le_of_ble_eq_true rfl) ⟨Nat.le_of_ble_eq_true rfl, Nat.le_of_ble_eq_true rfl⟩ dX9_rate_63 ?_
      refine x_push O ?_
      have hk : (r_8, σ8) = (rr, σr) := Option.some.inj hf
      obtain ⟨rfl, rfl⟩ := Prod.mk.inj hk
      exact x_iret O rfl rfl ⟨_, rfl, rfl⟩ dX9_rate_66
    · rw [if_neg e0] at hf
      by_cases e1 : v1 = 1
      · rw [if_pos e1] at hf
        have hg9 := hf
        subst e1
        have hf := hg9
        refine x_tableIn O 67 dX9_rate_23 (by decide) (by decide) rfl (by decide) ?_
        refine x_aload_n O 0 dX9_rate_67 rfl rfl ?_
        refine x_iload O dX9_rate_68 rfl ?_
        obtain ⟨r_7, σ7, hc, hf⟩ := bd_some hf
        refine x_callV O (k_T_rateRut  hc) ca_X9_rateRut gX9_rate_X9_rateRut rfl ⟨_, _, _, _, rfl, rfl⟩ rfl rfl rfl (Nat.le_of_ble_eq_true rfl) ⟨Nat.le_of_ble_eq_true rfl, Nat.le_of_ble_eq_true rfl⟩ dX9_rate_70 ?_
        refine x_push O ?_
        have hk : (r_7, σ7) = (rr, σr) := Option.some.inj hf
        obtain ⟨rfl, rfl⟩ := Prod.mk.inj hk
        exact x_iret O rfl rfl ⟨_, rfl, rfl⟩ dX9_rate_73
      · rw [if_neg e1] at hf
        by_cases e2 : v1 = 2
        · rw [if_pos e2] at hf
          have hg9 := hf
          subst e2
          have hf := hg9
          refine x_tableIn O 74 dX9_rate_23 (by decide) (by decide) rfl (by decide) ?_
          refine x_aload_n O 0 dX9_rate_74 rfl rfl ?_
          refine x_iload O dX9_rate_75 rfl ?_
          obtain ⟨r_6, σ6, hc, hf⟩ := bd_some hf
          refine x_callV O (k_T_ratePuddle  hc) ca_X9_ratePuddle gX9_rate_X9_ratePuddle rfl ⟨_, _, _, _, rfl, rfl⟩ rfl rfl rfl (Nat.le_of_ble_eq_true rfl) ⟨Nat.le_of_ble_eq_true rfl, Nat.le_of_ble_eq_true rfl⟩ dX9_rate_77 ?_
          refine x_push O ?_
          have hk : (r_6, σ6) = (rr, σr) := Option.some.inj hf
          obtain ⟨rfl, rfl⟩ := Prod.mk.inj hk
          exact x_iret O rfl rfl ⟨_, rfl, rfl⟩ dX9_rate_80
        · rw [if_neg e2] at hf
          by_cases e3 : v1 = 3
          · rw [if_pos e3] at hf
            have hg9 := hf
            subst e3
            have hf := hg9
            refine x_tableIn O 81 dX9_rate_23 (by decide) (by decide) rfl (by decide) ?_
            refine x_aload_n O 0 dX9_rate_81 rfl rfl ?_
            refine x_iload O dX9_rate_82 rfl ?_
            obtain ⟨r_5, σ5, hc, hf⟩ := bd_some hf
            refine x_callV O (k_T_ratePlank  hc) ca_X9_ratePlank gX9_rate_X9_ratePlank rfl ⟨_, _, _, _, rfl, rfl⟩ rfl rfl rfl (Nat.le_of_ble_eq_true rfl) ⟨Nat.le_of_ble_eq_true rfl, Nat.le_of_ble_eq_true rfl⟩ dX9_rate_84 ?_
            refine x_push O ?_
            have hk : (r_5, σ5) = (rr, σr) := Option.some.inj hf
            obtain ⟨rfl, rfl⟩ := Prod.mk.inj hk
            exact x_iret O rfl rfl ⟨_, rfl, rfl⟩ dX9_rate_87
          · rw [if_neg e3] at hf
            by_cases e4 : v1 = 4
            · rw [if_pos e4] at hf
              have hg9 := hf
              subst e4
              have hf := hg9
              refine x_tableIn O 88 dX9_rate_23 (by decide) (by decide) rfl (by decide) ?_
              refine x_aload_n O 0 dX9_rate_88 rfl rfl ?_
              refine x_iload O dX9_rate_89 rfl ?_
              obtain ⟨r_4, σ4, hc, hf⟩ := bd_some hf
              refine x_callV O (k_T_rateBean  hc) ca_X9_rateBean gX9_rate_X9_rateBean rfl ⟨_, _, _, _, rfl, rfl⟩ rfl rfl rfl (Nat.le_of_ble_eq_true rfl) ⟨Nat.le_of_ble_eq_true rfl, Nat.le_of_ble_eq_true rfl⟩ dX9_rate_91 ?_
              refine x_push O ?_
              have hk : (r_4, σ4) = (rr, σr) := Option.some.inj hf
              obtain ⟨rfl, rfl⟩ := Prod.mk.inj hk
              exact x_iret O rfl rfl ⟨_, rfl, rfl⟩ dX9_rate_94
            · rw [if_neg e4] at hf
              by_cases e5 : v1 = 5
              · rw [if_pos e5] at hf
                have hg9 := hf
                subst e5
                have hf := hg9
                refine x_tableIn O 95 dX9_rate_23 (by decide) (by decide) rfl (by decide) ?_
                refine x_aload_n O 0 dX9_rate_95 rfl rfl ?_
                refine x_iload O dX9_rate_96 rfl ?_
                obtain ⟨r_3, σ3, hc, hf⟩ := bd_some hf
                refine x_callV O (k_T_rateQuarry  hc) ca_X9_rateQuarry gX9_rate_X9_rateQuarry rfl ⟨_, _, _, _, rfl, rfl⟩ rfl rfl rfl (Nat.le_of_ble_eq_true rfl) ⟨Nat.le_of_ble_eq_true rfl, Nat.le_of_ble_eq_true rfl⟩ dX9_rate_98 ?_
                refine x_push O ?_
                have hk : (r_3, σ3) = (rr, σr) := Option.some.inj hf
                obtain ⟨rfl, rfl⟩ := Prod.mk.inj hk
                exact x_iret O rfl rfl ⟨_, rfl, rfl⟩ dX9_rate_101
              · rw [if_neg e5] at hf
                refine x_tableOut O 102 dX9_rate_23 (tb_out (x := v1) (hi := 5) (by decide) (fun k hk => by rcases (show k = 0 ∨ k = 1 ∨ k = 2 ∨ k = 3 ∨ k = 4 ∨ k = 5 by omega) with rfl | rfl | rfl | rfl | rfl | rfl <;> first | exact e0 | exact e1 | exact e2 | exact e3 | exact e4 | exact e5)) (by decide) ?_
                refine x_ldc O (v := -1000000) mw_X9_rate_0 dX9_rate_102 ?_
                have hk : ((-1000000), σ2) = (rr, σr) := Option.some.inj hf
                obtain ⟨rfl, rfl⟩ := Prod.mk.inj hk
                exact x_iret O rfl rfl ⟨_, rfl, rfl⟩ dX9_rate_104
  · refine x_ldc O (v := -1000000) mw_X9_rate_0 dX9_rate_19 ?_
    have hk : ((-1000000), σ2) = (rr, σr) := Option.some.inj hf
    obtain ⟨rfl, rfl⟩ := Prod.mk.inj hk
    exact x_iret O rfl rfl ⟨_, rfl, rfl⟩ dX9_rate_21
theorem k_T_rate {σ σr : Mm} {rr : Int32} {v1 : Int32} {v2 : Int32} {v3 : Int32}  (hf : f_T_rate σ v1 v2 v3 = some (rr, σr)) : CT LT yX9_rate wsX9_rate rm_X9_rate (fun ad => [.ref (ad 0), .int v1, .int v2, .int v3]) σ (some (.int rr)) σr := CT_of2 (cc := cX9_rate) (maxL := 5) (rt := (some .int)) (own := RX9) (by decide) rfl rfl (fun _ => Nat.le_of_ble_eq_true rfl) (fun _ => rfl) (fun Γ ad O => v_T_rate O  hf)

-- ===== TippedBarrow.keep(I)I
theorem ca_X9_keep : Ca yX9_keep cX9_keep 2 (some .int) wsX9_keep rm_X9_keep 1 := ⟨⟨_, rfl⟩, rfl, rfl, by decide +kernel, by decide +kernel, by decide +kernel⟩
theorem in_X9_keep_X9 : ∀ w ∈ wsX90, w ∈ wsX9_keep := by decide +kernel
theorem fl_X9_keep_38 : Fl RX9 wsX9_keep 38 9 4 true (.object "TippedBarrow$Moment") := ⟨_, _, _, tyX9, rfl, in_X9_keep_X9, by decide, by decide +kernel, tyX9_ok, nmX9, rfl, tyX9_ok 4 (by decide)⟩
theorem fl_X9_keep_65 : Fl RX9 wsX9_keep 65 9 8 true (.array (.object "TippedBarrow$Moment")) := ⟨_, _, _, tyX9, rfl, in_X9_keep_X9, by decide, by decide +kernel, tyX9_ok, nmX9, rfl, tyX9_ok 8 (by decide)⟩
theorem fl_X9_keep_69 : Fl RX9 wsX9_keep 69 9 9 true (.array .boolean) := ⟨_, _, _, tyX9, rfl, in_X9_keep_X9, by decide, by decide +kernel, tyX9_ok, nmX9, rfl, tyX9_ok 9 (by decide)⟩
set_option maxHeartbeats 4000000 in
set_option maxRecDepth 100000 in
theorem v_T_keep {Γ : Cx} {ad : Nat → Nat} {rr : Int32} {σr : Mm} (O : Ok LT Γ ad cX9_keep 2 RX9 wsX9_keep rm_X9_keep (some .int) (some (.int rr)) σr) {σ : Mm} {v1 : Int32}  (hf : f_T_keep σ v1 = some (rr, σr)) : X LT Γ ad σ 0 [(0, .ref (ad 0)), (1, .int v1)] [] := by
  unfold f_T_keep at hf
  refine x_iload_n O 1 dX9_keep_0 rfl rfl ?_
  refine x_if_lt O 9 hf dX9_keep_1 (by decide) (fun hf => ?_) (fun hf => ?_)
  · refine x_iconst O (v := -1) dX9_keep_9 (by decide) ?_
    have hk : ((-1), σ) = (rr, σr) := Option.some.inj hf
    obtain ⟨rfl, rfl⟩ := Prod.mk.inj hk
    exact x_iret O rfl rfl ⟨_, rfl, rfl⟩ dX9_keep_10
  · refine x_iload_n O 1 dX9_keep_4 rfl rfl ?_
    refine x_iconst O (v := 2) dX9_keep_5 (by decide) ?_
    refine x_icmp_lt O 11 hf dX9_keep_6 (by decide) (fun hf => ?_) (fun hf => ?_)
    · refine x_aload_n O 0 dX9_keep_11 rfl rfl ?_
      refine x_getF O (t := 18) fl_X9_keep_65 rfl dX9_keep_12 ?_
      refine x_iload_n O 1 dX9_keep_15 rfl rfl ?_
      refine x_aald O (g := fun j => 80 + 4 * j) hf rfl rfl idMo_i dX9_keep_16 (fun j1 hj1 hf => ?_)
      refine x_aload_n O 0 dX9_keep_17 rfl rfl ?_
      refine x_getF O (t := 36) fl_X9_keep_38 rfl dX9_keep_18 ?_
      obtain ⟨r_1, σ1, hc, hf⟩ := bd_some hf
      refine x_callV O (k_Mo_become (okMo_i hj1) rfl hc) ca_X4_become gX9_keep_X4_become rfl (okCl_Mo (okMo_i hj1)) rfl rfl rfl (Nat.le_of_ble_eq_true rfl) ⟨Nat.le_of_ble_eq_true rfl, Nat.le_of_ble_eq_true rfl⟩ dX9_keep_21 ?_
      refine x_pushN O ?_
      refine x_aload_n O 0 dX9_keep_24 rfl rfl ?_
      refine x_getF O (t := 19) fl_X9_keep_69 rfl dX9_keep_25 ?_
      refine x_iload_n O 1 dX9_keep_28 rfl rfl ?_
      refine x_iconst O (v := 1) dX9_keep_29 (by decide) ?_
      refine x_zastN O hf (by decide) rfl dX9_keep_30 (fun σ2 hf => ?_)
      refine x_aload_n O 0 dX9_keep_31 rfl rfl ?_
      refine x_getF O (t := 36) fl_X9_keep_38 rfl dX9_keep_32 ?_
      obtain ⟨r_2, σ3, hc, hf⟩ := bd_some hf
      refine x_callV O (k_Mo_allVerdicts rfl hc) ca_X4_allVerdicts gX9_keep_X4_allVerdicts rfl ⟨_, _, _, _, rfl, rfl⟩ rfl rfl rfl (Nat.le_of_ble_eq_true rfl) ⟨Nat.le_of_ble_eq_true rfl, Nat.le_of_ble_eq_true rfl⟩ dX9_keep_35 ?_
      refine x_push O ?_
      have hk : (r_2, σ3) = (rr, σr) := Option.some.inj hf
      obtain ⟨rfl, rfl⟩ := Prod.mk.inj hk
      exact x_iret O rfl rfl ⟨_, rfl, rfl⟩ dX9_keep_38
    · refine x_iconst O (v := -1) dX9_keep_9 (by decide) ?_
      have hk : ((-1), σ) = (rr, σr) := Option.some.inj hf
      obtain ⟨rfl, rfl⟩ := Prod.mk.inj hk
      exact x_iret O rfl rfl ⟨_, rfl, rfl⟩ dX9_keep_10
theorem k_T_keep {σ σr : Mm} {rr : Int32} {v1 : Int32}  (hf : f_T_keep σ v1 = some (rr, σr)) : CT LT yX9_keep wsX9_keep rm_X9_keep (fun ad => [.ref (ad 0), .int v1]) σ (some (.int rr)) σr := CT_of2 (cc := cX9_keep) (maxL := 2) (rt := (some .int)) (own := RX9) (by decide) rfl rfl (fun _ => Nat.le_of_ble_eq_true rfl) (fun _ => rfl) (fun Γ ad O => v_T_keep O  hf)

-- ===== TippedBarrow.back(I)I
theorem ca_X9_back : Ca yX9_back cX9_back 2 (some .int) wsX9_back rm_X9_back 1 := ⟨⟨_, rfl⟩, rfl, rfl, by decide +kernel, by decide +kernel, by decide +kernel⟩
theorem in_X9_back_X3 : ∀ w ∈ wsX30, w ∈ wsX9_back := by decide +kernel
theorem in_X9_back_X9 : ∀ w ∈ wsX90, w ∈ wsX9_back := by decide +kernel
theorem fl_X9_back_38 : Fl RX9 wsX9_back 38 9 4 true (.object "TippedBarrow$Moment") := ⟨_, _, _, tyX9, rfl, in_X9_back_X9, by decide, by decide +kernel, tyX9_ok, nmX9, rfl, tyX9_ok 4 (by decide)⟩
theorem fl_X9_back_61 : Fl RX9 wsX9_back 61 9 7 true (.object "TippedBarrow$History") := ⟨_, _, _, tyX9, rfl, in_X9_back_X9, by decide, by decide +kernel, tyX9_ok, nmX9, rfl, tyX9_ok 7 (by decide)⟩
theorem fl_X9_back_65 : Fl RX9 wsX9_back 65 9 8 true (.array (.object "TippedBarrow$Moment")) := ⟨_, _, _, tyX9, rfl, in_X9_back_X9, by decide, by decide +kernel, tyX9_ok, nmX9, rfl, tyX9_ok 8 (by decide)⟩
theorem fl_X9_back_69 : Fl RX9 wsX9_back 69 9 9 true (.array .boolean) := ⟨_, _, _, tyX9, rfl, in_X9_back_X9, by decide, by decide +kernel, tyX9_ok, nmX9, rfl, tyX9_ok 9 (by decide)⟩
theorem fl_X9_back_124 : Fl RX9 wsX9_back 124 3 2 false .int := ⟨_, _, _, tyX3, rfl, in_X9_back_X3, by decide, by decide +kernel, tyX3_ok, nmX3, rfl, tyX3_ok 2 (by decide)⟩
set_option maxHeartbeats 4000000 in
set_option maxRecDepth 100000 in
theorem v_T_back {Γ : Cx} {ad : Nat → Nat} {rr : Int32} {σr : Mm} (O : Ok LT Γ ad cX9_back 2 RX9 wsX9_back rm_X9_back (some .int) (some (.int rr)) σr) {σ : Mm} {v1 : Int32}  (hf : f_T_back σ v1 = some (rr, σr)) : X LT Γ ad σ 0 [(0, .ref (ad 0)), (1, .int v1)] [] := by
  unfold f_T_back at hf
  refine x_iload_n O 1 dX9_back_0 rfl rfl ?_
  refine x_if_lt O 9 hf dX9_back_1 (by decide) (fun hf => ?_) (fun hf => ?_)
  · refine x_iconst O (v := -1) dX9_back_9 (by decide) ?_
    have hk : ((-1), σ) = (rr, σr) := Option.some.inj hf
    obtain ⟨rfl, rfl⟩ := Prod.mk.inj hk
    exact x_iret O rfl rfl ⟨_, rfl, rfl⟩ dX9_back_10
  · refine x_iload_n O 1 dX9_back_4 rfl rfl ?_
    refine x_iconst O (v := 2) dX9_back_5 (by decide) ?_
    refine x_icmp_lt O 11 hf dX9_back_6 (by decide) (fun hf => ?_) (fun hf => ?_)
    · refine x_aload_n O 0 dX9_back_11 rfl rfl ?_
      refine x_getF O (t := 19) fl_X9_back_69 rfl dX9_back_12 ?_
      refine x_iload_n O 1 dX9_back_15 rfl rfl ?_
      refine x_zald O hf rfl dX9_back_16 (fun j1 hf => ?_)
      refine x_if_ne O 23 hf dX9_back_17 (by decide) (fun hf => ?_) (fun hf => ?_)
      · refine x_aload_n O 0 dX9_back_23 rfl rfl ?_
        refine x_getF O (t := 36) fl_X9_back_38 rfl dX9_back_24 ?_
        refine x_aload_n O 0 dX9_back_27 rfl rfl ?_
        refine x_getF O (t := 18) fl_X9_back_65 rfl dX9_back_28 ?_
        refine x_iload_n O 1 dX9_back_31 rfl rfl ?_
        refine x_aald O (g := fun j => 80 + 4 * j) hf rfl rfl idMo_i dX9_back_32 (fun j2 hj2 hf => ?_)
        obtain ⟨r_1, σ1, hc, hf⟩ := bd_some hf
        refine x_callV O (k_Mo_become rfl (okMo_i hj2) hc) ca_X4_become gX9_back_X4_become rfl ⟨_, _, _, _, rfl, rfl⟩ rfl rfl rfl (Nat.le_of_ble_eq_true rfl) ⟨Nat.le_of_ble_eq_true rfl, Nat.le_of_ble_eq_true rfl⟩ dX9_back_33 ?_
        refine x_pushN O ?_
        refine x_aload_n O 0 dX9_back_36 rfl rfl ?_
        refine x_getF O (t := 16) fl_X9_back_61 rfl dX9_back_37 ?_
        refine x_iconst O (v := 0) dX9_back_40 (by decide) ?_
        refine x_putIN O hf rfl rfl fl_X9_back_124 rfl dX9_back_41 (fun σ2 hf => ?_)
        refine x_aload_n O 0 dX9_back_44 rfl rfl ?_
        refine x_getF O (t := 36) fl_X9_back_38 rfl dX9_back_45 ?_
        obtain ⟨r_2, σ3, hc, hf⟩ := bd_some hf
        refine x_callV O (k_Mo_allVerdicts rfl hc) ca_X4_allVerdicts gX9_back_X4_allVerdicts rfl ⟨_, _, _, _, rfl, rfl⟩ rfl rfl rfl (Nat.le_of_ble_eq_true rfl) ⟨Nat.le_of_ble_eq_true rfl, Nat.le_of_ble_eq_true rfl⟩ dX9_back_48 ?_
        refine x_push O ?_
        have hk : (r_2, σ3) = (rr, σr) := Option.some.inj hf
        obtain ⟨rfl, rfl⟩ := Prod.mk.inj hk
        exact x_iret O rfl rfl ⟨_, rfl, rfl⟩ dX9_back_51
      · refine x_bipush O (v := -2) dX9_back_20 (by decide) ?_
        have hk : ((-2), σ) = (rr, σr) := Option.some.inj hf
        obtain ⟨rfl, rfl⟩ := Prod.mk.inj hk
        exact x_iret O rfl rfl ⟨_, rfl, rfl⟩ dX9_back_22
    · refine x_iconst O (v := -1) dX9_back_9 (by decide) ?_
      have hk : ((-1), σ) = (rr, σr) := Option.some.inj hf
      obtain ⟨rfl, rfl⟩ := Prod.mk.inj hk
      exact x_iret O rfl rfl ⟨_, rfl, rfl⟩ dX9_back_10
theorem k_T_back {σ σr : Mm} {rr : Int32} {v1 : Int32}  (hf : f_T_back σ v1 = some (rr, σr)) : CT LT yX9_back wsX9_back rm_X9_back (fun ad => [.ref (ad 0), .int v1]) σ (some (.int rr)) σr := CT_of2 (cc := cX9_back) (maxL := 2) (rt := (some .int)) (own := RX9) (by decide) rfl rfl (fun _ => Nat.le_of_ble_eq_true rfl) (fun _ => rfl) (fun Γ ad O => v_T_back O  hf)
