-- ===== TippedBarrowModel.gcd(II)I
theorem ca_X10_gcd : Ca yX10_gcd cX10_gcd 5 (some .int) wsX10_gcd rm_X10_gcd 2 := ⟨⟨_, rfl⟩, rfl, rfl, by decide +kernel, by decide +kernel, by decide +kernel⟩
set_option maxHeartbeats 4000000 in
set_option maxRecDepth 100000 in
theorem v_M_gcd_4_b {Γ : Cx} {ad : Nat → Nat} {rr : Int32} {σr : Mm} (O : Ok LM Γ ad cX10_gcd 5 RX10 wsX10_gcd rm_X10_gcd (some .int) (some (.int rr)) σr) {σ : Mm} {v2 : Int32} {v3 : Int32}  {x : (Mm × Int32 × Int32) ⊕ (Int32 × Mm)} (hf : f_M_gcd_4_b σ v2 v3 = some x) (hk : (kx (fun s : Mm × Int32 × Int32 => X LM Γ ad s.1 4 [(2, .int s.2.1), (3, .int s.2.2)] []) (fun q : Int32 × Mm => q = (rr, σr))) x) : X LM Γ ad σ 4 [(2, .int v2), (3, .int v3)] [] := by
  unfold f_M_gcd_4_b at hf
  refine x_iload_n O 3 dX10_gcd_4 rfl rfl ?_
  refine x_if_eq O 21 hf dX10_gcd_5 (by decide) (fun hf => ?_) (fun hf => ?_)
  · obtain ⟨x', hg1, hx⟩ := map_inr hf
    subst hx
    have hk := kx_r hk
    have hx : x' = (rr, σr) := hk
    subst hx
    have hf := hg1
    refine x_iload_n O 2 dX10_gcd_21 rfl rfl ?_
    have hk : (v2, σ) = (rr, σr) := Option.some.inj hf
    obtain ⟨rfl, rfl⟩ := Prod.mk.inj hk
    exact x_iret O rfl rfl ⟨_, rfl, rfl⟩ dX10_gcd_22
  · refine x_iload_n O 2 dX10_gcd_8 rfl rfl ?_
    refine x_iload_n O 3 dX10_gcd_9 rfl rfl ?_
    refine x_irem O hf dX10_gcd_10 (fun hf => ?_)
    refine x_istoreN O hf dX10_gcd_11 (by decide) (fun y1 hf => ?_)
    refine x_iload_n O 3 dX10_gcd_13 rfl rfl ?_
    refine x_istore_n O 2 dX10_gcd_14 rfl (by decide) ?_
    refine x_iload O dX10_gcd_15 rfl ?_
    refine x_istore_n O 3 dX10_gcd_17 rfl (by decide) ?_
    refine x_goto O 4 dX10_gcd_18 (by decide) ?_
    obtain rfl := Option.some.inj hf
    have hk := kx_l hk
    exact x_jmp O hk rfl
set_option maxHeartbeats 4000000 in
set_option maxRecDepth 100000 in
theorem v_M_gcd_4 {Γ : Cx} {ad : Nat → Nat} {rr : Int32} {σr : Mm} (O : Ok LM Γ ad cX10_gcd 5 RX10 wsX10_gcd rm_X10_gcd (some .int) (some (.int rr)) σr) {σ : Mm} {v2 : Int32} {v3 : Int32}  (hf : f_M_gcd_4 σ v2 v3 = some (rr, σr)) : X LM Γ ad σ 4 [(2, .int v2), (3, .int v3)] [] := lpX (P := (fun s : Mm × Int32 × Int32 => X LM Γ ad s.1 4 [(2, .int s.2.1), (3, .int s.2.2)] [])) (K := (fun q : Int32 × Mm => q = (rr, σr))) (fun s x g1 g2 => v_M_gcd_4_b O (σ := s.1)  (v2 := s.2.1) (v3 := s.2.2)  g1 g2) (σ, v2, v3) _ hf rfl
set_option maxHeartbeats 4000000 in
set_option maxRecDepth 100000 in
theorem v_M_gcd {Γ : Cx} {ad : Nat → Nat} {rr : Int32} {σr : Mm} (O : Ok LM Γ ad cX10_gcd 5 RX10 wsX10_gcd rm_X10_gcd (some .int) (some (.int rr)) σr) {σ : Mm} {v0 : Int32} {v1 : Int32}  (hf : f_M_gcd σ v0 v1 = some (rr, σr)) : X LM Γ ad σ 0 [(0, .int v0), (1, .int v1)] [] := by
  unfold f_M_gcd at hf
  refine x_iload_n O 0 dX10_gcd_0 rfl rfl ?_
  refine x_istore_n O 2 dX10_gcd_1 rfl (by decide) ?_
  refine x_iload_n O 1 dX10_gcd_2 rfl rfl ?_
  refine x_istore_n O 3 dX10_gcd_3 rfl (by decide) ?_
  exact x_jmp O (v_M_gcd_4 O (σ := σ) (v2 := v0) (v3 := v1)  hf) rfl
theorem k_M_gcd {σ σr : Mm} {rr : Int32} {v0 : Int32} {v1 : Int32}  (hf : f_M_gcd σ v0 v1 = some (rr, σr)) : CT LM yX10_gcd wsX10_gcd rm_X10_gcd (fun ad => [.int v0, .int v1]) σ (some (.int rr)) σr := CT_of2 (cc := cX10_gcd) (maxL := 5) (rt := (some .int)) (own := RX10) (by decide) rfl rfl (fun _ => Nat.le_of_ble_eq_true rfl) (fun _ => rfl) (fun Γ ad O => v_M_gcd O  hf)

-- ===== TippedBarrowModel.spreads(II)I
theorem ca_X10_spreads : Ca yX10_spreads cX10_spreads 8 (some .int) wsX10_spreads rm_X10_spreads 2 := ⟨⟨_, rfl⟩, rfl, rfl, by decide +kernel, by decide +kernel, by decide +kernel⟩
theorem in_X10_spreads_X10 : ∀ w ∈ wsX100, w ∈ wsX10_spreads := by decide +kernel
theorem fl_X10_spreads_44 : Fl RX10 wsX10_spreads 44 10 26 true (.array .int) := ⟨_, _, _, tyX10, rfl, in_X10_spreads_X10, by decide, by decide +kernel, tyX10_ok, nmX10, rfl, tyX10_ok 26 (by decide)⟩
theorem fl_X10_spreads_47 : Fl RX10 wsX10_spreads 47 10 27 true (.array .int) := ⟨_, _, _, tyX10, rfl, in_X10_spreads_X10, by decide, by decide +kernel, tyX10_ok, nmX10, rfl, tyX10_ok 27 (by decide)⟩
theorem fl_X10_spreads_144 : Fl RX10 wsX10_spreads 144 10 21 false .int := ⟨_, _, _, tyX10, rfl, in_X10_spreads_X10, by decide, by decide +kernel, tyX10_ok, nmX10, rfl, tyX10_ok 21 (by decide)⟩
theorem fl_X10_spreads_147 : Fl RX10 wsX10_spreads 147 10 22 false .int := ⟨_, _, _, tyX10, rfl, in_X10_spreads_X10, by decide, by decide +kernel, tyX10_ok, nmX10, rfl, tyX10_ok 22 (by decide)⟩
set_option maxHeartbeats 4000000 in
set_option maxRecDepth 100000 in
theorem v_M_spreads_154 {Γ : Cx} {ad : Nat → Nat} {rr : Int32} {σr : Mm} (O : Ok LM Γ ad cX10_spreads 8 RX10 wsX10_spreads rm_X10_spreads (some .int) (some (.int rr)) σr) {σ : Mm} {v1 : Int32} {v2 : Int32} {v3 : Int32} {v5 : Int32} {s0 : Int32} {s1 : Int32}  {x : (Mm × Int32 × Int32) ⊕ (Int32 × Mm)} (hf : f_M_spreads_154 σ v5 s0 s1 = some x) (hk : (kx (fun s : Mm × Int32 × Int32 => X LM Γ ad s.1 76 [(0, .ref (ad 0)), (1, .int v1), (2, .int v2), (3, .int v3), (4, .int s.2.1), (5, .int s.2.2)] []) (fun q : Int32 × Mm => q = (rr, σr))) x) : X LM Γ ad σ 154 [(0, .ref (ad 0)), (1, .int v1), (2, .int v2), (3, .int v3), (5, .int v5)] [.int s1, .int s0] := by
  unfold f_M_spreads_154 at hf
  refine x_iadd O dX10_spreads_154 ?_
  refine x_istoreN O hf dX10_spreads_155 (by decide) (fun y1 hf => ?_)
  refine x_iincN O hf dX10_spreads_157 rfl rfl (by decide) (fun y2 hf => ?_)
  refine x_goto O 76 dX10_spreads_160 (by decide) ?_
  obtain rfl := Option.some.inj hf
  have hk := kx_l hk
  exact x_jmp O hk rfl
set_option maxHeartbeats 4000000 in
set_option maxRecDepth 100000 in
theorem v_M_spreads_140 {Γ : Cx} {ad : Nat → Nat} {rr : Int32} {σr : Mm} (O : Ok LM Γ ad cX10_spreads 8 RX10 wsX10_spreads rm_X10_spreads (some .int) (some (.int rr)) σr) {σ : Mm} {v1 : Int32} {v2 : Int32} {v3 : Int32} {v4 : Int32} {v5 : Int32} {v6 : Int32} {v7 : Int32}  {x : (Mm × Int32 × Int32) ⊕ (Int32 × Mm)} (hf : f_M_spreads_140 σ v2 v4 v5 v6 v7 = some x) (hk : (kx (fun s : Mm × Int32 × Int32 => X LM Γ ad s.1 76 [(0, .ref (ad 0)), (1, .int v1), (2, .int v2), (3, .int v3), (4, .int s.2.1), (5, .int s.2.2)] []) (fun q : Int32 × Mm => q = (rr, σr))) x) : X LM Γ ad σ 140 [(0, .ref (ad 0)), (1, .int v1), (2, .int v2), (3, .int v3), (4, .int v4), (5, .int v5), (6, .int v6), (7, .int v7)] [] := by
  unfold f_M_spreads_140 at hf
  refine x_iload O dX10_spreads_140 rfl ?_
  refine x_iload O dX10_spreads_142 rfl ?_
  refine x_iload_n O 2 dX10_spreads_144 rfl rfl ?_
  refine x_icmp_ne O 153 hf dX10_spreads_145 (by decide) (fun hf => ?_) (fun hf => ?_)
  · refine x_iconst O (v := 0) dX10_spreads_153 (by decide) ?_
    exact x_jmp O (v_M_spreads_154 O (σ := σ) (v1 := v1) (v2 := v2) (v3 := v3) (v5 := v5) (s0 := v4) (s1 := 0)  hf hk) rfl
  · refine x_iload O dX10_spreads_148 rfl ?_
    refine x_goto O 154 dX10_spreads_150 (by decide) ?_
    exact x_jmp O (v_M_spreads_154 O (σ := σ) (v1 := v1) (v2 := v2) (v3 := v3) (v5 := v5) (s0 := v4) (s1 := v7)  hf hk) rfl
set_option maxHeartbeats 4000000 in
set_option maxRecDepth 100000 in
theorem v_M_spreads_76_b {Γ : Cx} {ad : Nat → Nat} {rr : Int32} {σr : Mm} (O : Ok LM Γ ad cX10_spreads 8 RX10 wsX10_spreads rm_X10_spreads (some .int) (some (.int rr)) σr) {σ : Mm} {v1 : Int32} {v2 : Int32} {v3 : Int32} {v4 : Int32} {v5 : Int32}  {x : (Mm × Int32 × Int32) ⊕ (Int32 × Mm)} (hf : f_M_spreads_76_b v1 v2 v3 σ v4 v5 = some x) (hk : (kx (fun s : Mm × Int32 × Int32 => X LM Γ ad s.1 76 [(0, .ref (ad 0)), (1, .int v1), (2, .int v2), (3, .int v3), (4, .int s.2.1), (5, .int s.2.2)] []) (fun q : Int32 × Mm => q = (rr, σr))) x) : X LM Γ ad σ 76 [(0, .ref (ad 0)), (1, .int v1), (2, .int v2), (3, .int v3), (4, .int v4), (5, .int v5)] [] := by
  unfold f_M_spreads_76_b at hf
  refine x_iload O dX10_spreads_76 rfl ?_
  refine x_iconst O (v := 4) dX10_spreads_78 (by decide) ?_
  refine x_icmp_ge O 163 hf dX10_spreads_79 (by decide) (fun hf => ?_) (fun hf => ?_)
  · obtain ⟨x', hg1, hx⟩ := map_inr hf
    subst hx
    have hk := kx_r hk
    have hx : x' = (rr, σr) := hk
    subst hx
    have hf := hg1
    refine x_iload O dX10_spreads_163 rfl ?_
    have hk : (v4, σ) = (rr, σr) := Option.some.inj hf
    obtain ⟨rfl, rfl⟩ := Prod.mk.inj hk
    exact x_iret O rfl rfl ⟨_, rfl, rfl⟩ dX10_spreads_165
  · refine x_aload_n O 0 dX10_spreads_82 rfl rfl ?_
    refine x_iload_n O 1 dX10_spreads_83 rfl rfl ?_
    refine x_bipush O (v := 17) dX10_spreads_84 (by decide) ?_
    refine x_idivK O (by decide) dX10_spreads_86 ?_
    refine x_iload_n O 1 dX10_spreads_87 rfl rfl ?_
    refine x_bipush O (v := 17) dX10_spreads_88 (by decide) ?_
    refine x_iremK O (by decide) dX10_spreads_90 ?_
    refine x_bipush O (v := 8) dX10_spreads_91 (by decide) ?_
    refine x_isub O dX10_spreads_93 ?_
    refine x_iload O dX10_spreads_94 rfl ?_
    obtain ⟨r_1, σ1, hc, hf⟩ := bd_some hf
    refine x_callV O (k_M_comesBy  hc) ca_X10_comesBy gX10_spreads_X10_comesBy rfl ⟨_, _, _, _, rfl, rfl⟩ rfl rfl rfl (Nat.le_of_ble_eq_true rfl) ⟨Nat.le_of_ble_eq_true rfl, Nat.le_of_ble_eq_true rfl⟩ dX10_spreads_96 ?_
    refine x_push O ?_
    refine x_istore O dX10_spreads_99 (by decide) ?_
    refine x_aload_n O 0 dX10_spreads_101 rfl rfl ?_
    refine x_getF O (t := 12) fl_X10_spreads_44 rfl dX10_spreads_102 ?_
    refine x_iload_n O 1 dX10_spreads_105 rfl rfl ?_
    refine x_iald O hf rfl dX10_spreads_106 (fun j1 hf => ?_)
    refine x_bipush O (v := 12) dX10_spreads_107 (by decide) ?_
    refine x_iload_n O 3 dX10_spreads_109 rfl rfl ?_
    refine x_idiv O hf dX10_spreads_110 (fun hf => ?_)
    refine x_imul O dX10_spreads_111 ?_
    refine x_istoreN O hf dX10_spreads_112 (by decide) (fun y1 hf => ?_)
    refine x_iload O dX10_spreads_114 rfl ?_
    refine x_if_ne O 140 hf dX10_spreads_116 (by decide) (fun hf => ?_) (fun hf => ?_)
    · exact x_jmp O (v_M_spreads_140 O (σ := σ1) (v1 := v1) (v2 := v2) (v3 := v3) (v4 := v4) (v5 := v5) (v6 := r_1) (v7 := y1)  hf hk) rfl
    · refine x_aload_n O 0 dX10_spreads_119 rfl rfl ?_
      refine x_getF O (t := 13) fl_X10_spreads_47 rfl dX10_spreads_120 ?_
      refine x_aload_n O 0 dX10_spreads_123 rfl rfl ?_
      refine x_getI O fl_X10_spreads_144 rfl dX10_spreads_124 ?_
      refine x_aload_n O 0 dX10_spreads_127 rfl rfl ?_
      refine x_getI O fl_X10_spreads_147 rfl dX10_spreads_128 ?_
      obtain ⟨r_2, σ2, hc, hf⟩ := bd_some hf
      refine x_callS O (k_M_spot  hc) ca_X10_spot gX10_spreads_X10_spot rfl rfl rfl (Nat.le_of_ble_eq_true rfl) ⟨Nat.le_of_ble_eq_true rfl, Nat.le_of_ble_eq_true rfl⟩ dX10_spreads_131 ?_
      refine x_push O ?_
      refine x_dup2 O dX10_spreads_134 rfl rfl ?_
      refine x_iald O hf rfl dX10_spreads_135 (fun j2 hf => ?_)
      refine x_iload O dX10_spreads_136 rfl ?_
      refine x_iadd O dX10_spreads_138 ?_
      refine x_iastN O hf rfl dX10_spreads_139 (fun σ3 hf => ?_)
      exact x_jmp O (v_M_spreads_140 O (σ := σ3) (v1 := v1) (v2 := v2) (v3 := v3) (v4 := v4) (v5 := v5) (v6 := r_1) (v7 := y1)  hf hk) rfl
set_option maxHeartbeats 4000000 in
set_option maxRecDepth 100000 in
theorem v_M_spreads_76 {Γ : Cx} {ad : Nat → Nat} {rr : Int32} {σr : Mm} (O : Ok LM Γ ad cX10_spreads 8 RX10 wsX10_spreads rm_X10_spreads (some .int) (some (.int rr)) σr) {σ : Mm} {v1 : Int32} {v2 : Int32} {v3 : Int32} {v4 : Int32} {v5 : Int32}  (hf : f_M_spreads_76 σ v1 v2 v3 v4 v5 = some (rr, σr)) : X LM Γ ad σ 76 [(0, .ref (ad 0)), (1, .int v1), (2, .int v2), (3, .int v3), (4, .int v4), (5, .int v5)] [] := lpX (P := (fun s : Mm × Int32 × Int32 => X LM Γ ad s.1 76 [(0, .ref (ad 0)), (1, .int v1), (2, .int v2), (3, .int v3), (4, .int s.2.1), (5, .int s.2.2)] [])) (K := (fun q : Int32 × Mm => q = (rr, σr))) (fun s x g1 g2 => v_M_spreads_76_b O (σ := s.1) (v1 := v1) (v2 := v2) (v3 := v3) (v4 := s.2.1) (v5 := s.2.2)  g1 g2) (σ, v4, v5) _ hf rfl
set_option maxHeartbeats 4000000 in
set_option maxRecDepth 100000 in
theorem v_M_spreads_49 {Γ : Cx} {ad : Nat → Nat} {rr : Int32} {σr : Mm} (O : Ok LM Γ ad cX10_spreads 8 RX10 wsX10_spreads rm_X10_spreads (some .int) (some (.int rr)) σr) {σ : Mm} {v1 : Int32} {v2 : Int32} {v3 : Int32} {v4 : Int32}  (hf : f_M_spreads_49 σ v1 v2 v3 v4 = some (rr, σr)) : X LM Γ ad σ 49 [(0, .ref (ad 0)), (1, .int v1), (2, .int v2), (3, .int v3), (4, .int v4)] [] := by
  unfold f_M_spreads_49 at hf
  refine x_iload_n O 3 dX10_spreads_49 rfl rfl ?_
  refine x_if_ne O 73 hf dX10_spreads_50 (by decide) (fun hf => ?_) (fun hf => ?_)
  · refine x_iconst O (v := 0) dX10_spreads_73 (by decide) ?_
    refine x_istore O dX10_spreads_74 (by decide) ?_
    exact x_jmp O (v_M_spreads_76 O (σ := σ) (v1 := v1) (v2 := v2) (v3 := v3) (v4 := v4) (v5 := 0)  hf) rfl
  · refine x_aload_n O 0 dX10_spreads_53 rfl rfl ?_
    refine x_getF O (t := 13) fl_X10_spreads_47 rfl dX10_spreads_54 ?_
    refine x_iload_n O 1 dX10_spreads_57 rfl rfl ?_
    refine x_dup2 O dX10_spreads_58 rfl rfl ?_
    refine x_iald O hf rfl dX10_spreads_59 (fun j1 hf => ?_)
    refine x_bipush O (v := 12) dX10_spreads_60 (by decide) ?_
    refine x_aload_n O 0 dX10_spreads_62 rfl rfl ?_
    refine x_getF O (t := 12) fl_X10_spreads_44 rfl dX10_spreads_63 ?_
    refine x_iload_n O 1 dX10_spreads_66 rfl rfl ?_
    refine x_iald O hf rfl dX10_spreads_67 (fun j2 hf => ?_)
    refine x_imul O dX10_spreads_68 ?_
    refine x_iadd O dX10_spreads_69 ?_
    refine x_iastN O hf rfl dX10_spreads_70 (fun σ1 hf => ?_)
    refine x_iconst O (v := 0) dX10_spreads_71 (by decide) ?_
    have hk : (0, σ1) = (rr, σr) := Option.some.inj hf
    obtain ⟨rfl, rfl⟩ := Prod.mk.inj hk
    exact x_iret O rfl rfl ⟨_, rfl, rfl⟩ dX10_spreads_72
set_option maxHeartbeats 4000000 in
set_option maxRecDepth 100000 in
theorem v_M_spreads_41 {Γ : Cx} {ad : Nat → Nat} {rr : Int32} {σr : Mm} (O : Ok LM Γ ad cX10_spreads 8 RX10 wsX10_spreads rm_X10_spreads (some .int) (some (.int rr)) σr) {σ : Mm} {v1 : Int32} {v2 : Int32} {v4 : Int32} {v5 : Int32} {s0 : Int32} {s1 : Int32}  {x : (Mm × Int32 × Int32) ⊕ (Int32 × Mm)} (hf : f_M_spreads_41 σ v5 s0 s1 = some x) (hk : (kx (fun s : Mm × Int32 × Int32 => X LM Γ ad s.1 8 [(0, .ref (ad 0)), (1, .int v1), (2, .int v2), (3, .int s.2.1), (4, .int v4), (5, .int s.2.2)] []) (fun q : Int32 × Mm => q = (rr, σr))) x) : X LM Γ ad σ 41 [(0, .ref (ad 0)), (1, .int v1), (2, .int v2), (4, .int v4), (5, .int v5)] [.int s1, .int s0] := by
  unfold f_M_spreads_41 at hf
  refine x_iadd O dX10_spreads_41 ?_
  refine x_istore_nN O 3 hf dX10_spreads_42 rfl (by decide) (fun y1 hf => ?_)
  refine x_iincN O hf dX10_spreads_43 rfl rfl (by decide) (fun y2 hf => ?_)
  refine x_goto O 8 dX10_spreads_46 (by decide) ?_
  obtain rfl := Option.some.inj hf
  have hk := kx_l hk
  exact x_jmp O hk rfl
set_option maxHeartbeats 4000000 in
set_option maxRecDepth 100000 in
theorem v_M_spreads_8_b {Γ : Cx} {ad : Nat → Nat} {rr : Int32} {σr : Mm} (O : Ok LM Γ ad cX10_spreads 8 RX10 wsX10_spreads rm_X10_spreads (some .int) (some (.int rr)) σr) {σ : Mm} {v1 : Int32} {v2 : Int32} {v3 : Int32} {v4 : Int32} {v5 : Int32}  {x : (Mm × Int32 × Int32) ⊕ (Int32 × Mm)} (hf : f_M_spreads_8_b v1 v2 v4 σ v3 v5 = some x) (hk : (kx (fun s : Mm × Int32 × Int32 => X LM Γ ad s.1 8 [(0, .ref (ad 0)), (1, .int v1), (2, .int v2), (3, .int s.2.1), (4, .int v4), (5, .int s.2.2)] []) (fun q : Int32 × Mm => q = (rr, σr))) x) : X LM Γ ad σ 8 [(0, .ref (ad 0)), (1, .int v1), (2, .int v2), (3, .int v3), (4, .int v4), (5, .int v5)] [] := by
  unfold f_M_spreads_8_b at hf
  refine x_iload O dX10_spreads_8 rfl ?_
  refine x_iconst O (v := 4) dX10_spreads_10 (by decide) ?_
  refine x_icmp_ge O 49 hf dX10_spreads_11 (by decide) (fun hf => ?_) (fun hf => ?_)
  · obtain ⟨x', hg1, hx⟩ := map_inr hf
    subst hx
    have hk := kx_r hk
    have hx : x' = (rr, σr) := hk
    subst hx
    have hf := hg1
    exact x_jmp O (v_M_spreads_49 O (σ := σ) (v1 := v1) (v2 := v2) (v3 := v3) (v4 := v4)  hf) rfl
  · refine x_iload_n O 3 dX10_spreads_14 rfl rfl ?_
    refine x_aload_n O 0 dX10_spreads_15 rfl rfl ?_
    refine x_iload_n O 1 dX10_spreads_16 rfl rfl ?_
    refine x_bipush O (v := 17) dX10_spreads_17 (by decide) ?_
    refine x_idivK O (by decide) dX10_spreads_19 ?_
    refine x_iload_n O 1 dX10_spreads_20 rfl rfl ?_
    refine x_bipush O (v := 17) dX10_spreads_21 (by decide) ?_
    refine x_iremK O (by decide) dX10_spreads_23 ?_
    refine x_bipush O (v := 8) dX10_spreads_24 (by decide) ?_
    refine x_isub O dX10_spreads_26 ?_
    refine x_iload O dX10_spreads_27 rfl ?_
    obtain ⟨r_1, σ1, hc, hf⟩ := bd_some hf
    refine x_callV O (k_M_comesBy  hc) ca_X10_comesBy gX10_spreads_X10_comesBy rfl ⟨_, _, _, _, rfl, rfl⟩ rfl rfl rfl (Nat.le_of_ble_eq_true rfl) ⟨Nat.le_of_ble_eq_true rfl, Nat.le_of_ble_eq_true rfl⟩ dX10_spreads_29 ?_
    refine x_push O ?_
    refine x_iconst O (v := 3) dX10_spreads_32 (by decide) ?_
    refine x_icmp_ne O 40 hf dX10_spreads_33 (by decide) (fun hf => ?_) (fun hf => ?_)
    · refine x_iconst O (v := 1) dX10_spreads_40 (by decide) ?_
      exact x_jmp O (v_M_spreads_41 O (σ := σ1) (v1 := v1) (v2 := v2) (v4 := v4) (v5 := v5) (s0 := v3) (s1 := 1)  hf hk) rfl
    · refine x_iconst O (v := 0) dX10_spreads_36 (by decide) ?_
      refine x_goto O 41 dX10_spreads_37 (by decide) ?_
      exact x_jmp O (v_M_spreads_41 O (σ := σ1) (v1 := v1) (v2 := v2) (v4 := v4) (v5 := v5) (s0 := v3) (s1 := 0)  hf hk) rfl
set_option maxHeartbeats 4000000 in
set_option maxRecDepth 100000 in
theorem v_M_spreads_8 {Γ : Cx} {ad : Nat → Nat} {rr : Int32} {σr : Mm} (O : Ok LM Γ ad cX10_spreads 8 RX10 wsX10_spreads rm_X10_spreads (some .int) (some (.int rr)) σr) {σ : Mm} {v1 : Int32} {v2 : Int32} {v3 : Int32} {v4 : Int32} {v5 : Int32}  (hf : f_M_spreads_8 σ v1 v2 v4 v3 v5 = some (rr, σr)) : X LM Γ ad σ 8 [(0, .ref (ad 0)), (1, .int v1), (2, .int v2), (3, .int v3), (4, .int v4), (5, .int v5)] [] := lpX (P := (fun s : Mm × Int32 × Int32 => X LM Γ ad s.1 8 [(0, .ref (ad 0)), (1, .int v1), (2, .int v2), (3, .int s.2.1), (4, .int v4), (5, .int s.2.2)] [])) (K := (fun q : Int32 × Mm => q = (rr, σr))) (fun s x g1 g2 => v_M_spreads_8_b O (σ := s.1) (v1 := v1) (v2 := v2) (v4 := v4) (v3 := s.2.1) (v5 := s.2.2)  g1 g2) (σ, v3, v5) _ hf rfl
set_option maxHeartbeats 4000000 in
set_option maxRecDepth 100000 in
theorem v_M_spreads {Γ : Cx} {ad : Nat → Nat} {rr : Int32} {σr : Mm} (O : Ok LM Γ ad cX10_spreads 8 RX10 wsX10_spreads rm_X10_spreads (some .int) (some (.int rr)) σr) {σ : Mm} {v1 : Int32} {v2 : Int32}  (hf : f_M_spreads σ v1 v2 = some (rr, σr)) : X LM Γ ad σ 0 [(0, .ref (ad 0)), (1, .int v1), (2, .int v2)] [] := by
  unfold f_M_spreads at hf
  refine x_iconst O (v := 0) dX10_spreads_0 (by decide) ?_
  refine x_istore_n O 3 dX10_spreads_1 rfl (by decide) ?_
  refine x_iconst O (v := 0) dX10_spreads_2 (by decide) ?_
  refine x_istore O dX10_spreads_3 (by decide) ?_
  refine x_iconst O (v := 0) dX10_spreads_5 (by decide) ?_
  refine x_istore O dX10_spreads_6 (by decide) ?_
  exact x_jmp O (v_M_spreads_8 O (σ := σ) (v1 := v1) (v2 := v2) (v3 := 0) (v4 := 0) (v5 := 0)  hf) rfl
theorem k_M_spreads {σ σr : Mm} {rr : Int32} {v1 : Int32} {v2 : Int32}  (hf : f_M_spreads σ v1 v2 = some (rr, σr)) : CT LM yX10_spreads wsX10_spreads rm_X10_spreads (fun ad => [.ref (ad 0), .int v1, .int v2]) σ (some (.int rr)) σr := CT_of2 (cc := cX10_spreads) (maxL := 8) (rt := (some .int)) (own := RX10) (by decide) rfl rfl (fun _ => Nat.le_of_ble_eq_true rfl) (fun _ => rfl) (fun Γ ad O => v_M_spreads O  hf)

-- ===== TippedBarrowModel.odds(III)I
theorem ca_X10_odds : Ca yX10_odds cX10_odds 8 (some .int) wsX10_odds rm_X10_odds 3 := ⟨⟨_, rfl⟩, rfl, rfl, by decide +kernel, by decide +kernel, by decide +kernel⟩
theorem in_X10_odds_X10 : ∀ w ∈ wsX100, w ∈ wsX10_odds := by decide +kernel
theorem fl_X10_odds_19 : Fl RX10 wsX10_odds 19 10 14 true (.array .int) := ⟨_, _, _, tyX10, rfl, in_X10_odds_X10, by decide, by decide +kernel, tyX10_ok, nmX10, rfl, tyX10_ok 14 (by decide)⟩
theorem fl_X10_odds_44 : Fl RX10 wsX10_odds 44 10 26 true (.array .int) := ⟨_, _, _, tyX10, rfl, in_X10_odds_X10, by decide, by decide +kernel, tyX10_ok, nmX10, rfl, tyX10_ok 26 (by decide)⟩
theorem fl_X10_odds_47 : Fl RX10 wsX10_odds 47 10 27 true (.array .int) := ⟨_, _, _, tyX10, rfl, in_X10_odds_X10, by decide, by decide +kernel, tyX10_ok, nmX10, rfl, tyX10_ok 27 (by decide)⟩
theorem fl_X10_odds_56 : Fl RX10 wsX10_odds 56 10 0 false .int := ⟨_, _, _, tyX10, rfl, in_X10_odds_X10, by decide, by decide +kernel, tyX10_ok, nmX10, rfl, tyX10_ok 0 (by decide)⟩
set_option maxHeartbeats 4000000 in
set_option maxRecDepth 100000 in
theorem v_M_odds_227 {Γ : Cx} {ad : Nat → Nat} {rr : Int32} {σr : Mm} (O : Ok LM Γ ad cX10_odds 8 RX10 wsX10_odds rm_X10_odds (some .int) (some (.int rr)) σr) {σ : Mm} {v3 : Int32} {v4 : Int32} {v5 : Int32}  (hf : f_M_odds_227 σ v3 v4 v5 = some (rr, σr)) : X LM Γ ad σ 227 [(3, .int v3), (4, .int v4), (5, .int v5)] [] := by
  unfold f_M_odds_227 at hf
  refine x_iload O dX10_odds_227 rfl ?_
  refine x_iload O dX10_odds_229 rfl ?_
  obtain ⟨r_1, σ1, hc, hf⟩ := bd_some hf
  refine x_callS O (k_M_gcd  hc) ca_X10_gcd gX10_odds_X10_gcd rfl rfl rfl (Nat.le_of_ble_eq_true rfl) ⟨Nat.le_of_ble_eq_true rfl, Nat.le_of_ble_eq_true rfl⟩ dX10_odds_231 ?_
  refine x_push O ?_
  refine x_istore O dX10_odds_234 (by decide) ?_
  refine x_iload_n O 3 dX10_odds_236 rfl rfl ?_
  refine x_if_ne O 248 hf dX10_odds_237 (by decide) (fun hf => ?_) (fun hf => ?_)
  · refine x_iload O dX10_odds_248 rfl ?_
    refine x_iload O dX10_odds_250 rfl ?_
    refine x_idiv O hf dX10_odds_252 (fun hf => ?_)
    have hk : ((v5 / r_1), σ1) = (rr, σr) := Option.some.inj hf
    obtain ⟨rfl, rfl⟩ := Prod.mk.inj hk
    exact x_iret O rfl rfl ⟨_, rfl, rfl⟩ dX10_odds_253
  · refine x_iload O dX10_odds_240 rfl ?_
    refine x_iload O dX10_odds_242 rfl ?_
    refine x_idiv O hf dX10_odds_244 (fun hf => ?_)
    refine x_goto O 253 dX10_odds_245 (by decide) ?_
    have hk : ((v4 / r_1), σ1) = (rr, σr) := Option.some.inj hf
    obtain ⟨rfl, rfl⟩ := Prod.mk.inj hk
    exact x_iret O rfl rfl ⟨_, rfl, rfl⟩ dX10_odds_253
set_option maxHeartbeats 4000000 in
set_option maxRecDepth 100000 in
theorem v_M_odds_193_b {Γ : Cx} {ad : Nat → Nat} {rr : Int32} {σr : Mm} (O : Ok LM Γ ad cX10_odds 8 RX10 wsX10_odds rm_X10_odds (some .int) (some (.int rr)) σr) {σ : Mm} {v1 : Int32} {v2 : Int32} {v3 : Int32} {v4 : Int32} {v5 : Int32} {v6 : Int32} {v7 : Int32}  {x : (Mm × Int32) ⊕ ((Mm × Int32 × Int32 × Int32) ⊕ (Int32 × Mm))} (hf : f_M_odds_193_b v4 v5 v6 σ v7 = some x) (hk : (kx (fun s : Mm × Int32 => X LM Γ ad s.1 193 [(0, .ref (ad 0)), (1, .int v1), (2, .int v2), (3, .int v3), (4, .int v4), (5, .int v5), (6, .int v6), (7, .int s.2)] []) (kx (fun s : Mm × Int32 × Int32 × Int32 => X LM Γ ad s.1 102 [(0, .ref (ad 0)), (1, .int v1), (2, .int v2), (3, .int v3), (4, .int s.2.1), (5, .int s.2.2.1), (6, .int s.2.2.2)] []) (fun q : Int32 × Mm => q = (rr, σr)))) x) : X LM Γ ad σ 193 [(0, .ref (ad 0)), (1, .int v1), (2, .int v2), (3, .int v3), (4, .int v4), (5, .int v5), (6, .int v6), (7, .int v7)] [] := by
  unfold f_M_odds_193_b at hf
  refine x_iload O dX10_odds_193 rfl ?_
  refine x_sipush O (v := 340) dX10_odds_195 (by decide) ?_
  refine x_icmp_ge O 221 hf dX10_odds_198 (by decide) (fun hf => ?_) (fun hf => ?_)
  · obtain ⟨x', hg1, hx⟩ := map_inr hf
    subst hx
    have hk := kx_r hk
    have hf := hg1
    refine x_iincN O hf dX10_odds_221 rfl rfl (by decide) (fun y1 hf => ?_)
    refine x_goto O 102 dX10_odds_224 (by decide) ?_
    obtain rfl := Option.some.inj hf
    have hk := kx_l hk
    exact x_jmp O hk rfl
  · refine x_aload_n O 0 dX10_odds_201 rfl rfl ?_
    refine x_getF O (t := 12) fl_X10_odds_44 rfl dX10_odds_202 ?_
    refine x_iload O dX10_odds_205 rfl ?_
    refine x_aload_n O 0 dX10_odds_207 rfl rfl ?_
    refine x_getF O (t := 13) fl_X10_odds_47 rfl dX10_odds_208 ?_
    refine x_iload O dX10_odds_211 rfl ?_
    refine x_iald O hf rfl dX10_odds_213 (fun j1 hf => ?_)
    refine x_iastN O hf rfl dX10_odds_214 (fun σ1 hf => ?_)
    refine x_iincN O hf dX10_odds_215 rfl rfl (by decide) (fun y2 hf => ?_)
    refine x_goto O 193 dX10_odds_218 (by decide) ?_
    obtain rfl := Option.some.inj hf
    have hk := kx_l hk
    exact x_jmp O hk rfl
set_option maxHeartbeats 4000000 in
set_option maxRecDepth 100000 in
theorem v_M_odds_193 {Γ : Cx} {ad : Nat → Nat} {rr : Int32} {σr : Mm} (O : Ok LM Γ ad cX10_odds 8 RX10 wsX10_odds rm_X10_odds (some .int) (some (.int rr)) σr) {σ : Mm} {v1 : Int32} {v2 : Int32} {v3 : Int32} {v4 : Int32} {v5 : Int32} {v6 : Int32} {v7 : Int32}  {x : (Mm × Int32 × Int32 × Int32) ⊕ (Int32 × Mm)} (hf : f_M_odds_193 σ v4 v5 v6 v7 = some x) (hk : (kx (fun s : Mm × Int32 × Int32 × Int32 => X LM Γ ad s.1 102 [(0, .ref (ad 0)), (1, .int v1), (2, .int v2), (3, .int v3), (4, .int s.2.1), (5, .int s.2.2.1), (6, .int s.2.2.2)] []) (fun q : Int32 × Mm => q = (rr, σr))) x) : X LM Γ ad σ 193 [(0, .ref (ad 0)), (1, .int v1), (2, .int v2), (3, .int v3), (4, .int v4), (5, .int v5), (6, .int v6), (7, .int v7)] [] := lpX (P := (fun s : Mm × Int32 => X LM Γ ad s.1 193 [(0, .ref (ad 0)), (1, .int v1), (2, .int v2), (3, .int v3), (4, .int v4), (5, .int v5), (6, .int v6), (7, .int s.2)] [])) (K := (kx (fun s : Mm × Int32 × Int32 × Int32 => X LM Γ ad s.1 102 [(0, .ref (ad 0)), (1, .int v1), (2, .int v2), (3, .int v3), (4, .int s.2.1), (5, .int s.2.2.1), (6, .int s.2.2.2)] []) (fun q : Int32 × Mm => q = (rr, σr)))) (fun s x g1 g2 => v_M_odds_193_b O (σ := s.1) (v1 := v1) (v2 := v2) (v3 := v3) (v4 := v4) (v5 := v5) (v6 := v6) (v7 := s.2)  g1 g2) (σ, v7) _ hf hk
set_option maxHeartbeats 4000000 in
set_option maxRecDepth 100000 in
theorem v_M_odds_190 {Γ : Cx} {ad : Nat → Nat} {rr : Int32} {σr : Mm} (O : Ok LM Γ ad cX10_odds 8 RX10 wsX10_odds rm_X10_odds (some .int) (some (.int rr)) σr) {σ : Mm} {v1 : Int32} {v2 : Int32} {v3 : Int32} {v4 : Int32} {v5 : Int32} {v6 : Int32}  {x : (Mm × Int32 × Int32 × Int32) ⊕ (Int32 × Mm)} (hf : f_M_odds_190 σ v4 v5 v6 = some x) (hk : (kx (fun s : Mm × Int32 × Int32 × Int32 => X LM Γ ad s.1 102 [(0, .ref (ad 0)), (1, .int v1), (2, .int v2), (3, .int v3), (4, .int s.2.1), (5, .int s.2.2.1), (6, .int s.2.2.2)] []) (fun q : Int32 × Mm => q = (rr, σr))) x) : X LM Γ ad σ 190 [(0, .ref (ad 0)), (1, .int v1), (2, .int v2), (3, .int v3), (4, .int v4), (5, .int v5), (6, .int v6)] [] := by
  unfold f_M_odds_190 at hf
  refine x_iconst O (v := 0) dX10_odds_190 (by decide) ?_
  refine x_istore O dX10_odds_191 (by decide) ?_
  exact x_jmp O (v_M_odds_193 O (σ := σ) (v1 := v1) (v2 := v2) (v3 := v3) (v4 := v4) (v5 := v5) (v6 := v6) (v7 := 0)  hf hk) rfl
set_option maxHeartbeats 4000000 in
set_option maxRecDepth 100000 in
theorem v_M_odds_181 {Γ : Cx} {ad : Nat → Nat} {rr : Int32} {σr : Mm} (O : Ok LM Γ ad cX10_odds 8 RX10 wsX10_odds rm_X10_odds (some .int) (some (.int rr)) σr) {σ : Mm} {v1 : Int32} {v2 : Int32} {v3 : Int32} {v5 : Int32} {v6 : Int32} {v7 : Int32} {s0 : Int32} {s1 : Int32}  {x : (Mm × Int32 × Int32) ⊕ ((Mm × Int32 × Int32 × Int32) ⊕ (Int32 × Mm))} (hf : f_M_odds_181 σ v7 s0 s1 = some x) (hk : (kx (fun s : Mm × Int32 × Int32 => X LM Γ ad s.1 150 [(0, .ref (ad 0)), (1, .int v1), (2, .int v2), (3, .int v3), (4, .int s.2.1), (5, .int v5), (6, .int v6), (7, .int s.2.2)] []) (kx (fun s : Mm × Int32 × Int32 × Int32 => X LM Γ ad s.1 102 [(0, .ref (ad 0)), (1, .int v1), (2, .int v2), (3, .int v3), (4, .int s.2.1), (5, .int s.2.2.1), (6, .int s.2.2.2)] []) (fun q : Int32 × Mm => q = (rr, σr)))) x) : X LM Γ ad σ 181 [(0, .ref (ad 0)), (1, .int v1), (2, .int v2), (3, .int v3), (5, .int v5), (6, .int v6), (7, .int v7)] [.int s1, .int s0] := by
  unfold f_M_odds_181 at hf
  refine x_iadd O dX10_odds_181 ?_
  refine x_istoreN O hf dX10_odds_182 (by decide) (fun y1 hf => ?_)
  refine x_iincN O hf dX10_odds_184 rfl rfl (by decide) (fun y2 hf => ?_)
  refine x_goto O 150 dX10_odds_187 (by decide) ?_
  obtain rfl := Option.some.inj hf
  have hk := kx_l hk
  exact x_jmp O hk rfl
set_option maxHeartbeats 4000000 in
set_option maxRecDepth 100000 in
theorem v_M_odds_150_b {Γ : Cx} {ad : Nat → Nat} {rr : Int32} {σr : Mm} (O : Ok LM Γ ad cX10_odds 8 RX10 wsX10_odds rm_X10_odds (some .int) (some (.int rr)) σr) {σ : Mm} {v1 : Int32} {v2 : Int32} {v3 : Int32} {v4 : Int32} {v5 : Int32} {v6 : Int32} {v7 : Int32}  {x : (Mm × Int32 × Int32) ⊕ ((Mm × Int32 × Int32 × Int32) ⊕ (Int32 × Mm))} (hf : f_M_odds_150_b v1 v5 v6 σ v4 v7 = some x) (hk : (kx (fun s : Mm × Int32 × Int32 => X LM Γ ad s.1 150 [(0, .ref (ad 0)), (1, .int v1), (2, .int v2), (3, .int v3), (4, .int s.2.1), (5, .int v5), (6, .int v6), (7, .int s.2.2)] []) (kx (fun s : Mm × Int32 × Int32 × Int32 => X LM Γ ad s.1 102 [(0, .ref (ad 0)), (1, .int v1), (2, .int v2), (3, .int v3), (4, .int s.2.1), (5, .int s.2.2.1), (6, .int s.2.2.2)] []) (fun q : Int32 × Mm => q = (rr, σr)))) x) : X LM Γ ad σ 150 [(0, .ref (ad 0)), (1, .int v1), (2, .int v2), (3, .int v3), (4, .int v4), (5, .int v5), (6, .int v6), (7, .int v7)] [] := by
  unfold f_M_odds_150_b at hf
  refine x_iload O dX10_odds_150 rfl ?_
  refine x_sipush O (v := 340) dX10_odds_152 (by decide) ?_
  refine x_icmp_ge O 190 hf dX10_odds_155 (by decide) (fun hf => ?_) (fun hf => ?_)
  · obtain ⟨x', hg1, hx⟩ := map_inr hf
    subst hx
    have hk := kx_r hk
    have hf := hg1
    exact x_jmp O (v_M_odds_190 O (σ := σ) (v1 := v1) (v2 := v2) (v3 := v3) (v4 := v4) (v5 := v5) (v6 := v6)  hf hk) rfl
  · refine x_iload O dX10_odds_158 rfl ?_
    refine x_aload_n O 0 dX10_odds_160 rfl rfl ?_
    refine x_getF O (t := 12) fl_X10_odds_44 rfl dX10_odds_161 ?_
    refine x_iload O dX10_odds_164 rfl ?_
    refine x_iald O hf rfl dX10_odds_166 (fun j1 hf => ?_)
    refine x_if_le O 180 hf dX10_odds_167 (by decide) (fun hf => ?_) (fun hf => ?_)
    · refine x_iconst O (v := 0) dX10_odds_180 (by decide) ?_
      exact x_jmp O (v_M_odds_181 O (σ := σ) (v1 := v1) (v2 := v2) (v3 := v3) (v5 := v5) (v6 := v6) (v7 := v7) (s0 := v4) (s1 := 0)  hf hk) rfl
    · refine x_aload_n O 0 dX10_odds_170 rfl rfl ?_
      refine x_iload O dX10_odds_171 rfl ?_
      refine x_iload_n O 1 dX10_odds_173 rfl rfl ?_
      obtain ⟨r_1, σ1, hc, hf⟩ := bd_some hf
      refine x_callV O (k_M_spreads  hc) ca_X10_spreads gX10_odds_X10_spreads rfl ⟨_, _, _, _, rfl, rfl⟩ rfl rfl rfl (Nat.le_of_ble_eq_true rfl) ⟨Nat.le_of_ble_eq_true rfl, Nat.le_of_ble_eq_true rfl⟩ dX10_odds_174 ?_
      refine x_push O ?_
      refine x_goto O 181 dX10_odds_177 (by decide) ?_
      exact x_jmp O (v_M_odds_181 O (σ := σ1) (v1 := v1) (v2 := v2) (v3 := v3) (v5 := v5) (v6 := v6) (v7 := v7) (s0 := v4) (s1 := r_1)  hf hk) rfl
set_option maxHeartbeats 4000000 in
set_option maxRecDepth 100000 in
theorem v_M_odds_150 {Γ : Cx} {ad : Nat → Nat} {rr : Int32} {σr : Mm} (O : Ok LM Γ ad cX10_odds 8 RX10 wsX10_odds rm_X10_odds (some .int) (some (.int rr)) σr) {σ : Mm} {v1 : Int32} {v2 : Int32} {v3 : Int32} {v4 : Int32} {v5 : Int32} {v6 : Int32} {v7 : Int32}  {x : (Mm × Int32 × Int32 × Int32) ⊕ (Int32 × Mm)} (hf : f_M_odds_150 σ v1 v5 v6 v4 v7 = some x) (hk : (kx (fun s : Mm × Int32 × Int32 × Int32 => X LM Γ ad s.1 102 [(0, .ref (ad 0)), (1, .int v1), (2, .int v2), (3, .int v3), (4, .int s.2.1), (5, .int s.2.2.1), (6, .int s.2.2.2)] []) (fun q : Int32 × Mm => q = (rr, σr))) x) : X LM Γ ad σ 150 [(0, .ref (ad 0)), (1, .int v1), (2, .int v2), (3, .int v3), (4, .int v4), (5, .int v5), (6, .int v6), (7, .int v7)] [] := lpX (P := (fun s : Mm × Int32 × Int32 => X LM Γ ad s.1 150 [(0, .ref (ad 0)), (1, .int v1), (2, .int v2), (3, .int v3), (4, .int s.2.1), (5, .int v5), (6, .int v6), (7, .int s.2.2)] [])) (K := (kx (fun s : Mm × Int32 × Int32 × Int32 => X LM Γ ad s.1 102 [(0, .ref (ad 0)), (1, .int v1), (2, .int v2), (3, .int v3), (4, .int s.2.1), (5, .int s.2.2.1), (6, .int s.2.2.2)] []) (fun q : Int32 × Mm => q = (rr, σr)))) (fun s x g1 g2 => v_M_odds_150_b O (σ := s.1) (v1 := v1) (v2 := v2) (v3 := v3) (v5 := v5) (v6 := v6) (v4 := s.2.1) (v7 := s.2.2)  g1 g2) (σ, v4, v7) _ hf hk
set_option maxHeartbeats 4000000 in
set_option maxRecDepth 100000 in
theorem v_M_odds_147 {Γ : Cx} {ad : Nat → Nat} {rr : Int32} {σr : Mm} (O : Ok LM Γ ad cX10_odds 8 RX10 wsX10_odds rm_X10_odds (some .int) (some (.int rr)) σr) {σ : Mm} {v1 : Int32} {v2 : Int32} {v3 : Int32} {v4 : Int32} {v5 : Int32} {v6 : Int32}  {x : (Mm × Int32 × Int32 × Int32) ⊕ (Int32 × Mm)} (hf : f_M_odds_147 σ v1 v4 v5 v6 = some x) (hk : (kx (fun s : Mm × Int32 × Int32 × Int32 => X LM Γ ad s.1 102 [(0, .ref (ad 0)), (1, .int v1), (2, .int v2), (3, .int v3), (4, .int s.2.1), (5, .int s.2.2.1), (6, .int s.2.2.2)] []) (fun q : Int32 × Mm => q = (rr, σr))) x) : X LM Γ ad σ 147 [(0, .ref (ad 0)), (1, .int v1), (2, .int v2), (3, .int v3), (4, .int v4), (5, .int v5), (6, .int v6)] [] := by
  unfold f_M_odds_147 at hf
  refine x_iconst O (v := 0) dX10_odds_147 (by decide) ?_
  refine x_istore O dX10_odds_148 (by decide) ?_
  exact x_jmp O (v_M_odds_150 O (σ := σ) (v1 := v1) (v2 := v2) (v3 := v3) (v4 := v4) (v5 := v5) (v6 := v6) (v7 := 0)  hf hk) rfl
set_option maxHeartbeats 4000000 in
set_option maxRecDepth 100000 in
theorem v_M_odds_125_b {Γ : Cx} {ad : Nat → Nat} {rr : Int32} {σr : Mm} (O : Ok LM Γ ad cX10_odds 8 RX10 wsX10_odds rm_X10_odds (some .int) (some (.int rr)) σr) {σ : Mm} {v1 : Int32} {v2 : Int32} {v3 : Int32} {v4 : Int32} {v5 : Int32} {v6 : Int32} {v7 : Int32}  {x : (Mm × Int32) ⊕ ((Mm × Int32 × Int32 × Int32) ⊕ (Int32 × Mm))} (hf : f_M_odds_125_b v1 v4 v5 v6 σ v7 = some x) (hk : (kx (fun s : Mm × Int32 => X LM Γ ad s.1 125 [(0, .ref (ad 0)), (1, .int v1), (2, .int v2), (3, .int v3), (4, .int v4), (5, .int v5), (6, .int v6), (7, .int s.2)] []) (kx (fun s : Mm × Int32 × Int32 × Int32 => X LM Γ ad s.1 102 [(0, .ref (ad 0)), (1, .int v1), (2, .int v2), (3, .int v3), (4, .int s.2.1), (5, .int s.2.2.1), (6, .int s.2.2.2)] []) (fun q : Int32 × Mm => q = (rr, σr)))) x) : X LM Γ ad σ 125 [(0, .ref (ad 0)), (1, .int v1), (2, .int v2), (3, .int v3), (4, .int v4), (5, .int v5), (6, .int v6), (7, .int v7)] [] := by
  unfold f_M_odds_125_b at hf
  refine x_iload O dX10_odds_125 rfl ?_
  refine x_sipush O (v := 340) dX10_odds_127 (by decide) ?_
  refine x_icmp_ge O 147 hf dX10_odds_130 (by decide) (fun hf => ?_) (fun hf => ?_)
  · obtain ⟨x', hg1, hx⟩ := map_inr hf
    subst hx
    have hk := kx_r hk
    have hf := hg1
    exact x_jmp O (v_M_odds_147 O (σ := σ) (v1 := v1) (v2 := v2) (v3 := v3) (v4 := v4) (v5 := v5) (v6 := v6)  hf hk) rfl
  · refine x_aload_n O 0 dX10_odds_133 rfl rfl ?_
    refine x_getF O (t := 13) fl_X10_odds_47 rfl dX10_odds_134 ?_
    refine x_iload O dX10_odds_137 rfl ?_
    refine x_iconst O (v := 0) dX10_odds_139 (by decide) ?_
    refine x_iastN O hf rfl dX10_odds_140 (fun σ1 hf => ?_)
    refine x_iincN O hf dX10_odds_141 rfl rfl (by decide) (fun y1 hf => ?_)
    refine x_goto O 125 dX10_odds_144 (by decide) ?_
    obtain rfl := Option.some.inj hf
    have hk := kx_l hk
    exact x_jmp O hk rfl
set_option maxHeartbeats 4000000 in
set_option maxRecDepth 100000 in
theorem v_M_odds_125 {Γ : Cx} {ad : Nat → Nat} {rr : Int32} {σr : Mm} (O : Ok LM Γ ad cX10_odds 8 RX10 wsX10_odds rm_X10_odds (some .int) (some (.int rr)) σr) {σ : Mm} {v1 : Int32} {v2 : Int32} {v3 : Int32} {v4 : Int32} {v5 : Int32} {v6 : Int32} {v7 : Int32}  {x : (Mm × Int32 × Int32 × Int32) ⊕ (Int32 × Mm)} (hf : f_M_odds_125 σ v1 v4 v5 v6 v7 = some x) (hk : (kx (fun s : Mm × Int32 × Int32 × Int32 => X LM Γ ad s.1 102 [(0, .ref (ad 0)), (1, .int v1), (2, .int v2), (3, .int v3), (4, .int s.2.1), (5, .int s.2.2.1), (6, .int s.2.2.2)] []) (fun q : Int32 × Mm => q = (rr, σr))) x) : X LM Γ ad σ 125 [(0, .ref (ad 0)), (1, .int v1), (2, .int v2), (3, .int v3), (4, .int v4), (5, .int v5), (6, .int v6), (7, .int v7)] [] := lpX (P := (fun s : Mm × Int32 => X LM Γ ad s.1 125 [(0, .ref (ad 0)), (1, .int v1), (2, .int v2), (3, .int v3), (4, .int v4), (5, .int v5), (6, .int v6), (7, .int s.2)] [])) (K := (kx (fun s : Mm × Int32 × Int32 × Int32 => X LM Γ ad s.1 102 [(0, .ref (ad 0)), (1, .int v1), (2, .int v2), (3, .int v3), (4, .int s.2.1), (5, .int s.2.2.1), (6, .int s.2.2.2)] []) (fun q : Int32 × Mm => q = (rr, σr)))) (fun s x g1 g2 => v_M_odds_125_b O (σ := s.1) (v1 := v1) (v2 := v2) (v3 := v3) (v4 := v4) (v5 := v5) (v6 := v6) (v7 := s.2)  g1 g2) (σ, v7) _ hf hk
set_option maxHeartbeats 4000000 in
set_option maxRecDepth 100000 in
theorem v_M_odds_102_b {Γ : Cx} {ad : Nat → Nat} {rr : Int32} {σr : Mm} (O : Ok LM Γ ad cX10_odds 8 RX10 wsX10_odds rm_X10_odds (some .int) (some (.int rr)) σr) {σ : Mm} {v1 : Int32} {v2 : Int32} {v3 : Int32} {v4 : Int32} {v5 : Int32} {v6 : Int32}  {x : (Mm × Int32 × Int32 × Int32) ⊕ (Int32 × Mm)} (hf : f_M_odds_102_b v1 v2 v3 σ v4 v5 v6 = some x) (hk : (kx (fun s : Mm × Int32 × Int32 × Int32 => X LM Γ ad s.1 102 [(0, .ref (ad 0)), (1, .int v1), (2, .int v2), (3, .int v3), (4, .int s.2.1), (5, .int s.2.2.1), (6, .int s.2.2.2)] []) (fun q : Int32 × Mm => q = (rr, σr))) x) : X LM Γ ad σ 102 [(0, .ref (ad 0)), (1, .int v1), (2, .int v2), (3, .int v3), (4, .int v4), (5, .int v5), (6, .int v6)] [] := by
  unfold f_M_odds_102_b at hf
  refine x_iload O dX10_odds_102 rfl ?_
  refine x_iload_n O 2 dX10_odds_104 rfl rfl ?_
  refine x_icmp_ge O 227 hf dX10_odds_105 (by decide) (fun hf => ?_) (fun hf => ?_)
  · obtain ⟨x', hg1, hx⟩ := map_inr hf
    subst hx
    have hk := kx_r hk
    have hx : x' = (rr, σr) := hk
    subst hx
    have hf := hg1
    exact x_jmp O (v_M_odds_227 O (σ := σ) (v3 := v3) (v4 := v4) (v5 := v5)  hf) rfl
  · refine x_iload O dX10_odds_108 rfl ?_
    refine x_bipush O (v := 12) dX10_odds_110 (by decide) ?_
    refine x_imul O dX10_odds_112 ?_
    refine x_istoreN O hf dX10_odds_113 (by decide) (fun y1 hf => ?_)
    refine x_iload O dX10_odds_115 rfl ?_
    refine x_bipush O (v := 12) dX10_odds_117 (by decide) ?_
    refine x_imul O dX10_odds_119 ?_
    refine x_istoreN O hf dX10_odds_120 (by decide) (fun y2 hf => ?_)
    refine x_iconst O (v := 0) dX10_odds_122 (by decide) ?_
    refine x_istore O dX10_odds_123 (by decide) ?_
    exact x_jmp O (v_M_odds_125 O (σ := σ) (v1 := v1) (v2 := v2) (v3 := v3) (v4 := y2) (v5 := y1) (v6 := v6) (v7 := 0)  hf hk) rfl
set_option maxHeartbeats 4000000 in
set_option maxRecDepth 100000 in
theorem v_M_odds_102 {Γ : Cx} {ad : Nat → Nat} {rr : Int32} {σr : Mm} (O : Ok LM Γ ad cX10_odds 8 RX10 wsX10_odds rm_X10_odds (some .int) (some (.int rr)) σr) {σ : Mm} {v1 : Int32} {v2 : Int32} {v3 : Int32} {v4 : Int32} {v5 : Int32} {v6 : Int32}  (hf : f_M_odds_102 σ v1 v2 v3 v4 v5 v6 = some (rr, σr)) : X LM Γ ad σ 102 [(0, .ref (ad 0)), (1, .int v1), (2, .int v2), (3, .int v3), (4, .int v4), (5, .int v5), (6, .int v6)] [] := lpX (P := (fun s : Mm × Int32 × Int32 × Int32 => X LM Γ ad s.1 102 [(0, .ref (ad 0)), (1, .int v1), (2, .int v2), (3, .int v3), (4, .int s.2.1), (5, .int s.2.2.1), (6, .int s.2.2.2)] [])) (K := (fun q : Int32 × Mm => q = (rr, σr))) (fun s x g1 g2 => v_M_odds_102_b O (σ := s.1) (v1 := v1) (v2 := v2) (v3 := v3) (v4 := s.2.1) (v5 := s.2.2.1) (v6 := s.2.2.2)  g1 g2) (σ, v4, v5, v6) _ hf rfl
set_option maxHeartbeats 4000000 in
set_option maxRecDepth 100000 in
theorem v_M_odds_99 {Γ : Cx} {ad : Nat → Nat} {rr : Int32} {σr : Mm} (O : Ok LM Γ ad cX10_odds 8 RX10 wsX10_odds rm_X10_odds (some .int) (some (.int rr)) σr) {σ : Mm} {v1 : Int32} {v2 : Int32} {v3 : Int32} {v4 : Int32} {v5 : Int32}  (hf : f_M_odds_99 σ v1 v2 v3 v4 v5 = some (rr, σr)) : X LM Γ ad σ 99 [(0, .ref (ad 0)), (1, .int v1), (2, .int v2), (3, .int v3), (4, .int v4), (5, .int v5)] [] := by
  unfold f_M_odds_99 at hf
  refine x_iconst O (v := 0) dX10_odds_99 (by decide) ?_
  refine x_istore O dX10_odds_100 (by decide) ?_
  exact x_jmp O (v_M_odds_102 O (σ := σ) (v1 := v1) (v2 := v2) (v3 := v3) (v4 := v4) (v5 := v5) (v6 := 0)  hf) rfl
set_option maxHeartbeats 4000000 in
set_option maxRecDepth 100000 in
theorem v_M_odds_92 {Γ : Cx} {ad : Nat → Nat} {rr : Int32} {σr : Mm} (O : Ok LM Γ ad cX10_odds 8 RX10 wsX10_odds rm_X10_odds (some .int) (some (.int rr)) σr) {σ : Mm} {v1 : Int32} {v2 : Int32} {v3 : Int32} {v4 : Int32} {v5 : Int32} {v6 : Int32} {s1 : Int32} {s2 : Int32}  {x : (Mm × Int32) ⊕ (Int32 × Mm)} (hf : f_M_odds_92 σ v6 s1 s2 = some x) (hk : (kx (fun s : Mm × Int32 => X LM Γ ad s.1 53 [(0, .ref (ad 0)), (1, .int v1), (2, .int v2), (3, .int v3), (4, .int v4), (5, .int v5), (6, .int s.2)] []) (fun q : Int32 × Mm => q = (rr, σr))) x) : X LM Γ ad σ 92 [(0, .ref (ad 0)), (1, .int v1), (2, .int v2), (3, .int v3), (4, .int v4), (5, .int v5), (6, .int v6)] [.int s2, .int s1, .ref (ad 12)] := by
  unfold f_M_odds_92 at hf
  refine x_iastN O hf rfl dX10_odds_92 (fun σ1 hf => ?_)
  refine x_iincN O hf dX10_odds_93 rfl rfl (by decide) (fun y1 hf => ?_)
  refine x_goto O 53 dX10_odds_96 (by decide) ?_
  obtain rfl := Option.some.inj hf
  have hk := kx_l hk
  exact x_jmp O hk rfl
set_option maxHeartbeats 4000000 in
set_option maxRecDepth 100000 in
theorem v_M_odds_53_b {Γ : Cx} {ad : Nat → Nat} {rr : Int32} {σr : Mm} (O : Ok LM Γ ad cX10_odds 8 RX10 wsX10_odds rm_X10_odds (some .int) (some (.int rr)) σr) {σ : Mm} {v1 : Int32} {v2 : Int32} {v3 : Int32} {v4 : Int32} {v5 : Int32} {v6 : Int32}  {x : (Mm × Int32) ⊕ (Int32 × Mm)} (hf : f_M_odds_53_b v1 v2 v3 v4 v5 σ v6 = some x) (hk : (kx (fun s : Mm × Int32 => X LM Γ ad s.1 53 [(0, .ref (ad 0)), (1, .int v1), (2, .int v2), (3, .int v3), (4, .int v4), (5, .int v5), (6, .int s.2)] []) (fun q : Int32 × Mm => q = (rr, σr))) x) : X LM Γ ad σ 53 [(0, .ref (ad 0)), (1, .int v1), (2, .int v2), (3, .int v3), (4, .int v4), (5, .int v5), (6, .int v6)] [] := by
  unfold f_M_odds_53_b at hf
  refine x_iload O dX10_odds_53 rfl ?_
  refine x_sipush O (v := 340) dX10_odds_55 (by decide) ?_
  refine x_icmp_ge O 99 hf dX10_odds_58 (by decide) (fun hf => ?_) (fun hf => ?_)
  · obtain ⟨x', hg1, hx⟩ := map_inr hf
    subst hx
    have hk := kx_r hk
    have hx : x' = (rr, σr) := hk
    subst hx
    have hf := hg1
    exact x_jmp O (v_M_odds_99 O (σ := σ) (v1 := v1) (v2 := v2) (v3 := v3) (v4 := v4) (v5 := v5)  hf) rfl
  · refine x_aload_n O 0 dX10_odds_61 rfl rfl ?_
    refine x_getF O (t := 12) fl_X10_odds_44 rfl dX10_odds_62 ?_
    refine x_iload O dX10_odds_65 rfl ?_
    refine x_iload O dX10_odds_67 rfl ?_
    refine x_aload_n O 0 dX10_odds_69 rfl rfl ?_
    refine x_getF O (t := 4) fl_X10_odds_19 rfl dX10_odds_70 ?_
    refine x_iconst O (v := 0) dX10_odds_73 (by decide) ?_
    refine x_iald O hf rfl dX10_odds_74 (fun j1 hf => ?_)
    refine x_aload_n O 0 dX10_odds_75 rfl rfl ?_
    refine x_getF O (t := 4) fl_X10_odds_19 rfl dX10_odds_76 ?_
    refine x_iconst O (v := 1) dX10_odds_79 (by decide) ?_
    refine x_iald O hf rfl dX10_odds_80 (fun j2 hf => ?_)
    obtain ⟨r_1, σ1, hc, hf⟩ := bd_some hf
    refine x_callS O (k_M_spot  hc) ca_X10_spot gX10_odds_X10_spot rfl rfl rfl (Nat.le_of_ble_eq_true rfl) ⟨Nat.le_of_ble_eq_true rfl, Nat.le_of_ble_eq_true rfl⟩ dX10_odds_81 ?_
    refine x_push O ?_
    refine x_icmp_ne O 91 hf dX10_odds_84 (by decide) (fun hf => ?_) (fun hf => ?_)
    · refine x_iconst O (v := 0) dX10_odds_91 (by decide) ?_
      exact x_jmp O (v_M_odds_92 O (σ := σ1) (v1 := v1) (v2 := v2) (v3 := v3) (v4 := v4) (v5 := v5) (v6 := v6) (s1 := v6) (s2 := 0)  hf hk) rfl
    · refine x_iconst O (v := 1) dX10_odds_87 (by decide) ?_
      refine x_goto O 92 dX10_odds_88 (by decide) ?_
      exact x_jmp O (v_M_odds_92 O (σ := σ1) (v1 := v1) (v2 := v2) (v3 := v3) (v4 := v4) (v5 := v5) (v6 := v6) (s1 := v6) (s2 := 1)  hf hk) rfl
set_option maxHeartbeats 4000000 in
set_option maxRecDepth 100000 in
theorem v_M_odds_53 {Γ : Cx} {ad : Nat → Nat} {rr : Int32} {σr : Mm} (O : Ok LM Γ ad cX10_odds 8 RX10 wsX10_odds rm_X10_odds (some .int) (some (.int rr)) σr) {σ : Mm} {v1 : Int32} {v2 : Int32} {v3 : Int32} {v4 : Int32} {v5 : Int32} {v6 : Int32}  (hf : f_M_odds_53 σ v1 v2 v3 v4 v5 v6 = some (rr, σr)) : X LM Γ ad σ 53 [(0, .ref (ad 0)), (1, .int v1), (2, .int v2), (3, .int v3), (4, .int v4), (5, .int v5), (6, .int v6)] [] := lpX (P := (fun s : Mm × Int32 => X LM Γ ad s.1 53 [(0, .ref (ad 0)), (1, .int v1), (2, .int v2), (3, .int v3), (4, .int v4), (5, .int v5), (6, .int s.2)] [])) (K := (fun q : Int32 × Mm => q = (rr, σr))) (fun s x g1 g2 => v_M_odds_53_b O (σ := s.1) (v1 := v1) (v2 := v2) (v3 := v3) (v4 := v4) (v5 := v5) (v6 := s.2)  g1 g2) (σ, v6) _ hf rfl
set_option maxHeartbeats 4000000 in
set_option maxRecDepth 100000 in
theorem v_M_odds {Γ : Cx} {ad : Nat → Nat} {rr : Int32} {σr : Mm} (O : Ok LM Γ ad cX10_odds 8 RX10 wsX10_odds rm_X10_odds (some .int) (some (.int rr)) σr) {σ : Mm} {v1 : Int32} {v2 : Int32} {v3 : Int32}  (hf : f_M_odds σ v1 v2 v3 = some (rr, σr)) : X LM Γ ad σ 0 [(0, .ref (ad 0)), (1, .int v1), (2, .int v2), (3, .int v3)] [] := by
  unfold f_M_odds at hf
  refine x_aload_n O 0 dX10_odds_0 rfl rfl ?_
  refine x_iconst O (v := 0) dX10_odds_1 (by decide) ?_
  refine x_putIN O hf rfl rfl fl_X10_odds_56 rfl dX10_odds_2 (fun σ1 hf => ?_)
  refine x_iload_n O 1 dX10_odds_5 rfl rfl ?_
  refine x_iconst O (v := 1) dX10_odds_6 (by decide) ?_
  refine x_iconst O (v := 2) dX10_odds_7 (by decide) ?_
  obtain ⟨r_1, σ2, hc, hf⟩ := bd_some hf
  refine x_callS O (k_M_in  hc) ca_X10_in gX10_odds_X10_in rfl rfl rfl (Nat.le_of_ble_eq_true rfl) ⟨Nat.le_of_ble_eq_true rfl, Nat.le_of_ble_eq_true rfl⟩ dX10_odds_8 ?_
  refine x_push O ?_
  refine x_if_eq O 32 hf dX10_odds_11 (by decide) (fun hf => ?_) (fun hf => ?_)
  · refine x_iconst O (v := -1) dX10_odds_32 (by decide) ?_
    have hk : ((-1), σ2) = (rr, σr) := Option.some.inj hf
    obtain ⟨rfl, rfl⟩ := Prod.mk.inj hk
    exact x_iret O rfl rfl ⟨_, rfl, rfl⟩ dX10_odds_33
  · refine x_iload_n O 2 dX10_odds_14 rfl rfl ?_
    refine x_iconst O (v := 0) dX10_odds_15 (by decide) ?_
    refine x_iconst O (v := 4) dX10_odds_16 (by decide) ?_
    obtain ⟨r_2, σ3, hc, hf⟩ := bd_some hf
    refine x_callS O (k_M_in  hc) ca_X10_in gX10_odds_X10_in rfl rfl rfl (Nat.le_of_ble_eq_true rfl) ⟨Nat.le_of_ble_eq_true rfl, Nat.le_of_ble_eq_true rfl⟩ dX10_odds_17 ?_
    refine x_push O ?_
    refine x_if_eq O 32 hf dX10_odds_20 (by decide) (fun hf => ?_) (fun hf => ?_)
    · refine x_iconst O (v := -1) dX10_odds_32 (by decide) ?_
      have hk : ((-1), σ3) = (rr, σr) := Option.some.inj hf
      obtain ⟨rfl, rfl⟩ := Prod.mk.inj hk
      exact x_iret O rfl rfl ⟨_, rfl, rfl⟩ dX10_odds_33
    · refine x_iload_n O 3 dX10_odds_23 rfl rfl ?_
      refine x_iconst O (v := 0) dX10_odds_24 (by decide) ?_
      refine x_iconst O (v := 1) dX10_odds_25 (by decide) ?_
      obtain ⟨r_3, σ4, hc, hf⟩ := bd_some hf
      refine x_callS O (k_M_in  hc) ca_X10_in gX10_odds_X10_in rfl rfl rfl (Nat.le_of_ble_eq_true rfl) ⟨Nat.le_of_ble_eq_true rfl, Nat.le_of_ble_eq_true rfl⟩ dX10_odds_26 ?_
      refine x_push O ?_
      refine x_if_ne O 34 hf dX10_odds_29 (by decide) (fun hf => ?_) (fun hf => ?_)
      · refine x_aload_n O 0 dX10_odds_34 rfl rfl ?_
        obtain ⟨r_4, σ5, hc, hf⟩ := bd_some hf
        refine x_callV O (k_M_hasStart  hc) ca_X10_hasStart gX10_odds_X10_hasStart rfl ⟨_, _, _, _, rfl, rfl⟩ rfl rfl rfl (Nat.le_of_ble_eq_true rfl) ⟨Nat.le_of_ble_eq_true rfl, Nat.le_of_ble_eq_true rfl⟩ dX10_odds_35 ?_
        refine x_push O ?_
        refine x_if_ne O 44 hf dX10_odds_38 (by decide) (fun hf => ?_) (fun hf => ?_)
        · refine x_iconst O (v := 0) dX10_odds_44 (by decide) ?_
          refine x_istore O dX10_odds_45 (by decide) ?_
          refine x_iconst O (v := 1) dX10_odds_47 (by decide) ?_
          refine x_istore O dX10_odds_48 (by decide) ?_
          refine x_iconst O (v := 0) dX10_odds_50 (by decide) ?_
          refine x_istore O dX10_odds_51 (by decide) ?_
          exact x_jmp O (v_M_odds_53 O (σ := σ5) (v1 := v1) (v2 := v2) (v3 := v3) (v4 := 0) (v5 := 1) (v6 := 0)  hf) rfl
        · refine x_bipush O (v := -2) dX10_odds_41 (by decide) ?_
          have hk : ((-2), σ5) = (rr, σr) := Option.some.inj hf
          obtain ⟨rfl, rfl⟩ := Prod.mk.inj hk
          exact x_iret O rfl rfl ⟨_, rfl, rfl⟩ dX10_odds_43
      · refine x_iconst O (v := -1) dX10_odds_32 (by decide) ?_
        have hk : ((-1), σ4) = (rr, σr) := Option.some.inj hf
        obtain ⟨rfl, rfl⟩ := Prod.mk.inj hk
        exact x_iret O rfl rfl ⟨_, rfl, rfl⟩ dX10_odds_33
theorem k_M_odds {σ σr : Mm} {rr : Int32} {v1 : Int32} {v2 : Int32} {v3 : Int32}  (hf : f_M_odds σ v1 v2 v3 = some (rr, σr)) : CT LM yX10_odds wsX10_odds rm_X10_odds (fun ad => [.ref (ad 0), .int v1, .int v2, .int v3]) σ (some (.int rr)) σr := CT_of2 (cc := cX10_odds) (maxL := 8) (rt := (some .int)) (own := RX10) (by decide) rfl rfl (fun _ => Nat.le_of_ble_eq_true rfl) (fun _ => rfl) (fun Γ ad O => v_M_odds O  hf)

-- ===== TippedBarrowModel.decides()I
theorem ca_X10_decides : Ca yX10_decides cX10_decides 5 (some .int) wsX10_decides rm_X10_decides 0 := ⟨⟨_, rfl⟩, rfl, rfl, by decide +kernel, by decide +kernel, by decide +kernel⟩
theorem in_X10_decides_X10 : ∀ w ∈ wsX100, w ∈ wsX10_decides := by decide +kernel
theorem fl_X10_decides_19 : Fl RX10 wsX10_decides 19 10 14 true (.array .int) := ⟨_, _, _, tyX10, rfl, in_X10_decides_X10, by decide, by decide +kernel, tyX10_ok, nmX10, rfl, tyX10_ok 14 (by decide)⟩
theorem fl_X10_decides_35 : Fl RX10 wsX10_decides 35 10 23 true (.array .int) := ⟨_, _, _, tyX10, rfl, in_X10_decides_X10, by decide, by decide +kernel, tyX10_ok, nmX10, rfl, tyX10_ok 23 (by decide)⟩
theorem fl_X10_decides_56 : Fl RX10 wsX10_decides 56 10 0 false .int := ⟨_, _, _, tyX10, rfl, in_X10_decides_X10, by decide, by decide +kernel, tyX10_ok, nmX10, rfl, tyX10_ok 0 (by decide)⟩
set_option maxHeartbeats 4000000 in
set_option maxRecDepth 100000 in
theorem v_M_decides_103 {Γ : Cx} {ad : Nat → Nat} {rr : Int32} {σr : Mm} (O : Ok LM Γ ad cX10_decides 5 RX10 wsX10_decides rm_X10_decides (some .int) (some (.int rr)) σr) {σ : Mm} {v1 : Int32} {v3 : Int32} {v4 : Int32} {s0 : Int32} {s1 : Int32}  {x : (Mm × Int32 × Int32) ⊕ (Int32 × Mm)} (hf : f_M_decides_103 σ v3 v4 s0 s1 = some x) (hk : (kx (fun s : Mm × Int32 × Int32 => X LM Γ ad s.1 33 [(0, .ref (ad 0)), (1, .int v1), (2, .int s.2.1), (3, .int s.2.2)] []) (fun q : Int32 × Mm => q = (rr, σr))) x) : X LM Γ ad σ 103 [(0, .ref (ad 0)), (1, .int v1), (3, .int v3), (4, .int v4)] [.int s1, .int s0] := by
  unfold f_M_decides_103 at hf
  refine x_ior O dX10_decides_103 ?_
  refine x_istore_nN O 2 hf dX10_decides_104 rfl (by decide) (fun y1 hf => ?_)
  refine x_aload_n O 0 dX10_decides_105 rfl rfl ?_
  refine x_getF O (t := 4) fl_X10_decides_19 rfl dX10_decides_106 ?_
  refine x_bipush O (v := 7) dX10_decides_109 (by decide) ?_
  refine x_iload_n O 3 dX10_decides_111 rfl rfl ?_
  refine x_iadd O dX10_decides_112 ?_
  refine x_iload O dX10_decides_113 rfl ?_
  refine x_iastN O hf rfl dX10_decides_115 (fun σ1 hf => ?_)
  refine x_iincN O hf dX10_decides_116 rfl rfl (by decide) (fun y2 hf => ?_)
  refine x_goto O 33 dX10_decides_119 (by decide) ?_
  obtain rfl := Option.some.inj hf
  have hk := kx_l hk
  exact x_jmp O hk rfl
set_option maxHeartbeats 4000000 in
set_option maxRecDepth 100000 in
theorem v_M_decides_33_b {Γ : Cx} {ad : Nat → Nat} {rr : Int32} {σr : Mm} (O : Ok LM Γ ad cX10_decides 5 RX10 wsX10_decides rm_X10_decides (some .int) (some (.int rr)) σr) {σ : Mm} {v1 : Int32} {v2 : Int32} {v3 : Int32}  {x : (Mm × Int32 × Int32) ⊕ (Int32 × Mm)} (hf : f_M_decides_33_b v1 σ v2 v3 = some x) (hk : (kx (fun s : Mm × Int32 × Int32 => X LM Γ ad s.1 33 [(0, .ref (ad 0)), (1, .int v1), (2, .int s.2.1), (3, .int s.2.2)] []) (fun q : Int32 × Mm => q = (rr, σr))) x) : X LM Γ ad σ 33 [(0, .ref (ad 0)), (1, .int v1), (2, .int v2), (3, .int v3)] [] := by
  unfold f_M_decides_33_b at hf
  refine x_iload_n O 3 dX10_decides_33 rfl rfl ?_
  refine x_bipush O (v := 20) dX10_decides_34 (by decide) ?_
  refine x_icmp_ge O 122 hf dX10_decides_36 (by decide) (fun hf => ?_) (fun hf => ?_)
  · obtain ⟨x', hg1, hx⟩ := map_inr hf
    subst hx
    have hk := kx_r hk
    have hx : x' = (rr, σr) := hk
    subst hx
    have hf := hg1
    refine x_iload_n O 2 dX10_decides_122 rfl rfl ?_
    have hk : (v2, σ) = (rr, σr) := Option.some.inj hf
    obtain ⟨rfl, rfl⟩ := Prod.mk.inj hk
    exact x_iret O rfl rfl ⟨_, rfl, rfl⟩ dX10_decides_123
  · refine x_aload_n O 0 dX10_decides_39 rfl rfl ?_
    refine x_getF O (t := 4) fl_X10_decides_19 rfl dX10_decides_40 ?_
    refine x_bipush O (v := 7) dX10_decides_43 (by decide) ?_
    refine x_iload_n O 3 dX10_decides_45 rfl rfl ?_
    refine x_iadd O dX10_decides_46 ?_
    refine x_iald O hf rfl dX10_decides_47 (fun j1 hf => ?_)
    refine x_istoreN O hf dX10_decides_48 (by decide) (fun y1 hf => ?_)
    refine x_iload O dX10_decides_50 rfl ?_
    refine x_if_eq O 116 hf dX10_decides_52 (by decide) (fun hf => ?_) (fun hf => ?_)
    · refine x_iincN O hf dX10_decides_116 rfl rfl (by decide) (fun y2 hf => ?_)
      refine x_goto O 33 dX10_decides_119 (by decide) ?_
      obtain rfl := Option.some.inj hf
      have hk := kx_l hk
      exact x_jmp O hk rfl
    · refine x_aload_n O 0 dX10_decides_55 rfl rfl ?_
      refine x_iload_n O 3 dX10_decides_56 rfl rfl ?_
      refine x_iconst O (v := 5) dX10_decides_57 (by decide) ?_
      refine x_iremK O (by decide) dX10_decides_58 ?_
      refine x_iload_n O 3 dX10_decides_59 rfl rfl ?_
      refine x_iconst O (v := 5) dX10_decides_60 (by decide) ?_
      refine x_idivK O (by decide) dX10_decides_61 ?_
      obtain ⟨r_1, σ1, hc, hf⟩ := bd_some hf
      refine x_callV O (k_M_isGround  hc) ca_X10_isGround gX10_decides_X10_isGround rfl ⟨_, _, _, _, rfl, rfl⟩ rfl rfl rfl (Nat.le_of_ble_eq_true rfl) ⟨Nat.le_of_ble_eq_true rfl, Nat.le_of_ble_eq_true rfl⟩ dX10_decides_62 ?_
      refine x_push O ?_
      refine x_if_eq O 116 hf dX10_decides_65 (by decide) (fun hf => ?_) (fun hf => ?_)
      · refine x_iincN O hf dX10_decides_116 rfl rfl (by decide) (fun y3 hf => ?_)
        refine x_goto O 33 dX10_decides_119 (by decide) ?_
        obtain rfl := Option.some.inj hf
        have hk := kx_l hk
        exact x_jmp O hk rfl
      · refine x_aload_n O 0 dX10_decides_68 rfl rfl ?_
        refine x_getF O (t := 4) fl_X10_decides_19 rfl dX10_decides_69 ?_
        refine x_bipush O (v := 7) dX10_decides_72 (by decide) ?_
        refine x_iload_n O 3 dX10_decides_74 rfl rfl ?_
        refine x_iadd O dX10_decides_75 ?_
        refine x_iconst O (v := 0) dX10_decides_76 (by decide) ?_
        refine x_iastN O hf rfl dX10_decides_77 (fun σ2 hf => ?_)
        refine x_aload_n O 0 dX10_decides_78 rfl rfl ?_
        obtain ⟨r_2, σ3, hc, hf⟩ := bd_some hf
        refine x_callV O (k_M_plays  hc) ca_X10_plays gX10_decides_X10_plays rfl ⟨_, _, _, _, rfl, rfl⟩ rfl rfl rfl (Nat.le_of_ble_eq_true rfl) ⟨Nat.le_of_ble_eq_true rfl, Nat.le_of_ble_eq_true rfl⟩ dX10_decides_79 ?_
        refine x_pushN O ?_
        refine x_iload_n O 2 dX10_decides_82 rfl rfl ?_
        refine x_aload_n O 0 dX10_decides_83 rfl rfl ?_
        refine x_getF O (t := 9) fl_X10_decides_35 rfl dX10_decides_84 ?_
        refine x_aload_n O 0 dX10_decides_87 rfl rfl ?_
        obtain ⟨r_3, σ4, hc, hf⟩ := bd_some hf
        refine x_callV O (k_M_here  hc) ca_X10_here gX10_decides_X10_here rfl ⟨_, _, _, _, rfl, rfl⟩ rfl rfl rfl (Nat.le_of_ble_eq_true rfl) ⟨Nat.le_of_ble_eq_true rfl, Nat.le_of_ble_eq_true rfl⟩ dX10_decides_88 ?_
        refine x_push O ?_
        refine x_iald O hf rfl dX10_decides_91 (fun j3 hf => ?_)
        refine x_iload_n O 1 dX10_decides_92 rfl rfl ?_
        refine x_icmp_ne O 100 hf dX10_decides_93 (by decide) (fun hf => ?_) (fun hf => ?_)
        · refine x_iconst O (v := 1) dX10_decides_100 (by decide) ?_
          refine x_iload_n O 3 dX10_decides_101 rfl rfl ?_
          refine x_ishl O dX10_decides_102 ?_
          exact x_jmp O (v_M_decides_103 O (σ := σ4) (v1 := v1) (v3 := v3) (v4 := y1) (s0 := v2) (s1 := (1 <<< (v3 &&& 31)))  hf hk) rfl
        · refine x_iconst O (v := 0) dX10_decides_96 (by decide) ?_
          refine x_goto O 103 dX10_decides_97 (by decide) ?_
          exact x_jmp O (v_M_decides_103 O (σ := σ4) (v1 := v1) (v3 := v3) (v4 := y1) (s0 := v2) (s1 := 0)  hf hk) rfl
set_option maxHeartbeats 4000000 in
set_option maxRecDepth 100000 in
theorem v_M_decides_33 {Γ : Cx} {ad : Nat → Nat} {rr : Int32} {σr : Mm} (O : Ok LM Γ ad cX10_decides 5 RX10 wsX10_decides rm_X10_decides (some .int) (some (.int rr)) σr) {σ : Mm} {v1 : Int32} {v2 : Int32} {v3 : Int32}  (hf : f_M_decides_33 σ v1 v2 v3 = some (rr, σr)) : X LM Γ ad σ 33 [(0, .ref (ad 0)), (1, .int v1), (2, .int v2), (3, .int v3)] [] := lpX (P := (fun s : Mm × Int32 × Int32 => X LM Γ ad s.1 33 [(0, .ref (ad 0)), (1, .int v1), (2, .int s.2.1), (3, .int s.2.2)] [])) (K := (fun q : Int32 × Mm => q = (rr, σr))) (fun s x g1 g2 => v_M_decides_33_b O (σ := s.1) (v1 := v1) (v2 := s.2.1) (v3 := s.2.2)  g1 g2) (σ, v2, v3) _ hf rfl
set_option maxHeartbeats 4000000 in
set_option maxRecDepth 100000 in
theorem v_M_decides {Γ : Cx} {ad : Nat → Nat} {rr : Int32} {σr : Mm} (O : Ok LM Γ ad cX10_decides 5 RX10 wsX10_decides rm_X10_decides (some .int) (some (.int rr)) σr) {σ : Mm}   (hf : f_M_decides σ = some (rr, σr)) : X LM Γ ad σ 0 [(0, .ref (ad 0))] [] := by
  unfold f_M_decides at hf
  refine x_aload_n O 0 dX10_decides_0 rfl rfl ?_
  refine x_iconst O (v := 0) dX10_decides_1 (by decide) ?_
  refine x_putIN O hf rfl rfl fl_X10_decides_56 rfl dX10_decides_2 (fun σ1 hf => ?_)
  refine x_aload_n O 0 dX10_decides_5 rfl rfl ?_
  obtain ⟨r_1, σ2, hc, hf⟩ := bd_some hf
  refine x_callV O (k_M_hasStart  hc) ca_X10_hasStart gX10_decides_X10_hasStart rfl ⟨_, _, _, _, rfl, rfl⟩ rfl rfl rfl (Nat.le_of_ble_eq_true rfl) ⟨Nat.le_of_ble_eq_true rfl, Nat.le_of_ble_eq_true rfl⟩ dX10_decides_6 ?_
  refine x_push O ?_
  refine x_if_ne O 15 hf dX10_decides_9 (by decide) (fun hf => ?_) (fun hf => ?_)
  · refine x_aload_n O 0 dX10_decides_15 rfl rfl ?_
    obtain ⟨r_2, σ3, hc, hf⟩ := bd_some hf
    refine x_callV O (k_M_plays  hc) ca_X10_plays gX10_decides_X10_plays rfl ⟨_, _, _, _, rfl, rfl⟩ rfl rfl rfl (Nat.le_of_ble_eq_true rfl) ⟨Nat.le_of_ble_eq_true rfl, Nat.le_of_ble_eq_true rfl⟩ dX10_decides_16 ?_
    refine x_pushN O ?_
    refine x_aload_n O 0 dX10_decides_19 rfl rfl ?_
    refine x_getF O (t := 9) fl_X10_decides_35 rfl dX10_decides_20 ?_
    refine x_aload_n O 0 dX10_decides_23 rfl rfl ?_
    obtain ⟨r_3, σ4, hc, hf⟩ := bd_some hf
    refine x_callV O (k_M_here  hc) ca_X10_here gX10_decides_X10_here rfl ⟨_, _, _, _, rfl, rfl⟩ rfl rfl rfl (Nat.le_of_ble_eq_true rfl) ⟨Nat.le_of_ble_eq_true rfl, Nat.le_of_ble_eq_true rfl⟩ dX10_decides_24 ?_
    refine x_push O ?_
    refine x_iald O hf rfl dX10_decides_27 (fun j1 hf => ?_)
    refine x_istore_nN O 1 hf dX10_decides_28 rfl (by decide) (fun y1 hf => ?_)
    refine x_iconst O (v := 0) dX10_decides_29 (by decide) ?_
    refine x_istore_n O 2 dX10_decides_30 rfl (by decide) ?_
    refine x_iconst O (v := 0) dX10_decides_31 (by decide) ?_
    refine x_istore_n O 3 dX10_decides_32 rfl (by decide) ?_
    exact x_jmp O (v_M_decides_33 O (σ := σ4) (v1 := y1) (v2 := 0) (v3 := 0)  hf) rfl
  · refine x_bipush O (v := -2) dX10_decides_12 (by decide) ?_
    have hk : ((-2), σ2) = (rr, σr) := Option.some.inj hf
    obtain ⟨rfl, rfl⟩ := Prod.mk.inj hk
    exact x_iret O rfl rfl ⟨_, rfl, rfl⟩ dX10_decides_14
theorem k_M_decides {σ σr : Mm} {rr : Int32}   (hf : f_M_decides σ = some (rr, σr)) : CT LM yX10_decides wsX10_decides rm_X10_decides (fun ad => [.ref (ad 0)]) σ (some (.int rr)) σr := CT_of2 (cc := cX10_decides) (maxL := 5) (rt := (some .int)) (own := RX10) (by decide) rfl rfl (fun _ => Nat.le_of_ble_eq_true rfl) (fun _ => rfl) (fun Γ ad O => v_M_decides O  hf)

-- ===== TippedBarrowModel.tells(I)I
theorem ca_X10_tells : Ca yX10_tells cX10_tells 2 (some .int) wsX10_tells rm_X10_tells 1 := ⟨⟨_, rfl⟩, rfl, rfl, by decide +kernel, by decide +kernel, by decide +kernel⟩
theorem in_X10_tells_X10 : ∀ w ∈ wsX100, w ∈ wsX10_tells := by decide +kernel
theorem fl_X10_tells_32 : Fl RX10 wsX10_tells 32 10 19 true (.array .int) := ⟨_, _, _, tyX10, rfl, in_X10_tells_X10, by decide, by decide +kernel, tyX10_ok, nmX10, rfl, tyX10_ok 19 (by decide)⟩
theorem fl_X10_tells_56 : Fl RX10 wsX10_tells 56 10 0 false .int := ⟨_, _, _, tyX10, rfl, in_X10_tells_X10, by decide, by decide +kernel, tyX10_ok, nmX10, rfl, tyX10_ok 0 (by decide)⟩
theorem fl_X10_tells_134 : Fl RX10 wsX10_tells 134 10 20 false .int := ⟨_, _, _, tyX10, rfl, in_X10_tells_X10, by decide, by decide +kernel, tyX10_ok, nmX10, rfl, tyX10_ok 20 (by decide)⟩
set_option maxHeartbeats 4000000 in
set_option maxRecDepth 100000 in
theorem v_M_tells {Γ : Cx} {ad : Nat → Nat} {rr : Int32} {σr : Mm} (O : Ok LM Γ ad cX10_tells 2 RX10 wsX10_tells rm_X10_tells (some .int) (some (.int rr)) σr) {σ : Mm} {v1 : Int32}  (hf : f_M_tells σ v1 = some (rr, σr)) : X LM Γ ad σ 0 [(0, .ref (ad 0)), (1, .int v1)] [] := by
  unfold f_M_tells at hf
  refine x_aload_n O 0 dX10_tells_0 rfl rfl ?_
  refine x_iconst O (v := 0) dX10_tells_1 (by decide) ?_
  refine x_putIN O hf rfl rfl fl_X10_tells_56 rfl dX10_tells_2 (fun σ1 hf => ?_)
  refine x_iload_n O 1 dX10_tells_5 rfl rfl ?_
  refine x_iconst O (v := 0) dX10_tells_6 (by decide) ?_
  refine x_iconst O (v := 3) dX10_tells_7 (by decide) ?_
  obtain ⟨r_1, σ2, hc, hf⟩ := bd_some hf
  refine x_callS O (k_M_in  hc) ca_X10_in gX10_tells_X10_in rfl rfl rfl (Nat.le_of_ble_eq_true rfl) ⟨Nat.le_of_ble_eq_true rfl, Nat.le_of_ble_eq_true rfl⟩ dX10_tells_8 ?_
  refine x_push O ?_
  refine x_if_ne O 16 hf dX10_tells_11 (by decide) (fun hf => ?_) (fun hf => ?_)
  · refine x_aload_n O 0 dX10_tells_16 rfl rfl ?_
    refine x_getI O fl_X10_tells_134 rfl dX10_tells_17 ?_
    refine x_bipush O (v := 8) dX10_tells_20 (by decide) ?_
    refine x_icmp_ne O 28 hf dX10_tells_22 (by decide) (fun hf => ?_) (fun hf => ?_)
    · refine x_aload_n O 0 dX10_tells_28 rfl rfl ?_
      refine x_getF O (t := 8) fl_X10_tells_32 rfl dX10_tells_29 ?_
      refine x_aload_n O 0 dX10_tells_32 rfl rfl ?_
      refine x_getI O fl_X10_tells_134 rfl dX10_tells_33 ?_
      refine x_iload_n O 1 dX10_tells_36 rfl rfl ?_
      refine x_iastN O hf rfl dX10_tells_37 (fun σ3 hf => ?_)
      refine x_aload_n O 0 dX10_tells_38 rfl rfl ?_
      refine x_dup O dX10_tells_39 rfl ?_
      refine x_getI O fl_X10_tells_134 rfl dX10_tells_40 ?_
      refine x_iconst O (v := 1) dX10_tells_43 (by decide) ?_
      refine x_iadd O dX10_tells_44 ?_
      refine x_putIN O hf rfl rfl fl_X10_tells_134 rfl dX10_tells_45 (fun σ4 hf => ?_)
      refine x_aload_n O 0 dX10_tells_48 rfl rfl ?_
      refine x_getI O fl_X10_tells_134 rfl dX10_tells_49 ?_
      have hk : ((gI σ4 0 20), σ4) = (rr, σr) := Option.some.inj hf
      obtain ⟨rfl, rfl⟩ := Prod.mk.inj hk
      exact x_iret O rfl rfl ⟨_, rfl, rfl⟩ dX10_tells_52
    · refine x_bipush O (v := -3) dX10_tells_25 (by decide) ?_
      have hk : ((-3), σ2) = (rr, σr) := Option.some.inj hf
      obtain ⟨rfl, rfl⟩ := Prod.mk.inj hk
      exact x_iret O rfl rfl ⟨_, rfl, rfl⟩ dX10_tells_27
  · refine x_iconst O (v := -1) dX10_tells_14 (by decide) ?_
    have hk : ((-1), σ2) = (rr, σr) := Option.some.inj hf
    obtain ⟨rfl, rfl⟩ := Prod.mk.inj hk
    exact x_iret O rfl rfl ⟨_, rfl, rfl⟩ dX10_tells_15
theorem k_M_tells {σ σr : Mm} {rr : Int32} {v1 : Int32}  (hf : f_M_tells σ v1 = some (rr, σr)) : CT LM yX10_tells wsX10_tells rm_X10_tells (fun ad => [.ref (ad 0), .int v1]) σ (some (.int rr)) σr := CT_of2 (cc := cX10_tells) (maxL := 2) (rt := (some .int)) (own := RX10) (by decide) rfl rfl (fun _ => Nat.le_of_ble_eq_true rfl) (fun _ => rfl) (fun Γ ad O => v_M_tells O  hf)

-- ===== TippedBarrowModel.forget()I
theorem ca_X10_forget : Ca yX10_forget cX10_forget 2 (some .int) wsX10_forget rm_X10_forget 0 := ⟨⟨_, rfl⟩, rfl, rfl, by decide +kernel, by decide +kernel, by decide +kernel⟩
theorem in_X10_forget_X10 : ∀ w ∈ wsX100, w ∈ wsX10_forget := by decide +kernel
theorem fl_X10_forget_56 : Fl RX10 wsX10_forget 56 10 0 false .int := ⟨_, _, _, tyX10, rfl, in_X10_forget_X10, by decide, by decide +kernel, tyX10_ok, nmX10, rfl, tyX10_ok 0 (by decide)⟩
theorem fl_X10_forget_134 : Fl RX10 wsX10_forget 134 10 20 false .int := ⟨_, _, _, tyX10, rfl, in_X10_forget_X10, by decide, by decide +kernel, tyX10_ok, nmX10, rfl, tyX10_ok 20 (by decide)⟩
set_option maxHeartbeats 4000000 in
set_option maxRecDepth 100000 in
theorem v_M_forget {Γ : Cx} {ad : Nat → Nat} {rr : Int32} {σr : Mm} (O : Ok LM Γ ad cX10_forget 2 RX10 wsX10_forget rm_X10_forget (some .int) (some (.int rr)) σr) {σ : Mm}   (hf : f_M_forget σ = some (rr, σr)) : X LM Γ ad σ 0 [(0, .ref (ad 0))] [] := by
  unfold f_M_forget at hf
  refine x_aload_n O 0 dX10_forget_0 rfl rfl ?_
  refine x_iconst O (v := 0) dX10_forget_1 (by decide) ?_
  refine x_putIN O hf rfl rfl fl_X10_forget_56 rfl dX10_forget_2 (fun σ1 hf => ?_)
  refine x_aload_n O 0 dX10_forget_5 rfl rfl ?_
  refine x_getI O fl_X10_forget_134 rfl dX10_forget_6 ?_
  refine x_istore_nN O 1 hf dX10_forget_9 rfl (by decide) (fun y1 hf => ?_)
  refine x_aload_n O 0 dX10_forget_10 rfl rfl ?_
  refine x_iconst O (v := 0) dX10_forget_11 (by decide) ?_
  refine x_putIN O hf rfl rfl fl_X10_forget_134 rfl dX10_forget_12 (fun σ2 hf => ?_)
  refine x_iload_n O 1 dX10_forget_15 rfl rfl ?_
  have hk : (y1, σ2) = (rr, σr) := Option.some.inj hf
  obtain ⟨rfl, rfl⟩ := Prod.mk.inj hk
  exact x_iret O rfl rfl ⟨_, rfl, rfl⟩ dX10_forget_16
theorem k_M_forget {σ σr : Mm} {rr : Int32}   (hf : f_M_forget σ = some (rr, σr)) : CT LM yX10_forget wsX10_forget rm_X10_forget (fun ad => [.ref (ad 0)]) σ (some (.int rr)) σr := CT_of2 (cc := cX10_forget) (maxL := 2) (rt := (some .int)) (own := RX10) (by decide) rfl rfl (fun _ => Nat.le_of_ble_eq_true rfl) (fun _ => rfl) (fun Γ ad O => v_M_forget O  hf)

-- ===== TippedBarrowModel.endsSo(II)Z
theorem ca_X10_endsSo : Ca yX10_endsSo cX10_endsSo 7 (some .boolean) wsX10_endsSo rm_X10_endsSo 2 := ⟨⟨_, rfl⟩, rfl, rfl, by decide +kernel, by decide +kernel, by decide +kernel⟩
theorem in_X10_endsSo_X10 : ∀ w ∈ wsX100, w ∈ wsX10_endsSo := by decide +kernel
theorem fl_X10_endsSo_13 : Fl RX10 wsX10_endsSo 13 10 9 true (.array .int) := ⟨_, _, _, tyX10, rfl, in_X10_endsSo_X10, by decide, by decide +kernel, tyX10_ok, nmX10, rfl, tyX10_ok 9 (by decide)⟩
theorem fl_X10_endsSo_32 : Fl RX10 wsX10_endsSo 32 10 19 true (.array .int) := ⟨_, _, _, tyX10, rfl, in_X10_endsSo_X10, by decide, by decide +kernel, tyX10_ok, nmX10, rfl, tyX10_ok 19 (by decide)⟩
theorem fl_X10_endsSo_134 : Fl RX10 wsX10_endsSo 134 10 20 false .int := ⟨_, _, _, tyX10, rfl, in_X10_endsSo_X10, by decide, by decide +kernel, tyX10_ok, nmX10, rfl, tyX10_ok 20 (by decide)⟩
theorem fl_X10_endsSo_144 : Fl RX10 wsX10_endsSo 144 10 21 false .int := ⟨_, _, _, tyX10, rfl, in_X10_endsSo_X10, by decide, by decide +kernel, tyX10_ok, nmX10, rfl, tyX10_ok 21 (by decide)⟩
theorem fl_X10_endsSo_147 : Fl RX10 wsX10_endsSo 147 10 22 false .int := ⟨_, _, _, tyX10, rfl, in_X10_endsSo_X10, by decide, by decide +kernel, tyX10_ok, nmX10, rfl, tyX10_ok 22 (by decide)⟩
set_option maxHeartbeats 4000000 in
set_option maxRecDepth 100000 in
theorem v_M_endsSo_68 {Γ : Cx} {ad : Nat → Nat} {rr : Int32} {σr : Mm} (O : Ok LM Γ ad cX10_endsSo 7 RX10 wsX10_endsSo rm_X10_endsSo (some .boolean) (some (.int rr)) σr) {σ : Mm} {v2 : Int32} {v5 : Int32}  (hf : f_M_endsSo_68 σ v2 v5 = some (rr, σr)) : X LM Γ ad σ 68 [(2, .int v2), (5, .int v5)] [] := by
  unfold f_M_endsSo_68 at hf
  refine x_iload O dX10_endsSo_68 rfl ?_
  refine x_iload_n O 2 dX10_endsSo_70 rfl rfl ?_
  refine x_icmp_ne O 78 hf dX10_endsSo_71 (by decide) (fun hf => ?_) (fun hf => ?_)
  · refine x_iconst O (v := 0) dX10_endsSo_78 (by decide) ?_
    have hk : (0, σ) = (rr, σr) := Option.some.inj hf
    obtain ⟨rfl, rfl⟩ := Prod.mk.inj hk
    exact x_iret O rfl rfl ⟨_, rfl, rfl⟩ dX10_endsSo_79
  · refine x_iconst O (v := 1) dX10_endsSo_74 (by decide) ?_
    refine x_goto O 79 dX10_endsSo_75 (by decide) ?_
    have hk : (1, σ) = (rr, σr) := Option.some.inj hf
    obtain ⟨rfl, rfl⟩ := Prod.mk.inj hk
    exact x_iret O rfl rfl ⟨_, rfl, rfl⟩ dX10_endsSo_79
set_option maxHeartbeats 4000000 in
set_option maxRecDepth 100000 in
theorem v_M_endsSo_49 {Γ : Cx} {ad : Nat → Nat} {rr : Int32} {σr : Mm} (O : Ok LM Γ ad cX10_endsSo 7 RX10 wsX10_endsSo rm_X10_endsSo (some .boolean) (some (.int rr)) σr) {σ : Mm} {v1 : Int32} {v2 : Int32} {v6 : Int32} {s0 : Int32}  {x : (Mm × Int32 × Int32 × Int32 × Int32) ⊕ (Int32 × Mm)} (hf : f_M_endsSo_49 σ v6 s0 = some x) (hk : (kx (fun s : Mm × Int32 × Int32 × Int32 × Int32 => X LM Γ ad s.1 16 [(0, .ref (ad 0)), (1, .int v1), (2, .int v2), (3, .int s.2.1), (4, .int s.2.2.1), (5, .int s.2.2.2.1), (6, .int s.2.2.2.2)] []) (fun q : Int32 × Mm => q = (rr, σr))) x) : X LM Γ ad σ 49 [(0, .ref (ad 0)), (1, .int v1), (2, .int v2), (6, .int v6)] [.int s0] := by
  unfold f_M_endsSo_49 at hf
  refine x_istore O dX10_endsSo_49 (by decide) ?_
  refine x_aload_n O 0 dX10_endsSo_51 rfl rfl ?_
  refine x_getI O fl_X10_endsSo_144 rfl dX10_endsSo_52 ?_
  refine x_istore_nN O 3 hf dX10_endsSo_55 rfl (by decide) (fun y1 hf => ?_)
  refine x_aload_n O 0 dX10_endsSo_56 rfl rfl ?_
  refine x_getI O fl_X10_endsSo_147 rfl dX10_endsSo_57 ?_
  refine x_istoreN O hf dX10_endsSo_60 (by decide) (fun y2 hf => ?_)
  refine x_iincN O hf dX10_endsSo_62 rfl rfl (by decide) (fun y3 hf => ?_)
  refine x_goto O 16 dX10_endsSo_65 (by decide) ?_
  obtain rfl := Option.some.inj hf
  have hk := kx_l hk
  exact x_jmp O hk rfl
set_option maxHeartbeats 4000000 in
set_option maxRecDepth 100000 in
theorem v_M_endsSo_16_b {Γ : Cx} {ad : Nat → Nat} {rr : Int32} {σr : Mm} (O : Ok LM Γ ad cX10_endsSo 7 RX10 wsX10_endsSo rm_X10_endsSo (some .boolean) (some (.int rr)) σr) {σ : Mm} {v1 : Int32} {v2 : Int32} {v3 : Int32} {v4 : Int32} {v5 : Int32} {v6 : Int32}  {x : (Mm × Int32 × Int32 × Int32 × Int32) ⊕ (Int32 × Mm)} (hf : f_M_endsSo_16_b v1 v2 σ v3 v4 v5 v6 = some x) (hk : (kx (fun s : Mm × Int32 × Int32 × Int32 × Int32 => X LM Γ ad s.1 16 [(0, .ref (ad 0)), (1, .int v1), (2, .int v2), (3, .int s.2.1), (4, .int s.2.2.1), (5, .int s.2.2.2.1), (6, .int s.2.2.2.2)] []) (fun q : Int32 × Mm => q = (rr, σr))) x) : X LM Γ ad σ 16 [(0, .ref (ad 0)), (1, .int v1), (2, .int v2), (3, .int v3), (4, .int v4), (5, .int v5), (6, .int v6)] [] := by
  unfold f_M_endsSo_16_b at hf
  refine x_iload O dX10_endsSo_16 rfl ?_
  refine x_aload_n O 0 dX10_endsSo_18 rfl rfl ?_
  refine x_getI O fl_X10_endsSo_134 rfl dX10_endsSo_19 ?_
  refine x_icmp_ge O 68 hf dX10_endsSo_22 (by decide) (fun hf => ?_) (fun hf => ?_)
  · obtain ⟨x', hg1, hx⟩ := map_inr hf
    subst hx
    have hk := kx_r hk
    have hx : x' = (rr, σr) := hk
    subst hx
    have hf := hg1
    exact x_jmp O (v_M_endsSo_68 O (σ := σ) (v2 := v2) (v5 := v5)  hf) rfl
  · refine x_iload O dX10_endsSo_25 rfl ?_
    refine x_if_ne O 48 hf dX10_endsSo_27 (by decide) (fun hf => ?_) (fun hf => ?_)
    · refine x_iconst O (v := 3) dX10_endsSo_48 (by decide) ?_
      exact x_jmp O (v_M_endsSo_49 O (σ := σ) (v1 := v1) (v2 := v2) (v6 := v6) (s0 := 3)  hf hk) rfl
    · refine x_aload_n O 0 dX10_endsSo_30 rfl rfl ?_
      refine x_iload_n O 3 dX10_endsSo_31 rfl rfl ?_
      refine x_iload O dX10_endsSo_32 rfl ?_
      refine x_aload_n O 0 dX10_endsSo_34 rfl rfl ?_
      refine x_getF O (t := 8) fl_X10_endsSo_32 rfl dX10_endsSo_35 ?_
      refine x_iload O dX10_endsSo_38 rfl ?_
      refine x_iald O hf rfl dX10_endsSo_40 (fun j1 hf => ?_)
      refine x_iload_n O 1 dX10_endsSo_41 rfl rfl ?_
      obtain ⟨r_1, σ1, hc, hf⟩ := bd_some hf
      refine x_callV O (k_M_comes  hc) ca_X10_comes gX10_endsSo_X10_comes rfl ⟨_, _, _, _, rfl, rfl⟩ rfl rfl rfl (Nat.le_of_ble_eq_true rfl) ⟨Nat.le_of_ble_eq_true rfl, Nat.le_of_ble_eq_true rfl⟩ dX10_endsSo_42 ?_
      refine x_push O ?_
      refine x_goto O 49 dX10_endsSo_45 (by decide) ?_
      exact x_jmp O (v_M_endsSo_49 O (σ := σ1) (v1 := v1) (v2 := v2) (v6 := v6) (s0 := r_1)  hf hk) rfl
set_option maxHeartbeats 4000000 in
set_option maxRecDepth 100000 in
theorem v_M_endsSo_16 {Γ : Cx} {ad : Nat → Nat} {rr : Int32} {σr : Mm} (O : Ok LM Γ ad cX10_endsSo 7 RX10 wsX10_endsSo rm_X10_endsSo (some .boolean) (some (.int rr)) σr) {σ : Mm} {v1 : Int32} {v2 : Int32} {v3 : Int32} {v4 : Int32} {v5 : Int32} {v6 : Int32}  (hf : f_M_endsSo_16 σ v1 v2 v3 v4 v5 v6 = some (rr, σr)) : X LM Γ ad σ 16 [(0, .ref (ad 0)), (1, .int v1), (2, .int v2), (3, .int v3), (4, .int v4), (5, .int v5), (6, .int v6)] [] := lpX (P := (fun s : Mm × Int32 × Int32 × Int32 × Int32 => X LM Γ ad s.1 16 [(0, .ref (ad 0)), (1, .int v1), (2, .int v2), (3, .int s.2.1), (4, .int s.2.2.1), (5, .int s.2.2.2.1), (6, .int s.2.2.2.2)] [])) (K := (fun q : Int32 × Mm => q = (rr, σr))) (fun s x g1 g2 => v_M_endsSo_16_b O (σ := s.1) (v1 := v1) (v2 := v2) (v3 := s.2.1) (v4 := s.2.2.1) (v5 := s.2.2.2.1) (v6 := s.2.2.2.2)  g1 g2) (σ, v3, v4, v5, v6) _ hf rfl
set_option maxHeartbeats 4000000 in
set_option maxRecDepth 100000 in
theorem v_M_endsSo {Γ : Cx} {ad : Nat → Nat} {rr : Int32} {σr : Mm} (O : Ok LM Γ ad cX10_endsSo 7 RX10 wsX10_endsSo rm_X10_endsSo (some .boolean) (some (.int rr)) σr) {σ : Mm} {v1 : Int32} {v2 : Int32}  (hf : f_M_endsSo σ v1 v2 = some (rr, σr)) : X LM Γ ad σ 0 [(0, .ref (ad 0)), (1, .int v1), (2, .int v2)] [] := by
  unfold f_M_endsSo at hf
  refine x_aload_n O 0 dX10_endsSo_0 rfl rfl ?_
  refine x_getF O (t := 2) fl_X10_endsSo_13 rfl dX10_endsSo_1 ?_
  refine x_iconst O (v := 2) dX10_endsSo_4 (by decide) ?_
  refine x_iald O hf rfl dX10_endsSo_5 (fun j1 hf => ?_)
  refine x_istore_nN O 3 hf dX10_endsSo_6 rfl (by decide) (fun y1 hf => ?_)
  refine x_iconst O (v := 0) dX10_endsSo_7 (by decide) ?_
  refine x_istore O dX10_endsSo_8 (by decide) ?_
  refine x_iconst O (v := 0) dX10_endsSo_10 (by decide) ?_
  refine x_istore O dX10_endsSo_11 (by decide) ?_
  refine x_iconst O (v := 0) dX10_endsSo_13 (by decide) ?_
  refine x_istore O dX10_endsSo_14 (by decide) ?_
  exact x_jmp O (v_M_endsSo_16 O (σ := σ) (v1 := v1) (v2 := v2) (v3 := y1) (v4 := 0) (v5 := 0) (v6 := 0)  hf) rfl
theorem k_M_endsSo {σ σr : Mm} {rr : Int32} {v1 : Int32} {v2 : Int32}  (hf : f_M_endsSo σ v1 v2 = some (rr, σr)) : CT LM yX10_endsSo wsX10_endsSo rm_X10_endsSo (fun ad => [.ref (ad 0), .int v1, .int v2]) σ (some (.int rr)) σr := CT_of2 (cc := cX10_endsSo) (maxL := 7) (rt := (some .boolean)) (own := RX10) (by decide) rfl rfl (fun _ => Nat.le_of_ble_eq_true rfl) (fun _ => rfl) (fun Γ ad O => v_M_endsSo O  hf)
