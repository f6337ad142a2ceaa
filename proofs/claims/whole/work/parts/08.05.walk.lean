-- ===== TippedBarrowModel.leanings(I)I
theorem ca_X10_leanings : Ca yX10_leanings cX10_leanings 4 (some .int) wsX10_leanings rm_X10_leanings 1 := ⟨⟨_, rfl⟩, rfl, rfl, by decide +kernel, by decide +kernel, by decide +kernel⟩
theorem in_X10_leanings_X10 : ∀ w ∈ wsX100, w ∈ wsX10_leanings := by decide +kernel
theorem fl_X10_leanings_56 : Fl RX10 wsX10_leanings 56 10 0 false .int := ⟨_, _, _, tyX10, rfl, in_X10_leanings_X10, by decide, by decide +kernel, tyX10_ok, nmX10, rfl, tyX10_ok 0 (by decide)⟩
set_option maxHeartbeats 4000000 in
set_option maxRecDepth 100000 in
theorem v_M_leanings_54 {Γ : Cx} {ad : Nat → Nat} {rr : Int32} {σr : Mm} (O : Ok LM Γ ad cX10_leanings 4 RX10 wsX10_leanings rm_X10_leanings (some .int) (some (.int rr)) σr) {σ : Mm} {v1 : Int32} {v3 : Int32} {s0 : Int32} {s1 : Int32}  {x : (Mm × Int32 × Int32) ⊕ (Int32 × Mm)} (hf : f_M_leanings_54 σ v3 s0 s1 = some x) (hk : (kx (fun s : Mm × Int32 × Int32 => X LM Γ ad s.1 30 [(0, .ref (ad 0)), (1, .int v1), (2, .int s.2.1), (3, .int s.2.2)] []) (fun q : Int32 × Mm => q = (rr, σr))) x) : X LM Γ ad σ 54 [(0, .ref (ad 0)), (1, .int v1), (3, .int v3)] [.int s1, .int s0] := by
  unfold f_M_leanings_54 at hf
  refine x_ior O dX10_leanings_54 ?_
  refine x_istore_nN O 2 hf dX10_leanings_55 rfl (by decide) (fun y1 hf => ?_)
  refine x_iincN O hf dX10_leanings_56 rfl rfl (by decide) (fun y2 hf => ?_)
  refine x_goto O 30 dX10_leanings_59 (by decide) ?_
  obtain rfl := Option.some.inj hf
  have hk := kx_l hk
  exact x_jmp O hk rfl
set_option maxHeartbeats 4000000 in
set_option maxRecDepth 100000 in
theorem v_M_leanings_30_b {Γ : Cx} {ad : Nat → Nat} {rr : Int32} {σr : Mm} (O : Ok LM Γ ad cX10_leanings 4 RX10 wsX10_leanings rm_X10_leanings (some .int) (some (.int rr)) σr) {σ : Mm} {v1 : Int32} {v2 : Int32} {v3 : Int32}  {x : (Mm × Int32 × Int32) ⊕ (Int32 × Mm)} (hf : f_M_leanings_30_b v1 σ v2 v3 = some x) (hk : (kx (fun s : Mm × Int32 × Int32 => X LM Γ ad s.1 30 [(0, .ref (ad 0)), (1, .int v1), (2, .int s.2.1), (3, .int s.2.2)] []) (fun q : Int32 × Mm => q = (rr, σr))) x) : X LM Γ ad σ 30 [(0, .ref (ad 0)), (1, .int v1), (2, .int v2), (3, .int v3)] [] := by
  unfold f_M_leanings_30_b at hf
  refine x_iload_n O 3 dX10_leanings_30 rfl rfl ?_
  refine x_iconst O (v := 5) dX10_leanings_31 (by decide) ?_
  refine x_icmp_ge O 62 hf dX10_leanings_32 (by decide) (fun hf => ?_) (fun hf => ?_)
  · obtain ⟨x', hg1, hx⟩ := map_inr hf
    subst hx
    have hk := kx_r hk
    have hx : x' = (rr, σr) := hk
    subst hx
    have hf := hg1
    refine x_iload_n O 2 dX10_leanings_62 rfl rfl ?_
    have hk : (v2, σ) = (rr, σr) := Option.some.inj hf
    obtain ⟨rfl, rfl⟩ := Prod.mk.inj hk
    exact x_iret O rfl rfl ⟨_, rfl, rfl⟩ dX10_leanings_63
  · refine x_iload_n O 2 dX10_leanings_35 rfl rfl ?_
    refine x_aload_n O 0 dX10_leanings_36 rfl rfl ?_
    refine x_iload_n O 3 dX10_leanings_37 rfl rfl ?_
    refine x_iconst O (v := 2) dX10_leanings_38 (by decide) ?_
    refine x_isub O dX10_leanings_39 ?_
    refine x_iload_n O 1 dX10_leanings_40 rfl rfl ?_
    obtain ⟨r_1, σ1, hc, hf⟩ := bd_some hf
    refine x_callV O (k_M_endsSo  hc) ca_X10_endsSo gX10_leanings_X10_endsSo rfl ⟨_, _, _, _, rfl, rfl⟩ rfl rfl rfl (Nat.le_of_ble_eq_true rfl) ⟨Nat.le_of_ble_eq_true rfl, Nat.le_of_ble_eq_true rfl⟩ dX10_leanings_41 ?_
    refine x_push O ?_
    refine x_if_eq O 53 hf dX10_leanings_44 (by decide) (fun hf => ?_) (fun hf => ?_)
    · refine x_iconst O (v := 0) dX10_leanings_53 (by decide) ?_
      exact x_jmp O (v_M_leanings_54 O (σ := σ1) (v1 := v1) (v3 := v3) (s0 := v2) (s1 := 0)  hf hk) rfl
    · refine x_iconst O (v := 1) dX10_leanings_47 (by decide) ?_
      refine x_iload_n O 3 dX10_leanings_48 rfl rfl ?_
      refine x_ishl O dX10_leanings_49 ?_
      refine x_goto O 54 dX10_leanings_50 (by decide) ?_
      exact x_jmp O (v_M_leanings_54 O (σ := σ1) (v1 := v1) (v3 := v3) (s0 := v2) (s1 := (1 <<< (v3 &&& 31)))  hf hk) rfl
set_option maxHeartbeats 4000000 in
set_option maxRecDepth 100000 in
theorem v_M_leanings_30 {Γ : Cx} {ad : Nat → Nat} {rr : Int32} {σr : Mm} (O : Ok LM Γ ad cX10_leanings 4 RX10 wsX10_leanings rm_X10_leanings (some .int) (some (.int rr)) σr) {σ : Mm} {v1 : Int32} {v2 : Int32} {v3 : Int32}  (hf : f_M_leanings_30 σ v1 v2 v3 = some (rr, σr)) : X LM Γ ad σ 30 [(0, .ref (ad 0)), (1, .int v1), (2, .int v2), (3, .int v3)] [] := lpX (P := (fun s : Mm × Int32 × Int32 => X LM Γ ad s.1 30 [(0, .ref (ad 0)), (1, .int v1), (2, .int s.2.1), (3, .int s.2.2)] [])) (K := (fun q : Int32 × Mm => q = (rr, σr))) (fun s x g1 g2 => v_M_leanings_30_b O (σ := s.1) (v1 := v1) (v2 := s.2.1) (v3 := s.2.2)  g1 g2) (σ, v2, v3) _ hf rfl
set_option maxHeartbeats 4000000 in
set_option maxRecDepth 100000 in
theorem v_M_leanings {Γ : Cx} {ad : Nat → Nat} {rr : Int32} {σr : Mm} (O : Ok LM Γ ad cX10_leanings 4 RX10 wsX10_leanings rm_X10_leanings (some .int) (some (.int rr)) σr) {σ : Mm} {v1 : Int32}  (hf : f_M_leanings σ v1 = some (rr, σr)) : X LM Γ ad σ 0 [(0, .ref (ad 0)), (1, .int v1)] [] := by
  unfold f_M_leanings at hf
  refine x_aload_n O 0 dX10_leanings_0 rfl rfl ?_
  refine x_iconst O (v := 0) dX10_leanings_1 (by decide) ?_
  refine x_putIN O hf rfl rfl fl_X10_leanings_56 rfl dX10_leanings_2 (fun σ1 hf => ?_)
  refine x_iload_n O 1 dX10_leanings_5 rfl rfl ?_
  refine x_iconst O (v := 0) dX10_leanings_6 (by decide) ?_
  refine x_iconst O (v := 2) dX10_leanings_7 (by decide) ?_
  obtain ⟨r_1, σ2, hc, hf⟩ := bd_some hf
  refine x_callS O (k_M_in  hc) ca_X10_in gX10_leanings_X10_in rfl rfl rfl (Nat.le_of_ble_eq_true rfl) ⟨Nat.le_of_ble_eq_true rfl, Nat.le_of_ble_eq_true rfl⟩ dX10_leanings_8 ?_
  refine x_push O ?_
  refine x_if_ne O 16 hf dX10_leanings_11 (by decide) (fun hf => ?_) (fun hf => ?_)
  · refine x_aload_n O 0 dX10_leanings_16 rfl rfl ?_
    obtain ⟨r_2, σ3, hc, hf⟩ := bd_some hf
    refine x_callV O (k_M_hasStart  hc) ca_X10_hasStart gX10_leanings_X10_hasStart rfl ⟨_, _, _, _, rfl, rfl⟩ rfl rfl rfl (Nat.le_of_ble_eq_true rfl) ⟨Nat.le_of_ble_eq_true rfl, Nat.le_of_ble_eq_true rfl⟩ dX10_leanings_17 ?_
    refine x_push O ?_
    refine x_if_ne O 26 hf dX10_leanings_20 (by decide) (fun hf => ?_) (fun hf => ?_)
    · refine x_iconst O (v := 0) dX10_leanings_26 (by decide) ?_
      refine x_istore_n O 2 dX10_leanings_27 rfl (by decide) ?_
      refine x_iconst O (v := 0) dX10_leanings_28 (by decide) ?_
      refine x_istore_n O 3 dX10_leanings_29 rfl (by decide) ?_
      exact x_jmp O (v_M_leanings_30 O (σ := σ3) (v1 := v1) (v2 := 0) (v3 := 0)  hf) rfl
    · refine x_bipush O (v := -2) dX10_leanings_23 (by decide) ?_
      have hk : ((-2), σ3) = (rr, σr) := Option.some.inj hf
      obtain ⟨rfl, rfl⟩ := Prod.mk.inj hk
      exact x_iret O rfl rfl ⟨_, rfl, rfl⟩ dX10_leanings_25
  · refine x_iconst O (v := -1) dX10_leanings_14 (by decide) ?_
    have hk : ((-1), σ2) = (rr, σr) := Option.some.inj hf
    obtain ⟨rfl, rfl⟩ := Prod.mk.inj hk
    exact x_iret O rfl rfl ⟨_, rfl, rfl⟩ dX10_leanings_15
theorem k_M_leanings {σ σr : Mm} {rr : Int32} {v1 : Int32}  (hf : f_M_leanings σ v1 = some (rr, σr)) : CT LM yX10_leanings wsX10_leanings rm_X10_leanings (fun ad => [.ref (ad 0), .int v1]) σ (some (.int rr)) σr := CT_of2 (cc := cX10_leanings) (maxL := 4) (rt := (some .int)) (own := RX10) (by decide) rfl rfl (fun _ => Nat.le_of_ble_eq_true rfl) (fun _ => rfl) (fun Γ ad O => v_M_leanings O  hf)

-- ===== TippedBarrowModel.rate(III)I
theorem ca_X10_rate : Ca yX10_rate cX10_rate 7 (some .int) wsX10_rate rm_X10_rate 3 := ⟨⟨_, rfl⟩, rfl, rfl, by decide +kernel, by decide +kernel, by decide +kernel⟩
theorem in_X10_rate_X10 : ∀ w ∈ wsX100, w ∈ wsX10_rate := by decide +kernel
theorem fl_X10_rate_19 : Fl RX10 wsX10_rate 19 10 14 true (.array .int) := ⟨_, _, _, tyX10, rfl, in_X10_rate_X10, by decide, by decide +kernel, tyX10_ok, nmX10, rfl, tyX10_ok 14 (by decide)⟩
theorem fl_X10_rate_56 : Fl RX10 wsX10_rate 56 10 0 false .int := ⟨_, _, _, tyX10, rfl, in_X10_rate_X10, by decide, by decide +kernel, tyX10_ok, nmX10, rfl, tyX10_ok 0 (by decide)⟩
theorem fl_X10_rate_199 : Fl RX10 wsX10_rate 199 10 1 false .long := ⟨_, _, _, tyX10, rfl, in_X10_rate_X10, by decide, by decide +kernel, tyX10_ok, nmX10, rfl, tyX10_ok 1 (by decide)⟩
theorem mw_X10_rate_0 : Cond.constant RX10 143 (-1000000) ∈ wsX10_rate := by decide +kernel
theorem mw_X10_rate_1 : Cond.constantLong RX10 211 (100001) ∈ wsX10_rate := by decide +kernel
theorem mw_X10_rate_2 : Cond.constantLong RX10 209 (10101) ∈ wsX10_rate := by decide +kernel
theorem mw_X10_rate_3 : Cond.constantLong RX10 207 (1011) ∈ wsX10_rate := by decide +kernel
theorem mw_X10_rate_4 : Cond.constantLong RX10 205 (101) ∈ wsX10_rate := by decide +kernel
theorem mw_X10_rate_5 : Cond.constantLong RX10 203 (11) ∈ wsX10_rate := by decide +kernel
set_option maxHeartbeats 4000000 in
set_option maxRecDepth 100000 in
theorem v_M_rate_118 {Γ : Cx} {ad : Nat → Nat} {rr : Int32} {σr : Mm} (O : Ok LM Γ ad cX10_rate 7 RX10 wsX10_rate rm_X10_rate (some .int) (some (.int rr)) σr) {σ : Mm} {v1 : Int32} {v3 : Int32} {v4 : Int32} {v5 : Int32} {v6 : Int32} {s1 : Int64} {s2 : Int64}  (hf : f_M_rate_118 σ v1 v3 v4 v5 v6 s1 s2 = some (rr, σr)) : X LM Γ ad σ 118 [(0, .ref (ad 0)), (1, .int v1), (3, .int v3), (4, .int v4), (5, .int v5), (6, .int v6)] [.long s2, .long s1, .ref (ad 0)] := by
  unfold f_M_rate_118 at hf
  refine x_ladd O dX10_rate_118 ?_
  refine x_putJN O hf hsetM nJ_M rfl rfl fl_X10_rate_199 rfl dX10_rate_119 (fun σ1 hf => ?_)
  refine x_iload_n O 1 dX10_rate_122 rfl rfl ?_
  refine x_if_ne O 131 hf dX10_rate_123 (by decide) (fun hf => ?_) (fun hf => ?_)
  · refine x_iload_n O 1 dX10_rate_131 rfl rfl ?_
    refine x_iconst O (v := 1) dX10_rate_132 (by decide) ?_
    refine x_icmp_ne O 141 hf dX10_rate_133 (by decide) (fun hf => ?_) (fun hf => ?_)
    · refine x_iload_n O 1 dX10_rate_141 rfl rfl ?_
      refine x_iconst O (v := 2) dX10_rate_142 (by decide) ?_
      refine x_icmp_ne O 151 hf dX10_rate_143 (by decide) (fun hf => ?_) (fun hf => ?_)
      · refine x_iload_n O 1 dX10_rate_151 rfl rfl ?_
        refine x_iconst O (v := 3) dX10_rate_152 (by decide) ?_
        refine x_icmp_ne O 163 hf dX10_rate_153 (by decide) (fun hf => ?_) (fun hf => ?_)
        · refine x_iload_n O 1 dX10_rate_163 rfl rfl ?_
          refine x_iconst O (v := 4) dX10_rate_164 (by decide) ?_
          refine x_icmp_ne O 175 hf dX10_rate_165 (by decide) (fun hf => ?_) (fun hf => ?_)
          · refine x_iload O dX10_rate_175 rfl ?_
            refine x_aload_n O 0 dX10_rate_177 rfl rfl ?_
            refine x_getF O (t := 4) fl_X10_rate_19 rfl dX10_rate_178 ?_
            refine x_iconst O (v := 3) dX10_rate_181 (by decide) ?_
            refine x_iald O hf rfl dX10_rate_182 (fun j1 hf => ?_)
            refine x_iadd O dX10_rate_183 ?_
            refine x_aload_n O 0 dX10_rate_184 rfl rfl ?_
            refine x_getF O (t := 4) fl_X10_rate_19 rfl dX10_rate_185 ?_
            refine x_iconst O (v := 4) dX10_rate_188 (by decide) ?_
            refine x_iald O hf rfl dX10_rate_189 (fun j2 hf => ?_)
            refine x_iadd O dX10_rate_190 ?_
            have hk : (((v4 + (gA σ1 4 j1)) + (gA σ1 4 j2)), σ1) = (rr, σr) := Option.some.inj hf
            obtain ⟨rfl, rfl⟩ := Prod.mk.inj hk
            exact x_iret O rfl rfl ⟨_, rfl, rfl⟩ dX10_rate_191
          · refine x_iload O dX10_rate_168 rfl ?_
            refine x_iload_n O 3 dX10_rate_170 rfl rfl ?_
            refine x_iadd O dX10_rate_171 ?_
            refine x_goto O 191 dX10_rate_172 (by decide) ?_
            have hk : ((v6 + v3), σ1) = (rr, σr) := Option.some.inj hf
            obtain ⟨rfl, rfl⟩ := Prod.mk.inj hk
            exact x_iret O rfl rfl ⟨_, rfl, rfl⟩ dX10_rate_191
        · refine x_iconst O (v := 2) dX10_rate_156 (by decide) ?_
          refine x_iload O dX10_rate_157 rfl ?_
          refine x_imul O dX10_rate_159 ?_
          refine x_goto O 191 dX10_rate_160 (by decide) ?_
          have hk : ((2 * v5), σ1) = (rr, σr) := Option.some.inj hf
          obtain ⟨rfl, rfl⟩ := Prod.mk.inj hk
          exact x_iret O rfl rfl ⟨_, rfl, rfl⟩ dX10_rate_191
      · refine x_iload O dX10_rate_146 rfl ?_
        refine x_goto O 191 dX10_rate_148 (by decide) ?_
        have hk : (v6, σ1) = (rr, σr) := Option.some.inj hf
        obtain ⟨rfl, rfl⟩ := Prod.mk.inj hk
        exact x_iret O rfl rfl ⟨_, rfl, rfl⟩ dX10_rate_191
    · refine x_iload O dX10_rate_136 rfl ?_
      refine x_goto O 191 dX10_rate_138 (by decide) ?_
      have hk : (v5, σ1) = (rr, σr) := Option.some.inj hf
      obtain ⟨rfl, rfl⟩ := Prod.mk.inj hk
      exact x_iret O rfl rfl ⟨_, rfl, rfl⟩ dX10_rate_191
  · refine x_iload O dX10_rate_126 rfl ?_
    refine x_goto O 191 dX10_rate_128 (by decide) ?_
    have hk : (v4, σ1) = (rr, σr) := Option.some.inj hf
    obtain ⟨rfl, rfl⟩ := Prod.mk.inj hk
    exact x_iret O rfl rfl ⟨_, rfl, rfl⟩ dX10_rate_191
set_option maxHeartbeats 4000000 in
set_option maxRecDepth 100000 in
theorem v_M_rate_23 {Γ : Cx} {ad : Nat → Nat} {rr : Int32} {σr : Mm} (O : Ok LM Γ ad cX10_rate 7 RX10 wsX10_rate rm_X10_rate (some .int) (some (.int rr)) σr) {σ : Mm}   (hf : f_M_rate_23 σ = some (rr, σr)) : X LM Γ ad σ 23 [] [] := by
  unfold f_M_rate_23 at hf
  refine x_ldc O (v := -1000000) mw_X10_rate_0 dX10_rate_23 ?_
  have hk : ((-1000000), σ) = (rr, σr) := Option.some.inj hf
  obtain ⟨rfl, rfl⟩ := Prod.mk.inj hk
  exact x_iret O rfl rfl ⟨_, rfl, rfl⟩ dX10_rate_25
set_option maxHeartbeats 4000000 in
set_option maxRecDepth 100000 in
theorem v_M_rate {Γ : Cx} {ad : Nat → Nat} {rr : Int32} {σr : Mm} (O : Ok LM Γ ad cX10_rate 7 RX10 wsX10_rate rm_X10_rate (some .int) (some (.int rr)) σr) {σ : Mm} {v1 : Int32} {v2 : Int32} {v3 : Int32}  (hf : f_M_rate σ v1 v2 v3 = some (rr, σr)) : X LM Γ ad σ 0 [(0, .ref (ad 0)), (1, .int v1), (2, .int v2), (3, .int v3)] [] := by
  unfold f_M_rate at hf
  refine x_aload_n O 0 dX10_rate_0 rfl rfl ?_
  refine x_iconst O (v := 0) dX10_rate_1 (by decide) ?_
  refine x_putIN O hf rfl rfl fl_X10_rate_56 rfl dX10_rate_2 (fun σ1 hf => ?_)
  refine x_iload_n O 1 dX10_rate_5 rfl rfl ?_
  refine x_iconst O (v := 0) dX10_rate_6 (by decide) ?_
  refine x_iconst O (v := 5) dX10_rate_7 (by decide) ?_
  obtain ⟨r_1, σ2, hc, hf⟩ := bd_some hf
  refine x_callS O (k_M_in  hc) ca_X10_in gX10_rate_X10_in rfl rfl rfl (Nat.le_of_ble_eq_true rfl) ⟨Nat.le_of_ble_eq_true rfl, Nat.le_of_ble_eq_true rfl⟩ dX10_rate_8 ?_
  refine x_push O ?_
  refine x_if_eq O 23 hf dX10_rate_11 (by decide) (fun hf => ?_) (fun hf => ?_)
  · exact x_jmp O (v_M_rate_23 O (σ := σ2)   hf) rfl
  · refine x_aload_n O 0 dX10_rate_14 rfl rfl ?_
    refine x_iload_n O 2 dX10_rate_15 rfl rfl ?_
    refine x_iload_n O 3 dX10_rate_16 rfl rfl ?_
    obtain ⟨r_2, σ3, hc, hf⟩ := bd_some hf
    refine x_callV O (k_M_isGround  hc) ca_X10_isGround gX10_rate_X10_isGround rfl ⟨_, _, _, _, rfl, rfl⟩ rfl rfl rfl (Nat.le_of_ble_eq_true rfl) ⟨Nat.le_of_ble_eq_true rfl, Nat.le_of_ble_eq_true rfl⟩ dX10_rate_17 ?_
    refine x_push O ?_
    refine x_if_ne O 26 hf dX10_rate_20 (by decide) (fun hf => ?_) (fun hf => ?_)
    · refine x_aload_n O 0 dX10_rate_26 rfl rfl ?_
      refine x_getF O (t := 4) fl_X10_rate_19 rfl dX10_rate_27 ?_
      refine x_bipush O (v := 7) dX10_rate_30 (by decide) ?_
      refine x_iconst O (v := 5) dX10_rate_32 (by decide) ?_
      refine x_iload_n O 3 dX10_rate_33 rfl rfl ?_
      refine x_imul O dX10_rate_34 ?_
      refine x_iadd O dX10_rate_35 ?_
      refine x_iload_n O 2 dX10_rate_36 rfl rfl ?_
      refine x_iadd O dX10_rate_37 ?_
      refine x_iald O hf rfl dX10_rate_38 (fun j1 hf => ?_)
      refine x_istoreN O hf dX10_rate_39 (by decide) (fun y1 hf => ?_)
      refine x_iload O dX10_rate_41 rfl ?_
      refine x_iload_n O 2 dX10_rate_43 rfl rfl ?_
      refine x_iadd O dX10_rate_44 ?_
      refine x_istoreN O hf dX10_rate_45 (by decide) (fun y2 hf => ?_)
      refine x_iload O dX10_rate_47 rfl ?_
      refine x_aload_n O 0 dX10_rate_49 rfl rfl ?_
      refine x_getF O (t := 4) fl_X10_rate_19 rfl dX10_rate_50 ?_
      refine x_iconst O (v := 1) dX10_rate_53 (by decide) ?_
      refine x_iald O hf rfl dX10_rate_54 (fun j2 hf => ?_)
      refine x_isub O dX10_rate_55 ?_
      refine x_istoreN O hf dX10_rate_56 (by decide) (fun y3 hf => ?_)
      refine x_aload_n O 0 dX10_rate_58 rfl rfl ?_
      refine x_dup O dX10_rate_59 rfl ?_
      refine x_getJ O fl_X10_rate_199 rfl dX10_rate_60 ?_
      refine x_iload_n O 1 dX10_rate_63 rfl rfl ?_
      refine x_if_ne O 71 hf dX10_rate_64 (by decide) (fun hf => ?_) (fun hf => ?_)
      · refine x_iload_n O 1 dX10_rate_71 rfl rfl ?_
        refine x_iconst O (v := 1) dX10_rate_72 (by decide) ?_
        refine x_icmp_ne O 82 hf dX10_rate_73 (by decide) (fun hf => ?_) (fun hf => ?_)
        · refine x_iload_n O 1 dX10_rate_82 rfl rfl ?_
          refine x_iconst O (v := 2) dX10_rate_83 (by decide) ?_
          refine x_icmp_ne O 93 hf dX10_rate_84 (by decide) (fun hf => ?_) (fun hf => ?_)
          · refine x_iload_n O 1 dX10_rate_93 rfl rfl ?_
            refine x_iconst O (v := 3) dX10_rate_94 (by decide) ?_
            refine x_icmp_ne O 104 hf dX10_rate_95 (by decide) (fun hf => ?_) (fun hf => ?_)
            · refine x_iload_n O 1 dX10_rate_104 rfl rfl ?_
              refine x_iconst O (v := 4) dX10_rate_105 (by decide) ?_
              refine x_icmp_ne O 115 hf dX10_rate_106 (by decide) (fun hf => ?_) (fun hf => ?_)
              · refine x_ldc2 O (v := 100001) mw_X10_rate_1 dX10_rate_115 ?_
                exact x_jmp O (v_M_rate_118 O (σ := σ3) (v1 := v1) (v3 := v3) (v4 := y1) (v5 := y2) (v6 := y3) (s1 := (gJ σ3)) (s2 := (100001))  hf) rfl
              · refine x_ldc2 O (v := 10101) mw_X10_rate_2 dX10_rate_109 ?_
                refine x_goto O 118 dX10_rate_112 (by decide) ?_
                exact x_jmp O (v_M_rate_118 O (σ := σ3) (v1 := v1) (v3 := v3) (v4 := y1) (v5 := y2) (v6 := y3) (s1 := (gJ σ3)) (s2 := (10101))  hf) rfl
            · refine x_ldc2 O (v := 1011) mw_X10_rate_3 dX10_rate_98 ?_
              refine x_goto O 118 dX10_rate_101 (by decide) ?_
              exact x_jmp O (v_M_rate_118 O (σ := σ3) (v1 := v1) (v3 := v3) (v4 := y1) (v5 := y2) (v6 := y3) (s1 := (gJ σ3)) (s2 := (1011))  hf) rfl
          · refine x_ldc2 O (v := 101) mw_X10_rate_4 dX10_rate_87 ?_
            refine x_goto O 118 dX10_rate_90 (by decide) ?_
            exact x_jmp O (v_M_rate_118 O (σ := σ3) (v1 := v1) (v3 := v3) (v4 := y1) (v5 := y2) (v6 := y3) (s1 := (gJ σ3)) (s2 := (101))  hf) rfl
        · refine x_ldc2 O (v := 11) mw_X10_rate_5 dX10_rate_76 ?_
          refine x_goto O 118 dX10_rate_79 (by decide) ?_
          exact x_jmp O (v_M_rate_118 O (σ := σ3) (v1 := v1) (v3 := v3) (v4 := y1) (v5 := y2) (v6 := y3) (s1 := (gJ σ3)) (s2 := (11))  hf) rfl
      · refine x_lconst O (v := 1) dX10_rate_67 (by decide) ?_
        refine x_goto O 118 dX10_rate_68 (by decide) ?_
        exact x_jmp O (v_M_rate_118 O (σ := σ3) (v1 := v1) (v3 := v3) (v4 := y1) (v5 := y2) (v6 := y3) (s1 := (gJ σ3)) (s2 := 1)  hf) rfl
    · exact x_jmp O (v_M_rate_23 O (σ := σ3)   hf) rfl
theorem k_M_rate {σ σr : Mm} {rr : Int32} {v1 : Int32} {v2 : Int32} {v3 : Int32}  (hf : f_M_rate σ v1 v2 v3 = some (rr, σr)) : CT LM yX10_rate wsX10_rate rm_X10_rate (fun ad => [.ref (ad 0), .int v1, .int v2, .int v3]) σ (some (.int rr)) σr := CT_of2 (cc := cX10_rate) (maxL := 7) (rt := (some .int)) (own := RX10) (by decide) rfl rfl (fun _ => Nat.le_of_ble_eq_true rfl) (fun _ => rfl) (fun Γ ad O => v_M_rate O  hf)

-- ===== TippedBarrowModel.keep(I)I
theorem ca_X10_keep : Ca yX10_keep cX10_keep 3 (some .int) wsX10_keep rm_X10_keep 1 := ⟨⟨_, rfl⟩, rfl, rfl, by decide +kernel, by decide +kernel, by decide +kernel⟩
theorem in_X10_keep_X10 : ∀ w ∈ wsX100, w ∈ wsX10_keep := by decide +kernel
theorem fl_X10_keep_19 : Fl RX10 wsX10_keep 19 10 14 true (.array .int) := ⟨_, _, _, tyX10, rfl, in_X10_keep_X10, by decide, by decide +kernel, tyX10_ok, nmX10, rfl, tyX10_ok 14 (by decide)⟩
theorem fl_X10_keep_22 : Fl RX10 wsX10_keep 22 10 15 true (.array .int) := ⟨_, _, _, tyX10, rfl, in_X10_keep_X10, by decide, by decide +kernel, tyX10_ok, nmX10, rfl, tyX10_ok 15 (by decide)⟩
theorem fl_X10_keep_25 : Fl RX10 wsX10_keep 25 10 16 true (.array .boolean) := ⟨_, _, _, tyX10, rfl, in_X10_keep_X10, by decide, by decide +kernel, tyX10_ok, nmX10, rfl, tyX10_ok 16 (by decide)⟩
theorem fl_X10_keep_56 : Fl RX10 wsX10_keep 56 10 0 false .int := ⟨_, _, _, tyX10, rfl, in_X10_keep_X10, by decide, by decide +kernel, tyX10_ok, nmX10, rfl, tyX10_ok 0 (by decide)⟩
set_option maxHeartbeats 4000000 in
set_option maxRecDepth 100000 in
theorem v_M_keep_47 {Γ : Cx} {ad : Nat → Nat} {rr : Int32} {σr : Mm} (O : Ok LM Γ ad cX10_keep 3 RX10 wsX10_keep rm_X10_keep (some .int) (some (.int rr)) σr) {σ : Mm} {v1 : Int32}  (hf : f_M_keep_47 σ v1 = some (rr, σr)) : X LM Γ ad σ 47 [(0, .ref (ad 0)), (1, .int v1)] [] := by
  unfold f_M_keep_47 at hf
  refine x_aload_n O 0 dX10_keep_47 rfl rfl ?_
  refine x_getF O (t := 6) fl_X10_keep_25 rfl dX10_keep_48 ?_
  refine x_iload_n O 1 dX10_keep_51 rfl rfl ?_
  refine x_iconst O (v := 1) dX10_keep_52 (by decide) ?_
  refine x_zastN O hf (by decide) rfl dX10_keep_53 (fun σ1 hf => ?_)
  refine x_aload_n O 0 dX10_keep_54 rfl rfl ?_
  refine x_getF O (t := 4) fl_X10_keep_19 rfl dX10_keep_55 ?_
  refine x_iconst O (v := 3) dX10_keep_58 (by decide) ?_
  refine x_iald O hf rfl dX10_keep_59 (fun j2 hf => ?_)
  refine x_aload_n O 0 dX10_keep_60 rfl rfl ?_
  refine x_getF O (t := 4) fl_X10_keep_19 rfl dX10_keep_61 ?_
  refine x_iconst O (v := 4) dX10_keep_64 (by decide) ?_
  refine x_iald O hf rfl dX10_keep_65 (fun j3 hf => ?_)
  refine x_iadd O dX10_keep_66 ?_
  have hk : (((gA σ1 4 j2) + (gA σ1 4 j3)), σ1) = (rr, σr) := Option.some.inj hf
  obtain ⟨rfl, rfl⟩ := Prod.mk.inj hk
  exact x_iret O rfl rfl ⟨_, rfl, rfl⟩ dX10_keep_67
set_option maxHeartbeats 4000000 in
set_option maxRecDepth 100000 in
theorem v_M_keep_18_b {Γ : Cx} {ad : Nat → Nat} {rr : Int32} {σr : Mm} (O : Ok LM Γ ad cX10_keep 3 RX10 wsX10_keep rm_X10_keep (some .int) (some (.int rr)) σr) {σ : Mm} {v1 : Int32} {v2 : Int32}  {x : (Mm × Int32) ⊕ (Int32 × Mm)} (hf : f_M_keep_18_b v1 σ v2 = some x) (hk : (kx (fun s : Mm × Int32 => X LM Γ ad s.1 18 [(0, .ref (ad 0)), (1, .int v1), (2, .int s.2)] []) (fun q : Int32 × Mm => q = (rr, σr))) x) : X LM Γ ad σ 18 [(0, .ref (ad 0)), (1, .int v1), (2, .int v2)] [] := by
  unfold f_M_keep_18_b at hf
  refine x_iload_n O 2 dX10_keep_18 rfl rfl ?_
  refine x_bipush O (v := 27) dX10_keep_19 (by decide) ?_
  refine x_icmp_ge O 47 hf dX10_keep_21 (by decide) (fun hf => ?_) (fun hf => ?_)
  · obtain ⟨x', hg1, hx⟩ := map_inr hf
    subst hx
    have hk := kx_r hk
    have hx : x' = (rr, σr) := hk
    subst hx
    have hf := hg1
    exact x_jmp O (v_M_keep_47 O (σ := σ) (v1 := v1)  hf) rfl
  · refine x_aload_n O 0 dX10_keep_24 rfl rfl ?_
    refine x_getF O (t := 5) fl_X10_keep_22 rfl dX10_keep_25 ?_
    refine x_bipush O (v := 27) dX10_keep_28 (by decide) ?_
    refine x_iload_n O 1 dX10_keep_30 rfl rfl ?_
    refine x_imul O dX10_keep_31 ?_
    refine x_iload_n O 2 dX10_keep_32 rfl rfl ?_
    refine x_iadd O dX10_keep_33 ?_
    refine x_aload_n O 0 dX10_keep_34 rfl rfl ?_
    refine x_getF O (t := 4) fl_X10_keep_19 rfl dX10_keep_35 ?_
    refine x_iload_n O 2 dX10_keep_38 rfl rfl ?_
    refine x_iald O hf rfl dX10_keep_39 (fun j1 hf => ?_)
    refine x_iastN O hf rfl dX10_keep_40 (fun σ1 hf => ?_)
    refine x_iincN O hf dX10_keep_41 rfl rfl (by decide) (fun y1 hf => ?_)
    refine x_goto O 18 dX10_keep_44 (by decide) ?_
    obtain rfl := Option.some.inj hf
    have hk := kx_l hk
    exact x_jmp O hk rfl
set_option maxHeartbeats 4000000 in
set_option maxRecDepth 100000 in
theorem v_M_keep_18 {Γ : Cx} {ad : Nat → Nat} {rr : Int32} {σr : Mm} (O : Ok LM Γ ad cX10_keep 3 RX10 wsX10_keep rm_X10_keep (some .int) (some (.int rr)) σr) {σ : Mm} {v1 : Int32} {v2 : Int32}  (hf : f_M_keep_18 σ v1 v2 = some (rr, σr)) : X LM Γ ad σ 18 [(0, .ref (ad 0)), (1, .int v1), (2, .int v2)] [] := lpX (P := (fun s : Mm × Int32 => X LM Γ ad s.1 18 [(0, .ref (ad 0)), (1, .int v1), (2, .int s.2)] [])) (K := (fun q : Int32 × Mm => q = (rr, σr))) (fun s x g1 g2 => v_M_keep_18_b O (σ := s.1) (v1 := v1) (v2 := s.2)  g1 g2) (σ, v2) _ hf rfl
set_option maxHeartbeats 4000000 in
set_option maxRecDepth 100000 in
theorem v_M_keep {Γ : Cx} {ad : Nat → Nat} {rr : Int32} {σr : Mm} (O : Ok LM Γ ad cX10_keep 3 RX10 wsX10_keep rm_X10_keep (some .int) (some (.int rr)) σr) {σ : Mm} {v1 : Int32}  (hf : f_M_keep σ v1 = some (rr, σr)) : X LM Γ ad σ 0 [(0, .ref (ad 0)), (1, .int v1)] [] := by
  unfold f_M_keep at hf
  refine x_aload_n O 0 dX10_keep_0 rfl rfl ?_
  refine x_iconst O (v := 0) dX10_keep_1 (by decide) ?_
  refine x_putIN O hf rfl rfl fl_X10_keep_56 rfl dX10_keep_2 (fun σ1 hf => ?_)
  refine x_iload_n O 1 dX10_keep_5 rfl rfl ?_
  refine x_iconst O (v := 0) dX10_keep_6 (by decide) ?_
  refine x_iconst O (v := 1) dX10_keep_7 (by decide) ?_
  obtain ⟨r_1, σ2, hc, hf⟩ := bd_some hf
  refine x_callS O (k_M_in  hc) ca_X10_in gX10_keep_X10_in rfl rfl rfl (Nat.le_of_ble_eq_true rfl) ⟨Nat.le_of_ble_eq_true rfl, Nat.le_of_ble_eq_true rfl⟩ dX10_keep_8 ?_
  refine x_push O ?_
  refine x_if_ne O 16 hf dX10_keep_11 (by decide) (fun hf => ?_) (fun hf => ?_)
  · refine x_iconst O (v := 0) dX10_keep_16 (by decide) ?_
    refine x_istore_n O 2 dX10_keep_17 rfl (by decide) ?_
    exact x_jmp O (v_M_keep_18 O (σ := σ2) (v1 := v1) (v2 := 0)  hf) rfl
  · refine x_iconst O (v := -1) dX10_keep_14 (by decide) ?_
    have hk : ((-1), σ2) = (rr, σr) := Option.some.inj hf
    obtain ⟨rfl, rfl⟩ := Prod.mk.inj hk
    exact x_iret O rfl rfl ⟨_, rfl, rfl⟩ dX10_keep_15
theorem k_M_keep {σ σr : Mm} {rr : Int32} {v1 : Int32}  (hf : f_M_keep σ v1 = some (rr, σr)) : CT LM yX10_keep wsX10_keep rm_X10_keep (fun ad => [.ref (ad 0), .int v1]) σ (some (.int rr)) σr := CT_of2 (cc := cX10_keep) (maxL := 3) (rt := (some .int)) (own := RX10) (by decide) rfl rfl (fun _ => Nat.le_of_ble_eq_true rfl) (fun _ => rfl) (fun Γ ad O => v_M_keep O  hf)

-- ===== TippedBarrowModel.back(I)I
theorem ca_X10_back : Ca yX10_back cX10_back 3 (some .int) wsX10_back rm_X10_back 1 := ⟨⟨_, rfl⟩, rfl, rfl, by decide +kernel, by decide +kernel, by decide +kernel⟩
theorem in_X10_back_X10 : ∀ w ∈ wsX100, w ∈ wsX10_back := by decide +kernel
theorem fl_X10_back_19 : Fl RX10 wsX10_back 19 10 14 true (.array .int) := ⟨_, _, _, tyX10, rfl, in_X10_back_X10, by decide, by decide +kernel, tyX10_ok, nmX10, rfl, tyX10_ok 14 (by decide)⟩
theorem fl_X10_back_22 : Fl RX10 wsX10_back 22 10 15 true (.array .int) := ⟨_, _, _, tyX10, rfl, in_X10_back_X10, by decide, by decide +kernel, tyX10_ok, nmX10, rfl, tyX10_ok 15 (by decide)⟩
theorem fl_X10_back_25 : Fl RX10 wsX10_back 25 10 16 true (.array .boolean) := ⟨_, _, _, tyX10, rfl, in_X10_back_X10, by decide, by decide +kernel, tyX10_ok, nmX10, rfl, tyX10_ok 16 (by decide)⟩
theorem fl_X10_back_56 : Fl RX10 wsX10_back 56 10 0 false .int := ⟨_, _, _, tyX10, rfl, in_X10_back_X10, by decide, by decide +kernel, tyX10_ok, nmX10, rfl, tyX10_ok 0 (by decide)⟩
theorem fl_X10_back_137 : Fl RX10 wsX10_back 137 10 18 false .int := ⟨_, _, _, tyX10, rfl, in_X10_back_X10, by decide, by decide +kernel, tyX10_ok, nmX10, rfl, tyX10_ok 18 (by decide)⟩
set_option maxHeartbeats 4000000 in
set_option maxRecDepth 100000 in
theorem v_M_back_59 {Γ : Cx} {ad : Nat → Nat} {rr : Int32} {σr : Mm} (O : Ok LM Γ ad cX10_back 3 RX10 wsX10_back rm_X10_back (some .int) (some (.int rr)) σr) {σ : Mm}   (hf : f_M_back_59 σ = some (rr, σr)) : X LM Γ ad σ 59 [(0, .ref (ad 0))] [] := by
  unfold f_M_back_59 at hf
  refine x_aload_n O 0 dX10_back_59 rfl rfl ?_
  refine x_iconst O (v := 0) dX10_back_60 (by decide) ?_
  refine x_putIN O hf rfl rfl fl_X10_back_137 rfl dX10_back_61 (fun σ1 hf => ?_)
  refine x_aload_n O 0 dX10_back_64 rfl rfl ?_
  refine x_getF O (t := 4) fl_X10_back_19 rfl dX10_back_65 ?_
  refine x_iconst O (v := 3) dX10_back_68 (by decide) ?_
  refine x_iald O hf rfl dX10_back_69 (fun j1 hf => ?_)
  refine x_aload_n O 0 dX10_back_70 rfl rfl ?_
  refine x_getF O (t := 4) fl_X10_back_19 rfl dX10_back_71 ?_
  refine x_iconst O (v := 4) dX10_back_74 (by decide) ?_
  refine x_iald O hf rfl dX10_back_75 (fun j2 hf => ?_)
  refine x_iadd O dX10_back_76 ?_
  have hk : (((gA σ1 4 j1) + (gA σ1 4 j2)), σ1) = (rr, σr) := Option.some.inj hf
  obtain ⟨rfl, rfl⟩ := Prod.mk.inj hk
  exact x_iret O rfl rfl ⟨_, rfl, rfl⟩ dX10_back_77
set_option maxHeartbeats 4000000 in
set_option maxRecDepth 100000 in
theorem v_M_back_30_b {Γ : Cx} {ad : Nat → Nat} {rr : Int32} {σr : Mm} (O : Ok LM Γ ad cX10_back 3 RX10 wsX10_back rm_X10_back (some .int) (some (.int rr)) σr) {σ : Mm} {v1 : Int32} {v2 : Int32}  {x : (Mm × Int32) ⊕ (Int32 × Mm)} (hf : f_M_back_30_b v1 σ v2 = some x) (hk : (kx (fun s : Mm × Int32 => X LM Γ ad s.1 30 [(0, .ref (ad 0)), (1, .int v1), (2, .int s.2)] []) (fun q : Int32 × Mm => q = (rr, σr))) x) : X LM Γ ad σ 30 [(0, .ref (ad 0)), (1, .int v1), (2, .int v2)] [] := by
  unfold f_M_back_30_b at hf
  refine x_iload_n O 2 dX10_back_30 rfl rfl ?_
  refine x_bipush O (v := 27) dX10_back_31 (by decide) ?_
  refine x_icmp_ge O 59 hf dX10_back_33 (by decide) (fun hf => ?_) (fun hf => ?_)
  · obtain ⟨x', hg1, hx⟩ := map_inr hf
    subst hx
    have hk := kx_r hk
    have hx : x' = (rr, σr) := hk
    subst hx
    have hf := hg1
    exact x_jmp O (v_M_back_59 O (σ := σ)   hf) rfl
  · refine x_aload_n O 0 dX10_back_36 rfl rfl ?_
    refine x_getF O (t := 4) fl_X10_back_19 rfl dX10_back_37 ?_
    refine x_iload_n O 2 dX10_back_40 rfl rfl ?_
    refine x_aload_n O 0 dX10_back_41 rfl rfl ?_
    refine x_getF O (t := 5) fl_X10_back_22 rfl dX10_back_42 ?_
    refine x_bipush O (v := 27) dX10_back_45 (by decide) ?_
    refine x_iload_n O 1 dX10_back_47 rfl rfl ?_
    refine x_imul O dX10_back_48 ?_
    refine x_iload_n O 2 dX10_back_49 rfl rfl ?_
    refine x_iadd O dX10_back_50 ?_
    refine x_iald O hf rfl dX10_back_51 (fun j1 hf => ?_)
    refine x_iastN O hf rfl dX10_back_52 (fun σ1 hf => ?_)
    refine x_iincN O hf dX10_back_53 rfl rfl (by decide) (fun y1 hf => ?_)
    refine x_goto O 30 dX10_back_56 (by decide) ?_
    obtain rfl := Option.some.inj hf
    have hk := kx_l hk
    exact x_jmp O hk rfl
set_option maxHeartbeats 4000000 in
set_option maxRecDepth 100000 in
theorem v_M_back_30 {Γ : Cx} {ad : Nat → Nat} {rr : Int32} {σr : Mm} (O : Ok LM Γ ad cX10_back 3 RX10 wsX10_back rm_X10_back (some .int) (some (.int rr)) σr) {σ : Mm} {v1 : Int32} {v2 : Int32}  (hf : f_M_back_30 σ v1 v2 = some (rr, σr)) : X LM Γ ad σ 30 [(0, .ref (ad 0)), (1, .int v1), (2, .int v2)] [] := lpX (P := (fun s : Mm × Int32 => X LM Γ ad s.1 30 [(0, .ref (ad 0)), (1, .int v1), (2, .int s.2)] [])) (K := (fun q : Int32 × Mm => q = (rr, σr))) (fun s x g1 g2 => v_M_back_30_b O (σ := s.1) (v1 := v1) (v2 := s.2)  g1 g2) (σ, v2) _ hf rfl
set_option maxHeartbeats 4000000 in
set_option maxRecDepth 100000 in
theorem v_M_back {Γ : Cx} {ad : Nat → Nat} {rr : Int32} {σr : Mm} (O : Ok LM Γ ad cX10_back 3 RX10 wsX10_back rm_X10_back (some .int) (some (.int rr)) σr) {σ : Mm} {v1 : Int32}  (hf : f_M_back σ v1 = some (rr, σr)) : X LM Γ ad σ 0 [(0, .ref (ad 0)), (1, .int v1)] [] := by
  unfold f_M_back at hf
  refine x_aload_n O 0 dX10_back_0 rfl rfl ?_
  refine x_iconst O (v := 0) dX10_back_1 (by decide) ?_
  refine x_putIN O hf rfl rfl fl_X10_back_56 rfl dX10_back_2 (fun σ1 hf => ?_)
  refine x_iload_n O 1 dX10_back_5 rfl rfl ?_
  refine x_iconst O (v := 0) dX10_back_6 (by decide) ?_
  refine x_iconst O (v := 1) dX10_back_7 (by decide) ?_
  obtain ⟨r_1, σ2, hc, hf⟩ := bd_some hf
  refine x_callS O (k_M_in  hc) ca_X10_in gX10_back_X10_in rfl rfl rfl (Nat.le_of_ble_eq_true rfl) ⟨Nat.le_of_ble_eq_true rfl, Nat.le_of_ble_eq_true rfl⟩ dX10_back_8 ?_
  refine x_push O ?_
  refine x_if_ne O 16 hf dX10_back_11 (by decide) (fun hf => ?_) (fun hf => ?_)
  · refine x_aload_n O 0 dX10_back_16 rfl rfl ?_
    refine x_getF O (t := 6) fl_X10_back_25 rfl dX10_back_17 ?_
    refine x_iload_n O 1 dX10_back_20 rfl rfl ?_
    refine x_zald O hf rfl dX10_back_21 (fun j1 hf => ?_)
    refine x_if_ne O 28 hf dX10_back_22 (by decide) (fun hf => ?_) (fun hf => ?_)
    · refine x_iconst O (v := 0) dX10_back_28 (by decide) ?_
      refine x_istore_n O 2 dX10_back_29 rfl (by decide) ?_
      exact x_jmp O (v_M_back_30 O (σ := σ2) (v1 := v1) (v2 := 0)  hf) rfl
    · refine x_bipush O (v := -2) dX10_back_25 (by decide) ?_
      have hk : ((-2), σ2) = (rr, σr) := Option.some.inj hf
      obtain ⟨rfl, rfl⟩ := Prod.mk.inj hk
      exact x_iret O rfl rfl ⟨_, rfl, rfl⟩ dX10_back_27
  · refine x_iconst O (v := -1) dX10_back_14 (by decide) ?_
    have hk : ((-1), σ2) = (rr, σr) := Option.some.inj hf
    obtain ⟨rfl, rfl⟩ := Prod.mk.inj hk
    exact x_iret O rfl rfl ⟨_, rfl, rfl⟩ dX10_back_15
theorem k_M_back {σ σr : Mm} {rr : Int32} {v1 : Int32}  (hf : f_M_back σ v1 = some (rr, σr)) : CT LM yX10_back wsX10_back rm_X10_back (fun ad => [.ref (ad 0), .int v1]) σ (some (.int rr)) σr := CT_of2 (cc := cX10_back) (maxL := 3) (rt := (some .int)) (own := RX10) (by decide) rfl rfl (fun _ => Nat.le_of_ble_eq_true rfl) (fun _ => rfl) (fun Γ ad O => v_M_back O  hf)

-- ===== TippedBarrowModel.count(I)I
theorem ca_X10_count : Ca yX10_count cX10_count 2 (some .int) wsX10_count rm_X10_count 1 := ⟨⟨_, rfl⟩, rfl, rfl, by decide +kernel, by decide +kernel, by decide +kernel⟩
theorem in_X10_count_X10 : ∀ w ∈ wsX100, w ∈ wsX10_count := by decide +kernel
theorem fl_X10_count_13 : Fl RX10 wsX10_count 13 10 9 true (.array .int) := ⟨_, _, _, tyX10, rfl, in_X10_count_X10, by decide, by decide +kernel, tyX10_ok, nmX10, rfl, tyX10_ok 9 (by decide)⟩
theorem fl_X10_count_56 : Fl RX10 wsX10_count 56 10 0 false .int := ⟨_, _, _, tyX10, rfl, in_X10_count_X10, by decide, by decide +kernel, tyX10_ok, nmX10, rfl, tyX10_ok 0 (by decide)⟩
theorem fl_X10_count_64 : Fl RX10 wsX10_count 64 10 3 false .int := ⟨_, _, _, tyX10, rfl, in_X10_count_X10, by decide, by decide +kernel, tyX10_ok, nmX10, rfl, tyX10_ok 3 (by decide)⟩
theorem fl_X10_count_134 : Fl RX10 wsX10_count 134 10 20 false .int := ⟨_, _, _, tyX10, rfl, in_X10_count_X10, by decide, by decide +kernel, tyX10_ok, nmX10, rfl, tyX10_ok 20 (by decide)⟩
set_option maxHeartbeats 4000000 in
set_option maxRecDepth 100000 in
theorem v_M_count {Γ : Cx} {ad : Nat → Nat} {rr : Int32} {σr : Mm} (O : Ok LM Γ ad cX10_count 2 RX10 wsX10_count rm_X10_count (some .int) (some (.int rr)) σr) {σ : Mm} {v1 : Int32}  (hf : f_M_count σ v1 = some (rr, σr)) : X LM Γ ad σ 0 [(0, .ref (ad 0)), (1, .int v1)] [] := by
  unfold f_M_count at hf
  refine x_aload_n O 0 dX10_count_0 rfl rfl ?_
  refine x_iconst O (v := 0) dX10_count_1 (by decide) ?_
  refine x_putIN O hf rfl rfl fl_X10_count_56 rfl dX10_count_2 (fun σ1 hf => ?_)
  refine x_iload_n O 1 dX10_count_5 rfl rfl ?_
  refine x_iconst O (v := 0) dX10_count_6 (by decide) ?_
  refine x_iconst O (v := 3) dX10_count_7 (by decide) ?_
  obtain ⟨r_1, σ2, hc, hf⟩ := bd_some hf
  refine x_callS O (k_M_in  hc) ca_X10_in gX10_count_X10_in rfl rfl rfl (Nat.le_of_ble_eq_true rfl) ⟨Nat.le_of_ble_eq_true rfl, Nat.le_of_ble_eq_true rfl⟩ dX10_count_8 ?_
  refine x_push O ?_
  refine x_if_eq O 23 hf dX10_count_11 (by decide) (fun hf => ?_) (fun hf => ?_)
  · refine x_iload_n O 1 dX10_count_23 rfl rfl ?_
    refine x_iconst O (v := 4) dX10_count_24 (by decide) ?_
    refine x_icmp_ne O 39 hf dX10_count_25 (by decide) (fun hf => ?_) (fun hf => ?_)
    · refine x_iload_n O 1 dX10_count_39 rfl rfl ?_
      refine x_iconst O (v := 5) dX10_count_40 (by decide) ?_
      refine x_icmp_ne O 51 hf dX10_count_41 (by decide) (fun hf => ?_) (fun hf => ?_)
      · refine x_iload_n O 1 dX10_count_51 rfl rfl ?_
        refine x_bipush O (v := 6) dX10_count_52 (by decide) ?_
        refine x_icmp_ne O 64 hf dX10_count_54 (by decide) (fun hf => ?_) (fun hf => ?_)
        · refine x_iconst O (v := -1) dX10_count_64 (by decide) ?_
          have hk : ((-1), σ2) = (rr, σr) := Option.some.inj hf
          obtain ⟨rfl, rfl⟩ := Prod.mk.inj hk
          exact x_iret O rfl rfl ⟨_, rfl, rfl⟩ dX10_count_65
        · refine x_aload_n O 0 dX10_count_57 rfl rfl ?_
          refine x_getI O fl_X10_count_64 rfl dX10_count_58 ?_
          refine x_goto O 65 dX10_count_61 (by decide) ?_
          have hk : ((gI σ2 0 3), σ2) = (rr, σr) := Option.some.inj hf
          obtain ⟨rfl, rfl⟩ := Prod.mk.inj hk
          exact x_iret O rfl rfl ⟨_, rfl, rfl⟩ dX10_count_65
      · refine x_aload_n O 0 dX10_count_44 rfl rfl ?_
        refine x_getI O fl_X10_count_134 rfl dX10_count_45 ?_
        refine x_goto O 65 dX10_count_48 (by decide) ?_
        have hk : ((gI σ2 0 20), σ2) = (rr, σr) := Option.some.inj hf
        obtain ⟨rfl, rfl⟩ := Prod.mk.inj hk
        exact x_iret O rfl rfl ⟨_, rfl, rfl⟩ dX10_count_65
    · refine x_aload_n O 0 dX10_count_28 rfl rfl ?_
      refine x_getF O (t := 2) fl_X10_count_13 rfl dX10_count_29 ?_
      refine x_iconst O (v := 4) dX10_count_32 (by decide) ?_
      refine x_iald O hf rfl dX10_count_33 (fun j1 hf => ?_)
      refine x_iconst O (v := 2) dX10_count_34 (by decide) ?_
      refine x_iadd O dX10_count_35 ?_
      refine x_goto O 65 dX10_count_36 (by decide) ?_
      have hk : (((gA σ2 2 j1) + 2), σ2) = (rr, σr) := Option.some.inj hf
      obtain ⟨rfl, rfl⟩ := Prod.mk.inj hk
      exact x_iret O rfl rfl ⟨_, rfl, rfl⟩ dX10_count_65
  · refine x_aload_n O 0 dX10_count_14 rfl rfl ?_
    refine x_getF O (t := 2) fl_X10_count_13 rfl dX10_count_15 ?_
    refine x_iload_n O 1 dX10_count_18 rfl rfl ?_
    refine x_iald O hf rfl dX10_count_19 (fun j2 hf => ?_)
    refine x_goto O 65 dX10_count_20 (by decide) ?_
    have hk : ((gA σ2 2 j2), σ2) = (rr, σr) := Option.some.inj hf
    obtain ⟨rfl, rfl⟩ := Prod.mk.inj hk
    exact x_iret O rfl rfl ⟨_, rfl, rfl⟩ dX10_count_65
theorem k_M_count {σ σr : Mm} {rr : Int32} {v1 : Int32}  (hf : f_M_count σ v1 = some (rr, σr)) : CT LM yX10_count wsX10_count rm_X10_count (fun ad => [.ref (ad 0), .int v1]) σ (some (.int rr)) σr := CT_of2 (cc := cX10_count) (maxL := 2) (rt := (some .int)) (own := RX10) (by decide) rfl rfl (fun _ => Nat.le_of_ble_eq_true rfl) (fun _ => rfl) (fun Γ ad O => v_M_count O  hf)

-- ===== TippedBarrowModel.trace()J
theorem ca_X10_trace : Ca yX10_trace cX10_trace 1 (some .long) wsX10_trace rm_X10_trace 0 := ⟨⟨_, rfl⟩, rfl, rfl, by decide +kernel, by decide +kernel, by decide +kernel⟩
theorem in_X10_trace_X10 : ∀ w ∈ wsX100, w ∈ wsX10_trace := by decide +kernel
theorem fl_X10_trace_56 : Fl RX10 wsX10_trace 56 10 0 false .int := ⟨_, _, _, tyX10, rfl, in_X10_trace_X10, by decide, by decide +kernel, tyX10_ok, nmX10, rfl, tyX10_ok 0 (by decide)⟩
theorem fl_X10_trace_199 : Fl RX10 wsX10_trace 199 10 1 false .long := ⟨_, _, _, tyX10, rfl, in_X10_trace_X10, by decide, by decide +kernel, tyX10_ok, nmX10, rfl, tyX10_ok 1 (by decide)⟩
set_option maxHeartbeats 4000000 in
set_option maxRecDepth 100000 in
theorem v_M_trace {Γ : Cx} {ad : Nat → Nat} {rr : Int64} {σr : Mm} (O : Ok LM Γ ad cX10_trace 1 RX10 wsX10_trace rm_X10_trace (some .long) (some (.long rr)) σr) {σ : Mm}   (hf : f_M_trace σ = some (rr, σr)) : X LM Γ ad σ 0 [(0, .ref (ad 0))] [] := by
  unfold f_M_trace at hf
  refine x_aload_n O 0 dX10_trace_0 rfl rfl ?_
  refine x_iconst O (v := 0) dX10_trace_1 (by decide) ?_
  refine x_putIN O hf rfl rfl fl_X10_trace_56 rfl dX10_trace_2 (fun σ1 hf => ?_)
  refine x_aload_n O 0 dX10_trace_5 rfl rfl ?_
  refine x_getJ O fl_X10_trace_199 rfl dX10_trace_6 ?_
  have hk : ((gJ σ1), σ1) = (rr, σr) := Option.some.inj hf
  obtain ⟨rfl, rfl⟩ := Prod.mk.inj hk
  exact x_lret O rfl rfl rfl dX10_trace_9
theorem k_M_trace {σ σr : Mm} {rr : Int64}   (hf : f_M_trace σ = some (rr, σr)) : CT LM yX10_trace wsX10_trace rm_X10_trace (fun ad => [.ref (ad 0)]) σ (some (.long rr)) σr := CT_of2 (cc := cX10_trace) (maxL := 1) (rt := (some .long)) (own := RX10) (by decide) rfl rfl (fun _ => Nat.le_of_ble_eq_true rfl) (fun _ => rfl) (fun Γ ad O => v_M_trace O  hf)

-- ===== TippedBarrow$Text.add(I)Z
theorem ca_X7_add : Ca yX7_add cX7_add 2 (some .boolean) wsX7_add rm_X7_add 1 := ⟨⟨_, rfl⟩, rfl, rfl, by decide +kernel, by decide +kernel, by decide +kernel⟩
theorem in_X7_add_X7 : ∀ w ∈ wsX70, w ∈ wsX7_add := by decide +kernel
theorem fl_X7_add_9 : Fl RX7 wsX7_add 9 7 0 true (.array .int) := ⟨_, _, _, tyX7, rfl, in_X7_add_X7, by decide, by decide +kernel, tyX7_ok, nmX7, rfl, tyX7_ok 0 (by decide)⟩
theorem fl_X7_add_15 : Fl RX7 wsX7_add 15 7 1 false .int := ⟨_, _, _, tyX7, rfl, in_X7_add_X7, by decide, by decide +kernel, tyX7_ok, nmX7, rfl, tyX7_ok 1 (by decide)⟩
set_option maxHeartbeats 4000000 in
set_option maxRecDepth 100000 in
theorem v_Te_add {Γ : Cx} {ad : Nat → Nat} {rr : Int32} {σr : Mm} (O : Ok LT Γ ad cX7_add 2 RX7 wsX7_add rm_X7_add (some .boolean) (some (.int rr)) σr) {σ : Mm} {v1 : Int32}  (hf : f_Te_add σ v1 = some (rr, σr)) : X LT Γ ad σ 0 [(0, .ref (ad 1)), (1, .int v1)] [] := by
  unfold f_Te_add at hf
  refine x_aload_n O 0 dX7_add_0 rfl rfl ?_
  refine x_getI O fl_X7_add_15 rfl dX7_add_1 ?_
  refine x_if_lt O 16 hf dX7_add_4 (by decide) (fun hf => ?_) (fun hf => ?_)
  · refine x_iconst O (v := 0) dX7_add_16 (by decide) ?_
    have hk : (0, σ) = (rr, σr) := Option.some.inj hf
    obtain ⟨rfl, rfl⟩ := Prod.mk.inj hk
    exact x_iret O rfl rfl ⟨_, rfl, rfl⟩ dX7_add_17
  · refine x_aload_n O 0 dX7_add_7 rfl rfl ?_
    refine x_getI O fl_X7_add_15 rfl dX7_add_8 ?_
    refine x_bipush O (v := 120) dX7_add_11 (by decide) ?_
    refine x_icmp_lt O 18 hf dX7_add_13 (by decide) (fun hf => ?_) (fun hf => ?_)
    · refine x_aload_n O 0 dX7_add_18 rfl rfl ?_
      refine x_getF O (t := 2) fl_X7_add_9 rfl dX7_add_19 ?_
      refine x_aload_n O 0 dX7_add_22 rfl rfl ?_
      refine x_getI O fl_X7_add_15 rfl dX7_add_23 ?_
      refine x_iload_n O 1 dX7_add_26 rfl rfl ?_
      refine x_iastN O hf rfl dX7_add_27 (fun σ1 hf => ?_)
      refine x_aload_n O 0 dX7_add_28 rfl rfl ?_
      refine x_dup O dX7_add_29 rfl ?_
      refine x_getI O fl_X7_add_15 rfl dX7_add_30 ?_
      refine x_iconst O (v := 1) dX7_add_33 (by decide) ?_
      refine x_iadd O dX7_add_34 ?_
      refine x_putIN O hf rfl rfl fl_X7_add_15 rfl dX7_add_35 (fun σ2 hf => ?_)
      refine x_iconst O (v := 1) dX7_add_38 (by decide) ?_
      have hk : (1, σ2) = (rr, σr) := Option.some.inj hf
      obtain ⟨rfl, rfl⟩ := Prod.mk.inj hk
      exact x_iret O rfl rfl ⟨_, rfl, rfl⟩ dX7_add_39
    · refine x_iconst O (v := 0) dX7_add_16 (by decide) ?_
      have hk : (0, σ) = (rr, σr) := Option.some.inj hf
      obtain ⟨rfl, rfl⟩ := Prod.mk.inj hk
      exact x_iret O rfl rfl ⟨_, rfl, rfl⟩ dX7_add_17
theorem k_Te_add {σ σr : Mm} {rr : Int32} {v1 : Int32}  (hf : f_Te_add σ v1 = some (rr, σr)) : CT LT yX7_add wsX7_add rm_X7_add (fun ad => [.ref (ad 1), .int v1]) σ (some (.int rr)) σr := CT_of2 (cc := cX7_add) (maxL := 2) (rt := (some .boolean)) (own := RX7) (by decide) rfl rfl (fun _ => Nat.le_of_ble_eq_true rfl) (fun _ => rfl) (fun Γ ad O => v_Te_add O  hf)

-- ===== TippedBarrow.type(I)I
theorem ca_X9_type : Ca yX9_type cX9_type 2 (some .int) wsX9_type rm_X9_type 1 := ⟨⟨_, rfl⟩, rfl, rfl, by decide +kernel, by decide +kernel, by decide +kernel⟩
theorem in_X9_type_X7 : ∀ w ∈ wsX70, w ∈ wsX9_type := by decide +kernel
theorem in_X9_type_X9 : ∀ w ∈ wsX90, w ∈ wsX9_type := by decide +kernel
theorem fl_X9_type_12 : Fl RX9 wsX9_type 12 9 0 true (.object "TippedBarrow$Text") := ⟨_, _, _, tyX9, rfl, in_X9_type_X9, by decide, by decide +kernel, tyX9_ok, nmX9, rfl, tyX9_ok 0 (by decide)⟩
theorem fl_X9_type_101 : Fl RX9 wsX9_type 101 7 1 false .int := ⟨_, _, _, tyX7, rfl, in_X9_type_X7, by decide, by decide +kernel, tyX7_ok, nmX7, rfl, tyX7_ok 1 (by decide)⟩
set_option maxHeartbeats 4000000 in
set_option maxRecDepth 100000 in
theorem v_T_type {Γ : Cx} {ad : Nat → Nat} {rr : Int32} {σr : Mm} (O : Ok LT Γ ad cX9_type 2 RX9 wsX9_type rm_X9_type (some .int) (some (.int rr)) σr) {σ : Mm} {v1 : Int32}  (hf : f_T_type σ v1 = some (rr, σr)) : X LT Γ ad σ 0 [(0, .ref (ad 0)), (1, .int v1)] [] := by
  unfold f_T_type at hf
  refine x_iload_n O 1 dX9_type_0 rfl rfl ?_
  refine x_if_lt O 11 hf dX9_type_1 (by decide) (fun hf => ?_) (fun hf => ?_)
  · refine x_iconst O (v := -1) dX9_type_11 (by decide) ?_
    have hk : ((-1), σ) = (rr, σr) := Option.some.inj hf
    obtain ⟨rfl, rfl⟩ := Prod.mk.inj hk
    exact x_iret O rfl rfl ⟨_, rfl, rfl⟩ dX9_type_12
  · refine x_iload_n O 1 dX9_type_4 rfl rfl ?_
    refine x_sipush O (v := 255) dX9_type_5 (by decide) ?_
    refine x_icmp_le O 13 hf dX9_type_8 (by decide) (fun hf => ?_) (fun hf => ?_)
    · refine x_aload_n O 0 dX9_type_13 rfl rfl ?_
      refine x_getF O (t := 1) fl_X9_type_12 rfl dX9_type_14 ?_
      refine x_iload_n O 1 dX9_type_17 rfl rfl ?_
      obtain ⟨r_1, σ1, hc, hf⟩ := bd_some hf
      refine x_callV O (k_Te_add  hc) ca_X7_add gX9_type_X7_add rfl ⟨_, _, _, _, rfl, rfl⟩ rfl rfl rfl (Nat.le_of_ble_eq_true rfl) ⟨Nat.le_of_ble_eq_true rfl, Nat.le_of_ble_eq_true rfl⟩ dX9_type_18 ?_
      refine x_push O ?_
      refine x_if_eq O 34 hf dX9_type_21 (by decide) (fun hf => ?_) (fun hf => ?_)
      · refine x_bipush O (v := -3) dX9_type_34 (by decide) ?_
        have hk : ((-3), σ1) = (rr, σr) := Option.some.inj hf
        obtain ⟨rfl, rfl⟩ := Prod.mk.inj hk
        exact x_iret O rfl rfl ⟨_, rfl, rfl⟩ dX9_type_36
      · refine x_aload_n O 0 dX9_type_24 rfl rfl ?_
        refine x_getF O (t := 1) fl_X9_type_12 rfl dX9_type_25 ?_
        refine x_getI O fl_X9_type_101 rfl dX9_type_28 ?_
        refine x_goto O 36 dX9_type_31 (by decide) ?_
        have hk : ((gI σ1 1 1), σ1) = (rr, σr) := Option.some.inj hf
        obtain ⟨rfl, rfl⟩ := Prod.mk.inj hk
        exact x_iret O rfl rfl ⟨_, rfl, rfl⟩ dX9_type_36
    · refine x_iconst O (v := -1) dX9_type_11 (by decide) ?_
      have hk : ((-1), σ) = (rr, σr) := Option.some.inj hf
      obtain ⟨rfl, rfl⟩ := Prod.mk.inj hk
      exact x_iret O rfl rfl ⟨_, rfl, rfl⟩ dX9_type_12
theorem k_T_type {σ σr : Mm} {rr : Int32} {v1 : Int32}  (hf : f_T_type σ v1 = some (rr, σr)) : CT LT yX9_type wsX9_type rm_X9_type (fun ad => [.ref (ad 0), .int v1]) σ (some (.int rr)) σr := CT_of2 (cc := cX9_type) (maxL := 2) (rt := (some .int)) (own := RX9) (by decide) rfl rfl (fun _ => Nat.le_of_ble_eq_true rfl) (fun _ => rfl) (fun Γ ad O => v_T_type O  hf)

-- ===== TippedBarrow.clear()I
theorem ca_X9_clear : Ca yX9_clear cX9_clear 2 (some .int) wsX9_clear rm_X9_clear 0 := ⟨⟨_, rfl⟩, rfl, rfl, by decide +kernel, by decide +kernel, by decide +kernel⟩
theorem in_X9_clear_X7 : ∀ w ∈ wsX70, w ∈ wsX9_clear := by decide +kernel
theorem in_X9_clear_X9 : ∀ w ∈ wsX90, w ∈ wsX9_clear := by decide +kernel
theorem fl_X9_clear_12 : Fl RX9 wsX9_clear 12 9 0 true (.object "TippedBarrow$Text") := ⟨_, _, _, tyX9, rfl, in_X9_clear_X9, by decide, by decide +kernel, tyX9_ok, nmX9, rfl, tyX9_ok 0 (by decide)⟩
theorem fl_X9_clear_101 : Fl RX9 wsX9_clear 101 7 1 false .int := ⟨_, _, _, tyX7, rfl, in_X9_clear_X7, by decide, by decide +kernel, tyX7_ok, nmX7, rfl, tyX7_ok 1 (by decide)⟩
set_option maxHeartbeats 4000000 in
set_option maxRecDepth 100000 in
theorem v_T_clear {Γ : Cx} {ad : Nat → Nat} {rr : Int32} {σr : Mm} (O : Ok LT Γ ad cX9_clear 2 RX9 wsX9_clear rm_X9_clear (some .int) (some (.int rr)) σr) {σ : Mm}   (hf : f_T_clear σ = some (rr, σr)) : X LT Γ ad σ 0 [(0, .ref (ad 0))] [] := by
  unfold f_T_clear at hf
  refine x_aload_n O 0 dX9_clear_0 rfl rfl ?_
  refine x_getF O (t := 1) fl_X9_clear_12 rfl dX9_clear_1 ?_
  refine x_getI O fl_X9_clear_101 rfl dX9_clear_4 ?_
  refine x_istore_nN O 1 hf dX9_clear_7 rfl (by decide) (fun y1 hf => ?_)
  refine x_aload_n O 0 dX9_clear_8 rfl rfl ?_
  refine x_getF O (t := 1) fl_X9_clear_12 rfl dX9_clear_9 ?_
  refine x_iconst O (v := 0) dX9_clear_12 (by decide) ?_
  refine x_putIN O hf rfl rfl fl_X9_clear_101 rfl dX9_clear_13 (fun σ1 hf => ?_)
  refine x_iload_n O 1 dX9_clear_16 rfl rfl ?_
  have hk : (y1, σ1) = (rr, σr) := Option.some.inj hf
  obtain ⟨rfl, rfl⟩ := Prod.mk.inj hk
  exact x_iret O rfl rfl ⟨_, rfl, rfl⟩ dX9_clear_17
theorem k_T_clear {σ σr : Mm} {rr : Int32}   (hf : f_T_clear σ = some (rr, σr)) : CT LT yX9_clear wsX9_clear rm_X9_clear (fun ad => [.ref (ad 0)]) σ (some (.int rr)) σr := CT_of2 (cc := cX9_clear) (maxL := 2) (rt := (some .int)) (own := RX9) (by decide) rfl rfl (fun _ => Nat.le_of_ble_eq_true rfl) (fun _ => rfl) (fun Γ ad O => v_T_clear O  hf)

-- ===== java/util/Arrays.fill([II)V
theorem ca_J7_fill_53178 : Ca yJ7_fill_53178 cJ7_fill_53178 4 none wsJ7_fill_53178 rm_J7_fill_53178 2 := ⟨⟨_, rfl⟩, rfl, rfl, by decide +kernel, by decide +kernel, by decide +kernel⟩
set_option maxHeartbeats 4000000 in
set_option maxRecDepth 100000 in
theorem v_Ar_fill_5_b {Γ : Cx} {ad : Nat → Nat} {rr : Int32} {σr : Mm} (O : Ok LT Γ ad cJ7_fill_53178 4 RJ7 wsJ7_fill_53178 rm_J7_fill_53178 none none σr) {σ : Mm} {r0 : Nat} {n : Nat} {v1 : Int32} {v2 : Int32} {v3 : Int32} (h0 : LT[r0]? = some (.inr (.inl (0, n)))) {x : (Mm × Int32) ⊕ (Int32 × Mm)} (hf : f_Ar_fill_5_b r0 n v1 v3 σ v2 = some x) (hk : (kx (fun s : Mm × Int32 => X LT Γ ad s.1 5 [(0, .ref (ad r0)), (1, .int v1), (2, .int s.2), (3, .int v3)] []) (fun q : Int32 × Mm => q = (rr, σr))) x) : X LT Γ ad σ 5 [(0, .ref (ad r0)), (1, .int v1), (2, .int v2), (3, .int v3)] [] := by
  unfold f_Ar_fill_5_b at hf
  refine x_iload_n O 2 dJ7_fill_53178_5 rfl rfl ?_
  refine x_iload_n O 3 dJ7_fill_53178_6 rfl rfl ?_
  refine x_icmp_ge O 20 hf dJ7_fill_53178_7 (by decide) (fun hf => ?_) (fun hf => ?_)
  · obtain ⟨x', hg1, hx⟩ := map_inr hf
    subst hx
    have hk := kx_r hk
    have hx : x' = (rr, σr) := hk
    subst hx
    have hf := hg1
    have hk : ((0 : Int32), σ) = (rr, σr) := Option.some.inj hf
    obtain ⟨rfl, rfl⟩ := Prod.mk.inj hk
    exact x_vret O rfl rfl rfl dJ7_fill_53178_20
  · refine x_aload_n O 0 dJ7_fill_53178_10 rfl rfl ?_
    refine x_iload_n O 2 dJ7_fill_53178_11 rfl rfl ?_
    refine x_iload_n O 1 dJ7_fill_53178_12 rfl rfl ?_
    refine x_iastN O hf h0 dJ7_fill_53178_13 (fun σ1 hf => ?_)
    refine x_iincN O hf dJ7_fill_53178_14 rfl rfl (by decide) (fun y1 hf => ?_)
    refine x_goto O 5 dJ7_fill_53178_17 (by decide) ?_
    obtain rfl := Option.some.inj hf
    have hk := kx_l hk
    exact x_jmp O hk rfl
set_option maxHeartbeats 4000000 in
set_option maxRecDepth 100000 in
theorem v_Ar_fill_5 {Γ : Cx} {ad : Nat → Nat} {rr : Int32} {σr : Mm} (O : Ok LT Γ ad cJ7_fill_53178 4 RJ7 wsJ7_fill_53178 rm_J7_fill_53178 none none σr) {σ : Mm} {r0 : Nat} {n : Nat} {v1 : Int32} {v2 : Int32} {v3 : Int32} (h0 : LT[r0]? = some (.inr (.inl (0, n)))) (hf : f_Ar_fill_5 σ r0 n v1 v3 v2 = some (rr, σr)) : X LT Γ ad σ 5 [(0, .ref (ad r0)), (1, .int v1), (2, .int v2), (3, .int v3)] [] := lpX (P := (fun s : Mm × Int32 => X LT Γ ad s.1 5 [(0, .ref (ad r0)), (1, .int v1), (2, .int s.2), (3, .int v3)] [])) (K := (fun q : Int32 × Mm => q = (rr, σr))) (fun s x g1 g2 => v_Ar_fill_5_b O (σ := s.1) (r0 := r0) (n := n) (v1 := v1) (v3 := v3) (v2 := s.2) h0 g1 g2) (σ, v2) _ hf rfl
set_option maxHeartbeats 4000000 in
set_option maxRecDepth 100000 in
theorem v_Ar_fill {Γ : Cx} {ad : Nat → Nat} {rr : Int32} {σr : Mm} (O : Ok LT Γ ad cJ7_fill_53178 4 RJ7 wsJ7_fill_53178 rm_J7_fill_53178 none none σr) {σ : Mm} {r0 : Nat} {n : Nat} {v1 : Int32} (h0 : LT[r0]? = some (.inr (.inl (0, n)))) (hf : f_Ar_fill σ r0 n v1 = some (rr, σr)) : X LT Γ ad σ 0 [(0, .ref (ad r0)), (1, .int v1)] [] := by
  unfold f_Ar_fill at hf
  refine x_iconst O (v := 0) dJ7_fill_53178_0 (by decide) ?_
  refine x_istore_n O 2 dJ7_fill_53178_1 rfl (by decide) ?_
  refine x_aload_n O 0 dJ7_fill_53178_2 rfl rfl ?_
  refine x_alen O h0 rfl rfl dJ7_fill_53178_3 ?_
  refine x_istore_nN O 3 hf dJ7_fill_53178_4 rfl (by decide) (fun y1 hf => ?_)
  exact x_jmp O (v_Ar_fill_5 O (σ := σ) (r0 := r0) (n := n) (v1 := v1) (v2 := 0) (v3 := y1) h0 hf) rfl
theorem k_Ar_fill {σ σr : Mm} {rr : Int32} {r0 : Nat} {n : Nat} {v1 : Int32} (h0 : LT[r0]? = some (.inr (.inl (0, n)))) (hf : f_Ar_fill σ r0 n v1 = some (rr, σr)) : CT LT yJ7_fill_53178 wsJ7_fill_53178 rm_J7_fill_53178 (fun ad => [.ref (ad r0), .int v1]) σ none σr := CT_of2 (cc := cJ7_fill_53178) (maxL := 4) (rt := none) (own := RJ7) (by decide) rfl rfl (fun _ => Nat.le_of_ble_eq_true rfl) (fun _ => rfl) (fun Γ ad O => v_Ar_fill O h0 hf)

-- ===== TippedBarrow$Plan.empty()V
theorem ca_X5_empty : Ca yX5_empty cX5_empty 1 none wsX5_empty rm_X5_empty 0 := ⟨⟨_, rfl⟩, rfl, rfl, by decide +kernel, by decide +kernel, by decide +kernel⟩
theorem in_X5_empty_X5 : ∀ w ∈ wsX50, w ∈ wsX5_empty := by decide +kernel
theorem fl_X5_empty_9 : Fl RX5 wsX5_empty 9 5 0 true (.array .int) := ⟨_, _, _, tyX5, rfl, in_X5_empty_X5, by decide, by decide +kernel, tyX5_ok, nmX5, rfl, tyX5_ok 0 (by decide)⟩
theorem fl_X5_empty_24 : Fl RX5 wsX5_empty 24 5 1 false .int := ⟨_, _, _, tyX5, rfl, in_X5_empty_X5, by decide, by decide +kernel, tyX5_ok, nmX5, rfl, tyX5_ok 1 (by decide)⟩
theorem fl_X5_empty_28 : Fl RX5 wsX5_empty 28 5 2 false .int := ⟨_, _, _, tyX5, rfl, in_X5_empty_X5, by decide, by decide +kernel, tyX5_ok, nmX5, rfl, tyX5_ok 2 (by decide)⟩
theorem fl_X5_empty_31 : Fl RX5 wsX5_empty 31 5 3 false .int := ⟨_, _, _, tyX5, rfl, in_X5_empty_X5, by decide, by decide +kernel, tyX5_ok, nmX5, rfl, tyX5_ok 3 (by decide)⟩
theorem fl_X5_empty_34 : Fl RX5 wsX5_empty 34 5 4 false .int := ⟨_, _, _, tyX5, rfl, in_X5_empty_X5, by decide, by decide +kernel, tyX5_ok, nmX5, rfl, tyX5_ok 4 (by decide)⟩
theorem fl_X5_empty_37 : Fl RX5 wsX5_empty 37 5 5 false .int := ⟨_, _, _, tyX5, rfl, in_X5_empty_X5, by decide, by decide +kernel, tyX5_ok, nmX5, rfl, tyX5_ok 5 (by decide)⟩
set_option maxHeartbeats 4000000 in
set_option maxRecDepth 100000 in
theorem v_Pl_empty {Γ : Cx} {ad : Nat → Nat} {rr : Int32} {σr : Mm} (O : Ok LT Γ ad cX5_empty 1 RX5 wsX5_empty rm_X5_empty none none σr) {σ : Mm} {r0 : Nat} (h0 : okPl r0 = true) (hf : f_Pl_empty σ r0 = some (rr, σr)) : X LT Γ ad σ 0 [(0, .ref (ad r0))] [] := by
  unfold f_Pl_empty at hf
  refine x_aload_n O 0 dX5_empty_0 rfl rfl ?_
  refine x_getF O (t := (r0 + 1)) fl_X5_empty_9 (fk_of (fkPl h0) rfl) dX5_empty_1 ?_
  refine x_bipush O (v := 100) dX5_empty_4 (by decide) ?_
  obtain ⟨r_1, σ1, hc, hf⟩ := bd_some hf
  refine x_callS O (k_Ar_fill (arPl h0) hc) ca_J7_fill_53178 gX5_empty_J7_fill_53178 rfl rfl rfl (Nat.le_of_ble_eq_true rfl) ⟨Nat.le_of_ble_eq_true rfl, Nat.le_of_ble_eq_true rfl⟩ dX5_empty_6 ?_
  refine x_pushN O ?_
  refine x_aload_n O 0 dX5_empty_9 rfl rfl ?_
  refine x_iconst O (v := 0) dX5_empty_10 (by decide) ?_
  refine x_putIN O hf rfl rfl fl_X5_empty_24 (fk_of (fkPl h0) rfl) dX5_empty_11 (fun σ2 hf => ?_)
  refine x_aload_n O 0 dX5_empty_14 rfl rfl ?_
  refine x_iconst O (v := 0) dX5_empty_15 (by decide) ?_
  refine x_putIN O hf rfl rfl fl_X5_empty_28 (fk_of (fkPl h0) rfl) dX5_empty_16 (fun σ3 hf => ?_)
  refine x_aload_n O 0 dX5_empty_19 rfl rfl ?_
  refine x_bipush O (v := -9) dX5_empty_20 (by decide) ?_
  refine x_putIN O hf rfl rfl fl_X5_empty_31 (fk_of (fkPl h0) rfl) dX5_empty_22 (fun σ4 hf => ?_)
  refine x_aload_n O 0 dX5_empty_25 rfl rfl ?_
  refine x_iconst O (v := 5) dX5_empty_26 (by decide) ?_
  refine x_putIN O hf rfl rfl fl_X5_empty_34 (fk_of (fkPl h0) rfl) dX5_empty_27 (fun σ5 hf => ?_)
  refine x_aload_n O 0 dX5_empty_30 rfl rfl ?_
  refine x_iconst O (v := 0) dX5_empty_31 (by decide) ?_
  refine x_putIN O hf rfl rfl fl_X5_empty_37 (fk_of (fkPl h0) rfl) dX5_empty_32 (fun σ6 hf => ?_)
  have hk : ((0 : Int32), σ6) = (rr, σr) := Option.some.inj hf
  obtain ⟨rfl, rfl⟩ := Prod.mk.inj hk
  exact x_vret O rfl rfl rfl dX5_empty_35
theorem k_Pl_empty {σ σr : Mm} {rr : Int32} {r0 : Nat} (h0 : okPl r0 = true) (hf : f_Pl_empty σ r0 = some (rr, σr)) : CT LT yX5_empty wsX5_empty rm_X5_empty (fun ad => [.ref (ad r0)]) σ none σr := CT_of2 (cc := cX5_empty) (maxL := 1) (rt := none) (own := RX5) (by decide) rfl rfl (fun _ => Nat.le_of_ble_eq_true rfl) (fun _ => rfl) (fun Γ ad O => v_Pl_empty O h0 hf)

-- ===== TippedBarrow$Text.letterAt(I)I
theorem ca_X7_letterAt : Ca yX7_letterAt cX7_letterAt 2 (some .int) wsX7_letterAt rm_X7_letterAt 1 := ⟨⟨_, rfl⟩, rfl, rfl, by decide +kernel, by decide +kernel, by decide +kernel⟩
theorem in_X7_letterAt_X7 : ∀ w ∈ wsX70, w ∈ wsX7_letterAt := by decide +kernel
theorem fl_X7_letterAt_9 : Fl RX7 wsX7_letterAt 9 7 0 true (.array .int) := ⟨_, _, _, tyX7, rfl, in_X7_letterAt_X7, by decide, by decide +kernel, tyX7_ok, nmX7, rfl, tyX7_ok 0 (by decide)⟩
theorem fl_X7_letterAt_15 : Fl RX7 wsX7_letterAt 15 7 1 false .int := ⟨_, _, _, tyX7, rfl, in_X7_letterAt_X7, by decide, by decide +kernel, tyX7_ok, nmX7, rfl, tyX7_ok 1 (by decide)⟩
set_option maxHeartbeats 4000000 in
set_option maxRecDepth 100000 in
theorem v_Te_letterAt {Γ : Cx} {ad : Nat → Nat} {rr : Int32} {σr : Mm} (O : Ok LT Γ ad cX7_letterAt 2 RX7 wsX7_letterAt rm_X7_letterAt (some .int) (some (.int rr)) σr) {σ : Mm} {v1 : Int32}  (hf : f_Te_letterAt σ v1 = some (rr, σr)) : X LT Γ ad σ 0 [(0, .ref (ad 1)), (1, .int v1)] [] := by
  unfold f_Te_letterAt at hf
  refine x_iload_n O 1 dX7_letterAt_0 rfl rfl ?_
  refine x_if_lt O 18 hf dX7_letterAt_1 (by decide) (fun hf => ?_) (fun hf => ?_)
  · refine x_iconst O (v := -1) dX7_letterAt_18 (by decide) ?_
    refine x_goto O 28 dX7_letterAt_19 (by decide) ?_
    have hk : ((-1), σ) = (rr, σr) := Option.some.inj hf
    obtain ⟨rfl, rfl⟩ := Prod.mk.inj hk
    exact x_iret O rfl rfl ⟨_, rfl, rfl⟩ dX7_letterAt_28
  · refine x_iload_n O 1 dX7_letterAt_4 rfl rfl ?_
    refine x_aload_n O 0 dX7_letterAt_5 rfl rfl ?_
    refine x_getI O fl_X7_letterAt_15 rfl dX7_letterAt_6 ?_
    refine x_icmp_ge O 18 hf dX7_letterAt_9 (by decide) (fun hf => ?_) (fun hf => ?_)
    · refine x_iconst O (v := -1) dX7_letterAt_18 (by decide) ?_
      refine x_goto O 28 dX7_letterAt_19 (by decide) ?_
      have hk : ((-1), σ) = (rr, σr) := Option.some.inj hf
      obtain ⟨rfl, rfl⟩ := Prod.mk.inj hk
      exact x_iret O rfl rfl ⟨_, rfl, rfl⟩ dX7_letterAt_28
    · refine x_iload_n O 1 dX7_letterAt_12 rfl rfl ?_
      refine x_bipush O (v := 120) dX7_letterAt_13 (by decide) ?_
      refine x_icmp_lt O 22 hf dX7_letterAt_15 (by decide) (fun hf => ?_) (fun hf => ?_)
      · refine x_aload_n O 0 dX7_letterAt_22 rfl rfl ?_
        refine x_getF O (t := 2) fl_X7_letterAt_9 rfl dX7_letterAt_23 ?_
        refine x_iload_n O 1 dX7_letterAt_26 rfl rfl ?_
        refine x_iald O hf rfl dX7_letterAt_27 (fun j1 hf => ?_)
        have hk : ((gA σ 2 j1), σ) = (rr, σr) := Option.some.inj hf
        obtain ⟨rfl, rfl⟩ := Prod.mk.inj hk
        exact x_iret O rfl rfl ⟨_, rfl, rfl⟩ dX7_letterAt_28
      · refine x_iconst O (v := -1) dX7_letterAt_18 (by decide) ?_
        refine x_goto O 28 dX7_letterAt_19 (by decide) ?_
        have hk : ((-1), σ) = (rr, σr) := Option.some.inj hf
        obtain ⟨rfl, rfl⟩ := Prod.mk.inj hk
        exact x_iret O rfl rfl ⟨_, rfl, rfl⟩ dX7_letterAt_28
theorem k_Te_letterAt {σ σr : Mm} {rr : Int32} {v1 : Int32}  (hf : f_Te_letterAt σ v1 = some (rr, σr)) : CT LT yX7_letterAt wsX7_letterAt rm_X7_letterAt (fun ad => [.ref (ad 1), .int v1]) σ (some (.int rr)) σr := CT_of2 (cc := cX7_letterAt) (maxL := 2) (rt := (some .int)) (own := RX7) (by decide) rfl rfl (fun _ => Nat.le_of_ble_eq_true rfl) (fun _ => rfl) (fun Γ ad O => v_Te_letterAt O  hf)

-- ===== TippedBarrow$Reader.isDigit(I)Z
theorem ca_X6_isDigit : Ca yX6_isDigit cX6_isDigit 1 (some .boolean) wsX6_isDigit rm_X6_isDigit 1 := ⟨⟨_, rfl⟩, rfl, rfl, by decide +kernel, by decide +kernel, by decide +kernel⟩
set_option maxHeartbeats 4000000 in
set_option maxRecDepth 100000 in
theorem v_Re_isDigit {Γ : Cx} {ad : Nat → Nat} {rr : Int32} {σr : Mm} (O : Ok LT Γ ad cX6_isDigit 1 RX6 wsX6_isDigit rm_X6_isDigit (some .boolean) (some (.int rr)) σr) {σ : Mm} {v0 : Int32}  (hf : f_Re_isDigit σ v0 = some (rr, σr)) : X LT Γ ad σ 0 [(0, .int v0)] [] := by
  unfold f_Re_isDigit at hf
  refine x_iload_n O 0 dX6_isDigit_0 rfl rfl ?_
  refine x_bipush O (v := 48) dX6_isDigit_1 (by decide) ?_
  refine x_icmp_lt O 16 hf dX6_isDigit_3 (by decide) (fun hf => ?_) (fun hf => ?_)
  · refine x_iconst O (v := 0) dX6_isDigit_16 (by decide) ?_
    have hk : (0, σ) = (rr, σr) := Option.some.inj hf
    obtain ⟨rfl, rfl⟩ := Prod.mk.inj hk
    exact x_iret O rfl rfl ⟨_, rfl, rfl⟩ dX6_isDigit_17
  · refine x_iload_n O 0 dX6_isDigit_6 rfl rfl ?_
    refine x_bipush O (v := 57) dX6_isDigit_7 (by decide) ?_
    refine x_icmp_gt O 16 hf dX6_isDigit_9 (by decide) (fun hf => ?_) (fun hf => ?_)
    · refine x_iconst O (v := 0) dX6_isDigit_16 (by decide) ?_
      have hk : (0, σ) = (rr, σr) := Option.some.inj hf
      obtain ⟨rfl, rfl⟩ := Prod.mk.inj hk
      exact x_iret O rfl rfl ⟨_, rfl, rfl⟩ dX6_isDigit_17
    · refine x_iconst O (v := 1) dX6_isDigit_12 (by decide) ?_
      refine x_goto O 17 dX6_isDigit_13 (by decide) ?_
      have hk : (1, σ) = (rr, σr) := Option.some.inj hf
      obtain ⟨rfl, rfl⟩ := Prod.mk.inj hk
      exact x_iret O rfl rfl ⟨_, rfl, rfl⟩ dX6_isDigit_17
theorem k_Re_isDigit {σ σr : Mm} {rr : Int32} {v0 : Int32}  (hf : f_Re_isDigit σ v0 = some (rr, σr)) : CT LT yX6_isDigit wsX6_isDigit rm_X6_isDigit (fun ad => [.int v0]) σ (some (.int rr)) σr := CT_of2 (cc := cX6_isDigit) (maxL := 1) (rt := (some .boolean)) (own := RX6) (by decide) rfl rfl (fun _ => Nat.le_of_ble_eq_true rfl) (fun _ => rfl) (fun Γ ad O => v_Re_isDigit O  hf)

-- ===== TippedBarrow$Reader.addToken(III)V
theorem ca_X6_addToken : Ca yX6_addToken cX6_addToken 4 none wsX6_addToken rm_X6_addToken 3 := ⟨⟨_, rfl⟩, rfl, rfl, by decide +kernel, by decide +kernel, by decide +kernel⟩
theorem in_X6_addToken_X6 : ∀ w ∈ wsX60, w ∈ wsX6_addToken := by decide +kernel
theorem fl_X6_addToken_11 : Fl RX6 wsX6_addToken 11 6 1 true (.array .int) := ⟨_, _, _, tyX6, rfl, in_X6_addToken_X6, by decide, by decide +kernel, tyX6_ok, nmX6, rfl, tyX6_ok 1 (by decide)⟩
theorem fl_X6_addToken_15 : Fl RX6 wsX6_addToken 15 6 2 true (.array .int) := ⟨_, _, _, tyX6, rfl, in_X6_addToken_X6, by decide, by decide +kernel, tyX6_ok, nmX6, rfl, tyX6_ok 2 (by decide)⟩
theorem fl_X6_addToken_18 : Fl RX6 wsX6_addToken 18 6 3 true (.array .int) := ⟨_, _, _, tyX6, rfl, in_X6_addToken_X6, by decide, by decide +kernel, tyX6_ok, nmX6, rfl, tyX6_ok 3 (by decide)⟩
theorem fl_X6_addToken_55 : Fl RX6 wsX6_addToken 55 6 4 false .int := ⟨_, _, _, tyX6, rfl, in_X6_addToken_X6, by decide, by decide +kernel, tyX6_ok, nmX6, rfl, tyX6_ok 4 (by decide)⟩
set_option maxHeartbeats 4000000 in
set_option maxRecDepth 100000 in
theorem v_Re_addToken {Γ : Cx} {ad : Nat → Nat} {rr : Int32} {σr : Mm} (O : Ok LT Γ ad cX6_addToken 4 RX6 wsX6_addToken rm_X6_addToken none none σr) {σ : Mm} {v1 : Int32} {v2 : Int32} {v3 : Int32}  (hf : f_Re_addToken σ v1 v2 v3 = some (rr, σr)) : X LT Γ ad σ 0 [(0, .ref (ad 3)), (1, .int v1), (2, .int v2), (3, .int v3)] [] := by
  unfold f_Re_addToken at hf
  refine x_aload_n O 0 dX6_addToken_0 rfl rfl ?_
  refine x_getI O fl_X6_addToken_55 rfl dX6_addToken_1 ?_
  refine x_bipush O (v := 121) dX6_addToken_4 (by decide) ?_
  refine x_icmp_ge O 49 hf dX6_addToken_6 (by decide) (fun hf => ?_) (fun hf => ?_)
  · have hk : ((0 : Int32), σ) = (rr, σr) := Option.some.inj hf
    obtain ⟨rfl, rfl⟩ := Prod.mk.inj hk
    exact x_vret O rfl rfl rfl dX6_addToken_49
  · refine x_aload_n O 0 dX6_addToken_9 rfl rfl ?_
    refine x_getF O (t := 4) fl_X6_addToken_11 rfl dX6_addToken_10 ?_
    refine x_aload_n O 0 dX6_addToken_13 rfl rfl ?_
    refine x_getI O fl_X6_addToken_55 rfl dX6_addToken_14 ?_
    refine x_iload_n O 1 dX6_addToken_17 rfl rfl ?_
    refine x_iastN O hf rfl dX6_addToken_18 (fun σ1 hf => ?_)
    refine x_aload_n O 0 dX6_addToken_19 rfl rfl ?_
    refine x_getF O (t := 6) fl_X6_addToken_18 rfl dX6_addToken_20 ?_
    refine x_aload_n O 0 dX6_addToken_23 rfl rfl ?_
    refine x_getI O fl_X6_addToken_55 rfl dX6_addToken_24 ?_
    refine x_iload_n O 2 dX6_addToken_27 rfl rfl ?_
    refine x_iastN O hf rfl dX6_addToken_28 (fun σ2 hf => ?_)
    refine x_aload_n O 0 dX6_addToken_29 rfl rfl ?_
    refine x_getF O (t := 5) fl_X6_addToken_15 rfl dX6_addToken_30 ?_
    refine x_aload_n O 0 dX6_addToken_33 rfl rfl ?_
    refine x_getI O fl_X6_addToken_55 rfl dX6_addToken_34 ?_
    refine x_iload_n O 3 dX6_addToken_37 rfl rfl ?_
    refine x_iastN O hf rfl dX6_addToken_38 (fun σ3 hf => ?_)
    refine x_aload_n O 0 dX6_addToken_39 rfl rfl ?_
    refine x_dup O dX6_addToken_40 rfl ?_
    refine x_getI O fl_X6_addToken_55 rfl dX6_addToken_41 ?_
    refine x_iconst O (v := 1) dX6_addToken_44 (by decide) ?_
    refine x_iadd O dX6_addToken_45 ?_
    refine x_putIN O hf rfl rfl fl_X6_addToken_55 rfl dX6_addToken_46 (fun σ4 hf => ?_)
    have hk : ((0 : Int32), σ4) = (rr, σr) := Option.some.inj hf
    obtain ⟨rfl, rfl⟩ := Prod.mk.inj hk
    exact x_vret O rfl rfl rfl dX6_addToken_49
theorem k_Re_addToken {σ σr : Mm} {rr : Int32} {v1 : Int32} {v2 : Int32} {v3 : Int32}  (hf : f_Re_addToken σ v1 v2 v3 = some (rr, σr)) : CT LT yX6_addToken wsX6_addToken rm_X6_addToken (fun ad => [.ref (ad 3), .int v1, .int v2, .int v3]) σ none σr := CT_of2 (cc := cX6_addToken) (maxL := 4) (rt := none) (own := RX6) (by decide) rfl rfl (fun _ => Nat.le_of_ble_eq_true rfl) (fun _ => rfl) (fun Γ ad O => v_Re_addToken O  hf)

-- ===== TippedBarrow$Reader.addDigit(II)V
theorem ca_X6_addDigit : Ca yX6_addDigit cX6_addDigit 5 none wsX6_addDigit rm_X6_addDigit 2 := ⟨⟨_, rfl⟩, rfl, rfl, by decide +kernel, by decide +kernel, by decide +kernel⟩
theorem in_X6_addDigit_X6 : ∀ w ∈ wsX60, w ∈ wsX6_addDigit := by decide +kernel
theorem fl_X6_addDigit_11 : Fl RX6 wsX6_addDigit 11 6 1 true (.array .int) := ⟨_, _, _, tyX6, rfl, in_X6_addDigit_X6, by decide, by decide +kernel, tyX6_ok, nmX6, rfl, tyX6_ok 1 (by decide)⟩
theorem fl_X6_addDigit_15 : Fl RX6 wsX6_addDigit 15 6 2 true (.array .int) := ⟨_, _, _, tyX6, rfl, in_X6_addDigit_X6, by decide, by decide +kernel, tyX6_ok, nmX6, rfl, tyX6_ok 2 (by decide)⟩
theorem fl_X6_addDigit_21 : Fl RX6 wsX6_addDigit 21 6 0 true (.object "TippedBarrow$Text") := ⟨_, _, _, tyX6, rfl, in_X6_addDigit_X6, by decide, by decide +kernel, tyX6_ok, nmX6, rfl, tyX6_ok 0 (by decide)⟩
theorem fl_X6_addDigit_55 : Fl RX6 wsX6_addDigit 55 6 4 false .int := ⟨_, _, _, tyX6, rfl, in_X6_addDigit_X6, by decide, by decide +kernel, tyX6_ok, nmX6, rfl, tyX6_ok 4 (by decide)⟩
theorem mw_X6_addDigit_0 : Cond.methodLink RX6 78 Lib.Math.min.name ∈ wsX6_addDigit := by decide +kernel
theorem mw_X6_addDigit_1 : Cond.static Lib.Math.min.name ∈ wsX6_addDigit := by decide +kernel
theorem mw_X6_addDigit_2 : Cond.initialized "java/lang/Math" ∈ wsX6_addDigit := by decide +kernel
theorem mw_X6_addDigit_3 : Cond.code Lib.Math.min.name Lib.Math.min.code 2 (some .int) ∈ wsX6_addDigit := by decide +kernel
set_option maxHeartbeats 4000000 in
set_option maxRecDepth 100000 in
theorem v_Re_addDigit_78 {Γ : Cx} {ad : Nat → Nat} {rr : Int32} {σr : Mm} (O : Ok LT Γ ad cX6_addDigit 5 RX6 wsX6_addDigit rm_X6_addDigit none none σr) {σ : Mm} {v3 : Int32}  (hf : f_Re_addDigit_78 σ v3 = some (rr, σr)) : X LT Γ ad σ 78 [(0, .ref (ad 3)), (3, .int v3)] [] := by
  unfold f_Re_addDigit_78 at hf
  refine x_aload_n O 0 dX6_addDigit_78 rfl rfl ?_
  refine x_getF O (t := 4) fl_X6_addDigit_11 rfl dX6_addDigit_79 ?_
  refine x_iload_n O 3 dX6_addDigit_82 rfl rfl ?_
  refine x_bipush O (v := -3) dX6_addDigit_83 (by decide) ?_
  refine x_iastN O hf rfl dX6_addDigit_85 (fun σ1 hf => ?_)
  have hk : ((0 : Int32), σ1) = (rr, σr) := Option.some.inj hf
  obtain ⟨rfl, rfl⟩ := Prod.mk.inj hk
  exact x_vret O rfl rfl rfl dX6_addDigit_86
set_option maxHeartbeats 4000000 in
set_option maxRecDepth 100000 in
theorem v_Re_addDigit_27 {Γ : Cx} {ad : Nat → Nat} {rr : Int32} {σr : Mm} (O : Ok LT Γ ad cX6_addDigit 5 RX6 wsX6_addDigit rm_X6_addDigit none none σr) {σ : Mm} {v1 : Int32} {v2 : Int32}  (hf : f_Re_addDigit_27 σ v1 v2 = some (rr, σr)) : X LT Γ ad σ 27 [(0, .ref (ad 3)), (1, .int v1), (2, .int v2)] [] := by
  unfold f_Re_addDigit_27 at hf
  refine x_aload_n O 0 dX6_addDigit_27 rfl rfl ?_
  refine x_bipush O (v := -2) dX6_addDigit_28 (by decide) ?_
  refine x_iload_n O 2 dX6_addDigit_30 rfl rfl ?_
  refine x_iload_n O 1 dX6_addDigit_31 rfl rfl ?_
  obtain ⟨r_1, σ1, hc, hf⟩ := bd_some hf
  refine x_callV O (k_Re_addToken  hc) ca_X6_addToken gX6_addDigit_X6_addToken rfl ⟨_, _, _, _, rfl, rfl⟩ rfl rfl rfl (Nat.le_of_ble_eq_true rfl) ⟨Nat.le_of_ble_eq_true rfl, Nat.le_of_ble_eq_true rfl⟩ dX6_addDigit_32 ?_
  refine x_pushN O ?_
  have hk : ((0 : Int32), σ1) = (rr, σr) := Option.some.inj hf
  obtain ⟨rfl, rfl⟩ := Prod.mk.inj hk
  exact x_vret O rfl rfl rfl dX6_addDigit_35
set_option maxHeartbeats 4000000 in
set_option maxRecDepth 100000 in
theorem v_Re_addDigit {Γ : Cx} {ad : Nat → Nat} {rr : Int32} {σr : Mm} (O : Ok LT Γ ad cX6_addDigit 5 RX6 wsX6_addDigit rm_X6_addDigit none none σr) {σ : Mm} {v1 : Int32} {v2 : Int32}  (hf : f_Re_addDigit σ v1 v2 = some (rr, σr)) : X LT Γ ad σ 0 [(0, .ref (ad 3)), (1, .int v1), (2, .int v2)] [] := by
  unfold f_Re_addDigit at hf
  refine x_aload_n O 0 dX6_addDigit_0 rfl rfl ?_
  refine x_getI O fl_X6_addDigit_55 rfl dX6_addDigit_1 ?_
  refine x_iconst O (v := 1) dX6_addDigit_4 (by decide) ?_
  refine x_isub O dX6_addDigit_5 ?_
  refine x_istore_nN O 3 hf dX6_addDigit_6 rfl (by decide) (fun y1 hf => ?_)
  refine x_iload_n O 3 dX6_addDigit_7 rfl rfl ?_
  refine x_if_lt O 27 hf dX6_addDigit_8 (by decide) (fun hf => ?_) (fun hf => ?_)
  · exact x_jmp O (v_Re_addDigit_27 O (σ := σ) (v1 := v1) (v2 := v2)  hf) rfl
  · refine x_aload_n O 0 dX6_addDigit_11 rfl rfl ?_
    refine x_getF O (t := 1) fl_X6_addDigit_21 rfl dX6_addDigit_12 ?_
    refine x_iload_n O 2 dX6_addDigit_15 rfl rfl ?_
    refine x_iconst O (v := 1) dX6_addDigit_16 (by decide) ?_
    refine x_isub O dX6_addDigit_17 ?_
    obtain ⟨r_1, σ1, hc, hf⟩ := bd_some hf
    refine x_callV O (k_Te_letterAt  hc) ca_X7_letterAt gX6_addDigit_X7_letterAt rfl ⟨_, _, _, _, rfl, rfl⟩ rfl rfl rfl (Nat.le_of_ble_eq_true rfl) ⟨Nat.le_of_ble_eq_true rfl, Nat.le_of_ble_eq_true rfl⟩ dX6_addDigit_18 ?_
    refine x_push O ?_
    obtain ⟨r_2, σ2, hc, hf⟩ := bd_some hf
    refine x_callS O (k_Re_isDigit  hc) ca_X6_isDigit gX6_addDigit_X6_isDigit rfl rfl rfl (Nat.le_of_ble_eq_true rfl) ⟨Nat.le_of_ble_eq_true rfl, Nat.le_of_ble_eq_true rfl⟩ dX6_addDigit_21 ?_
    refine x_push O ?_
    refine x_if_ne O 36 hf dX6_addDigit_24 (by decide) (fun hf => ?_) (fun hf => ?_)
    · refine x_aload_n O 0 dX6_addDigit_36 rfl rfl ?_
      refine x_getF O (t := 5) fl_X6_addDigit_15 rfl dX6_addDigit_37 ?_
      refine x_iload_n O 3 dX6_addDigit_40 rfl rfl ?_
      refine x_iald O hf rfl dX6_addDigit_41 (fun j1 hf => ?_)
      refine x_istoreN O hf dX6_addDigit_42 (by decide) (fun y2 hf => ?_)
      refine x_aload_n O 0 dX6_addDigit_44 rfl rfl ?_
      refine x_getF O (t := 5) fl_X6_addDigit_15 rfl dX6_addDigit_45 ?_
      refine x_iload_n O 3 dX6_addDigit_48 rfl rfl ?_
      refine x_bipush O (v := 100) dX6_addDigit_49 (by decide) ?_
      refine x_bipush O (v := 10) dX6_addDigit_51 (by decide) ?_
      refine x_iload O dX6_addDigit_53 rfl ?_
      refine x_imul O dX6_addDigit_55 ?_
      refine x_iload_n O 1 dX6_addDigit_56 rfl rfl ?_
      refine x_iadd O dX6_addDigit_57 ?_
      refine x_min O mw_X6_addDigit_0 mw_X6_addDigit_1 mw_X6_addDigit_2 mw_X6_addDigit_3 (Nat.le_of_ble_eq_true rfl) (Nat.le_of_ble_eq_true rfl) dX6_addDigit_58 ?_
      refine x_iastN O hf rfl dX6_addDigit_61 (fun σ3 hf => ?_)
      refine x_iload O dX6_addDigit_62 rfl ?_
      refine x_if_eq O 78 hf dX6_addDigit_64 (by decide) (fun hf => ?_) (fun hf => ?_)
      · exact x_jmp O (v_Re_addDigit_78 O (σ := σ3) (v3 := y1)  hf) rfl
      · refine x_aload_n O 0 dX6_addDigit_67 rfl rfl ?_
        refine x_getF O (t := 5) fl_X6_addDigit_15 rfl dX6_addDigit_68 ?_
        refine x_iload_n O 3 dX6_addDigit_71 rfl rfl ?_
        refine x_iald O hf rfl dX6_addDigit_72 (fun j3 hf => ?_)
        refine x_bipush O (v := 99) dX6_addDigit_73 (by decide) ?_
        refine x_icmp_le O 86 hf dX6_addDigit_75 (by decide) (fun hf => ?_) (fun hf => ?_)
        · have hk : ((0 : Int32), σ3) = (rr, σr) := Option.some.inj hf
          obtain ⟨rfl, rfl⟩ := Prod.mk.inj hk
          exact x_vret O rfl rfl rfl dX6_addDigit_86
        · exact x_jmp O (v_Re_addDigit_78 O (σ := σ3) (v3 := y1)  hf) rfl
    · exact x_jmp O (v_Re_addDigit_27 O (σ := σ2) (v1 := v1) (v2 := v2)  hf) rfl
theorem k_Re_addDigit {σ σr : Mm} {rr : Int32} {v1 : Int32} {v2 : Int32}  (hf : f_Re_addDigit σ v1 v2 = some (rr, σr)) : CT LT yX6_addDigit wsX6_addDigit rm_X6_addDigit (fun ad => [.ref (ad 3), .int v1, .int v2]) σ none σr := CT_of2 (cc := cX6_addDigit) (maxL := 5) (rt := none) (own := RX6) (by decide) rfl rfl (fun _ => Nat.le_of_ble_eq_true rfl) (fun _ => rfl) (fun Γ ad O => v_Re_addDigit O  hf)
