-- ===== TippedBarrowModel.game(I)I
theorem ca_X10_game : Ca yX10_game cX10_game 2 (some .int) wsX10_game rm_X10_game 1 := ⟨⟨_, rfl⟩, rfl, rfl, by decide +kernel, by decide +kernel, by decide +kernel⟩
theorem in_X10_game_X10 : ∀ w ∈ wsX100, w ∈ wsX10_game := by decide +kernel
theorem fl_X10_game_35 : Fl RX10 wsX10_game 35 10 23 true (.array .int) := ⟨_, _, _, tyX10, rfl, in_X10_game_X10, by decide, by decide +kernel, tyX10_ok, nmX10, rfl, tyX10_ok 23 (by decide)⟩
theorem fl_X10_game_38 : Fl RX10 wsX10_game 38 10 24 true (.array .int) := ⟨_, _, _, tyX10, rfl, in_X10_game_X10, by decide, by decide +kernel, tyX10_ok, nmX10, rfl, tyX10_ok 24 (by decide)⟩
theorem fl_X10_game_56 : Fl RX10 wsX10_game 56 10 0 false .int := ⟨_, _, _, tyX10, rfl, in_X10_game_X10, by decide, by decide +kernel, tyX10_ok, nmX10, rfl, tyX10_ok 0 (by decide)⟩
set_option maxHeartbeats 4000000 in
set_option maxRecDepth 100000 in
theorem v_M_game {Γ : Cx} {ad : Nat → Nat} {rr : Int32} {σr : Mm} (O : Ok LM Γ ad cX10_game 2 RX10 wsX10_game rm_X10_game (some .int) (some (.int rr)) σr) {σ : Mm} {v1 : Int32}  (hf : f_M_game σ v1 = some (rr, σr)) : X LM Γ ad σ 0 [(0, .ref (ad 0)), (1, .int v1)] [] := by
  unfold f_M_game at hf
  refine x_aload_n O 0 dX10_game_0 rfl rfl ?_
  refine x_iconst O (v := 0) dX10_game_1 (by decide) ?_
  refine x_putIN O hf rfl rfl fl_X10_game_56 rfl dX10_game_2 (fun σ1 hf => ?_)
  refine x_iload_n O 1 dX10_game_5 rfl rfl ?_
  refine x_iconst O (v := 0) dX10_game_6 (by decide) ?_
  refine x_iconst O (v := 1) dX10_game_7 (by decide) ?_
  obtain ⟨r_1, σ2, hc, hf⟩ := bd_some hf
  refine x_callS O (k_M_in  hc) ca_X10_in gX10_game_X10_in rfl rfl rfl (Nat.le_of_ble_eq_true rfl) ⟨Nat.le_of_ble_eq_true rfl, Nat.le_of_ble_eq_true rfl⟩ dX10_game_8 ?_
  refine x_push O ?_
  refine x_if_ne O 16 hf dX10_game_11 (by decide) (fun hf => ?_) (fun hf => ?_)
  · refine x_aload_n O 0 dX10_game_16 rfl rfl ?_
    obtain ⟨r_2, σ3, hc, hf⟩ := bd_some hf
    refine x_callV O (k_M_hasStart  hc) ca_X10_hasStart gX10_game_X10_hasStart rfl ⟨_, _, _, _, rfl, rfl⟩ rfl rfl rfl (Nat.le_of_ble_eq_true rfl) ⟨Nat.le_of_ble_eq_true rfl, Nat.le_of_ble_eq_true rfl⟩ dX10_game_17 ?_
    refine x_push O ?_
    refine x_if_ne O 26 hf dX10_game_20 (by decide) (fun hf => ?_) (fun hf => ?_)
    · refine x_aload_n O 0 dX10_game_26 rfl rfl ?_
      obtain ⟨r_3, σ4, hc, hf⟩ := bd_some hf
      refine x_callV O (k_M_plays  hc) ca_X10_plays gX10_game_X10_plays rfl ⟨_, _, _, _, rfl, rfl⟩ rfl rfl rfl (Nat.le_of_ble_eq_true rfl) ⟨Nat.le_of_ble_eq_true rfl, Nat.le_of_ble_eq_true rfl⟩ dX10_game_27 ?_
      refine x_pushN O ?_
      refine x_iload_n O 1 dX10_game_30 rfl rfl ?_
      refine x_if_ne O 46 hf dX10_game_31 (by decide) (fun hf => ?_) (fun hf => ?_)
      · refine x_aload_n O 0 dX10_game_46 rfl rfl ?_
        refine x_getF O (t := 9) fl_X10_game_35 rfl dX10_game_47 ?_
        refine x_aload_n O 0 dX10_game_50 rfl rfl ?_
        obtain ⟨r_4, σ5, hc, hf⟩ := bd_some hf
        refine x_callV O (k_M_here  hc) ca_X10_here gX10_game_X10_here rfl ⟨_, _, _, _, rfl, rfl⟩ rfl rfl rfl (Nat.le_of_ble_eq_true rfl) ⟨Nat.le_of_ble_eq_true rfl, Nat.le_of_ble_eq_true rfl⟩ dX10_game_51 ?_
        refine x_push O ?_
        refine x_iald O hf rfl dX10_game_54 (fun j1 hf => ?_)
        refine x_if_ne O 63 hf dX10_game_55 (by decide) (fun hf => ?_) (fun hf => ?_)
        · refine x_aload_n O 0 dX10_game_63 rfl rfl ?_
          refine x_getF O (t := 10) fl_X10_game_38 rfl dX10_game_64 ?_
          refine x_aload_n O 0 dX10_game_67 rfl rfl ?_
          obtain ⟨r_5, σ6, hc, hf⟩ := bd_some hf
          refine x_callV O (k_M_here  hc) ca_X10_here gX10_game_X10_here rfl ⟨_, _, _, _, rfl, rfl⟩ rfl rfl rfl (Nat.le_of_ble_eq_true rfl) ⟨Nat.le_of_ble_eq_true rfl, Nat.le_of_ble_eq_true rfl⟩ dX10_game_68 ?_
          refine x_push O ?_
          refine x_iald O hf rfl dX10_game_71 (fun j2 hf => ?_)
          have hk : ((gA σ6 10 j2), σ6) = (rr, σr) := Option.some.inj hf
          obtain ⟨rfl, rfl⟩ := Prod.mk.inj hk
          exact x_iret O rfl rfl ⟨_, rfl, rfl⟩ dX10_game_72
        · refine x_bipush O (v := -9) dX10_game_58 (by decide) ?_
          refine x_goto O 72 dX10_game_60 (by decide) ?_
          have hk : ((-9), σ5) = (rr, σr) := Option.some.inj hf
          obtain ⟨rfl, rfl⟩ := Prod.mk.inj hk
          exact x_iret O rfl rfl ⟨_, rfl, rfl⟩ dX10_game_72
      · refine x_aload_n O 0 dX10_game_34 rfl rfl ?_
        refine x_getF O (t := 9) fl_X10_game_35 rfl dX10_game_35 ?_
        refine x_aload_n O 0 dX10_game_38 rfl rfl ?_
        obtain ⟨r_6, σ7, hc, hf⟩ := bd_some hf
        refine x_callV O (k_M_here  hc) ca_X10_here gX10_game_X10_here rfl ⟨_, _, _, _, rfl, rfl⟩ rfl rfl rfl (Nat.le_of_ble_eq_true rfl) ⟨Nat.le_of_ble_eq_true rfl, Nat.le_of_ble_eq_true rfl⟩ dX10_game_39 ?_
        refine x_push O ?_
        refine x_iald O hf rfl dX10_game_42 (fun j3 hf => ?_)
        refine x_goto O 72 dX10_game_43 (by decide) ?_
        have hk : ((gA σ7 9 j3), σ7) = (rr, σr) := Option.some.inj hf
        obtain ⟨rfl, rfl⟩ := Prod.mk.inj hk
        exact x_iret O rfl rfl ⟨_, rfl, rfl⟩ dX10_game_72
    · refine x_bipush O (v := -2) dX10_game_23 (by decide) ?_
      have hk : ((-2), σ3) = (rr, σr) := Option.some.inj hf
      obtain ⟨rfl, rfl⟩ := Prod.mk.inj hk
      exact x_iret O rfl rfl ⟨_, rfl, rfl⟩ dX10_game_25
  · refine x_iconst O (v := -1) dX10_game_14 (by decide) ?_
    have hk : ((-1), σ2) = (rr, σr) := Option.some.inj hf
    obtain ⟨rfl, rfl⟩ := Prod.mk.inj hk
    exact x_iret O rfl rfl ⟨_, rfl, rfl⟩ dX10_game_15
theorem k_M_game {σ σr : Mm} {rr : Int32} {v1 : Int32}  (hf : f_M_game σ v1 = some (rr, σr)) : CT LM yX10_game wsX10_game rm_X10_game (fun ad => [.ref (ad 0), .int v1]) σ (some (.int rr)) σr := CT_of2 (cc := cX10_game) (maxL := 2) (rt := (some .int)) (own := RX10) (by decide) rfl rfl (fun _ => Nat.le_of_ble_eq_true rfl) (fun _ => rfl) (fun Γ ad O => v_M_game O  hf)

-- ===== TippedBarrowModel.advice()I
theorem ca_X10_advice : Ca yX10_advice cX10_advice 6 (some .int) wsX10_advice rm_X10_advice 0 := ⟨⟨_, rfl⟩, rfl, rfl, by decide +kernel, by decide +kernel, by decide +kernel⟩
theorem in_X10_advice_X10 : ∀ w ∈ wsX100, w ∈ wsX10_advice := by decide +kernel
theorem fl_X10_advice_19 : Fl RX10 wsX10_advice 19 10 14 true (.array .int) := ⟨_, _, _, tyX10, rfl, in_X10_advice_X10, by decide, by decide +kernel, tyX10_ok, nmX10, rfl, tyX10_ok 14 (by decide)⟩
theorem fl_X10_advice_35 : Fl RX10 wsX10_advice 35 10 23 true (.array .int) := ⟨_, _, _, tyX10, rfl, in_X10_advice_X10, by decide, by decide +kernel, tyX10_ok, nmX10, rfl, tyX10_ok 23 (by decide)⟩
theorem fl_X10_advice_38 : Fl RX10 wsX10_advice 38 10 24 true (.array .int) := ⟨_, _, _, tyX10, rfl, in_X10_advice_X10, by decide, by decide +kernel, tyX10_ok, nmX10, rfl, tyX10_ok 24 (by decide)⟩
theorem fl_X10_advice_56 : Fl RX10 wsX10_advice 56 10 0 false .int := ⟨_, _, _, tyX10, rfl, in_X10_advice_X10, by decide, by decide +kernel, tyX10_ok, nmX10, rfl, tyX10_ok 0 (by decide)⟩
set_option maxHeartbeats 4000000 in
set_option maxRecDepth 100000 in
theorem v_M_advice_126 {Γ : Cx} {ad : Nat → Nat} {rr : Int32} {σr : Mm} (O : Ok LM Γ ad cX10_advice 6 RX10 wsX10_advice rm_X10_advice (some .int) (some (.int rr)) σr) {σ : Mm} {v2 : Int32} {v3 : Int32} {s0 : Int32}  {x : (Mm × Int32 × Int32) ⊕ (Int32 × Mm)} (hf : f_M_advice_126 σ v3 s0 = some x) (hk : (kx (fun s : Mm × Int32 × Int32 => X LM Γ ad s.1 34 [(0, .ref (ad 0)), (1, .int s.2.1), (2, .int v2), (3, .int s.2.2)] []) (fun q : Int32 × Mm => q = (rr, σr))) x) : X LM Γ ad σ 126 [(0, .ref (ad 0)), (2, .int v2), (3, .int v3)] [.int s0] := by
  unfold f_M_advice_126 at hf
  refine x_istore_n O 1 dX10_advice_126 rfl (by decide) ?_
  refine x_iincN O hf dX10_advice_127 rfl rfl (by decide) (fun y1 hf => ?_)
  refine x_goto O 34 dX10_advice_130 (by decide) ?_
  obtain rfl := Option.some.inj hf
  have hk := kx_l hk
  exact x_jmp O hk rfl
set_option maxHeartbeats 4000000 in
set_option maxRecDepth 100000 in
theorem v_M_advice_125 {Γ : Cx} {ad : Nat → Nat} {rr : Int32} {σr : Mm} (O : Ok LM Γ ad cX10_advice 6 RX10 wsX10_advice rm_X10_advice (some .int) (some (.int rr)) σr) {σ : Mm} {v1 : Int32} {v2 : Int32} {v3 : Int32}  {x : (Mm × Int32 × Int32) ⊕ (Int32 × Mm)} (hf : f_M_advice_125 σ v1 v3 = some x) (hk : (kx (fun s : Mm × Int32 × Int32 => X LM Γ ad s.1 34 [(0, .ref (ad 0)), (1, .int s.2.1), (2, .int v2), (3, .int s.2.2)] []) (fun q : Int32 × Mm => q = (rr, σr))) x) : X LM Γ ad σ 125 [(0, .ref (ad 0)), (1, .int v1), (2, .int v2), (3, .int v3)] [] := by
  unfold f_M_advice_125 at hf
  refine x_iload_n O 1 dX10_advice_125 rfl rfl ?_
  exact x_jmp O (v_M_advice_126 O (σ := σ) (v2 := v2) (v3 := v3) (s0 := v1)  hf hk) rfl
set_option maxHeartbeats 4000000 in
set_option maxRecDepth 100000 in
theorem v_M_advice_121 {Γ : Cx} {ad : Nat → Nat} {rr : Int32} {σr : Mm} (O : Ok LM Γ ad cX10_advice 6 RX10 wsX10_advice rm_X10_advice (some .int) (some (.int rr)) σr) {σ : Mm} {v2 : Int32} {v3 : Int32}  {x : (Mm × Int32 × Int32) ⊕ (Int32 × Mm)} (hf : f_M_advice_121 σ v3 = some x) (hk : (kx (fun s : Mm × Int32 × Int32 => X LM Γ ad s.1 34 [(0, .ref (ad 0)), (1, .int s.2.1), (2, .int v2), (3, .int s.2.2)] []) (fun q : Int32 × Mm => q = (rr, σr))) x) : X LM Γ ad σ 121 [(0, .ref (ad 0)), (2, .int v2), (3, .int v3)] [] := by
  unfold f_M_advice_121 at hf
  refine x_iload_n O 3 dX10_advice_121 rfl rfl ?_
  refine x_goto O 126 dX10_advice_122 (by decide) ?_
  exact x_jmp O (v_M_advice_126 O (σ := σ) (v2 := v2) (v3 := v3) (s0 := v3)  hf hk) rfl
set_option maxHeartbeats 4000000 in
set_option maxRecDepth 100000 in
theorem v_M_advice_84 {Γ : Cx} {ad : Nat → Nat} {rr : Int32} {σr : Mm} (O : Ok LM Γ ad cX10_advice 6 RX10 wsX10_advice rm_X10_advice (some .int) (some (.int rr)) σr) {σ : Mm} {v1 : Int32} {v2 : Int32} {v3 : Int32} {v4 : Int32} {s0 : Int32}  {x : (Mm × Int32 × Int32) ⊕ (Int32 × Mm)} (hf : f_M_advice_84 σ v1 v2 v3 v4 s0 = some x) (hk : (kx (fun s : Mm × Int32 × Int32 => X LM Γ ad s.1 34 [(0, .ref (ad 0)), (1, .int s.2.1), (2, .int v2), (3, .int s.2.2)] []) (fun q : Int32 × Mm => q = (rr, σr))) x) : X LM Γ ad σ 84 [(0, .ref (ad 0)), (1, .int v1), (2, .int v2), (3, .int v3), (4, .int v4)] [.int s0] := by
  unfold f_M_advice_84 at hf
  refine x_istore O dX10_advice_84 (by decide) ?_
  refine x_iload O dX10_advice_86 rfl ?_
  refine x_if_eq O 125 hf dX10_advice_88 (by decide) (fun hf => ?_) (fun hf => ?_)
  · exact x_jmp O (v_M_advice_125 O (σ := σ) (v1 := v1) (v2 := v2) (v3 := v3)  hf hk) rfl
  · refine x_iload_n O 2 dX10_advice_91 rfl rfl ?_
    refine x_if_eq O 121 hf dX10_advice_92 (by decide) (fun hf => ?_) (fun hf => ?_)
    · exact x_jmp O (v_M_advice_121 O (σ := σ) (v2 := v2) (v3 := v3)  hf hk) rfl
    · refine x_aload_n O 0 dX10_advice_95 rfl rfl ?_
      refine x_iload O dX10_advice_96 rfl ?_
      refine x_aload_n O 0 dX10_advice_98 rfl rfl ?_
      refine x_getF O (t := 4) fl_X10_advice_19 rfl dX10_advice_99 ?_
      refine x_iconst O (v := 2) dX10_advice_102 (by decide) ?_
      refine x_iald O hf rfl dX10_advice_103 (fun j1 hf => ?_)
      obtain ⟨r_1, σ1, hc, hf⟩ := bd_some hf
      refine x_callV O (k_M_pushesBehind  hc) ca_X10_pushesBehind gX10_advice_X10_pushesBehind rfl ⟨_, _, _, _, rfl, rfl⟩ rfl rfl rfl (Nat.le_of_ble_eq_true rfl) ⟨Nat.le_of_ble_eq_true rfl, Nat.le_of_ble_eq_true rfl⟩ dX10_advice_104 ?_
      refine x_push O ?_
      refine x_aload_n O 0 dX10_advice_107 rfl rfl ?_
      refine x_getF O (t := 10) fl_X10_advice_38 rfl dX10_advice_108 ?_
      refine x_aload_n O 0 dX10_advice_111 rfl rfl ?_
      obtain ⟨r_2, σ2, hc, hf⟩ := bd_some hf
      refine x_callV O (k_M_here  hc) ca_X10_here gX10_advice_X10_here rfl ⟨_, _, _, _, rfl, rfl⟩ rfl rfl rfl (Nat.le_of_ble_eq_true rfl) ⟨Nat.le_of_ble_eq_true rfl, Nat.le_of_ble_eq_true rfl⟩ dX10_advice_112 ?_
      refine x_push O ?_
      refine x_iald O hf rfl dX10_advice_115 (fun j2 hf => ?_)
      refine x_iconst O (v := 1) dX10_advice_116 (by decide) ?_
      refine x_isub O dX10_advice_117 ?_
      refine x_icmp_ne O 125 hf dX10_advice_118 (by decide) (fun hf => ?_) (fun hf => ?_)
      · exact x_jmp O (v_M_advice_125 O (σ := σ2) (v1 := v1) (v2 := v2) (v3 := v3)  hf hk) rfl
      · exact x_jmp O (v_M_advice_121 O (σ := σ2) (v2 := v2) (v3 := v3)  hf hk) rfl
set_option maxHeartbeats 4000000 in
set_option maxRecDepth 100000 in
theorem v_M_advice_34_b {Γ : Cx} {ad : Nat → Nat} {rr : Int32} {σr : Mm} (O : Ok LM Γ ad cX10_advice 6 RX10 wsX10_advice rm_X10_advice (some .int) (some (.int rr)) σr) {σ : Mm} {v1 : Int32} {v2 : Int32} {v3 : Int32}  {x : (Mm × Int32 × Int32) ⊕ (Int32 × Mm)} (hf : f_M_advice_34_b v2 σ v1 v3 = some x) (hk : (kx (fun s : Mm × Int32 × Int32 => X LM Γ ad s.1 34 [(0, .ref (ad 0)), (1, .int s.2.1), (2, .int v2), (3, .int s.2.2)] []) (fun q : Int32 × Mm => q = (rr, σr))) x) : X LM Γ ad σ 34 [(0, .ref (ad 0)), (1, .int v1), (2, .int v2), (3, .int v3)] [] := by
  unfold f_M_advice_34_b at hf
  refine x_iload_n O 3 dX10_advice_34 rfl rfl ?_
  refine x_if_lt O 133 hf dX10_advice_35 (by decide) (fun hf => ?_) (fun hf => ?_)
  · obtain ⟨x', hg1, hx⟩ := map_inr hf
    subst hx
    have hk := kx_r hk
    have hx : x' = (rr, σr) := hk
    subst hx
    have hf := hg1
    refine x_iload_n O 1 dX10_advice_133 rfl rfl ?_
    have hk : (v1, σ) = (rr, σr) := Option.some.inj hf
    obtain ⟨rfl, rfl⟩ := Prod.mk.inj hk
    exact x_iret O rfl rfl ⟨_, rfl, rfl⟩ dX10_advice_134
  · refine x_aload_n O 0 dX10_advice_38 rfl rfl ?_
    refine x_aload_n O 0 dX10_advice_39 rfl rfl ?_
    refine x_getF O (t := 4) fl_X10_advice_19 rfl dX10_advice_40 ?_
    refine x_iconst O (v := 0) dX10_advice_43 (by decide) ?_
    refine x_iald O hf rfl dX10_advice_44 (fun j1 hf => ?_)
    refine x_aload_n O 0 dX10_advice_45 rfl rfl ?_
    refine x_getF O (t := 4) fl_X10_advice_19 rfl dX10_advice_46 ?_
    refine x_iconst O (v := 1) dX10_advice_49 (by decide) ?_
    refine x_iald O hf rfl dX10_advice_50 (fun j2 hf => ?_)
    refine x_iload_n O 3 dX10_advice_51 rfl rfl ?_
    obtain ⟨r_1, σ1, hc, hf⟩ := bd_some hf
    refine x_callV O (k_M_comesBy  hc) ca_X10_comesBy gX10_advice_X10_comesBy rfl ⟨_, _, _, _, rfl, rfl⟩ rfl rfl rfl (Nat.le_of_ble_eq_true rfl) ⟨Nat.le_of_ble_eq_true rfl, Nat.le_of_ble_eq_true rfl⟩ dX10_advice_52 ?_
    refine x_push O ?_
    refine x_istore O dX10_advice_55 (by decide) ?_
    refine x_iload O dX10_advice_57 rfl ?_
    refine x_iconst O (v := 3) dX10_advice_59 (by decide) ?_
    refine x_icmp_eq O 127 hf dX10_advice_60 (by decide) (fun hf => ?_) (fun hf => ?_)
    · refine x_iincN O hf dX10_advice_127 rfl rfl (by decide) (fun y1 hf => ?_)
      refine x_goto O 34 dX10_advice_130 (by decide) ?_
      obtain rfl := Option.some.inj hf
      have hk := kx_l hk
      exact x_jmp O hk rfl
    · refine x_aload_n O 0 dX10_advice_63 rfl rfl ?_
      refine x_iload O dX10_advice_64 rfl ?_
      refine x_aload_n O 0 dX10_advice_66 rfl rfl ?_
      refine x_getF O (t := 4) fl_X10_advice_19 rfl dX10_advice_67 ?_
      refine x_iconst O (v := 2) dX10_advice_70 (by decide) ?_
      refine x_iald O hf rfl dX10_advice_71 (fun j3 hf => ?_)
      obtain ⟨r_2, σ2, hc, hf⟩ := bd_some hf
      refine x_callV O (k_M_winnerBehind  hc) ca_X10_winnerBehind gX10_advice_X10_winnerBehind rfl ⟨_, _, _, _, rfl, rfl⟩ rfl rfl rfl (Nat.le_of_ble_eq_true rfl) ⟨Nat.le_of_ble_eq_true rfl, Nat.le_of_ble_eq_true rfl⟩ dX10_advice_72 ?_
      refine x_push O ?_
      refine x_iload_n O 2 dX10_advice_75 rfl rfl ?_
      refine x_icmp_ne O 83 hf dX10_advice_76 (by decide) (fun hf => ?_) (fun hf => ?_)
      · refine x_iconst O (v := 0) dX10_advice_83 (by decide) ?_
        exact x_jmp O (v_M_advice_84 O (σ := σ2) (v1 := v1) (v2 := v2) (v3 := v3) (v4 := r_1) (s0 := 0)  hf hk) rfl
      · refine x_iconst O (v := 1) dX10_advice_79 (by decide) ?_
        refine x_goto O 84 dX10_advice_80 (by decide) ?_
        exact x_jmp O (v_M_advice_84 O (σ := σ2) (v1 := v1) (v2 := v2) (v3 := v3) (v4 := r_1) (s0 := 1)  hf hk) rfl
set_option maxHeartbeats 4000000 in
set_option maxRecDepth 100000 in
theorem v_M_advice_34 {Γ : Cx} {ad : Nat → Nat} {rr : Int32} {σr : Mm} (O : Ok LM Γ ad cX10_advice 6 RX10 wsX10_advice rm_X10_advice (some .int) (some (.int rr)) σr) {σ : Mm} {v1 : Int32} {v2 : Int32} {v3 : Int32}  (hf : f_M_advice_34 σ v2 v1 v3 = some (rr, σr)) : X LM Γ ad σ 34 [(0, .ref (ad 0)), (1, .int v1), (2, .int v2), (3, .int v3)] [] := lpX (P := (fun s : Mm × Int32 × Int32 => X LM Γ ad s.1 34 [(0, .ref (ad 0)), (1, .int s.2.1), (2, .int v2), (3, .int s.2.2)] [])) (K := (fun q : Int32 × Mm => q = (rr, σr))) (fun s x g1 g2 => v_M_advice_34_b O (σ := s.1) (v2 := v2) (v1 := s.2.1) (v3 := s.2.2)  g1 g2) (σ, v1, v3) _ hf rfl
set_option maxHeartbeats 4000000 in
set_option maxRecDepth 100000 in
theorem v_M_advice {Γ : Cx} {ad : Nat → Nat} {rr : Int32} {σr : Mm} (O : Ok LM Γ ad cX10_advice 6 RX10 wsX10_advice rm_X10_advice (some .int) (some (.int rr)) σr) {σ : Mm}   (hf : f_M_advice σ = some (rr, σr)) : X LM Γ ad σ 0 [(0, .ref (ad 0))] [] := by
  unfold f_M_advice at hf
  refine x_aload_n O 0 dX10_advice_0 rfl rfl ?_
  refine x_iconst O (v := 0) dX10_advice_1 (by decide) ?_
  refine x_putIN O hf rfl rfl fl_X10_advice_56 rfl dX10_advice_2 (fun σ1 hf => ?_)
  refine x_aload_n O 0 dX10_advice_5 rfl rfl ?_
  obtain ⟨r_1, σ2, hc, hf⟩ := bd_some hf
  refine x_callV O (k_M_hasStart  hc) ca_X10_hasStart gX10_advice_X10_hasStart rfl ⟨_, _, _, _, rfl, rfl⟩ rfl rfl rfl (Nat.le_of_ble_eq_true rfl) ⟨Nat.le_of_ble_eq_true rfl, Nat.le_of_ble_eq_true rfl⟩ dX10_advice_6 ?_
  refine x_push O ?_
  refine x_if_ne O 15 hf dX10_advice_9 (by decide) (fun hf => ?_) (fun hf => ?_)
  · refine x_aload_n O 0 dX10_advice_15 rfl rfl ?_
    obtain ⟨r_2, σ3, hc, hf⟩ := bd_some hf
    refine x_callV O (k_M_plays  hc) ca_X10_plays gX10_advice_X10_plays rfl ⟨_, _, _, _, rfl, rfl⟩ rfl rfl rfl (Nat.le_of_ble_eq_true rfl) ⟨Nat.le_of_ble_eq_true rfl, Nat.le_of_ble_eq_true rfl⟩ dX10_advice_16 ?_
    refine x_pushN O ?_
    refine x_bipush O (v := -9) dX10_advice_19 (by decide) ?_
    refine x_istore_n O 1 dX10_advice_21 rfl (by decide) ?_
    refine x_aload_n O 0 dX10_advice_22 rfl rfl ?_
    refine x_getF O (t := 9) fl_X10_advice_35 rfl dX10_advice_23 ?_
    refine x_aload_n O 0 dX10_advice_26 rfl rfl ?_
    obtain ⟨r_3, σ4, hc, hf⟩ := bd_some hf
    refine x_callV O (k_M_here  hc) ca_X10_here gX10_advice_X10_here rfl ⟨_, _, _, _, rfl, rfl⟩ rfl rfl rfl (Nat.le_of_ble_eq_true rfl) ⟨Nat.le_of_ble_eq_true rfl, Nat.le_of_ble_eq_true rfl⟩ dX10_advice_27 ?_
    refine x_push O ?_
    refine x_iald O hf rfl dX10_advice_30 (fun j1 hf => ?_)
    refine x_istore_nN O 2 hf dX10_advice_31 rfl (by decide) (fun y1 hf => ?_)
    refine x_iconst O (v := 3) dX10_advice_32 (by decide) ?_
    refine x_istore_n O 3 dX10_advice_33 rfl (by decide) ?_
    exact x_jmp O (v_M_advice_34 O (σ := σ4) (v1 := (-9)) (v2 := y1) (v3 := 3)  hf) rfl
  · refine x_bipush O (v := -2) dX10_advice_12 (by decide) ?_
    have hk : ((-2), σ2) = (rr, σr) := Option.some.inj hf
    obtain ⟨rfl, rfl⟩ := Prod.mk.inj hk
    exact x_iret O rfl rfl ⟨_, rfl, rfl⟩ dX10_advice_14
theorem k_M_advice {σ σr : Mm} {rr : Int32}   (hf : f_M_advice σ = some (rr, σr)) : CT LM yX10_advice wsX10_advice rm_X10_advice (fun ad => [.ref (ad 0)]) σ (some (.int rr)) σr := CT_of2 (cc := cX10_advice) (maxL := 6) (rt := (some .int)) (own := RX10) (by decide) rfl rfl (fun _ => Nat.le_of_ble_eq_true rfl) (fun _ => rfl) (fun Γ ad O => v_M_advice O  hf)

-- ===== TippedBarrowModel.hurries(I)V
theorem ca_X10_hurries : Ca yX10_hurries cX10_hurries 9 none wsX10_hurries rm_X10_hurries 1 := ⟨⟨_, rfl⟩, rfl, rfl, by decide +kernel, by decide +kernel, by decide +kernel⟩
theorem in_X10_hurries_X10 : ∀ w ∈ wsX100, w ∈ wsX10_hurries := by decide +kernel
theorem fl_X10_hurries_41 : Fl RX10 wsX10_hurries 41 10 25 true (.array .int) := ⟨_, _, _, tyX10, rfl, in_X10_hurries_X10, by decide, by decide +kernel, tyX10_ok, nmX10, rfl, tyX10_ok 25 (by decide)⟩
theorem fl_X10_hurries_144 : Fl RX10 wsX10_hurries 144 10 21 false .int := ⟨_, _, _, tyX10, rfl, in_X10_hurries_X10, by decide, by decide +kernel, tyX10_ok, nmX10, rfl, tyX10_ok 21 (by decide)⟩
theorem fl_X10_hurries_147 : Fl RX10 wsX10_hurries 147 10 22 false .int := ⟨_, _, _, tyX10, rfl, in_X10_hurries_X10, by decide, by decide +kernel, tyX10_ok, nmX10, rfl, tyX10_ok 22 (by decide)⟩
set_option maxHeartbeats 4000000 in
set_option maxRecDepth 100000 in
theorem v_M_hurries_227 {Γ : Cx} {ad : Nat → Nat} {rr : Int32} {σr : Mm} (O : Ok LM Γ ad cX10_hurries 9 RX10 wsX10_hurries rm_X10_hurries none none σr) {σ : Mm} {v1 : Int32} {v3 : Int32} {s0 : Int32}  {x : (Mm × Int32 × Int32) ⊕ (Int32 × Mm)} (hf : f_M_hurries_227 σ v3 s0 = some x) (hk : (kx (fun s : Mm × Int32 × Int32 => X LM Γ ad s.1 27 [(0, .ref (ad 0)), (1, .int v1), (2, .int s.2.1), (3, .int s.2.2)] []) (fun q : Int32 × Mm => q = (rr, σr))) x) : X LM Γ ad σ 227 [(0, .ref (ad 0)), (1, .int v1), (3, .int v3)] [.int s0] := by
  unfold f_M_hurries_227 at hf
  refine x_istore_n O 2 dX10_hurries_227 rfl (by decide) ?_
  refine x_iincN O hf dX10_hurries_228 rfl rfl (by decide) (fun y1 hf => ?_)
  refine x_goto O 27 dX10_hurries_231 (by decide) ?_
  obtain rfl := Option.some.inj hf
  have hk := kx_l hk
  exact x_jmp O hk rfl
set_option maxHeartbeats 4000000 in
set_option maxRecDepth 100000 in
theorem v_M_hurries_222 {Γ : Cx} {ad : Nat → Nat} {rr : Int32} {σr : Mm} (O : Ok LM Γ ad cX10_hurries 9 RX10 wsX10_hurries rm_X10_hurries none none σr) {σ : Mm} {v1 : Int32} {v3 : Int32}  {x : (Mm × Int32 × Int32) ⊕ (Int32 × Mm)} (hf : f_M_hurries_222 σ v3 = some x) (hk : (kx (fun s : Mm × Int32 × Int32 => X LM Γ ad s.1 27 [(0, .ref (ad 0)), (1, .int v1), (2, .int s.2.1), (3, .int s.2.2)] []) (fun q : Int32 × Mm => q = (rr, σr))) x) : X LM Γ ad σ 222 [(0, .ref (ad 0)), (1, .int v1), (3, .int v3)] [] := by
  unfold f_M_hurries_222 at hf
  refine x_iconst O (v := 1) dX10_hurries_222 (by decide) ?_
  refine x_goto O 227 dX10_hurries_223 (by decide) ?_
  exact x_jmp O (v_M_hurries_227 O (σ := σ) (v1 := v1) (v3 := v3) (s0 := 1)  hf hk) rfl
set_option maxHeartbeats 4000000 in
set_option maxRecDepth 100000 in
theorem v_M_hurries_213 {Γ : Cx} {ad : Nat → Nat} {rr : Int32} {σr : Mm} (O : Ok LM Γ ad cX10_hurries 9 RX10 wsX10_hurries rm_X10_hurries none none σr) {σ : Mm} {v1 : Int32} {v2 : Int32} {v3 : Int32}  {x : (Mm × Int32 × Int32) ⊕ (Int32 × Mm)} (hf : f_M_hurries_213 σ v2 v3 = some x) (hk : (kx (fun s : Mm × Int32 × Int32 => X LM Γ ad s.1 27 [(0, .ref (ad 0)), (1, .int v1), (2, .int s.2.1), (3, .int s.2.2)] []) (fun q : Int32 × Mm => q = (rr, σr))) x) : X LM Γ ad σ 213 [(0, .ref (ad 0)), (1, .int v1), (2, .int v2), (3, .int v3)] [] := by
  unfold f_M_hurries_213 at hf
  refine x_iload_n O 2 dX10_hurries_213 rfl rfl ?_
  refine x_if_ne O 222 hf dX10_hurries_214 (by decide) (fun hf => ?_) (fun hf => ?_)
  · exact x_jmp O (v_M_hurries_222 O (σ := σ) (v1 := v1) (v3 := v3)  hf hk) rfl
  · refine x_iload_n O 3 dX10_hurries_217 rfl rfl ?_
    refine x_iconst O (v := 1) dX10_hurries_218 (by decide) ?_
    refine x_icmp_ne O 226 hf dX10_hurries_219 (by decide) (fun hf => ?_) (fun hf => ?_)
    · refine x_iconst O (v := 0) dX10_hurries_226 (by decide) ?_
      exact x_jmp O (v_M_hurries_227 O (σ := σ) (v1 := v1) (v3 := v3) (s0 := 0)  hf hk) rfl
    · exact x_jmp O (v_M_hurries_222 O (σ := σ) (v1 := v1) (v3 := v3)  hf hk) rfl
set_option maxHeartbeats 4000000 in
set_option maxRecDepth 100000 in
theorem v_M_hurries_200 {Γ : Cx} {ad : Nat → Nat} {rr : Int32} {σr : Mm} (O : Ok LM Γ ad cX10_hurries 9 RX10 wsX10_hurries rm_X10_hurries none none σr) {σ : Mm} {v1 : Int32} {v3 : Int32} {v4 : Int32} {v5 : Int32} {v6 : Int32} {s0 : Int32}  {x : (Mm × Int32 × Int32) ⊕ ((Mm × Int32 × Int32) ⊕ ((Mm × Int32 × Int32) ⊕ (Int32 × Mm)))} (hf : f_M_hurries_200 σ v6 s0 = some x) (hk : (kx (fun s : Mm × Int32 × Int32 => X LM Γ ad s.1 54 [(0, .ref (ad 0)), (1, .int v1), (2, .int s.2.1), (3, .int v3), (4, .int v4), (5, .int v5), (6, .int s.2.2)] []) (kx (fun s : Mm × Int32 × Int32 => X LM Γ ad s.1 36 [(0, .ref (ad 0)), (1, .int v1), (2, .int s.2.1), (3, .int v3), (4, .int s.2.2)] []) (kx (fun s : Mm × Int32 × Int32 => X LM Γ ad s.1 27 [(0, .ref (ad 0)), (1, .int v1), (2, .int s.2.1), (3, .int s.2.2)] []) (fun q : Int32 × Mm => q = (rr, σr))))) x) : X LM Γ ad σ 200 [(0, .ref (ad 0)), (1, .int v1), (3, .int v3), (4, .int v4), (5, .int v5), (6, .int v6)] [.int s0] := by
  unfold f_M_hurries_200 at hf
  refine x_istore_n O 2 dX10_hurries_200 rfl (by decide) ?_
  refine x_iincN O hf dX10_hurries_201 rfl rfl (by decide) (fun y1 hf => ?_)
  refine x_goto O 54 dX10_hurries_204 (by decide) ?_
  obtain rfl := Option.some.inj hf
  have hk := kx_l hk
  exact x_jmp O hk rfl
set_option maxHeartbeats 4000000 in
set_option maxRecDepth 100000 in
theorem v_M_hurries_195 {Γ : Cx} {ad : Nat → Nat} {rr : Int32} {σr : Mm} (O : Ok LM Γ ad cX10_hurries 9 RX10 wsX10_hurries rm_X10_hurries none none σr) {σ : Mm} {v1 : Int32} {v3 : Int32} {v4 : Int32} {v5 : Int32} {v6 : Int32}  {x : (Mm × Int32 × Int32) ⊕ ((Mm × Int32 × Int32) ⊕ ((Mm × Int32 × Int32) ⊕ (Int32 × Mm)))} (hf : f_M_hurries_195 σ v6 = some x) (hk : (kx (fun s : Mm × Int32 × Int32 => X LM Γ ad s.1 54 [(0, .ref (ad 0)), (1, .int v1), (2, .int s.2.1), (3, .int v3), (4, .int v4), (5, .int v5), (6, .int s.2.2)] []) (kx (fun s : Mm × Int32 × Int32 => X LM Γ ad s.1 36 [(0, .ref (ad 0)), (1, .int v1), (2, .int s.2.1), (3, .int v3), (4, .int s.2.2)] []) (kx (fun s : Mm × Int32 × Int32 => X LM Γ ad s.1 27 [(0, .ref (ad 0)), (1, .int v1), (2, .int s.2.1), (3, .int s.2.2)] []) (fun q : Int32 × Mm => q = (rr, σr))))) x) : X LM Γ ad σ 195 [(0, .ref (ad 0)), (1, .int v1), (3, .int v3), (4, .int v4), (5, .int v5), (6, .int v6)] [] := by
  unfold f_M_hurries_195 at hf
  refine x_iconst O (v := 1) dX10_hurries_195 (by decide) ?_
  refine x_goto O 200 dX10_hurries_196 (by decide) ?_
  exact x_jmp O (v_M_hurries_200 O (σ := σ) (v1 := v1) (v3 := v3) (v4 := v4) (v5 := v5) (v6 := v6) (s0 := 1)  hf hk) rfl
set_option maxHeartbeats 4000000 in
set_option maxRecDepth 100000 in
theorem v_M_hurries_185 {Γ : Cx} {ad : Nat → Nat} {rr : Int32} {σr : Mm} (O : Ok LM Γ ad cX10_hurries 9 RX10 wsX10_hurries rm_X10_hurries none none σr) {σ : Mm} {v1 : Int32} {v2 : Int32} {v3 : Int32} {v4 : Int32} {v5 : Int32} {v6 : Int32} {v8 : Int32} {s1 : Int32} {s2 : Int32}  {x : (Mm × Int32 × Int32) ⊕ ((Mm × Int32 × Int32) ⊕ ((Mm × Int32 × Int32) ⊕ (Int32 × Mm)))} (hf : f_M_hurries_185 σ v2 v6 v8 s1 s2 = some x) (hk : (kx (fun s : Mm × Int32 × Int32 => X LM Γ ad s.1 54 [(0, .ref (ad 0)), (1, .int v1), (2, .int s.2.1), (3, .int v3), (4, .int v4), (5, .int v5), (6, .int s.2.2)] []) (kx (fun s : Mm × Int32 × Int32 => X LM Γ ad s.1 36 [(0, .ref (ad 0)), (1, .int v1), (2, .int s.2.1), (3, .int v3), (4, .int s.2.2)] []) (kx (fun s : Mm × Int32 × Int32 => X LM Γ ad s.1 27 [(0, .ref (ad 0)), (1, .int v1), (2, .int s.2.1), (3, .int s.2.2)] []) (fun q : Int32 × Mm => q = (rr, σr))))) x) : X LM Γ ad σ 185 [(0, .ref (ad 0)), (1, .int v1), (2, .int v2), (3, .int v3), (4, .int v4), (5, .int v5), (6, .int v6), (8, .int v8)] [.int s2, .int s1, .ref (ad 11)] := by
  unfold f_M_hurries_185 at hf
  refine x_iastN O hf rfl dX10_hurries_185 (fun σ1 hf => ?_)
  refine x_iload_n O 2 dX10_hurries_186 rfl rfl ?_
  refine x_if_ne O 195 hf dX10_hurries_187 (by decide) (fun hf => ?_) (fun hf => ?_)
  · exact x_jmp O (v_M_hurries_195 O (σ := σ1) (v1 := v1) (v3 := v3) (v4 := v4) (v5 := v5) (v6 := v6)  hf hk) rfl
  · refine x_iload O dX10_hurries_190 rfl ?_
    refine x_if_eq O 199 hf dX10_hurries_192 (by decide) (fun hf => ?_) (fun hf => ?_)
    · refine x_iconst O (v := 0) dX10_hurries_199 (by decide) ?_
      exact x_jmp O (v_M_hurries_200 O (σ := σ1) (v1 := v1) (v3 := v3) (v4 := v4) (v5 := v5) (v6 := v6) (s0 := 0)  hf hk) rfl
    · exact x_jmp O (v_M_hurries_195 O (σ := σ1) (v1 := v1) (v3 := v3) (v4 := v4) (v5 := v5) (v6 := v6)  hf hk) rfl
set_option maxHeartbeats 4000000 in
set_option maxRecDepth 100000 in
theorem v_M_hurries_161 {Γ : Cx} {ad : Nat → Nat} {rr : Int32} {σr : Mm} (O : Ok LM Γ ad cX10_hurries 9 RX10 wsX10_hurries rm_X10_hurries none none σr) {σ : Mm} {v1 : Int32} {v2 : Int32} {v3 : Int32} {v4 : Int32} {v5 : Int32} {v6 : Int32} {s0 : Int32}  {x : (Mm × Int32 × Int32) ⊕ ((Mm × Int32 × Int32) ⊕ ((Mm × Int32 × Int32) ⊕ (Int32 × Mm)))} (hf : f_M_hurries_161 σ v2 v3 v4 v6 s0 = some x) (hk : (kx (fun s : Mm × Int32 × Int32 => X LM Γ ad s.1 54 [(0, .ref (ad 0)), (1, .int v1), (2, .int s.2.1), (3, .int v3), (4, .int v4), (5, .int v5), (6, .int s.2.2)] []) (kx (fun s : Mm × Int32 × Int32 => X LM Γ ad s.1 36 [(0, .ref (ad 0)), (1, .int v1), (2, .int s.2.1), (3, .int v3), (4, .int s.2.2)] []) (kx (fun s : Mm × Int32 × Int32 => X LM Γ ad s.1 27 [(0, .ref (ad 0)), (1, .int v1), (2, .int s.2.1), (3, .int s.2.2)] []) (fun q : Int32 × Mm => q = (rr, σr))))) x) : X LM Γ ad σ 161 [(0, .ref (ad 0)), (1, .int v1), (2, .int v2), (3, .int v3), (4, .int v4), (5, .int v5), (6, .int v6)] [.int s0] := by
  unfold f_M_hurries_161 at hf
  refine x_istore O dX10_hurries_161 (by decide) ?_
  refine x_aload_n O 0 dX10_hurries_163 rfl rfl ?_
  refine x_getF O (t := 11) fl_X10_hurries_41 rfl dX10_hurries_164 ?_
  refine x_iload O dX10_hurries_167 rfl ?_
  refine x_iload O dX10_hurries_169 rfl ?_
  refine x_if_eq O 178 hf dX10_hurries_171 (by decide) (fun hf => ?_) (fun hf => ?_)
  · refine x_aload_n O 0 dX10_hurries_178 rfl rfl ?_
    refine x_getF O (t := 11) fl_X10_hurries_41 rfl dX10_hurries_179 ?_
    refine x_iload O dX10_hurries_182 rfl ?_
    refine x_iald O hf rfl dX10_hurries_184 (fun j1 hf => ?_)
    exact x_jmp O (v_M_hurries_185 O (σ := σ) (v1 := v1) (v2 := v2) (v3 := v3) (v4 := v4) (v5 := v5) (v6 := v6) (v8 := s0) (s1 := v4) (s2 := (gA σ 11 j1))  hf hk) rfl
  · refine x_iload_n O 3 dX10_hurries_174 rfl rfl ?_
    refine x_goto O 185 dX10_hurries_175 (by decide) ?_
    exact x_jmp O (v_M_hurries_185 O (σ := σ) (v1 := v1) (v2 := v2) (v3 := v3) (v4 := v4) (v5 := v5) (v6 := v6) (v8 := s0) (s1 := v4) (s2 := v3)  hf hk) rfl
set_option maxHeartbeats 4000000 in
set_option maxRecDepth 100000 in
theorem v_M_hurries_160 {Γ : Cx} {ad : Nat → Nat} {rr : Int32} {σr : Mm} (O : Ok LM Γ ad cX10_hurries 9 RX10 wsX10_hurries rm_X10_hurries none none σr) {σ : Mm} {v1 : Int32} {v2 : Int32} {v3 : Int32} {v4 : Int32} {v5 : Int32} {v6 : Int32}  {x : (Mm × Int32 × Int32) ⊕ ((Mm × Int32 × Int32) ⊕ ((Mm × Int32 × Int32) ⊕ (Int32 × Mm)))} (hf : f_M_hurries_160 σ v2 v3 v4 v6 = some x) (hk : (kx (fun s : Mm × Int32 × Int32 => X LM Γ ad s.1 54 [(0, .ref (ad 0)), (1, .int v1), (2, .int s.2.1), (3, .int v3), (4, .int v4), (5, .int v5), (6, .int s.2.2)] []) (kx (fun s : Mm × Int32 × Int32 => X LM Γ ad s.1 36 [(0, .ref (ad 0)), (1, .int v1), (2, .int s.2.1), (3, .int v3), (4, .int s.2.2)] []) (kx (fun s : Mm × Int32 × Int32 => X LM Γ ad s.1 27 [(0, .ref (ad 0)), (1, .int v1), (2, .int s.2.1), (3, .int s.2.2)] []) (fun q : Int32 × Mm => q = (rr, σr))))) x) : X LM Γ ad σ 160 [(0, .ref (ad 0)), (1, .int v1), (2, .int v2), (3, .int v3), (4, .int v4), (5, .int v5), (6, .int v6)] [] := by
  unfold f_M_hurries_160 at hf
  refine x_iconst O (v := 0) dX10_hurries_160 (by decide) ?_
  exact x_jmp O (v_M_hurries_161 O (σ := σ) (v1 := v1) (v2 := v2) (v3 := v3) (v4 := v4) (v5 := v5) (v6 := v6) (s0 := 0)  hf hk) rfl
set_option maxHeartbeats 4000000 in
set_option maxRecDepth 100000 in
theorem v_M_hurries_54_b {Γ : Cx} {ad : Nat → Nat} {rr : Int32} {σr : Mm} (O : Ok LM Γ ad cX10_hurries 9 RX10 wsX10_hurries rm_X10_hurries none none σr) {σ : Mm} {v1 : Int32} {v2 : Int32} {v3 : Int32} {v4 : Int32} {v5 : Int32} {v6 : Int32}  {x : (Mm × Int32 × Int32) ⊕ ((Mm × Int32 × Int32) ⊕ ((Mm × Int32 × Int32) ⊕ (Int32 × Mm)))} (hf : f_M_hurries_54_b v1 v3 v4 v5 σ v2 v6 = some x) (hk : (kx (fun s : Mm × Int32 × Int32 => X LM Γ ad s.1 54 [(0, .ref (ad 0)), (1, .int v1), (2, .int s.2.1), (3, .int v3), (4, .int v4), (5, .int v5), (6, .int s.2.2)] []) (kx (fun s : Mm × Int32 × Int32 => X LM Γ ad s.1 36 [(0, .ref (ad 0)), (1, .int v1), (2, .int s.2.1), (3, .int v3), (4, .int s.2.2)] []) (kx (fun s : Mm × Int32 × Int32 => X LM Γ ad s.1 27 [(0, .ref (ad 0)), (1, .int v1), (2, .int s.2.1), (3, .int s.2.2)] []) (fun q : Int32 × Mm => q = (rr, σr))))) x) : X LM Γ ad σ 54 [(0, .ref (ad 0)), (1, .int v1), (2, .int v2), (3, .int v3), (4, .int v4), (5, .int v5), (6, .int v6)] [] := by
  unfold f_M_hurries_54_b at hf
  refine x_iload O dX10_hurries_54 rfl ?_
  refine x_iconst O (v := 4) dX10_hurries_56 (by decide) ?_
  refine x_icmp_ge O 207 hf dX10_hurries_57 (by decide) (fun hf => ?_) (fun hf => ?_)
  · obtain ⟨x', hg1, hx⟩ := map_inr hf
    subst hx
    have hk := kx_r hk
    have hf := hg1
    refine x_iincN O hf dX10_hurries_207 rfl rfl (by decide) (fun y1 hf => ?_)
    refine x_goto O 36 dX10_hurries_210 (by decide) ?_
    obtain rfl := Option.some.inj hf
    have hk := kx_l hk
    exact x_jmp O hk rfl
  · refine x_aload_n O 0 dX10_hurries_60 rfl rfl ?_
    refine x_getF O (t := 11) fl_X10_hurries_41 rfl dX10_hurries_61 ?_
    refine x_iload O dX10_hurries_64 rfl ?_
    refine x_iald O hf rfl dX10_hurries_66 (fun j1 hf => ?_)
    refine x_bipush O (v := -9) dX10_hurries_67 (by decide) ?_
    refine x_icmp_ne O 207 hf dX10_hurries_69 (by decide) (fun hf => ?_) (fun hf => ?_)
    · obtain ⟨x', hg2, hx⟩ := map_inr hf
      subst hx
      have hk := kx_r hk
      have hf := hg2
      refine x_iincN O hf dX10_hurries_207 rfl rfl (by decide) (fun y2 hf => ?_)
      refine x_goto O 36 dX10_hurries_210 (by decide) ?_
      obtain rfl := Option.some.inj hf
      have hk := kx_l hk
      exact x_jmp O hk rfl
    · refine x_aload_n O 0 dX10_hurries_72 rfl rfl ?_
      refine x_iload O dX10_hurries_73 rfl ?_
      refine x_iconst O (v := 5) dX10_hurries_75 (by decide) ?_
      refine x_iremK O (by decide) dX10_hurries_76 ?_
      refine x_iload O dX10_hurries_77 rfl ?_
      refine x_iconst O (v := 5) dX10_hurries_79 (by decide) ?_
      refine x_idivK O (by decide) dX10_hurries_80 ?_
      obtain ⟨r_1, σ1, hc, hf⟩ := bd_some hf
      refine x_callV O (k_M_isGround  hc) ca_X10_isGround gX10_hurries_X10_isGround rfl ⟨_, _, _, _, rfl, rfl⟩ rfl rfl rfl (Nat.le_of_ble_eq_true rfl) ⟨Nat.le_of_ble_eq_true rfl, Nat.le_of_ble_eq_true rfl⟩ dX10_hurries_81 ?_
      refine x_push O ?_
      refine x_if_eq O 207 hf dX10_hurries_84 (by decide) (fun hf => ?_) (fun hf => ?_)
      · obtain ⟨x', hg3, hx⟩ := map_inr hf
        subst hx
        have hk := kx_r hk
        have hf := hg3
        refine x_iincN O hf dX10_hurries_207 rfl rfl (by decide) (fun y3 hf => ?_)
        refine x_goto O 36 dX10_hurries_210 (by decide) ?_
        obtain rfl := Option.some.inj hf
        have hk := kx_l hk
        exact x_jmp O hk rfl
      · refine x_aload_n O 0 dX10_hurries_87 rfl rfl ?_
        refine x_iload O dX10_hurries_88 rfl ?_
        refine x_iload O dX10_hurries_90 rfl ?_
        refine x_bipush O (v := 17) dX10_hurries_92 (by decide) ?_
        refine x_iremK O (by decide) dX10_hurries_94 ?_
        refine x_bipush O (v := 8) dX10_hurries_95 (by decide) ?_
        refine x_isub O dX10_hurries_97 ?_
        refine x_iload O dX10_hurries_98 rfl ?_
        obtain ⟨r_2, σ2, hc, hf⟩ := bd_some hf
        refine x_callV O (k_M_comesBy  hc) ca_X10_comesBy gX10_hurries_X10_comesBy rfl ⟨_, _, _, _, rfl, rfl⟩ rfl rfl rfl (Nat.le_of_ble_eq_true rfl) ⟨Nat.le_of_ble_eq_true rfl, Nat.le_of_ble_eq_true rfl⟩ dX10_hurries_100 ?_
        refine x_push O ?_
        refine x_istore O dX10_hurries_103 (by decide) ?_
        refine x_iload O dX10_hurries_105 rfl ?_
        refine x_iload_n O 1 dX10_hurries_107 rfl rfl ?_
        refine x_icmp_ne O 124 hf dX10_hurries_108 (by decide) (fun hf => ?_) (fun hf => ?_)
        · refine x_iload O dX10_hurries_124 rfl ?_
          refine x_if_ne O 160 hf dX10_hurries_126 (by decide) (fun hf => ?_) (fun hf => ?_)
          · exact x_jmp O (v_M_hurries_160 O (σ := σ2) (v1 := v1) (v2 := v2) (v3 := v3) (v4 := v4) (v5 := v5) (v6 := v6)  hf hk) rfl
          · refine x_iload_n O 3 dX10_hurries_129 rfl rfl ?_
            refine x_iconst O (v := 1) dX10_hurries_130 (by decide) ?_
            refine x_icmp_le O 160 hf dX10_hurries_131 (by decide) (fun hf => ?_) (fun hf => ?_)
            · exact x_jmp O (v_M_hurries_160 O (σ := σ2) (v1 := v1) (v2 := v2) (v3 := v3) (v4 := v4) (v5 := v5) (v6 := v6)  hf hk) rfl
            · refine x_aload_n O 0 dX10_hurries_134 rfl rfl ?_
              refine x_getF O (t := 11) fl_X10_hurries_41 rfl dX10_hurries_135 ?_
              refine x_aload_n O 0 dX10_hurries_138 rfl rfl ?_
              refine x_getI O fl_X10_hurries_144 rfl dX10_hurries_139 ?_
              refine x_aload_n O 0 dX10_hurries_142 rfl rfl ?_
              refine x_getI O fl_X10_hurries_147 rfl dX10_hurries_143 ?_
              obtain ⟨r_3, σ3, hc, hf⟩ := bd_some hf
              refine x_callS O (k_M_spot  hc) ca_X10_spot gX10_hurries_X10_spot rfl rfl rfl (Nat.le_of_ble_eq_true rfl) ⟨Nat.le_of_ble_eq_true rfl, Nat.le_of_ble_eq_true rfl⟩ dX10_hurries_146 ?_
              refine x_push O ?_
              refine x_iald O hf rfl dX10_hurries_149 (fun j2 hf => ?_)
              refine x_iload_n O 3 dX10_hurries_150 rfl rfl ?_
              refine x_iconst O (v := 1) dX10_hurries_151 (by decide) ?_
              refine x_isub O dX10_hurries_152 ?_
              refine x_icmp_ne O 160 hf dX10_hurries_153 (by decide) (fun hf => ?_) (fun hf => ?_)
              · exact x_jmp O (v_M_hurries_160 O (σ := σ3) (v1 := v1) (v2 := v2) (v3 := v3) (v4 := v4) (v5 := v5) (v6 := v6)  hf hk) rfl
              · refine x_iconst O (v := 1) dX10_hurries_156 (by decide) ?_
                refine x_goto O 161 dX10_hurries_157 (by decide) ?_
                exact x_jmp O (v_M_hurries_161 O (σ := σ3) (v1 := v1) (v2 := v2) (v3 := v3) (v4 := v4) (v5 := v5) (v6 := v6) (s0 := 1)  hf hk) rfl
        · refine x_iload_n O 3 dX10_hurries_111 rfl rfl ?_
          refine x_iconst O (v := 1) dX10_hurries_112 (by decide) ?_
          refine x_icmp_ne O 120 hf dX10_hurries_113 (by decide) (fun hf => ?_) (fun hf => ?_)
          · refine x_iconst O (v := 0) dX10_hurries_120 (by decide) ?_
            refine x_goto O 161 dX10_hurries_121 (by decide) ?_
            exact x_jmp O (v_M_hurries_161 O (σ := σ2) (v1 := v1) (v2 := v2) (v3 := v3) (v4 := v4) (v5 := v5) (v6 := v6) (s0 := 0)  hf hk) rfl
          · refine x_iconst O (v := 1) dX10_hurries_116 (by decide) ?_
            refine x_goto O 161 dX10_hurries_117 (by decide) ?_
            exact x_jmp O (v_M_hurries_161 O (σ := σ2) (v1 := v1) (v2 := v2) (v3 := v3) (v4 := v4) (v5 := v5) (v6 := v6) (s0 := 1)  hf hk) rfl
set_option maxHeartbeats 4000000 in
set_option maxRecDepth 100000 in
theorem v_M_hurries_54 {Γ : Cx} {ad : Nat → Nat} {rr : Int32} {σr : Mm} (O : Ok LM Γ ad cX10_hurries 9 RX10 wsX10_hurries rm_X10_hurries none none σr) {σ : Mm} {v1 : Int32} {v2 : Int32} {v3 : Int32} {v4 : Int32} {v5 : Int32} {v6 : Int32}  {x : (Mm × Int32 × Int32) ⊕ ((Mm × Int32 × Int32) ⊕ (Int32 × Mm))} (hf : f_M_hurries_54 σ v1 v3 v4 v5 v2 v6 = some x) (hk : (kx (fun s : Mm × Int32 × Int32 => X LM Γ ad s.1 36 [(0, .ref (ad 0)), (1, .int v1), (2, .int s.2.1), (3, .int v3), (4, .int s.2.2)] []) (kx (fun s : Mm × Int32 × Int32 => X LM Γ ad s.1 27 [(0, .ref (ad 0)), (1, .int v1), (2, .int s.2.1), (3, .int s.2.2)] []) (fun q : Int32 × Mm => q = (rr, σr)))) x) : X LM Γ ad σ 54 [(0, .ref (ad 0)), (1, .int v1), (2, .int v2), (3, .int v3), (4, .int v4), (5, .int v5), (6, .int v6)] [] := lpX (P := (fun s : Mm × Int32 × Int32 => X LM Γ ad s.1 54 [(0, .ref (ad 0)), (1, .int v1), (2, .int s.2.1), (3, .int v3), (4, .int v4), (5, .int v5), (6, .int s.2.2)] [])) (K := (kx (fun s : Mm × Int32 × Int32 => X LM Γ ad s.1 36 [(0, .ref (ad 0)), (1, .int v1), (2, .int s.2.1), (3, .int v3), (4, .int s.2.2)] []) (kx (fun s : Mm × Int32 × Int32 => X LM Γ ad s.1 27 [(0, .ref (ad 0)), (1, .int v1), (2, .int s.2.1), (3, .int s.2.2)] []) (fun q : Int32 × Mm => q = (rr, σr))))) (fun s x g1 g2 => v_M_hurries_54_b O (σ := s.1) (v1 := v1) (v3 := v3) (v4 := v4) (v5 := v5) (v2 := s.2.1) (v6 := s.2.2)  g1 g2) (σ, v2, v6) _ hf hk
set_option maxHeartbeats 4000000 in
set_option maxRecDepth 100000 in
theorem v_M_hurries_36_b {Γ : Cx} {ad : Nat → Nat} {rr : Int32} {σr : Mm} (O : Ok LM Γ ad cX10_hurries 9 RX10 wsX10_hurries rm_X10_hurries none none σr) {σ : Mm} {v1 : Int32} {v2 : Int32} {v3 : Int32} {v4 : Int32}  {x : (Mm × Int32 × Int32) ⊕ ((Mm × Int32 × Int32) ⊕ (Int32 × Mm))} (hf : f_M_hurries_36_b v1 v3 σ v2 v4 = some x) (hk : (kx (fun s : Mm × Int32 × Int32 => X LM Γ ad s.1 36 [(0, .ref (ad 0)), (1, .int v1), (2, .int s.2.1), (3, .int v3), (4, .int s.2.2)] []) (kx (fun s : Mm × Int32 × Int32 => X LM Γ ad s.1 27 [(0, .ref (ad 0)), (1, .int v1), (2, .int s.2.1), (3, .int s.2.2)] []) (fun q : Int32 × Mm => q = (rr, σr)))) x) : X LM Γ ad σ 36 [(0, .ref (ad 0)), (1, .int v1), (2, .int v2), (3, .int v3), (4, .int v4)] [] := by
  unfold f_M_hurries_36_b at hf
  refine x_iload O dX10_hurries_36 rfl ?_
  refine x_sipush O (v := 340) dX10_hurries_38 (by decide) ?_
  refine x_icmp_ge O 213 hf dX10_hurries_41 (by decide) (fun hf => ?_) (fun hf => ?_)
  · obtain ⟨x', hg1, hx⟩ := map_inr hf
    subst hx
    have hk := kx_r hk
    have hf := hg1
    exact x_jmp O (v_M_hurries_213 O (σ := σ) (v1 := v1) (v2 := v2) (v3 := v3)  hf hk) rfl
  · refine x_iload O dX10_hurries_44 rfl ?_
    refine x_bipush O (v := 17) dX10_hurries_46 (by decide) ?_
    refine x_idivK O (by decide) dX10_hurries_48 ?_
    refine x_istoreN O hf dX10_hurries_49 (by decide) (fun y1 hf => ?_)
    refine x_iconst O (v := 0) dX10_hurries_51 (by decide) ?_
    refine x_istore O dX10_hurries_52 (by decide) ?_
    exact x_jmp O (v_M_hurries_54 O (σ := σ) (v1 := v1) (v2 := v2) (v3 := v3) (v4 := v4) (v5 := y1) (v6 := 0)  hf hk) rfl
set_option maxHeartbeats 4000000 in
set_option maxRecDepth 100000 in
theorem v_M_hurries_36 {Γ : Cx} {ad : Nat → Nat} {rr : Int32} {σr : Mm} (O : Ok LM Γ ad cX10_hurries 9 RX10 wsX10_hurries rm_X10_hurries none none σr) {σ : Mm} {v1 : Int32} {v2 : Int32} {v3 : Int32} {v4 : Int32}  {x : (Mm × Int32 × Int32) ⊕ (Int32 × Mm)} (hf : f_M_hurries_36 σ v1 v3 v2 v4 = some x) (hk : (kx (fun s : Mm × Int32 × Int32 => X LM Γ ad s.1 27 [(0, .ref (ad 0)), (1, .int v1), (2, .int s.2.1), (3, .int s.2.2)] []) (fun q : Int32 × Mm => q = (rr, σr))) x) : X LM Γ ad σ 36 [(0, .ref (ad 0)), (1, .int v1), (2, .int v2), (3, .int v3), (4, .int v4)] [] := lpX (P := (fun s : Mm × Int32 × Int32 => X LM Γ ad s.1 36 [(0, .ref (ad 0)), (1, .int v1), (2, .int s.2.1), (3, .int v3), (4, .int s.2.2)] [])) (K := (kx (fun s : Mm × Int32 × Int32 => X LM Γ ad s.1 27 [(0, .ref (ad 0)), (1, .int v1), (2, .int s.2.1), (3, .int s.2.2)] []) (fun q : Int32 × Mm => q = (rr, σr)))) (fun s x g1 g2 => v_M_hurries_36_b O (σ := s.1) (v1 := v1) (v3 := v3) (v2 := s.2.1) (v4 := s.2.2)  g1 g2) (σ, v2, v4) _ hf hk
set_option maxHeartbeats 4000000 in
set_option maxRecDepth 100000 in
theorem v_M_hurries_27_b {Γ : Cx} {ad : Nat → Nat} {rr : Int32} {σr : Mm} (O : Ok LM Γ ad cX10_hurries 9 RX10 wsX10_hurries rm_X10_hurries none none σr) {σ : Mm} {v1 : Int32} {v2 : Int32} {v3 : Int32}  {x : (Mm × Int32 × Int32) ⊕ (Int32 × Mm)} (hf : f_M_hurries_27_b v1 σ v2 v3 = some x) (hk : (kx (fun s : Mm × Int32 × Int32 => X LM Γ ad s.1 27 [(0, .ref (ad 0)), (1, .int v1), (2, .int s.2.1), (3, .int s.2.2)] []) (fun q : Int32 × Mm => q = (rr, σr))) x) : X LM Γ ad σ 27 [(0, .ref (ad 0)), (1, .int v1), (2, .int v2), (3, .int v3)] [] := by
  unfold f_M_hurries_27_b at hf
  refine x_iload_n O 2 dX10_hurries_27 rfl rfl ?_
  refine x_if_eq O 234 hf dX10_hurries_28 (by decide) (fun hf => ?_) (fun hf => ?_)
  · obtain ⟨x', hg1, hx⟩ := map_inr hf
    subst hx
    have hk := kx_r hk
    have hx : x' = (rr, σr) := hk
    subst hx
    have hf := hg1
    have hk : ((0 : Int32), σ) = (rr, σr) := Option.some.inj hf
    obtain ⟨rfl, rfl⟩ := Prod.mk.inj hk
    exact x_vret O rfl rfl rfl dX10_hurries_234
  · refine x_iconst O (v := 0) dX10_hurries_31 (by decide) ?_
    refine x_istore_n O 2 dX10_hurries_32 rfl (by decide) ?_
    refine x_iconst O (v := 0) dX10_hurries_33 (by decide) ?_
    refine x_istore O dX10_hurries_34 (by decide) ?_
    exact x_jmp O (v_M_hurries_36 O (σ := σ) (v1 := v1) (v2 := 0) (v3 := v3) (v4 := 0)  hf hk) rfl
set_option maxHeartbeats 4000000 in
set_option maxRecDepth 100000 in
theorem v_M_hurries_27 {Γ : Cx} {ad : Nat → Nat} {rr : Int32} {σr : Mm} (O : Ok LM Γ ad cX10_hurries 9 RX10 wsX10_hurries rm_X10_hurries none none σr) {σ : Mm} {v1 : Int32} {v2 : Int32} {v3 : Int32}  (hf : f_M_hurries_27 σ v1 v2 v3 = some (rr, σr)) : X LM Γ ad σ 27 [(0, .ref (ad 0)), (1, .int v1), (2, .int v2), (3, .int v3)] [] := lpX (P := (fun s : Mm × Int32 × Int32 => X LM Γ ad s.1 27 [(0, .ref (ad 0)), (1, .int v1), (2, .int s.2.1), (3, .int s.2.2)] [])) (K := (fun q : Int32 × Mm => q = (rr, σr))) (fun s x g1 g2 => v_M_hurries_27_b O (σ := s.1) (v1 := v1) (v2 := s.2.1) (v3 := s.2.2)  g1 g2) (σ, v2, v3) _ hf rfl
set_option maxHeartbeats 4000000 in
set_option maxRecDepth 100000 in
theorem v_M_hurries_23 {Γ : Cx} {ad : Nat → Nat} {rr : Int32} {σr : Mm} (O : Ok LM Γ ad cX10_hurries 9 RX10 wsX10_hurries rm_X10_hurries none none σr) {σ : Mm} {v1 : Int32}  (hf : f_M_hurries_23 σ v1 = some (rr, σr)) : X LM Γ ad σ 23 [(0, .ref (ad 0)), (1, .int v1)] [] := by
  unfold f_M_hurries_23 at hf
  refine x_iconst O (v := 1) dX10_hurries_23 (by decide) ?_
  refine x_istore_n O 2 dX10_hurries_24 rfl (by decide) ?_
  refine x_iconst O (v := 1) dX10_hurries_25 (by decide) ?_
  refine x_istore_n O 3 dX10_hurries_26 rfl (by decide) ?_
  exact x_jmp O (v_M_hurries_27 O (σ := σ) (v1 := v1) (v2 := 1) (v3 := 1)  hf) rfl
set_option maxHeartbeats 4000000 in
set_option maxRecDepth 100000 in
theorem v_M_hurries_2_b {Γ : Cx} {ad : Nat → Nat} {rr : Int32} {σr : Mm} (O : Ok LM Γ ad cX10_hurries 9 RX10 wsX10_hurries rm_X10_hurries none none σr) {σ : Mm} {v1 : Int32} {v2 : Int32}  {x : (Mm × Int32) ⊕ (Int32 × Mm)} (hf : f_M_hurries_2_b v1 σ v2 = some x) (hk : (kx (fun s : Mm × Int32 => X LM Γ ad s.1 2 [(0, .ref (ad 0)), (1, .int v1), (2, .int s.2)] []) (fun q : Int32 × Mm => q = (rr, σr))) x) : X LM Γ ad σ 2 [(0, .ref (ad 0)), (1, .int v1), (2, .int v2)] [] := by
  unfold f_M_hurries_2_b at hf
  refine x_iload_n O 2 dX10_hurries_2 rfl rfl ?_
  refine x_sipush O (v := 340) dX10_hurries_3 (by decide) ?_
  refine x_icmp_ge O 23 hf dX10_hurries_6 (by decide) (fun hf => ?_) (fun hf => ?_)
  · obtain ⟨x', hg1, hx⟩ := map_inr hf
    subst hx
    have hk := kx_r hk
    have hx : x' = (rr, σr) := hk
    subst hx
    have hf := hg1
    exact x_jmp O (v_M_hurries_23 O (σ := σ) (v1 := v1)  hf) rfl
  · refine x_aload_n O 0 dX10_hurries_9 rfl rfl ?_
    refine x_getF O (t := 11) fl_X10_hurries_41 rfl dX10_hurries_10 ?_
    refine x_iload_n O 2 dX10_hurries_13 rfl rfl ?_
    refine x_bipush O (v := -9) dX10_hurries_14 (by decide) ?_
    refine x_iastN O hf rfl dX10_hurries_16 (fun σ1 hf => ?_)
    refine x_iincN O hf dX10_hurries_17 rfl rfl (by decide) (fun y1 hf => ?_)
    refine x_goto O 2 dX10_hurries_20 (by decide) ?_
    obtain rfl := Option.some.inj hf
    have hk := kx_l hk
    exact x_jmp O hk rfl
set_option maxHeartbeats 4000000 in
set_option maxRecDepth 100000 in
theorem v_M_hurries_2 {Γ : Cx} {ad : Nat → Nat} {rr : Int32} {σr : Mm} (O : Ok LM Γ ad cX10_hurries 9 RX10 wsX10_hurries rm_X10_hurries none none σr) {σ : Mm} {v1 : Int32} {v2 : Int32}  (hf : f_M_hurries_2 σ v1 v2 = some (rr, σr)) : X LM Γ ad σ 2 [(0, .ref (ad 0)), (1, .int v1), (2, .int v2)] [] := lpX (P := (fun s : Mm × Int32 => X LM Γ ad s.1 2 [(0, .ref (ad 0)), (1, .int v1), (2, .int s.2)] [])) (K := (fun q : Int32 × Mm => q = (rr, σr))) (fun s x g1 g2 => v_M_hurries_2_b O (σ := s.1) (v1 := v1) (v2 := s.2)  g1 g2) (σ, v2) _ hf rfl
set_option maxHeartbeats 4000000 in
set_option maxRecDepth 100000 in
theorem v_M_hurries {Γ : Cx} {ad : Nat → Nat} {rr : Int32} {σr : Mm} (O : Ok LM Γ ad cX10_hurries 9 RX10 wsX10_hurries rm_X10_hurries none none σr) {σ : Mm} {v1 : Int32}  (hf : f_M_hurries σ v1 = some (rr, σr)) : X LM Γ ad σ 0 [(0, .ref (ad 0)), (1, .int v1)] [] := by
  unfold f_M_hurries at hf
  refine x_iconst O (v := 0) dX10_hurries_0 (by decide) ?_
  refine x_istore_n O 2 dX10_hurries_1 rfl (by decide) ?_
  exact x_jmp O (v_M_hurries_2 O (σ := σ) (v1 := v1) (v2 := 0)  hf) rfl
theorem k_M_hurries {σ σr : Mm} {rr : Int32} {v1 : Int32}  (hf : f_M_hurries σ v1 = some (rr, σr)) : CT LM yX10_hurries wsX10_hurries rm_X10_hurries (fun ad => [.ref (ad 0), .int v1]) σ none σr := CT_of2 (cc := cX10_hurries) (maxL := 9) (rt := none) (own := RX10) (by decide) rfl rfl (fun _ => Nat.le_of_ble_eq_true rfl) (fun _ => rfl) (fun Γ ad O => v_M_hurries O  hf)

-- ===== TippedBarrowModel.soonest(II)I
theorem ca_X10_soonest : Ca yX10_soonest cX10_soonest 11 (some .int) wsX10_soonest rm_X10_soonest 2 := ⟨⟨_, rfl⟩, rfl, rfl, by decide +kernel, by decide +kernel, by decide +kernel⟩
theorem in_X10_soonest_X10 : ∀ w ∈ wsX100, w ∈ wsX10_soonest := by decide +kernel
theorem fl_X10_soonest_19 : Fl RX10 wsX10_soonest 19 10 14 true (.array .int) := ⟨_, _, _, tyX10, rfl, in_X10_soonest_X10, by decide, by decide +kernel, tyX10_ok, nmX10, rfl, tyX10_ok 14 (by decide)⟩
theorem fl_X10_soonest_41 : Fl RX10 wsX10_soonest 41 10 25 true (.array .int) := ⟨_, _, _, tyX10, rfl, in_X10_soonest_X10, by decide, by decide +kernel, tyX10_ok, nmX10, rfl, tyX10_ok 25 (by decide)⟩
theorem fl_X10_soonest_56 : Fl RX10 wsX10_soonest 56 10 0 false .int := ⟨_, _, _, tyX10, rfl, in_X10_soonest_X10, by decide, by decide +kernel, tyX10_ok, nmX10, rfl, tyX10_ok 0 (by decide)⟩
theorem fl_X10_soonest_144 : Fl RX10 wsX10_soonest 144 10 21 false .int := ⟨_, _, _, tyX10, rfl, in_X10_soonest_X10, by decide, by decide +kernel, tyX10_ok, nmX10, rfl, tyX10_ok 21 (by decide)⟩
theorem fl_X10_soonest_147 : Fl RX10 wsX10_soonest 147 10 22 false .int := ⟨_, _, _, tyX10, rfl, in_X10_soonest_X10, by decide, by decide +kernel, tyX10_ok, nmX10, rfl, tyX10_ok 22 (by decide)⟩
set_option maxHeartbeats 4000000 in
set_option maxRecDepth 100000 in
theorem v_M_soonest_185 {Γ : Cx} {ad : Nat → Nat} {rr : Int32} {σr : Mm} (O : Ok LM Γ ad cX10_soonest 11 RX10 wsX10_soonest rm_X10_soonest (some .int) (some (.int rr)) σr) {σ : Mm} {v1 : Int32} {v2 : Int32} {v3 : Int32} {v4 : Int32} {v5 : Int32} {v6 : Int32} {v7 : Int32}  {x : (Mm × Int32 × Int32 × Int32 × Int32) ⊕ (Int32 × Mm)} (hf : f_M_soonest_185 σ v2 v3 v4 v5 v6 v7 = some x) (hk : (kx (fun s : Mm × Int32 × Int32 × Int32 × Int32 => X LM Γ ad s.1 82 [(0, .ref (ad 0)), (1, .int v1), (2, .int v2), (3, .int s.2.1), (4, .int s.2.2.1), (5, .int s.2.2.2.1), (6, .int s.2.2.2.2)] []) (fun q : Int32 × Mm => q = (rr, σr))) x) : X LM Γ ad σ 185 [(0, .ref (ad 0)), (1, .int v1), (2, .int v2), (3, .int v3), (4, .int v4), (5, .int v5), (6, .int v6), (7, .int v7)] [] := by
  unfold f_M_soonest_185 at hf
  refine x_iload O dX10_soonest_185 rfl ?_
  refine x_iload_n O 2 dX10_soonest_187 rfl rfl ?_
  refine x_icmp_ne O 194 hf dX10_soonest_188 (by decide) (fun hf => ?_) (fun hf => ?_)
  · refine x_aload_n O 0 dX10_soonest_194 rfl rfl ?_
    refine x_iload_n O 3 dX10_soonest_195 rfl rfl ?_
    refine x_iload O dX10_soonest_196 rfl ?_
    refine x_iload O dX10_soonest_198 rfl ?_
    obtain ⟨r_1, σ1, hc, hf⟩ := bd_some hf
    refine x_callV O (k_M_comesBy  hc) ca_X10_comesBy gX10_soonest_X10_comesBy rfl ⟨_, _, _, _, rfl, rfl⟩ rfl rfl rfl (Nat.le_of_ble_eq_true rfl) ⟨Nat.le_of_ble_eq_true rfl, Nat.le_of_ble_eq_true rfl⟩ dX10_soonest_200 ?_
    refine x_push O ?_
    refine x_pop O dX10_soonest_203 rfl ?_
    refine x_aload_n O 0 dX10_soonest_204 rfl rfl ?_
    refine x_getI O fl_X10_soonest_144 rfl dX10_soonest_205 ?_
    refine x_istore_nN O 3 hf dX10_soonest_208 rfl (by decide) (fun y1 hf => ?_)
    refine x_aload_n O 0 dX10_soonest_209 rfl rfl ?_
    refine x_getI O fl_X10_soonest_147 rfl dX10_soonest_210 ?_
    refine x_istoreN O hf dX10_soonest_213 (by decide) (fun y2 hf => ?_)
    refine x_iincN O hf dX10_soonest_215 rfl rfl (by decide) (fun y3 hf => ?_)
    refine x_iincN O hf dX10_soonest_218 rfl rfl (by decide) (fun y4 hf => ?_)
    refine x_goto O 82 dX10_soonest_221 (by decide) ?_
    obtain rfl := Option.some.inj hf
    have hk := kx_l hk
    exact x_jmp O hk rfl
  · obtain ⟨x', hg1, hx⟩ := map_inr hf
    subst hx
    have hk := kx_r hk
    have hx : x' = (rr, σr) := hk
    subst hx
    have hf := hg1
    refine x_iload O dX10_soonest_191 rfl ?_
    have hk : (v7, σ) = (rr, σr) := Option.some.inj hf
    obtain ⟨rfl, rfl⟩ := Prod.mk.inj hk
    exact x_iret O rfl rfl ⟨_, rfl, rfl⟩ dX10_soonest_193
set_option maxHeartbeats 4000000 in
set_option maxRecDepth 100000 in
theorem v_M_soonest_177 {Γ : Cx} {ad : Nat → Nat} {rr : Int32} {σr : Mm} (O : Ok LM Γ ad cX10_soonest 11 RX10 wsX10_soonest rm_X10_soonest (some .int) (some (.int rr)) σr) {σ : Mm} {v1 : Int32} {v2 : Int32} {v3 : Int32} {v4 : Int32} {v5 : Int32} {v6 : Int32} {v8 : Int32} {s0 : Int32}  {x : (Mm × Int32 × Int32) ⊕ ((Mm × Int32 × Int32 × Int32 × Int32) ⊕ (Int32 × Mm))} (hf : f_M_soonest_177 σ v8 s0 = some x) (hk : (kx (fun s : Mm × Int32 × Int32 => X LM Γ ad s.1 94 [(0, .ref (ad 0)), (1, .int v1), (2, .int v2), (3, .int v3), (4, .int v4), (5, .int v5), (6, .int v6), (7, .int s.2.1), (8, .int s.2.2)] []) (kx (fun s : Mm × Int32 × Int32 × Int32 × Int32 => X LM Γ ad s.1 82 [(0, .ref (ad 0)), (1, .int v1), (2, .int v2), (3, .int s.2.1), (4, .int s.2.2.1), (5, .int s.2.2.2.1), (6, .int s.2.2.2.2)] []) (fun q : Int32 × Mm => q = (rr, σr)))) x) : X LM Γ ad σ 177 [(0, .ref (ad 0)), (1, .int v1), (2, .int v2), (3, .int v3), (4, .int v4), (5, .int v5), (6, .int v6), (8, .int v8)] [.int s0] := by
  unfold f_M_soonest_177 at hf
  refine x_istore O dX10_soonest_177 (by decide) ?_
  refine x_iincN O hf dX10_soonest_179 rfl rfl (by decide) (fun y1 hf => ?_)
  refine x_goto O 94 dX10_soonest_182 (by decide) ?_
  obtain rfl := Option.some.inj hf
  have hk := kx_l hk
  exact x_jmp O hk rfl
set_option maxHeartbeats 4000000 in
set_option maxRecDepth 100000 in
theorem v_M_soonest_163 {Γ : Cx} {ad : Nat → Nat} {rr : Int32} {σr : Mm} (O : Ok LM Γ ad cX10_soonest 11 RX10 wsX10_soonest rm_X10_soonest (some .int) (some (.int rr)) σr) {σ : Mm} {v1 : Int32} {v2 : Int32} {v3 : Int32} {v4 : Int32} {v5 : Int32} {v6 : Int32} {v7 : Int32} {v8 : Int32} {s0 : Int32}  {x : (Mm × Int32 × Int32) ⊕ ((Mm × Int32 × Int32 × Int32 × Int32) ⊕ (Int32 × Mm))} (hf : f_M_soonest_163 σ v7 v8 s0 = some x) (hk : (kx (fun s : Mm × Int32 × Int32 => X LM Γ ad s.1 94 [(0, .ref (ad 0)), (1, .int v1), (2, .int v2), (3, .int v3), (4, .int v4), (5, .int v5), (6, .int v6), (7, .int s.2.1), (8, .int s.2.2)] []) (kx (fun s : Mm × Int32 × Int32 × Int32 × Int32 => X LM Γ ad s.1 82 [(0, .ref (ad 0)), (1, .int v1), (2, .int v2), (3, .int s.2.1), (4, .int s.2.2.1), (5, .int s.2.2.2.1), (6, .int s.2.2.2.2)] []) (fun q : Int32 × Mm => q = (rr, σr)))) x) : X LM Γ ad σ 163 [(0, .ref (ad 0)), (1, .int v1), (2, .int v2), (3, .int v3), (4, .int v4), (5, .int v5), (6, .int v6), (7, .int v7), (8, .int v8)] [.int s0] := by
  unfold f_M_soonest_163 at hf
  refine x_istore O dX10_soonest_163 (by decide) ?_
  refine x_iload O dX10_soonest_165 rfl ?_
  refine x_if_eq O 175 hf dX10_soonest_167 (by decide) (fun hf => ?_) (fun hf => ?_)
  · refine x_iload O dX10_soonest_175 rfl ?_
    exact x_jmp O (v_M_soonest_177 O (σ := σ) (v1 := v1) (v2 := v2) (v3 := v3) (v4 := v4) (v5 := v5) (v6 := v6) (v8 := v8) (s0 := v7)  hf hk) rfl
  · refine x_iload O dX10_soonest_170 rfl ?_
    refine x_goto O 177 dX10_soonest_172 (by decide) ?_
    exact x_jmp O (v_M_soonest_177 O (σ := σ) (v1 := v1) (v2 := v2) (v3 := v3) (v4 := v4) (v5 := v5) (v6 := v6) (v8 := v8) (s0 := v8)  hf hk) rfl
set_option maxHeartbeats 4000000 in
set_option maxRecDepth 100000 in
theorem v_M_soonest_162 {Γ : Cx} {ad : Nat → Nat} {rr : Int32} {σr : Mm} (O : Ok LM Γ ad cX10_soonest 11 RX10 wsX10_soonest rm_X10_soonest (some .int) (some (.int rr)) σr) {σ : Mm} {v1 : Int32} {v2 : Int32} {v3 : Int32} {v4 : Int32} {v5 : Int32} {v6 : Int32} {v7 : Int32} {v8 : Int32}  {x : (Mm × Int32 × Int32) ⊕ ((Mm × Int32 × Int32 × Int32 × Int32) ⊕ (Int32 × Mm))} (hf : f_M_soonest_162 σ v7 v8 = some x) (hk : (kx (fun s : Mm × Int32 × Int32 => X LM Γ ad s.1 94 [(0, .ref (ad 0)), (1, .int v1), (2, .int v2), (3, .int v3), (4, .int v4), (5, .int v5), (6, .int v6), (7, .int s.2.1), (8, .int s.2.2)] []) (kx (fun s : Mm × Int32 × Int32 × Int32 × Int32 => X LM Γ ad s.1 82 [(0, .ref (ad 0)), (1, .int v1), (2, .int v2), (3, .int s.2.1), (4, .int s.2.2.1), (5, .int s.2.2.2.1), (6, .int s.2.2.2.2)] []) (fun q : Int32 × Mm => q = (rr, σr)))) x) : X LM Γ ad σ 162 [(0, .ref (ad 0)), (1, .int v1), (2, .int v2), (3, .int v3), (4, .int v4), (5, .int v5), (6, .int v6), (7, .int v7), (8, .int v8)] [] := by
  unfold f_M_soonest_162 at hf
  refine x_iconst O (v := 0) dX10_soonest_162 (by decide) ?_
  exact x_jmp O (v_M_soonest_163 O (σ := σ) (v1 := v1) (v2 := v2) (v3 := v3) (v4 := v4) (v5 := v5) (v6 := v6) (v7 := v7) (v8 := v8) (s0 := 0)  hf hk) rfl
set_option maxHeartbeats 4000000 in
set_option maxRecDepth 100000 in
theorem v_M_soonest_94_b {Γ : Cx} {ad : Nat → Nat} {rr : Int32} {σr : Mm} (O : Ok LM Γ ad cX10_soonest 11 RX10 wsX10_soonest rm_X10_soonest (some .int) (some (.int rr)) σr) {σ : Mm} {v1 : Int32} {v2 : Int32} {v3 : Int32} {v4 : Int32} {v5 : Int32} {v6 : Int32} {v7 : Int32} {v8 : Int32}  {x : (Mm × Int32 × Int32) ⊕ ((Mm × Int32 × Int32 × Int32 × Int32) ⊕ (Int32 × Mm))} (hf : f_M_soonest_94_b v1 v2 v3 v4 v5 v6 σ v7 v8 = some x) (hk : (kx (fun s : Mm × Int32 × Int32 => X LM Γ ad s.1 94 [(0, .ref (ad 0)), (1, .int v1), (2, .int v2), (3, .int v3), (4, .int v4), (5, .int v5), (6, .int v6), (7, .int s.2.1), (8, .int s.2.2)] []) (kx (fun s : Mm × Int32 × Int32 × Int32 × Int32 => X LM Γ ad s.1 82 [(0, .ref (ad 0)), (1, .int v1), (2, .int v2), (3, .int s.2.1), (4, .int s.2.2.1), (5, .int s.2.2.2.1), (6, .int s.2.2.2.2)] []) (fun q : Int32 × Mm => q = (rr, σr)))) x) : X LM Γ ad σ 94 [(0, .ref (ad 0)), (1, .int v1), (2, .int v2), (3, .int v3), (4, .int v4), (5, .int v5), (6, .int v6), (7, .int v7), (8, .int v8)] [] := by
  unfold f_M_soonest_94_b at hf
  refine x_iload O dX10_soonest_94 rfl ?_
  refine x_if_lt O 185 hf dX10_soonest_96 (by decide) (fun hf => ?_) (fun hf => ?_)
  · obtain ⟨x', hg1, hx⟩ := map_inr hf
    subst hx
    have hk := kx_r hk
    have hf := hg1
    exact x_jmp O (v_M_soonest_185 O (σ := σ) (v1 := v1) (v2 := v2) (v3 := v3) (v4 := v4) (v5 := v5) (v6 := v6) (v7 := v7)  hf hk) rfl
  · refine x_aload_n O 0 dX10_soonest_99 rfl rfl ?_
    refine x_iload_n O 3 dX10_soonest_100 rfl rfl ?_
    refine x_iload O dX10_soonest_101 rfl ?_
    refine x_iload O dX10_soonest_103 rfl ?_
    obtain ⟨r_1, σ1, hc, hf⟩ := bd_some hf
    refine x_callV O (k_M_comesBy  hc) ca_X10_comesBy gX10_soonest_X10_comesBy rfl ⟨_, _, _, _, rfl, rfl⟩ rfl rfl rfl (Nat.le_of_ble_eq_true rfl) ⟨Nat.le_of_ble_eq_true rfl, Nat.le_of_ble_eq_true rfl⟩ dX10_soonest_105 ?_
    refine x_push O ?_
    refine x_istore O dX10_soonest_108 (by decide) ?_
    refine x_iload O dX10_soonest_110 rfl ?_
    refine x_iconst O (v := 1) dX10_soonest_112 (by decide) ?_
    refine x_icmp_ne O 130 hf dX10_soonest_113 (by decide) (fun hf => ?_) (fun hf => ?_)
    · refine x_iload O dX10_soonest_130 rfl ?_
      refine x_if_ne O 162 hf dX10_soonest_132 (by decide) (fun hf => ?_) (fun hf => ?_)
      · exact x_jmp O (v_M_soonest_162 O (σ := σ1) (v1 := v1) (v2 := v2) (v3 := v3) (v4 := v4) (v5 := v5) (v6 := v6) (v7 := v7) (v8 := v8)  hf hk) rfl
      · refine x_aload_n O 0 dX10_soonest_135 rfl rfl ?_
        refine x_getF O (t := 11) fl_X10_soonest_41 rfl dX10_soonest_136 ?_
        refine x_aload_n O 0 dX10_soonest_139 rfl rfl ?_
        refine x_getI O fl_X10_soonest_144 rfl dX10_soonest_140 ?_
        refine x_aload_n O 0 dX10_soonest_143 rfl rfl ?_
        refine x_getI O fl_X10_soonest_147 rfl dX10_soonest_144 ?_
        obtain ⟨r_2, σ2, hc, hf⟩ := bd_some hf
        refine x_callS O (k_M_spot  hc) ca_X10_spot gX10_soonest_X10_spot rfl rfl rfl (Nat.le_of_ble_eq_true rfl) ⟨Nat.le_of_ble_eq_true rfl, Nat.le_of_ble_eq_true rfl⟩ dX10_soonest_147 ?_
        refine x_push O ?_
        refine x_iald O hf rfl dX10_soonest_150 (fun j1 hf => ?_)
        refine x_iload O dX10_soonest_151 rfl ?_
        refine x_iconst O (v := 1) dX10_soonest_153 (by decide) ?_
        refine x_isub O dX10_soonest_154 ?_
        refine x_icmp_ne O 162 hf dX10_soonest_155 (by decide) (fun hf => ?_) (fun hf => ?_)
        · exact x_jmp O (v_M_soonest_162 O (σ := σ2) (v1 := v1) (v2 := v2) (v3 := v3) (v4 := v4) (v5 := v5) (v6 := v6) (v7 := v7) (v8 := v8)  hf hk) rfl
        · refine x_iconst O (v := 1) dX10_soonest_158 (by decide) ?_
          refine x_goto O 163 dX10_soonest_159 (by decide) ?_
          exact x_jmp O (v_M_soonest_163 O (σ := σ2) (v1 := v1) (v2 := v2) (v3 := v3) (v4 := v4) (v5 := v5) (v6 := v6) (v7 := v7) (v8 := v8) (s0 := 1)  hf hk) rfl
    · refine x_iload O dX10_soonest_116 rfl ?_
      refine x_iload_n O 1 dX10_soonest_118 rfl rfl ?_
      refine x_icmp_ne O 126 hf dX10_soonest_119 (by decide) (fun hf => ?_) (fun hf => ?_)
      · refine x_iconst O (v := 0) dX10_soonest_126 (by decide) ?_
        refine x_goto O 163 dX10_soonest_127 (by decide) ?_
        exact x_jmp O (v_M_soonest_163 O (σ := σ1) (v1 := v1) (v2 := v2) (v3 := v3) (v4 := v4) (v5 := v5) (v6 := v6) (v7 := v7) (v8 := v8) (s0 := 0)  hf hk) rfl
      · refine x_iconst O (v := 1) dX10_soonest_122 (by decide) ?_
        refine x_goto O 163 dX10_soonest_123 (by decide) ?_
        exact x_jmp O (v_M_soonest_163 O (σ := σ1) (v1 := v1) (v2 := v2) (v3 := v3) (v4 := v4) (v5 := v5) (v6 := v6) (v7 := v7) (v8 := v8) (s0 := 1)  hf hk) rfl
set_option maxHeartbeats 4000000 in
set_option maxRecDepth 100000 in
theorem v_M_soonest_94 {Γ : Cx} {ad : Nat → Nat} {rr : Int32} {σr : Mm} (O : Ok LM Γ ad cX10_soonest 11 RX10 wsX10_soonest rm_X10_soonest (some .int) (some (.int rr)) σr) {σ : Mm} {v1 : Int32} {v2 : Int32} {v3 : Int32} {v4 : Int32} {v5 : Int32} {v6 : Int32} {v7 : Int32} {v8 : Int32}  {x : (Mm × Int32 × Int32 × Int32 × Int32) ⊕ (Int32 × Mm)} (hf : f_M_soonest_94 σ v1 v2 v3 v4 v5 v6 v7 v8 = some x) (hk : (kx (fun s : Mm × Int32 × Int32 × Int32 × Int32 => X LM Γ ad s.1 82 [(0, .ref (ad 0)), (1, .int v1), (2, .int v2), (3, .int s.2.1), (4, .int s.2.2.1), (5, .int s.2.2.2.1), (6, .int s.2.2.2.2)] []) (fun q : Int32 × Mm => q = (rr, σr))) x) : X LM Γ ad σ 94 [(0, .ref (ad 0)), (1, .int v1), (2, .int v2), (3, .int v3), (4, .int v4), (5, .int v5), (6, .int v6), (7, .int v7), (8, .int v8)] [] := lpX (P := (fun s : Mm × Int32 × Int32 => X LM Γ ad s.1 94 [(0, .ref (ad 0)), (1, .int v1), (2, .int v2), (3, .int v3), (4, .int v4), (5, .int v5), (6, .int v6), (7, .int s.2.1), (8, .int s.2.2)] [])) (K := (kx (fun s : Mm × Int32 × Int32 × Int32 × Int32 => X LM Γ ad s.1 82 [(0, .ref (ad 0)), (1, .int v1), (2, .int v2), (3, .int s.2.1), (4, .int s.2.2.1), (5, .int s.2.2.2.1), (6, .int s.2.2.2.2)] []) (fun q : Int32 × Mm => q = (rr, σr)))) (fun s x g1 g2 => v_M_soonest_94_b O (σ := s.1) (v1 := v1) (v2 := v2) (v3 := v3) (v4 := v4) (v5 := v5) (v6 := v6) (v7 := s.2.1) (v8 := s.2.2)  g1 g2) (σ, v7, v8) _ hf hk
set_option maxHeartbeats 4000000 in
set_option maxRecDepth 100000 in
theorem v_M_soonest_82_b {Γ : Cx} {ad : Nat → Nat} {rr : Int32} {σr : Mm} (O : Ok LM Γ ad cX10_soonest 11 RX10 wsX10_soonest rm_X10_soonest (some .int) (some (.int rr)) σr) {σ : Mm} {v1 : Int32} {v2 : Int32} {v3 : Int32} {v4 : Int32} {v5 : Int32} {v6 : Int32}  {x : (Mm × Int32 × Int32 × Int32 × Int32) ⊕ (Int32 × Mm)} (hf : f_M_soonest_82_b v1 v2 σ v3 v4 v5 v6 = some x) (hk : (kx (fun s : Mm × Int32 × Int32 × Int32 × Int32 => X LM Γ ad s.1 82 [(0, .ref (ad 0)), (1, .int v1), (2, .int v2), (3, .int s.2.1), (4, .int s.2.2.1), (5, .int s.2.2.2.1), (6, .int s.2.2.2.2)] []) (fun q : Int32 × Mm => q = (rr, σr))) x) : X LM Γ ad σ 82 [(0, .ref (ad 0)), (1, .int v1), (2, .int v2), (3, .int v3), (4, .int v4), (5, .int v5), (6, .int v6)] [] := by
  unfold f_M_soonest_82_b at hf
  refine x_iload O dX10_soonest_82 rfl ?_
  refine x_if_le O 224 hf dX10_soonest_84 (by decide) (fun hf => ?_) (fun hf => ?_)
  · obtain ⟨x', hg1, hx⟩ := map_inr hf
    subst hx
    have hk := kx_r hk
    have hx : x' = (rr, σr) := hk
    subst hx
    have hf := hg1
    refine x_bipush O (v := -5) dX10_soonest_224 (by decide) ?_
    have hk : ((-5), σ) = (rr, σr) := Option.some.inj hf
    obtain ⟨rfl, rfl⟩ := Prod.mk.inj hk
    exact x_iret O rfl rfl ⟨_, rfl, rfl⟩ dX10_soonest_226
  · refine x_bipush O (v := -9) dX10_soonest_87 (by decide) ?_
    refine x_istore O dX10_soonest_89 (by decide) ?_
    refine x_iconst O (v := 3) dX10_soonest_91 (by decide) ?_
    refine x_istore O dX10_soonest_92 (by decide) ?_
    exact x_jmp O (v_M_soonest_94 O (σ := σ) (v1 := v1) (v2 := v2) (v3 := v3) (v4 := v4) (v5 := v5) (v6 := v6) (v7 := (-9)) (v8 := 3)  hf hk) rfl
set_option maxHeartbeats 4000000 in
set_option maxRecDepth 100000 in
theorem v_M_soonest_82 {Γ : Cx} {ad : Nat → Nat} {rr : Int32} {σr : Mm} (O : Ok LM Γ ad cX10_soonest 11 RX10 wsX10_soonest rm_X10_soonest (some .int) (some (.int rr)) σr) {σ : Mm} {v1 : Int32} {v2 : Int32} {v3 : Int32} {v4 : Int32} {v5 : Int32} {v6 : Int32}  (hf : f_M_soonest_82 σ v1 v2 v3 v4 v5 v6 = some (rr, σr)) : X LM Γ ad σ 82 [(0, .ref (ad 0)), (1, .int v1), (2, .int v2), (3, .int v3), (4, .int v4), (5, .int v5), (6, .int v6)] [] := lpX (P := (fun s : Mm × Int32 × Int32 × Int32 × Int32 => X LM Γ ad s.1 82 [(0, .ref (ad 0)), (1, .int v1), (2, .int v2), (3, .int s.2.1), (4, .int s.2.2.1), (5, .int s.2.2.2.1), (6, .int s.2.2.2.2)] [])) (K := (fun q : Int32 × Mm => q = (rr, σr))) (fun s x g1 g2 => v_M_soonest_82_b O (σ := s.1) (v1 := v1) (v2 := v2) (v3 := s.2.1) (v4 := s.2.2.1) (v5 := s.2.2.2.1) (v6 := s.2.2.2.2)  g1 g2) (σ, v3, v4, v5, v6) _ hf rfl
set_option maxHeartbeats 4000000 in
set_option maxRecDepth 100000 in
theorem v_M_soonest {Γ : Cx} {ad : Nat → Nat} {rr : Int32} {σr : Mm} (O : Ok LM Γ ad cX10_soonest 11 RX10 wsX10_soonest rm_X10_soonest (some .int) (some (.int rr)) σr) {σ : Mm} {v1 : Int32} {v2 : Int32}  (hf : f_M_soonest σ v1 v2 = some (rr, σr)) : X LM Γ ad σ 0 [(0, .ref (ad 0)), (1, .int v1), (2, .int v2)] [] := by
  unfold f_M_soonest at hf
  refine x_aload_n O 0 dX10_soonest_0 rfl rfl ?_
  refine x_iconst O (v := 0) dX10_soonest_1 (by decide) ?_
  refine x_putIN O hf rfl rfl fl_X10_soonest_56 rfl dX10_soonest_2 (fun σ1 hf => ?_)
  refine x_iload_n O 1 dX10_soonest_5 rfl rfl ?_
  refine x_iconst O (v := 1) dX10_soonest_6 (by decide) ?_
  refine x_iconst O (v := 2) dX10_soonest_7 (by decide) ?_
  obtain ⟨r_1, σ2, hc, hf⟩ := bd_some hf
  refine x_callS O (k_M_in  hc) ca_X10_in gX10_soonest_X10_in rfl rfl rfl (Nat.le_of_ble_eq_true rfl) ⟨Nat.le_of_ble_eq_true rfl, Nat.le_of_ble_eq_true rfl⟩ dX10_soonest_8 ?_
  refine x_push O ?_
  refine x_if_eq O 19 hf dX10_soonest_11 (by decide) (fun hf => ?_) (fun hf => ?_)
  · refine x_iconst O (v := -1) dX10_soonest_19 (by decide) ?_
    have hk : ((-1), σ2) = (rr, σr) := Option.some.inj hf
    obtain ⟨rfl, rfl⟩ := Prod.mk.inj hk
    exact x_iret O rfl rfl ⟨_, rfl, rfl⟩ dX10_soonest_20
  · refine x_iload_n O 2 dX10_soonest_14 rfl rfl ?_
    refine x_iconst O (v := -1) dX10_soonest_15 (by decide) ?_
    refine x_icmp_ge O 21 hf dX10_soonest_16 (by decide) (fun hf => ?_) (fun hf => ?_)
    · refine x_aload_n O 0 dX10_soonest_21 rfl rfl ?_
      obtain ⟨r_2, σ3, hc, hf⟩ := bd_some hf
      refine x_callV O (k_M_hasStart  hc) ca_X10_hasStart gX10_soonest_X10_hasStart rfl ⟨_, _, _, _, rfl, rfl⟩ rfl rfl rfl (Nat.le_of_ble_eq_true rfl) ⟨Nat.le_of_ble_eq_true rfl, Nat.le_of_ble_eq_true rfl⟩ dX10_soonest_22 ?_
      refine x_push O ?_
      refine x_if_ne O 31 hf dX10_soonest_25 (by decide) (fun hf => ?_) (fun hf => ?_)
      · refine x_aload_n O 0 dX10_soonest_31 rfl rfl ?_
        refine x_iload_n O 1 dX10_soonest_32 rfl rfl ?_
        obtain ⟨r_3, σ4, hc, hf⟩ := bd_some hf
        refine x_callV O (k_M_hurries  hc) ca_X10_hurries gX10_soonest_X10_hurries rfl ⟨_, _, _, _, rfl, rfl⟩ rfl rfl rfl (Nat.le_of_ble_eq_true rfl) ⟨Nat.le_of_ble_eq_true rfl, Nat.le_of_ble_eq_true rfl⟩ dX10_soonest_33 ?_
        refine x_pushN O ?_
        refine x_aload_n O 0 dX10_soonest_36 rfl rfl ?_
        refine x_getF O (t := 4) fl_X10_soonest_19 rfl dX10_soonest_37 ?_
        refine x_iconst O (v := 0) dX10_soonest_40 (by decide) ?_
        refine x_iald O hf rfl dX10_soonest_41 (fun j1 hf => ?_)
        refine x_istore_nN O 3 hf dX10_soonest_42 rfl (by decide) (fun y1 hf => ?_)
        refine x_aload_n O 0 dX10_soonest_43 rfl rfl ?_
        refine x_getF O (t := 4) fl_X10_soonest_19 rfl dX10_soonest_44 ?_
        refine x_iconst O (v := 1) dX10_soonest_47 (by decide) ?_
        refine x_iald O hf rfl dX10_soonest_48 (fun j2 hf => ?_)
        refine x_istoreN O hf dX10_soonest_49 (by decide) (fun y2 hf => ?_)
        refine x_aload_n O 0 dX10_soonest_51 rfl rfl ?_
        refine x_getF O (t := 11) fl_X10_soonest_41 rfl dX10_soonest_52 ?_
        refine x_iload_n O 3 dX10_soonest_55 rfl rfl ?_
        refine x_iload O dX10_soonest_56 rfl ?_
        obtain ⟨r_4, σ5, hc, hf⟩ := bd_some hf
        refine x_callS O (k_M_spot  hc) ca_X10_spot gX10_soonest_X10_spot rfl rfl rfl (Nat.le_of_ble_eq_true rfl) ⟨Nat.le_of_ble_eq_true rfl, Nat.le_of_ble_eq_true rfl⟩ dX10_soonest_58 ?_
        refine x_push O ?_
        refine x_iald O hf rfl dX10_soonest_61 (fun j3 hf => ?_)
        refine x_istoreN O hf dX10_soonest_62 (by decide) (fun y3 hf => ?_)
        refine x_iload O dX10_soonest_64 rfl ?_
        refine x_bipush O (v := -9) dX10_soonest_66 (by decide) ?_
        refine x_icmp_eq O 76 hf dX10_soonest_68 (by decide) (fun hf => ?_) (fun hf => ?_)
        · refine x_iload O dX10_soonest_76 rfl ?_
          have hk : (y3, σ5) = (rr, σr) := Option.some.inj hf
          obtain ⟨rfl, rfl⟩ := Prod.mk.inj hk
          exact x_iret O rfl rfl ⟨_, rfl, rfl⟩ dX10_soonest_78
        · refine x_iload_n O 2 dX10_soonest_71 rfl rfl ?_
          refine x_iconst O (v := -1) dX10_soonest_72 (by decide) ?_
          refine x_icmp_ne O 79 hf dX10_soonest_73 (by decide) (fun hf => ?_) (fun hf => ?_)
          · refine x_iconst O (v := 0) dX10_soonest_79 (by decide) ?_
            refine x_istore O dX10_soonest_80 (by decide) ?_
            exact x_jmp O (v_M_soonest_82 O (σ := σ5) (v1 := v1) (v2 := v2) (v3 := y1) (v4 := y2) (v5 := y3) (v6 := 0)  hf) rfl
          · refine x_iload O dX10_soonest_76 rfl ?_
            have hk : (y3, σ5) = (rr, σr) := Option.some.inj hf
            obtain ⟨rfl, rfl⟩ := Prod.mk.inj hk
            exact x_iret O rfl rfl ⟨_, rfl, rfl⟩ dX10_soonest_78
      · refine x_bipush O (v := -2) dX10_soonest_28 (by decide) ?_
        have hk : ((-2), σ3) = (rr, σr) := Option.some.inj hf
        obtain ⟨rfl, rfl⟩ := Prod.mk.inj hk
        exact x_iret O rfl rfl ⟨_, rfl, rfl⟩ dX10_soonest_30
    · refine x_iconst O (v := -1) dX10_soonest_19 (by decide) ?_
      have hk : ((-1), σ2) = (rr, σr) := Option.some.inj hf
      obtain ⟨rfl, rfl⟩ := Prod.mk.inj hk
      exact x_iret O rfl rfl ⟨_, rfl, rfl⟩ dX10_soonest_20
theorem k_M_soonest {σ σr : Mm} {rr : Int32} {v1 : Int32} {v2 : Int32}  (hf : f_M_soonest σ v1 v2 = some (rr, σr)) : CT LM yX10_soonest wsX10_soonest rm_X10_soonest (fun ad => [.ref (ad 0), .int v1, .int v2]) σ (some (.int rr)) σr := CT_of2 (cc := cX10_soonest) (maxL := 11) (rt := (some .int)) (own := RX10) (by decide) rfl rfl (fun _ => Nat.le_of_ble_eq_true rfl) (fun _ => rfl) (fun Γ ad O => v_M_soonest O  hf)
