-- ===== TippedBarrow$Walk.write(II)I
theorem ca_X8_write : Ca yX8_write cX8_write 7 (some .int) wsX8_write rm_X8_write 2 := ⟨⟨_, rfl⟩, rfl, rfl, by decide +kernel, by decide +kernel, by decide +kernel⟩
theorem in_X8_write_X8 : ∀ w ∈ wsX80, w ∈ wsX8_write := by decide +kernel
theorem fl_X8_write_15 : Fl RX8 wsX8_write 15 8 1 true (.array .int) := ⟨_, _, _, tyX8, rfl, in_X8_write_X8, by decide, by decide +kernel, tyX8_ok, nmX8, rfl, tyX8_ok 1 (by decide)⟩
theorem fl_X8_write_18 : Fl RX8 wsX8_write 18 8 2 true (.array .int) := ⟨_, _, _, tyX8, rfl, in_X8_write_X8, by decide, by decide +kernel, tyX8_ok, nmX8, rfl, tyX8_ok 2 (by decide)⟩
theorem fl_X8_write_21 : Fl RX8 wsX8_write 21 8 3 true (.array .int) := ⟨_, _, _, tyX8, rfl, in_X8_write_X8, by decide, by decide +kernel, tyX8_ok, nmX8, rfl, tyX8_ok 3 (by decide)⟩
theorem fl_X8_write_28 : Fl RX8 wsX8_write 28 8 5 true (.array .int) := ⟨_, _, _, tyX8, rfl, in_X8_write_X8, by decide, by decide +kernel, tyX8_ok, nmX8, rfl, tyX8_ok 5 (by decide)⟩
set_option maxHeartbeats 4000000 in
set_option maxRecDepth 100000 in
theorem v_Wa_write_20_b {Γ : Cx} {ad : Nat → Nat} {rr : Int32} {σr : Mm} (O : Ok LT Γ ad cX8_write 7 RX8 wsX8_write rm_X8_write (some .int) (some (.int rr)) σr) {σ : Mm} {v3 : Int32} {v4 : Int32} {v5 : Int32} {v6 : Int32}  {x : (Mm × Int32 × Int32 × Int32) ⊕ (Int32 × Mm)} (hf : f_Wa_write_20_b v3 σ v4 v5 v6 = some x) (hk : (kx (fun s : Mm × Int32 × Int32 × Int32 => X LT Γ ad s.1 20 [(0, .ref (ad 26)), (3, .int v3), (4, .int s.2.1), (5, .int s.2.2.1), (6, .int s.2.2.2)] []) (fun q : Int32 × Mm => q = (rr, σr))) x) : X LT Γ ad σ 20 [(0, .ref (ad 26)), (3, .int v3), (4, .int v4), (5, .int v5), (6, .int v6)] [] := by
  unfold f_Wa_write_20_b at hf
  refine x_iload O dX8_write_20 rfl ?_
  refine x_if_lt O 71 hf dX8_write_22 (by decide) (fun hf => ?_) (fun hf => ?_)
  · obtain ⟨x', hg1, hx⟩ := map_inr hf
    subst hx
    have hk := kx_r hk
    have hx : x' = (rr, σr) := hk
    subst hx
    have hf := hg1
    refine x_iload_n O 3 dX8_write_71 rfl rfl ?_
    have hk : (v3, σ) = (rr, σr) := Option.some.inj hf
    obtain ⟨rfl, rfl⟩ := Prod.mk.inj hk
    exact x_iret O rfl rfl ⟨_, rfl, rfl⟩ dX8_write_72
  · refine x_iload O dX8_write_25 rfl ?_
    refine x_sipush O (v := 340) dX8_write_27 (by decide) ?_
    refine x_icmp_ge O 71 hf dX8_write_30 (by decide) (fun hf => ?_) (fun hf => ?_)
    · obtain ⟨x', hg2, hx⟩ := map_inr hf
      subst hx
      have hk := kx_r hk
      have hx : x' = (rr, σr) := hk
      subst hx
      have hf := hg2
      refine x_iload_n O 3 dX8_write_71 rfl rfl ?_
      have hk : (v3, σ) = (rr, σr) := Option.some.inj hf
      obtain ⟨rfl, rfl⟩ := Prod.mk.inj hk
      exact x_iret O rfl rfl ⟨_, rfl, rfl⟩ dX8_write_72
    · refine x_iload O dX8_write_33 rfl ?_
      refine x_if_lt O 71 hf dX8_write_35 (by decide) (fun hf => ?_) (fun hf => ?_)
      · obtain ⟨x', hg3, hx⟩ := map_inr hf
        subst hx
        have hk := kx_r hk
        have hx : x' = (rr, σr) := hk
        subst hx
        have hf := hg3
        refine x_iload_n O 3 dX8_write_71 rfl rfl ?_
        have hk : (v3, σ) = (rr, σr) := Option.some.inj hf
        obtain ⟨rfl, rfl⟩ := Prod.mk.inj hk
        exact x_iret O rfl rfl ⟨_, rfl, rfl⟩ dX8_write_72
      · refine x_aload_n O 0 dX8_write_38 rfl rfl ?_
        refine x_getF O (t := 32) fl_X8_write_28 rfl dX8_write_39 ?_
        refine x_iload O dX8_write_42 rfl ?_
        refine x_iload O dX8_write_44 rfl ?_
        refine x_iastN O hf rfl dX8_write_46 (fun σ1 hf => ?_)
        refine x_aload_n O 0 dX8_write_47 rfl rfl ?_
        refine x_getF O (t := 29) fl_X8_write_18 rfl dX8_write_48 ?_
        refine x_iload O dX8_write_51 rfl ?_
        refine x_iald O hf rfl dX8_write_53 (fun j2 hf => ?_)
        refine x_istoreN O hf dX8_write_54 (by decide) (fun y1 hf => ?_)
        refine x_aload_n O 0 dX8_write_56 rfl rfl ?_
        refine x_getF O (t := 28) fl_X8_write_15 rfl dX8_write_57 ?_
        refine x_iload O dX8_write_60 rfl ?_
        refine x_iald O hf rfl dX8_write_62 (fun j3 hf => ?_)
        refine x_istoreN O hf dX8_write_63 (by decide) (fun y2 hf => ?_)
        refine x_iincN O hf dX8_write_65 rfl rfl (by decide) (fun y3 hf => ?_)
        refine x_goto O 20 dX8_write_68 (by decide) ?_
        obtain rfl := Option.some.inj hf
        have hk := kx_l hk
        exact x_jmp O hk rfl
set_option maxHeartbeats 4000000 in
set_option maxRecDepth 100000 in
theorem v_Wa_write_20 {Γ : Cx} {ad : Nat → Nat} {rr : Int32} {σr : Mm} (O : Ok LT Γ ad cX8_write 7 RX8 wsX8_write rm_X8_write (some .int) (some (.int rr)) σr) {σ : Mm} {v3 : Int32} {v4 : Int32} {v5 : Int32} {v6 : Int32}  (hf : f_Wa_write_20 σ v3 v4 v5 v6 = some (rr, σr)) : X LT Γ ad σ 20 [(0, .ref (ad 26)), (3, .int v3), (4, .int v4), (5, .int v5), (6, .int v6)] [] := lpX (P := (fun s : Mm × Int32 × Int32 × Int32 => X LT Γ ad s.1 20 [(0, .ref (ad 26)), (3, .int v3), (4, .int s.2.1), (5, .int s.2.2.1), (6, .int s.2.2.2)] [])) (K := (fun q : Int32 × Mm => q = (rr, σr))) (fun s x g1 g2 => v_Wa_write_20_b O (σ := s.1) (v3 := v3) (v4 := s.2.1) (v5 := s.2.2.1) (v6 := s.2.2.2)  g1 g2) (σ, v4, v5, v6) _ hf rfl
set_option maxHeartbeats 4000000 in
set_option maxRecDepth 100000 in
theorem v_Wa_write {Γ : Cx} {ad : Nat → Nat} {rr : Int32} {σr : Mm} (O : Ok LT Γ ad cX8_write 7 RX8 wsX8_write rm_X8_write (some .int) (some (.int rr)) σr) {σ : Mm} {v1 : Int32} {v2 : Int32}  (hf : f_Wa_write σ v1 v2 = some (rr, σr)) : X LT Γ ad σ 0 [(0, .ref (ad 26)), (1, .int v1), (2, .int v2)] [] := by
  unfold f_Wa_write at hf
  refine x_aload_n O 0 dX8_write_0 rfl rfl ?_
  refine x_getF O (t := 30) fl_X8_write_21 rfl dX8_write_1 ?_
  refine x_iload_n O 1 dX8_write_4 rfl rfl ?_
  refine x_iald O hf rfl dX8_write_5 (fun j1 hf => ?_)
  refine x_iconst O (v := 1) dX8_write_6 (by decide) ?_
  refine x_iadd O dX8_write_7 ?_
  refine x_istore_nN O 3 hf dX8_write_8 rfl (by decide) (fun y1 hf => ?_)
  refine x_iload_n O 1 dX8_write_9 rfl rfl ?_
  refine x_istore O dX8_write_10 (by decide) ?_
  refine x_iload_n O 2 dX8_write_12 rfl rfl ?_
  refine x_istore O dX8_write_13 (by decide) ?_
  refine x_iload_n O 3 dX8_write_15 rfl rfl ?_
  refine x_iconst O (v := 1) dX8_write_16 (by decide) ?_
  refine x_isub O dX8_write_17 ?_
  refine x_istoreN O hf dX8_write_18 (by decide) (fun y2 hf => ?_)
  exact x_jmp O (v_Wa_write_20 O (σ := σ) (v3 := y1) (v4 := v1) (v5 := v2) (v6 := y2)  hf) rfl
theorem k_Wa_write {σ σr : Mm} {rr : Int32} {v1 : Int32} {v2 : Int32}  (hf : f_Wa_write σ v1 v2 = some (rr, σr)) : CT LT yX8_write wsX8_write rm_X8_write (fun ad => [.ref (ad 26), .int v1, .int v2]) σ (some (.int rr)) σr := CT_of2 (cc := cX8_write) (maxL := 7) (rt := (some .int)) (own := RX8) (by decide) rfl rfl (fun _ => Nat.le_of_ble_eq_true rfl) (fun _ => rfl) (fun Γ ad O => v_Wa_write O  hf)

-- ===== TippedBarrow$Walk.seek(LTippedBarrow$Ground;III)I
theorem ca_X8_seek : Ca yX8_seek cX8_seek 7 (some .int) wsX8_seek rm_X8_seek 4 := ⟨⟨_, rfl⟩, rfl, rfl, by decide +kernel, by decide +kernel, by decide +kernel⟩
theorem in_X8_seek_X8 : ∀ w ∈ wsX80, w ∈ wsX8_seek := by decide +kernel
theorem fl_X8_seek_24 : Fl RX8 wsX8_seek 24 8 4 true (.array .boolean) := ⟨_, _, _, tyX8, rfl, in_X8_seek_X8, by decide, by decide +kernel, tyX8_ok, nmX8, rfl, tyX8_ok 4 (by decide)⟩
theorem fl_X8_seek_31 : Fl RX8 wsX8_seek 31 8 7 false (.object "TippedBarrow$Ground") := ⟨_, _, _, tyX8, rfl, in_X8_seek_X8, by decide, by decide +kernel, tyX8_ok, nmX8, rfl, tyX8_ok 7 (by decide)⟩
theorem fl_X8_seek_35 : Fl RX8 wsX8_seek 35 8 6 false .int := ⟨_, _, _, tyX8, rfl, in_X8_seek_X8, by decide, by decide +kernel, tyX8_ok, nmX8, rfl, tyX8_ok 6 (by decide)⟩
theorem mw_X8_seek_0 : Cond.static yX9_spotOf ∈ wsX8_seek := by decide +kernel
theorem mw_X8_seek_1 : Cond.initialized yX9_spotOf.cls ∈ wsX8_seek := by decide +kernel
set_option maxHeartbeats 4000000 in
set_option maxRecDepth 100000 in
theorem v_Wa_seek_81 {Γ : Cx} {ad : Nat → Nat} {rr : Int32} {σr : Mm} (O : Ok LT Γ ad cX8_seek 7 RX8 wsX8_seek rm_X8_seek (some .int) (some (.int rr)) σr) {σ : Mm} {r1 : Nat} {v5 : Int32} {v6 : Int32} (h1 : okGr r1 = true) (hf : f_Wa_seek_81 σ v5 v6 = some (rr, σr)) : X LT Γ ad σ 81 [(0, .ref (ad 26)), (5, .int v5), (6, .int v6)] [] := by
  unfold f_Wa_seek_81 at hf
  refine x_aload_n O 0 dX8_seek_81 rfl rfl ?_
  refine x_iload O dX8_seek_82 rfl ?_
  refine x_iload O dX8_seek_84 rfl ?_
  obtain ⟨r_1, σ1, hc, hf⟩ := bd_some hf
  refine x_callV O (k_Wa_write  hc) ca_X8_write gX8_seek_X8_write rfl ⟨_, _, _, _, rfl, rfl⟩ rfl rfl rfl (Nat.le_of_ble_eq_true rfl) ⟨Nat.le_of_ble_eq_true rfl, Nat.le_of_ble_eq_true rfl⟩ dX8_seek_86 ?_
  refine x_push O ?_
  have hk : (r_1, σ1) = (rr, σr) := Option.some.inj hf
  obtain ⟨rfl, rfl⟩ := Prod.mk.inj hk
  exact x_iret O rfl rfl ⟨_, rfl, rfl⟩ dX8_seek_89
set_option maxHeartbeats 4000000 in
set_option maxRecDepth 100000 in
theorem v_Wa_seek_49_b {Γ : Cx} {ad : Nat → Nat} {rr : Int32} {σr : Mm} (O : Ok LT Γ ad cX8_seek 7 RX8 wsX8_seek rm_X8_seek (some .int) (some (.int rr)) σr) {σ : Mm} {r1 : Nat} {v4 : Int32} {v5 : Int32} (h1 : okGr r1 = true) {x : (Mm × Int32) ⊕ (Int32 × Mm)} (hf : f_Wa_seek_49_b v4 σ v5 = some x) (hk : (kx (fun s : Mm × Int32 => X LT Γ ad s.1 49 [(0, .ref (ad 26)), (4, .int v4), (5, .int s.2)] []) (fun q : Int32 × Mm => q = (rr, σr))) x) : X LT Γ ad σ 49 [(0, .ref (ad 26)), (4, .int v4), (5, .int v5)] [] := by
  unfold f_Wa_seek_49_b at hf
  refine x_iload O dX8_seek_49 rfl ?_
  refine x_aload_n O 0 dX8_seek_51 rfl rfl ?_
  refine x_getI O fl_X8_seek_35 rfl dX8_seek_52 ?_
  refine x_icmp_ge O 96 hf dX8_seek_55 (by decide) (fun hf => ?_) (fun hf => ?_)
  · obtain ⟨x', hg1, hx⟩ := map_inr hf
    subst hx
    have hk := kx_r hk
    have hx : x' = (rr, σr) := hk
    subst hx
    have hf := hg1
    refine x_bipush O (v := -9) dX8_seek_96 (by decide) ?_
    have hk : ((-9), σ) = (rr, σr) := Option.some.inj hf
    obtain ⟨rfl, rfl⟩ := Prod.mk.inj hk
    exact x_iret O rfl rfl ⟨_, rfl, rfl⟩ dX8_seek_98
  · refine x_iload O dX8_seek_58 rfl ?_
    refine x_sipush O (v := 340) dX8_seek_60 (by decide) ?_
    refine x_icmp_ge O 96 hf dX8_seek_63 (by decide) (fun hf => ?_) (fun hf => ?_)
    · obtain ⟨x', hg2, hx⟩ := map_inr hf
      subst hx
      have hk := kx_r hk
      have hx : x' = (rr, σr) := hk
      subst hx
      have hf := hg2
      refine x_bipush O (v := -9) dX8_seek_96 (by decide) ?_
      have hk : ((-9), σ) = (rr, σr) := Option.some.inj hf
      obtain ⟨rfl, rfl⟩ := Prod.mk.inj hk
      exact x_iret O rfl rfl ⟨_, rfl, rfl⟩ dX8_seek_98
    · refine x_aload_n O 0 dX8_seek_66 rfl rfl ?_
      refine x_iload O dX8_seek_67 rfl ?_
      refine x_iload O dX8_seek_69 rfl ?_
      obtain ⟨r_1, σ1, hc, hf⟩ := bd_some hf
      refine x_callV O (k_Wa_visitFrom  hc) ca_X8_visitFrom gX8_seek_X8_visitFrom rfl ⟨_, _, _, _, rfl, rfl⟩ rfl rfl rfl (Nat.le_of_ble_eq_true rfl) ⟨Nat.le_of_ble_eq_true rfl, Nat.le_of_ble_eq_true rfl⟩ dX8_seek_71 ?_
      refine x_push O ?_
      refine x_istore O dX8_seek_74 (by decide) ?_
      refine x_iload O dX8_seek_76 rfl ?_
      refine x_if_lt O 90 hf dX8_seek_78 (by decide) (fun hf => ?_) (fun hf => ?_)
      · refine x_iincN O hf dX8_seek_90 rfl rfl (by decide) (fun y1 hf => ?_)
        refine x_goto O 49 dX8_seek_93 (by decide) ?_
        obtain rfl := Option.some.inj hf
        have hk := kx_l hk
        exact x_jmp O hk rfl
      · obtain ⟨x', hg3, hx⟩ := map_inr hf
        subst hx
        have hk := kx_r hk
        have hx : x' = (rr, σr) := hk
        subst hx
        have hf := hg3
        exact x_jmp O (v_Wa_seek_81 O (σ := σ1) (r1 := r1) (v5 := v5) (v6 := r_1) h1 hf) rfl
set_option maxHeartbeats 4000000 in
set_option maxRecDepth 100000 in
theorem v_Wa_seek_49 {Γ : Cx} {ad : Nat → Nat} {rr : Int32} {σr : Mm} (O : Ok LT Γ ad cX8_seek 7 RX8 wsX8_seek rm_X8_seek (some .int) (some (.int rr)) σr) {σ : Mm} {r1 : Nat} {v4 : Int32} {v5 : Int32} (h1 : okGr r1 = true) (hf : f_Wa_seek_49 σ v4 v5 = some (rr, σr)) : X LT Γ ad σ 49 [(0, .ref (ad 26)), (4, .int v4), (5, .int v5)] [] := lpX (P := (fun s : Mm × Int32 => X LT Γ ad s.1 49 [(0, .ref (ad 26)), (4, .int v4), (5, .int s.2)] [])) (K := (fun q : Int32 × Mm => q = (rr, σr))) (fun s x g1 g2 => v_Wa_seek_49_b O (σ := s.1) (r1 := r1) (v4 := v4) (v5 := s.2) h1 g1 g2) (σ, v5) _ hf rfl
set_option maxHeartbeats 4000000 in
set_option maxRecDepth 100000 in
theorem v_Wa_seek_35 {Γ : Cx} {ad : Nat → Nat} {rr : Int32} {σr : Mm} (O : Ok LT Γ ad cX8_seek 7 RX8 wsX8_seek rm_X8_seek (some .int) (some (.int rr)) σr) {σ : Mm} {r1 : Nat} {v2 : Int32} {v3 : Int32} {v4 : Int32} (h1 : okGr r1 = true) (hf : f_Wa_seek_35 σ v2 v3 v4 = some (rr, σr)) : X LT Γ ad σ 35 [(0, .ref (ad 26)), (2, .int v2), (3, .int v3), (4, .int v4)] [] := by
  unfold f_Wa_seek_35 at hf
  refine x_aload_n O 0 dX8_seek_35 rfl rfl ?_
  refine x_iload_n O 2 dX8_seek_36 rfl rfl ?_
  refine x_iload_n O 3 dX8_seek_37 rfl rfl ?_
  obtain ⟨r_1, σ1, hc, hf⟩ := bd_some hf
  refine x_callN O (k_T_spotOf  hc) ca_X9_spotOf gX8_seek_X9_spotOf_n39 (by decide +kernel) mw_X8_seek_0 mw_X8_seek_1 rfl rfl rfl (Nat.le_of_ble_eq_true rfl) ⟨Nat.le_of_ble_eq_true rfl, Nat.le_of_ble_eq_true rfl⟩ dX8_seek_38 ?_
  refine x_push O ?_
  refine x_iconst O (v := -1) dX8_seek_41 (by decide) ?_
  refine x_iconst O (v := 0) dX8_seek_42 (by decide) ?_
  obtain ⟨r_2, σ2, hc, hf⟩ := bd_some hf
  refine x_callV O (k_Wa_visit  hc) ca_X8_visit gX8_seek_X8_visit rfl ⟨_, _, _, _, rfl, rfl⟩ rfl rfl rfl (Nat.le_of_ble_eq_true rfl) ⟨Nat.le_of_ble_eq_true rfl, Nat.le_of_ble_eq_true rfl⟩ dX8_seek_43 ?_
  refine x_pushN O ?_
  refine x_iconst O (v := 0) dX8_seek_46 (by decide) ?_
  refine x_istore O dX8_seek_47 (by decide) ?_
  exact x_jmp O (v_Wa_seek_49 O (σ := σ2) (r1 := r1) (v4 := v4) (v5 := 0) h1 hf) rfl
set_option maxHeartbeats 4000000 in
set_option maxRecDepth 100000 in
theorem v_Wa_seek_13_b {Γ : Cx} {ad : Nat → Nat} {rr : Int32} {σr : Mm} (O : Ok LT Γ ad cX8_seek 7 RX8 wsX8_seek rm_X8_seek (some .int) (some (.int rr)) σr) {σ : Mm} {r1 : Nat} {v2 : Int32} {v3 : Int32} {v4 : Int32} {v5 : Int32} (h1 : okGr r1 = true) {x : (Mm × Int32) ⊕ (Int32 × Mm)} (hf : f_Wa_seek_13_b v2 v3 v4 σ v5 = some x) (hk : (kx (fun s : Mm × Int32 => X LT Γ ad s.1 13 [(0, .ref (ad 26)), (2, .int v2), (3, .int v3), (4, .int v4), (5, .int s.2)] []) (fun q : Int32 × Mm => q = (rr, σr))) x) : X LT Γ ad σ 13 [(0, .ref (ad 26)), (2, .int v2), (3, .int v3), (4, .int v4), (5, .int v5)] [] := by
  unfold f_Wa_seek_13_b at hf
  refine x_iload O dX8_seek_13 rfl ?_
  refine x_sipush O (v := 340) dX8_seek_15 (by decide) ?_
  refine x_icmp_ge O 35 hf dX8_seek_18 (by decide) (fun hf => ?_) (fun hf => ?_)
  · obtain ⟨x', hg1, hx⟩ := map_inr hf
    subst hx
    have hk := kx_r hk
    have hx : x' = (rr, σr) := hk
    subst hx
    have hf := hg1
    exact x_jmp O (v_Wa_seek_35 O (σ := σ) (r1 := r1) (v2 := v2) (v3 := v3) (v4 := v4) h1 hf) rfl
  · refine x_aload_n O 0 dX8_seek_21 rfl rfl ?_
    refine x_getF O (t := 31) fl_X8_seek_24 rfl dX8_seek_22 ?_
    refine x_iload O dX8_seek_25 rfl ?_
    refine x_iconst O (v := 0) dX8_seek_27 (by decide) ?_
    refine x_zastN O hf (by decide) rfl dX8_seek_28 (fun σ1 hf => ?_)
    refine x_iincN O hf dX8_seek_29 rfl rfl (by decide) (fun y1 hf => ?_)
    refine x_goto O 13 dX8_seek_32 (by decide) ?_
    obtain rfl := Option.some.inj hf
    have hk := kx_l hk
    exact x_jmp O hk rfl
set_option maxHeartbeats 4000000 in
set_option maxRecDepth 100000 in
theorem v_Wa_seek_13 {Γ : Cx} {ad : Nat → Nat} {rr : Int32} {σr : Mm} (O : Ok LT Γ ad cX8_seek 7 RX8 wsX8_seek rm_X8_seek (some .int) (some (.int rr)) σr) {σ : Mm} {r1 : Nat} {v2 : Int32} {v3 : Int32} {v4 : Int32} {v5 : Int32} (h1 : okGr r1 = true) (hf : f_Wa_seek_13 σ v2 v3 v4 v5 = some (rr, σr)) : X LT Γ ad σ 13 [(0, .ref (ad 26)), (2, .int v2), (3, .int v3), (4, .int v4), (5, .int v5)] [] := lpX (P := (fun s : Mm × Int32 => X LT Γ ad s.1 13 [(0, .ref (ad 26)), (2, .int v2), (3, .int v3), (4, .int v4), (5, .int s.2)] [])) (K := (fun q : Int32 × Mm => q = (rr, σr))) (fun s x g1 g2 => v_Wa_seek_13_b O (σ := s.1) (r1 := r1) (v2 := v2) (v3 := v3) (v4 := v4) (v5 := s.2) h1 g1 g2) (σ, v5) _ hf rfl
set_option maxHeartbeats 4000000 in
set_option maxRecDepth 100000 in
theorem v_Wa_seek {Γ : Cx} {ad : Nat → Nat} {rr : Int32} {σr : Mm} (O : Ok LT Γ ad cX8_seek 7 RX8 wsX8_seek rm_X8_seek (some .int) (some (.int rr)) σr) {σ : Mm} {r1 : Nat} {v2 : Int32} {v3 : Int32} {v4 : Int32} (h1 : okGr r1 = true) (hf : f_Wa_seek σ r1 v2 v3 v4 = some (rr, σr)) : X LT Γ ad σ 0 [(0, .ref (ad 26)), (1, .ref (ad r1)), (2, .int v2), (3, .int v3), (4, .int v4)] [] := by
  unfold f_Wa_seek at hf
  refine x_aload_n O 0 dX8_seek_0 rfl rfl ?_
  refine x_aload_n O 1 dX8_seek_1 rfl rfl ?_
  refine x_putRN O hf rfl rfl fl_X8_seek_31 rfl dX8_seek_2 (fun σ1 hf => ?_)
  refine x_aload_n O 0 dX8_seek_5 rfl rfl ?_
  refine x_iconst O (v := 0) dX8_seek_6 (by decide) ?_
  refine x_putIN O hf rfl rfl fl_X8_seek_35 rfl dX8_seek_7 (fun σ2 hf => ?_)
  refine x_iconst O (v := 0) dX8_seek_10 (by decide) ?_
  refine x_istore O dX8_seek_11 (by decide) ?_
  exact x_jmp O (v_Wa_seek_13 O (σ := σ2) (r1 := r1) (v2 := v2) (v3 := v3) (v4 := v4) (v5 := 0) h1 hf) rfl
theorem k_Wa_seek {σ σr : Mm} {rr : Int32} {r1 : Nat} {v2 : Int32} {v3 : Int32} {v4 : Int32} (h1 : okGr r1 = true) (hf : f_Wa_seek σ r1 v2 v3 v4 = some (rr, σr)) : CT LT yX8_seek wsX8_seek rm_X8_seek (fun ad => [.ref (ad 26), .ref (ad r1), .int v2, .int v3, .int v4]) σ (some (.int rr)) σr := CT_of2 (cc := cX8_seek) (maxL := 7) (rt := (some .int)) (own := RX8) (by decide) rfl rfl (fun _ => Nat.le_of_ble_eq_true rfl) (fun _ => rfl) (fun Γ ad O => v_Wa_seek O h1 hf)

-- ===== TippedBarrow$Walk.wayAt(I)I
theorem ca_X8_wayAt : Ca yX8_wayAt cX8_wayAt 2 (some .int) wsX8_wayAt rm_X8_wayAt 1 := ⟨⟨_, rfl⟩, rfl, rfl, by decide +kernel, by decide +kernel, by decide +kernel⟩
theorem in_X8_wayAt_X8 : ∀ w ∈ wsX80, w ∈ wsX8_wayAt := by decide +kernel
theorem fl_X8_wayAt_28 : Fl RX8 wsX8_wayAt 28 8 5 true (.array .int) := ⟨_, _, _, tyX8, rfl, in_X8_wayAt_X8, by decide, by decide +kernel, tyX8_ok, nmX8, rfl, tyX8_ok 5 (by decide)⟩
set_option maxHeartbeats 4000000 in
set_option maxRecDepth 100000 in
theorem v_Wa_wayAt {Γ : Cx} {ad : Nat → Nat} {rr : Int32} {σr : Mm} (O : Ok LT Γ ad cX8_wayAt 2 RX8 wsX8_wayAt rm_X8_wayAt (some .int) (some (.int rr)) σr) {σ : Mm} {v1 : Int32}  (hf : f_Wa_wayAt σ v1 = some (rr, σr)) : X LT Γ ad σ 0 [(0, .ref (ad 26)), (1, .int v1)] [] := by
  unfold f_Wa_wayAt at hf
  refine x_iload_n O 1 dX8_wayAt_0 rfl rfl ?_
  refine x_if_lt O 11 hf dX8_wayAt_1 (by decide) (fun hf => ?_) (fun hf => ?_)
  · refine x_bipush O (v := -9) dX8_wayAt_11 (by decide) ?_
    refine x_goto O 22 dX8_wayAt_13 (by decide) ?_
    have hk : ((-9), σ) = (rr, σr) := Option.some.inj hf
    obtain ⟨rfl, rfl⟩ := Prod.mk.inj hk
    exact x_iret O rfl rfl ⟨_, rfl, rfl⟩ dX8_wayAt_22
  · refine x_iload_n O 1 dX8_wayAt_4 rfl rfl ?_
    refine x_sipush O (v := 340) dX8_wayAt_5 (by decide) ?_
    refine x_icmp_lt O 16 hf dX8_wayAt_8 (by decide) (fun hf => ?_) (fun hf => ?_)
    · refine x_aload_n O 0 dX8_wayAt_16 rfl rfl ?_
      refine x_getF O (t := 32) fl_X8_wayAt_28 rfl dX8_wayAt_17 ?_
      refine x_iload_n O 1 dX8_wayAt_20 rfl rfl ?_
      refine x_iald O hf rfl dX8_wayAt_21 (fun j1 hf => ?_)
      have hk : ((gA σ 32 j1), σ) = (rr, σr) := Option.some.inj hf
      obtain ⟨rfl, rfl⟩ := Prod.mk.inj hk
      exact x_iret O rfl rfl ⟨_, rfl, rfl⟩ dX8_wayAt_22
    · refine x_bipush O (v := -9) dX8_wayAt_11 (by decide) ?_
      refine x_goto O 22 dX8_wayAt_13 (by decide) ?_
      have hk : ((-9), σ) = (rr, σr) := Option.some.inj hf
      obtain ⟨rfl, rfl⟩ := Prod.mk.inj hk
      exact x_iret O rfl rfl ⟨_, rfl, rfl⟩ dX8_wayAt_22
theorem k_Wa_wayAt {σ σr : Mm} {rr : Int32} {v1 : Int32}  (hf : f_Wa_wayAt σ v1 = some (rr, σr)) : CT LT yX8_wayAt wsX8_wayAt rm_X8_wayAt (fun ad => [.ref (ad 26), .int v1]) σ (some (.int rr)) σr := CT_of2 (cc := cX8_wayAt) (maxL := 2) (rt := (some .int)) (own := RX8) (by decide) rfl rfl (fun _ => Nat.le_of_ble_eq_true rfl) (fun _ => rfl) (fun Γ ad O => v_Wa_wayAt O  hf)

-- ===== TippedBarrow.soonest(II)I
theorem ca_X9_soonest : Ca yX9_soonest cX9_soonest 4 (some .int) wsX9_soonest rm_X9_soonest 2 := ⟨⟨_, rfl⟩, rfl, rfl, by decide +kernel, by decide +kernel, by decide +kernel⟩
theorem in_X9_soonest_X4 : ∀ w ∈ wsX40, w ∈ wsX9_soonest := by decide +kernel
theorem in_X9_soonest_X9 : ∀ w ∈ wsX90, w ∈ wsX9_soonest := by decide +kernel
theorem fl_X9_soonest_38 : Fl RX9 wsX9_soonest 38 9 4 true (.object "TippedBarrow$Moment") := ⟨_, _, _, tyX9, rfl, in_X9_soonest_X9, by decide, by decide +kernel, tyX9_ok, nmX9, rfl, tyX9_ok 4 (by decide)⟩
theorem fl_X9_soonest_51 : Fl RX9 wsX9_soonest 51 9 5 true (.object "TippedBarrow$Ground") := ⟨_, _, _, tyX9, rfl, in_X9_soonest_X9, by decide, by decide +kernel, tyX9_ok, nmX9, rfl, tyX9_ok 5 (by decide)⟩
theorem fl_X9_soonest_86 : Fl RX9 wsX9_soonest 86 9 14 true (.object "TippedBarrow$Walk") := ⟨_, _, _, tyX9, rfl, in_X9_soonest_X9, by decide, by decide +kernel, tyX9_ok, nmX9, rfl, tyX9_ok 14 (by decide)⟩
theorem fl_X9_soonest_138 : Fl RX9 wsX9_soonest 138 4 3 false .int := ⟨_, _, _, tyX4, rfl, in_X9_soonest_X4, by decide, by decide +kernel, tyX4_ok, nmX4, rfl, tyX4_ok 3 (by decide)⟩
theorem fl_X9_soonest_141 : Fl RX9 wsX9_soonest 141 4 4 false .int := ⟨_, _, _, tyX4, rfl, in_X9_soonest_X4, by decide, by decide +kernel, tyX4_ok, nmX4, rfl, tyX4_ok 4 (by decide)⟩
set_option maxHeartbeats 4000000 in
set_option maxRecDepth 100000 in
theorem v_T_soonest {Γ : Cx} {ad : Nat → Nat} {rr : Int32} {σr : Mm} (O : Ok LT Γ ad cX9_soonest 4 RX9 wsX9_soonest rm_X9_soonest (some .int) (some (.int rr)) σr) {σ : Mm} {v1 : Int32} {v2 : Int32}  (hf : f_T_soonest σ v1 v2 = some (rr, σr)) : X LT Γ ad σ 0 [(0, .ref (ad 0)), (1, .int v1), (2, .int v2)] [] := by
  unfold f_T_soonest at hf
  refine x_iload_n O 1 dX9_soonest_0 rfl rfl ?_
  obtain ⟨r_1, σ1, hc, hf⟩ := bd_some hf
  refine x_callS O (k_T_isNoSide  hc) ca_X9_isNoSide gX9_soonest_X9_isNoSide rfl rfl rfl (Nat.le_of_ble_eq_true rfl) ⟨Nat.le_of_ble_eq_true rfl, Nat.le_of_ble_eq_true rfl⟩ dX9_soonest_1 ?_
  refine x_push O ?_
  refine x_if_ne O 12 hf dX9_soonest_4 (by decide) (fun hf => ?_) (fun hf => ?_)
  · refine x_iconst O (v := -1) dX9_soonest_12 (by decide) ?_
    have hk : ((-1), σ1) = (rr, σr) := Option.some.inj hf
    obtain ⟨rfl, rfl⟩ := Prod.mk.inj hk
    exact x_iret O rfl rfl ⟨_, rfl, rfl⟩ dX9_soonest_13
  · refine x_iload_n O 2 dX9_soonest_7 rfl rfl ?_
    refine x_iconst O (v := -1) dX9_soonest_8 (by decide) ?_
    refine x_icmp_ge O 14 hf dX9_soonest_9 (by decide) (fun hf => ?_) (fun hf => ?_)
    · refine x_aload_n O 0 dX9_soonest_14 rfl rfl ?_
      obtain ⟨r_2, σ2, hc, hf⟩ := bd_some hf
      refine x_callV O (k_T_hasNoStart  hc) ca_X9_hasNoStart gX9_soonest_X9_hasNoStart rfl ⟨_, _, _, _, rfl, rfl⟩ rfl rfl rfl (Nat.le_of_ble_eq_true rfl) ⟨Nat.le_of_ble_eq_true rfl, Nat.le_of_ble_eq_true rfl⟩ dX9_soonest_15 ?_
      refine x_push O ?_
      refine x_if_eq O 24 hf dX9_soonest_18 (by decide) (fun hf => ?_) (fun hf => ?_)
      · refine x_aload_n O 0 dX9_soonest_24 rfl rfl ?_
        refine x_getF O (t := 26) fl_X9_soonest_86 rfl dX9_soonest_25 ?_
        refine x_aload_n O 0 dX9_soonest_28 rfl rfl ?_
        refine x_getF O (t := 11) fl_X9_soonest_51 rfl dX9_soonest_29 ?_
        refine x_aload_n O 0 dX9_soonest_32 rfl rfl ?_
        refine x_getF O (t := 36) fl_X9_soonest_38 rfl dX9_soonest_33 ?_
        refine x_getI O fl_X9_soonest_138 rfl dX9_soonest_36 ?_
        refine x_aload_n O 0 dX9_soonest_39 rfl rfl ?_
        refine x_getF O (t := 36) fl_X9_soonest_38 rfl dX9_soonest_40 ?_
        refine x_getI O fl_X9_soonest_141 rfl dX9_soonest_43 ?_
        refine x_iload_n O 1 dX9_soonest_46 rfl rfl ?_
        obtain ⟨r_3, σ3, hc, hf⟩ := bd_some hf
        refine x_callV O (k_Wa_seek rfl hc) ca_X8_seek gX9_soonest_X8_seek rfl ⟨_, _, _, _, rfl, rfl⟩ rfl rfl rfl (Nat.le_of_ble_eq_true rfl) ⟨Nat.le_of_ble_eq_true rfl, Nat.le_of_ble_eq_true rfl⟩ dX9_soonest_47 ?_
        refine x_push O ?_
        refine x_istore_n O 3 dX9_soonest_50 rfl (by decide) ?_
        refine x_iload_n O 3 dX9_soonest_51 rfl rfl ?_
        refine x_bipush O (v := -9) dX9_soonest_52 (by decide) ?_
        refine x_icmp_eq O 62 hf dX9_soonest_54 (by decide) (fun hf => ?_) (fun hf => ?_)
        · refine x_iload_n O 3 dX9_soonest_62 rfl rfl ?_
          have hk : (r_3, σ3) = (rr, σr) := Option.some.inj hf
          obtain ⟨rfl, rfl⟩ := Prod.mk.inj hk
          exact x_iret O rfl rfl ⟨_, rfl, rfl⟩ dX9_soonest_63
        · refine x_iload_n O 2 dX9_soonest_57 rfl rfl ?_
          refine x_iconst O (v := -1) dX9_soonest_58 (by decide) ?_
          refine x_icmp_ne O 64 hf dX9_soonest_59 (by decide) (fun hf => ?_) (fun hf => ?_)
          · refine x_iload_n O 2 dX9_soonest_64 rfl rfl ?_
            refine x_iload_n O 3 dX9_soonest_65 rfl rfl ?_
            refine x_icmp_ge O 80 hf dX9_soonest_66 (by decide) (fun hf => ?_) (fun hf => ?_)
            · refine x_bipush O (v := -5) dX9_soonest_80 (by decide) ?_
              have hk : ((-5), σ3) = (rr, σr) := Option.some.inj hf
              obtain ⟨rfl, rfl⟩ := Prod.mk.inj hk
              exact x_iret O rfl rfl ⟨_, rfl, rfl⟩ dX9_soonest_82
            · refine x_aload_n O 0 dX9_soonest_69 rfl rfl ?_
              refine x_getF O (t := 26) fl_X9_soonest_86 rfl dX9_soonest_70 ?_
              refine x_iload_n O 2 dX9_soonest_73 rfl rfl ?_
              obtain ⟨r_4, σ4, hc, hf⟩ := bd_some hf
              refine x_callV O (k_Wa_wayAt  hc) ca_X8_wayAt gX9_soonest_X8_wayAt rfl ⟨_, _, _, _, rfl, rfl⟩ rfl rfl rfl (Nat.le_of_ble_eq_true rfl) ⟨Nat.le_of_ble_eq_true rfl, Nat.le_of_ble_eq_true rfl⟩ dX9_soonest_74 ?_
              refine x_push O ?_
              refine x_goto O 82 dX9_soonest_77 (by decide) ?_
              have hk : (r_4, σ4) = (rr, σr) := Option.some.inj hf
              obtain ⟨rfl, rfl⟩ := Prod.mk.inj hk
              exact x_iret O rfl rfl ⟨_, rfl, rfl⟩ dX9_soonest_82
          · refine x_iload_n O 3 dX9_soonest_62 rfl rfl ?_
            have hk : (r_3, σ3) = (rr, σr) := Option.some.inj hf
            obtain ⟨rfl, rfl⟩ := Prod.mk.inj hk
            exact x_iret O rfl rfl ⟨_, rfl, rfl⟩ dX9_soonest_63
      · refine x_bipush O (v := -2) dX9_soonest_21 (by decide) ?_
        have hk : ((-2), σ2) = (rr, σr) := Option.some.inj hf
        obtain ⟨rfl, rfl⟩ := Prod.mk.inj hk
        exact x_iret O rfl rfl ⟨_, rfl, rfl⟩ dX9_soonest_23
    · refine x_iconst O (v := -1) dX9_soonest_12 (by decide) ?_
      have hk : ((-1), σ1) = (rr, σr) := Option.some.inj hf
      obtain ⟨rfl, rfl⟩ := Prod.mk.inj hk
      exact x_iret O rfl rfl ⟨_, rfl, rfl⟩ dX9_soonest_13
theorem k_T_soonest {σ σr : Mm} {rr : Int32} {v1 : Int32} {v2 : Int32}  (hf : f_T_soonest σ v1 v2 = some (rr, σr)) : CT LT yX9_soonest wsX9_soonest rm_X9_soonest (fun ad => [.ref (ad 0), .int v1, .int v2]) σ (some (.int rr)) σr := CT_of2 (cc := cX9_soonest) (maxL := 4) (rt := (some .int)) (own := RX9) (by decide) rfl rfl (fun _ => Nat.le_of_ble_eq_true rfl) (fun _ => rfl) (fun Γ ad O => v_T_soonest O  hf)

-- ===== TippedBarrow$Ground.waysFrom(I)I
theorem ca_X2_waysFrom : Ca yX2_waysFrom cX2_waysFrom 4 (some .int) wsX2_waysFrom rm_X2_waysFrom 1 := ⟨⟨_, rfl⟩, rfl, rfl, by decide +kernel, by decide +kernel, by decide +kernel⟩
set_option maxHeartbeats 4000000 in
set_option maxRecDepth 100000 in
theorem v_Gr_waysFrom_4_b {Γ : Cx} {ad : Nat → Nat} {rr : Int32} {σr : Mm} (O : Ok LT Γ ad cX2_waysFrom 4 RX2 wsX2_waysFrom rm_X2_waysFrom (some .int) (some (.int rr)) σr) {σ : Mm} {r0 : Nat} {v1 : Int32} {v2 : Int32} {v3 : Int32} (h0 : okGr r0 = true) {x : (Mm × Int32 × Int32) ⊕ (Int32 × Mm)} (hf : f_Gr_waysFrom_4_b r0 v1 σ v2 v3 = some x) (hk : (kx (fun s : Mm × Int32 × Int32 => X LT Γ ad s.1 4 [(0, .ref (ad r0)), (1, .int v1), (2, .int s.2.1), (3, .int s.2.2)] []) (fun q : Int32 × Mm => q = (rr, σr))) x) : X LT Γ ad σ 4 [(0, .ref (ad r0)), (1, .int v1), (2, .int v2), (3, .int v3)] [] := by
  unfold f_Gr_waysFrom_4_b at hf
  refine x_iload_n O 3 dX2_waysFrom_4 rfl rfl ?_
  refine x_iconst O (v := 4) dX2_waysFrom_5 (by decide) ?_
  refine x_icmp_ge O 27 hf dX2_waysFrom_6 (by decide) (fun hf => ?_) (fun hf => ?_)
  · obtain ⟨x', hg1, hx⟩ := map_inr hf
    subst hx
    have hk := kx_r hk
    have hx : x' = (rr, σr) := hk
    subst hx
    have hf := hg1
    refine x_iload_n O 2 dX2_waysFrom_27 rfl rfl ?_
    have hk : (v2, σ) = (rr, σr) := Option.some.inj hf
    obtain ⟨rfl, rfl⟩ := Prod.mk.inj hk
    exact x_iret O rfl rfl ⟨_, rfl, rfl⟩ dX2_waysFrom_28
  · refine x_aload_n O 0 dX2_waysFrom_9 rfl rfl ?_
    refine x_iload_n O 1 dX2_waysFrom_10 rfl rfl ?_
    refine x_iload_n O 3 dX2_waysFrom_11 rfl rfl ?_
    obtain ⟨r_1, σ1, hc, hf⟩ := bd_some hf
    refine x_callV O (k_Gr_beyond h0 hc) ca_X2_beyond gX2_waysFrom_X2_beyond rfl (okCl_Gr h0) rfl rfl rfl (Nat.le_of_ble_eq_true rfl) ⟨Nat.le_of_ble_eq_true rfl, Nat.le_of_ble_eq_true rfl⟩ dX2_waysFrom_12 ?_
    refine x_push O ?_
    refine x_if_lt O 21 hf dX2_waysFrom_15 (by decide) (fun hf => ?_) (fun hf => ?_)
    · refine x_iincN O hf dX2_waysFrom_21 rfl rfl (by decide) (fun y1 hf => ?_)
      refine x_goto O 4 dX2_waysFrom_24 (by decide) ?_
      obtain rfl := Option.some.inj hf
      have hk := kx_l hk
      exact x_jmp O hk rfl
    · refine x_iincN O hf dX2_waysFrom_18 rfl rfl (by decide) (fun y2 hf => ?_)
      refine x_iincN O hf dX2_waysFrom_21 rfl rfl (by decide) (fun y3 hf => ?_)
      refine x_goto O 4 dX2_waysFrom_24 (by decide) ?_
      obtain rfl := Option.some.inj hf
      have hk := kx_l hk
      exact x_jmp O hk rfl
set_option maxHeartbeats 4000000 in
set_option maxRecDepth 100000 in
theorem v_Gr_waysFrom_4 {Γ : Cx} {ad : Nat → Nat} {rr : Int32} {σr : Mm} (O : Ok LT Γ ad cX2_waysFrom 4 RX2 wsX2_waysFrom rm_X2_waysFrom (some .int) (some (.int rr)) σr) {σ : Mm} {r0 : Nat} {v1 : Int32} {v2 : Int32} {v3 : Int32} (h0 : okGr r0 = true) (hf : f_Gr_waysFrom_4 σ r0 v1 v2 v3 = some (rr, σr)) : X LT Γ ad σ 4 [(0, .ref (ad r0)), (1, .int v1), (2, .int v2), (3, .int v3)] [] := lpX (P := (fun s : Mm × Int32 × Int32 => X LT Γ ad s.1 4 [(0, .ref (ad r0)), (1, .int v1), (2, .int s.2.1), (3, .int s.2.2)] [])) (K := (fun q : Int32 × Mm => q = (rr, σr))) (fun s x g1 g2 => v_Gr_waysFrom_4_b O (σ := s.1) (r0 := r0) (v1 := v1) (v2 := s.2.1) (v3 := s.2.2) h0 g1 g2) (σ, v2, v3) _ hf rfl
set_option maxHeartbeats 4000000 in
set_option maxRecDepth 100000 in
theorem v_Gr_waysFrom {Γ : Cx} {ad : Nat → Nat} {rr : Int32} {σr : Mm} (O : Ok LT Γ ad cX2_waysFrom 4 RX2 wsX2_waysFrom rm_X2_waysFrom (some .int) (some (.int rr)) σr) {σ : Mm} {r0 : Nat} {v1 : Int32} (h0 : okGr r0 = true) (hf : f_Gr_waysFrom σ r0 v1 = some (rr, σr)) : X LT Γ ad σ 0 [(0, .ref (ad r0)), (1, .int v1)] [] := by
  unfold f_Gr_waysFrom at hf
  refine x_iconst O (v := 0) dX2_waysFrom_0 (by decide) ?_
  refine x_istore_n O 2 dX2_waysFrom_1 rfl (by decide) ?_
  refine x_iconst O (v := 0) dX2_waysFrom_2 (by decide) ?_
  refine x_istore_n O 3 dX2_waysFrom_3 rfl (by decide) ?_
  exact x_jmp O (v_Gr_waysFrom_4 O (σ := σ) (r0 := r0) (v1 := v1) (v2 := 0) (v3 := 0) h0 hf) rfl
theorem k_Gr_waysFrom {σ σr : Mm} {rr : Int32} {r0 : Nat} {v1 : Int32} (h0 : okGr r0 = true) (hf : f_Gr_waysFrom σ r0 v1 = some (rr, σr)) : CT LT yX2_waysFrom wsX2_waysFrom rm_X2_waysFrom (fun ad => [.ref (ad r0), .int v1]) σ (some (.int rr)) σr := CT_of2 (cc := cX2_waysFrom) (maxL := 4) (rt := (some .int)) (own := RX2) (by decide) rfl rfl (fun _ => Nat.le_of_ble_eq_true rfl) (fun _ => rfl) (fun Γ ad O => v_Gr_waysFrom O h0 hf)

-- ===== TippedBarrow$Chance.shareOut(I)V
theorem ca_X0_shareOut : Ca yX0_shareOut cX0_shareOut 10 none wsX0_shareOut rm_X0_shareOut 1 := ⟨⟨_, rfl⟩, rfl, rfl, by decide +kernel, by decide +kernel, by decide +kernel⟩
theorem in_X0_shareOut_X0 : ∀ w ∈ wsX00, w ∈ wsX0_shareOut := by decide +kernel
theorem fl_X0_shareOut_9 : Fl RX0 wsX0_shareOut 9 0 0 false (.array .int) := ⟨_, _, _, tyX0, rfl, in_X0_shareOut_X0, by decide, by decide +kernel, tyX0_ok, nmX0, rfl, tyX0_ok 0 (by decide)⟩
theorem fl_X0_shareOut_15 : Fl RX0 wsX0_shareOut 15 0 1 false (.array .int) := ⟨_, _, _, tyX0, rfl, in_X0_shareOut_X0, by decide, by decide +kernel, tyX0_ok, nmX0, rfl, tyX0_ok 1 (by decide)⟩
theorem fl_X0_shareOut_18 : Fl RX0 wsX0_shareOut 18 0 4 false (.object "TippedBarrow$Ground") := ⟨_, _, _, tyX0, rfl, in_X0_shareOut_X0, by decide, by decide +kernel, tyX0_ok, nmX0, rfl, tyX0_ok 4 (by decide)⟩
theorem fl_X0_shareOut_22 : Fl RX0 wsX0_shareOut 22 0 5 false .int := ⟨_, _, _, tyX0, rfl, in_X0_shareOut_X0, by decide, by decide +kernel, tyX0_ok, nmX0, rfl, tyX0_ok 5 (by decide)⟩
theorem fl_X0_shareOut_26 : Fl RX0 wsX0_shareOut 26 0 2 false .int := ⟨_, _, _, tyX0, rfl, in_X0_shareOut_X0, by decide, by decide +kernel, tyX0_ok, nmX0, rfl, tyX0_ok 2 (by decide)⟩
theorem mw_X0_shareOut_0 : Cond.static yX9_leanOf ∈ wsX0_shareOut := by decide +kernel
theorem mw_X0_shareOut_1 : Cond.initialized yX9_leanOf.cls ∈ wsX0_shareOut := by decide +kernel
theorem mw_X0_shareOut_2 : Cond.static yX9_spotOf ∈ wsX0_shareOut := by decide +kernel
theorem mw_X0_shareOut_3 : Cond.initialized yX9_spotOf.cls ∈ wsX0_shareOut := by decide +kernel
theorem mw_X0_shareOut_4 : Cond.static yX9_cellOf ∈ wsX0_shareOut := by decide +kernel
theorem mw_X0_shareOut_5 : Cond.initialized yX9_cellOf.cls ∈ wsX0_shareOut := by decide +kernel
set_option maxHeartbeats 4000000 in
set_option maxRecDepth 100000 in
theorem v_Ch_shareOut_53_b {Γ : Cx} {ad : Nat → Nat} {rr : Int32} {σr : Mm} (O : Ok LT Γ ad cX0_shareOut 10 RX0 wsX0_shareOut rm_X0_shareOut none none σr) {σ : Mm} {v1 : Int32} {v2 : Int32} {v4 : Int32} {v5 : Int32}  {x : (Mm × Int32) ⊕ (Int32 × Mm)} (hf : f_Ch_shareOut_53_b v1 v2 v4 σ v5 = some x) (hk : (kx (fun s : Mm × Int32 => X LT Γ ad s.1 53 [(0, .ref (ad 33)), (1, .int v1), (2, .int v2), (4, .int v4), (5, .int s.2)] []) (fun q : Int32 × Mm => q = (rr, σr))) x) : X LT Γ ad σ 53 [(0, .ref (ad 33)), (1, .int v1), (2, .int v2), (4, .int v4), (5, .int v5)] [] := by
  unfold f_Ch_shareOut_53_b at hf
  refine x_iload O dX0_shareOut_53 rfl ?_
  refine x_iconst O (v := 4) dX0_shareOut_55 (by decide) ?_
  refine x_icmp_ge O 165 hf dX0_shareOut_56 (by decide) (fun hf => ?_) (fun hf => ?_)
  · obtain ⟨x', hg1, hx⟩ := map_inr hf
    subst hx
    have hk := kx_r hk
    have hx : x' = (rr, σr) := hk
    subst hx
    have hf := hg1
    have hk : ((0 : Int32), σ) = (rr, σr) := Option.some.inj hf
    obtain ⟨rfl, rfl⟩ := Prod.mk.inj hk
    exact x_vret O rfl rfl rfl dX0_shareOut_165
  · refine x_aload_n O 0 dX0_shareOut_59 rfl rfl ?_
    refine x_getR O hf fl_X0_shareOut_18 rfl dX0_shareOut_60 (fun t1 ht1 hf => ?_)
    refine x_iload_n O 2 dX0_shareOut_63 rfl rfl ?_
    refine x_iload O dX0_shareOut_64 rfl ?_
    obtain ⟨r_1, σ1, hc, hf⟩ := bd_some hf
    refine x_callV O (k_Gr_beyond ht1 hc) ca_X2_beyond gX0_shareOut_X2_beyond rfl (okCl_Gr ht1) rfl rfl rfl (Nat.le_of_ble_eq_true rfl) ⟨Nat.le_of_ble_eq_true rfl, Nat.le_of_ble_eq_true rfl⟩ dX0_shareOut_66 ?_
    refine x_push O ?_
    refine x_istore O dX0_shareOut_69 (by decide) ?_
    refine x_iload O dX0_shareOut_71 rfl ?_
    refine x_if_ge O 79 hf dX0_shareOut_73 (by decide) (fun hf => ?_) (fun hf => ?_)
    · refine x_aload_n O 0 dX0_shareOut_79 rfl rfl ?_
      refine x_getR O hf fl_X0_shareOut_18 rfl dX0_shareOut_80 (fun t2 ht2 hf => ?_)
      refine x_iload O dX0_shareOut_83 rfl ?_
      refine x_iload_n O 1 dX0_shareOut_85 rfl rfl ?_
      obtain ⟨r_2, σ2, hc, hf⟩ := bd_some hf
      refine x_callN O (k_T_leanOf  hc) ca_X9_leanOf gX0_shareOut_X9_leanOf_n64 (by decide +kernel) mw_X0_shareOut_0 mw_X0_shareOut_1 rfl rfl rfl (Nat.le_of_ble_eq_true rfl) ⟨Nat.le_of_ble_eq_true rfl, Nat.le_of_ble_eq_true rfl⟩ dX0_shareOut_86 ?_
      refine x_push O ?_
      obtain ⟨r_3, σ3, hc, hf⟩ := bd_some hf
      refine x_callV O (k_Gr_leanOn ht2 hc) ca_X2_leanOn gX0_shareOut_X2_leanOn rfl (okCl_Gr ht2) rfl rfl rfl (Nat.le_of_ble_eq_true rfl) ⟨Nat.le_of_ble_eq_true rfl, Nat.le_of_ble_eq_true rfl⟩ dX0_shareOut_89 ?_
      refine x_push O ?_
      refine x_istore O dX0_shareOut_92 (by decide) ?_
      refine x_aload_n O 0 dX0_shareOut_94 rfl rfl ?_
      refine x_getR O hf fl_X0_shareOut_18 rfl dX0_shareOut_95 (fun t3 ht3 hf => ?_)
      refine x_iload O dX0_shareOut_98 rfl ?_
      obtain ⟨r_4, σ4, hc, hf⟩ := bd_some hf
      refine x_callV O (k_Gr_verdict ht3 hc) ca_X2_verdict gX0_shareOut_X2_verdict rfl (okCl_Gr ht3) rfl rfl rfl (Nat.le_of_ble_eq_true rfl) ⟨Nat.le_of_ble_eq_true rfl, Nat.le_of_ble_eq_true rfl⟩ dX0_shareOut_100 ?_
      refine x_push O ?_
      refine x_istore O dX0_shareOut_103 (by decide) ?_
      refine x_iload O dX0_shareOut_105 rfl ?_
      refine x_iload O dX0_shareOut_107 rfl ?_
      obtain ⟨r_5, σ5, hc, hf⟩ := bd_some hf
      refine x_callN O (k_T_spotOf  hc) ca_X9_spotOf gX0_shareOut_X9_spotOf_n32 (by decide +kernel) mw_X0_shareOut_2 mw_X0_shareOut_3 rfl rfl rfl (Nat.le_of_ble_eq_true rfl) ⟨Nat.le_of_ble_eq_true rfl, Nat.le_of_ble_eq_true rfl⟩ dX0_shareOut_109 ?_
      refine x_push O ?_
      refine x_istore O dX0_shareOut_112 (by decide) ?_
      refine x_iload O dX0_shareOut_114 rfl ?_
      refine x_aload_n O 0 dX0_shareOut_116 rfl rfl ?_
      refine x_getI O fl_X0_shareOut_22 rfl dX0_shareOut_117 ?_
      refine x_icmp_ne O 137 hf dX0_shareOut_120 (by decide) (fun hf => ?_) (fun hf => ?_)
      · refine x_iload O dX0_shareOut_137 rfl ?_
        refine x_if_ne O 159 hf dX0_shareOut_139 (by decide) (fun hf => ?_) (fun hf => ?_)
        · refine x_iincN O hf dX0_shareOut_159 rfl rfl (by decide) (fun y1 hf => ?_)
          refine x_goto O 53 dX0_shareOut_162 (by decide) ?_
          obtain rfl := Option.some.inj hf
          have hk := kx_l hk
          exact x_jmp O hk rfl
        · refine x_iload O dX0_shareOut_142 rfl ?_
          refine x_if_lt O 159 hf dX0_shareOut_144 (by decide) (fun hf => ?_) (fun hf => ?_)
          · refine x_iincN O hf dX0_shareOut_159 rfl rfl (by decide) (fun y2 hf => ?_)
            refine x_goto O 53 dX0_shareOut_162 (by decide) ?_
            obtain rfl := Option.some.inj hf
            have hk := kx_l hk
            exact x_jmp O hk rfl
          · refine x_aload_n O 0 dX0_shareOut_147 rfl rfl ?_
            refine x_getR O hf fl_X0_shareOut_15 rfl dX0_shareOut_148 (fun t4 ht4 hf => ?_)
            refine x_iload O dX0_shareOut_151 rfl ?_
            refine x_dup2 O dX0_shareOut_153 rfl rfl ?_
            refine x_iald O hf (arPa ht4) dX0_shareOut_154 (fun j1 hf => ?_)
            refine x_iload O dX0_shareOut_155 rfl ?_
            refine x_iadd O dX0_shareOut_157 ?_
            refine x_iastN O hf (arPa ht4) dX0_shareOut_158 (fun σ6 hf => ?_)
            refine x_iincN O hf dX0_shareOut_159 rfl rfl (by decide) (fun y3 hf => ?_)
            refine x_goto O 53 dX0_shareOut_162 (by decide) ?_
            obtain rfl := Option.some.inj hf
            have hk := kx_l hk
            exact x_jmp O hk rfl
      · refine x_aload_n O 0 dX0_shareOut_123 rfl rfl ?_
        refine x_dup O dX0_shareOut_124 rfl ?_
        refine x_getI O fl_X0_shareOut_26 rfl dX0_shareOut_125 ?_
        refine x_iload O dX0_shareOut_128 rfl ?_
        refine x_iadd O dX0_shareOut_130 ?_
        refine x_putIN O hf rfl rfl fl_X0_shareOut_26 rfl dX0_shareOut_131 (fun σ7 hf => ?_)
        refine x_goto O 159 dX0_shareOut_134 (by decide) ?_
        refine x_iincN O hf dX0_shareOut_159 rfl rfl (by decide) (fun y4 hf => ?_)
        refine x_goto O 53 dX0_shareOut_162 (by decide) ?_
        obtain rfl := Option.some.inj hf
        have hk := kx_l hk
        exact x_jmp O hk rfl
    · refine x_goto O 159 dX0_shareOut_76 (by decide) ?_
      refine x_iincN O hf dX0_shareOut_159 rfl rfl (by decide) (fun y5 hf => ?_)
      refine x_goto O 53 dX0_shareOut_162 (by decide) ?_
      obtain rfl := Option.some.inj hf
      have hk := kx_l hk
      exact x_jmp O hk rfl
set_option maxHeartbeats 4000000 in
set_option maxRecDepth 100000 in
theorem v_Ch_shareOut_53 {Γ : Cx} {ad : Nat → Nat} {rr : Int32} {σr : Mm} (O : Ok LT Γ ad cX0_shareOut 10 RX0 wsX0_shareOut rm_X0_shareOut none none σr) {σ : Mm} {v1 : Int32} {v2 : Int32} {v4 : Int32} {v5 : Int32}  (hf : f_Ch_shareOut_53 σ v1 v2 v4 v5 = some (rr, σr)) : X LT Γ ad σ 53 [(0, .ref (ad 33)), (1, .int v1), (2, .int v2), (4, .int v4), (5, .int v5)] [] := lpX (P := (fun s : Mm × Int32 => X LT Γ ad s.1 53 [(0, .ref (ad 33)), (1, .int v1), (2, .int v2), (4, .int v4), (5, .int s.2)] [])) (K := (fun q : Int32 × Mm => q = (rr, σr))) (fun s x g1 g2 => v_Ch_shareOut_53_b O (σ := s.1) (v1 := v1) (v2 := v2) (v4 := v4) (v5 := s.2)  g1 g2) (σ, v5) _ hf rfl
set_option maxHeartbeats 4000000 in
set_option maxRecDepth 100000 in
theorem v_Ch_shareOut {Γ : Cx} {ad : Nat → Nat} {rr : Int32} {σr : Mm} (O : Ok LT Γ ad cX0_shareOut 10 RX0 wsX0_shareOut rm_X0_shareOut none none σr) {σ : Mm} {v1 : Int32}  (hf : f_Ch_shareOut σ v1 = some (rr, σr)) : X LT Γ ad σ 0 [(0, .ref (ad 33)), (1, .int v1)] [] := by
  unfold f_Ch_shareOut at hf
  refine x_iload_n O 1 dX0_shareOut_0 rfl rfl ?_
  obtain ⟨r_1, σ1, hc, hf⟩ := bd_some hf
  refine x_callN O (k_T_cellOf  hc) ca_X9_cellOf gX0_shareOut_X9_cellOf_n52 (by decide +kernel) mw_X0_shareOut_4 mw_X0_shareOut_5 rfl rfl rfl (Nat.le_of_ble_eq_true rfl) ⟨Nat.le_of_ble_eq_true rfl, Nat.le_of_ble_eq_true rfl⟩ dX0_shareOut_1 ?_
  refine x_push O ?_
  refine x_istore_n O 2 dX0_shareOut_4 rfl (by decide) ?_
  refine x_aload_n O 0 dX0_shareOut_5 rfl rfl ?_
  refine x_getR O hf fl_X0_shareOut_18 rfl dX0_shareOut_6 (fun t1 ht1 hf => ?_)
  refine x_iload_n O 2 dX0_shareOut_9 rfl rfl ?_
  obtain ⟨r_2, σ2, hc, hf⟩ := bd_some hf
  refine x_callV O (k_Gr_waysFrom ht1 hc) ca_X2_waysFrom gX0_shareOut_X2_waysFrom rfl (okCl_Gr ht1) rfl rfl rfl (Nat.le_of_ble_eq_true rfl) ⟨Nat.le_of_ble_eq_true rfl, Nat.le_of_ble_eq_true rfl⟩ dX0_shareOut_10 ?_
  refine x_push O ?_
  refine x_istore_n O 3 dX0_shareOut_13 rfl (by decide) ?_
  refine x_iload_n O 3 dX0_shareOut_14 rfl rfl ?_
  refine x_if_gt O 37 hf dX0_shareOut_15 (by decide) (fun hf => ?_) (fun hf => ?_)
  · refine x_bipush O (v := 12) dX0_shareOut_37 (by decide) ?_
    refine x_iload_n O 3 dX0_shareOut_39 rfl rfl ?_
    refine x_idiv O hf dX0_shareOut_40 (fun hf => ?_)
    refine x_aload_n O 0 dX0_shareOut_41 rfl rfl ?_
    refine x_getR O hf fl_X0_shareOut_9 rfl dX0_shareOut_42 (fun t2 ht2 hf => ?_)
    refine x_iload_n O 1 dX0_shareOut_45 rfl rfl ?_
    refine x_iald O hf (arPa ht2) dX0_shareOut_46 (fun j1 hf => ?_)
    refine x_imul O dX0_shareOut_47 ?_
    refine x_istoreN O hf dX0_shareOut_48 (by decide) (fun y1 hf => ?_)
    refine x_iconst O (v := 0) dX0_shareOut_50 (by decide) ?_
    refine x_istore O dX0_shareOut_51 (by decide) ?_
    exact x_jmp O (v_Ch_shareOut_53 O (σ := σ2) (v1 := v1) (v2 := r_1) (v4 := y1) (v5 := 0)  hf) rfl
  · refine x_aload_n O 0 dX0_shareOut_18 rfl rfl ?_
    refine x_getR O hf fl_X0_shareOut_15 rfl dX0_shareOut_19 (fun t3 ht3 hf => ?_)
    refine x_iload_n O 1 dX0_shareOut_22 rfl rfl ?_
    refine x_dup2 O dX0_shareOut_23 rfl rfl ?_
    refine x_iald O hf (arPa ht3) dX0_shareOut_24 (fun j2 hf => ?_)
    refine x_bipush O (v := 12) dX0_shareOut_25 (by decide) ?_
    refine x_aload_n O 0 dX0_shareOut_27 rfl rfl ?_
    refine x_getR O hf fl_X0_shareOut_9 rfl dX0_shareOut_28 (fun t4 ht4 hf => ?_)
    refine x_iload_n O 1 dX0_shareOut_31 rfl rfl ?_
    refine x_iald O hf (arPa ht4) dX0_shareOut_32 (fun j3 hf => ?_)
    refine x_imul O dX0_shareOut_33 ?_
    refine x_iadd O dX0_shareOut_34 ?_
    refine x_iastN O hf (arPa ht3) dX0_shareOut_35 (fun σ3 hf => ?_)
    have hk : ((0 : Int32), σ3) = (rr, σr) := Option.some.inj hf
    obtain ⟨rfl, rfl⟩ := Prod.mk.inj hk
    exact x_vret O rfl rfl rfl dX0_shareOut_36
theorem k_Ch_shareOut {σ σr : Mm} {rr : Int32} {v1 : Int32}  (hf : f_Ch_shareOut σ v1 = some (rr, σr)) : CT LT yX0_shareOut wsX0_shareOut rm_X0_shareOut (fun ad => [.ref (ad 33), .int v1]) σ none σr := CT_of2 (cc := cX0_shareOut) (maxL := 10) (rt := none) (own := RX0) (by decide) rfl rfl (fun _ => Nat.le_of_ble_eq_true rfl) (fun _ => rfl) (fun Γ ad O => v_Ch_shareOut O  hf)

-- ===== TippedBarrow$Chance.pushOnce()V
theorem ca_X0_pushOnce : Ca yX0_pushOnce cX0_pushOnce 2 none wsX0_pushOnce rm_X0_pushOnce 0 := ⟨⟨_, rfl⟩, rfl, rfl, by decide +kernel, by decide +kernel, by decide +kernel⟩
theorem in_X0_pushOnce_X0 : ∀ w ∈ wsX00, w ∈ wsX0_pushOnce := by decide +kernel
theorem fl_X0_pushOnce_9 : Fl RX0 wsX0_pushOnce 9 0 0 false (.array .int) := ⟨_, _, _, tyX0, rfl, in_X0_pushOnce_X0, by decide, by decide +kernel, tyX0_ok, nmX0, rfl, tyX0_ok 0 (by decide)⟩
theorem fl_X0_pushOnce_15 : Fl RX0 wsX0_pushOnce 15 0 1 false (.array .int) := ⟨_, _, _, tyX0, rfl, in_X0_pushOnce_X0, by decide, by decide +kernel, tyX0_ok, nmX0, rfl, tyX0_ok 1 (by decide)⟩
theorem fl_X0_pushOnce_26 : Fl RX0 wsX0_pushOnce 26 0 2 false .int := ⟨_, _, _, tyX0, rfl, in_X0_pushOnce_X0, by decide, by decide +kernel, tyX0_ok, nmX0, rfl, tyX0_ok 2 (by decide)⟩
theorem fl_X0_pushOnce_29 : Fl RX0 wsX0_pushOnce 29 0 3 false .int := ⟨_, _, _, tyX0, rfl, in_X0_pushOnce_X0, by decide, by decide +kernel, tyX0_ok, nmX0, rfl, tyX0_ok 3 (by decide)⟩
set_option maxHeartbeats 4000000 in
set_option maxRecDepth 100000 in
theorem v_Ch_pushOnce_59 {Γ : Cx} {ad : Nat → Nat} {rr : Int32} {σr : Mm} (O : Ok LT Γ ad cX0_pushOnce 2 RX0 wsX0_pushOnce rm_X0_pushOnce none none σr) {σ : Mm}   (hf : f_Ch_pushOnce_59 σ = some (rr, σr)) : X LT Γ ad σ 59 [(0, .ref (ad 33))] [] := by
  unfold f_Ch_pushOnce_59 at hf
  refine x_aload_n O 0 dX0_pushOnce_59 rfl rfl ?_
  refine x_getR O hf fl_X0_pushOnce_9 rfl dX0_pushOnce_60 (fun t1 ht1 hf => ?_)
  refine x_astore_n O 1 dX0_pushOnce_63 rfl (by decide) ?_
  refine x_aload_n O 0 dX0_pushOnce_64 rfl rfl ?_
  refine x_aload_n O 0 dX0_pushOnce_65 rfl rfl ?_
  refine x_getR O hf fl_X0_pushOnce_15 rfl dX0_pushOnce_66 (fun t2 ht2 hf => ?_)
  refine x_putRN O hf rfl rfl fl_X0_pushOnce_9 rfl dX0_pushOnce_69 (fun σ1 hf => ?_)
  refine x_aload_n O 0 dX0_pushOnce_72 rfl rfl ?_
  refine x_aload_n O 1 dX0_pushOnce_73 rfl rfl ?_
  refine x_putRN O hf rfl rfl fl_X0_pushOnce_15 rfl dX0_pushOnce_74 (fun σ2 hf => ?_)
  have hk : ((0 : Int32), σ2) = (rr, σr) := Option.some.inj hf
  obtain ⟨rfl, rfl⟩ := Prod.mk.inj hk
  exact x_vret O rfl rfl rfl dX0_pushOnce_77
set_option maxHeartbeats 4000000 in
set_option maxRecDepth 100000 in
theorem v_Ch_pushOnce_32_b {Γ : Cx} {ad : Nat → Nat} {rr : Int32} {σr : Mm} (O : Ok LT Γ ad cX0_pushOnce 2 RX0 wsX0_pushOnce rm_X0_pushOnce none none σr) {σ : Mm} {v1 : Int32}  {x : (Mm × Int32) ⊕ (Int32 × Mm)} (hf : f_Ch_pushOnce_32_b σ v1 = some x) (hk : (kx (fun s : Mm × Int32 => X LT Γ ad s.1 32 [(0, .ref (ad 33)), (1, .int s.2)] []) (fun q : Int32 × Mm => q = (rr, σr))) x) : X LT Γ ad σ 32 [(0, .ref (ad 33)), (1, .int v1)] [] := by
  unfold f_Ch_pushOnce_32_b at hf
  refine x_iload_n O 1 dX0_pushOnce_32 rfl rfl ?_
  refine x_sipush O (v := 340) dX0_pushOnce_33 (by decide) ?_
  refine x_icmp_ge O 59 hf dX0_pushOnce_36 (by decide) (fun hf => ?_) (fun hf => ?_)
  · obtain ⟨x', hg1, hx⟩ := map_inr hf
    subst hx
    have hk := kx_r hk
    have hx : x' = (rr, σr) := hk
    subst hx
    have hf := hg1
    exact x_jmp O (v_Ch_pushOnce_59 O (σ := σ)   hf) rfl
  · refine x_aload_n O 0 dX0_pushOnce_39 rfl rfl ?_
    refine x_getR O hf fl_X0_pushOnce_9 rfl dX0_pushOnce_40 (fun t1 ht1 hf => ?_)
    refine x_iload_n O 1 dX0_pushOnce_43 rfl rfl ?_
    refine x_iald O hf (arPa ht1) dX0_pushOnce_44 (fun j1 hf => ?_)
    refine x_if_le O 53 hf dX0_pushOnce_45 (by decide) (fun hf => ?_) (fun hf => ?_)
    · refine x_iincN O hf dX0_pushOnce_53 rfl rfl (by decide) (fun y1 hf => ?_)
      refine x_goto O 32 dX0_pushOnce_56 (by decide) ?_
      obtain rfl := Option.some.inj hf
      have hk := kx_l hk
      exact x_jmp O hk rfl
    · refine x_aload_n O 0 dX0_pushOnce_48 rfl rfl ?_
      refine x_iload_n O 1 dX0_pushOnce_49 rfl rfl ?_
      obtain ⟨r_1, σ1, hc, hf⟩ := bd_some hf
      refine x_callV O (k_Ch_shareOut  hc) ca_X0_shareOut gX0_pushOnce_X0_shareOut rfl ⟨_, _, _, _, rfl, rfl⟩ rfl rfl rfl (Nat.le_of_ble_eq_true rfl) ⟨Nat.le_of_ble_eq_true rfl, Nat.le_of_ble_eq_true rfl⟩ dX0_pushOnce_50 ?_
      refine x_pushN O ?_
      refine x_iincN O hf dX0_pushOnce_53 rfl rfl (by decide) (fun y2 hf => ?_)
      refine x_goto O 32 dX0_pushOnce_56 (by decide) ?_
      obtain rfl := Option.some.inj hf
      have hk := kx_l hk
      exact x_jmp O hk rfl
set_option maxHeartbeats 4000000 in
set_option maxRecDepth 100000 in
theorem v_Ch_pushOnce_32 {Γ : Cx} {ad : Nat → Nat} {rr : Int32} {σr : Mm} (O : Ok LT Γ ad cX0_pushOnce 2 RX0 wsX0_pushOnce rm_X0_pushOnce none none σr) {σ : Mm} {v1 : Int32}  (hf : f_Ch_pushOnce_32 σ v1 = some (rr, σr)) : X LT Γ ad σ 32 [(0, .ref (ad 33)), (1, .int v1)] [] := lpX (P := (fun s : Mm × Int32 => X LT Γ ad s.1 32 [(0, .ref (ad 33)), (1, .int s.2)] [])) (K := (fun q : Int32 × Mm => q = (rr, σr))) (fun s x g1 g2 => v_Ch_pushOnce_32_b O (σ := s.1)  (v1 := s.2)  g1 g2) (σ, v1) _ hf rfl
set_option maxHeartbeats 4000000 in
set_option maxRecDepth 100000 in
theorem v_Ch_pushOnce {Γ : Cx} {ad : Nat → Nat} {rr : Int32} {σr : Mm} (O : Ok LT Γ ad cX0_pushOnce 2 RX0 wsX0_pushOnce rm_X0_pushOnce none none σr) {σ : Mm}   (hf : f_Ch_pushOnce σ = some (rr, σr)) : X LT Γ ad σ 0 [(0, .ref (ad 33))] [] := by
  unfold f_Ch_pushOnce at hf
  refine x_aload_n O 0 dX0_pushOnce_0 rfl rfl ?_
  refine x_dup O dX0_pushOnce_1 rfl ?_
  refine x_getI O fl_X0_pushOnce_26 rfl dX0_pushOnce_2 ?_
  refine x_bipush O (v := 12) dX0_pushOnce_5 (by decide) ?_
  refine x_imul O dX0_pushOnce_7 ?_
  refine x_putIN O hf rfl rfl fl_X0_pushOnce_26 rfl dX0_pushOnce_8 (fun σ1 hf => ?_)
  refine x_aload_n O 0 dX0_pushOnce_11 rfl rfl ?_
  refine x_dup O dX0_pushOnce_12 rfl ?_
  refine x_getI O fl_X0_pushOnce_29 rfl dX0_pushOnce_13 ?_
  refine x_bipush O (v := 12) dX0_pushOnce_16 (by decide) ?_
  refine x_imul O dX0_pushOnce_18 ?_
  refine x_putIN O hf rfl rfl fl_X0_pushOnce_29 rfl dX0_pushOnce_19 (fun σ2 hf => ?_)
  refine x_aload_n O 0 dX0_pushOnce_22 rfl rfl ?_
  refine x_getR O hf fl_X0_pushOnce_15 rfl dX0_pushOnce_23 (fun t1 ht1 hf => ?_)
  refine x_iconst O (v := 0) dX0_pushOnce_26 (by decide) ?_
  obtain ⟨r_1, σ3, hc, hf⟩ := bd_some hf
  refine x_callS O (k_Ar_fill (arPa ht1) hc) ca_J7_fill_53178 gX0_pushOnce_J7_fill_53178 rfl rfl rfl (Nat.le_of_ble_eq_true rfl) ⟨Nat.le_of_ble_eq_true rfl, Nat.le_of_ble_eq_true rfl⟩ dX0_pushOnce_27 ?_
  refine x_pushN O ?_
  refine x_iconst O (v := 0) dX0_pushOnce_30 (by decide) ?_
  refine x_istore_n O 1 dX0_pushOnce_31 rfl (by decide) ?_
  exact x_jmp O (v_Ch_pushOnce_32 O (σ := σ3) (v1 := 0)  hf) rfl
theorem k_Ch_pushOnce {σ σr : Mm} {rr : Int32}   (hf : f_Ch_pushOnce σ = some (rr, σr)) : CT LT yX0_pushOnce wsX0_pushOnce rm_X0_pushOnce (fun ad => [.ref (ad 33)]) σ none σr := CT_of2 (cc := cX0_pushOnce) (maxL := 2) (rt := none) (own := RX0) (by decide) rfl rfl (fun _ => Nat.le_of_ble_eq_true rfl) (fun _ => rfl) (fun Γ ad O => v_Ch_pushOnce O  hf)

-- ===== TippedBarrow$Chance.commonDivisor(II)I
theorem ca_X0_commonDivisor : Ca yX0_commonDivisor cX0_commonDivisor 6 (some .int) wsX0_commonDivisor rm_X0_commonDivisor 2 := ⟨⟨_, rfl⟩, rfl, rfl, by decide +kernel, by decide +kernel, by decide +kernel⟩
set_option maxHeartbeats 4000000 in
set_option maxRecDepth 100000 in
theorem v_Ch_commonDivisor_7_b {Γ : Cx} {ad : Nat → Nat} {rr : Int32} {σr : Mm} (O : Ok LT Γ ad cX0_commonDivisor 6 RX0 wsX0_commonDivisor rm_X0_commonDivisor (some .int) (some (.int rr)) σr) {σ : Mm} {v2 : Int32} {v3 : Int32} {v4 : Int32}  {x : (Mm × Int32 × Int32 × Int32) ⊕ (Int32 × Mm)} (hf : f_Ch_commonDivisor_7_b σ v2 v3 v4 = some x) (hk : (kx (fun s : Mm × Int32 × Int32 × Int32 => X LT Γ ad s.1 7 [(2, .int s.2.1), (3, .int s.2.2.1), (4, .int s.2.2.2)] []) (fun q : Int32 × Mm => q = (rr, σr))) x) : X LT Γ ad σ 7 [(2, .int v2), (3, .int v3), (4, .int v4)] [] := by
  unfold f_Ch_commonDivisor_7_b at hf
  refine x_iload O dX0_commonDivisor_7 rfl ?_
  refine x_bipush O (v := 64) dX0_commonDivisor_9 (by decide) ?_
  refine x_icmp_ge O 34 hf dX0_commonDivisor_11 (by decide) (fun hf => ?_) (fun hf => ?_)
  · obtain ⟨x', hg1, hx⟩ := map_inr hf
    subst hx
    have hk := kx_r hk
    have hx : x' = (rr, σr) := hk
    subst hx
    have hf := hg1
    refine x_iload_n O 2 dX0_commonDivisor_34 rfl rfl ?_
    have hk : (v2, σ) = (rr, σr) := Option.some.inj hf
    obtain ⟨rfl, rfl⟩ := Prod.mk.inj hk
    exact x_iret O rfl rfl ⟨_, rfl, rfl⟩ dX0_commonDivisor_35
  · refine x_iload_n O 3 dX0_commonDivisor_14 rfl rfl ?_
    refine x_if_le O 34 hf dX0_commonDivisor_15 (by decide) (fun hf => ?_) (fun hf => ?_)
    · obtain ⟨x', hg2, hx⟩ := map_inr hf
      subst hx
      have hk := kx_r hk
      have hx : x' = (rr, σr) := hk
      subst hx
      have hf := hg2
      refine x_iload_n O 2 dX0_commonDivisor_34 rfl rfl ?_
      have hk : (v2, σ) = (rr, σr) := Option.some.inj hf
      obtain ⟨rfl, rfl⟩ := Prod.mk.inj hk
      exact x_iret O rfl rfl ⟨_, rfl, rfl⟩ dX0_commonDivisor_35
    · refine x_iload_n O 2 dX0_commonDivisor_18 rfl rfl ?_
      refine x_iload_n O 3 dX0_commonDivisor_19 rfl rfl ?_
      refine x_irem O hf dX0_commonDivisor_20 (fun hf => ?_)
      refine x_istoreN O hf dX0_commonDivisor_21 (by decide) (fun y1 hf => ?_)
      refine x_iload_n O 3 dX0_commonDivisor_23 rfl rfl ?_
      refine x_istore_n O 2 dX0_commonDivisor_24 rfl (by decide) ?_
      refine x_iload O dX0_commonDivisor_25 rfl ?_
      refine x_istore_n O 3 dX0_commonDivisor_27 rfl (by decide) ?_
      refine x_iincN O hf dX0_commonDivisor_28 rfl rfl (by decide) (fun y2 hf => ?_)
      refine x_goto O 7 dX0_commonDivisor_31 (by decide) ?_
      obtain rfl := Option.some.inj hf
      have hk := kx_l hk
      exact x_jmp O hk rfl
set_option maxHeartbeats 4000000 in
set_option maxRecDepth 100000 in
theorem v_Ch_commonDivisor_7 {Γ : Cx} {ad : Nat → Nat} {rr : Int32} {σr : Mm} (O : Ok LT Γ ad cX0_commonDivisor 6 RX0 wsX0_commonDivisor rm_X0_commonDivisor (some .int) (some (.int rr)) σr) {σ : Mm} {v2 : Int32} {v3 : Int32} {v4 : Int32}  (hf : f_Ch_commonDivisor_7 σ v2 v3 v4 = some (rr, σr)) : X LT Γ ad σ 7 [(2, .int v2), (3, .int v3), (4, .int v4)] [] := lpX (P := (fun s : Mm × Int32 × Int32 × Int32 => X LT Γ ad s.1 7 [(2, .int s.2.1), (3, .int s.2.2.1), (4, .int s.2.2.2)] [])) (K := (fun q : Int32 × Mm => q = (rr, σr))) (fun s x g1 g2 => v_Ch_commonDivisor_7_b O (σ := s.1)  (v2 := s.2.1) (v3 := s.2.2.1) (v4 := s.2.2.2)  g1 g2) (σ, v2, v3, v4) _ hf rfl
set_option maxHeartbeats 4000000 in
set_option maxRecDepth 100000 in
theorem v_Ch_commonDivisor {Γ : Cx} {ad : Nat → Nat} {rr : Int32} {σr : Mm} (O : Ok LT Γ ad cX0_commonDivisor 6 RX0 wsX0_commonDivisor rm_X0_commonDivisor (some .int) (some (.int rr)) σr) {σ : Mm} {v0 : Int32} {v1 : Int32}  (hf : f_Ch_commonDivisor σ v0 v1 = some (rr, σr)) : X LT Γ ad σ 0 [(0, .int v0), (1, .int v1)] [] := by
  unfold f_Ch_commonDivisor at hf
  refine x_iload_n O 0 dX0_commonDivisor_0 rfl rfl ?_
  refine x_istore_n O 2 dX0_commonDivisor_1 rfl (by decide) ?_
  refine x_iload_n O 1 dX0_commonDivisor_2 rfl rfl ?_
  refine x_istore_n O 3 dX0_commonDivisor_3 rfl (by decide) ?_
  refine x_iconst O (v := 0) dX0_commonDivisor_4 (by decide) ?_
  refine x_istore O dX0_commonDivisor_5 (by decide) ?_
  exact x_jmp O (v_Ch_commonDivisor_7 O (σ := σ) (v2 := v0) (v3 := v1) (v4 := 0)  hf) rfl
theorem k_Ch_commonDivisor {σ σr : Mm} {rr : Int32} {v0 : Int32} {v1 : Int32}  (hf : f_Ch_commonDivisor σ v0 v1 = some (rr, σr)) : CT LT yX0_commonDivisor wsX0_commonDivisor rm_X0_commonDivisor (fun ad => [.int v0, .int v1]) σ (some (.int rr)) σr := CT_of2 (cc := cX0_commonDivisor) (maxL := 6) (rt := (some .int)) (own := RX0) (by decide) rfl rfl (fun _ => Nat.le_of_ble_eq_true rfl) (fun _ => rfl) (fun Γ ad O => v_Ch_commonDivisor O  hf)

-- ===== TippedBarrow$Chance.reckon(LTippedBarrow$Ground;IIII)V
theorem ca_X0_reckon : Ca yX0_reckon cX0_reckon 8 none wsX0_reckon rm_X0_reckon 5 := ⟨⟨_, rfl⟩, rfl, rfl, by decide +kernel, by decide +kernel, by decide +kernel⟩
theorem in_X0_reckon_X0 : ∀ w ∈ wsX00, w ∈ wsX0_reckon := by decide +kernel
theorem fl_X0_reckon_9 : Fl RX0 wsX0_reckon 9 0 0 false (.array .int) := ⟨_, _, _, tyX0, rfl, in_X0_reckon_X0, by decide, by decide +kernel, tyX0_ok, nmX0, rfl, tyX0_ok 0 (by decide)⟩
theorem fl_X0_reckon_18 : Fl RX0 wsX0_reckon 18 0 4 false (.object "TippedBarrow$Ground") := ⟨_, _, _, tyX0, rfl, in_X0_reckon_X0, by decide, by decide +kernel, tyX0_ok, nmX0, rfl, tyX0_ok 4 (by decide)⟩
theorem fl_X0_reckon_22 : Fl RX0 wsX0_reckon 22 0 5 false .int := ⟨_, _, _, tyX0, rfl, in_X0_reckon_X0, by decide, by decide +kernel, tyX0_ok, nmX0, rfl, tyX0_ok 5 (by decide)⟩
theorem fl_X0_reckon_26 : Fl RX0 wsX0_reckon 26 0 2 false .int := ⟨_, _, _, tyX0, rfl, in_X0_reckon_X0, by decide, by decide +kernel, tyX0_ok, nmX0, rfl, tyX0_ok 2 (by decide)⟩
theorem fl_X0_reckon_29 : Fl RX0 wsX0_reckon 29 0 3 false .int := ⟨_, _, _, tyX0, rfl, in_X0_reckon_X0, by decide, by decide +kernel, tyX0_ok, nmX0, rfl, tyX0_ok 3 (by decide)⟩
theorem mw_X0_reckon_0 : Cond.static yX9_spotOf ∈ wsX0_reckon := by decide +kernel
theorem mw_X0_reckon_1 : Cond.initialized yX9_spotOf.cls ∈ wsX0_reckon := by decide +kernel
set_option maxHeartbeats 4000000 in
set_option maxRecDepth 100000 in
theorem v_Ch_reckon_70 {Γ : Cx} {ad : Nat → Nat} {rr : Int32} {σr : Mm} (O : Ok LT Γ ad cX0_reckon 8 RX0 wsX0_reckon rm_X0_reckon none none σr) {σ : Mm} {r1 : Nat} (h1 : okGr r1 = true) (hf : f_Ch_reckon_70 σ = some (rr, σr)) : X LT Γ ad σ 70 [(0, .ref (ad 33))] [] := by
  unfold f_Ch_reckon_70 at hf
  refine x_aload_n O 0 dX0_reckon_70 rfl rfl ?_
  refine x_getI O fl_X0_reckon_26 rfl dX0_reckon_71 ?_
  refine x_aload_n O 0 dX0_reckon_74 rfl rfl ?_
  refine x_getI O fl_X0_reckon_29 rfl dX0_reckon_75 ?_
  obtain ⟨r_1, σ1, hc, hf⟩ := bd_some hf
  refine x_callS O (k_Ch_commonDivisor  hc) ca_X0_commonDivisor gX0_reckon_X0_commonDivisor rfl rfl rfl (Nat.le_of_ble_eq_true rfl) ⟨Nat.le_of_ble_eq_true rfl, Nat.le_of_ble_eq_true rfl⟩ dX0_reckon_78 ?_
  refine x_push O ?_
  refine x_istore O dX0_reckon_81 (by decide) ?_
  refine x_iload O dX0_reckon_83 rfl ?_
  refine x_iconst O (v := 1) dX0_reckon_85 (by decide) ?_
  refine x_icmp_le O 111 hf dX0_reckon_86 (by decide) (fun hf => ?_) (fun hf => ?_)
  · have hk : ((0 : Int32), σ1) = (rr, σr) := Option.some.inj hf
    obtain ⟨rfl, rfl⟩ := Prod.mk.inj hk
    exact x_vret O rfl rfl rfl dX0_reckon_111
  · refine x_aload_n O 0 dX0_reckon_89 rfl rfl ?_
    refine x_dup O dX0_reckon_90 rfl ?_
    refine x_getI O fl_X0_reckon_26 rfl dX0_reckon_91 ?_
    refine x_iload O dX0_reckon_94 rfl ?_
    refine x_idiv O hf dX0_reckon_96 (fun hf => ?_)
    refine x_putIN O hf rfl rfl fl_X0_reckon_26 rfl dX0_reckon_97 (fun σ2 hf => ?_)
    refine x_aload_n O 0 dX0_reckon_100 rfl rfl ?_
    refine x_dup O dX0_reckon_101 rfl ?_
    refine x_getI O fl_X0_reckon_29 rfl dX0_reckon_102 ?_
    refine x_iload O dX0_reckon_105 rfl ?_
    refine x_idiv O hf dX0_reckon_107 (fun hf => ?_)
    refine x_putIN O hf rfl rfl fl_X0_reckon_29 rfl dX0_reckon_108 (fun σ3 hf => ?_)
    have hk : ((0 : Int32), σ3) = (rr, σr) := Option.some.inj hf
    obtain ⟨rfl, rfl⟩ := Prod.mk.inj hk
    exact x_vret O rfl rfl rfl dX0_reckon_111
set_option maxHeartbeats 4000000 in
set_option maxRecDepth 100000 in
theorem v_Ch_reckon_53_b {Γ : Cx} {ad : Nat → Nat} {rr : Int32} {σr : Mm} (O : Ok LT Γ ad cX0_reckon 8 RX0 wsX0_reckon rm_X0_reckon none none σr) {σ : Mm} {r1 : Nat} {v5 : Int32} {v7 : Int32} (h1 : okGr r1 = true) {x : (Mm × Int32) ⊕ (Int32 × Mm)} (hf : f_Ch_reckon_53_b v5 σ v7 = some x) (hk : (kx (fun s : Mm × Int32 => X LT Γ ad s.1 53 [(0, .ref (ad 33)), (5, .int v5), (7, .int s.2)] []) (fun q : Int32 × Mm => q = (rr, σr))) x) : X LT Γ ad σ 53 [(0, .ref (ad 33)), (5, .int v5), (7, .int v7)] [] := by
  unfold f_Ch_reckon_53_b at hf
  refine x_iload O dX0_reckon_53 rfl ?_
  refine x_iload O dX0_reckon_55 rfl ?_
  refine x_icmp_ge O 70 hf dX0_reckon_57 (by decide) (fun hf => ?_) (fun hf => ?_)
  · obtain ⟨x', hg1, hx⟩ := map_inr hf
    subst hx
    have hk := kx_r hk
    have hx : x' = (rr, σr) := hk
    subst hx
    have hf := hg1
    exact x_jmp O (v_Ch_reckon_70 O (σ := σ) (r1 := r1) h1 hf) rfl
  · refine x_aload_n O 0 dX0_reckon_60 rfl rfl ?_
    obtain ⟨r_1, σ1, hc, hf⟩ := bd_some hf
    refine x_callV O (k_Ch_pushOnce  hc) ca_X0_pushOnce gX0_reckon_X0_pushOnce rfl ⟨_, _, _, _, rfl, rfl⟩ rfl rfl rfl (Nat.le_of_ble_eq_true rfl) ⟨Nat.le_of_ble_eq_true rfl, Nat.le_of_ble_eq_true rfl⟩ dX0_reckon_61 ?_
    refine x_pushN O ?_
    refine x_iincN O hf dX0_reckon_64 rfl rfl (by decide) (fun y1 hf => ?_)
    refine x_goto O 53 dX0_reckon_67 (by decide) ?_
    obtain rfl := Option.some.inj hf
    have hk := kx_l hk
    exact x_jmp O hk rfl
set_option maxHeartbeats 4000000 in
set_option maxRecDepth 100000 in
theorem v_Ch_reckon_53 {Γ : Cx} {ad : Nat → Nat} {rr : Int32} {σr : Mm} (O : Ok LT Γ ad cX0_reckon 8 RX0 wsX0_reckon rm_X0_reckon none none σr) {σ : Mm} {r1 : Nat} {v5 : Int32} {v7 : Int32} (h1 : okGr r1 = true) (hf : f_Ch_reckon_53 σ v5 v7 = some (rr, σr)) : X LT Γ ad σ 53 [(0, .ref (ad 33)), (5, .int v5), (7, .int v7)] [] := lpX (P := (fun s : Mm × Int32 => X LT Γ ad s.1 53 [(0, .ref (ad 33)), (5, .int v5), (7, .int s.2)] [])) (K := (fun q : Int32 × Mm => q = (rr, σr))) (fun s x g1 g2 => v_Ch_reckon_53_b O (σ := s.1) (r1 := r1) (v5 := v5) (v7 := s.2) h1 g1 g2) (σ, v7) _ hf rfl
set_option maxHeartbeats 4000000 in
set_option maxRecDepth 100000 in
theorem v_Ch_reckon {Γ : Cx} {ad : Nat → Nat} {rr : Int32} {σr : Mm} (O : Ok LT Γ ad cX0_reckon 8 RX0 wsX0_reckon rm_X0_reckon none none σr) {σ : Mm} {r1 : Nat} {v2 : Int32} {v3 : Int32} {v4 : Int32} {v5 : Int32} (h1 : okGr r1 = true) (hf : f_Ch_reckon σ r1 v2 v3 v4 v5 = some (rr, σr)) : X LT Γ ad σ 0 [(0, .ref (ad 33)), (1, .ref (ad r1)), (2, .int v2), (3, .int v3), (4, .int v4), (5, .int v5)] [] := by
  unfold f_Ch_reckon at hf
  refine x_aload_n O 0 dX0_reckon_0 rfl rfl ?_
  refine x_aload_n O 1 dX0_reckon_1 rfl rfl ?_
  refine x_putRN O hf rfl rfl fl_X0_reckon_18 rfl dX0_reckon_2 (fun σ1 hf => ?_)
  refine x_aload_n O 0 dX0_reckon_5 rfl rfl ?_
  refine x_iload O dX0_reckon_6 rfl ?_
  refine x_putIN O hf rfl rfl fl_X0_reckon_22 rfl dX0_reckon_8 (fun σ2 hf => ?_)
  refine x_aload_n O 0 dX0_reckon_11 rfl rfl ?_
  refine x_iconst O (v := 0) dX0_reckon_12 (by decide) ?_
  refine x_putIN O hf rfl rfl fl_X0_reckon_26 rfl dX0_reckon_13 (fun σ3 hf => ?_)
  refine x_aload_n O 0 dX0_reckon_16 rfl rfl ?_
  refine x_iconst O (v := 1) dX0_reckon_17 (by decide) ?_
  refine x_putIN O hf rfl rfl fl_X0_reckon_29 rfl dX0_reckon_18 (fun σ4 hf => ?_)
  refine x_iload_n O 2 dX0_reckon_21 rfl rfl ?_
  refine x_iload_n O 3 dX0_reckon_22 rfl rfl ?_
  obtain ⟨r_1, σ5, hc, hf⟩ := bd_some hf
  refine x_callN O (k_T_spotOf  hc) ca_X9_spotOf gX0_reckon_X9_spotOf_n32 (by decide +kernel) mw_X0_reckon_0 mw_X0_reckon_1 rfl rfl rfl (Nat.le_of_ble_eq_true rfl) ⟨Nat.le_of_ble_eq_true rfl, Nat.le_of_ble_eq_true rfl⟩ dX0_reckon_23 ?_
  refine x_push O ?_
  refine x_istore O dX0_reckon_26 (by decide) ?_
  refine x_iload O dX0_reckon_28 rfl ?_
  refine x_if_ge O 34 hf dX0_reckon_30 (by decide) (fun hf => ?_) (fun hf => ?_)
  · refine x_aload_n O 0 dX0_reckon_34 rfl rfl ?_
    refine x_getR O hf fl_X0_reckon_9 rfl dX0_reckon_35 (fun t1 ht1 hf => ?_)
    refine x_iconst O (v := 0) dX0_reckon_38 (by decide) ?_
    obtain ⟨r_2, σ6, hc, hf⟩ := bd_some hf
    refine x_callS O (k_Ar_fill (arPa ht1) hc) ca_J7_fill_53178 gX0_reckon_J7_fill_53178 rfl rfl rfl (Nat.le_of_ble_eq_true rfl) ⟨Nat.le_of_ble_eq_true rfl, Nat.le_of_ble_eq_true rfl⟩ dX0_reckon_39 ?_
    refine x_pushN O ?_
    refine x_aload_n O 0 dX0_reckon_42 rfl rfl ?_
    refine x_getR O hf fl_X0_reckon_9 rfl dX0_reckon_43 (fun t2 ht2 hf => ?_)
    refine x_iload O dX0_reckon_46 rfl ?_
    refine x_iconst O (v := 1) dX0_reckon_48 (by decide) ?_
    refine x_iastN O hf (arPa ht2) dX0_reckon_49 (fun σ7 hf => ?_)
    refine x_iconst O (v := 0) dX0_reckon_50 (by decide) ?_
    refine x_istore O dX0_reckon_51 (by decide) ?_
    exact x_jmp O (v_Ch_reckon_53 O (σ := σ7) (r1 := r1) (v5 := v5) (v7 := 0) h1 hf) rfl
  · have hk : ((0 : Int32), σ5) = (rr, σr) := Option.some.inj hf
    obtain ⟨rfl, rfl⟩ := Prod.mk.inj hk
    exact x_vret O rfl rfl rfl dX0_reckon_33
theorem k_Ch_reckon {σ σr : Mm} {rr : Int32} {r1 : Nat} {v2 : Int32} {v3 : Int32} {v4 : Int32} {v5 : Int32} (h1 : okGr r1 = true) (hf : f_Ch_reckon σ r1 v2 v3 v4 v5 = some (rr, σr)) : CT LT yX0_reckon wsX0_reckon rm_X0_reckon (fun ad => [.ref (ad 33), .ref (ad r1), .int v2, .int v3, .int v4, .int v5]) σ none σr := CT_of2 (cc := cX0_reckon) (maxL := 8) (rt := none) (own := RX0) (by decide) rfl rfl (fun _ => Nat.le_of_ble_eq_true rfl) (fun _ => rfl) (fun Γ ad O => v_Ch_reckon O h1 hf)

-- ===== TippedBarrow.odds(III)I
theorem ca_X9_odds : Ca yX9_odds cX9_odds 4 (some .int) wsX9_odds rm_X9_odds 3 := ⟨⟨_, rfl⟩, rfl, rfl, by decide +kernel, by decide +kernel, by decide +kernel⟩
theorem in_X9_odds_X0 : ∀ w ∈ wsX00, w ∈ wsX9_odds := by decide +kernel
theorem in_X9_odds_X4 : ∀ w ∈ wsX40, w ∈ wsX9_odds := by decide +kernel
theorem in_X9_odds_X9 : ∀ w ∈ wsX90, w ∈ wsX9_odds := by decide +kernel
theorem fl_X9_odds_38 : Fl RX9 wsX9_odds 38 9 4 true (.object "TippedBarrow$Moment") := ⟨_, _, _, tyX9, rfl, in_X9_odds_X9, by decide, by decide +kernel, tyX9_ok, nmX9, rfl, tyX9_ok 4 (by decide)⟩
theorem fl_X9_odds_51 : Fl RX9 wsX9_odds 51 9 5 true (.object "TippedBarrow$Ground") := ⟨_, _, _, tyX9, rfl, in_X9_odds_X9, by decide, by decide +kernel, tyX9_ok, nmX9, rfl, tyX9_ok 5 (by decide)⟩
theorem fl_X9_odds_93 : Fl RX9 wsX9_odds 93 9 15 true (.object "TippedBarrow$Chance") := ⟨_, _, _, tyX9, rfl, in_X9_odds_X9, by decide, by decide +kernel, tyX9_ok, nmX9, rfl, tyX9_ok 15 (by decide)⟩
theorem fl_X9_odds_138 : Fl RX9 wsX9_odds 138 4 3 false .int := ⟨_, _, _, tyX4, rfl, in_X9_odds_X4, by decide, by decide +kernel, tyX4_ok, nmX4, rfl, tyX4_ok 3 (by decide)⟩
theorem fl_X9_odds_141 : Fl RX9 wsX9_odds 141 4 4 false .int := ⟨_, _, _, tyX4, rfl, in_X9_odds_X4, by decide, by decide +kernel, tyX4_ok, nmX4, rfl, tyX4_ok 4 (by decide)⟩
theorem fl_X9_odds_215 : Fl RX9 wsX9_odds 215 0 2 false .int := ⟨_, _, _, tyX0, rfl, in_X9_odds_X0, by decide, by decide +kernel, tyX0_ok, nmX0, rfl, tyX0_ok 2 (by decide)⟩
theorem fl_X9_odds_218 : Fl RX9 wsX9_odds 218 0 3 false .int := ⟨_, _, _, tyX0, rfl, in_X9_odds_X0, by decide, by decide +kernel, tyX0_ok, nmX0, rfl, tyX0_ok 3 (by decide)⟩
set_option maxHeartbeats 4000000 in
set_option maxRecDepth 100000 in
theorem v_T_odds {Γ : Cx} {ad : Nat → Nat} {rr : Int32} {σr : Mm} (O : Ok LT Γ ad cX9_odds 4 RX9 wsX9_odds rm_X9_odds (some .int) (some (.int rr)) σr) {σ : Mm} {v1 : Int32} {v2 : Int32} {v3 : Int32}  (hf : f_T_odds σ v1 v2 v3 = some (rr, σr)) : X LT Γ ad σ 0 [(0, .ref (ad 0)), (1, .int v1), (2, .int v2), (3, .int v3)] [] := by
  unfold f_T_odds at hf
  refine x_iload_n O 1 dX9_odds_0 rfl rfl ?_
  obtain ⟨r_1, σ1, hc, hf⟩ := bd_some hf
  refine x_callS O (k_T_isNoSide  hc) ca_X9_isNoSide gX9_odds_X9_isNoSide rfl rfl rfl (Nat.le_of_ble_eq_true rfl) ⟨Nat.le_of_ble_eq_true rfl, Nat.le_of_ble_eq_true rfl⟩ dX9_odds_1 ?_
  refine x_push O ?_
  refine x_if_ne O 25 hf dX9_odds_4 (by decide) (fun hf => ?_) (fun hf => ?_)
  · refine x_iconst O (v := -1) dX9_odds_25 (by decide) ?_
    have hk : ((-1), σ1) = (rr, σr) := Option.some.inj hf
    obtain ⟨rfl, rfl⟩ := Prod.mk.inj hk
    exact x_iret O rfl rfl ⟨_, rfl, rfl⟩ dX9_odds_26
  · refine x_iload_n O 2 dX9_odds_7 rfl rfl ?_
    refine x_if_lt O 25 hf dX9_odds_8 (by decide) (fun hf => ?_) (fun hf => ?_)
    · refine x_iconst O (v := -1) dX9_odds_25 (by decide) ?_
      have hk : ((-1), σ1) = (rr, σr) := Option.some.inj hf
      obtain ⟨rfl, rfl⟩ := Prod.mk.inj hk
      exact x_iret O rfl rfl ⟨_, rfl, rfl⟩ dX9_odds_26
    · refine x_iload_n O 2 dX9_odds_11 rfl rfl ?_
      refine x_iconst O (v := 4) dX9_odds_12 (by decide) ?_
      refine x_icmp_gt O 25 hf dX9_odds_13 (by decide) (fun hf => ?_) (fun hf => ?_)
      · refine x_iconst O (v := -1) dX9_odds_25 (by decide) ?_
        have hk : ((-1), σ1) = (rr, σr) := Option.some.inj hf
        obtain ⟨rfl, rfl⟩ := Prod.mk.inj hk
        exact x_iret O rfl rfl ⟨_, rfl, rfl⟩ dX9_odds_26
      · refine x_iload_n O 3 dX9_odds_16 rfl rfl ?_
        refine x_if_lt O 25 hf dX9_odds_17 (by decide) (fun hf => ?_) (fun hf => ?_)
        · refine x_iconst O (v := -1) dX9_odds_25 (by decide) ?_
          have hk : ((-1), σ1) = (rr, σr) := Option.some.inj hf
          obtain ⟨rfl, rfl⟩ := Prod.mk.inj hk
          exact x_iret O rfl rfl ⟨_, rfl, rfl⟩ dX9_odds_26
        · refine x_iload_n O 3 dX9_odds_20 rfl rfl ?_
          refine x_iconst O (v := 1) dX9_odds_21 (by decide) ?_
          refine x_icmp_le O 27 hf dX9_odds_22 (by decide) (fun hf => ?_) (fun hf => ?_)
          · refine x_aload_n O 0 dX9_odds_27 rfl rfl ?_
            obtain ⟨r_2, σ2, hc, hf⟩ := bd_some hf
            refine x_callV O (k_T_hasNoStart  hc) ca_X9_hasNoStart gX9_odds_X9_hasNoStart rfl ⟨_, _, _, _, rfl, rfl⟩ rfl rfl rfl (Nat.le_of_ble_eq_true rfl) ⟨Nat.le_of_ble_eq_true rfl, Nat.le_of_ble_eq_true rfl⟩ dX9_odds_28 ?_
            refine x_push O ?_
            refine x_if_eq O 37 hf dX9_odds_31 (by decide) (fun hf => ?_) (fun hf => ?_)
            · refine x_aload_n O 0 dX9_odds_37 rfl rfl ?_
              refine x_getF O (t := 33) fl_X9_odds_93 rfl dX9_odds_38 ?_
              refine x_aload_n O 0 dX9_odds_41 rfl rfl ?_
              refine x_getF O (t := 11) fl_X9_odds_51 rfl dX9_odds_42 ?_
              refine x_aload_n O 0 dX9_odds_45 rfl rfl ?_
              refine x_getF O (t := 36) fl_X9_odds_38 rfl dX9_odds_46 ?_
              refine x_getI O fl_X9_odds_138 rfl dX9_odds_49 ?_
              refine x_aload_n O 0 dX9_odds_52 rfl rfl ?_
              refine x_getF O (t := 36) fl_X9_odds_38 rfl dX9_odds_53 ?_
              refine x_getI O fl_X9_odds_141 rfl dX9_odds_56 ?_
              refine x_iload_n O 1 dX9_odds_59 rfl rfl ?_
              refine x_iload_n O 2 dX9_odds_60 rfl rfl ?_
              obtain ⟨r_3, σ3, hc, hf⟩ := bd_some hf
              refine x_callV O (k_Ch_reckon rfl hc) ca_X0_reckon gX9_odds_X0_reckon rfl ⟨_, _, _, _, rfl, rfl⟩ rfl rfl rfl (Nat.le_of_ble_eq_true rfl) ⟨Nat.le_of_ble_eq_true rfl, Nat.le_of_ble_eq_true rfl⟩ dX9_odds_61 ?_
              refine x_pushN O ?_
              refine x_iload_n O 3 dX9_odds_64 rfl rfl ?_
              refine x_if_ne O 78 hf dX9_odds_65 (by decide) (fun hf => ?_) (fun hf => ?_)
              · refine x_aload_n O 0 dX9_odds_78 rfl rfl ?_
                refine x_getF O (t := 33) fl_X9_odds_93 rfl dX9_odds_79 ?_
                refine x_getI O fl_X9_odds_218 rfl dX9_odds_82 ?_
                have hk : ((gI σ3 33 3), σ3) = (rr, σr) := Option.some.inj hf
                obtain ⟨rfl, rfl⟩ := Prod.mk.inj hk
                exact x_iret O rfl rfl ⟨_, rfl, rfl⟩ dX9_odds_85
              · refine x_aload_n O 0 dX9_odds_68 rfl rfl ?_
                refine x_getF O (t := 33) fl_X9_odds_93 rfl dX9_odds_69 ?_
                refine x_getI O fl_X9_odds_215 rfl dX9_odds_72 ?_
                refine x_goto O 85 dX9_odds_75 (by decide) ?_
                have hk : ((gI σ3 33 2), σ3) = (rr, σr) := Option.some.inj hf
                obtain ⟨rfl, rfl⟩ := Prod.mk.inj hk
                exact x_iret O rfl rfl ⟨_, rfl, rfl⟩ dX9_odds_85
            · refine x_bipush O (v := -2) dX9_odds_34 (by decide) ?_
              have hk : ((-2), σ2) = (rr, σr) := Option.some.inj hf
              obtain ⟨rfl, rfl⟩ := Prod.mk.inj hk
              exact x_iret O rfl rfl ⟨_, rfl, rfl⟩ dX9_odds_36
          · refine x_iconst O (v := -1) dX9_odds_25 (by decide) ?_
            have hk : ((-1), σ1) = (rr, σr) := Option.some.inj hf
            obtain ⟨rfl, rfl⟩ := Prod.mk.inj hk
            exact x_iret O rfl rfl ⟨_, rfl, rfl⟩ dX9_odds_26
theorem k_T_odds {σ σr : Mm} {rr : Int32} {v1 : Int32} {v2 : Int32} {v3 : Int32}  (hf : f_T_odds σ v1 v2 v3 = some (rr, σr)) : CT LT yX9_odds wsX9_odds rm_X9_odds (fun ad => [.ref (ad 0), .int v1, .int v2, .int v3]) σ (some (.int rr)) σr := CT_of2 (cc := cX9_odds) (maxL := 4) (rt := (some .int)) (own := RX9) (by decide) rfl rfl (fun _ => Nat.le_of_ble_eq_true rfl) (fun _ => rfl) (fun Γ ad O => v_T_odds O  hf)
