/-! filling an array, emptying a plan, in any system of cells -/
set_option maxHeartbeats 4000000 in
set_option maxRecDepth 100000 in
theorem vg_Ar_fill_5_b {L : List Ck} {Γ : Cx} {ad : Nat → Nat} {rr : Int32} {σr : Mm} (O : Ok L Γ ad cJ7_fill_53178 4 RJ7 wsJ7_fill_53178 rm_J7_fill_53178 none none σr) {σ : Mm} {r0 : Nat} {n : Nat} {v1 : Int32} {v2 : Int32} {v3 : Int32} (h0 : L[r0]? = some (.inr (.inl (0, n)))) {x : (Mm × Int32) ⊕ (Int32 × Mm)} (hf : f_Ar_fill_5_b r0 n v1 v3 σ v2 = some x) (hk : (kx (fun s : Mm × Int32 => X L Γ ad s.1 5 [(0, .ref (ad r0)), (1, .int v1), (2, .int s.2), (3, .int v3)] []) (fun q : Int32 × Mm => q = (rr, σr))) x) : X L Γ ad σ 5 [(0, .ref (ad r0)), (1, .int v1), (2, .int v2), (3, .int v3)] [] := by
  unfold f_Ar_fill_5_b at hf
  refine x_iload_n O 2 dJ7_fill_53178_5 rfl rfl ?_
  refine x_iload_n O 3 dJ7_fill_53178_6 rfl rfl ?_
  refine x_icmp_ge O 20 hf dJ7_fill_53178_7 (by decide) (fun hf => ?_) (fun hf => ?_)
  · obtain ⟨x', hg1, hx⟩ := map_inr hf
    subst hx
    have hk := kx_r hk
    have hx : x' = (rr, σr) := hk
    subst hx
    have hf := hg1
    have hk : ((0 : Int32), σ) = (rr, σr) := Option.some.inj hf
    obtain ⟨rfl, rfl⟩ := Prod.mk.inj hk
    exact x_vret O rfl rfl rfl dJ7_fill_53178_20
  · refine x_aload_n O 0 dJ7_fill_53178_10 rfl rfl ?_
    refine x_iload_n O 2 dJ7_fill_53178_11 rfl rfl ?_
    refine x_iload_n O 1 dJ7_fill_53178_12 rfl rfl ?_
    refine x_iastN O hf h0 dJ7_fill_53178_13 (fun σ1 hf => ?_)
    refine x_iincN O hf dJ7_fill_53178_14 rfl rfl (by decide) (fun y1 hf => ?_)
    refine x_goto O 5 dJ7_fill_53178_17 (by decide) ?_
    obtain rfl := Option.some.inj hf
    have hk := kx_l hk
    exact x_jmp O hk rfl
set_option maxHeartbeats 4000000 in
set_option maxRecDepth 100000 in
theorem vg_Ar_fill_5 {L : List Ck} {Γ : Cx} {ad : Nat → Nat} {rr : Int32} {σr : Mm} (O : Ok L Γ ad cJ7_fill_53178 4 RJ7 wsJ7_fill_53178 rm_J7_fill_53178 none none σr) {σ : Mm} {r0 : Nat} {n : Nat} {v1 : Int32} {v2 : Int32} {v3 : Int32} (h0 : L[r0]? = some (.inr (.inl (0, n)))) (hf : f_Ar_fill_5 σ r0 n v1 v3 v2 = some (rr, σr)) : X L Γ ad σ 5 [(0, .ref (ad r0)), (1, .int v1), (2, .int v2), (3, .int v3)] [] := lpX (P := (fun s : Mm × Int32 => X L Γ ad s.1 5 [(0, .ref (ad r0)), (1, .int v1), (2, .int s.2), (3, .int v3)] [])) (K := (fun q : Int32 × Mm => q = (rr, σr))) (fun s x g1 g2 => vg_Ar_fill_5_b O (σ := s.1) (r0 := r0) (n := n) (v1 := v1) (v3 := v3) (v2 := s.2) h0 g1 g2) (σ, v2) _ hf rfl
set_option maxHeartbeats 4000000 in
set_option maxRecDepth 100000 in
theorem vg_Ar_fill {L : List Ck} {Γ : Cx} {ad : Nat → Nat} {rr : Int32} {σr : Mm} (O : Ok L Γ ad cJ7_fill_53178 4 RJ7 wsJ7_fill_53178 rm_J7_fill_53178 none none σr) {σ : Mm} {r0 : Nat} {n : Nat} {v1 : Int32} (h0 : L[r0]? = some (.inr (.inl (0, n)))) (hf : f_Ar_fill σ r0 n v1 = some (rr, σr)) : X L Γ ad σ 0 [(0, .ref (ad r0)), (1, .int v1)] [] := by
  unfold f_Ar_fill at hf
  refine x_iconst O (v := 0) dJ7_fill_53178_0 (by decide) ?_
  refine x_istore_n O 2 dJ7_fill_53178_1 rfl (by decide) ?_
  refine x_aload_n O 0 dJ7_fill_53178_2 rfl rfl ?_
  refine x_alen O h0 rfl rfl dJ7_fill_53178_3 ?_
  refine x_istore_nN O 3 hf dJ7_fill_53178_4 rfl (by decide) (fun y1 hf => ?_)
  exact x_jmp O (vg_Ar_fill_5 O (σ := σ) (r0 := r0) (n := n) (v1 := v1) (v2 := 0) (v3 := y1) h0 hf) rfl
theorem kg_Ar_fill {L : List Ck} {σ σr : Mm} {rr : Int32} {r0 : Nat} {n : Nat} {v1 : Int32} (h0 : L[r0]? = some (.inr (.inl (0, n)))) (hf : f_Ar_fill σ r0 n v1 = some (rr, σr)) : CT L yJ7_fill_53178 wsJ7_fill_53178 rm_J7_fill_53178 (fun ad => [.ref (ad r0), .int v1]) σ none σr := CT_of2 (cc := cJ7_fill_53178) (maxL := 4) (rt := none) (own := RJ7) (by decide) rfl rfl (fun _ => Nat.le_of_ble_eq_true rfl) (fun _ => rfl) (fun Γ ad O => vg_Ar_fill O h0 hf)


set_option maxHeartbeats 4000000 in
set_option maxRecDepth 100000 in
theorem vg_Pl_empty {L : List Ck} {Γ : Cx} {ad : Nat → Nat} {rr : Int32} {σr : Mm} (O : Ok L Γ ad cX5_empty 1 RX5 wsX5_empty rm_X5_empty none none σr) {σ : Mm} {r0 : Nat} (h0 : L[r0]? = some (.inl (5, [r0 + 1 + 3, 0, 0, 0, 0, 0]))) (h1 : L[r0 + 1]? = some (.inr (.inl (0, 20)))) (hf : f_Pl_empty σ r0 = some (rr, σr)) : X L Γ ad σ 0 [(0, .ref (ad r0))] [] := by
  unfold f_Pl_empty at hf
  refine x_aload_n O 0 dX5_empty_0 rfl rfl ?_
  refine x_getF O (t := (r0 + 1)) fl_X5_empty_9 (fk_of (h0) rfl) dX5_empty_1 ?_
  refine x_bipush O (v := 100) dX5_empty_4 (by decide) ?_
  obtain ⟨r_1, σ1, hc, hf⟩ := bd_some hf
  refine x_callS O (kg_Ar_fill (h1) hc) ca_J7_fill_53178 gX5_empty_J7_fill_53178 rfl rfl rfl (Nat.le_of_ble_eq_true rfl) ⟨Nat.le_of_ble_eq_true rfl, Nat.le_of_ble_eq_true rfl⟩ dX5_empty_6 ?_
  refine x_pushN O ?_
  refine x_aload_n O 0 dX5_empty_9 rfl rfl ?_
  refine x_iconst O (v := 0) dX5_empty_10 (by decide) ?_
  refine x_putIN O hf rfl rfl fl_X5_empty_24 (fk_of (h0) rfl) dX5_empty_11 (fun σ2 hf => ?_)
  refine x_aload_n O 0 dX5_empty_14 rfl rfl ?_
  refine x_iconst O (v := 0) dX5_empty_15 (by decide) ?_
  refine x_putIN O hf rfl rfl fl_X5_empty_28 (fk_of (h0) rfl) dX5_empty_16 (fun σ3 hf => ?_)
  refine x_aload_n O 0 dX5_empty_19 rfl rfl ?_
  refine x_bipush O (v := -9) dX5_empty_20 (by decide) ?_
  refine x_putIN O hf rfl rfl fl_X5_empty_31 (fk_of (h0) rfl) dX5_empty_22 (fun σ4 hf => ?_)
  refine x_aload_n O 0 dX5_empty_25 rfl rfl ?_
  refine x_iconst O (v := 5) dX5_empty_26 (by decide) ?_
  refine x_putIN O hf rfl rfl fl_X5_empty_34 (fk_of (h0) rfl) dX5_empty_27 (fun σ5 hf => ?_)
  refine x_aload_n O 0 dX5_empty_30 rfl rfl ?_
  refine x_iconst O (v := 0) dX5_empty_31 (by decide) ?_
  refine x_putIN O hf rfl rfl fl_X5_empty_37 (fk_of (h0) rfl) dX5_empty_32 (fun σ6 hf => ?_)
  have hk : ((0 : Int32), σ6) = (rr, σr) := Option.some.inj hf
  obtain ⟨rfl, rfl⟩ := Prod.mk.inj hk
  exact x_vret O rfl rfl rfl dX5_empty_35
theorem kg_Pl_empty {L : List Ck} {σ σr : Mm} {rr : Int32} {r0 : Nat} (h0 : L[r0]? = some (.inl (5, [r0 + 1 + 3, 0, 0, 0, 0, 0]))) (h1 : L[r0 + 1]? = some (.inr (.inl (0, 20)))) (hf : f_Pl_empty σ r0 = some (rr, σr)) : CT L yX5_empty wsX5_empty rm_X5_empty (fun ad => [.ref (ad r0)]) σ none σr := CT_of2 (cc := cX5_empty) (maxL := 1) (rt := none) (own := RX5) (by decide) rfl rfl (fun _ => Nat.le_of_ble_eq_true rfl) (fun _ => rfl) (fun Γ ad O => vg_Pl_empty O h0 h1 hf)

