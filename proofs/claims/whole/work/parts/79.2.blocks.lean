/-! the small constructors -/
def LTe : List Ck := [.inl (7, [1 + 3, 0]), .inr (.inl (0, 120))]
set_option maxRecDepth 20000 in
theorem inn_X7_init_X7 : ∀ w ∈ wsX70, w ∈ wsX7_init := by decide +kernel
theorem fn_X7_init_9 : Fl RX7 wsX7_init 9 7 0 true (.array .int) := ⟨_, _, _, tyX7, rfl, inn_X7_init_X7, by decide, by decide +kernel, tyX7_ok, nmX7, rfl, tyX7_ok 0 (by decide)⟩
abbrev rm_X7_init : Room := { frames := 1, cells := 1, slots := 120, locals := 12 }
set_option maxHeartbeats 4000000 in
set_option maxRecDepth 100000 in
theorem c_Te_init (l : Launch) (D : va_G) (cy : Nat → ClassId) (q sz : Nat) : Met l yX7_init wsX7_init rm_X7_init (Pn D cy [.ref q] sz q (.inr (7, [.null, .int 0]))) (va_Qv (fun b : Nat → Nat => b 0 = q) (fun b t => va_P D vwCl (wd LTe b cy zm) t.heap ∧ va_D (va_A [(q, (.inr (7, [.null, .int 0])))] sz) (wd LTe b cy zm)) (va_A [(q, (.inr (7, [.null, .int 0])))] sz)) 1 120 (va_A [(q, (.inr (7, [.null, .int 0])))] sz) := by
  refine Met.ofW (cc := cX7_init) (maxL := 1) (ret := none) (by decide) rfl ?_
  intro p e s m args below meth c s₁ B hml hv
  obtain ⟨rfl, hsz, hP, hK, hSX⟩ := hv
  have hx := B.exec
  have hb := B.bytes
  have hr := B.returns
  have hts := atoms_spec (ws := wsX7_init) B.pre
  have hown : s.vm.findClass RX7 = some m.cls := findClass_of_methodNamed B.named
  have hlocks := B.notSynchronized
  have hin : meth.name = "<init>" := (name_of_methodNamed B.named B.method).1
  subst hsz
  have hD : va_D (va_A [(q, (.inr (7, [.null, .int 0])))] s.heap.size) [(q, (.inr (7, [.null, .int 0])))] := nD1
  generalize hAe : va_A [(q, (.inr (7, [.null, .int 0])))] s.heap.size = A at hSX hD ⊢
  have hA : ∀ x : Nat, s.heap.size ≤ x → A x := fun x h => by rw [← hAe]; exact Or.inr h
  have hS : va_S A s.heap s.heap [] := va_S.rf
  have O : OkC p s m _ meth c D cy A cX7_init RX7 wsX7_init := ⟨hx, hb, hown, hts, hK, hA, hSX⟩
  have hl := lv_entry ([.ref q]) (n := 1) (Nat.le_of_ble_eq_true rfl)
  have hl2 := lh_entry (vs := [.ref q]) (n := 1) (lv := lv_args 0 [.ref q]) (Nat.le_of_ble_eq_true rfl) (fun i v h => ⟨as1_mem h, cat_all rfl (as1_mem h)⟩)
  rw [lg_entry_eq]
  generalize (lg_sl ([.ref q]) ++ List.replicate (1 - (lg_sl ([.ref q])).length) Slot.unset).toArray = ls at hl hl2 ⊢
  have h0 : ls[0]? = some (.val (.ref q)) := lv_at hl 0 rfl
  refine lv_aload_n hx hb dX7_init_0 rfl h0 ?_
  refine W.objInit hx hb hown (hts (.methodLink RX7 3 objectInit) (by decide +kernel)) (hts (.instanceMethod objectInit) (by decide +kernel)) (hts _ (List.mem_of_getElem? (l := wsX7_init) (i := 3) rfl)) rfl (by rw [hml]; exact hl.1) rfl dX7_init_1 (Nat.le_of_ble_eq_true rfl) (Nat.le_of_ble_eq_true rfl) ?_
  refine W.eq (g2 := F0 m 4 ls []) rfl ?_
  have hP : va_P D vwCl ((q, .inr (7, [.null, .int 0])) :: []) s.heap := hP
  have hD : va_D A ((q, .inr (7, [.null, .int 0])) :: []) := hD
  refine lv_aload_n hx hb dX7_init_4 rfl h0 ?_
  refine lv_bipush (v := 120) hx hb dX7_init_5 (by decide) ?_
  refine n_newa O 0 (n := 120) (ty := .int) rfl rfl rfl (by decide +kernel) (by decide) (by decide) (by decide) (Nat.le_of_ble_eq_true rfl) (Nat.le_of_ble_eq_true rfl) hP hD hS dX7_init_7 (fun a7 H hP hD hS => ?_)
  have hP : va_P D vwCl ((q, .inr (7, [.null, .int 0])) :: [(a7, .inl (cy 0, (120, .inl (fun _ => 0))))]) H := hP
  have hD : va_D A ((q, .inr (7, [.null, .int 0])) :: [(a7, .inl (cy 0, (120, .inl (fun _ => 0))))]) := hD
  refine n_put O hin fn_X7_init_9 (fun r h => by obtain rfl := Option.some.inj h; rfl) rfl rfl (Nat.le_of_ble_eq_true rfl) hP hD hS dX7_init_9 (fun H locs hP hD hS => ?_)
  have hP : va_P D vwCl ((q, .inr (7, [.ref a7, .int 0])) :: [(a7, .inl (cy 0, (120, .inl (fun _ => 0))))]) H := hP
  have hD : va_D A ((q, .inr (7, [.ref a7, .int 0])) :: [(a7, .inl (cy 0, (120, .inl (fun _ => 0))))]) := hD
  have hP9 : va_P D vwCl (wd LTe (fun i => ([q, a7] : List Nat).getD i 0) cy zm) H := hP
  have hD9 : va_D A (wd LTe (fun i => ([q, a7] : List Nat).getD i 0) cy zm) := hD
  refine W.widen (k := 1) (n := 120) (Nat.le_of_ble_eq_true rfl) (Nat.le_of_ble_eq_true rfl) ?_
  exact W.vret hx hb hr (fun t ht hW => ⟨⟨(fun i => ([q, a7] : List Nat).getD i 0), rfl, rfl, by rw [ht]; exact hP9, hD9⟩, hS.F ht⟩) hS.2.2 dX7_init_12 hlocks

def LRe : List Ck := [.inl (6, [4 + 3, 1 + 3, 2 + 3, 3 + 3, 0, 0, 2, 0, 0]), .inr (.inl (0, 121)), .inr (.inl (0, 121)), .inr (.inl (0, 121))]
set_option maxRecDepth 20000 in
theorem inn_X6_init_X6 : ∀ w ∈ wsX60, w ∈ wsX6_init := by decide +kernel
theorem fn_X6_init_11 : Fl RX6 wsX6_init 11 6 1 true (.array .int) := ⟨_, _, _, tyX6, rfl, inn_X6_init_X6, by decide, by decide +kernel, tyX6_ok, nmX6, rfl, tyX6_ok 1 (by decide)⟩
theorem fn_X6_init_15 : Fl RX6 wsX6_init 15 6 2 true (.array .int) := ⟨_, _, _, tyX6, rfl, inn_X6_init_X6, by decide, by decide +kernel, tyX6_ok, nmX6, rfl, tyX6_ok 2 (by decide)⟩
theorem fn_X6_init_18 : Fl RX6 wsX6_init 18 6 3 true (.array .int) := ⟨_, _, _, tyX6, rfl, inn_X6_init_X6, by decide, by decide +kernel, tyX6_ok, nmX6, rfl, tyX6_ok 3 (by decide)⟩
theorem fn_X6_init_21 : Fl RX6 wsX6_init 21 6 0 true (.object "TippedBarrow$Text") := ⟨_, _, _, tyX6, rfl, inn_X6_init_X6, by decide, by decide +kernel, tyX6_ok, nmX6, rfl, tyX6_ok 0 (by decide)⟩
abbrev rm_X6_init : Room := { frames := 1, cells := 3, slots := 363, locals := 12 }
set_option maxHeartbeats 4000000 in
set_option maxRecDepth 100000 in
theorem c_Re_init (l : Launch) (D : va_G) (cy : Nat → ClassId) (q sz : Nat) (tx : Nat) : Met l yX6_init wsX6_init rm_X6_init (Pn D cy [.ref q, .ref tx] sz q (.inr (6, [.null, .null, .null, .null, .int 0, .int 0, .null, .int 0, .int 0]))) (va_Qv (fun b : Nat → Nat => b 0 = q ∧ b 4 = tx) (fun b t => va_P D vwCl (wd LRe b cy zm) t.heap ∧ va_D (va_A [(q, (.inr (6, [.null, .null, .null, .null, .int 0, .int 0, .null, .int 0, .int 0])))] sz) (wd LRe b cy zm)) (va_A [(q, (.inr (6, [.null, .null, .null, .null, .int 0, .int 0, .null, .int 0, .int 0])))] sz)) 3 363 (va_A [(q, (.inr (6, [.null, .null, .null, .null, .int 0, .int 0, .null, .int 0, .int 0])))] sz) := by
  refine Met.ofW (cc := cX6_init) (maxL := 2) (ret := none) (by decide) rfl ?_
  intro p e s m args below meth c s₁ B hml hv
  obtain ⟨rfl, hsz, hP, hK, hSX⟩ := hv
  have hx := B.exec
  have hb := B.bytes
  have hr := B.returns
  have hts := atoms_spec (ws := wsX6_init) B.pre
  have hown : s.vm.findClass RX6 = some m.cls := findClass_of_methodNamed B.named
  have hlocks := B.notSynchronized
  have hin : meth.name = "<init>" := (name_of_methodNamed B.named B.method).1
  subst hsz
  have hD : va_D (va_A [(q, (.inr (6, [.null, .null, .null, .null, .int 0, .int 0, .null, .int 0, .int 0])))] s.heap.size) [(q, (.inr (6, [.null, .null, .null, .null, .int 0, .int 0, .null, .int 0, .int 0])))] := nD1
  generalize hAe : va_A [(q, (.inr (6, [.null, .null, .null, .null, .int 0, .int 0, .null, .int 0, .int 0])))] s.heap.size = A at hSX hD ⊢
  have hA : ∀ x : Nat, s.heap.size ≤ x → A x := fun x h => by rw [← hAe]; exact Or.inr h
  have hS : va_S A s.heap s.heap [] := va_S.rf
  have O : OkC p s m _ meth c D cy A cX6_init RX6 wsX6_init := ⟨hx, hb, hown, hts, hK, hA, hSX⟩
  have hl := lv_entry ([.ref q, .ref tx]) (n := 2) (Nat.le_of_ble_eq_true rfl)
  have hl2 := lh_entry (vs := [.ref q, .ref tx]) (n := 2) (lv := lv_args 0 [.ref q, .ref tx]) (Nat.le_of_ble_eq_true rfl) (fun i v h => ⟨as1_mem h, cat_all rfl (as1_mem h)⟩)
  rw [lg_entry_eq]
  generalize (lg_sl ([.ref q, .ref tx]) ++ List.replicate (2 - (lg_sl ([.ref q, .ref tx])).length) Slot.unset).toArray = ls at hl hl2 ⊢
  have h0 : ls[0]? = some (.val (.ref q)) := lv_at hl 0 rfl
  have h1 : ls[1]? = some (.val (.ref tx)) := lv_at hl 1 rfl
  refine lv_aload_n hx hb dX6_init_0 rfl h0 ?_
  refine W.objInit hx hb hown (hts (.methodLink RX6 3 objectInit) (by decide +kernel)) (hts (.instanceMethod objectInit) (by decide +kernel)) (hts _ (List.mem_of_getElem? (l := wsX6_init) (i := 3) rfl)) rfl (by rw [hml]; exact hl.1) rfl dX6_init_1 (Nat.le_of_ble_eq_true rfl) (Nat.le_of_ble_eq_true rfl) ?_
  refine W.eq (g2 := F0 m 4 ls []) rfl ?_
  have hP : va_P D vwCl ((q, .inr (6, [.null, .null, .null, .null, .int 0, .int 0, .null, .int 0, .int 0])) :: []) s.heap := hP
  have hD : va_D A ((q, .inr (6, [.null, .null, .null, .null, .int 0, .int 0, .null, .int 0, .int 0])) :: []) := hD
  refine lv_aload_n hx hb dX6_init_4 rfl h0 ?_
  refine lv_bipush (v := 121) hx hb dX6_init_5 (by decide) ?_
  refine n_newa O 0 (n := 121) (ty := .int) rfl rfl rfl (by decide +kernel) (by decide) (by decide) (by decide) (Nat.le_of_ble_eq_true rfl) (Nat.le_of_ble_eq_true rfl) hP hD hS dX6_init_7 (fun a7 H hP hD hS => ?_)
  have hP : va_P D vwCl ((q, .inr (6, [.null, .null, .null, .null, .int 0, .int 0, .null, .int 0, .int 0])) :: [(a7, .inl (cy 0, (121, .inl (fun _ => 0))))]) H := hP
  have hD : va_D A ((q, .inr (6, [.null, .null, .null, .null, .int 0, .int 0, .null, .int 0, .int 0])) :: [(a7, .inl (cy 0, (121, .inl (fun _ => 0))))]) := hD
  refine n_put O hin fn_X6_init_11 (fun r h => by obtain rfl := Option.some.inj h; rfl) rfl rfl (Nat.le_of_ble_eq_true rfl) hP hD hS dX6_init_9 (fun H locs hP hD hS => ?_)
  have hP : va_P D vwCl ((q, .inr (6, [.null, .ref a7, .null, .null, .int 0, .int 0, .null, .int 0, .int 0])) :: [(a7, .inl (cy 0, (121, .inl (fun _ => 0))))]) H := hP
  have hD : va_D A ((q, .inr (6, [.null, .ref a7, .null, .null, .int 0, .int 0, .null, .int 0, .int 0])) :: [(a7, .inl (cy 0, (121, .inl (fun _ => 0))))]) := hD
  refine lv_aload_n hx hb dX6_init_12 rfl h0 ?_
  refine lv_bipush (v := 121) hx hb dX6_init_13 (by decide) ?_
  refine n_newa O 0 (n := 121) (ty := .int) rfl rfl rfl (by decide +kernel) (by decide) (by decide) (by decide) (Nat.le_of_ble_eq_true rfl) (Nat.le_of_ble_eq_true rfl) hP hD hS dX6_init_15 (fun a15 H hP hD hS => ?_)
  have hP : va_P D vwCl ((q, .inr (6, [.null, .ref a7, .null, .null, .int 0, .int 0, .null, .int 0, .int 0])) :: [(a7, .inl (cy 0, (121, .inl (fun _ => 0)))), (a15, .inl (cy 0, (121, .inl (fun _ => 0))))]) H := hP
  have hD : va_D A ((q, .inr (6, [.null, .ref a7, .null, .null, .int 0, .int 0, .null, .int 0, .int 0])) :: [(a7, .inl (cy 0, (121, .inl (fun _ => 0)))), (a15, .inl (cy 0, (121, .inl (fun _ => 0))))]) := hD
  refine n_put O hin fn_X6_init_15 (fun r h => by obtain rfl := Option.some.inj h; rfl) rfl rfl (Nat.le_of_ble_eq_true rfl) hP hD hS dX6_init_17 (fun H locs hP hD hS => ?_)
  have hP : va_P D vwCl ((q, .inr (6, [.null, .ref a7, .ref a15, .null, .int 0, .int 0, .null, .int 0, .int 0])) :: [(a7, .inl (cy 0, (121, .inl (fun _ => 0)))), (a15, .inl (cy 0, (121, .inl (fun _ => 0))))]) H := hP
  have hD : va_D A ((q, .inr (6, [.null, .ref a7, .ref a15, .null, .int 0, .int 0, .null, .int 0, .int 0])) :: [(a7, .inl (cy 0, (121, .inl (fun _ => 0)))), (a15, .inl (cy 0, (121, .inl (fun _ => 0))))]) := hD
  refine lv_aload_n hx hb dX6_init_20 rfl h0 ?_
  refine lv_bipush (v := 121) hx hb dX6_init_21 (by decide) ?_
  refine n_newa O 0 (n := 121) (ty := .int) rfl rfl rfl (by decide +kernel) (by decide) (by decide) (by decide) (Nat.le_of_ble_eq_true rfl) (Nat.le_of_ble_eq_true rfl) hP hD hS dX6_init_23 (fun a23 H hP hD hS => ?_)
  have hP : va_P D vwCl ((q, .inr (6, [.null, .ref a7, .ref a15, .null, .int 0, .int 0, .null, .int 0, .int 0])) :: [(a7, .inl (cy 0, (121, .inl (fun _ => 0)))), (a15, .inl (cy 0, (121, .inl (fun _ => 0)))), (a23, .inl (cy 0, (121, .inl (fun _ => 0))))]) H := hP
  have hD : va_D A ((q, .inr (6, [.null, .ref a7, .ref a15, .null, .int 0, .int 0, .null, .int 0, .int 0])) :: [(a7, .inl (cy 0, (121, .inl (fun _ => 0)))), (a15, .inl (cy 0, (121, .inl (fun _ => 0)))), (a23, .inl (cy 0, (121, .inl (fun _ => 0))))]) := hD
  refine n_put O hin fn_X6_init_18 (fun r h => by obtain rfl := Option.some.inj h; rfl) rfl rfl (Nat.le_of_ble_eq_true rfl) hP hD hS dX6_init_25 (fun H locs hP hD hS => ?_)
  have hP : va_P D vwCl ((q, .inr (6, [.null, .ref a7, .ref a15, .ref a23, .int 0, .int 0, .null, .int 0, .int 0])) :: [(a7, .inl (cy 0, (121, .inl (fun _ => 0)))), (a15, .inl (cy 0, (121, .inl (fun _ => 0)))), (a23, .inl (cy 0, (121, .inl (fun _ => 0))))]) H := hP
  have hD : va_D A ((q, .inr (6, [.null, .ref a7, .ref a15, .ref a23, .int 0, .int 0, .null, .int 0, .int 0])) :: [(a7, .inl (cy 0, (121, .inl (fun _ => 0)))), (a15, .inl (cy 0, (121, .inl (fun _ => 0)))), (a23, .inl (cy 0, (121, .inl (fun _ => 0))))]) := hD
  refine lv_aload_n hx hb dX6_init_28 rfl h0 ?_
  refine lv_aload_n hx hb dX6_init_29 rfl h1 ?_
  refine n_put O hin fn_X6_init_21 (fun r h => by obtain rfl := Option.some.inj h; rfl) rfl rfl (Nat.le_of_ble_eq_true rfl) hP hD hS dX6_init_30 (fun H locs hP hD hS => ?_)
  have hP : va_P D vwCl ((q, .inr (6, [.ref tx, .ref a7, .ref a15, .ref a23, .int 0, .int 0, .null, .int 0, .int 0])) :: [(a7, .inl (cy 0, (121, .inl (fun _ => 0)))), (a15, .inl (cy 0, (121, .inl (fun _ => 0)))), (a23, .inl (cy 0, (121, .inl (fun _ => 0))))]) H := hP
  have hD : va_D A ((q, .inr (6, [.ref tx, .ref a7, .ref a15, .ref a23, .int 0, .int 0, .null, .int 0, .int 0])) :: [(a7, .inl (cy 0, (121, .inl (fun _ => 0)))), (a15, .inl (cy 0, (121, .inl (fun _ => 0)))), (a23, .inl (cy 0, (121, .inl (fun _ => 0))))]) := hD
  have hP9 : va_P D vwCl (wd LRe (fun i => ([q, a7, a15, a23, tx] : List Nat).getD i 0) cy zm) H := hP
  have hD9 : va_D A (wd LRe (fun i => ([q, a7, a15, a23, tx] : List Nat).getD i 0) cy zm) := hD
  refine W.widen (k := 3) (n := 363) (Nat.le_of_ble_eq_true rfl) (Nat.le_of_ble_eq_true rfl) ?_
  exact W.vret hx hb hr (fun t ht hW => ⟨⟨(fun i => ([q, a7, a15, a23, tx] : List Nat).getD i 0), rfl, ⟨rfl, rfl⟩, by rw [ht]; exact hP9, hD9⟩, hS.F ht⟩) hS.2.2 dX6_init_33 hlocks

def LCo : List Ck := [.inl (1, [1 + 3, 2 + 3, 3 + 3, 4 + 3, 0, 2]), .inr (.inl (0, 680)), .inr (.inl (0, 680)), .inr (.inl (0, 680)), .inr (.inl (0, 680))]
set_option maxRecDepth 20000 in
theorem inn_X1_init_X1 : ∀ w ∈ wsX10, w ∈ wsX1_init := by decide +kernel
theorem fn_X1_init_11 : Fl RX1 wsX1_init 11 1 0 true (.array .int) := ⟨_, _, _, tyX1, rfl, inn_X1_init_X1, by decide, by decide +kernel, tyX1_ok, nmX1, rfl, tyX1_ok 0 (by decide)⟩
theorem fn_X1_init_15 : Fl RX1 wsX1_init 15 1 1 true (.array .int) := ⟨_, _, _, tyX1, rfl, inn_X1_init_X1, by decide, by decide +kernel, tyX1_ok, nmX1, rfl, tyX1_ok 1 (by decide)⟩
theorem fn_X1_init_18 : Fl RX1 wsX1_init 18 1 2 true (.array .int) := ⟨_, _, _, tyX1, rfl, inn_X1_init_X1, by decide, by decide +kernel, tyX1_ok, nmX1, rfl, tyX1_ok 2 (by decide)⟩
theorem fn_X1_init_21 : Fl RX1 wsX1_init 21 1 3 true (.array .int) := ⟨_, _, _, tyX1, rfl, inn_X1_init_X1, by decide, by decide +kernel, tyX1_ok, nmX1, rfl, tyX1_ok 3 (by decide)⟩
abbrev rm_X1_init : Room := { frames := 1, cells := 4, slots := 2720, locals := 12 }
set_option maxHeartbeats 4000000 in
set_option maxRecDepth 100000 in
theorem c_Co_init (l : Launch) (D : va_G) (cy : Nat → ClassId) (q sz : Nat) : Met l yX1_init wsX1_init rm_X1_init (Pn D cy [.ref q] sz q (.inr (1, [.null, .null, .null, .null, .int 0, .null]))) (va_Qv (fun b : Nat → Nat => b 0 = q) (fun b t => va_P D vwCl (wd LCo b cy zm) t.heap ∧ va_D (va_A [(q, (.inr (1, [.null, .null, .null, .null, .int 0, .null])))] sz) (wd LCo b cy zm)) (va_A [(q, (.inr (1, [.null, .null, .null, .null, .int 0, .null])))] sz)) 4 2720 (va_A [(q, (.inr (1, [.null, .null, .null, .null, .int 0, .null])))] sz) := by
  refine Met.ofW (cc := cX1_init) (maxL := 1) (ret := none) (by decide) rfl ?_
  intro p e s m args below meth c s₁ B hml hv
  obtain ⟨rfl, hsz, hP, hK, hSX⟩ := hv
  have hx := B.exec
  have hb := B.bytes
  have hr := B.returns
  have hts := atoms_spec (ws := wsX1_init) B.pre
  have hown : s.vm.findClass RX1 = some m.cls := findClass_of_methodNamed B.named
  have hlocks := B.notSynchronized
  have hin : meth.name = "<init>" := (name_of_methodNamed B.named B.method).1
  subst hsz
  have hD : va_D (va_A [(q, (.inr (1, [.null, .null, .null, .null, .int 0, .null])))] s.heap.size) [(q, (.inr (1, [.null, .null, .null, .null, .int 0, .null])))] := nD1
  generalize hAe : va_A [(q, (.inr (1, [.null, .null, .null, .null, .int 0, .null])))] s.heap.size = A at hSX hD ⊢
  have hA : ∀ x : Nat, s.heap.size ≤ x → A x := fun x h => by rw [← hAe]; exact Or.inr h
  have hS : va_S A s.heap s.heap [] := va_S.rf
  have O : OkC p s m _ meth c D cy A cX1_init RX1 wsX1_init := ⟨hx, hb, hown, hts, hK, hA, hSX⟩
  have hl := lv_entry ([.ref q]) (n := 1) (Nat.le_of_ble_eq_true rfl)
  have hl2 := lh_entry (vs := [.ref q]) (n := 1) (lv := lv_args 0 [.ref q]) (Nat.le_of_ble_eq_true rfl) (fun i v h => ⟨as1_mem h, cat_all rfl (as1_mem h)⟩)
  rw [lg_entry_eq]
  generalize (lg_sl ([.ref q]) ++ List.replicate (1 - (lg_sl ([.ref q])).length) Slot.unset).toArray = ls at hl hl2 ⊢
  have h0 : ls[0]? = some (.val (.ref q)) := lv_at hl 0 rfl
  refine lv_aload_n hx hb dX1_init_0 rfl h0 ?_
  refine W.objInit hx hb hown (hts (.methodLink RX1 3 objectInit) (by decide +kernel)) (hts (.instanceMethod objectInit) (by decide +kernel)) (hts _ (List.mem_of_getElem? (l := wsX1_init) (i := 3) rfl)) rfl (by rw [hml]; exact hl.1) rfl dX1_init_1 (Nat.le_of_ble_eq_true rfl) (Nat.le_of_ble_eq_true rfl) ?_
  refine W.eq (g2 := F0 m 4 ls []) rfl ?_
  have hP : va_P D vwCl ((q, .inr (1, [.null, .null, .null, .null, .int 0, .null])) :: []) s.heap := hP
  have hD : va_D A ((q, .inr (1, [.null, .null, .null, .null, .int 0, .null])) :: []) := hD
  refine lv_aload_n hx hb dX1_init_4 rfl h0 ?_
  refine lv_sipush (v := 680) hx hb dX1_init_5 (by decide) ?_
  refine n_newa O 0 (n := 680) (ty := .int) rfl rfl rfl (by decide +kernel) (by decide) (by decide) (by decide) (Nat.le_of_ble_eq_true rfl) (Nat.le_of_ble_eq_true rfl) hP hD hS dX1_init_8 (fun a8 H hP hD hS => ?_)
  have hP : va_P D vwCl ((q, .inr (1, [.null, .null, .null, .null, .int 0, .null])) :: [(a8, .inl (cy 0, (680, .inl (fun _ => 0))))]) H := hP
  have hD : va_D A ((q, .inr (1, [.null, .null, .null, .null, .int 0, .null])) :: [(a8, .inl (cy 0, (680, .inl (fun _ => 0))))]) := hD
  refine n_put O hin fn_X1_init_11 (fun r h => by obtain rfl := Option.some.inj h; rfl) rfl rfl (Nat.le_of_ble_eq_true rfl) hP hD hS dX1_init_10 (fun H locs hP hD hS => ?_)
  have hP : va_P D vwCl ((q, .inr (1, [.ref a8, .null, .null, .null, .int 0, .null])) :: [(a8, .inl (cy 0, (680, .inl (fun _ => 0))))]) H := hP
  have hD : va_D A ((q, .inr (1, [.ref a8, .null, .null, .null, .int 0, .null])) :: [(a8, .inl (cy 0, (680, .inl (fun _ => 0))))]) := hD
  refine lv_aload_n hx hb dX1_init_13 rfl h0 ?_
  refine lv_sipush (v := 680) hx hb dX1_init_14 (by decide) ?_
  refine n_newa O 0 (n := 680) (ty := .int) rfl rfl rfl (by decide +kernel) (by decide) (by decide) (by decide) (Nat.le_of_ble_eq_true rfl) (Nat.le_of_ble_eq_true rfl) hP hD hS dX1_init_17 (fun a17 H hP hD hS => ?_)
  have hP : va_P D vwCl ((q, .inr (1, [.ref a8, .null, .null, .null, .int 0, .null])) :: [(a8, .inl (cy 0, (680, .inl (fun _ => 0)))), (a17, .inl (cy 0, (680, .inl (fun _ => 0))))]) H := hP
  have hD : va_D A ((q, .inr (1, [.ref a8, .null, .null, .null, .int 0, .null])) :: [(a8, .inl (cy 0, (680, .inl (fun _ => 0)))), (a17, .inl (cy 0, (680, .inl (fun _ => 0))))]) := hD
  refine n_put O hin fn_X1_init_15 (fun r h => by obtain rfl := Option.some.inj h; rfl) rfl rfl (Nat.le_of_ble_eq_true rfl) hP hD hS dX1_init_19 (fun H locs hP hD hS => ?_)
  have hP : va_P D vwCl ((q, .inr (1, [.ref a8, .ref a17, .null, .null, .int 0, .null])) :: [(a8, .inl (cy 0, (680, .inl (fun _ => 0)))), (a17, .inl (cy 0, (680, .inl (fun _ => 0))))]) H := hP
  have hD : va_D A ((q, .inr (1, [.ref a8, .ref a17, .null, .null, .int 0, .null])) :: [(a8, .inl (cy 0, (680, .inl (fun _ => 0)))), (a17, .inl (cy 0, (680, .inl (fun _ => 0))))]) := hD
  refine lv_aload_n hx hb dX1_init_22 rfl h0 ?_
  refine lv_sipush (v := 680) hx hb dX1_init_23 (by decide) ?_
  refine n_newa O 0 (n := 680) (ty := .int) rfl rfl rfl (by decide +kernel) (by decide) (by decide) (by decide) (Nat.le_of_ble_eq_true rfl) (Nat.le_of_ble_eq_true rfl) hP hD hS dX1_init_26 (fun a26 H hP hD hS => ?_)
  have hP : va_P D vwCl ((q, .inr (1, [.ref a8, .ref a17, .null, .null, .int 0, .null])) :: [(a8, .inl (cy 0, (680, .inl (fun _ => 0)))), (a17, .inl (cy 0, (680, .inl (fun _ => 0)))), (a26, .inl (cy 0, (680, .inl (fun _ => 0))))]) H := hP
  have hD : va_D A ((q, .inr (1, [.ref a8, .ref a17, .null, .null, .int 0, .null])) :: [(a8, .inl (cy 0, (680, .inl (fun _ => 0)))), (a17, .inl (cy 0, (680, .inl (fun _ => 0)))), (a26, .inl (cy 0, (680, .inl (fun _ => 0))))]) := hD
  refine n_put O hin fn_X1_init_18 (fun r h => by obtain rfl := Option.some.inj h; rfl) rfl rfl (Nat.le_of_ble_eq_true rfl) hP hD hS dX1_init_28 (fun H locs hP hD hS => ?_)
  have hP : va_P D vwCl ((q, .inr (1, [.ref a8, .ref a17, .ref a26, .null, .int 0, .null])) :: [(a8, .inl (cy 0, (680, .inl (fun _ => 0)))), (a17, .inl (cy 0, (680, .inl (fun _ => 0)))), (a26, .inl (cy 0, (680, .inl (fun _ => 0))))]) H := hP
  have hD : va_D A ((q, .inr (1, [.ref a8, .ref a17, .ref a26, .null, .int 0, .null])) :: [(a8, .inl (cy 0, (680, .inl (fun _ => 0)))), (a17, .inl (cy 0, (680, .inl (fun _ => 0)))), (a26, .inl (cy 0, (680, .inl (fun _ => 0))))]) := hD
  refine lv_aload_n hx hb dX1_init_31 rfl h0 ?_
  refine lv_sipush (v := 680) hx hb dX1_init_32 (by decide) ?_
  refine n_newa O 0 (n := 680) (ty := .int) rfl rfl rfl (by decide +kernel) (by decide) (by decide) (by decide) (Nat.le_of_ble_eq_true rfl) (Nat.le_of_ble_eq_true rfl) hP hD hS dX1_init_35 (fun a35 H hP hD hS => ?_)
  have hP : va_P D vwCl ((q, .inr (1, [.ref a8, .ref a17, .ref a26, .null, .int 0, .null])) :: [(a8, .inl (cy 0, (680, .inl (fun _ => 0)))), (a17, .inl (cy 0, (680, .inl (fun _ => 0)))), (a26, .inl (cy 0, (680, .inl (fun _ => 0)))), (a35, .inl (cy 0, (680, .inl (fun _ => 0))))]) H := hP
  have hD : va_D A ((q, .inr (1, [.ref a8, .ref a17, .ref a26, .null, .int 0, .null])) :: [(a8, .inl (cy 0, (680, .inl (fun _ => 0)))), (a17, .inl (cy 0, (680, .inl (fun _ => 0)))), (a26, .inl (cy 0, (680, .inl (fun _ => 0)))), (a35, .inl (cy 0, (680, .inl (fun _ => 0))))]) := hD
  refine n_put O hin fn_X1_init_21 (fun r h => by obtain rfl := Option.some.inj h; rfl) rfl rfl (Nat.le_of_ble_eq_true rfl) hP hD hS dX1_init_37 (fun H locs hP hD hS => ?_)
  have hP : va_P D vwCl ((q, .inr (1, [.ref a8, .ref a17, .ref a26, .ref a35, .int 0, .null])) :: [(a8, .inl (cy 0, (680, .inl (fun _ => 0)))), (a17, .inl (cy 0, (680, .inl (fun _ => 0)))), (a26, .inl (cy 0, (680, .inl (fun _ => 0)))), (a35, .inl (cy 0, (680, .inl (fun _ => 0))))]) H := hP
  have hD : va_D A ((q, .inr (1, [.ref a8, .ref a17, .ref a26, .ref a35, .int 0, .null])) :: [(a8, .inl (cy 0, (680, .inl (fun _ => 0)))), (a17, .inl (cy 0, (680, .inl (fun _ => 0)))), (a26, .inl (cy 0, (680, .inl (fun _ => 0)))), (a35, .inl (cy 0, (680, .inl (fun _ => 0))))]) := hD
  have hP9 : va_P D vwCl (wd LCo (fun i => ([q, a8, a17, a26, a35] : List Nat).getD i 0) cy zm) H := hP
  have hD9 : va_D A (wd LCo (fun i => ([q, a8, a17, a26, a35] : List Nat).getD i 0) cy zm) := hD
  refine W.widen (k := 4) (n := 2720) (Nat.le_of_ble_eq_true rfl) (Nat.le_of_ble_eq_true rfl) ?_
  exact W.vret hx hb hr (fun t ht hW => ⟨⟨(fun i => ([q, a8, a17, a26, a35] : List Nat).getD i 0), rfl, rfl, by rw [ht]; exact hP9, hD9⟩, hS.F ht⟩) hS.2.2 dX1_init_40 hlocks

def LWa : List Ck := [.inl (8, [1 + 3, 2 + 3, 3 + 3, 4 + 3, 5 + 3, 6 + 3, 0, 2]), .inr (.inl (0, 340)), .inr (.inl (0, 340)), .inr (.inl (0, 340)), .inr (.inl (0, 340)), .inr (.inl (1, 340)), .inr (.inl (0, 340))]
set_option maxRecDepth 20000 in
theorem inn_X8_init_X8 : ∀ w ∈ wsX80, w ∈ wsX8_init := by decide +kernel
theorem fn_X8_init_9 : Fl RX8 wsX8_init 9 8 0 true (.array .int) := ⟨_, _, _, tyX8, rfl, inn_X8_init_X8, by decide, by decide +kernel, tyX8_ok, nmX8, rfl, tyX8_ok 0 (by decide)⟩
theorem fn_X8_init_15 : Fl RX8 wsX8_init 15 8 1 true (.array .int) := ⟨_, _, _, tyX8, rfl, inn_X8_init_X8, by decide, by decide +kernel, tyX8_ok, nmX8, rfl, tyX8_ok 1 (by decide)⟩
theorem fn_X8_init_18 : Fl RX8 wsX8_init 18 8 2 true (.array .int) := ⟨_, _, _, tyX8, rfl, inn_X8_init_X8, by decide, by decide +kernel, tyX8_ok, nmX8, rfl, tyX8_ok 2 (by decide)⟩
theorem fn_X8_init_21 : Fl RX8 wsX8_init 21 8 3 true (.array .int) := ⟨_, _, _, tyX8, rfl, inn_X8_init_X8, by decide, by decide +kernel, tyX8_ok, nmX8, rfl, tyX8_ok 3 (by decide)⟩
theorem fn_X8_init_24 : Fl RX8 wsX8_init 24 8 4 true (.array .boolean) := ⟨_, _, _, tyX8, rfl, inn_X8_init_X8, by decide, by decide +kernel, tyX8_ok, nmX8, rfl, tyX8_ok 4 (by decide)⟩
theorem fn_X8_init_28 : Fl RX8 wsX8_init 28 8 5 true (.array .int) := ⟨_, _, _, tyX8, rfl, inn_X8_init_X8, by decide, by decide +kernel, tyX8_ok, nmX8, rfl, tyX8_ok 5 (by decide)⟩
abbrev rm_X8_init : Room := { frames := 1, cells := 6, slots := 2040, locals := 12 }
set_option maxHeartbeats 4000000 in
set_option maxRecDepth 100000 in
theorem c_Wa_init (l : Launch) (D : va_G) (cy : Nat → ClassId) (q sz : Nat) : Met l yX8_init wsX8_init rm_X8_init (Pn D cy [.ref q] sz q (.inr (8, [.null, .null, .null, .null, .null, .null, .int 0, .null]))) (va_Qv (fun b : Nat → Nat => b 0 = q) (fun b t => va_P D vwCl (wd LWa b cy zm) t.heap ∧ va_D (va_A [(q, (.inr (8, [.null, .null, .null, .null, .null, .null, .int 0, .null])))] sz) (wd LWa b cy zm)) (va_A [(q, (.inr (8, [.null, .null, .null, .null, .null, .null, .int 0, .null])))] sz)) 6 2040 (va_A [(q, (.inr (8, [.null, .null, .null, .null, .null, .null, .int 0, .null])))] sz) := by
  refine Met.ofW (cc := cX8_init) (maxL := 1) (ret := none) (by decide) rfl ?_
  intro p e s m args below meth c s₁ B hml hv
  obtain ⟨rfl, hsz, hP, hK, hSX⟩ := hv
  have hx := B.exec
  have hb := B.bytes
  have hr := B.returns
  have hts := atoms_spec (ws := wsX8_init) B.pre
  have hown : s.vm.findClass RX8 = some m.cls := findClass_of_methodNamed B.named
  have hlocks := B.notSynchronized
  have hin : meth.name = "<init>" := (name_of_methodNamed B.named B.method).1
  subst hsz
  have hD : va_D (va_A [(q, (.inr (8, [.null, .null, .null, .null, .null, .null, .int 0, .null])))] s.heap.size) [(q, (.inr (8, [.null, .null, .null, .null, .null, .null, .int 0, .null])))] := nD1
  generalize hAe : va_A [(q, (.inr (8, [.null, .null, .null, .null, .null, .null, .int 0, .null])))] s.heap.size = A at hSX hD ⊢
  have hA : ∀ x : Nat, s.heap.size ≤ x → A x := fun x h => by rw [← hAe]; exact Or.inr h
  have hS : va_S A s.heap s.heap [] := va_S.rf
  have O : OkC p s m _ meth c D cy A cX8_init RX8 wsX8_init := ⟨hx, hb, hown, hts, hK, hA, hSX⟩
  have hl := lv_entry ([.ref q]) (n := 1) (Nat.le_of_ble_eq_true rfl)
  have hl2 := lh_entry (vs := [.ref q]) (n := 1) (lv := lv_args 0 [.ref q]) (Nat.le_of_ble_eq_true rfl) (fun i v h => ⟨as1_mem h, cat_all rfl (as1_mem h)⟩)
  rw [lg_entry_eq]
  generalize (lg_sl ([.ref q]) ++ List.replicate (1 - (lg_sl ([.ref q])).length) Slot.unset).toArray = ls at hl hl2 ⊢
  have h0 : ls[0]? = some (.val (.ref q)) := lv_at hl 0 rfl
  refine lv_aload_n hx hb dX8_init_0 rfl h0 ?_
  refine W.objInit hx hb hown (hts (.methodLink RX8 3 objectInit) (by decide +kernel)) (hts (.instanceMethod objectInit) (by decide +kernel)) (hts _ (List.mem_of_getElem? (l := wsX8_init) (i := 3) rfl)) rfl (by rw [hml]; exact hl.1) rfl dX8_init_1 (Nat.le_of_ble_eq_true rfl) (Nat.le_of_ble_eq_true rfl) ?_
  refine W.eq (g2 := F0 m 4 ls []) rfl ?_
  have hP : va_P D vwCl ((q, .inr (8, [.null, .null, .null, .null, .null, .null, .int 0, .null])) :: []) s.heap := hP
  have hD : va_D A ((q, .inr (8, [.null, .null, .null, .null, .null, .null, .int 0, .null])) :: []) := hD
  refine lv_aload_n hx hb dX8_init_4 rfl h0 ?_
  refine lv_sipush (v := 340) hx hb dX8_init_5 (by decide) ?_
  refine n_newa O 0 (n := 340) (ty := .int) rfl rfl rfl (by decide +kernel) (by decide) (by decide) (by decide) (Nat.le_of_ble_eq_true rfl) (Nat.le_of_ble_eq_true rfl) hP hD hS dX8_init_8 (fun a8 H hP hD hS => ?_)
  have hP : va_P D vwCl ((q, .inr (8, [.null, .null, .null, .null, .null, .null, .int 0, .null])) :: [(a8, .inl (cy 0, (340, .inl (fun _ => 0))))]) H := hP
  have hD : va_D A ((q, .inr (8, [.null, .null, .null, .null, .null, .null, .int 0, .null])) :: [(a8, .inl (cy 0, (340, .inl (fun _ => 0))))]) := hD
  refine n_put O hin fn_X8_init_9 (fun r h => by obtain rfl := Option.some.inj h; rfl) rfl rfl (Nat.le_of_ble_eq_true rfl) hP hD hS dX8_init_10 (fun H locs hP hD hS => ?_)
  have hP : va_P D vwCl ((q, .inr (8, [.ref a8, .null, .null, .null, .null, .null, .int 0, .null])) :: [(a8, .inl (cy 0, (340, .inl (fun _ => 0))))]) H := hP
  have hD : va_D A ((q, .inr (8, [.ref a8, .null, .null, .null, .null, .null, .int 0, .null])) :: [(a8, .inl (cy 0, (340, .inl (fun _ => 0))))]) := hD
  refine lv_aload_n hx hb dX8_init_13 rfl h0 ?_
  refine lv_sipush (v := 340) hx hb dX8_init_14 (by decide) ?_
  refine n_newa O 0 (n := 340) (ty := .int) rfl rfl rfl (by decide +kernel) (by decide) (by decide) (by decide) (Nat.le_of_ble_eq_true rfl) (Nat.le_of_ble_eq_true rfl) hP hD hS dX8_init_17 (fun a17 H hP hD hS => ?_)
  have hP : va_P D vwCl ((q, .inr (8, [.ref a8, .null, .null, .null, .null, .null, .int 0, .null])) :: [(a8, .inl (cy 0, (340, .inl (fun _ => 0)))), (a17, .inl (cy 0, (340, .inl (fun _ => 0))))]) H := hP
  have hD : va_D A ((q, .inr (8, [.ref a8, .null, .null, .null, .null, .null, .int 0, .null])) :: [(a8, .inl (cy 0, (340, .inl (fun _ => 0)))), (a17, .inl (cy 0, (340, .inl (fun _ => 0))))]) := hD
  refine n_put O hin fn_X8_init_15 (fun r h => by obtain rfl := Option.some.inj h; rfl) rfl rfl (Nat.le_of_ble_eq_true rfl) hP hD hS dX8_init_19 (fun H locs hP hD hS => ?_)
  have hP : va_P D vwCl ((q, .inr (8, [.ref a8, .ref a17, .null, .null, .null, .null, .int 0, .null])) :: [(a8, .inl (cy 0, (340, .inl (fun _ => 0)))), (a17, .inl (cy 0, (340, .inl (fun _ => 0))))]) H := hP
  have hD : va_D A ((q, .inr (8, [.ref a8, .ref a17, .null, .null, .null, .null, .int 0, .null])) :: [(a8, .inl (cy 0, (340, .inl (fun _ => 0)))), (a17, .inl (cy 0, (340, .inl (fun _ => 0))))]) := hD
  refine lv_aload_n hx hb dX8_init_22 rfl h0 ?_
  refine lv_sipush (v := 340) hx hb dX8_init_23 (by decide) ?_
  refine n_newa O 0 (n := 340) (ty := .int) rfl rfl rfl (by decide +kernel) (by decide) (by decide) (by decide) (Nat.le_of_ble_eq_true rfl) (Nat.le_of_ble_eq_true rfl) hP hD hS dX8_init_26 (fun a26 H hP hD hS => ?_)
  have hP : va_P D vwCl ((q, .inr (8, [.ref a8, .ref a17, .null, .null, .null, .null, .int 0, .null])) :: [(a8, .inl (cy 0, (340, .inl (fun _ => 0)))), (a17, .inl (cy 0, (340, .inl (fun _ => 0)))), (a26, .inl (cy 0, (340, .inl (fun _ => 0))))]) H := hP
  have hD : va_D A ((q, .inr (8, [.ref a8, .ref a17, .null, .null, .null, .null, .int 0, .null])) :: [(a8, .inl (cy 0, (340, .inl (fun _ => 0)))), (a17, .inl (cy 0, (340, .inl (fun _ => 0)))), (a26, .inl (cy 0, (340, .inl (fun _ => 0))))]) := hD
  refine n_put O hin fn_X8_init_18 (fun r h => by obtain rfl := Option.some.inj h; rfl) rfl rfl (Nat.le_of_ble_eq_true rfl) hP hD hS dX8_init_28 (fun H locs hP hD hS => ?_)
  have hP : va_P D vwCl ((q, .inr (8, [.ref a8, .ref a17, .ref a26, .null, .null, .null, .int 0, .null])) :: [(a8, .inl (cy 0, (340, .inl (fun _ => 0)))), (a17, .inl (cy 0, (340, .inl (fun _ => 0)))), (a26, .inl (cy 0, (340, .inl (fun _ => 0))))]) H := hP
  have hD : va_D A ((q, .inr (8, [.ref a8, .ref a17, .ref a26, .null, .null, .null, .int 0, .null])) :: [(a8, .inl (cy 0, (340, .inl (fun _ => 0)))), (a17, .inl (cy 0, (340, .inl (fun _ => 0)))), (a26, .inl (cy 0, (340, .inl (fun _ => 0))))]) := hD
  refine lv_aload_n hx hb dX8_init_31 rfl h0 ?_
  refine lv_sipush (v := 340) hx hb dX8_init_32 (by decide) ?_
  refine n_newa O 0 (n := 340) (ty := .int) rfl rfl rfl (by decide +kernel) (by decide) (by decide) (by decide) (Nat.le_of_ble_eq_true rfl) (Nat.le_of_ble_eq_true rfl) hP hD hS dX8_init_35 (fun a35 H hP hD hS => ?_)
  have hP : va_P D vwCl ((q, .inr (8, [.ref a8, .ref a17, .ref a26, .null, .null, .null, .int 0, .null])) :: [(a8, .inl (cy 0, (340, .inl (fun _ => 0)))), (a17, .inl (cy 0, (340, .inl (fun _ => 0)))), (a26, .inl (cy 0, (340, .inl (fun _ => 0)))), (a35, .inl (cy 0, (340, .inl (fun _ => 0))))]) H := hP
  have hD : va_D A ((q, .inr (8, [.ref a8, .ref a17, .ref a26, .null, .null, .null, .int 0, .null])) :: [(a8, .inl (cy 0, (340, .inl (fun _ => 0)))), (a17, .inl (cy 0, (340, .inl (fun _ => 0)))), (a26, .inl (cy 0, (340, .inl (fun _ => 0)))), (a35, .inl (cy 0, (340, .inl (fun _ => 0))))]) := hD
  refine n_put O hin fn_X8_init_21 (fun r h => by obtain rfl := Option.some.inj h; rfl) rfl rfl (Nat.le_of_ble_eq_true rfl) hP hD hS dX8_init_37 (fun H locs hP hD hS => ?_)
  have hP : va_P D vwCl ((q, .inr (8, [.ref a8, .ref a17, .ref a26, .ref a35, .null, .null, .int 0, .null])) :: [(a8, .inl (cy 0, (340, .inl (fun _ => 0)))), (a17, .inl (cy 0, (340, .inl (fun _ => 0)))), (a26, .inl (cy 0, (340, .inl (fun _ => 0)))), (a35, .inl (cy 0, (340, .inl (fun _ => 0))))]) H := hP
  have hD : va_D A ((q, .inr (8, [.ref a8, .ref a17, .ref a26, .ref a35, .null, .null, .int 0, .null])) :: [(a8, .inl (cy 0, (340, .inl (fun _ => 0)))), (a17, .inl (cy 0, (340, .inl (fun _ => 0)))), (a26, .inl (cy 0, (340, .inl (fun _ => 0)))), (a35, .inl (cy 0, (340, .inl (fun _ => 0))))]) := hD
  refine lv_aload_n hx hb dX8_init_40 rfl h0 ?_
  refine lv_sipush (v := 340) hx hb dX8_init_41 (by decide) ?_
  refine n_newa O 1 (n := 340) (ty := .boolean) rfl rfl rfl (by decide +kernel) (by decide) (by decide) (by decide) (Nat.le_of_ble_eq_true rfl) (Nat.le_of_ble_eq_true rfl) hP hD hS dX8_init_44 (fun a44 H hP hD hS => ?_)
  have hP : va_P D vwCl ((q, .inr (8, [.ref a8, .ref a17, .ref a26, .ref a35, .null, .null, .int 0, .null])) :: [(a8, .inl (cy 0, (340, .inl (fun _ => 0)))), (a17, .inl (cy 0, (340, .inl (fun _ => 0)))), (a26, .inl (cy 0, (340, .inl (fun _ => 0)))), (a35, .inl (cy 0, (340, .inl (fun _ => 0)))), (a44, .inl (cy 1, (340, .inl (fun _ => 0))))]) H := hP
  have hD : va_D A ((q, .inr (8, [.ref a8, .ref a17, .ref a26, .ref a35, .null, .null, .int 0, .null])) :: [(a8, .inl (cy 0, (340, .inl (fun _ => 0)))), (a17, .inl (cy 0, (340, .inl (fun _ => 0)))), (a26, .inl (cy 0, (340, .inl (fun _ => 0)))), (a35, .inl (cy 0, (340, .inl (fun _ => 0)))), (a44, .inl (cy 1, (340, .inl (fun _ => 0))))]) := hD
  refine n_put O hin fn_X8_init_24 (fun r h => by obtain rfl := Option.some.inj h; rfl) rfl rfl (Nat.le_of_ble_eq_true rfl) hP hD hS dX8_init_46 (fun H locs hP hD hS => ?_)
  have hP : va_P D vwCl ((q, .inr (8, [.ref a8, .ref a17, .ref a26, .ref a35, .ref a44, .null, .int 0, .null])) :: [(a8, .inl (cy 0, (340, .inl (fun _ => 0)))), (a17, .inl (cy 0, (340, .inl (fun _ => 0)))), (a26, .inl (cy 0, (340, .inl (fun _ => 0)))), (a35, .inl (cy 0, (340, .inl (fun _ => 0)))), (a44, .inl (cy 1, (340, .inl (fun _ => 0))))]) H := hP
  have hD : va_D A ((q, .inr (8, [.ref a8, .ref a17, .ref a26, .ref a35, .ref a44, .null, .int 0, .null])) :: [(a8, .inl (cy 0, (340, .inl (fun _ => 0)))), (a17, .inl (cy 0, (340, .inl (fun _ => 0)))), (a26, .inl (cy 0, (340, .inl (fun _ => 0)))), (a35, .inl (cy 0, (340, .inl (fun _ => 0)))), (a44, .inl (cy 1, (340, .inl (fun _ => 0))))]) := hD
  refine lv_aload_n hx hb dX8_init_49 rfl h0 ?_
  refine lv_sipush (v := 340) hx hb dX8_init_50 (by decide) ?_
  refine n_newa O 0 (n := 340) (ty := .int) rfl rfl rfl (by decide +kernel) (by decide) (by decide) (by decide) (Nat.le_of_ble_eq_true rfl) (Nat.le_of_ble_eq_true rfl) hP hD hS dX8_init_53 (fun a53 H hP hD hS => ?_)
  have hP : va_P D vwCl ((q, .inr (8, [.ref a8, .ref a17, .ref a26, .ref a35, .ref a44, .null, .int 0, .null])) :: [(a8, .inl (cy 0, (340, .inl (fun _ => 0)))), (a17, .inl (cy 0, (340, .inl (fun _ => 0)))), (a26, .inl (cy 0, (340, .inl (fun _ => 0)))), (a35, .inl (cy 0, (340, .inl (fun _ => 0)))), (a44, .inl (cy 1, (340, .inl (fun _ => 0)))), (a53, .inl (cy 0, (340, .inl (fun _ => 0))))]) H := hP
  have hD : va_D A ((q, .inr (8, [.ref a8, .ref a17, .ref a26, .ref a35, .ref a44, .null, .int 0, .null])) :: [(a8, .inl (cy 0, (340, .inl (fun _ => 0)))), (a17, .inl (cy 0, (340, .inl (fun _ => 0)))), (a26, .inl (cy 0, (340, .inl (fun _ => 0)))), (a35, .inl (cy 0, (340, .inl (fun _ => 0)))), (a44, .inl (cy 1, (340, .inl (fun _ => 0)))), (a53, .inl (cy 0, (340, .inl (fun _ => 0))))]) := hD
  refine n_put O hin fn_X8_init_28 (fun r h => by obtain rfl := Option.some.inj h; rfl) rfl rfl (Nat.le_of_ble_eq_true rfl) hP hD hS dX8_init_55 (fun H locs hP hD hS => ?_)
  have hP : va_P D vwCl ((q, .inr (8, [.ref a8, .ref a17, .ref a26, .ref a35, .ref a44, .ref a53, .int 0, .null])) :: [(a8, .inl (cy 0, (340, .inl (fun _ => 0)))), (a17, .inl (cy 0, (340, .inl (fun _ => 0)))), (a26, .inl (cy 0, (340, .inl (fun _ => 0)))), (a35, .inl (cy 0, (340, .inl (fun _ => 0)))), (a44, .inl (cy 1, (340, .inl (fun _ => 0)))), (a53, .inl (cy 0, (340, .inl (fun _ => 0))))]) H := hP
  have hD : va_D A ((q, .inr (8, [.ref a8, .ref a17, .ref a26, .ref a35, .ref a44, .ref a53, .int 0, .null])) :: [(a8, .inl (cy 0, (340, .inl (fun _ => 0)))), (a17, .inl (cy 0, (340, .inl (fun _ => 0)))), (a26, .inl (cy 0, (340, .inl (fun _ => 0)))), (a35, .inl (cy 0, (340, .inl (fun _ => 0)))), (a44, .inl (cy 1, (340, .inl (fun _ => 0)))), (a53, .inl (cy 0, (340, .inl (fun _ => 0))))]) := hD
  have hP9 : va_P D vwCl (wd LWa (fun i => ([q, a8, a17, a26, a35, a44, a53] : List Nat).getD i 0) cy zm) H := hP
  have hD9 : va_D A (wd LWa (fun i => ([q, a8, a17, a26, a35, a44, a53] : List Nat).getD i 0) cy zm) := hD
  refine W.widen (k := 6) (n := 2040) (Nat.le_of_ble_eq_true rfl) (Nat.le_of_ble_eq_true rfl) ?_
  exact W.vret hx hb hr (fun t ht hW => ⟨⟨(fun i => ([q, a8, a17, a26, a35, a44, a53] : List Nat).getD i 0), rfl, rfl, by rw [ht]; exact hP9, hD9⟩, hS.F ht⟩) hS.2.2 dX8_init_58 hlocks

def LCh : List Ck := [.inl (0, [1 + 3, 2 + 3, 0, 0, 2, 0]), .inr (.inl (0, 340)), .inr (.inl (0, 340))]
set_option maxRecDepth 20000 in
theorem inn_X0_init_X0 : ∀ w ∈ wsX00, w ∈ wsX0_init := by decide +kernel
theorem fn_X0_init_9 : Fl RX0 wsX0_init 9 0 0 false (.array .int) := ⟨_, _, _, tyX0, rfl, inn_X0_init_X0, by decide, by decide +kernel, tyX0_ok, nmX0, rfl, tyX0_ok 0 (by decide)⟩
theorem fn_X0_init_15 : Fl RX0 wsX0_init 15 0 1 false (.array .int) := ⟨_, _, _, tyX0, rfl, inn_X0_init_X0, by decide, by decide +kernel, tyX0_ok, nmX0, rfl, tyX0_ok 1 (by decide)⟩
abbrev rm_X0_init : Room := { frames := 1, cells := 2, slots := 680, locals := 12 }
set_option maxHeartbeats 4000000 in
set_option maxRecDepth 100000 in
theorem c_Ch_init (l : Launch) (D : va_G) (cy : Nat → ClassId) (q sz : Nat) : Met l yX0_init wsX0_init rm_X0_init (Pn D cy [.ref q] sz q (.inr (0, [.null, .null, .int 0, .int 0, .null, .int 0]))) (va_Qv (fun b : Nat → Nat => b 0 = q) (fun b t => va_P D vwCl (wd LCh b cy zm) t.heap ∧ va_D (va_A [(q, (.inr (0, [.null, .null, .int 0, .int 0, .null, .int 0])))] sz) (wd LCh b cy zm)) (va_A [(q, (.inr (0, [.null, .null, .int 0, .int 0, .null, .int 0])))] sz)) 2 680 (va_A [(q, (.inr (0, [.null, .null, .int 0, .int 0, .null, .int 0])))] sz) := by
  refine Met.ofW (cc := cX0_init) (maxL := 1) (ret := none) (by decide) rfl ?_
  intro p e s m args below meth c s₁ B hml hv
  obtain ⟨rfl, hsz, hP, hK, hSX⟩ := hv
  have hx := B.exec
  have hb := B.bytes
  have hr := B.returns
  have hts := atoms_spec (ws := wsX0_init) B.pre
  have hown : s.vm.findClass RX0 = some m.cls := findClass_of_methodNamed B.named
  have hlocks := B.notSynchronized
  have hin : meth.name = "<init>" := (name_of_methodNamed B.named B.method).1
  subst hsz
  have hD : va_D (va_A [(q, (.inr (0, [.null, .null, .int 0, .int 0, .null, .int 0])))] s.heap.size) [(q, (.inr (0, [.null, .null, .int 0, .int 0, .null, .int 0])))] := nD1
  generalize hAe : va_A [(q, (.inr (0, [.null, .null, .int 0, .int 0, .null, .int 0])))] s.heap.size = A at hSX hD ⊢
  have hA : ∀ x : Nat, s.heap.size ≤ x → A x := fun x h => by rw [← hAe]; exact Or.inr h
  have hS : va_S A s.heap s.heap [] := va_S.rf
  have O : OkC p s m _ meth c D cy A cX0_init RX0 wsX0_init := ⟨hx, hb, hown, hts, hK, hA, hSX⟩
  have hl := lv_entry ([.ref q]) (n := 1) (Nat.le_of_ble_eq_true rfl)
  have hl2 := lh_entry (vs := [.ref q]) (n := 1) (lv := lv_args 0 [.ref q]) (Nat.le_of_ble_eq_true rfl) (fun i v h => ⟨as1_mem h, cat_all rfl (as1_mem h)⟩)
  rw [lg_entry_eq]
  generalize (lg_sl ([.ref q]) ++ List.replicate (1 - (lg_sl ([.ref q])).length) Slot.unset).toArray = ls at hl hl2 ⊢
  have h0 : ls[0]? = some (.val (.ref q)) := lv_at hl 0 rfl
  refine lv_aload_n hx hb dX0_init_0 rfl h0 ?_
  refine W.objInit hx hb hown (hts (.methodLink RX0 3 objectInit) (by decide +kernel)) (hts (.instanceMethod objectInit) (by decide +kernel)) (hts _ (List.mem_of_getElem? (l := wsX0_init) (i := 3) rfl)) rfl (by rw [hml]; exact hl.1) rfl dX0_init_1 (Nat.le_of_ble_eq_true rfl) (Nat.le_of_ble_eq_true rfl) ?_
  refine W.eq (g2 := F0 m 4 ls []) rfl ?_
  have hP : va_P D vwCl ((q, .inr (0, [.null, .null, .int 0, .int 0, .null, .int 0])) :: []) s.heap := hP
  have hD : va_D A ((q, .inr (0, [.null, .null, .int 0, .int 0, .null, .int 0])) :: []) := hD
  refine lv_aload_n hx hb dX0_init_4 rfl h0 ?_
  refine lv_sipush (v := 340) hx hb dX0_init_5 (by decide) ?_
  refine n_newa O 0 (n := 340) (ty := .int) rfl rfl rfl (by decide +kernel) (by decide) (by decide) (by decide) (Nat.le_of_ble_eq_true rfl) (Nat.le_of_ble_eq_true rfl) hP hD hS dX0_init_8 (fun a8 H hP hD hS => ?_)
  have hP : va_P D vwCl ((q, .inr (0, [.null, .null, .int 0, .int 0, .null, .int 0])) :: [(a8, .inl (cy 0, (340, .inl (fun _ => 0))))]) H := hP
  have hD : va_D A ((q, .inr (0, [.null, .null, .int 0, .int 0, .null, .int 0])) :: [(a8, .inl (cy 0, (340, .inl (fun _ => 0))))]) := hD
  refine n_put O hin fn_X0_init_9 (fun r h => by obtain rfl := Option.some.inj h; rfl) rfl rfl (Nat.le_of_ble_eq_true rfl) hP hD hS dX0_init_10 (fun H locs hP hD hS => ?_)
  have hP : va_P D vwCl ((q, .inr (0, [.ref a8, .null, .int 0, .int 0, .null, .int 0])) :: [(a8, .inl (cy 0, (340, .inl (fun _ => 0))))]) H := hP
  have hD : va_D A ((q, .inr (0, [.ref a8, .null, .int 0, .int 0, .null, .int 0])) :: [(a8, .inl (cy 0, (340, .inl (fun _ => 0))))]) := hD
  refine lv_aload_n hx hb dX0_init_13 rfl h0 ?_
  refine lv_sipush (v := 340) hx hb dX0_init_14 (by decide) ?_
  refine n_newa O 0 (n := 340) (ty := .int) rfl rfl rfl (by decide +kernel) (by decide) (by decide) (by decide) (Nat.le_of_ble_eq_true rfl) (Nat.le_of_ble_eq_true rfl) hP hD hS dX0_init_17 (fun a17 H hP hD hS => ?_)
  have hP : va_P D vwCl ((q, .inr (0, [.ref a8, .null, .int 0, .int 0, .null, .int 0])) :: [(a8, .inl (cy 0, (340, .inl (fun _ => 0)))), (a17, .inl (cy 0, (340, .inl (fun _ => 0))))]) H := hP
  have hD : va_D A ((q, .inr (0, [.ref a8, .null, .int 0, .int 0, .null, .int 0])) :: [(a8, .inl (cy 0, (340, .inl (fun _ => 0)))), (a17, .inl (cy 0, (340, .inl (fun _ => 0))))]) := hD
  refine n_put O hin fn_X0_init_15 (fun r h => by obtain rfl := Option.some.inj h; rfl) rfl rfl (Nat.le_of_ble_eq_true rfl) hP hD hS dX0_init_19 (fun H locs hP hD hS => ?_)
  have hP : va_P D vwCl ((q, .inr (0, [.ref a8, .ref a17, .int 0, .int 0, .null, .int 0])) :: [(a8, .inl (cy 0, (340, .inl (fun _ => 0)))), (a17, .inl (cy 0, (340, .inl (fun _ => 0))))]) H := hP
  have hD : va_D A ((q, .inr (0, [.ref a8, .ref a17, .int 0, .int 0, .null, .int 0])) :: [(a8, .inl (cy 0, (340, .inl (fun _ => 0)))), (a17, .inl (cy 0, (340, .inl (fun _ => 0))))]) := hD
  have hP9 : va_P D vwCl (wd LCh (fun i => ([q, a8, a17] : List Nat).getD i 0) cy zm) H := hP
  have hD9 : va_D A (wd LCh (fun i => ([q, a8, a17] : List Nat).getD i 0) cy zm) := hD
  refine W.widen (k := 2) (n := 680) (Nat.le_of_ble_eq_true rfl) (Nat.le_of_ble_eq_true rfl) ?_
  exact W.vret hx hb hr (fun t ht hW => ⟨⟨(fun i => ([q, a8, a17] : List Nat).getD i 0), rfl, rfl, by rw [ht]; exact hP9, hD9⟩, hS.F ht⟩) hS.2.2 dX0_init_22 hlocks

def mu0Mo : Mm := sI zm 0 3 (-9)
def muMo : Mm := sAs mu0Mo 1 (fun j => if j < 20 then 100 else gA mu0Mo 1 j)

def LMo : List Ck := [.inl (4, [1 + 3, 2 + 3, 3 + 3, 0, 0, 0]), .inr (.inl (0, 20)), .inr (.inl (0, 2)), .inr (.inl (0, 2))]
set_option maxRecDepth 20000 in
theorem inn_X4_init_X4 : ∀ w ∈ wsX40, w ∈ wsX4_init := by decide +kernel
theorem fn_X4_init_9 : Fl RX4 wsX4_init 9 4 0 true (.array .int) := ⟨_, _, _, tyX4, rfl, inn_X4_init_X4, by decide, by decide +kernel, tyX4_ok, nmX4, rfl, tyX4_ok 0 (by decide)⟩
theorem fn_X4_init_15 : Fl RX4 wsX4_init 15 4 1 true (.array .int) := ⟨_, _, _, tyX4, rfl, inn_X4_init_X4, by decide, by decide +kernel, tyX4_ok, nmX4, rfl, tyX4_ok 1 (by decide)⟩
theorem fn_X4_init_18 : Fl RX4 wsX4_init 18 4 2 true (.array .int) := ⟨_, _, _, tyX4, rfl, inn_X4_init_X4, by decide, by decide +kernel, tyX4_ok, nmX4, rfl, tyX4_ok 2 (by decide)⟩
theorem fn_X4_init_21 : Fl RX4 wsX4_init 21 4 3 false .int := ⟨_, _, _, tyX4, rfl, inn_X4_init_X4, by decide, by decide +kernel, tyX4_ok, nmX4, rfl, tyX4_ok 3 (by decide)⟩
abbrev rm_X4_init : Room := { frames := 1, cells := 3, slots := 24, locals := 23 }
set_option maxHeartbeats 4000000 in
set_option maxRecDepth 100000 in
theorem p2_Mo {Γ : Cx} {b : Nat → Nat} (O : Ok LMo Γ b cX4_init 1 RX4 wsX4_init rm_X4_init none none muMo) : X LMo Γ b mu0Mo 32 [(0, .ref (b 0))] [] := by
  refine x_aload_n O 0 dX4_init_32 rfl rfl ?_
  refine x_getF O (t := 1) fn_X4_init_9 (fk_of rfl rfl) dX4_init_33 ?_
  refine x_bipush O (v := 100) dX4_init_36 (by decide) ?_
  refine x_callS O (kg_Ar_fill (n := 20) (r0 := 1) rfl (f_fill mu0Mo 1 20 100 (by decide))) ca_J7_fill_53178 gX4_init_J7_fill_53178 rfl rfl rfl (Nat.le_of_ble_eq_true rfl) ⟨(Nat.le_of_ble_eq_true rfl), (Nat.le_of_ble_eq_true rfl)⟩ dX4_init_38 ?_
  exact x_vret O rfl rfl rfl dX4_init_41
set_option maxHeartbeats 4000000 in
set_option maxRecDepth 100000 in
theorem c_Mo_init (l : Launch) (D : va_G) (cy : Nat → ClassId) (q sz : Nat) : Met l yX4_init wsX4_init rm_X4_init (Pn D cy [.ref q] sz q (.inr (4, [.null, .null, .null, .int 0, .int 0, .int 0]))) (va_Qv (fun b : Nat → Nat => b 0 = q) (fun b t => va_P D vwCl (wd LMo b cy muMo) t.heap ∧ va_D (va_A [(q, (.inr (4, [.null, .null, .null, .int 0, .int 0, .int 0])))] sz) (wd LMo b cy muMo)) (va_A [(q, (.inr (4, [.null, .null, .null, .int 0, .int 0, .int 0])))] sz)) 3 24 (va_A [(q, (.inr (4, [.null, .null, .null, .int 0, .int 0, .int 0])))] sz) := by
  refine Met.ofW (cc := cX4_init) (maxL := 1) (ret := none) (by decide) rfl ?_
  intro p e s m args below meth c s₁ B hml hv
  obtain ⟨rfl, hsz, hP, hK, hSX⟩ := hv
  have hx := B.exec
  have hb := B.bytes
  have hr := B.returns
  have hts := atoms_spec (ws := wsX4_init) B.pre
  have hown : s.vm.findClass RX4 = some m.cls := findClass_of_methodNamed B.named
  have hlocks := B.notSynchronized
  have hin : meth.name = "<init>" := (name_of_methodNamed B.named B.method).1
  subst hsz
  have hD : va_D (va_A [(q, (.inr (4, [.null, .null, .null, .int 0, .int 0, .int 0])))] s.heap.size) [(q, (.inr (4, [.null, .null, .null, .int 0, .int 0, .int 0])))] := nD1
  generalize hAe : va_A [(q, (.inr (4, [.null, .null, .null, .int 0, .int 0, .int 0])))] s.heap.size = A at hSX hD ⊢
  have hA : ∀ x : Nat, s.heap.size ≤ x → A x := fun x h => by rw [← hAe]; exact Or.inr h
  have hS : va_S A s.heap s.heap [] := va_S.rf
  have O : OkC p s m _ meth c D cy A cX4_init RX4 wsX4_init := ⟨hx, hb, hown, hts, hK, hA, hSX⟩
  have hl := lv_entry ([.ref q]) (n := 1) (Nat.le_of_ble_eq_true rfl)
  have hl2 := lh_entry (vs := [.ref q]) (n := 1) (lv := lv_args 0 [.ref q]) (Nat.le_of_ble_eq_true rfl) (fun i v h => ⟨as1_mem h, cat_all rfl (as1_mem h)⟩)
  rw [lg_entry_eq]
  generalize (lg_sl ([.ref q]) ++ List.replicate (1 - (lg_sl ([.ref q])).length) Slot.unset).toArray = ls at hl hl2 ⊢
  have h0 : ls[0]? = some (.val (.ref q)) := lv_at hl 0 rfl
  refine lv_aload_n hx hb dX4_init_0 rfl h0 ?_
  refine W.objInit hx hb hown (hts (.methodLink RX4 3 objectInit) (by decide +kernel)) (hts (.instanceMethod objectInit) (by decide +kernel)) (hts _ (List.mem_of_getElem? (l := wsX4_init) (i := 3) rfl)) rfl (by rw [hml]; exact hl.1) rfl dX4_init_1 (Nat.le_of_ble_eq_true rfl) (Nat.le_of_ble_eq_true rfl) ?_
  refine W.eq (g2 := F0 m 4 ls []) rfl ?_
  have hP : va_P D vwCl ((q, .inr (4, [.null, .null, .null, .int 0, .int 0, .int 0])) :: []) s.heap := hP
  have hD : va_D A ((q, .inr (4, [.null, .null, .null, .int 0, .int 0, .int 0])) :: []) := hD
  refine lv_aload_n hx hb dX4_init_4 rfl h0 ?_
  refine lv_bipush (v := 20) hx hb dX4_init_5 (by decide) ?_
  refine n_newa O 0 (n := 20) (ty := .int) rfl rfl rfl (by decide +kernel) (by decide) (by decide) (by decide) (Nat.le_of_ble_eq_true rfl) (Nat.le_of_ble_eq_true rfl) hP hD hS dX4_init_7 (fun a7 H hP hD hS => ?_)
  have hP : va_P D vwCl ((q, .inr (4, [.null, .null, .null, .int 0, .int 0, .int 0])) :: [(a7, .inl (cy 0, (20, .inl (fun _ => 0))))]) H := hP
  have hD : va_D A ((q, .inr (4, [.null, .null, .null, .int 0, .int 0, .int 0])) :: [(a7, .inl (cy 0, (20, .inl (fun _ => 0))))]) := hD
  refine n_put O hin fn_X4_init_9 (fun r h => by obtain rfl := Option.some.inj h; rfl) rfl rfl (Nat.le_of_ble_eq_true rfl) hP hD hS dX4_init_9 (fun H locs hP hD hS => ?_)
  have hP : va_P D vwCl ((q, .inr (4, [.ref a7, .null, .null, .int 0, .int 0, .int 0])) :: [(a7, .inl (cy 0, (20, .inl (fun _ => 0))))]) H := hP
  have hD : va_D A ((q, .inr (4, [.ref a7, .null, .null, .int 0, .int 0, .int 0])) :: [(a7, .inl (cy 0, (20, .inl (fun _ => 0))))]) := hD
  refine lv_aload_n hx hb dX4_init_12 rfl h0 ?_
  refine lv_iconst (v := 2) hx hb dX4_init_13 (by decide) ?_
  refine n_newa O 0 (n := 2) (ty := .int) rfl rfl rfl (by decide +kernel) (by decide) (by decide) (by decide) (Nat.le_of_ble_eq_true rfl) (Nat.le_of_ble_eq_true rfl) hP hD hS dX4_init_14 (fun a14 H hP hD hS => ?_)
  have hP : va_P D vwCl ((q, .inr (4, [.ref a7, .null, .null, .int 0, .int 0, .int 0])) :: [(a7, .inl (cy 0, (20, .inl (fun _ => 0)))), (a14, .inl (cy 0, (2, .inl (fun _ => 0))))]) H := hP
  have hD : va_D A ((q, .inr (4, [.ref a7, .null, .null, .int 0, .int 0, .int 0])) :: [(a7, .inl (cy 0, (20, .inl (fun _ => 0)))), (a14, .inl (cy 0, (2, .inl (fun _ => 0))))]) := hD
  refine n_put O hin fn_X4_init_15 (fun r h => by obtain rfl := Option.some.inj h; rfl) rfl rfl (Nat.le_of_ble_eq_true rfl) hP hD hS dX4_init_16 (fun H locs hP hD hS => ?_)
  have hP : va_P D vwCl ((q, .inr (4, [.ref a7, .ref a14, .null, .int 0, .int 0, .int 0])) :: [(a7, .inl (cy 0, (20, .inl (fun _ => 0)))), (a14, .inl (cy 0, (2, .inl (fun _ => 0))))]) H := hP
  have hD : va_D A ((q, .inr (4, [.ref a7, .ref a14, .null, .int 0, .int 0, .int 0])) :: [(a7, .inl (cy 0, (20, .inl (fun _ => 0)))), (a14, .inl (cy 0, (2, .inl (fun _ => 0))))]) := hD
  refine lv_aload_n hx hb dX4_init_19 rfl h0 ?_
  refine lv_iconst (v := 2) hx hb dX4_init_20 (by decide) ?_
  refine n_newa O 0 (n := 2) (ty := .int) rfl rfl rfl (by decide +kernel) (by decide) (by decide) (by decide) (Nat.le_of_ble_eq_true rfl) (Nat.le_of_ble_eq_true rfl) hP hD hS dX4_init_21 (fun a21 H hP hD hS => ?_)
  have hP : va_P D vwCl ((q, .inr (4, [.ref a7, .ref a14, .null, .int 0, .int 0, .int 0])) :: [(a7, .inl (cy 0, (20, .inl (fun _ => 0)))), (a14, .inl (cy 0, (2, .inl (fun _ => 0)))), (a21, .inl (cy 0, (2, .inl (fun _ => 0))))]) H := hP
  have hD : va_D A ((q, .inr (4, [.ref a7, .ref a14, .null, .int 0, .int 0, .int 0])) :: [(a7, .inl (cy 0, (20, .inl (fun _ => 0)))), (a14, .inl (cy 0, (2, .inl (fun _ => 0)))), (a21, .inl (cy 0, (2, .inl (fun _ => 0))))]) := hD
  refine n_put O hin fn_X4_init_18 (fun r h => by obtain rfl := Option.some.inj h; rfl) rfl rfl (Nat.le_of_ble_eq_true rfl) hP hD hS dX4_init_23 (fun H locs hP hD hS => ?_)
  have hP : va_P D vwCl ((q, .inr (4, [.ref a7, .ref a14, .ref a21, .int 0, .int 0, .int 0])) :: [(a7, .inl (cy 0, (20, .inl (fun _ => 0)))), (a14, .inl (cy 0, (2, .inl (fun _ => 0)))), (a21, .inl (cy 0, (2, .inl (fun _ => 0))))]) H := hP
  have hD : va_D A ((q, .inr (4, [.ref a7, .ref a14, .ref a21, .int 0, .int 0, .int 0])) :: [(a7, .inl (cy 0, (20, .inl (fun _ => 0)))), (a14, .inl (cy 0, (2, .inl (fun _ => 0)))), (a21, .inl (cy 0, (2, .inl (fun _ => 0))))]) := hD
  refine lv_aload_n hx hb dX4_init_26 rfl h0 ?_
  refine lv_bipush (v := -9) hx hb dX4_init_27 (by decide) ?_
  refine n_put O hin fn_X4_init_21 (fun r h => by obtain rfl := Option.some.inj h; rfl) rfl rfl (Nat.le_of_ble_eq_true rfl) hP hD hS dX4_init_29 (fun H locs hP hD hS => ?_)
  have hP : va_P D vwCl ((q, .inr (4, [.ref a7, .ref a14, .ref a21, .int (-9), .int 0, .int 0])) :: [(a7, .inl (cy 0, (20, .inl (fun _ => 0)))), (a14, .inl (cy 0, (2, .inl (fun _ => 0)))), (a21, .inl (cy 0, (2, .inl (fun _ => 0))))]) H := hP
  have hD : va_D A ((q, .inr (4, [.ref a7, .ref a14, .ref a21, .int (-9), .int 0, .int 0])) :: [(a7, .inl (cy 0, (20, .inl (fun _ => 0)))), (a14, .inl (cy 0, (2, .inl (fun _ => 0)))), (a21, .inl (cy 0, (2, .inl (fun _ => 0))))]) := hD
  have hP9 : va_P D vwCl (wd LMo (fun i => ([q, a7, a14, a21] : List Nat).getD i 0) cy mu0Mo) H := hP
  have hD9 : va_D A (wd LMo (fun i => ([q, a7, a14, a21] : List Nat).getD i 0) cy mu0Mo) := hD
  refine W.widen (k := 3) (n := 24) (Nat.le_of_ble_eq_true rfl) (Nat.le_of_ble_eq_true rfl) ?_
  have hI := Inj_of hD9
  exact p2_Mo  (Γ := (p, l, e, _, s, m, _, below, meth, c, _, D, cy, A, 1, 3, 24)) (b := (fun i => ([q, a7, a14, a21] : List Nat).getD i 0)) ⟨rfl, hx, hb, hml, hown, hts, rfl, hK.1, hI.1, hI.2, hSX, hA, hlocks, (Nat.le_of_ble_eq_true rfl), (Nat.le_of_ble_eq_true rfl), hr, fun H locs ls pc hP hS => ⟨fun v hv => (by cases hv), fun _ _ hd => W.vret hx hb hr (fun t ht hW => ⟨⟨(fun i => ([q, a7, a14, a21] : List Nat).getD i 0), rfl, rfl, by rw [ht]; exact hP, wd_D hI.1 hI.2⟩, hS.F ht⟩) hS.2.2 hd hlocks, fun v hv => (by cases hv)⟩⟩ H _ ls hP9 hS hl2

def mu0Gr : Mm := sI zm 0 2 5
def muGr : Mm := sAs mu0Gr 1 (fun j => if j < 80 then (-1) else gA mu0Gr 1 j)

def LGr : List Ck := [.inl (2, [2 + 3, 1 + 3, 0, 0]), .inr (.inl (0, 80))]
set_option maxRecDepth 20000 in
theorem inn_X2_init_X2 : ∀ w ∈ wsX20, w ∈ wsX2_init := by decide +kernel
theorem fn_X2_init_9 : Fl RX2 wsX2_init 9 2 1 true (.array .int) := ⟨_, _, _, tyX2, rfl, inn_X2_init_X2, by decide, by decide +kernel, tyX2_ok, nmX2, rfl, tyX2_ok 1 (by decide)⟩
theorem fn_X2_init_15 : Fl RX2 wsX2_init 15 2 2 false .int := ⟨_, _, _, tyX2, rfl, inn_X2_init_X2, by decide, by decide +kernel, tyX2_ok, nmX2, rfl, tyX2_ok 2 (by decide)⟩
theorem fn_X2_init_19 : Fl RX2 wsX2_init 19 2 0 true (.array .int) := ⟨_, _, _, tyX2, rfl, inn_X2_init_X2, by decide, by decide +kernel, tyX2_ok, nmX2, rfl, tyX2_ok 0 (by decide)⟩
abbrev rm_X2_init : Room := { frames := 1, cells := 1, slots := 80, locals := 23 }
set_option maxHeartbeats 4000000 in
set_option maxRecDepth 100000 in
theorem p2_Gr {Γ : Cx} {b : Nat → Nat} (O : Ok LGr Γ b cX2_init 2 RX2 wsX2_init rm_X2_init none none muGr) : X LGr Γ b mu0Gr 22 [(0, .ref (b 0)), (1, .ref (b 2))] [] := by
  refine x_aload_n O 0 dX2_init_22 rfl rfl ?_
  refine x_getF O (t := 1) fn_X2_init_9 (fk_of rfl rfl) dX2_init_23 ?_
  refine x_iconst O (v := (-1)) dX2_init_26 (by decide) ?_
  refine x_callS O (kg_Ar_fill (n := 80) (r0 := 1) rfl (f_fill mu0Gr 1 80 (-1) (by decide))) ca_J7_fill_53178 gX2_init_J7_fill_53178 rfl rfl rfl (Nat.le_of_ble_eq_true rfl) ⟨(Nat.le_of_ble_eq_true rfl), (Nat.le_of_ble_eq_true rfl)⟩ dX2_init_27 ?_
  exact x_vret O rfl rfl rfl dX2_init_30
set_option maxHeartbeats 4000000 in
set_option maxRecDepth 100000 in
theorem c_Gr_init (l : Launch) (D : va_G) (cy : Nat → ClassId) (q sz : Nat) (tl : Nat) : Met l yX2_init wsX2_init rm_X2_init (Pn D cy [.ref q, .ref tl] sz q (.inr (2, [.null, .null, .int 0, .int 0]))) (va_Qv (fun b : Nat → Nat => b 0 = q ∧ b 2 = tl) (fun b t => va_P D vwCl (wd LGr b cy muGr) t.heap ∧ va_D (va_A [(q, (.inr (2, [.null, .null, .int 0, .int 0])))] sz) (wd LGr b cy muGr)) (va_A [(q, (.inr (2, [.null, .null, .int 0, .int 0])))] sz)) 1 80 (va_A [(q, (.inr (2, [.null, .null, .int 0, .int 0])))] sz) := by
  refine Met.ofW (cc := cX2_init) (maxL := 2) (ret := none) (by decide) rfl ?_
  intro p e s m args below meth c s₁ B hml hv
  obtain ⟨rfl, hsz, hP, hK, hSX⟩ := hv
  have hx := B.exec
  have hb := B.bytes
  have hr := B.returns
  have hts := atoms_spec (ws := wsX2_init) B.pre
  have hown : s.vm.findClass RX2 = some m.cls := findClass_of_methodNamed B.named
  have hlocks := B.notSynchronized
  have hin : meth.name = "<init>" := (name_of_methodNamed B.named B.method).1
  subst hsz
  have hD : va_D (va_A [(q, (.inr (2, [.null, .null, .int 0, .int 0])))] s.heap.size) [(q, (.inr (2, [.null, .null, .int 0, .int 0])))] := nD1
  generalize hAe : va_A [(q, (.inr (2, [.null, .null, .int 0, .int 0])))] s.heap.size = A at hSX hD ⊢
  have hA : ∀ x : Nat, s.heap.size ≤ x → A x := fun x h => by rw [← hAe]; exact Or.inr h
  have hS : va_S A s.heap s.heap [] := va_S.rf
  have O : OkC p s m _ meth c D cy A cX2_init RX2 wsX2_init := ⟨hx, hb, hown, hts, hK, hA, hSX⟩
  have hl := lv_entry ([.ref q, .ref tl]) (n := 2) (Nat.le_of_ble_eq_true rfl)
  have hl2 := lh_entry (vs := [.ref q, .ref tl]) (n := 2) (lv := lv_args 0 [.ref q, .ref tl]) (Nat.le_of_ble_eq_true rfl) (fun i v h => ⟨as1_mem h, cat_all rfl (as1_mem h)⟩)
  rw [lg_entry_eq]
  generalize (lg_sl ([.ref q, .ref tl]) ++ List.replicate (2 - (lg_sl ([.ref q, .ref tl])).length) Slot.unset).toArray = ls at hl hl2 ⊢
  have h0 : ls[0]? = some (.val (.ref q)) := lv_at hl 0 rfl
  have h1 : ls[1]? = some (.val (.ref tl)) := lv_at hl 1 rfl
  refine lv_aload_n hx hb dX2_init_0 rfl h0 ?_
  refine W.objInit hx hb hown (hts (.methodLink RX2 3 objectInit) (by decide +kernel)) (hts (.instanceMethod objectInit) (by decide +kernel)) (hts _ (List.mem_of_getElem? (l := wsX2_init) (i := 3) rfl)) rfl (by rw [hml]; exact hl.1) rfl dX2_init_1 (Nat.le_of_ble_eq_true rfl) (Nat.le_of_ble_eq_true rfl) ?_
  refine W.eq (g2 := F0 m 4 ls []) rfl ?_
  have hP : va_P D vwCl ((q, .inr (2, [.null, .null, .int 0, .int 0])) :: []) s.heap := hP
  have hD : va_D A ((q, .inr (2, [.null, .null, .int 0, .int 0])) :: []) := hD
  refine lv_aload_n hx hb dX2_init_4 rfl h0 ?_
  refine lv_bipush (v := 80) hx hb dX2_init_5 (by decide) ?_
  refine n_newa O 0 (n := 80) (ty := .int) rfl rfl rfl (by decide +kernel) (by decide) (by decide) (by decide) (Nat.le_of_ble_eq_true rfl) (Nat.le_of_ble_eq_true rfl) hP hD hS dX2_init_7 (fun a7 H hP hD hS => ?_)
  have hP : va_P D vwCl ((q, .inr (2, [.null, .null, .int 0, .int 0])) :: [(a7, .inl (cy 0, (80, .inl (fun _ => 0))))]) H := hP
  have hD : va_D A ((q, .inr (2, [.null, .null, .int 0, .int 0])) :: [(a7, .inl (cy 0, (80, .inl (fun _ => 0))))]) := hD
  refine n_put O hin fn_X2_init_9 (fun r h => by obtain rfl := Option.some.inj h; rfl) rfl rfl (Nat.le_of_ble_eq_true rfl) hP hD hS dX2_init_9 (fun H locs hP hD hS => ?_)
  have hP : va_P D vwCl ((q, .inr (2, [.null, .ref a7, .int 0, .int 0])) :: [(a7, .inl (cy 0, (80, .inl (fun _ => 0))))]) H := hP
  have hD : va_D A ((q, .inr (2, [.null, .ref a7, .int 0, .int 0])) :: [(a7, .inl (cy 0, (80, .inl (fun _ => 0))))]) := hD
  refine lv_aload_n hx hb dX2_init_12 rfl h0 ?_
  refine lv_iconst (v := 5) hx hb dX2_init_13 (by decide) ?_
  refine n_put O hin fn_X2_init_15 (fun r h => by obtain rfl := Option.some.inj h; rfl) rfl rfl (Nat.le_of_ble_eq_true rfl) hP hD hS dX2_init_14 (fun H locs hP hD hS => ?_)
  have hP : va_P D vwCl ((q, .inr (2, [.null, .ref a7, .int 5, .int 0])) :: [(a7, .inl (cy 0, (80, .inl (fun _ => 0))))]) H := hP
  have hD : va_D A ((q, .inr (2, [.null, .ref a7, .int 5, .int 0])) :: [(a7, .inl (cy 0, (80, .inl (fun _ => 0))))]) := hD
  refine lv_aload_n hx hb dX2_init_17 rfl h0 ?_
  refine lv_aload_n hx hb dX2_init_18 rfl h1 ?_
  refine n_put O hin fn_X2_init_19 (fun r h => by obtain rfl := Option.some.inj h; rfl) rfl rfl (Nat.le_of_ble_eq_true rfl) hP hD hS dX2_init_19 (fun H locs hP hD hS => ?_)
  have hP : va_P D vwCl ((q, .inr (2, [.ref tl, .ref a7, .int 5, .int 0])) :: [(a7, .inl (cy 0, (80, .inl (fun _ => 0))))]) H := hP
  have hD : va_D A ((q, .inr (2, [.ref tl, .ref a7, .int 5, .int 0])) :: [(a7, .inl (cy 0, (80, .inl (fun _ => 0))))]) := hD
  have hP9 : va_P D vwCl (wd LGr (fun i => ([q, a7, tl] : List Nat).getD i 0) cy mu0Gr) H := hP
  have hD9 : va_D A (wd LGr (fun i => ([q, a7, tl] : List Nat).getD i 0) cy mu0Gr) := hD
  refine W.widen (k := 1) (n := 80) (Nat.le_of_ble_eq_true rfl) (Nat.le_of_ble_eq_true rfl) ?_
  have hI := Inj_of hD9
  exact p2_Gr  (Γ := (p, l, e, _, s, m, _, below, meth, c, _, D, cy, A, 2, 1, 80)) (b := (fun i => ([q, a7, tl] : List Nat).getD i 0)) ⟨rfl, hx, hb, hml, hown, hts, rfl, hK.1, hI.1, hI.2, hSX, hA, hlocks, (Nat.le_of_ble_eq_true rfl), (Nat.le_of_ble_eq_true rfl), hr, fun H locs ls pc hP hS => ⟨fun v hv => (by cases hv), fun _ _ hd => W.vret hx hb hr (fun t ht hW => ⟨⟨(fun i => ([q, a7, tl] : List Nat).getD i 0), rfl, ⟨rfl, rfl⟩, by rw [ht]; exact hP, wd_D hI.1 hI.2⟩, hS.F ht⟩) hS.2.2 hd hlocks, fun v hv => (by cases hv)⟩⟩ H _ ls hP9 hS hl2

def muPl : Mm := sI (sI (sI (sI (sI (sAs zm 1 (fun j => if j < 20 then 100 else gA zm 1 j)) 0 1 0) 0 2 0) 0 3 (-9)) 0 4 5) 0 5 0
theorem empty_muPl : f_Pl_empty zm 0 = some (0, muPl) := by
  unfold f_Pl_empty
  rw [f_fill _ _ _ _ (by decide), bd_eq, nm_eq, nm_eq, nm_eq, nm_eq, nm_eq]
  rfl

def LPl : List Ck := [.inl (5, [1 + 3, 0, 0, 0, 0, 0]), .inr (.inl (0, 20))]
set_option maxRecDepth 20000 in
theorem inn_X5_init_X5 : ∀ w ∈ wsX50, w ∈ wsX5_init := by decide +kernel
theorem fn_X5_init_9 : Fl RX5 wsX5_init 9 5 0 true (.array .int) := ⟨_, _, _, tyX5, rfl, inn_X5_init_X5, by decide, by decide +kernel, tyX5_ok, nmX5, rfl, tyX5_ok 0 (by decide)⟩
abbrev rm_X5_init : Room := { frames := 2, cells := 1, slots := 20, locals := 43 }
set_option maxHeartbeats 4000000 in
set_option maxRecDepth 100000 in
theorem p2_Pl {Γ : Cx} {b : Nat → Nat} (O : Ok LPl Γ b cX5_init 1 RX5 wsX5_init rm_X5_init none none muPl) : X LPl Γ b zm 12 [(0, .ref (b 0))] [] := by
  refine x_aload_n O 0 dX5_init_12 rfl rfl ?_
  refine x_callV O (kg_Pl_empty (r0 := 0) rfl rfl empty_muPl) ca_X5_empty gX5_init_X5_empty rfl (okCl_of rfl rfl) rfl rfl rfl (Nat.le_of_ble_eq_true rfl) ⟨(Nat.le_of_ble_eq_true rfl), (Nat.le_of_ble_eq_true rfl)⟩ dX5_init_13 ?_
  exact x_vret O rfl rfl rfl dX5_init_16
set_option maxHeartbeats 4000000 in
set_option maxRecDepth 100000 in
theorem c_Pl_init (l : Launch) (D : va_G) (cy : Nat → ClassId) (q sz : Nat) : Met l yX5_init wsX5_init rm_X5_init (Pn D cy [.ref q] sz q (.inr (5, [.null, .int 0, .int 0, .int 0, .int 0, .int 0]))) (va_Qv (fun b : Nat → Nat => b 0 = q) (fun b t => va_P D vwCl (wd LPl b cy muPl) t.heap ∧ va_D (va_A [(q, (.inr (5, [.null, .int 0, .int 0, .int 0, .int 0, .int 0])))] sz) (wd LPl b cy muPl)) (va_A [(q, (.inr (5, [.null, .int 0, .int 0, .int 0, .int 0, .int 0])))] sz)) 1 20 (va_A [(q, (.inr (5, [.null, .int 0, .int 0, .int 0, .int 0, .int 0])))] sz) := by
  refine Met.ofW (cc := cX5_init) (maxL := 1) (ret := none) (by decide) rfl ?_
  intro p e s m args below meth c s₁ B hml hv
  obtain ⟨rfl, hsz, hP, hK, hSX⟩ := hv
  have hx := B.exec
  have hb := B.bytes
  have hr := B.returns
  have hts := atoms_spec (ws := wsX5_init) B.pre
  have hown : s.vm.findClass RX5 = some m.cls := findClass_of_methodNamed B.named
  have hlocks := B.notSynchronized
  have hin : meth.name = "<init>" := (name_of_methodNamed B.named B.method).1
  subst hsz
  have hD : va_D (va_A [(q, (.inr (5, [.null, .int 0, .int 0, .int 0, .int 0, .int 0])))] s.heap.size) [(q, (.inr (5, [.null, .int 0, .int 0, .int 0, .int 0, .int 0])))] := nD1
  generalize hAe : va_A [(q, (.inr (5, [.null, .int 0, .int 0, .int 0, .int 0, .int 0])))] s.heap.size = A at hSX hD ⊢
  have hA : ∀ x : Nat, s.heap.size ≤ x → A x := fun x h => by rw [← hAe]; exact Or.inr h
  have hS : va_S A s.heap s.heap [] := va_S.rf
  have O : OkC p s m _ meth c D cy A cX5_init RX5 wsX5_init := ⟨hx, hb, hown, hts, hK, hA, hSX⟩
  have hl := lv_entry ([.ref q]) (n := 1) (Nat.le_of_ble_eq_true rfl)
  have hl2 := lh_entry (vs := [.ref q]) (n := 1) (lv := lv_args 0 [.ref q]) (Nat.le_of_ble_eq_true rfl) (fun i v h => ⟨as1_mem h, cat_all rfl (as1_mem h)⟩)
  rw [lg_entry_eq]
  generalize (lg_sl ([.ref q]) ++ List.replicate (1 - (lg_sl ([.ref q])).length) Slot.unset).toArray = ls at hl hl2 ⊢
  have h0 : ls[0]? = some (.val (.ref q)) := lv_at hl 0 rfl
  refine lv_aload_n hx hb dX5_init_0 rfl h0 ?_
  refine W.objInit hx hb hown (hts (.methodLink RX5 3 objectInit) (by decide +kernel)) (hts (.instanceMethod objectInit) (by decide +kernel)) (hts _ (List.mem_of_getElem? (l := wsX5_init) (i := 3) rfl)) rfl (by rw [hml]; exact hl.1) rfl dX5_init_1 (Nat.le_of_ble_eq_true rfl) (Nat.le_of_ble_eq_true rfl) ?_
  refine W.eq (g2 := F0 m 4 ls []) rfl ?_
  have hP : va_P D vwCl ((q, .inr (5, [.null, .int 0, .int 0, .int 0, .int 0, .int 0])) :: []) s.heap := hP
  have hD : va_D A ((q, .inr (5, [.null, .int 0, .int 0, .int 0, .int 0, .int 0])) :: []) := hD
  refine lv_aload_n hx hb dX5_init_4 rfl h0 ?_
  refine lv_bipush (v := 20) hx hb dX5_init_5 (by decide) ?_
  refine n_newa O 0 (n := 20) (ty := .int) rfl rfl rfl (by decide +kernel) (by decide) (by decide) (by decide) (Nat.le_of_ble_eq_true rfl) (Nat.le_of_ble_eq_true rfl) hP hD hS dX5_init_7 (fun a7 H hP hD hS => ?_)
  have hP : va_P D vwCl ((q, .inr (5, [.null, .int 0, .int 0, .int 0, .int 0, .int 0])) :: [(a7, .inl (cy 0, (20, .inl (fun _ => 0))))]) H := hP
  have hD : va_D A ((q, .inr (5, [.null, .int 0, .int 0, .int 0, .int 0, .int 0])) :: [(a7, .inl (cy 0, (20, .inl (fun _ => 0))))]) := hD
  refine n_put O hin fn_X5_init_9 (fun r h => by obtain rfl := Option.some.inj h; rfl) rfl rfl (Nat.le_of_ble_eq_true rfl) hP hD hS dX5_init_9 (fun H locs hP hD hS => ?_)
  have hP : va_P D vwCl ((q, .inr (5, [.ref a7, .int 0, .int 0, .int 0, .int 0, .int 0])) :: [(a7, .inl (cy 0, (20, .inl (fun _ => 0))))]) H := hP
  have hD : va_D A ((q, .inr (5, [.ref a7, .int 0, .int 0, .int 0, .int 0, .int 0])) :: [(a7, .inl (cy 0, (20, .inl (fun _ => 0))))]) := hD
  have hP9 : va_P D vwCl (wd LPl (fun i => ([q, a7] : List Nat).getD i 0) cy zm) H := hP
  have hD9 : va_D A (wd LPl (fun i => ([q, a7] : List Nat).getD i 0) cy zm) := hD
  refine W.widen (k := 1) (n := 20) (Nat.le_of_ble_eq_true rfl) (Nat.le_of_ble_eq_true rfl) ?_
  have hI := Inj_of hD9
  exact p2_Pl  (Γ := (p, l, e, _, s, m, _, below, meth, c, _, D, cy, A, 1, 1, 20)) (b := (fun i => ([q, a7] : List Nat).getD i 0)) ⟨rfl, hx, hb, hml, hown, hts, rfl, hK.1, hI.1, hI.2, hSX, hA, hlocks, (Nat.le_of_ble_eq_true rfl), (Nat.le_of_ble_eq_true rfl), hr, fun H locs ls pc hP hS => ⟨fun v hv => (by cases hv), fun _ _ hd => W.vret hx hb hr (fun t ht hW => ⟨⟨(fun i => ([q, a7] : List Nat).getD i 0), rfl, rfl, by rw [ht]; exact hP, wd_D hI.1 hI.2⟩, hS.F ht⟩) hS.2.2 hd hlocks, fun v hv => (by cases hv)⟩⟩ H _ ls hP9 hS hl2
