/-! the class begins: 88 cells -/
theorem vi0 : vp_in 0 2 := by
  unfold vp_in
  decide
theorem vi1 : vp_in 1 2 := by
  unfold vp_in
  decide
theorem mo_hd {b : Nat → Nat} {cy : Nat → ClassId} {q : Nat} (h : b 0 = q) : (wd LMo b cy muMo)[0]? = some (q, .inr (4, fvs b muMo 0 0 [1 + 3, 2 + 3, 3 + 3, 0, 0, 0])) := by
  rw [← h]
  exact wd_get (K := .inl (4, [1 + 3, 2 + 3, 3 + 3, 0, 0, 0])) rfl
theorem mo_hd2 {b b' : Nat → Nat} {cy : Nat → ClassId} {q : Nat} (h : b 0 = q) : (wd LMo b' cy muMo ++ wd LMo b cy muMo)[4]? = some (q, .inr (4, fvs b muMo 0 0 [1 + 3, 2 + 3, 3 + 3, 0, 0, 0])) := by
  rw [List.getElem?_append_right (by rw [wd_len]; decide), wd_len]
  exact mo_hd h
set_option maxRecDepth 20000 in
theorem inn_X9_init_X7 : ∀ w ∈ wsX70, w ∈ wsX9_init := by decide +kernel
set_option maxRecDepth 20000 in
theorem inn_X9_init_X9 : ∀ w ∈ wsX90, w ∈ wsX9_init := by decide +kernel
theorem fn_X9_init_12 : Fl RX9 wsX9_init 12 9 0 true (.object "TippedBarrow$Text") := ⟨_, _, _, tyX9, rfl, inn_X9_init_X9, by decide, by decide +kernel, tyX9_ok, nmX9, rfl, tyX9_ok 0 (by decide)⟩
set_option maxRecDepth 20000 in
theorem inn_X9_init_X6 : ∀ w ∈ wsX60, w ∈ wsX9_init := by decide +kernel
theorem fn_X9_init_21 : Fl RX9 wsX9_init 21 9 1 true (.object "TippedBarrow$Reader") := ⟨_, _, _, tyX9, rfl, inn_X9_init_X9, by decide, by decide +kernel, tyX9_ok, nmX9, rfl, tyX9_ok 1 (by decide)⟩
set_option maxRecDepth 20000 in
theorem inn_X9_init_X5 : ∀ w ∈ wsX50, w ∈ wsX9_init := by decide +kernel
theorem fn_X9_init_28 : Fl RX9 wsX9_init 28 9 2 false (.object "TippedBarrow$Plan") := ⟨_, _, _, tyX9, rfl, inn_X9_init_X9, by decide, by decide +kernel, tyX9_ok, nmX9, rfl, tyX9_ok 2 (by decide)⟩
theorem fn_X9_init_32 : Fl RX9 wsX9_init 32 9 3 false (.object "TippedBarrow$Plan") := ⟨_, _, _, tyX9, rfl, inn_X9_init_X9, by decide, by decide +kernel, tyX9_ok, nmX9, rfl, tyX9_ok 3 (by decide)⟩
set_option maxRecDepth 20000 in
theorem inn_X9_init_X4 : ∀ w ∈ wsX40, w ∈ wsX9_init := by decide +kernel
theorem fn_X9_init_38 : Fl RX9 wsX9_init 38 9 4 true (.object "TippedBarrow$Moment") := ⟨_, _, _, tyX9, rfl, inn_X9_init_X9, by decide, by decide +kernel, tyX9_ok, nmX9, rfl, tyX9_ok 4 (by decide)⟩
set_option maxRecDepth 20000 in
theorem inn_X9_init_X2 : ∀ w ∈ wsX20, w ∈ wsX9_init := by decide +kernel
theorem fn_X9_init_44 : Fl RX9 wsX9_init 44 4 0 true (.array .int) := ⟨_, _, _, tyX4, rfl, inn_X9_init_X4, by decide, by decide +kernel, tyX4_ok, nmX4, rfl, tyX4_ok 0 (by decide)⟩
theorem fn_X9_init_51 : Fl RX9 wsX9_init 51 9 5 true (.object "TippedBarrow$Ground") := ⟨_, _, _, tyX9, rfl, inn_X9_init_X9, by decide, by decide +kernel, tyX9_ok, nmX9, rfl, tyX9_ok 5 (by decide)⟩
theorem fn_X9_init_55 : Fl RX9 wsX9_init 55 9 6 true (.object "TippedBarrow$Ground") := ⟨_, _, _, tyX9, rfl, inn_X9_init_X9, by decide, by decide +kernel, tyX9_ok, nmX9, rfl, tyX9_ok 6 (by decide)⟩
set_option maxRecDepth 20000 in
theorem inn_X9_init_X3 : ∀ w ∈ wsX30, w ∈ wsX9_init := by decide +kernel
theorem fn_X9_init_61 : Fl RX9 wsX9_init 61 9 7 true (.object "TippedBarrow$History") := ⟨_, _, _, tyX9, rfl, inn_X9_init_X9, by decide, by decide +kernel, tyX9_ok, nmX9, rfl, tyX9_ok 7 (by decide)⟩
theorem fn_X9_init_65 : Fl RX9 wsX9_init 65 9 8 true (.array (.object "TippedBarrow$Moment")) := ⟨_, _, _, tyX9, rfl, inn_X9_init_X9, by decide, by decide +kernel, tyX9_ok, nmX9, rfl, tyX9_ok 8 (by decide)⟩
theorem fn_X9_init_69 : Fl RX9 wsX9_init 69 9 9 true (.array .boolean) := ⟨_, _, _, tyX9, rfl, inn_X9_init_X9, by decide, by decide +kernel, tyX9_ok, nmX9, rfl, tyX9_ok 9 (by decide)⟩
theorem fn_X9_init_73 : Fl RX9 wsX9_init 73 9 10 true (.array .int) := ⟨_, _, _, tyX9, rfl, inn_X9_init_X9, by decide, by decide +kernel, tyX9_ok, nmX9, rfl, tyX9_ok 10 (by decide)⟩
set_option maxRecDepth 20000 in
theorem inn_X9_init_X1 : ∀ w ∈ wsX10, w ∈ wsX9_init := by decide +kernel
theorem fn_X9_init_79 : Fl RX9 wsX9_init 79 9 13 true (.object "TippedBarrow$Contest") := ⟨_, _, _, tyX9, rfl, inn_X9_init_X9, by decide, by decide +kernel, tyX9_ok, nmX9, rfl, tyX9_ok 13 (by decide)⟩
set_option maxRecDepth 20000 in
theorem inn_X9_init_X8 : ∀ w ∈ wsX80, w ∈ wsX9_init := by decide +kernel
theorem fn_X9_init_86 : Fl RX9 wsX9_init 86 9 14 true (.object "TippedBarrow$Walk") := ⟨_, _, _, tyX9, rfl, inn_X9_init_X9, by decide, by decide +kernel, tyX9_ok, nmX9, rfl, tyX9_ok 14 (by decide)⟩
set_option maxRecDepth 20000 in
theorem inn_X9_init_X0 : ∀ w ∈ wsX00, w ∈ wsX9_init := by decide +kernel
theorem fn_X9_init_93 : Fl RX9 wsX9_init 93 9 15 true (.object "TippedBarrow$Chance") := ⟨_, _, _, tyX9, rfl, inn_X9_init_X9, by decide, by decide +kernel, tyX9_ok, nmX9, rfl, tyX9_ok 15 (by decide)⟩
abbrev rm_X9_init : Room := { frames := 3, cells := 87, slots := 6609, locals := 64 }
set_option maxHeartbeats 16000000 in
set_option maxRecDepth 100000 in
theorem c_T_init (l : Launch) (D : va_G) (cy : Nat → ClassId) (q sz : Nat) : Met l yX9_init wsX9_init rm_X9_init (Pn D cy [.ref q] sz q (.inr (9, [.null, .null, .null, .null, .null, .null, .null, .null, .null, .null, .null, .int 0, .long 0, .null, .null, .null]))) (va_Qv (fun ad : Nat → Nat => ad 0 = q) (fun ad t => va_P D vwCl (wd LT ad cy sT0) t.heap ∧ va_D (va_A [(q, (.inr (9, [.null, .null, .null, .null, .null, .null, .null, .null, .null, .null, .null, .int 0, .long 0, .null, .null, .null])))] sz) (wd LT ad cy sT0)) (va_A [(q, (.inr (9, [.null, .null, .null, .null, .null, .null, .null, .null, .null, .null, .null, .int 0, .long 0, .null, .null, .null])))] sz)) 87 6609 (va_A [(q, (.inr (9, [.null, .null, .null, .null, .null, .null, .null, .null, .null, .null, .null, .int 0, .long 0, .null, .null, .null])))] sz) := by
  refine Met.ofW (cc := cX9_init) (maxL := 1) (ret := none) (by decide) rfl ?_
  intro p e s m args below meth c s₁ B hml hv
  obtain ⟨rfl, hsz, hP, hK, hSX⟩ := hv
  have hx := B.exec
  have hb := B.bytes
  have hr := B.returns
  have hts := atoms_spec (ws := wsX9_init) B.pre
  have hown : s.vm.findClass RX9 = some m.cls := findClass_of_methodNamed B.named
  have hlocks := B.notSynchronized
  have hin : meth.name = "<init>" := (name_of_methodNamed B.named B.method).1
  subst hsz
  have hD : va_D (va_A [(q, (.inr (9, [.null, .null, .null, .null, .null, .null, .null, .null, .null, .null, .null, .int 0, .long 0, .null, .null, .null])))] s.heap.size) [(q, (.inr (9, [.null, .null, .null, .null, .null, .null, .null, .null, .null, .null, .null, .int 0, .long 0, .null, .null, .null])))] := nD1
  generalize hAe : va_A [(q, (.inr (9, [.null, .null, .null, .null, .null, .null, .null, .null, .null, .null, .null, .int 0, .long 0, .null, .null, .null])))] s.heap.size = A at hSX hD ⊢
  have hA : ∀ x : Nat, s.heap.size ≤ x → A x := fun x h => by rw [← hAe]; exact Or.inr h
  have hS : va_S A s.heap s.heap [] := va_S.rf
  have O : OkC p s m _ meth c D cy A cX9_init RX9 wsX9_init := ⟨hx, hb, hown, hts, hK, hA, hSX⟩
  have hl := lv_entry ([.ref q]) (n := 1) (Nat.le_of_ble_eq_true rfl)
  rw [lg_entry_eq]
  generalize (lg_sl ([.ref q]) ++ List.replicate (1 - (lg_sl ([.ref q])).length) Slot.unset).toArray = ls at hl ⊢
  have h0 : ls[0]? = some (.val (.ref q)) := lv_at hl 0 rfl
  refine lv_aload_n hx hb dX9_init_0 rfl h0 ?_
  refine W.objInit hx hb hown (hts (.methodLink RX9 3 objectInit) (by decide +kernel)) (hts (.instanceMethod objectInit) (by decide +kernel)) (hts _ (List.mem_of_getElem? (l := wsX9_init) (i := 3) rfl)) rfl (by rw [hml]; exact hl.1) rfl dX9_init_1 (Nat.le_of_ble_eq_true rfl) (Nat.le_of_ble_eq_true rfl) ?_
  refine W.eq (g2 := F0 m 4 ls []) rfl ?_
  have hP : va_P D vwCl (((q, .inr (9, [.null, .null, .null, .null, .null, .null, .null, .null, .null, .null, .null, .int 0, .long 0, .null, .null, .null])) :: ([] : va_W))) s.heap := hP
  have hD : va_D A (((q, .inr (9, [.null, .null, .null, .null, .null, .null, .null, .null, .null, .null, .null, .int 0, .long 0, .null, .null, .null])) :: ([] : va_W))) := hD
  refine lv_aload_n hx hb dX9_init_4 rfl h0 ?_
  refine n_new O 7 (N := 2) (C := RX7) (T := TX7) (ty := tyX7) [.null, .int 0] rfl inn_X9_init_X7 tyX7_ok (by decide +kernel) (by decide +kernel) (by decide +kernel) (fun j hj => by rcases (show j = 0 ∨ j = 1 by omega) with rfl | rfl <;> rfl) (Nat.le_of_ble_eq_true rfl) (Nat.le_of_ble_eq_true rfl) hP hD hS dX9_init_5 (fun q1 H hP hD hS => ?_)
  refine lv_dup hx hb dX9_init_8 rfl ?_
  refine n_call (mc := 1) (ms := 120) O (va_runIN (As := []) (rest := [.ref q1, .ref q]) ⟨hx, hb, hml, hown, hts⟩ (c_Te_init l D cy q1 H.size) ⟨va_cnB 0 hts gX9_init_X7_init_n11 rfl rfl rfl (hK.1.2 _ (List.mem_of_getElem? (l := nestL) (i := 0) rfl)) (hts (.initialized RX7) (by decide +kernel)) ⟨by decide +kernel, by decide +kernel, by decide +kernel⟩ ⟨(Nat.le_of_ble_eq_true rfl), (Nat.le_of_ble_eq_true rfl)⟩, rfl, hts (.instanceMethod yX7_init) (by decide +kernel)⟩ ⟨Pn_blind, pn_pre hP hD hS hK hA hSX⟩ rfl rfl hl.1 rfl (lv_room (Nat.le_of_ble_eq_true rfl)) dX9_init_9 ⟨(Nat.le_of_ble_eq_true rfl), (Nat.le_of_ble_eq_true rfl)⟩) hP hD hS (fun b1 H locs hbb1 hP hD hS => ?_)
  have hP : va_P D vwCl (((q, .inr (9, [.null, .null, .null, .null, .null, .null, .null, .null, .null, .null, .null, .int 0, .long 0, .null, .null, .null])) :: (([] : va_W) ++ wd LTe b1 cy zm))) H := hP
  have hD : va_D A (((q, .inr (9, [.null, .null, .null, .null, .null, .null, .null, .null, .null, .null, .null, .int 0, .long 0, .null, .null, .null])) :: (([] : va_W) ++ wd LTe b1 cy zm))) := hD
  refine n_put O hin fn_X9_init_12 (fun r h => by obtain rfl := Option.some.inj h; rfl) rfl rfl (Nat.le_of_ble_eq_true rfl) hP hD hS dX9_init_12 (fun H locs hP hD hS => ?_)
  have hP : va_P D vwCl (((q, .inr (9, [.ref q1, .null, .null, .null, .null, .null, .null, .null, .null, .null, .null, .int 0, .long 0, .null, .null, .null])) :: (([] : va_W) ++ wd LTe b1 cy zm))) H := hP
  have hD : va_D A (((q, .inr (9, [.ref q1, .null, .null, .null, .null, .null, .null, .null, .null, .null, .null, .int 0, .long 0, .null, .null, .null])) :: (([] : va_W) ++ wd LTe b1 cy zm))) := hD
  obtain ⟨R1, eR1⟩ : ∃ z : va_W, z = (([] : va_W) ++ wd LTe b1 cy zm) := ⟨_, rfl⟩
  have hP : va_P D vwCl (((q, .inr (9, [.ref q1, .null, .null, .null, .null, .null, .null, .null, .null, .null, .null, .int 0, .long 0, .null, .null, .null])) :: R1)) H := by rw [eR1]; exact hP
  have hD : va_D A (((q, .inr (9, [.ref q1, .null, .null, .null, .null, .null, .null, .null, .null, .null, .null, .int 0, .long 0, .null, .null, .null])) :: R1)) := by rw [eR1]; exact hD
  refine lv_aload_n hx hb dX9_init_15 rfl h0 ?_
  refine n_new O 6 (N := 9) (C := RX6) (T := TX6) (ty := tyX6) [.null, .null, .null, .null, .int 0, .int 0, .null, .int 0, .int 0] rfl inn_X9_init_X6 tyX6_ok (by decide +kernel) (by decide +kernel) (by decide +kernel) (fun j hj => by rcases (show j = 0 ∨ j = 1 ∨ j = 2 ∨ j = 3 ∨ j = 4 ∨ j = 5 ∨ j = 6 ∨ j = 7 ∨ j = 8 by omega) with rfl | rfl | rfl | rfl | rfl | rfl | rfl | rfl | rfl <;> rfl) (Nat.le_of_ble_eq_true rfl) (Nat.le_of_ble_eq_true rfl) hP hD hS dX9_init_16 (fun q2 H hP hD hS => ?_)
  refine lv_dup hx hb dX9_init_19 rfl ?_
  refine lv_aload_n hx hb dX9_init_20 rfl h0 ?_
  refine n_get O 0 fn_X9_init_12 rfl rfl hP dX9_init_21 ?_
  refine n_call (mc := 3) (ms := 363) O (va_runI (As := [.ref q1]) (rest := [.ref q2, .ref q]) ⟨hx, hb, hml, hown, hts⟩ (c_Re_init l D cy q2 H.size q1) (cwI 1 hts gX9_init_X6_init rfl rfl rfl (hts (.initialized RX6) (by decide +kernel)) (hts (.methodLink RX9 18 yX6_init) (by decide +kernel)) (hts (.instanceMethod yX6_init) (by decide +kernel)) rfl (by decide +kernel) ⟨(Nat.le_of_ble_eq_true rfl), (Nat.le_of_ble_eq_true rfl)⟩) ⟨Pn_blind, pn_pre hP hD hS hK hA hSX⟩ rfl rfl hl.1 rfl (lv_room (Nat.le_of_ble_eq_true rfl)) dX9_init_24 ⟨(Nat.le_of_ble_eq_true rfl), (Nat.le_of_ble_eq_true rfl)⟩) hP hD hS (fun b2 H locs hbb2 hP hD hS => ?_)
  have hP : va_P D vwCl (((q, .inr (9, [.ref q1, .null, .null, .null, .null, .null, .null, .null, .null, .null, .null, .int 0, .long 0, .null, .null, .null])) :: (R1 ++ wd LRe b2 cy zm))) H := hP
  have hD : va_D A (((q, .inr (9, [.ref q1, .null, .null, .null, .null, .null, .null, .null, .null, .null, .null, .int 0, .long 0, .null, .null, .null])) :: (R1 ++ wd LRe b2 cy zm))) := hD
  obtain ⟨hbb2, heb2⟩ := hbb2
  refine n_put O hin fn_X9_init_21 (fun r h => by obtain rfl := Option.some.inj h; rfl) rfl rfl (Nat.le_of_ble_eq_true rfl) hP hD hS dX9_init_27 (fun H locs hP hD hS => ?_)
  have hP : va_P D vwCl (((q, .inr (9, [.ref q1, .ref q2, .null, .null, .null, .null, .null, .null, .null, .null, .null, .int 0, .long 0, .null, .null, .null])) :: (R1 ++ wd LRe b2 cy zm))) H := hP
  have hD : va_D A (((q, .inr (9, [.ref q1, .ref q2, .null, .null, .null, .null, .null, .null, .null, .null, .null, .int 0, .long 0, .null, .null, .null])) :: (R1 ++ wd LRe b2 cy zm))) := hD
  obtain ⟨R2, eR2⟩ : ∃ z : va_W, z = (R1 ++ wd LRe b2 cy zm) := ⟨_, rfl⟩
  have hP : va_P D vwCl (((q, .inr (9, [.ref q1, .ref q2, .null, .null, .null, .null, .null, .null, .null, .null, .null, .int 0, .long 0, .null, .null, .null])) :: R2)) H := by rw [eR2]; exact hP
  have hD : va_D A (((q, .inr (9, [.ref q1, .ref q2, .null, .null, .null, .null, .null, .null, .null, .null, .null, .int 0, .long 0, .null, .null, .null])) :: R2)) := by rw [eR2]; exact hD
  refine lv_aload_n hx hb dX9_init_30 rfl h0 ?_
  refine n_new O 5 (N := 6) (C := RX5) (T := TX5) (ty := tyX5) [.null, .int 0, .int 0, .int 0, .int 0, .int 0] rfl inn_X9_init_X5 tyX5_ok (by decide +kernel) (by decide +kernel) (by decide +kernel) (fun j hj => by rcases (show j = 0 ∨ j = 1 ∨ j = 2 ∨ j = 3 ∨ j = 4 ∨ j = 5 by omega) with rfl | rfl | rfl | rfl | rfl | rfl <;> rfl) (Nat.le_of_ble_eq_true rfl) (Nat.le_of_ble_eq_true rfl) hP hD hS dX9_init_31 (fun q3 H hP hD hS => ?_)
  refine lv_dup hx hb dX9_init_34 rfl ?_
  refine n_call (mc := 1) (ms := 20) O (va_runI (As := []) (rest := [.ref q3, .ref q]) ⟨hx, hb, hml, hown, hts⟩ (c_Pl_init l D cy q3 H.size) (cwI 0 hts gX9_init_X5_init rfl rfl rfl (hts (.initialized RX5) (by decide +kernel)) (hts (.methodLink RX9 27 yX5_init) (by decide +kernel)) (hts (.instanceMethod yX5_init) (by decide +kernel)) rfl (by decide +kernel) ⟨(Nat.le_of_ble_eq_true rfl), (Nat.le_of_ble_eq_true rfl)⟩) ⟨Pn_blind, pn_pre hP hD hS hK hA hSX⟩ rfl rfl hl.1 rfl (lv_room (Nat.le_of_ble_eq_true rfl)) dX9_init_35 ⟨(Nat.le_of_ble_eq_true rfl), (Nat.le_of_ble_eq_true rfl)⟩) hP hD hS (fun b3 H locs hbb3 hP hD hS => ?_)
  have hP : va_P D vwCl (((q, .inr (9, [.ref q1, .ref q2, .null, .null, .null, .null, .null, .null, .null, .null, .null, .int 0, .long 0, .null, .null, .null])) :: (R2 ++ wd LPl b3 cy muPl))) H := hP
  have hD : va_D A (((q, .inr (9, [.ref q1, .ref q2, .null, .null, .null, .null, .null, .null, .null, .null, .null, .int 0, .long 0, .null, .null, .null])) :: (R2 ++ wd LPl b3 cy muPl))) := hD
  refine n_put O hin fn_X9_init_28 (fun r h => by obtain rfl := Option.some.inj h; rfl) rfl rfl (Nat.le_of_ble_eq_true rfl) hP hD hS dX9_init_38 (fun H locs hP hD hS => ?_)
  have hP : va_P D vwCl (((q, .inr (9, [.ref q1, .ref q2, .ref q3, .null, .null, .null, .null, .null, .null, .null, .null, .int 0, .long 0, .null, .null, .null])) :: (R2 ++ wd LPl b3 cy muPl))) H := hP
  have hD : va_D A (((q, .inr (9, [.ref q1, .ref q2, .ref q3, .null, .null, .null, .null, .null, .null, .null, .null, .int 0, .long 0, .null, .null, .null])) :: (R2 ++ wd LPl b3 cy muPl))) := hD
  obtain ⟨R3, eR3⟩ : ∃ z : va_W, z = (R2 ++ wd LPl b3 cy muPl) := ⟨_, rfl⟩
  have hP : va_P D vwCl (((q, .inr (9, [.ref q1, .ref q2, .ref q3, .null, .null, .null, .null, .null, .null, .null, .null, .int 0, .long 0, .null, .null, .null])) :: R3)) H := by rw [eR3]; exact hP
  have hD : va_D A (((q, .inr (9, [.ref q1, .ref q2, .ref q3, .null, .null, .null, .null, .null, .null, .null, .null, .int 0, .long 0, .null, .null, .null])) :: R3)) := by rw [eR3]; exact hD
  refine lv_aload_n hx hb dX9_init_41 rfl h0 ?_
  refine n_new O 5 (N := 6) (C := RX5) (T := TX5) (ty := tyX5) [.null, .int 0, .int 0, .int 0, .int 0, .int 0] rfl inn_X9_init_X5 tyX5_ok (by decide +kernel) (by decide +kernel) (by decide +kernel) (fun j hj => by rcases (show j = 0 ∨ j = 1 ∨ j = 2 ∨ j = 3 ∨ j = 4 ∨ j = 5 by omega) with rfl | rfl | rfl | rfl | rfl | rfl <;> rfl) (Nat.le_of_ble_eq_true rfl) (Nat.le_of_ble_eq_true rfl) hP hD hS dX9_init_42 (fun q4 H hP hD hS => ?_)
  refine lv_dup hx hb dX9_init_45 rfl ?_
  refine n_call (mc := 1) (ms := 20) O (va_runI (As := []) (rest := [.ref q4, .ref q]) ⟨hx, hb, hml, hown, hts⟩ (c_Pl_init l D cy q4 H.size) (cwI 0 hts gX9_init_X5_init rfl rfl rfl (hts (.initialized RX5) (by decide +kernel)) (hts (.methodLink RX9 27 yX5_init) (by decide +kernel)) (hts (.instanceMethod yX5_init) (by decide +kernel)) rfl (by decide +kernel) ⟨(Nat.le_of_ble_eq_true rfl), (Nat.le_of_ble_eq_true rfl)⟩) ⟨Pn_blind, pn_pre hP hD hS hK hA hSX⟩ rfl rfl hl.1 rfl (lv_room (Nat.le_of_ble_eq_true rfl)) dX9_init_46 ⟨(Nat.le_of_ble_eq_true rfl), (Nat.le_of_ble_eq_true rfl)⟩) hP hD hS (fun b4 H locs hbb4 hP hD hS => ?_)
  have hP : va_P D vwCl (((q, .inr (9, [.ref q1, .ref q2, .ref q3, .null, .null, .null, .null, .null, .null, .null, .null, .int 0, .long 0, .null, .null, .null])) :: (R3 ++ wd LPl b4 cy muPl))) H := hP
  have hD : va_D A (((q, .inr (9, [.ref q1, .ref q2, .ref q3, .null, .null, .null, .null, .null, .null, .null, .null, .int 0, .long 0, .null, .null, .null])) :: (R3 ++ wd LPl b4 cy muPl))) := hD
  refine n_put O hin fn_X9_init_32 (fun r h => by obtain rfl := Option.some.inj h; rfl) rfl rfl (Nat.le_of_ble_eq_true rfl) hP hD hS dX9_init_49 (fun H locs hP hD hS => ?_)
  have hP : va_P D vwCl (((q, .inr (9, [.ref q1, .ref q2, .ref q3, .ref q4, .null, .null, .null, .null, .null, .null, .null, .int 0, .long 0, .null, .null, .null])) :: (R3 ++ wd LPl b4 cy muPl))) H := hP
  have hD : va_D A (((q, .inr (9, [.ref q1, .ref q2, .ref q3, .ref q4, .null, .null, .null, .null, .null, .null, .null, .int 0, .long 0, .null, .null, .null])) :: (R3 ++ wd LPl b4 cy muPl))) := hD
  obtain ⟨R4, eR4⟩ : ∃ z : va_W, z = (R3 ++ wd LPl b4 cy muPl) := ⟨_, rfl⟩
  have hP : va_P D vwCl (((q, .inr (9, [.ref q1, .ref q2, .ref q3, .ref q4, .null, .null, .null, .null, .null, .null, .null, .int 0, .long 0, .null, .null, .null])) :: R4)) H := by rw [eR4]; exact hP
  have hD : va_D A (((q, .inr (9, [.ref q1, .ref q2, .ref q3, .ref q4, .null, .null, .null, .null, .null, .null, .null, .int 0, .long 0, .null, .null, .null])) :: R4)) := by rw [eR4]; exact hD
  refine lv_aload_n hx hb dX9_init_52 rfl h0 ?_
  refine n_new O 4 (N := 6) (C := RX4) (T := TX4) (ty := tyX4) [.null, .null, .null, .int 0, .int 0, .int 0] rfl inn_X9_init_X4 tyX4_ok (by decide +kernel) (by decide +kernel) (by decide +kernel) (fun j hj => by rcases (show j = 0 ∨ j = 1 ∨ j = 2 ∨ j = 3 ∨ j = 4 ∨ j = 5 by omega) with rfl | rfl | rfl | rfl | rfl | rfl <;> rfl) (Nat.le_of_ble_eq_true rfl) (Nat.le_of_ble_eq_true rfl) hP hD hS dX9_init_53 (fun q5 H hP hD hS => ?_)
  refine lv_dup hx hb dX9_init_56 rfl ?_
  refine n_call (mc := 3) (ms := 24) O (va_runI (As := []) (rest := [.ref q5, .ref q]) ⟨hx, hb, hml, hown, hts⟩ (c_Mo_init l D cy q5 H.size) (cwI 0 hts gX9_init_X4_init rfl rfl rfl (hts (.initialized RX4) (by decide +kernel)) (hts (.methodLink RX9 37 yX4_init) (by decide +kernel)) (hts (.instanceMethod yX4_init) (by decide +kernel)) rfl (by decide +kernel) ⟨(Nat.le_of_ble_eq_true rfl), (Nat.le_of_ble_eq_true rfl)⟩) ⟨Pn_blind, pn_pre hP hD hS hK hA hSX⟩ rfl rfl hl.1 rfl (lv_room (Nat.le_of_ble_eq_true rfl)) dX9_init_57 ⟨(Nat.le_of_ble_eq_true rfl), (Nat.le_of_ble_eq_true rfl)⟩) hP hD hS (fun b5 H locs hbb5 hP hD hS => ?_)
  have hP : va_P D vwCl (((q, .inr (9, [.ref q1, .ref q2, .ref q3, .ref q4, .null, .null, .null, .null, .null, .null, .null, .int 0, .long 0, .null, .null, .null])) :: (R4 ++ wd LMo b5 cy muMo))) H := hP
  have hD : va_D A (((q, .inr (9, [.ref q1, .ref q2, .ref q3, .ref q4, .null, .null, .null, .null, .null, .null, .null, .int 0, .long 0, .null, .null, .null])) :: (R4 ++ wd LMo b5 cy muMo))) := hD
  refine n_put O hin fn_X9_init_38 (fun r h => by obtain rfl := Option.some.inj h; rfl) rfl rfl (Nat.le_of_ble_eq_true rfl) hP hD hS dX9_init_60 (fun H locs hP hD hS => ?_)
  have hP : va_P D vwCl (((q, .inr (9, [.ref q1, .ref q2, .ref q3, .ref q4, .ref q5, .null, .null, .null, .null, .null, .null, .int 0, .long 0, .null, .null, .null])) :: (R4 ++ wd LMo b5 cy muMo))) H := hP
  have hD : va_D A (((q, .inr (9, [.ref q1, .ref q2, .ref q3, .ref q4, .ref q5, .null, .null, .null, .null, .null, .null, .int 0, .long 0, .null, .null, .null])) :: (R4 ++ wd LMo b5 cy muMo))) := hD
  obtain ⟨R5, eR5⟩ : ∃ z : va_W, z = (R4 ++ wd LMo b5 cy muMo) := ⟨_, rfl⟩
  have hP : va_P D vwCl (((q, .inr (9, [.ref q1, .ref q2, .ref q3, .ref q4, .ref q5, .null, .null, .null, .null, .null, .null, .int 0, .long 0, .null, .null, .null])) :: R5)) H := by rw [eR5]; exact hP
  have hD : va_D A (((q, .inr (9, [.ref q1, .ref q2, .ref q3, .ref q4, .ref q5, .null, .null, .null, .null, .null, .null, .int 0, .long 0, .null, .null, .null])) :: R5)) := by rw [eR5]; exact hD
  refine lv_aload_n hx hb dX9_init_63 rfl h0 ?_
  refine n_new O 2 (N := 4) (C := RX2) (T := TX2) (ty := tyX2) [.null, .null, .int 0, .int 0] rfl inn_X9_init_X2 tyX2_ok (by decide +kernel) (by decide +kernel) (by decide +kernel) (fun j hj => by rcases (show j = 0 ∨ j = 1 ∨ j = 2 ∨ j = 3 by omega) with rfl | rfl | rfl | rfl <;> rfl) (Nat.le_of_ble_eq_true rfl) (Nat.le_of_ble_eq_true rfl) hP hD hS dX9_init_64 (fun q6 H hP hD hS => ?_)
  refine lv_dup hx hb dX9_init_67 rfl ?_
  refine lv_aload_n hx hb dX9_init_68 rfl h0 ?_
  refine n_get O 0 fn_X9_init_38 rfl rfl hP dX9_init_69 ?_
  refine n_get O 11 fn_X9_init_44 (fs := fvs b5 muMo 0 0 [1 + 3, 2 + 3, 3 + 3, 0, 0, 0]) (by rw [eR5, eR4, eR3, eR2, eR1, ← hbb5]; rfl) rfl hP dX9_init_72 ?_
  refine n_call (mc := 1) (ms := 80) O (va_runI (As := [.ref (b5 1)]) (rest := [.ref q6, .ref q]) ⟨hx, hb, hml, hown, hts⟩ (c_Gr_init l D cy q6 H.size (b5 1)) (cwI 1 hts gX9_init_X2_init rfl rfl rfl (hts (.initialized RX2) (by decide +kernel)) (hts (.methodLink RX9 48 yX2_init) (by decide +kernel)) (hts (.instanceMethod yX2_init) (by decide +kernel)) rfl (by decide +kernel) ⟨(Nat.le_of_ble_eq_true rfl), (Nat.le_of_ble_eq_true rfl)⟩) ⟨Pn_blind, pn_pre hP hD hS hK hA hSX⟩ rfl rfl hl.1 rfl (lv_room (Nat.le_of_ble_eq_true rfl)) dX9_init_75 ⟨(Nat.le_of_ble_eq_true rfl), (Nat.le_of_ble_eq_true rfl)⟩) hP hD hS (fun b6 H locs hbb6 hP hD hS => ?_)
  have hP : va_P D vwCl (((q, .inr (9, [.ref q1, .ref q2, .ref q3, .ref q4, .ref q5, .null, .null, .null, .null, .null, .null, .int 0, .long 0, .null, .null, .null])) :: (R5 ++ wd LGr b6 cy muGr))) H := hP
  have hD : va_D A (((q, .inr (9, [.ref q1, .ref q2, .ref q3, .ref q4, .ref q5, .null, .null, .null, .null, .null, .null, .int 0, .long 0, .null, .null, .null])) :: (R5 ++ wd LGr b6 cy muGr))) := hD
  obtain ⟨hbb6, heb6⟩ := hbb6
  refine n_put O hin fn_X9_init_51 (fun r h => by obtain rfl := Option.some.inj h; rfl) rfl rfl (Nat.le_of_ble_eq_true rfl) hP hD hS dX9_init_78 (fun H locs hP hD hS => ?_)
  have hP : va_P D vwCl (((q, .inr (9, [.ref q1, .ref q2, .ref q3, .ref q4, .ref q5, .ref q6, .null, .null, .null, .null, .null, .int 0, .long 0, .null, .null, .null])) :: (R5 ++ wd LGr b6 cy muGr))) H := hP
  have hD : va_D A (((q, .inr (9, [.ref q1, .ref q2, .ref q3, .ref q4, .ref q5, .ref q6, .null, .null, .null, .null, .null, .int 0, .long 0, .null, .null, .null])) :: (R5 ++ wd LGr b6 cy muGr))) := hD
  obtain ⟨R6, eR6⟩ : ∃ z : va_W, z = (R5 ++ wd LGr b6 cy muGr) := ⟨_, rfl⟩
  have hP : va_P D vwCl (((q, .inr (9, [.ref q1, .ref q2, .ref q3, .ref q4, .ref q5, .ref q6, .null, .null, .null, .null, .null, .int 0, .long 0, .null, .null, .null])) :: R6)) H := by rw [eR6]; exact hP
  have hD : va_D A (((q, .inr (9, [.ref q1, .ref q2, .ref q3, .ref q4, .ref q5, .ref q6, .null, .null, .null, .null, .null, .int 0, .long 0, .null, .null, .null])) :: R6)) := by rw [eR6]; exact hD
  refine lv_aload_n hx hb dX9_init_81 rfl h0 ?_
  refine n_new O 2 (N := 4) (C := RX2) (T := TX2) (ty := tyX2) [.null, .null, .int 0, .int 0] rfl inn_X9_init_X2 tyX2_ok (by decide +kernel) (by decide +kernel) (by decide +kernel) (fun j hj => by rcases (show j = 0 ∨ j = 1 ∨ j = 2 ∨ j = 3 by omega) with rfl | rfl | rfl | rfl <;> rfl) (Nat.le_of_ble_eq_true rfl) (Nat.le_of_ble_eq_true rfl) hP hD hS dX9_init_82 (fun q7 H hP hD hS => ?_)
  refine lv_dup hx hb dX9_init_85 rfl ?_
  refine lv_bipush (v := 20) hx hb dX9_init_86 (by decide) ?_
  refine n_newa O 0 (n := 20) (ty := .int) rfl rfl rfl (by decide +kernel) (by decide) (by decide) (by decide) (Nat.le_of_ble_eq_true rfl) (Nat.le_of_ble_eq_true rfl) hP hD hS dX9_init_88 (fun atr H hP hD hS => ?_)
  have hP := hP.swap
  have hD := hD.swap
  have hP : va_P D vwCl (((q, .inr (9, [.ref q1, .ref q2, .ref q3, .ref q4, .ref q5, .ref q6, .null, .null, .null, .null, .null, .int 0, .long 0, .null, .null, .null])) :: (R6 ++ [(atr, .inl (cy 0, (20, .inl (fun _ => 0))))])) ++ [(q7, .inr (2, [.null, .null, .int 0, .int 0]))]) H := hP
  have hD : va_D A (((q, .inr (9, [.ref q1, .ref q2, .ref q3, .ref q4, .ref q5, .ref q6, .null, .null, .null, .null, .null, .int 0, .long 0, .null, .null, .null])) :: (R6 ++ [(atr, .inl (cy 0, (20, .inl (fun _ => 0))))])) ++ [(q7, .inr (2, [.null, .null, .int 0, .int 0]))]) := hD
  refine n_call (mc := 1) (ms := 80) O (va_runI (As := [.ref atr]) (rest := [.ref q7, .ref q]) ⟨hx, hb, hml, hown, hts⟩ (c_Gr_init l D cy q7 H.size atr) (cwI 1 hts gX9_init_X2_init rfl rfl rfl (hts (.initialized RX2) (by decide +kernel)) (hts (.methodLink RX9 48 yX2_init) (by decide +kernel)) (hts (.instanceMethod yX2_init) (by decide +kernel)) rfl (by decide +kernel) ⟨(Nat.le_of_ble_eq_true rfl), (Nat.le_of_ble_eq_true rfl)⟩) ⟨Pn_blind, pn_pre hP hD hS hK hA hSX⟩ rfl rfl hl.1 rfl (lv_room (Nat.le_of_ble_eq_true rfl)) dX9_init_90 ⟨(Nat.le_of_ble_eq_true rfl), (Nat.le_of_ble_eq_true rfl)⟩) hP hD hS (fun b7 H locs hbb7 hP hD hS => ?_)
  have hP : va_P D vwCl (((q, .inr (9, [.ref q1, .ref q2, .ref q3, .ref q4, .ref q5, .ref q6, .null, .null, .null, .null, .null, .int 0, .long 0, .null, .null, .null])) :: ((R6 ++ [(atr, .inl (cy 0, (20, .inl (fun _ => 0))))]) ++ wd LGr b7 cy muGr))) H := hP
  have hD : va_D A (((q, .inr (9, [.ref q1, .ref q2, .ref q3, .ref q4, .ref q5, .ref q6, .null, .null, .null, .null, .null, .int 0, .long 0, .null, .null, .null])) :: ((R6 ++ [(atr, .inl (cy 0, (20, .inl (fun _ => 0))))]) ++ wd LGr b7 cy muGr))) := hD
  obtain ⟨hbb7, heb7⟩ := hbb7
  refine n_put O hin fn_X9_init_55 (fun r h => by obtain rfl := Option.some.inj h; rfl) rfl rfl (Nat.le_of_ble_eq_true rfl) hP hD hS dX9_init_93 (fun H locs hP hD hS => ?_)
  have hP : va_P D vwCl (((q, .inr (9, [.ref q1, .ref q2, .ref q3, .ref q4, .ref q5, .ref q6, .ref q7, .null, .null, .null, .null, .int 0, .long 0, .null, .null, .null])) :: ((R6 ++ [(atr, .inl (cy 0, (20, .inl (fun _ => 0))))]) ++ wd LGr b7 cy muGr))) H := hP
  have hD : va_D A (((q, .inr (9, [.ref q1, .ref q2, .ref q3, .ref q4, .ref q5, .ref q6, .ref q7, .null, .null, .null, .null, .int 0, .long 0, .null, .null, .null])) :: ((R6 ++ [(atr, .inl (cy 0, (20, .inl (fun _ => 0))))]) ++ wd LGr b7 cy muGr))) := hD
  obtain ⟨R7, eR7⟩ : ∃ z : va_W, z = ((R6 ++ [(atr, .inl (cy 0, (20, .inl (fun _ => 0))))]) ++ wd LGr b7 cy muGr) := ⟨_, rfl⟩
  have hP : va_P D vwCl (((q, .inr (9, [.ref q1, .ref q2, .ref q3, .ref q4, .ref q5, .ref q6, .ref q7, .null, .null, .null, .null, .int 0, .long 0, .null, .null, .null])) :: R7)) H := by rw [eR7]; exact hP
  have hD : va_D A (((q, .inr (9, [.ref q1, .ref q2, .ref q3, .ref q4, .ref q5, .ref q6, .ref q7, .null, .null, .null, .null, .int 0, .long 0, .null, .null, .null])) :: R7)) := by rw [eR7]; exact hD
  refine lv_aload_n hx hb dX9_init_96 rfl h0 ?_
  refine n_new O 3 (N := 3) (C := RX3) (T := TX3) (ty := tyX3) [.null, .int 0, .int 0] rfl inn_X9_init_X3 tyX3_ok (by decide +kernel) (by decide +kernel) (by decide +kernel) (fun j hj => by rcases (show j = 0 ∨ j = 1 ∨ j = 2 by omega) with rfl | rfl | rfl <;> rfl) (Nat.le_of_ble_eq_true rfl) (Nat.le_of_ble_eq_true rfl) hP hD hS dX9_init_97 (fun q8 H hP hD hS => ?_)
  refine lv_dup hx hb dX9_init_100 rfl ?_
  refine n_call (mc := 41) (ms := 310) O (va_runI (As := []) (rest := [.ref q8, .ref q]) ⟨hx, hb, hml, hown, hts⟩ (c_Hi_init l D cy q8 H.size) (cwI 0 hts gX9_init_X3_init rfl rfl rfl (hts (.initialized RX3) (by decide +kernel)) (hts (.methodLink RX9 60 yX3_init) (by decide +kernel)) (hts (.instanceMethod yX3_init) (by decide +kernel)) rfl (by decide +kernel) ⟨(Nat.le_of_ble_eq_true rfl), (Nat.le_of_ble_eq_true rfl)⟩) ⟨Pn_blind, pn_pre hP hD hS hK hA hSX⟩ rfl rfl hl.1 rfl (lv_room (Nat.le_of_ble_eq_true rfl)) dX9_init_101 ⟨(Nat.le_of_ble_eq_true rfl), (Nat.le_of_ble_eq_true rfl)⟩) hP hD hS (fun b8 H locs hbb8 hP hD hS => ?_)
  have hP : va_P D vwCl (((q, .inr (9, [.ref q1, .ref q2, .ref q3, .ref q4, .ref q5, .ref q6, .ref q7, .null, .null, .null, .null, .int 0, .long 0, .null, .null, .null])) :: (R7 ++ hib cy q8 b8))) H := hP
  have hD : va_D A (((q, .inr (9, [.ref q1, .ref q2, .ref q3, .ref q4, .ref q5, .ref q6, .ref q7, .null, .null, .null, .null, .int 0, .long 0, .null, .null, .null])) :: (R7 ++ hib cy q8 b8))) := hD
  refine n_put O hin fn_X9_init_61 (fun r h => by obtain rfl := Option.some.inj h; rfl) rfl rfl (Nat.le_of_ble_eq_true rfl) hP hD hS dX9_init_104 (fun H locs hP hD hS => ?_)
  have hP : va_P D vwCl (((q, .inr (9, [.ref q1, .ref q2, .ref q3, .ref q4, .ref q5, .ref q6, .ref q7, .ref q8, .null, .null, .null, .int 0, .long 0, .null, .null, .null])) :: (R7 ++ hib cy q8 b8))) H := hP
  have hD : va_D A (((q, .inr (9, [.ref q1, .ref q2, .ref q3, .ref q4, .ref q5, .ref q6, .ref q7, .ref q8, .null, .null, .null, .int 0, .long 0, .null, .null, .null])) :: (R7 ++ hib cy q8 b8))) := hD
  obtain ⟨R8, eR8⟩ : ∃ z : va_W, z = (R7 ++ hib cy q8 b8) := ⟨_, rfl⟩
  have hP : va_P D vwCl (((q, .inr (9, [.ref q1, .ref q2, .ref q3, .ref q4, .ref q5, .ref q6, .ref q7, .ref q8, .null, .null, .null, .int 0, .long 0, .null, .null, .null])) :: R8)) H := by rw [eR8]; exact hP
  have hD : va_D A (((q, .inr (9, [.ref q1, .ref q2, .ref q3, .ref q4, .ref q5, .ref q6, .ref q7, .ref q8, .null, .null, .null, .int 0, .long 0, .null, .null, .null])) :: R8)) := by rw [eR8]; exact hD
  refine lv_aload_n hx hb dX9_init_107 rfl h0 ?_
  refine lv_iconst (v := 2) hx hb dX9_init_108 (by decide) ?_
  refine n_newq O (n := 2) (by decide +kernel) (by decide) (by decide) (by decide) (Nat.le_of_ble_eq_true rfl) (Nat.le_of_ble_eq_true rfl) hP hD hS dX9_init_109 (fun ri H hP hD hS => ?_)
  refine lv_dup hx hb dX9_init_112 rfl ?_
  refine lv_iconst (v := 0) hx hb dX9_init_113 (by decide) ?_
  refine n_new O 4 (N := 6) (C := RX4) (T := TX4) (ty := tyX4) [.null, .null, .null, .int 0, .int 0, .int 0] rfl inn_X9_init_X4 tyX4_ok (by decide +kernel) (by decide +kernel) (by decide +kernel) (fun j hj => by rcases (show j = 0 ∨ j = 1 ∨ j = 2 ∨ j = 3 ∨ j = 4 ∨ j = 5 by omega) with rfl | rfl | rfl | rfl | rfl | rfl <;> rfl) (Nat.le_of_ble_eq_true rfl) (Nat.le_of_ble_eq_true rfl) hP hD hS dX9_init_114 (fun qi0 H hP hD hS => ?_)
  refine lv_dup hx hb dX9_init_117 rfl ?_
  refine n_call (mc := 3) (ms := 24) O (va_runI (As := []) (rest := [.ref qi0, .int 0, .ref ri, .ref ri, .ref q]) ⟨hx, hb, hml, hown, hts⟩ (c_Mo_init l D cy qi0 H.size) (cwI 0 hts gX9_init_X4_init rfl rfl rfl (hts (.initialized RX4) (by decide +kernel)) (hts (.methodLink RX9 37 yX4_init) (by decide +kernel)) (hts (.instanceMethod yX4_init) (by decide +kernel)) rfl (by decide +kernel) ⟨(Nat.le_of_ble_eq_true rfl), (Nat.le_of_ble_eq_true rfl)⟩) ⟨Pn_blind, pn_pre hP hD hS hK hA hSX⟩ rfl rfl hl.1 rfl (lv_room (Nat.le_of_ble_eq_true rfl)) dX9_init_118 ⟨(Nat.le_of_ble_eq_true rfl), (Nat.le_of_ble_eq_true rfl)⟩) hP hD hS (fun bi0 H locs hbbi0 hP hD hS => ?_)
  have hP : va_P D vwCl (((((q, .inr (9, [.ref q1, .ref q2, .ref q3, .ref q4, .ref q5, .ref q6, .ref q7, .ref q8, .null, .null, .null, .int 0, .long 0, .null, .null, .null])) :: R8) ++ [(ri, .inl (cy 2, (2, .inr (.inr (.inr (.inr (fun _ => none)))))))]) ++ wd LMo bi0 cy muMo)) H := hP
  have hD : va_D A (((((q, .inr (9, [.ref q1, .ref q2, .ref q3, .ref q4, .ref q5, .ref q6, .ref q7, .ref q8, .null, .null, .null, .int 0, .long 0, .null, .null, .null])) :: R8) ++ [(ri, .inl (cy 2, (2, .inr (.inr (.inr (.inr (fun _ => none)))))))]) ++ wd LMo bi0 cy muMo)) := hD
  refine n_ast O (X := ((q, .inr (9, [.ref q1, .ref q2, .ref q3, .ref q4, .ref q5, .ref q6, .ref q7, .ref q8, .null, .null, .null, .int 0, .long 0, .null, .null, .null])) :: R8)) (j := 0) (n := 2) (vs := fvs bi0 muMo 0 0 [1 + 3, 2 + 3, 3 + 3, 0, 0, 0]) (mo_hd hbbi0) (i := 0) vi0 hP hD hS dX9_init_121 (fun H locs hP hD hS => ?_)
  refine lv_dup hx hb dX9_init_122 rfl ?_
  refine lv_iconst (v := 1) hx hb dX9_init_123 (by decide) ?_
  refine n_new O 4 (N := 6) (C := RX4) (T := TX4) (ty := tyX4) [.null, .null, .null, .int 0, .int 0, .int 0] rfl inn_X9_init_X4 tyX4_ok (by decide +kernel) (by decide +kernel) (by decide +kernel) (fun j hj => by rcases (show j = 0 ∨ j = 1 ∨ j = 2 ∨ j = 3 ∨ j = 4 ∨ j = 5 by omega) with rfl | rfl | rfl | rfl | rfl | rfl <;> rfl) (Nat.le_of_ble_eq_true rfl) (Nat.le_of_ble_eq_true rfl) hP hD hS dX9_init_124 (fun qi1 H hP hD hS => ?_)
  refine lv_dup hx hb dX9_init_127 rfl ?_
  refine n_call (mc := 3) (ms := 24) O (va_runI (As := []) (rest := [.ref qi1, .int 1, .ref ri, .ref ri, .ref q]) ⟨hx, hb, hml, hown, hts⟩ (c_Mo_init l D cy qi1 H.size) (cwI 0 hts gX9_init_X4_init rfl rfl rfl (hts (.initialized RX4) (by decide +kernel)) (hts (.methodLink RX9 37 yX4_init) (by decide +kernel)) (hts (.instanceMethod yX4_init) (by decide +kernel)) rfl (by decide +kernel) ⟨(Nat.le_of_ble_eq_true rfl), (Nat.le_of_ble_eq_true rfl)⟩) ⟨Pn_blind, pn_pre hP hD hS hK hA hSX⟩ rfl rfl hl.1 rfl (lv_room (Nat.le_of_ble_eq_true rfl)) dX9_init_128 ⟨(Nat.le_of_ble_eq_true rfl), (Nat.le_of_ble_eq_true rfl)⟩) hP hD hS (fun bi1 H locs hbbi1 hP hD hS => ?_)
  rw [List.append_assoc] at hP hD
  have hP : va_P D vwCl (((((q, .inr (9, [.ref q1, .ref q2, .ref q3, .ref q4, .ref q5, .ref q6, .ref q7, .ref q8, .null, .null, .null, .int 0, .long 0, .null, .null, .null])) :: R8) ++ [(ri, .inl (cy 2, (2, .inr (.inr (.inr (.inr (va_up (fun _ => none) (0 : Int32).toNatClampNeg (some qi0))))))))]) ++ (wd LMo bi0 cy muMo ++ wd LMo bi1 cy muMo))) H := hP
  have hD : va_D A (((((q, .inr (9, [.ref q1, .ref q2, .ref q3, .ref q4, .ref q5, .ref q6, .ref q7, .ref q8, .null, .null, .null, .int 0, .long 0, .null, .null, .null])) :: R8) ++ [(ri, .inl (cy 2, (2, .inr (.inr (.inr (.inr (va_up (fun _ => none) (0 : Int32).toNatClampNeg (some qi0))))))))]) ++ (wd LMo bi0 cy muMo ++ wd LMo bi1 cy muMo))) := hD
  refine n_ast O (X := ((q, .inr (9, [.ref q1, .ref q2, .ref q3, .ref q4, .ref q5, .ref q6, .ref q7, .ref q8, .null, .null, .null, .int 0, .long 0, .null, .null, .null])) :: R8)) (j := 4) (n := 2) (vs := fvs bi1 muMo 0 0 [1 + 3, 2 + 3, 3 + 3, 0, 0, 0]) (mo_hd2 hbbi1) (i := 1) vi1 hP hD hS dX9_init_131 (fun H locs hP hD hS => ?_)
  have hP : va_P D vwCl (((q, .inr (9, [.ref q1, .ref q2, .ref q3, .ref q4, .ref q5, .ref q6, .ref q7, .ref q8, .null, .null, .null, .int 0, .long 0, .null, .null, .null])) :: ((R8 ++ [(ri, .inl (cy 2, (2, .inr (.inr (.inr (.inr (va_up (va_up (fun _ => none) (0 : Int32).toNatClampNeg (some qi0)) (1 : Int32).toNatClampNeg (some qi1))))))))]) ++ (wd LMo bi0 cy muMo ++ wd LMo bi1 cy muMo)))) H := hP
  have hD : va_D A (((q, .inr (9, [.ref q1, .ref q2, .ref q3, .ref q4, .ref q5, .ref q6, .ref q7, .ref q8, .null, .null, .null, .int 0, .long 0, .null, .null, .null])) :: ((R8 ++ [(ri, .inl (cy 2, (2, .inr (.inr (.inr (.inr (va_up (va_up (fun _ => none) (0 : Int32).toNatClampNeg (some qi0)) (1 : Int32).toNatClampNeg (some qi1))))))))]) ++ (wd LMo bi0 cy muMo ++ wd LMo bi1 cy muMo)))) := hD
  refine n_put O hin fn_X9_init_65 (fun r h => by obtain rfl := Option.some.inj h; rfl) rfl rfl (Nat.le_of_ble_eq_true rfl) hP hD hS dX9_init_132 (fun H locs hP hD hS => ?_)
  have hP : va_P D vwCl (((q, .inr (9, [.ref q1, .ref q2, .ref q3, .ref q4, .ref q5, .ref q6, .ref q7, .ref q8, .ref ri, .null, .null, .int 0, .long 0, .null, .null, .null])) :: ((R8 ++ [(ri, .inl (cy 2, (2, .inr (.inr (.inr (.inr (va_up (va_up (fun _ => none) (0 : Int32).toNatClampNeg (some qi0)) (1 : Int32).toNatClampNeg (some qi1))))))))]) ++ (wd LMo bi0 cy muMo ++ wd LMo bi1 cy muMo)))) H := hP
  have hD : va_D A (((q, .inr (9, [.ref q1, .ref q2, .ref q3, .ref q4, .ref q5, .ref q6, .ref q7, .ref q8, .ref ri, .null, .null, .int 0, .long 0, .null, .null, .null])) :: ((R8 ++ [(ri, .inl (cy 2, (2, .inr (.inr (.inr (.inr (va_up (va_up (fun _ => none) (0 : Int32).toNatClampNeg (some qi0)) (1 : Int32).toNatClampNeg (some qi1))))))))]) ++ (wd LMo bi0 cy muMo ++ wd LMo bi1 cy muMo)))) := hD
  obtain ⟨R9, eR9⟩ : ∃ z : va_W, z = ((R8 ++ [(ri, .inl (cy 2, (2, .inr (.inr (.inr (.inr (va_up (va_up (fun _ => none) (0 : Int32).toNatClampNeg (some qi0)) (1 : Int32).toNatClampNeg (some qi1))))))))]) ++ (wd LMo bi0 cy muMo ++ wd LMo bi1 cy muMo)) := ⟨_, rfl⟩
  have hP : va_P D vwCl (((q, .inr (9, [.ref q1, .ref q2, .ref q3, .ref q4, .ref q5, .ref q6, .ref q7, .ref q8, .ref ri, .null, .null, .int 0, .long 0, .null, .null, .null])) :: R9)) H := by rw [eR9]; exact hP
  have hD : va_D A (((q, .inr (9, [.ref q1, .ref q2, .ref q3, .ref q4, .ref q5, .ref q6, .ref q7, .ref q8, .ref ri, .null, .null, .int 0, .long 0, .null, .null, .null])) :: R9)) := by rw [eR9]; exact hD
  refine lv_aload_n hx hb dX9_init_135 rfl h0 ?_
  refine lv_iconst (v := 2) hx hb dX9_init_136 (by decide) ?_
  refine n_newa O 1 (n := 2) (ty := .boolean) rfl rfl rfl (by decide +kernel) (by decide) (by decide) (by decide) (Nat.le_of_ble_eq_true rfl) (Nat.le_of_ble_eq_true rfl) hP hD hS dX9_init_137 (fun ak H hP hD hS => ?_)
  have hP : va_P D vwCl (((q, .inr (9, [.ref q1, .ref q2, .ref q3, .ref q4, .ref q5, .ref q6, .ref q7, .ref q8, .ref ri, .null, .null, .int 0, .long 0, .null, .null, .null])) :: (R9 ++ [(ak, .inl (cy 1, (2, .inl (fun _ => 0))))]))) H := hP
  have hD : va_D A (((q, .inr (9, [.ref q1, .ref q2, .ref q3, .ref q4, .ref q5, .ref q6, .ref q7, .ref q8, .ref ri, .null, .null, .int 0, .long 0, .null, .null, .null])) :: (R9 ++ [(ak, .inl (cy 1, (2, .inl (fun _ => 0))))]))) := hD
  refine n_put O hin fn_X9_init_69 (fun r h => by obtain rfl := Option.some.inj h; rfl) rfl rfl (Nat.le_of_ble_eq_true rfl) hP hD hS dX9_init_139 (fun H locs hP hD hS => ?_)
  have hP : va_P D vwCl (((q, .inr (9, [.ref q1, .ref q2, .ref q3, .ref q4, .ref q5, .ref q6, .ref q7, .ref q8, .ref ri, .ref ak, .null, .int 0, .long 0, .null, .null, .null])) :: (R9 ++ [(ak, .inl (cy 1, (2, .inl (fun _ => 0))))]))) H := hP
  have hD : va_D A (((q, .inr (9, [.ref q1, .ref q2, .ref q3, .ref q4, .ref q5, .ref q6, .ref q7, .ref q8, .ref ri, .ref ak, .null, .int 0, .long 0, .null, .null, .null])) :: (R9 ++ [(ak, .inl (cy 1, (2, .inl (fun _ => 0))))]))) := hD
  obtain ⟨R10, eR10⟩ : ∃ z : va_W, z = (R9 ++ [(ak, .inl (cy 1, (2, .inl (fun _ => 0))))]) := ⟨_, rfl⟩
  have hP : va_P D vwCl (((q, .inr (9, [.ref q1, .ref q2, .ref q3, .ref q4, .ref q5, .ref q6, .ref q7, .ref q8, .ref ri, .ref ak, .null, .int 0, .long 0, .null, .null, .null])) :: R10)) H := by rw [eR10]; exact hP
  have hD : va_D A (((q, .inr (9, [.ref q1, .ref q2, .ref q3, .ref q4, .ref q5, .ref q6, .ref q7, .ref q8, .ref ri, .ref ak, .null, .int 0, .long 0, .null, .null, .null])) :: R10)) := by rw [eR10]; exact hD
  refine lv_aload_n hx hb dX9_init_142 rfl h0 ?_
  refine lv_bipush (v := 8) hx hb dX9_init_143 (by decide) ?_
  refine n_newa O 0 (n := 8) (ty := .int) rfl rfl rfl (by decide +kernel) (by decide) (by decide) (by decide) (Nat.le_of_ble_eq_true rfl) (Nat.le_of_ble_eq_true rfl) hP hD hS dX9_init_145 (fun aw H hP hD hS => ?_)
  have hP : va_P D vwCl (((q, .inr (9, [.ref q1, .ref q2, .ref q3, .ref q4, .ref q5, .ref q6, .ref q7, .ref q8, .ref ri, .ref ak, .null, .int 0, .long 0, .null, .null, .null])) :: (R10 ++ [(aw, .inl (cy 0, (8, .inl (fun _ => 0))))]))) H := hP
  have hD : va_D A (((q, .inr (9, [.ref q1, .ref q2, .ref q3, .ref q4, .ref q5, .ref q6, .ref q7, .ref q8, .ref ri, .ref ak, .null, .int 0, .long 0, .null, .null, .null])) :: (R10 ++ [(aw, .inl (cy 0, (8, .inl (fun _ => 0))))]))) := hD
  refine n_put O hin fn_X9_init_73 (fun r h => by obtain rfl := Option.some.inj h; rfl) rfl rfl (Nat.le_of_ble_eq_true rfl) hP hD hS dX9_init_147 (fun H locs hP hD hS => ?_)
  have hP : va_P D vwCl (((q, .inr (9, [.ref q1, .ref q2, .ref q3, .ref q4, .ref q5, .ref q6, .ref q7, .ref q8, .ref ri, .ref ak, .ref aw, .int 0, .long 0, .null, .null, .null])) :: (R10 ++ [(aw, .inl (cy 0, (8, .inl (fun _ => 0))))]))) H := hP
  have hD : va_D A (((q, .inr (9, [.ref q1, .ref q2, .ref q3, .ref q4, .ref q5, .ref q6, .ref q7, .ref q8, .ref ri, .ref ak, .ref aw, .int 0, .long 0, .null, .null, .null])) :: (R10 ++ [(aw, .inl (cy 0, (8, .inl (fun _ => 0))))]))) := hD
  obtain ⟨R11, eR11⟩ : ∃ z : va_W, z = (R10 ++ [(aw, .inl (cy 0, (8, .inl (fun _ => 0))))]) := ⟨_, rfl⟩
  have hP : va_P D vwCl (((q, .inr (9, [.ref q1, .ref q2, .ref q3, .ref q4, .ref q5, .ref q6, .ref q7, .ref q8, .ref ri, .ref ak, .ref aw, .int 0, .long 0, .null, .null, .null])) :: R11)) H := by rw [eR11]; exact hP
  have hD : va_D A (((q, .inr (9, [.ref q1, .ref q2, .ref q3, .ref q4, .ref q5, .ref q6, .ref q7, .ref q8, .ref ri, .ref ak, .ref aw, .int 0, .long 0, .null, .null, .null])) :: R11)) := by rw [eR11]; exact hD
  refine lv_aload_n hx hb dX9_init_150 rfl h0 ?_
  refine n_new O 1 (N := 6) (C := RX1) (T := TX1) (ty := tyX1) [.null, .null, .null, .null, .int 0, .null] rfl inn_X9_init_X1 tyX1_ok (by decide +kernel) (by decide +kernel) (by decide +kernel) (fun j hj => by rcases (show j = 0 ∨ j = 1 ∨ j = 2 ∨ j = 3 ∨ j = 4 ∨ j = 5 by omega) with rfl | rfl | rfl | rfl | rfl | rfl <;> rfl) (Nat.le_of_ble_eq_true rfl) (Nat.le_of_ble_eq_true rfl) hP hD hS dX9_init_151 (fun q9 H hP hD hS => ?_)
  refine lv_dup hx hb dX9_init_154 rfl ?_
  refine n_call (mc := 4) (ms := 2720) O (va_runIN (As := []) (rest := [.ref q9, .ref q]) ⟨hx, hb, hml, hown, hts⟩ (c_Co_init l D cy q9 H.size) ⟨va_cnB 0 hts gX9_init_X1_init_n78 rfl rfl rfl (hK.1.2 _ (List.mem_of_getElem? (l := nestL) (i := 1) rfl)) (hts (.initialized RX1) (by decide +kernel)) ⟨by decide +kernel, by decide +kernel, by decide +kernel⟩ ⟨(Nat.le_of_ble_eq_true rfl), (Nat.le_of_ble_eq_true rfl)⟩, rfl, hts (.instanceMethod yX1_init) (by decide +kernel)⟩ ⟨Pn_blind, pn_pre hP hD hS hK hA hSX⟩ rfl rfl hl.1 rfl (lv_room (Nat.le_of_ble_eq_true rfl)) dX9_init_155 ⟨(Nat.le_of_ble_eq_true rfl), (Nat.le_of_ble_eq_true rfl)⟩) hP hD hS (fun b9 H locs hbb9 hP hD hS => ?_)
  have hP : va_P D vwCl (((q, .inr (9, [.ref q1, .ref q2, .ref q3, .ref q4, .ref q5, .ref q6, .ref q7, .ref q8, .ref ri, .ref ak, .ref aw, .int 0, .long 0, .null, .null, .null])) :: (R11 ++ wd LCo b9 cy zm))) H := hP
  have hD : va_D A (((q, .inr (9, [.ref q1, .ref q2, .ref q3, .ref q4, .ref q5, .ref q6, .ref q7, .ref q8, .ref ri, .ref ak, .ref aw, .int 0, .long 0, .null, .null, .null])) :: (R11 ++ wd LCo b9 cy zm))) := hD
  refine n_put O hin fn_X9_init_79 (fun r h => by obtain rfl := Option.some.inj h; rfl) rfl rfl (Nat.le_of_ble_eq_true rfl) hP hD hS dX9_init_158 (fun H locs hP hD hS => ?_)
  have hP : va_P D vwCl (((q, .inr (9, [.ref q1, .ref q2, .ref q3, .ref q4, .ref q5, .ref q6, .ref q7, .ref q8, .ref ri, .ref ak, .ref aw, .int 0, .long 0, .ref q9, .null, .null])) :: (R11 ++ wd LCo b9 cy zm))) H := hP
  have hD : va_D A (((q, .inr (9, [.ref q1, .ref q2, .ref q3, .ref q4, .ref q5, .ref q6, .ref q7, .ref q8, .ref ri, .ref ak, .ref aw, .int 0, .long 0, .ref q9, .null, .null])) :: (R11 ++ wd LCo b9 cy zm))) := hD
  obtain ⟨R12, eR12⟩ : ∃ z : va_W, z = (R11 ++ wd LCo b9 cy zm) := ⟨_, rfl⟩
  have hP : va_P D vwCl (((q, .inr (9, [.ref q1, .ref q2, .ref q3, .ref q4, .ref q5, .ref q6, .ref q7, .ref q8, .ref ri, .ref ak, .ref aw, .int 0, .long 0, .ref q9, .null, .null])) :: R12)) H := by rw [eR12]; exact hP
  have hD : va_D A (((q, .inr (9, [.ref q1, .ref q2, .ref q3, .ref q4, .ref q5, .ref q6, .ref q7, .ref q8, .ref ri, .ref ak, .ref aw, .int 0, .long 0, .ref q9, .null, .null])) :: R12)) := by rw [eR12]; exact hD
  refine lv_aload_n hx hb dX9_init_161 rfl h0 ?_
  refine n_new O 8 (N := 8) (C := RX8) (T := TX8) (ty := tyX8) [.null, .null, .null, .null, .null, .null, .int 0, .null] rfl inn_X9_init_X8 tyX8_ok (by decide +kernel) (by decide +kernel) (by decide +kernel) (fun j hj => by rcases (show j = 0 ∨ j = 1 ∨ j = 2 ∨ j = 3 ∨ j = 4 ∨ j = 5 ∨ j = 6 ∨ j = 7 by omega) with rfl | rfl | rfl | rfl | rfl | rfl | rfl | rfl <;> rfl) (Nat.le_of_ble_eq_true rfl) (Nat.le_of_ble_eq_true rfl) hP hD hS dX9_init_162 (fun q10 H hP hD hS => ?_)
  refine lv_dup hx hb dX9_init_165 rfl ?_
  refine n_call (mc := 6) (ms := 2040) O (va_runIN (As := []) (rest := [.ref q10, .ref q]) ⟨hx, hb, hml, hown, hts⟩ (c_Wa_init l D cy q10 H.size) ⟨va_cnB 0 hts gX9_init_X8_init_n85 rfl rfl rfl (hK.1.2 _ (List.mem_of_getElem? (l := nestL) (i := 2) rfl)) (hts (.initialized RX8) (by decide +kernel)) ⟨by decide +kernel, by decide +kernel, by decide +kernel⟩ ⟨(Nat.le_of_ble_eq_true rfl), (Nat.le_of_ble_eq_true rfl)⟩, rfl, hts (.instanceMethod yX8_init) (by decide +kernel)⟩ ⟨Pn_blind, pn_pre hP hD hS hK hA hSX⟩ rfl rfl hl.1 rfl (lv_room (Nat.le_of_ble_eq_true rfl)) dX9_init_166 ⟨(Nat.le_of_ble_eq_true rfl), (Nat.le_of_ble_eq_true rfl)⟩) hP hD hS (fun b10 H locs hbb10 hP hD hS => ?_)
  have hP : va_P D vwCl (((q, .inr (9, [.ref q1, .ref q2, .ref q3, .ref q4, .ref q5, .ref q6, .ref q7, .ref q8, .ref ri, .ref ak, .ref aw, .int 0, .long 0, .ref q9, .null, .null])) :: (R12 ++ wd LWa b10 cy zm))) H := hP
  have hD : va_D A (((q, .inr (9, [.ref q1, .ref q2, .ref q3, .ref q4, .ref q5, .ref q6, .ref q7, .ref q8, .ref ri, .ref ak, .ref aw, .int 0, .long 0, .ref q9, .null, .null])) :: (R12 ++ wd LWa b10 cy zm))) := hD
  refine n_put O hin fn_X9_init_86 (fun r h => by obtain rfl := Option.some.inj h; rfl) rfl rfl (Nat.le_of_ble_eq_true rfl) hP hD hS dX9_init_169 (fun H locs hP hD hS => ?_)
  have hP : va_P D vwCl (((q, .inr (9, [.ref q1, .ref q2, .ref q3, .ref q4, .ref q5, .ref q6, .ref q7, .ref q8, .ref ri, .ref ak, .ref aw, .int 0, .long 0, .ref q9, .ref q10, .null])) :: (R12 ++ wd LWa b10 cy zm))) H := hP
  have hD : va_D A (((q, .inr (9, [.ref q1, .ref q2, .ref q3, .ref q4, .ref q5, .ref q6, .ref q7, .ref q8, .ref ri, .ref ak, .ref aw, .int 0, .long 0, .ref q9, .ref q10, .null])) :: (R12 ++ wd LWa b10 cy zm))) := hD
  obtain ⟨R13, eR13⟩ : ∃ z : va_W, z = (R12 ++ wd LWa b10 cy zm) := ⟨_, rfl⟩
  have hP : va_P D vwCl (((q, .inr (9, [.ref q1, .ref q2, .ref q3, .ref q4, .ref q5, .ref q6, .ref q7, .ref q8, .ref ri, .ref ak, .ref aw, .int 0, .long 0, .ref q9, .ref q10, .null])) :: R13)) H := by rw [eR13]; exact hP
  have hD : va_D A (((q, .inr (9, [.ref q1, .ref q2, .ref q3, .ref q4, .ref q5, .ref q6, .ref q7, .ref q8, .ref ri, .ref ak, .ref aw, .int 0, .long 0, .ref q9, .ref q10, .null])) :: R13)) := by rw [eR13]; exact hD
  refine lv_aload_n hx hb dX9_init_172 rfl h0 ?_
  refine n_new O 0 (N := 6) (C := RX0) (T := TX0) (ty := tyX0) [.null, .null, .int 0, .int 0, .null, .int 0] rfl inn_X9_init_X0 tyX0_ok (by decide +kernel) (by decide +kernel) (by decide +kernel) (fun j hj => by rcases (show j = 0 ∨ j = 1 ∨ j = 2 ∨ j = 3 ∨ j = 4 ∨ j = 5 by omega) with rfl | rfl | rfl | rfl | rfl | rfl <;> rfl) (Nat.le_of_ble_eq_true rfl) (Nat.le_of_ble_eq_true rfl) hP hD hS dX9_init_173 (fun q11 H hP hD hS => ?_)
  refine lv_dup hx hb dX9_init_176 rfl ?_
  refine n_call (mc := 2) (ms := 680) O (va_runIN (As := []) (rest := [.ref q11, .ref q]) ⟨hx, hb, hml, hown, hts⟩ (c_Ch_init l D cy q11 H.size) ⟨va_cnB 0 hts gX9_init_X0_init_n92 rfl rfl rfl (hK.1.2 _ (List.mem_of_getElem? (l := nestL) (i := 3) rfl)) (hts (.initialized RX0) (by decide +kernel)) ⟨by decide +kernel, by decide +kernel, by decide +kernel⟩ ⟨(Nat.le_of_ble_eq_true rfl), (Nat.le_of_ble_eq_true rfl)⟩, rfl, hts (.instanceMethod yX0_init) (by decide +kernel)⟩ ⟨Pn_blind, pn_pre hP hD hS hK hA hSX⟩ rfl rfl hl.1 rfl (lv_room (Nat.le_of_ble_eq_true rfl)) dX9_init_177 ⟨(Nat.le_of_ble_eq_true rfl), (Nat.le_of_ble_eq_true rfl)⟩) hP hD hS (fun b11 H locs hbb11 hP hD hS => ?_)
  have hP : va_P D vwCl (((q, .inr (9, [.ref q1, .ref q2, .ref q3, .ref q4, .ref q5, .ref q6, .ref q7, .ref q8, .ref ri, .ref ak, .ref aw, .int 0, .long 0, .ref q9, .ref q10, .null])) :: (R13 ++ wd LCh b11 cy zm))) H := hP
  have hD : va_D A (((q, .inr (9, [.ref q1, .ref q2, .ref q3, .ref q4, .ref q5, .ref q6, .ref q7, .ref q8, .ref ri, .ref ak, .ref aw, .int 0, .long 0, .ref q9, .ref q10, .null])) :: (R13 ++ wd LCh b11 cy zm))) := hD
  refine n_put O hin fn_X9_init_93 (fun r h => by obtain rfl := Option.some.inj h; rfl) rfl rfl (Nat.le_of_ble_eq_true rfl) hP hD hS dX9_init_180 (fun H locs hP hD hS => ?_)
  have hP : va_P D vwCl (((q, .inr (9, [.ref q1, .ref q2, .ref q3, .ref q4, .ref q5, .ref q6, .ref q7, .ref q8, .ref ri, .ref ak, .ref aw, .int 0, .long 0, .ref q9, .ref q10, .ref q11])) :: (R13 ++ wd LCh b11 cy zm))) H := hP
  have hD : va_D A (((q, .inr (9, [.ref q1, .ref q2, .ref q3, .ref q4, .ref q5, .ref q6, .ref q7, .ref q8, .ref ri, .ref ak, .ref aw, .int 0, .long 0, .ref q9, .ref q10, .ref q11])) :: (R13 ++ wd LCh b11 cy zm))) := hD
  obtain ⟨R14, eR14⟩ : ∃ z : va_W, z = (R13 ++ wd LCh b11 cy zm) := ⟨_, rfl⟩
  have hP : va_P D vwCl (((q, .inr (9, [.ref q1, .ref q2, .ref q3, .ref q4, .ref q5, .ref q6, .ref q7, .ref q8, .ref ri, .ref ak, .ref aw, .int 0, .long 0, .ref q9, .ref q10, .ref q11])) :: R14)) H := by rw [eR14]; exact hP
  have hD : va_D A (((q, .inr (9, [.ref q1, .ref q2, .ref q3, .ref q4, .ref q5, .ref q6, .ref q7, .ref q8, .ref ri, .ref ak, .ref aw, .int 0, .long 0, .ref q9, .ref q10, .ref q11])) :: R14)) := by rw [eR14]; exact hD
  subst eR14
  subst eR13
  subst eR12
  subst eR11
  subst eR10
  subst eR9
  subst eR8
  subst eR7
  subst eR6
  subst eR5
  subst eR4
  subst eR3
  subst eR2
  subst eR1
  subst hbb1
  subst hbb2
  subst hbb3
  subst hbb4
  subst hbb5
  subst hbb6
  subst hbb7
  subst hbb9
  subst hbb10
  subst hbb11
  subst hbbi0
  subst hbbi1
  obtain ⟨hP9, hD9⟩ := T_world heb2 heb6 heb7 hP hD
  refine W.widen (k := 87) (n := 6609) (Nat.le_of_ble_eq_true rfl) (Nat.le_of_ble_eq_true rfl) ?_
  exact W.vret hx hb hr (fun t ht hW => ⟨⟨_, rfl, rfl, by rw [ht]; exact hP9, hD9⟩, hS.F ht⟩) hS.2.2 dX9_init_183 hlocks
