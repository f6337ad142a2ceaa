/-! the history begins: ten moments -/
def mos (cy : Nat → ClassId) (bs : Nat → Nat → Nat) : Nat → va_W
  | 0 => []
  | k + 1 => mos cy bs k ++ wd LMo (bs k) cy muMo
theorem mos_congr {cy : Nat → ClassId} {bs bs' : Nat → Nat → Nat} : ∀ k, (∀ j, j < k → bs' j = bs j) → mos cy bs' k = mos cy bs k
  | 0, _ => rfl
  | k + 1, h => by
    show mos cy bs' k ++ wd LMo (bs' k) cy muMo = mos cy bs k ++ wd LMo (bs k) cy muMo
    rw [mos_congr k (fun j hj => h j (by omega)), h k (by omega)]
def hib (cy : Nat → ClassId) (q : Nat) (u : Nat × (Nat → Nat → Nat)) : va_W := ((q, .inr (3, [.ref u.1, .int 0, .int 0])) :: [(u.1, .inl (cy 2, (10, .inr (.inr (.inr (.inr (fun i => if i < 10 then some (u.2 i 0) else none)))))))]) ++ mos cy u.2 10
set_option maxRecDepth 20000 in
theorem inn_X3_init_X3 : ∀ w ∈ wsX30, w ∈ wsX3_init := by decide +kernel
set_option maxRecDepth 20000 in
theorem inn_X3_init_X4 : ∀ w ∈ wsX40, w ∈ wsX3_init := by decide +kernel
theorem fn_X3_init_11 : Fl RX3 wsX3_init 11 3 0 true (.array (.object "TippedBarrow$Moment")) := ⟨_, _, _, tyX3, rfl, inn_X3_init_X3, by decide, by decide +kernel, tyX3_ok, nmX3, rfl, tyX3_ok 0 (by decide)⟩
abbrev rm_X3_init : Room := { frames := 2, cells := 41, slots := 310, locals := 43 }
set_option maxHeartbeats 4000000 in
set_option maxRecDepth 100000 in
theorem hi_loop {p : Program} {l : Launch} {e : Env} {s : State} {m : MethodId} {args : Array Value} {below : List Frame} {meth : Method} {c : Code} {D : va_G} {cy : Nat → ClassId} {A A1 : Nat → Prop} {q r : Nat} (O : OkC p s m args meth c D cy A cX3_init RX3 wsX3_init) (hml : c.maxLocals = 2) (hr : meth.sig.returnType = none) (hlocks : meth.locks = false) (hAA : A1 = A) :
    ∀ (n k : Nat) (bs : Nat → Nat → Nat) (f : Nat → Option Nat) (H : Heap) (locs : List Loc) (ls : Array Slot), k + n = 10 → (∀ i, i < k → f i = some (bs i 0)) → (∀ i, k ≤ i → f i = none) → va_P D vwCl (([(q, .inr (3, [.ref r, .int 0, .int 0]))] ++ [(r, .inl (cy 2, (10, .inr (.inr (.inr (.inr f))))))]) ++ mos cy bs k) H → va_D A (([(q, .inr (3, [.ref r, .int 0, .int 0]))] ++ [(r, .inl (cy 2, (10, .inr (.inr (.inr (.inr f))))))]) ++ mos cy bs k) → va_S A s.heap H locs → lv_has ls 2 [(1, .int (nI k)), (0, .ref q)] → W p l e rm_X3_init s m args below meth c H locs (1 + 4 * k) (10 + 30 * k) (MQ below (va_Qv (fun _ : Nat × (Nat → Nat → Nat) => True) (fun u t => va_P D vwCl (hib cy q u) t.heap ∧ va_D A (hib cy q u)) A1) args s 41 310 A1) (F0 m 15 ls []) := by
  have O' := O
  obtain ⟨hx, hb, hown, hts, hK, hA, hSX⟩ := O'
  intro n
  induction n with
  | zero =>
    intro k bs f H locs ls hk hf1 hf2 hP hD hS hl
    have : k = 10 := by omega
    subst this
    subst hAA
    have ef : f = fun i => if i < 10 then some (bs i 0) else none := by
      funext i
      by_cases h : i < 10
      · rw [if_pos h]; exact hf1 i h
      · rw [if_neg h]; exact hf2 i (by omega)
    subst ef
    refine lv_iload_n hx hb dX3_init_15 rfl (lv_at hl 0 rfl) ?_
    refine lv_bipush (v := 10) hx hb dX3_init_16 (by decide) ?_
    refine lv_icmp_ge (tgt := 40) hx hb dX3_init_18 (by decide) (fun _ => ?_) (fun h => absurd (by decide) h)
    exact W.vret hx hb hr (fun t ht hW => ⟨⟨(r, bs), rfl, trivial, by rw [ht]; exact hP, hD⟩, hS.F ht⟩) hS.2.2 dX3_init_40 hlocks
  | succ n ih =>
    intro k bs f H locs ls hk hf1 hf2 hP hD hS hl
    have kI : (nI k).toNatClampNeg = k := by rw [nI_iz, iz_nat (by omega) (by omega)]; rfl
    refine lv_iload_n hx hb dX3_init_15 rfl (lv_at hl 0 rfl) ?_
    refine lv_bipush (v := 10) hx hb dX3_init_16 (by decide) ?_
    refine lv_icmp_ge (tgt := 40) hx hb dX3_init_18 (by decide) (fun h => absurd h (by rw [nI_iz, i10, iz_le (by omega) (by omega) (by omega) (by omega)]; omega)) (fun _ => ?_)
    refine lv_aload_n hx hb dX3_init_21 rfl (lv_at hl 1 rfl) ?_
    refine n_get O 0 fn_X3_init_11 rfl rfl hP dX3_init_22 ?_
    refine lv_iload_n hx hb dX3_init_25 rfl (lv_at hl 0 rfl) ?_
    refine n_new O 4 (N := 6) (C := RX4) (T := TX4) (ty := tyX4) [.null, .null, .null, .int 0, .int 0, .int 0] rfl inn_X3_init_X4 tyX4_ok (by decide +kernel) (by decide +kernel) (by decide +kernel) (fun j hj => by rcases (show j = 0 ∨ j = 1 ∨ j = 2 ∨ j = 3 ∨ j = 4 ∨ j = 5 by omega) with rfl | rfl | rfl | rfl | rfl | rfl <;> rfl) (by show 1 + 4 * k + 1 ≤ 41; omega) (by show 10 + 30 * k + 6 ≤ 310; omega) hP hD hS dX3_init_26 (fun q2 H hP hD hS => ?_)
    refine lv_dup hx hb dX3_init_29 rfl ?_
    refine n_call (mc := 3) (ms := 24) O (va_runI (As := []) (rest := [.ref q2, .int (nI k), .ref r]) ⟨hx, hb, hml, hown, hts⟩ (c_Mo_init l D cy q2 H.size) (cwI 0 hts gX3_init_X4_init rfl rfl rfl (hts (.initialized RX4) (by decide +kernel)) (hts (.methodLink RX3 15 yX4_init) (by decide +kernel)) (hts (.instanceMethod yX4_init) (by decide +kernel)) rfl (by decide +kernel) ⟨Nat.le_of_ble_eq_true rfl, Nat.le_of_ble_eq_true rfl⟩) ⟨Pn_blind, pn_pre hP hD hS hK hA hSX⟩ rfl rfl hl.1 rfl (lv_room (Nat.le_of_ble_eq_true rfl)) dX3_init_30 ⟨by show 1 + 4 * k + 1 + 3 ≤ 41; omega, by show 10 + 30 * k + 6 + 24 ≤ 310; omega⟩) hP hD hS (fun b H locs hb0 hP hD hS => ?_)
    rw [List.append_assoc] at hP hD
    have e1 : (mos cy bs k ++ wd LMo b cy muMo)[(mos cy bs k).length]? = some (q2, en b cy muMo 0 (.inl (4, [1 + 3, 2 + 3, 3 + 3, 0, 0, 0]))) := by
      rw [List.getElem?_append_right (Nat.le_refl _), Nat.sub_self, ← hb0]
      exact wd_get rfl
    refine n_ast O (X := [(q, .inr (3, [.ref r, .int 0, .int 0]))]) e1 (i := nI k) (by
      rintro (h | h)
      · rw [nI_iz, i0, iz_lt (by omega) (by omega) (by omega) (by omega)] at h; omega
      · rw [kI] at h; omega) hP hD hS dX3_init_33 (fun H locs hP hD hS => ?_)
    have e2 : mos cy bs k ++ wd LMo b cy muMo = mos cy (fun j => if j = k then b else bs j) (k + 1) := by
      show _ = mos cy (fun j => if j = k then b else bs j) k ++ wd LMo (if k = k then b else bs k) cy muMo
      rw [if_pos rfl, mos_congr (bs := bs) k (fun j hj => if_neg (by omega))]
    rw [e2, kI] at hP hD
    refine lv_iinc (k := 0) (lv' := [(1, .int (nI (k + 1))), (0, .ref q)]) hx hb dX3_init_34 hl rfl (by rw [nI_iz, nI_iz]; show iz (k : Int) + iz 1 = iz ((k + 1 : Nat) : Int); rw [iz_add]; rfl) (by decide) rfl (fun ls hl => ?_)
    refine lv_goto (tgt := 15) hx hb dX3_init_37 (by decide) ?_
    refine W.widen (k := 1 + 4 * (k + 1)) (n := 10 + 30 * (k + 1)) (by omega) (by omega) ?_
    refine ih (k + 1) _ _ H _ ls (by omega) (fun i hi => ?_) (fun i hi => ?_) hP hD hS hl
    · unfold va_up
      by_cases h : i = k
      · rw [if_pos h, h, if_pos rfl, hb0]
      · rw [if_neg h, if_neg h]; exact hf1 i (by omega)
    · unfold va_up
      rw [if_neg (by omega)]
      exact hf2 i (by omega)
set_option maxHeartbeats 4000000 in
set_option maxRecDepth 100000 in
theorem c_Hi_init (l : Launch) (D : va_G) (cy : Nat → ClassId) (q sz : Nat) : Met l yX3_init wsX3_init rm_X3_init (Pn D cy [.ref q] sz q (.inr (3, [.null, .int 0, .int 0]))) (va_Qv (fun _ : Nat × (Nat → Nat → Nat) => True) (fun u t => va_P D vwCl (hib cy q u) t.heap ∧ va_D (va_A [(q, (.inr (3, [.null, .int 0, .int 0])))] sz) (hib cy q u)) (va_A [(q, (.inr (3, [.null, .int 0, .int 0])))] sz)) 41 310 (va_A [(q, (.inr (3, [.null, .int 0, .int 0])))] sz) := by
  refine Met.ofW (cc := cX3_init) (maxL := 2) (ret := none) (by decide) rfl ?_
  intro p e s m args below meth c s₁ B hml hv
  obtain ⟨rfl, hsz, hP, hK, hSX⟩ := hv
  have hx := B.exec
  have hb := B.bytes
  have hr := B.returns
  have hts := atoms_spec (ws := wsX3_init) B.pre
  have hown : s.vm.findClass RX3 = some m.cls := findClass_of_methodNamed B.named
  have hlocks := B.notSynchronized
  have hin : meth.name = "<init>" := (name_of_methodNamed B.named B.method).1
  subst hsz
  have hD : va_D (va_A [(q, (.inr (3, [.null, .int 0, .int 0])))] s.heap.size) [(q, (.inr (3, [.null, .int 0, .int 0])))] := nD1
  generalize hAe : va_A [(q, (.inr (3, [.null, .int 0, .int 0])))] s.heap.size = A at hSX hD ⊢
  have hA : ∀ x : Nat, s.heap.size ≤ x → A x := fun x h => by rw [← hAe]; exact Or.inr h
  have hS : va_S A s.heap s.heap [] := va_S.rf
  have O : OkC p s m _ meth c D cy A cX3_init RX3 wsX3_init := ⟨hx, hb, hown, hts, hK, hA, hSX⟩
  have hl := lv_entry ([.ref q]) (n := 2) (Nat.le_of_ble_eq_true rfl)
  rw [lg_entry_eq]
  generalize (lg_sl ([.ref q]) ++ List.replicate (2 - (lg_sl ([.ref q])).length) Slot.unset).toArray = ls at hl ⊢
  have hl : lv_has ls 2 [(0, .ref q)] := hl
  refine lv_aload_n hx hb dX3_init_0 rfl (lv_at hl 0 rfl) ?_
  refine W.objInit hx hb hown (hts (.methodLink RX3 1 objectInit) (by decide +kernel)) (hts (.instanceMethod objectInit) (by decide +kernel)) (hts _ (List.mem_of_getElem? (l := wsX3_init) (i := 3) rfl)) rfl (by rw [hml]; exact hl.1) rfl dX3_init_1 (Nat.le_of_ble_eq_true rfl) (Nat.le_of_ble_eq_true rfl) ?_
  refine W.eq (g2 := F0 m 4 ls []) rfl ?_
  refine lv_aload_n hx hb dX3_init_4 rfl (lv_at hl 0 rfl) ?_
  refine lv_bipush (v := 10) hx hb dX3_init_5 (by decide) ?_
  refine n_newq O (n := 10) (by decide +kernel) (by decide) (by decide) (by decide) (Nat.le_of_ble_eq_true rfl) (Nat.le_of_ble_eq_true rfl) hP hD hS dX3_init_7 (fun r H hP hD hS => ?_)
  refine n_put O hin fn_X3_init_11 (fun r h => by obtain rfl := Option.some.inj h; rfl) rfl rfl (Nat.le_of_ble_eq_true rfl) hP hD hS dX3_init_10 (fun H locs hP hD hS => ?_)
  refine lv_iconst (v := 0) hx hb dX3_init_13 (by decide) ?_
  refine lv_istore_n (lv' := [(1, .int 0), (0, .ref q)]) hx hb dX3_init_14 rfl hl (by decide) rfl (fun ls hl => ?_)
  refine W.widen (k := 1 + 4 * 0) (n := 10 + 30 * 0) (by decide) (by decide) ?_
  have hP : va_P D vwCl (([(q, .inr (3, [.ref r, .int 0, .int 0]))] ++ [(r, .inl (cy 2, (10, .inr (.inr (.inr (.inr (fun _ => none)))))))]) ++ mos cy (fun _ _ => 0) 0) H := hP
  have hD : va_D A (([(q, .inr (3, [.ref r, .int 0, .int 0]))] ++ [(r, .inl (cy 2, (10, .inr (.inr (.inr (.inr (fun _ => none)))))))]) ++ mos cy (fun _ _ => 0) 0) := hD
  exact hi_loop O hml hr hlocks rfl 10 0 (fun _ _ => 0) (fun _ => none) H _ ls rfl (fun i hi => absurd hi (Nat.not_lt_zero i)) (fun _ _ => rfl) hP hD hS hl
