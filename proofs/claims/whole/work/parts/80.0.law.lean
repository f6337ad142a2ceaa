/-! THE CLAIM OUT OF ONE WALK OF THE LAW'S BODY. Your part is whole_start (and what it stands on); all else here is the same for every law, but numbers. -/
def R_law : String := "TippedBarrowLaw"
def lw_P (b : Addr) (xs : List Int32) (args : Array Value) (s : State) : Prop := args = #[.ref b] ∧ s.IntsAt b xs ∧ xs.length ≤ 2048 ∧ (Jvm.Cond.and given_1 narrow_1).before args s = true
def lw_Q (_ : Array Value) (s : State) (o : Outcome) (t : State) : Prop := o = .returned (some (.int 1)) ∧ Framed s o t [] 600000 7302250
def lw_Z (below : List Frame) (a : Array Value) (s : State) : State → Prop := fun t => ∃ o, t.status = .running ∧ Ended t below o ∧ lw_Q a s o t
/-- the law's own end, with 1 on the stack, nothing written that was there before, its room as the claim has it -/
theorem lw_ret {p : Program} {l : Launch} {e : Env} {s : State} {m : MethodId} {below : List Frame} {meth : Method} {c : Code} {b : Nat} (hx : p.tables.exec = Jvm.exec) (hb : c.code = code) (hr : meth.sig.returnType = ret) (hlocks : meth.locks = false) {pc : Nat} {H : Heap} {ls : Array Slot} (hdg : decode code pc = .ok (.ireturn, 1)) : W p l e room_1 s m #[Value.ref b] below meth c H [] 600000 7302250 (lw_Z below #[Value.ref b] s) (F0 m pc ls [.int 1]) := by
  intro T hT X
  obtain ⟨fs, hret, hrun, hended, hW, hframe⟩ := X.leave (v := some (.int 1)) (hlocks := hlocks) (fun h => by rw [hr] at h; cases h)
  have hmeth' : T.vm.method? m = some meth := X.method'
  refine ⟨T.setFrames fs, ?_, .returned (some (.int 1)), hrun, hended, rfl, ⟨_, rfl⟩, hW, hframe⟩
  jvm_step X.here [X.here.top, hx, hb, hdg, hmeth', hr, ret, narrow_b1]
  (try refine ⟨rfl, ?_⟩); (try refine ⟨rfl, ?_⟩)
  first | (intro acts; rw [hret _ acts rfl rfl rfl]) | rw [hret _ _ rfl rfl rfl]
  exact Steps.refl _
/-- what holds at the law's entry: the machine, the code, the tables' words (any of lw_tbl by 'hts w (by decide +kernel)'), the script of L ints xs at the cell b, what the Statement gives of the start (any of its parts by flat_of_before) -/
def lw_At (p : Program) (s : State) (m : MethodId) (meth : Method) (c : Code) (b L : Nat) (xs : Nat → Int32) : Prop :=
  p.tables.exec = Jvm.exec ∧ c.code = code ∧ meth.sig.returnType = ret ∧ c.maxLocals = 4 ∧ s.vm.findClass R_law = some m.cls ∧ (∀ w ∈ lw_tbl, w.before #[Value.ref b] s = true) ∧ va_X b L xs s s.heap ∧ b < s.heap.size ∧ meth.locks = false ∧ (Jvm.Cond.and given_1 narrow_1).before #[Value.ref b] s = true
def GA (s : State) : Nat → Prop := fun q => s.heap.size ≤ q
def OkL (p : Program) (s : State) (m : MethodId) (meth : Method) (c : Code) (D : va_G) (cy : Nat → ClassId) (b L : Nat) (xs : Nat → Int32) (adT adM : Nat → Nat) : Prop := p.tables.exec = Jvm.exec ∧ c.code = code ∧ meth.sig.returnType = ret ∧ c.maxLocals = 4 ∧ s.vm.findClass RL = some m.cls ∧ (∀ w ∈ lw_tbl, w.before #[Value.ref b] s = true) ∧ (va_X b L xs s s.heap ∧ b < s.heap.size ∧ L ≤ 2048) ∧ meth.locks = false ∧ KK D cy s ∧ SX (GA s) s s.heap ∧ (Inj adT LT.length ∧ ∀ i, i < LT.length → GA s (adT i)) ∧ (Inj adM LM.length ∧ ∀ i, i < LM.length → GA s (adM i)) ∧ ∀ i j, i < LT.length → j < LM.length → adT i ≠ adM j
/-- from any heap that pictures both, at this place of the law, with the loop's count i -/
def XL (p : Program) (l : Launch) (e : Env) (s : State) (m : MethodId) (below : List Frame) (meth : Method) (c : Code) (D : va_G) (cy : Nat → ClassId) (b : Nat) (adT adM : Nat → Nat) (σ τ : Mm) (pc i : Nat) (st : List Value) : Prop := ∀ (H : Heap) (locs : List Loc) (ls : Array Slot), va_P D vwCl (wd LT adT cy σ) H → va_P D vwCl (wd LM adM cy τ) H → va_S (GA s) s.heap H locs → lv_has ls 4 [(3, .int (nI i)), (2, .ref (adM 0)), (1, .ref (adT 0)), (0, .ref b)] → W p l e room_1 s m #[Value.ref b] below meth c H locs 600000 7302250 (lw_Z below #[Value.ref b] s) (F0 m pc ls st)
theorem l_back {p : Program} {l : Launch} {e : Env} {R : Room} {s : State} {m : MethodId} {args : Array Value} {below : List Frame} {meth : Method} {c : Code} {H : Heap} {locs : List Loc} {cells slots : Nat} {Q : State → Prop} {L : List Ck} {D : va_G} {ad : Nat → Nat} {cy : Nat → ClassId} {σ' : Mm} {rv : Option Value} {A : Nat → Prop} {pc : Nat} {ls : Array Slot} {rest st0 : List Value} {a : Array Value}
    (hr : va_Run p l e R s m args below meth c H locs cells slots 0 0 (F0 m pc ls st0) rest (Qz L D ad cy σ' rv H.size a) (AA ad L.length H.size)) (hS : va_S A s.heap H locs) (hA : ∀ i, i < L.length → A (ad i)) (hA2 : ∀ q, s.heap.size ≤ q → A q)
    (kk : ∀ (H1 : Heap) (locs1 : List Loc), va_P D vwCl (wd L ad cy σ') H1 → va_S A s.heap H1 locs1 → (∀ q : Nat, q < H.size → ¬ AA ad L.length H.size q → H1[q]? = H[q]?) → W p l e R s m args below meth c H1 locs1 cells slots Q (F0 m (pc + 3) ls (rv.toList ++ rest))) : W p l e R s m args below meth c H locs cells slots Q (F0 m pc ls st0) := by
  intro T hT X
  obtain ⟨v, st₀, t, T', Lc, h0, X', hL, e1, e2, ⟨hv, hP1, hz, hk⟩, st⟩ := hr T hT X
  cases hv
  rw [h0] at hz hk
  have hAA : ∀ q, AA ad L.length H.size q → A q := fun q hq => by
    rcases hq with ⟨i, hi, rfl⟩ | hq
    · exact hA i hi
    · exact hA2 q (Nat.le_trans hS.1 hq)
  obtain ⟨t2, a1, b1⟩ := kk T'.heap (locs ++ Lc) (by rw [e1]; exact hP1)
    ⟨Nat.le_trans hS.1 (by rw [e1]; exact hz), fun q h1 h2 => by rw [e1, hk q (Nat.lt_of_lt_of_le h1 hS.1) (fun z => h2 (hAA q z))]; exact hS.2.1 q h1 h2, fun q hq => by
      rcases List.mem_append.mp hq with h | h
      · exact hS.2.2 q h
      · exact hAA _ (hL q h)⟩ (fun q h1 h2 => by rw [e1]; exact hk q h1 h2) T' rfl X'
  exact ⟨t2, st t2 a1, b1⟩
/-- the other system's cells stay -/
theorem other_kept {L L' : List Ck} {D : va_G} {ad ad' : Nat → Nat} {cy : Nat → ClassId} {τ : Mm} {H H1 : Heap} (hP : va_P D vwCl (wd L' ad' cy τ) H) (hd : ∀ i j, i < L.length → j < L'.length → ad i ≠ ad' j) (hk : ∀ q : Nat, q < H.size → ¬ AA ad L.length H.size q → H1[q]? = H[q]?) : va_P D vwCl (wd L' ad' cy τ) H1 := by
  refine hP.kept (fun k q hq => ?_)
  have hlt := (hP k q hq).lt
  obtain ⟨K, hK, rfl⟩ := wd_of hq
  refine hk _ hlt (fun z => ?_)
  rcases z with ⟨i, hi, he⟩ | z
  · exact hd i k hi (List.getElem?_eq_some_iff.mp hK).1 he
  · exact absurd hlt (Nat.not_lt.mpr z)
section LAW
variable {p : Program} {l : Launch} {e : Env} {s : State} {m : MethodId} {below : List Frame} {meth : Method} {c : Code} {D : va_G} {cy : Nat → ClassId} {b L : Nat} {xs : Nat → Int32} {adT adM : Nat → Nat} {σ σ' τ τ' : Mm} {pc i : Nat} {st rest : List Value}
theorem l_aT (O : OkL p s m meth c D cy b L xs adT adM) (hd : decode code pc = .ok (.aload_n 1, 1)) (kk : XL p l e s m below meth c D cy b adT adM σ τ (pc + 1) i (.ref (adT 0) :: st)) : XL p l e s m below meth c D cy b adT adM σ τ pc i st := by
  intro H locs ls hT hM hS hl
  exact lv_aload_n O.1 O.2.1 hd rfl (lv_at hl 2 rfl) (kk H locs ls hT hM hS hl)
theorem l_aM (O : OkL p s m meth c D cy b L xs adT adM) (hd : decode code pc = .ok (.aload_n 2, 1)) (kk : XL p l e s m below meth c D cy b adT adM σ τ (pc + 1) i (.ref (adM 0) :: st)) : XL p l e s m below meth c D cy b adT adM σ τ pc i st := by
  intro H locs ls hT hM hS hl
  exact lv_aload_n O.1 O.2.1 hd rfl (lv_at hl 1 rfl) (kk H locs ls hT hM hS hl)
theorem nI_n {n : Nat} (h : n < 100000) : (nI n).toNatClampNeg = n := by
  rw [nI_iz, iz_nat (by omega) (by omega)]
  rfl
theorem lI_in {n L : Nat} (h : n < L) (hL : L ≤ 2048) : vp_in (nI n) L := by
  rintro (z | z)
  · rw [nI_iz, i0, iz_lt (by omega) (by omega) (by omega) (by omega)] at z
    omega
  · rw [nI_n (by omega)] at z
    omega
theorem l_arg (O : OkL p s m meth c D cy b L xs adT adM) (k : Nat) (hk : k < 4) (hi : i + 4 ≤ L) (d0 : decode code pc = .ok (.aload_n 0, 1)) (d1 : decode code (pc + 1) = .ok (.iload_n 3, 1)) (d2 : decode code (pc + 2) = .ok (.iconst (k : Int), 1)) (d3 : decode code (pc + 3) = .ok (.iadd, 1)) (d4 : decode code (pc + 4) = .ok (.iaload, 1)) (kk : XL p l e s m below meth c D cy b adT adM σ τ (pc + 5) i (.int (xs (i + k)) :: st)) : XL p l e s m below meth c D cy b adT adM σ τ pc i st := by
  obtain ⟨hx, hb, hr, hml, hown, hts, ⟨hX, hbl, hL⟩, hlk, hK, hSX, hT, hM, hd⟩ := O
  intro H locs ls hPT hPM hS hl
  refine lv_aload_n hx hb d0 rfl (lv_at hl 3 rfl) ?_
  refine lv_iload_n hx hb d1 rfl (lv_at hl 0 rfl) ?_
  refine lv_iconst (v := iz k) hx hb d2 rfl ?_
  refine lv_iadd hx hb d3 ?_
  have e1 : nI i + iz k = nI (i + k) := by rw [nI_iz, nI_iz, iz_add]; rfl
  rw [e1]
  refine va_sld hx hb hX hbl (Nat.not_le.mpr hbl) hS (lI_in (by omega) hL) d4 ?_
  rw [nI_n (by omega)]
  exact kk H locs ls hPT hPM hS hl
theorem l_callT (O : OkL p s m meth c D cy b L xs adT adM) {As : List Value} {y : MethodName} {bytes : ByteArray} {maxL n index : Nat} {rt : Option FieldType} {ws : List Cond} {rm' : Room} {av : (Nat → Nat) → List Value} {rv' : Option Value} (hM : CT LT y ws rm' av σ rv' σ') (hca : Ca y bytes maxL rt ws rm' n) (hG : GoodIn lw_tbl (wsV RL index RX9 y ws)) (hyC : y.cls = RX9) (hav : av adT = .ref (adT 0) :: As) (hst : st = As.reverse ++ .ref (adT 0) :: rest) (hn : As.length = n) (hroom : (rest.map fun v => v.category).sum ≤ 8) (hR : rm'.frames + 1 ≤ room_1.frames ∧ 8 + (maxL + 11) + rm'.locals ≤ room_1.locals) (hd : decode code pc = .ok (.invokevirtual index, 3)) (kk : XL p l e s m below meth c D cy b adT adM σ' τ (pc + 3) i (rv'.toList ++ rest)) : XL p l e s m below meth c D cy b adT adM σ τ pc i st := by
  obtain ⟨hx, hb, hr, hml, hown, hts, hX, hlk, hK, hSX, hTT, hMM, hdd⟩ := O
  obtain ⟨⟨ws', hw⟩, hrc, hrs, hy1, hy2, hy3⟩ := hca
  intro H locs ls hPT hPM hS hl
  subst hst
  have hA2 : ∀ q, s.heap.size ≤ q → GA s q := fun q hq => hq
  refine l_back (va_runV (As := As) (rest := rest) (b := adT 0) ⟨hx, hb, hml, hown, hts⟩ (hM l D adT cy H.size) (cwV n hts hG hw hrc hrs ⟨hyC, hy1, hy2, hy3⟩ hR) ⟨Pz_blind, va_recv (ci := 9) hK.1 hPT (q := (RX9, TX9, 16)) rfl (wd_get (K := .inl (9, [4, 6, 2, 2, 39, 14, 16, 19, 21, 22, 23, 0, 1, 24, 29, 36])) rfl), ?_⟩ rfl hn hl.1 rfl (lv_room hroom) hd ⟨Nat.le_of_ble_eq_true rfl, Nat.le_of_ble_eq_true rfl⟩) hS hTT.2 hA2 (fun H1 locs1 hP1 hS1 hk => kk H1 locs1 ls hP1 (other_kept hPM hdd hk) hS1 hl)
  rw [← hav]
  exact x_pre hPT hS hK hTT.1 hTT.2 hA2 hSX
theorem l_callM (O : OkL p s m meth c D cy b L xs adT adM) {As : List Value} {y : MethodName} {bytes : ByteArray} {maxL n index : Nat} {rt : Option FieldType} {ws : List Cond} {rm' : Room} {av : (Nat → Nat) → List Value} {rv' : Option Value} (hM : CT LM y ws rm' av τ rv' τ') (hca : Ca y bytes maxL rt ws rm' n) (hG : GoodIn lw_tbl (wsV RL index RX10 y ws)) (hyC : y.cls = RX10) (hav : av adM = .ref (adM 0) :: As) (hst : st = As.reverse ++ .ref (adM 0) :: rest) (hn : As.length = n) (hroom : (rest.map fun v => v.category).sum ≤ 8) (hR : rm'.frames + 1 ≤ room_1.frames ∧ 8 + (maxL + 11) + rm'.locals ≤ room_1.locals) (hd : decode code pc = .ok (.invokevirtual index, 3)) (kk : XL p l e s m below meth c D cy b adT adM σ τ' (pc + 3) i (rv'.toList ++ rest)) : XL p l e s m below meth c D cy b adT adM σ τ pc i st := by
  obtain ⟨hx, hb, hr, hml, hown, hts, hX, hlk, hK, hSX, hTT, hMM, hdd⟩ := O
  obtain ⟨⟨ws', hw⟩, hrc, hrs, hy1, hy2, hy3⟩ := hca
  intro H locs ls hPT hPM hS hl
  subst hst
  have hA2 : ∀ q, s.heap.size ≤ q → GA s q := fun q hq => hq
  refine l_back (va_runV (As := As) (rest := rest) (b := adM 0) ⟨hx, hb, hml, hown, hts⟩ (hM l D adM cy H.size) (cwV n hts hG hw hrc hrs ⟨hyC, hy1, hy2, hy3⟩ hR) ⟨Pz_blind, va_recv (ci := 10) hK.1 hPM (q := (RX10, TX10, 28)) rfl (wd_get (K := .inl (10, [0, 1, 4, 0, 0, 0, 0, 0, 0, 5, 0, 0, 0, 6, 7, 8, 9, 10, 0, 11, 0, 0, 0, 12, 13, 14, 15, 16])) rfl), ?_⟩ rfl hn hl.1 rfl (lv_room hroom) hd ⟨Nat.le_of_ble_eq_true rfl, Nat.le_of_ble_eq_true rfl⟩) hS hMM.2 hA2 (fun H1 locs1 hP1 hS1 hk => kk H1 locs1 ls (other_kept hPT (fun i j hi hj => (hdd j i hj hi).symm) hk) hP1 hS1 hl)
  rw [← hav]
  exact x_pre hPM hS hK hMM.1 hMM.2 hA2 hSX
theorem l_eq (O : OkL p s m meth c D cy b L xs adT adM) {r : Int32} {off : Int} (hd : decode code pc = .ok (.if_icmp .eq off, 3)) (ht : (pc : Int) + off = ((670 : Nat) : Int)) (kk : XL p l e s m below meth c D cy b adT adM σ τ 670 i []) : XL p l e s m below meth c D cy b adT adM σ τ pc i [.int r, .int r] := by
  intro H locs ls hT hM hS hl
  exact lv_icmp_eq (tgt := 670) O.1 O.2.1 hd ht (fun _ => kk H locs ls hT hM hS hl) (fun h => absurd rfl h)
theorem l_eqJ (O : OkL p s m meth c D cy b L xs adT adM) {r : Int64} {off : Int} (h0 : decode code pc = .ok (.lcmp, 1)) (hd : decode code (pc + 1) = .ok (.ifCond .eq off, 3)) (ht : ((pc + 1 : Nat) : Int) + off = ((670 : Nat) : Int)) (kk : XL p l e s m below meth c D cy b adT adM σ τ 670 i []) : XL p l e s m below meth c D cy b adT adM σ τ pc i [.long r, .long r] := by
  intro H locs ls hT hM hS hl
  refine W.lcmp O.1 O.2.1 h0 ?_
  refine lv_if_eq (tgt := 670) O.1 O.2.1 hd ht (fun _ => kk H locs ls hT hM hS hl) (fun h => absurd ?_ h)
  unfold lg_cmp
  simp
end LAW
