/-! constructors: a world that grows. A constructor's contract: from its own new object to its block of cells -/
def zm : Mm := (fun _ _ => 0, fun _ _ => 0, fun _ _ => none, 0)
theorem Inj_of {L : List Ck} {ad : Nat → Nat} {cy : Nat → ClassId} {σ : Mm} {A : Nat → Prop} (h : va_D A (wd L ad cy σ)) : Inj ad L.length ∧ ∀ i, i < L.length → A (ad i) := by
  have hg : ∀ i, i < L.length → ∃ K, (wd L ad cy σ)[i]? = some (ad i, en ad cy σ i K) := fun i hi => ⟨L[i], wd_get (List.getElem?_eq_getElem hi)⟩
  refine ⟨fun i j hi hj e => ?_, fun i hi => ?_⟩
  · obtain ⟨K, h1⟩ := hg i hi
    obtain ⟨K', h2⟩ := hg j hj
    exact h.1 i j _ _ h1 h2 e
  · obtain ⟨K, h1⟩ := hg i hi
    exact h.2 i _ h1
theorem wd_congr {L : List Ck} {ad : Nat → Nat} {cy : Nat → ClassId} {σ σ' : Mm} (h : ∀ c K, L[c]? = some K → en ad cy σ c K = en ad cy σ' c K) : wd L ad cy σ = wd L ad cy σ' := by
  refine List.ext_getElem? fun i => ?_
  unfold wd
  rw [List.getElem?_mapIdx, List.getElem?_mapIdx]
  cases hL : L[i]? with
  | none => rfl
  | some K =>
    show some (ad i, en ad cy σ i K) = some (ad i, en ad cy σ' i K)
    rw [h i K hL]
def KN (D : va_G) (cy : Nat → ClassId) (U : State) : Prop := KK D cy U ∧ va_AO RX4 U
theorem KN.moved {D : va_G} {cy : Nat → ClassId} {s U : State} (hW : s.WarmedH U.vm) (h : KN D cy s) : KN D cy U := ⟨h.1.moved hW, va_AO.moved hW.alike h.2⟩
def OkC (p : Program) (s : State) (m : MethodId) (args : Array Value) (meth : Method) (c : Code) (D : va_G) (cy : Nat → ClassId) (A : Nat → Prop) (cc : ByteArray) (own : String) (Ts : List Cond) : Prop := p.tables.exec = Jvm.exec ∧ c.code = cc ∧ s.vm.findClass own = some m.cls ∧ (∀ w ∈ Ts, w.before args s = true) ∧ KN D cy s ∧ (∀ q, s.heap.size ≤ q → A q) ∧ SX A s s.heap
/-- a constructor's start: one new object -/
def Pn (D : va_G) (cy : Nat → ClassId) (av : List Value) (sz q : Nat) (e0 : va_E) : Array Value → State → Prop := fun v U => v = av.toArray ∧ U.heap.size = sz ∧ va_P D vwCl [(q, e0)] U.heap ∧ KN D cy U ∧ SX (va_A [(q, e0)] sz) U U.heap
theorem Pn_blind {D : va_G} {cy : Nat → ClassId} {av : List Value} {sz q : Nat} {e0 : va_E} : FrameBlind (Pn D cy av sz q e0) := fun a U g mk h => by
  obtain ⟨h1, h2, h3, h4, h5⟩ := h
  exact ⟨h1, h2, h3, ⟨⟨va_K.moved (u := U) (U := U.calling g mk a) (Vm.Alike.refl U.vm) h4.1.1, h4.1.2.same rfl⟩, va_AO.moved (u := U) (U := U.calling g mk a) (Vm.Alike.refl U.vm) h4.2⟩, h5.moved (u := U) (U := U.calling g mk a) (Vm.Alike.refl U.vm)⟩
theorem nFree {A : Nat → Prop} {ws : va_W} {q : Nat} {e0 : va_E} {H0 H : Heap} {locs : List Loc} (hD : va_D A (ws ++ [(q, e0)])) (hS : va_S A H0 H locs) (hA : ∀ q, H0.size ≤ q → A q) : ∀ x, va_A [(q, e0)] H.size x → A x := va_free hD hS hA [ws.length] (by simp)
theorem pn_pre {D : va_G} {cy : Nat → ClassId} {A : Nat → Prop} {s : State} {H : Heap} {locs : List Loc} {av : List Value} {ws : va_W} {q : Nat} {e0 : va_E} (hP : va_P D vwCl (ws ++ [(q, e0)]) H) (hD : va_D A (ws ++ [(q, e0)])) (hS : va_S A s.heap H locs) (hK : KN D cy s) (hA2 : ∀ q, s.heap.size ≤ q → A q) (hSX : SX A s s.heap) : ∀ U : State, U.heap = H → s.WarmedH U.vm → Pn D cy av H.size q e0 av.toArray U := fun U hU hW => by
  refine ⟨rfl, by rw [hU], by rw [hU]; exact hP.sub [ws.length] (by simp), hK.moved hW, ?_⟩
  rw [hU]
  exact SX.narrow (A := A) ((hSX.moved hW.alike).kept (fun a h1 h2 => hS.2.1 a h1 h2)) (nFree hD hS hA2)
theorem nd_range' : ∀ (n s : Nat), va_nd (List.range' s n) = true
  | 0, _ => rfl
  | n + 1, s => by
    rw [List.range'_succ]
    show (decide (s ∉ List.range' (s + 1) n) && va_nd (List.range' (s + 1) n)) = true
    rw [nd_range' n (s + 1), Bool.and_true, decide_eq_true_eq]
    intro h
    have := List.mem_range'_1.mp h
    omega
theorem nd_range {n : Nat} : va_nd (List.range n) = true := by
  rw [List.range_eq_range']
  exact nd_range' n 0
theorem nD1 {q sz : Nat} {e0 : va_E} : va_D (va_A [(q, e0)] sz) [(q, e0)] := by
  refine va_D.self (A := fun _ => True) ⟨fun i j x y hi hj _ => ?_, fun _ _ _ => trivial⟩
  have h1 := (List.getElem?_eq_some_iff.mp hi).1
  have h2 := (List.getElem?_eq_some_iff.mp hj).1
  rw [List.length_singleton] at h1 h2
  omega
section NEW
variable {p : Program} {l : Launch} {e : Env} {R : Room} {s : State} {m : MethodId} {args : Array Value} {below : List Frame} {meth : Method} {c : Code} {H : Heap} {locs : List Loc} {cells slots : Nat} {Q : State → Prop} {D : va_G} {cy : Nat → ClassId} {A : Nat → Prop} {cc : ByteArray} {own : String} {Ts : List Cond} {pc : Nat} {ls : Array Slot} {rest : List Value} {ws : va_W}
theorem tyn_eq {cA cB : ClassId} {ty : FieldType} {s : State} (h1 : va_RA s cA ty) (h2 : va_RA s cB ty) : cA = cB := by
  cases ty with
  | object C =>
    obtain ⟨_, _, _, _, _, a⟩ := h1
    obtain ⟨_, _, _, _, _, b⟩ := h2
    exact Option.some.inj (a.symm.trans b)
  | _ => exact Option.some.inj (h1.symm.trans h2)
theorem n_newa (O : OkC p s m args meth c D cy A cc own Ts) (t : Nat) {n : Nat} {v : Int32} {atype : ArrayType} {ty : FieldType} (hty : newarray.typeOf atype = ty) (htys : (tysL cy)[t]? = some (cy t, ty)) (hd0 : defaultValue ty = .int 0) (harr : Cond.arrayClass ty ∈ Ts) (hv0 : ¬ v < 0) (hvn : v.toNatClampNeg = n) (hbytes : n * componentBytes ty ≤ 536870912) (hc : cells + 1 ≤ R.cells) (hs : slots + n ≤ R.slots) (hP : va_P D vwCl ws H) (hD : va_D A ws) (hS : va_S A s.heap H locs) (hd : decode cc pc = .ok (.newarray atype, 2)) (kk : ∀ (q : Nat) (H1 : Heap), va_P D vwCl (ws ++ [(q, .inl (cy t, (n, .inl (fun _ => 0))))]) H1 → va_D A (ws ++ [(q, .inl (cy t, (n, .inl (fun _ => 0))))]) → va_S A s.heap H1 locs → W p l e R s m args below meth c H1 locs (cells + 1) (slots + n) Q (F0 m (pc + 2) ls (.ref q :: rest))) : W p l e R s m args below meth c H locs cells slots Q (F0 m pc ls (.int v :: rest)) := by
  obtain ⟨hx, hb, hown, hts, hK, hA, hSX⟩ := O
  refine va_newa hx hb (by rw [hty]; exact hts _ harr) hty hK.1.1 hP hD hS hA (a0 := (n, .inl (fun _ => 0))) (fun cA => by rw [hd0]; rfl) hv0 hvn hbytes hc hs hd (fun q cA H1 hK1 hP1 hD1 hS1 => ?_)
  have h1 := (hK1.2 3 (cA, ty) rfl).2
  have h2 := (hK.1.1.2 t _ htys).2
  have e := tyn_eq h1 h2
  subst e
  exact kk q H1 hP1 hD1 hS1
theorem n_newq (O : OkC p s m args meth c D cy A cc own Ts) {index n : Nat} {v : Int32} (hcl : Cond.classLink own index RX4 ∈ Ts) (hv0 : ¬ v < 0) (hvn : v.toNatClampNeg = n) (hbytes : n * 4 ≤ 536870912) (hc : cells + 1 ≤ R.cells) (hs : slots + n ≤ R.slots) (hP : va_P D vwCl ws H) (hD : va_D A ws) (hS : va_S A s.heap H locs) (hd : decode cc pc = .ok (.anewarray index, 3)) (kk : ∀ (q : Nat) (H1 : Heap), va_P D vwCl (ws ++ [(q, .inl (cy 2, (n, .inr (.inr (.inr (.inr (fun _ => none)))))))]) H1 → va_D A (ws ++ [(q, .inl (cy 2, (n, .inr (.inr (.inr (.inr (fun _ => none)))))))]) → va_S A s.heap H1 locs → W p l e R s m args below meth c H1 locs (cells + 1) (slots + n) Q (F0 m (pc + 3) ls (.ref q :: rest))) : W p l e R s m args below meth c H locs cells slots Q (F0 m pc ls (.int v :: rest)) := by
  obtain ⟨hx, hb, hown, hts, hK, hA, hSX⟩ := O
  refine va_newq hx hb hown (hts _ hcl) hK.2 hK.1.1 hP hD hS hA hv0 hvn hbytes hc hs hd (fun q cA H1 hK1 hP1 hD1 hS1 => ?_)
  have h1 := (hK1.2 3 (cA, .object RX4) rfl).2
  have h2 := (hK.1.1.2 2 _ rfl).2
  have e := tyn_eq h1 h2
  subst e
  exact kk q H1 hP1 hD1 hS1
theorem n_put (O : OkC p s m args meth c D cy A cc own Ts) {h0 ci index k : Nat} {fin : Bool} {ty : FieldType} {fs : List Value} {v : Value} (hin : meth.name = "<init>") (F : Fl own Ts index ci k fin ty) (hdecl : ∀ r, vwCl[ci]? = some r → (r.2.1 k).1 = own) (hn : narrow ty v = v) (hfit : fits ty v = true) (hk : k < fs.length) (hP : va_P D vwCl ((h0, .inr (ci, fs)) :: ws) H) (hD : va_D A ((h0, .inr (ci, fs)) :: ws)) (hS : va_S A s.heap H locs) (hd : decode cc pc = .ok (.putfield index, 3)) (kk : ∀ (H1 : Heap) (locs1 : List Loc), va_P D vwCl ((h0, .inr (ci, fs.set k v)) :: ws) H1 → va_D A ((h0, .inr (ci, fs.set k v)) :: ws) → va_S A s.heap H1 locs1 → W p l e R s m args below meth c H1 locs1 cells slots Q (F0 m (pc + 3) ls rest)) : W p l e R s m args below meth c H locs cells slots Q (F0 m pc ls (v :: .ref h0 :: rest)) := by
  obtain ⟨hx, hb, hown, hts, hK, hA, hSX⟩ := O
  obtain ⟨C, T, N, ty0, hc, hcw, hkN, hm, hty, hnm, hfin, hd9⟩ := F
  cases fin with
  | true => exact va_putF (D := D) hx hb hts hcw ty0 hty hnm hown hK.1.1 hP hD hS 0 rfl hc k hkN (hts _ hm) (fun _ h9 => h9) hfin hin (hdecl _ hc) hd9 hn hfit hk hd (fun H1 locs1 hP1 hD1 hS1 => kk H1 locs1 hP1 hD1 hS1)
  | false => exact va_put (D := D) hx hb hts hcw ty0 hty hnm hown hK.1.1 hP hD hS 0 rfl hc k hkN (hts _ hm) (fun _ h9 => h9) hfin hd9 hn hfit hk hd (fun H1 locs1 hP1 hD1 hS1 => kk H1 locs1 hP1 hD1 hS1)
theorem n_get (O : OkC p s m args meth c D cy A cc own Ts) (q0 : Nat) {a ci index k : Nat} {fin : Bool} {ty : FieldType} {fs : List Value} {v : Value} (F : Fl own Ts index ci k fin ty) (he : ws[q0]? = some (a, .inr (ci, fs))) (hv : fs[k]? = some v) (hP : va_P D vwCl ws H) (hd : decode cc pc = .ok (.getfield index, 3)) (kk : W p l e R s m args below meth c H locs cells slots Q (F0 m (pc + 3) ls (v :: rest))) : W p l e R s m args below meth c H locs cells slots Q (F0 m pc ls (.ref a :: rest)) := by
  obtain ⟨hx, hb, hown, hts, hK, hA, hSX⟩ := O
  obtain ⟨C, T, N, ty0, hc, hcw, hkN, hm, hty, hnm, hfin, hd9⟩ := F
  exact va_get (D := D) hx hb hts hcw hown hK.1.1 hP q0 he hc k hkN (hts _ hm) (fun _ h9 => h9) hv hd kk
theorem n_new (O : OkC p s m args meth c D cy A cc own Ts) (ci : Nat) {index N : Nat} {C : String} {T : u_T} {ty : Nat → FieldType} (fs : List Value) (hc : vwCl[ci]? = some (C, T, N)) (hin : ∀ w ∈ u_ws C T N, w ∈ Ts) (hty : ∀ k, k < N → parseFieldDescriptor (T k).2.2.1 = some (ty k)) (hcl : Cond.classLink own index C ∈ Ts) (hinst : Cond.instantiable C N ∈ Ts) (hini : Cond.initialized C ∈ Ts) (hfs : ∀ j, j < N → defaultValue (ty j) = vp_V fs j) (hce : cells + 1 ≤ R.cells) (hsl : slots + N ≤ R.slots) (hP : va_P D vwCl ws H) (hD : va_D A ws) (hS : va_S A s.heap H locs) (hd : decode cc pc = .ok (.new index, 3)) (kk : ∀ (q : Nat) (H1 : Heap), va_P D vwCl (ws ++ [(q, .inr (ci, fs))]) H1 → va_D A (ws ++ [(q, .inr (ci, fs))]) → va_S A s.heap H1 locs → W p l e R s m args below meth c H1 locs (cells + 1) (slots + N) Q (F0 m (pc + 3) ls (.ref q :: rest))) : W p l e R s m args below meth c H locs cells slots Q (F0 m pc ls rest) := by
  obtain ⟨hx, hb, hown, hts, hK, hA, hSX⟩ := O
  exact va_new hx hb hts hin ty hty hown (hts _ hcl) (hts _ hinst) (hts _ hini) hK.1.1 hP hD hS hA hc hfs hce hsl hd kk
/-- behind a constructor's call: the block stands where the object stood -/
theorem n_call {S : Type} {w1 : S → va_W} {post : S → Prop} {mc ms q : Nat} {e0 : va_E} {st0 : List Value} {a : Array Value} (O : OkC p s m args meth c D cy A cc own Ts) (hr : va_Run p l e R s m args below meth c H locs cells slots mc ms (F0 m pc ls st0) rest (va_Qv post (fun u t => va_P D vwCl (w1 u) t.heap ∧ va_D (va_A [(q, e0)] H.size) (w1 u)) (va_A [(q, e0)] H.size) a) (va_A [(q, e0)] H.size)) (hP : va_P D vwCl (ws ++ [(q, e0)]) H) (hD : va_D A (ws ++ [(q, e0)])) (hS : va_S A s.heap H locs) (kk : ∀ (u : S) (H1 : Heap) (locs1 : List Loc), post u → va_P D vwCl (ws ++ w1 u) H1 → va_D A (ws ++ w1 u) → va_S A s.heap H1 locs1 → W p l e R s m args below meth c H1 locs1 (cells + mc) (slots + ms) Q (F0 m (pc + 3) ls rest)) : W p l e R s m args below meth c H locs cells slots Q (F0 m pc ls st0) := by
  obtain ⟨hx, hb, hown, hts, hK, hA, hSX⟩ := O
  have hF := nFree hD hS hA
  refine va_callv hr hS (fun x _ h => hF x h) hF (fun u t H1 locs1 ht hvm hu hB hz hk1 hS1 => ?_)
  obtain ⟨hP1, hD1⟩ := hB
  rw [ht] at hP1
  obtain ⟨hP2, hD2⟩ := va_join (wc := [(q, e0)]) (wr := ws) (w1 := w1 u) hP hD [ws.length] (List.range ws.length) (by simp) (by
    refine List.ext_getElem? fun i => ?_
    rw [List.getElem?_map, List.getElem?_map]
    by_cases hi : i < ws.length
    · rw [List.getElem?_range hi, List.getElem?_eq_getElem hi]
      show some ((ws ++ [(q, e0)])[i]?) = some (some ws[i])
      rw [List.getElem?_append_left hi, List.getElem?_eq_getElem hi]
    · rw [List.getElem?_eq_none (by rw [List.length_range]; omega), List.getElem?_eq_none (by omega)]
      rfl) nd_range (fun i hi h => by
      rw [List.mem_singleton] at h
      rw [List.mem_range] at hi
      omega) hk1 hF hP1 hD1
  exact kk u H1 locs1 hu hP2 hD2 hS1
theorem n_ast (O : OkC p s m args meth c D cy A cc own Ts) {X B : va_W} {r v n j : Nat} {i : Int32} {f : Nat → Option Nat} {vs : List Value} (hB : B[j]? = some (v, .inr (4, vs))) (hin : vp_in i n) (hP : va_P D vwCl ((X ++ [(r, .inl (cy 2, (n, .inr (.inr (.inr (.inr f))))))]) ++ B) H) (hD : va_D A ((X ++ [(r, .inl (cy 2, (n, .inr (.inr (.inr (.inr f))))))]) ++ B)) (hS : va_S A s.heap H locs) (hd : decode cc pc = .ok (.aastore, 1)) (kk : ∀ (H1 : Heap) (locs1 : List Loc), va_P D vwCl ((X ++ [(r, .inl (cy 2, (n, .inr (.inr (.inr (.inr (va_up f i.toNatClampNeg (some v))))))))]) ++ B) H1 → va_D A ((X ++ [(r, .inl (cy 2, (n, .inr (.inr (.inr (.inr (va_up f i.toNatClampNeg (some v))))))))]) ++ B) → va_S A s.heap H1 locs1 → W p l e R s m args below meth c H1 locs1 cells slots Q (F0 m (pc + 1) ls rest)) : W p l e R s m args below meth c H locs cells slots Q (F0 m pc ls (.ref v :: .int i :: .ref r :: rest)) := by
  obtain ⟨hx, hb, hown, hts, hK, hA, hSX⟩ := O
  have e1 : ((X ++ [(r, (.inl (cy 2, (n, .inr (.inr (.inr (.inr f))))) : va_E))]) ++ B)[X.length]? = some (r, .inl (cy 2, (n, .inr (.inr (.inr (.inr f)))))) := by
    rw [List.append_assoc, List.getElem?_append_right (Nat.le_refl _), Nat.sub_self]
    rfl
  have e2 : ((X ++ [(r, (.inl (cy 2, (n, .inr (.inr (.inr (.inr f))))) : va_E))]) ++ B)[X.length + 1 + j]? = some (v, .inr (4, vs)) := by
    rw [List.getElem?_append_right (by rw [List.length_append, List.length_singleton]; omega), List.length_append, List.length_singleton, show X.length + 1 + j - (X.length + 1) = j by omega]
    exact hB
  have e3 : ∀ x : Nat × va_E, ((X ++ [(r, (.inl (cy 2, (n, .inr (.inr (.inr (.inr f))))) : va_E))]) ++ B).set X.length x = (X ++ [x]) ++ B := fun x => by
    rw [List.append_assoc, List.set_append_right _ _ (Nat.le_refl _), Nat.sub_self, List.append_assoc]
    rfl
  refine va_astq (D := D) (r := (RX4, TX4, 6)) (tys := tysL cy) hx hb hK.1.1 hP hD hS X.length 2 (X.length + 1 + j) 4 e1 rfl e2 rfl hin hd (fun H1 locs1 hP1 hD1 hS1 => ?_)
  rw [e3] at hP1 hD1
  exact kk H1 locs1 hP1 hD1 hS1
end NEW
