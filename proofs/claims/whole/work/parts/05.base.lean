abbrev nestL : List (String × Nat × MethodName × String) := [(RX9, 11, yX7_init, RX9), (RX9, 78, yX1_init, RX9), (RX9, 85, yX8_init, RX9), (RX9, 92, yX0_init, RX9), (RX6, 112, yX9_cellAt, RX9), (RX2, 34, yX9_cellAt, RX9), (RX1, 60, yX9_spotOf, RX9), (RX1, 77, yX9_cellOf, RX9), (RX1, 80, yX9_leanOf, RX9), (RX8, 39, yX9_spotOf, RX9), (RX8, 53, yX9_cellOf, RX9), (RX8, 62, yX9_leanOf, RX9), (RX0, 32, yX9_spotOf, RX9), (RX0, 52, yX9_cellOf, RX9), (RX0, 64, yX9_leanOf, RX9)]
/-! A SYSTEM AS NUMBERED CELLS. A cell: an object (its class's place in vwCl; the kinds of its fields: 0 int, 1 the one long, 2 a reference that moves, n + 3 a reference to cell n for good), an array (0 int, 1 boolean; its length), a row of references for good. What moves is the memory. -/
abbrev Ck : Type := (Nat × List Nat) ⊕ ((Nat × Nat) ⊕ List Nat)
abbrev Mm : Type := (Nat → Nat → Int32) × (Nat → Nat → Int32) × (Nat → Nat → Option Nat) × Int64
def gI (σ : Mm) (c k : Nat) : Int32 := σ.1 c k
def gA (σ : Mm) (c : Nat) : Nat → Int32 := σ.2.1 c
def gR (σ : Mm) (c k : Nat) : Option Nat := σ.2.2.1 c k
def gJ (σ : Mm) : Int64 := σ.2.2.2
def sI (σ : Mm) (c k : Nat) (v : Int32) : Mm := (fun a b => if a = c ∧ b = k then v else σ.1 a b, σ.2)
def sAs (σ : Mm) (c : Nat) (f : Nat → Int32) : Mm := (σ.1, fun a => if a = c then f else σ.2.1 a, σ.2.2)
def sA (σ : Mm) (c k : Nat) (v : Int32) : Mm := sAs σ c (upd (gA σ c) k v)
def sR (σ : Mm) (c k : Nat) (v : Option Nat) : Mm := (σ.1, σ.2.1, fun a b => if a = c ∧ b = k then v else σ.2.2.1 a b, σ.2.2.2)
def sJ (σ : Mm) (v : Int64) : Mm := (σ.1, σ.2.1, σ.2.2.1, v)
theorem gI_sI (σ : Mm) (c k a b : Nat) (v : Int32) : gI (sI σ c k v) a b = if a = c ∧ b = k then v else gI σ a b := rfl
theorem gI_sAs (σ : Mm) (c a b : Nat) (f : Nat → Int32) : gI (sAs σ c f) a b = gI σ a b := rfl
theorem gI_sA (σ : Mm) (c k a b : Nat) (v : Int32) : gI (sA σ c k v) a b = gI σ a b := rfl
theorem gI_sR (σ : Mm) (c k a b : Nat) (v : Option Nat) : gI (sR σ c k v) a b = gI σ a b := rfl
theorem gI_sJ (σ : Mm) (a b : Nat) (v : Int64) : gI (sJ σ v) a b = gI σ a b := rfl
theorem gA_sI (σ : Mm) (c k a : Nat) (v : Int32) : gA (sI σ c k v) a = gA σ a := rfl
theorem gA_sAs (σ : Mm) (c a : Nat) (f : Nat → Int32) : gA (sAs σ c f) a = if a = c then f else gA σ a := rfl
theorem gA_sA (σ : Mm) (c k a : Nat) (v : Int32) : gA (sA σ c k v) a = if a = c then upd (gA σ c) k v else gA σ a := rfl
theorem gA_sR (σ : Mm) (c k a : Nat) (v : Option Nat) : gA (sR σ c k v) a = gA σ a := rfl
theorem gA_sJ (σ : Mm) (a : Nat) (v : Int64) : gA (sJ σ v) a = gA σ a := rfl
theorem gR_sI (σ : Mm) (c k a b : Nat) (v : Int32) : gR (sI σ c k v) a b = gR σ a b := rfl
theorem gR_sAs (σ : Mm) (c a b : Nat) (f : Nat → Int32) : gR (sAs σ c f) a b = gR σ a b := rfl
theorem gR_sA (σ : Mm) (c k a b : Nat) (v : Int32) : gR (sA σ c k v) a b = gR σ a b := rfl
theorem gR_sR (σ : Mm) (c k a b : Nat) (v : Option Nat) : gR (sR σ c k v) a b = if a = c ∧ b = k then v else gR σ a b := rfl
theorem gR_sJ (σ : Mm) (a b : Nat) (v : Int64) : gR (sJ σ v) a b = gR σ a b := rfl
theorem gJ_sI (σ : Mm) (c k : Nat) (v : Int32) : gJ (sI σ c k v) = gJ σ := rfl
theorem gJ_sAs (σ : Mm) (c : Nat) (f : Nat → Int32) : gJ (sAs σ c f) = gJ σ := rfl
theorem gJ_sA (σ : Mm) (c k : Nat) (v : Int32) : gJ (sA σ c k v) = gJ σ := rfl
theorem gJ_sR (σ : Mm) (c k : Nat) (v : Option Nat) : gJ (sR σ c k v) = gJ σ := rfl
theorem gJ_sJ (σ : Mm) (v : Int64) : gJ (sJ σ v) = v := rfl
-- the picture of a memory as a world
def fv (ad : Nat → Nat) (σ : Mm) (c k f : Nat) : Value := match f with
  | 0 => .int (gI σ c k)
  | 1 => .long (gJ σ)
  | 2 => va_rf ((gR σ c k).map ad)
  | n + 3 => .ref (ad n)
def fvs (ad : Nat → Nat) (σ : Mm) (c : Nat) : Nat → List Nat → List Value
  | _, [] => []
  | k, f :: t => fv ad σ c k f :: fvs ad σ c (k + 1) t
def en (ad : Nat → Nat) (cy : Nat → ClassId) (σ : Mm) (c : Nat) (K : Ck) : va_E := match K with
  | .inl o => .inr (o.1, fvs ad σ c 0 o.2)
  | .inr (.inl a) => .inl (cy a.1, (a.2, .inl (gA σ c)))
  | .inr (.inr ids) => .inl (cy 2, (ids.length, .inr (.inr (.inr (.inr (fun i => (ids[i]?).map ad))))))
def wd (L : List Ck) (ad : Nat → Nat) (cy : Nat → ClassId) (σ : Mm) : va_W := L.mapIdx (fun c K => (ad c, en ad cy σ c K))
theorem wd_get {L : List Ck} {ad : Nat → Nat} {cy : Nat → ClassId} {σ : Mm} {c : Nat} {K : Ck} (h : L[c]? = some K) : (wd L ad cy σ)[c]? = some (ad c, en ad cy σ c K) := by
  unfold wd
  rw [List.getElem?_mapIdx, h]
  rfl
theorem wd_len {L : List Ck} {ad : Nat → Nat} {cy : Nat → ClassId} {σ : Mm} : (wd L ad cy σ).length = L.length := by
  unfold wd
  exact List.length_mapIdx
theorem wd_of {L : List Ck} {ad : Nat → Nat} {cy : Nat → ClassId} {σ : Mm} {c : Nat} {q : Nat × va_E} (h : (wd L ad cy σ)[c]? = some q) : ∃ K, L[c]? = some K ∧ q = (ad c, en ad cy σ c K) := by
  unfold wd at h
  rw [List.getElem?_mapIdx] at h
  cases hL : L[c]? with
  | none => rw [hL] at h; cases h
  | some K => rw [hL] at h; exact ⟨K, rfl, (Option.some.inj h).symm⟩
theorem wd_set {L : List Ck} {ad : Nat → Nat} {cy : Nat → ClassId} {σ σ' : Mm} {c : Nat} {K : Ck} (hc : L[c]? = some K) (he : ∀ c' K', L[c']? = some K' → c' ≠ c → en ad cy σ' c' K' = en ad cy σ c' K') : (wd L ad cy σ).set c (ad c, en ad cy σ' c K) = wd L ad cy σ' := by
  apply List.ext_getElem?
  intro i
  by_cases hi : c = i
  · subst hi
    rw [List.getElem?_set_self (by rw [wd_len]; exact (List.getElem?_eq_some_iff.mp hc).1), wd_get hc]
  · rw [List.getElem?_set_ne hi]
    cases hL : L[i]? with
    | none => 
      rw [List.getElem?_eq_none (by rw [wd_len]; exact List.getElem?_eq_none_iff.mp hL), List.getElem?_eq_none (by rw [wd_len]; exact List.getElem?_eq_none_iff.mp hL)]
    | some K' => rw [wd_get hL, wd_get hL, he i K' hL (fun e => hi e.symm)]
theorem fvs_get {ad : Nat → Nat} {σ : Mm} {c : Nat} : ∀ (fks : List Nat) (k i f : Nat), fks[i]? = some f → (fvs ad σ c k fks)[i]? = some (fv ad σ c (k + i) f)
  | [], _, i, f, h => by simp at h
  | g :: t, k, 0, f, h => by
    have : g = f := by simpa using h
    subst this
    rfl
  | g :: t, k, i + 1, f, h => by
    have h2 : t[i]? = some f := by simpa using h
    show (fvs ad σ c (k + 1) t)[i]? = _
    rw [fvs_get t (k + 1) i f h2, show k + 1 + i = k + (i + 1) by omega]
theorem fvs_len {ad : Nat → Nat} {σ : Mm} {c : Nat} : ∀ (fks : List Nat) (k : Nat), (fvs ad σ c k fks).length = fks.length
  | [], _ => rfl
  | _ :: t, k => by
    show (fvs ad σ c (k + 1) t).length + 1 = t.length + 1
    rw [fvs_len t (k + 1)]
theorem fvs_same {ad : Nat → Nat} {σ σ' : Mm} {c c' : Nat} : ∀ (fks : List Nat) (k : Nat), (∀ i f, k ≤ i → fv ad σ c i f = fv ad σ' c' i f) → fvs ad σ c k fks = fvs ad σ' c' k fks
  | [], _, _ => rfl
  | f :: t, k, h => by
    show fv ad σ c k f :: fvs ad σ c (k + 1) t = fv ad σ' c' k f :: fvs ad σ' c' (k + 1) t
    rw [h k f (Nat.le_refl _), fvs_same t (k + 1) (fun i f hi => h i f (by omega))]
theorem fvs_set {ad : Nat → Nat} {σ σ' : Mm} {c : Nat} {v : Value} : ∀ (fks : List Nat) (k i f : Nat), fks[i]? = some f → fv ad σ' c (k + i) f = v → (∀ j g, j ≠ k + i → fv ad σ c j g = fv ad σ' c j g) → (fvs ad σ c k fks).set i v = fvs ad σ' c k fks
  | [], _, i, f, h, _, _ => by simp at h
  | g :: t, k, 0, f, h, hv, ho => by
    have hg : g = f := by simpa using h
    subst hg
    show v :: fvs ad σ c (k + 1) t = fv ad σ' c k g :: fvs ad σ' c (k + 1) t
    rw [← hv, fvs_same t (k + 1) (fun j f' hj => ho j f' (by omega))]
    rfl
  | g :: t, k, i + 1, f, h, hv, ho => by
    have h2 : t[i]? = some f := by simpa using h
    show fv ad σ c k g :: (fvs ad σ c (k + 1) t).set i v = fv ad σ' c k g :: fvs ad σ' c (k + 1) t
    rw [ho k g (by omega), fvs_set t (k + 1) i f h2 (by rw [← hv, show k + 1 + i = k + (i + 1) by omega]) (fun j g' hj => ho j g' (by omega))]
theorem wd_sI {L : List Ck} {ad : Nat → Nat} {cy : Nat → ClassId} {σ : Mm} {c k ci : Nat} {fks : List Nat} {v : Int32} (hc : L[c]? = some (.inl (ci, fks))) (hk : fks[k]? = some 0) : (wd L ad cy σ).set c (ad c, .inr (ci, (fvs ad σ c 0 fks).set k (.int v))) = wd L ad cy (sI σ c k v) := by
  rw [fvs_set (σ' := sI σ c k v) fks 0 k 0 hk (by show Value.int (gI (sI σ c k v) c (0 + k)) = _; rw [gI_sI, if_pos ⟨rfl, by omega⟩]) (fun j g hj => by
    match g with
    | 0 => show Value.int _ = Value.int _; rw [gI_sI, if_neg (fun q => hj (by omega))]
    | 1 => rfl
    | 2 => rfl
    | n + 3 => rfl)]
  exact wd_set (σ' := sI σ c k v) hc (fun c' K' _ hne => by
    match K' with
    | .inl o => 
      show Sum.inr (o.1, _) = Sum.inr (o.1, _)
      rw [fvs_same o.2 0 (fun j g _ => ?_)]
      match g with
      | 0 => show Value.int _ = Value.int _; rw [gI_sI, if_neg (fun q => hne q.1)]
      | 1 => rfl
      | 2 => rfl
      | n + 3 => rfl
    | .inr (.inl a) => rfl
    | .inr (.inr ids) => rfl)
theorem wd_sR {L : List Ck} {ad : Nat → Nat} {cy : Nat → ClassId} {σ : Mm} {c k ci : Nat} {fks : List Nat} {v : Option Nat} (hc : L[c]? = some (.inl (ci, fks))) (hk : fks[k]? = some 2) : (wd L ad cy σ).set c (ad c, .inr (ci, (fvs ad σ c 0 fks).set k (va_rf (v.map ad)))) = wd L ad cy (sR σ c k v) := by
  rw [fvs_set (σ' := sR σ c k v) fks 0 k 2 hk (by show va_rf ((gR (sR σ c k v) c (0 + k)).map ad) = _; rw [gR_sR, if_pos ⟨rfl, by omega⟩]) (fun j g hj => by
    match g with
    | 0 => rfl
    | 1 => rfl
    | 2 => show va_rf _ = va_rf _; rw [gR_sR, if_neg (fun q => hj (by omega))]
    | n + 3 => rfl)]
  exact wd_set (σ' := sR σ c k v) hc (fun c' K' _ hne => by
    match K' with
    | .inl o => 
      show Sum.inr (o.1, _) = Sum.inr (o.1, _)
      rw [fvs_same o.2 0 (fun j g _ => ?_)]
      match g with
      | 0 => rfl
      | 1 => rfl
      | 2 => show va_rf _ = va_rf _; rw [gR_sR, if_neg (fun q => hne q.1)]
      | n + 3 => rfl
    | .inr (.inl a) => rfl
    | .inr (.inr ids) => rfl)
theorem wd_sAs {L : List Ck} {ad : Nat → Nat} {cy : Nat → ClassId} {σ : Mm} {c : Nat} {a : Nat × Nat} {f : Nat → Int32} (hc : L[c]? = some (.inr (.inl a))) : (wd L ad cy σ).set c (ad c, .inl (cy a.1, (a.2, .inl f))) = wd L ad cy (sAs σ c f) := by
  have he : en ad cy (sAs σ c f) c (.inr (.inl a)) = .inl (cy a.1, (a.2, .inl f)) := by
    show Sum.inl (cy a.1, (a.2, Sum.inl (gA (sAs σ c f) c))) = _
    rw [gA_sAs, if_pos rfl]
  rw [← he]
  exact wd_set (σ' := sAs σ c f) hc (fun c' K' _ hne => by
    match K' with
    | .inl o => 
      show Sum.inr (o.1, _) = Sum.inr (o.1, _)
      rw [fvs_same o.2 0 (fun j g _ => ?_)]
      match g with
      | 0 => rfl
      | 1 => rfl
      | 2 => rfl
      | n + 3 => rfl
    | .inr (.inl b) => 
      show Sum.inl (cy b.1, (b.2, Sum.inl (gA (sAs σ c f) c'))) = _
      rw [gA_sAs, if_neg hne]
      rfl
    | .inr (.inr ids) => rfl)
def nJ (K : Ck) : Bool := match K with
  | .inl o => !o.2.contains 1
  | _ => true
theorem fvs_sJ {ad : Nat → Nat} {σ : Mm} {c : Nat} {v : Int64} : ∀ (fks : List Nat) (k : Nat), fks.contains 1 = false → fvs ad (sJ σ v) c k fks = fvs ad σ c k fks
  | [], _, _ => rfl
  | f :: t, k, h => by
    have h1 : ¬ f = 1 ∧ t.contains 1 = false := by
      simp only [List.contains_cons, Bool.or_eq_false_iff] at h
      exact ⟨fun e => by rw [e] at h; simp at h, h.2⟩
    show fv ad (sJ σ v) c k f :: fvs ad (sJ σ v) c (k + 1) t = fv ad σ c k f :: fvs ad σ c (k + 1) t
    rw [fvs_sJ t (k + 1) h1.2]
    congr 1
    match f, h1.1 with
    | 0, _ => rfl
    | 1, q => exact absurd rfl q
    | 2, _ => rfl
    | n + 3, _ => rfl
theorem wd_sJ {L : List Ck} {ad : Nat → Nat} {cy : Nat → ClassId} {σ : Mm} {c k ci : Nat} {fks : List Nat} {v : Int64} (hc : L[c]? = some (.inl (ci, fks))) (hs : (fvs ad σ c 0 fks).set k (.long v) = fvs ad (sJ σ v) c 0 fks) (hn : ∀ c' K', L[c']? = some K' → c' ≠ c → nJ K' = true) : (wd L ad cy σ).set c (ad c, .inr (ci, (fvs ad σ c 0 fks).set k (.long v))) = wd L ad cy (sJ σ v) := by
  rw [hs]
  exact wd_set (σ' := sJ σ v) hc (fun c' K' hL hne => by
    have h1 := hn c' K' hL hne
    match K', h1 with
    | .inl o, h1 => 
      show Sum.inr (o.1, _) = Sum.inr (o.1, _)
      rw [fvs_sJ o.2 0 (by simpa [nJ] using h1)]
    | .inr (.inl a), _ => rfl
    | .inr (.inr ids), _ => rfl)
-- the class tables, the nest links, the two tables of steps
abbrev tysL (cy : Nat → ClassId) : List (ClassId × FieldType) := [(cy 0, .int), (cy 1, .boolean), (cy 2, .object RX4)]
abbrev NQ : Type := String × Nat × MethodName × String
def NX (U : State) : Prop := ∀ q ∈ nestL, va_Nw (.methodLinkNest q.1 q.2.1 q.2.2.1 q.2.2.2) U
def stepXI (j : Nat) : Int32 := if j = 1 then 1 else if j = 3 then -1 else 0
def stepYI (j : Nat) : Int32 := if j = 0 then -1 else if j = 2 then 1 else 0
def stepX (j : Nat) : Value := .int (stepXI j)
def stepY (j : Nat) : Value := .int (stepYI j)
def SX (A : Nat → Prop) (U : State) (H : Heap) : Prop := ∃ tx ty : Nat, va_Z "TippedBarrow$Ground" "STEP_X" "[I" (.ref tx) A U H ∧ va_T .int tx 4 stepX A U H ∧ va_Z "TippedBarrow$Ground" "STEP_Y" "[I" (.ref ty) A U H ∧ va_T .int ty 4 stepY A U H
def KK (D : va_G) (cy : Nat → ClassId) (U : State) : Prop := va_K D vwCl (tysL cy) U ∧ NX U
def AA (ad : Nat → Nat) (n sz : Nat) : Nat → Prop := fun q => (∃ i, i < n ∧ ad i = q) ∨ sz ≤ q
def Inj (ad : Nat → Nat) (n : Nat) : Prop := ∀ i j, i < n → j < n → ad i = ad j → i = j
theorem NX.moved {s U : State} (hW : s.WarmedH U.vm) (h : NX s) : NX U := fun q hq => va_Nw.warmM hW (h q hq)
theorem NX.same {s U : State} (hW : s.vm = U.vm) (h : NX s) : NX U := fun q hq => va_Nw.same rfl hW (h q hq)
theorem KK.moved {D : va_G} {cy : Nat → ClassId} {s U : State} (hW : s.WarmedH U.vm) (h : KK D cy s) : KK D cy U := ⟨va_K.moved hW.alike h.1, h.2.moved hW⟩
theorem SX.moved {A : Nat → Prop} {u U : State} {H : Heap} (hvm : u.vm.Alike U.vm) (h : SX A u H) : SX A U H := by
  obtain ⟨tx, ty, h1, h2, h3, h4⟩ := h
  exact ⟨tx, ty, h1.moved hvm, h2.moved hvm, h3.moved hvm, h4.moved hvm⟩
theorem SX.kept {A : Nat → Prop} {U : State} {H H1 : Heap} (h : SX A U H) (hq : ∀ a : Nat, a < H.size → ¬ A a → H1[a]? = H[a]?) : SX A U H1 := by
  obtain ⟨tx, ty, h1, h2, h3, h4⟩ := h
  exact ⟨tx, ty, h1.kept hq, h2.kept hq, h3.kept hq, h4.kept hq⟩
theorem SX.narrow {A B : Nat → Prop} {U : State} {H : Heap} (h : SX A U H) (hAB : ∀ q, B q → A q) : SX B U H := by
  obtain ⟨tx, ty, h1, h2, h3, h4⟩ := h
  exact ⟨tx, ty, h1.narrow hAB, h2.narrow hAB, h3.narrow hAB, h4.narrow hAB⟩
theorem wd_D {L : List Ck} {ad : Nat → Nat} {cy : Nat → ClassId} {σ : Mm} {A : Nat → Prop} (hi : Inj ad L.length) (hA : ∀ i, i < L.length → A (ad i)) : va_D A (wd L ad cy σ) := by
  refine ⟨fun i j p q hp hq e => ?_, fun k q hq => ?_⟩
  · obtain ⟨K, h1, rfl⟩ := wd_of hp
    obtain ⟨K', h2, rfl⟩ := wd_of hq
    exact hi i j (List.getElem?_eq_some_iff.mp h1).1 (List.getElem?_eq_some_iff.mp h2).1 e
  · obtain ⟨K, h1, rfl⟩ := wd_of hq
    exact hA k (List.getElem?_eq_some_iff.mp h1).1
-- a method's start and end
def Pz (L : List Ck) (D : va_G) (ad : Nat → Nat) (cy : Nat → ClassId) (σ : Mm) (av : (Nat → Nat) → List Value) (sz : Nat) : Array Value → State → Prop := fun v U => v = (av ad).toArray ∧ U.heap.size = sz ∧ va_P D vwCl (wd L ad cy σ) U.heap ∧ KK D cy U ∧ Inj ad L.length ∧ SX (AA ad L.length sz) U U.heap
def Qz (L : List Ck) (D : va_G) (ad : Nat → Nat) (cy : Nat → ClassId) (σ : Mm) (rv : Option Value) (sz : Nat) : Array Value → State → Outcome → State → Prop := fun _ st o t => o = .returned rv ∧ va_P D vwCl (wd L ad cy σ) t.heap ∧ va_F (AA ad L.length sz) st t
/-- the contract of a method: from the memory σ it comes to σ' with the answer rv -/
def CT (L : List Ck) (y : MethodName) (ws : List Cond) (rm : Room) (av : (Nat → Nat) → List Value) (σ : Mm) (rv : Option Value) (σ' : Mm) : Prop := ∀ (l : Launch) (D : va_G) (ad : Nat → Nat) (cy : Nat → ClassId) (sz : Nat), Met l y ws rm (Pz L D ad cy σ av sz) (Qz L D ad cy σ' rv sz) 0 0 (AA ad L.length sz)
theorem Pz_blind {L : List Ck} {D : va_G} {ad : Nat → Nat} {cy : Nat → ClassId} {σ : Mm} {av : (Nat → Nat) → List Value} {sz : Nat} : FrameBlind (Pz L D ad cy σ av sz) := fun a U g mk h => by
  obtain ⟨h1, h2, h3, h4, h5, h6⟩ := h
  exact ⟨h1, h2, h3, ⟨va_K.moved (u := U) (U := U.calling g mk a) (Vm.Alike.refl U.vm) h4.1, h4.2.same rfl⟩, h5, h6.moved (u := U) (U := U.calling g mk a) (Vm.Alike.refl U.vm)⟩
-- a frame over a memory
def as1 : List (Nat × Value) → Nat → Option Value
  | [], _ => none
  | q :: t, i => match Nat.beq q.1 i with
    | true => some q.2
    | false => as1 t i
def lh (ls : Array Slot) (nL : Nat) (lv : List (Nat × Value)) : Prop := ls.size = nL ∧ lv_wf ls ∧ ∀ i v, as1 lv i = some v → ls[i]? = some (.val v) ∧ v.category = 1
abbrev Cx : Type := Program × Launch × Env × Room × State × MethodId × Array Value × List Frame × Method × Code × (State → Prop) × va_G × (Nat → ClassId) × (Nat → Prop) × Nat × Nat × Nat
/-- 'from any heap that pictures σ, at this place, with these locals and this stack, the run comes to its end' -/
def X (L : List Ck) (Γ : Cx) (ad : Nat → Nat) (σ : Mm) (pc : Nat) (lv : List (Nat × Value)) (st : List Value) : Prop := match Γ with
  | (p, l, e, R, s, m, args, below, meth, c, Q, D, cy, A, nL, cells, slots) => ∀ (H : Heap) (locs : List Loc) (ls : Array Slot), va_P D vwCl (wd L ad cy σ) H → va_S A s.heap H locs → lh ls nL lv → W p l e R s m args below meth c H locs cells slots Q (F0 m pc ls st)
def Ok (L : List Ck) (Γ : Cx) (ad : Nat → Nat) (cc : ByteArray) (nL : Nat) (own : String) (Ts : List Cond) (rm : Room) (rt : Option FieldType) (rv : Option Value) (σr : Mm) : Prop := match Γ with
  | (p, l, e, R, s, m, args, below, meth, c, Q, D, cy, A, nL', cells, slots) => nL' = nL ∧ p.tables.exec = Jvm.exec ∧ c.code = cc ∧ c.maxLocals = nL ∧ s.vm.findClass own = some m.cls ∧ (∀ w ∈ Ts, w.before args s = true) ∧ R = rm ∧ KK D cy s ∧ Inj ad L.length ∧ (∀ i, i < L.length → A (ad i)) ∧ SX A s s.heap ∧ (∀ q, s.heap.size ≤ q → A q) ∧ meth.locks = false ∧ cells ≤ rm.cells ∧ slots ≤ rm.slots ∧ meth.sig.returnType = rt ∧ (∀ (H : Heap) (locs : List Loc) (ls : Array Slot) (pc : Nat), va_P D vwCl (wd L ad cy σr) H → va_S A s.heap H locs → (∀ v, rv = some (.int v) → (∃ ty, rt = some ty ∧ narrow ty (.int v) = .int v) → decode cc pc = .ok (.ireturn, 1) → W p l e R s m args below meth c H locs cells slots Q (F0 m pc ls [.int v])) ∧ (rv = none → rt = none → decode cc pc = .ok (.return_, 1) → W p l e R s m args below meth c H locs cells slots Q (F0 m pc ls [])) ∧ (∀ v, rv = some (.long v) → rt = some .long → decode cc pc = .ok (.lreturn, 1) → W p l e R s m args below meth c H locs cells slots Q (F0 m pc ls [.long v])))
theorem as1_nil (i : Nat) : as1 [] i = none := rfl
theorem as1_self (i : Nat) (v : Value) (lv : List (Nat × Value)) : as1 ((i, v) :: lv) i = some v := by
  show (match Nat.beq i i with | true => some v | false => as1 lv i) = some v
  rw [Nat.beq_refl]
theorem as1_ne {i j : Nat} (v : Value) (lv : List (Nat × Value)) (h : i ≠ j) : as1 ((i, v) :: lv) j = as1 lv j := by
  show (match Nat.beq i j with | true => some v | false => as1 lv j) = as1 lv j
  cases hb : Nat.beq i j with
  | false => rfl
  | true => exact absurd (Nat.eq_of_beq_eq_true hb) h
theorem lh_list {ls : Array Slot} {nL : Nat} {lv : List (Nat × Value)} (h : lh ls nL lv) : lv_has ls nL ((List.range nL).filterMap (fun j => (as1 lv j).map (fun v => (j, v)))) := by
  refine ⟨h.1, h.2.1, fun q hq => ?_⟩
  obtain ⟨j, hj, e⟩ := List.mem_filterMap.mp hq
  cases hv : as1 lv j with
  | none => rw [hv] at e; cases e
  | some v => rw [hv] at e; cases e; exact (h.2.2 j v hv).1
theorem lh_store {ls ls' : Array Slot} {nL : Nat} {lv : List (Nat × Value)} {i : Nat} {v : Value} (h : lh ls nL lv) (hv : v.category = 1) (h' : lv_has ls' nL ((i, v) :: ((List.range nL).filterMap (fun j => (as1 lv j).map (fun v => (j, v)))).filter (fun q => !(q.1 == i) && !(q.1 + 1 == i && q.2.category == 2)))) : lh ls' nL ((i, v) :: lv) := by
  refine ⟨h'.1, h'.2.1, fun j w hw => ?_⟩
  by_cases hj : i = j
  · subst hj
    rw [as1_self] at hw
    cases hw
    exact ⟨h'.2.2 (i, v) List.mem_cons_self, hv⟩
  · rw [as1_ne _ _ hj] at hw
    obtain ⟨h1, h2⟩ := h.2.2 j w hw
    refine ⟨h'.2.2 (j, w) (List.mem_cons_of_mem _ (List.mem_filter.mpr ⟨List.mem_filterMap.mpr ⟨j, ?_, by rw [hw]; rfl⟩, ?_⟩)), h2⟩
    · rw [List.mem_range, ← h.1]
      exact (Array.getElem?_eq_some_iff.mp h1).1
    · have : ¬ j = i := fun e => hj e.symm
      simp [this, h2]
theorem lh_entry {vs : List Value} {n : Nat} (h : (lg_sl vs).length ≤ n) {lv : List (Nat × Value)} (hl : ∀ i v, as1 lv i = some v → (i, v) ∈ lv_args 0 vs ∧ v.category = 1) : lh ((lg_sl vs ++ List.replicate (n - (lg_sl vs).length) Slot.unset).toArray) n lv := by
  have h1 := lv_entry vs h
  exact ⟨h1.1, h1.2.1, fun i v hv => ⟨h1.2.2 (i, v) (hl i v hv).1, (hl i v hv).2⟩⟩
-- pure pieces of the functions that methods compute
def ix {α : Type} (i : Int32) (n : Nat) (K : Nat → Option α) : Option α := if i < 0 then none else if n ≤ i.toNatClampNeg then none else K i.toNatClampNeg
def bd {α β γ : Type} (F : Option (α × β)) (K : α → β → Option γ) : Option γ := match F with
  | none => none
  | some q => K q.1 q.2
def rk {α : Type} (o : Option Nat) (ok : Nat → Bool) (K : Nat → Option α) : Option α := match o with
  | none => none
  | some t => match ok t with
    | true => K t
    | false => none
def rm32 (x y : Int32) : Int32 := x - x / y * y
def lpn {S ρ : Type} (step : S → Option (S ⊕ ρ)) : Nat → S → Option ρ
  | 0, _ => none
  | n + 1, s => match step s with
    | none => none
    | some (.inl s') => lpn step n s'
    | some (.inr r) => some r
def FU : Nat := 100000
def lp {S ρ : Type} (step : S → Option (S ⊕ ρ)) (s : S) : Option ρ := lpn step FU s
def kx {S ρ : Type} (P : S → Prop) (K : ρ → Prop) : S ⊕ ρ → Prop
  | .inl s => P s
  | .inr r => K r
theorem lpX {S ρ : Type} {step : S → Option (S ⊕ ρ)} {P : S → Prop} {K : ρ → Prop} (hs : ∀ s x, step s = some x → kx P K x → P s) (s : S) (r : ρ) (h : lp step s = some r) (hk : K r) : P s := by
  have key : ∀ (n : Nat) (s : S), lpn step n s = some r → P s := by
    intro n
    induction n with
    | zero => intro s h; cases h
    | succ n ih =>
      intro s h
      unfold lpn at h
      cases hx : step s with
      | none => rw [hx] at h; cases h
      | some x =>
        rw [hx] at h
        refine hs s x hx ?_
        match x with
        | .inl s' => exact ih s' h
        | .inr r' => cases h; exact hk
  exact key FU s h
theorem bd_some {α β γ : Type} {F : Option (α × β)} {K : α → β → Option γ} {x : γ} (h : bd F K = some x) : ∃ a b, F = some (a, b) ∧ K a b = some x := by
  unfold bd at h
  cases F with
  | none => cases h
  | some q => exact ⟨q.1, q.2, rfl, h⟩
theorem ix_some {α : Type} {i : Int32} {n : Nat} {K : Nat → Option α} {x : α} (h : ix i n K = some x) : vp_in i n ∧ K i.toNatClampNeg = some x := by
  unfold ix at h
  by_cases h1 : i < 0
  · rw [if_pos h1] at h; cases h
  · rw [if_neg h1] at h
    by_cases h2 : n ≤ i.toNatClampNeg
    · rw [if_pos h2] at h; cases h
    · rw [if_neg h2] at h
      exact ⟨fun q => q.elim h1 h2, h⟩
theorem rk_some {α : Type} {o : Option Nat} {ok : Nat → Bool} {K : Nat → Option α} {x : α} (h : rk o ok K = some x) : ∃ t, o = some t ∧ ok t = true ∧ K t = some x := by
  unfold rk at h
  cases o with
  | none => cases h
  | some t =>
    cases hk : ok t with
    | false => simp only [hk] at h; cases h
    | true => simp only [hk] at h; exact ⟨t, rfl, hk, h⟩
theorem map_inr {S ρ : Type} {o : Option ρ} {x : S ⊕ ρ} (h : o.map Sum.inr = some x) : ∃ r, o = some r ∧ x = .inr r := by
  cases o with
  | none => cases h
  | some r => exact ⟨r, rfl, (Option.some.inj h).symm⟩
def fk (L : List Ck) (c k : Nat) : Option (Nat × Nat) := match L[c]? with
  | some (.inl o) => (o.2[k]?).map (fun f => (o.1, f))
  | _ => none
theorem fk_spec {L : List Ck} {c k ci f : Nat} (h : fk L c k = some (ci, f)) : ∃ fks, L[c]? = some (.inl (ci, fks)) ∧ fks[k]? = some f := by
  unfold fk at h
  split at h
  · rename_i o ho
    cases h2 : o.2[k]? with
    | none => rw [h2] at h; cases h
    | some f' =>
      rw [h2] at h
      have h3 := Option.some.inj h
      refine ⟨o.2, ?_, ?_⟩
      · rw [ho]
        have h4 : o.1 = ci := congrArg Prod.fst h3
        rw [← h4]
      · have h5 : f' = f := congrArg Prod.snd h3
        rw [h2, h5]
  · cases h
theorem fk_of {L : List Ck} {c k ci f : Nat} {fks : List Nat} (h : L[c]? = some (.inl (ci, fks))) (hk : fks[k]? = some f) : fk L c k = some (ci, f) := by
  unfold fk
  rw [h]
  show (fks[k]?).map _ = _
  rw [hk]
  rfl
/-- a field's words, in a method -/
def Fl (own : String) (Ts : List Cond) (index ci k : Nat) (fin : Bool) (ty : FieldType) : Prop := ∃ (C : String) (T : u_T) (N : Nat) (ty0 : Nat → FieldType), vwCl[ci]? = some (C, T, N) ∧ (∀ w ∈ u_ws C T N, w ∈ Ts) ∧ k < N ∧ Cond.fieldLink own index (T k).1 (T k).2.1 (T k).2.2.1 ∈ Ts ∧ (∀ k, k < N → parseFieldDescriptor (T k).2.2.1 = some (ty0 k)) ∧ (∀ a, a < N → ∀ b, b < N → a ≠ b → (T a).2.1 ≠ (T b).2.1) ∧ (T k).2.2.2 = fin ∧ parseFieldDescriptor (T k).2.2.1 = some ty
def Ca (y : MethodName) (bytes : ByteArray) (maxL : Nat) (ret : Option FieldType) (ws : List Cond) (rm : Room) (n : Nat) : Prop := (∃ ws', ws = Cond.code y bytes maxL ret :: ws') ∧ rm.cells = 0 ∧ rm.slots = 0 ∧ y.cls ≠ "java/lang/invoke/MethodHandle" ∧ y.cls ≠ "java/lang/invoke/VarHandle" ∧ (parseMethodDescriptor y.desc).map (fun d => d.parameters.length) = some n
theorem x_iconst {L : List Ck} {Γ : Cx} {ad : Nat → Nat} {cc : ByteArray} {nL : Nat} {own : String} {Ts : List Cond} {rm : Room} {rt : Option FieldType} {rv : Option Value} {σr : Mm} (O : Ok L Γ ad cc nL own Ts rm rt rv σr) {σ : Mm} {pc : Nat} {lv : List (Nat × Value)} {st : List Value} {n : Int} {v : Int32} (hd : decode cc pc = .ok ((.iconst n), 1)) (hv : Int32.ofInt n = v) (kk : X L Γ ad σ (pc + 1) lv (.int v :: st)) : X L Γ ad σ pc lv st := by
  obtain ⟨p, l, e, R, s, m, args, below, meth, cd, Q, D, cy, A, nL', cells, slots⟩ := Γ
  obtain ⟨rfl, hx, hb, hml, hown, hts, rfl, hK, hI, hA, hSX, hA2, hlk, hce, hsl, hrt, hret⟩ := O
  intro H locs ls hP hS hl
  exact lv_iconst hx hb hd hv (kk H locs ls hP hS hl)
theorem x_bipush {L : List Ck} {Γ : Cx} {ad : Nat → Nat} {cc : ByteArray} {nL : Nat} {own : String} {Ts : List Cond} {rm : Room} {rt : Option FieldType} {rv : Option Value} {σr : Mm} (O : Ok L Γ ad cc nL own Ts rm rt rv σr) {σ : Mm} {pc : Nat} {lv : List (Nat × Value)} {st : List Value} {n : Int} {v : Int32} (hd : decode cc pc = .ok ((.bipush n), 2)) (hv : (Int8.ofInt n).toInt32 = v) (kk : X L Γ ad σ (pc + 2) lv (.int v :: st)) : X L Γ ad σ pc lv st := by
  obtain ⟨p, l, e, R, s, m, args, below, meth, cd, Q, D, cy, A, nL', cells, slots⟩ := Γ
  obtain ⟨rfl, hx, hb, hml, hown, hts, rfl, hK, hI, hA, hSX, hA2, hlk, hce, hsl, hrt, hret⟩ := O
  intro H locs ls hP hS hl
  exact lv_bipush hx hb hd hv (kk H locs ls hP hS hl)
theorem x_sipush {L : List Ck} {Γ : Cx} {ad : Nat → Nat} {cc : ByteArray} {nL : Nat} {own : String} {Ts : List Cond} {rm : Room} {rt : Option FieldType} {rv : Option Value} {σr : Mm} (O : Ok L Γ ad cc nL own Ts rm rt rv σr) {σ : Mm} {pc : Nat} {lv : List (Nat × Value)} {st : List Value} {n : Int} {v : Int32} (hd : decode cc pc = .ok ((.sipush n), 3)) (hv : (Int16.ofInt n).toInt32 = v) (kk : X L Γ ad σ (pc + 3) lv (.int v :: st)) : X L Γ ad σ pc lv st := by
  obtain ⟨p, l, e, R, s, m, args, below, meth, cd, Q, D, cy, A, nL', cells, slots⟩ := Γ
  obtain ⟨rfl, hx, hb, hml, hown, hts, rfl, hK, hI, hA, hSX, hA2, hlk, hce, hsl, hrt, hret⟩ := O
  intro H locs ls hP hS hl
  exact lv_sipush hx hb hd hv (kk H locs ls hP hS hl)
theorem x_lconst {L : List Ck} {Γ : Cx} {ad : Nat → Nat} {cc : ByteArray} {nL : Nat} {own : String} {Ts : List Cond} {rm : Room} {rt : Option FieldType} {rv : Option Value} {σr : Mm} (O : Ok L Γ ad cc nL own Ts rm rt rv σr) {σ : Mm} {pc : Nat} {lv : List (Nat × Value)} {st : List Value} {n : Fin 2} {v : Int64} (hd : decode cc pc = .ok ((.lconst n), 1)) (hv : Int64.ofNat (n : Nat) = v) (kk : X L Γ ad σ (pc + 1) lv (.long v :: st)) : X L Γ ad σ pc lv st := by
  obtain ⟨p, l, e, R, s, m, args, below, meth, cd, Q, D, cy, A, nL', cells, slots⟩ := Γ
  obtain ⟨rfl, hx, hb, hml, hown, hts, rfl, hK, hI, hA, hSX, hA2, hlk, hce, hsl, hrt, hret⟩ := O
  intro H locs ls hP hS hl
  exact lv_lconst hx hb hd hv (kk H locs ls hP hS hl)
theorem x_ldc {L : List Ck} {Γ : Cx} {ad : Nat → Nat} {cc : ByteArray} {nL : Nat} {own : String} {Ts : List Cond} {rm : Room} {rt : Option FieldType} {rv : Option Value} {σr : Mm} (O : Ok L Γ ad cc nL own Ts rm rt rv σr) {σ : Mm} {pc : Nat} {lv : List (Nat × Value)} {st : List Value} {index : Nat} {v : Int32} (hm : Cond.constant own index v ∈ Ts) (hd : decode cc pc = .ok (.ldc index, 2)) (kk : X L Γ ad σ (pc + 2) lv (.int v :: st)) : X L Γ ad σ pc lv st := by
  obtain ⟨p, l, e, R, s, m, args, below, meth, cd, Q, D, cy, A, nL', cells, slots⟩ := Γ
  obtain ⟨rfl, hx, hb, hml, hown, hts, rfl, hK, hI, hA, hSX, hA2, hlk, hce, hsl, hrt, hret⟩ := O
  intro H locs ls hP hS hl
  exact lv_ldc hx hb hown (hts _ hm) hd (kk H locs ls hP hS hl)
theorem x_ldc2 {L : List Ck} {Γ : Cx} {ad : Nat → Nat} {cc : ByteArray} {nL : Nat} {own : String} {Ts : List Cond} {rm : Room} {rt : Option FieldType} {rv : Option Value} {σr : Mm} (O : Ok L Γ ad cc nL own Ts rm rt rv σr) {σ : Mm} {pc : Nat} {lv : List (Nat × Value)} {st : List Value} {index : Nat} {v : Int64} (hm : Cond.constantLong own index v ∈ Ts) (hd : decode cc pc = .ok (.ldc2_w index, 3)) (kk : X L Γ ad σ (pc + 3) lv (.long v :: st)) : X L Γ ad σ pc lv st := by
  obtain ⟨p, l, e, R, s, m, args, below, meth, cd, Q, D, cy, A, nL', cells, slots⟩ := Γ
  obtain ⟨rfl, hx, hb, hml, hown, hts, rfl, hK, hI, hA, hSX, hA2, hlk, hce, hsl, hrt, hret⟩ := O
  intro H locs ls hP hS hl
  exact lv_ldc2 hx hb hown (hts _ hm) hd (kk H locs ls hP hS hl)
theorem x_iload_n {L : List Ck} {Γ : Cx} {ad : Nat → Nat} {cc : ByteArray} {nL : Nat} {own : String} {Ts : List Cond} {rm : Room} {rt : Option FieldType} {rv : Option Value} {σr : Mm} (O : Ok L Γ ad cc nL own Ts rm rt rv σr) {σ : Mm} {pc : Nat} {lv : List (Nat × Value)} {st : List Value} (i : Nat) {k : Fin 4} {x : Int32} (hd : decode cc pc = .ok (.iload_n k, 1)) (hi : (k : Nat) = i) (hv : as1 lv i = some (.int x)) (kk : X L Γ ad σ (pc + 1) lv (.int x :: st)) : X L Γ ad σ pc lv st := by
  obtain ⟨p, l, e, R, s, m, args, below, meth, cd, Q, D, cy, A, nL', cells, slots⟩ := Γ
  obtain ⟨rfl, hx, hb, hml, hown, hts, rfl, hK, hI, hA, hSX, hA2, hlk, hce, hsl, hrt, hret⟩ := O
  intro H locs ls hP hS hl
  exact lv_iload_n hx hb hd hi (hl.2.2 i _ hv).1 (kk H locs ls hP hS hl)
theorem x_iload {L : List Ck} {Γ : Cx} {ad : Nat → Nat} {cc : ByteArray} {nL : Nat} {own : String} {Ts : List Cond} {rm : Room} {rt : Option FieldType} {rv : Option Value} {σr : Mm} (O : Ok L Γ ad cc nL own Ts rm rt rv σr) {σ : Mm} {pc : Nat} {lv : List (Nat × Value)} {st : List Value} {i : Nat} {x : Int32} (hd : decode cc pc = .ok (.iload i, 2)) (hv : as1 lv i = some (.int x)) (kk : X L Γ ad σ (pc + 2) lv (.int x :: st)) : X L Γ ad σ pc lv st := by
  obtain ⟨p, l, e, R, s, m, args, below, meth, cd, Q, D, cy, A, nL', cells, slots⟩ := Γ
  obtain ⟨rfl, hx, hb, hml, hown, hts, rfl, hK, hI, hA, hSX, hA2, hlk, hce, hsl, hrt, hret⟩ := O
  intro H locs ls hP hS hl
  exact lv_iload hx hb hd (hl.2.2 i _ hv).1 (kk H locs ls hP hS hl)
theorem x_istore_n {L : List Ck} {Γ : Cx} {ad : Nat → Nat} {cc : ByteArray} {nL : Nat} {own : String} {Ts : List Cond} {rm : Room} {rt : Option FieldType} {rv : Option Value} {σr : Mm} (O : Ok L Γ ad cc nL own Ts rm rt rv σr) {σ : Mm} {pc : Nat} {lv : List (Nat × Value)} {st : List Value} (i : Nat) {k : Fin 4} {x : Int32} (hd : decode cc pc = .ok (.istore_n k, 1)) (hi : (k : Nat) = i) (hn : i < nL) (kk : X L Γ ad σ (pc + 1) ((i, .int x) :: lv) st) : X L Γ ad σ pc lv (.int x :: st) := by
  obtain ⟨p, l, e, R, s, m, args, below, meth, cd, Q, D, cy, A, nL', cells, slots⟩ := Γ
  obtain ⟨rfl, hx, hb, hml, hown, hts, rfl, hK, hI, hA, hSX, hA2, hlk, hce, hsl, hrt, hret⟩ := O
  intro H locs ls hP hS hl
  exact lv_istore_n hx hb hd hi (lh_list hl) hn rfl (fun ls' hl' => kk H locs ls' hP hS (lh_store hl rfl hl'))
theorem x_istore {L : List Ck} {Γ : Cx} {ad : Nat → Nat} {cc : ByteArray} {nL : Nat} {own : String} {Ts : List Cond} {rm : Room} {rt : Option FieldType} {rv : Option Value} {σr : Mm} (O : Ok L Γ ad cc nL own Ts rm rt rv σr) {σ : Mm} {pc : Nat} {lv : List (Nat × Value)} {st : List Value} {i : Nat} {x : Int32} (hd : decode cc pc = .ok (.istore i, 2)) (hn : i < nL) (kk : X L Γ ad σ (pc + 2) ((i, .int x) :: lv) st) : X L Γ ad σ pc lv (.int x :: st) := by
  obtain ⟨p, l, e, R, s, m, args, below, meth, cd, Q, D, cy, A, nL', cells, slots⟩ := Γ
  obtain ⟨rfl, hx, hb, hml, hown, hts, rfl, hK, hI, hA, hSX, hA2, hlk, hce, hsl, hrt, hret⟩ := O
  intro H locs ls hP hS hl
  exact lv_istore hx hb hd (lh_list hl) hn rfl (fun ls' hl' => kk H locs ls' hP hS (lh_store hl rfl hl'))
theorem x_aload_n {L : List Ck} {Γ : Cx} {ad : Nat → Nat} {cc : ByteArray} {nL : Nat} {own : String} {Ts : List Cond} {rm : Room} {rt : Option FieldType} {rv : Option Value} {σr : Mm} (O : Ok L Γ ad cc nL own Ts rm rt rv σr) {σ : Mm} {pc : Nat} {lv : List (Nat × Value)} {st : List Value} (i : Nat) {k : Fin 4} {x : Nat} (hd : decode cc pc = .ok (.aload_n k, 1)) (hi : (k : Nat) = i) (hv : as1 lv i = some (.ref x)) (kk : X L Γ ad σ (pc + 1) lv (.ref x :: st)) : X L Γ ad σ pc lv st := by
  obtain ⟨p, l, e, R, s, m, args, below, meth, cd, Q, D, cy, A, nL', cells, slots⟩ := Γ
  obtain ⟨rfl, hx, hb, hml, hown, hts, rfl, hK, hI, hA, hSX, hA2, hlk, hce, hsl, hrt, hret⟩ := O
  intro H locs ls hP hS hl
  exact lv_aload_n hx hb hd hi (hl.2.2 i _ hv).1 (kk H locs ls hP hS hl)
theorem x_aload {L : List Ck} {Γ : Cx} {ad : Nat → Nat} {cc : ByteArray} {nL : Nat} {own : String} {Ts : List Cond} {rm : Room} {rt : Option FieldType} {rv : Option Value} {σr : Mm} (O : Ok L Γ ad cc nL own Ts rm rt rv σr) {σ : Mm} {pc : Nat} {lv : List (Nat × Value)} {st : List Value} {i : Nat} {x : Nat} (hd : decode cc pc = .ok (.aload i, 2)) (hv : as1 lv i = some (.ref x)) (kk : X L Γ ad σ (pc + 2) lv (.ref x :: st)) : X L Γ ad σ pc lv st := by
  obtain ⟨p, l, e, R, s, m, args, below, meth, cd, Q, D, cy, A, nL', cells, slots⟩ := Γ
  obtain ⟨rfl, hx, hb, hml, hown, hts, rfl, hK, hI, hA, hSX, hA2, hlk, hce, hsl, hrt, hret⟩ := O
  intro H locs ls hP hS hl
  exact lv_aload hx hb hd (hl.2.2 i _ hv).1 (kk H locs ls hP hS hl)
theorem x_astore_n {L : List Ck} {Γ : Cx} {ad : Nat → Nat} {cc : ByteArray} {nL : Nat} {own : String} {Ts : List Cond} {rm : Room} {rt : Option FieldType} {rv : Option Value} {σr : Mm} (O : Ok L Γ ad cc nL own Ts rm rt rv σr) {σ : Mm} {pc : Nat} {lv : List (Nat × Value)} {st : List Value} (i : Nat) {k : Fin 4} {x : Nat} (hd : decode cc pc = .ok (.astore_n k, 1)) (hi : (k : Nat) = i) (hn : i < nL) (kk : X L Γ ad σ (pc + 1) ((i, .ref x) :: lv) st) : X L Γ ad σ pc lv (.ref x :: st) := by
  obtain ⟨p, l, e, R, s, m, args, below, meth, cd, Q, D, cy, A, nL', cells, slots⟩ := Γ
  obtain ⟨rfl, hx, hb, hml, hown, hts, rfl, hK, hI, hA, hSX, hA2, hlk, hce, hsl, hrt, hret⟩ := O
  intro H locs ls hP hS hl
  exact lv_astore_n hx hb hd hi (lh_list hl) hn rfl (fun ls' hl' => kk H locs ls' hP hS (lh_store hl rfl hl'))
theorem x_astore {L : List Ck} {Γ : Cx} {ad : Nat → Nat} {cc : ByteArray} {nL : Nat} {own : String} {Ts : List Cond} {rm : Room} {rt : Option FieldType} {rv : Option Value} {σr : Mm} (O : Ok L Γ ad cc nL own Ts rm rt rv σr) {σ : Mm} {pc : Nat} {lv : List (Nat × Value)} {st : List Value} {i : Nat} {x : Nat} (hd : decode cc pc = .ok (.astore i, 2)) (hn : i < nL) (kk : X L Γ ad σ (pc + 2) ((i, .ref x) :: lv) st) : X L Γ ad σ pc lv (.ref x :: st) := by
  obtain ⟨p, l, e, R, s, m, args, below, meth, cd, Q, D, cy, A, nL', cells, slots⟩ := Γ
  obtain ⟨rfl, hx, hb, hml, hown, hts, rfl, hK, hI, hA, hSX, hA2, hlk, hce, hsl, hrt, hret⟩ := O
  intro H locs ls hP hS hl
  exact lv_astore hx hb hd (lh_list hl) hn rfl (fun ls' hl' => kk H locs ls' hP hS (lh_store hl rfl hl'))
theorem x_iinc {L : List Ck} {Γ : Cx} {ad : Nat → Nat} {cc : ByteArray} {nL : Nat} {own : String} {Ts : List Cond} {rm : Room} {rt : Option FieldType} {rv : Option Value} {σr : Mm} (O : Ok L Γ ad cc nL own Ts rm rt rv σr) {σ : Mm} {pc : Nat} {lv : List (Nat × Value)} {st : List Value} {i : Nat} {n : Int} {x w : Int32} (hd : decode cc pc = .ok (.iinc i n, 3)) (hv : as1 lv i = some (.int x)) (hw : x + Int32.ofInt n = w) (hn : i < nL) (kk : X L Γ ad σ (pc + 3) ((i, .int w) :: lv) st) : X L Γ ad σ pc lv st := by
  obtain ⟨p, l, e, R, s, m, args, below, meth, cd, Q, D, cy, A, nL', cells, slots⟩ := Γ
  obtain ⟨rfl, hx, hb, hml, hown, hts, rfl, hK, hI, hA, hSX, hA2, hlk, hce, hsl, hrt, hret⟩ := O
  intro H locs ls hP hS hl
  have hl2 := lh_list hl
  have hmem : (i, Value.int x) ∈ (List.range nL').filterMap (fun j => (as1 lv j).map (fun v => (j, v))) := List.mem_filterMap.mpr ⟨i, by rw [List.mem_range, ← hl.1]; exact (Array.getElem?_eq_some_iff.mp (hl.2.2 i _ hv).1).1, by rw [hv]; rfl⟩
  obtain ⟨k, hk⟩ := List.getElem?_of_mem hmem
  exact lv_iinc (k := k) hx hb hd hl2 hk hw hn rfl (fun ls' hl' => kk H locs ls' hP hS (lh_store hl rfl hl'))
theorem x_iadd {L : List Ck} {Γ : Cx} {ad : Nat → Nat} {cc : ByteArray} {nL : Nat} {own : String} {Ts : List Cond} {rm : Room} {rt : Option FieldType} {rv : Option Value} {σr : Mm} (O : Ok L Γ ad cc nL own Ts rm rt rv σr) {σ : Mm} {pc : Nat} {lv : List (Nat × Value)} {st : List Value} {x y : Int32} (hd : decode cc pc = .ok (.iadd, 1))  (kk : X L Γ ad σ (pc + 1) lv (.int (x + y) :: st)) : X L Γ ad σ pc lv (.int y :: .int x :: st) := by
  obtain ⟨p, l, e, R, s, m, args, below, meth, cd, Q, D, cy, A, nL', cells, slots⟩ := Γ
  obtain ⟨rfl, hx, hb, hml, hown, hts, rfl, hK, hI, hA, hSX, hA2, hlk, hce, hsl, hrt, hret⟩ := O
  intro H locs ls hP hS hl
  exact lv_iadd hx hb hd  (kk H locs ls hP hS hl)
theorem x_isub {L : List Ck} {Γ : Cx} {ad : Nat → Nat} {cc : ByteArray} {nL : Nat} {own : String} {Ts : List Cond} {rm : Room} {rt : Option FieldType} {rv : Option Value} {σr : Mm} (O : Ok L Γ ad cc nL own Ts rm rt rv σr) {σ : Mm} {pc : Nat} {lv : List (Nat × Value)} {st : List Value} {x y : Int32} (hd : decode cc pc = .ok (.isub, 1))  (kk : X L Γ ad σ (pc + 1) lv (.int (x - y) :: st)) : X L Γ ad σ pc lv (.int y :: .int x :: st) := by
  obtain ⟨p, l, e, R, s, m, args, below, meth, cd, Q, D, cy, A, nL', cells, slots⟩ := Γ
  obtain ⟨rfl, hx, hb, hml, hown, hts, rfl, hK, hI, hA, hSX, hA2, hlk, hce, hsl, hrt, hret⟩ := O
  intro H locs ls hP hS hl
  exact lv_isub hx hb hd  (kk H locs ls hP hS hl)
theorem x_imul {L : List Ck} {Γ : Cx} {ad : Nat → Nat} {cc : ByteArray} {nL : Nat} {own : String} {Ts : List Cond} {rm : Room} {rt : Option FieldType} {rv : Option Value} {σr : Mm} (O : Ok L Γ ad cc nL own Ts rm rt rv σr) {σ : Mm} {pc : Nat} {lv : List (Nat × Value)} {st : List Value} {x y : Int32} (hd : decode cc pc = .ok (.imul, 1))  (kk : X L Γ ad σ (pc + 1) lv (.int (x * y) :: st)) : X L Γ ad σ pc lv (.int y :: .int x :: st) := by
  obtain ⟨p, l, e, R, s, m, args, below, meth, cd, Q, D, cy, A, nL', cells, slots⟩ := Γ
  obtain ⟨rfl, hx, hb, hml, hown, hts, rfl, hK, hI, hA, hSX, hA2, hlk, hce, hsl, hrt, hret⟩ := O
  intro H locs ls hP hS hl
  exact lv_imul hx hb hd  (kk H locs ls hP hS hl)
theorem x_iand {L : List Ck} {Γ : Cx} {ad : Nat → Nat} {cc : ByteArray} {nL : Nat} {own : String} {Ts : List Cond} {rm : Room} {rt : Option FieldType} {rv : Option Value} {σr : Mm} (O : Ok L Γ ad cc nL own Ts rm rt rv σr) {σ : Mm} {pc : Nat} {lv : List (Nat × Value)} {st : List Value} {x y : Int32} (hd : decode cc pc = .ok (.iand, 1))  (kk : X L Γ ad σ (pc + 1) lv (.int (x &&& y) :: st)) : X L Γ ad σ pc lv (.int y :: .int x :: st) := by
  obtain ⟨p, l, e, R, s, m, args, below, meth, cd, Q, D, cy, A, nL', cells, slots⟩ := Γ
  obtain ⟨rfl, hx, hb, hml, hown, hts, rfl, hK, hI, hA, hSX, hA2, hlk, hce, hsl, hrt, hret⟩ := O
  intro H locs ls hP hS hl
  exact lv_iand hx hb hd  (kk H locs ls hP hS hl)
theorem x_ior {L : List Ck} {Γ : Cx} {ad : Nat → Nat} {cc : ByteArray} {nL : Nat} {own : String} {Ts : List Cond} {rm : Room} {rt : Option FieldType} {rv : Option Value} {σr : Mm} (O : Ok L Γ ad cc nL own Ts rm rt rv σr) {σ : Mm} {pc : Nat} {lv : List (Nat × Value)} {st : List Value} {x y : Int32} (hd : decode cc pc = .ok (.ior, 1))  (kk : X L Γ ad σ (pc + 1) lv (.int (x ||| y) :: st)) : X L Γ ad σ pc lv (.int y :: .int x :: st) := by
  obtain ⟨p, l, e, R, s, m, args, below, meth, cd, Q, D, cy, A, nL', cells, slots⟩ := Γ
  obtain ⟨rfl, hx, hb, hml, hown, hts, rfl, hK, hI, hA, hSX, hA2, hlk, hce, hsl, hrt, hret⟩ := O
  intro H locs ls hP hS hl
  exact lv_ior hx hb hd  (kk H locs ls hP hS hl)
theorem x_ishl {L : List Ck} {Γ : Cx} {ad : Nat → Nat} {cc : ByteArray} {nL : Nat} {own : String} {Ts : List Cond} {rm : Room} {rt : Option FieldType} {rv : Option Value} {σr : Mm} (O : Ok L Γ ad cc nL own Ts rm rt rv σr) {σ : Mm} {pc : Nat} {lv : List (Nat × Value)} {st : List Value} {x y : Int32} (hd : decode cc pc = .ok (.ishl, 1))  (kk : X L Γ ad σ (pc + 1) lv (.int (x <<< (y &&& 31)) :: st)) : X L Γ ad σ pc lv (.int y :: .int x :: st) := by
  obtain ⟨p, l, e, R, s, m, args, below, meth, cd, Q, D, cy, A, nL', cells, slots⟩ := Γ
  obtain ⟨rfl, hx, hb, hml, hown, hts, rfl, hK, hI, hA, hSX, hA2, hlk, hce, hsl, hrt, hret⟩ := O
  intro H locs ls hP hS hl
  exact lv_ishl hx hb hd  (kk H locs ls hP hS hl)
theorem x_ishr {L : List Ck} {Γ : Cx} {ad : Nat → Nat} {cc : ByteArray} {nL : Nat} {own : String} {Ts : List Cond} {rm : Room} {rt : Option FieldType} {rv : Option Value} {σr : Mm} (O : Ok L Γ ad cc nL own Ts rm rt rv σr) {σ : Mm} {pc : Nat} {lv : List (Nat × Value)} {st : List Value} {x y : Int32} (hd : decode cc pc = .ok (.ishr, 1))  (kk : X L Γ ad σ (pc + 1) lv (.int (x >>> (y &&& 31)) :: st)) : X L Γ ad σ pc lv (.int y :: .int x :: st) := by
  obtain ⟨p, l, e, R, s, m, args, below, meth, cd, Q, D, cy, A, nL', cells, slots⟩ := Γ
  obtain ⟨rfl, hx, hb, hml, hown, hts, rfl, hK, hI, hA, hSX, hA2, hlk, hce, hsl, hrt, hret⟩ := O
  intro H locs ls hP hS hl
  exact lv_ishr hx hb hd  (kk H locs ls hP hS hl)
theorem x_ineg {L : List Ck} {Γ : Cx} {ad : Nat → Nat} {cc : ByteArray} {nL : Nat} {own : String} {Ts : List Cond} {rm : Room} {rt : Option FieldType} {rv : Option Value} {σr : Mm} (O : Ok L Γ ad cc nL own Ts rm rt rv σr) {σ : Mm} {pc : Nat} {lv : List (Nat × Value)} {st : List Value} {x : Int32} (hd : decode cc pc = .ok (.ineg, 1))  (kk : X L Γ ad σ (pc + 1) lv (.int (-x) :: st)) : X L Γ ad σ pc lv (.int x :: st) := by
  obtain ⟨p, l, e, R, s, m, args, below, meth, cd, Q, D, cy, A, nL', cells, slots⟩ := Γ
  obtain ⟨rfl, hx, hb, hml, hown, hts, rfl, hK, hI, hA, hSX, hA2, hlk, hce, hsl, hrt, hret⟩ := O
  intro H locs ls hP hS hl
  exact lv_ineg hx hb hd  (kk H locs ls hP hS hl)
theorem x_ladd {L : List Ck} {Γ : Cx} {ad : Nat → Nat} {cc : ByteArray} {nL : Nat} {own : String} {Ts : List Cond} {rm : Room} {rt : Option FieldType} {rv : Option Value} {σr : Mm} (O : Ok L Γ ad cc nL own Ts rm rt rv σr) {σ : Mm} {pc : Nat} {lv : List (Nat × Value)} {st : List Value} {x y : Int64} (hd : decode cc pc = .ok (.ladd, 1))  (kk : X L Γ ad σ (pc + 1) lv (.long (x + y) :: st)) : X L Γ ad σ pc lv (.long y :: .long x :: st) := by
  obtain ⟨p, l, e, R, s, m, args, below, meth, cd, Q, D, cy, A, nL', cells, slots⟩ := Γ
  obtain ⟨rfl, hx, hb, hml, hown, hts, rfl, hK, hI, hA, hSX, hA2, hlk, hce, hsl, hrt, hret⟩ := O
  intro H locs ls hP hS hl
  exact lv_ladd hx hb hd  (kk H locs ls hP hS hl)
theorem x_idiv {L : List Ck} {Γ : Cx} {ad : Nat → Nat} {cc : ByteArray} {nL : Nat} {own : String} {Ts : List Cond} {rm : Room} {rt : Option FieldType} {rv : Option Value} {σr : Mm} (O : Ok L Γ ad cc nL own Ts rm rt rv σr) {σ : Mm} {pc : Nat} {lv : List (Nat × Value)} {st : List Value} {x y : Int32} {α : Type} {F : Option α} {r : α} (hf : (if y = 0 then none else F) = some r) (hd : decode cc pc = .ok (.idiv, 1)) (kk : F = some r → X L Γ ad σ (pc + 1) lv (.int (x / y) :: st)) : X L Γ ad σ pc lv (.int y :: .int x :: st) := by
  obtain ⟨p, l, e, R, s, m, args, below, meth, cd, Q, D, cy, A, nL', cells, slots⟩ := Γ
  obtain ⟨rfl, hx, hb, hml, hown, hts, rfl, hK, hI, hA, hSX, hA2, hlk, hce, hsl, hrt, hret⟩ := O
  intro H locs ls hP hS hl
  by_cases h0 : y = 0
  · rw [if_pos h0] at hf; cases hf
  · rw [if_neg h0] at hf
    exact lv_idiv hx hb hd h0 (kk hf H locs ls hP hS hl)
theorem x_idivK {L : List Ck} {Γ : Cx} {ad : Nat → Nat} {cc : ByteArray} {nL : Nat} {own : String} {Ts : List Cond} {rm : Room} {rt : Option FieldType} {rv : Option Value} {σr : Mm} (O : Ok L Γ ad cc nL own Ts rm rt rv σr) {σ : Mm} {pc : Nat} {lv : List (Nat × Value)} {st : List Value} {x y : Int32} (h0 : ¬ y = 0) (hd : decode cc pc = .ok (.idiv, 1)) (kk : X L Γ ad σ (pc + 1) lv (.int (x / y) :: st)) : X L Γ ad σ pc lv (.int y :: .int x :: st) := by
  obtain ⟨p, l, e, R, s, m, args, below, meth, cd, Q, D, cy, A, nL', cells, slots⟩ := Γ
  obtain ⟨rfl, hx, hb, hml, hown, hts, rfl, hK, hI, hA, hSX, hA2, hlk, hce, hsl, hrt, hret⟩ := O
  intro H locs ls hP hS hl
  exact lv_idiv hx hb hd h0 (kk H locs ls hP hS hl)
theorem x_irem {L : List Ck} {Γ : Cx} {ad : Nat → Nat} {cc : ByteArray} {nL : Nat} {own : String} {Ts : List Cond} {rm : Room} {rt : Option FieldType} {rv : Option Value} {σr : Mm} (O : Ok L Γ ad cc nL own Ts rm rt rv σr) {σ : Mm} {pc : Nat} {lv : List (Nat × Value)} {st : List Value} {x y : Int32} {α : Type} {F : Option α} {r : α} (hf : (if y = 0 then none else F) = some r) (hd : decode cc pc = .ok (.irem, 1)) (kk : F = some r → X L Γ ad σ (pc + 1) lv (.int (rm32 x y) :: st)) : X L Γ ad σ pc lv (.int y :: .int x :: st) := by
  obtain ⟨p, l, e, R, s, m, args, below, meth, cd, Q, D, cy, A, nL', cells, slots⟩ := Γ
  obtain ⟨rfl, hx, hb, hml, hown, hts, rfl, hK, hI, hA, hSX, hA2, hlk, hce, hsl, hrt, hret⟩ := O
  intro H locs ls hP hS hl
  by_cases h0 : y = 0
  · rw [if_pos h0] at hf; cases hf
  · rw [if_neg h0] at hf
    exact lv_irem hx hb hd h0 (kk hf H locs ls hP hS hl)
theorem x_iremK {L : List Ck} {Γ : Cx} {ad : Nat → Nat} {cc : ByteArray} {nL : Nat} {own : String} {Ts : List Cond} {rm : Room} {rt : Option FieldType} {rv : Option Value} {σr : Mm} (O : Ok L Γ ad cc nL own Ts rm rt rv σr) {σ : Mm} {pc : Nat} {lv : List (Nat × Value)} {st : List Value} {x y : Int32} (h0 : ¬ y = 0) (hd : decode cc pc = .ok (.irem, 1)) (kk : X L Γ ad σ (pc + 1) lv (.int (rm32 x y) :: st)) : X L Γ ad σ pc lv (.int y :: .int x :: st) := by
  obtain ⟨p, l, e, R, s, m, args, below, meth, cd, Q, D, cy, A, nL', cells, slots⟩ := Γ
  obtain ⟨rfl, hx, hb, hml, hown, hts, rfl, hK, hI, hA, hSX, hA2, hlk, hce, hsl, hrt, hret⟩ := O
  intro H locs ls hP hS hl
  exact lv_irem hx hb hd h0 (kk H locs ls hP hS hl)
theorem x_dup {L : List Ck} {Γ : Cx} {ad : Nat → Nat} {cc : ByteArray} {nL : Nat} {own : String} {Ts : List Cond} {rm : Room} {rt : Option FieldType} {rv : Option Value} {σr : Mm} (O : Ok L Γ ad cc nL own Ts rm rt rv σr) {σ : Mm} {pc : Nat} {lv : List (Nat × Value)} {st : List Value} {va : Value} (hd : decode cc pc = .ok (.dup, 1)) (hva : va.category = 1) (kk : X L Γ ad σ (pc + 1) lv (va :: va :: st)) : X L Γ ad σ pc lv (va :: st) := by
  obtain ⟨p, l, e, R, s, m, args, below, meth, cd, Q, D, cy, A, nL', cells, slots⟩ := Γ
  obtain ⟨rfl, hx, hb, hml, hown, hts, rfl, hK, hI, hA, hSX, hA2, hlk, hce, hsl, hrt, hret⟩ := O
  intro H locs ls hP hS hl
  exact lv_dup hx hb hd hva (kk H locs ls hP hS hl)
theorem x_dup2 {L : List Ck} {Γ : Cx} {ad : Nat → Nat} {cc : ByteArray} {nL : Nat} {own : String} {Ts : List Cond} {rm : Room} {rt : Option FieldType} {rv : Option Value} {σr : Mm} (O : Ok L Γ ad cc nL own Ts rm rt rv σr) {σ : Mm} {pc : Nat} {lv : List (Nat × Value)} {st : List Value} {va vb : Value} (hd : decode cc pc = .ok (.dup2, 1)) (hva : va.category = 1) (hvb : vb.category = 1) (kk : X L Γ ad σ (pc + 1) lv (va :: vb :: va :: vb :: st)) : X L Γ ad σ pc lv (va :: vb :: st) := by
  obtain ⟨p, l, e, R, s, m, args, below, meth, cd, Q, D, cy, A, nL', cells, slots⟩ := Γ
  obtain ⟨rfl, hx, hb, hml, hown, hts, rfl, hK, hI, hA, hSX, hA2, hlk, hce, hsl, hrt, hret⟩ := O
  intro H locs ls hP hS hl
  exact lv_dup2_11 hx hb hd hva hvb (kk H locs ls hP hS hl)
theorem x_pop {L : List Ck} {Γ : Cx} {ad : Nat → Nat} {cc : ByteArray} {nL : Nat} {own : String} {Ts : List Cond} {rm : Room} {rt : Option FieldType} {rv : Option Value} {σr : Mm} (O : Ok L Γ ad cc nL own Ts rm rt rv σr) {σ : Mm} {pc : Nat} {lv : List (Nat × Value)} {st : List Value} {va : Value} (hd : decode cc pc = .ok (.pop, 1)) (hva : va.category = 1) (kk : X L Γ ad σ (pc + 1) lv st) : X L Γ ad σ pc lv (va :: st) := by
  obtain ⟨p, l, e, R, s, m, args, below, meth, cd, Q, D, cy, A, nL', cells, slots⟩ := Γ
  obtain ⟨rfl, hx, hb, hml, hown, hts, rfl, hK, hI, hA, hSX, hA2, hlk, hce, hsl, hrt, hret⟩ := O
  intro H locs ls hP hS hl
  exact lv_pop hx hb hd hva (kk H locs ls hP hS hl)
theorem x_if_eq {L : List Ck} {Γ : Cx} {ad : Nat → Nat} {cc : ByteArray} {nL : Nat} {own : String} {Ts : List Cond} {rm : Room} {rt : Option FieldType} {rv : Option Value} {σr : Mm} (O : Ok L Γ ad cc nL own Ts rm rt rv σr) {σ : Mm} {pc : Nat} {lv : List (Nat × Value)} {st : List Value} {x : Int32} {off : Int} (tgt : Nat) {α : Type} {T E : Option α} {r : α} (hf : (if x = 0 then T else E) = some r) (hd : decode cc pc = .ok ((.ifCond .eq off), 3)) (ht : (pc : Int) + off = (tgt : Int)) (kt : T = some r → X L Γ ad σ tgt lv st) (kf : E = some r → X L Γ ad σ (pc + 3) lv st) : X L Γ ad σ pc lv (.int x :: st) := by
  obtain ⟨p, l, e, R, s, m, args, below, meth, cd, Q, D, cy, A, nL', cells, slots⟩ := Γ
  obtain ⟨rfl, hx, hb, hml, hown, hts, rfl, hK, hI, hA, hSX, hA2, hlk, hce, hsl, hrt, hret⟩ := O
  intro H locs ls hP hS hl
  refine lv_if_eq hx hb hd ht (fun h => kt ?_ H locs ls hP hS hl) (fun h => kf ?_ H locs ls hP hS hl)
  · first | (rw [if_pos h] at hf; exact hf) | (rw [if_neg h] at hf; exact hf) | (rw [if_neg (Int32.not_lt.mpr h)] at hf; exact hf) | (rw [if_neg (Int32.not_le.mpr h)] at hf; exact hf)
  · first | (rw [if_pos h] at hf; exact hf) | (rw [if_neg h] at hf; exact hf) | (rw [if_pos (Int32.not_le.mp h)] at hf; exact hf) | (rw [if_pos (Int32.not_lt.mp h)] at hf; exact hf) | (rw [if_pos (Classical.not_not.mp h)] at hf; exact hf)
theorem x_icmp_eq {L : List Ck} {Γ : Cx} {ad : Nat → Nat} {cc : ByteArray} {nL : Nat} {own : String} {Ts : List Cond} {rm : Room} {rt : Option FieldType} {rv : Option Value} {σr : Mm} (O : Ok L Γ ad cc nL own Ts rm rt rv σr) {σ : Mm} {pc : Nat} {lv : List (Nat × Value)} {st : List Value} {x y : Int32} {off : Int} (tgt : Nat) {α : Type} {T E : Option α} {r : α} (hf : (if x = y then T else E) = some r) (hd : decode cc pc = .ok ((.if_icmp .eq off), 3)) (ht : (pc : Int) + off = (tgt : Int)) (kt : T = some r → X L Γ ad σ tgt lv st) (kf : E = some r → X L Γ ad σ (pc + 3) lv st) : X L Γ ad σ pc lv (.int y :: .int x :: st) := by
  obtain ⟨p, l, e, R, s, m, args, below, meth, cd, Q, D, cy, A, nL', cells, slots⟩ := Γ
  obtain ⟨rfl, hx, hb, hml, hown, hts, rfl, hK, hI, hA, hSX, hA2, hlk, hce, hsl, hrt, hret⟩ := O
  intro H locs ls hP hS hl
  refine lv_icmp_eq hx hb hd ht (fun h => kt ?_ H locs ls hP hS hl) (fun h => kf ?_ H locs ls hP hS hl)
  · first | (rw [if_pos h] at hf; exact hf) | (rw [if_neg h] at hf; exact hf) | (rw [if_neg (Int32.not_lt.mpr h)] at hf; exact hf) | (rw [if_neg (Int32.not_le.mpr h)] at hf; exact hf)
  · first | (rw [if_pos h] at hf; exact hf) | (rw [if_neg h] at hf; exact hf) | (rw [if_pos (Int32.not_le.mp h)] at hf; exact hf) | (rw [if_pos (Int32.not_lt.mp h)] at hf; exact hf) | (rw [if_pos (Classical.not_not.mp h)] at hf; exact hf)
theorem x_if_ne {L : List Ck} {Γ : Cx} {ad : Nat → Nat} {cc : ByteArray} {nL : Nat} {own : String} {Ts : List Cond} {rm : Room} {rt : Option FieldType} {rv : Option Value} {σr : Mm} (O : Ok L Γ ad cc nL own Ts rm rt rv σr) {σ : Mm} {pc : Nat} {lv : List (Nat × Value)} {st : List Value} {x : Int32} {off : Int} (tgt : Nat) {α : Type} {T E : Option α} {r : α} (hf : (if x = 0 then E else T) = some r) (hd : decode cc pc = .ok ((.ifCond .ne off), 3)) (ht : (pc : Int) + off = (tgt : Int)) (kt : T = some r → X L Γ ad σ tgt lv st) (kf : E = some r → X L Γ ad σ (pc + 3) lv st) : X L Γ ad σ pc lv (.int x :: st) := by
  obtain ⟨p, l, e, R, s, m, args, below, meth, cd, Q, D, cy, A, nL', cells, slots⟩ := Γ
  obtain ⟨rfl, hx, hb, hml, hown, hts, rfl, hK, hI, hA, hSX, hA2, hlk, hce, hsl, hrt, hret⟩ := O
  intro H locs ls hP hS hl
  refine lv_if_ne hx hb hd ht (fun h => kt ?_ H locs ls hP hS hl) (fun h => kf ?_ H locs ls hP hS hl)
  · first | (rw [if_pos h] at hf; exact hf) | (rw [if_neg h] at hf; exact hf) | (rw [if_neg (Int32.not_lt.mpr h)] at hf; exact hf) | (rw [if_neg (Int32.not_le.mpr h)] at hf; exact hf)
  · first | (rw [if_pos h] at hf; exact hf) | (rw [if_neg h] at hf; exact hf) | (rw [if_pos (Int32.not_le.mp h)] at hf; exact hf) | (rw [if_pos (Int32.not_lt.mp h)] at hf; exact hf) | (rw [if_pos (Classical.not_not.mp h)] at hf; exact hf)
theorem x_icmp_ne {L : List Ck} {Γ : Cx} {ad : Nat → Nat} {cc : ByteArray} {nL : Nat} {own : String} {Ts : List Cond} {rm : Room} {rt : Option FieldType} {rv : Option Value} {σr : Mm} (O : Ok L Γ ad cc nL own Ts rm rt rv σr) {σ : Mm} {pc : Nat} {lv : List (Nat × Value)} {st : List Value} {x y : Int32} {off : Int} (tgt : Nat) {α : Type} {T E : Option α} {r : α} (hf : (if x = y then E else T) = some r) (hd : decode cc pc = .ok ((.if_icmp .ne off), 3)) (ht : (pc : Int) + off = (tgt : Int)) (kt : T = some r → X L Γ ad σ tgt lv st) (kf : E = some r → X L Γ ad σ (pc + 3) lv st) : X L Γ ad σ pc lv (.int y :: .int x :: st) := by
  obtain ⟨p, l, e, R, s, m, args, below, meth, cd, Q, D, cy, A, nL', cells, slots⟩ := Γ
  obtain ⟨rfl, hx, hb, hml, hown, hts, rfl, hK, hI, hA, hSX, hA2, hlk, hce, hsl, hrt, hret⟩ := O
  intro H locs ls hP hS hl
  refine lv_icmp_ne hx hb hd ht (fun h => kt ?_ H locs ls hP hS hl) (fun h => kf ?_ H locs ls hP hS hl)
  · first | (rw [if_pos h] at hf; exact hf) | (rw [if_neg h] at hf; exact hf) | (rw [if_neg (Int32.not_lt.mpr h)] at hf; exact hf) | (rw [if_neg (Int32.not_le.mpr h)] at hf; exact hf)
  · first | (rw [if_pos h] at hf; exact hf) | (rw [if_neg h] at hf; exact hf) | (rw [if_pos (Int32.not_le.mp h)] at hf; exact hf) | (rw [if_pos (Int32.not_lt.mp h)] at hf; exact hf) | (rw [if_pos (Classical.not_not.mp h)] at hf; exact hf)
theorem x_if_lt {L : List Ck} {Γ : Cx} {ad : Nat → Nat} {cc : ByteArray} {nL : Nat} {own : String} {Ts : List Cond} {rm : Room} {rt : Option FieldType} {rv : Option Value} {σr : Mm} (O : Ok L Γ ad cc nL own Ts rm rt rv σr) {σ : Mm} {pc : Nat} {lv : List (Nat × Value)} {st : List Value} {x : Int32} {off : Int} (tgt : Nat) {α : Type} {T E : Option α} {r : α} (hf : (if x < 0 then T else E) = some r) (hd : decode cc pc = .ok ((.ifCond .lt off), 3)) (ht : (pc : Int) + off = (tgt : Int)) (kt : T = some r → X L Γ ad σ tgt lv st) (kf : E = some r → X L Γ ad σ (pc + 3) lv st) : X L Γ ad σ pc lv (.int x :: st) := by
  obtain ⟨p, l, e, R, s, m, args, below, meth, cd, Q, D, cy, A, nL', cells, slots⟩ := Γ
  obtain ⟨rfl, hx, hb, hml, hown, hts, rfl, hK, hI, hA, hSX, hA2, hlk, hce, hsl, hrt, hret⟩ := O
  intro H locs ls hP hS hl
  refine lv_if_lt hx hb hd ht (fun h => kt ?_ H locs ls hP hS hl) (fun h => kf ?_ H locs ls hP hS hl)
  · first | (rw [if_pos h] at hf; exact hf) | (rw [if_neg h] at hf; exact hf) | (rw [if_neg (Int32.not_lt.mpr h)] at hf; exact hf) | (rw [if_neg (Int32.not_le.mpr h)] at hf; exact hf)
  · first | (rw [if_pos h] at hf; exact hf) | (rw [if_neg h] at hf; exact hf) | (rw [if_pos (Int32.not_le.mp h)] at hf; exact hf) | (rw [if_pos (Int32.not_lt.mp h)] at hf; exact hf) | (rw [if_pos (Classical.not_not.mp h)] at hf; exact hf)
theorem x_icmp_lt {L : List Ck} {Γ : Cx} {ad : Nat → Nat} {cc : ByteArray} {nL : Nat} {own : String} {Ts : List Cond} {rm : Room} {rt : Option FieldType} {rv : Option Value} {σr : Mm} (O : Ok L Γ ad cc nL own Ts rm rt rv σr) {σ : Mm} {pc : Nat} {lv : List (Nat × Value)} {st : List Value} {x y : Int32} {off : Int} (tgt : Nat) {α : Type} {T E : Option α} {r : α} (hf : (if x < y then T else E) = some r) (hd : decode cc pc = .ok ((.if_icmp .lt off), 3)) (ht : (pc : Int) + off = (tgt : Int)) (kt : T = some r → X L Γ ad σ tgt lv st) (kf : E = some r → X L Γ ad σ (pc + 3) lv st) : X L Γ ad σ pc lv (.int y :: .int x :: st) := by
  obtain ⟨p, l, e, R, s, m, args, below, meth, cd, Q, D, cy, A, nL', cells, slots⟩ := Γ
  obtain ⟨rfl, hx, hb, hml, hown, hts, rfl, hK, hI, hA, hSX, hA2, hlk, hce, hsl, hrt, hret⟩ := O
  intro H locs ls hP hS hl
  refine lv_icmp_lt hx hb hd ht (fun h => kt ?_ H locs ls hP hS hl) (fun h => kf ?_ H locs ls hP hS hl)
  · first | (rw [if_pos h] at hf; exact hf) | (rw [if_neg h] at hf; exact hf) | (rw [if_neg (Int32.not_lt.mpr h)] at hf; exact hf) | (rw [if_neg (Int32.not_le.mpr h)] at hf; exact hf)
  · first | (rw [if_pos h] at hf; exact hf) | (rw [if_neg h] at hf; exact hf) | (rw [if_pos (Int32.not_le.mp h)] at hf; exact hf) | (rw [if_pos (Int32.not_lt.mp h)] at hf; exact hf) | (rw [if_pos (Classical.not_not.mp h)] at hf; exact hf)
theorem x_if_ge {L : List Ck} {Γ : Cx} {ad : Nat → Nat} {cc : ByteArray} {nL : Nat} {own : String} {Ts : List Cond} {rm : Room} {rt : Option FieldType} {rv : Option Value} {σr : Mm} (O : Ok L Γ ad cc nL own Ts rm rt rv σr) {σ : Mm} {pc : Nat} {lv : List (Nat × Value)} {st : List Value} {x : Int32} {off : Int} (tgt : Nat) {α : Type} {T E : Option α} {r : α} (hf : (if x < 0 then E else T) = some r) (hd : decode cc pc = .ok ((.ifCond .ge off), 3)) (ht : (pc : Int) + off = (tgt : Int)) (kt : T = some r → X L Γ ad σ tgt lv st) (kf : E = some r → X L Γ ad σ (pc + 3) lv st) : X L Γ ad σ pc lv (.int x :: st) := by
  obtain ⟨p, l, e, R, s, m, args, below, meth, cd, Q, D, cy, A, nL', cells, slots⟩ := Γ
  obtain ⟨rfl, hx, hb, hml, hown, hts, rfl, hK, hI, hA, hSX, hA2, hlk, hce, hsl, hrt, hret⟩ := O
  intro H locs ls hP hS hl
  refine lv_if_ge hx hb hd ht (fun h => kt ?_ H locs ls hP hS hl) (fun h => kf ?_ H locs ls hP hS hl)
  · first | (rw [if_pos h] at hf; exact hf) | (rw [if_neg h] at hf; exact hf) | (rw [if_neg (Int32.not_lt.mpr h)] at hf; exact hf) | (rw [if_neg (Int32.not_le.mpr h)] at hf; exact hf)
  · first | (rw [if_pos h] at hf; exact hf) | (rw [if_neg h] at hf; exact hf) | (rw [if_pos (Int32.not_le.mp h)] at hf; exact hf) | (rw [if_pos (Int32.not_lt.mp h)] at hf; exact hf) | (rw [if_pos (Classical.not_not.mp h)] at hf; exact hf)
theorem x_icmp_ge {L : List Ck} {Γ : Cx} {ad : Nat → Nat} {cc : ByteArray} {nL : Nat} {own : String} {Ts : List Cond} {rm : Room} {rt : Option FieldType} {rv : Option Value} {σr : Mm} (O : Ok L Γ ad cc nL own Ts rm rt rv σr) {σ : Mm} {pc : Nat} {lv : List (Nat × Value)} {st : List Value} {x y : Int32} {off : Int} (tgt : Nat) {α : Type} {T E : Option α} {r : α} (hf : (if x < y then E else T) = some r) (hd : decode cc pc = .ok ((.if_icmp .ge off), 3)) (ht : (pc : Int) + off = (tgt : Int)) (kt : T = some r → X L Γ ad σ tgt lv st) (kf : E = some r → X L Γ ad σ (pc + 3) lv st) : X L Γ ad σ pc lv (.int y :: .int x :: st) := by
  obtain ⟨p, l, e, R, s, m, args, below, meth, cd, Q, D, cy, A, nL', cells, slots⟩ := Γ
  obtain ⟨rfl, hx, hb, hml, hown, hts, rfl, hK, hI, hA, hSX, hA2, hlk, hce, hsl, hrt, hret⟩ := O
  intro H locs ls hP hS hl
  refine lv_icmp_ge hx hb hd ht (fun h => kt ?_ H locs ls hP hS hl) (fun h => kf ?_ H locs ls hP hS hl)
  · first | (rw [if_pos h] at hf; exact hf) | (rw [if_neg h] at hf; exact hf) | (rw [if_neg (Int32.not_lt.mpr h)] at hf; exact hf) | (rw [if_neg (Int32.not_le.mpr h)] at hf; exact hf)
  · first | (rw [if_pos h] at hf; exact hf) | (rw [if_neg h] at hf; exact hf) | (rw [if_pos (Int32.not_le.mp h)] at hf; exact hf) | (rw [if_pos (Int32.not_lt.mp h)] at hf; exact hf) | (rw [if_pos (Classical.not_not.mp h)] at hf; exact hf)
theorem x_if_le {L : List Ck} {Γ : Cx} {ad : Nat → Nat} {cc : ByteArray} {nL : Nat} {own : String} {Ts : List Cond} {rm : Room} {rt : Option FieldType} {rv : Option Value} {σr : Mm} (O : Ok L Γ ad cc nL own Ts rm rt rv σr) {σ : Mm} {pc : Nat} {lv : List (Nat × Value)} {st : List Value} {x : Int32} {off : Int} (tgt : Nat) {α : Type} {T E : Option α} {r : α} (hf : (if x ≤ 0 then T else E) = some r) (hd : decode cc pc = .ok ((.ifCond .le off), 3)) (ht : (pc : Int) + off = (tgt : Int)) (kt : T = some r → X L Γ ad σ tgt lv st) (kf : E = some r → X L Γ ad σ (pc + 3) lv st) : X L Γ ad σ pc lv (.int x :: st) := by
  obtain ⟨p, l, e, R, s, m, args, below, meth, cd, Q, D, cy, A, nL', cells, slots⟩ := Γ
  obtain ⟨rfl, hx, hb, hml, hown, hts, rfl, hK, hI, hA, hSX, hA2, hlk, hce, hsl, hrt, hret⟩ := O
  intro H locs ls hP hS hl
  refine lv_if_le hx hb hd ht (fun h => kt ?_ H locs ls hP hS hl) (fun h => kf ?_ H locs ls hP hS hl)
  · first | (rw [if_pos h] at hf; exact hf) | (rw [if_neg h] at hf; exact hf) | (rw [if_neg (Int32.not_lt.mpr h)] at hf; exact hf) | (rw [if_neg (Int32.not_le.mpr h)] at hf; exact hf)
  · first | (rw [if_pos h] at hf; exact hf) | (rw [if_neg h] at hf; exact hf) | (rw [if_pos (Int32.not_le.mp h)] at hf; exact hf) | (rw [if_pos (Int32.not_lt.mp h)] at hf; exact hf) | (rw [if_pos (Classical.not_not.mp h)] at hf; exact hf)
theorem x_icmp_le {L : List Ck} {Γ : Cx} {ad : Nat → Nat} {cc : ByteArray} {nL : Nat} {own : String} {Ts : List Cond} {rm : Room} {rt : Option FieldType} {rv : Option Value} {σr : Mm} (O : Ok L Γ ad cc nL own Ts rm rt rv σr) {σ : Mm} {pc : Nat} {lv : List (Nat × Value)} {st : List Value} {x y : Int32} {off : Int} (tgt : Nat) {α : Type} {T E : Option α} {r : α} (hf : (if x ≤ y then T else E) = some r) (hd : decode cc pc = .ok ((.if_icmp .le off), 3)) (ht : (pc : Int) + off = (tgt : Int)) (kt : T = some r → X L Γ ad σ tgt lv st) (kf : E = some r → X L Γ ad σ (pc + 3) lv st) : X L Γ ad σ pc lv (.int y :: .int x :: st) := by
  obtain ⟨p, l, e, R, s, m, args, below, meth, cd, Q, D, cy, A, nL', cells, slots⟩ := Γ
  obtain ⟨rfl, hx, hb, hml, hown, hts, rfl, hK, hI, hA, hSX, hA2, hlk, hce, hsl, hrt, hret⟩ := O
  intro H locs ls hP hS hl
  refine lv_icmp_le hx hb hd ht (fun h => kt ?_ H locs ls hP hS hl) (fun h => kf ?_ H locs ls hP hS hl)
  · first | (rw [if_pos h] at hf; exact hf) | (rw [if_neg h] at hf; exact hf) | (rw [if_neg (Int32.not_lt.mpr h)] at hf; exact hf) | (rw [if_neg (Int32.not_le.mpr h)] at hf; exact hf)
  · first | (rw [if_pos h] at hf; exact hf) | (rw [if_neg h] at hf; exact hf) | (rw [if_pos (Int32.not_le.mp h)] at hf; exact hf) | (rw [if_pos (Int32.not_lt.mp h)] at hf; exact hf) | (rw [if_pos (Classical.not_not.mp h)] at hf; exact hf)
theorem x_if_gt {L : List Ck} {Γ : Cx} {ad : Nat → Nat} {cc : ByteArray} {nL : Nat} {own : String} {Ts : List Cond} {rm : Room} {rt : Option FieldType} {rv : Option Value} {σr : Mm} (O : Ok L Γ ad cc nL own Ts rm rt rv σr) {σ : Mm} {pc : Nat} {lv : List (Nat × Value)} {st : List Value} {x : Int32} {off : Int} (tgt : Nat) {α : Type} {T E : Option α} {r : α} (hf : (if x ≤ 0 then E else T) = some r) (hd : decode cc pc = .ok ((.ifCond .gt off), 3)) (ht : (pc : Int) + off = (tgt : Int)) (kt : T = some r → X L Γ ad σ tgt lv st) (kf : E = some r → X L Γ ad σ (pc + 3) lv st) : X L Γ ad σ pc lv (.int x :: st) := by
  obtain ⟨p, l, e, R, s, m, args, below, meth, cd, Q, D, cy, A, nL', cells, slots⟩ := Γ
  obtain ⟨rfl, hx, hb, hml, hown, hts, rfl, hK, hI, hA, hSX, hA2, hlk, hce, hsl, hrt, hret⟩ := O
  intro H locs ls hP hS hl
  refine lv_if_gt hx hb hd ht (fun h => kt ?_ H locs ls hP hS hl) (fun h => kf ?_ H locs ls hP hS hl)
  · first | (rw [if_pos h] at hf; exact hf) | (rw [if_neg h] at hf; exact hf) | (rw [if_neg (Int32.not_lt.mpr h)] at hf; exact hf) | (rw [if_neg (Int32.not_le.mpr h)] at hf; exact hf)
  · first | (rw [if_pos h] at hf; exact hf) | (rw [if_neg h] at hf; exact hf) | (rw [if_pos (Int32.not_le.mp h)] at hf; exact hf) | (rw [if_pos (Int32.not_lt.mp h)] at hf; exact hf) | (rw [if_pos (Classical.not_not.mp h)] at hf; exact hf)
theorem x_icmp_gt {L : List Ck} {Γ : Cx} {ad : Nat → Nat} {cc : ByteArray} {nL : Nat} {own : String} {Ts : List Cond} {rm : Room} {rt : Option FieldType} {rv : Option Value} {σr : Mm} (O : Ok L Γ ad cc nL own Ts rm rt rv σr) {σ : Mm} {pc : Nat} {lv : List (Nat × Value)} {st : List Value} {x y : Int32} {off : Int} (tgt : Nat) {α : Type} {T E : Option α} {r : α} (hf : (if x ≤ y then E else T) = some r) (hd : decode cc pc = .ok ((.if_icmp .gt off), 3)) (ht : (pc : Int) + off = (tgt : Int)) (kt : T = some r → X L Γ ad σ tgt lv st) (kf : E = some r → X L Γ ad σ (pc + 3) lv st) : X L Γ ad σ pc lv (.int y :: .int x :: st) := by
  obtain ⟨p, l, e, R, s, m, args, below, meth, cd, Q, D, cy, A, nL', cells, slots⟩ := Γ
  obtain ⟨rfl, hx, hb, hml, hown, hts, rfl, hK, hI, hA, hSX, hA2, hlk, hce, hsl, hrt, hret⟩ := O
  intro H locs ls hP hS hl
  refine lv_icmp_gt hx hb hd ht (fun h => kt ?_ H locs ls hP hS hl) (fun h => kf ?_ H locs ls hP hS hl)
  · first | (rw [if_pos h] at hf; exact hf) | (rw [if_neg h] at hf; exact hf) | (rw [if_neg (Int32.not_lt.mpr h)] at hf; exact hf) | (rw [if_neg (Int32.not_le.mpr h)] at hf; exact hf)
  · first | (rw [if_pos h] at hf; exact hf) | (rw [if_neg h] at hf; exact hf) | (rw [if_pos (Int32.not_le.mp h)] at hf; exact hf) | (rw [if_pos (Int32.not_lt.mp h)] at hf; exact hf) | (rw [if_pos (Classical.not_not.mp h)] at hf; exact hf)
theorem x_goto {L : List Ck} {Γ : Cx} {ad : Nat → Nat} {cc : ByteArray} {nL : Nat} {own : String} {Ts : List Cond} {rm : Room} {rt : Option FieldType} {rv : Option Value} {σr : Mm} (O : Ok L Γ ad cc nL own Ts rm rt rv σr) {σ : Mm} {pc : Nat} {lv : List (Nat × Value)} {st : List Value} {off : Int} (tgt : Nat) (hd : decode cc pc = .ok (.goto off, 3)) (ht : (pc : Int) + off = (tgt : Int)) (kk : X L Γ ad σ tgt lv st) : X L Γ ad σ pc lv st := by
  obtain ⟨p, l, e, R, s, m, args, below, meth, cd, Q, D, cy, A, nL', cells, slots⟩ := Γ
  obtain ⟨rfl, hx, hb, hml, hown, hts, rfl, hK, hI, hA, hSX, hA2, hlk, hce, hsl, hrt, hret⟩ := O
  intro H locs ls hP hS hl
  exact lv_goto hx hb hd ht (kk H locs ls hP hS hl)
theorem x_tableOut {L : List Ck} {Γ : Cx} {ad : Nat → Nat} {cc : ByteArray} {nL : Nat} {own : String} {Ts : List Cond} {rm : Room} {rt : Option FieldType} {rv : Option Value} {σr : Mm} (O : Ok L Γ ad cc nL own Ts rm rt rv σr) {σ : Mm} {pc : Nat} {lv : List (Nat × Value)} {st : List Value} {dflt lo hi : Int} {offs : Array Int} {len : Nat} {x : Int32} (tgt : Nat) (hd : decode cc pc = .ok (.tableswitch dflt lo hi offs, len)) (h : x.toInt < lo ∨ hi < x.toInt) (ht : (pc : Int) + dflt = (tgt : Int)) (kk : X L Γ ad σ tgt lv st) : X L Γ ad σ pc lv (.int x :: st) := by
  obtain ⟨p, l, e, R, s, m, args, below, meth, cd, Q, D, cy, A, nL', cells, slots⟩ := Γ
  obtain ⟨rfl, hx, hb, hml, hown, hts, rfl, hK, hI, hA, hSX, hA2, hlk, hce, hsl, hrt, hret⟩ := O
  intro H locs ls hP hS hl
  exact lv_tableOut hx hb hd h ht (kk H locs ls hP hS hl)
theorem x_tableIn {L : List Ck} {Γ : Cx} {ad : Nat → Nat} {cc : ByteArray} {nL : Nat} {own : String} {Ts : List Cond} {rm : Room} {rt : Option FieldType} {rv : Option Value} {σr : Mm} (O : Ok L Γ ad cc nL own Ts rm rt rv σr) {σ : Mm} {pc : Nat} {lv : List (Nat × Value)} {st : List Value} {dflt lo hi off : Int} {offs : Array Int} {len : Nat} {x : Int32} (tgt : Nat) (hd : decode cc pc = .ok (.tableswitch dflt lo hi offs, len)) (h1 : ¬ x.toInt < lo) (h2 : ¬ hi < x.toInt) (ho : offs[(x.toInt - lo).toNat]? = some off) (ht : (pc : Int) + off = (tgt : Int)) (kk : X L Γ ad σ tgt lv st) : X L Γ ad σ pc lv (.int x :: st) := by
  obtain ⟨p, l, e, R, s, m, args, below, meth, cd, Q, D, cy, A, nL', cells, slots⟩ := Γ
  obtain ⟨rfl, hx, hb, hml, hown, hts, rfl, hK, hI, hA, hSX, hA2, hlk, hce, hsl, hrt, hret⟩ := O
  intro H locs ls hP hS hl
  exact lv_tableIn hx hb hd h1 h2 ho ht (kk H locs ls hP hS hl)
theorem x_lookup {L : List Ck} {Γ : Cx} {ad : Nat → Nat} {cc : ByteArray} {nL : Nat} {own : String} {Ts : List Cond} {rm : Room} {rt : Option FieldType} {rv : Option Value} {σr : Mm} (O : Ok L Γ ad cc nL own Ts rm rt rv σr) {σ : Mm} {pc : Nat} {lv : List (Nat × Value)} {st : List Value} {dflt : Int} {ps : Array (Int × Int)} {len : Nat} {x : Int32} {off : Int} (tgt : Nat) (hd : decode cc pc = .ok (.lookupswitch dflt ps, len)) (hp : (ps.toList.zip (ps.toList.drop 1)).all (fun (a, next) => a.1 < next.1) = true) (ho : Op.lookupswitch.offset ps.toList dflt x.toInt = off) (ht : (pc : Int) + off = (tgt : Int)) (kk : X L Γ ad σ tgt lv st) : X L Γ ad σ pc lv (.int x :: st) := by
  obtain ⟨p, l, e, R, s, m, args, below, meth, cd, Q, D, cy, A, nL', cells, slots⟩ := Γ
  obtain ⟨rfl, hx, hb, hml, hown, hts, rfl, hK, hI, hA, hSX, hA2, hlk, hce, hsl, hrt, hret⟩ := O
  intro H locs ls hP hS hl
  exact lv_lookup hx hb hd hp ho ht (kk H locs ls hP hS hl)
theorem x_getI {L : List Ck} {Γ : Cx} {ad : Nat → Nat} {cc : ByteArray} {nL : Nat} {own : String} {Ts : List Cond} {rm : Room} {rt : Option FieldType} {rv : Option Value} {σr : Mm} (O : Ok L Γ ad cc nL own Ts rm rt rv σr) {σ : Mm} {pc : Nat} {lv : List (Nat × Value)} {st : List Value} {c index ci k : Nat} {ty : FieldType} {fin : Bool} (F : Fl own Ts index ci k fin ty) (hk : fk L c k = some (ci, 0)) (hd : decode cc pc = .ok (.getfield index, 3)) (kk : X L Γ ad σ (pc + 3) lv (.int (gI σ c k) :: st)) : X L Γ ad σ pc lv (.ref (ad c) :: st) := by
  obtain ⟨p, l, e, R, s, m, args, below, meth, cd, Q, D, cy, A, nL', cells, slots⟩ := Γ
  obtain ⟨rfl, hx, hb, hml, hown, hts, rfl, hK, hI, hA, hSX, hA2, hlk, hce, hsl, hrt, hret⟩ := O
  intro H locs ls hP hS hl
  obtain ⟨C, T, N, ty0, hc, hcw, hkN, hm, hty, hnm, hfin, hd9⟩ := F
  obtain ⟨fks, hL, hkf⟩ := fk_spec hk
  have he := wd_get (ad := ad) (cy := cy) (σ := σ) hL
  have hg := fvs_get (ad := ad) (σ := σ) (c := c) fks 0 k _ hkf
  rw [Nat.zero_add] at hg
  exact va_get (D := D) hx hb hts hcw hown hK.1 hP c he hc k hkN (hts _ hm) (fun _ h9 => h9) hg hd (kk H locs ls hP hS hl)
theorem x_getJ {L : List Ck} {Γ : Cx} {ad : Nat → Nat} {cc : ByteArray} {nL : Nat} {own : String} {Ts : List Cond} {rm : Room} {rt : Option FieldType} {rv : Option Value} {σr : Mm} (O : Ok L Γ ad cc nL own Ts rm rt rv σr) {σ : Mm} {pc : Nat} {lv : List (Nat × Value)} {st : List Value} {c index ci k : Nat} {ty : FieldType} {fin : Bool} (F : Fl own Ts index ci k fin ty) (hk : fk L c k = some (ci, 1)) (hd : decode cc pc = .ok (.getfield index, 3)) (kk : X L Γ ad σ (pc + 3) lv (.long (gJ σ) :: st)) : X L Γ ad σ pc lv (.ref (ad c) :: st) := by
  obtain ⟨p, l, e, R, s, m, args, below, meth, cd, Q, D, cy, A, nL', cells, slots⟩ := Γ
  obtain ⟨rfl, hx, hb, hml, hown, hts, rfl, hK, hI, hA, hSX, hA2, hlk, hce, hsl, hrt, hret⟩ := O
  intro H locs ls hP hS hl
  obtain ⟨C, T, N, ty0, hc, hcw, hkN, hm, hty, hnm, hfin, hd9⟩ := F
  obtain ⟨fks, hL, hkf⟩ := fk_spec hk
  have he := wd_get (ad := ad) (cy := cy) (σ := σ) hL
  have hg := fvs_get (ad := ad) (σ := σ) (c := c) fks 0 k _ hkf
  rw [Nat.zero_add] at hg
  exact va_get (D := D) hx hb hts hcw hown hK.1 hP c he hc k hkN (hts _ hm) (fun _ h9 => h9) hg hd (kk H locs ls hP hS hl)
theorem x_getF {L : List Ck} {Γ : Cx} {ad : Nat → Nat} {cc : ByteArray} {nL : Nat} {own : String} {Ts : List Cond} {rm : Room} {rt : Option FieldType} {rv : Option Value} {σr : Mm} (O : Ok L Γ ad cc nL own Ts rm rt rv σr) {σ : Mm} {pc : Nat} {lv : List (Nat × Value)} {st : List Value} {c index ci k : Nat} {ty : FieldType} {fin : Bool} {t : Nat} (F : Fl own Ts index ci k fin ty) (hk : fk L c k = some (ci, t + 3)) (hd : decode cc pc = .ok (.getfield index, 3)) (kk : X L Γ ad σ (pc + 3) lv (.ref (ad t) :: st)) : X L Γ ad σ pc lv (.ref (ad c) :: st) := by
  obtain ⟨p, l, e, R, s, m, args, below, meth, cd, Q, D, cy, A, nL', cells, slots⟩ := Γ
  obtain ⟨rfl, hx, hb, hml, hown, hts, rfl, hK, hI, hA, hSX, hA2, hlk, hce, hsl, hrt, hret⟩ := O
  intro H locs ls hP hS hl
  obtain ⟨C, T, N, ty0, hc, hcw, hkN, hm, hty, hnm, hfin, hd9⟩ := F
  obtain ⟨fks, hL, hkf⟩ := fk_spec hk
  have he := wd_get (ad := ad) (cy := cy) (σ := σ) hL
  have hg := fvs_get (ad := ad) (σ := σ) (c := c) fks 0 k _ hkf
  rw [Nat.zero_add] at hg
  exact va_get (D := D) hx hb hts hcw hown hK.1 hP c he hc k hkN (hts _ hm) (fun _ h9 => h9) hg hd (kk H locs ls hP hS hl)
theorem x_getR {L : List Ck} {Γ : Cx} {ad : Nat → Nat} {cc : ByteArray} {nL : Nat} {own : String} {Ts : List Cond} {rm : Room} {rt : Option FieldType} {rv : Option Value} {σr : Mm} (O : Ok L Γ ad cc nL own Ts rm rt rv σr) {σ : Mm} {pc : Nat} {lv : List (Nat × Value)} {st : List Value} {c index ci k : Nat} {ty : FieldType} {fin : Bool} {α : Type} {ok : Nat → Bool} {K : Nat → Option α} {r : α} (hf : rk (gR σ c k) ok K = some r) (F : Fl own Ts index ci k fin ty) (hk : fk L c k = some (ci, 2)) (hd : decode cc pc = .ok (.getfield index, 3)) (kk : ∀ t, ok t = true → K t = some r → X L Γ ad σ (pc + 3) lv (.ref (ad t) :: st)) : X L Γ ad σ pc lv (.ref (ad c) :: st) := by
  obtain ⟨p, l, e, R, s, m, args, below, meth, cd, Q, D, cy, A, nL', cells, slots⟩ := Γ
  obtain ⟨rfl, hx, hb, hml, hown, hts, rfl, hK, hI, hA, hSX, hA2, hlk, hce, hsl, hrt, hret⟩ := O
  intro H locs ls hP hS hl
  obtain ⟨C, T, N, ty0, hc, hcw, hkN, hm, hty, hnm, hfin, hd9⟩ := F
  obtain ⟨fks, hL, hkf⟩ := fk_spec hk
  have he := wd_get (ad := ad) (cy := cy) (σ := σ) hL
  have hg := fvs_get (ad := ad) (σ := σ) (c := c) fks 0 k _ hkf
  rw [Nat.zero_add] at hg
  obtain ⟨t, ht, hok, hKt⟩ := rk_some hf
  have hv : fv ad σ c k 2 = .ref (ad t) := by
    show va_rf ((gR σ c k).map ad) = _
    rw [ht]; rfl
  rw [hv] at hg
  exact va_get (D := D) hx hb hts hcw hown hK.1 hP c he hc k hkN (hts _ hm) (fun _ h9 => h9) hg hd (kk t hok hKt H locs ls hP hS hl)
theorem x_putI {L : List Ck} {Γ : Cx} {ad : Nat → Nat} {cc : ByteArray} {nL : Nat} {own : String} {Ts : List Cond} {rm : Room} {rt : Option FieldType} {rv : Option Value} {σr : Mm} (O : Ok L Γ ad cc nL own Ts rm rt rv σr) {σ : Mm} {pc : Nat} {lv : List (Nat × Value)} {st : List Value} {c index ci k : Nat} {ty : FieldType} {v : Int32} (hn : narrow ty (.int v) = .int v) (hfi : fits ty (.int v) = true) (F : Fl own Ts index ci k false ty) (hk : fk L c k = some (ci, 0)) (hd : decode cc pc = .ok (.putfield index, 3)) (kk : X L Γ ad (sI σ c k v) (pc + 3) lv st) : X L Γ ad σ pc lv (.int v :: .ref (ad c) :: st) := by
  obtain ⟨p, l, e, R, s, m, args, below, meth, cd, Q, D, cy, A, nL', cells, slots⟩ := Γ
  obtain ⟨rfl, hx, hb, hml, hown, hts, rfl, hK, hI, hA, hSX, hA2, hlk, hce, hsl, hrt, hret⟩ := O
  intro H locs ls hP hS hl
  obtain ⟨C, T, N, ty0, hc, hcw, hkN, hm, hty, hnm, hfin, hd9⟩ := F
  obtain ⟨fks, hL, hkf⟩ := fk_spec hk
  have he := wd_get (ad := ad) (cy := cy) (σ := σ) hL
  have hD := wd_D (L := L) (ad := ad) (cy := cy) (σ := σ) (A := A) hI hA
  have hlen : k < (fvs ad σ c 0 fks).length := by rw [fvs_len]; exact (List.getElem?_eq_some_iff.mp hkf).1
  refine va_put (D := D) hx hb hts hcw ty0 hty hnm hown hK.1 hP hD hS c he hc k hkN (hts _ hm) (fun _ h9 => h9) hfin hd9 hn hfi hlen hd (fun H1 locs1 hP1 _ hS1 => ?_)
  have e := wd_sI (ad := ad) (cy := cy) (σ := σ) (v := v) hL hkf
  first | (rw [e] at hP1; exact kk H1 locs1 ls hP1 hS1 hl) | exact kk H1 locs1 ls (e ▸ hP1) hS1 hl
theorem x_putR {L : List Ck} {Γ : Cx} {ad : Nat → Nat} {cc : ByteArray} {nL : Nat} {own : String} {Ts : List Cond} {rm : Room} {rt : Option FieldType} {rv : Option Value} {σr : Mm} (O : Ok L Γ ad cc nL own Ts rm rt rv σr) {σ : Mm} {pc : Nat} {lv : List (Nat × Value)} {st : List Value} {c index ci k : Nat} {ty : FieldType} {v : Nat} (hn : narrow ty (.ref (ad v)) = .ref (ad v)) (hfi : fits ty (.ref (ad v)) = true) (F : Fl own Ts index ci k false ty) (hk : fk L c k = some (ci, 2)) (hd : decode cc pc = .ok (.putfield index, 3)) (kk : X L Γ ad (sR σ c k (some v)) (pc + 3) lv st) : X L Γ ad σ pc lv (.ref (ad v) :: .ref (ad c) :: st) := by
  obtain ⟨p, l, e, R, s, m, args, below, meth, cd, Q, D, cy, A, nL', cells, slots⟩ := Γ
  obtain ⟨rfl, hx, hb, hml, hown, hts, rfl, hK, hI, hA, hSX, hA2, hlk, hce, hsl, hrt, hret⟩ := O
  intro H locs ls hP hS hl
  obtain ⟨C, T, N, ty0, hc, hcw, hkN, hm, hty, hnm, hfin, hd9⟩ := F
  obtain ⟨fks, hL, hkf⟩ := fk_spec hk
  have he := wd_get (ad := ad) (cy := cy) (σ := σ) hL
  have hD := wd_D (L := L) (ad := ad) (cy := cy) (σ := σ) (A := A) hI hA
  have hlen : k < (fvs ad σ c 0 fks).length := by rw [fvs_len]; exact (List.getElem?_eq_some_iff.mp hkf).1
  refine va_put (D := D) hx hb hts hcw ty0 hty hnm hown hK.1 hP hD hS c he hc k hkN (hts _ hm) (fun _ h9 => h9) hfin hd9 hn hfi hlen hd (fun H1 locs1 hP1 _ hS1 => ?_)
  have e := wd_sR (ad := ad) (cy := cy) (σ := σ) (v := some v) hL hkf
  first | (rw [e] at hP1; exact kk H1 locs1 ls hP1 hS1 hl) | exact kk H1 locs1 ls (e ▸ hP1) hS1 hl
theorem x_putJ {L : List Ck} {Γ : Cx} {ad : Nat → Nat} {cc : ByteArray} {nL : Nat} {own : String} {Ts : List Cond} {rm : Room} {rt : Option FieldType} {rv : Option Value} {σr : Mm} (O : Ok L Γ ad cc nL own Ts rm rt rv σr) {σ : Mm} {pc : Nat} {lv : List (Nat × Value)} {st : List Value} {c index ci k : Nat} {ty : FieldType} {v : Int64} (hset : ∀ fks, L[c]? = some (.inl (ci, fks)) → ∀ σ, (fvs ad σ c 0 fks).set k (.long v) = fvs ad (sJ σ v) c 0 fks) (hnJ : ∀ c' K', L[c']? = some K' → c' ≠ c → nJ K' = true) (hn : narrow ty (.long v) = .long v) (hfi : fits ty (.long v) = true) (F : Fl own Ts index ci k false ty) (hk : fk L c k = some (ci, 1)) (hd : decode cc pc = .ok (.putfield index, 3)) (kk : X L Γ ad (sJ σ v) (pc + 3) lv st) : X L Γ ad σ pc lv (.long v :: .ref (ad c) :: st) := by
  obtain ⟨p, l, e, R, s, m, args, below, meth, cd, Q, D, cy, A, nL', cells, slots⟩ := Γ
  obtain ⟨rfl, hx, hb, hml, hown, hts, rfl, hK, hI, hA, hSX, hA2, hlk, hce, hsl, hrt, hret⟩ := O
  intro H locs ls hP hS hl
  obtain ⟨C, T, N, ty0, hc, hcw, hkN, hm, hty, hnm, hfin, hd9⟩ := F
  obtain ⟨fks, hL, hkf⟩ := fk_spec hk
  have he := wd_get (ad := ad) (cy := cy) (σ := σ) hL
  have hD := wd_D (L := L) (ad := ad) (cy := cy) (σ := σ) (A := A) hI hA
  have hlen : k < (fvs ad σ c 0 fks).length := by rw [fvs_len]; exact (List.getElem?_eq_some_iff.mp hkf).1
  refine va_put (D := D) hx hb hts hcw ty0 hty hnm hown hK.1 hP hD hS c he hc k hkN (hts _ hm) (fun _ h9 => h9) hfin hd9 hn hfi hlen hd (fun H1 locs1 hP1 _ hS1 => ?_)
  have e := wd_sJ (ad := ad) (cy := cy) (σ := σ) (v := v) hL (hset fks hL σ) hnJ
  first | (rw [e] at hP1; exact kk H1 locs1 ls hP1 hS1 hl) | exact kk H1 locs1 ls (e ▸ hP1) hS1 hl
theorem x_iald {L : List Ck} {Γ : Cx} {ad : Nat → Nat} {cc : ByteArray} {nL : Nat} {own : String} {Ts : List Cond} {rm : Room} {rt : Option FieldType} {rv : Option Value} {σr : Mm} (O : Ok L Γ ad cc nL own Ts rm rt rv σr) {σ : Mm} {pc : Nat} {lv : List (Nat × Value)} {st : List Value} {a n : Nat} {i : Int32} {α : Type} {K : Nat → Option α} {r : α} (hf : ix i n K = some r) (hL : L[a]? = some (.inr (.inl (0, n)))) (hd : decode cc pc = .ok (.iaload, 1)) (kk : ∀ j, K j = some r → X L Γ ad σ (pc + 1) lv (.int (gA σ a j) :: st)) : X L Γ ad σ pc lv (.int i :: .ref (ad a) :: st) := by
  obtain ⟨p, l, e, R, s, m, args, below, meth, cd, Q, D, cy, A, nL', cells, slots⟩ := Γ
  obtain ⟨rfl, hx, hb, hml, hown, hts, rfl, hK, hI, hA, hSX, hA2, hlk, hce, hsl, hrt, hret⟩ := O
  intro H locs ls hP hS hl
  obtain ⟨hin, hf⟩ := ix_some hf
  exact va_iald (D := D) (tys := tysL cy) hx hb hK.1 hP a 0 (wd_get hL) rfl hin hd (kk _ hf H locs ls hP hS hl)
theorem x_zald {L : List Ck} {Γ : Cx} {ad : Nat → Nat} {cc : ByteArray} {nL : Nat} {own : String} {Ts : List Cond} {rm : Room} {rt : Option FieldType} {rv : Option Value} {σr : Mm} (O : Ok L Γ ad cc nL own Ts rm rt rv σr) {σ : Mm} {pc : Nat} {lv : List (Nat × Value)} {st : List Value} {a n : Nat} {i : Int32} {α : Type} {K : Nat → Option α} {r : α} (hf : ix i n K = some r) (hL : L[a]? = some (.inr (.inl (1, n)))) (hd : decode cc pc = .ok (.baload, 1)) (kk : ∀ j, K j = some r → X L Γ ad σ (pc + 1) lv (.int (gA σ a j) :: st)) : X L Γ ad σ pc lv (.int i :: .ref (ad a) :: st) := by
  obtain ⟨p, l, e, R, s, m, args, below, meth, cd, Q, D, cy, A, nL', cells, slots⟩ := Γ
  obtain ⟨rfl, hx, hb, hml, hown, hts, rfl, hK, hI, hA, hSX, hA2, hlk, hce, hsl, hrt, hret⟩ := O
  intro H locs ls hP hS hl
  obtain ⟨hin, hf⟩ := ix_some hf
  exact va_zald (D := D) (tys := tysL cy) hx hb hK.1 hP a 1 (wd_get hL) rfl hin hd (kk _ hf H locs ls hP hS hl)
theorem x_iast {L : List Ck} {Γ : Cx} {ad : Nat → Nat} {cc : ByteArray} {nL : Nat} {own : String} {Ts : List Cond} {rm : Room} {rt : Option FieldType} {rv : Option Value} {σr : Mm} (O : Ok L Γ ad cc nL own Ts rm rt rv σr) {σ : Mm} {pc : Nat} {lv : List (Nat × Value)} {st : List Value} {a n : Nat} {i x : Int32} {α : Type} {K : Nat → Option α} {r : α} (hf : ix i n K = some r) (hL : L[a]? = some (.inr (.inl (0, n)))) (hd : decode cc pc = .ok (.iastore, 1)) (kk : ∀ j, K j = some r → X L Γ ad (sA σ a j x) (pc + 1) lv st) : X L Γ ad σ pc lv (.int x :: .int i :: .ref (ad a) :: st) := by
  obtain ⟨p, l, e, R, s, m, args, below, meth, cd, Q, D, cy, A, nL', cells, slots⟩ := Γ
  obtain ⟨rfl, hx, hb, hml, hown, hts, rfl, hK, hI, hA, hSX, hA2, hlk, hce, hsl, hrt, hret⟩ := O
  intro H locs ls hP hS hl
  obtain ⟨hin, hf⟩ := ix_some hf
  have hD := wd_D (L := L) (ad := ad) (cy := cy) (σ := σ) (A := A) hI hA
  refine va_iast (D := D) (tys := tysL cy) hx hb hK.1 hP hD hS a 0 (wd_get hL) rfl hin hd (fun H1 locs1 hP1 _ hS1 => ?_)
  have e := wd_sAs (ad := ad) (cy := cy) (σ := σ) (f := upd (gA σ a) i.toNatClampNeg x) hL
  exact kk _ hf H1 locs1 ls (e ▸ hP1) hS1 hl
theorem x_zast {L : List Ck} {Γ : Cx} {ad : Nat → Nat} {cc : ByteArray} {nL : Nat} {own : String} {Ts : List Cond} {rm : Room} {rt : Option FieldType} {rv : Option Value} {σr : Mm} (O : Ok L Γ ad cc nL own Ts rm rt rv σr) {σ : Mm} {pc : Nat} {lv : List (Nat × Value)} {st : List Value} {a n : Nat} {i x : Int32} {α : Type} {K : Nat → Option α} {r : α} (hf : ix i n K = some r) (hn : vp_nar .boolean x = x) (hL : L[a]? = some (.inr (.inl (1, n)))) (hd : decode cc pc = .ok (.bastore, 1)) (kk : ∀ j, K j = some r → X L Γ ad (sA σ a j x) (pc + 1) lv st) : X L Γ ad σ pc lv (.int x :: .int i :: .ref (ad a) :: st) := by
  obtain ⟨p, l, e, R, s, m, args, below, meth, cd, Q, D, cy, A, nL', cells, slots⟩ := Γ
  obtain ⟨rfl, hx, hb, hml, hown, hts, rfl, hK, hI, hA, hSX, hA2, hlk, hce, hsl, hrt, hret⟩ := O
  intro H locs ls hP hS hl
  obtain ⟨hin, hf⟩ := ix_some hf
  have hD := wd_D (L := L) (ad := ad) (cy := cy) (σ := σ) (A := A) hI hA
  refine va_zast (D := D) (tys := tysL cy) hx hb hK.1 hP hD hS a 1 (wd_get hL) rfl hin hd (fun H1 locs1 hP1 _ hS1 => ?_)
  rw [hn] at hP1
  have e := wd_sAs (ad := ad) (cy := cy) (σ := σ) (f := upd (gA σ a) i.toNatClampNeg x) hL
  exact kk _ hf H1 locs1 ls (e ▸ hP1) hS1 hl
theorem x_aald {L : List Ck} {Γ : Cx} {ad : Nat → Nat} {cc : ByteArray} {nL : Nat} {own : String} {Ts : List Cond} {rm : Room} {rt : Option FieldType} {rv : Option Value} {σr : Mm} (O : Ok L Γ ad cc nL own Ts rm rt rv σr) {σ : Mm} {pc : Nat} {lv : List (Nat × Value)} {st : List Value} {a n : Nat} {i : Int32} {ids : List Nat} {g : Nat → Nat} {α : Type} {K : Nat → Option α} {r : α} (hf : ix i n K = some r) (hL : L[a]? = some (.inr (.inr ids))) (hlen : ids.length = n) (hg : ∀ j, j < n → ids[j]? = some (g j)) (hd : decode cc pc = .ok (.aaload, 1)) (kk : ∀ j, j < n → K j = some r → X L Γ ad σ (pc + 1) lv (.ref (ad (g j)) :: st)) : X L Γ ad σ pc lv (.int i :: .ref (ad a) :: st) := by
  obtain ⟨p, l, e, R, s, m, args, below, meth, cd, Q, D, cy, A, nL', cells, slots⟩ := Γ
  obtain ⟨rfl, hx, hb, hml, hown, hts, rfl, hK, hI, hA, hSX, hA2, hlk, hce, hsl, hrt, hret⟩ := O
  intro H locs ls hP hS hl
  subst hlen
  obtain ⟨hin, hf⟩ := ix_some hf
  have hlt : i.toNatClampNeg < ids.length := Nat.not_le.mp fun q => hin (Or.inr q)
  refine va_aldq (D := D) (tys := tysL cy) hx hb hK.1 hP a 2 (wd_get hL) rfl hin hd ?_
  show W p l e R s m args below meth cd H locs cells slots Q (F0 m (pc + 1) ls (va_rf ((ids[i.toNatClampNeg]?).map ad) :: st))
  rw [hg _ hlt]
  exact kk _ hlt hf H locs ls hP hS hl
theorem x_alen {L : List Ck} {Γ : Cx} {ad : Nat → Nat} {cc : ByteArray} {nL : Nat} {own : String} {Ts : List Cond} {rm : Room} {rt : Option FieldType} {rv : Option Value} {σr : Mm} (O : Ok L Γ ad cc nL own Ts rm rt rv σr) {σ : Mm} {pc : Nat} {lv : List (Nat × Value)} {st : List Value} {a n : Nat} {t : Nat} {v : Int32} (hL : L[a]? = some (.inr (.inl (t, n)))) (ht : t = 0) (hv : Int32.ofNat n = v) (hd : decode cc pc = .ok (.arraylength, 1)) (kk : X L Γ ad σ (pc + 1) lv (.int v :: st)) : X L Γ ad σ pc lv (.ref (ad a) :: st) := by
  obtain ⟨p, l, e, R, s, m, args, below, meth, cd, Q, D, cy, A, nL', cells, slots⟩ := Γ
  obtain ⟨rfl, hx, hb, hml, hown, hts, rfl, hK, hI, hA, hSX, hA2, hlk, hce, hsl, hrt, hret⟩ := O
  intro H locs ls hP hS hl
  subst ht
  exact va_alen (D := D) (tys := tysL cy) hx hb hK.1 hP a 0 (wd_get hL) rfl hv hd (kk H locs ls hP hS hl)
theorem x_stepX {L : List Ck} {Γ : Cx} {ad : Nat → Nat} {cc : ByteArray} {nL : Nat} {own : String} {Ts : List Cond} {rm : Room} {rt : Option FieldType} {rv : Option Value} {σr : Mm} (O : Ok L Γ ad cc nL own Ts rm rt rv σr) {σ : Mm} {pc : Nat} {lv : List (Nat × Value)} {st : List Value} {index : Nat} (hm : Cond.fieldLink own index "TippedBarrow$Ground" "STEP_X" "[I" ∈ Ts) (hd : decode cc pc = .ok (.getstatic index, 3)) (kk : ∀ tx : Nat, (∀ (σ' : Mm) (pc' : Nat) (lv' : List (Nat × Value)) (st' : List Value) (i : Int32) (α : Type) (K : Nat → Option α) (r : α), ix i 4 K = some r → decode cc pc' = .ok (.iaload, 1) → (∀ j, K j = some r → X L Γ ad σ' (pc' + 1) lv' (.int (stepXI j) :: st')) → X L Γ ad σ' pc' lv' (.int i :: .ref tx :: st')) → X L Γ ad σ (pc + 3) lv (.ref tx :: st)) : X L Γ ad σ pc lv st := by
  obtain ⟨p, l, e, R, s, m, args, below, meth, cd, Q, D, cy, A, nL', cells, slots⟩ := Γ
  obtain ⟨rfl, hx, hb, hml, hown, hts, rfl, hK, hI, hA, hSX, hA2, hlk, hce, hsl, hrt, hret⟩ := O
  intro H locs ls hP hS hl
  obtain ⟨tx, ty, z1, t1, z2, t2⟩ := hSX
  refine va_gets hx hb z1 hS hown (hts _ hm) (fun _ h9 => h9) hd (kk tx (fun σ' pc' lv' st' i α K r hf hd' k2 H' locs' ls' hP' hS' hl' => ?_) H locs ls hP hS hl)
  obtain ⟨hin, hf⟩ := ix_some hf
  exact va_ti hx hb t1 hS' hin rfl hd' (k2 _ hf H' locs' ls' hP' hS' hl')
theorem x_stepY {L : List Ck} {Γ : Cx} {ad : Nat → Nat} {cc : ByteArray} {nL : Nat} {own : String} {Ts : List Cond} {rm : Room} {rt : Option FieldType} {rv : Option Value} {σr : Mm} (O : Ok L Γ ad cc nL own Ts rm rt rv σr) {σ : Mm} {pc : Nat} {lv : List (Nat × Value)} {st : List Value} {index : Nat} (hm : Cond.fieldLink own index "TippedBarrow$Ground" "STEP_Y" "[I" ∈ Ts) (hd : decode cc pc = .ok (.getstatic index, 3)) (kk : ∀ tx : Nat, (∀ (σ' : Mm) (pc' : Nat) (lv' : List (Nat × Value)) (st' : List Value) (i : Int32) (α : Type) (K : Nat → Option α) (r : α), ix i 4 K = some r → decode cc pc' = .ok (.iaload, 1) → (∀ j, K j = some r → X L Γ ad σ' (pc' + 1) lv' (.int (stepYI j) :: st')) → X L Γ ad σ' pc' lv' (.int i :: .ref tx :: st')) → X L Γ ad σ (pc + 3) lv (.ref tx :: st)) : X L Γ ad σ pc lv st := by
  obtain ⟨p, l, e, R, s, m, args, below, meth, cd, Q, D, cy, A, nL', cells, slots⟩ := Γ
  obtain ⟨rfl, hx, hb, hml, hown, hts, rfl, hK, hI, hA, hSX, hA2, hlk, hce, hsl, hrt, hret⟩ := O
  intro H locs ls hP hS hl
  obtain ⟨tx, ty, z1, t1, z2, t2⟩ := hSX
  refine va_gets hx hb z2 hS hown (hts _ hm) (fun _ h9 => h9) hd (kk ty (fun σ' pc' lv' st' i α K r hf hd' k2 H' locs' ls' hP' hS' hl' => ?_) H locs ls hP hS hl)
  obtain ⟨hin, hf⟩ := ix_some hf
  exact va_ti hx hb t2 hS' hin rfl hd' (k2 _ hf H' locs' ls' hP' hS' hl')
theorem x_iret {L : List Ck} {Γ : Cx} {ad : Nat → Nat} {cc : ByteArray} {nL : Nat} {own : String} {Ts : List Cond} {rm : Room} {rt : Option FieldType} {rv : Option Value} {σr : Mm} (O : Ok L Γ ad cc nL own Ts rm rt rv σr) {σ : Mm} {pc : Nat} {lv : List (Nat × Value)} {v : Int32} (hv : rv = some (.int v)) (hs : σ = σr) (hty : ∃ ty, rt = some ty ∧ narrow ty (.int v) = .int v) (hd : decode cc pc = .ok (.ireturn, 1)) : X L Γ ad σ pc lv [.int v] := by
  obtain ⟨p, l, e, R, s, m, args, below, meth, cd, Q, D, cy, A, nL', cells, slots⟩ := Γ
  obtain ⟨rfl, hx, hb, hml, hown, hts, rfl, hK, hI, hA, hSX, hA2, hlk, hce, hsl, hrt, hret⟩ := O
  intro H locs ls hP hS hl
  subst hs
  exact (hret H locs ls pc hP hS).1 v hv hty hd
theorem x_vret {L : List Ck} {Γ : Cx} {ad : Nat → Nat} {cc : ByteArray} {nL : Nat} {own : String} {Ts : List Cond} {rm : Room} {rt : Option FieldType} {rv : Option Value} {σr : Mm} (O : Ok L Γ ad cc nL own Ts rm rt rv σr) {σ : Mm} {pc : Nat} {lv : List (Nat × Value)}  (hv : rv = none) (hs : σ = σr) (hty : rt = none) (hd : decode cc pc = .ok (.return_, 1)) : X L Γ ad σ pc lv [] := by
  obtain ⟨p, l, e, R, s, m, args, below, meth, cd, Q, D, cy, A, nL', cells, slots⟩ := Γ
  obtain ⟨rfl, hx, hb, hml, hown, hts, rfl, hK, hI, hA, hSX, hA2, hlk, hce, hsl, hrt, hret⟩ := O
  intro H locs ls hP hS hl
  subst hs
  exact (hret H locs ls pc hP hS).2.1 hv hty hd
theorem x_lret {L : List Ck} {Γ : Cx} {ad : Nat → Nat} {cc : ByteArray} {nL : Nat} {own : String} {Ts : List Cond} {rm : Room} {rt : Option FieldType} {rv : Option Value} {σr : Mm} (O : Ok L Γ ad cc nL own Ts rm rt rv σr) {σ : Mm} {pc : Nat} {lv : List (Nat × Value)} {v : Int64} (hv : rv = some (.long v)) (hs : σ = σr) (hty : rt = some .long) (hd : decode cc pc = .ok (.lreturn, 1)) : X L Γ ad σ pc lv [.long v] := by
  obtain ⟨p, l, e, R, s, m, args, below, meth, cd, Q, D, cy, A, nL', cells, slots⟩ := Γ
  obtain ⟨rfl, hx, hb, hml, hown, hts, rfl, hK, hI, hA, hSX, hA2, hlk, hce, hsl, hrt, hret⟩ := O
  intro H locs ls hP hS hl
  subst hs
  exact (hret H locs ls pc hP hS).2.2 v hv hty hd
theorem x_sub {L : List Ck} {Γ : Cx} {ad : Nat → Nat} {cc : ByteArray} {nL : Nat} {own : String} {Ts : List Cond} {rm : Room} {rt : Option FieldType} {rv : Option Value} {σr : Mm} (O : Ok L Γ ad cc nL own Ts rm rt rv σr) {σ : Mm} {pc : Nat} {lv : List (Nat × Value)} {st : List Value} {lv' : List (Nat × Value)} (h : ∀ i v, as1 lv' i = some v → as1 lv i = some v) (kk : X L Γ ad σ pc lv' st) : X L Γ ad σ pc lv st := by
  obtain ⟨p, l, e, R, s, m, args, below, meth, cd, Q, D, cy, A, nL', cells, slots⟩ := Γ
  obtain ⟨rfl, hx, hb, hml, hown, hts, rfl, hK, hI, hA, hSX, hA2, hlk, hce, hsl, hrt, hret⟩ := O
  intro H locs ls hP hS hl
  exact kk H locs ls hP hS ⟨hl.1, hl.2.1, fun i v hv => hl.2.2 i v (h i v hv)⟩
theorem as1_sub {lv lv' : List (Nat × Value)} (h : lv'.map (fun q => as1 lv q.1) = lv'.map (fun q => some q.2)) : ∀ i v, as1 lv' i = some v → as1 lv i = some v := by
  induction lv' with
  | nil => intro i v hv; cases hv
  | cons q t ih =>
    intro i v hv
    have h1 : as1 lv q.1 = some q.2 ∧ t.map (fun q => as1 lv q.1) = t.map (fun q => some q.2) := by
      have h2 := h
      simp only [List.map_cons, List.cons.injEq] at h2
      exact h2
    by_cases hi : q.1 = i
    · obtain ⟨k, w⟩ := q
      dsimp only at hi h1
      subst hi
      rw [as1_self] at hv
      rw [← hv]
      exact h1.1
    · obtain ⟨k, w⟩ := q
      rw [as1_ne _ _ hi] at hv
      exact ih h1.2 i v hv
theorem x_back {p : Program} {l : Launch} {e : Env} {R : Room} {s : State} {m : MethodId} {args : Array Value} {below : List Frame} {meth : Method} {c : Code} {H : Heap} {locs : List Loc} {cells slots : Nat} {Q : State → Prop} {L : List Ck} {D : va_G} {ad : Nat → Nat} {cy : Nat → ClassId} {σ' : Mm} {rv : Option Value} {A : Nat → Prop} {pc : Nat} {ls : Array Slot} {rest st0 : List Value} {a : Array Value}
    (hr : va_Run p l e R s m args below meth c H locs cells slots 0 0 (F0 m pc ls st0) rest (Qz L D ad cy σ' rv H.size a) (AA ad L.length H.size)) (hS : va_S A s.heap H locs) (hA : ∀ i, i < L.length → A (ad i)) (hA2 : ∀ q, s.heap.size ≤ q → A q)
    (kk : ∀ (H1 : Heap) (locs1 : List Loc), va_P D vwCl (wd L ad cy σ') H1 → va_S A s.heap H1 locs1 → W p l e R s m args below meth c H1 locs1 cells slots Q (F0 m (pc + 3) ls (rv.toList ++ rest))) : W p l e R s m args below meth c H locs cells slots Q (F0 m pc ls st0) := by
  intro T hT X
  obtain ⟨v, st₀, t, T', Lc, h0, X', hL, e1, e2, ⟨hv, hP1, hz, hk⟩, st⟩ := hr T hT X
  cases hv
  rw [h0] at hz hk
  have hAA : ∀ q, AA ad L.length H.size q → A q := fun q hq => by
    rcases hq with ⟨i, hi, rfl⟩ | hq
    · exact hA i hi
    · exact hA2 q (Nat.le_trans hS.1 hq)
  obtain ⟨t2, a1, b1⟩ := kk T'.heap (locs ++ Lc) (by rw [e1]; exact hP1)
    ⟨Nat.le_trans hS.1 (by rw [e1]; exact hz), fun q h1 h2 => by rw [e1, hk q (Nat.lt_of_lt_of_le h1 hS.1) (fun z => h2 (hAA q z))]; exact hS.2.1 q h1 h2, fun q hq => by
      rcases List.mem_append.mp hq with h | h
      · exact hS.2.2 q h
      · exact hAA _ (hL q h)⟩ T' rfl X'
  exact ⟨t2, st t2 a1, b1⟩
theorem x_pre {L : List Ck} {D : va_G} {ad : Nat → Nat} {cy : Nat → ClassId} {σ : Mm} {A : Nat → Prop} {s : State} {H : Heap} {locs : List Loc} {av : (Nat → Nat) → List Value} (hP : va_P D vwCl (wd L ad cy σ) H) (hS : va_S A s.heap H locs) (hK : KK D cy s) (hI : Inj ad L.length) (hA : ∀ i, i < L.length → A (ad i)) (hA2 : ∀ q, s.heap.size ≤ q → A q) (hSX : SX A s s.heap) : ∀ U : State, U.heap = H → s.WarmedH U.vm → Pz L D ad cy σ av H.size (av ad).toArray U := fun U hU hW => by
  refine ⟨rfl, by rw [hU], by rw [hU]; exact hP, hK.moved hW, hI, ?_⟩
  rw [hU]
  refine SX.narrow (A := A) ((hSX.moved hW.alike).kept (fun a h1 h2 => hS.2.1 a h1 h2)) (fun q hq => ?_)
  rcases hq with ⟨i, hi, rfl⟩ | hq
  · exact hA i hi
  · exact hA2 q (Nat.le_trans hS.1 hq)
def okCl (L : List Ck) (b : Nat) (C : String) : Prop := ∃ ci fks T N, L[b]? = some (.inl (ci, fks)) ∧ vwCl[ci]? = some (C, T, N)
theorem okCl_of {L : List Ck} {b ci : Nat} {fks : List Nat} {C : String} {T : u_T} {N : Nat} (h : L[b]? = some (.inl (ci, fks))) (hc : vwCl[ci]? = some (C, T, N)) : okCl L b C := ⟨ci, fks, T, N, h, hc⟩
section CALLS
variable {L : List Ck} {Γ : Cx} {ad : Nat → Nat} {cc : ByteArray} {nL : Nat} {own : String} {Ts : List Cond} {rm : Room} {rt : Option FieldType} {rv : Option Value} {σr : Mm} {σ σ' : Mm} {pc : Nat} {lv : List (Nat × Value)} {rest st : List Value}
  {y : MethodName} {bytes : ByteArray} {maxL n index b : Nat} {ret : Option FieldType} {ws : List Cond} {rm' : Room} {C : String} {av : (Nat → Nat) → List Value} {As : List Value} {rv' : Option Value}
theorem x_callV (O : Ok L Γ ad cc nL own Ts rm rt rv σr) (hM : CT L y ws rm' av σ rv' σ') (hca : Ca y bytes maxL ret ws rm' n) (hG : GoodIn Ts (wsV own index C y ws)) (hyC : y.cls = C) (hcl : okCl L b C) (hav : av ad = .ref (ad b) :: As) (hst : st = As.reverse ++ .ref (ad b) :: rest) (hn : As.length = n) (hroom : (rest.map fun v => v.category).sum ≤ 8) (hR : rm'.frames + 1 ≤ rm.frames ∧ 8 + (maxL + 11) + rm'.locals ≤ rm.locals) (hd : decode cc pc = .ok (.invokevirtual index, 3))
    (kk : X L Γ ad σ' (pc + 3) lv (rv'.toList ++ rest)) : X L Γ ad σ pc lv st := by
  obtain ⟨p, l, e, R, s, m, args, below, meth, cd, Q, D, cy, A, nL', cells, slots⟩ := Γ
  obtain ⟨rfl, hx, hb, hml, hown, hts, rfl, hK, hI, hA, hSX, hA2, hlk, hce, hsl, hrt, hret⟩ := O
  obtain ⟨⟨ws', hw⟩, hrc, hrs, hy1, hy2, hy3⟩ := hca
  obtain ⟨ci, fks, T, N, hL, hc⟩ := hcl
  intro H locs ls hP hS hl
  subst hst
  refine x_back (va_runV (As := As) (rest := rest) (b := ad b) ⟨hx, hb, hml, hown, hts⟩ (hM l D ad cy H.size) (cwV n hts hG hw hrc hrs ⟨hyC, hy1, hy2, hy3⟩ hR) ⟨Pz_blind, va_recv hK.1 hP hc (wd_get hL), ?_⟩ rfl hn hl.1 rfl (lv_room hroom) hd ⟨hce, hsl⟩) hS hA hA2 (fun H1 locs1 hP1 hS1 => kk H1 locs1 ls hP1 hS1 hl)
  rw [← hav]
  exact x_pre hP hS hK hI hA hA2 hSX
theorem x_callS (O : Ok L Γ ad cc nL own Ts rm rt rv σr) (hM : CT L y ws rm' av σ rv' σ') (hca : Ca y bytes maxL ret ws rm' n) (hG : GoodIn Ts (va_wsS own index y ws)) (hav : av ad = As) (hst : st = As.reverse ++ rest) (hn : As.length = n) (hroom : (rest.map fun v => v.category).sum ≤ 8) (hR : rm'.frames + 1 ≤ rm.frames ∧ 8 + (maxL + 11) + rm'.locals ≤ rm.locals) (hd : decode cc pc = .ok (.invokestatic index, 3))
    (kk : X L Γ ad σ' (pc + 3) lv (rv'.toList ++ rest)) : X L Γ ad σ pc lv st := by
  obtain ⟨p, l, e, R, s, m, args, below, meth, cd, Q, D, cy, A, nL', cells, slots⟩ := Γ
  obtain ⟨rfl, hx, hb, hml, hown, hts, rfl, hK, hI, hA, hSX, hA2, hlk, hce, hsl, hrt, hret⟩ := O
  obtain ⟨⟨ws', hw⟩, hrc, hrs, hy1, hy2, hy3⟩ := hca
  intro H locs ls hP hS hl
  subst hst
  refine x_back (va_runS (As := As) (rest := rest) ⟨hx, hb, hml, hown, hts⟩ (hM l D ad cy H.size) (va_cwS n hts hG hw hrc hrs ⟨hy1, hy2, hy3⟩ hR) ⟨Pz_blind, ?_⟩ rfl hn hl.1 rfl (lv_room hroom) hd ⟨hce, hsl⟩) hS hA hA2 (fun H1 locs1 hP1 hS1 => kk H1 locs1 ls hP1 hS1 hl)
  rw [← hav]
  exact x_pre hP hS hK hI hA hA2 hSX
theorem x_callN (O : Ok L Γ ad cc nL own Ts rm rt rv σr) (hM : CT L y ws rm' av σ rv' σ') (hca : Ca y bytes maxL ret ws rm' n) (hG : GoodIn Ts ws) (hnl : (own, index, y, RX9) ∈ nestL) (hst2 : Cond.static y ∈ Ts) (hin2 : Cond.initialized y.cls ∈ Ts) (hav : av ad = As) (hst : st = As.reverse ++ rest) (hn : As.length = n) (hroom : (rest.map fun v => v.category).sum ≤ 8) (hR : rm'.frames + 1 ≤ rm.frames ∧ 8 + (maxL + 11) + rm'.locals ≤ rm.locals) (hd : decode cc pc = .ok (.invokestatic index, 3))
    (kk : X L Γ ad σ' (pc + 3) lv (rv'.toList ++ rest)) : X L Γ ad σ pc lv st := by
  obtain ⟨p, l, e, R, s, m, args, below, meth, cd, Q, D, cy, A, nL', cells, slots⟩ := Γ
  obtain ⟨rfl, hx, hb, hml, hown, hts, rfl, hK, hI, hA, hSX, hA2, hlk, hce, hsl, hrt, hret⟩ := O
  obtain ⟨⟨ws', hw⟩, hrc, hrs, hy1, hy2, hy3⟩ := hca
  intro H locs ls hP hS hl
  subst hst
  refine x_back (va_runSN (As := As) (rest := rest) ⟨hx, hb, hml, hown, hts⟩ (hM l D ad cy H.size) ⟨va_cnB n hts hG hw hrc hrs (hK.2 _ hnl) (hts _ hin2) ⟨hy1, hy2, hy3⟩ hR, hts _ hst2, trivial⟩ ⟨Pz_blind, ?_⟩ rfl hn hl.1 rfl (lv_room hroom) hd ⟨hce, hsl⟩) hS hA hA2 (fun H1 locs1 hP1 hS1 => kk H1 locs1 ls hP1 hS1 hl)
  rw [← hav]
  exact x_pre hP hS hK hI hA hA2 hSX
theorem x_max (O : Ok L Γ ad cc nL own Ts rm rt rv σr) {x y : Int32} (hm : Cond.methodLink own index Lib.Math.max.name ∈ Ts) (h1 : Cond.static Lib.Math.max.name ∈ Ts) (h2 : Cond.initialized "java/lang/Math" ∈ Ts) (h3 : Cond.code Lib.Math.max.name Lib.Math.max.code 2 (some .int) ∈ Ts) (hf : 1 ≤ rm.frames) (hlo : (rest.map fun v => v.category).sum + 13 ≤ rm.locals) (hd : decode cc pc = .ok (.invokestatic index, 3)) (kk : X L Γ ad σ (pc + 3) lv (.int (if x < y then y else x) :: rest)) : X L Γ ad σ pc lv (.int y :: .int x :: rest) := by
  obtain ⟨p, l, e, R, s, m, args, below, meth, cd, Q, D, cy, A, nL', cells, slots⟩ := Γ
  obtain ⟨rfl, hx, hb, hml, hown, hts, rfl, hK, hI, hA, hSX, hA2, hlk, hce, hsl, hrt, hret⟩ := O
  intro H locs ls hP hS hl
  exact va_mmax hx hb (hml.trans hl.1.symm) hown (hts _ hm) (hts _ h1) (hts _ h2) (hts _ h3) hf hlo hce hsl hd (kk H locs ls hP hS hl)
theorem x_min (O : Ok L Γ ad cc nL own Ts rm rt rv σr) {x y : Int32} (hm : Cond.methodLink own index Lib.Math.min.name ∈ Ts) (h1 : Cond.static Lib.Math.min.name ∈ Ts) (h2 : Cond.initialized "java/lang/Math" ∈ Ts) (h3 : Cond.code Lib.Math.min.name Lib.Math.min.code 2 (some .int) ∈ Ts) (hf : 1 ≤ rm.frames) (hlo : (rest.map fun v => v.category).sum + 13 ≤ rm.locals) (hd : decode cc pc = .ok (.invokestatic index, 3)) (kk : X L Γ ad σ (pc + 3) lv (.int (if y < x then y else x) :: rest)) : X L Γ ad σ pc lv (.int y :: .int x :: rest) := by
  obtain ⟨p, l, e, R, s, m, args, below, meth, cd, Q, D, cy, A, nL', cells, slots⟩ := Γ
  obtain ⟨rfl, hx, hb, hml, hown, hts, rfl, hK, hI, hA, hSX, hA2, hlk, hce, hsl, hrt, hret⟩ := O
  intro H locs ls hP hS hl
  exact va_mmin hx hb (hml.trans hl.1.symm) hown (hts _ hm) (hts _ h1) (hts _ h2) (hts _ h3) hf hlo hce hsl hd (kk H locs ls hP hS hl)
theorem x_copy (O : Ok L Γ ad cc nL own Ts rm rt rv σr) {a0 a1 n0 n1 : Nat} {sp dp nn : Int32} (hm : Cond.methodLink own index arraycopyName ∈ Ts) (h0 : Cond.native arraycopyName ∈ Ts) (h1 : Cond.static arraycopyName ∈ Ts) (h2 : Cond.initialized "java/lang/System" ∈ Ts) (hL0 : L[a0]? = some (.inr (.inl (0, n0)))) (hL1 : L[a1]? = some (.inr (.inl (0, n1)))) (g1 : ¬ sp < 0) (g2 : ¬ dp < 0) (g3 : ¬ nn < 0) (g4 : sp.toNatClampNeg + nn.toNatClampNeg ≤ n0) (g5 : dp.toNatClampNeg + nn.toNatClampNeg ≤ n1) (hf : 1 ≤ rm.frames) (hlo : (rest.map fun v => v.category).sum + (nativeFrameWords "java/lang/System" "arraycopy" 5 + 11) ≤ rm.locals) (hd : decode cc pc = .ok (.invokestatic index, 3)) (kk : X L Γ ad (sAs σ a1 (va_cpy (gA σ a0) (gA σ a1) sp.toNatClampNeg dp.toNatClampNeg nn.toNatClampNeg)) (pc + 3) lv rest) : X L Γ ad σ pc lv (.int nn :: .int dp :: .ref (ad a1) :: .int sp :: .ref (ad a0) :: rest) := by
  obtain ⟨p, l, e, R, s, m, args, below, meth, cd, Q, D, cy, A, nL', cells, slots⟩ := Γ
  obtain ⟨rfl, hx, hb, hml, hown, hts, rfl, hK, hI, hA, hSX, hA2, hlk, hce, hsl, hrt, hret⟩ := O
  intro H locs ls hP hS hl
  have hD := wd_D (L := L) (ad := ad) (cy := cy) (σ := σ) (A := A) hI hA
  refine va_copyi (D := D) (tys := tysL cy) hx hb (hml.trans hl.1.symm) hown (hts _ hm) (hts _ h0) (hts _ h1) (hts _ h2) hK.1 hP hD hS a0 a1 0 0 (wd_get hL0) (wd_get hL1) rfl rfl rfl g1 g2 g3 g4 g5 (fun _ _ => rfl) hf hlo hd (fun H1 locs1 hP1 _ hS1 => ?_)
  have e := wd_sAs (ad := ad) (cy := cy) (σ := σ) (f := va_cpy (gA σ a0) (gA σ a1) sp.toNatClampNeg dp.toNatClampNeg nn.toNatClampNeg) hL1
  exact kk H1 locs1 ls (e ▸ hP1) hS1 hl
end CALLS
/-- a method's contract out of the walk of its body -/
theorem CT_of {L : List Ck} {y : MethodName} {ws ws' : List Cond} {rm : Room} {av : (Nat → Nat) → List Value} {σ σ' : Mm} {rv : Option Value} {cc : ByteArray} {maxL : Nat} {rt : Option FieldType} {own : String} {lv : (Nat → Nat) → List (Nat × Value)} (hy : plainName y.cls = true) (hw : ws = Cond.code y cc maxL rt :: ws') (hcls : y.cls = own) (hlen : ∀ ad, (lg_sl (av ad)).length ≤ maxL) (hlv : ∀ ad i v, as1 (lv ad) i = some v → (i, v) ∈ lv_args 0 (av ad) ∧ v.category = 1)
    (body : ∀ (Γ : Cx) (ad : Nat → Nat), Ok L Γ ad cc maxL own ws rm rt rv σ' → X L Γ ad σ 0 (lv ad) []) : CT L y ws rm av σ rv σ' := by
  intro l D ad cy sz
  refine Met.ofW hy hw ?_
  intro p e s m args below meth c s₁ B hml hv
  obtain ⟨rfl, hsz, hP, hK, hI, hSX⟩ := hv
  subst hsz
  have hA : ∀ i, i < L.length → AA ad L.length s.heap.size (ad i) := fun i hi => Or.inl ⟨i, hi, rfl⟩
  have hA2 : ∀ q, s.heap.size ≤ q → AA ad L.length s.heap.size q := fun q hq => Or.inr hq
  have hb := body (p, l, e, (headSpec ws rm).room, s, m, (av ad).toArray, below, meth, c, MQ below (Qz L D ad cy σ' rv s.heap.size) (av ad).toArray s 0 0 (AA ad L.length s.heap.size), D, cy, AA ad L.length s.heap.size, maxL, 0, 0) ad ⟨rfl, B.exec, B.bytes, hml, by rw [← hcls]; exact findClass_of_methodNamed B.named, atoms_spec (ws := ws) B.pre, rfl, hK, hI, hA, hSX, hA2, B.notSynchronized, Nat.zero_le _, Nat.zero_le _, B.returns, fun H locs ls pc hP1 hS1 => ⟨fun v hv ⟨ty, h1, h2⟩ hd => W.zret B.exec B.bytes (B.returns.trans h1) h2 (fun t ht _ => ⟨by rw [hv], by rw [ht]; exact hP1, hS1.F ht⟩) hS1.2.2 hd B.notSynchronized, fun hv h1 hd => W.vret B.exec B.bytes (B.returns.trans h1) (fun t ht _ => ⟨by rw [hv], by rw [ht]; exact hP1, hS1.F ht⟩) hS1.2.2 hd B.notSynchronized, fun v hv h1 hd => W.lret B.exec B.bytes (B.returns.trans h1) (fun t ht _ => ⟨by rw [hv], by rw [ht]; exact hP1, hS1.F ht⟩) hS1.2.2 hd B.notSynchronized⟩⟩
  have h2 := hb s.heap [] _ hP va_S.rf (lh_entry (hlen ad) (hlv ad))
  rw [lg_entry_eq]
  exact h2
