def LT : List Ck := [.inl (9, [4, 6, 2, 2, 39, 14, 16, 19, 21, 22, 23, 0, 1, 24, 29, 36]), .inl (7, [5, 0]), .inr (.inl (0, 120)), .inl (6, [4, 7, 8, 9, 0, 0, 2, 0, 0]), .inr (.inl (0, 121)), .inr (.inl (0, 121)), .inr (.inl (0, 121)), .inl (5, [11, 0, 0, 0, 0, 0]), .inr (.inl (0, 20)), .inl (5, [13, 0, 0, 0, 0, 0]), .inr (.inl (0, 20)), .inl (2, [40, 15, 0, 0]), .inr (.inl (0, 80)), .inl (2, [18, 17, 0, 0]), .inr (.inl (0, 80)), .inr (.inl (0, 20)), .inl (3, [20, 0, 0]), .inr (.inr [40, 44, 48, 52, 56, 60, 64, 68, 72, 76]), .inr (.inr [80, 84]), .inr (.inl (1, 2)), .inr (.inl (0, 8)), .inl (1, [25, 26, 27, 28, 0, 2]), .inr (.inl (0, 680)), .inr (.inl (0, 680)), .inr (.inl (0, 680)), .inr (.inl (0, 680)), .inl (8, [30, 31, 32, 33, 34, 35, 0, 2]), .inr (.inl (0, 340)), .inr (.inl (0, 340)), .inr (.inl (0, 340)), .inr (.inl (0, 340)), .inr (.inl (1, 340)), .inr (.inl (0, 340)), .inl (0, [2, 2, 0, 0, 2, 0]), .inr (.inl (0, 340)), .inr (.inl (0, 340)), .inl (4, [40, 41, 42, 0, 0, 0]), .inr (.inl (0, 20)), .inr (.inl (0, 2)), .inr (.inl (0, 2)), .inl (4, [44, 45, 46, 0, 0, 0]), .inr (.inl (0, 20)), .inr (.inl (0, 2)), .inr (.inl (0, 2)), .inl (4, [48, 49, 50, 0, 0, 0]), .inr (.inl (0, 20)), .inr (.inl (0, 2)), .inr (.inl (0, 2)), .inl (4, [52, 53, 54, 0, 0, 0]), .inr (.inl (0, 20)), .inr (.inl (0, 2)), .inr (.inl (0, 2)), .inl (4, [56, 57, 58, 0, 0, 0]), .inr (.inl (0, 20)), .inr (.inl (0, 2)), .inr (.inl (0, 2)), .inl (4, [60, 61, 62, 0, 0, 0]), .inr (.inl (0, 20)), .inr (.inl (0, 2)), .inr (.inl (0, 2)), .inl (4, [64, 65, 66, 0, 0, 0]), .inr (.inl (0, 20)), .inr (.inl (0, 2)), .inr (.inl (0, 2)), .inl (4, [68, 69, 70, 0, 0, 0]), .inr (.inl (0, 20)), .inr (.inl (0, 2)), .inr (.inl (0, 2)), .inl (4, [72, 73, 74, 0, 0, 0]), .inr (.inl (0, 20)), .inr (.inl (0, 2)), .inr (.inl (0, 2)), .inl (4, [76, 77, 78, 0, 0, 0]), .inr (.inl (0, 20)), .inr (.inl (0, 2)), .inr (.inl (0, 2)), .inl (4, [80, 81, 82, 0, 0, 0]), .inr (.inl (0, 20)), .inr (.inl (0, 2)), .inr (.inl (0, 2)), .inl (4, [84, 85, 86, 0, 0, 0]), .inr (.inl (0, 20)), .inr (.inl (0, 2)), .inr (.inl (0, 2)), .inl (4, [88, 89, 90, 0, 0, 0]), .inr (.inl (0, 20)), .inr (.inl (0, 2)), .inr (.inl (0, 2))]
def LM : List Ck := [.inl (10, [0, 1, 4, 0, 0, 0, 0, 0, 0, 5, 0, 0, 0, 6, 7, 8, 9, 10, 0, 11, 0, 0, 0, 12, 13, 14, 15, 16]), .inr (.inl (0, 120)), .inr (.inl (0, 10)), .inr (.inl (0, 20)), .inr (.inl (0, 27)), .inr (.inl (0, 54)), .inr (.inl (1, 2)), .inr (.inl (0, 270)), .inr (.inl (0, 8)), .inr (.inl (0, 680)), .inr (.inl (0, 680)), .inr (.inl (0, 340)), .inr (.inl (0, 340)), .inr (.inl (0, 340))]
def okPl (t : Nat) : Bool := t == 7 || t == 9
def okGr (t : Nat) : Bool := t == 11 || t == 13
def okPa (t : Nat) : Bool := t == 34 || t == 35
def okMo (t : Nat) : Bool := Nat.ble 36 t && (Nat.ble t 84 && (t - 36) % 4 == 0)
def gTl (t : Nat) : Nat := if t = 11 then 37 else 15
theorem okPl_or {t : Nat} (h : okPl t = true) : t = 7 ∨ t = 9 := by simpa [okPl] using h
theorem okGr_or {t : Nat} (h : okGr t = true) : t = 11 ∨ t = 13 := by simpa [okGr] using h
theorem okPa_or {t : Nat} (h : okPa t = true) : t = 34 ∨ t = 35 := by simpa [okPa] using h
theorem okMo_lt {t : Nat} (h : okMo t = true) : t < 85 := by
  have := h
  simp only [okMo, Bool.and_eq_true, Nat.ble_eq] at this
  omega
theorem fkPl {t : Nat} (h : okPl t = true) : LT[t]? = some (.inl (5, [t + 1 + 3, 0, 0, 0, 0, 0])) := by rcases okPl_or h with rfl | rfl <;> rfl
theorem arPl {t : Nat} (h : okPl t = true) : LT[t + 1]? = some (.inr (.inl (0, 20))) := by rcases okPl_or h with rfl | rfl <;> rfl
theorem fkGr {t : Nat} (h : okGr t = true) : LT[t]? = some (.inl (2, [gTl t + 3, t + 1 + 3, 0, 0])) := by rcases okGr_or h with rfl | rfl <;> rfl
theorem arGrT {t : Nat} (h : okGr t = true) : LT[gTl t]? = some (.inr (.inl (0, 20))) := by rcases okGr_or h with rfl | rfl <;> rfl
theorem arGrN {t : Nat} (h : okGr t = true) : LT[t + 1]? = some (.inr (.inl (0, 80))) := by rcases okGr_or h with rfl | rfl <;> rfl
theorem arPa {t : Nat} (h : okPa t = true) : LT[t]? = some (.inr (.inl (0, 340))) := by rcases okPa_or h with rfl | rfl <;> rfl
theorem okMo_ex {t : Nat} (h : okMo t = true) : ∃ k, k < 13 ∧ t = 36 + 4 * k := by
  have := h
  simp only [okMo, Bool.and_eq_true, Nat.ble_eq, beq_iff_eq] at this
  exact ⟨(t - 36) / 4, by omega, by omega⟩
theorem mo_all : ∀ t, t < 85 → okMo t = true → (LT[t]? = some (.inl (4, [t + 1 + 3, t + 2 + 3, t + 3 + 3, 0, 0, 0])) ∧ LT[t + 1]? = some (.inr (.inl (0, 20))) ∧ LT[t + 2]? = some (.inr (.inl (0, 2))) ∧ LT[t + 3]? = some (.inr (.inl (0, 2)))) := by
  intro t _ h
  obtain ⟨k, hk, rfl⟩ := okMo_ex h
  rcases (show k = 0 ∨ k = 1 ∨ k = 2 ∨ k = 3 ∨ k = 4 ∨ k = 5 ∨ k = 6 ∨ k = 7 ∨ k = 8 ∨ k = 9 ∨ k = 10 ∨ k = 11 ∨ k = 12 by omega) with rfl | rfl | rfl | rfl | rfl | rfl | rfl | rfl | rfl | rfl | rfl | rfl | rfl <;> exact ⟨rfl, rfl, rfl, rfl⟩
theorem fkMo {t : Nat} (h : okMo t = true) : LT[t]? = some (.inl (4, [t + 1 + 3, t + 2 + 3, t + 3 + 3, 0, 0, 0])) := (mo_all t (okMo_lt h) h).1
theorem arMo1 {t : Nat} (h : okMo t = true) : LT[t + 1]? = some (.inr (.inl (0, 20))) := (mo_all t (okMo_lt h) h).2.1
theorem arMo2 {t : Nat} (h : okMo t = true) : LT[t + 2]? = some (.inr (.inl (0, 2))) := (mo_all t (okMo_lt h) h).2.2.1
theorem arMo3 {t : Nat} (h : okMo t = true) : LT[t + 3]? = some (.inr (.inl (0, 2))) := (mo_all t (okMo_lt h) h).2.2.2
theorem okMo_h {j : Nat} (h : j < 10) : okMo (40 + 4 * j) = true := (by decide +kernel : ∀ j, j < 10 → okMo (40 + 4 * j) = true) j h
theorem okMo_i {j : Nat} (h : j < 2) : okMo (80 + 4 * j) = true := (by decide +kernel : ∀ j, j < 2 → okMo (80 + 4 * j) = true) j h
theorem idMo_h : ∀ j, j < 10 → ([40, 44, 48, 52, 56, 60, 64, 68, 72, 76] : List Nat)[j]? = some (40 + 4 * j) := by decide +kernel
theorem idMo_i : ∀ j, j < 2 → ([80, 84] : List Nat)[j]? = some (80 + 4 * j) := by decide +kernel
theorem okCl_Pl {t : Nat} (h : okPl t = true) : okCl LT t RX5 := okCl_of (fkPl h) rfl
theorem okCl_Gr {t : Nat} (h : okGr t = true) : okCl LT t RX2 := okCl_of (fkGr h) rfl
theorem okCl_Mo {t : Nat} (h : okMo t = true) : okCl LT t RX4 := okCl_of (fkMo h) rfl
theorem hsetT : ∀ fks, LT[0]? = some (.inl (9, fks)) → ∀ (σ : Mm) (ad : Nat → Nat) (v : Int64), (fvs ad σ 0 0 fks).set 12 (.long v) = fvs ad (sJ σ v) 0 0 fks := fun fks h σ ad v => by
  cases h
  rfl
theorem hsetM : ∀ fks, LM[0]? = some (.inl (10, fks)) → ∀ (σ : Mm) (ad : Nat → Nat) (v : Int64), (fvs ad σ 0 0 fks).set 1 (.long v) = fvs ad (sJ σ v) 0 0 fks := fun fks h σ ad v => by
  cases h
  rfl
theorem nJ_of {L : List Ck} (h : (L.drop 1).all nJ = true) : ∀ c' K', L[c']? = some K' → c' ≠ 0 → nJ K' = true := fun c' K' hL hne => by
  refine List.all_eq_true.mp h K' ?_
  obtain ⟨k, rfl⟩ : ∃ k, c' = k + 1 := ⟨c' - 1, by omega⟩
  exact List.mem_of_getElem? (i := k) (by rw [List.getElem?_drop, Nat.add_comm]; exact hL)
theorem nJ_T : ∀ c' K', LT[c']? = some K' → c' ≠ 0 → nJ K' = true := nJ_of (by decide +kernel)
theorem nJ_M : ∀ c' K', LM[c']? = some K' → c' ≠ 0 → nJ K' = true := nJ_of (by decide +kernel)
-- named values; ends of loops
def nm {α β : Type} (a : α) (K : α → β) : β := K a
theorem kx_l {S ρ : Type} {P : S → Prop} {K : ρ → Prop} {s : S} (h : kx P K (.inl s)) : P s := h
theorem kx_r {S ρ : Type} {P : S → Prop} {K : ρ → Prop} {r : ρ} (h : kx P K (.inr r)) : K r := h
theorem nb_ok {v : Int32} (h : v = 0 ∨ v = 1) : narrow .boolean (.int v) = .int v := by rcases h with rfl | rfl <;> rfl
theorem tb_out {x : Int32} {hi : Nat} (hhi : hi < 1000) (h : ∀ k, k ≤ hi → ¬ x = nI k) : x.toInt < 0 ∨ (hi : Int) < x.toInt := by
  by_cases h0 : x.toInt < 0
  · exact Or.inl h0
  · refine Or.inr ?_
    by_cases h1 : (hi : Int) < x.toInt
    · exact h1
    · exfalso
      refine h x.toInt.toNat (by omega) (Int32.toInt_inj.mp ?_)
      rw [nI_toInt (by omega)]
      omega
theorem as1_mem {lv : List (Nat × Value)} {i : Nat} {v : Value} (h : as1 lv i = some v) : (i, v) ∈ lv := by
  induction lv with
  | nil => cases h
  | cons q t ih =>
    obtain ⟨k, w⟩ := q
    by_cases hi : k = i
    · subst hi
      rw [as1_self] at h
      cases h
      exact List.mem_cons_self
    · rw [as1_ne _ _ hi] at h
      exact List.mem_cons_of_mem _ (ih h)
theorem cat_all {lv : List (Nat × Value)} (h : lv.all (fun q => q.2.category == 1) = true) {i : Nat} {v : Value} (hm : (i, v) ∈ lv) : v.category = 1 := by
  have := List.all_eq_true.mp h _ hm
  simpa using this
section XN
variable {L : List Ck} {Γ : Cx} {ad : Nat → Nat} {cc : ByteArray} {nL : Nat} {own : String} {Ts : List Cond} {rm : Room} {rt : Option FieldType} {rv : Option Value} {σr : Mm} {σ : Mm} {pc : Nat} {lv : List (Nat × Value)} {st : List Value} {ρ : Type} {r : ρ}
theorem x_jmp (O : Ok L Γ ad cc nL own Ts rm rt rv σr) {lv' : List (Nat × Value)} (kk : X L Γ ad σ pc lv' st) (h : lv'.map (fun q => as1 lv q.1) = lv'.map (fun q => some q.2)) : X L Γ ad σ pc lv st := x_sub O (as1_sub h) kk
theorem x_istore_nN (O : Ok L Γ ad cc nL own Ts rm rt rv σr) (i : Nat) {k : Fin 4} {x : Int32} {K : Int32 → Option ρ} (hf : nm x K = some r) (hd : decode cc pc = .ok (.istore_n k, 1)) (hi : (k : Nat) = i) (hn : i < nL) (kk : ∀ y, K y = some r → X L Γ ad σ (pc + 1) ((i, .int y) :: lv) st) : X L Γ ad σ pc lv (.int x :: st) := x_istore_n O i hd hi hn (kk x hf)
theorem x_istoreN (O : Ok L Γ ad cc nL own Ts rm rt rv σr) {i : Nat} {x : Int32} {K : Int32 → Option ρ} (hf : nm x K = some r) (hd : decode cc pc = .ok (.istore i, 2)) (hn : i < nL) (kk : ∀ y, K y = some r → X L Γ ad σ (pc + 2) ((i, .int y) :: lv) st) : X L Γ ad σ pc lv (.int x :: st) := x_istore O hd hn (kk x hf)
theorem x_iincN (O : Ok L Γ ad cc nL own Ts rm rt rv σr) {i : Nat} {n : Int} {x w : Int32} {K : Int32 → Option ρ} (hf : nm w K = some r) (hd : decode cc pc = .ok (.iinc i n, 3)) (hv : as1 lv i = some (.int x)) (hw : x + Int32.ofInt n = w) (hn : i < nL) (kk : ∀ y, K y = some r → X L Γ ad σ (pc + 3) ((i, .int y) :: lv) st) : X L Γ ad σ pc lv st := x_iinc O hd hv hw hn (kk w hf)
theorem x_putIN (O : Ok L Γ ad cc nL own Ts rm rt rv σr) {c index ci k : Nat} {ty : FieldType} {v : Int32} {K : Mm → Option ρ} (hf : nm (sI σ c k v) K = some r) (hn : narrow ty (.int v) = .int v) (hfi : fits ty (.int v) = true) (F : Fl own Ts index ci k false ty) (hk : fk L c k = some (ci, 0)) (hd : decode cc pc = .ok (.putfield index, 3)) (kk : ∀ σ', K σ' = some r → X L Γ ad σ' (pc + 3) lv st) : X L Γ ad σ pc lv (.int v :: .ref (ad c) :: st) := x_putI O hn hfi F hk hd (kk _ hf)
theorem x_putRN (O : Ok L Γ ad cc nL own Ts rm rt rv σr) {c index ci k : Nat} {ty : FieldType} {v : Nat} {K : Mm → Option ρ} (hf : nm (sR σ c k (some v)) K = some r) (hn : narrow ty (.ref (ad v)) = .ref (ad v)) (hfi : fits ty (.ref (ad v)) = true) (F : Fl own Ts index ci k false ty) (hk : fk L c k = some (ci, 2)) (hd : decode cc pc = .ok (.putfield index, 3)) (kk : ∀ σ', K σ' = some r → X L Γ ad σ' (pc + 3) lv st) : X L Γ ad σ pc lv (.ref (ad v) :: .ref (ad c) :: st) := x_putR O hn hfi F hk hd (kk _ hf)
theorem x_putJN (O : Ok L Γ ad cc nL own Ts rm rt rv σr) {c index ci k : Nat} {ty : FieldType} {v : Int64} {K : Mm → Option ρ} (hf : nm (sJ σ v) K = some r) (hset : ∀ fks, L[c]? = some (.inl (ci, fks)) → ∀ (σ : Mm) (ad : Nat → Nat) (v : Int64), (fvs ad σ c 0 fks).set k (.long v) = fvs ad (sJ σ v) c 0 fks) (hnJ : ∀ c' K', L[c']? = some K' → c' ≠ c → nJ K' = true) (hn : narrow ty (.long v) = .long v) (hfi : fits ty (.long v) = true) (F : Fl own Ts index ci k false ty) (hk : fk L c k = some (ci, 1)) (hd : decode cc pc = .ok (.putfield index, 3)) (kk : ∀ σ', K σ' = some r → X L Γ ad σ' (pc + 3) lv st) : X L Γ ad σ pc lv (.long v :: .ref (ad c) :: st) := x_putJ O (fun fks h σ => hset fks h σ ad v) hnJ hn hfi F hk hd (kk _ hf)
theorem x_iastN (O : Ok L Γ ad cc nL own Ts rm rt rv σr) {a n : Nat} {i x : Int32} {K : Mm → Option ρ} (hf : ix i n (fun j => nm (sA σ a j x) K) = some r) (hL : L[a]? = some (.inr (.inl (0, n)))) (hd : decode cc pc = .ok (.iastore, 1)) (kk : ∀ σ', K σ' = some r → X L Γ ad σ' (pc + 1) lv st) : X L Γ ad σ pc lv (.int x :: .int i :: .ref (ad a) :: st) := x_iast O hf hL hd (fun _ hf => kk _ hf)
theorem x_zastN (O : Ok L Γ ad cc nL own Ts rm rt rv σr) {a n : Nat} {i x : Int32} {K : Mm → Option ρ} (hf : ix i n (fun j => nm (sA σ a j x) K) = some r) (hn : vp_nar .boolean x = x) (hL : L[a]? = some (.inr (.inl (1, n)))) (hd : decode cc pc = .ok (.bastore, 1)) (kk : ∀ σ', K σ' = some r → X L Γ ad σ' (pc + 1) lv st) : X L Γ ad σ pc lv (.int x :: .int i :: .ref (ad a) :: st) := x_zast O hf hn hL hd (fun _ hf => kk _ hf)
theorem x_push (O : Ok L Γ ad cc nL own Ts rm rt rv σr) {v : Value} (kk : X L Γ ad σ pc lv (v :: st)) : X L Γ ad σ pc lv ((some v).toList ++ st) := kk
theorem x_pushN (O : Ok L Γ ad cc nL own Ts rm rt rv σr) (kk : X L Γ ad σ pc lv st) : X L Γ ad σ pc lv ((none : Option Value).toList ++ st) := kk
theorem x_copyN (O : Ok L Γ ad cc nL own Ts rm rt rv σr) {index a0 a1 n0 n1 : Nat} {sp dp nn : Int32} {K : Mm → Option ρ} (hf : nm (sAs σ a1 (va_cpy (gA σ a0) (gA σ a1) sp.toNatClampNeg dp.toNatClampNeg nn.toNatClampNeg)) K = some r) (hm : Cond.methodLink own index arraycopyName ∈ Ts) (h0 : Cond.native arraycopyName ∈ Ts) (h1 : Cond.static arraycopyName ∈ Ts) (h2 : Cond.initialized "java/lang/System" ∈ Ts) (hL0 : L[a0]? = some (.inr (.inl (0, n0)))) (hL1 : L[a1]? = some (.inr (.inl (0, n1)))) (g1 : ¬ sp < 0) (g2 : ¬ dp < 0) (g3 : ¬ nn < 0) (g4 : sp.toNatClampNeg + nn.toNatClampNeg ≤ n0) (g5 : dp.toNatClampNeg + nn.toNatClampNeg ≤ n1) (hf1 : 1 ≤ rm.frames) (hlo : (st.map fun v => v.category).sum + (nativeFrameWords "java/lang/System" "arraycopy" 5 + 11) ≤ rm.locals) (hd : decode cc pc = .ok (.invokestatic index, 3)) (kk : ∀ σ', K σ' = some r → X L Γ ad σ' (pc + 3) lv st) : X L Γ ad σ pc lv (.int nn :: .int dp :: .ref (ad a1) :: .int sp :: .ref (ad a0) :: st) := x_copy O hm h0 h1 h2 hL0 hL1 g1 g2 g3 g4 g5 hf1 hlo hd (kk _ hf)
end XN
theorem CT_of2 {L : List Ck} {y : MethodName} {ws ws' : List Cond} {rm : Room} {av : (Nat → Nat) → List Value} {σ σ' : Mm} {rv : Option Value} {cc : ByteArray} {maxL : Nat} {rt : Option FieldType} {own : String} (hy : plainName y.cls = true) (hw : ws = Cond.code y cc maxL rt :: ws') (hcls : y.cls = own) (hlen : ∀ ad, (lg_sl (av ad)).length ≤ maxL) (hcat : ∀ ad, (lv_args 0 (av ad)).all (fun q => q.2.category == 1) = true)
    (body : ∀ (Γ : Cx) (ad : Nat → Nat), Ok L Γ ad cc maxL own ws rm rt rv σ' → X L Γ ad σ 0 (lv_args 0 (av ad)) []) : CT L y ws rm av σ rv σ' := CT_of (lv := fun ad => lv_args 0 (av ad)) hy hw hcls hlen (fun ad i v h => ⟨as1_mem h, cat_all (hcat ad) (as1_mem h)⟩) body
