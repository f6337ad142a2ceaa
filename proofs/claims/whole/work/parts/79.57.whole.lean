/-! a new object, whole -/
def mosA (bs : Nat → Nat → Nat) : Nat → List Nat
  | 0 => []
  | k + 1 => mosA bs k ++ [bs k 0, bs k 1, bs k 2, bs k 3]
theorem mos_fst {cy : Nat → ClassId} {bs : Nat → Nat → Nat} : ∀ k, (mos cy bs k).map Prod.fst = mosA bs k
  | 0 => rfl
  | k + 1 => by
    show (mos cy bs k ++ wd LMo (bs k) cy muMo).map Prod.fst = mosA bs k ++ [bs k 0, bs k 1, bs k 2, bs k 3]
    rw [List.map_append, mos_fst k, wd_fst]
    rfl
theorem mos_at {D : va_G} {cl : List vw_C} {cy : Nat → ClassId} {bs : Nat → Nat → Nat} {H : Heap} : ∀ k, va_P D cl (mos cy bs k) H → ∀ j, j < k → va_P D cl (wd LMo (bs j) cy muMo) H
  | 0, _, j, hj => by omega
  | k + 1, h, j, hj => by
    have h' : va_P D cl (mos cy bs k ++ wd LMo (bs k) cy muMo) H := h
    by_cases e : j = k
    · rw [e]; exact h'.r
    · exact mos_at k h'.l j (by omega)
theorem va_P.nil {D : va_G} {cl : List vw_C} {H : Heap} : va_P D cl [] H := fun k q hk => by cases hk
theorem va_P.cons {D : va_G} {cl : List vw_C} {x : Nat × va_E} {t : va_W} {H : Heap} (h : va_at D cl x H) (ht : va_P D cl t H) : va_P D cl (x :: t) H
  | 0, q, hk => by cases hk; exact h
  | k + 1, q, hk => ht k q hk
def wdF (ad : Nat → Nat) (cy : Nat → ClassId) (σ : Mm) : Nat → List Ck → va_W
  | _, [] => []
  | c, K :: t => (ad c, en ad cy σ c K) :: wdF ad cy σ (c + 1) t
theorem wdF_get {ad : Nat → Nat} {cy : Nat → ClassId} {σ : Mm} : ∀ (L : List Ck) (c i : Nat), (wdF ad cy σ c L)[i]? = (L[i]?).map (fun K => (ad (c + i), en ad cy σ (c + i) K))
  | [], c, i => rfl
  | K :: t, c, 0 => rfl
  | K :: t, c, i + 1 => by
    show (wdF ad cy σ (c + 1) t)[i]? = _
    rw [wdF_get t (c + 1) i, show c + 1 + i = c + (i + 1) by omega]
    rfl
theorem wd_F {L : List Ck} {ad : Nat → Nat} {cy : Nat → ClassId} {σ : Mm} : wd L ad cy σ = wdF ad cy σ 0 L := by
  refine List.ext_getElem? fun i => ?_
  unfold wd
  rw [wdF_get, List.getElem?_mapIdx, Nat.zero_add]
section TWT
variable {D : va_G} {A : Nat → Prop} {H : Heap} {cy : Nat → ClassId} {b1 b2 b3 b4 b5 b6 b7 b9 b10 b11 bi0 bi1 : Nat → Nat} {u : Nat × (Nat → Nat → Nat)} {q q8 ri ak aw atr : Nat}
set_option maxHeartbeats 4000000 in
set_option maxRecDepth 100000 in
theorem T_all (h2 : b2 4 = b1 0) (h6 : b6 2 = b5 1) (h7 : b7 2 = atr) (hP : va_P D vwCl ((q, .inr (9, [.ref (b1 0), .ref (b2 0), .ref (b3 0), .ref (b4 0), .ref (b5 0), .ref (b6 0), .ref (b7 0), .ref q8, .ref ri, .ref ak, .ref aw, .int 0, .long 0, .ref (b9 0), .ref (b10 0), .ref (b11 0)])) :: ((((((((((((((((([] : va_W) ++ wd LTe b1 cy zm) ++ wd LRe b2 cy zm) ++ wd LPl b3 cy muPl) ++ wd LPl b4 cy muPl) ++ wd LMo b5 cy muMo) ++ wd LGr b6 cy muGr) ++ [(atr, .inl (cy 0, (20, .inl (fun _ => 0))))]) ++ wd LGr b7 cy muGr) ++ hib cy q8 u) ++ [(ri, .inl (cy 2, (2, .inr (.inr (.inr (.inr (va_up (va_up (fun _ => none) (0 : Int32).toNatClampNeg (some (bi0 0))) (1 : Int32).toNatClampNeg (some (bi1 0)))))))))]) ++ (wd LMo bi0 cy muMo ++ wd LMo bi1 cy muMo)) ++ [(ak, .inl (cy 1, (2, .inl (fun _ => 0))))]) ++ [(aw, .inl (cy 0, (8, .inl (fun _ => 0))))]) ++ wd LCo b9 cy zm) ++ wd LWa b10 cy zm) ++ wd LCh b11 cy zm)) H) : va_P D vwCl (wd LT (TAd b1 b2 b3 b4 b5 b6 b7 b9 b10 b11 bi0 bi1 u q q8 ri ak aw atr) cy sT0) H := by
  have h0 := hP 0 _ rfl
  have hR := hP.t
  have kCh := hR.r
  replace hR := hR.l
  have kWa := hR.r
  replace hR := hR.l
  have kCo := hR.r
  replace hR := hR.l
  have kaw := hR.r
  replace hR := hR.l
  have kak := hR.r
  replace hR := hR.l
  have kIm := hR.r
  replace hR := hR.l
  have kri := hR.r
  replace hR := hR.l
  have kHi := hR.r
  replace hR := hR.l
  have kG7 := hR.r
  replace hR := hR.l
  have ktr := hR.r
  replace hR := hR.l
  have kG6 := hR.r
  replace hR := hR.l
  have kMo := hR.r
  replace hR := hR.l
  have kP4 := hR.r
  replace hR := hR.l
  have kP3 := hR.r
  replace hR := hR.l
  have kRe := hR.r
  replace hR := hR.l
  have kTe := hR.r
  have kI0 := kIm.l
  have kI1 := kIm.r
  have kHb := va_P.l kHi
  have kMs := mos_at 10 (va_P.r kHi)
  clear hR kIm kHi
  rw [wd_F]
  refine va_P.cons (T_a0 h0) ?_
  refine va_P.cons (T_a1 kTe) ?_
  refine va_P.cons (T_a2 kTe) ?_
  refine va_P.cons (T_a3 kRe h2) ?_
  refine va_P.cons (T_a4 kRe) ?_
  refine va_P.cons (T_a5 kRe) ?_
  refine va_P.cons (T_a6 kRe) ?_
  refine va_P.cons (T_a7 kP3) ?_
  refine va_P.cons (T_a8 kP3) ?_
  refine va_P.cons (T_a9 kP4) ?_
  refine va_P.cons (T_a10 kP4) ?_
  refine va_P.cons (T_a11 kG6 h6) ?_
  refine va_P.cons (T_a12 kG6) ?_
  refine va_P.cons (T_a13 kG7 h7) ?_
  refine va_P.cons (T_a14 kG7) ?_
  refine va_P.cons (T_a15 (ktr 0 _ rfl)) ?_
  refine va_P.cons (T_a16 (kHb 0 _ rfl)) ?_
  refine va_P.cons (T_a17 (kHb 1 _ rfl)) ?_
  refine va_P.cons (T_a18 (kri 0 _ rfl)) ?_
  refine va_P.cons (T_a19 (kak 0 _ rfl)) ?_
  refine va_P.cons (T_a20 (kaw 0 _ rfl)) ?_
  refine va_P.cons (T_a21 kCo) ?_
  refine va_P.cons (T_a22 kCo) ?_
  refine va_P.cons (T_a23 kCo) ?_
  refine va_P.cons (T_a24 kCo) ?_
  refine va_P.cons (T_a25 kCo) ?_
  refine va_P.cons (T_a26 kWa) ?_
  refine va_P.cons (T_a27 kWa) ?_
  refine va_P.cons (T_a28 kWa) ?_
  refine va_P.cons (T_a29 kWa) ?_
  refine va_P.cons (T_a30 kWa) ?_
  refine va_P.cons (T_a31 kWa) ?_
  refine va_P.cons (T_a32 kWa) ?_
  refine va_P.cons (T_a33 kCh) ?_
  refine va_P.cons (T_a34 kCh) ?_
  refine va_P.cons (T_a35 kCh) ?_
  refine va_P.cons (T_a36 kMo) ?_
  refine va_P.cons (T_a37 kMo) ?_
  refine va_P.cons (T_a38 kMo) ?_
  refine va_P.cons (T_a39 kMo) ?_
  refine va_P.cons (T_a40 (kMs 0 (by decide))) ?_
  refine va_P.cons (T_a41 (kMs 0 (by decide))) ?_
  refine va_P.cons (T_a42 (kMs 0 (by decide))) ?_
  refine va_P.cons (T_a43 (kMs 0 (by decide))) ?_
  refine va_P.cons (T_a44 (kMs 1 (by decide))) ?_
  refine va_P.cons (T_a45 (kMs 1 (by decide))) ?_
  refine va_P.cons (T_a46 (kMs 1 (by decide))) ?_
  refine va_P.cons (T_a47 (kMs 1 (by decide))) ?_
  refine va_P.cons (T_a48 (kMs 2 (by decide))) ?_
  refine va_P.cons (T_a49 (kMs 2 (by decide))) ?_
  refine va_P.cons (T_a50 (kMs 2 (by decide))) ?_
  refine va_P.cons (T_a51 (kMs 2 (by decide))) ?_
  refine va_P.cons (T_a52 (kMs 3 (by decide))) ?_
  refine va_P.cons (T_a53 (kMs 3 (by decide))) ?_
  refine va_P.cons (T_a54 (kMs 3 (by decide))) ?_
  refine va_P.cons (T_a55 (kMs 3 (by decide))) ?_
  refine va_P.cons (T_a56 (kMs 4 (by decide))) ?_
  refine va_P.cons (T_a57 (kMs 4 (by decide))) ?_
  refine va_P.cons (T_a58 (kMs 4 (by decide))) ?_
  refine va_P.cons (T_a59 (kMs 4 (by decide))) ?_
  refine va_P.cons (T_a60 (kMs 5 (by decide))) ?_
  refine va_P.cons (T_a61 (kMs 5 (by decide))) ?_
  refine va_P.cons (T_a62 (kMs 5 (by decide))) ?_
  refine va_P.cons (T_a63 (kMs 5 (by decide))) ?_
  refine va_P.cons (T_a64 (kMs 6 (by decide))) ?_
  refine va_P.cons (T_a65 (kMs 6 (by decide))) ?_
  refine va_P.cons (T_a66 (kMs 6 (by decide))) ?_
  refine va_P.cons (T_a67 (kMs 6 (by decide))) ?_
  refine va_P.cons (T_a68 (kMs 7 (by decide))) ?_
  refine va_P.cons (T_a69 (kMs 7 (by decide))) ?_
  refine va_P.cons (T_a70 (kMs 7 (by decide))) ?_
  refine va_P.cons (T_a71 (kMs 7 (by decide))) ?_
  refine va_P.cons (T_a72 (kMs 8 (by decide))) ?_
  refine va_P.cons (T_a73 (kMs 8 (by decide))) ?_
  refine va_P.cons (T_a74 (kMs 8 (by decide))) ?_
  refine va_P.cons (T_a75 (kMs 8 (by decide))) ?_
  refine va_P.cons (T_a76 (kMs 9 (by decide))) ?_
  refine va_P.cons (T_a77 (kMs 9 (by decide))) ?_
  refine va_P.cons (T_a78 (kMs 9 (by decide))) ?_
  refine va_P.cons (T_a79 (kMs 9 (by decide))) ?_
  refine va_P.cons (T_a80 kI0) ?_
  refine va_P.cons (T_a81 kI0) ?_
  refine va_P.cons (T_a82 kI0) ?_
  refine va_P.cons (T_a83 kI0) ?_
  refine va_P.cons (T_a84 kI1) ?_
  refine va_P.cons (T_a85 kI1) ?_
  refine va_P.cons (T_a86 kI1) ?_
  refine va_P.cons (T_a87 kI1) ?_
  exact va_P.nil
theorem T_fst : ((q, .inr (9, [.ref (b1 0), .ref (b2 0), .ref (b3 0), .ref (b4 0), .ref (b5 0), .ref (b6 0), .ref (b7 0), .ref q8, .ref ri, .ref ak, .ref aw, .int 0, .long 0, .ref (b9 0), .ref (b10 0), .ref (b11 0)])) :: ((((((((((((((((([] : va_W) ++ wd LTe b1 cy zm) ++ wd LRe b2 cy zm) ++ wd LPl b3 cy muPl) ++ wd LPl b4 cy muPl) ++ wd LMo b5 cy muMo) ++ wd LGr b6 cy muGr) ++ [(atr, .inl (cy 0, (20, .inl (fun _ => 0))))]) ++ wd LGr b7 cy muGr) ++ hib cy q8 u) ++ [(ri, .inl (cy 2, (2, .inr (.inr (.inr (.inr (va_up (va_up (fun _ => none) (0 : Int32).toNatClampNeg (some (bi0 0))) (1 : Int32).toNatClampNeg (some (bi1 0)))))))))]) ++ (wd LMo bi0 cy muMo ++ wd LMo bi1 cy muMo)) ++ [(ak, .inl (cy 1, (2, .inl (fun _ => 0))))]) ++ [(aw, .inl (cy 0, (8, .inl (fun _ => 0))))]) ++ wd LCo b9 cy zm) ++ wd LWa b10 cy zm) ++ wd LCh b11 cy zm)).map Prod.fst = TLs b1 b2 b3 b4 b5 b6 b7 b9 b10 b11 bi0 bi1 u q q8 ri ak aw atr := by
  simp only [List.map_append, List.map_cons, List.map_nil, wd_fst, hib, mos_fst, List.nil_append]
  rfl
theorem T_world (h2 : b2 4 = b1 0) (h6 : b6 2 = b5 1) (h7 : b7 2 = atr) (hP : va_P D vwCl ((q, .inr (9, [.ref (b1 0), .ref (b2 0), .ref (b3 0), .ref (b4 0), .ref (b5 0), .ref (b6 0), .ref (b7 0), .ref q8, .ref ri, .ref ak, .ref aw, .int 0, .long 0, .ref (b9 0), .ref (b10 0), .ref (b11 0)])) :: ((((((((((((((((([] : va_W) ++ wd LTe b1 cy zm) ++ wd LRe b2 cy zm) ++ wd LPl b3 cy muPl) ++ wd LPl b4 cy muPl) ++ wd LMo b5 cy muMo) ++ wd LGr b6 cy muGr) ++ [(atr, .inl (cy 0, (20, .inl (fun _ => 0))))]) ++ wd LGr b7 cy muGr) ++ hib cy q8 u) ++ [(ri, .inl (cy 2, (2, .inr (.inr (.inr (.inr (va_up (va_up (fun _ => none) (0 : Int32).toNatClampNeg (some (bi0 0))) (1 : Int32).toNatClampNeg (some (bi1 0)))))))))]) ++ (wd LMo bi0 cy muMo ++ wd LMo bi1 cy muMo)) ++ [(ak, .inl (cy 1, (2, .inl (fun _ => 0))))]) ++ [(aw, .inl (cy 0, (8, .inl (fun _ => 0))))]) ++ wd LCo b9 cy zm) ++ wd LWa b10 cy zm) ++ wd LCh b11 cy zm)) H) (hD : va_D A ((q, .inr (9, [.ref (b1 0), .ref (b2 0), .ref (b3 0), .ref (b4 0), .ref (b5 0), .ref (b6 0), .ref (b7 0), .ref q8, .ref ri, .ref ak, .ref aw, .int 0, .long 0, .ref (b9 0), .ref (b10 0), .ref (b11 0)])) :: ((((((((((((((((([] : va_W) ++ wd LTe b1 cy zm) ++ wd LRe b2 cy zm) ++ wd LPl b3 cy muPl) ++ wd LPl b4 cy muPl) ++ wd LMo b5 cy muMo) ++ wd LGr b6 cy muGr) ++ [(atr, .inl (cy 0, (20, .inl (fun _ => 0))))]) ++ wd LGr b7 cy muGr) ++ hib cy q8 u) ++ [(ri, .inl (cy 2, (2, .inr (.inr (.inr (.inr (va_up (va_up (fun _ => none) (0 : Int32).toNatClampNeg (some (bi0 0))) (1 : Int32).toNatClampNeg (some (bi1 0)))))))))]) ++ (wd LMo bi0 cy muMo ++ wd LMo bi1 cy muMo)) ++ [(ak, .inl (cy 1, (2, .inl (fun _ => 0))))]) ++ [(aw, .inl (cy 0, (8, .inl (fun _ => 0))))]) ++ wd LCo b9 cy zm) ++ wd LWa b10 cy zm) ++ wd LCh b11 cy zm))) : va_P D vwCl (wd LT (TAd b1 b2 b3 b4 b5 b6 b7 b9 b10 b11 bi0 bi1 u q q8 ri ak aw atr) cy sT0) H ∧ va_D A (wd LT (TAd b1 b2 b3 b4 b5 b6 b7 b9 b10 b11 bi0 bi1 u q q8 ri ak aw atr) cy sT0) := by
  refine ⟨T_all h2 h6 h7 hP, ?_⟩
  have hf := T_fst (cy := cy) (b1 := b1) (b2 := b2) (b3 := b3) (b4 := b4) (b5 := b5) (b6 := b6) (b7 := b7) (b9 := b9) (b10 := b10) (b11 := b11) (bi0 := bi0) (bi1 := bi1) (u := u) (q := q) (q8 := q8) (ri := ri) (ak := ak) (aw := aw) (atr := atr)
  generalize ((q, .inr (9, [.ref (b1 0), .ref (b2 0), .ref (b3 0), .ref (b4 0), .ref (b5 0), .ref (b6 0), .ref (b7 0), .ref q8, .ref ri, .ref ak, .ref aw, .int 0, .long 0, .ref (b9 0), .ref (b10 0), .ref (b11 0)])) :: ((((((((((((((((([] : va_W) ++ wd LTe b1 cy zm) ++ wd LRe b2 cy zm) ++ wd LPl b3 cy muPl) ++ wd LPl b4 cy muPl) ++ wd LMo b5 cy muMo) ++ wd LGr b6 cy muGr) ++ [(atr, .inl (cy 0, (20, .inl (fun _ => 0))))]) ++ wd LGr b7 cy muGr) ++ hib cy q8 u) ++ [(ri, .inl (cy 2, (2, .inr (.inr (.inr (.inr (va_up (va_up (fun _ => none) (0 : Int32).toNatClampNeg (some (bi0 0))) (1 : Int32).toNatClampNeg (some (bi1 0)))))))))]) ++ (wd LMo bi0 cy muMo ++ wd LMo bi1 cy muMo)) ++ [(ak, .inl (cy 1, (2, .inl (fun _ => 0))))]) ++ [(aw, .inl (cy 0, (8, .inl (fun _ => 0))))]) ++ wd LCo b9 cy zm) ++ wd LWa b10 cy zm) ++ wd LCh b11 cy zm) : va_W) = W at hf hD
  have hlen : (TLs b1 b2 b3 b4 b5 b6 b7 b9 b10 b11 bi0 bi1 u q q8 ri ak aw atr).length = 88 := rfl
  have hW : ∀ i, i < 88 → ∃ x, W[i]? = some x ∧ x.1 = (TLs b1 b2 b3 b4 b5 b6 b7 b9 b10 b11 bi0 bi1 u q q8 ri ak aw atr).getD i 0 := fun i hi => by
    have hl : W.length = 88 := by rw [← List.length_map (f := Prod.fst), hf]; exact hlen
    refine ⟨W[i], List.getElem?_eq_getElem (by omega), ?_⟩
    rw [← hf, List.getD_eq_getElem?_getD, List.getElem?_map, List.getElem?_eq_getElem (by omega)]
    rfl
  refine ⟨fun i j x y hi hj e => ?_, fun i x hi => ?_⟩
  · obtain ⟨K, l1, rfl⟩ := wd_of hi
    obtain ⟨K', l2, rfl⟩ := wd_of hj
    have n1 : i < 88 := (List.getElem?_eq_some_iff.mp l1).1
    have n2 : j < 88 := (List.getElem?_eq_some_iff.mp l2).1
    have p1 := TP_inv i n1
    have p2 := TP_inv j n2
    have e' : (TAd b1 b2 b3 b4 b5 b6 b7 b9 b10 b11 bi0 bi1 u q q8 ri ak aw atr) i = (TAd b1 b2 b3 b4 b5 b6 b7 b9 b10 b11 bi0 bi1 u q q8 ri ak aw atr) j := e
    rw [TAd_eq _ _ _ _ _ _ _ _ _ _ _ _ _ _ _ _ _ _ _ i n1, TAd_eq _ _ _ _ _ _ _ _ _ _ _ _ _ _ _ _ _ _ _ j n2] at e'
    obtain ⟨x, x1, x2⟩ := hW _ p1.2
    obtain ⟨y, y1, y2⟩ := hW _ p2.2
    have := hD.1 _ _ x y x1 y1 (by rw [x2, y2]; exact e')
    rw [← p1.1, ← p2.1, this]
  · obtain ⟨K, l1, rfl⟩ := wd_of hi
    have n1 : i < 88 := (List.getElem?_eq_some_iff.mp l1).1
    have p1 := TP_inv i n1
    obtain ⟨x, x1, x2⟩ := hW _ p1.2
    have := hD.2 _ x x1
    rw [x2] at this
    show A ((TAd b1 b2 b3 b4 b5 b6 b7 b9 b10 b11 bi0 bi1 u q q8 ri ak aw atr) i)
    rw [TAd_eq _ _ _ _ _ _ _ _ _ _ _ _ _ _ _ _ _ _ _ i n1]
    exact this
end TWT
