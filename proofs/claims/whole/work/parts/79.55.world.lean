/-! the cells of a new object, in the order of LT -/
def sT0 : Mm := (fun c k => if (c = 7 ∨ c = 9) ∧ k = 3 then -9 else if (c = 7 ∨ c = 9) ∧ k = 4 then 5 else if (c = 11 ∨ c = 13) ∧ k = 2 then 5 else if 36 ≤ c ∧ c % 4 = 0 ∧ k = 3 then -9 else 0, fun c => if c = 8 ∨ c = 10 ∨ (37 ≤ c ∧ c % 4 = 1) then (fun j => if j < 20 then 100 else 0) else if c = 12 ∨ c = 14 then (fun j => if j < 80 then -1 else 0) else fun _ => 0, fun c k => if c = 0 ∧ k = 2 then some 7 else if c = 0 ∧ k = 3 then some 9 else if c = 33 ∧ k = 0 then some 34 else if c = 33 ∧ k = 1 then some 35 else none, 0)
theorem wd_fst {L : List Ck} {ad : Nat → Nat} {cy : Nat → ClassId} {σ : Mm} : (wd L ad cy σ).map Prod.fst = (List.range L.length).map ad := by
  refine List.ext_getElem? fun i => ?_
  unfold wd
  rw [List.getElem?_map, List.getElem?_mapIdx, List.getElem?_map]
  by_cases h : i < L.length
  · rw [List.getElem?_range h, List.getElem?_eq_getElem h]
    rfl
  · rw [List.getElem?_eq_none (by omega), List.getElem?_eq_none (by rw [List.length_range]; omega)]
    rfl
theorem va_P.l {D : va_G} {cl : List vw_C} {a b : va_W} {H : Heap} (h : va_P D cl (a ++ b) H) : va_P D cl a H := h.by (fun k => k) (fun k q hk => by
  rw [List.getElem?_append_left (List.getElem?_eq_some_iff.mp hk).1]
  exact hk)
theorem va_P.r {D : va_G} {cl : List vw_C} {a b : va_W} {H : Heap} (h : va_P D cl (a ++ b) H) : va_P D cl b H := h.by (fun k => a.length + k) (fun k q hk => by
  rw [List.getElem?_append_right (Nat.le_add_right _ _), Nat.add_sub_cancel_left]
  exact hk)
theorem va_P.t {D : va_G} {cl : List vw_C} {x : Nat × va_E} {b : va_W} {H : Heap} (h : va_P D cl (x :: b) H) : va_P D cl b H := fun k q hk => h (k + 1) q hk
theorem row10 {u : Nat → Nat → Nat} {ad : Nat → Nat} (h : ∀ j, j < 10 → ad (40 + 4 * j) = u j 0) : (fun i => if i < 10 then some (u i 0) else none) = fun i => (([40, 44, 48, 52, 56, 60, 64, 68, 72, 76] : List Nat)[i]?).map ad := by
  funext i
  by_cases h9 : i < 10
  · rw [if_pos h9, idMo_h i h9]
    show _ = some (ad (40 + 4 * i))
    rw [h i h9]
  · rw [if_neg h9, List.getElem?_eq_none (by show 10 ≤ i; omega)]
    rfl
theorem row2 {a b : Nat} {ad : Nat → Nat} (h0 : ad 80 = a) (h1 : ad 84 = b) : (va_up (va_up (fun _ => none) (0 : Int32).toNatClampNeg (some a)) (1 : Int32).toNatClampNeg (some b)) = fun i => (([80, 84] : List Nat)[i]?).map ad := by
  funext i
  unfold va_up
  rw [show (0 : Int32).toNatClampNeg = 0 from rfl, show (1 : Int32).toNatClampNeg = 1 from rfl]
  match i with
  | 0 => rw [if_neg (by decide), if_pos rfl, ← h0]; rfl
  | 1 => rw [if_pos rfl, ← h1]; rfl
  | n + 2 => rw [if_neg (by omega), if_neg (by omega)]; rfl
def TP : List Nat := [0, 1, 2, 3, 4, 5, 6, 7, 8, 9, 10, 15, 16, 18, 19, 17, 20, 21, 62, 71, 72, 73, 74, 75, 76, 77, 78, 79, 80, 81, 82, 83, 84, 85, 86, 87, 11, 12, 13, 14, 22, 23, 24, 25, 26, 27, 28, 29, 30, 31, 32, 33, 34, 35, 36, 37, 38, 39, 40, 41, 42, 43, 44, 45, 46, 47, 48, 49, 50, 51, 52, 53, 54, 55, 56, 57, 58, 59, 60, 61, 63, 64, 65, 66, 67, 68, 69, 70]
def TI : List Nat := [0, 1, 2, 3, 4, 5, 6, 7, 8, 9, 10, 36, 37, 38, 39, 11, 12, 15, 13, 14, 16, 17, 40, 41, 42, 43, 44, 45, 46, 47, 48, 49, 50, 51, 52, 53, 54, 55, 56, 57, 58, 59, 60, 61, 62, 63, 64, 65, 66, 67, 68, 69, 70, 71, 72, 73, 74, 75, 76, 77, 78, 79, 18, 80, 81, 82, 83, 84, 85, 86, 87, 19, 20, 21, 22, 23, 24, 25, 26, 27, 28, 29, 30, 31, 32, 33, 34, 35]
theorem TP_inv : ∀ i, i < 88 → TI.getD (TP.getD i 0) 0 = i ∧ TP.getD i 0 < 88 := by decide +kernel
def TLs (b1 b2 b3 b4 b5 b6 b7 b9 b10 b11 bi0 bi1 : Nat → Nat) (u : Nat × (Nat → Nat → Nat)) (q q8 ri ak aw atr : Nat) : List Nat := [q, b1 0, b1 1, b2 0, b2 1, b2 2, b2 3, b3 0, b3 1, b4 0, b4 1, b5 0, b5 1, b5 2, b5 3, b6 0, b6 1, atr, b7 0, b7 1, q8, u.1, u.2 0 0, u.2 0 1, u.2 0 2, u.2 0 3, u.2 1 0, u.2 1 1, u.2 1 2, u.2 1 3, u.2 2 0, u.2 2 1, u.2 2 2, u.2 2 3, u.2 3 0, u.2 3 1, u.2 3 2, u.2 3 3, u.2 4 0, u.2 4 1, u.2 4 2, u.2 4 3, u.2 5 0, u.2 5 1, u.2 5 2, u.2 5 3, u.2 6 0, u.2 6 1, u.2 6 2, u.2 6 3, u.2 7 0, u.2 7 1, u.2 7 2, u.2 7 3, u.2 8 0, u.2 8 1, u.2 8 2, u.2 8 3, u.2 9 0, u.2 9 1, u.2 9 2, u.2 9 3, ri, bi0 0, bi0 1, bi0 2, bi0 3, bi1 0, bi1 1, bi1 2, bi1 3, ak, aw, b9 0, b9 1, b9 2, b9 3, b9 4, b10 0, b10 1, b10 2, b10 3, b10 4, b10 5, b10 6, b11 0, b11 1, b11 2]
def TAd (b1 b2 b3 b4 b5 b6 b7 b9 b10 b11 bi0 bi1 : Nat → Nat) (u : Nat × (Nat → Nat → Nat)) (q q8 ri ak aw atr : Nat) : Nat → Nat := fun i => [q, b1 0, b1 1, b2 0, b2 1, b2 2, b2 3, b3 0, b3 1, b4 0, b4 1, b6 0, b6 1, b7 0, b7 1, atr, q8, u.1, ri, ak, aw, b9 0, b9 1, b9 2, b9 3, b9 4, b10 0, b10 1, b10 2, b10 3, b10 4, b10 5, b10 6, b11 0, b11 1, b11 2, b5 0, b5 1, b5 2, b5 3, u.2 0 0, u.2 0 1, u.2 0 2, u.2 0 3, u.2 1 0, u.2 1 1, u.2 1 2, u.2 1 3, u.2 2 0, u.2 2 1, u.2 2 2, u.2 2 3, u.2 3 0, u.2 3 1, u.2 3 2, u.2 3 3, u.2 4 0, u.2 4 1, u.2 4 2, u.2 4 3, u.2 5 0, u.2 5 1, u.2 5 2, u.2 5 3, u.2 6 0, u.2 6 1, u.2 6 2, u.2 6 3, u.2 7 0, u.2 7 1, u.2 7 2, u.2 7 3, u.2 8 0, u.2 8 1, u.2 8 2, u.2 8 3, u.2 9 0, u.2 9 1, u.2 9 2, u.2 9 3, bi0 0, bi0 1, bi0 2, bi0 3, bi1 0, bi1 1, bi1 2, bi1 3].getD i 0
theorem TAd_eq (b1 b2 b3 b4 b5 b6 b7 b9 b10 b11 bi0 bi1 : Nat → Nat) (u : Nat × (Nat → Nat → Nat)) (q q8 ri ak aw atr : Nat) : ∀ i, i < 88 → TAd b1 b2 b3 b4 b5 b6 b7 b9 b10 b11 bi0 bi1 u q q8 ri ak aw atr i = (TLs b1 b2 b3 b4 b5 b6 b7 b9 b10 b11 bi0 bi1 u q q8 ri ak aw atr).getD (TP.getD i 0) 0 := by
  intro i hi
  match i, hi with
  | 0, _ => exact rfl
  | 1, _ => exact rfl
  | 2, _ => exact rfl
  | 3, _ => exact rfl
  | 4, _ => exact rfl
  | 5, _ => exact rfl
  | 6, _ => exact rfl
  | 7, _ => exact rfl
  | 8, _ => exact rfl
  | 9, _ => exact rfl
  | 10, _ => exact rfl
  | 11, _ => exact rfl
  | 12, _ => exact rfl
  | 13, _ => exact rfl
  | 14, _ => exact rfl
  | 15, _ => exact rfl
  | 16, _ => exact rfl
  | 17, _ => exact rfl
  | 18, _ => exact rfl
  | 19, _ => exact rfl
  | 20, _ => exact rfl
  | 21, _ => exact rfl
  | 22, _ => exact rfl
  | 23, _ => exact rfl
  | 24, _ => exact rfl
  | 25, _ => exact rfl
  | 26, _ => exact rfl
  | 27, _ => exact rfl
  | 28, _ => exact rfl
  | 29, _ => exact rfl
  | 30, _ => exact rfl
  | 31, _ => exact rfl
  | 32, _ => exact rfl
  | 33, _ => exact rfl
  | 34, _ => exact rfl
  | 35, _ => exact rfl
  | 36, _ => exact rfl
  | 37, _ => exact rfl
  | 38, _ => exact rfl
  | 39, _ => exact rfl
  | 40, _ => exact rfl
  | 41, _ => exact rfl
  | 42, _ => exact rfl
  | 43, _ => exact rfl
  | 44, _ => exact rfl
  | 45, _ => exact rfl
  | 46, _ => exact rfl
  | 47, _ => exact rfl
  | 48, _ => exact rfl
  | 49, _ => exact rfl
  | 50, _ => exact rfl
  | 51, _ => exact rfl
  | 52, _ => exact rfl
  | 53, _ => exact rfl
  | 54, _ => exact rfl
  | 55, _ => exact rfl
  | 56, _ => exact rfl
  | 57, _ => exact rfl
  | 58, _ => exact rfl
  | 59, _ => exact rfl
  | 60, _ => exact rfl
  | 61, _ => exact rfl
  | 62, _ => exact rfl
  | 63, _ => exact rfl
  | 64, _ => exact rfl
  | 65, _ => exact rfl
  | 66, _ => exact rfl
  | 67, _ => exact rfl
  | 68, _ => exact rfl
  | 69, _ => exact rfl
  | 70, _ => exact rfl
  | 71, _ => exact rfl
  | 72, _ => exact rfl
  | 73, _ => exact rfl
  | 74, _ => exact rfl
  | 75, _ => exact rfl
  | 76, _ => exact rfl
  | 77, _ => exact rfl
  | 78, _ => exact rfl
  | 79, _ => exact rfl
  | 80, _ => exact rfl
  | 81, _ => exact rfl
  | 82, _ => exact rfl
  | 83, _ => exact rfl
  | 84, _ => exact rfl
  | 85, _ => exact rfl
  | 86, _ => exact rfl
  | 87, _ => exact rfl
  | n + 88, h => omega
