/-! both begin alike -/
theorem va_D.lft {A : Nat → Prop} {a b : va_W} (h : va_D A (a ++ b)) : va_D A a := ⟨fun i j p q hp hq e => h.1 i j p q (by rw [List.getElem?_append_left (List.getElem?_eq_some_iff.mp hp).1]; exact hp) (by rw [List.getElem?_append_left (List.getElem?_eq_some_iff.mp hq).1]; exact hq) e, fun k q hq => h.2 k q (by rw [List.getElem?_append_left (List.getElem?_eq_some_iff.mp hq).1]; exact hq)⟩
theorem ap_rg {a b : va_W} {i : Nat} : (a ++ b)[a.length + i]? = b[i]? := by
  rw [List.getElem?_append_right (Nat.le_add_right _ _), Nat.add_sub_cancel_left]
theorem va_D.rgt {A : Nat → Prop} {a b : va_W} (h : va_D A (a ++ b)) : va_D A b := ⟨fun i j p q hp hq e => by
  have := h.1 (a.length + i) (a.length + j) p q (ap_rg.trans hp) (ap_rg.trans hq) e
  omega, fun k q hq => h.2 (a.length + k) q (ap_rg.trans hq)⟩
theorem va_D.apt {A : Nat → Prop} {a b : va_W} (h : va_D A (a ++ b)) : ∀ (i j : Nat) (p q : Nat × va_E), a[i]? = some p → b[j]? = some q → p.1 ≠ q.1 := fun i j p q hp hq e => by
  have hl := (List.getElem?_eq_some_iff.mp hp).1
  have := h.1 i (a.length + j) p q (by rw [List.getElem?_append_left hl]; exact hp) (ap_rg.trans hq) e
  omega
theorem start_rel : ∃ τ1 τ2, f_M_begins zm = some (0, τ1) ∧ f_M_settles τ1 = some (0, τ2) ∧ Rel 0 sT0 τ2 := by
  obtain ⟨τ1, b0, b1, b2, b3, b4, b5, b6, b7, b8, b9⟩ := m_begins (τ := zm)
  have P : PM τ1 0 0 (-9) 5 0 false false (fun _ => false) (fun _ => false) (fun _ => 0) := ⟨b1, b2, b3, b4, b5, b6.trans (by decide), fun c hc => by
    rw [b7]
    exact ⟨fun _ => rfl, fun _ => bk0 c hc⟩, fun c hc => absurd hc Bool.false_ne_true⟩
  have S : YS 0 0 (-9) 5 0 (fun _ => false) (fun _ => false) (fun _ => 0) := ⟨by omega, by omega, by omega, by omega, Or.inl rfl, fun _ => rfl, fun c hc => absurd hc Bool.false_ne_true, fun c hc => absurd hc Bool.false_ne_true, fun c _ hc => by
    unfold dn at hc
    omega, fun c _ _ => rfl⟩
  obtain ⟨_, c1, τ2, rfl, z1, z2, z3, z4, z5, z6, z7, z8, z9, z10⟩ := m_settles P S
  refine ⟨τ1, τ2, b0, c1, ?_⟩
  have hJ : gJ τ2 = gJ zm := z10.trans b9.2.2.2
  refine Rel_fresh (W := 0) (R := 0) (g := fun _ => false) (lim := 5) (lea := 0) (st := -9) (tl := fun _ => 0) (w := 0) ⟨by omega, by omega, by omega, by omega, by omega, by omega, fun c hc => absurd hc Bool.false_ne_true, Or.inl rfl⟩ (fun c hc => absurd hc Bool.false_ne_true) z1 ⟨7, 9, rfl, rfl, Or.inl ⟨rfl, rfl⟩, rfl, rfl, ?_, ?_, rfl⟩ z2 z3 z4 (fun c hc => ?_) ?_ rfl rfl rfl rfl rfl rfl ⟨?_, rfl⟩ (fun c w hc hw => ?_) rfl z6 (by omega) rfl ⟨rfl, rfl⟩ ⟨z8, z9⟩ rfl z7 rfl z5 hJ.symm (Or.inl ⟨rfl, rfl⟩)
  · show (-9 : Int32) = iz (-9)
    decide
  · show (5 : Int32) = iz 5
    decide
  · rw [if_neg Bool.false_ne_true]
    show (if c < 20 then (100 : Int32) else 0) = 100
    rw [if_pos hc]
  · show (-9 : Int32) = iz (-9)
    decide
  · show (5 : Int32) = iz 5
    decide
  · rw [nb_none (fun z => Bool.false_ne_true z.1)]
    show (if 4 * c + w < 80 then (-1 : Int32) else 0) = -1
    rw [if_pos (by omega)]
