-- the class's walk in memory
def WM (σ : Mm) (N : Nat) (S B Dp : Nat → Nat) (F Sn : Nat → Int) : Prop := gR σ 26 7 = some 11 ∧ gI σ 26 6 = iz N ∧ (∀ i, i < N → gA σ 27 i = iz (S i : Nat) ∧ gA σ 28 i = iz (F i) ∧ gA σ 29 i = iz (B i : Nat) ∧ gA σ 30 i = iz (Dp i : Nat)) ∧ ∀ j, j < 340 → gA σ 31 j = iz (Sn j)
theorem WM.rk7 {σ : Mm} {N : Nat} {S B Dp : Nat → Nat} {F Sn : Nat → Int} (h : WM σ N S B Dp F Sn) {α : Type} (K : Nat → Option α) : rk (gR σ 26 7) okGr K = K 11 := by
  rw [h.1]
  exact rk_eq K rfl
def vSt (σ : Mm) (t N : Nat) (a b c : Int32) : Mm := sI (sA (sA (sA (sA (sA σ 31 t 1) 27 N (iz (t : Nat))) 28 N a) 29 N b) 30 N c) 26 6 (iz ((N + 1 : Nat) : Int))
theorem eqT_vSt {σ : Mm} {t N : Nat} {a b c : Int32} : eqT σ (vSt σ t N a b c) := by
  unfold vSt
  refine ⟨fun x k hx => ?_, fun x hx => ?_, Eq.refl _, Eq.refl _, Eq.refl _, fun h => h⟩
  · rw [gI_sI, if_neg (fun ⟨z, _⟩ => by rw [z] at hx; cases hx)]
    rfl
  · have ne : ∀ y, okA y = false → x ≠ y := fun y hy z => by rw [z, hy] at hx; cases hx
    rw [gA_sI, gA_sA, if_neg (ne 30 rfl), gA_sA, if_neg (ne 29 rfl), gA_sA, if_neg (ne 28 rfl), gA_sA, if_neg (ne 27 rfl), gA_sA, if_neg (ne 31 rfl)]
theorem WM.new {σ : Mm} {N t u d : Nat} {f : Int} {S B Dp : Nat → Nat} {F Sn : Nat → Int} (h : WM σ N S B Dp F Sn) : ∃ (S' B' Dp' : Nat → Nat) (F' Sn' : Nat → Int), WM (vSt σ t N (iz f) (iz (u : Nat)) (iz (d : Nat))) (N + 1) S' B' Dp' F' Sn' ∧ (∀ i, i < N → S' i = S i ∧ B' i = B i ∧ Dp' i = Dp i ∧ F' i = F i) ∧ S' N = t ∧ B' N = u ∧ Dp' N = d ∧ F' N = f ∧ Sn' t = 1 ∧ ∀ j, j ≠ t → Sn' j = Sn j := by
  obtain ⟨S', a1, a2⟩ : ∃ S' : Nat → Nat, S' N = t ∧ ∀ i, i ≠ N → S' i = S i := ⟨fun i => if i = N then t else S i, if_pos rfl, fun i hi => if_neg hi⟩
  obtain ⟨B', b1, b2⟩ : ∃ S' : Nat → Nat, S' N = u ∧ ∀ i, i ≠ N → S' i = B i := ⟨fun i => if i = N then u else B i, if_pos rfl, fun i hi => if_neg hi⟩
  obtain ⟨Dp', d1, d2⟩ : ∃ S' : Nat → Nat, S' N = d ∧ ∀ i, i ≠ N → S' i = Dp i := ⟨fun i => if i = N then d else Dp i, if_pos rfl, fun i hi => if_neg hi⟩
  obtain ⟨F', f1, f2⟩ : ∃ S' : Nat → Int, S' N = f ∧ ∀ i, i ≠ N → S' i = F i := ⟨fun i => if i = N then f else F i, if_pos rfl, fun i hi => if_neg hi⟩
  obtain ⟨Sn', s1, s2⟩ : ∃ S' : Nat → Int, S' t = 1 ∧ ∀ i, i ≠ t → S' i = Sn i := ⟨fun i => if i = t then 1 else Sn i, if_pos rfl, fun i hi => if_neg hi⟩
  refine ⟨S', B', Dp', F', Sn', ⟨h.1, ?_, fun i hi => ?_, fun j hj => ?_⟩, fun i hi => ⟨a2 i (by omega), b2 i (by omega), d2 i (by omega), f2 i (by omega)⟩, a1, b1, d1, f1, s1, s2⟩
  · unfold vSt
    rw [gI_sI, if_pos ⟨rfl, rfl⟩]
  · unfold vSt
    by_cases q : i = N
    · subst q
      rw [gA_sI, gA_sI, gA_sI, gA_sI, gA_sA, if_neg (by decide), gA_sA, if_neg (by decide), gA_sA, if_neg (by decide), gA_sA, if_pos rfl, pk_us, a1]
      rw [gA_sA, if_neg (by decide), gA_sA, if_neg (by decide), gA_sA, if_pos rfl, pk_us, f1]
      rw [gA_sA, if_neg (by decide), gA_sA, if_pos rfl, pk_us, b1]
      rw [gA_sA, if_pos rfl, pk_us, d1]
      exact ⟨rfl, rfl, rfl, rfl⟩
    · obtain ⟨x1, x2, x3, x4⟩ := h.2.2.1 i (by omega)
      rw [gA_sI, gA_sI, gA_sI, gA_sI, gA_sA, if_neg (by decide), gA_sA, if_neg (by decide), gA_sA, if_neg (by decide), gA_sA, if_pos rfl, pk_un q, gA_sA, if_neg (by decide), a2 i q]
      rw [gA_sA, if_neg (by decide), gA_sA, if_neg (by decide), gA_sA, if_pos rfl, pk_un q, gA_sA, if_neg (by decide), gA_sA, if_neg (by decide), f2 i q]
      rw [gA_sA, if_neg (by decide), gA_sA, if_pos rfl, pk_un q, gA_sA, if_neg (by decide), gA_sA, if_neg (by decide), gA_sA, if_neg (by decide), b2 i q]
      rw [gA_sA, if_pos rfl, pk_un q, gA_sA, if_neg (by decide), gA_sA, if_neg (by decide), gA_sA, if_neg (by decide), gA_sA, if_neg (by decide), d2 i q]
      exact ⟨x1, x2, x3, x4⟩
  · unfold vSt
    rw [gA_sI, gA_sA, if_neg (by decide), gA_sA, if_neg (by decide), gA_sA, if_neg (by decide), gA_sA, if_neg (by decide), gA_sA, if_pos rfl]
    by_cases q : j = t
    · rw [q, pk_us, s1, i1]
    · rw [pk_un q, s2 j q]
      exact h.2.2.2 j hj
theorem t_visit1 {σ : Mm} {N t : Nat} {S B Dp : Nat → Nat} {F Sn : Nat → Int} (h : WM σ N S B Dp F Sn) (ht : t < 340) (hs : Sn t = 1) (v2 v3 : Int32) : f_Wa_visit σ (iz t) v2 v3 = some (0, σ) := by
  unfold f_Wa_visit
  rw [if_neg (by rw [i0, iz_lt (by omega) (by omega) (by omega) (by omega)]; omega), ix_n ht (by decide), h.2.2.2 t ht, hs, if_neg (by decide)]
theorem t_visit0 {σ : Mm} {N t hd : Nat} {S B Dp : Nat → Nat} {F Sn : Nat → Int} (h : WM σ N S B Dp F Sn) (ht : t < 340) (hs : Sn t = 0) (hN : N < 340) (hh : hd < N) (v3 : Int32) : f_Wa_visit σ (iz t) (iz hd) v3 = some (0, vSt σ t N (iz hd) v3 (iz ((Dp hd + 1 : Nat) : Int))) := by
  have e6 := h.2.1
  obtain ⟨x1, x2, x3, x4⟩ := h.2.2.1 hd hh
  unfold f_Wa_visit f_Wa_visit_85 vSt
  rw [if_neg (by rw [i0, iz_lt (by omega) (by omega) (by omega) (by omega)]; omega), ix_n ht (by decide), h.2.2.2 t ht, hs, if_pos (by rw [i0]), e6, if_pos (by rw [i340, iz_lt (by omega) (by omega) (by omega) (by omega)]; omega), ix_n ht (by decide), nm_eq]
  simp only [gI_sA, e6]
  rw [ix_n hN (by decide), nm_eq]
  simp only [gI_sA, e6]
  rw [ix_n hN (by decide), nm_eq]
  simp only [gI_sA, e6]
  rw [ix_n hN (by decide), nm_eq]
  rw [if_neg (by rw [i0, iz_lt (by omega) (by omega) (by omega) (by omega)]; omega), ix_n (by omega) (by decide)]
  simp only [gI_sA, e6]
  rw [ix_n hN (by decide), nm_eq]
  simp only [gI_sA, e6]
  rw [nm_eq, gA_sA, if_neg (by decide), gA_sA, if_neg (by decide), gA_sA, if_neg (by decide), gA_sA, if_neg (by decide), x4, i1, iz_add, iz_add]
  rfl
theorem t_visitS {σ : Mm} {t : Nat} {S B Dp : Nat → Nat} {F Sn : Nat → Int} (h : WM σ 0 S B Dp F Sn) (ht : t < 340) (hs : Sn t = 0) : f_Wa_visit σ (iz t) (-1) 0 = some (0, vSt σ t 0 (iz (-1)) (iz ((0 : Nat) : Int)) (iz ((0 : Nat) : Int))) := by
  have e6 := h.2.1
  have n0 : (0 : Nat) < 340 := by decide
  unfold f_Wa_visit f_Wa_visit_85 vSt
  rw [if_neg (by rw [i0, iz_lt (by omega) (by omega) (by omega) (by omega)]; omega), ix_n ht (by decide), h.2.2.2 t ht, hs, if_pos (by rw [i0]), e6, if_pos (by decide), ix_n ht (by decide), nm_eq]
  simp only [gI_sA, e6]
  rw [ix_n n0 (by decide), nm_eq]
  simp only [gI_sA, e6]
  rw [ix_n n0 (by decide), nm_eq]
  simp only [gI_sA, e6]
  rw [ix_n n0 (by decide), nm_eq]
  rw [if_pos (by decide)]
  simp only [gI_sA, e6]
  rw [ix_n n0 (by decide), nm_eq]
  simp only [gI_sA, e6]
  rw [nm_eq]
  rfl
