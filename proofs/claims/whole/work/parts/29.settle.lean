-- the class's game: small steps
theorem nx_sym {g : Nat → Bool} {c c' w : Nat} (hc : c < 20) (hg : g c = true) (hw : w < 4) (h : nx g c w = some c') (hc' : c' < 20) : nx g c' ((w + 2) % 4) = some c := by
  obtain ⟨h1, h2, h3, h4, h5, h6⟩ := nx_ok h
  have e : ((c' % 5 : Nat) : Int) + dX ((w + 2) % 4) = ((c % 5 : Nat) : Int) ∧ ((c' / 5 : Nat) : Int) + dY ((w + 2) % 4) = ((c / 5 : Nat) : Int) := by
    have d1 := dX_in w
    have d2 := dY_in w
    have d3 : dX ((w + 2) % 4) = - dX w ∧ dY ((w + 2) % 4) = - dY w := by
      rcases (show w = 0 ∨ w = 1 ∨ w = 2 ∨ w = 3 by omega) with rfl | rfl | rfl | rfl <;> decide
    omega
  unfold nx
  rw [e.1, e.2, if_pos ((gx_cell hc).mpr hg)]
  congr 1
  omega
theorem nx_way {g : Nat → Bool} {c c' w u : Nat} (hw : w < 4) (hu : u < 4) (h : nx g c w = some c') (h2 : nx g c u = some c') : w = u := by
  obtain ⟨-, h3, h4, h5, h6, h7⟩ := nx_ok h
  obtain ⟨-, k3, k4, k5, k6, k7⟩ := nx_ok h2
  have e : dX w = dX u ∧ dY w = dY u := by
    have d1 := dX_in w
    have d2 := dY_in w
    have d3 := dX_in u
    have d4 := dY_in u
    omega
  rcases (show w = 0 ∨ w = 1 ∨ w = 2 ∨ w = 3 by omega) with rfl | rfl | rfl | rfl <;> rcases (show u = 0 ∨ u = 1 ∨ u = 2 ∨ u = 3 by omega) with rfl | rfl | rfl | rfl <;> first | rfl | exact absurd e (by decide)
theorem t_stateOf (σ : Mm) {c p : Nat} {l : Int} (h : c < 20) (h1 : -8 ≤ l) (h2 : l ≤ 8) (h3 : p < 2) : f_Co_stateOf σ (iz c) (iz l) (iz p) = some (iz ((sx c l p : Nat) : Int), σ) := by
  have e := (sx_eq (l := l) (p := p) h (by omega) (by omega) h3).1
  unfold f_Co_stateOf
  rw [t_spotOf σ h h1 h2, bd_eq, if_neg (by rw [i0, iz_lt (by omega) (by omega) (by decide) (by decide)]; omega), if_neg (by rw [i0, iz_lt (by omega) (by omega) (by decide) (by decide)]; omega), if_pos (by rw [i1, iz_le (by omega) (by omega) (by decide) (by decide)]; omega), i2, iz_mul, iz_add, e]
theorem t_stateOfN (σ : Mm) (v w : Int32) : f_Co_stateOf σ (-1) v w = some (-1, σ) := by
  unfold f_Co_stateOf f_T_spotOf
  rw [if_pos (by decide), bd_eq, if_pos (by decide)]
def aSet (σ : Mm) (s q : Nat) (x n : Int) : Mm := sI (sA (sA (sA σ 22 s (iz x)) 23 s (iz n)) 25 q (iz s)) 21 4 (iz ((q + 1 : Nat) : Int))
theorem t_settle {σ : Mm} {s q : Nat} {x n : Int} (hs : s < 680) (hq : q < 680) (h : gI σ 21 4 = iz q) : f_Co_settle σ (iz s) (iz x) (iz n) = some (0, aSet σ s q x n) := by
  unfold f_Co_settle aSet
  rw [ix_n hs (by decide), nm_eq, ix_n hs (by decide), nm_eq, gI_sA, gI_sA, h, if_pos (by rw [show (680 : Int32) = iz 680 from rfl, iz_lt (by omega) (by omega) (by decide) (by decide)]; omega), ix_n hq (by decide), nm_eq, gI_sA, gI_sA, gI_sA, h, i1, iz_add, nm_eq]
  rfl
