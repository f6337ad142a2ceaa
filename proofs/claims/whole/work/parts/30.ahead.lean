-- the class looks one push ahead
def pM (g : Nat → Bool) (c w : Nat) : Nat := match nx g c w with | none => 0 | some _ => 1
def pN (g : Nat → Bool) (lim lea : Int) (tl : Nat → Int) (c : Nat) (l : Int) (w : Nat) : Nat := match nx g c w with | none => 0 | some c' => if vd lim (l + tl c' + lea) = 0 then 1 else 0
def pV (g : Nat → Bool) (lim lea : Int) (tl : Nat → Int) (c : Nat) (l : Int) (w : Nat) : Nat := match nx g c w with | none => 0 | some c' => (vd lim (l + tl c' + lea)).toNat
def sm (f : Nat → Nat) : Nat → Nat
  | 0 => 0
  | k + 1 => sm f k + f k
def om (f : Nat → Nat) : Nat → Nat
  | 0 => 0
  | k + 1 => om f k ||| f k
theorem pM_le (g : Nat → Bool) (c w : Nat) : pM g c w ≤ 1 := by
  unfold pM
  cases nx g c w <;> simp
theorem pN_le (g : Nat → Bool) (lim lea : Int) (tl : Nat → Int) (c : Nat) (l : Int) (w : Nat) : pN g lim lea tl c l w ≤ 1 := by
  unfold pN
  cases nx g c w with
  | none => exact Nat.zero_le _
  | some c' =>
    dsimp only
    by_cases q : vd lim (l + tl c' + lea) = 0
    · rw [if_pos q]; exact Nat.le_refl _
    · rw [if_neg q]; exact Nat.zero_le _
theorem pV_le (g : Nat → Bool) (lim lea : Int) (tl : Nat → Int) (c : Nat) (l : Int) (w : Nat) : pV g lim lea tl c l w < 3 := by
  unfold pV
  cases nx g c w with
  | none => exact Nat.zero_lt_succ _
  | some c' =>
    dsimp only
    have := vd_cases lim (l + tl c' + lea)
    omega
theorem sm_le {f : Nat → Nat} (h : ∀ w, f w ≤ 1) (k : Nat) : sm f k ≤ k := by
  induction k with
  | zero => exact Nat.le_refl _
  | succ k ih => unfold sm; have := h k; omega
theorem or4 : ∀ a, a < 4 → ∀ b, b < 4 → a ||| b < 4 ∧ iz ((a : Nat) : Int) ||| iz ((b : Nat) : Int) = iz ((a ||| b : Nat) : Int) := by decide
theorem om_lt {f : Nat → Nat} (h : ∀ w, f w < 3) (k : Nat) : om f k < 4 := by
  induction k with
  | zero => exact Nat.zero_lt_succ _
  | succ k ih => unfold om; exact (or4 _ ih _ (by have := h k; omega)).1
theorem t_look {σ : Mm} {r : Nat} {g : Nat → Bool} {lim lea : Int} {tl : Nat → Int} (hr : ∀ K : Nat → Option ((Mm × Int32 × Int32 × Int32 × Int32) ⊕ (Int32 × Mm)), rk (gR σ 21 5) okGr K = K r) (G : YG σ r g lim lea tl) (hT : TlOk g tl) (hg : ∀ c, g c = true → c < 20) (hl1 : 2 ≤ lim) (hl2 : lim ≤ 9) (he : -2 ≤ lea ∧ lea ≤ 2) {c : Nat} {l : Int} (hc : g c = true) (h1 : -9 < l) (h2 : l < 9) :
    f_Co_lookOnePushAhead σ (iz c) (iz l) = f_Co_lookOnePushAhead_80 σ (iz c) (iz l) (iz (sm (pM g c) 4 : Nat)) (iz (sm (pN g lim lea tl c l) 4 : Nat)) (iz (om (pV g lim lea tl c l) 4 : Nat)) := by
  have hc20 := hg c hc
  unfold f_Co_lookOnePushAhead f_Co_lookOnePushAhead_11
  refine lp_run (fun k => (σ, iz (sm (pM g c) k : Nat), iz (sm (pN g lim lea tl c l) k : Nat), iz (om (pV g lim lea tl c l) k : Nat), iz (k : Nat))) 4 (by decide) (fun k hk => ?_) ?_
  · dsimp only
    have a1 := sm_le (pM_le g c) k
    have a2 := sm_le (pN_le g lim lea tl c l) k
    have a3 := om_lt (pV_le g lim lea tl c l) k
    have hB := t_beyond G hc20 hk
    rw [if_pos hc] at hB
    have z1 : sm (pM g c) (k + 1) = sm (pM g c) k + pM g c k := rfl
    have z2 : sm (pN g lim lea tl c l) (k + 1) = sm (pN g lim lea tl c l) k + pN g lim lea tl c l k := rfl
    have z3 : om (pV g lim lea tl c l) (k + 1) = om (pV g lim lea tl c l) k ||| pV g lim lea tl c l k := rfl
    have z4 := (or4 _ a3 (pV g lim lea tl c l k) (by have := pV_le g lim lea tl c l k; omega)).2
    rw [z1, z2, z3, ← z4]
    generalize sm (pM g c) k = A at *
    generalize sm (pN g lim lea tl c l) k = B at *
    generalize om (pV g lim lea tl c l) k = C at *
    have p1 : pM g c k = match nx g c k with | none => 0 | some _ => 1 := rfl
    have p2 : pN g lim lea tl c l k = match nx g c k with | none => 0 | some c' => if vd lim (l + tl c' + lea) = 0 then 1 else 0 := rfl
    have p3 : pV g lim lea tl c l k = match nx g c k with | none => 0 | some c' => (vd lim (l + tl c' + lea)).toNat := rfl
    have k1 : iz (k : Int) < 4 := by rw [i4, iz_lt (by omega) (by omega) (by omega) (by omega)]; omega
    have kk : iz (k : Int) + 1 = iz ((k + 1 : Nat) : Int) := by rw [i1, iz_add]; rfl
    rcases hx : nx g c k with _ | c'
    · rw [hx] at p1 p2 p3 hB
      dsimp only at p1 p2 p3 hB
      rw [p1, p2, p3]
      unfold f_Co_lookOnePushAhead_11_b
      rw [if_pos k1, hr, hB, bd_eq, if_pos (by decide), nm_eq, kk, show iz ((0 : Nat) : Int) = 0 from rfl, Int32.or_zero]
      rfl
    · rw [hx] at p1 p2 p3 hB
      dsimp only at p1 p2 p3 hB
      obtain ⟨xg, -⟩ := nx_ok hx
      have xc := hg c' xg
      have xt := hT c' xg
      have hL := t_leanOn (l := l) G hT xc xg
      rw [show l + (tl c' + lea) = l + tl c' + lea by omega] at hL
      have hV := t_verdict (l := l + tl c' + lea) G hl1 hl2 (by omega) (by omega)
      have hv := vd_cases lim (l + tl c' + lea)
      rw [p1, p2, p3]
      have cv : (((vd lim (l + tl c' + lea)).toNat : Nat) : Int) = vd lim (l + tl c' + lea) := by omega
      have cA : iz (A : Int) + 1 = iz ((A + 1 : Nat) : Int) := by rw [i1, iz_add]; rfl
      have cB : iz (B : Int) + 1 = iz ((B + 1 : Nat) : Int) := by rw [i1, iz_add]; rfl
      unfold f_Co_lookOnePushAhead_11_b
      rw [if_pos k1, hr, hB, bd_eq, if_neg (by rw [i0, iz_lt (by omega) (by omega) (by omega) (by omega)]; omega), cA, nm_eq, hr, hr, hL, bd_eq, hV, bd_eq, cv]
      unfold f_Co_lookOnePushAhead_67
      by_cases q : vd lim (l + tl c' + lea) = 0
      · rw [if_pos (by rw [q, i0]), if_pos q, cB, nm_eq, nm_eq, kk, nm_eq]
      · rw [if_neg (by rw [i0, iz_eq (by omega) (by omega) (by omega) (by omega)]; exact q), if_neg q, nm_eq, kk, nm_eq]
        rfl
  · dsimp only
    unfold f_Co_lookOnePushAhead_11_b
    rw [if_neg (by decide)]
