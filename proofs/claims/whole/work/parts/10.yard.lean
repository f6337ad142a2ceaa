-- the yard, as numbers: WIDE, ROWS, which cells are ground, LIMIT, LEANING, START; tilts by cell
def Yok (W R : Nat) (g : Nat → Bool) (lim lea st : Int) : Prop := W ≤ 5 ∧ R ≤ 4 ∧ 2 ≤ lim ∧ lim ≤ 9 ∧ -2 ≤ lea ∧ lea ≤ 2 ∧ (∀ c, g c = true → c < 20 ∧ c % 5 < W ∧ c / 5 < R) ∧ (st = -9 ∨ ∃ c : Nat, st = c ∧ g c = true)
def YM (τ : Mm) (W R : Nat) (g : Nat → Bool) (lim lea st : Int) : Prop := gA τ 2 0 = iz W ∧ gA τ 2 1 = iz R ∧ gA τ 2 2 = iz st ∧ gA τ 2 3 = iz lim ∧ gA τ 2 4 = iz lea ∧ ∀ c, c < 20 → c % 5 < W → c / 5 < R → ((gI τ 0 11 >>> (iz c &&& 31)) &&& 1 = 0 ↔ g c = true)
def TlOk (g : Nat → Bool) (tl : Nat → Int) : Prop := ∀ c, g c = true → -4 ≤ tl c ∧ tl c ≤ 4
def TlM (τ : Mm) (g : Nat → Bool) (tl : Nat → Int) : Prop := ∀ c, g c = true → gA τ 4 (7 + c) = iz (tl c)
def gx (g : Nat → Bool) (x y : Int) : Bool := decide (0 ≤ x ∧ x < 5 ∧ 0 ≤ y ∧ y < 4) && g (5 * y + x).toNat
def dX (w : Nat) : Int := if w = 1 then 1 else if w = 3 then -1 else 0
def dY (w : Nat) : Int := if w = 2 then 1 else if w = 0 then -1 else 0
def nx (g : Nat → Bool) (c w : Nat) : Option Nat := if gx g ((c % 5 : Nat) + dX w) ((c / 5 : Nat) + dY w) = true then some (5 * ((c / 5 : Nat) + dY w) + ((c % 5 : Nat) + dX w)).toNat else none
def vd (lim l : Int) : Int := if l ≤ -lim then 1 else if l < lim then 0 else 2
theorem gx_spec {g : Nat → Bool} {x y : Int} : gx g x y = true ↔ 0 ≤ x ∧ x < 5 ∧ 0 ≤ y ∧ y < 4 ∧ g (5 * y + x).toNat = true := by
  unfold gx
  rw [Bool.and_eq_true, decide_eq_true_eq]
  constructor
  · rintro ⟨⟨h1, h2, h3, h4⟩, h5⟩; exact ⟨h1, h2, h3, h4, h5⟩
  · rintro ⟨h1, h2, h3, h4, h5⟩; exact ⟨⟨h1, h2, h3, h4⟩, h5⟩
theorem nx_ok {g : Nat → Bool} {c w c' : Nat} (h : nx g c w = some c') : g c' = true ∧ (c' : Int) = 5 * ((c / 5 : Nat) + dY w) + ((c % 5 : Nat) + dX w) ∧ 0 ≤ ((c % 5 : Nat) : Int) + dX w ∧ ((c % 5 : Nat) : Int) + dX w < 5 ∧ 0 ≤ ((c / 5 : Nat) : Int) + dY w ∧ ((c / 5 : Nat) : Int) + dY w < 4 := by
  unfold nx at h
  by_cases hg : gx g ((c % 5 : Nat) + dX w) ((c / 5 : Nat) + dY w) = true
  · rw [if_pos hg] at h
    obtain ⟨h1, h2, h3, h4, h5⟩ := gx_spec.mp hg
    have h6 := Option.some.inj h
    rw [h6] at h5
    exact ⟨h5, by omega, h1, h2, h3, h4⟩
  · rw [if_neg hg] at h; cases h
theorem dX_in (w : Nat) : -1 ≤ dX w ∧ dX w ≤ 1 := by
  unfold dX
  split
  · omega
  · split <;> omega
theorem dY_in (w : Nat) : -1 ≤ dY w ∧ dY w ≤ 1 := by
  unfold dY
  split
  · omega
  · split <;> omega
theorem vd_cases (lim l : Int) : vd lim l = 0 ∨ vd lim l = 1 ∨ vd lim l = 2 := by
  unfold vd
  split
  · exact Or.inr (Or.inl rfl)
  · split
    · exact Or.inl rfl
    · exact Or.inr (Or.inr rfl)
theorem vd_0 {lim l : Int} : vd lim l = 0 ↔ -lim < l ∧ l < lim := by
  unfold vd
  split
  · constructor
    · intro h; omega
    · intro h; omega
  · split
    · constructor
      · intro _; omega
      · intro _; rfl
    · constructor
      · intro h; omega
      · intro h; omega
-- the reference's small functions
theorem m_in (τ : Mm) {a b c : Int} (h1 : -2147483648 ≤ a) (h2 : a < 2147483648) (h3 : -2147483648 ≤ b) (h4 : b < 2147483648) (h5 : -2147483648 ≤ c) (h6 : c < 2147483648) : f_M_in τ (iz a) (iz b) (iz c) = some (if b ≤ a ∧ a ≤ c then 1 else 0, τ) := by
  unfold f_M_in
  simp only [iz_lt h1 h2 h3 h4, iz_le h1 h2 h5 h6]
  by_cases k1 : a < b
  · rw [if_pos k1, if_neg (by omega)]
  · rw [if_neg k1]
    by_cases k2 : a ≤ c
    · rw [if_pos k2, if_pos (by omega)]
    · rw [if_neg k2, if_neg (by omega)]
theorem m_isCell {τ : Mm} {W R : Nat} {g : Nat → Bool} {lim lea st : Int} (Y : Yok W R g lim lea st) (M : YM τ W R g lim lea st) {x y : Int} (h1 : -2147483648 ≤ x) (h2 : x < 2147483648) (h3 : -2147483648 ≤ y) (h4 : y < 2147483648) : f_M_isCell τ (iz x) (iz y) = some (if 0 ≤ x ∧ x < W ∧ 0 ≤ y ∧ y < R then 1 else 0, τ) := by
  obtain ⟨y1, y2, -⟩ := Y
  obtain ⟨m1, m2, -⟩ := M
  unfold f_M_isCell
  simp only [i0, i1]
  rw [ix_iz (by decide) (by decide) (by decide)]
  simp only [Int.toNat_zero, m1, iz_sub]
  rw [m_in τ h1 h2 (by decide) (by decide) (by omega) (by omega), bd_eq]
  by_cases k1 : 0 ≤ x ∧ x ≤ (W : Int) - 1
  · rw [if_pos k1, if_neg (by decide), ix_iz (by decide) (by decide) (by decide)]
    simp only [Int.toNat_one, m2, iz_sub]
    rw [m_in τ h3 h4 (by decide) (by decide) (by omega) (by omega), bd_eq]
    by_cases k2 : 0 ≤ y ∧ y ≤ (R : Int) - 1
    · rw [if_pos k2, if_neg (by decide), if_pos (by omega)]
    · rw [if_neg k2, if_pos (by decide), if_neg (by omega)]
  · rw [if_neg k1, if_pos (by decide), if_neg (by omega)]
theorem m_isGround {τ : Mm} {W R : Nat} {g : Nat → Bool} {lim lea st : Int} (Y : Yok W R g lim lea st) (M : YM τ W R g lim lea st) {x y : Int} (h1 : -2147483648 ≤ x) (h2 : x < 2147483648) (h3 : -2147483648 ≤ y) (h4 : y < 2147483648) : f_M_isGround τ (iz x) (iz y) = some (if gx g x y = true then 1 else 0, τ) := by
  have hY := Y
  obtain ⟨y1, y2, -, -, -, -, y3, -⟩ := Y
  unfold f_M_isGround
  rw [m_isCell hY M h1 h2 h3 h4, bd_eq]
  obtain ⟨m1, m2, -, -, -, m3⟩ := M
  by_cases k : 0 ≤ x ∧ x < W ∧ 0 ≤ y ∧ y < R
  · rw [if_pos k, if_neg (by decide), i5, iz_mul, iz_add]
    have e : (((5 * y + x).toNat : Nat) : Int) = 5 * y + x := by omega
    have h := m3 (5 * y + x).toNat (by omega) (by omega) (by omega)
    rw [e] at h
    by_cases q : g (5 * y + x).toNat = true
    · rw [if_pos (h.mpr q), if_pos (gx_spec.mpr ⟨by omega, by omega, by omega, by omega, q⟩)]
    · rw [if_neg (fun z => q (h.mp z)), if_neg (fun z => q (gx_spec.mp z).2.2.2.2)]
  · rw [if_neg k, if_pos (by decide), if_neg (fun z => by
      obtain ⟨z1, z2, z3, z4, z5⟩ := gx_spec.mp z
      have := y3 _ z5
      omega)]
theorem m_hasStart {τ : Mm} {W R : Nat} {g : Nat → Bool} {lim lea st : Int} (Y : Yok W R g lim lea st) (M : YM τ W R g lim lea st) : f_M_hasStart τ = some (if st = -9 then 0 else 1, τ) := by
  obtain ⟨-, -, -, -, -, -, y3, y4⟩ := Y
  obtain ⟨-, -, m3, -⟩ := M
  have hst : -9 ≤ st ∧ st < 20 := by
    rcases y4 with h | ⟨c, h, hc⟩
    · omega
    · have := (y3 c hc).1; omega
  unfold f_M_hasStart
  rw [i2, ix_iz (by decide) (by decide) (by decide), show (2 : Int).toNat = 2 from rfl, m3, i9, iz_neg]
  by_cases k : st = -9
  · rw [if_pos ((iz_eq (by omega) (by omega) (by omega) (by omega)).mpr k), if_pos k]
  · rw [if_neg (fun z => k ((iz_eq (by omega) (by omega) (by omega) (by omega)).mp z)), if_neg k]
/-- where a push comes to, as the reference leaves it -/
def mCome (τ : Mm) (c' : Nat) (l' : Int) : Mm := sI (sI τ 0 21 (iz c')) 0 22 (iz l')
theorem m_comes46 {τ : Mm} {W R : Nat} {g : Nat → Bool} {lim lea st : Int} {tl : Nat → Int} (Y : Yok W R g lim lea st) (M : YM τ W R g lim lea st) (T : TlM τ g tl) (hT : TlOk g tl) {x y0 dy l e : Int} (h1 : -100 ≤ x) (h2 : x ≤ 100) (h3 : -100 ≤ y0) (h4 : y0 ≤ 100) (h5 : -1 ≤ dy) (h6 : dy ≤ 1) (h7 : -1000 ≤ l) (h8 : l ≤ 1000) (h9 : -1000 ≤ e) (h10 : e ≤ 1000) :
    f_M_comes_46 τ (iz l) (iz e) (iz x) (iz y0) (iz dy) = if gx g x (y0 + dy) = true then some (iz (vd lim (l + tl (5 * (y0 + dy) + x).toNat + e)), mCome τ (5 * (y0 + dy) + x).toNat (l + tl (5 * (y0 + dy) + x).toNat + e)) else some (3, τ) := by
  unfold f_M_comes_46
  rw [iz_add, nm_eq, m_isGround Y M (by omega) (by omega) (by omega) (by omega), bd_eq]
  by_cases k : gx g x (y0 + dy) = true
  · rw [if_pos k, if_pos k, if_neg (by decide)]
    obtain ⟨k1, k2, k3, k4, k5⟩ := gx_spec.mp k
    have ht := hT _ k5
    have htl := T _ k5
    obtain ⟨-, -, y3, y4, -⟩ := Y
    obtain ⟨-, -, -, m4, -⟩ := M
    generalize hc : (5 * (y0 + dy) + x).toNat = c' at *
    have ec : 5 * (y0 + dy) + x = (c' : Int) := by omega
    have hc20 : c' < 20 := by omega
    simp only [nm_eq, i5, iz_mul, iz_add, ec, gI_sI, gA_sI, i7, i3]
    simp only [and_self, if_true]
    rw [iz_add, ix_iz (by omega) (by omega) (by decide), show ((7 : Int) + c').toNat = 7 + c' by omega]
    rw [ix_iz (by decide) (by decide) (by decide), show (3 : Int).toNat = 3 from rfl, htl, m4, iz_add, iz_add, iz_neg]
    simp only [iz_le (a := l + tl c' + e) (b := -lim) (by omega) (by omega) (by omega) (by omega)]
    unfold vd mCome
    by_cases q1 : l + tl c' + e ≤ -lim
    · rw [if_pos q1, if_pos q1]; rfl
    · rw [if_neg q1, if_neg q1, ix_iz (by decide) (by decide) (by decide), show (3 : Int).toNat = 3 from rfl, m4]
      simp only [iz_lt (a := l + tl c' + e) (b := lim) (by omega) (by omega) (by omega) (by omega)]
      by_cases q2 : l + tl c' + e < lim
      · rw [if_pos q2, if_pos q2]; rfl
      · rw [if_neg q2, if_neg q2]; rfl
  · rw [if_neg k, if_neg k, if_pos (by decide)]
theorem m_comes {τ : Mm} {W R : Nat} {g : Nat → Bool} {lim lea st : Int} {tl : Nat → Int} (Y : Yok W R g lim lea st) (M : YM τ W R g lim lea st) (T : TlM τ g tl) (hT : TlOk g tl) {c w : Nat} {l e : Int} (h1 : c < 20) (h2 : w < 4) (h7 : -1000 ≤ l) (h8 : l ≤ 1000) (h9 : -1000 ≤ e) (h10 : e ≤ 1000) :
    f_M_comes τ (iz c) (iz l) (iz w) (iz e) = match nx g c w with
      | some c' => some (iz (vd lim (l + tl c' + e)), mCome τ c' (l + tl c' + e))
      | none => some (3, τ) := by
  have r1 : rm32 (iz c) 5 = iz ((c % 5 : Nat) : Int) := by
    rw [i5, iz_rm (by omega) (by omega) (by decide) (by decide)]
    rfl
  have r2 : iz c / 5 = iz ((c / 5 : Nat) : Int) := by
    rw [i5, iz_div (by omega) (by omega) (by decide) (by decide)]
    rfl
  have key : f_M_comes τ (iz c) (iz l) (iz w) (iz e) = f_M_comes_46 τ (iz l) (iz e) (iz (((c % 5 : Nat) : Int) + dX w)) (iz ((c / 5 : Nat) : Int)) (iz (dY w)) := by
    unfold f_M_comes f_M_comes_22
    rw [r1]
    simp only [nm_eq, r2]
    rcases (show w = 0 ∨ w = 1 ∨ w = 2 ∨ w = 3 by omega) with rfl | rfl | rfl | rfl
    · rw [if_neg (by decide), if_neg (by decide), if_neg (by decide), if_pos (by decide), i0, iz_add]; rfl
    · rw [if_pos (by decide), if_neg (by decide), if_neg (by decide), i1, iz_add]; rfl
    · rw [if_neg (by decide), if_neg (by decide), if_pos (by decide), i0, iz_add]; rfl
    · rw [if_neg (by decide), if_pos (by decide), if_neg (by decide), if_neg (by decide), i1, iz_neg, iz_add]; rfl
  have d1 : -1 ≤ dX w ∧ dX w ≤ 1 := dX_in w
  have d2 : -1 ≤ dY w ∧ dY w ≤ 1 := dY_in w
  rw [key, m_comes46 Y M T hT (by omega) (by omega) (by omega) (by omega) d2.1 d2.2 h7 h8 h9 h10]
  unfold nx
  by_cases k : gx g (((c % 5 : Nat) : Int) + dX w) (((c / 5 : Nat) : Int) + dY w) = true
  · rw [if_pos k, if_pos k]
  · rw [if_neg k, if_neg k]
theorem m_comesBy {τ : Mm} {W R : Nat} {g : Nat → Bool} {lim lea st : Int} {tl : Nat → Int} (Y : Yok W R g lim lea st) (M : YM τ W R g lim lea st) (T : TlM τ g tl) (hT : TlOk g tl) {c w : Nat} {l : Int} (h1 : c < 20) (h2 : w < 4) (h7 : -1000 ≤ l) (h8 : l ≤ 1000) :
    f_M_comesBy τ (iz c) (iz l) (iz w) = match nx g c w with
      | some c' => some (iz (vd lim (l + tl c' + lea)), mCome τ c' (l + tl c' + lea))
      | none => some (3, τ) := by
  have hY := Y
  have hM := M
  obtain ⟨-, -, -, -, y5, y6, -⟩ := Y
  obtain ⟨-, -, -, -, m5, -⟩ := M
  unfold f_M_comesBy
  rw [i4, ix_iz (by decide) (by decide) (by decide), show (4 : Int).toNat = 4 from rfl, m5, m_comes hY hM T hT h1 h2 h7 h8 (by omega) (by omega)]
  cases nx g c w <;> rfl
theorem YM_come {τ : Mm} {W R : Nat} {g : Nat → Bool} {lim lea st : Int} {c' : Nat} {l' : Int} (M : YM τ W R g lim lea st) : YM (mCome τ c' l') W R g lim lea st := M
theorem TlM_come {τ : Mm} {g : Nat → Bool} {tl : Nat → Int} {c' : Nat} {l' : Int} (T : TlM τ g tl) : TlM (mCome τ c' l') g tl := T
theorem mCome_to {τ : Mm} {c' : Nat} {l' : Int} : gI (mCome τ c' l') 0 21 = iz c' := rfl
theorem mCome_lean {τ : Mm} {c' : Nat} {l' : Int} : gI (mCome τ c' l') 0 22 = iz l' := rfl
theorem m_spot (τ : Mm) (c l : Int) : f_M_spot τ (iz c) (iz l) = some (iz (17 * c + l + 8), τ) := by
  unfold f_M_spot
  rw [i17, i8, iz_mul, iz_add, iz_add]
-- the class's small functions
def TlT (σ : Mm) (r : Nat) (g : Nat → Bool) (tl : Nat → Int) : Prop := ∀ c, c < 20 → gA σ r c = if g c = true then iz (tl c) else 100
/-- a Ground (cell r: 11 or 13) that pictures the yard -/
def YG (σ : Mm) (r : Nat) (g : Nat → Bool) (lim lea : Int) (tl : Nat → Int) : Prop := gI σ r 2 = iz lim ∧ gI σ r 3 = iz lea ∧ TlT σ (gTl r) g tl ∧ ∀ c w, c < 20 → w < 4 → gA σ (r + 1) (4 * c + w) = match (if g c = true then nx g c w else none) with
  | some c' => iz c'
  | none => -1
theorem t_cellAt (σ : Mm) {x y : Int} (h1 : -2147483648 ≤ x) (h2 : x < 2147483648) (h3 : -2147483648 ≤ y) (h4 : y < 2147483648) : f_T_cellAt σ (iz x) (iz y) = some (if 0 ≤ x ∧ x < 5 ∧ 0 ≤ y ∧ y < 4 then iz (5 * y + x) else -1, σ) := by
  unfold f_T_cellAt
  simp only [i0, i5, i4, iz_mul, iz_add, iz_lt (a := x) (b := 0) h1 h2 (by decide) (by decide), iz_lt (a := x) (b := 5) h1 h2 (by decide) (by decide), iz_lt (a := y) (b := 0) h3 h4 (by decide) (by decide), iz_lt (a := y) (b := 4) h3 h4 (by decide) (by decide)]
  by_cases k1 : x < 0
  · rw [if_pos k1, if_neg (by omega)]
  · rw [if_neg k1]
    by_cases k2 : x < 5
    · rw [if_pos k2]
      by_cases k3 : y < 0
      · rw [if_pos k3, if_neg (by omega)]
      · rw [if_neg k3]
        by_cases k4 : y < 4
        · rw [if_pos k4, if_pos (by omega)]
        · rw [if_neg k4, if_neg (by omega)]
    · rw [if_neg k2, if_neg (by omega)]
theorem iz_ne100 {z : Int} (h1 : -4 ≤ z) (h2 : z ≤ 4) : ¬ iz z = 100 := fun q => by
  rw [i100, iz_eq (by omega) (by omega) (by decide) (by decide)] at q
  omega
theorem t_isBrick {σ : Mm} {r : Nat} {g : Nat → Bool} {tl : Nat → Int} (T : TlT σ (gTl r) g tl) (hT : TlOk g tl) {c : Nat} (h : c < 20) : f_Gr_isBrick σ r (iz c) = some (if g c = true then 0 else 1, σ) := by
  unfold f_Gr_isBrick
  rw [if_neg (by rw [i0, iz_lt (by omega) (by omega) (by decide) (by decide)]; omega), if_pos (by rw [i20, iz_lt (by omega) (by omega) (by decide) (by decide)]; omega), ix_n h (by decide), T c h]
  by_cases k : g c = true
  · rw [if_pos k, if_neg (iz_ne100 (hT c k).1 (hT c k).2), if_pos k]
  · rw [if_neg k, if_pos rfl, if_neg k]
theorem t_isBrickN {σ : Mm} {r : Nat} : f_Gr_isBrick σ r (-1) = some (1, σ) := by
  unfold f_Gr_isBrick
  rw [if_pos (by decide)]
theorem t_beyond {σ : Mm} {r : Nat} {g : Nat → Bool} {lim lea : Int} {tl : Nat → Int} (G : YG σ r g lim lea tl) {c w : Nat} (h : c < 20) (h2 : w < 4) : f_Gr_beyond σ r (iz c) (iz w) = some ((match (if g c = true then nx g c w else none) with | some c' => iz c' | none => -1), σ) := by
  unfold f_Gr_beyond
  rw [if_neg (by rw [i0, iz_lt (by omega) (by omega) (by decide) (by decide)]; omega), if_pos (by rw [i20, iz_lt (by omega) (by omega) (by decide) (by decide)]; omega), if_neg (by rw [i0, iz_lt (by omega) (by omega) (by decide) (by decide)]; omega), if_pos (by rw [i4, iz_lt (by omega) (by omega) (by decide) (by decide)]; omega), i4, iz_mul, iz_add, ix_iz (by omega) (by omega) (by decide), show ((4 : Int) * (c : Int) + (w : Int)).toNat = 4 * c + w by omega, G.2.2.2 c w h h2]
theorem t_leanOn {σ : Mm} {r : Nat} {g : Nat → Bool} {lim lea : Int} {tl : Nat → Int} (G : YG σ r g lim lea tl) (hT : TlOk g tl) {c : Nat} {l : Int} (h : c < 20) (hg : g c = true) : f_Gr_leanOn σ r (iz c) (iz l) = some (iz (l + (tl c + lea)), σ) := by
  unfold f_Gr_leanOn f_Gr_gain
  rw [t_isBrick G.2.2.1 hT h, bd_eq, if_pos hg, if_pos rfl, ix_n h (by decide), G.2.2.1 c h, if_pos hg, G.2.1, iz_add, bd_eq, iz_add]
theorem t_verdict {σ : Mm} {r : Nat} {g : Nat → Bool} {lim lea : Int} {tl : Nat → Int} (G : YG σ r g lim lea tl) (hl : 2 ≤ lim) (hl2 : lim ≤ 9) {l : Int} (h1 : -10000 ≤ l) (h2 : l ≤ 10000) : f_Gr_verdict σ r (iz l) = some (iz (vd lim l), σ) := by
  unfold f_Gr_verdict
  rw [G.1, iz_neg]
  simp only [iz_le (a := l) (b := -lim) (by omega) (by omega) (by omega) (by omega), iz_lt (a := l) (b := lim) (by omega) (by omega) (by omega) (by omega)]
  unfold vd
  by_cases q1 : l ≤ -lim
  · rw [if_pos q1, if_pos q1]; rfl
  · rw [if_neg q1, if_neg q1]
    by_cases q2 : l < lim
    · rw [if_pos q2, if_pos q2]; rfl
    · rw [if_neg q2, if_neg q2]; rfl
theorem t_spotOf (σ : Mm) {c : Nat} {l : Int} (h : c < 20) (h1 : -8 ≤ l) (h2 : l ≤ 8) : f_T_spotOf σ (iz c) (iz l) = some (iz (17 * c + l + 8), σ) := by
  unfold f_T_spotOf
  rw [if_neg (by rw [i0, iz_lt (by omega) (by omega) (by decide) (by decide)]; omega), if_pos (by rw [i20, iz_lt (by omega) (by omega) (by decide) (by decide)]; omega), if_neg (by rw [i8, iz_neg, iz_lt (by omega) (by omega) (by decide) (by decide)]; omega), if_pos (by rw [i8, iz_le (by omega) (by omega) (by decide) (by decide)]; omega), i17, i8, iz_mul, iz_add, iz_add]
theorem t_spotOfN (σ : Mm) {c : Nat} {l : Int} (h : c < 20) (h1 : -10000 ≤ l) (h2 : l ≤ 10000) (h3 : l < -8 ∨ 8 < l) : f_T_spotOf σ (iz c) (iz l) = some (-1, σ) := by
  unfold f_T_spotOf
  rw [if_neg (by rw [i0, iz_lt (by omega) (by omega) (by decide) (by decide)]; omega), if_pos (by rw [i20, iz_lt (by omega) (by omega) (by decide) (by decide)]; omega)]
  rcases h3 with h3 | h3
  · rw [if_pos (by rw [i8, iz_neg, iz_lt (by omega) (by omega) (by decide) (by decide)]; omega)]
  · rw [if_neg (by rw [i8, iz_neg, iz_lt (by omega) (by omega) (by decide) (by decide)]; omega), if_neg (by rw [i8, iz_le (by omega) (by omega) (by decide) (by decide)]; omega)]
theorem t_cellOf (σ : Mm) {k : Nat} (h : k < 340) : f_T_cellOf σ (iz k) = some (iz ((k / 17 : Nat) : Int), σ) := by
  unfold f_T_cellOf
  rw [i17, iz_div (by omega) (by omega) (by decide) (by decide)]
  rfl
theorem t_leanOf (σ : Mm) {k : Nat} (h : k < 340) : f_T_leanOf σ (iz k) = some (iz (((k % 17 : Nat) : Int) - 8), σ) := by
  unfold f_T_leanOf
  rw [i17, i8, iz_rm (by omega) (by omega) (by decide) (by decide), iz_sub]
  rfl
