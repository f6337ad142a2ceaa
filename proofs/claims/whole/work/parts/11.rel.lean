-- related memories: σ of the class, τ of the reference, behind at most n calls
def Mok (g : Nat → Bool) (lim st : Int) (n : Nat) (m : Nat → Int) : Prop := ((st = -9 → m 0 = -9) ∧ (st ≠ -9 → ∃ c : Nat, m 0 = c ∧ g c = true)) ∧ (-lim < m 1 ∧ m 1 < lim) ∧ (m 2 = 0 ∨ m 2 = 1) ∧ (0 ≤ m 3 ∧ m 3 ≤ n) ∧ (0 ≤ m 4 ∧ m 4 ≤ n) ∧ (0 ≤ m 5 ∧ m 5 ≤ 3) ∧ (0 ≤ m 6 ∧ m 6 ≤ 3) ∧ TlOk g (fun c => m (7 + c))
def MM (g : Nat → Bool) (f : Nat → Int32) (m : Nat → Int) : Prop := (∀ k, k < 7 → f k = iz (m k)) ∧ ∀ c, g c = true → f (7 + c) = iz (m (7 + c))
def MT (g : Nat → Bool) (σ : Mm) (b : Nat) (m : Nat → Int) : Prop := gI σ b 3 = iz (m 0) ∧ gI σ b 4 = iz (m 1) ∧ gI σ b 5 = iz (m 2) ∧ gA σ (b + 2) 0 = iz (m 3) ∧ gA σ (b + 2) 1 = iz (m 4) ∧ gA σ (b + 3) 0 = iz (m 5) ∧ gA σ (b + 3) 1 = iz (m 6) ∧ TlT σ (b + 1) g (fun c => m (7 + c))
def YP (σ : Mm) (W R : Nat) (lim lea st : Int) : Prop := ∃ p d, gR σ 0 2 = some p ∧ gR σ 0 3 = some d ∧ ((p = 7 ∧ d = 9) ∨ (p = 9 ∧ d = 7)) ∧ gI σ p 1 = iz W ∧ gI σ p 2 = iz R ∧ gI σ p 3 = iz st ∧ gI σ p 4 = iz lim ∧ gI σ p 5 = iz lea
def NB (σ : Mm) (r : Nat) (g : Nat → Bool) : Prop := ∀ c w, c < 20 → w < 4 → gA σ (r + 1) (4 * c + w) = match (if g c = true then nx g c w else none) with
  | some c' => iz c'
  | none => -1
def Rhist (g : Nat → Bool) (lim st : Int) (n : Nat) (σ τ : Mm) : Prop := ∃ k w : Nat, k ≤ 10 ∧ w < 10 ∧ gI σ 16 2 = iz k ∧ gI τ 0 18 = iz k ∧ gI σ 16 1 = iz w ∧ ∀ i, i < k → ∃ m, Mok g lim st n m ∧ MT g σ (40 + 4 * ((w + 10 - i) % 10)) m ∧ MM g (fun j => gA τ 7 (27 * (k - 1 - i) + j)) m
def Rimg (g : Nat → Bool) (lim st : Int) (n : Nat) (σ τ : Mm) : Prop := ∀ i, i < 2 → (gA σ 19 i = 0 ∧ gA τ 6 i = 0) ∨ (gA σ 19 i = 1 ∧ gA τ 6 i = 1 ∧ ∃ m, Mok g lim st n m ∧ MT g σ (80 + 4 * i) m ∧ MM g (fun j => gA τ 5 (27 * i + j)) m)
def Rtold (σ τ : Mm) : Prop := ∃ t : Nat, t ≤ 8 ∧ gI σ 0 11 = iz t ∧ gI τ 0 20 = iz t ∧ ∀ j, j < t → ∃ w : Nat, w < 4 ∧ gA σ 20 j = iz w ∧ gA τ 8 j = iz w
def Rtext (σ τ : Mm) : Prop := ∃ t : Nat, t ≤ 120 ∧ gI σ 1 1 = iz t ∧ gI τ 0 3 = iz t ∧ ∀ j, j < t → ∃ a : Nat, a < 256 ∧ gA σ 2 j = iz a ∧ gA τ 1 j = iz a
def Rparts (σ : Mm) : Prop := (gR σ 33 0 = some 34 ∧ gR σ 33 1 = some 35) ∨ (gR σ 33 0 = some 35 ∧ gR σ 33 1 = some 34)
/-- all but the yard's numbers -/
def RelY (W R : Nat) (g : Nat → Bool) (lim lea st : Int) (m : Nat → Int) (n : Nat) (σ τ : Mm) : Prop := Yok W R g lim lea st ∧ YM τ W R g lim lea st ∧ YP σ W R lim lea st ∧ Mok g lim st n m ∧ MM g (gA τ 4) m ∧ MT g σ 36 m ∧ (gI σ 11 2 = iz lim ∧ gI σ 11 3 = iz lea) ∧ NB σ 11 g ∧ Rhist g lim st n σ τ ∧ Rimg g lim st n σ τ ∧ Rtold σ τ ∧ Rtext σ τ ∧ gJ σ = gJ τ ∧ Rparts σ
def Rel (n : Nat) (σ τ : Mm) : Prop := ∃ W R g lim lea st m, RelY W R g lim lea st m n σ τ
theorem Mok.up {g : Nat → Bool} {lim st : Int} {n n' : Nat} {m : Nat → Int} (h : Mok g lim st n m) (hn : n ≤ n') : Mok g lim st n' m := by
  obtain ⟨h1, h2, h3, h4, h5, h6⟩ := h
  exact ⟨h1, h2, h3, ⟨h4.1, by omega⟩, ⟨h5.1, by omega⟩, h6⟩
/-- what the relation looks at -/
def okI (c : Nat) : Bool := !(c == 3 || c == 13 || c == 21 || c == 26 || c == 33)
def okA (c : Nat) : Bool := !(c == 4 || c == 5 || c == 6 || c == 8 || c == 10 || c == 14 || c == 15 || (Nat.ble 22 c && Nat.ble c 25) || (Nat.ble 27 c && Nat.ble c 32) || c == 34 || c == 35)
def eqT (σ σ' : Mm) : Prop := (∀ c k, okI c = true → gI σ' c k = gI σ c k) ∧ (∀ c, okA c = true → gA σ' c = gA σ c) ∧ gR σ' 0 2 = gR σ 0 2 ∧ gR σ' 0 3 = gR σ 0 3 ∧ gJ σ' = gJ σ ∧ (Rparts σ → Rparts σ')
def okMI (k : Nat) : Bool := k == 3 || k == 11 || k == 18 || k == 20
def okMA (c : Nat) : Bool := c == 1 || c == 4 || c == 5 || c == 6 || c == 7 || c == 8
def eqM (τ τ' : Mm) : Prop := (∀ k, okMI k = true → gI τ' 0 k = gI τ 0 k) ∧ (∀ c, okMA c = true → gA τ' c = gA τ c) ∧ (∀ k, k < 5 → gA τ' 2 k = gA τ 2 k) ∧ gJ τ' = gJ τ
theorem eqT.rfl {σ : Mm} : eqT σ σ := ⟨fun _ _ _ => Eq.refl _, fun _ _ => Eq.refl _, Eq.refl _, Eq.refl _, Eq.refl _, fun h => h⟩
theorem eqM.rfl {τ : Mm} : eqM τ τ := ⟨fun _ _ => Eq.refl _, fun _ _ => Eq.refl _, fun _ _ => Eq.refl _, Eq.refl _⟩
theorem eqT.trans {a b c : Mm} (h : eqT a b) (k : eqT b c) : eqT a c := ⟨fun x y z => (k.1 x y z).trans (h.1 x y z), fun x z => (k.2.1 x z).trans (h.2.1 x z), k.2.2.1.trans h.2.2.1, k.2.2.2.1.trans h.2.2.2.1, k.2.2.2.2.1.trans h.2.2.2.2.1, fun q => k.2.2.2.2.2 (h.2.2.2.2.2 q)⟩
theorem eqM.trans {a b c : Mm} (h : eqM a b) (k : eqM b c) : eqM a c := ⟨fun x z => (k.1 x z).trans (h.1 x z), fun x z => (k.2.1 x z).trans (h.2.1 x z), fun x z => (k.2.2.1 x z).trans (h.2.2.1 x z), k.2.2.2.trans h.2.2.2⟩
theorem YM.ext {τ τ' : Mm} (h : eqM τ τ') {W R : Nat} {g : Nat → Bool} {lim lea st : Int} (M : YM τ W R g lim lea st) : YM τ' W R g lim lea st := by
  obtain ⟨e1, e2, e3, e4⟩ := h
  unfold YM
  rw [e3 0 (by decide), e3 1 (by decide), e3 2 (by decide), e3 3 (by decide), e3 4 (by decide), e1 11 (by decide)]
  exact M
theorem MT.ext {g : Nat → Bool} {σ σ' : Mm} {b : Nat} {m : Nat → Int} (h : MT g σ b m) (hI : ∀ k, gI σ' b k = gI σ b k) (h1 : gA σ' (b + 1) = gA σ (b + 1)) (h2 : gA σ' (b + 2) = gA σ (b + 2)) (h3 : gA σ' (b + 3) = gA σ (b + 3)) : MT g σ' b m := by
  unfold MT TlT
  rw [hI, hI, hI, h1, h2, h3]
  exact h
theorem okA_hi {c : Nat} (h : 36 ≤ c) : okA c = true := by
  unfold okA
  have : ∀ k, k < 36 → ¬ c = k := fun k hk e => by omega
  have a1 : Nat.ble c 25 = false := by
    cases h9 : Nat.ble c 25 with
    | false => rfl
    | true => exact absurd (Nat.le_of_ble_eq_true h9) (by omega)
  have a2 : Nat.ble c 32 = false := by
    cases h9 : Nat.ble c 32 with
    | false => rfl
    | true => exact absurd (Nat.le_of_ble_eq_true h9) (by omega)
  rw [a1, a2]
  simp [this 4 (by decide), this 5 (by decide), this 6 (by decide), this 8 (by decide), this 10 (by decide), this 14 (by decide), this 15 (by decide), this 34 (by decide), this 35 (by decide)]
theorem okI_hi {c : Nat} (h : 36 ≤ c) : okI c = true := by
  unfold okI
  have : ∀ k, k < 36 → ¬ c = k := fun k hk e => by omega
  simp [this 3 (by decide), this 13 (by decide), this 21 (by decide), this 26 (by decide), this 33 (by decide)]
theorem MT.eqT {g : Nat → Bool} {σ σ' : Mm} {b : Nat} {m : Nat → Int} (e : eqT σ σ') (hb : 36 ≤ b) (h : MT g σ b m) : MT g σ' b m := h.ext (fun k => e.1 b k (okI_hi hb)) (e.2.1 _ (okA_hi (by omega))) (e.2.1 _ (okA_hi (by omega))) (e.2.1 _ (okA_hi (by omega)))
theorem YP.ext {σ σ' : Mm} (e : eqT σ σ') {W R : Nat} {lim lea st : Int} (h : YP σ W R lim lea st) : YP σ' W R lim lea st := by
  obtain ⟨p, d, h1, h2, h3, h4⟩ := h
  have hp : okI p = true := by rcases h3 with ⟨rfl, _⟩ | ⟨rfl, _⟩ <;> decide
  refine ⟨p, d, e.2.2.1.trans h1, e.2.2.2.1.trans h2, h3, ?_⟩
  rw [e.1 p _ hp, e.1 p _ hp, e.1 p _ hp, e.1 p _ hp, e.1 p _ hp]
  exact h4
theorem Rhist.ext {g : Nat → Bool} {lim st : Int} {n n' : Nat} {σ τ σ' τ' : Mm} (hn : n ≤ n') (e : eqT σ σ') (e2 : eqM τ τ') (h : Rhist g lim st n σ τ) : Rhist g lim st n' σ' τ' := by
  obtain ⟨k, w, h1, h2, h3, h4, h5, h6⟩ := h
  refine ⟨k, w, h1, h2, (e.1 16 2 (by decide)).trans h3, (e2.1 18 (by decide)).trans h4, (e.1 16 1 (by decide)).trans h5, fun i hi => ?_⟩
  obtain ⟨m, a1, a2, a3⟩ := h6 i hi
  refine ⟨m, a1.up hn, a2.eqT e (by omega), ?_⟩
  rw [e2.2.1 7 (by decide)]
  exact a3
theorem Rimg.ext {g : Nat → Bool} {lim st : Int} {n n' : Nat} {σ τ σ' τ' : Mm} (hn : n ≤ n') (e : eqT σ σ') (e2 : eqM τ τ') (h : Rimg g lim st n σ τ) : Rimg g lim st n' σ' τ' := by
  intro i hi
  rw [e.2.1 19 (by decide), e2.2.1 6 (by decide), e2.2.1 5 (by decide)]
  rcases h i hi with h | ⟨a1, a2, m, a3, a4, a5⟩
  · exact Or.inl h
  · exact Or.inr ⟨a1, a2, m, a3.up hn, a4.eqT e (by omega), a5⟩
theorem Rtold.ext {σ τ σ' τ' : Mm} (e : eqT σ σ') (e2 : eqM τ τ') (h : Rtold σ τ) : Rtold σ' τ' := by
  unfold Rtold
  rw [e.1 0 11 (by decide), e2.1 20 (by decide), e.2.1 20 (by decide), e2.2.1 8 (by decide)]
  exact h
theorem Rtext.ext {σ τ σ' τ' : Mm} (e : eqT σ σ') (e2 : eqM τ τ') (h : Rtext σ τ) : Rtext σ' τ' := by
  unfold Rtext
  rw [e.1 1 1 (by decide), e2.1 3 (by decide), e.2.1 2 (by decide), e2.2.1 1 (by decide)]
  exact h
theorem RelY.ext {W R : Nat} {g : Nat → Bool} {lim lea st : Int} {m : Nat → Int} {n n' : Nat} {σ τ σ' τ' : Mm} (hn : n ≤ n') (e : eqT σ σ') (e2 : eqM τ τ') (h : RelY W R g lim lea st m n σ τ) : RelY W R g lim lea st m n' σ' τ' := by
  obtain ⟨h1, h2, h3, h4, h5, h6, h7, h8, h9, h10, h11, h12, h13, h14⟩ := h
  refine ⟨h1, h2.ext e2, h3.ext e, h4.up hn, by rw [e2.2.1 4 (by decide)]; exact h5, h6.eqT e (by decide), ?_, ?_, h9.ext hn e e2, h10.ext hn e e2, h11.ext e e2, h12.ext e e2, by rw [e.2.2.2.2.1, e2.2.2.2]; exact h13, e.2.2.2.2.2 h14⟩
  · rw [e.1 11 2 (by decide), e.1 11 3 (by decide)]; exact h7
  · unfold NB; rw [e.2.1 12 (by decide)]; exact h8
theorem Rel.ext {n n' : Nat} {σ τ σ' τ' : Mm} (hn : n ≤ n') (e : eqT σ σ') (e2 : eqM τ τ') (h : Rel n σ τ) : Rel n' σ' τ' := by
  obtain ⟨W, R, g, lim, lea, st, m, h⟩ := h
  exact ⟨W, R, g, lim, lea, st, m, h.ext hn e e2⟩
theorem RelY.YG {W R : Nat} {g : Nat → Bool} {lim lea st : Int} {m : Nat → Int} {n : Nat} {σ τ : Mm} (h : RelY W R g lim lea st m n σ τ) : YG σ 11 g lim lea (fun c => m (7 + c)) := by
  obtain ⟨h1, h2, h3, h4, h5, h6, h7, h8, -⟩ := h
  exact ⟨h7.1, h7.2, h6.2.2.2.2.2.2.2, h8⟩
theorem RelY.TlM {W R : Nat} {g : Nat → Bool} {lim lea st : Int} {m : Nat → Int} {n : Nat} {σ τ : Mm} (h : RelY W R g lim lea st m n σ τ) : TlM τ g (fun c => m (7 + c)) := h.2.2.2.2.1.2
theorem RelY.TlOk {W R : Nat} {g : Nat → Bool} {lim lea st : Int} {m : Nat → Int} {n : Nat} {σ τ : Mm} (h : RelY W R g lim lea st m n σ τ) : TlOk g (fun c => m (7 + c)) := h.2.2.2.1.2.2.2.2.2.2.2
/-- both answer r, and stay related -/
def Both (n : Nat) (F : Option (Int32 × Mm)) (G : Option (Int32 × Mm)) : Prop := ∃ r σ' τ', F = some (r, σ') ∧ G = some (r, τ') ∧ Rel (n + 1) σ' τ'
theorem eqM_0 {τ : Mm} {v : Int32} : eqM τ (sI τ 0 0 v) := by
  refine ⟨fun k hk => ?_, fun _ _ => Eq.refl _, fun _ _ => Eq.refl _, Eq.refl _⟩
  rw [gI_sI, if_neg (fun q => by rw [q.2] at hk; cases hk)]
theorem Rel.go {n : Nat} {σ τ : Mm} (h : Rel n σ τ) : Rel n σ (sI τ 0 0 0) := h.ext (Nat.le_refl _) eqT.rfl eqM_0
theorem RelY.go {W R : Nat} {g : Nat → Bool} {lim lea st : Int} {m : Nat → Int} {n : Nat} {σ τ : Mm} (h : RelY W R g lim lea st m n σ τ) : RelY W R g lim lea st m n σ (sI τ 0 0 0) := h.ext (Nat.le_refl _) eqT.rfl eqM_0
theorem Both.same {n : Nat} {σ τ : Mm} {F G : Option (Int32 × Mm)} {r : Int32} (h : Rel n σ τ) (hF : F = some (r, σ)) (hG : G = some (r, τ)) : Both n F G := ⟨r, σ, τ, hF, hG, h.ext (Nat.le_succ _) eqT.rfl eqM.rfl⟩
theorem t_hasNoStart {σ : Mm} {W R : Nat} {lim lea st : Int} (P : YP σ W R lim lea st) (h1 : -9 ≤ st) (h2 : st < 1000) : f_T_hasNoStart σ = some (if st = -9 then 1 else 0, σ) := by
  obtain ⟨p, d, e1, -, e3, -, -, e6, -⟩ := P
  unfold f_T_hasNoStart
  rw [e1, rk_eq _ (by rcases e3 with ⟨rfl, _⟩ | ⟨rfl, _⟩ <;> rfl), e6, i9, iz_neg]
  by_cases k : st = -9
  · rw [if_pos ((iz_eq (by omega) (by omega) (by omega) (by omega)).mpr k), if_pos k]
  · rw [if_neg (fun z => k ((iz_eq (by omega) (by omega) (by omega) (by omega)).mp z)), if_neg k]
theorem Yok.st {W R : Nat} {g : Nat → Bool} {lim lea st : Int} (Y : Yok W R g lim lea st) : -9 ≤ st ∧ st < 20 := by
  obtain ⟨-, -, -, -, -, -, y3, y4⟩ := Y
  rcases y4 with h | ⟨c, h, hc⟩
  · omega
  · have := (y3 c hc).1; omega
theorem Rhist.up {g : Nat → Bool} {lim st : Int} {n n' : Nat} {σ τ : Mm} (h : Rhist g lim st n σ τ) (hn : n ≤ n') : Rhist g lim st n' σ τ := h.ext hn eqT.rfl eqM.rfl
theorem Rimg.up {g : Nat → Bool} {lim st : Int} {n n' : Nat} {σ τ : Mm} (h : Rimg g lim st n σ τ) (hn : n ≤ n') : Rimg g lim st n' σ τ := h.ext hn eqT.rfl eqM.rfl
/-- moments and what else lies from cell 40 on are the same -/
def eqH (σ σ' : Mm) : Prop := (∀ c k, 40 ≤ c → gI σ' c k = gI σ c k) ∧ (∀ c, 40 ≤ c → gA σ' c = gA σ c)
theorem eqH.rfl {σ : Mm} : eqH σ σ := ⟨fun _ _ _ => Eq.refl _, fun _ _ => Eq.refl _⟩
theorem eqH.trans {a b c : Mm} (h : eqH a b) (k : eqH b c) : eqH a c := ⟨fun x y z => (k.1 x y z).trans (h.1 x y z), fun x z => (k.2 x z).trans (h.2 x z)⟩
theorem eqH_sI {σ : Mm} {c k : Nat} {v : Int32} (hc : c < 40) : eqH σ (sI σ c k v) := ⟨fun a b h => by rw [gI_sI, if_neg (fun q => by omega)], fun _ _ => Eq.refl _⟩
theorem eqH_sAs {σ : Mm} {c : Nat} {f : Nat → Int32} (hc : c < 40) : eqH σ (sAs σ c f) := ⟨fun _ _ _ => Eq.refl _, fun a h => by rw [gA_sAs, if_neg (fun q => by omega)]⟩
theorem eqH_sA {σ : Mm} {c k : Nat} {v : Int32} (hc : c < 40) : eqH σ (sA σ c k v) := eqH_sAs hc
theorem eqH_sR {σ : Mm} {c k : Nat} {v : Option Nat} : eqH σ (sR σ c k v) := ⟨fun _ _ _ => Eq.refl _, fun _ _ => Eq.refl _⟩
theorem eqH_sJ {σ : Mm} {v : Int64} : eqH σ (sJ σ v) := ⟨fun _ _ _ => Eq.refl _, fun _ _ => Eq.refl _⟩
theorem MT.mv {g : Nat → Bool} {σ σ' : Mm} {b : Nat} {m : Nat → Int} (e : eqH σ σ') (hb : 40 ≤ b) (h : MT g σ b m) : MT g σ' b m := h.ext (fun k => e.1 b k hb) (e.2 _ (by omega)) (e.2 _ (by omega)) (e.2 _ (by omega))
theorem Rhist.mv {g : Nat → Bool} {lim st : Int} {n n' : Nat} {σ τ σ' τ' : Mm} (h : Rhist g lim st n σ τ) (hn : n ≤ n') (e : eqH σ σ') (e1 : gI σ' 16 1 = gI σ 16 1) (e2 : gI σ' 16 2 = gI σ 16 2) (e3 : gI τ' 0 18 = gI τ 0 18) (e4 : gA τ' 7 = gA τ 7) : Rhist g lim st n' σ' τ' := by
  obtain ⟨k, w, h1, h2, h3, h4, h5, h6⟩ := h
  refine ⟨k, w, h1, h2, e2.trans h3, e3.trans h4, e1.trans h5, fun i hi => ?_⟩
  obtain ⟨m, a1, a2, a3⟩ := h6 i hi
  exact ⟨m, a1.up hn, a2.mv e (by omega), by rw [e4]; exact a3⟩
theorem Rimg.mv {g : Nat → Bool} {lim st : Int} {n n' : Nat} {σ τ σ' τ' : Mm} (h : Rimg g lim st n σ τ) (hn : n ≤ n') (e : eqH σ σ') (e1 : gA σ' 19 = gA σ 19) (e2 : gA τ' 6 = gA τ 6) (e3 : gA τ' 5 = gA τ 5) : Rimg g lim st n' σ' τ' := by
  intro i hi
  rw [e1, e2, e3]
  rcases h i hi with h | ⟨a1, a2, m, a3, a4, a5⟩
  · exact Or.inl h
  · exact Or.inr ⟨a1, a2, m, a3.up hn, a4.mv e (by omega), a5⟩
theorem YP.mv {σ σ' : Mm} {W R : Nat} {lim lea st : Int} (h : YP σ W R lim lea st) (e1 : gR σ' 0 2 = gR σ 0 2) (e2 : gR σ' 0 3 = gR σ 0 3) (e3 : ∀ k, gI σ' 7 k = gI σ 7 k) (e4 : ∀ k, gI σ' 9 k = gI σ 9 k) : YP σ' W R lim lea st := by
  obtain ⟨p, d, h1, h2, h3, h4⟩ := h
  refine ⟨p, d, e1.trans h1, e2.trans h2, h3, ?_⟩
  have e : ∀ k, gI σ' p k = gI σ p k := by rcases h3 with ⟨rfl, _⟩ | ⟨rfl, _⟩ <;> assumption
  rw [e, e, e, e, e]
  exact h4
theorem tn0 : Int.toNat 0 = 0 := rfl
theorem tn1 : Int.toNat 1 = 1 := rfl
theorem tn2 : Int.toNat 2 = 2 := rfl
theorem tn3 : Int.toNat 3 = 3 := rfl
theorem tn4 : Int.toNat 4 = 4 := rfl
theorem tn5 : Int.toNat 5 = 5 := rfl
theorem tn6 : Int.toNat 6 = 6 := rfl
theorem tn7 : Int.toNat 7 = 7 := rfl
theorem tn8 : Int.toNat 8 = 8 := rfl
theorem tn9 : Int.toNat 9 = 9 := rfl
theorem tn10 : Int.toNat 10 = 10 := rfl
theorem tn11 : Int.toNat 11 = 11 := rfl
theorem tn12 : Int.toNat 12 = 12 := rfl
theorem tn13 : Int.toNat 13 = 13 := rfl
theorem tn14 : Int.toNat 14 = 14 := rfl
theorem tn15 : Int.toNat 15 = 15 := rfl
theorem tn16 : Int.toNat 16 = 16 := rfl
theorem tn17 : Int.toNat 17 = 17 := rfl
theorem tn18 : Int.toNat 18 = 18 := rfl
theorem tn19 : Int.toNat 19 = 19 := rfl
theorem tn20 : Int.toNat 20 = 20 := rfl
theorem tn21 : Int.toNat 21 = 21 := rfl
theorem tn22 : Int.toNat 22 = 22 := rfl
theorem tn23 : Int.toNat 23 = 23 := rfl
theorem tn24 : Int.toNat 24 = 24 := rfl
theorem tn25 : Int.toNat 25 = 25 := rfl
theorem tn26 : Int.toNat 26 = 26 := rfl
theorem tn27 : Int.toNat 27 = 27 := rfl
theorem RelY.go' {W R : Nat} {g : Nat → Bool} {lim lea st : Int} {m : Nat → Int} {n : Nat} {σ τ : Mm} (h : RelY W R g lim lea st m n σ τ) : RelY W R g lim lea st m n σ (sI τ 0 0 (iz 0)) := h.ext (Nat.le_refl _) eqT.rfl eqM_0
theorem eqM_come {τ : Mm} {c' : Nat} {l' : Int} : eqM τ (mCome τ c' l') := ⟨fun k hk => by
    unfold mCome
    rw [gI_sI, if_neg (fun q => by rw [q.2] at hk; cases hk), gI_sI, if_neg (fun q => by rw [q.2] at hk; cases hk)], fun _ _ => Eq.refl _, fun _ _ => Eq.refl _, Eq.refl _⟩
/-- a cell told by x and y, in the class -/
theorem t_at {σ : Mm} {g : Nat → Bool} {tl : Nat → Int} (T : TlT σ 37 g tl) (hT : TlOk g tl) {x y : Int} (h : gx g x y = true) : ∃ c : Nat, c < 20 ∧ g c = true ∧ (c : Int) = 5 * y + x ∧ 0 ≤ x ∧ x < 5 ∧ 0 ≤ y ∧ y < 4 ∧ f_T_cellAt σ (iz x) (iz y) = some (iz c, σ) ∧ f_Gr_isBrick σ 11 (iz c) = some (0, σ) := by
  obtain ⟨h1, h2, h3, h4, h5⟩ := gx_spec.mp h
  refine ⟨(5 * y + x).toNat, by omega, h5, by omega, h1, h2, h3, h4, ?_, ?_⟩
  · rw [t_cellAt σ (by omega) (by omega) (by omega) (by omega), if_pos ⟨h1, h2, h3, h4⟩, show (((5 * y + x).toNat : Nat) : Int) = 5 * y + x by omega]
  · rw [t_isBrick (r := 11) T hT (by omega), if_pos h5]
theorem t_at0 {σ : Mm} {g : Nat → Bool} {tl : Nat → Int} (T : TlT σ 37 g tl) (hT : TlOk g tl) {x y : Int} (h1 : -2147483648 ≤ x) (h2 : x < 2147483648) (h3 : -2147483648 ≤ y) (h4 : y < 2147483648) (h : ¬ gx g x y = true) : ∃ r, f_T_cellAt σ (iz x) (iz y) = some (r, σ) ∧ f_Gr_isBrick σ 11 r = some (1, σ) := by
  rw [t_cellAt σ h1 h2 h3 h4]
  by_cases k : 0 ≤ x ∧ x < 5 ∧ 0 ≤ y ∧ y < 4
  · rw [if_pos k]
    refine ⟨_, rfl, ?_⟩
    have e : 5 * y + x = (((5 * y + x).toNat : Nat) : Int) := by omega
    rw [e, t_isBrick (r := 11) T hT (by omega), if_neg (fun q => h (gx_spec.mpr ⟨k.1, k.2.1, k.2.2.1, k.2.2.2, q⟩))]
  · rw [if_neg k]
    exact ⟨_, rfl, t_isBrickN⟩
theorem YM.ext' {τ τ' : Mm} {W R : Nat} {g : Nat → Bool} {lim lea st : Int} (M : YM τ W R g lim lea st) (e1 : gI τ' 0 11 = gI τ 0 11) (e2 : gA τ' 2 = gA τ 2) : YM τ' W R g lim lea st := by
  unfold YM
  rw [e1, e2]
  exact M
