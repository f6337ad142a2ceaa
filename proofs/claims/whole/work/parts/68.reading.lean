-- reading: the state of both, and the short items
def PT (σ : Mm) (d W R : Nat) (st lim lea : Int) (lt jt : Bool) (g : Nat → Bool) (tl : Nat → Int) : Prop := gR σ 3 6 = some d ∧ (d = 7 ∨ d = 9) ∧ gI σ d 1 = iz W ∧ gI σ d 2 = iz R ∧ gI σ d 3 = iz st ∧ gI σ d 4 = iz lim ∧ gI σ d 5 = iz lea ∧ gI σ 3 7 = (if lt = true then 1 else 0) ∧ gI σ 3 8 = (if jt = true then 1 else 0) ∧ ∀ c, c < 20 → gA σ (d + 1) c = if g c = true then iz (tl c) else 100
def bts (st : Int) (lt jt : Bool) : Int := (if st = -9 then 0 else 1) + (if lt = true then 2 else 0) + (if jt = true then 4 else 0)
def PM (τ : Mm) (W R : Nat) (st lim lea : Int) (lt jt : Bool) (bk g : Nat → Bool) (tl : Nat → Int) : Prop := gA τ 2 5 = iz W ∧ gA τ 2 6 = iz R ∧ gA τ 2 7 = iz st ∧ gA τ 2 8 = iz lim ∧ gA τ 2 9 = iz lea ∧ gI τ 0 10 = iz (bts st lt jt) ∧ (∀ c : Nat, c < 20 → (((gI τ 0 12 >>> (iz (c : Int) &&& 31)) &&& 1 = 0) ↔ bk c = false)) ∧ ∀ c, g c = true → gA τ 3 c = iz (tl c)
def dn (W R x c : Nat) : Prop := c % 5 < W ∧ (c / 5 < R ∨ (c / 5 = R ∧ c % 5 < x))
def YX (W R x : Nat) (g bk : Nat → Bool) (tl : Nat → Int) : Prop := (∀ c, g c = true → c < 20 ∧ dn W R x c) ∧ TlOk g tl ∧ (∀ c, c < 20 → dn W R x c → (bk c = true ↔ g c = false)) ∧ ∀ c, c < 20 → ¬ dn W R x c → bk c = false
def YS (W R : Nat) (st lim lea : Int) (g bk : Nat → Bool) (tl : Nat → Int) : Prop := W ≤ 5 ∧ R ≤ 4 ∧ (2 ≤ lim ∧ lim ≤ 9) ∧ (-2 ≤ lea ∧ lea ≤ 2) ∧ (st = -9 ∨ ∃ c : Nat, st = c ∧ g c = true) ∧ (W = 0 → R = 0) ∧ YX W R 0 g bk tl
def eqD (p : Nat) (σ σ' : Mm) : Prop := (∀ c k, okI c = true → ((c = 7 ∨ c = 9) → c = p) → gI σ' c k = gI σ c k) ∧ (∀ c, okA c = true → gA σ' c = gA σ c) ∧ gR σ' 0 2 = gR σ 0 2 ∧ gR σ' 0 3 = gR σ 0 3 ∧ gJ σ' = gJ σ ∧ (Rparts σ → Rparts σ')
theorem eqD.trans {p : Nat} {a b c : Mm} (h : eqD p a b) (k : eqD p b c) : eqD p a c := ⟨fun x y z w => (k.1 x y z w).trans (h.1 x y z w), fun x z => (k.2.1 x z).trans (h.2.1 x z), k.2.2.1.trans h.2.2.1, k.2.2.2.1.trans h.2.2.2.1, k.2.2.2.2.1.trans h.2.2.2.2.1, fun q => k.2.2.2.2.2 (h.2.2.2.2.2 q)⟩
theorem eqT.eqD {p : Nat} {a b : Mm} (h : eqT a b) : eqD p a b := ⟨fun c k z _ => h.1 c k z, h.2⟩
theorem eqD_d {p d k : Nat} {σ : Mm} {v : Int32} (hd : d = 7 ∨ d = 9) (hp : d ≠ p) : eqD p σ (sI σ d k v) := ⟨fun c j _ hc => by rw [gI_sI, if_neg (fun ⟨z, _⟩ => hp (by rw [← z]; exact hc (by omega)))], fun c _ => Eq.refl (gA σ c), Eq.refl (gR σ 0 2), Eq.refl (gR σ 0 3), Eq.refl (gJ σ), fun h => h⟩
theorem eqA.eqM {τ τ' : Mm} (e : eqA τ τ') : eqM τ τ' := ⟨fun k hk => e.1 0 k (fun ⟨_, z1, z2⟩ => by
  rcases (show k = 4 ∨ k = 5 ∨ k = 6 ∨ k = 7 by omega) with rfl | rfl | rfl | rfl <;> cases hk), fun c _ => e.2.1 c, fun k _ => by rw [e.2.1 2], e.2.2⟩
theorem eqM_k {τ : Mm} {k : Nat} {v : Int32} (h : k = 8 ∨ k = 10 ∨ k = 12) : eqM τ (sI τ 0 k v) := ⟨fun j hj => by rw [gI_sI, if_neg (fun ⟨_, z⟩ => by rw [z] at hj; rcases h with rfl | rfl | rfl <;> cases hj)], fun c _ => Eq.refl (gA τ c), fun k _ => Eq.refl _, Eq.refl (gJ τ)⟩
theorem eqM_a2 {τ : Mm} {k : Nat} {v : Int32} (h : 5 ≤ k) : eqM τ (sA τ 2 k v) := ⟨fun j hj => Eq.refl _, fun c hc => by rw [gA_sA, if_neg (fun z => by rw [z] at hc; cases hc)], fun j hj => by rw [gA_sA, if_pos rfl, pk_un (by omega)], Eq.refl (gJ τ)⟩
theorem eqM_a3 {τ : Mm} {k : Nat} {v : Int32} : eqM τ (sA τ 3 k v) := ⟨fun j hj => Eq.refl _, fun c hc => by rw [gA_sA, if_neg (fun z => by rw [z] at hc; cases hc)], fun j hj => by rw [gA_sA, if_neg (by decide)], Eq.refl (gJ τ)⟩
theorem TXm.extM {τ τ' : Mm} {a : Nat → Nat} {t : Nat} (e : eqM τ τ') (h : TXm τ a t) : TXm τ' a t := by
  refine ⟨h.1, (e.1 3 (by decide)).trans h.2.1, fun j hj => ?_⟩
  rw [e.2.1 1 (by decide)]
  exact h.2.2 j hj
theorem PM.eqA {τ τ' : Mm} {W R : Nat} {st lim lea : Int} {lt jt : Bool} {bk g : Nat → Bool} {tl : Nat → Int} (e : eqA τ τ') (h : PM τ W R st lim lea lt jt bk g tl) : PM τ' W R st lim lea lt jt bk g tl := by
  unfold PM
  rw [e.2.1 2, e.2.1 3, e.1 0 10 (by omega), e.1 0 12 (by omega)]
  exact h
def PS (p : Nat) (σ0 τ0 σ τ : Mm) (a : Nat → Nat) (t n : Nat) (Q G : Nat → Nat) (d i W R : Nat) (st lim lea : Int) (lt jt : Bool) (g bk : Nat → Bool) (tl : Nat → Int) : Prop := TA σ a t n Q G ∧ (gI σ 3 5 = iz (i : Nat) ∧ i ≤ n) ∧ PT σ d W R st lim lea lt jt g tl ∧ RK τ a t n Q G i ∧ gI τ 0 8 = iz (-1) ∧ PM τ W R st lim lea lt jt bk g tl ∧ YS W R st lim lea g bk tl ∧ eqD p σ0 σ ∧ eqM τ0 τ
def FS (p : Nat) (σ0 τ0 σ τ : Mm) (a : Nat → Nat) (t n : Nat) (Q G : Nat → Nat) : Prop := ∃ i, TA σ a t n Q G ∧ gI σ 3 5 = iz (i : Nat) ∧ i ≤ n ∧ gI τ 0 8 = iz (pl t n Q i : Nat) ∧ eqD p σ0 σ ∧ eqM τ0 τ
/-- one item: both go on, or both are at fault -/
def OUT (p : Nat) (σ0 τ0 : Mm) (a : Nat → Nat) (t n : Nat) (Q G : Nat → Nat) (d : Nat) (F : Option (Int32 × Mm)) (H : Option ((Mm × Int32) ⊕ (Int32 × Mm))) (v1 : Int32) : Prop := (∃ σ' τ' i W R st lim lea lt jt g bk tl, F = some (1, σ') ∧ H = f_M_yard_77 τ' v1 ∧ PS p σ0 τ0 σ' τ' a t n Q G d i W R st lim lea lt jt g bk tl ∧ 0 < W) ∨ (∃ σ' τ', F = some (0, σ') ∧ H = f_M_yard_77 τ' v1 ∧ FS p σ0 τ0 σ' τ' a t n Q G)
def OUTk (i0 : Nat) (p : Nat) (σ0 τ0 : Mm) (a : Nat → Nat) (t n : Nat) (Q G : Nat → Nat) (d : Nat) (F : Option (Int32 × Mm)) (H : Option ((Mm × Int32) ⊕ (Int32 × Mm))) (v1 : Int32) : Prop := (∃ σ' τ' i W R st lim lea lt jt g bk tl, F = some (1, σ') ∧ H = f_M_yard_77 τ' v1 ∧ i0 < i ∧ PS p σ0 τ0 σ' τ' a t n Q G d i W R st lim lea lt jt g bk tl) ∨ (∃ σ' τ', F = some (0, σ') ∧ H = f_M_yard_77 τ' v1 ∧ FS p σ0 τ0 σ' τ' a t n Q G)
theorem PT.s35 {σ : Mm} {d W R : Nat} {st lim lea : Int} {lt jt : Bool} {g : Nat → Bool} {tl : Nat → Int} (h : PT σ d W R st lim lea lt jt g tl) (v : Int32) : PT (sI σ 3 5 v) d W R st lim lea lt jt g tl := by
  obtain ⟨h1, h2, h3, h4, h5, h6, h7, h8, h9, h10⟩ := h
  refine ⟨h1, h2, ?_, ?_, ?_, ?_, ?_, ?_, ?_, h10⟩ <;> rw [gI_sI, if_neg (by omega)] <;> assumption
theorem PT.rk {σ : Mm} {d W R : Nat} {st lim lea : Int} {lt jt : Bool} {g : Nat → Bool} {tl : Nat → Int} (h : PT σ d W R st lim lea lt jt g tl) {α : Type} (K : Nat → Option α) : rk (gR σ 3 6) okPl K = K d := by
  rw [h.1]
  exact rk_eq K (by rcases h.2.1 with e | e <;> rw [e] <;> rfl)
theorem TA.s3 {σ : Mm} {a : Nat → Nat} {t n k : Nat} {Q G : Nat → Nat} (A : TA σ a t n Q G) (hk : k ≠ 4) (v : Int32) : TA (sI σ 3 k v) a t n Q G := A.ext (by rw [gI_sI, if_neg (fun z => hk z.2.symm)]) rfl rfl rfl
theorem TA.sd {σ : Mm} {a : Nat → Nat} {t n d k : Nat} {Q G : Nat → Nat} (A : TA σ a t n Q G) (hd : d = 7 ∨ d = 9) (v : Int32) : TA (sI σ d k v) a t n Q G := A.ext (by rw [gI_sI, if_neg (by omega)]) rfl rfl rfl
theorem y60 {τ : Mm} {a : Nat → Nat} {t n i : Nat} {Q G : Nat → Nat} (ht : t ≤ 120) (C : CH a t n Q G) (K : RK τ a t n Q G i) (hi : i ≤ n) (hw : gI τ 0 8 = iz (-1)) (v1 : Int32) : f_M_yard_60 τ v1 = f_M_yard_77 (sI τ 0 8 (iz (pl t n Q i : Nat))) v1 := by
  have hp : pl t n Q i ≤ 200 := by
    unfold pl
    by_cases e : i = n
    · rw [if_pos e]; omega
    · rw [if_neg e]
      obtain ⟨c1, c2, c3, -⟩ := C.2.1 i (by omega)
      omega
  have hF : f_M_isWell (sI τ 0 8 (iz (pl t n Q i : Nat))) = some (0, sI τ 0 8 (iz (pl t n Q i : Nat))) := m_ill (by rw [gI_sI, if_pos ⟨rfl, rfl⟩]) hp
  unfold f_M_yard_60 f_M_yard_61
  rw [m_takes0 K hw, bd_eq, hF, bd_eq, if_pos rfl]
theorem y61 {τ : Mm} {a : Nat → Nat} {t n i : Nat} {Q G : Nat → Nat} (T : TXm τ a t) (C : CH a t n Q G) (K : RK τ a t n Q G i) (hi : i ≤ n) (hw : gI τ 0 8 = iz (-1)) (hk : 0 ≤ tk a n Q G i) (v1 : Int32) : ∃ τ', f_M_yard_61 τ v1 1 = (bd (f_M_readsItem τ' (iz (tk a n Q G i))) fun _ σ3 => f_M_yard_77 σ3 v1) ∧ eqA τ τ' ∧ RK τ' a t n Q G (i + 1) ∧ gI τ' 0 8 = iz (-1) ∧ i < n := by
  have hb := tk_in (fun j hj => (T.2.2 j hj).1) C hi
  have hin : i < n := by
    by_cases z : i = n
    · have := hb.2.2.1.mpr z; omega
    · omega
  obtain ⟨τ', b1, b2, b3⟩ := m_takes1 T C K hw hin
  have h8 : gI τ' 0 8 = iz (-1) := (b2.1 0 8 (by omega)).trans hw
  refine ⟨τ', ?_, b2, b3, h8, hin⟩
  unfold f_M_yard_61
  rw [b1, bd_eq, m_well h8, bd_eq, if_neg (by decide), K.2.2.2.1 hk]
theorem pl_le {a : Nat → Nat} {t n i : Nat} {Q G : Nat → Nat} (ht : t ≤ 120) (C : CH a t n Q G) (hi : i ≤ n) : pl t n Q i ≤ 120 := by
  unfold pl
  by_cases e : i = n
  · rw [if_pos e]; exact ht
  · rw [if_neg e]
    obtain ⟨c1, c2, c3, -⟩ := C.2.1 i (by omega)
    omega
theorem RK.a2 {τ : Mm} {a : Nat → Nat} {t n i : Nat} {Q G : Nat → Nat} (K : RK τ a t n Q G i) (c k : Nat) (v : Int32) : RK (sA τ c k v) a t n Q G i := K
theorem RK.s {τ : Mm} {a : Nat → Nat} {t n i : Nat} {Q G : Nat → Nat} (K : RK τ a t n Q G i) {k : Nat} (hk : k < 4 ∨ 7 < k) (v : Int32) : RK (sI τ 0 k v) a t n Q G i := by
  unfold RK
  rw [gI_sI, if_neg (by omega), gI_sI, if_neg (by omega), gI_sI, if_neg (by omega), gI_sI, if_neg (by omega)]
  exact K
theorem bts_and : ∀ (b0 b1 b2 : Bool), ((iz ((if b0 = true then 0 else 1) + (if b1 = true then 2 else 0) + (if b2 = true then 4 else 0)) &&& 1 = 0) ↔ b0 = true) ∧ ((iz ((if b0 = true then 0 else 1) + (if b1 = true then 2 else 0) + (if b2 = true then 4 else 0)) &&& 2 = 0) ↔ b1 = false) ∧ ((iz ((if b0 = true then 0 else 1) + (if b1 = true then 2 else 0) + (if b2 = true then 4 else 0)) &&& 4 = 0) ↔ b2 = false) ∧ (b0 = true → iz ((if b0 = true then 0 else 1) + (if b1 = true then 2 else 0) + (if b2 = true then 4 else 0)) ||| 1 = iz (1 + (if b1 = true then 2 else 0) + (if b2 = true then 4 else 0))) ∧ (b1 = false → iz ((if b0 = true then 0 else 1) + (if b1 = true then 2 else 0) + (if b2 = true then 4 else 0)) ||| 2 = iz ((if b0 = true then 0 else 1) + 2 + (if b2 = true then 4 else 0))) ∧ (b2 = false → iz ((if b0 = true then 0 else 1) + (if b1 = true then 2 else 0) + (if b2 = true then 4 else 0)) ||| 4 = iz ((if b0 = true then 0 else 1) + (if b1 = true then 2 else 0) + 4)) := by decide
theorem bts_eq (st : Int) (lt jt : Bool) : bts st lt jt = (if decide (st = -9) = true then 0 else 1) + (if lt = true then 2 else 0) + (if jt = true then 4 else 0) := by
  unfold bts
  by_cases q : st = -9
  · rw [if_pos q, if_pos (decide_eq_true q)]
  · rw [if_neg q, if_neg (show ¬ decide (st = -9) = true from fun z => q (decide_eq_true_iff.mp z))]
theorem bts_1 (st : Int) (lt jt : Bool) : (iz (bts st lt jt) &&& 1 = 0) ↔ st = -9 := by
  rw [bts_eq]
  exact (bts_and (decide (st = -9)) lt jt).1.trans decide_eq_true_iff
theorem bts_2 (st : Int) (lt jt : Bool) : (iz (bts st lt jt) &&& 2 = 0) ↔ lt = false := by
  rw [bts_eq]
  exact (bts_and (decide (st = -9)) lt jt).2.1
theorem bts_4 (st : Int) (lt jt : Bool) : (iz (bts st lt jt) &&& 4 = 0) ↔ jt = false := by
  rw [bts_eq]
  exact (bts_and (decide (st = -9)) lt jt).2.2.1
theorem bts_o1 {st' : Int} (lt jt : Bool) (h : st' ≠ -9) : iz (bts (-9) lt jt) ||| 1 = iz (bts st' lt jt) := by
  rw [bts_eq (-9), bts_eq st', if_neg (show ¬ decide (st' = -9) = true from fun z => h (decide_eq_true_iff.mp z))]
  exact (bts_and (decide ((-9 : Int) = -9)) lt jt).2.2.2.1 rfl
theorem bts_o2 (st : Int) (jt : Bool) : iz (bts st false jt) ||| 2 = iz (bts st true jt) := by
  rw [bts_eq, bts_eq]
  exact (bts_and (decide (st = -9)) false jt).2.2.2.2.1 rfl
theorem bts_o4 (st : Int) (lt : Bool) : iz (bts st lt false) ||| 4 = iz (bts st lt true) := by
  rw [bts_eq, bts_eq]
  exact (bts_and (decide (st = -9)) lt false).2.2.2.2.2 rfl
