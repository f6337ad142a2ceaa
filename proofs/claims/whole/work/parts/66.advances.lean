-- the reference comes to a token
def TXm (τ : Mm) (a : Nat → Nat) (t : Nat) : Prop := t ≤ 120 ∧ gI τ 0 3 = iz t ∧ ∀ j, j < t → a j < 256 ∧ gA τ 1 j = iz (a j)
def eqA (τ τ' : Mm) : Prop := (∀ c k, ¬ (c = 0 ∧ 4 ≤ k ∧ k ≤ 7) → gI τ' c k = gI τ c k) ∧ (∀ c, gA τ' c = gA τ c) ∧ gJ τ' = gJ τ
theorem eqA.rfl {τ : Mm} : eqA τ τ := ⟨fun _ _ _ => Eq.refl _, fun _ => Eq.refl _, Eq.refl _⟩
theorem eqA.trans {a b c : Mm} (h : eqA a b) (k : eqA b c) : eqA a c := ⟨fun x y z => (k.1 x y z).trans (h.1 x y z), fun x => (k.2.1 x).trans (h.2.1 x), k.2.2.trans h.2.2⟩
theorem eqA_s {τ : Mm} {k : Nat} {v : Int32} (h : 4 ≤ k ∧ k ≤ 7) : eqA τ (sI τ 0 k v) := ⟨fun c j hj => by rw [gI_sI, if_neg (fun ⟨z1, z2⟩ => hj ⟨z1, by omega, by omega⟩)], fun c => Eq.refl (gA τ c), Eq.refl (gJ τ)⟩
theorem TXm.ext {τ τ' : Mm} {a : Nat → Nat} {t : Nat} (e : eqA τ τ') (h : TXm τ a t) : TXm τ' a t := by
  refine ⟨h.1, (e.1 0 3 (by omega)).trans h.2.1, fun j hj => ?_⟩
  rw [e.2.1 1]
  exact h.2.2 j hj
def RK (τ : Mm) (a : Nat → Nat) (t n : Nat) (Q G : Nat → Nat) (i : Nat) : Prop := gI τ 0 5 = iz (kd (tk a n Q G i)) ∧ gI τ 0 6 = iz (pl t n Q i : Nat) ∧ (tk a n Q G i = -2 → gI τ 0 7 = iz (nv a Q G i)) ∧ (0 ≤ tk a n Q G i → gI τ 0 7 = iz (tk a n Q G i)) ∧ (i < n → gI τ 0 4 = iz (G (i + 1) : Nat))
theorem m_letterAt {τ : Mm} {a : Nat → Nat} {t j : Nat} (h : TXm τ a t) (hj : j ≤ t) : f_M_letterAt τ (iz (j : Int)) = some (if j < t then iz (a j) else -1, τ) := by
  have h1 := h.1
  unfold f_M_letterAt
  by_cases k : j < t
  · rw [h.2.1, if_pos (by rw [iz_lt (by omega) (by omega) (by omega) (by omega)]; omega), if_pos k, ix_n (by omega) (by decide), (h.2.2 j k).2]
  · rw [h.2.1, if_neg (by rw [iz_lt (by omega) (by omega) (by omega) (by omega)]; omega), if_neg k]
theorem m_inD (τ : Mm) {z : Int} (h1 : -1 ≤ z) (h2 : z < 256) : f_M_in τ (iz z) 48 57 = some (if 48 ≤ z ∧ z ≤ 57 then 1 else 0, τ) := m_in_iz τ (lo := 48) (hi := 57) (by omega) (by omega) (by decide) (by decide) (by decide) (by decide)
theorem m_isLetter (τ : Mm) {z : Int} (h1 : 0 ≤ z) (h2 : z < 256) : f_M_isLetter τ (iz z) = some (if z = 119 ∨ z = 114 ∨ z = 120 ∨ z = 98 ∨ z = 107 ∨ z = 106 then 1 else 0, τ) := by
  have e : ∀ k : Int, 0 ≤ k → k < 256 → (iz z = iz k ↔ z = k) := fun k k1 k2 => iz_eq (by omega) (by omega) (by omega) (by omega)
  unfold f_M_isLetter
  rw [i119, i114, i120, i98, i107, i106]
  simp only [e 119 (by decide) (by decide), e 114 (by decide) (by decide), e 120 (by decide) (by decide), e 98 (by decide) (by decide), e 107 (by decide) (by decide), e 106 (by decide) (by decide)]
  by_cases q1 : z = 119
  · rw [if_pos q1, if_pos (by omega)]
  rw [if_neg q1]
  by_cases q2 : z = 114
  · rw [if_pos q2, if_pos (by omega)]
  rw [if_neg q2]
  by_cases q3 : z = 120
  · rw [if_pos q3, if_pos (by omega)]
  rw [if_neg q3]
  by_cases q4 : z = 98
  · rw [if_pos q4, if_pos (by omega)]
  rw [if_neg q4]
  by_cases q5 : z = 107
  · rw [if_pos q5, if_pos (by omega)]
  rw [if_neg q5]
  by_cases q6 : z = 106
  · rw [if_pos q6, if_pos (by omega)]
  rw [if_neg q6, if_neg (by omega)]
/-- the digits of one number -/
theorem m_adv71 {τ : Mm} {a : Nat → Nat} {t q e : Nat} (T : TXm τ a t) (h1 : q < e) (h2 : e ≤ t) (hd : ∀ j, q ≤ j → j < e → dg a j) (hn : e < t → ¬ dg a e) (k4 : gI τ 0 4 = iz (q : Nat)) (k6 : gI τ 0 6 = iz (q : Nat)) (k7 : gI τ 0 7 = iz 0) :
    ∃ z, f_M_advances_71 τ (iz (a q : Nat)) = some z ∧ ∃ τ', z = (0, τ') ∧ eqA τ τ' ∧ gI τ' 0 5 = (if gd a q (e - q) = true then iz 2 else iz 4) ∧ gI τ' 0 6 = iz (q : Nat) ∧ gI τ' 0 7 = iz (rv a q (e - q)) ∧ gI τ' 0 4 = iz (e : Nat) := by
  have ht := T.1
  have rvb : ∀ m, q + m ≤ e → 0 ≤ rv a q m ∧ rv a q m ≤ 999 := fun m hm => by
    rcases m with _ | m
    · exact ⟨Int.le_refl 0, (by decide : (0 : Int) ≤ 999)⟩
    · have := (num_eq (a := a) (q := q) m (fun j j1 j2 => hd j j1 (by omega))).2.1
      omega
  unfold f_M_advances_71
  refine lp_ind (fun s => 200 - (gI s 0 4).toNatClampNeg) (fun s => ∃ m, q + m ≤ e ∧ eqA τ s ∧ gI s 0 4 = iz ((q + m : Nat) : Int) ∧ gI s 0 6 = iz (q : Nat) ∧ gI s 0 7 = iz (rv a q m)) _ (fun s hs => ?_) _ ⟨0, by omega, eqA.rfl, k4, k6, k7⟩ ?_
  · obtain ⟨m, hm, ea, s4, s6, s7⟩ := hs
    have T' := T.ext ea
    have hl := m_letterAt T' (j := q + m) (by omega)
    obtain ⟨r1, r2⟩ := rvb m hm
    by_cases k : q + m < e
    · left
      have hdm := hd (q + m) (by omega) k
      have ha := (T.2.2 (q + m) (by omega)).1
      rw [if_pos (by omega)] at hl
      have hI := m_inD s (z := (a (q + m) : Int)) (by omega) (by omega)
      unfold dg at hdm
      rw [if_pos (by omega)] at hI
      have r3 : rv a q (m + 1) = if rv a q m ≤ 99 then 10 * rv a q m + a (q + m) - 48 else rv a q m := Eq.refl _
      have fin : ∀ v, f_M_advances_125 s (iz v) = some (.inl (sI (sI s 0 7 (iz v)) 0 4 (iz ((q + (m + 1) : Nat) : Int)))) := fun v => by
        unfold f_M_advances_125
        rw [nm_eq, gI_sI, if_neg (by decide), s4, i1, iz_add, nm_eq]
        rfl
      have done : ∀ v, v = rv a q (m + 1) → ∃ m', q + m' ≤ e ∧ eqA τ (sI (sI s 0 7 (iz v)) 0 4 (iz ((q + (m + 1) : Nat) : Int))) ∧ gI (sI (sI s 0 7 (iz v)) 0 4 (iz ((q + (m + 1) : Nat) : Int))) 0 4 = iz ((q + m' : Nat) : Int) ∧ gI (sI (sI s 0 7 (iz v)) 0 4 (iz ((q + (m + 1) : Nat) : Int))) 0 6 = iz (q : Nat) ∧ gI (sI (sI s 0 7 (iz v)) 0 4 (iz ((q + (m + 1) : Nat) : Int))) 0 7 = iz (rv a q m') := fun v hv => by
        refine ⟨m + 1, by omega, (ea.trans (eqA_s (by omega))).trans (eqA_s (by omega)), ?_, ?_, ?_⟩
        · rw [gI_sI, if_pos ⟨rfl, rfl⟩]
        · rw [gI_sI, if_neg (by decide), gI_sI, if_neg (by decide)]; exact s6
        · rw [gI_sI, if_neg (by decide), gI_sI, if_pos ⟨rfl, rfl⟩, hv]
      have mu : ∀ v, 200 - (gI (sI (sI s 0 7 (iz v)) 0 4 (iz ((q + (m + 1) : Nat) : Int))) 0 4).toNatClampNeg < 200 - (gI s 0 4).toNatClampNeg := fun v => by
        rw [gI_sI, if_pos ⟨rfl, rfl⟩, s4, iz_nat (by omega) (by omega), iz_nat (by omega) (by omega)]
        omega
      by_cases z : rv a q m ≤ 99
      · refine ⟨_, ?_, done (10 * rv a q m + a (q + m) - 48) (by rw [r3, if_pos z]), mu _⟩
        unfold f_M_advances_71_b
        rw [s4, hl, bd_eq, hI, bd_eq, if_neg (by decide), s7, if_pos (by rw [show (99 : Int32) = iz 99 from rfl, iz_le (by omega) (by omega) (by omega) (by omega)]; exact z), s4, hl, bd_eq, i10, iz_mul, iz_add, i48, iz_sub, fin]
      · refine ⟨_, ?_, done (rv a q m) (by rw [r3, if_neg z]), mu _⟩
        unfold f_M_advances_71_b
        rw [s4, hl, bd_eq, hI, bd_eq, if_neg (by decide), s7, if_neg (by rw [show (99 : Int32) = iz 99 from rfl, iz_le (by omega) (by omega) (by omega) (by omega)]; exact z), fin]
    · right
      have em : q + m = e := by omega
      have em2 : m = e - q := by omega
      rw [em] at hl s4
      have hI : f_M_in s (if e < t then iz (a e) else -1) 48 57 = some (0, s) := by
        by_cases y : e < t
        · have ha := (T.2.2 e y).1
          have hnd := hn y
          unfold dg at hnd
          have := m_inD s (z := (a e : Int)) (by omega) (by omega)
          rw [if_neg (by omega)] at this
          rw [if_pos y]
          exact this
        · rw [if_neg y]
          rfl
      have hb : f_M_advances_71_b (iz (a q : Nat)) s = ((f_M_advances_141 s (iz (a q : Nat)) : Option (Int32 × Mm)).map Sum.inr) := by
        unfold f_M_advances_71_b
        rw [s4, hl, bd_eq, hI, bd_eq, if_pos rfl]
      obtain ⟨m', hm'⟩ : ∃ m', m = m' + 1 := ⟨m - 1, by omega⟩
      have hnum := (num_eq (a := a) (q := q) m' (fun j j1 j2 => hd j j1 (by omega))).1
      rw [← hm'] at hnum
      have haq := (T.2.2 q (by omega)).1
      have s2 : f_M_advances_175 s 2 = some (0, sI s 0 5 2) := by unfold f_M_advances_175; rw [nm_eq]
      have s3 : f_M_advances_175 s 4 = some (0, sI s 0 5 4) := by unfold f_M_advances_175; rw [nm_eq]
      have post : ∀ v : Int32, v = (if gd a q (e - q) = true then iz 2 else iz 4) → ∃ τ', ((0 : Int32), sI s 0 5 v) = (0, τ') ∧ eqA τ τ' ∧ gI τ' 0 5 = (if gd a q (e - q) = true then iz 2 else iz 4) ∧ gI τ' 0 6 = iz (q : Nat) ∧ gI τ' 0 7 = iz (rv a q (e - q)) ∧ gI τ' 0 4 = iz (e : Nat) := fun v hv => by
        refine ⟨_, rfl, ea.trans (eqA_s (by omega)), ?_, ?_, ?_, ?_⟩
        · rw [gI_sI, if_pos ⟨rfl, rfl⟩]; exact hv
        · rw [gI_sI, if_neg (by decide)]; exact s6
        · rw [gI_sI, if_neg (by decide), ← em2]; exact s7
        · rw [gI_sI, if_neg (by decide)]; exact s4
      rw [← em2] at post
      rw [hb, ← em2]
      unfold f_M_advances_141 f_M_advances_174 f_M_advances_170
      rw [s7, s4, s6, iz_sub, s2, s3]
      by_cases z1 : rv a q m ≤ 99
      · rw [if_pos (by rw [show (99 : Int32) = iz 99 from rfl, iz_le (by omega) (by omega) (by omega) (by omega)]; exact z1)]
        by_cases z2 : a q = 48
        · rw [if_pos (by rw [z2]; rfl)]
          by_cases z3 : (e : Int) - q ≤ 1
          · rw [if_pos (by rw [i1, iz_le (by omega) (by omega) (by omega) (by omega)]; exact z3)]
            exact ⟨_, rfl, post 2 (by rw [if_pos (hnum.mpr ⟨z1, Or.inr (by omega)⟩)]; rfl)⟩
          · rw [if_neg (by rw [i1, iz_le (by omega) (by omega) (by omega) (by omega)]; exact z3)]
            exact ⟨_, rfl, post 4 (by rw [if_neg (fun y => by have := (hnum.mp y).2; omega)]; rfl)⟩
        · rw [if_neg (by rw [i48, iz_eq (by omega) (by omega) (by omega) (by omega)]; omega)]
          exact ⟨_, rfl, post 2 (by rw [if_pos (hnum.mpr ⟨z1, Or.inl z2⟩)]; rfl)⟩
      · rw [if_neg (by rw [show (99 : Int32) = iz 99 from rfl, iz_le (by omega) (by omega) (by omega) (by omega)]; exact z1)]
        exact ⟨_, rfl, post 4 (by rw [if_neg (fun y => z1 (hnum.mp y).1)]; rfl)⟩
  · omega
theorem m_advances {τ : Mm} {a : Nat → Nat} {t n i : Nat} {Q G : Nat → Nat} (T : TXm τ a t) (C : CH a t n Q G) (hi : i ≤ n) (k4 : gI τ 0 4 = iz (G i : Nat)) : ∃ z, f_M_advances τ = some z ∧ ∃ τ', z = (0, τ') ∧ eqA τ τ' ∧ RK τ' a t n Q G i := by
  have ht := T.1
  have hpl : G i ≤ pl t n Q i ∧ pl t n Q i ≤ t ∧ ∀ j, G i ≤ j → j < pl t n Q i → a j = 32 := by
    unfold pl
    by_cases e : i = n
    · rw [if_pos e, e]
      exact ⟨C.2.2.2, Nat.le_refl _, C.2.2.1⟩
    · rw [if_neg e]
      obtain ⟨c1, c2, c3, c4, -⟩ := C.2.1 i (by omega)
      exact ⟨c1, by omega, c4⟩
  unfold f_M_advances f_M_advances_0
  refine lp_ind (fun s => 200 - (gI s 0 4).toNatClampNeg) (fun s => ∃ p, G i ≤ p ∧ p ≤ pl t n Q i ∧ eqA τ s ∧ gI s 0 4 = iz (p : Nat)) _ (fun s hs => ?_) _ ⟨G i, Nat.le_refl _, hpl.1, eqA.rfl, k4⟩ ?_
  · obtain ⟨p, p1, p2, ea, s4⟩ := hs
    have T' := T.ext ea
    have hl := m_letterAt T' (j := p) (by omega)
    by_cases k : p < pl t n Q i
    · left
      have h32 := hpl.2.2 p p1 k
      rw [if_pos (by omega)] at hl
      refine ⟨sI s 0 4 (iz ((p + 1 : Nat) : Int)), ?_, ⟨p + 1, by omega, by omega, ea.trans (eqA_s (by omega)), by rw [gI_sI, if_pos ⟨rfl, rfl⟩]⟩, ?_⟩
      · unfold f_M_advances_0_b
        rw [s4, hl, bd_eq, if_pos (by rw [h32]; rfl), s4, i1, iz_add, nm_eq]
        rfl
      · rw [gI_sI, if_pos ⟨rfl, rfl⟩, s4, iz_nat (by omega) (by omega), iz_nat (by omega) (by omega)]
        omega
    · right
      have ep : p = pl t n Q i := by omega
      have ea1 := ea.trans (eqA_s (k := 6) (v := iz (p : Nat)) (by omega))
      have hl2 := m_letterAt (T.ext ea1) (j := p) (by omega)
      have g14 : gI (sI s 0 6 (iz (p : Nat))) 0 4 = iz (p : Nat) := by rw [gI_sI, if_neg (by decide)]; exact s4
      have h32 : ∀ y : p < t, a p ≠ 32 := fun y => by
        by_cases e : i = n
        · unfold pl at ep
          rw [if_pos e] at ep
          omega
        · unfold pl at ep
          rw [if_neg e] at ep
          obtain ⟨c1, c2, c3, c4, c5⟩ := C.2.1 i (by omega)
          rcases c5 with ⟨b1, -⟩ | ⟨-, b2, -⟩
          · have := b1 (Q i) (Nat.le_refl _) c2
            rw [← ep] at this
            unfold dg at this
            omega
          · rw [ep]; exact b2
      have hb : f_M_advances_0_b s = ((f_M_advances_26 s : Option (Int32 × Mm)).map Sum.inr) := by
        unfold f_M_advances_0_b
        by_cases y : p < t
        · have := h32 y
          have := (T.2.2 p y).1
          rw [s4, hl, if_pos y, bd_eq, if_neg (by rw [i32, iz_eq (by omega) (by omega) (by omega) (by omega)]; omega)]
        · rw [s4, hl, if_neg y, bd_eq, if_neg (by decide)]
      rw [hb]
      unfold f_M_advances_26
      rw [s4, nm_eq, g14, hl2, bd_eq]
      by_cases e : i = n
      · have ept : p = t := by rw [ep]; unfold pl; rw [if_pos e]
        rw [if_neg (show ¬ p < t by omega), if_pos (by decide), nm_eq]
        refine ⟨_, rfl, _, rfl, ea1.trans (eqA_s (by omega)), ?_, ?_, fun z => ?_, fun z => ?_, fun z => by omega⟩
        · rw [gI_sI, if_pos ⟨rfl, rfl⟩]
          unfold tk kd
          rw [if_pos e, if_pos rfl, i0]
        · rw [gI_sI, if_neg (by decide), gI_sI, if_pos ⟨rfl, rfl⟩, ep]
        · unfold tk at z; rw [if_pos e] at z; omega
        · unfold tk at z; rw [if_pos e] at z; omega
      · have epq : p = Q i := by rw [ep]; unfold pl; rw [if_neg e]
        obtain ⟨c1, c2, c3, c4, c5⟩ := C.2.1 i (by omega)
        have hpt : p < t := by omega
        have hap := (T.2.2 p hpt).1
        rw [if_pos hpt, if_neg (by rw [i0, iz_lt (by omega) (by omega) (by omega) (by omega)]; omega), m_inD _ (by omega) (by omega), bd_eq]
        by_cases d : dg a p
        · rw [if_pos (show 48 ≤ (a p : Int) ∧ (a p : Int) ≤ 57 by unfold dg at d; omega), if_neg (by decide), nm_eq]
          have c6 : (∀ j, Q i ≤ j → j < G (i + 1) → dg a j) ∧ (G (i + 1) < t → ¬ dg a (G (i + 1))) := by
            rcases c5 with c | ⟨c, -⟩
            · exact c
            · rw [epq] at d; exact absurd d c
          have ea2 := ea1.trans (eqA_s (k := 7) (v := 0) (by omega))
          obtain ⟨_, b1, τ2, rfl, b2, b3, b4, b5, b6⟩ := m_adv71 (T.ext ea2) c2 c3 c6.1 c6.2 (by rw [gI_sI, if_neg (by decide), g14, epq]) (by rw [gI_sI, if_neg (by decide), gI_sI, if_pos ⟨rfl, rfl⟩, epq]) (by rw [gI_sI, if_pos ⟨rfl, rfl⟩]; rfl)
          rw [← epq] at b1
          rw [i0] at b1 ⊢
          rw [b1]
          have hdb : dgb a (Q i) = true := by rw [← epq]; exact dgb_iff.mpr d
          obtain ⟨m, hm⟩ : ∃ m, G (i + 1) = Q i + (m + 1) := ⟨G (i + 1) - Q i - 1, by omega⟩
          obtain ⟨n1, n2, -⟩ := num_eq (a := a) (q := Q i) m (fun j j1 j2 => c6.1 j j1 (by omega))
          have em : G (i + 1) - Q i = m + 1 := by omega
          refine ⟨_, rfl, τ2, rfl, ea2.trans b2, ?_, ?_, fun z => ?_, fun z => ?_, fun _ => b6⟩
          · rw [b3]
            unfold tk
            rw [if_neg e, if_pos hdb]
            by_cases g : gd a (Q i) (G (i + 1) - Q i) = true
            · rw [if_pos g, if_pos g]; rfl
            · rw [if_neg g, if_neg g]; rfl
          · rw [b4]; unfold pl; rw [if_neg e]
          · unfold tk at z
            rw [if_neg e, if_pos hdb] at z
            by_cases g : gd a (Q i) (G (i + 1) - Q i) = true
            · rw [b5]
              unfold nv
              rw [em] at g ⊢
              have := (n1.mp g).1
              congr 1
              omega
            · rw [if_neg g] at z; omega
          · unfold tk at z
            rw [if_neg e, if_pos hdb] at z
            by_cases g : gd a (Q i) (G (i + 1) - Q i) = true
            · rw [if_pos g] at z; omega
            · rw [if_neg g] at z; omega
        · have hdb : ¬ dgb a (Q i) = true := fun z => d (by rw [epq]; exact dgb_iff.mp z)
          have c7 : G (i + 1) = Q i + 1 := by
            rcases c5 with ⟨c, -⟩ | ⟨-, -, c⟩
            · exact absurd (c (Q i) (Nat.le_refl _) c2) (by rw [← epq]; exact d)
            · exact c
          have etk : tk a n Q G i = a p := by unfold tk; rw [if_neg e, if_neg hdb, epq]
          rw [if_neg (show ¬ (48 ≤ (a p : Int) ∧ (a p : Int) ≤ 57) by unfold dg at d; omega), if_pos rfl, g14, i1, iz_add, nm_eq, nm_eq, ← i1]
          have fin : ∀ v : Int32, v = iz (kd (a p)) → ∃ r, Option.map Sum.inr (f_M_advances_219 (sI (sI (sI s 0 6 (iz (p : Nat))) 0 4 (iz ((p : Int) + 1))) 0 7 (iz (a p : Nat))) v) = some (Sum.inr (α := Mm) r) ∧ ∃ τ', r = (0, τ') ∧ eqA τ τ' ∧ RK τ' a t n Q G i := fun v hv => by
            unfold f_M_advances_219
            rw [nm_eq]
            refine ⟨_, rfl, _, rfl, ((ea1.trans (eqA_s (by omega))).trans (eqA_s (by omega))).trans (eqA_s (by omega)), ?_, ?_, fun z => ?_, fun z => ?_, fun _ => ?_⟩
            · rw [gI_sI, if_pos ⟨rfl, rfl⟩, etk]; exact hv
            · rw [gI_sI, if_neg (by decide), gI_sI, if_neg (by decide), gI_sI, if_neg (by decide), gI_sI, if_pos ⟨rfl, rfl⟩, ep]
            · rw [etk] at z; omega
            · rw [gI_sI, if_neg (by decide), gI_sI, if_pos ⟨rfl, rfl⟩, etk]
            · rw [gI_sI, if_neg (by decide), gI_sI, if_neg (by decide), gI_sI, if_pos ⟨rfl, rfl⟩, c7, epq]; rfl
          by_cases q59 : a p = 59
          · rw [if_pos (by rw [q59]; rfl)]
            exact fin 3 (by rw [q59]; rfl)
          · rw [if_neg (by rw [i59, iz_eq (by omega) (by omega) (by omega) (by omega)]; omega), m_isLetter _ (by omega) (by omega), bd_eq]
            by_cases ql : (a p : Int) = 119 ∨ (a p : Int) = 114 ∨ (a p : Int) = 120 ∨ (a p : Int) = 98 ∨ (a p : Int) = 107 ∨ (a p : Int) = 106
            · rw [if_pos ql, if_neg (by decide)]
              refine fin 1 ?_
              unfold kd
              rw [if_neg (by omega), if_neg (by omega), if_neg (by omega), if_neg (by omega), if_pos ql, i1]
            · rw [if_neg ql, if_pos rfl]
              refine fin 4 ?_
              unfold kd
              rw [if_neg (by omega), if_neg (by omega), if_neg (by omega), if_neg (by omega), if_neg ql, i4]
  · omega
