-- the contest in memory
def eqC (σ σ' : Mm) : Prop := (∀ c k, ¬ (c = 21 ∧ k = 4) → gI σ' c k = gI σ c k) ∧ (∀ c, (c < 22 ∨ 25 < c) → gA σ' c = gA σ c) ∧ (∀ c k, gR σ' c k = gR σ c k) ∧ gJ σ' = gJ σ
theorem eqC.rfl {σ : Mm} : eqC σ σ := ⟨fun _ _ _ => Eq.refl _, fun _ _ => Eq.refl _, fun _ _ => Eq.refl _, Eq.refl _⟩
theorem eqC.trans {a b c : Mm} (h : eqC a b) (k : eqC b c) : eqC a c := ⟨fun x y z => (k.1 x y z).trans (h.1 x y z), fun x z => (k.2.1 x z).trans (h.2.1 x z), fun x z => (k.2.2.1 x z).trans (h.2.2.1 x z), k.2.2.2.trans h.2.2.2⟩
theorem eqC.eqT {a b : Mm} (h : eqC a b) : eqT a b := by
  refine ⟨fun c k hc => h.1 c k (fun ⟨z, _⟩ => ?_), fun c hc => h.2.1 c ?_, h.2.2.1 0 2, h.2.2.1 0 3, h.2.2.2, fun z => ?_⟩
  · rw [z] at hc; cases hc
  · by_cases q1 : c < 22
    · exact Or.inl q1
    by_cases q2 : 25 < c
    · exact Or.inr q2
    rcases (show c = 22 ∨ c = 23 ∨ c = 24 ∨ c = 25 by omega) with rfl | rfl | rfl | rfl <;> cases hc
  · unfold Rparts
    rw [h.2.2.1, h.2.2.1]
    exact z
theorem YG.eqC {σ σ' : Mm} (e : eqC σ σ') {r : Nat} (hr : r = 11 ∨ r = 13) {g : Nat → Bool} {lim lea : Int} {tl : Nat → Int} (G : YG σ r g lim lea tl) : YG σ' r g lim lea tl := by
  obtain ⟨g1, g2, g3, g4⟩ := G
  refine ⟨?_, ?_, fun c hc => ?_, fun c w hc hw => ?_⟩
  · rw [e.1 r 2 (by omega)]; exact g1
  · rw [e.1 r 3 (by omega)]; exact g2
  · rw [e.2.1 (gTl r) (by rcases hr with rfl | rfl <;> decide)]; exact g3 c hc
  · rw [e.2.1 (r + 1) (by omega)]; exact g4 c w hc hw
theorem eqC_aSet (σ : Mm) (s q : Nat) (x n : Int) (v : Int32) : eqC σ (aSet (sA σ 24 s v) s q x n) := by
  unfold aSet
  refine ⟨fun c k h => ?_, fun c h => ?_, fun c k => Eq.refl _, Eq.refl _⟩
  · rw [gI_sI, if_neg h, gI_sA, gI_sA, gI_sA, gI_sA]
  · rw [gA_sI, gA_sA, if_neg (by omega), gA_sA, if_neg (by omega), gA_sA, if_neg (by omega), gA_sA, if_neg (by omega)]
theorem eqC_24 (σ : Mm) (s : Nat) (v : Int32) : eqC σ (sA σ 24 s v) := by
  refine ⟨fun c k h => Eq.refl _, fun c h => ?_, fun c k => Eq.refl _, Eq.refl _⟩
  rw [gA_sA, if_neg (by omega)]
def CS (V : Nat → Prop) (T : Nat → Nat → Option Nat) (i q : Nat) (σ : Mm) (W L : Nat → Int) (Q : Nat → Nat) (Ct : Nat → Nat → Bool) : Prop := LkC (gA σ 22) (gA σ 23) W L ∧ (∀ s, V s → s < i → W s = 0 → gA σ 24 s = iz (sm (unC T Ct s) 4 : Nat)) ∧ (∀ a, a < q → gA σ 25 a = iz (Q a : Nat)) ∧ gI σ 21 4 = iz q
theorem CS.settle {V : Nat → Prop} {T : Nat → Nat → Option Nat} {i i' q : Nat} {σ : Mm} {W L : Nat → Int} {Q : Nat → Nat} {Ct : Nat → Nat → Bool} {s : Nat} {x n : Int} (C : CS V T i q σ W L Q Ct) (v : Int32) (hx : 0 ≤ x ∧ x ≤ 2) (hx0 : x ≠ 0) (hn : 0 ≤ n ∧ n ≤ 700) (hi : ∀ u, V u → u < i' → u ≠ s → u < i) : ∃ W' L' Q', Put s x n W L W' L' ∧ Q' q = s ∧ (∀ a, a ≠ q → Q' a = Q a) ∧ CS V T i' (q + 1) (aSet (sA σ 24 s v) s q x n) W' L' Q' Ct := by
  obtain ⟨c1, c2, c3, c4⟩ := C
  obtain ⟨W', w1, w2⟩ : ∃ W' : Nat → Int, W' s = x ∧ ∀ j, j ≠ s → W' j = W j := ⟨fun j => if j = s then x else W j, if_pos rfl, fun j hj => if_neg hj⟩
  obtain ⟨L', l1, l2⟩ : ∃ L' : Nat → Int, L' s = n ∧ ∀ j, j ≠ s → L' j = L j := ⟨fun j => if j = s then n else L j, if_pos rfl, fun j hj => if_neg hj⟩
  obtain ⟨Q', q1, q2⟩ : ∃ Q' : Nat → Nat, Q' q = s ∧ ∀ a, a ≠ q → Q' a = Q a := ⟨fun a => if a = q then s else Q a, if_pos rfl, fun a ha => if_neg ha⟩
  refine ⟨W', L', Q', ⟨w1, l1, fun j hj => ⟨w2 j hj, l2 j hj⟩⟩, q1, q2, fun j hj => ?_, fun u hu h1 h2 => ?_, fun a ha => ?_, ?_⟩
  · unfold aSet
    rw [gA_sI, gA_sA, if_neg (by decide), gA_sA, if_neg (by decide), gA_sA, if_pos rfl, gA_sA, if_neg (by decide), gA_sI, gA_sA, if_neg (by decide), gA_sA, if_pos rfl, gA_sA, if_neg (by decide), gA_sA, if_neg (by decide)]
    by_cases e : j = s
    · rw [e, pk_us, pk_us, w1, l1]
      exact ⟨rfl, hx, fun _ => ⟨rfl, hn⟩⟩
    · rw [pk_un e, pk_un e, w2 j e, l2 j e]
      exact c1 j hj
  · by_cases e : u = s
    · rw [e, w1] at h2; exact absurd h2 hx0
    · rw [w2 u e] at h2
      unfold aSet
      rw [gA_sI, gA_sA, if_neg (by decide), gA_sA, if_neg (by decide), gA_sA, if_neg (by decide), gA_sA, if_pos rfl, pk_un e]
      exact c2 u hu (hi u hu h1 e) h2
  · unfold aSet
    rw [gA_sI, gA_sA, if_pos rfl]
    by_cases e : a = q
    · rw [e, pk_us, q1]
    · rw [pk_un e, q2 a e, gA_sA, if_neg (by decide), gA_sA, if_neg (by decide), gA_sA, if_neg (by decide)]
      exact c3 a (by omega)
  · unfold aSet
    rw [gI_sI, if_pos ⟨rfl, rfl⟩]
theorem CS.put24 {V : Nat → Prop} {T : Nat → Nat → Option Nat} {i i' q : Nat} {σ : Mm} {W L : Nat → Int} {Q : Nat → Nat} {Ct Ct' : Nat → Nat → Bool} {s : Nat} {v : Int32} (C : CS V T i q σ W L Q Ct) (h1 : W s = 0 → v = iz (sm (unC T Ct' s) 4 : Nat)) (h2 : ∀ u, u ≠ s → unC T Ct' u = unC T Ct u) (hi : ∀ u, V u → u < i' → u ≠ s → u < i) : CS V T i' q (sA σ 24 s v) W L Q Ct' := by
  obtain ⟨c1, c2, c3, c4⟩ := C
  refine ⟨?_, fun u hu a1 a2 => ?_, fun a ha => ?_, ?_⟩
  · rw [gA_sA, if_neg (by decide), gA_sA, if_neg (by decide)]
    exact c1
  · rw [gA_sA, if_pos rfl]
    by_cases e : u = s
    · rw [e, pk_us]
      rw [e] at a2
      exact h1 a2
    · rw [pk_un e, h2 u e]
      exact c2 u hu (hi u hu a1 e) a2
  · rw [gA_sA, if_neg (by decide)]
    exact c3 a ha
  · rw [gI_sA]; exact c4
theorem CS.mark {V : Nat → Prop} {T : Nat → Nat → Option Nat} {i q : Nat} {σ : Mm} {W L : Nat → Int} {Q : Nat → Nat} {Ct : Nat → Nat → Bool} {t s : Nat} (C : CS V T i q σ W L Q Ct) (h : W s ≠ 0) : CS V T i q σ W L Q (mk Ct t s) := by
  obtain ⟨c1, c2, c3, c4⟩ := C
  refine ⟨c1, fun u hu a1 a2 => ?_, c3, c4⟩
  have e : u ≠ s := fun z => h (by rw [← z]; exact a2)
  rw [show unC T (mk Ct t s) u = unC T Ct u from funext fun w => unC_ne e w]
  exact c2 u hu a1 a2
theorem cz_pos {W : Nat → Int} {s : Nat} (h : W s = 0) (k : Nat) (hk : s < k) : 0 < cz W k := by
  induction k with
  | zero => omega
  | succ k ih =>
    unfold cz
    by_cases e : k = s
    · rw [e, if_pos h]; omega
    · have := ih (by omega)
      omega
theorem cz_all (k : Nat) : cz (fun _ => 0) k = k := by
  induction k with
  | zero => rfl
  | succ k ih => unfold cz; rw [ih, if_pos rfl]
/-- the whole: memory, queue, states -/
def FI (g : Nat → Bool) (lim lea : Int) (tl : Nat → Int) (i h q : Nat) (D : Int) (σ : Mm) (W L : Nat → Int) (Q : Nat → Nat) (Ct : Nat → Nat → Bool) : Prop := CS (VV g lim) (TT g lim lea tl) i q σ W L Q Ct ∧ QI (VV g lim) (TT g lim lea tl) h q D W L Q Ct ∧ ∀ u, VV g lim u → LI (TT g lim lea tl) (RR g lim lea tl) i W L Ct u
theorem FI.q {g : Nat → Bool} {lim lea : Int} {tl : Nat → Int} {i h q : Nat} {D : Int} {σ : Mm} {W L : Nat → Int} {Q : Nat → Nat} {Ct : Nat → Nat → Bool} (F : FI g lim lea tl i h q D σ W L Q Ct) : q ≤ 680 ∧ (∀ s, s < 680 → W s = 0 → q < 680) ∧ (∀ u, VV g lim u → W u ≠ 0 → L u ≤ D + 1) := by
  obtain ⟨-, ⟨q1, q2, q3, q4, q5, -⟩, -⟩ := F
  refine ⟨by omega, fun s hs h0 => ?_, fun u hu h0 => ?_⟩
  · have := cz_pos h0 680 hs
    omega
  · obtain ⟨a, a1, a2⟩ := q3 u hu h0
    rw [← a2]
    exact q5 a a1
/-- settling one state, whole -/
theorem FI.settle {g : Nat → Bool} {lim lea : Int} {tl : Nat → Int} {i i' h q : Nat} {D : Int} {σ : Mm} {W L : Nat → Int} {Q : Nat → Nat} {Ct : Nat → Nat → Bool} {s : Nat} {x n : Int} (F : FI g lim lea tl i h q D σ W L Q Ct) (v : Int32) (hh : h ≤ q) (hs : VV g lim s) (h0 : W s = 0) (hD : 0 ≤ D ∧ D ≤ 699) (hn : n = 0 ∨ n = D + 1) (hn2 : D ≤ n) (ii : i ≤ i') (hi : s < i') (hi2 : ∀ u, VV g lim u → i ≤ u → u < i' → u = s) (hx : (x = ((s % 2 : Nat) : Int) + 1 ∧ B1 (TT g lim lea tl) (RR g lim lea tl) W L s n) ∨ (x = 2 - ((s % 2 : Nat) : Int) ∧ B2 (TT g lim lea tl) (RR g lim lea tl) W L s n)) :
    ∃ W' L' Q', Put s x n W L W' L' ∧ Q' q = s ∧ (∀ a, a ≠ q → Q' a = Q a) ∧ FI g lim lea tl i' h (q + 1) D (aSet (sA σ 24 s v) s q x n) W' L' Q' Ct := by
  obtain ⟨f1, f2, f3⟩ := F.q
  obtain ⟨C, J, I⟩ := F
  have hx1 : 1 ≤ x ∧ x ≤ 2 := by rcases hx with ⟨k, -⟩ | ⟨k, -⟩ <;> omega
  obtain ⟨W', L', Q', P, e1, e2, C'⟩ := C.settle (i' := i') (n := n) v (x := x) (by omega) (by omega) (by omega) (fun u hu a1 a2 => by
    by_cases z : u < i
    · exact z
    · exact absurd (hi2 u hu (by omega) a1) a2)
  refine ⟨W', L', Q', P, e1, e2, C', J.settle hh P h0 hs.2 hs (by omega) hn hD.1 e1 e2, LI.settle I (fun u hu hw => ?_) P h0 (by omega) ii hi hi2 hx⟩
  have := f3 u hu hw
  omega
