-- the queue of settled states
def QI (V : Nat → Prop) (T : Nat → Nat → Option Nat) (h q : Nat) (D : Int) (W L : Nat → Int) (Q : Nat → Nat) (Ct : Nat → Nat → Bool) : Prop := (∀ a, a < q → V (Q a) ∧ W (Q a) ≠ 0) ∧ (∀ a b, a < b → b < q → Q a ≠ Q b) ∧ (∀ s, V s → W s ≠ 0 → ∃ a, a < q ∧ Q a = s) ∧ q + cz W 680 = 680 ∧ (∀ a, a < q → L (Q a) ≤ D + 1) ∧ (∀ a, a < q → h ≤ a → L (Q a) = 0 ∨ D ≤ L (Q a)) ∧ (∀ a b, h ≤ a → a < b → b < q → L (Q a) = 0 ∨ L (Q b) = 0 ∨ L (Q a) ≤ L (Q b)) ∧ (∀ a, a < h → a < q → L (Q a) ≤ D) ∧ (∀ a, a < h → a < q → ∀ s w, V s → w < 4 → T s w = some (Q a) → Ct (Q a) s = true) ∧ (∀ t s, Ct t s = true → ∃ a, a < q ∧ a ≤ h ∧ Q a = t)
theorem QI.settle {V : Nat → Prop} {T : Nat → Nat → Option Nat} {h q : Nat} {D : Int} {W L W' L' : Nat → Int} {Q Q' : Nat → Nat} {Ct : Nat → Nat → Bool} {s : Nat} {x n : Int} (I : QI V T h q D W L Q Ct) (hh : h ≤ q) (P : Put s x n W L W' L') (h0 : W s = 0) (hs : s < 680) (hV : V s) (hx : x ≠ 0) (hn : n = 0 ∨ n = D + 1) (hD : 0 ≤ D) (hQ : Q' q = s) (hQ' : ∀ a, a ≠ q → Q' a = Q a) : QI V T h (q + 1) D W' L' Q' Ct := by
  obtain ⟨q1, q2, q3, q4, q5, q6, q7, q8, q9, q10⟩ := I
  obtain ⟨P1, P2, P3⟩ := id P
  have old : ∀ a, a < q → Q' a = Q a ∧ Q a ≠ s ∧ W' (Q a) = W (Q a) ∧ L' (Q a) = L (Q a) := by
    intro a ha
    have e : Q a ≠ s := fun z => (q1 a ha).2 (by rw [z]; exact h0)
    exact ⟨hQ' a (by omega), e, (P3 _ e).1, (P3 _ e).2⟩
  refine ⟨fun a ha => ?_, fun a b ab hb => ?_, fun u hu hw => ?_, ?_, fun a ha => ?_, fun a ha ha2 => ?_, fun a b a1 ab hb => ?_, fun a ha hb => ?_, fun a ha hb u w hu hw ht => ?_, fun t u hc => ?_⟩
  · by_cases e : a = q
    · rw [e, hQ, P1]; exact ⟨hV, hx⟩
    · obtain ⟨e1, -, e3, -⟩ := old a (by omega)
      rw [e1, e3]; exact q1 a (by omega)
  · by_cases e : b = q
    · rw [e, hQ, (old a (by omega)).1]
      exact (old a (by omega)).2.1
    · rw [(old a (by omega)).1, (old b (by omega)).1]
      exact q2 a b ab (by omega)
  · by_cases e : u = s
    · exact ⟨q, by omega, by rw [hQ, e]⟩
    · obtain ⟨a, a1, a2⟩ := q3 u hu (by rw [← (P3 u e).1]; exact hw)
      exact ⟨a, by omega, by rw [(old a a1).1, a2]⟩
  · have := cz_put P h0 hx 680 hs
    omega
  · by_cases e : a = q
    · rw [e, hQ, P2]; omega
    · obtain ⟨e1, -, -, e4⟩ := old a (by omega)
      rw [e1, e4]; exact q5 a (by omega)
  · by_cases e : a = q
    · rw [e, hQ, P2]; omega
    · obtain ⟨e1, -, -, e4⟩ := old a (by omega)
      rw [e1, e4]; exact q6 a (by omega) ha2
  · obtain ⟨e1, -, -, e4⟩ := old a (by omega)
    by_cases e : b = q
    · have := q5 a (by omega)
      rw [e, hQ, P2, e1, e4]; omega
    · obtain ⟨f1, -, -, f4⟩ := old b (by omega)
      rw [e1, e4, f1, f4]; exact q7 a b a1 ab (by omega)
  · obtain ⟨e1, -, -, e4⟩ := old a (by omega)
    rw [e1, e4]; exact q8 a ha (by omega)
  · obtain ⟨e1, -, -, -⟩ := old a (by omega)
    rw [e1] at ht ⊢
    exact q9 a ha (by omega) u w hu hw ht
  · obtain ⟨a, a1, a2, a3⟩ := q10 t u hc
    exact ⟨a, by omega, a2, by rw [(old a a1).1, a3]⟩
theorem QI.mark {V : Nat → Prop} {T : Nat → Nat → Option Nat} {h q : Nat} {D : Int} {W L : Nat → Int} {Q : Nat → Nat} {Ct : Nat → Nat → Bool} {t s : Nat} (I : QI V T h q D W L Q Ct) (hh : h < q) (ht : Q h = t) : QI V T h q D W L Q (mk Ct t s) := by
  obtain ⟨q1, q2, q3, q4, q5, q6, q7, q8, q9, q10⟩ := I
  refine ⟨q1, q2, q3, q4, q5, q6, q7, q8, fun a ha hb u w hu hw hx => (mk_iff ..).mpr (Or.inr (q9 a ha hb u w hu hw hx)), fun t' u hc => ?_⟩
  rcases (mk_iff ..).mp hc with ⟨e, -⟩ | e
  · exact ⟨h, hh, Nat.le_refl _, by rw [ht, e]⟩
  · exact q10 t' u e
theorem QI.head {V : Nat → Prop} {T : Nat → Nat → Option Nat} {h q : Nat} {D : Int} {W L : Nat → Int} {Q : Nat → Nat} {Ct : Nat → Nat → Bool} (I : QI V T h q D W L Q Ct) (hh : h < q) (hD : 0 ≤ D) (hL : 0 ≤ L (Q h)) : ∃ D', QI V T h q D' W L Q Ct ∧ (L (Q h) = 0 ∨ L (Q h) = D') ∧ D ≤ D' ∧ D' ≤ D + 1 := by
  by_cases e : L (Q h) = 0
  · exact ⟨D, I, Or.inl e, by omega, by omega⟩
  · obtain ⟨q1, q2, q3, q4, q5, q6, q7, q8, q9, q10⟩ := I
    have b1 := q5 h hh
    have b2 := q6 h hh (Nat.le_refl _)
    refine ⟨L (Q h), ⟨q1, q2, q3, q4, fun a ha => ?_, fun a ha ha2 => ?_, q7, fun a ha hb => ?_, q9, q10⟩, Or.inr rfl, by omega, by omega⟩
    · have := q5 a ha; omega
    · by_cases e2 : a = h
      · rw [e2]; exact Or.inr (Int.le_refl _)
      · have := q7 h a (Nat.le_refl _) (by omega) ha
        omega
    · have := q8 a ha hb; omega
theorem QI.done {V : Nat → Prop} {T : Nat → Nat → Option Nat} {h q : Nat} {D : Int} {W L : Nat → Int} {Q : Nat → Nat} {Ct : Nat → Nat → Bool} (I : QI V T h q D W L Q Ct) (hh : h < q) (hL : L (Q h) ≤ D) (hc : ∀ s w, V s → w < 4 → T s w = some (Q h) → Ct (Q h) s = true) : QI V T (h + 1) q D W L Q Ct := by
  obtain ⟨q1, q2, q3, q4, q5, q6, q7, q8, q9, q10⟩ := I
  refine ⟨q1, q2, q3, q4, q5, fun a ha hb => q6 a ha (by omega), fun a b a1 => q7 a b (by omega), fun a ha hb => ?_, fun a ha hb => ?_, fun t s ht => ?_⟩
  · by_cases e : a = h
    · rw [e]; exact hL
    · exact q8 a (by omega) hb
  · by_cases e : a = h
    · rw [e]; exact hc
    · exact q9 a (by omega) hb
  · obtain ⟨a, a1, a2, a3⟩ := q10 t s ht
    exact ⟨a, a1, by omega, a3⟩
theorem mvA_ge {V : Nat → Prop} {T : Nat → Nat → Option Nat} {R : Nat → Nat → Nat} {W L : Nat → Int} (hT : ∀ s w t, V s → w < 4 → T s w = some t → V t) (hL : ∀ s, V s → 0 ≤ L s) {s w : Nat} {x y : Int} (hs : V s) (hw : w < 4) (h : mvA T R W L s w = some (x, y)) : 0 ≤ y := by
  unfold mvA at h
  rcases hu : T s w with _ | t
  · rw [hu] at h
    dsimp only at h
    by_cases z : R s w = 0
    · rw [if_pos z] at h; cases h
    · rw [if_neg z] at h
      have := congrArg Prod.snd (Option.some.inj h)
      dsimp only at this
      omega
  · rw [hu] at h
    dsimp only at h
    have := congrArg Prod.snd (Option.some.inj h)
    have := hL t (hT s w t hs hw hu)
    dsimp only at *
    omega
/-- what has a push into it is not of length 0 -/
theorem LI.pos {V : Nat → Prop} {T : Nat → Nat → Option Nat} {R : Nat → Nat → Nat} {i : Nat} {W L : Nat → Int} {Ct : Nat → Nat → Bool} (hT : ∀ s w t, V s → w < 4 → T s w = some t → V t) (hS : ∀ s w t, V s → w < 4 → T s w = some t → ∃ u, u < 4 ∧ ∀ W L, mvA T R W L t u ≠ none) (I : ∀ u, V u → LI T R i W L Ct u) {s w t : Nat} (hs : V s) (hw : w < 4) (h : T s w = some t) (h0 : W t ≠ 0) : 1 ≤ L t := by
  have hV := hT s w t hs hw h
  have hL : ∀ s, V s → 0 ≤ L s := fun s hs => (I s hs).2.2.1
  obtain ⟨j1, j2, j3, j4, j5, j6⟩ := I t hV
  rcases j1 with k | k | k
  · exact absurd k h0
  · obtain ⟨⟨u, u1, u2⟩, -⟩ := j4 k
    have := mvA_ge hT hL hV u1 u2
    omega
  · rcases (j5 k).2 with ⟨z1, z2⟩ | ⟨u, u1, u2⟩
    · obtain ⟨u, u1, u2⟩ := hS s w t hs hw h
      exact absurd (z2 u u1) (u2 W L)
    · have := mvA_ge hT hL hV u1 u2
      omega
theorem mvA_T {T : Nat → Nat → Option Nat} {R : Nat → Nat → Nat} {W L : Nat → Int} {s w : Nat} {x y : Int} (h : mvA T R W L s w = some (x, y)) : (∃ t, T s w = some t ∧ x = W t ∧ y = L t) ∨ (T s w = none ∧ x = (R s w : Int) ∧ R s w ≠ 0 ∧ y = 0) := by
  unfold mvA at h
  rcases hu : T s w with _ | t
  · rw [hu] at h
    dsimp only at h
    by_cases z : R s w = 0
    · rw [if_pos z] at h; cases h
    · rw [if_neg z] at h
      have e1 := congrArg Prod.fst (Option.some.inj h)
      have e2 := congrArg Prod.snd (Option.some.inj h)
      exact Or.inr ⟨rfl, e1.symm, z, e2.symm⟩
  · rw [hu] at h
    dsimp only at h
    have e1 := congrArg Prod.fst (Option.some.inj h)
    have e2 := congrArg Prod.snd (Option.some.inj h)
    exact Or.inl ⟨t, rfl, e1.symm, e2.symm⟩
/-- the head passes an edge back to a state that isn't settled, and settles it -/
theorem pass_B {V : Nat → Prop} {T : Nat → Nat → Option Nat} {R : Nat → Nat → Nat} {h q i : Nat} {D : Int} {W L : Nat → Int} {Q : Nat → Nat} {Ct : Nat → Nat → Bool} {t s v : Nat} (hT : ∀ s w t, V s → w < 4 → T s w = some t → V t) (hS : ∀ s w t, V s → w < 4 → T s w = some t → ∃ u, u < 4 ∧ ∀ W L, mvA T R W L t u ≠ none) (hR : ∀ s w, R s w < 3) (J : QI V T h q D W L Q Ct) (I : ∀ u, V u → LI T R i W L Ct u) (hh : h < q) (ht : Q h = t) (hL : L t = D) (hs : V s) (hsi : s < i) (h0 : W s = 0) (hv : v < 4) (h1 : T s v = some t) (h2 : Ct t s = false) (hset : W t = ((s % 2 : Nat) : Int) + 1 ∨ sm (unC T Ct s) 4 = 1) : (W t = ((s % 2 : Nat) : Int) + 1 ∧ B1 T R W L s (L t + 1)) ∨ (W t = 2 - ((s % 2 : Nat) : Int) ∧ B2 T R W L s (L t + 1)) := by
  obtain ⟨q1, q2, q3, q4, q5, q6, q7, q8, q9, q10⟩ := J
  obtain ⟨a1, a2, a3⟩ := (I s hs).2.2.2.2.2 hsi h0
  have hVt := (q1 h hh).1
  have hWt := (q1 h hh).2
  rw [ht] at hVt hWt
  have hm : mvA T R W L s v = some (W t, L t) := by unfold mvA; rw [h1]
  have hL1 : L t + 1 - 1 = L t := by omega
  by_cases hx2 : W t = ((s % 2 : Nat) : Int) + 1
  · left
    refine ⟨hx2, ⟨v, hv, by rw [hm, hx2, hL1]⟩, fun w y w1 w2 => ?_⟩
    rcases mvA_T w2 with ⟨t', b1, b2, b3⟩ | ⟨b1, b2, b3, b4⟩
    · have hV' := hT s w t' hs w1 b1
      have hp := LI.pos hT hS I hs w1 b1 (by omega)
      obtain ⟨a, c1, c2⟩ := q3 t' hV' (by omega)
      by_cases c3 : a < h
      · have := a2 w t' w1 b1 (by rw [← c2]; exact q9 a c3 c1 s w hs w1 (by rw [c2]; exact b1))
        omega
      · have := q6 a c1 (by omega)
        rw [c2] at this
        omega
    · exact absurd (by omega) (a1 w w1)
  · right
    have hs1 : sm (unC T Ct s) 4 = 1 := by
      rcases hset with k | k
      · exact absurd k hx2
      · exact k
    have hx : W t = 2 - ((s % 2 : Nat) : Int) := by
      rcases (I t hVt).1 with k | k | k <;> omega
    refine ⟨hx, fun w x y w1 w2 => ?_, Or.inr ⟨v, hv, by rw [hm, hx, hL1]⟩⟩
    rcases mvA_T w2 with ⟨t', b1, b2, b3⟩ | ⟨b1, b2, b3, b4⟩
    · by_cases e : w = v
      · rw [e, h1] at b1
        have e2 := Option.some.inj b1
        rw [← e2] at b2 b3
        exact ⟨by omega, by omega⟩
      · have c := unC_last hv h1 h2 hs1 w1 e b1
        have c2 := a2 w t' w1 b1 c
        obtain ⟨a, d1, d2, d3⟩ := q10 t' s c
        have d4 : L t' ≤ D := by
          by_cases d5 : a = h
          · rw [← d3, d5, ht, hL]; exact Int.le_refl _
          · rw [← d3]; exact q8 a (by omega) d1
        exact ⟨by omega, by omega⟩
    · have := a1 w w1
      have := hR s w
      have := (I t hVt).2.2.1
      exact ⟨by omega, by omega⟩
/-- at the end: what isn't settled never is -/
theorem end_0 {V : Nat → Prop} {T : Nat → Nat → Option Nat} {R : Nat → Nat → Nat} {q i : Nat} {D : Int} {W L : Nat → Int} {Q : Nat → Nat} {Ct : Nat → Nat → Bool} (hT : ∀ s w t, V s → w < 4 → T s w = some t → V t) (J : QI V T q q D W L Q Ct) (I : ∀ u, V u → LI T R i W L Ct u) {s : Nat} (hs : V s) (hsi : s < i) (h0 : W s = 0) : (∀ w x, w < 4 → mvA T R W L s w ≠ some (((s % 2 : Nat) : Int) + 1, x)) ∧ ∃ w x y, w < 4 ∧ mvA T R W L s w = some (x, y) ∧ x ≠ 2 - ((s % 2 : Nat) : Int) := by
  obtain ⟨q1, q2, q3, q4, q5, q6, q7, q8, q9, q10⟩ := J
  obtain ⟨a1, a2, a3⟩ := (I s hs).2.2.2.2.2 hsi h0
  have cn : ∀ w t, w < 4 → T s w = some t → W t ≠ 0 → Ct t s = true := by
    intro w t w1 w2 w3
    obtain ⟨a, b1, b2⟩ := q3 t (hT s w t hs w1 w2) w3
    rw [← b2]
    exact q9 a b1 b1 s w hs w1 (by rw [b2]; exact w2)
  refine ⟨fun w x w1 w2 => ?_, ?_⟩
  · rcases mvA_T w2 with ⟨t, b1, b2, b3⟩ | ⟨b1, b2, b3, b4⟩
    · have := a2 w t w1 b1 (cn w t w1 b1 (by omega))
      omega
    · exact absurd (by omega) (a1 w w1)
  · obtain ⟨w, w1, w2⟩ := sm_pos a3
    unfold unC at w2
    rcases hu : T s w with _ | t
    · rw [hu] at w2; exact absurd w2 (Nat.lt_irrefl _)
    · rw [hu] at w2
      dsimp only at w2
      have hc : ¬ Ct t s = true := fun z => by rw [if_pos z] at w2; exact absurd w2 (Nat.lt_irrefl _)
      have hW : W t = 0 := by
        by_cases z : W t = 0
        · exact z
        · exact absurd (cn w t w1 hu z) hc
      refine ⟨w, W t, L t, w1, by unfold mvA; rw [hu], by omega⟩
/-- a push into a state whose length isn't the last: counted, nothing settled -/
theorem pass_dec {T : Nat → Nat → Option Nat} {R : Nat → Nat → Nat} {W : Nat → Int} {Ct : Nat → Nat → Bool} {t s v : Nat} (hI : ∀ w u t, w < 4 → u < 4 → T s w = some t → T s u = some t → w = u) (I : L6 T R W Ct s) (hv : v < 4) (h1 : T s v = some t) (h2 : Ct t s = false) (hx : W t = 2 - ((s % 2 : Nat) : Int)) (hsum : sm (unC T Ct s) 4 ≠ 1) : L6 T R W (mk Ct t s) s := by
  obtain ⟨a1, a2, a3⟩ := I
  have e := unC_mk hI hv h1 h2
  refine ⟨a1, fun w t' w1 w2 w3 => ?_, by omega⟩
  rcases (mk_iff ..).mp w3 with ⟨c, -⟩ | c
  · rw [c]; exact hx
  · exact a2 w t' w1 w2 c
