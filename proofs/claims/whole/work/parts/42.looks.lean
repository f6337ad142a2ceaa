-- the first looks
theorem FI.next {g : Nat → Bool} {lim lea : Int} {tl : Nat → Int} {i i' h q : Nat} {D : Int} {σ : Mm} {W L : Nat → Int} {Q : Nat → Nat} {Ct : Nat → Nat → Bool} (F : FI g lim lea tl i h q D σ W L Q Ct) (ii : i ≤ i') (hn : ∀ u, VV g lim u → i ≤ u → ¬ u < i') : FI g lim lea tl i' h q D σ W L Q Ct := by
  obtain ⟨C, J, I⟩ := F
  obtain ⟨c1, c2, c3, c4⟩ := C
  refine ⟨⟨c1, fun s hs h1 h2 => c2 s hs ?_ h2, c3, c4⟩, J, LI.skip I ii (fun u hu a1 a2 => absurd a2 (hn u hu a1))⟩
  by_cases z : s < i
  · exact z
  · exact absurd h1 (hn s hs (by omega))
theorem unC_0 {g : Nat → Bool} {lim lea : Int} {tl : Nat → Int} {c p : Nat} {l : Int} (h1 : c < 20) (h2 : -9 < l) (h3 : l < 9) (h4 : p < 2) : unC (TT g lim lea tl) (fun _ _ => false) (sx c l p) = pN g lim lea tl c l := by
  funext w
  unfold unC
  rw [(TT_sx (g := g) (lim := lim) (lea := lea) (tl := tl) h1 h2 h3 h4 w).1]
  rcases mv_cases g lim lea tl (fun _ => 0) (fun _ => 0) c l p w with ⟨k1, k2, k3, k4, k5, k6, k7⟩ | ⟨c', k1, k2, k3, k4, k5, k6, k7, k8⟩ | ⟨v, k1, k2, k3, k4, k5, k6, k7⟩
  · rw [k3, k6]
  · rw [k4, k7]
    rfl
  · rw [k3, k6]
theorem sm_zero {f : Nat → Nat} (h : sm f 4 = 0) {w : Nat} (hw : w < 4) : f w = 0 := by
  have := sm_has (f := f) hw
  omega
/-- the first look at one live state -/
theorem look1 {g : Nat → Bool} {lim lea : Int} {tl : Nat → Int} {σ : Mm} {r q c p : Nat} {l : Int} {W L : Nat → Int} {Q : Nat → Nat} (Y : YC g lim lea tl σ r) (F : FI g lim lea tl (sx c l p) 0 q 0 σ W L Q (fun _ _ => false)) (hv : Lv g lim c l p) :
    ∃ σ' q' W' L' Q', f_Co_lookOnePushAhead_83_b (iz c) (iz l) (iz (sm (pM g c) 4 : Nat)) (iz (sm (pN g lim lea tl c l) 4 : Nat)) (iz (om (pV g lim lea tl c l) 4 : Nat)) σ (iz p) = some (.inl (σ', iz ((p + 1 : Nat) : Int))) ∧ eqC σ σ' ∧ FI g lim lea tl (sx c l p + 1) 0 q' 0 σ' W' L' Q' (fun _ _ => false) := by
  obtain ⟨y1, y2, y3, y4, y5, y6, y7, y8⟩ := id Y
  obtain ⟨b1, b2, b3, b4⟩ := hv.b y5 y7
  obtain ⟨s1, s2⟩ := sx_eq b1 b2 b3 b4
  have hV := VV.of y5 y7 hv
  have hpar := (sx_dec b1 b2 b3 b4).2.2
  have e6 := unC_0 (g := g) (lim := lim) (lea := lea) (tl := tl) b1 b2 b3 b4
  obtain ⟨C, J, I⟩ := id F
  have h0 : W (sx c l p) = 0 := (I _ hV).2.1 (Nat.le_refl _)
  have hq680 := F.q.2.1 _ s2 h0
  have ob := om_bit (pV_le g lim lea tl c l) b4 4
  have own : (iz (om (pV g lim lea tl c l) 4 : Nat) &&& iz ((p : Nat) + 1)) = 0 ↔ ¬ ∃ w, w < 4 ∧ pV g lim lea tl c l w = p + 1 := by
    rw [ob]
    exact ⟨fun h ⟨w, w1, w2⟩ => h w w1 w2, fun h w w1 w2 => h ⟨w, w1, w2⟩⟩
  obtain ⟨t1, t2, t3⟩ := t_83 b4 (t_stateOf σ (c := c) (l := l) (p := p) b1 (by omega) (by omega) b4) s2 hq680 C.2.2.2 (sm_le (pM_le g c) 4) (sm_le (pN_le g lim lea tl c l) 4) own
  have hmc := fun w => mv_cases g lim lea tl W L c l p w
  have hme := fun w => mvA_mv (g := g) (lim := lim) (lea := lea) (tl := tl) b1 b2 b3 b4 W L w
  have hi2 : ∀ u, VV g lim u → sx c l p ≤ u → u < sx c l p + 1 → u = sx c l p := fun u _ a1 a2 => by omega
  by_cases ho : ∃ w, w < 4 ∧ pV g lim lea tl c l w = p + 1
  · have hL : ∀ s, VV g lim s → 0 ≤ L s := fun s hs => (I s hs).2.2.1
    have hB1 : B1 (TT g lim lea tl) (RR g lim lea tl) W L (sx c l p) 1 := by
      unfold B1
      rw [hpar]
      obtain ⟨w, w1, w2⟩ := ho
      refine ⟨⟨w, w1, ?_⟩, fun u x u1 u2 => ?_⟩
      · rw [hme]
        rcases hmc w with ⟨-, -, -, -, -, -, k7⟩ | ⟨c', -, -, -, -, -, -, -, k8⟩ | ⟨v, k1, k2, -, -, -, -, k7⟩
        · omega
        · omega
        · rw [k2]
          congr 2
          omega
      · have := mvA_ge (TT_V y5 y7) hL hV u1 u2
        omega
    obtain ⟨W', L', Q', P, e1, e2, F'⟩ := F.settle (iz (sm (pN g lim lea tl c l) 4 : Nat)) (i' := sx c l p + 1) (x := (p : Int) + 1) (n := 1) (by omega) hV h0 (by omega) (Or.inr (by omega)) (by omega) (by omega) (by omega) hi2 (Or.inl ⟨by rw [hpar], hB1⟩)
    exact ⟨_, q + 1, W', L', Q', t1 ho, eqC_aSet .., F'⟩
  · have hno : ∀ w, w < 4 → pV g lim lea tl c l w ≠ p + 1 := fun w w1 w2 => ho ⟨w, w1, w2⟩
    by_cases hb : sm (pN g lim lea tl c l) 4 = 0
    · have hB2 : B2 (TT g lim lea tl) (RR g lim lea tl) W L (sx c l p) (if sm (pM g c) 4 = 0 then 0 else 1) := by
        unfold B2
        rw [hpar]
        refine ⟨fun w x y w1 w2 => ?_, ?_⟩
        · rw [hme] at w2
          have z := sm_zero hb w1
          have z2 := hno w w1
          rcases hmc w with ⟨-, k2, -⟩ | ⟨c', -, -, -, -, -, -, k7, -⟩ | ⟨v, k1, k2, -, -, k5, -, k7⟩
          · rw [k2] at w2; cases w2
          · omega
          · rw [k2] at w2
            have e1 := congrArg Prod.fst (Option.some.inj w2)
            have e2 := congrArg Prod.snd (Option.some.inj w2)
            dsimp only at e1 e2
            have := sm_has (f := pM g c) w1
            rw [if_neg (by omega)]
            exact ⟨by omega, by omega⟩
        · by_cases hm : sm (pM g c) 4 = 0
          · left
            rw [if_pos hm]
            refine ⟨rfl, fun w w1 => ?_⟩
            rw [hme]
            have z := sm_zero hm w1
            rcases hmc w with ⟨-, k2, -⟩ | ⟨c', -, -, -, -, -, k6, -, -⟩ | ⟨v, k1, k2, -, -, k5, -, k7⟩
            · exact k2
            · omega
            · omega
          · right
            rw [if_neg hm]
            obtain ⟨w, w1, w2⟩ := sm_pos (f := pM g c) (by omega)
            refine ⟨w, w1, ?_⟩
            rw [hme]
            have z := sm_zero hb w1
            have z2 := hno w w1
            rcases hmc w with ⟨-, -, -, -, k5, -, -⟩ | ⟨c', -, -, -, -, -, -, k7, -⟩ | ⟨v, k1, k2, -, -, k5, -, k7⟩
            · omega
            · omega
            · rw [k2]
              congr 2
              omega
      obtain ⟨W', L', Q', P, e1, e2, F'⟩ := F.settle (iz (sm (pN g lim lea tl c l) 4 : Nat)) (i' := sx c l p + 1) (x := 2 - (p : Int)) (n := if sm (pM g c) 4 = 0 then 0 else 1) (by omega) hV h0 (by omega) (by
        by_cases z : sm (pM g c) 4 = 0
        · rw [if_pos z]; omega
        · rw [if_neg z]; omega) (by
        by_cases z : sm (pM g c) 4 = 0
        · rw [if_pos z]; omega
        · rw [if_neg z]; omega) (by omega) (by omega) hi2 (Or.inr ⟨by rw [hpar], hB2⟩)
      exact ⟨_, q + 1, W', L', Q', t2 ho hb, eqC_aSet .., F'⟩
    · refine ⟨_, q, W, L, Q, t3 ho hb, eqC_24 .., C.put24 (fun _ => by rw [e6]) (fun u hu => rfl) (fun u hu a1 a2 => by omega), J, LI.skip I (by omega) (fun u hu a1 a2 => ?_)⟩
      have hus := hi2 u hu a1 a2
      rw [hus]
      unfold L6
      rw [e6, hpar]
      refine ⟨fun w w1 => ?_, (fun w t w1 w2 w3 => by cases w3), by omega⟩
      rw [(TT_sx b1 b2 b3 b4 w).2]
      exact hno w w1
