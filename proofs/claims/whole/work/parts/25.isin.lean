-- the reference's isIn
def A1 (g : Nat → Bool) (lim lea : Int) (tl : Nat → Int) (W L : Nat → Int) (c : Nat) (l : Int) (p : Nat) (n : Int) : Prop := ∃ w, w < 4 ∧ mv g lim lea tl W L c l p w = some ((p : Int) + 1, n - 1)
def A2 (g : Nat → Bool) (lim lea : Int) (tl : Nat → Int) (W L : Nat → Int) (c : Nat) (l : Int) (p : Nat) (n : Int) : Prop := (∀ w x y, w < 4 → mv g lim lea tl W L c l p w = some (x, y) → x = 2 - (p : Int) ∧ y ≤ n - 1) ∧ ((n = 0 ∧ ∀ w, w < 4 → mv g lim lea tl W L c l p w = none) ∨ ∃ w, w < 4 ∧ mv g lim lea tl W L c l p w = some (2 - (p : Int), n - 1))
def Put (s : Nat) (x n : Int) (W L W' L' : Nat → Int) : Prop := W' s = x ∧ L' s = n ∧ ∀ j, j ≠ s → W' j = W j ∧ L' j = L j
theorem Lk.put {a b : Nat → Int32} {W L : Nat → Int} (K : Lk a b W L) (s : Nat) {x n : Int} (hx : 0 ≤ x ∧ x ≤ 2) (hn : 0 ≤ n ∧ n ≤ 700) : ∃ W' L', Lk (upd a s (iz x)) (upd b s (iz n)) W' L' ∧ Put s x n W L W' L' := by
  refine ⟨fun j => if j = s then x else W j, fun j => if j = s then n else L j, fun j hj => ?_, if_pos rfl, if_pos rfl, fun j hj => ⟨if_neg hj, if_neg hj⟩⟩
  dsimp only
  by_cases q : j = s
  · rw [if_pos q, if_pos q, q, pk_us, pk_us]
    exact ⟨rfl, rfl, hx, hn.1, hn.2⟩
  · rw [if_neg q, if_neg q, pk_un q, pk_un q]
    exact K j hj
theorem m_151a {τ : Mm} {p : Nat} {n s v5 v6 v7 : Int} (hp : p < 2) (hn : 0 ≤ n ∧ n < 700) (hs : 0 ≤ s ∧ s < 680) (h5 : 0 ≤ v5 ∧ v5 ≤ 4) (e : v6 = v5) (e7 : v7 = n - 1) : f_M_isIn_151 τ (iz p) (iz n) (iz v5) (iz v6) (iz v7) (iz s) = some (iz 1, sA (sA τ 9 s.toNat (iz (2 - p))) 10 s.toNat (iz n)) := by
  simp (disch := omega) only [f_M_isIn_151, if_true, if_false, and_true, true_and, and_false, false_and, and_self, nm_eq, bd_eq, i0, i1, i2, i3, i4, i5, i6, i7, i8, i9, i10, i11, i12, i17, i20, i21, i26, i27, i32, i34, i48, i54, i57, i59, i64, i98, i99, i100, i106, i107, i114, i119, i120, i121, i141, i243, i255, i270, i340, i680, i999, i1000000, iz_add, iz_sub, iz_mul, iz_neg, iz_lt, iz_le, iz_eq, if_pos, if_neg, ix_iz, Int.toNat_natCast, tn0, tn1, tn2, tn3, tn4, tn5, tn6, tn7, tn8, tn9, tn10, tn11, tn12, tn13, tn14, tn15, tn16, tn17, tn18, tn19, tn20, tn21, tn22, tn23, tn24, tn25, tn26, tn27, gI_sI, gI_sA, gI_sAs, gI_sR, gI_sJ, gA_sI, gA_sA, gA_sAs, gA_sR, gA_sJ, gR_sI, gR_sA, gR_sAs, gR_sR, gR_sJ, gJ_sI, gJ_sA, gJ_sAs, gJ_sR, gJ_sJ]
theorem m_151b {τ : Mm} {p : Nat} {n s v5 v6 v7 : Int} (hp : p < 2) (hn : 0 ≤ n ∧ n < 700) (h5 : 0 ≤ v5 ∧ v5 ≤ 4) (h6 : 0 ≤ v6 ∧ v6 ≤ 4) (h7 : -1 ≤ v7 ∧ v7 ≤ 700) (e : ¬ (v6 = v5 ∧ v7 = n - 1)) : f_M_isIn_151 τ (iz p) (iz n) (iz v5) (iz v6) (iz v7) (iz s) = some (iz 0, τ) := by
  by_cases q : v6 = v5
  · simp (disch := omega) only [f_M_isIn_151, if_true, if_false, and_true, true_and, and_false, false_and, and_self, nm_eq, bd_eq, i0, i1, i2, i3, i4, i5, i6, i7, i8, i9, i10, i11, i12, i17, i20, i21, i26, i27, i32, i34, i48, i54, i57, i59, i64, i98, i99, i100, i106, i107, i114, i119, i120, i121, i141, i243, i255, i270, i340, i680, i999, i1000000, iz_add, iz_sub, iz_mul, iz_neg, iz_lt, iz_le, iz_eq, if_pos, if_neg, ix_iz, Int.toNat_natCast, tn0, tn1, tn2, tn3, tn4, tn5, tn6, tn7, tn8, tn9, tn10, tn11, tn12, tn13, tn14, tn15, tn16, tn17, tn18, tn19, tn20, tn21, tn22, tn23, tn24, tn25, tn26, tn27, gI_sI, gI_sA, gI_sAs, gI_sR, gI_sJ, gA_sI, gA_sA, gA_sAs, gA_sR, gA_sJ, gR_sI, gR_sA, gR_sAs, gR_sR, gR_sJ, gJ_sI, gJ_sA, gJ_sAs, gJ_sR, gJ_sJ]
  · simp (disch := omega) only [f_M_isIn_151, if_true, if_false, and_true, true_and, and_false, false_and, and_self, nm_eq, bd_eq, i0, i1, i2, i3, i4, i5, i6, i7, i8, i9, i10, i11, i12, i17, i20, i21, i26, i27, i32, i34, i48, i54, i57, i59, i64, i98, i99, i100, i106, i107, i114, i119, i120, i121, i141, i243, i255, i270, i340, i680, i999, i1000000, iz_add, iz_sub, iz_mul, iz_neg, iz_lt, iz_le, iz_eq, if_pos, if_neg, ix_iz, Int.toNat_natCast, tn0, tn1, tn2, tn3, tn4, tn5, tn6, tn7, tn8, tn9, tn10, tn11, tn12, tn13, tn14, tn15, tn16, tn17, tn18, tn19, tn20, tn21, tn22, tn23, tn24, tn25, tn26, tn27, gI_sI, gI_sA, gI_sAs, gI_sR, gI_sJ, gA_sI, gA_sA, gA_sAs, gA_sR, gA_sJ, gR_sI, gR_sA, gR_sAs, gR_sR, gR_sJ, gJ_sI, gJ_sA, gJ_sAs, gJ_sR, gJ_sJ]
theorem m_isIn {τ : Mm} {W R : Nat} {g : Nat → Bool} {lim lea st : Int} {tl : Nat → Int} {Wn Ln : Nat → Int} (Y : Yok W R g lim lea st) (M : YM τ W R g lim lea st) (T : TlM τ g tl) (hT : TlOk g tl) (K : Lk (gA τ 9) (gA τ 10) Wn Ln) {c p : Nat} {l n : Int} (hv : Lv g lim c l p) (hn : 0 ≤ n ∧ n < 700) :
    ∃ (b : Int) (τ' : Mm) (W' L' : Nat → Int), f_M_isIn τ (iz c) (iz l) (iz p) (iz n) = some (iz b, τ') ∧ eqM τ τ' ∧ Lk (gA τ' 9) (gA τ' 10) W' L' ∧
      ((b = 1 ∧ ((A1 g lim lea tl Wn Ln c l p n ∧ Put (sx c l p) (p + 1) n Wn Ln W' L') ∨ (¬ A1 g lim lea tl Wn Ln c l p n ∧ A2 g lim lea tl Wn Ln c l p n ∧ Put (sx c l p) (2 - p) n Wn Ln W' L'))) ∨ (b = 0 ∧ ¬ A1 g lim lea tl Wn Ln c l p n ∧ ¬ A2 g lim lea tl Wn Ln c l p n ∧ W' = Wn ∧ L' = Ln)) := by
  obtain ⟨v1, v2, v3, v4⟩ := id hv
  have hl := Y.2.2.2.1
  have hc20 := Y.g20 c v1
  obtain ⟨e1, e2⟩ := sx_eq (l := l) (p := p) hc20 (by omega) (by omega) v4
  have es : 2 * (17 * (c : Int) + l + 8) + p = ((sx c l p : Nat) : Int) := by omega
  have key : ∃ r, f_M_isIn_23 τ (iz c) (iz l) (iz p) (iz n) (iz ((sx c l p : Nat) : Int)) (iz 0) (iz 0) (iz (-1)) (iz 0) = some r ∧ ∃ (b : Int) (τ' : Mm) (W' L' : Nat → Int), r = (iz b, τ') ∧ eqM τ τ' ∧ Lk (gA τ' 9) (gA τ' 10) W' L' ∧
      ((b = 1 ∧ ((A1 g lim lea tl Wn Ln c l p n ∧ Put (sx c l p) (p + 1) n Wn Ln W' L') ∨ (¬ A1 g lim lea tl Wn Ln c l p n ∧ A2 g lim lea tl Wn Ln c l p n ∧ Put (sx c l p) (2 - p) n Wn Ln W' L'))) ∨ (b = 0 ∧ ¬ A1 g lim lea tl Wn Ln c l p n ∧ ¬ A2 g lim lea tl Wn Ln c l p n ∧ W' = Wn ∧ L' = Ln)) := by
    unfold f_M_isIn_23
    refine lp_ind (fun s => 4 - s.2.2.2.2.toNatClampNeg) (fun s => ∃ (τ' : Mm) (v5 v6 v7 : Int) (w : Nat), s = (τ', iz v5, iz v6, iz v7, iz w) ∧ w ≤ 4 ∧ eqM τ τ' ∧ gA τ' 9 = gA τ 9 ∧ gA τ' 10 = gA τ 10 ∧ (0 ≤ v6 ∧ v6 ≤ v5 ∧ v5 ≤ w) ∧ (-1 ≤ v7 ∧ v7 ≤ 700) ∧ (v6 = v5 ↔ ∀ u x y, u < w → mv g lim lea tl Wn Ln c l p u = some (x, y) → x = 2 - (p : Int)) ∧ (∀ u y, u < w → mv g lim lea tl Wn Ln c l p u = some (2 - (p : Int), y) → y ≤ v7) ∧ ((v7 = -1 ∧ ∀ u y, u < w → mv g lim lea tl Wn Ln c l p u ≠ some (2 - (p : Int), y)) ∨ ∃ u, u < w ∧ mv g lim lea tl Wn Ln c l p u = some (2 - (p : Int), v7)) ∧ (∀ u, u < w → mv g lim lea tl Wn Ln c l p u ≠ some ((p : Int) + 1, n - 1))) _ ?_ _ ⟨τ, 0, 0, -1, 0, rfl, by omega, eqM.rfl, rfl, rfl, by omega, by omega, ⟨fun _ u x y hu => absurd hu (Nat.not_lt_zero u), fun _ => rfl⟩, fun u y hu => absurd hu (Nat.not_lt_zero u), Or.inl ⟨rfl, fun u y hu => absurd hu (Nat.not_lt_zero u)⟩, fun u hu => absurd hu (Nat.not_lt_zero u)⟩ ?_
    · rintro _ ⟨τ', v5, v6, v7, w, rfl, hw, hM, h9, h10, h56, h7, hA, hB, hC, hD⟩
      have K' : Lk (gA τ' 9) (gA τ' 10) Wn Ln := by rw [h9, h10]; exact K
      dsimp only
      by_cases q : w = 4
      · right
        subst q
        have hA1 : ¬ A1 g lim lea tl Wn Ln c l p n := fun ⟨u, u1, u2⟩ => hD u u1 u2
        have hst : f_M_isIn_23_b (iz c) (iz l) (iz p) (iz n) (iz ((sx c l p : Nat) : Int)) τ' (iz v5) (iz v6) (iz v7) (iz ((4 : Nat) : Int)) = ((f_M_isIn_151 τ' (iz p) (iz n) (iz v5) (iz v6) (iz v7) (iz ((sx c l p : Nat) : Int)) : Option (Int32 × Mm)).map Sum.inr) := by
          unfold f_M_isIn_23_b
          rw [if_neg (by decide)]
        by_cases q2 : v6 = v5 ∧ v7 = n - 1
        · obtain ⟨W', L', k1, k2⟩ := K'.put (sx c l p) (x := 2 - p) (n := n) (by omega) (by omega)
          refine ⟨(iz 1, sA (sA τ' 9 (sx c l p) (iz (2 - p))) 10 (sx c l p) (iz n)), ?_, 1, _, W', L', rfl, ?_, ?_, Or.inl ⟨rfl, Or.inr ⟨hA1, ⟨fun w x y w1 w2 => ?_, ?_⟩, k2⟩⟩⟩
          · rw [hst, m_151a v4 hn (by omega) (by omega) q2.1 q2.2, Int.toNat_natCast]
            rfl
          · refine hM.trans ⟨fun k _ => Eq.refl _, fun c' hc' => ?_, fun k hk => ?_, Eq.refl _⟩
            · rw [gA_sA, if_neg (fun q => by rw [q] at hc'; cases hc'), gA_sA, if_neg (fun q => by rw [q] at hc'; cases hc')]
            · rw [gA_sA, if_neg (by decide), gA_sA, if_neg (by decide)]
          · rw [gA_sA, if_neg (by decide), gA_sA, if_pos rfl, gA_sA, if_pos rfl, gA_sA, if_neg (by decide)]
            exact k1
          · have := hA.mp q2.1 w x y w1 w2
            subst this
            exact ⟨rfl, by have := hB w y w1 w2; omega⟩
          · rcases hC with ⟨z1, z2⟩ | ⟨u, u1, u2⟩
            · refine Or.inl ⟨by omega, fun w w1 => ?_⟩
              rcases hm : mv g lim lea tl Wn Ln c l p w with _ | ⟨x, y⟩
              · rfl
              · have := hA.mp q2.1 w x y w1 hm
                subst this
                exact absurd hm (z2 w y w1)
            · exact Or.inr ⟨u, u1, by rw [u2, q2.2]⟩
        · refine ⟨(iz 0, τ'), ?_, 0, _, Wn, Ln, rfl, hM, K', Or.inr ⟨rfl, hA1, fun ⟨a1, a2⟩ => q2 ⟨hA.mpr fun u x y u1 u2 => (a1 u x y u1 u2).1, ?_⟩, rfl, rfl⟩⟩
          · rw [hst, m_151b v4 hn (by omega) (by omega) h7 q2]
            rfl
          · rcases a2 with ⟨z1, z2⟩ | ⟨u, u1, u2⟩
            · rcases hC with ⟨z3, -⟩ | ⟨u, u1, u2⟩
              · omega
              · rw [z2 u u1] at u2; cases u2
            · have := hB u _ u1 u2
              rcases hC with ⟨z3, z4⟩ | ⟨t, t1, t2⟩
              · exact absurd u2 (z4 u _ u1)
              · have := (a1 t _ _ t1 t2).2
                omega
      · have hw4 : w < 4 := by omega
        rcases m_look (w := w) Y (M.ext hM) (fun c hc => (congrFun (hM.2.1 4 (by decide)) _).trans (T c hc)) hT K' hv hw4 with ⟨b1, b2⟩ | ⟨x, y, r, c', l', b1, b2, b3, b4, b5, b6, -⟩
        · left
          refine ⟨_, m_is_n hw4 b2, ⟨τ', v5, v6, v7, w + 1, rfl, by omega, hM, h9, h10, by omega, h7, ?_, ?_, ?_, ?_⟩, ?_⟩
          · rw [hA]
            refine ⟨fun h u x y u1 u2 => ?_, fun h u x y u1 u2 => h u x y (by omega) u2⟩
            by_cases q : u = w
            · rw [q, b1] at u2; cases u2
            · exact h u x y (by omega) u2
          · intro u y u1 u2
            by_cases q : u = w
            · rw [q, b1] at u2; cases u2
            · exact hB u y (by omega) u2
          · rcases hC with ⟨z1, z2⟩ | ⟨u, u1, u2⟩
            · refine Or.inl ⟨z1, fun u y u1 u2 => ?_⟩
              by_cases q : u = w
              · rw [q, b1] at u2; cases u2
              · exact z2 u y (by omega) u2
            · exact Or.inr ⟨u, by omega, u2⟩
          · intro u u1 u2
            by_cases q : u = w
            · rw [q, b1] at u2; cases u2
            · exact hD u (by omega) u2
          · dsimp only
            rw [iz_nat (by omega) (by omega), iz_nat (by omega) (by omega)]
            omega
        · by_cases q3 : x = p + 1 ∧ y = n - 1
          · right
            obtain ⟨W', L', k1, k2⟩ := K'.put (sx c l p) (x := p + 1) (n := n) (by omega) (by omega)
            refine ⟨(iz 1, sA (sA (mCome τ' c' l') 9 (sx c l p) (iz x)) 10 (sx c l p) (iz n)), ?_, 1, _, W', L', rfl, ?_, ?_, Or.inl ⟨rfl, Or.inl ⟨⟨w, hw4, by rw [b1, q3.1, q3.2]⟩, k2⟩⟩⟩
            · have := m_is_y (s := ((sx c l p : Nat) : Int)) (v5 := v5) (v6 := v6) (v7 := v7) hw4 v4 hn (by omega) b2 q3.1 q3.2 b4 b5 b6
              rw [Int.toNat_natCast] at this
              exact this
            · refine (hM.trans eqM_come).trans ⟨fun k _ => Eq.refl _, fun c' hc' => ?_, fun k hk => ?_, Eq.refl _⟩
              · rw [gA_sA, if_neg (fun q => by rw [q] at hc'; cases hc'), gA_sA, if_neg (fun q => by rw [q] at hc'; cases hc')]
              · rw [gA_sA, if_neg (by decide), gA_sA, if_neg (by decide)]
            · rw [gA_sA, if_neg (by decide), gA_sA, if_pos rfl, gA_sA, if_pos rfl, gA_sA, if_neg (by decide), q3.1]
              exact k1
          · left
            refine ⟨_, m_is_m hw4 v4 hn b2 ⟨b3.1, b3.2.1⟩ b3.2.2 h7 q3 b4 b5 b6, ⟨mCome τ' c' l', v5 + 1, if x = 2 - p then v6 + 1 else v6, if x = 2 - p ∧ v7 < y then y else v7, w + 1, rfl, by omega, hM.trans eqM_come, h9, h10, ?_, ?_, ?_, ?_, ?_, ?_⟩, ?_⟩
            · by_cases z : x = 2 - p
              · rw [if_pos z]; omega
              · rw [if_neg z]; omega
            · by_cases z : x = 2 - p ∧ v7 < y
              · rw [if_pos z]; omega
              · rw [if_neg z]; omega
            · by_cases z : x = 2 - p
              · rw [if_pos z]
                constructor
                · intro h u x' y' u1 u2
                  by_cases q : u = w
                  · rw [q, b1] at u2
                    have := congrArg Prod.fst (Option.some.inj u2)
                    dsimp only at this
                    omega
                  · exact hA.mp (by omega) u x' y' (by omega) u2
                · intro h
                  have := hA.mpr fun u x' y' u1 u2 => h u x' y' (by omega) u2
                  omega
              · rw [if_neg z]
                constructor
                · intro h; omega
                · intro h
                  exact absurd (h w x y (by omega) b1) z
            · intro u y' u1 u2
              by_cases q : u = w
              · rw [q, b1] at u2
                have e1 := congrArg Prod.fst (Option.some.inj u2)
                have e2 := congrArg Prod.snd (Option.some.inj u2)
                dsimp only at e1 e2
                by_cases z : x = 2 - p ∧ v7 < y
                · rw [if_pos z]; omega
                · rw [if_neg z]; omega
              · have := hB u y' (by omega) u2
                by_cases z : x = 2 - p ∧ v7 < y
                · rw [if_pos z]; omega
                · rw [if_neg z]; omega
            · by_cases z : x = 2 - p ∧ v7 < y
              · rw [if_pos z]
                exact Or.inr ⟨w, by omega, by rw [b1, z.1]⟩
              · rw [if_neg z]
                rcases hC with ⟨z1, z2⟩ | ⟨u, u1, u2⟩
                · refine Or.inl ⟨z1, fun u y' u1 u2 => ?_⟩
                  by_cases q : u = w
                  · rw [q, b1] at u2
                    have e1 := congrArg Prod.fst (Option.some.inj u2)
                    dsimp only at e1
                    omega
                  · exact z2 u y' (by omega) u2
                · exact Or.inr ⟨u, by omega, u2⟩
            · intro u u1 u2
              by_cases q : u = w
              · rw [q, b1] at u2
                have e1 := congrArg Prod.fst (Option.some.inj u2)
                have e2 := congrArg Prod.snd (Option.some.inj u2)
                dsimp only at e1 e2
                exact q3 ⟨e1, e2⟩
              · exact hD u (by omega) u2
            · dsimp only
              rw [iz_nat (by omega) (by omega), iz_nat (by omega) (by omega)]
              omega
    · dsimp only; omega
  obtain ⟨r, k1, b, τ', W', L', rfl, k2⟩ := key
  refine ⟨b, τ', W', L', ?_, k2⟩
  have hs := m_spot τ c l
  unfold f_M_isIn
  rw [hs, bd_eq, nm_eq, i2, iz_mul, iz_add, es, i0, i1, iz_neg]
  exact k1
