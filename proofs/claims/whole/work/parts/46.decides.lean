-- the call decides
def zt (tl : Nat → Int) (i : Nat) : Nat → Int := fun c => if c = i then 0 else tl c
def Dc (g : Nat → Bool) (lim lea : Int) (tl : Nat → Int) (s : Nat) (w0 : Int) (i : Nat) : Prop := g i = true ∧ tl i ≠ 0 ∧ ∃ W L, LC g lim lea (zt tl i) W L ∧ W s ≠ w0
theorem zt_ok {g : Nat → Bool} {tl : Nat → Int} (hT : TlOk g tl) (i : Nat) : TlOk g (zt tl i) := by
  intro c hc
  have := hT c hc
  unfold zt
  by_cases e : c = i
  · rw [if_pos e]; omega
  · rw [if_neg e]; exact this
theorem Dc_iff {g : Nat → Bool} {lim lea : Int} {tl W L : Nat → Int} {c p i : Nat} {l w0 : Int} (h : LC g lim lea (zt tl i) W L) (hv : Lv g lim c l p) (h1 : g i = true) (h2 : tl i ≠ 0) : Dc g lim lea tl (sx c l p) w0 i ↔ W (sx c l p) ≠ w0 := by
  constructor
  · rintro ⟨-, -, W', L', a1, a2⟩
    rw [← (LC.uniq a1 h c l p hv).1] at a2
    exact a2
  · exact fun z => ⟨h1, h2, W, L, h, z⟩
theorem eqT_15 {σ : Mm} {i : Nat} {v : Int32} : eqT σ (sA σ 15 i v) := by
  refine ⟨fun _ _ _ => Eq.refl _, fun c hc => ?_, Eq.refl _, Eq.refl _, Eq.refl _, fun h => h⟩
  rw [gA_sA, if_neg (fun z => by rw [z] at hc; cases hc)]
theorem t_dec_off {σ : Mm} {i : Nat} {w0 a y : Int32} (hi : i < 20) (h : gA σ 15 i = y) (hy : y = 100 ∨ y = 0) : f_T_decides_65_b w0 σ a (iz i) = some (.inl (σ, a, iz ((i + 1 : Nat) : Int))) := by
  have k : iz (i : Int) < 20 := by rw [i20, iz_lt (by omega) (by omega) (by omega) (by omega)]; omega
  have kk : iz (i : Int) + 1 = iz ((i + 1 : Nat) : Int) := by rw [i1, iz_add]; rfl
  unfold f_T_decides_65_b
  rw [if_pos k, ix_n hi (by decide), h, nm_eq]
  rcases hy with rfl | rfl
  · rw [if_pos rfl, nm_eq, kk]
  · rw [if_neg (by decide), if_pos rfl, nm_eq, kk]
theorem t_dec_on {σ σ2 : Mm} {i : Nat} {a : Int32} {w0 w1 t : Int} {a3 a4 a5 : Int32} (hi : i < 20) (h : gA σ 15 i = iz t) (ht : -4 ≤ t ∧ t ≤ 4) (ht0 : t ≠ 0) (hw0 : 0 ≤ w0 ∧ w0 ≤ 2) (hw1 : 0 ≤ w1 ∧ w1 ≤ 2) (s1 : f_Co_solve (sA σ 15 i 0) 13 = some (0, σ2)) (d3 : gI σ2 36 3 = a3) (d4 : gI σ2 36 4 = a4) (d5 : gI σ2 36 5 = a5) (hw : f_Co_winner σ2 a3 a4 a5 = some (iz w1, σ2)) :
    f_T_decides_65_b (iz w0) σ a (iz i) = some (.inl (sA σ2 15 i (iz t), (if w1 = w0 then a else a ||| (1 <<< (iz i &&& 31))), iz ((i + 1 : Nat) : Int))) := by
  have k : iz (i : Int) < 20 := by rw [i20, iz_lt (by omega) (by omega) (by omega) (by omega)]; omega
  have kk : iz (i : Int) + 1 = iz ((i + 1 : Nat) : Int) := by rw [i1, iz_add]; rfl
  have fin : ∀ b, f_T_decides_156 σ2 b (iz i) (iz t) = some (.inl (sA σ2 15 i (iz t), b, iz ((i + 1 : Nat) : Int))) := fun b => by
    unfold f_T_decides_156
    rw [ix_n hi (by decide), nm_eq, nm_eq, kk]
  unfold f_T_decides_65_b
  rw [if_pos k, ix_n hi (by decide), h, nm_eq, if_neg (iz_ne100 ht.1 ht.2), if_neg (by rw [i0, iz_eq (by omega) (by omega) (by omega) (by omega)]; exact ht0), ix_n hi (by decide), nm_eq, s1, bd_eq, d3, d4, d5, hw, bd_eq]
  by_cases q : w1 = w0
  · rw [if_pos (by rw [q]), if_pos q, fin]
  · rw [if_neg (by rw [iz_eq (by omega) (by omega) (by omega) (by omega)]; exact q), if_neg q, nm_eq, fin]
theorem t_decides {σ : Mm} {g : Nat → Bool} {lim lea : Int} {tl : Nat → Int} (G : YG σ 13 g lim lea tl) (hT : TlOk g tl) (hg : ∀ c, g c = true → c < 20) (hl1 : 2 ≤ lim) (hl2 : lim ≤ 9) (he : -2 ≤ lea ∧ lea ≤ 2) {c p : Nat} {l w0 : Int} (e3 : gI σ 36 3 = iz c) (e4 : gI σ 36 4 = iz l) (e5 : gI σ 36 5 = iz p) (hv : Lv g lim c l p) (hw0 : 0 ≤ w0 ∧ w0 ≤ 2) (P : Nat → Prop) [DecidablePred P] (hP : ∀ i, P i ↔ Dc g lim lea tl (sx c l p) w0 i) :
    ∃ x, f_T_decides_65 σ (iz w0) 0 0 = some x ∧ ∃ σ', x = (acc P 20, σ') ∧ eqT σ σ' := by
  obtain ⟨b1, b2, b3, b4⟩ := hv.b hg hl2
  have s2 := (sx_eq b1 b2 b3 b4).2
  unfold f_T_decides_65
  refine lp_ind (fun s => 20 - s.2.2.toNatClampNeg) (fun s => ∃ (σ' : Mm) (i : Nat), s = (σ', acc P i, iz i) ∧ i ≤ 20 ∧ eqT σ σ' ∧ YG σ' 13 g lim lea tl) _ (fun s hs => ?_) _ ⟨σ, 0, rfl, by omega, eqT.rfl, G⟩ ?_
  · obtain ⟨σ', i, rfl, hi, hE, G'⟩ := hs
    dsimp only
    by_cases k : i < 20
    · left
      have mu : ∀ (τ2 : Mm) (b : Int32), 20 - ((τ2, b, iz ((i + 1 : Nat) : Int)) : Mm × Int32 × Int32).2.2.toNatClampNeg < 20 - (iz (i : Int)).toNatClampNeg := fun τ2 b => by
        dsimp only
        rw [iz_nat (by omega) (by omega), iz_nat (by omega) (by omega)]
        omega
      have g15 := G'.2.2.1 i k
      have off : ∀ y, gA σ' (gTl 13) i = y → (y = 100 ∨ y = 0) → ¬ P i → (∃ s', f_T_decides_65_b (iz w0) σ' (acc P i) (iz i) = some (.inl s') ∧ (∃ (σ' : Mm) (i : Nat), s' = (σ', acc P i, iz i) ∧ i ≤ 20 ∧ eqT σ σ' ∧ YG σ' 13 g lim lea tl) ∧ 20 - s'.2.2.toNatClampNeg < 20 - (iz (i : Int)).toNatClampNeg) := fun y h1 h2 h3 => by
        have ea : acc P (i + 1) = acc P i := by rw [acc, if_neg h3]
        exact ⟨(σ', acc P i, iz ((i + 1 : Nat) : Int)), t_dec_off k h1 h2, ⟨σ', i + 1, by rw [ea], by omega, hE, G'⟩, mu ..⟩
      by_cases q1 : g i = true
      · rw [if_pos q1] at g15
        by_cases q2 : tl i = 0
        · refine off _ g15 (Or.inr (by rw [q2, i0])) (fun z => ?_)
          exact ((hP i).mp z).2.1 q2
        · have G1 : YG (sA σ' 15 i 0) 13 g lim lea (zt tl i) := by
            refine ⟨G'.1, G'.2.1, fun c hc => ?_, fun c w hc hw => ?_⟩
            · have z := G'.2.2.1 c hc
              rw [show gTl 13 = 15 from rfl] at z ⊢
              rw [gA_sA, if_pos rfl]
              unfold zt
              by_cases e : c = i
              · rw [e, pk_us, if_pos q1, if_pos rfl, i0]
              · rw [pk_un e, if_neg e]
                exact z
            · rw [gA_sA, if_neg (by decide)]
              exact G'.2.2.2 c w hc hw
          obtain ⟨σ2, Wt, Lt, s1, s3, s4, s5, s6, s7, s8⟩ := solve_all (Or.inr rfl) G1 (zt_ok hT i) hg hl1 hl2 he
          have E2 : eqT σ σ2 := (hE.trans eqT_15).trans s3
          have hW := (s7 _ s2).2.1
          have ton := t_dec_on (a := acc P i) (w0 := w0) k g15 (hT i q1) q2 hw0 hW s1 ((E2.1 36 3 (by decide)).trans e3) ((E2.1 36 4 (by decide)).trans e4) ((E2.1 36 5 (by decide)).trans e5) (t_winner s7 b1 b2 b3 b4)
          have hD := (hP i).trans (Dc_iff (w0 := w0) s8 hv q1 q2)
          have ea : acc P (i + 1) = (if Wt (sx c l p) = w0 then acc P i else acc P i ||| (1 <<< (iz i &&& 31))) := by
            rw [acc]
            by_cases z : Wt (sx c l p) = w0
            · rw [if_pos z, if_neg (fun y => hD.mp y z)]
            · rw [if_neg z, if_pos (hD.mpr z)]
          refine ⟨_, ton, ⟨_, i + 1, by rw [ea], by omega, E2.trans eqT_15, ?_⟩, mu ..⟩
          refine ⟨?_, ?_, fun c hc => ?_, fun c w hc hw => ?_⟩
          · rw [gI_sA, s4, gI_sA]; exact G'.1
          · rw [gI_sA, s4, gI_sA]; exact G'.2.1
          · have z := G'.2.2.1 c hc
            rw [show gTl 13 = 15 from rfl] at z ⊢
            rw [gA_sA, if_pos rfl, s6, gA_sA, if_pos rfl]
            by_cases e : c = i
            · rw [e, pk_us, if_pos q1]
            · rw [pk_un e, pk_un e]
              exact z
          · rw [gA_sA, if_neg (by decide), s5, gA_sA, if_neg (by decide)]
            exact G'.2.2.2 c w hc hw
      · rw [if_neg q1] at g15
        exact off _ g15 (Or.inl rfl) (fun z => q1 ((hP i).mp z).1)
    · right
      have : i = 20 := by omega
      subst this
      refine ⟨(acc P 20, σ'), ?_, σ', rfl, hE⟩
      unfold f_T_decides_65_b
      rw [if_neg (by decide)]
      rfl
  · dsimp only
    omega
