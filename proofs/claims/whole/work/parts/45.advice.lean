-- advice, the reference's side
theorem m_adv84 {τ : Mm} {v1 v3 r x y l' : Int} {W L : Nat → Int} {g : Nat → Bool} {lim lea : Int} {tl : Nat → Int} {c p w c' s : Nat} {l : Int} (hs : s < 680) (hm : mv g lim lea tl W L c l p w = some (x, y)) (es : s = sx c l p) (hL : 0 ≤ L s ∧ L s ≤ 700) (hW : 0 ≤ W s ∧ W s ≤ 2) (hxy : 0 ≤ x ∧ x ≤ 2 ∧ 0 ≤ y ∧ y ≤ 700) (e2 : gA τ 4 2 = iz p) (hp : f_M_pushesBehind τ (iz r) (iz p) = some (iz y, τ)) (hh : f_M_here τ = some (iz (s : Nat), τ)) (e10 : gA τ 10 s = iz (L s)) :
    (Cm g lim lea tl W L c l p w → (if iz x = iz (W s) then f_M_advice_84 τ (iz v1) (iz (W s)) (iz v3) (iz r) 1 else f_M_advice_84 τ (iz v1) (iz (W s)) (iz v3) (iz r) 0) = some (.inl (τ, iz v3, iz (v3 - 1)))) ∧ (¬ Cm g lim lea tl W L c l p w → (if iz x = iz (W s) then f_M_advice_84 τ (iz v1) (iz (W s)) (iz v3) (iz r) 1 else f_M_advice_84 τ (iz v1) (iz (W s)) (iz v3) (iz r) 0) = some (.inl (τ, iz v1, iz (v3 - 1)))) := by
  have cm : Cm g lim lea tl W L c l p w ↔ (x = W s ∧ (W s = 0 ∨ y = L s - 1)) := by
    unfold Cm
    rw [hm, ← es]
    constructor
    · rintro ⟨x, y, a1, a2, a3⟩
      have z1 := congrArg Prod.fst (Option.some.inj a1)
      have z2 := congrArg Prod.snd (Option.some.inj a1)
      dsimp only at z1 z2
      exact ⟨by omega, by omega⟩
    · rintro ⟨a1, a2⟩
      exact ⟨_, _, rfl, a1, by omega⟩
  have dec : iz v3 + -1 = iz (v3 - 1) := by
    rw [i1, iz_neg, iz_add]
    congr 1
  unfold f_M_advice_84 f_M_advice_121 f_M_advice_125 f_M_advice_126
  by_cases q1 : x = W s
  · rw [if_pos (by rw [q1]), if_neg (by decide)]
    by_cases q2 : W s = 0
    · rw [if_pos (by rw [q2, i0]), nm_eq, dec]
      exact ⟨fun _ => rfl, fun z => absurd (cm.mpr ⟨q1, Or.inl q2⟩) z⟩
    · rw [if_neg (by rw [i0, iz_eq (by omega) (by omega) (by omega) (by omega)]; exact q2), i2, ix_iz (by decide) (by decide) (by decide), tn2, e2, hp, bd_eq, hh, bd_eq, ix_n hs (by decide), e10, i1, iz_sub]
      by_cases q3 : y = L s - 1
      · rw [if_pos (by rw [q3]), nm_eq, ← i1, dec]
        exact ⟨fun _ => rfl, fun z => absurd (cm.mpr ⟨q1, Or.inr q3⟩) z⟩
      · rw [if_neg (by rw [iz_eq (by omega) (by omega) (by omega) (by omega)]; exact q3), nm_eq, ← i1, dec]
        exact ⟨fun z => by have := cm.mp z; omega, fun _ => rfl⟩
  · rw [if_neg (by rw [iz_eq (by omega) (by omega) (by omega) (by omega)]; exact q1), if_pos rfl, nm_eq, dec]
    exact ⟨fun z => absurd (cm.mp z).1 q1, fun _ => rfl⟩
theorem m_advice {τ : Mm} {W R : Nat} {g : Nat → Bool} {lim lea st : Int} {tl : Nat → Int} {Wn Ln : Nat → Int} (Y : Yok W R g lim lea st) (M : YM τ W R g lim lea st) (T : TlM τ g tl) (hT : TlOk g tl) (K : Lk (gA τ 9) (gA τ 10) Wn Ln) {c p : Nat} {l : Int} (e0 : gA τ 4 0 = iz c) (e1 : gA τ 4 1 = iz l) (e2 : gA τ 4 2 = iz p) (hv : Lv g lim c l p) :
    ∃ x, f_M_advice_34 τ (iz (Wn (sx c l p))) (iz (-9)) (iz 3) = some x ∧ ∃ a τ', x = (iz a, τ') ∧ eqM τ τ' ∧ Av (Cm g lim lea tl Wn Ln c l p) a := by
  obtain ⟨b1, b2, b3, b4⟩ := hv.b Y.g20 Y.2.2.2.1
  have s2 := (sx_eq b1 b2 b3 b4).2
  obtain ⟨k1, k2, k3, k4⟩ := K _ s2
  unfold f_M_advice_34
  refine lp_ind (fun s => (s.2.2.toInt + 1).toNat) (fun s => ∃ (τ' : Mm) (w : Nat) (a : Int), s = (τ', iz a, iz ((w : Int) - 1)) ∧ w ≤ 4 ∧ eqM τ τ' ∧ gA τ' 9 = gA τ 9 ∧ gA τ' 10 = gA τ 10 ∧ ((a = -9 ∧ ∀ u, w ≤ u → u < 4 → ¬ Cm g lim lea tl Wn Ln c l p u) ∨ ∃ u : Nat, w ≤ u ∧ u < 4 ∧ a = u ∧ Cm g lim lea tl Wn Ln c l p u ∧ ∀ v, w ≤ v → v < u → ¬ Cm g lim lea tl Wn Ln c l p v)) _ (fun s hs => ?_) _ ⟨τ, 4, -9, rfl, by omega, eqM.rfl, rfl, rfl, Or.inl ⟨rfl, fun u _ _ => by omega⟩⟩ ?_
  · obtain ⟨τ', w, a, rfl, hw, hM, h9, h10, hA⟩ := hs
    dsimp only
    by_cases k : w = 0
    · right
      subst k
      refine ⟨(iz a, τ'), ?_, a, τ', rfl, hM, ?_⟩
      · unfold f_M_advice_34_b
        rw [if_pos (by decide)]
        rfl
      · rcases hA with ⟨a1, a2⟩ | ⟨u, a1, a2, a3, a4, a5⟩
        · exact Or.inl ⟨a1, fun u hu => a2 u (Nat.zero_le u) hu⟩
        · exact Or.inr ⟨u, a2, a3, a4, fun v hv => a5 v (Nat.zero_le v) hv⟩
    · left
      obtain ⟨v, rfl⟩ : ∃ v, w = v + 1 := ⟨w - 1, by omega⟩
      have ev : ((v + 1 : Nat) : Int) - 1 = (v : Int) := by omega
      rw [ev]
      have mu : ∀ (τ2 : Mm) (b : Int32), (((τ2, b, iz ((v : Int) - 1)) : Mm × Int32 × Int32).2.2.toInt + 1).toNat < ((iz (v : Int)).toInt + 1).toNat := fun τ2 b => by
        dsimp only
        rw [iz_T (by omega) (by omega), iz_T (by omega) (by omega)]
        omega
      have kn : ¬ iz (v : Int) < 0 := by rw [i0, iz_lt (by omega) (by omega) (by omega) (by omega)]; omega
      have m4 : ∀ τ2, eqM τ τ2 → gA τ2 4 0 = iz c ∧ gA τ2 4 1 = iz l ∧ gA τ2 4 2 = iz p := fun τ2 h => by
        rw [h.2.1 4 (by decide)]; exact ⟨e0, e1, e2⟩
      have K' : Lk (gA τ' 9) (gA τ' 10) Wn Ln := by rw [h9, h10]; exact K
      obtain ⟨f0, f1, f2⟩ := m4 τ' hM
      have yes : Cm g lim lea tl Wn Ln c l p v → ((v : Int) = -9 ∧ ∀ u, v ≤ u → u < 4 → ¬ Cm g lim lea tl Wn Ln c l p u) ∨ ∃ u : Nat, v ≤ u ∧ u < 4 ∧ (v : Int) = u ∧ Cm g lim lea tl Wn Ln c l p u ∧ ∀ x, v ≤ x → x < u → ¬ Cm g lim lea tl Wn Ln c l p x := fun z => Or.inr ⟨v, Nat.le_refl _, by omega, rfl, z, fun x h1 h2 => by omega⟩
      have no : ¬ Cm g lim lea tl Wn Ln c l p v → (a = -9 ∧ ∀ u, v ≤ u → u < 4 → ¬ Cm g lim lea tl Wn Ln c l p u) ∨ ∃ u : Nat, v ≤ u ∧ u < 4 ∧ a = u ∧ Cm g lim lea tl Wn Ln c l p u ∧ ∀ x, v ≤ x → x < u → ¬ Cm g lim lea tl Wn Ln c l p x := fun z => by
        rcases hA with ⟨a1, a2⟩ | ⟨u, a1, a2, a3, a4, a5⟩
        · refine Or.inl ⟨a1, fun u h1 h2 => ?_⟩
          by_cases q : u = v
          · rw [q]; exact z
          · exact a2 u (by omega) h2
        · refine Or.inr ⟨u, by omega, a2, a3, a4, fun x h1 h2 => ?_⟩
          by_cases q : x = v
          · rw [q]; exact z
          · exact a5 x (by omega) h2
      rcases m_look (w := v) Y (M.ext hM) (fun c hc => (congrFun (hM.2.1 4 (by decide)) _).trans (T c hc)) hT K' hv (by omega) with ⟨d1, d2⟩ | ⟨x, y, r, c', l', d1, d2, d3, d4, d5, d6, -⟩
      · refine ⟨(τ', iz a, iz ((v : Int) - 1)), ?_, ⟨τ', v, a, rfl, by omega, hM, h9, h10, no (fun ⟨x, y, z, _⟩ => by rw [d1] at z; cases z)⟩, mu ..⟩
        unfold f_M_advice_34_b
        rw [if_neg kn, i0, ix_iz (by decide) (by decide) (by decide), tn0, f0, i1, ix_iz (by decide) (by decide) (by decide), tn1, f1, d2, bd_eq, if_pos (by rw [i3]), nm_eq, iz_neg, iz_add]
        rfl
      · have hM2 : eqM τ (mCome τ' c' l') := hM.trans eqM_come
        obtain ⟨g0, g1, g2⟩ := m4 _ hM2
        have hh := m_here g0 g1 g2 b1 b2 b3 b4
        have e10 : gA (mCome τ' c' l') 10 (sx c l p) = iz (Ln (sx c l p)) := (K' _ s2).2.1
        obtain ⟨r1, r2⟩ := m_adv84 (v1 := a) (v3 := v) s2 d1 rfl k4 k3 d3 g2 d6 hh e10 (l' := l') (c' := c')
        have hst : f_M_advice_34_b (iz (Wn (sx c l p))) τ' (iz a) (iz (v : Int)) = (if iz x = iz (Wn (sx c l p)) then f_M_advice_84 (mCome τ' c' l') (iz a) (iz (Wn (sx c l p))) (iz v) (iz r) 1 else f_M_advice_84 (mCome τ' c' l') (iz a) (iz (Wn (sx c l p))) (iz v) (iz r) 0) := by
          unfold f_M_advice_34_b
          rw [if_neg kn, i0, ix_iz (by decide) (by decide) (by decide), tn0, f0, i1, ix_iz (by decide) (by decide) (by decide), tn1, f1, d4, bd_eq, if_neg (by rw [i3, iz_eq (by omega) (by omega) (by omega) (by omega)]; omega), i2, ix_iz (by decide) (by decide) (by decide), tn2, g2, d5, bd_eq]
        by_cases q : Cm g lim lea tl Wn Ln c l p v
        · exact ⟨_, hst.trans (r1 q), ⟨mCome τ' c' l', v, v, rfl, by omega, hM2, h9, h10, yes q⟩, mu ..⟩
        · exact ⟨_, hst.trans (r2 q), ⟨mCome τ' c' l', v, a, rfl, by omega, hM2, h9, h10, no q⟩, mu ..⟩
  · dsimp only
    rw [iz_T (by omega) (by omega)]
    omega
theorem b_advice {n : Nat} {σ τ : Mm} (h : Rel n σ τ) : Both n (f_T_advice σ) (f_M_advice τ) := by
  have h' := h
  obtain ⟨W, R, g, lim, lea, st, m, H⟩ := h'
  have H' := H
  obtain ⟨h1, h2, h3, h4, h5, h6, h7, h8, h9, h10, h11, h12, h13, h14⟩ := H'
  have hst := h1.st
  have h3' := h3
  have h6' := h6
  have h4' := h4
  obtain ⟨p, d, e1, e2, e3, e4, e5, e6, e7, e8⟩ := h3'
  obtain ⟨c0, c1, c2, c3, c4, c5, c6, hTl⟩ := h6'
  obtain ⟨g0, g1, g2, g3, g4, g5, g6, g7⟩ := h4'
  have b0 := h5.1 0 (by decide)
  have b1 := h5.1 1 (by decide)
  have b2 := h5.1 2 (by decide)
  have b3 := h5.1 3 (by decide)
  have b4 := h5.1 4 (by decide)
  have b5 := h5.1 5 (by decide)
  have b6 := h5.1 6 (by decide)
  have epl : ∀ K : Nat → Option (Int32 × Mm), rk (gR σ 0 2) okPl K = K p := fun K => by rw [e1]; rcases e3 with ⟨rfl, _⟩ | ⟨rfl, _⟩ <;> rfl
  obtain ⟨y1, y2, y3, y4, y5, y6, y7, y8⟩ := h1
  obtain ⟨m1, m2, m3, m4, m5, m6⟩ := h2
  have h1 : Yok W R g lim lea st := H.1
  have h2 : YM τ W R g lim lea st := H.2.1
  have hS := t_hasNoStart h3 (by omega) (by omega)
  have hS2 := m_hasStart H.go'.1 H.go'.2.1
  by_cases q : st = -9
  · rw [if_pos q] at hS hS2
    refine Both.of (r := iz (-2)) ?_ ?_ h.n1
    · unfold f_T_advice
      rw [hS, bd_eq, if_neg (by decide)]
      rfl
    · unfold f_M_advice
      rw [nm_eq, i0, hS2, bd_eq, if_pos (by decide)]
      rfl
  · rw [if_neg q] at hS hS2
    obtain ⟨c, hc, hgc⟩ := g0.2 q
    have hc20 := h1.g20 c hgc
    obtain ⟨p', hp', hp2⟩ : ∃ p' : Nat, m 2 = p' ∧ p' < 2 := by
      rcases g2 with h | h
      · exact ⟨0, h, by omega⟩
      · exact ⟨1, h, by omega⟩
    have hg20 := H.1.g20
    have hlea : -2 ≤ lea ∧ lea ≤ 2 := ⟨y5, y6⟩
    obtain ⟨σ', Wt, Lt, s1, s2, -, -, -, s6, s7⟩ := solve_all (σ := σ) (Or.inl rfl) H.YG H.TlOk hg20 y3 y4 hlea
    obtain ⟨τ', Wm, Lm, t1, t2, t3, t4⟩ := m_plays H.go'.1 H.go'.2.1 H.go'.TlM H.go'.TlOk
    have H2 : RelY W R g lim lea st m n σ' τ' := H.ext (Nat.le_refl _) s2 (eqM_0.trans t2)
    have hv : Lv g lim c (m 1) p' := ⟨hgc, g1.1, g1.2, hp2⟩
    have f0 : gA τ' 4 0 = iz c := by rw [← hc]; exact H2.2.2.2.2.1.1 0 (by decide)
    have f1 : gA τ' 4 1 = iz (m 1) := H2.2.2.2.2.1.1 1 (by decide)
    have f2 : gA τ' 4 2 = iz p' := by rw [← hp']; exact H2.2.2.2.2.1.1 2 (by decide)
    have d0 : gI σ' 36 3 = iz c := by rw [← hc]; exact H2.2.2.2.2.2.1.1
    have d1 : gI σ' 36 4 = iz (m 1) := H2.2.2.2.2.2.1.2.1
    have d2 : gI σ' 36 5 = iz p' := by rw [← hp']; exact H2.2.2.2.2.2.1.2.2.1
    obtain ⟨x, z1, a, rfl, z2⟩ := t_advice H2.YG H2.TlOk hg20 y3 y4 hlea s6 d0 d1 d2 hv
    obtain ⟨x', z3, a', τ2, rfl, z4, z5⟩ := m_advice H2.1 H2.2.1 H2.TlM H2.TlOk t3 f0 f1 f2 hv
    have ea : a = a' := z2.uniq (fun w => ⟨fun k => Cm_uniq s7 t4 hv k, fun k => Cm_uniq t4 s7 hv k⟩) z5
    have hh := m_here f0 f1 f2 hc20 (by omega) (by omega) hp2
    have es := (sx_eq (l := m 1) (p := p') hc20 (by omega) (by omega) hp2).2
    refine Both.of (r := iz a) (σ' := σ') (τ' := τ2) ?_ ?_ (Rel.n1' ⟨W, R, g, lim, lea, st, m, H2.ext (Nat.le_refl _) eqT.rfl z4⟩)
    · unfold f_T_advice
      rw [hS, bd_eq, if_pos rfl, s1, bd_eq]
      exact z1
    · unfold f_M_advice
      rw [nm_eq, i0, hS2, bd_eq, if_neg (by decide), t1, bd_eq, hh, bd_eq, ix_n es (by decide), (t3 _ es).1, nm_eq, ea]
      exact z3
