-- decides, the reference's side
theorem m_dec_off1 {τ : Mm} {i : Nat} {w0 a : Int32} (hi : i < 20) (h : gA τ 4 (7 + i) = 0) : f_M_decides_33_b w0 τ a (iz i) = some (.inl (τ, a, iz ((i + 1 : Nat) : Int))) := by
  have k : iz (i : Int) < 20 := by rw [i20, iz_lt (by omega) (by omega) (by omega) (by omega)]; omega
  have kk : iz (i : Int) + 1 = iz ((i + 1 : Nat) : Int) := by rw [i1, iz_add]; rfl
  have k7 : (7 : Int32) + iz (i : Int) = iz ((7 + i : Nat) : Int) := by rw [i7, iz_add]; rfl
  unfold f_M_decides_33_b
  rw [if_pos k, k7, ix_n (by omega) (by decide), h, nm_eq, if_pos rfl, nm_eq, kk]
theorem m_dec_off2 {τ : Mm} {i : Nat} {w0 a : Int32} (hi : i < 20) (h : f_M_isGround τ (rm32 (iz i) 5) (iz i / 5) = some (0, τ)) : f_M_decides_33_b w0 τ a (iz i) = some (.inl (τ, a, iz ((i + 1 : Nat) : Int))) := by
  have k : iz (i : Int) < 20 := by rw [i20, iz_lt (by omega) (by omega) (by omega) (by omega)]; omega
  have kk : iz (i : Int) + 1 = iz ((i + 1 : Nat) : Int) := by rw [i1, iz_add]; rfl
  have k7 : (7 : Int32) + iz (i : Int) = iz ((7 + i : Nat) : Int) := by rw [i7, iz_add]; rfl
  unfold f_M_decides_33_b
  rw [if_pos k, k7, ix_n (by omega) (by decide), nm_eq]
  by_cases q : gA τ 4 (7 + i) = 0
  · rw [if_pos q, nm_eq, kk]
  · rw [if_neg q, h, bd_eq, if_pos rfl, nm_eq, kk]
theorem m_dec_on {τ τ2 : Mm} {i s : Nat} {a : Int32} {w0 w1 t : Int} (hi : i < 20) (h : gA τ 4 (7 + i) = iz t) (ht : -4 ≤ t ∧ t ≤ 4) (ht0 : t ≠ 0) (hw0 : 0 ≤ w0 ∧ w0 ≤ 2) (hw1 : 0 ≤ w1 ∧ w1 ≤ 2) (hg : f_M_isGround τ (rm32 (iz i) 5) (iz i / 5) = some (1, τ)) (s1 : f_M_plays (sA τ 4 (7 + i) 0) = some (0, τ2)) (hh : f_M_here τ2 = some (iz (s : Nat), τ2)) (hs : s < 680) (hw : gA τ2 9 s = iz w1) :
    f_M_decides_33_b (iz w0) τ a (iz i) = some (.inl (sA τ2 4 (7 + i) (iz t), (if w1 = w0 then a else a ||| (1 <<< (iz i &&& 31))), iz ((i + 1 : Nat) : Int))) := by
  have k : iz (i : Int) < 20 := by rw [i20, iz_lt (by omega) (by omega) (by omega) (by omega)]; omega
  have kk : iz (i : Int) + 1 = iz ((i + 1 : Nat) : Int) := by rw [i1, iz_add]; rfl
  have k7 : (7 : Int32) + iz (i : Int) = iz ((7 + i : Nat) : Int) := by rw [i7, iz_add]; rfl
  have fin : ∀ b, f_M_decides_103 τ2 (iz i) (iz t) a b = some (.inl (sA τ2 4 (7 + i) (iz t), a ||| b, iz ((i + 1 : Nat) : Int))) := fun b => by
    unfold f_M_decides_103
    rw [nm_eq, k7, ix_n (by omega) (by decide), nm_eq, nm_eq, kk]
  unfold f_M_decides_33_b
  rw [if_pos k, k7, ix_n (by omega) (by decide), h, nm_eq, if_neg (by rw [i0, iz_eq (by omega) (by omega) (by omega) (by omega)]; exact ht0), hg, bd_eq, if_neg (by decide), ix_n (by omega) (by decide), nm_eq, s1, bd_eq, hh, bd_eq, ix_n hs (by decide), hw]
  by_cases q : w1 = w0
  · rw [if_pos (by rw [q]), if_pos q, fin, Int32.or_zero]
  · rw [if_neg (by rw [iz_eq (by omega) (by omega) (by omega) (by omega)]; exact q), if_neg q, fin]
theorem m_ground_cell {τ : Mm} {W R : Nat} {g : Nat → Bool} {lim lea st : Int} (Y : Yok W R g lim lea st) (M : YM τ W R g lim lea st) {i : Nat} (hi : i < 20) : f_M_isGround τ (rm32 (iz i) 5) (iz i / 5) = some (if g i = true then 1 else 0, τ) := by
  have d4 : rm32 (iz (i : Int)) 5 = iz ((i % 5 : Nat) : Int) := by
    rw [i5, iz_rm (by omega) (by omega) (by decide) (by decide)]; rfl
  have d5 : iz (i : Int) / 5 = iz ((i / 5 : Nat) : Int) := by
    rw [i5, iz_div (by omega) (by omega) (by decide) (by decide)]; rfl
  rw [d4, d5, m_isGround Y M (by omega) (by omega) (by omega) (by omega)]
  by_cases q : g i = true
  · rw [if_pos q, if_pos ((gx_cell hi).mpr q)]
  · rw [if_neg q, if_neg (fun z => q ((gx_cell hi).mp z))]
theorem YM.sA4 {τ : Mm} {W R : Nat} {g : Nat → Bool} {lim lea st : Int} (M : YM τ W R g lim lea st) (k : Nat) (v : Int32) : YM (sA τ 4 k v) W R g lim lea st := by
  unfold YM at M ⊢
  rw [gA_sA, if_neg (by decide), gI_sA]
  exact M
theorem m_decides {τ : Mm} {W R : Nat} {g : Nat → Bool} {lim lea st : Int} {tl : Nat → Int} (Y : Yok W R g lim lea st) (M : YM τ W R g lim lea st) (T : TlM τ g tl) (hT : TlOk g tl) {c p : Nat} {l w0 : Int} (e0 : gA τ 4 0 = iz c) (e1 : gA τ 4 1 = iz l) (e2 : gA τ 4 2 = iz p) (hv : Lv g lim c l p) (hw0 : 0 ≤ w0 ∧ w0 ≤ 2) (P : Nat → Prop) [DecidablePred P] (hP : ∀ i, P i ↔ Dc g lim lea tl (sx c l p) w0 i) :
    ∃ x, f_M_decides_33 τ (iz w0) 0 0 = some x ∧ ∃ τ', x = (acc P 20, τ') ∧ eqM τ τ' := by
  obtain ⟨b1, b2, b3, b4⟩ := hv.b Y.g20 Y.2.2.2.1
  have s2 := (sx_eq b1 b2 b3 b4).2
  unfold f_M_decides_33
  refine lp_ind (fun s => 20 - s.2.2.toNatClampNeg) (fun s => ∃ (τ' : Mm) (i : Nat), s = (τ', acc P i, iz i) ∧ i ≤ 20 ∧ eqM τ τ') _ (fun s hs => ?_) _ ⟨τ, 0, rfl, by omega, eqM.rfl⟩ ?_
  · obtain ⟨τ', i, rfl, hi, hE⟩ := hs
    dsimp only
    by_cases k : i < 20
    · left
      have mu : ∀ (τ2 : Mm) (b : Int32), 20 - ((τ2, b, iz ((i + 1 : Nat) : Int)) : Mm × Int32 × Int32).2.2.toNatClampNeg < 20 - (iz (i : Int)).toNatClampNeg := fun τ2 b => by
        dsimp only
        rw [iz_nat (by omega) (by omega), iz_nat (by omega) (by omega)]
        omega
      have M' := M.ext hE
      have T' : TlM τ' g tl := fun c hc => (congrFun (hE.2.1 4 (by decide)) _).trans (T c hc)
      have hgr := m_ground_cell Y M' k
      by_cases q1 : g i = true
      · rw [if_pos q1] at hgr
        have g4 := T' i q1
        by_cases q2 : tl i = 0
        · have ea : acc P (i + 1) = acc P i := by rw [acc, if_neg (fun z => ((hP i).mp z).2.1 q2)]
          exact ⟨_, m_dec_off1 k (by rw [g4, q2, i0]), ⟨τ', i + 1, by rw [ea], by omega, hE⟩, mu ..⟩
        · have T1 : TlM (sA τ' 4 (7 + i) 0) g (zt tl i) := fun c hc => by
            have z := T' c hc
            rw [gA_sA, if_pos rfl]
            unfold zt
            by_cases e : c = i
            · rw [e, pk_us, if_pos rfl, i0]
            · rw [pk_un (by omega), if_neg e]
              exact z
          obtain ⟨τ2, Wm, Lm, t1, t2, t3, t4⟩ := m_plays Y (M'.sA4 (7 + i) 0) T1 (zt_ok hT i)
          have h4 : gA τ2 4 = gA (sA τ' 4 (7 + i) 0) 4 := t2.2.1 4 (by decide)
          have lo : ∀ k, k < 3 → gA τ2 4 k = gA τ 4 k := fun k hk => by
            rw [h4, gA_sA, if_pos rfl, pk_un (by omega), hE.2.1 4 (by decide)]
          have hh := m_here ((lo 0 (by decide)).trans e0) ((lo 1 (by decide)).trans e1) ((lo 2 (by decide)).trans e2) b1 b2 b3 b4
          obtain ⟨w1, -, w3, -⟩ := t3 _ s2
          have ton := m_dec_on (a := acc P i) (w0 := w0) k g4 (hT i q1) q2 hw0 w3 hgr t1 hh s2 w1
          have hD := (hP i).trans (Dc_iff (w0 := w0) t4 hv q1 q2)
          have ea : acc P (i + 1) = (if Wm (sx c l p) = w0 then acc P i else acc P i ||| (1 <<< (iz i &&& 31))) := by
            rw [acc]
            by_cases z : Wm (sx c l p) = w0
            · rw [if_pos z, if_neg (fun y => hD.mp y z)]
            · rw [if_neg z, if_pos (hD.mpr z)]
          refine ⟨_, ton, ⟨_, i + 1, by rw [ea], by omega, hE.trans ?_⟩, mu ..⟩
          refine ⟨fun k hk => ?_, fun c hc => ?_, fun k hk => ?_, ?_⟩
          · rw [gI_sA, t2.1 k hk, gI_sA]
          · by_cases e : c = 4
            · rw [e, gA_sA, if_pos rfl, h4, gA_sA, if_pos rfl]
              funext j
              by_cases e2 : j = 7 + i
              · rw [e2, pk_us, g4]
              · rw [pk_un e2, pk_un e2]
            · rw [gA_sA, if_neg e, t2.2.1 c hc, gA_sA, if_neg e]
          · rw [gA_sA, if_neg (by decide), t2.2.2.1 k hk, gA_sA, if_neg (by decide)]
          · rw [gJ_sA, t2.2.2.2, gJ_sA]
      · rw [if_neg q1] at hgr
        have ea : acc P (i + 1) = acc P i := by rw [acc, if_neg (fun z => q1 ((hP i).mp z).1)]
        exact ⟨_, m_dec_off2 k hgr, ⟨τ', i + 1, by rw [ea], by omega, hE⟩, mu ..⟩
    · right
      have : i = 20 := by omega
      subst this
      refine ⟨(acc P 20, τ'), ?_, τ', rfl, hE⟩
      unfold f_M_decides_33_b
      rw [if_neg (by decide)]
      rfl
  · dsimp only
    omega
theorem b_decides {n : Nat} {σ τ : Mm} (h : Rel n σ τ) : Both n (f_T_decides σ) (f_M_decides τ) := by
  have h' := h
  obtain ⟨W, R, g, lim, lea, st, m, H⟩ := h'
  have H' := H
  obtain ⟨h1, h2, h3, h4, h5, h6, h7, h8, h9, h10, h11, h12, h13, h14⟩ := H'
  have hst := h1.st
  have h3' := h3
  have h6' := h6
  have h4' := h4
  obtain ⟨p, d, e1, e2, e3, e4, e5, e6, e7, e8⟩ := h3'
  obtain ⟨c0, c1, c2, c3, c4, c5, c6, hTl⟩ := h6'
  obtain ⟨g0, g1, g2, g3, g4, g5, g6, g7⟩ := h4'
  have b0 := h5.1 0 (by decide)
  have b1 := h5.1 1 (by decide)
  have b2 := h5.1 2 (by decide)
  have b3 := h5.1 3 (by decide)
  have b4 := h5.1 4 (by decide)
  have b5 := h5.1 5 (by decide)
  have b6 := h5.1 6 (by decide)
  have epl : ∀ K : Nat → Option (Int32 × Mm), rk (gR σ 0 2) okPl K = K p := fun K => by rw [e1]; rcases e3 with ⟨rfl, _⟩ | ⟨rfl, _⟩ <;> rfl
  obtain ⟨y1, y2, y3, y4, y5, y6, y7, y8⟩ := h1
  obtain ⟨m1, m2, m3, m4, m5, m6⟩ := h2
  have h1 : Yok W R g lim lea st := H.1
  have h2 : YM τ W R g lim lea st := H.2.1
  have hS := t_hasNoStart h3 (by omega) (by omega)
  have hS2 := m_hasStart H.go'.1 H.go'.2.1
  by_cases q : st = -9
  · rw [if_pos q] at hS hS2
    refine Both.of (r := iz (-2)) ?_ ?_ h.n1
    · unfold f_T_decides
      rw [hS, bd_eq, if_neg (by decide)]
      rfl
    · unfold f_M_decides
      rw [nm_eq, i0, hS2, bd_eq, if_pos (by decide)]
      rfl
  · rw [if_neg q] at hS hS2
    obtain ⟨c, hc, hgc⟩ := g0.2 q
    have hc20 := h1.g20 c hgc
    obtain ⟨p', hp', hp2⟩ : ∃ p' : Nat, m 2 = p' ∧ p' < 2 := by
      rcases g2 with h | h
      · exact ⟨0, h, by omega⟩
      · exact ⟨1, h, by omega⟩
    have hg20 := H.1.g20
    have hlea : -2 ≤ lea ∧ lea ≤ 2 := ⟨y5, y6⟩
    obtain ⟨σ', Wt, Lt, s1, s2, -, -, -, s6, s7⟩ := solve_all (σ := σ) (Or.inl rfl) H.YG H.TlOk hg20 y3 y4 hlea
    obtain ⟨τ', Wm, Lm, t1, t2, t3, t4⟩ := m_plays H.go'.1 H.go'.2.1 H.go'.TlM H.go'.TlOk
    have H2 : RelY W R g lim lea st m n σ' τ' := H.ext (Nat.le_refl _) s2 (eqM_0.trans t2)
    have hv : Lv g lim c (m 1) p' := ⟨hgc, g1.1, g1.2, hp2⟩
    obtain ⟨σ0, x1, x2, x3, x4, x5⟩ := t_gbec H2
    have f0 : gA τ' 4 0 = iz c := by rw [← hc]; exact H2.2.2.2.2.1.1 0 (by decide)
    have f1 : gA τ' 4 1 = iz (m 1) := H2.2.2.2.2.1.1 1 (by decide)
    have f2 : gA τ' 4 2 = iz p' := by rw [← hp']; exact H2.2.2.2.2.1.1 2 (by decide)
    have d0 : ∀ σ2, RelY W R g lim lea st m n σ2 τ' → gI σ2 36 3 = iz c ∧ gI σ2 36 4 = iz (m 1) ∧ gI σ2 36 5 = iz p' := fun σ2 H3 => by
      refine ⟨?_, H3.2.2.2.2.2.1.2.1, ?_⟩
      · rw [← hc]; exact H3.2.2.2.2.2.1.1
      · rw [← hp']; exact H3.2.2.2.2.2.1.2.2.1
    have es := (sx_eq (l := m 1) (p := p') hc20 (by omega) (by omega) hp2).2
    have ew := (LC.uniq s7 t4 c (m 1) p' hv).1
    have hw0 := (s6 _ es).2.1
    generalize hPd : (fun i : Nat => Dc g lim lea (fun c => m (7 + c)) (sx c (m 1) p') (Wt (sx c (m 1) p')) i) = P
    have hP : ∀ i, P i ↔ Dc g lim lea (fun c => m (7 + c)) (sx c (m 1) p') (Wt (sx c (m 1) p')) i := fun i => by rw [← hPd]
    have : DecidablePred P := fun i => Classical.propDecidable _
    obtain ⟨u1, u2, u3⟩ := d0 σ' H2
    obtain ⟨v1, v2, v3⟩ := d0 σ0 x2
    obtain ⟨_, z1, σ3, rfl, z2⟩ := t_decides x3 H2.TlOk hg20 y3 y4 hlea v1 v2 v3 hv hw0 P hP
    obtain ⟨_, z3, τ3, rfl, z4⟩ := m_decides H2.1 H2.2.1 H2.TlM H2.TlOk f0 f1 f2 hv hw0 P hP
    have hh := m_here f0 f1 f2 hc20 (by omega) (by omega) hp2
    have wn := t_winner (l := m 1) s6 hc20 (by omega) (by omega) hp2
    refine Both.of (r := acc P 20) (σ' := σ3) (τ' := τ3) ?_ ?_ (Rel.n1' ⟨W, R, g, lim, lea, st, m, x2.ext (Nat.le_refl _) z2 z4⟩)
    · unfold f_T_decides
      rw [hS, bd_eq, if_pos rfl, s1, bd_eq, u1, u2, u3, wn, bd_eq, x1, bd_eq]
      exact z1
    · unfold f_M_decides
      rw [nm_eq, i0, hS2, bd_eq, if_neg (by decide), t1, bd_eq, hh, bd_eq, ix_n es (by decide), (t3 _ es).1, ew, nm_eq]
      exact z3
