-- the contest, solved
theorem look_83 {g : Nat → Bool} {lim lea : Int} {tl : Nat → Int} {σ : Mm} {r q c : Nat} {l : Int} {W L : Nat → Int} {Q : Nat → Nat} (Y : YC g lim lea tl σ r) (F : FI g lim lea tl (sx c l 0) 0 q 0 σ W L Q (fun _ _ => false)) (hv : Lv g lim c l 0) :
    ∃ x, f_Co_lookOnePushAhead_83 σ (iz c) (iz l) (iz (sm (pM g c) 4 : Nat)) (iz (sm (pN g lim lea tl c l) 4 : Nat)) (iz (om (pV g lim lea tl c l) 4 : Nat)) 0 = some x ∧ ∃ σ' q' W' L' Q', x = (0, σ') ∧ eqC σ σ' ∧ FI g lim lea tl (sx c l 0 + 2) 0 q' 0 σ' W' L' Q' (fun _ _ => false) := by
  obtain ⟨b1, b2, b3, -⟩ := hv.b Y.2.2.2.2.1 Y.2.2.2.2.2.2.1
  have hs0 := (sx_eq (p := 0) b1 b2 b3 (by decide)).1
  unfold f_Co_lookOnePushAhead_83
  refine lp_ind (fun s => 2 - s.2.toNatClampNeg) (fun s => ∃ (σ' : Mm) (p q' : Nat) (W' L' : Nat → Int) (Q' : Nat → Nat), s = (σ', iz p) ∧ p ≤ 2 ∧ eqC σ σ' ∧ FI g lim lea tl (sx c l 0 + p) 0 q' 0 σ' W' L' Q' (fun _ _ => false)) _ (fun s hs => ?_) _ ⟨σ, 0, q, W, L, Q, rfl, by omega, eqC.rfl, F⟩ ?_
  · obtain ⟨σ', p, q', W', L', Q', rfl, hp, e, F'⟩ := hs
    dsimp only
    by_cases k : p < 2
    · left
      have e1 : sx c l p = sx c l 0 + p := by
        have := (sx_eq (p := p) b1 b2 b3 k).1
        omega
      have hv' : Lv g lim c l p := ⟨hv.1, hv.2.1, hv.2.2.1, k⟩
      obtain ⟨σ2, q2, W2, L2, Q2, a1, a2, a3⟩ := look1 (Y.eqC e) (by rw [e1]; exact F') hv'
      rw [e1] at a3
      refine ⟨_, a1, ⟨σ2, p + 1, q2, W2, L2, Q2, rfl, by omega, e.trans a2, a3⟩, ?_⟩
      dsimp only
      rw [iz_nat (by omega) (by omega), iz_nat (by omega) (by omega)]
      omega
    · right
      have : p = 2 := by omega
      subst this
      refine ⟨(0, σ'), ?_, σ', q', W', L', Q', rfl, e, F'⟩
      unfold f_Co_lookOnePushAhead_83_b
      rw [if_neg (by decide)]
      rfl
  · dsimp only
    omega
theorem look_43 {g : Nat → Bool} {lim lea : Int} {tl : Nat → Int} {σ : Mm} {r q c : Nat} {W L : Nat → Int} {Q : Nat → Nat} (Y : YC g lim lea tl σ r) (F : FI g lim lea tl (34 * c) 0 q 0 σ W L Q (fun _ _ => false)) (hc : g c = true) :
    ∃ x, f_Co_solve_43 σ (iz c) (-8) = some x ∧ ∃ σ' q' W' L' Q', x = Sum.inl (σ', iz ((c + 1 : Nat) : Int)) ∧ eqC σ σ' ∧ FI g lim lea tl (34 * (c + 1)) 0 q' 0 σ' W' L' Q' (fun _ _ => false) := by
  obtain ⟨y1, y2, y3, y4, y5, y6, y7, y8⟩ := id Y
  have hc20 := y5 c hc
  unfold f_Co_solve_43
  refine lp_ind (fun s => (9 - s.2.toInt).toNat) (fun s => ∃ (σ' : Mm) (k q' : Nat) (W' L' : Nat → Int) (Q' : Nat → Nat), s = (σ', iz ((k : Int) - 8)) ∧ k ≤ 17 ∧ eqC σ σ' ∧ FI g lim lea tl (34 * c + 2 * k) 0 q' 0 σ' W' L' Q' (fun _ _ => false)) _ (fun s hs => ?_) _ ⟨σ, 0, q, W, L, Q, rfl, by omega, eqC.rfl, F⟩ ?_
  · obtain ⟨σ', k, q', W', L', Q', rfl, hk, e, F'⟩ := hs
    have Y' := Y.eqC e
    dsimp only
    by_cases k17 : k < 17
    · left
      have hV := t_verdict (l := (k : Int) - 8) Y'.2.2.1 y6 y7 (by omega) (by omega)
      have hvc := vd_cases lim ((k : Int) - 8)
      have kk : iz ((k : Int) - 8) + 1 = iz (((k + 1 : Nat) : Int) - 8) := by
        rw [i1, iz_add]
        congr 1
        omega
      have es := (sx_eq (c := c) (l := (k : Int) - 8) (p := 0) hc20 (by omega) (by omega) (by decide)).1
      have mu : ∀ σ2 : Mm, (9 - ((σ2, iz (((k + 1 : Nat) : Int) - 8)) : Mm × Int32).2.toInt).toNat < (9 - ((σ', iz ((k : Int) - 8)) : Mm × Int32).2.toInt).toNat := fun σ2 => by
        dsimp only
        rw [iz_T (by omega) (by omega), iz_T (by omega) (by omega)]
        omega
      by_cases q : vd lim ((k : Int) - 8) = 0
      · have hv : Lv g lim c ((k : Int) - 8) 0 := ⟨hc, (vd_0.mp q).1, (vd_0.mp q).2, by decide⟩
        have e1 : sx c ((k : Int) - 8) 0 = 34 * c + 2 * k := by omega
        obtain ⟨x, a0, σ2, q2, W2, L2, Q2, rfl, a2, a3⟩ := look_83 Y' (by rw [e1]; exact F') hv
        have tl := t_look (fun K => Y'.rk K) Y'.2.2.1 y4 y5 y6 y7 y8 hc (l := (k : Int) - 8) (by omega) (by omega)
        unfold f_Co_lookOnePushAhead_80 at tl
        rw [a0] at tl
        rw [e1] at a3
        refine ⟨(σ2, iz (((k + 1 : Nat) : Int) - 8)), ?_, ⟨σ2, k + 1, q2, W2, L2, Q2, rfl, by omega, e.trans a2, by rw [show 34 * c + 2 * (k + 1) = 34 * c + 2 * k + 2 by omega]; exact a3⟩, mu σ2⟩
        unfold f_Co_solve_43_b
        rw [if_pos (by rw [i8, iz_le (by omega) (by omega) (by omega) (by omega)]; omega), Y'.rk, hV, bd_eq, if_pos (by rw [q, i0]), tl, bd_eq, nm_eq, kk]
      · refine ⟨(σ', iz (((k + 1 : Nat) : Int) - 8)), ?_, ⟨σ', k + 1, q', W', L', Q', rfl, by omega, e, F'.next (by omega) (fun u hu a1 a2 => ?_)⟩, mu σ'⟩
        · unfold f_Co_solve_43_b
          rw [if_pos (by rw [i8, iz_le (by omega) (by omega) (by omega) (by omega)]; omega), Y'.rk, hV, bd_eq, if_neg (by rw [i0, iz_eq (by omega) (by omega) (by omega) (by omega)]; exact q), nm_eq, kk]
        · have e2 : dL u = (k : Int) - 8 := by unfold dL; omega
          have := hu.1.2
          rw [e2] at this
          exact q (vd_0.mpr ⟨this.1, this.2.1⟩)
    · right
      have : k = 17 := by omega
      subst this
      refine ⟨Sum.inl (σ', iz ((c + 1 : Nat) : Int)), ?_, σ', q', W', L', Q', rfl, e, by rw [show 34 * (c + 1) = 34 * c + 2 * 17 by omega]; exact F'⟩
      unfold f_Co_solve_43_b
      rw [if_neg (by decide), nm_eq, i1, iz_add]
      rfl
  · dsimp only
    rw [show ((-8 : Int32)).toInt = -8 from by decide]
    omega
theorem look_20 {g : Nat → Bool} {lim lea : Int} {tl : Nat → Int} {σ : Mm} {r : Nat} {W L : Nat → Int} {Q : Nat → Nat} (Y : YC g lim lea tl σ r) (F : FI g lim lea tl 0 0 0 0 σ W L Q (fun _ _ => false)) :
    ∃ x, f_Co_solve_20 σ 0 = some x ∧ ∃ σ' q' D' W' L' Q' Ct', x = (0, σ') ∧ eqC σ σ' ∧ FI g lim lea tl 680 q' q' D' σ' W' L' Q' Ct' := by
  obtain ⟨y1, y2, y3, y4, y5, y6, y7, y8⟩ := id Y
  unfold f_Co_solve_20
  refine lp_ind (fun s => 20 - s.2.toNatClampNeg) (fun s => ∃ (σ' : Mm) (c q' : Nat) (W' L' : Nat → Int) (Q' : Nat → Nat), s = (σ', iz c) ∧ c ≤ 20 ∧ eqC σ σ' ∧ FI g lim lea tl (34 * c) 0 q' 0 σ' W' L' Q' (fun _ _ => false)) _ (fun s hs => ?_) _ ⟨σ, 0, 0, W, L, Q, rfl, by omega, eqC.rfl, F⟩ ?_
  · obtain ⟨σ', c, q', W', L', Q', rfl, hc, e, F'⟩ := hs
    have Y' := Y.eqC e
    dsimp only
    by_cases k : c < 20
    · left
      have hbk := t_isBrick Y'.2.2.1.2.2.1 y4 k
      have mu : ∀ σ2 : Mm, 20 - ((σ2, iz ((c + 1 : Nat) : Int)) : Mm × Int32).2.toNatClampNeg < 20 - ((σ', iz (c : Int)) : Mm × Int32).2.toNatClampNeg := fun σ2 => by
        dsimp only
        rw [iz_nat (by omega) (by omega), iz_nat (by omega) (by omega)]
        omega
      by_cases hg : g c = true
      · obtain ⟨x, a0, σ2, q2, W2, L2, Q2, rfl, a2, a3⟩ := look_43 Y' F' hg
        refine ⟨(σ2, iz ((c + 1 : Nat) : Int)), ?_, ⟨σ2, c + 1, q2, W2, L2, Q2, rfl, by omega, e.trans a2, a3⟩, mu σ2⟩
        unfold f_Co_solve_20_b
        rw [if_pos (by rw [i20, iz_lt (by omega) (by omega) (by omega) (by omega)]; omega), Y'.rk, hbk, bd_eq, if_pos hg, if_pos rfl, a0]
      · refine ⟨(σ', iz ((c + 1 : Nat) : Int)), ?_, ⟨σ', c + 1, q', W', L', Q', rfl, by omega, e, F'.next (by omega) (fun u hu a1 a2 => ?_)⟩, mu σ'⟩
        · unfold f_Co_solve_20_b
          rw [if_pos (by rw [i20, iz_lt (by omega) (by omega) (by omega) (by omega)]; omega), Y'.rk, hbk, bd_eq, if_neg hg, if_neg (by decide), nm_eq, i1, iz_add]
          rfl
        · have := hu.1.1
          rw [show u / 34 = c by omega] at this
          exact hg this
    · right
      have : c = 20 := by omega
      subst this
      obtain ⟨x, b1, σ2, q2, D2, W2, L2, Q2, Ct2, rfl, b2, b3⟩ := queue_all Y' F'
      refine ⟨(0, σ2), ?_, σ2, q2, D2, W2, L2, Q2, Ct2, rfl, e.trans b2, b3⟩
      unfold f_Co_solve_20_b f_Co_solve_78
      rw [if_neg (by decide), b1]
      rfl
  · dsimp only
    omega
theorem solve_all {σ : Mm} {r : Nat} {g : Nat → Bool} {lim lea : Int} {tl : Nat → Int} (hr : r = 11 ∨ r = 13) (G : YG σ r g lim lea tl) (hT : TlOk g tl) (hg : ∀ c, g c = true → c < 20) (hl1 : 2 ≤ lim) (hl2 : lim ≤ 9) (he : -2 ≤ lea ∧ lea ≤ 2) : ∃ σ', Solved σ σ' r g lim lea tl := by
  have hf := f_fill (sI (sR σ 21 5 (some r)) 21 4 0) 22 680 0 (by decide)
  obtain ⟨σ3, h3⟩ : ∃ σ3, σ3 = sAs (sI (sR σ 21 5 (some r)) 21 4 0) 22 (fun j => if j < 680 then 0 else gA (sI (sR σ 21 5 (some r)) 21 4 0) 22 j) := ⟨_, rfl⟩
  rw [← h3] at hf
  have eI : ∀ c k, ¬ (c = 21 ∧ k = 4) → gI σ3 c k = gI σ c k := fun c k h => by
    rw [h3, gI_sAs, gI_sI, if_neg h, gI_sR]
  have eA : ∀ c, c ≠ 22 → gA σ3 c = gA σ c := fun c h => by
    rw [h3, gA_sAs, if_neg h, gA_sI, gA_sR]
  have e22 : ∀ j, j < 680 → gA σ3 22 j = 0 := fun j hj => by
    rw [h3, gA_sAs, if_pos rfl, if_pos hj]
  have eR : ∀ c k, ¬ (c = 21 ∧ k = 5) → gR σ3 c k = gR σ c k := fun c k h => by
    rw [h3, gR_sAs, gR_sI, gR_sR, if_neg h]
  have eR5 : gR σ3 21 5 = some r := by
    rw [h3, gR_sAs, gR_sI, gR_sR, if_pos ⟨rfl, rfl⟩]
  have e4 : gI σ3 21 4 = iz ((0 : Nat) : Int) := by
    rw [h3, gI_sAs, gI_sI, if_pos ⟨rfl, rfl⟩]
    rfl
  have eJ : gJ σ3 = gJ σ := by rw [h3]; rfl
  have Y : YC g lim lea tl σ3 r := by
    refine ⟨eR5, hr, ⟨?_, ?_, fun c hc => ?_, fun c w hc hw => ?_⟩, hT, hg, hl1, hl2, he⟩
    · rw [eI _ _ (by omega)]; exact G.1
    · rw [eI _ _ (by omega)]; exact G.2.1
    · rw [eA _ (by rcases hr with rfl | rfl <;> decide)]; exact G.2.2.1 c hc
    · rw [eA _ (by omega)]; exact G.2.2.2 c w hc hw
  have F : FI g lim lea tl 0 0 0 0 σ3 (fun _ => 0) (fun _ => 0) (fun _ => 0) (fun _ _ => false) := by
    refine ⟨⟨fun j hj => ⟨e22 j hj, ⟨Int.le_refl 0, (by decide : (0 : Int) ≤ 2)⟩, fun z => absurd rfl z⟩, fun s _ hs => absurd hs (Nat.not_lt_zero s), fun a ha => absurd ha (Nat.not_lt_zero a), e4⟩, ⟨fun a ha => absurd ha (Nat.not_lt_zero a), fun a b _ hb => absurd hb (Nat.not_lt_zero b), fun s _ z => absurd rfl z, by rw [cz_all], fun a ha => absurd ha (Nat.not_lt_zero a), fun a ha => absurd ha (Nat.not_lt_zero a), fun a b _ _ hb => absurd hb (Nat.not_lt_zero b), fun a ha => absurd ha (Nat.not_lt_zero a), fun a ha => absurd ha (Nat.not_lt_zero a), fun _ _ z => by cases z⟩, fun u _ => ⟨Or.inl rfl, fun _ => rfl, Int.le_refl _, fun z => ?_, fun z => ?_, fun z => absurd z (Nat.not_lt_zero u)⟩⟩
    · dsimp only at z; omega
    · dsimp only at z; omega
  obtain ⟨x, a0, σ', q', D', W', L', Q', Ct', rfl, a1, C', J', I'⟩ := look_20 Y F
  refine ⟨σ', W', L', ?_, ?_, fun k => ?_, ?_, ?_, C'.1, LC.of hg hl2 J' I'⟩
  · unfold f_Co_solve
    rw [nm_eq, nm_eq, hf, bd_eq, a0]
  · refine eqT.trans ⟨fun c k hc => eI c k (fun ⟨z, _⟩ => by rw [z] at hc; cases hc), fun c hc => eA c (fun z => by rw [z] at hc; cases hc), eR _ _ (by decide), eR _ _ (by decide), eJ, fun z => ?_⟩ a1.eqT
    unfold Rparts
    rw [eR _ _ (by decide), eR _ _ (by decide)]
    exact z
  · rw [a1.1 13 k (by omega)]; exact eI 13 k (by omega)
  · rw [a1.2.1 14 (by decide)]; exact eA 14 (by decide)
  · rw [a1.2.1 15 (by decide)]; exact eA 15 (by decide)
theorem b_game {n : Nat} {σ τ : Mm} (h : Rel n σ τ) (v : Int32) : Both n (f_T_game σ v) (f_M_game τ v) := b_game_of h (fun W R g lim lea st m H => solve_all (Or.inl rfl) H.YG H.TlOk H.1.g20 H.1.2.2.1 H.1.2.2.2.1 ⟨H.1.2.2.2.2.1, H.1.2.2.2.2.2.1⟩) v
