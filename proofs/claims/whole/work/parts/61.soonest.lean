-- the call soonest
theorem t_seek49 {σ : Mm} {g : Nat → Bool} {lim lea : Int} {tl : Nat → Int} {sd : Int} {D : Nat → Int} {s0 n : Nat} {P Wy : Nat → Nat} {N : Nat} {S B Dp : Nat → Nat} {F Sn : Nat → Int} (G : YG σ 11 g lim lea tl) (hT : TlOk g tl) (hg : ∀ c, g c = true → c < 20) (hl1 : 2 ≤ lim) (hl2 : lim ≤ 9) (he : -2 ≤ lea ∧ lea ≤ 2) (hsd : sd = 1 ∨ sd = 2) (hDE : DE (Tw g lim lea tl) (Ew g lim lea tl sd) (Vw g) D) (hW : ∀ d, d < n → Wy d < 4) (A : AW g lim lea tl sd D s0 n P Wy σ N 0 0 S B Dp F Sn) (hN : 0 < N) :
    ∃ z, f_Wa_seek_49 σ (iz sd) 0 = some z ∧ ∃ σ' r, z = (iz r, σ') ∧ eqT σ σ' ∧ ((r = -9 ∧ D s0 = -9) ∨ (r = n ∧ D s0 = n ∧ n ≤ 340 ∧ ∀ d, d < n → gA σ' 32 d = iz (Wy d : Nat))) := by
  unfold f_Wa_seek_49
  refine lp_ind (fun s => 340 - s.2.toNatClampNeg) (fun z => ∃ (σ' : Mm) (h N' : Nat) (S' B' Dp' : Nat → Nat) (F' Sn' : Nat → Int), z = (σ', iz h) ∧ h ≤ N' ∧ N' ≤ 340 ∧ eqT σ σ' ∧ ((h < N' ∧ AW g lim lea tl sd D s0 n P Wy σ' N' h 0 S' B' Dp' F' Sn') ∨ (h = N' ∧ gI σ' 26 6 = iz N' ∧ D s0 = -9))) _ (fun z hz => ?_) _ ⟨σ, 0, N, S, B, Dp, F, Sn, rfl, by omega, by have := A.2.1.2.2.1; omega, eqT.rfl, Or.inl ⟨hN, A⟩⟩ ?_
  · obtain ⟨σ', h, N', S', B', Dp', F', Sn', rfl, hh, hN', e, hc⟩ := hz
    dsimp only
    rcases hc with ⟨h1, A'⟩ | ⟨h1, h2, h3⟩
    · have e6 := A'.1.2.1
      have kN : iz (h : Int) < iz (N' : Int) := by rw [iz_lt (by omega) (by omega) (by omega) (by omega)]; omega
      have k3 : iz (h : Int) < 340 := by rw [i340, iz_lt (by omega) (by omega) (by omega) (by omega)]; omega
      have kk : iz (h : Int) + 1 = iz ((h + 1 : Nat) : Int) := by rw [i1, iz_add]; rfl
      obtain ⟨_, a1, σ2, r, rfl, a2, a3⟩ := t_visitFrom (G.eqT e) hT hg hl1 hl2 he hsd hDE A' h1
      rcases a3 with ⟨rfl, N2, S2, B2, Dp2, F2, Sn2, a4, a5⟩ | ⟨u, rfl, a4, a5, a6⟩
      · left
        have hN2 : N2 ≤ 340 := by have := a4.2.1.2.2.1; omega
        refine ⟨(σ2, iz ((h + 1 : Nat) : Int)), ?_, ⟨σ2, h + 1, N2, S2, B2, Dp2, F2, Sn2, rfl, by omega, hN2, e.trans a2, ?_⟩, ?_⟩
        · unfold f_Wa_seek_49_b
          rw [e6, if_pos kN, if_pos k3, a1, bd_eq, if_pos (by decide), nm_eq, kk]
        · obtain ⟨M2, J2, C2⟩ := a4
          by_cases q : h + 1 < N2
          · exact Or.inl ⟨q, M2, J2.head q, C2.head⟩
          · have en : h + 1 = N2 := by omega
            refine Or.inr ⟨en, M2.2.1, ?_⟩
            have := C2.head
            rw [en] at this
            exact this.none
        · dsimp only
          rw [iz_nat (by omega) (by omega), iz_nat (by omega) (by omega)]
          omega
      · right
        obtain ⟨_, b1, σ3, rfl, b2, b3⟩ := t_write hW a6
        have hn340 := a6.choose_spec.2.1
        refine ⟨(iz n, σ3), ?_, σ3, n, rfl, (e.trans a2).trans b2, Or.inr ⟨rfl, a5, hn340, b3⟩⟩
        unfold f_Wa_seek_49_b f_Wa_seek_81
        rw [e6, if_pos kN, if_pos k3, a1, bd_eq, if_neg (by rw [i0, iz_lt (by omega) (by omega) (by omega) (by omega)]; omega), b1, bd_eq]
        rfl
    · right
      refine ⟨(iz (-9), σ'), ?_, σ', -9, rfl, e, Or.inl ⟨rfl, h3⟩⟩
      unfold f_Wa_seek_49_b
      rw [h2, if_neg (by rw [iz_lt (by omega) (by omega) (by omega) (by omega)]; omega)]
      rfl
  · dsimp only
    omega
theorem t_seek {σ : Mm} {g : Nat → Bool} {lim lea l : Int} {tl : Nat → Int} {sd : Int} {D : Nat → Int} {c n : Nat} {P Wy : Nat → Nat} (G : YG σ 11 g lim lea tl) (hT : TlOk g tl) (hg : ∀ c, g c = true → c < 20) (hl1 : 2 ≤ lim) (hl2 : lim ≤ 9) (he : -2 ≤ lea ∧ lea ≤ 2) (hsd : sd = 1 ∨ sd = 2) (hDE : DE (Tw g lim lea tl) (Ew g lim lea tl sd) (Vw g) D) (hc : g c = true) (l1 : -9 < l) (l2 : l < 9) (hW : ∀ d, d < n → Wy d < 4) (hn : D (17 * (c : Int) + l + 8).toNat = -9 ∨ (0 < n ∧ D (17 * (c : Int) + l + 8).toNat = n ∧ GP (Tw g lim lea tl) (Ew g lim lea tl sd) (Vw g) D n (17 * (c : Int) + l + 8).toNat P Wy)) :
    ∃ σ' r, f_Wa_seek σ 11 (iz c) (iz l) (iz sd) = some (iz r, σ') ∧ eqT σ σ' ∧ ((r = -9 ∧ D (17 * (c : Int) + l + 8).toNat = -9) ∨ (r = n ∧ D (17 * (c : Int) + l + 8).toNat = n ∧ n ≤ 340 ∧ ∀ d, d < n → gA σ' 32 d = iz (Wy d : Nat))) := by
  have hc20 := hg c hc
  obtain ⟨s0, hs0⟩ : ∃ s0 : Nat, s0 = (17 * (c : Int) + l + 8).toNat := ⟨_, rfl⟩
  have es : (17 * (c : Int) + l + 8) = (s0 : Int) := by omega
  have hs : s0 < 340 := by omega
  have hVs : Vw g s0 := ⟨hs, by rw [show s0 / 17 = c by omega]; exact hc⟩
  rw [← hs0] at hn ⊢
  obtain ⟨σ2, h2⟩ : ∃ σ2, σ2 = sI (sR σ 26 7 (some 11)) 26 6 0 := ⟨_, rfl⟩
  have e2 : eqT σ σ2 := by
    rw [h2]
    refine ⟨fun x k hx => ?_, fun x hx => Eq.refl (gA σ x), ?_, ?_, Eq.refl (gJ σ), fun z => ?_⟩
    · rw [gI_sI, if_neg (fun ⟨z, _⟩ => by rw [z] at hx; cases hx), gI_sR]
    · rw [gR_sI, gR_sR, if_neg (by decide)]
    · rw [gR_sI, gR_sR, if_neg (by decide)]
    · unfold Rparts
      rw [gR_sI, gR_sR, if_neg (by decide), gR_sI, gR_sR, if_neg (by decide)]
      exact z
  have hR : gR σ2 26 7 = some 11 := by rw [h2, gR_sI, gR_sR, if_pos ⟨rfl, rfl⟩]
  have hF : gI σ2 26 6 = iz ((0 : Nat) : Int) := by rw [h2, gI_sI, if_pos ⟨rfl, rfl⟩]; rfl
  have key : ∃ z, f_Wa_seek_13 σ2 (iz c) (iz l) (iz sd) 0 = some z ∧ ∃ σ' r, z = (iz r, σ') ∧ eqT σ σ' ∧ ((r = -9 ∧ D s0 = -9) ∨ (r = n ∧ D s0 = n ∧ n ≤ 340 ∧ ∀ d, d < n → gA σ' 32 d = iz (Wy d : Nat))) := by
    unfold f_Wa_seek_13
    refine lp_ind (fun s => 340 - s.2.toNatClampNeg) (fun z => ∃ (σ' : Mm) (i : Nat), z = (σ', iz i) ∧ i ≤ 340 ∧ eqT σ σ' ∧ gR σ' 26 7 = some 11 ∧ gI σ' 26 6 = iz ((0 : Nat) : Int) ∧ ∀ j, j < i → gA σ' 31 j = iz 0) _ (fun z hz => ?_) _ ⟨σ2, 0, rfl, by omega, e2, hR, hF, fun j hj => absurd hj (Nat.not_lt_zero j)⟩ ?_
    · obtain ⟨σ', i, rfl, hi, e, r7, f6, hz⟩ := hz
      dsimp only
      by_cases k3 : i < 340
      · left
        have k4 : iz (i : Int) < 340 := by rw [i340, iz_lt (by omega) (by omega) (by omega) (by omega)]; omega
        have kk : iz (i : Int) + 1 = iz ((i + 1 : Nat) : Int) := by rw [i1, iz_add]; rfl
        refine ⟨(sA σ' 31 i 0, iz ((i + 1 : Nat) : Int)), ?_, ⟨_, i + 1, rfl, by omega, e.trans ⟨fun c j _ => Eq.refl (gI σ' c j), fun c hc => by rw [gA_sA, if_neg (fun z => by rw [z] at hc; cases hc)], Eq.refl (gR σ' 0 2), Eq.refl (gR σ' 0 3), Eq.refl (gJ σ'), fun h => h⟩, r7, f6, fun j hj => ?_⟩, ?_⟩
        · unfold f_Wa_seek_13_b
          rw [if_pos k4, ix_n k3 (by decide), nm_eq, nm_eq, kk]
        · rw [gA_sA, if_pos rfl]
          by_cases q : j = i
          · rw [q, pk_us, i0]
          · rw [pk_un q]; exact hz j (by omega)
        · dsimp only
          rw [iz_nat (by omega) (by omega), iz_nat (by omega) (by omega)]
          omega
      · right
        have : i = 340 := by omega
        subst this
        have M0 : WM σ' 0 (fun _ => 0) (fun _ => 0) (fun _ => 0) (fun _ => 0) (fun _ => 0) := ⟨r7, f6, fun i hi => absurd hi (Nat.not_lt_zero i), hz⟩
        have hv := t_visitS M0 hs rfl
        obtain ⟨S', B', Dp', F', Sn', w1, w2, w3, w4, w5, w6, w7, w8⟩ := M0.new (t := s0) (u := 0) (d := 0) (f := -1)
        have J : QW (Vw g) s0 1 0 S' B' Dp' F' Sn' := by
          refine ⟨fun i hi => ?_, fun j hj => ?_, ?_, ⟨by omega, w3, w5, w6, w4⟩, fun i j ij hj => ?_, fun i hi => ?_⟩
          · rw [show i = 0 by omega, w3]
            exact ⟨hVs, w7⟩
          · by_cases q : j = s0
            · rw [q]; exact Or.inr ⟨w7, 0, by omega, w3⟩
            · exact Or.inl (w8 j q)
          · have := cz_put (W := fun _ => 0) (L := fun _ => 0) (W' := Sn') (L' := fun _ => 0) (s := s0) (x := 1) (n := 0) ⟨w7, rfl, fun j hj => ⟨w8 j hj, rfl⟩⟩ rfl (by omega) 340 hs
            rw [cz_all] at this
            omega
          · rw [show i = 0 by omega, show j = 0 by omega]
            exact Nat.le_refl _
          · rw [show i = 0 by omega, w5]
            exact ⟨by omega, by omega⟩
        have C : CW (Tw g lim lea tl) (Ew g lim lea tl sd) (Vw g) D s0 n P Wy 1 0 0 S' B' Dp' F' := by
          rcases hn with q | ⟨q1, q2, q3⟩
          · exact Or.inl ⟨q, fun i hi => by rw [show i = 0 by omega, w3]; exact q⟩
          · refine Or.inr ⟨q2, q3, fun i hi => ?_, 0, fun _ => 0, q1, rfl, fun d hd => ?_, fun d hd => absurd hd (Nat.not_lt_zero d), fun i hi _ _ => ?_, Or.inr ⟨rfl, Nat.zero_le _⟩⟩
            · rw [show i = 0 by omega, w3, w5, q2]
              right
              omega
            · rw [show d = 0 by omega, w3, q3.1]
              exact ⟨(by decide : (0 : Nat) < 1), rfl, w5⟩
            · rw [show i = 0 by omega, w5]
              exact ⟨Nat.le_refl 0, Nat.le_refl 0⟩
        have eV : eqT σ (vSt σ' s0 0 (iz (-1)) (iz ((0 : Nat) : Int)) (iz ((0 : Nat) : Int))) := e.trans eqT_vSt
        obtain ⟨_, b1, σ3, r, rfl, b2, b3⟩ := t_seek49 (G.eqT eV) hT hg hl1 hl2 he hsd hDE hW ⟨w1, J, C⟩ (by omega)
        refine ⟨(iz r, σ3), ?_, σ3, r, rfl, eV.trans b2, b3⟩
        unfold f_Wa_seek_13_b f_Wa_seek_35
        rw [if_neg (by decide), t_spotOf σ' hc20 (by omega) (by omega), bd_eq, es, hv, bd_eq, b1]
        rfl
    · dsimp only
      omega
  obtain ⟨_, a1, σ', r, rfl, a2, a3⟩ := key
  refine ⟨σ', r, ?_, a2, a3⟩
  unfold f_Wa_seek
  rw [nm_eq, nm_eq, ← h2]
  exact a1
theorem t_soonest_in {σ : Mm} {a b : Int} (a1 : -2147483648 ≤ a) (a2 : a < 2147483648) (b1 : -2147483648 ≤ b) (b2 : b < 2147483648) : f_T_soonest σ (iz a) (iz b) = if (1 ≤ a ∧ a ≤ 2) ∧ -1 ≤ b then (bd (f_T_hasNoStart σ) fun r_2 σ2 => (if r_2 = 0 then (bd (f_Wa_seek σ2 11 (gI σ2 36 3) (gI σ2 36 4) (iz a)) fun r_3 σ3 => (if r_3 = (-9) then some (r_3, σ3) else (if iz b = (-1) then some (r_3, σ3) else (if iz b < r_3 then (bd (f_Wa_wayAt σ3 (iz b)) fun r_4 σ4 => some (r_4, σ4)) else some (((-5) : Int32), σ3))))) else some (((-2) : Int32), σ2))) else some (((-1) : Int32), σ) := by
  unfold f_T_soonest
  rw [t_isNoSide σ a1 a2, bd_eq]
  by_cases qa : 1 ≤ a ∧ a ≤ 2
  · rw [if_pos qa, if_pos rfl]
    by_cases q1 : b < -1
    · rw [if_pos (by rw [i1, iz_neg, iz_lt (by omega) (by omega) (by omega) (by omega)]; exact q1), if_neg (by omega)]
    · rw [if_neg (by rw [i1, iz_neg, iz_lt (by omega) (by omega) (by omega) (by omega)]; exact q1), if_pos (by omega)]
  · rw [if_neg qa, if_neg (by decide), if_neg (fun z => qa z.1)]
theorem m_soonest_in {τ : Mm} {a b : Int} (a1 : -2147483648 ≤ a) (a2 : a < 2147483648) (b1 : -2147483648 ≤ b) (b2 : b < 2147483648) : f_M_soonest τ (iz a) (iz b) = if (1 ≤ a ∧ a ≤ 2) ∧ -1 ≤ b then (bd (f_M_hasStart (sI τ 0 0 0)) fun r_2 σ3 => (if r_2 = 0 then some (((-2) : Int32), σ3) else (bd (f_M_hurries σ3 (iz a)) fun r_3 σ4 => (ix 0 27 fun j1 => (nm (gA σ4 4 j1) fun y1 => (ix 1 27 fun j2 => (nm (gA σ4 4 j2) fun y2 => (bd (f_M_spot σ4 y1 y2) fun r_4 σ5 => (ix r_4 340 fun j3 => (nm (gA σ5 11 j3) fun y3 => (if y3 = (-9) then some (y3, σ5) else (if iz b = (-1) then some (y3, σ5) else f_M_soonest_82 σ5 (iz a) (iz b) y1 y2 y3 0)))))))))))) else some (((-1) : Int32), sI τ 0 0 0) := by
  unfold f_M_soonest
  rw [nm_eq, m_in12 _ a1 a2, bd_eq]
  by_cases qa : 1 ≤ a ∧ a ≤ 2
  · rw [if_pos qa, if_neg (by decide)]
    by_cases q1 : b < -1
    · rw [if_pos (by rw [i1, iz_neg, iz_lt (by omega) (by omega) (by omega) (by omega)]; exact q1), if_neg (by omega)]
    · rw [if_neg (by rw [i1, iz_neg, iz_lt (by omega) (by omega) (by omega) (by omega)]; exact q1), if_pos (by omega)]
  · rw [if_neg qa, if_pos rfl, if_neg (fun z => qa z.1)]
theorem b_soonest {n : Nat} {σ τ : Mm} (h : Rel n σ τ) (u v : Int32) : Both n (f_T_soonest σ u v) (f_M_soonest τ u v) := by
  obtain ⟨a, a1, a2, rfl⟩ := iz_of u
  obtain ⟨b, b1, b2, rfl⟩ := iz_of v
  have hT := t_soonest_in (σ := σ) a1 a2 b1 b2
  have hM := m_soonest_in (τ := τ) a1 a2 b1 b2
  by_cases qq : (1 ≤ a ∧ a ≤ 2) ∧ -1 ≤ b
  · rw [if_pos qq] at hT hM
    obtain ⟨qa, qb⟩ := qq
    obtain ⟨W, R, g, lim, lea, st, m, H⟩ := h
    obtain ⟨y1, y2, y3, y4, y5, y6, y7, y8⟩ := H.1
    have hst := H.1.st
    have hS := t_hasNoStart H.2.2.1 (by omega) (by omega)
    have hS2 := m_hasStart H.go'.1 H.go'.2.1
    by_cases q : st = -9
    · rw [if_pos q] at hS hS2
      refine Both.of (r := iz (-2)) ?_ ?_ (Rel.n1 ⟨W, R, g, lim, lea, st, m, H⟩)
      · rw [hT, hS, bd_eq, if_neg (by decide)]
        rfl
      · rw [hM, i0, hS2, bd_eq, if_pos (by decide)]
        rfl
    · rw [if_neg q] at hS hS2
      obtain ⟨g0, g1, g2, -⟩ := H.2.2.2.1
      obtain ⟨c, hc, hgc⟩ := g0.2 q
      have hc20 := H.1.g20 c hgc
      have H0 := H.go'
      have k0 : gI σ 36 3 = iz c := by rw [← hc]; exact H.2.2.2.2.2.1.1
      have k1 : gI σ 36 4 = iz (m 1) := H.2.2.2.2.2.1.2.1
      have hsd : a = 1 ∨ a = 2 := by omega
      obtain ⟨_, t1, τ1, D, rfl, t2, t3, t4⟩ := m_hurries H0.1 H0.2.1 H0.TlM H0.TlOk hsd
      have H1 : RelY W R g lim lea st m n σ τ1 := H.ext (Nat.le_refl _) eqT.rfl (eqM_0.trans t2)
      have f0 : gA τ1 4 0 = iz c := by rw [← hc]; exact H1.2.2.2.2.1.1 0 (by decide)
      have f1 : gA τ1 4 1 = iz (m 1) := H1.2.2.2.2.1.1 1 (by decide)
      have es : (17 * (c : Int) + m 1 + 8) = (((17 * (c : Int) + m 1 + 8).toNat : Nat) : Int) := by omega
      have hs : (17 * (c : Int) + m 1 + 8).toNat < 340 := by omega
      have e17 : (17 * (c : Int) + m 1 + 8).toNat / 17 = c ∧ (((17 * (c : Int) + m 1 + 8).toNat % 17 : Nat) : Int) - 8 = m 1 := by omega
      have hVs : Vw g (17 * (c : Int) + m 1 + 8).toNat := ⟨hs, by rw [e17.1]; exact hgc⟩
      have hD := t3.1 _ hs
      have hDb := t3.2 _ hs
      rw [i0, hS2, bd_eq, if_neg (by decide), t1, bd_eq, ix_iz (by decide) (by decide) (by decide), tn0, f0, nm_eq, i1, ix_iz (by decide) (by decide) (by decide), tn1, f1, nm_eq, m_spot, bd_eq, es, ix_n hs (by decide), hD, nm_eq, ← i1] at hM
      rw [hS, bd_eq, if_pos rfl, k0, k1] at hT
      rcases (t4 _ hVs).1 with hfar | hnear
      · obtain ⟨σ', r, s1, s2, s3⟩ := t_seek (n := 0) (P := fun _ => 0) (Wy := fun _ => 0) H.YG H.TlOk H.1.g20 y3 y4 ⟨y5, y6⟩ hsd t4 hgc (by omega) (by omega) (fun d hd => absurd hd (Nat.not_lt_zero d)) (Or.inl hfar)
        have hr : r = -9 := by
          rcases s3 with z | ⟨-, z, -⟩
          · exact z.1
          · omega
        rw [s1, bd_eq, hr, if_pos (by decide)] at hT
        rw [hfar, if_pos (by decide)] at hM
        exact Both.of hT hM (Rel.n1' ⟨W, R, g, lim, lea, st, m, H.ext (Nat.le_refl _) s2 (eqM_0.trans t2)⟩)
      · obtain ⟨k, hk⟩ : ∃ k : Nat, D (17 * (c : Int) + m 1 + 8).toNat = k + 1 := ⟨(D (17 * (c : Int) + m 1 + 8).toNat - 1).toNat, by omega⟩
        obtain ⟨P, Wy, hGP⟩ := GP.ex (Tw_V H.1.g20 y4) t4 k _ hVs hk
        have hWy : ∀ d, d < k + 1 → Wy d < 4 := fun d hd => (hGP.2 d hd).2.2.1
        have hk2 : D (17 * (c : Int) + m 1 + 8).toNat = ((k + 1 : Nat) : Int) := by omega
        obtain ⟨σ', r, s1, s2, s3⟩ := t_seek (n := k + 1) H.YG H.TlOk H.1.g20 y3 y4 ⟨y5, y6⟩ hsd t4 hgc (by omega) (by omega) hWy (Or.inr ⟨by omega, hk2, hGP⟩)
        obtain ⟨hr, -, hk3, hrow⟩ : r = ((k + 1 : Nat) : Int) ∧ D (17 * (c : Int) + m 1 + 8).toNat = ((k + 1 : Nat) : Int) ∧ k + 1 ≤ 340 ∧ ∀ d, d < k + 1 → gA σ' 32 d = iz (Wy d : Nat) := by
          rcases s3 with z | z
          · omega
          · exact z
        have n9 : ¬ iz ((k + 1 : Nat) : Int) = -9 := by rw [i9, iz_neg, iz_eq (by omega) (by omega) (by omega) (by omega)]; omega
        rw [s1, bd_eq, hr, if_neg n9] at hT
        rw [hk2, if_neg n9] at hM
        by_cases qb1 : b = -1
        · have e1 : iz b = -1 := by rw [qb1]; rfl
          rw [if_pos e1] at hT hM
          exact Both.of hT hM (Rel.n1' ⟨W, R, g, lim, lea, st, m, H.ext (Nat.le_refl _) s2 (eqM_0.trans t2)⟩)
        · have e1 : ¬ iz b = -1 := by rw [i1, iz_neg, iz_eq (by omega) (by omega) (by omega) (by omega)]; exact qb1
          rw [if_neg e1] at hT hM
          obtain ⟨_, v1, τ2, rfl, v2⟩ := m_s82 (v2 := b) (n := k + 1) H1.1 H1.2.1 H1.TlM H1.TlOk t3 hsd (by omega) hGP (by omega)
          rw [e17.1, e17.2] at v1
          rw [← i0] at hM
          have fin : Rel (n + 1) σ' τ2 := Rel.n1' ⟨W, R, g, lim, lea, st, m, H.ext (Nat.le_refl _) s2 ((eqM_0.trans t2).trans v2)⟩
          rw [v1] at hM
          by_cases q3 : b < ((k + 1 : Nat) : Int)
          · obtain ⟨b', rfl⟩ : ∃ b' : Nat, b = (b' : Int) := ⟨b.toNat, by omega⟩
            rw [if_pos (by rw [iz_lt (by omega) (by omega) (by omega) (by omega)]; exact q3)] at hT
            rw [if_pos q3] at hM
            have hw : f_Wa_wayAt σ' (iz (b' : Int)) = some (iz (Wy b' : Nat), σ') := by
              unfold f_Wa_wayAt
              rw [if_neg (by rw [i0, iz_lt (by omega) (by omega) (by omega) (by omega)]; omega), if_pos (by rw [i340, iz_lt (by omega) (by omega) (by omega) (by omega)]; omega), ix_n (by omega) (by decide), hrow b' (by omega)]
            rw [hw, bd_eq] at hT
            exact Both.of hT hM fin
          · rw [if_neg (by rw [iz_lt (by omega) (by omega) (by omega) (by omega)]; exact q3)] at hT
            rw [if_neg q3] at hM
            exact Both.of hT hM fin
  · rw [if_neg qq] at hT hM
    exact Both.of hT hM h.n1
