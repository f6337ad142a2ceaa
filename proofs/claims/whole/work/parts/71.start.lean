-- reading the start
theorem m_rs86F {τ : Mm} {w : Nat} (h : gI τ 0 8 = iz (w : Nat)) (hw : w ≤ 200) (v s : Int32) : f_M_readsStart_86 τ v s = some (0, sA τ 2 7 v) := by
  unfold f_M_readsStart_86
  rw [m_takesF h hw, bd_eq, i7, ix_iz (by decide) (by decide) (by decide), show (7 : Int).toNat = 7 from rfl, nm_eq]
theorem m_rs86_0 {τ : Mm} {a : Nat → Nat} {t n i : Nat} {Q G : Nat → Nat} (K : RK τ a t n Q G i) (hw : gI τ 0 8 = iz (-1)) (v : Int32) : f_M_readsStart_86 τ v 0 = some (0, sA (sI τ 0 8 (iz (pl t n Q i : Nat))) 2 7 v) := by
  unfold f_M_readsStart_86
  rw [m_takes0 K hw, bd_eq, i7, ix_iz (by decide) (by decide) (by decide), show (7 : Int).toNat = 7 from rfl, nm_eq]
theorem m_readsStart {τ : Mm} {a : Nat → Nat} {t n i W R : Nat} {Q G : Nat → Nat} {bk : Nat → Bool} (T : TXm τ a t) (C : CH a t n Q G) (K : RK τ a t n Q G i) (hw : gI τ 0 8 = iz (-1)) (hi : i ≤ n) (w1 : W ≤ 5) (w2 : R ≤ 4) (a5 : gA τ 2 5 = iz W) (a6 : gA τ 2 6 = iz R) (hbk : ∀ c : Nat, c < 20 → (((gI τ 0 12 >>> (iz (c : Int) &&& 31)) &&& 1 = 0) ↔ bk c = false)) :
    (¬ (tk a n Q G i = -2 ∧ 0 ≤ nv a Q G i ∧ nv a Q G i ≤ (W : Int) - 1) → ∃ v, f_M_readsStart τ = some (0, sA (sI τ 0 8 (iz (pl t n Q i : Nat))) 2 7 v)) ∧
    ((tk a n Q G i = -2 ∧ 0 ≤ nv a Q G i ∧ nv a Q G i ≤ (W : Int) - 1) → ∃ τ2, eqA τ τ2 ∧ RK τ2 a t n Q G (i + 1) ∧
      (¬ (tk a n Q G (i + 1) = -2 ∧ nv a Q G (i + 1) < R ∧ bk (5 * nv a Q G (i + 1) + nv a Q G i).toNat = false) → ∃ v, f_M_readsStart τ = some (0, sA (sI τ2 0 8 (iz (pl t n Q (i + 1) : Nat))) 2 7 v)) ∧
      ((tk a n Q G (i + 1) = -2 ∧ nv a Q G (i + 1) < R ∧ bk (5 * nv a Q G (i + 1) + nv a Q G i).toNat = false) → ∃ τ3, eqA τ τ3 ∧ RK τ3 a t n Q G (i + 1 + 1) ∧ f_M_readsStart τ = some (0, sA τ3 2 7 (iz (5 * nv a Q G (i + 1) + nv a Q G i))))) := by
  have ha : ∀ j, j < t → a j < 256 := fun j hj => (T.2.2 j hj).1
  have hb := tk_in ha C hi
  have hpl := pl_le T.1 C hi
  obtain ⟨m1, m2⟩ := m_number T C K hw hi (lo := 0) (hi' := (W : Int) - 1) (by decide) (by decide) (by omega) (by omega)
  have h0 : f_M_readsStart τ = (bd (f_M_number τ (iz 0) (iz ((W : Int) - 1))) fun r_1 σ1 => (if (gI σ1 0 5) = 2 then (ix 6 10 fun j2 => (bd (f_M_in σ1 (gI σ1 0 7) 0 ((gA σ1 2 j2) - 1)) fun r_2 σ2 => (if r_2 = 0 then f_M_readsStart_46 σ2 r_1 else f_M_readsStart_47 σ2 r_1 1))) else f_M_readsStart_46 σ1 r_1)) := by
    unfold f_M_readsStart
    rw [i5, ix_iz (by decide) (by decide) (by decide), show (5 : Int).toNat = 5 from rfl, a5, i1, iz_sub]
    rfl
  have h6 : ∀ {α : Type} (K : Nat → Option α), ix 6 10 K = K 6 := fun K => by rw [i6, ix_iz (by decide) (by decide) (by decide)]; rfl
  have h46 : ∀ (σ : Mm) (v : Int32), f_M_readsStart_46 σ v = f_M_readsStart_86 σ 0 0 := fun σ v => by
    unfold f_M_readsStart_46 f_M_readsStart_47 f_M_readsStart_64 f_M_readsStart_85
    rw [if_pos rfl, if_pos rfl]
  have h47 : ∀ (σ : Mm) (v : Int32), f_M_readsStart_47 σ v 1 = (if (((gI σ 0 12) >>> (((5 * (gI σ 0 7)) + v) &&& 31)) &&& 1) = 0 then f_M_readsStart_86 σ ((5 * (gI σ 0 7)) + v) 1 else f_M_readsStart_86 σ ((5 * (gI σ 0 7)) + v) 0) := fun σ v => by
    unfold f_M_readsStart_47 f_M_readsStart_64 f_M_readsStart_85
    rw [if_neg (by decide), if_neg (by decide)]
  refine ⟨fun q => ?_, fun q => ?_⟩
  · rw [h0, m2 q, bd_eq]
    have hF : gI (sI τ 0 8 (iz (pl t n Q i : Nat))) 0 8 = iz (pl t n Q i : Nat) := by rw [gI_sI, if_pos ⟨rfl, rfl⟩]
    have f86 := fun v s => m_rs86F hF (show pl t n Q i ≤ 200 by omega) v s
    have e05 : gI (sI τ 0 8 (iz (pl t n Q i : Nat))) 0 5 = gI τ 0 5 := by rw [gI_sI, if_neg (by decide)]
    have e07 : gI (sI τ 0 8 (iz (pl t n Q i : Nat))) 0 7 = gI τ 0 7 := by rw [gI_sI, if_neg (by decide)]
    rw [e05, K.1]
    by_cases q2 : iz (kd (tk a n Q G i)) = 2
    · have q3 := (kd_2 hb.1 hb.2.1).mp q2
      have := hb.2.2.2 q3
      rw [if_pos q2, h6, e07, K.2.2.1 q3, gA_sI, a6, i1, iz_sub, i0, m_in_iz _ (by omega) (by omega) (by omega) (by omega) (by omega) (by omega), bd_eq, ← i0, ← i1]
      by_cases q4 : (if 0 ≤ nv a Q G i ∧ nv a Q G i ≤ (R : Int) - 1 then (1 : Int32) else 0) = 0
      · rw [if_pos q4, h46, f86]
        exact ⟨_, rfl⟩
      · rw [if_neg q4, h47]
        by_cases q5 : (((gI (sI τ 0 8 (iz (pl t n Q i : Nat))) 0 12) >>> (((5 * (gI (sI τ 0 8 (iz (pl t n Q i : Nat))) 0 7)) + 0) &&& 31)) &&& 1) = 0
        · rw [if_pos q5, f86]
          exact ⟨_, rfl⟩
        · rw [if_neg q5, f86]
          exact ⟨_, rfl⟩
    · rw [if_neg q2, h46, f86]
      exact ⟨_, rfl⟩
  · obtain ⟨τ2, c1, c2, c3⟩ := m1 q
    have hin : i < n := by
      by_cases z : i = n
      · have := hb.2.2.1.mpr z; omega
      · omega
    have hb2 := tk_in ha C (show i + 1 ≤ n by omega)
    have w8 : gI τ2 0 8 = iz (-1) := (c2.1 0 8 (by omega)).trans hw
    refine ⟨τ2, c2, c3, ?_⟩
    rw [h0, c1, bd_eq, c3.1]
    by_cases q2 : tk a n Q G (i + 1) = -2
    · have nb := hb2.2.2.2 q2
      have hin2 : i + 1 < n := by
        by_cases z : i + 1 = n
        · have := hb2.2.2.1.mpr z; omega
        · omega
      rw [if_pos ((kd_2 hb2.1 hb2.2.1).mpr q2), h6, c3.2.2.1 q2, c2.2.1 2, a6, i1, iz_sub, i0, m_in_iz _ (by omega) (by omega) (by omega) (by omega) (by omega) (by omega), bd_eq, ← i0, ← i1]
      by_cases q3 : nv a Q G (i + 1) < R
      · have hcell : (5 * nv a Q G (i + 1) + nv a Q G i).toNat < 20 := by omega
        have ecell : (((5 * nv a Q G (i + 1) + nv a Q G i).toNat : Nat) : Int) = 5 * nv a Q G (i + 1) + nv a Q G i := by omega
        have e5 : (5 : Int32) * iz (nv a Q G (i + 1)) + iz (nv a Q G i) = iz (5 * nv a Q G (i + 1) + nv a Q G i) := by rw [i5, iz_mul, iz_add]
        have hbc := hbk _ hcell
        rw [ecell] at hbc
        rw [if_pos (show 0 ≤ nv a Q G (i + 1) ∧ nv a Q G (i + 1) ≤ (R : Int) - 1 by omega), if_neg (by decide), h47, c3.2.2.1 q2, c2.1 0 12 (by omega), e5]
        by_cases q4 : bk (5 * nv a Q G (i + 1) + nv a Q G i).toNat = false
        · rw [if_pos (hbc.mpr q4)]
          obtain ⟨τ3, d1, d2, d3⟩ := m_takes1 (T.ext c2) C c3 w8 hin2
          refine ⟨fun z => absurd ⟨q2, q3, q4⟩ z, fun _ => ⟨τ3, c2.trans d2, d3, ?_⟩⟩
          unfold f_M_readsStart_86
          rw [d1, bd_eq, i7, ix_iz (by decide) (by decide) (by decide), show (7 : Int).toNat = 7 from rfl, nm_eq]
        · rw [if_neg (fun z => q4 (hbc.mp z)), m_rs86_0 c3 w8]
          exact ⟨fun _ => ⟨_, rfl⟩, fun z => absurd z.2.2 q4⟩
      · rw [if_neg (show ¬ (0 ≤ nv a Q G (i + 1) ∧ nv a Q G (i + 1) ≤ (R : Int) - 1) by omega), if_pos rfl, h46, m_rs86_0 c3 w8]
        exact ⟨fun _ => ⟨_, rfl⟩, fun z => absurd z.2.1 q3⟩
    · rw [if_neg (fun z => q2 ((kd_2 hb2.1 hb2.2.1).mp z)), h46, m_rs86_0 c3 w8]
      exact ⟨fun _ => ⟨_, rfl⟩, fun z => absurd z.1 q2⟩
theorem i_start {p : Nat} {σ0 τ0 σ τ : Mm} {a : Nat → Nat} {t n : Nat} {Q G : Nat → Nat} {d i W R : Nat} {st lim lea : Int} {lt jt : Bool} {g bk : Nat → Bool} {tl : Nat → Int} (hp : d ≠ p) (T0 : TXm τ0 a t) (C : CH a t n Q G) (S : PS p σ0 τ0 σ τ a t n Q G d i W R st lim lea lt jt g bk tl) (hk : tk a n Q G i = 98) (v1 : Int32) : OUTk i p σ0 τ0 a t n Q G d (f_Re_readStart σ) (MB τ v1) v1 := by
  have S' := S
  obtain ⟨s1, ⟨s2, s3⟩, s4, s5, s6, s7, s8, s9, s10⟩ := S'
  have T := T0.extM s10
  have ha : ∀ j, j < t → a j < 256 := fun j hj => (T.2.2 j hj).1
  have h7 : gI τ 0 7 = iz 98 := by rw [← hk]; exact s5.2.2.2.1 (by omega)
  have hm := (m_mb (τ := τ) (v1 := v1) ⟨98, h7, by simp⟩ s7.2.2.2.2.2.1).2.2.1 h7
  have hd := s4.2.1
  obtain ⟨y1, y2, y3, y4, y5, y6, y7⟩ := id s8
  have hst : -9 ≤ st ∧ st < 20 := by
    rcases y5 with z | ⟨c, z, z2⟩
    · omega
    · have := (y7.1 c z2).1
      omega
  have est : gI σ d 3 = iz st := s4.2.2.2.2.1
  by_cases q0 : st = -9
  · rw [if_pos q0] at hm
    obtain ⟨τ1, b1, b2, b3, b4, b5⟩ := y61 T C s5 s3 s6 (by omega) v1
    rw [hk] at b1
    have e1M : eqM τ0 τ1 := s10.trans b2.eqM
    have P1 := s7.eqA b2
    have hE : ∀ σ : Mm, f_M_readsItem_85 σ (iz 98) = some (0, sI σ 0 10 (gI σ 0 10 ||| 1)) := fun σ => by
      unfold f_M_readsItem_85 f_M_bitOf
      rw [if_pos (by decide), bd_eq, nm_eq]
    have hH : ∀ x τ', f_M_readsStart τ1 = some (x, τ') → MB τ v1 = f_M_yard_77 (sI τ' 0 10 (gI τ' 0 10 ||| 1)) v1 := fun x τ' h => by
      unfold MB
      rw [hm, bd_eq, if_neg (by decide), b1]
      unfold f_M_readsItem
      rw [if_neg (by decide), if_neg (by decide), if_pos (by decide), h, bd_eq, hE, bd_eq]
    have A2 : TA (sI σ 3 5 (iz ((i + 1 : Nat) : Int))) a t n Q G := s1.s3 (by decide) _
    have h5 : gI (sI σ 3 5 (iz ((i + 1 : Nat) : Int))) 3 5 = iz ((i + 1 : Nat) : Int) := by rw [gI_sI, if_pos ⟨rfl, rfl⟩]
    have PT2 : PT (sI σ 3 5 (iz ((i + 1 : Nat) : Int))) d W R st lim lea lt jt g tl := s4.s35 _
    obtain ⟨r1, r2⟩ := t_readNumber ha C A2 (by omega) h5 (lo := 0) (hi' := (W : Int) - 1) (by decide) (by decide) (by omega) (by omega)
    obtain ⟨ms1, ms2⟩ := m_readsStart (T0.extM e1M) C b3 b4 (show i + 1 ≤ n by omega) y1 y2 P1.1 P1.2.1 P1.2.2.2.2.2.2.1
    have hF : f_Re_readStart σ = (bd (f_Re_readNumber (sI σ 3 5 (iz ((i + 1 : Nat) : Int))) (iz 0) (iz ((W : Int) - 1))) fun r_1 σ2 => (if r_1 < 0 then some ((0 : Int32), σ2) else (bd (f_Re_isInHand σ2 (-2)) fun r_2 σ3 => (if r_2 = 0 then some ((0 : Int32), σ3) else (ix (gI σ3 3 5) 121 fun j1 => (rk (gR σ3 3 6) okPl fun t3 => (if (gA σ3 5 j1) < (gI σ3 t3 2) then (ix (gI σ3 3 5) 121 fun j2 => (bd (f_T_cellAt σ3 r_1 (gA σ3 5 j2)) fun r_3 σ4 => (if r_3 < 0 then some ((0 : Int32), σ4) else (rk (gR σ4 3 6) okPl fun t4 => (ix r_3 20 fun j3 => (if (gA σ4 (t4 + 1) j3) = 100 then some ((0 : Int32), σ4) else (nm (sI σ4 3 5 ((gI σ4 3 5) + 1)) fun σ5 => (rk (gR σ5 3 6) okPl fun t5 => (nm (sI σ5 t5 3 r_3) fun σ6 => some ((1 : Int32), σ6)))))))))) else some ((0 : Int32), σ3)))))))) := by
      unfold f_Re_readStart
      rw [s4.rk, est, if_pos (by rw [q0]; rfl), s2, i1, iz_add, nm_eq, (s4.s35 (iz ((i : Int) + 1))).rk]
      have : gI (sI σ 3 5 (iz ((i : Int) + 1))) d 1 = iz W := PT2.2.2.1
      rw [this, iz_sub]
      rfl
    by_cases q : tk a n Q G (i + 1) = -2 ∧ 0 ≤ nv a Q G (i + 1) ∧ nv a Q G (i + 1) ≤ (W : Int) - 1
    · have hin2 : i + 1 < n := by
        have hb := tk_in ha C (show i + 1 ≤ n by omega)
        by_cases z : i + 1 = n
        · have := hb.2.2.1.mpr z; omega
        · omega
      obtain ⟨τ2, c1, c2, c3, c4⟩ := ms2 q
      have A3 : TA (sI (sI σ 3 5 (iz ((i + 1 : Nat) : Int))) 3 5 (iz ((i + 1 + 1 : Nat) : Int))) a t n Q G := A2.s3 (by decide) _
      have h53 : gI (sI (sI σ 3 5 (iz ((i + 1 : Nat) : Int))) 3 5 (iz ((i + 1 + 1 : Nat) : Int))) 3 5 = iz ((i + 1 + 1 : Nat) : Int) := by rw [gI_sI, if_pos ⟨rfl, rfl⟩]
      have PT3 : PT (sI (sI σ 3 5 (iz ((i + 1 : Nat) : Int))) 3 5 (iz ((i + 1 + 1 : Nat) : Int))) d W R st lim lea lt jt g tl := PT2.s35 _
      have hn := A3.2.1
      have hH2 := t_inHand ha C A3 (show i + 1 + 1 ≤ n by omega) h53 (v := -2) (by decide) (by decide)
      rw [show iz (-2) = -2 from rfl] at hH2
      have hb2 := tk_in ha C (show i + 1 + 1 ≤ n by omega)
      have eD3 : eqD p σ0 (sI (sI σ 3 5 (iz ((i + 1 : Nat) : Int))) 3 5 (iz ((i + 1 + 1 : Nat) : Int))) := (s9.trans eqT_3.eqD).trans eqT_3.eqD
      rw [r1 q, bd_eq, if_neg (by rw [i0, iz_lt (by omega) (by omega) (by omega) (by omega)]; omega), hH2, bd_eq] at hF
      have bad : ¬ (tk a n Q G (i + 1 + 1) = -2 ∧ nv a Q G (i + 1 + 1) < R ∧ bk (5 * nv a Q G (i + 1 + 1) + nv a Q G (i + 1)).toNat = false) → f_Re_readStart σ = some (0, sI (sI σ 3 5 (iz ((i + 1 : Nat) : Int))) 3 5 (iz ((i + 1 + 1 : Nat) : Int))) → OUTk i p σ0 τ0 a t n Q G d (f_Re_readStart σ) (MB τ v1) v1 := fun z1 z2 => by
        obtain ⟨v, z3⟩ := c3 z1
        refine Or.inr ⟨_, _, z2, hH _ _ z3, i + 1 + 1, A3, h53, by omega, ?_, eD3, ?_⟩
        · rw [gI_sI, if_neg (by decide), gI_sA, gI_sI, if_pos ⟨rfl, rfl⟩]
        · exact (((e1M.trans c1.eqM).sl (by simp) _).trans (eqM_a2 (by omega))).sl (by simp) _
      by_cases q2 : tk a n Q G (i + 1 + 1) = -2
      · obtain ⟨nb1, nb2⟩ := hb2.2.2.2 q2
        have e5 := (A3.2.2 _ (show i + 1 + 1 ≤ n by omega)).2.2 q2
        have hin3 : i + 1 + 1 < n := by
          by_cases z : i + 1 + 1 = n
          · have := hb2.2.2.1.mpr z; omega
          · omega
        have eR : gI (sI (sI σ 3 5 (iz ((i + 1 : Nat) : Int))) 3 5 (iz ((i + 1 + 1 : Nat) : Int))) d 2 = iz R := PT3.2.2.2.1
        rw [if_pos q2, if_neg (by decide), h53, ix_n (by omega) (by decide), PT3.rk, e5, eR] at hF
        by_cases q3 : nv a Q G (i + 1 + 1) < R
        · obtain ⟨cell, hcell⟩ : ∃ cell : Nat, 5 * nv a Q G (i + 1 + 1) + nv a Q G (i + 1) = cell := ⟨(5 * nv a Q G (i + 1 + 1) + nv a Q G (i + 1)).toNat, by omega⟩
          have hc20 : cell < 20 := by omega
          have hcd : dn W R 0 cell := ⟨by omega, Or.inl (by omega)⟩
          have hbg := y7.2.2.1 cell hc20 hcd
          have ecell : (5 * nv a Q G (i + 1 + 1) + nv a Q G (i + 1)).toNat = cell := by omega
          have htc := t_cellAt (sI (sI σ 3 5 (iz ((i + 1 : Nat) : Int))) 3 5 (iz ((i + 1 + 1 : Nat) : Int))) (x := nv a Q G (i + 1)) (y := nv a Q G (i + 1 + 1)) (by omega) (by omega) (by omega) (by omega)
          rw [if_pos (by omega), hcell] at htc
          rw [if_pos (by rw [iz_lt (by omega) (by omega) (by omega) (by omega)]; exact q3), ix_n (by omega) (by decide), e5, htc, bd_eq, if_neg (by rw [i0, iz_lt (by omega) (by omega) (by omega) (by omega)]; omega), PT3.rk, ix_n hc20 (by decide), PT3.2.2.2.2.2.2.2.2.2 cell hc20] at hF
          by_cases q4 : g cell = true
          · left
            have q5 : bk (5 * nv a Q G (i + 1 + 1) + nv a Q G (i + 1)).toNat = false := by
              rw [ecell]
              cases hbc : bk cell with
              | false => rfl
              | true => rw [hbg.mp hbc] at q4; cases q4
            obtain ⟨τ3, d1, d2, d3⟩ := c4 ⟨q2, q3, q5⟩
            have tb := y7.2.1 cell q4
            have hHf := hH _ _ d3
            rw [if_pos q4, if_neg (iz_ne100 tb.1 tb.2), h53, i1, iz_add, nm_eq] at hF
            have PT4 : PT (sI (sI (sI σ 3 5 (iz ((i + 1 : Nat) : Int))) 3 5 (iz ((i + 1 + 1 : Nat) : Int))) 3 5 (iz (((i + 1 + 1 : Nat) : Int) + 1))) d W R st lim lea lt jt g tl := PT3.s35 _
            rw [PT4.rk, nm_eq] at hF
            have P3 := P1.eqA d1
            refine ⟨_, _, i + 1 + 1 + 1, W, R, (cell : Int), lim, lea, lt, jt, g, bk, tl, hF, hHf, by omega, ?_, ⟨?_, by omega⟩, ?_, ?_, ?_, ?_, ?_, ?_, ?_⟩
            · exact (A3.s3 (by decide) _).sd hd _
            · rw [gI_sI, if_neg (by omega), gI_sI, if_pos ⟨rfl, rfl⟩]
              rfl
            · obtain ⟨h1, h2, h3, h4, h5, h6, h7, h8, h9, h10⟩ := PT4
              refine ⟨h1, h2, ?_, ?_, ?_, ?_, ?_, ?_, ?_, h10⟩
              · rw [gI_sI, if_neg (by omega)]; exact h3
              · rw [gI_sI, if_neg (by omega)]; exact h4
              · rw [gI_sI, if_pos ⟨rfl, rfl⟩]
              · rw [gI_sI, if_neg (by omega)]; exact h6
              · rw [gI_sI, if_neg (by omega)]; exact h7
              · rw [gI_sI, if_neg (by omega)]; exact h8
              · rw [gI_sI, if_neg (by omega)]; exact h9
            · exact (d2.a2 2 7 _).s (by omega) _
            · rw [gI_sI, if_neg (by decide), gI_sA, d1.1 0 8 (by omega)]; exact b4
            · obtain ⟨h1, h2, h3, h4, h5, h6, h7, h8⟩ := P3
              refine ⟨?_, ?_, ?_, ?_, ?_, ?_, ?_, h8⟩
              · rw [gA_sI, gA_sA, if_pos rfl, pk_un (by decide)]; exact h1
              · rw [gA_sI, gA_sA, if_pos rfl, pk_un (by decide)]; exact h2
              · rw [gA_sI, gA_sA, if_pos rfl, pk_us, hcell]
              · rw [gA_sI, gA_sA, if_pos rfl, pk_un (by decide)]; exact h4
              · rw [gA_sI, gA_sA, if_pos rfl, pk_un (by decide)]; exact h5
              · rw [gI_sI, if_pos ⟨rfl, rfl⟩, gI_sA, h6, q0]
                exact bts_o1 lt jt (by omega)
              · intro c hc
                rw [gI_sI, if_neg (by decide), gI_sA]
                exact h7 c hc
            · exact ⟨y1, y2, y3, y4, Or.inr ⟨cell, rfl, q4⟩, y6, y7⟩
            · exact (eD3.trans eqT_3.eqD).trans (eqD_d hd hp)
            · exact ((e1M.trans d1.eqM).trans (eqM_a2 (by omega))).sl (by simp) _
          · rw [if_neg q4, if_pos rfl] at hF
            refine bad (fun z => ?_) hF
            have z3 := z.2.2
            rw [ecell] at z3
            have : bk cell = true := hbg.mpr (Bool.eq_false_iff.mpr q4)
            rw [this] at z3
            cases z3
        · rw [if_neg (by rw [iz_lt (by omega) (by omega) (by omega) (by omega)]; exact q3)] at hF
          exact bad (fun z => q3 z.2.1) hF
      · rw [if_neg q2, if_pos rfl] at hF
        exact bad (fun z => q2 z.1) hF
    · right
      obtain ⟨v, z3⟩ := ms1 q
      rw [r2 q, bd_eq, if_pos (by decide)] at hF
      refine ⟨_, _, hF, hH _ _ z3, i + 1, A2, h5, by omega, ?_, s9.trans eqT_3.eqD, ?_⟩
      · rw [gI_sI, if_neg (by decide), gI_sA, gI_sI, if_pos ⟨rfl, rfl⟩]
      · exact ((e1M.sl (by simp) _).trans (eqM_a2 (by omega))).sl (by simp) _
  · rw [if_neg q0] at hm
    refine item_fault T0 C S ?_ ?_
    · unfold f_Re_readStart
      rw [s4.rk, est, if_neg (by rw [i9, iz_neg, iz_eq (by omega) (by omega) (by omega) (by omega)]; exact q0)]
    · unfold MB
      rw [hm, bd_eq, if_pos rfl]
