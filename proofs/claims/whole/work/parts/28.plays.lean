-- the reference's game, played through
theorem m_rounds {τ : Mm} {W R : Nat} {g : Nat → Bool} {lim lea st : Int} {tl : Nat → Int} {Wn Ln : Nat → Int} (Y : Yok W R g lim lea st) (M : YM τ W R g lim lea st) (T : TlM τ g tl) (hT : TlOk g tl) (K : Lk (gA τ 9) (gA τ 10) Wn Ln) {n : Int} (hn : 0 ≤ n ∧ n < 700) (I : RI g lim lea tl n 0 Wn Ln) :
    ∃ (v : Int) (τ' : Mm) (W' L' : Nat → Int), f_M_rounds τ (iz n) = some (iz v, τ') ∧ eqM τ τ' ∧ Lk (gA τ' 9) (gA τ' 10) W' L' ∧ RI g lim lea tl n 680 W' L' ∧ ((v = 0 ∧ W' = Wn ∧ L' = Ln) ∨ (v = 1 ∧ cz W' 680 < cz Wn 680)) := by
  have hl := Y.2.2.2.1
  have key : ∃ r, f_M_rounds_4 τ (iz n) (iz 0) (iz 0) = some r ∧ ∃ (v : Int) (τ' : Mm) (W' L' : Nat → Int), r = (iz v, τ') ∧ eqM τ τ' ∧ Lk (gA τ' 9) (gA τ' 10) W' L' ∧ RI g lim lea tl n 680 W' L' ∧ ((v = 0 ∧ W' = Wn ∧ L' = Ln) ∨ (v = 1 ∧ cz W' 680 < cz Wn 680)) := by
    unfold f_M_rounds_4
    refine lp_ind (fun s => 680 - s.2.2.toNatClampNeg) (fun s => ∃ (τ' : Mm) (v : Int) (i : Nat) (W' L' : Nat → Int), s = (τ', iz v, iz i) ∧ i ≤ 680 ∧ eqM τ τ' ∧ Lk (gA τ' 9) (gA τ' 10) W' L' ∧ RI g lim lea tl n i W' L' ∧ ((v = 0 ∧ W' = Wn ∧ L' = Ln) ∨ (v = 1 ∧ cz W' 680 < cz Wn 680))) _ ?_ _ ⟨τ, 0, 0, Wn, Ln, rfl, by omega, eqM.rfl, K, I, Or.inl ⟨rfl, rfl, rfl⟩⟩ ?_
    · rintro _ ⟨τ', v, i, W', L', rfl, hi, hM, hK, hI, hv⟩
      dsimp only
      have hv01 : v = 0 ∨ v = 1 := by omega
      by_cases q : i = 680
      · right
        subst q
        refine ⟨(iz v, τ'), ?_, v, τ', W', L', rfl, hM, hK, hI, hv⟩
        unfold f_M_rounds_4_b
        rw [if_neg (by decide)]
        rw [if_pos (by rcases hv01 with rfl | rfl <;> decide)]
        rfl
      · left
        obtain ⟨v2, τ2, W2, L2, a1, a2, a3, a4⟩ := m_rstep (i := i) (v := v) Y (M.ext hM) (fun c hc => (congrFun (hM.2.1 4 (by decide)) _).trans (T c hc)) hT hK (by omega) hn hv01
        refine ⟨_, a1, ⟨τ2, v2, i + 1, W2, L2, rfl, by omega, hM.trans a2, a3, ?_, ?_⟩, ?_⟩
        · rcases a4 with ⟨-, rfl, rfl, a5⟩ | ⟨-, c, l, p, x, b1, b2, b3, b4, b5⟩
          · exact hI.skip a5
          · subst b2
            exact RI.put Y.g20 hl b1 hI hn.1 b3 b4 b5
        · rcases a4 with ⟨rfl, rfl, rfl, a5⟩ | ⟨rfl, c, l, p, x, b1, b2, b3, b4, b5⟩
          · exact hv
          · have hp := b1.2.2.2
            have := cz_put b4 b3 (by omega) 680 (by omega)
            rcases hv with ⟨-, rfl, rfl⟩ | ⟨-, h⟩
            · exact Or.inr ⟨rfl, by omega⟩
            · exact Or.inr ⟨rfl, by omega⟩
        · dsimp only
          rw [iz_nat (by omega) (by omega), iz_nat (by omega) (by omega)]
          omega
    · dsimp only; omega
  obtain ⟨r, k1, v, τ', W', L', rfl, k2⟩ := key
  refine ⟨v, τ', W', L', ?_, k2⟩
  unfold f_M_rounds
  exact k1
theorem m_plays29 {τ : Mm} {W R : Nat} {g : Nat → Bool} {lim lea st : Int} {tl : Nat → Int} (Y : Yok W R g lim lea st) (M : YM τ W R g lim lea st) (T : TlM τ g tl) (hT : TlOk g tl) (h0 : ∀ j, j < 680 → gA τ 9 j = iz 0 ∧ gA τ 10 j = iz 0) :
    ∃ (τ' : Mm) (W' L' : Nat → Int), f_M_plays_29 τ = some (iz 0, τ') ∧ eqM τ τ' ∧ Lk (gA τ' 9) (gA τ' 10) W' L' ∧ LC g lim lea tl W' L' := by
  have hl := Y.2.2.2.1
  have K0 : Lk (gA τ 9) (gA τ 10) (fun _ => 0) (fun _ => 0) := fun j hj => ⟨(h0 j hj).1, (h0 j hj).2, ⟨Int.le_refl _, (by decide : (0 : Int) ≤ 2)⟩, Int.le_refl _, (by decide : (0 : Int) ≤ 700)⟩
  have I0 : RI g lim lea tl 0 0 (fun _ => 0) (fun _ => 0) := fun c l p hv => ⟨Or.inl rfl, Int.le_refl _, fun q => absurd rfl q, fun q => by dsimp only at q; omega, fun q => by dsimp only at q; have := hv.2.2.2; omega, fun _ j j0 j1 => by omega⟩
  obtain ⟨v, τ1, W1, L1, a1, a2, a3, a4, a5⟩ := m_rounds (n := 0) Y M T hT K0 (by decide) I0
  have key : ∃ r, f_M_plays_37 τ1 (iz 1) = some r ∧ ∃ (τ' : Mm) (W' L' : Nat → Int), r = (iz 0, τ') ∧ eqM τ τ' ∧ Lk (gA τ' 9) (gA τ' 10) W' L' ∧ LC g lim lea tl W' L' := by
    unfold f_M_plays_37
    refine lp_ind (fun s => 682 - s.2.toNatClampNeg) (fun s => ∃ (τ' : Mm) (n : Nat) (W' L' : Nat → Int), s = (τ', iz n) ∧ 1 ≤ n ∧ cz W' 680 + n ≤ 681 ∧ eqM τ τ' ∧ Lk (gA τ' 9) (gA τ' 10) W' L' ∧ RI g lim lea tl ((n : Int) - 1) 680 W' L') _ ?_ _ ⟨τ1, 1, W1, L1, rfl, by omega, by have := cz_le W1 680; omega, a2, a3, by rw [show ((1 : Nat) : Int) - 1 = 0 from rfl]; exact a4⟩ ?_
    · rintro _ ⟨τ', n, W', L', rfl, n1, n2, hM, hK, hI⟩
      dsimp only
      have hI' : RI g lim lea tl n 0 W' L' := by
        have := hI.next Y.g20 hl
        rw [show (n : Int) - 1 + 1 = n by omega] at this
        exact this
      obtain ⟨v2, τ2, W2, L2, b1, b2, b3, b4, b5⟩ := m_rounds (n := n) Y (M.ext hM) (fun c hc => (congrFun (hM.2.1 4 (by decide)) _).trans (T c hc)) hT hK (by omega) hI'
      rcases b5 with ⟨rfl, rfl, rfl⟩ | ⟨rfl, b6⟩
      · right
        refine ⟨(iz 0, τ2), ?_, τ2, _, _, rfl, hM.trans b2, b3, RI.LC Y.g20 hl (by omega) hI (by rw [show (n : Int) - 1 + 1 = n by omega]; exact b4)⟩
        unfold f_M_plays_37_b
        rw [b1, bd_eq, if_pos (by decide)]
        rfl
      · left
        refine ⟨(τ2, iz ((n + 1 : Nat) : Int)), ?_, ⟨τ2, n + 1, W2, L2, rfl, by omega, by omega, hM.trans b2, b3, by rw [show ((n + 1 : Nat) : Int) - 1 = n by omega]; exact b4⟩, ?_⟩
        · unfold f_M_plays_37_b
          rw [b1, bd_eq, if_neg (by decide), nm_eq, i1, iz_add]
          rfl
        · dsimp only
          rw [iz_nat (by omega) (by omega), iz_nat (by omega) (by omega)]
          omega
    · dsimp only; omega
  obtain ⟨r, k1, τ', W', L', rfl, k2⟩ := key
  refine ⟨τ', W', L', ?_, k2⟩
  unfold f_M_plays_29
  rw [i0, a1, bd_eq, i1]
  exact k1
theorem m_plays {τ : Mm} {W R : Nat} {g : Nat → Bool} {lim lea st : Int} {tl : Nat → Int} (Y : Yok W R g lim lea st) (M : YM τ W R g lim lea st) (T : TlM τ g tl) (hT : TlOk g tl) :
    ∃ (τ' : Mm) (W' L' : Nat → Int), f_M_plays τ = some (iz 0, τ') ∧ eqM τ τ' ∧ Lk (gA τ' 9) (gA τ' 10) W' L' ∧ LC g lim lea tl W' L' := by
  have key : ∃ r, f_M_plays_2 τ (iz 0) = some r ∧ ∃ (τ' : Mm) (W' L' : Nat → Int), r = (iz 0, τ') ∧ eqM τ τ' ∧ Lk (gA τ' 9) (gA τ' 10) W' L' ∧ LC g lim lea tl W' L' := by
    unfold f_M_plays_2
    refine lp_ind (fun s => 680 - s.2.toNatClampNeg) (fun s => ∃ (τ' : Mm) (i : Nat), s = (τ', iz i) ∧ i ≤ 680 ∧ eqM τ τ' ∧ ∀ j, j < i → gA τ' 9 j = iz 0 ∧ gA τ' 10 j = iz 0) _ ?_ _ ⟨τ, 0, rfl, by omega, eqM.rfl, fun j hj => absurd hj (Nat.not_lt_zero j)⟩ ?_
    · rintro _ ⟨τ', i, rfl, hi, hM, h0⟩
      dsimp only
      by_cases q : i = 680
      · right
        subst q
        obtain ⟨τ2, W2, L2, a1, a2, a3, a4⟩ := m_plays29 Y (M.ext hM) (fun c hc => (congrFun (hM.2.1 4 (by decide)) _).trans (T c hc)) hT h0
        refine ⟨(iz 0, τ2), ?_, τ2, W2, L2, rfl, hM.trans a2, a3, a4⟩
        unfold f_M_plays_2_b
        rw [if_neg (by decide), a1]
        rfl
      · left
        refine ⟨(sA (sA τ' 9 i (iz 0)) 10 i (iz 0), iz ((i + 1 : Nat) : Int)), ?_, ⟨_, i + 1, rfl, by omega, hM.trans ⟨fun k _ => Eq.refl _, fun c' hc' => ?_, fun k hk => ?_, Eq.refl _⟩, fun j hj => ?_⟩, ?_⟩
        · unfold f_M_plays_2_b
          rw [if_pos (by rw [show (680 : Int32) = iz 680 from rfl, iz_lt (by omega) (by omega) (by decide) (by decide)]; omega), ix_n (by omega) (by decide), nm_eq, ix_n (by omega) (by decide), nm_eq, nm_eq, i0, i1, iz_add]
          rfl
        · rw [gA_sA, if_neg (fun q => by rw [q] at hc'; cases hc'), gA_sA, if_neg (fun q => by rw [q] at hc'; cases hc')]
        · rw [gA_sA, if_neg (by decide), gA_sA, if_neg (by decide)]
        · rw [gA_sA, if_neg (by decide), gA_sA, if_pos rfl, gA_sA, if_pos rfl, gA_sA, if_neg (by decide)]
          by_cases z : j = i
          · rw [z, pk_us, pk_us]; exact ⟨rfl, rfl⟩
          · rw [pk_un z, pk_un z]; exact h0 j (by omega)
        · dsimp only
          rw [iz_nat (by omega) (by omega), iz_nat (by omega) (by omega)]
          omega
    · dsimp only; omega
  obtain ⟨r, k1, τ', W', L', rfl, k2⟩ := key
  refine ⟨τ', W', L', ?_, k2⟩
  unfold f_M_plays
  exact k1
