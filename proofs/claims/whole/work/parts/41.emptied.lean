-- the queue, emptied
theorem pb_whole {g : Nat → Bool} {lim lea : Int} {tl : Nat → Int} {σ : Mm} {r h q : Nat} {D : Int} {W L : Nat → Int} {Q : Nat → Nat} {Ct : Nat → Nat → Bool} (Y : YC g lim lea tl σ r) (F : FI g lim lea tl 680 h q D σ W L Q Ct) (hC : ∀ t s, Ct t s = true → ∃ a, a < h ∧ Q a = t) (hh : h < q) (hD : 0 ≤ D ∧ D ≤ h) :
    ∃ σ' q' D' W' L' Q' Ct', f_Co_passBack σ (gA σ 25 h) = some (0, σ') ∧ eqC σ σ' ∧ FI g lim lea tl 680 (h + 1) q' D' σ' W' L' Q' Ct' ∧ (∀ t s, Ct' t s = true → ∃ a, a < h + 1 ∧ Q' a = t) ∧ h < q' ∧ (0 ≤ D' ∧ D' ≤ h + 1) := by
  obtain ⟨y1, y2, y3, y4, y5, y6, y7, y8⟩ := id Y
  have hq680 := F.q.1
  obtain ⟨C, J, I⟩ := F
  obtain ⟨c, l, p, hv, ht, b1, b2, b3, b4⟩ := (J.1 h hh).1.ex y5 y7
  have hL0 := (I _ (J.1 h hh).1).2.2.1
  obtain ⟨D', J', a1, a2, a3⟩ := J.head hh hD.1 hL0
  rw [ht] at a1
  have e25 := C.2.2.1 h hh
  rw [ht] at e25
  have hpb := t_passBack (fun K => Y.rk K) y3 y4 y6 y7 y8 b1 hv.1 b2 b3 b4 (Eq.refl (sx c l p))
  rw [e25, hpb]
  have lt1 : ∀ {q' : Nat} {Q' : Nat → Nat} {Ct' : Nat → Nat → Bool} {W' L' : Nat → Int}, QI (VV g lim) (TT g lim lea tl) h q' D' W' L' Q' Ct' → ∀ t s, Ct' t s = true → ∃ a, a < h + 1 ∧ Q' a = t := by
    intro q' Q' Ct' W' L' J t s hs
    obtain ⟨a, c1, c2, c3⟩ := J.2.2.2.2.2.2.2.2.2 t s hs
    exact ⟨a, by omega, c3⟩
  by_cases hq : vd lim (l - (tl c + lea)) = 0
  · rw [if_pos hq]
    have K0 : KB g 0 c (l - (tl c + lea)) (1 - p) (sx c l p) Ct := by
      refine ⟨fun s hs => ?_, fun u c2 hu => absurd hu (Nat.not_lt_zero u)⟩
      obtain ⟨a, c1, c2⟩ := hC _ _ hs
      exact absurd (c2.trans ht.symm) (J.2.1 a h c1 hh)
    obtain ⟨x, e1, σ', q', W', L', Q', Ct', rfl, e2, ⟨C', J2, I'⟩, e4, e5, e6, e7⟩ := pb_all Y ⟨C, J', I⟩ hh hv ht a1 (by omega) hq K0
    refine ⟨σ', q', D', W', L', Q', Ct', e1, e2, ⟨C', J2.done e4 (by rw [e5, e6]; omega) (fun s w hs hw hT => ?_), I'⟩, lt1 J2, e4, by omega, by omega⟩
    rw [e5] at hT ⊢
    obtain ⟨-, u, c2, u1, u2, u3⟩ := pred_is y5 y7 hv hs hw hT
    rw [u3]
    exact e7.2 u c2 u1 u2
  · rw [if_neg hq]
    refine ⟨σ, q, D', W, L, Q, Ct, rfl, eqC.rfl, ⟨C, J'.done hh (by rw [ht]; omega) (fun s w hs hw hT => ?_), I⟩, lt1 J', hh, by omega, by omega⟩
    rw [ht] at hT
    exact absurd (pred_is y5 y7 hv hs hw hT).1 hq
theorem queue_all {g : Nat → Bool} {lim lea : Int} {tl : Nat → Int} {σ : Mm} {r q : Nat} {W L : Nat → Int} {Q : Nat → Nat} (Y : YC g lim lea tl σ r) (F : FI g lim lea tl 680 0 q 0 σ W L Q (fun _ _ => false)) :
    ∃ x, f_Co_solve_80 σ 0 = some x ∧ ∃ σ' q' D' W' L' Q' Ct', x = (0, σ') ∧ eqC σ σ' ∧ FI g lim lea tl 680 q' q' D' σ' W' L' Q' Ct' := by
  unfold f_Co_solve_80
  refine lp_ind (fun s => 680 - s.2.toNatClampNeg) (fun s => ∃ (σ' : Mm) (h q' : Nat) (D' : Int) (W' L' : Nat → Int) (Q' : Nat → Nat) (Ct' : Nat → Nat → Bool), s = (σ', iz h) ∧ h ≤ q' ∧ eqC σ σ' ∧ FI g lim lea tl 680 h q' D' σ' W' L' Q' Ct' ∧ (∀ t s, Ct' t s = true → ∃ a, a < h ∧ Q' a = t) ∧ (0 ≤ D' ∧ D' ≤ h)) _ (fun s hs => ?_) _ ⟨σ, 0, q, 0, W, L, Q, _, rfl, by omega, eqC.rfl, F, (fun _ _ z => by cases z), by omega, by omega⟩ ?_
  · obtain ⟨σ', h, q', D', W', L', Q', Ct', rfl, hq, e, F', h1, h2⟩ := hs
    have hq680 := F'.q.1
    have h4 := F'.1.2.2.2
    dsimp only
    by_cases k : h < q'
    · left
      obtain ⟨σ2, q2, D2, W2, L2, Q2, Ct2, a1, a2, a3, a4, a5, a6⟩ := pb_whole (Y.eqC e) F' h1 k h2
      refine ⟨(σ2, iz ((h + 1 : Nat) : Int)), ?_, ⟨σ2, h + 1, q2, D2, W2, L2, Q2, Ct2, rfl, by omega, e.trans a2, a3, a4, by omega, by omega⟩, ?_⟩
      · unfold f_Co_solve_80_b
        rw [h4, if_pos (by rw [iz_lt (by omega) (by omega) (by omega) (by omega)]; omega), if_pos (by rw [show (680 : Int32) = iz 680 from rfl, iz_lt (by omega) (by omega) (by decide) (by decide)]; omega), ix_n (by omega) (by decide), a1, bd_eq, nm_eq, i1, iz_add]
        rfl
      · dsimp only
        rw [iz_nat (by omega) (by omega), iz_nat (by omega) (by omega)]
        omega
    · right
      have : h = q' := by omega
      subst this
      refine ⟨(0, σ'), ?_, σ', h, D', W', L', Q', Ct', rfl, e, F'⟩
      unfold f_Co_solve_80_b
      rw [h4, if_neg (by rw [iz_lt (by omega) (by omega) (by omega) (by omega)]; omega)]
      rfl
  · dsimp only
    omega
