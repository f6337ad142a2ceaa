-- two loops side by side
theorem lpn_mono {S ρ : Type} (step : S → Option (S ⊕ ρ)) : ∀ (n m : Nat) (s : S) (r : ρ), lpn step n s = some r → n ≤ m → lpn step m s = some r := by
  intro n
  induction n with
  | zero => intro m s r h _; cases h
  | succ n ih =>
    intro m s r h hm
    obtain ⟨k, rfl⟩ : ∃ k, m = k + 1 := ⟨m - 1, by omega⟩
    unfold lpn at h ⊢
    rcases hs : step s with _ | (s' | r')
    · rw [hs] at h; cases h
    · rw [hs] at h
      exact ih k s' r h (by omega)
    · rw [hs] at h
      exact h
theorem lpn_end {S ρ : Type} {step : S → Option (S ⊕ ρ)} {s : S} {r : ρ} (h : step s = some (.inr r)) : lpn step 1 s = some r := by
  unfold lpn
  rw [h]
theorem lpn_step {S ρ : Type} {step : S → Option (S ⊕ ρ)} {s s' : S} (n : Nat) (h : step s = some (.inl s')) : lpn step (n + 1) s = lpn step n s' := by
  show (match step s with
    | none => none
    | some (.inl s') => lpn step n s'
    | some (.inr r) => some r) = lpn step n s'
  rw [h]
theorem lpn_ind {S ρ : Type} {step : S → Option (S ⊕ ρ)} (μ : S → Nat) (I : S → Prop) (Post : ρ → Prop) (h : ∀ s, I s → (∃ s', step s = some (.inl s') ∧ I s' ∧ μ s' < μ s) ∨ (∃ r, step s = some (.inr r) ∧ Post r)) : ∀ (n : Nat) (s : S), I s → μ s < n → ∃ r, lpn step n s = some r ∧ Post r := by
  intro n
  induction n with
  | zero => intro s _ h2; omega
  | succ n ih =>
    intro s hs hm
    rcases h s hs with ⟨s', e, h1, h2⟩ | ⟨r, e, h1⟩
    · rw [lpn_step n e]
      exact ih s' h1 (by omega)
    · exact ⟨r, lpn_mono step 1 (n + 1) s r (lpn_end e) (by omega), h1⟩
theorem lp_two {S ρ S' ρ' : Type} {step : S → Option (S ⊕ ρ)} {step' : S' → Option (S' ⊕ ρ')} (I : Nat → S → S' → Prop) (Post : ρ → ρ' → Prop) (h : ∀ k s s', I k s s' → (∃ t t' j, step s = some (.inl t) ∧ step' s' = some (.inl t') ∧ j < k ∧ I j t t') ∨ (∃ m m' r r', m ≤ 2000 ∧ m' ≤ 2000 ∧ lpn step m s = some r ∧ lpn step' m' s' = some r' ∧ Post r r')) {k : Nat} (hk : k ≤ 1000) {s : S} {s' : S'} (hI : I k s s') : ∃ r r', lp step s = some r ∧ lp step' s' = some r' ∧ Post r r' := by
  have key : ∀ n k s s', k < n → I k s s' → ∃ r r', lpn step (k + 2000) s = some r ∧ lpn step' (k + 2000) s' = some r' ∧ Post r r' := by
    intro n
    induction n with
    | zero => intro k s s' hk; omega
    | succ n ih =>
      intro k s s' hk hI
      rcases h k s s' hI with ⟨t, t', j, e1, e2, e3, e4⟩ | ⟨m, m', r, r', m1, m2, e1, e2, e3⟩
      · obtain ⟨r, r', a1, a2, a3⟩ := ih j t t' (by omega) e4
        refine ⟨r, r', ?_, ?_, a3⟩
        · rw [show k + 2000 = (k + 1999) + 1 by omega, lpn_step _ e1]
          exact lpn_mono step _ _ t r a1 (by omega)
        · rw [show k + 2000 = (k + 1999) + 1 by omega, lpn_step _ e2]
          exact lpn_mono step' _ _ t' r' a2 (by omega)
      · exact ⟨r, r', lpn_mono step _ _ s r e1 (by omega), lpn_mono step' _ _ s' r' e2 (by omega), e3⟩
  obtain ⟨r, r', a1, a2, a3⟩ := key (k + 1) k s s' (by omega) hI
  have hF : k + 2000 ≤ FU := by unfold FU; omega
  exact ⟨r, r', lpn_mono step _ _ s r a1 hF, lpn_mono step' _ _ s' r' a2 hF, a3⟩
-- width
theorem i_wide {p : Nat} {σ0 τ0 σ τ : Mm} {a : Nat → Nat} {t n : Nat} {Q G : Nat → Nat} {d i R : Nat} {st lim lea : Int} {lt jt : Bool} {g bk : Nat → Bool} {tl : Nat → Int} (hp : d ≠ p) (T0 : TXm τ0 a t) (C : CH a t n Q G) (S : PS p σ0 τ0 σ τ a t n Q G d i 0 R st lim lea lt jt g bk tl) (hk : tk a n Q G i = 119) : OUTk i p σ0 τ0 a t n Q G d (f_Re_readWide σ) (MB τ 0) 0 := by
  have S' := S
  obtain ⟨s1, ⟨s2, s3⟩, s4, s5, s6, s7, s8, s9, s10⟩ := S'
  have T := T0.extM s10
  have ha : ∀ j, j < t → a j < 256 := fun j hj => (T.2.2 j hj).1
  have h7 : gI τ 0 7 = iz 119 := by rw [← hk]; exact s5.2.2.2.1 (by omega)
  have hm := (m_mb (τ := τ) (v1 := 0) ⟨119, h7, by simp⟩ s7.2.2.2.2.2.1).2.2.2.1 h7
  have hd := s4.2.1
  obtain ⟨τ1, b1, b2, b3, b4, b5⟩ := y61 T C s5 s3 s6 (by omega) 0
  rw [hk] at b1
  have hH : MB τ 0 = (bd (f_M_readsItem τ1 (iz 119)) fun _ σ3 => f_M_yard_77 σ3 0) := by
    unfold MB
    rw [hm, bd_eq, if_pos rfl, if_neg (by decide), b1]
  have e1M : eqM τ0 τ1 := s10.trans b2.eqM
  have P1 := s7.eqA b2
  have A2 : TA (sI σ 3 5 (iz ((i + 1 : Nat) : Int))) a t n Q G := s1.s3 (by decide) _
  have h5 : gI (sI σ 3 5 (iz ((i + 1 : Nat) : Int))) 3 5 = iz ((i + 1 : Nat) : Int) := by rw [gI_sI, if_pos ⟨rfl, rfl⟩]
  obtain ⟨r1, r2⟩ := t_readNumber ha C A2 (by omega) h5 (lo := 1) (hi' := 5) (by decide) (by decide) (by decide) (by decide)
  obtain ⟨m1, m2⟩ := m_number (T0.extM e1M) C b3 b4 (by omega) (lo := 1) (hi' := 5) (by decide) (by decide) (by decide) (by decide)
  have hF : f_Re_readWide σ = (bd (f_Re_readNumber (sI σ 3 5 (iz ((i + 1 : Nat) : Int))) (iz 1) (iz 5)) fun r_1 σ3 => (if r_1 < 0 then some ((0 : Int32), σ3) else (rk (gR σ3 3 6) okPl fun t1 => (nm (sI σ3 t1 1 r_1) fun σ4 => some ((1 : Int32), σ4))))) := by
    unfold f_Re_readWide
    rw [s2, i1, iz_add, nm_eq]
    rfl
  have hR : f_M_readsItem τ1 (iz 119) = (bd (f_M_number τ1 (iz 1) (iz 5)) fun r_5 σ7 => (ix 5 10 fun j3 => nm (sA σ7 2 j3 r_5) fun σ8 => some ((0 : Int32), σ8))) := by
    unfold f_M_readsItem
    rw [if_pos (by decide)]
    rfl
  have h5ix : ∀ {α : Type} (K : Nat → Option α), ix 5 10 K = K 5 := fun K => by rw [i5, ix_iz (by decide) (by decide) (by decide)]; rfl
  by_cases q : tk a n Q G (i + 1) = -2 ∧ 1 ≤ nv a Q G (i + 1) ∧ nv a Q G (i + 1) ≤ 5
  · left
    obtain ⟨τ2, c1, c2, c3⟩ := m1 q
    have hin2 : i + 1 < n := by
      have hb := tk_in ha C (show i + 1 ≤ n by omega)
      by_cases z : i + 1 = n
      · have := hb.2.2.1.mpr z; omega
      · omega
    have P2 := P1.eqA c2
    obtain ⟨wd, hwd⟩ : ∃ wd : Nat, nv a Q G (i + 1) = wd := ⟨(nv a Q G (i + 1)).toNat, by omega⟩
    rw [r1 q, bd_eq, if_neg (by rw [i0, iz_lt (by omega) (by omega) (by omega) (by omega)]; omega)] at hF
    rw [hR, c1, bd_eq, h5ix, nm_eq, bd_eq, hwd] at hH
    have PT3 : PT (sI (sI σ 3 5 (iz ((i + 1 : Nat) : Int))) 3 5 (iz ((i + 1 + 1 : Nat) : Int))) d 0 R st lim lea lt jt g tl := (s4.s35 _).s35 _
    rw [PT3.rk, nm_eq, hwd] at hF
    obtain ⟨y1, y2, y3, y4, y5, y6, y7⟩ := s8
    have hR0 := y6 rfl
    have gno : ∀ c, g c = true → False := fun c hc => by
      have := (y7.1 c hc).2.1
      omega
    refine ⟨_, _, i + 1 + 1, wd, R, st, lim, lea, lt, jt, g, bk, tl, hF, hH, by omega, ?_, ⟨?_, by omega⟩, ?_, ?_, ?_, ?_, ?_, ?_, ?_⟩
    · exact (A2.s3 (by decide) _).sd hd _
    · rw [gI_sI, if_neg (by omega), gI_sI, if_pos ⟨rfl, rfl⟩]
    · obtain ⟨h1, h2, h3, h4, h5, h6, h7, h8, h9, h10⟩ := PT3
      refine ⟨h1, h2, ?_, ?_, ?_, ?_, ?_, ?_, ?_, h10⟩
      · rw [gI_sI, if_pos ⟨rfl, rfl⟩]
      · rw [gI_sI, if_neg (by omega)]; exact h4
      · rw [gI_sI, if_neg (by omega)]; exact h5
      · rw [gI_sI, if_neg (by omega)]; exact h6
      · rw [gI_sI, if_neg (by omega)]; exact h7
      · rw [gI_sI, if_neg (by omega)]; exact h8
      · rw [gI_sI, if_neg (by omega)]; exact h9
    · exact c3.a2 2 5 _
    · rw [gI_sA, c2.1 0 8 (by omega)]; exact b4
    · obtain ⟨h1, h2, h3, h4, h5, h6, h7, h8⟩ := P2
      refine ⟨?_, ?_, ?_, ?_, ?_, h6, h7, h8⟩
      · rw [gA_sA, if_pos rfl, pk_us]
      · rw [gA_sA, if_pos rfl, pk_un (by decide)]; exact h2
      · rw [gA_sA, if_pos rfl, pk_un (by decide)]; exact h3
      · rw [gA_sA, if_pos rfl, pk_un (by decide)]; exact h4
      · rw [gA_sA, if_pos rfl, pk_un (by decide)]; exact h5
    · refine ⟨by omega, y2, y3, y4, ?_, fun _ => hR0, fun c hc => (gno c hc).elim, y7.2.1, fun c hc hdn => ?_, fun c hc _ => y7.2.2.2 c hc (fun z => ?_)⟩
      · exact y5
      · exfalso
        have := hdn.2
        omega
      · have := z.1
        omega
    · exact ((s9.trans eqT_3.eqD).trans eqT_3.eqD).trans (eqD_d hd hp)
    · exact (e1M.trans c2.eqM).trans (eqM_a2 (by omega))
  · right
    rw [r2 q, bd_eq, if_pos (by decide)] at hF
    rw [hR, m2 q, bd_eq, h5ix, nm_eq, bd_eq] at hH
    refine ⟨_, _, hF, hH, i + 1, A2, h5, by omega, ?_, s9.trans eqT_3.eqD, ?_⟩
    · rw [gI_sA, gI_sI, if_pos ⟨rfl, rfl⟩]
    · exact (e1M.sl (by simp) _).trans (eqM_a2 (by omega))
