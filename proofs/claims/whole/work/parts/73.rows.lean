-- reading a row, whole
theorem row_end {p : Nat} {σ0 τ0 σx τx : Mm} {a : Nat → Nat} {t n : Nat} {Q G : Nat → Nat} {d x R j : Nat} {lim lea : Int} {lt jt : Bool} {g bk : Nat → Bool} {tl : Nat → Int} (hp : d ≠ p) (y1 : x ≤ 5) (q2 : R < 4) (q1 : 0 < x) (y3 : 2 ≤ lim ∧ lim ≤ 9) (y4 : -2 ≤ lea ∧ lea ≤ 2) (hS : RW p σ0 τ0 a t n Q G d x R lim lea lt jt x j σx τx g bk tl) : f_Re_readRow_47_b σx (iz ((x : Nat) : Int)) = some (.inr (1, sI σx d 2 (iz ((R + 1 : Nat) : Int)))) ∧ f_M_readsRow_2_b τx (iz ((x : Nat) : Int)) = some (.inr (0, sA τx 2 6 (iz ((R + 1 : Nat) : Int)))) ∧ PS p σ0 τ0 (sI σx d 2 (iz ((R + 1 : Nat) : Int))) (sA τx 2 6 (iz ((R + 1 : Nat) : Int))) a t n Q G d j x (R + 1) (-9) lim lea lt jt g bk tl := by
  obtain ⟨u1, ⟨u2, u3⟩, u4, u5, u6, u7, u8, u9, u10⟩ := hS
  have kR : iz (R : Int) + 1 = iz ((R + 1 : Nat) : Int) := by rw [i1, iz_add]; rfl
  have hu := u4.2.1
  refine ⟨?_, ?_, ?_, ⟨?_, u3⟩, ?_, ?_, ?_, ?_, ?_, ?_, ?_⟩
  · unfold f_Re_readRow_47_b f_Re_readRow_90
    rw [u4.rk, u4.2.2.1, if_neg (by rw [iz_lt (by omega) (by omega) (by omega) (by omega)]; omega), u4.rk, u4.2.2.2.1, kR, nm_eq]
    rfl
  · unfold f_M_readsRow_2_b f_M_readsRow_123
    rw [h5ix, u7.1, if_neg (by rw [iz_lt (by omega) (by omega) (by omega) (by omega)]; omega), h6ix, h6ix, u7.2.1, kR, nm_eq]
    rfl
  · exact u1.sd hu _
  · rw [gI_sI, if_neg (by omega)]; exact u2
  · obtain ⟨h1, h2, h3, h4, h5, h6, h7, h8, h9, h10⟩ := u4
    refine ⟨h1, h2, ?_, ?_, ?_, ?_, ?_, ?_, ?_, h10⟩
    · rw [gI_sI, if_neg (by omega)]; exact h3
    · rw [gI_sI, if_pos ⟨rfl, rfl⟩]
    · rw [gI_sI, if_neg (by omega)]; exact h5
    · rw [gI_sI, if_neg (by omega)]; exact h6
    · rw [gI_sI, if_neg (by omega)]; exact h7
    · rw [gI_sI, if_neg (by omega)]; exact h8
    · rw [gI_sI, if_neg (by omega)]; exact h9
  · exact u5.a2 2 6 _
  · rw [gI_sA]; exact u6
  · obtain ⟨h1, h2, h3, h4, h5, h6, h7, h8⟩ := u7
    refine ⟨?_, ?_, ?_, ?_, ?_, h6, h7, h8⟩
    · rw [gA_sA, if_pos rfl, pk_un (by decide)]; exact h1
    · rw [gA_sA, if_pos rfl, pk_us]
    · rw [gA_sA, if_pos rfl, pk_un (by decide)]; exact h3
    · rw [gA_sA, if_pos rfl, pk_un (by decide)]; exact h4
    · rw [gA_sA, if_pos rfl, pk_un (by decide)]; exact h5
  · obtain ⟨v1, v2, v3, v4⟩ := u8
    have hdn : ∀ c, dn x (R + 1) 0 c ↔ dn x R x c := fun c => by unfold dn; omega
    exact ⟨y1, by omega, y3, y4, Or.inl rfl, fun z => by omega, fun c hc => ⟨(v1 c hc).1, (hdn c).mpr (v1 c hc).2⟩, v2, fun c hc hcd => v3 c hc ((hdn c).mp hcd), fun c hc hcd => v4 c hc (fun z => hcd ((hdn c).mpr z))⟩
  · exact u9.trans (eqD_d hu hp)
  · exact u10.trans (eqM_a2 (by omega))
def RowP (j0 : Nat) (p : Nat) (σ0 τ0 : Mm) (a : Nat → Nat) (t n : Nat) (Q G : Nat → Nat) (d W R : Nat) (lim lea : Int) (lt jt : Bool) (r r' : Int32 × Mm) : Prop := (∃ σ' τ' j g bk tl, r = (1, σ') ∧ r' = (0, τ') ∧ j0 < j ∧ PS p σ0 τ0 σ' τ' a t n Q G d j W R (-9) lim lea lt jt g bk tl) ∨ (∃ σ' τ', r = (0, σ') ∧ r' = (0, τ') ∧ FS p σ0 τ0 σ' τ' a t n Q G)
def RowI (j0 : Nat) (p : Nat) (σ0 τ0 : Mm) (a : Nat → Nat) (t n : Nat) (Q G : Nat → Nat) (d W R : Nat) (lim lea : Int) (lt jt : Bool) (k : Nat) (s s' : Mm × Int32) : Prop := ∃ x j σx τx g bk tl, s = (σx, iz ((x : Nat) : Int)) ∧ s' = (τx, iz ((x : Nat) : Int)) ∧ x ≤ W ∧ k = W - x ∧ j0 < j ∧ RW p σ0 τ0 a t n Q G d W R lim lea lt jt x j σx τx g bk tl
theorem row_all {j0 p : Nat} {σ0 τ0 : Mm} {a : Nat → Nat} {t n : Nat} {Q G : Nat → Nat} {d W R : Nat} {lim lea : Int} {lt jt : Bool} (hp : d ≠ p) (T0 : TXm τ0 a t) (C : CH a t n Q G) (y1 : W ≤ 5) (q2 : R < 4) (q1 : 0 < W) (y3 : 2 ≤ lim ∧ lim ≤ 9) (y4 : -2 ≤ lea ∧ lea ≤ 2) (k : Nat) (s s' : Mm × Int32) (hI : RowI j0 p σ0 τ0 a t n Q G d W R lim lea lt jt k s s') :
    (∃ u u' j, f_Re_readRow_47_b s.1 s.2 = some (.inl u) ∧ f_M_readsRow_2_b s'.1 s'.2 = some (.inl u') ∧ j < k ∧ RowI j0 p σ0 τ0 a t n Q G d W R lim lea lt jt j u u') ∨ (∃ m m' r r', m ≤ 2000 ∧ m' ≤ 2000 ∧ lpn (fun s : Mm × Int32 => f_Re_readRow_47_b s.1 s.2) m s = some r ∧ lpn (fun s : Mm × Int32 => f_M_readsRow_2_b s.1 s.2) m' s' = some r' ∧ RowP j0 p σ0 τ0 a t n Q G d W (R + 1) lim lea lt jt r r') := by
  obtain ⟨x, j, σx, τx, g, bk, tl, rfl, rfl, hx, rfl, hj0, hS⟩ := hI
  by_cases kx : x < W
  · rcases row_step T0 C y1 q2 kx hS with ⟨σ', τ', j', g', bk', tl', c1, c2, hj1, c3⟩ | ⟨τ', c1, c2, c3, c4, c5, c6⟩
    · exact Or.inl ⟨_, _, W - (x + 1), c1, c2, by omega, x + 1, j', σ', τ', g', bk', tl', rfl, rfl, by omega, rfl, by omega, c3⟩
    · right
      obtain ⟨u1, ⟨u2, u3⟩, -, -, -, -, -, u8, -⟩ := hS
      have hpl := pl_le T0.1 C u3
      have hex : ∃ (τ : Mm) (y : Nat), (τ', iz ((x + 1 : Nat) : Int)) = (τ, iz ((y : Nat) : Int)) ∧ y ≤ W ∧ eqM τ0 τ ∧ gI τ 0 8 = iz (pl t n Q j : Nat) ∧ gA τ 2 5 = iz W ∧ gA τ 2 6 = iz R := ⟨τ', x + 1, rfl, kx, c3, c4, c5, c6⟩
      have hms : 6 - ((τ', iz ((x + 1 : Nat) : Int)) : Mm × Int32).2.toNatClampNeg < 20 := Nat.lt_of_le_of_lt (Nat.sub_le _ _) (by decide)
      have hw : pl t n Q j ≤ 200 := Nat.le_trans hpl (by decide)
      obtain ⟨r', d1, τ'', d0, d2, d3⟩ := m_rowF hw y1 q2 20 _ hex hms
      rw [d0] at d1
      have e20 := lpn_step (step := fun s : Mm × Int32 => f_M_readsRow_2_b s.1 s.2) (s := (τx, iz ((x : Nat) : Int))) (s' := (τ', iz ((x + 1 : Nat) : Int))) 20 c2
      rw [d1] at e20
      exact ⟨1, 20 + 1, (0, σx), (0, τ''), by decide, by decide, lpn_end c1, e20, Or.inr ⟨σx, τ'', rfl, rfl, j, u1, u2, u3, d3, u8, d2⟩⟩
  · right
    have : x = W := by omega
    subst this
    obtain ⟨c1, c2, c3⟩ := row_end hp y1 q2 q1 y3 y4 hS
    exact ⟨1, 1, _, _, by decide, by decide, lpn_end c1, lpn_end c2, Or.inl ⟨_, _, j, g, bk, tl, rfl, rfl, hj0, c3⟩⟩
theorem i_row {p : Nat} {σ0 τ0 σ τ : Mm} {a : Nat → Nat} {t n : Nat} {Q G : Nat → Nat} {d i W R : Nat} {st lim lea : Int} {lt jt : Bool} {g bk : Nat → Bool} {tl : Nat → Int} (hp : d ≠ p) (T0 : TXm τ0 a t) (C : CH a t n Q G) (S : PS p σ0 τ0 σ τ a t n Q G d i W R st lim lea lt jt g bk tl) (hk : tk a n Q G i = 114) (v1 : Int32) : OUTk i p σ0 τ0 a t n Q G d (f_Re_readRow σ) (MB τ v1) v1 := by
  have S' := S
  obtain ⟨s1, ⟨s2, s3⟩, s4, s5, s6, s7, s8, s9, s10⟩ := S'
  have T := T0.extM s10
  have h7 : gI τ 0 7 = iz 114 := by rw [← hk]; exact s5.2.2.2.1 (by omega)
  obtain ⟨y1, y2, y3, y4, y5, y6, y7⟩ := id s8
  have hm := (m_mb (τ := τ) (v1 := v1) ⟨114, h7, by simp⟩ s7.2.2.2.2.2.1).2.2.2.2.2 h7 W R y1 y2 s7.1 s7.2.1
  have hd := s4.2.1
  have hst : -9 ≤ st ∧ st < 20 := by
    rcases y5 with z | ⟨c, z, z2⟩
    · omega
    · have := (y7.1 c z2).1
      omega
  have eW : gI σ d 1 = iz W := s4.2.2.1
  have eR : gI σ d 2 = iz R := s4.2.2.2.1
  have est : gI σ d 3 = iz st := s4.2.2.2.2.1
  by_cases q : 0 < W ∧ R < 4 ∧ st = -9
  · obtain ⟨q1, q2, q3⟩ := q
    rw [if_pos ⟨q1, q2, q3⟩] at hm
    obtain ⟨τ1, b1, b2, b3, b4, b5⟩ := y61 T C s5 s3 s6 (by omega) v1
    rw [hk] at b1
    have e1M : eqM τ0 τ1 := s10.trans b2.eqM
    rw [q3] at s4 s7
    have hF : f_Re_readRow σ = f_Re_readRow_47 (sI σ 3 5 (iz ((i + 1 : Nat) : Int))) 0 := by
      unfold f_Re_readRow
      rw [s4.rk, eW, if_neg (by rw [i0, iz_eq (by omega) (by omega) (by omega) (by omega)]; omega), s4.rk, est, if_pos (by rw [q3]; rfl), s4.rk, eR, if_pos (by rw [i4, iz_lt (by omega) (by omega) (by omega) (by omega)]; omega), s2, i1, iz_add, nm_eq]
      rfl
    have hH : ∀ x τ', f_M_readsRow_2 τ1 0 = some (x, τ') → MB τ v1 = f_M_yard_77 τ' v1 := fun x τ' h => by
      unfold MB
      rw [hm, bd_eq, if_neg (by decide), b1]
      unfold f_M_readsItem f_M_readsRow
      rw [if_neg (by decide), if_pos (by decide), h, bd_eq, bd_eq]
    have h0 : RW p σ0 τ0 a t n Q G d W R lim lea lt jt 0 (i + 1) (sI σ 3 5 (iz ((i + 1 : Nat) : Int))) τ1 g bk tl := ⟨s1.s3 (by decide) _, ⟨by rw [gI_sI, if_pos ⟨rfl, rfl⟩], by omega⟩, s4.s35 _, b3, b4, s7.eqA b2, y7, s9.trans eqT_3.eqD, e1M⟩
    obtain ⟨r, r', a1, a2, a3⟩ := lp_two (step := fun s : Mm × Int32 => f_Re_readRow_47_b s.1 s.2) (step' := fun s : Mm × Int32 => f_M_readsRow_2_b s.1 s.2) (RowI i p σ0 τ0 a t n Q G d W R lim lea lt jt) (RowP i p σ0 τ0 a t n Q G d W (R + 1) lim lea lt jt) (row_all hp T0 C y1 q2 q1 y3 y4) (k := W) (by omega) (s := (sI σ 3 5 (iz ((i + 1 : Nat) : Int)), 0)) (s' := (τ1, 0)) ⟨0, i + 1, _, _, g, bk, tl, rfl, rfl, by omega, rfl, by omega, h0⟩
    rcases a3 with ⟨σ', τ', j, g', bk', tl', rfl, rfl, hij, c⟩ | ⟨σ', τ', rfl, rfl, c⟩
    · exact Or.inl ⟨σ', τ', j, W, R + 1, -9, lim, lea, lt, jt, g', bk', tl', hF.trans a1, hH _ _ a2, hij, c⟩
    · exact Or.inr ⟨σ', τ', hF.trans a1, hH _ _ a2, c⟩
  · rw [if_neg q] at hm
    refine item_fault T0 C S ?_ ?_
    · unfold f_Re_readRow
      rw [s4.rk, eW]
      by_cases z1 : W = 0
      · rw [if_pos (by rw [z1]; rfl)]
      · rw [if_neg (by rw [i0, iz_eq (by omega) (by omega) (by omega) (by omega)]; omega), s4.rk, est]
        by_cases z2 : st = -9
        · rw [if_pos (by rw [z2]; rfl), s4.rk, eR, if_neg (by rw [i4, iz_lt (by omega) (by omega) (by omega) (by omega)]; omega)]
        · rw [if_neg (by rw [i9, iz_neg, iz_eq (by omega) (by omega) (by omega) (by omega)]; exact z2)]
    · unfold MB
      rw [hm, bd_eq, if_pos rfl]
