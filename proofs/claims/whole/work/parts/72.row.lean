-- reading a row
theorem h5ix {α : Type} (K : Nat → Option α) : ix 5 10 K = K 5 := by rw [i5, ix_iz (by decide) (by decide) (by decide)]; rfl
theorem h6ix {α : Type} (K : Nat → Option α) : ix 6 10 K = K 6 := by rw [i6, ix_iz (by decide) (by decide) (by decide)]; rfl
theorem m_r96 {τ : Mm} {x cell : Nat} (hc : cell < 20) (v3 s2 : Int32) : f_M_readsRow_96 τ (iz x) (iz cell) v3 (iz cell) s2 = some (.inl (sI (sA τ 3 cell s2) 0 12 (if v3 = 0 then gI τ 0 12 ||| 0 else gI τ 0 12 ||| (1 <<< (iz (cell : Int) &&& 31))), iz ((x + 1 : Nat) : Int))) := by
  have kk : iz (x : Int) + 1 = iz ((x + 1 : Nat) : Int) := by rw [i1, iz_add]; rfl
  unfold f_M_readsRow_96 f_M_readsRow_113
  rw [ix_n hc (by decide), nm_eq, gI_sA]
  by_cases q : v3 = 0
  · rw [if_pos q, if_pos q, nm_eq, kk, nm_eq]
  · rw [if_neg q, if_neg q, nm_eq, kk, nm_eq]
theorem eqM_r96 {τ0 τ : Mm} (e : eqM τ0 τ) (cell : Nat) (s2 v : Int32) : eqM τ0 (sI (sA τ 3 cell s2) 0 12 v) := (e.trans eqM_a3).sl (by simp) _
/-- the rest of a row behind a fault -/
theorem m_rowF {τ0 : Mm} {W R w : Nat} (hw : w ≤ 200) (w1 : W ≤ 5) (w2 : R < 4) : ∀ (n : Nat) (s : Mm × Int32), (∃ (τ : Mm) (x : Nat), s = (τ, iz x) ∧ x ≤ W ∧ eqM τ0 τ ∧ gI τ 0 8 = iz (w : Nat) ∧ gA τ 2 5 = iz W ∧ gA τ 2 6 = iz R) → 6 - s.2.toNatClampNeg < n → ∃ r, lpn (fun s : Mm × Int32 => f_M_readsRow_2_b s.1 s.2) n s = some r ∧ ∃ τ', r = (0, τ') ∧ eqM τ0 τ' ∧ gI τ' 0 8 = iz (w : Nat) := by
  refine lpn_ind (fun s : Mm × Int32 => 6 - s.2.toNatClampNeg) _ _ (fun s hs => ?_)
  obtain ⟨τ, x, rfl, hx, e, h8, a5, a6⟩ := hs
  dsimp only
  by_cases k : x < W
  · left
    have hcell : 5 * R + x < 20 := by omega
    have ecell : (5 : Int32) * iz (R : Int) + iz (x : Int) = iz ((5 * R + x : Nat) : Int) := by rw [i5, iz_mul, iz_add]; rfl
    have h74 : ∀ (v3 s : Int32), ∃ s2, f_M_readsRow_74 τ (iz x) (iz ((5 * R + x : Nat) : Int)) v3 s = f_M_readsRow_96 τ (iz x) (iz ((5 * R + x : Nat) : Int)) v3 (iz ((5 * R + x : Nat) : Int)) s2 := fun v3 s => by
      unfold f_M_readsRow_74
      rw [m_takesF h8 hw, bd_eq]
      by_cases q : v3 = 0
      · rw [if_pos q]; exact ⟨_, rfl⟩
      · rw [if_neg q]; exact ⟨_, rfl⟩
    have key : ∃ v3 s2, f_M_readsRow_2_b τ (iz (x : Int)) = f_M_readsRow_96 τ (iz x) (iz ((5 * R + x : Nat) : Int)) v3 (iz ((5 * R + x : Nat) : Int)) s2 := by
      unfold f_M_readsRow_2_b
      rw [h5ix, a5, if_pos (by rw [iz_lt (by omega) (by omega) (by omega) (by omega)]; omega), h6ix, a6, ecell, nm_eq]
      unfold f_M_readsRow_45 f_M_readsRow_46 f_M_readsRow_69 f_M_readsRow_73
      by_cases q1 : gI τ 0 5 = 1
      · rw [if_pos q1]
        by_cases q2 : gI τ 0 7 = 120
        · rw [if_pos q2, if_neg (by decide)]
          obtain ⟨s2, h⟩ := h74 1 1
          exact ⟨1, s2, h⟩
        · rw [if_neg q2, if_pos rfl]
          by_cases q3 : gI τ 0 5 = 2
          · rw [if_pos q3]
            by_cases q4 : gI τ 0 7 ≤ 8
            · rw [if_pos q4]
              obtain ⟨s2, h⟩ := h74 0 1
              exact ⟨0, s2, h⟩
            · rw [if_neg q4]
              obtain ⟨s2, h⟩ := h74 0 0
              exact ⟨0, s2, h⟩
          · rw [if_neg q3]
            obtain ⟨s2, h⟩ := h74 0 0
            exact ⟨0, s2, h⟩
      · rw [if_neg q1, if_pos rfl]
        by_cases q3 : gI τ 0 5 = 2
        · rw [if_pos q3]
          by_cases q4 : gI τ 0 7 ≤ 8
          · rw [if_pos q4]
            obtain ⟨s2, h⟩ := h74 0 1
            exact ⟨0, s2, h⟩
          · rw [if_neg q4]
            obtain ⟨s2, h⟩ := h74 0 0
            exact ⟨0, s2, h⟩
        · rw [if_neg q3]
          obtain ⟨s2, h⟩ := h74 0 0
          exact ⟨0, s2, h⟩
    obtain ⟨v3, s2, hk⟩ := key
    refine ⟨_, hk.trans (m_r96 hcell v3 s2), ⟨_, x + 1, rfl, by omega, eqM_r96 e _ _ _, ?_, ?_, ?_⟩, ?_⟩
    · rw [gI_sI, if_neg (by decide), gI_sA]; exact h8
    · rw [gA_sI, gA_sA, if_neg (by decide)]; exact a5
    · rw [gA_sI, gA_sA, if_neg (by decide)]; exact a6
    · dsimp only
      rw [iz_nat (by omega) (by omega), iz_nat (by omega) (by omega)]
      omega
  · right
    refine ⟨(0, sA τ 2 6 (gA τ 2 6 + 1)), ?_, _, rfl, e.trans (eqM_a2 (by omega)), by rw [gI_sA]; exact h8⟩
    unfold f_M_readsRow_2_b f_M_readsRow_123
    rw [h5ix, a5, if_neg (by rw [iz_lt (by omega) (by omega) (by omega) (by omega)]; omega), h6ix, h6ix, nm_eq]
    rfl
def RW (p : Nat) (σ0 τ0 : Mm) (a : Nat → Nat) (t n : Nat) (Q G : Nat → Nat) (d W R : Nat) (lim lea : Int) (lt jt : Bool) (x j : Nat) (σ τ : Mm) (g bk : Nat → Bool) (tl : Nat → Int) : Prop := TA σ a t n Q G ∧ (gI σ 3 5 = iz (j : Nat) ∧ j ≤ n) ∧ PT σ d W R (-9) lim lea lt jt g tl ∧ RK τ a t n Q G j ∧ gI τ 0 8 = iz (-1) ∧ PM τ W R (-9) lim lea lt jt bk g tl ∧ YX W R x g bk tl ∧ eqD p σ0 σ ∧ eqM τ0 τ
theorem eqD_tl {p d k : Nat} {σ : Mm} {v : Int32} (hd : d = 7 ∨ d = 9) : eqD p σ (sA σ (d + 1) k v) := ⟨fun c j _ _ => Eq.refl (gI σ c j), fun c hc => by rw [gA_sA, if_neg (fun z => by rw [z] at hc; rcases hd with rfl | rfl <;> cases hc)], Eq.refl (gR σ 0 2), Eq.refl (gR σ 0 3), Eq.refl (gJ σ), fun h => h⟩
theorem row_step {p : Nat} {σ0 τ0 σ τ : Mm} {a : Nat → Nat} {t n : Nat} {Q G : Nat → Nat} {d W R x j : Nat} {lim lea : Int} {lt jt : Bool} {g bk : Nat → Bool} {tl : Nat → Int} (T0 : TXm τ0 a t) (C : CH a t n Q G) (w1 : W ≤ 5) (w2 : R < 4) (hx : x < W) (S : RW p σ0 τ0 a t n Q G d W R lim lea lt jt x j σ τ g bk tl) :
    (∃ σ' τ' j' g' bk' tl', f_Re_readRow_47_b σ (iz x) = some (.inl (σ', iz ((x + 1 : Nat) : Int))) ∧ f_M_readsRow_2_b τ (iz x) = some (.inl (τ', iz ((x + 1 : Nat) : Int))) ∧ j < j' ∧ RW p σ0 τ0 a t n Q G d W R lim lea lt jt (x + 1) j' σ' τ' g' bk' tl') ∨
    (∃ τ', f_Re_readRow_47_b σ (iz x) = some (.inr (0, σ)) ∧ f_M_readsRow_2_b τ (iz x) = some (.inl (τ', iz ((x + 1 : Nat) : Int))) ∧ eqM τ0 τ' ∧ gI τ' 0 8 = iz (pl t n Q j : Nat) ∧ gA τ' 2 5 = iz W ∧ gA τ' 2 6 = iz R) := by
  obtain ⟨s1, ⟨s2, s3⟩, s4, s5, s6, s7, s8, s9, s10⟩ := S
  have T := T0.extM s10
  have ha : ∀ j, j < t → a j < 256 := fun j hj => (T.2.2 j hj).1
  have hd := s4.2.1
  have hn := s1.2.1
  have hb := tk_in ha C s3
  obtain ⟨cell, hcell⟩ : ∃ cell, cell = 5 * R + x := ⟨_, rfl⟩
  have hc20 : cell < 20 := by omega
  have ecell : (5 : Int32) * iz (R : Int) + iz (x : Int) = iz ((cell : Nat) : Int) := by rw [hcell, i5, iz_mul, iz_add]; rfl
  have kk : iz (x : Int) + 1 = iz ((x + 1 : Nat) : Int) := by rw [i1, iz_add]; rfl
  have htc := t_cellAt σ (x := (x : Int)) (y := (R : Int)) (by omega) (by omega) (by omega) (by omega)
  rw [if_pos (by omega), show 5 * (R : Int) + x = ((cell : Nat) : Int) by omega] at htc
  have hndn : ¬ dn W R x cell := fun z => by unfold dn at z; omega
  have hdn : ∀ c, c < 20 → (dn W R (x + 1) c ↔ (dn W R x c ∨ c = cell)) := fun c hc => by unfold dn; omega
  have hgc : g cell = false := by
    cases hg : g cell with
    | false => rfl
    | true => exact absurd (s8.1 cell hg).2 hndn
  have hbc : bk cell = false := s8.2.2.2 cell hc20 hndn
  have hT0 : f_Re_readRow_47_b σ (iz x) = (bd (f_Re_readCell σ (iz (cell : Nat))) fun r_2 σ2 => (if r_2 = 0 then ((some ((0 : Int32), σ2) : Option (Int32 × Mm)).map Sum.inr) else (nm (iz (x : Int) + 1) fun y1 => some (Sum.inl (σ2, y1))))) := by
    unfold f_Re_readRow_47_b
    rw [s4.rk, s4.2.2.1, if_pos (by rw [iz_lt (by omega) (by omega) (by omega) (by omega)]; omega), s4.rk, s4.2.2.2.1, htc, bd_eq, if_neg (by rw [i0, iz_lt (by omega) (by omega) (by omega) (by omega)]; omega)]
  have hM0 : f_M_readsRow_2_b τ (iz x) = (if (gI τ 0 5) = 1 then (if (gI τ 0 7) = 120 then f_M_readsRow_46 τ (iz x) (iz (cell : Nat)) 1 else f_M_readsRow_45 τ (iz x) (iz (cell : Nat))) else f_M_readsRow_45 τ (iz x) (iz (cell : Nat))) := by
    unfold f_M_readsRow_2_b
    rw [h5ix, s7.1, if_pos (by rw [iz_lt (by omega) (by omega) (by omega) (by omega)]; omega), h6ix, s7.2.1, ecell, nm_eq]
  have hH := t_inHand ha C s1 s3 s2 (v := 120) (by decide) (by decide)
  rw [← i120] at hH
  have k1 := kd_1 hb.1 hb.2.1
  have k2 := kd_2 hb.1 hb.2.1
  have hlt : ∀ v : Int, tk a n Q G j = v → v ≠ -1 → j < n := fun v h1 h2 => by
    by_cases z : j = n
    · have := hb.2.2.1.mpr z; omega
    · omega
  have dec : ∀ c : Nat, c ≠ cell → c < 20 → ((((gI τ 0 12 ||| (1 <<< (iz (cell : Int) &&& 31))) >>> (iz (c : Int) &&& 31)) &&& 1 = 0) ↔ bk c = false) := fun c hc hc2 => by
    rw [bit_or _ hc2 hc20]
    have := s7.2.2.2.2.2.2.1 c hc2
    exact ⟨fun z => this.mp z.2, fun z => ⟨hc, this.mpr z⟩⟩
  by_cases q1 : tk a n Q G j = 120
  · left
    obtain ⟨τ1, b1, b2, b3⟩ := m_takes1 T C s5 s6 (hlt _ q1 (by decide))
    have hjn := hlt _ q1 (by decide)
    obtain ⟨bk', e1, e2⟩ : ∃ bk' : Nat → Bool, bk' cell = true ∧ ∀ c, c ≠ cell → bk' c = bk c := ⟨fun c => if c = cell then true else bk c, if_pos rfl, fun c hc => if_neg hc⟩
    have P1 := s7.eqA b2
    have hTc : f_Re_readCell σ (iz (cell : Nat)) = some (1, sA (sI σ 3 5 (iz ((j + 1 : Nat) : Int))) (d + 1) cell 100) := by
      unfold f_Re_readCell
      rw [hH, if_pos q1, bd_eq, if_neg (by decide), s2, i1, iz_add, nm_eq, (s4.s35 _).rk, ix_n hc20 (by decide), nm_eq]
      rfl
    have hMc : f_M_readsRow_2_b τ (iz x) = some (.inl (sI (sA τ1 3 cell 0) 0 12 (gI τ1 0 12 ||| (1 <<< (iz (cell : Int) &&& 31))), iz ((x + 1 : Nat) : Int))) := by
      rw [hM0, s5.1, if_pos (k1.mpr (by omega)), s5.2.2.2.1 (by omega), if_pos (by rw [q1, i120])]
      unfold f_M_readsRow_46 f_M_readsRow_69 f_M_readsRow_74
      rw [if_neg (by decide), b1, bd_eq, if_neg (by decide), m_r96 hc20, if_neg (by decide)]
    refine ⟨sA (sI σ 3 5 (iz ((j + 1 : Nat) : Int))) (d + 1) cell 100, _, j + 1, g, bk', tl, ?_, hMc, by omega, ?_, ⟨?_, by omega⟩, ?_, ?_, ?_, ?_, ?_, ?_, ?_⟩
    · rw [hT0, hTc, bd_eq, if_neg (by decide), nm_eq, kk]
    · exact (s1.s3 (k := 5) (by decide) (iz ((j + 1 : Nat) : Int))).ext rfl (by rw [gA_sA, if_neg (by omega)]) (by rw [gA_sA, if_neg (by omega)]) (by rw [gA_sA, if_neg (by omega)])
    · rw [gI_sA, gI_sI, if_pos ⟨rfl, rfl⟩]
    · obtain ⟨h1, h2, h3, h4, h5, h6, h7, h8, h9, h10⟩ := s4.s35 (iz ((j + 1 : Nat) : Int))
      refine ⟨h1, h2, h3, h4, h5, h6, h7, h8, h9, fun c hc => ?_⟩
      rw [gA_sA, if_pos rfl]
      by_cases z : c = cell
      · rw [z, pk_us, hgc, if_neg (by decide)]
      · rw [pk_un z]
        exact h10 c hc
    · exact (b3.a2 3 cell _).s (by omega) _
    · rw [gI_sI, if_neg (by decide), gI_sA, b2.1 0 8 (by omega)]; exact s6
    · obtain ⟨h1, h2, h3, h4, h5, h6, h7, h8⟩ := P1
      refine ⟨?_, ?_, ?_, ?_, ?_, ?_, fun c hc => ?_, fun c hc => ?_⟩
      · rw [gA_sI, gA_sA, if_neg (by decide)]; exact h1
      · rw [gA_sI, gA_sA, if_neg (by decide)]; exact h2
      · rw [gA_sI, gA_sA, if_neg (by decide)]; exact h3
      · rw [gA_sI, gA_sA, if_neg (by decide)]; exact h4
      · rw [gA_sI, gA_sA, if_neg (by decide)]; exact h5
      · rw [gI_sI, if_neg (by decide), gI_sA]; exact h6
      · rw [gI_sI, if_pos ⟨rfl, rfl⟩, b2.1 0 12 (by omega)]
        by_cases z : c = cell
        · rw [z, e1, bit_or _ hc20 hc20]
          exact ⟨fun y => absurd rfl y.1, fun y => by cases y⟩
        · rw [e2 c z]
          exact dec c z hc
      · have z : c ≠ cell := fun y => by rw [y, hgc] at hc; cases hc
        rw [gA_sI, gA_sA, if_pos rfl, pk_un z]
        exact h8 c hc
    · obtain ⟨y1, y2, y3, y4⟩ := s8
      refine ⟨fun c hc => ⟨(y1 c hc).1, (hdn c (y1 c hc).1).mpr (Or.inl (y1 c hc).2)⟩, y2, fun c hc hcd => ?_, fun c hc hcd => ?_⟩
      · by_cases z : c = cell
        · rw [z, e1, hgc]
          exact ⟨fun _ => rfl, fun _ => rfl⟩
        · rw [e2 c z]
          rcases (hdn c hc).mp hcd with y | y
          · exact y3 c hc y
          · exact absurd y z
      · have z : c ≠ cell := fun y => hcd ((hdn c hc).mpr (Or.inr y))
        rw [e2 c z]
        exact y4 c hc (fun y => hcd ((hdn c hc).mpr (Or.inl y)))
    · exact (s9.trans eqT_3.eqD).trans (eqD_tl hd)
    · exact eqM_r96 (s10.trans b2.eqM) _ _ _
  · have hTn : f_Re_readCell σ (iz (cell : Nat)) = (bd (f_Re_readNumber σ (iz 0) (iz 8)) fun r_2 σ2 => (if r_2 < 0 then some ((0 : Int32), σ2) else (rk (gR σ2 3 6) okPl fun t1 => (ix (iz (cell : Nat)) 20 fun j1 => nm (sA σ2 (t1 + 1) j1 (r_2 - 4)) fun σ3 => some ((1 : Int32), σ3))))) := by
      unfold f_Re_readCell
      rw [hH, if_neg q1, bd_eq, if_pos rfl]
      rfl
    obtain ⟨r1, r2⟩ := t_readNumber ha C s1 s3 s2 (lo := 0) (hi' := 8) (by decide) (by decide) (by decide) (by decide)
    have hM1 : f_M_readsRow_2_b τ (iz x) = f_M_readsRow_45 τ (iz x) (iz (cell : Nat)) := by
      rw [hM0, s5.1]
      by_cases z : iz (kd (tk a n Q G j)) = 1
      · have z2 := k1.mp z
        rw [if_pos z, s5.2.2.2.1 (by omega), if_neg (by rw [i120, iz_eq (by omega) (by omega) (by omega) (by omega)]; exact q1)]
      · rw [if_neg z]
    by_cases q2 : tk a n Q G j = -2 ∧ 0 ≤ nv a Q G j ∧ nv a Q G j ≤ 8
    · left
      obtain ⟨τ1, b1, b2, b3⟩ := m_takes1 T C s5 s6 (hlt _ q2.1 (by decide))
      have hjn := hlt _ q2.1 (by decide)
      obtain ⟨g', e1, e2⟩ : ∃ g' : Nat → Bool, g' cell = true ∧ ∀ c, c ≠ cell → g' c = g c := ⟨fun c => if c = cell then true else g c, if_pos rfl, fun c hc => if_neg hc⟩
      obtain ⟨tl', f1, f2⟩ : ∃ tl' : Nat → Int, tl' cell = nv a Q G j - 4 ∧ ∀ c, c ≠ cell → tl' c = tl c := ⟨fun c => if c = cell then nv a Q G j - 4 else tl c, if_pos rfl, fun c hc => if_neg hc⟩
      have P1 := s7.eqA b2
      have hTc : f_Re_readCell σ (iz (cell : Nat)) = some (1, sA (sI σ 3 5 (iz ((j + 1 : Nat) : Int))) (d + 1) cell (iz (nv a Q G j - 4))) := by
        rw [hTn, r1 q2, bd_eq, if_neg (by rw [i0, iz_lt (by omega) (by omega) (by omega) (by omega)]; omega), (s4.s35 _).rk, ix_n hc20 (by decide), nm_eq, i4, iz_sub]
      have hMc : f_M_readsRow_2_b τ (iz x) = some (.inl (sI (sA τ1 3 cell (iz (nv a Q G j - 4))) 0 12 (gI τ1 0 12 ||| 0), iz ((x + 1 : Nat) : Int))) := by
        rw [hM1]
        unfold f_M_readsRow_45 f_M_readsRow_46 f_M_readsRow_69 f_M_readsRow_74
        rw [if_pos rfl, s5.1, if_pos (k2.mpr q2.1), s5.2.2.1 q2.1, if_pos (by rw [i8, iz_le (by omega) (by omega) (by omega) (by omega)]; exact q2.2.2), b1, bd_eq, if_pos rfl, s5.2.2.1 q2.1, i4, iz_sub, m_r96 hc20, if_pos rfl]
      refine ⟨sA (sI σ 3 5 (iz ((j + 1 : Nat) : Int))) (d + 1) cell (iz (nv a Q G j - 4)), _, j + 1, g', bk, tl', ?_, hMc, by omega, ?_, ⟨?_, by omega⟩, ?_, ?_, ?_, ?_, ?_, ?_, ?_⟩
      · rw [hT0, hTc, bd_eq, if_neg (by decide), nm_eq, kk]
      · exact (s1.s3 (k := 5) (by decide) (iz ((j + 1 : Nat) : Int))).ext rfl (by rw [gA_sA, if_neg (by omega)]) (by rw [gA_sA, if_neg (by omega)]) (by rw [gA_sA, if_neg (by omega)])
      · rw [gI_sA, gI_sI, if_pos ⟨rfl, rfl⟩]
      · obtain ⟨h1, h2, h3, h4, h5, h6, h7, h8, h9, h10⟩ := s4.s35 (iz ((j + 1 : Nat) : Int))
        refine ⟨h1, h2, h3, h4, h5, h6, h7, h8, h9, fun c hc => ?_⟩
        rw [gA_sA, if_pos rfl]
        by_cases z : c = cell
        · rw [z, pk_us, e1, if_pos rfl, f1]
        · rw [pk_un z, e2 c z, f2 c z]
          exact h10 c hc
      · exact (b3.a2 3 cell _).s (by omega) _
      · rw [gI_sI, if_neg (by decide), gI_sA, b2.1 0 8 (by omega)]; exact s6
      · obtain ⟨h1, h2, h3, h4, h5, h6, h7, h8⟩ := P1
        refine ⟨?_, ?_, ?_, ?_, ?_, ?_, fun c hc => ?_, fun c hc => ?_⟩
        · rw [gA_sI, gA_sA, if_neg (by decide)]; exact h1
        · rw [gA_sI, gA_sA, if_neg (by decide)]; exact h2
        · rw [gA_sI, gA_sA, if_neg (by decide)]; exact h3
        · rw [gA_sI, gA_sA, if_neg (by decide)]; exact h4
        · rw [gA_sI, gA_sA, if_neg (by decide)]; exact h5
        · rw [gI_sI, if_neg (by decide), gI_sA]; exact h6
        · rw [gI_sI, if_pos ⟨rfl, rfl⟩, Int32.or_zero]
          exact h7 c hc
        · rw [gA_sI, gA_sA, if_pos rfl]
          by_cases z : c = cell
          · rw [z, pk_us, f1]
          · rw [pk_un z, f2 c z]
            rw [e2 c z] at hc
            exact h8 c hc
      · obtain ⟨y1, y2, y3, y4⟩ := s8
        refine ⟨fun c hc => ?_, fun c hc => ?_, fun c hc hcd => ?_, fun c hc hcd => ?_⟩
        · by_cases z : c = cell
          · rw [z]; exact ⟨hc20, (hdn cell hc20).mpr (Or.inr rfl)⟩
          · rw [e2 c z] at hc
            exact ⟨(y1 c hc).1, (hdn c (y1 c hc).1).mpr (Or.inl (y1 c hc).2)⟩
        · by_cases z : c = cell
          · rw [z, f1]; omega
          · rw [e2 c z] at hc
            rw [f2 c z]
            exact y2 c hc
        · by_cases z : c = cell
          · rw [z, e1, hbc]
            exact ⟨(fun y => by cases y), (fun y => by cases y)⟩
          · rw [e2 c z]
            rcases (hdn c hc).mp hcd with y | y
            · exact y3 c hc y
            · exact absurd y z
        · exact y4 c hc (fun y => hcd ((hdn c hc).mpr (Or.inl y)))
      · exact (s9.trans eqT_3.eqD).trans (eqD_tl hd)
      · exact eqM_r96 (s10.trans b2.eqM) _ _ _
    · right
      have hMc : f_M_readsRow_2_b τ (iz x) = some (.inl (sI (sA (sI τ 0 8 (iz (pl t n Q j : Nat))) 3 cell (0 - 4)) 0 12 (gI (sI τ 0 8 (iz (pl t n Q j : Nat))) 0 12 ||| 0), iz ((x + 1 : Nat) : Int))) := by
        have h73 : f_M_readsRow_73 τ (iz x) (iz (cell : Nat)) 0 = some (.inl (sI (sA (sI τ 0 8 (iz (pl t n Q j : Nat))) 3 cell (0 - 4)) 0 12 (gI (sI τ 0 8 (iz (pl t n Q j : Nat))) 0 12 ||| 0), iz ((x + 1 : Nat) : Int))) := by
          unfold f_M_readsRow_73 f_M_readsRow_74
          rw [m_takes0 s5 s6, bd_eq, if_pos rfl, m_r96 hc20, if_pos rfl]
        rw [hM1]
        unfold f_M_readsRow_45 f_M_readsRow_46
        rw [if_pos rfl, s5.1]
        by_cases z : iz (kd (tk a n Q G j)) = 2
        · have z2 := k2.mp z
          have := hb.2.2.2 z2
          rw [if_pos z, s5.2.2.1 z2, if_neg (by rw [i8, iz_le (by omega) (by omega) (by omega) (by omega)]; omega), h73]
        · rw [if_neg z, h73]
      refine ⟨_, ?_, hMc, eqM_r96 (s10.sl (by simp) _) _ _ _, ?_, ?_, ?_⟩
      · rw [hT0, hTn, r2 q2, bd_eq, if_pos (by decide), bd_eq, if_pos rfl]
        rfl
      · rw [gI_sI, if_neg (by decide), gI_sA, gI_sI, if_pos ⟨rfl, rfl⟩]
      · rw [gA_sI, gA_sA, if_neg (by decide), gA_sI]; exact s7.1
      · rw [gA_sI, gA_sA, if_neg (by decide), gA_sI]; exact s7.2.1
