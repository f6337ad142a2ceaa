-- all items of a text
theorem OUTk.bd1 {i p : Nat} {σ0 τ0 : Mm} {a : Nat → Nat} {t n : Nat} {Q G : Nat → Nat} {d : Nat} {F : Option (Int32 × Mm)} {H : Option ((Mm × Int32) ⊕ (Int32 × Mm))} {v1 : Int32} {K : Int32 → Mm → Option (Int32 × Mm)} (h0 : ∀ σ, K 0 σ = some (0, σ)) (h1 : ∀ σ, K 1 σ = some (1, σ)) (h : OUTk i p σ0 τ0 a t n Q G d F H v1) : OUTk i p σ0 τ0 a t n Q G d (bd F K) H v1 := by
  rcases h with ⟨σ', τ', i', W, R, st, lim, lea, lt, jt, g, bk, tl, hF, hr⟩ | ⟨σ', τ', hF, hr⟩
  · exact Or.inl ⟨σ', τ', i', W, R, st, lim, lea, lt, jt, g, bk, tl, by rw [hF, bd_eq]; exact h1 σ', hr⟩
  · exact Or.inr ⟨σ', τ', by rw [hF, bd_eq]; exact h0 σ', hr⟩
theorem item_all {p : Nat} {σ0 τ0 σ τ : Mm} {a : Nat → Nat} {t n : Nat} {Q G : Nat → Nat} {d i W R : Nat} {st lim lea : Int} {lt jt : Bool} {g bk : Nat → Bool} {tl : Nat → Int} (hp : d ≠ p) (T0 : TXm τ0 a t) (C : CH a t n Q G) (S : PS p σ0 τ0 σ τ a t n Q G d i W R st lim lea lt jt g bk tl) {v : Nat} (hv : v ≤ 120) (h0 : v = 0 → W = 0) : OUTk i p σ0 τ0 a t n Q G d (f_Re_readItem σ (iz (v : Nat))) (if gI τ 0 5 = 1 then MB τ (iz (v : Nat)) else f_M_yard_60 τ (iz (v : Nat))) (iz (v : Nat)) := by
  have S' := S
  obtain ⟨s1, ⟨s2, s3⟩, s4, s5, s6, s7, s8, s9, s10⟩ := S'
  have T := T0.extM s10
  have ha : ∀ j, j < t → a j < 256 := fun j hj => (T.2.2 j hj).1
  have hb := tk_in ha C s3
  have hk := (s1.2.2 i s3).1
  have hn := s1.2.1
  have lit : ∀ L : Int, 0 ≤ L → L < 300 → (gA σ 4 i = iz L ↔ tk a n Q G i = L) := fun L l1 l2 => by
    rw [hk, iz_eq (by omega) (by omega) (by omega) (by omega)]
  have kk : gI τ 0 5 = 1 ↔ (tk a n Q G i = 119 ∨ tk a n Q G i = 114 ∨ tk a n Q G i = 120 ∨ tk a n Q G i = 98 ∨ tk a n Q G i = 107 ∨ tk a n Q G i = 106) := by
    rw [s5.1]
    exact kd_1 hb.1 hb.2.1
  have hlt : gI σ 3 5 < gI σ 3 4 := by
    rw [s2, s1.1, iz_lt (by omega) (by omega) (by omega) (by omega)]
    omega
  have eix : ∀ K : Nat → Option (Int32 × Mm), ix (gI σ 3 5) 121 K = K i := fun K => by rw [s2, ix_n (by omega) (by decide)]
  have h10 := s7.2.2.2.2.2.1
  unfold f_Re_readItem
  rw [if_pos hlt, eix, i98, i106, i107, i114, i119]
  by_cases q1 : tk a n Q G i = 98
  · rw [if_pos ((lit 98 (by decide) (by decide)).mpr q1), if_pos (kk.mpr (by omega))]
    exact (i_start hp T0 C S q1 _).bd1 (fun σ => rfl) (fun σ => rfl)
  rw [if_neg (fun z => q1 ((lit 98 (by decide) (by decide)).mp z))]
  by_cases q2 : tk a n Q G i = 106
  · rw [if_pos ((lit 106 (by decide) (by decide)).mpr q2), if_pos (kk.mpr (by omega))]
    exact (i_leaning hp T0 C S q2 _).bd1 (fun σ => rfl) (fun σ => rfl)
  rw [if_neg (fun z => q2 ((lit 106 (by decide) (by decide)).mp z))]
  by_cases q3 : tk a n Q G i = 107
  · rw [if_pos ((lit 107 (by decide) (by decide)).mpr q3), if_pos (kk.mpr (by omega))]
    exact (i_limit hp T0 C S q3 _).bd1 (fun σ => rfl) (fun σ => rfl)
  rw [if_neg (fun z => q3 ((lit 107 (by decide) (by decide)).mp z))]
  by_cases q4 : tk a n Q G i = 114
  · rw [if_pos ((lit 114 (by decide) (by decide)).mpr q4), if_pos (kk.mpr (by omega))]
    exact (i_row hp T0 C S q4 _).bd1 (fun σ => rfl) (fun σ => rfl)
  rw [if_neg (fun z => q4 ((lit 114 (by decide) (by decide)).mp z))]
  by_cases q5 : tk a n Q G i = 119
  · rw [if_pos ((lit 119 (by decide) (by decide)).mpr q5), if_pos (kk.mpr (by omega))]
    by_cases q : v = 0
    · have hW := h0 q
      subst hW
      have e0 : iz ((v : Nat) : Int) = 0 := by rw [q]; rfl
      rw [e0, if_pos rfl]
      exact (i_wide hp T0 C S q5).bd1 (fun σ => rfl) (fun σ => rfl)
    · have e0 : ¬ iz ((v : Nat) : Int) = 0 := by rw [i0, iz_eq (by omega) (by omega) (by omega) (by omega)]; omega
      rw [if_neg e0]
      have h7 : gI τ 0 7 = iz 119 := by rw [← q5]; exact s5.2.2.2.1 (by omega)
      have hm := (m_mb (τ := τ) (v1 := iz ((v : Nat) : Int)) ⟨119, h7, by simp⟩ h10).2.2.2.1 h7
      refine item_fault T0 C S rfl ?_
      unfold MB
      rw [hm, bd_eq, if_neg e0, if_pos rfl]
  rw [if_neg (fun z => q5 ((lit 119 (by decide) (by decide)).mp z))]
  by_cases q6 : tk a n Q G i = 120
  · rw [if_pos (kk.mpr (by omega))]
    have h7 : gI τ 0 7 = iz 120 := by rw [← q6]; exact s5.2.2.2.1 (by omega)
    have hm := (m_mb (τ := τ) (v1 := iz ((v : Nat) : Int)) ⟨120, h7, by simp⟩ h10).2.2.2.2.1 h7
    refine item_fault T0 C S rfl ?_
    unfold MB
    rw [hm, bd_eq, if_pos rfl]
  · rw [if_neg (fun z => by have := kk.mp z; omega)]
    exact item_fault T0 C S rfl rfl
theorem em1 : (-1 : Int32) = iz (-1) := by decide
theorem em10 : (-10 : Int32) = iz (-10) := by decide
theorem t_read85 {σ : Mm} {a : Nat → Nat} {t n i : Nat} {Q G : Nat → Nat} (A : TA σ a t n Q G) (h5 : gI σ 3 5 = iz (i : Nat)) (hi : i ≤ n) : f_Re_read_85 σ = some (iz (-10 - (pl t n Q i : Nat)), σ) := by
  have hn := A.2.1
  unfold f_Re_read_85 f_Re_read_117
  rw [if_pos (by rw [h5, A.1, iz_lt (by omega) (by omega) (by omega) (by omega)]; omega), h5, ix_n (by omega) (by decide), (A.2.2 i hi).2.1, em10, iz_sub]
theorem m_y25F {τ : Mm} {w : Nat} (h : gI τ 0 8 = iz (w : Nat)) (hw : w ≤ 200) (v : Int32) : f_M_yard_25_b τ v = some (.inr (iz (-10 - (w : Nat)), τ)) := by
  unfold f_M_yard_25_b f_M_yard_101
  rw [m_ill h hw, bd_eq, if_pos rfl, m_ill h hw, bd_eq, if_pos rfl, h, em10, iz_sub]
  rfl
def YI (p : Nat) (σ0 τ0 : Mm) (a : Nat → Nat) (t n : Nat) (Q G : Nat → Nat) (d : Nat) (k : Nat) (s s' : Mm × Int32) : Prop := ∃ σ τ v i W R st lim lea lt jt g bk tl, s = (σ, iz (v : Nat)) ∧ s' = (τ, iz (v : Nat)) ∧ k = n - i ∧ v ≤ i ∧ (v = 0 → W = 0) ∧ PS p σ0 τ0 σ τ a t n Q G d i W R st lim lea lt jt g bk tl
def YR (p : Nat) (σ0 τ0 : Mm) (a : Nat → Nat) (t n : Nat) (Q G : Nat → Nat) (d : Nat) (r r' : Int32 × Mm) : Prop := (∃ σ' τ' τ'' v i W R st lim lea lt jt g bk tl, r = (iz (v : Nat), σ') ∧ r' = (iz (v : Nat), τ'') ∧ v ≤ 120 ∧ PS p σ0 τ0 σ' τ' a t n Q G d i W R st lim lea lt jt g bk tl ∧ SE τ' τ'' W R g lim lea st tl) ∨ (∃ (w : Nat) (σ' τ' : Mm), w ≤ 200 ∧ r = (iz (-10 - (w : Nat)), σ') ∧ r' = (iz (-10 - (w : Nat)), τ') ∧ eqD p σ0 σ' ∧ eqM τ0 τ')
theorem y_fault {p : Nat} {σ0 τ0 σ τ : Mm} {a : Nat → Nat} {t n i : Nat} {Q G : Nat → Nat} (ht : t ≤ 120) (C : CH a t n Q G) (A : TA σ a t n Q G) (h5 : gI σ 3 5 = iz (i : Nat)) (hi : i ≤ n) (h8 : gI τ 0 8 = iz (pl t n Q i : Nat)) (e1 : eqD p σ0 σ) (e2 : eqM τ0 τ) {s s' : Mm × Int32} {v : Int32} {d : Nat} (hs : f_Re_read_33_b s.1 s.2 = (f_Re_read_85 σ).map Sum.inr) (hs' : f_M_yard_25_b s'.1 s'.2 = some (.inl (τ, v))) : ∃ m m' r r', m ≤ 2000 ∧ m' ≤ 2000 ∧ lpn (fun s : Mm × Int32 => f_Re_read_33_b s.1 s.2) m s = some r ∧ lpn (fun s : Mm × Int32 => f_M_yard_25_b s.1 s.2) m' s' = some r' ∧ YR p σ0 τ0 a t n Q G d r r' := by
  have hp := pl_le ht C hi
  refine ⟨1, 2, _, _, by decide, by decide, lpn_end ?_, ?_, Or.inr ⟨pl t n Q i, σ, τ, by omega, rfl, rfl, e1, e2⟩⟩
  · show f_Re_read_33_b s.1 s.2 = _
    rw [hs, t_read85 A h5 hi]
    rfl
  · rw [lpn_step 1 (s' := (τ, v)) hs']
    exact lpn_end (m_y25F h8 (by omega) v)
theorem y_step {p : Nat} {σ0 τ0 : Mm} {a : Nat → Nat} {t n : Nat} {Q G : Nat → Nat} {d : Nat} (hp : d ≠ p) (T0 : TXm τ0 a t) (C : CH a t n Q G) (k : Nat) (s s' : Mm × Int32) (hI : YI p σ0 τ0 a t n Q G d k s s') :
    (∃ u u' j, f_Re_read_33_b s.1 s.2 = some (.inl u) ∧ f_M_yard_25_b s'.1 s'.2 = some (.inl u') ∧ j < k ∧ YI p σ0 τ0 a t n Q G d j u u') ∨ (∃ m m' r r', m ≤ 2000 ∧ m' ≤ 2000 ∧ lpn (fun s : Mm × Int32 => f_Re_read_33_b s.1 s.2) m s = some r ∧ lpn (fun s : Mm × Int32 => f_M_yard_25_b s.1 s.2) m' s' = some r' ∧ YR p σ0 τ0 a t n Q G d r r') := by
  obtain ⟨σ, τ, v, i, W, R, st, lim, lea, lt, jt, g, bk, tl, rfl, rfl, rfl, hvi, hvW, S⟩ := hI
  have S' := S
  obtain ⟨s1, ⟨s2, s3⟩, s4, s5, s6, s7, s8, s9, s10⟩ := S'
  have T := T0.extM s10
  have ha : ∀ j, j < t → a j < 256 := fun j hj => (T.2.2 j hj).1
  have hb := tk_in ha C s3
  have hn := s1.2.1
  have hv : iz ((v : Nat) : Int) < 121 := by rw [i121, iz_lt (by omega) (by omega) (by omega) (by omega)]; omega
  have vv : iz ((v : Nat) : Int) + 1 = iz ((v + 1 : Nat) : Int) := by rw [i1, iz_add]; rfl
  have eH := t_inHand ha C s1 s3 s2 (v := -1) (by decide) (by decide)
  have hw := m_well s6
  by_cases q : tk a n Q G i = -1
  · right
    obtain ⟨_, c1, τ'', rfl, c2⟩ := m_settles s7 s8
    refine ⟨1, 1, (iz (v : Nat), σ), (iz (v : Nat), τ''), by decide, by decide, lpn_end ?_, lpn_end ?_, Or.inl ⟨σ, τ, τ'', v, i, W, R, st, lim, lea, lt, jt, g, bk, tl, rfl, rfl, by omega, S, c2⟩⟩
    · dsimp only
      unfold f_Re_read_33_b
      rw [if_pos hv, em1, eH, bd_eq, if_pos q, if_neg (by decide)]
      rfl
    · dsimp only
      unfold f_M_yard_25_b f_M_yard_101
      rw [hw, bd_eq, if_neg (by decide), if_pos (by rw [s5.1]; exact (kd_0 hb.1 hb.2.1).mpr q), hw, bd_eq, if_neg (by decide), c1, bd_eq]
      rfl
  · have k0 : ¬ gI τ 0 5 = 0 := fun z => q ((kd_0 hb.1 hb.2.1).mp (by rw [← s5.1]; exact z))
    have eB : f_M_yard_25_b τ (iz (v : Nat)) = (if gI τ 0 5 = 1 then MB τ (iz (v : Nat)) else f_M_yard_60 τ (iz (v : Nat))) := by
      unfold f_M_yard_25_b
      rw [hw, bd_eq, if_neg (by decide), if_neg k0]
      rfl
    have eA : f_Re_read_33_b σ (iz (v : Nat)) = bd (f_Re_readItem σ (iz (v : Nat))) fun r_2 σ2 => (if r_2 = 0 then ((f_Re_read_85 σ2 : Option (Int32 × Mm)).map Sum.inr) else (bd (f_Re_isInHand σ2 59) fun r_3 σ3 => (if r_3 = 0 then ((f_Re_read_66 σ3 : Option (Int32 × Mm)).map Sum.inr) else (nm (sI σ3 3 5 ((gI σ3 3 5) + 1)) fun σ4 => (nm (iz (v : Nat) + 1) fun y1 => some (Sum.inl (σ4, y1))))))) := by
      unfold f_Re_read_33_b
      rw [if_pos hv, em1, eH, bd_eq, if_neg q, if_pos rfl]
    have O := item_all hp T0 C S (v := v) (by omega) hvW
    rw [← eB] at O
    rcases O with ⟨σ', τ', i', W', R', st', lim', lea', lt', jt', g', bk', tl', hF, hH, hii, S2⟩ | ⟨σ', τ', hF, hH, i', A', h5', hi', h8', e1', e2'⟩
    · have S2' := S2
      obtain ⟨s1', ⟨s2', s3'⟩, s4', s5', s6', s7', s8', s9', s10'⟩ := S2'
      have hb' := tk_in ha C s3'
      have eH' := t_inHand ha C s1' s3' s2' (v := 59) (by decide) (by decide)
      rw [hF, bd_eq, if_neg (by decide), i59, eH', bd_eq] at eA
      unfold f_M_yard_77 f_M_yard_91 at hH
      by_cases q2 : tk a n Q G i' = 59
      · left
        have hin : i' < n := by
          by_cases z : i' = n
          · have := hb'.2.2.1.mpr z; omega
          · omega
        obtain ⟨τ2, b1, b2, b3⟩ := m_takes1 (T0.extM s10') C s5' s6' hin
        rw [if_pos (by rw [s5'.1]; exact (kd_3 hb'.1 hb'.2.1).mpr q2), b1, bd_eq, vv, nm_eq] at hH
        rw [if_pos q2, if_neg (by decide), vv, nm_eq, nm_eq, s2', i1, iz_add] at eA
        refine ⟨_, _, n - (i' + 1), eA, hH, by omega, _, τ2, v + 1, i' + 1, W', R', st', lim', lea', lt', jt', g', bk', tl', rfl, rfl, rfl, by omega, fun z => absurd z (by omega), s1'.s3 (by decide) _, ⟨?_, by omega⟩, s4'.s35 _, b3, (b2.1 0 8 (by omega)).trans s6', s7'.eqA b2, s8', s9'.trans eqT_3.eqD, s10'.trans b2.eqM⟩
        rw [gI_sI, if_pos ⟨rfl, rfl⟩]
        rfl
      · right
        rw [if_neg (fun z => q2 ((kd_3 hb'.1 hb'.2.1).mp (by rw [← s5'.1]; exact z))), m_takes0 s5' s6', bd_eq, vv, nm_eq] at hH
        rw [if_neg q2, if_pos rfl] at eA
        refine y_fault T0.1 C s1' s2' s3' (τ := sI τ' 0 8 (iz (pl t n Q i' : Nat))) ?_ s9' (s10'.sl (by simp) _) eA hH
        rw [gI_sI, if_pos ⟨rfl, rfl⟩]
    · right
      rw [hF, bd_eq, if_pos rfl] at eA
      have hp' := pl_le T0.1 C hi'
      have hy : f_M_yard_77 τ' (iz (v : Nat)) = some (.inl (τ', iz ((v + 1 : Nat) : Int))) := by
        unfold f_M_yard_77 f_M_yard_91
        rw [m_takesF h8' (by omega), m_takesF h8' (by omega), bd_eq, vv, nm_eq]
        split <;> rfl
      exact y_fault T0.1 C A' h5' hi' h8' e1' e2' eA (hH.trans hy)
