-- reading: limit, leaning, width
def MB (τ : Mm) (v1 : Int32) : Option ((Mm × Int32) ⊕ (Int32 × Mm)) := bd (f_M_mayBegin τ v1) fun r_2 σ2 => (if r_2 = 0 then f_M_yard_60 σ2 v1 else f_M_yard_61 σ2 v1 1)
theorem eqM.sl {τ0 τ : Mm} (e : eqM τ0 τ) {k : Nat} (h : k = 8 ∨ k = 10 ∨ k = 12) (v : Int32) : eqM τ0 (sI τ 0 k v) := e.trans (eqM_k h)
theorem item_fault {p : Nat} {σ0 τ0 σ τ : Mm} {a : Nat → Nat} {t n : Nat} {Q G : Nat → Nat} {d i W R : Nat} {st lim lea : Int} {lt jt : Bool} {g bk : Nat → Bool} {tl : Nat → Int} (T0 : TXm τ0 a t) (C : CH a t n Q G) (S : PS p σ0 τ0 σ τ a t n Q G d i W R st lim lea lt jt g bk tl) {F : Option (Int32 × Mm)} {H : Option ((Mm × Int32) ⊕ (Int32 × Mm))} {v1 : Int32} (hF : F = some (0, σ)) (hH : H = f_M_yard_60 τ v1) : OUTk i p σ0 τ0 a t n Q G d F H v1 := by
  obtain ⟨s1, ⟨s2, s3⟩, s4, s5, s6, s7, s8, s9, s10⟩ := S
  refine Or.inr ⟨σ, sI τ 0 8 (iz (pl t n Q i : Nat)), hF, hH.trans (y60 T0.1 C s5 s3 s6 v1), i, s1, s2, s3, ?_, s9, s10.sl (by simp) _⟩
  rw [gI_sI, if_pos ⟨rfl, rfl⟩]
theorem m_mb {τ : Mm} {v1 : Int32} (h7 : ∃ z : Int, gI τ 0 7 = iz z ∧ (z = 107 ∨ z = 106 ∨ z = 98 ∨ z = 119 ∨ z = 114 ∨ z = 120)) {st : Int} {lt jt : Bool} (h10 : gI τ 0 10 = iz (bts st lt jt)) :
    (gI τ 0 7 = iz 107 → f_M_mayBegin τ v1 = some (if lt = false then 1 else 0, τ)) ∧ (gI τ 0 7 = iz 106 → f_M_mayBegin τ v1 = some (if jt = false then 1 else 0, τ)) ∧ (gI τ 0 7 = iz 98 → f_M_mayBegin τ v1 = some (if st = -9 then 1 else 0, τ)) ∧ (gI τ 0 7 = iz 119 → f_M_mayBegin τ v1 = some (if v1 = 0 then 1 else 0, τ)) ∧ (gI τ 0 7 = iz 120 → f_M_mayBegin τ v1 = some (0, τ)) ∧ (gI τ 0 7 = iz 114 → ∀ W R : Nat, W ≤ 5 → R ≤ 4 → gA τ 2 5 = iz W → gA τ 2 6 = iz R → f_M_mayBegin τ v1 = some (if 0 < W ∧ R < 4 ∧ st = -9 then 1 else 0, τ)) := by
  have b1 := bts_1 st lt jt
  have b2 := bts_2 st lt jt
  have b4 := bts_4 st lt jt
  unfold f_M_mayBegin f_M_bitOf
  refine ⟨fun h => ?_, fun h => ?_, fun h => ?_, fun h => ?_, fun h => ?_, fun h W R w1 w2 w3 w4 => ?_⟩
  · rw [h, h10, if_neg (by decide), if_neg (by decide), if_neg (by decide), if_neg (by decide), if_pos (by decide), bd_eq]
    by_cases q : lt = false
    · rw [if_pos (b2.mpr q), if_pos q]
    · rw [if_neg (fun z => q (b2.mp z)), if_neg q]
  · rw [h, h10, if_neg (by decide), if_neg (by decide), if_neg (by decide), if_neg (by decide), if_neg (by decide), bd_eq]
    by_cases q : jt = false
    · rw [if_pos (b4.mpr q), if_pos q]
    · rw [if_neg (fun z => q (b4.mp z)), if_neg q]
  · rw [h, h10, if_neg (by decide), if_neg (by decide), if_neg (by decide), if_pos (by decide), bd_eq]
    by_cases q : st = -9
    · rw [if_pos (b1.mpr q), if_pos q]
    · rw [if_neg (fun z => q (b1.mp z)), if_neg q]
  · rw [h, if_pos (by decide)]
    by_cases q : v1 = 0
    · rw [if_pos q, if_pos q]
    · rw [if_neg q, if_neg q]
  · rw [h, if_neg (by decide), if_neg (by decide), if_pos (by decide)]
  · rw [h, h10, if_neg (by decide), if_pos (by decide), i5, ix_iz (by decide) (by decide) (by decide), show (5 : Int).toNat = 5 from rfl, w3, i6, ix_iz (by decide) (by decide) (by decide), show (6 : Int).toNat = 6 from rfl, w4]
    by_cases q1 : 0 < W
    · rw [if_neg (by rw [i0, iz_le (by omega) (by omega) (by omega) (by omega)]; omega)]
      by_cases q2 : R < 4
      · rw [if_pos (by rw [i4, iz_lt (by omega) (by omega) (by omega) (by omega)]; omega)]
        by_cases q3 : st = -9
        · rw [if_pos (b1.mpr q3), if_pos ⟨q1, q2, q3⟩]
        · rw [if_neg (fun z => q3 (b1.mp z)), if_neg (fun z => q3 z.2.2)]
      · rw [if_neg (by rw [i4, iz_lt (by omega) (by omega) (by omega) (by omega)]; omega), if_neg (fun z => q2 z.2.1)]
    · rw [if_pos (by rw [i0, iz_le (by omega) (by omega) (by omega) (by omega)]; omega), if_neg (fun z => q1 z.1)]
theorem i_limit {p : Nat} {σ0 τ0 σ τ : Mm} {a : Nat → Nat} {t n : Nat} {Q G : Nat → Nat} {d i W R : Nat} {st lim lea : Int} {lt jt : Bool} {g bk : Nat → Bool} {tl : Nat → Int} (hp : d ≠ p) (T0 : TXm τ0 a t) (C : CH a t n Q G) (S : PS p σ0 τ0 σ τ a t n Q G d i W R st lim lea lt jt g bk tl) (hk : tk a n Q G i = 107) (v1 : Int32) : OUTk i p σ0 τ0 a t n Q G d (f_Re_readLimit σ) (MB τ v1) v1 := by
  have S' := S
  obtain ⟨s1, ⟨s2, s3⟩, s4, s5, s6, s7, s8, s9, s10⟩ := S'
  have T := T0.extM s10
  have ha : ∀ j, j < t → a j < 256 := fun j hj => (T.2.2 j hj).1
  have h7 : gI τ 0 7 = iz 107 := by rw [← hk]; exact s5.2.2.2.1 (by omega)
  have hm := (m_mb (τ := τ) (v1 := v1) ⟨107, h7, by simp⟩ s7.2.2.2.2.2.1).1 h7
  have hlt := s4.2.2.2.2.2.2.2.1
  have hd := s4.2.1
  rcases lt with _ | _
  · obtain ⟨τ1, b1, b2, b3, b4, b5⟩ := y61 T C s5 s3 s6 (by omega) v1
    rw [hk] at b1
    have hH : MB τ v1 = (bd (f_M_readsItem τ1 (iz 107)) fun _ σ3 => f_M_yard_77 σ3 v1) := by
      unfold MB
      rw [hm, bd_eq, if_pos rfl, if_neg (by decide), b1]
    have e1M : eqM τ0 τ1 := s10.trans b2.eqM
    have P1 := s7.eqA b2
    have A2 : TA (sI (sI σ 3 7 1) 3 5 (iz ((i + 1 : Nat) : Int))) a t n Q G := (s1.s3 (by decide) _).s3 (by decide) _
    have h5 : gI (sI (sI σ 3 7 1) 3 5 (iz ((i + 1 : Nat) : Int))) 3 5 = iz ((i + 1 : Nat) : Int) := by rw [gI_sI, if_pos ⟨rfl, rfl⟩]
    obtain ⟨r1, r2⟩ := t_readNumber ha C A2 (by omega) h5 (lo := 2) (hi' := 9) (by decide) (by decide) (by decide) (by decide)
    obtain ⟨m1, m2⟩ := m_number (T0.extM e1M) C b3 b4 (by omega) (lo := 2) (hi' := 9) (by decide) (by decide) (by decide) (by decide)
    have hF : f_Re_readLimit σ = (bd (f_Re_readNumber (sI (sI σ 3 7 1) 3 5 (iz ((i + 1 : Nat) : Int))) (iz 2) (iz 9)) fun r_1 σ3 => (if r_1 < 0 then some ((0 : Int32), σ3) else (rk (gR σ3 3 6) okPl fun t1 => (nm (sI σ3 t1 4 r_1) fun σ4 => some ((1 : Int32), σ4))))) := by
      unfold f_Re_readLimit
      rw [hlt, if_pos (by decide), nm_eq, gI_sI, if_neg (by decide), s2, i1, iz_add, nm_eq]
      rfl
    have hR : f_M_readsItem τ1 (iz 107) = (bd (f_M_number τ1 (iz 2) (iz 9)) fun r_2 σ3 => (ix 8 10 fun j2 => nm (sA σ3 2 j2 r_2) fun σ4 => f_M_readsItem_85 σ4 (iz 107))) := by
      unfold f_M_readsItem
      rw [if_neg (by decide), if_neg (by decide), if_neg (by decide), if_pos (by decide)]
      rfl
    have hE : ∀ σ : Mm, f_M_readsItem_85 σ (iz 107) = some (0, sI σ 0 10 (gI σ 0 10 ||| 2)) := fun σ => by
      unfold f_M_readsItem_85 f_M_bitOf
      rw [if_neg (by decide), if_pos (by decide), bd_eq, nm_eq]
    have h8ix : ∀ {α : Type} (K : Nat → Option α), ix 8 10 K = K 8 := fun K => by rw [i8, ix_iz (by decide) (by decide) (by decide)]; rfl
    by_cases q : tk a n Q G (i + 1) = -2 ∧ 2 ≤ nv a Q G (i + 1) ∧ nv a Q G (i + 1) ≤ 9
    · left
      obtain ⟨τ2, c1, c2, c3⟩ := m1 q
      have hin2 : i + 1 < n := by
        have hb := tk_in ha C (show i + 1 ≤ n by omega)
        by_cases z : i + 1 = n
        · have := hb.2.2.1.mpr z; omega
        · omega
      have P2 := P1.eqA c2
      rw [r1 q, bd_eq, if_neg (by rw [i0, iz_lt (by omega) (by omega) (by omega) (by omega)]; omega)] at hF
      rw [hR, c1, bd_eq, h8ix, nm_eq, hE, bd_eq] at hH
      have PT3 : PT (sI (sI (sI σ 3 7 1) 3 5 (iz ((i + 1 : Nat) : Int))) 3 5 (iz ((i + 1 + 1 : Nat) : Int))) d W R st lim lea true jt g tl := by
        refine PT.s35 (PT.s35 ?_ _) _
        obtain ⟨h1, h2, h3, h4, h5, h6, h7, h8, h9, h10⟩ := s4
        refine ⟨h1, h2, ?_, ?_, ?_, ?_, ?_, ?_, ?_, h10⟩
        · rw [gI_sI, if_neg (by omega)]; exact h3
        · rw [gI_sI, if_neg (by omega)]; exact h4
        · rw [gI_sI, if_neg (by omega)]; exact h5
        · rw [gI_sI, if_neg (by omega)]; exact h6
        · rw [gI_sI, if_neg (by omega)]; exact h7
        · rw [gI_sI, if_pos ⟨rfl, rfl⟩, if_pos rfl]
        · rw [gI_sI, if_neg (by omega)]; exact h9
      rw [PT3.rk, nm_eq] at hF
      refine ⟨_, _, i + 1 + 1, W, R, st, nv a Q G (i + 1), lea, true, jt, g, bk, tl, hF, hH, by omega, ?_, ⟨?_, by omega⟩, ?_, ?_, ?_, ?_, ?_, ?_, ?_⟩
      · exact (A2.s3 (by decide) _).sd hd _
      · rw [gI_sI, if_neg (by omega), gI_sI, if_pos ⟨rfl, rfl⟩]
      · obtain ⟨h1, h2, h3, h4, h5, h6, h7, h8, h9, h10⟩ := PT3
        refine ⟨h1, h2, ?_, ?_, ?_, ?_, ?_, ?_, ?_, h10⟩
        · rw [gI_sI, if_neg (by omega)]; exact h3
        · rw [gI_sI, if_neg (by omega)]; exact h4
        · rw [gI_sI, if_neg (by omega)]; exact h5
        · rw [gI_sI, if_pos ⟨rfl, rfl⟩]
        · rw [gI_sI, if_neg (by omega)]; exact h7
        · rw [gI_sI, if_neg (by omega)]; exact h8
        · rw [gI_sI, if_neg (by omega)]; exact h9
      · exact (c3.a2 2 8 _).s (by omega) _
      · rw [gI_sI, if_neg (by decide), gI_sA, c2.1 0 8 (by omega)]; exact b4
      · obtain ⟨h1, h2, h3, h4, h5, h6, h7, h8⟩ := P2
        refine ⟨?_, ?_, ?_, ?_, ?_, ?_, ?_, h8⟩
        · rw [gA_sI, gA_sA, if_pos rfl, pk_un (by decide)]; exact h1
        · rw [gA_sI, gA_sA, if_pos rfl, pk_un (by decide)]; exact h2
        · rw [gA_sI, gA_sA, if_pos rfl, pk_un (by decide)]; exact h3
        · rw [gA_sI, gA_sA, if_pos rfl, pk_us]
        · rw [gA_sI, gA_sA, if_pos rfl, pk_un (by decide)]; exact h5
        · rw [gI_sI, if_pos ⟨rfl, rfl⟩, gI_sA, h6]; exact bts_o2 st jt
        · intro c hc
          rw [gI_sI, if_neg (by decide), gI_sA]
          exact h7 c hc
      · obtain ⟨h1, h2, h3, h4, h5, h6, h7⟩ := s8
        exact ⟨h1, h2, ⟨q.2.1, q.2.2⟩, h4, h5, h6, h7⟩
      · exact (((s9.trans eqT_3.eqD).trans eqT_3.eqD).trans eqT_3.eqD).trans (eqD_d hd hp)
      · exact ((e1M.trans c2.eqM).trans (eqM_a2 (by omega))).sl (by simp) _
    · right
      rw [r2 q, bd_eq, if_pos (by decide)] at hF
      rw [hR, m2 q, bd_eq, h8ix, nm_eq, hE, bd_eq] at hH
      refine ⟨_, _, hF, hH, i + 1, A2, h5, by omega, ?_, (s9.trans eqT_3.eqD).trans eqT_3.eqD, ?_⟩
      · rw [gI_sI, if_neg (by decide), gI_sA, gI_sI, if_pos ⟨rfl, rfl⟩]
      · exact ((e1M.sl (by simp) _).trans (eqM_a2 (by omega))).sl (by simp) _
  · refine item_fault T0 C S ?_ ?_
    · unfold f_Re_readLimit
      rw [hlt, if_pos rfl, if_neg (by decide)]
    · unfold MB
      rw [hm, bd_eq, if_pos (by decide)]
theorem i_leaning {p : Nat} {σ0 τ0 σ τ : Mm} {a : Nat → Nat} {t n : Nat} {Q G : Nat → Nat} {d i W R : Nat} {st lim lea : Int} {lt jt : Bool} {g bk : Nat → Bool} {tl : Nat → Int} (hp : d ≠ p) (T0 : TXm τ0 a t) (C : CH a t n Q G) (S : PS p σ0 τ0 σ τ a t n Q G d i W R st lim lea lt jt g bk tl) (hk : tk a n Q G i = 106) (v1 : Int32) : OUTk i p σ0 τ0 a t n Q G d (f_Re_readLeaning σ) (MB τ v1) v1 := by
  have S' := S
  obtain ⟨s1, ⟨s2, s3⟩, s4, s5, s6, s7, s8, s9, s10⟩ := S'
  have T := T0.extM s10
  have ha : ∀ j, j < t → a j < 256 := fun j hj => (T.2.2 j hj).1
  have h7 : gI τ 0 7 = iz 106 := by rw [← hk]; exact s5.2.2.2.1 (by omega)
  have hm := (m_mb (τ := τ) (v1 := v1) ⟨106, h7, by simp⟩ s7.2.2.2.2.2.1).2.1 h7
  have hlt := s4.2.2.2.2.2.2.2.2.1
  have hd := s4.2.1
  rcases jt with _ | _
  · obtain ⟨τ1, b1, b2, b3, b4, b5⟩ := y61 T C s5 s3 s6 (by omega) v1
    rw [hk] at b1
    have hH : MB τ v1 = (bd (f_M_readsItem τ1 (iz 106)) fun _ σ3 => f_M_yard_77 σ3 v1) := by
      unfold MB
      rw [hm, bd_eq, if_pos rfl, if_neg (by decide), b1]
    have e1M : eqM τ0 τ1 := s10.trans b2.eqM
    have P1 := s7.eqA b2
    have A2 : TA (sI (sI σ 3 8 1) 3 5 (iz ((i + 1 : Nat) : Int))) a t n Q G := (s1.s3 (by decide) _).s3 (by decide) _
    have h5 : gI (sI (sI σ 3 8 1) 3 5 (iz ((i + 1 : Nat) : Int))) 3 5 = iz ((i + 1 : Nat) : Int) := by rw [gI_sI, if_pos ⟨rfl, rfl⟩]
    obtain ⟨r1, r2⟩ := t_readNumber ha C A2 (by omega) h5 (lo := 0) (hi' := 4) (by decide) (by decide) (by decide) (by decide)
    obtain ⟨m1, m2⟩ := m_number (T0.extM e1M) C b3 b4 (by omega) (lo := 0) (hi' := 4) (by decide) (by decide) (by decide) (by decide)
    have hF : f_Re_readLeaning σ = (bd (f_Re_readNumber (sI (sI σ 3 8 1) 3 5 (iz ((i + 1 : Nat) : Int))) (iz 0) (iz 4)) fun r_1 σ3 => (if r_1 < 0 then some ((0 : Int32), σ3) else (rk (gR σ3 3 6) okPl fun t1 => (nm (sI σ3 t1 5 (r_1 - 2)) fun σ4 => some ((1 : Int32), σ4))))) := by
      unfold f_Re_readLeaning
      rw [hlt, if_pos (by decide), nm_eq, gI_sI, if_neg (by decide), s2, i1, iz_add, nm_eq]
      rfl
    have hR : f_M_readsItem τ1 (iz 106) = (bd (f_M_number τ1 (iz 0) (iz 4)) fun r_2 σ3 => (ix 9 10 fun j2 => nm (sA σ3 2 j2 (r_2 - 2)) fun σ4 => f_M_readsItem_85 σ4 (iz 106))) := by
      unfold f_M_readsItem
      rw [if_neg (by decide), if_neg (by decide), if_neg (by decide), if_neg (by decide)]
      rfl
    have hE : ∀ σ : Mm, f_M_readsItem_85 σ (iz 106) = some (0, sI σ 0 10 (gI σ 0 10 ||| 4)) := fun σ => by
      unfold f_M_readsItem_85 f_M_bitOf
      rw [if_neg (by decide), if_neg (by decide), bd_eq, nm_eq]
    have h8ix : ∀ {α : Type} (K : Nat → Option α), ix 9 10 K = K 9 := fun K => by rw [i9, ix_iz (by decide) (by decide) (by decide)]; rfl
    by_cases q : tk a n Q G (i + 1) = -2 ∧ 0 ≤ nv a Q G (i + 1) ∧ nv a Q G (i + 1) ≤ 4
    · left
      obtain ⟨τ2, c1, c2, c3⟩ := m1 q
      have hin2 : i + 1 < n := by
        have hb := tk_in ha C (show i + 1 ≤ n by omega)
        by_cases z : i + 1 = n
        · have := hb.2.2.1.mpr z; omega
        · omega
      have P2 := P1.eqA c2
      rw [r1 q, bd_eq, if_neg (by rw [i0, iz_lt (by omega) (by omega) (by omega) (by omega)]; omega)] at hF
      rw [hR, c1, bd_eq, h8ix, nm_eq, hE, bd_eq, show iz (nv a Q G (i + 1)) - 2 = iz (nv a Q G (i + 1) - 2) by rw [i2, iz_sub]] at hH
      have PT3 : PT (sI (sI (sI σ 3 8 1) 3 5 (iz ((i + 1 : Nat) : Int))) 3 5 (iz ((i + 1 + 1 : Nat) : Int))) d W R st lim lea lt true g tl := by
        refine PT.s35 (PT.s35 ?_ _) _
        obtain ⟨h1, h2, h3, h4, h5, h6, h7, h8, h9, h10⟩ := s4
        refine ⟨h1, h2, ?_, ?_, ?_, ?_, ?_, ?_, ?_, h10⟩
        · rw [gI_sI, if_neg (by omega)]; exact h3
        · rw [gI_sI, if_neg (by omega)]; exact h4
        · rw [gI_sI, if_neg (by omega)]; exact h5
        · rw [gI_sI, if_neg (by omega)]; exact h6
        · rw [gI_sI, if_neg (by omega)]; exact h7
        · rw [gI_sI, if_neg (by omega)]; exact h8
        · rw [gI_sI, if_pos ⟨rfl, rfl⟩, if_pos rfl]
      rw [PT3.rk, nm_eq, i2, iz_sub] at hF
      refine ⟨_, _, i + 1 + 1, W, R, st, lim, nv a Q G (i + 1) - 2, lt, true, g, bk, tl, hF, hH, by omega, ?_, ⟨?_, by omega⟩, ?_, ?_, ?_, ?_, ?_, ?_, ?_⟩
      · exact (A2.s3 (by decide) _).sd hd _
      · rw [gI_sI, if_neg (by omega), gI_sI, if_pos ⟨rfl, rfl⟩]
      · obtain ⟨h1, h2, h3, h4, h5, h6, h7, h8, h9, h10⟩ := PT3
        refine ⟨h1, h2, ?_, ?_, ?_, ?_, ?_, ?_, ?_, h10⟩
        · rw [gI_sI, if_neg (by omega)]; exact h3
        · rw [gI_sI, if_neg (by omega)]; exact h4
        · rw [gI_sI, if_neg (by omega)]; exact h5
        · rw [gI_sI, if_neg (by omega)]; exact h6
        · rw [gI_sI, if_pos ⟨rfl, rfl⟩]
        · rw [gI_sI, if_neg (by omega)]; exact h8
        · rw [gI_sI, if_neg (by omega)]; exact h9
      · exact (c3.a2 2 9 _).s (by omega) _
      · rw [gI_sI, if_neg (by decide), gI_sA, c2.1 0 8 (by omega)]; exact b4
      · obtain ⟨h1, h2, h3, h4, h5, h6, h7, h8⟩ := P2
        refine ⟨?_, ?_, ?_, ?_, ?_, ?_, ?_, h8⟩
        · rw [gA_sI, gA_sA, if_pos rfl, pk_un (by decide)]; exact h1
        · rw [gA_sI, gA_sA, if_pos rfl, pk_un (by decide)]; exact h2
        · rw [gA_sI, gA_sA, if_pos rfl, pk_un (by decide)]; exact h3
        · rw [gA_sI, gA_sA, if_pos rfl, pk_un (by decide)]; exact h4
        · rw [gA_sI, gA_sA, if_pos rfl, pk_us]
        · rw [gI_sI, if_pos ⟨rfl, rfl⟩, gI_sA, h6]; exact bts_o4 st lt
        · intro c hc
          rw [gI_sI, if_neg (by decide), gI_sA]
          exact h7 c hc
      · obtain ⟨h1, h2, h3, h4, h5, h6, h7⟩ := s8
        exact ⟨h1, h2, h3, ⟨by omega, by omega⟩, h5, h6, h7⟩
      · exact (((s9.trans eqT_3.eqD).trans eqT_3.eqD).trans eqT_3.eqD).trans (eqD_d hd hp)
      · exact ((e1M.trans c2.eqM).trans (eqM_a2 (by omega))).sl (by simp) _
    · right
      rw [r2 q, bd_eq, if_pos (by decide)] at hF
      rw [hR, m2 q, bd_eq, h8ix, nm_eq, hE, bd_eq] at hH
      refine ⟨_, _, hF, hH, i + 1, A2, h5, by omega, ?_, (s9.trans eqT_3.eqD).trans eqT_3.eqD, ?_⟩
      · rw [gI_sI, if_neg (by decide), gI_sA, gI_sI, if_pos ⟨rfl, rfl⟩]
      · exact ((e1M.sl (by simp) _).trans (eqM_a2 (by omega))).sl (by simp) _
  · refine item_fault T0 C S ?_ ?_
    · unfold f_Re_readLeaning
      rw [hlt, if_pos rfl, if_neg (by decide)]
    · unfold MB
      rw [hm, bd_eq, if_pos (by decide)]
