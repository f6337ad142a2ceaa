-- the class's walk: one spot's ways
def AW (g : Nat → Bool) (lim lea : Int) (tl : Nat → Int) (sd : Int) (D : Nat → Int) (s0 n : Nat) (P Wy : Nat → Nat) (σ : Mm) (N h u : Nat) (S B Dp : Nat → Nat) (F Sn : Nat → Int) : Prop := WM σ N S B Dp F Sn ∧ QW (Vw g) s0 N h S B Dp F Sn ∧ CW (Tw g lim lea tl) (Ew g lim lea tl sd) (Vw g) D s0 n P Wy N h u S B Dp F
/-- what a stop tells -/
def SW (n : Nat) (Wy : Nat → Nat) (σ : Mm) (h u : Nat) : Prop := ∃ qi : Nat → Nat, 0 < n ∧ n ≤ 340 ∧ h = qi (n - 1) ∧ u = Wy (n - 1) ∧ gA σ 30 h = iz ((n - 1 : Nat) : Int) ∧ (∀ d, d < n → qi d < 340 ∧ gA σ 28 (qi d) = (if d = 0 then iz (-1) else iz (qi (d - 1) : Nat))) ∧ ∀ d, d + 1 < n → gA σ 29 (qi (d + 1)) = iz (Wy d : Nat)
theorem t_vway {σ : Mm} {g : Nat → Bool} {lim lea : Int} {tl : Nat → Int} {sd : Int} {D : Nat → Int} {s0 n : Nat} {P Wy : Nat → Nat} {N h u : Nat} {S B Dp : Nat → Nat} {F Sn : Nat → Int} (G : YG σ 11 g lim lea tl) (hT : TlOk g tl) (hg : ∀ c, g c = true → c < 20) (hl1 : 2 ≤ lim) (hl2 : lim ≤ 9) (he : -2 ≤ lea ∧ lea ≤ 2) (hsd : sd = 1 ∨ sd = 2) (hDE : DE (Tw g lim lea tl) (Ew g lim lea tl sd) (Vw g) D) (A : AW g lim lea tl sd D s0 n P Wy σ N h u S B Dp F Sn) (hh : h < N) (hu : u < 4) :
    (Ew g lim lea tl sd (S h) u = true ∧ f_Wa_visitFrom_13_b (iz h) (iz sd) (iz ((S h / 17 : Nat) : Int)) σ (iz u) = some (.inr (iz u, σ))) ∨
    ∃ σ' N' S' B' Dp' F' Sn', f_Wa_visitFrom_13_b (iz h) (iz sd) (iz ((S h / 17 : Nat) : Int)) σ (iz u) = some (.inl (σ', iz ((u + 1 : Nat) : Int))) ∧ eqT σ σ' ∧ AW g lim lea tl sd D s0 n P Wy σ' N' h (u + 1) S' B' Dp' F' Sn' ∧ h < N' ∧ S' h = S h := by
  obtain ⟨M, J, C⟩ := A
  obtain ⟨hV, hV1⟩ := J.1 h hh
  have hN : N ≤ 340 := by have := J.2.2.1; omega
  have k4 : iz (u : Int) < 4 := by rw [i4, iz_lt (by omega) (by omega) (by omega) (by omega)]; omega
  have kk : iz (u : Int) + 1 = iz ((u + 1 : Nat) : Int) := by rw [i1, iz_add]; rfl
  have hB := t_beyond G (hg _ hV.2) hu
  rw [if_pos hV.2] at hB
  have e27 := (M.2.2.1 h hh).1
  rcases way_cases g lim lea tl hsd hg hl2 (S h) u with ⟨c1, c2, c3⟩ | ⟨c', c1, xc, xg, hcase⟩
  · rw [c1] at hB
    dsimp only at hB
    right
    refine ⟨σ, N, S, B, Dp, F, Sn, ?_, eqT.rfl, ⟨M, J, C.pass c2 c3⟩, hh, rfl⟩
    unfold f_Wa_visitFrom_13_b
    rw [if_pos k4, M.rk7, hB, bd_eq, if_pos (by decide), nm_eq, kk]
  · rw [c1] at hB
    dsimp only at hB
    have xt := hT c' xg
    have hL := t_leanOn (l := ((S h % 17 : Nat) : Int) - 8) G hT xc xg
    rw [show ((S h % 17 : Nat) : Int) - 8 + (tl c' + lea) = ((S h % 17 : Nat) : Int) - 8 + tl c' + lea by omega] at hL
    have hVd := t_verdict (l := ((S h % 17 : Nat) : Int) - 8 + tl c' + lea) G hl1 hl2 (by omega) (by omega)
    have hvc := vd_cases lim (((S h % 17 : Nat) : Int) - 8 + tl c' + lea)
    have kn : ¬ iz (c' : Int) < 0 := by rw [i0, iz_lt (by omega) (by omega) (by omega) (by omega)]; omega
    have base : f_Wa_visitFrom_13_b (iz h) (iz sd) (iz ((S h / 17 : Nat) : Int)) σ (iz u) = (if iz (vd lim (((S h % 17 : Nat) : Int) - 8 + tl c' + lea)) = iz sd then ((some (iz u, σ) : Option (Int32 × Mm)).map Sum.inr) else (if iz (vd lim (((S h % 17 : Nat) : Int) - 8 + tl c' + lea)) = 0 then (bd (f_T_spotOf σ (iz c') (iz (((S h % 17 : Nat) : Int) - 8 + tl c' + lea))) fun r_5 σ5 => (bd (f_Wa_visit σ5 r_5 (iz h) (iz u)) fun r_6 σ6 => (nm (iz u + 1) fun y2 => some (Sum.inl (σ6, y2))))) else (nm (iz u + 1) fun y1 => some (Sum.inl (σ, y1))))) := by
      unfold f_Wa_visitFrom_13_b
      rw [if_pos k4, M.rk7, hB, bd_eq, if_neg kn, M.rk7, ix_n (by omega) (by decide), e27, t_leanOf σ hV.1, bd_eq, hL, bd_eq, M.rk7, hVd, bd_eq]
    rw [base]
    rcases hcase with ⟨q, c4, t, c5, c6, c7, c8, c9⟩ | ⟨q, c4, c5⟩
    · right
      have hVt : Vw g t := ⟨c7, by rw [c8]; exact xg⟩
      have hsp := t_spotOf σ xc (l := ((S h % 17 : Nat) : Int) - 8 + tl c' + lea) (by omega) (by omega)
      rw [show 17 * (c' : Int) + (((S h % 17 : Nat) : Int) - 8 + tl c' + lea) + 8 = (t : Int) by omega] at hsp
      rw [if_neg (by rw [iz_eq (by omega) (by omega) (by omega) (by omega)]; omega), if_pos (by rw [q, i0]), hsp, bd_eq]
      rcases J.2.1 t c7 with z | ⟨z, -⟩
      · have hN3 : N < 340 := by
          have := cz_pos z 340 c7
          have := J.2.2.1
          omega
        rw [t_visit0 M c7 z hN3 hh, bd_eq, nm_eq, kk]
        obtain ⟨S', B', Dp', F', Sn', w1, w2, w3, w4, w5, w6, w7, w8⟩ := M.new (t := t) (u := u) (d := Dp h + 1) (f := (h : Int))
        exact ⟨_, N + 1, S', B', Dp', F', Sn', rfl, eqT_vSt, ⟨w1, J.new (u := u) hh hVt c7 z w2 w3 w5 w7 w8, C.new hDE J hh hu hVt c5 c4 w2 w3 w4 w5 w6⟩, by omega, (w2 h hh).1⟩
      · rw [t_visit1 M c7 z, bd_eq, nm_eq, kk]
        exact ⟨σ, N, S, B, Dp, F, Sn, rfl, eqT.rfl, ⟨M, J, C.seen J c5 c4 c7 z⟩, hh, rfl⟩
    · by_cases q1 : vd lim (((S h % 17 : Nat) : Int) - 8 + tl c' + lea) = sd
      · left
        rw [if_pos (by rw [q1])]
        exact ⟨c5.mpr q1, rfl⟩
      · right
        have e0 : Ew g lim lea tl sd (S h) u = false := by
          cases hE : Ew g lim lea tl sd (S h) u with
          | false => rfl
          | true => exact absurd (c5.mp hE) q1
        rw [if_neg (by rw [iz_eq (by omega) (by omega) (by omega) (by omega)]; exact q1), if_neg (by rw [i0, iz_eq (by omega) (by omega) (by omega) (by omega)]; exact q), nm_eq, kk]
        exact ⟨σ, N, S, B, Dp, F, Sn, rfl, eqT.rfl, ⟨M, J, C.pass c4 e0⟩, hh, rfl⟩
theorem t_stop {σ : Mm} {g : Nat → Bool} {lim lea : Int} {tl : Nat → Int} {sd : Int} {D : Nat → Int} {s0 n : Nat} {P Wy : Nat → Nat} {N h u : Nat} {S B Dp : Nat → Nat} {F Sn : Nat → Int} (hDE : DE (Tw g lim lea tl) (Ew g lim lea tl sd) (Vw g) D) (A : AW g lim lea tl sd D s0 n P Wy σ N h u S B Dp F Sn) (hh : h < N) (hu : u < 4) (h2 : Ew g lim lea tl sd (S h) u = true) : D s0 = n ∧ SW n Wy σ h u := by
  obtain ⟨M, J, C⟩ := A
  have hN : N ≤ 340 := by have := J.2.2.1; omega
  obtain ⟨a1, qi, a2, a3, a4, a5, a6, a7⟩ := C.stop hDE J hh hu h2
  obtain ⟨b1, b2⟩ := a6 (n - 1) (by omega)
  have b3 := (J.2.2.2.2.2 (qi (n - 1)) b1).2
  rw [b2] at b3
  refine ⟨a1, qi, a2, by omega, a4, a5, ?_, fun d hd => ?_, fun d hd => ?_⟩
  · rw [a4, (M.2.2.1 _ b1).2.2.2, b2]
  · obtain ⟨x1, x2⟩ := a6 d hd
    refine ⟨by omega, ?_⟩
    rw [(M.2.2.1 _ x1).2.1]
    by_cases q : d = 0
    · rw [q, a3, if_pos rfl, J.2.2.2.1.2.2.2.1]
    · rw [if_neg q]
      obtain ⟨d', rfl⟩ : ∃ d', d = d' + 1 := ⟨d - 1, by omega⟩
      rw [(a7 d' hd).1]
      rfl
  · obtain ⟨x1, x2⟩ := a6 (d + 1) hd
    rw [(M.2.2.1 _ x1).2.2.1, (a7 d hd).2]
theorem t_visitFrom {σ : Mm} {g : Nat → Bool} {lim lea : Int} {tl : Nat → Int} {sd : Int} {D : Nat → Int} {s0 n : Nat} {P Wy : Nat → Nat} {N h : Nat} {S B Dp : Nat → Nat} {F Sn : Nat → Int} (G : YG σ 11 g lim lea tl) (hT : TlOk g tl) (hg : ∀ c, g c = true → c < 20) (hl1 : 2 ≤ lim) (hl2 : lim ≤ 9) (he : -2 ≤ lea ∧ lea ≤ 2) (hsd : sd = 1 ∨ sd = 2) (hDE : DE (Tw g lim lea tl) (Ew g lim lea tl sd) (Vw g) D) (A : AW g lim lea tl sd D s0 n P Wy σ N h 0 S B Dp F Sn) (hh : h < N) :
    ∃ z, f_Wa_visitFrom σ (iz h) (iz sd) = some z ∧ ∃ σ' r, z = (iz r, σ') ∧ eqT σ σ' ∧ ((r = -1 ∧ ∃ N' S' B' Dp' F' Sn', AW g lim lea tl sd D s0 n P Wy σ' N' h 4 S' B' Dp' F' Sn' ∧ h < N') ∨ (∃ u : Nat, r = u ∧ u < 4 ∧ D s0 = n ∧ SW n Wy σ' h u)) := by
  have hN : N ≤ 340 := by have := A.2.1.2.2.1; omega
  have e27 := (A.1.2.2.1 h hh).1
  have hV := (A.2.1.1 h hh).1
  unfold f_Wa_visitFrom
  rw [ix_n (by omega) (by decide), e27, t_cellOf σ hV.1, bd_eq]
  unfold f_Wa_visitFrom_13
  refine lp_ind (fun s => 4 - s.2.toNatClampNeg) (fun z => ∃ (σ' : Mm) (u N' : Nat) (S' B' Dp' : Nat → Nat) (F' Sn' : Nat → Int), z = (σ', iz u) ∧ u ≤ 4 ∧ eqT σ σ' ∧ AW g lim lea tl sd D s0 n P Wy σ' N' h u S' B' Dp' F' Sn' ∧ h < N' ∧ S' h = S h) _ (fun z hz => ?_) _ ⟨σ, 0, N, S, B, Dp, F, Sn, rfl, by omega, eqT.rfl, A, hh, rfl⟩ ?_
  · obtain ⟨σ', u, N', S', B', Dp', F', Sn', rfl, hu, e, A', hh', hS⟩ := hz
    dsimp only
    by_cases k : u < 4
    · rcases t_vway (G.eqT e) hT hg hl1 hl2 he hsd hDE A' hh' k with ⟨b1, b2⟩ | ⟨σ2, N2, S2, B2, Dp2, F2, Sn2, b1, b2, b3, b4, b5⟩
      · right
        rw [hS] at b2
        obtain ⟨c1, c2⟩ := t_stop hDE A' hh' k b1
        exact ⟨_, b2, σ', u, rfl, e, Or.inr ⟨u, rfl, k, c1, c2⟩⟩
      · left
        rw [hS] at b1
        refine ⟨_, b1, ⟨σ2, u + 1, N2, S2, B2, Dp2, F2, Sn2, rfl, by omega, e.trans b2, b3, b4, b5.trans hS⟩, ?_⟩
        dsimp only
        rw [iz_nat (by omega) (by omega), iz_nat (by omega) (by omega)]
        omega
    · right
      have : u = 4 := by omega
      subst this
      refine ⟨(iz (-1), σ'), ?_, σ', -1, rfl, e, Or.inl ⟨rfl, N', S', B', Dp', F', Sn', A', hh'⟩⟩
      unfold f_Wa_visitFrom_13_b
      rw [if_neg (by decide)]
      rfl
  · dsimp only
    omega
theorem eqT_32 {σ : Mm} {k : Nat} {v : Int32} : eqT σ (sA σ 32 k v) := ⟨fun c j _ => Eq.refl (gI σ c j), fun c hc => by rw [gA_sA, if_neg (fun z => by rw [z] at hc; cases hc)], Eq.refl (gR σ 0 2), Eq.refl (gR σ 0 3), Eq.refl (gJ σ), fun h => h⟩
/-- the row of ways is written backwards -/
theorem t_write {σ : Mm} {n h u : Nat} {Wy : Nat → Nat} (hW : ∀ d, d < n → Wy d < 4) (A : SW n Wy σ h u) : ∃ z, f_Wa_write σ (iz h) (iz u) = some z ∧ ∃ σ', z = (iz n, σ') ∧ eqT σ σ' ∧ ∀ d, d < n → gA σ' 32 d = iz (Wy d : Nat) := by
  obtain ⟨qi, a1, a2, a3, a4, a5, a6, a7⟩ := A
  have hh : h < 340 := by rw [a3]; exact (a6 (n - 1) (by omega)).1
  have en : iz ((n - 1 : Nat) : Int) + 1 = iz (n : Int) := by rw [i1, iz_add]; congr 1; omega
  have en2 : iz (n : Int) - 1 = iz (((n : Nat) : Int) - 1) := by rw [i1, iz_sub]
  unfold f_Wa_write
  rw [ix_n hh (by decide), a5, en, nm_eq, en2, nm_eq]
  unfold f_Wa_write_20
  refine lp_ind (fun s => (s.2.2.2.toInt + 1).toNat) (fun z => ∃ (σ' : Mm) (p : Nat) (x y : Int32), z = (σ', x, y, iz ((p : Int) - 1)) ∧ p ≤ n ∧ eqT σ σ' ∧ gA σ' 28 = gA σ 28 ∧ gA σ' 29 = gA σ 29 ∧ (0 < p → x = iz (qi (p - 1) : Nat) ∧ y = iz (Wy (p - 1) : Nat)) ∧ ∀ d, p ≤ d → d < n → gA σ' 32 d = iz (Wy d : Nat)) _ (fun z hz => ?_) _ ⟨σ, n, _, _, rfl, by omega, eqT.rfl, rfl, rfl, fun _ => ⟨by rw [a3], by rw [a4]⟩, fun d h1 h2 => by omega⟩ ?_
  · obtain ⟨σ', p, x, y, rfl, hp, e, e28, e29, hxy, hr⟩ := hz
    dsimp only
    by_cases k : p = 0
    · right
      subst k
      refine ⟨(iz n, σ'), ?_, σ', rfl, e, fun d hd => hr d (Nat.zero_le d) hd⟩
      unfold f_Wa_write_20_b
      rw [if_pos (by decide)]
      rfl
    · left
      obtain ⟨rfl, rfl⟩ := hxy (by omega)
      obtain ⟨p', rfl⟩ : ∃ p', p = p' + 1 := ⟨p - 1, by omega⟩
      have ep : ((p' + 1 : Nat) : Int) - 1 = (p' : Int) := by omega
      have ep2 : p' + 1 - 1 = p' := by omega
      rw [ep, ep2]
      obtain ⟨q1, q2⟩ := a6 p' (by omega)
      have dec : iz (p' : Int) + -1 = iz ((p' : Int) - 1) := by
        rw [i1, iz_neg, iz_add]
        congr 1
      refine ⟨(sA σ' 32 p' (iz (Wy p' : Nat)), gA σ 28 (qi p'), gA σ 29 (qi p'), iz ((p' : Int) - 1)), ?_, ⟨_, p', _, _, rfl, by omega, e.trans eqT_32, ?_, ?_, fun z => ?_, fun d h1 h2 => ?_⟩, ?_⟩
      · unfold f_Wa_write_20_b
        rw [if_neg (by rw [i0, iz_lt (by omega) (by omega) (by omega) (by omega)]; omega), if_pos (by rw [i340, iz_lt (by omega) (by omega) (by omega) (by omega)]; omega), if_neg (by rw [i0, iz_lt (by omega) (by omega) (by omega) (by omega)]; omega), ix_n (by omega) (by decide), nm_eq, ix_n q1 (by decide), nm_eq, ix_n q1 (by decide), nm_eq, dec, nm_eq, gA_sA, if_neg (by decide), gA_sA, if_neg (by decide), e28, e29]
      · rw [gA_sA, if_neg (by decide)]; exact e28
      · rw [gA_sA, if_neg (by decide)]; exact e29
      · obtain ⟨p2, rfl⟩ : ∃ p2, p' = p2 + 1 := ⟨p' - 1, by omega⟩
        rw [q2, if_neg (by omega), a7 p2 (by omega)]
        exact ⟨rfl, rfl⟩
      · rw [gA_sA, if_pos rfl]
        by_cases q : d = p'
        · rw [q, pk_us]
        · rw [pk_un q]; exact hr d (by omega) h2
      · dsimp only
        rw [iz_T (by omega) (by omega), iz_T (by omega) (by omega)]
        omega
  · dsimp only
    rw [iz_T (by omega) (by omega)]
    omega
