-- the class's walk: spots found S, found from F, found by B, depths Dp
def QW (V : Nat → Prop) (s0 N h : Nat) (S B Dp : Nat → Nat) (F : Nat → Int) (Sn : Nat → Int) : Prop := (∀ i, i < N → V (S i) ∧ Sn (S i) = 1) ∧ (∀ j, j < 340 → Sn j = 0 ∨ (Sn j = 1 ∧ ∃ i, i < N ∧ S i = j)) ∧ cz Sn 340 + N = 340 ∧ (0 < N ∧ S 0 = s0 ∧ Dp 0 = 0 ∧ F 0 = -1 ∧ B 0 = 0) ∧ (∀ i j, i ≤ j → j < N → Dp i ≤ Dp j) ∧ (∀ i, i < N → Dp i ≤ Dp h + 1 ∧ Dp i ≤ i)
def NW (T : Nat → Nat → Option Nat) (E : Nat → Nat → Bool) (D : Nat → Int) (n : Nat) (P Wy : Nat → Nat) (N h u : Nat) (S B Dp : Nat → Nat) (F : Nat → Int) : Prop := (∀ i, i < N → D (S i) = -9 ∨ (1 ≤ D (S i) ∧ (n : Int) ≤ D (S i) + Dp i)) ∧ ∃ (e : Nat) (qi : Nat → Nat), e < n ∧ qi 0 = 0 ∧ (∀ d, d ≤ e → qi d < N ∧ S (qi d) = P d ∧ Dp (qi d) = d) ∧ (∀ d, d < e → F (qi (d + 1)) = qi d ∧ B (qi (d + 1)) = Wy d) ∧ (∀ i, i < N → 1 ≤ D (S i) → D (S i) + Dp i = n → Dp i ≤ e ∧ qi (Dp i) ≤ i) ∧ (h < qi e ∨ (h = qi e ∧ u ≤ Wy e))
def CW (T : Nat → Nat → Option Nat) (E : Nat → Nat → Bool) (V : Nat → Prop) (D : Nat → Int) (s0 n : Nat) (P Wy : Nat → Nat) (N h u : Nat) (S B Dp : Nat → Nat) (F : Nat → Int) : Prop := (D s0 = -9 ∧ ∀ i, i < N → D (S i) = -9) ∨ (D s0 = n ∧ GP T E V D n s0 P Wy ∧ NW T E D n P Wy N h u S B Dp F)
theorem CW.pass {T : Nat → Nat → Option Nat} {E : Nat → Nat → Bool} {V : Nat → Prop} {D : Nat → Int} {s0 n : Nat} {P Wy : Nat → Nat} {N h u : Nat} {S B Dp : Nat → Nat} {F : Nat → Int} (C : CW T E V D s0 n P Wy N h u S B Dp F) (h1 : T (S h) u = none) (h2 : E (S h) u = false) : CW T E V D s0 n P Wy N h (u + 1) S B Dp F := by
  rcases C with C | ⟨c1, c2, c3, e, qi, c4, c5, c6, c7, c8, c9⟩
  · exact Or.inl C
  · refine Or.inr ⟨c1, c2, c3, e, qi, c4, c5, c6, c7, c8, ?_⟩
    rcases c9 with z | ⟨z1, z2⟩
    · exact Or.inl z
    · by_cases q : u = Wy e
      · have g := (c2.2 e c4).2.2.2.1
        obtain ⟨d1, d2, d3⟩ := c6 e (Nat.le_refl _)
        rw [← d2, ← q, ← z1] at g
        rcases g with ⟨-, g⟩ | ⟨-, t, g, -⟩
        · rw [h2] at g; cases g
        · rw [h1] at g; cases g
      · exact Or.inr ⟨z1, by omega⟩
theorem CW.seen {T : Nat → Nat → Option Nat} {E : Nat → Nat → Bool} {V : Nat → Prop} {D : Nat → Int} {s0 n : Nat} {P Wy : Nat → Nat} {N h u t : Nat} {S B Dp : Nat → Nat} {F Sn : Nat → Int} (C : CW T E V D s0 n P Wy N h u S B Dp F) (J : QW V s0 N h S B Dp F Sn) (h1 : T (S h) u = some t) (h2 : E (S h) u = false) (ht : t < 340) (hs : Sn t = 1) : CW T E V D s0 n P Wy N h (u + 1) S B Dp F := by
  rcases C with C | ⟨c1, c2, c3, e, qi, c4, c5, c6, c7, c8, c9⟩
  · exact Or.inl C
  · refine Or.inr ⟨c1, c2, c3, e, qi, c4, c5, c6, c7, c8, ?_⟩
    rcases c9 with z | ⟨z1, z2⟩
    · exact Or.inl z
    · by_cases q : u = Wy e
      · exfalso
        have g := (c2.2 e c4).2.2.2.1
        obtain ⟨d1, d2, d3⟩ := c6 e (Nat.le_refl _)
        rw [← d2, ← q, ← z1] at g
        rcases g with ⟨-, g⟩ | ⟨g1, t', g2, g3⟩
        · rw [h2] at g; cases g
        · rw [h1] at g2
          rw [← Option.some.inj g2] at g3
          obtain ⟨i, i1, i2⟩ : ∃ i, i < N ∧ S i = t := by
            rcases J.2.1 t ht with z | ⟨-, z⟩
            · omega
            · exact z
          have w9 := c3 i i1
          have w7 := (J.2.2.2.2.2 i i1).1
          rw [i2] at w9
          rw [z1, d3] at w7
          have := (c8 i i1 (by rw [i2]; omega) (by rw [i2]; omega)).1
          omega
      · exact Or.inr ⟨z1, by omega⟩
theorem CW.new {T : Nat → Nat → Option Nat} {E : Nat → Nat → Bool} {V : Nat → Prop} {D : Nat → Int} {s0 n : Nat} {P Wy : Nat → Nat} {N h u t : Nat} {S B Dp S' B' Dp' : Nat → Nat} {F F' Sn : Nat → Int} (hDE : DE T E V D) (C : CW T E V D s0 n P Wy N h u S B Dp F) (J : QW V s0 N h S B Dp F Sn) (hh : h < N) (hu : u < 4) (hV : V t) (h1 : T (S h) u = some t) (h2 : E (S h) u = false) (o : ∀ i, i < N → S' i = S i ∧ B' i = B i ∧ Dp' i = Dp i ∧ F' i = F i) (k1 : S' N = t) (k2 : B' N = u) (k3 : Dp' N = Dp h + 1) (k4 : F' N = h) : CW T E V D s0 n P Wy (N + 1) h (u + 1) S' B' Dp' F' := by
  have hVh := (J.1 h hh).1
  have eq4 := (hDE (S h) hVh).2.2.2 u t hu h1
  have ht1 := (hDE t hV).1
  rcases C with ⟨c0, C⟩ | ⟨c1, c2, c3, e, qi, c4, c5, c6, c7, c8, c9⟩
  · refine Or.inl ⟨c0, fun i hi => ?_⟩
    by_cases q : i = N
    · rw [q, k1]
      have := C h hh
      rcases ht1 with z | z
      · exact z
      · have := eq4 z
        omega
    · rw [(o i (by omega)).1]
      exact C i (by omega)
  · have w9h := c3 h hh
    have hN : D t = -9 ∨ (1 ≤ D t ∧ (n : Int) ≤ D t + (Dp h + 1 : Nat)) := by
      rcases ht1 with z | z
      · exact Or.inl z
      · have := eq4 z
        exact Or.inr ⟨z, by omega⟩
    refine Or.inr ⟨c1, c2, fun i hi => ?_, ?_⟩
    · by_cases q : i = N
      · rw [q, k1, k3]; exact hN
      · obtain ⟨o1, o2, o3, o4⟩ := o i (by omega)
        rw [o1, o3]; exact c3 i (by omega)
    · by_cases gq : h = qi e ∧ u = Wy e
      · -- the next spot of the nearest way
        obtain ⟨z1, z2⟩ := gq
        have g := (c2.2 e c4).2.2.2.1
        obtain ⟨d1, d2, d3⟩ := c6 e (Nat.le_refl _)
        have gn := (c2.2 e c4).2.2.2.2.2
        rw [← d2, ← z2, ← z1] at g gn
        rcases g with ⟨-, g⟩ | ⟨g1, t', g2, g3⟩
        · rw [h2] at g; cases g
        · rw [h1] at g2
          rw [← Option.some.inj g2] at g3
          have e1 : e + 1 < n := by omega
          have gn := gn e1
          rw [h1] at gn
          have gt := Option.some.inj gn
          have dh : Dp h = e := by rw [z1]; exact d3
          obtain ⟨qi', q1, q2⟩ : ∃ qi' : Nat → Nat, qi' (e + 1) = N ∧ ∀ d, d ≤ e → qi' d = qi d := ⟨fun d => if d = e + 1 then N else qi d, if_pos rfl, fun d hd => if_neg (by omega)⟩
          refine ⟨e + 1, qi', e1, by rw [q2 0 (by omega)]; exact c5, fun d hd => ?_, fun d hd => ?_, fun i hi a1 a2 => ?_, Or.inl (by rw [q1]; exact hh)⟩
          · by_cases q : d = e + 1
            · rw [q, q1, k1, k3, dh]
              exact ⟨by omega, gt, rfl⟩
            · obtain ⟨x1, x2, x3⟩ := c6 d (by omega)
              obtain ⟨o1, o2, o3, o4⟩ := o (qi d) x1
              rw [q2 d (by omega), o1, o3]
              exact ⟨by omega, x2, x3⟩
          · by_cases q : d = e
            · rw [q, q1, q2 e (Nat.le_refl _), k2, k4, z1, ← z2]
              exact ⟨rfl, rfl⟩
            · obtain ⟨x1, x2⟩ := c7 d (by omega)
              obtain ⟨y1, -⟩ := c6 (d + 1) (by omega)
              obtain ⟨o1, o2, o3, o4⟩ := o (qi (d + 1)) y1
              rw [q2 (d + 1) (by omega), q2 d (by omega), o2, o4]
              exact ⟨x1, x2⟩
          · by_cases q : i = N
            · rw [q, k3, dh, q1]
              exact ⟨Nat.le_refl _, Nat.le_refl _⟩
            · obtain ⟨o1, o2, o3, o4⟩ := o i (by omega)
              rw [o1] at a1 a2
              rw [o3] at a2 ⊢
              obtain ⟨x1, x2⟩ := c8 i (by omega) a1 a2
              rw [q2 _ x1]
              exact ⟨by omega, x2⟩
      · have lt : h < qi e ∨ (h = qi e ∧ u + 1 ≤ Wy e) := by omega
        refine ⟨e, qi, c4, c5, fun d hd => ?_, fun d hd => ?_, fun i hi a1 a2 => ?_, lt⟩
        · obtain ⟨x1, x2, x3⟩ := c6 d hd
          obtain ⟨o1, o2, o3, o4⟩ := o (qi d) x1
          rw [o1, o3]
          exact ⟨by omega, x2, x3⟩
        · obtain ⟨x1, x2⟩ := c7 d hd
          obtain ⟨y1, -⟩ := c6 (d + 1) (by omega)
          obtain ⟨o1, o2, o3, o4⟩ := o (qi (d + 1)) y1
          rw [o2, o4]
          exact ⟨x1, x2⟩
        · by_cases q : i = N
          · rw [q, k1] at a1 a2
            rw [q, k3]
            rw [k3] at a2
            have m1 := eq4 a1
            have good : Dp h ≤ e ∧ qi (Dp h) ≤ h := c8 h hh m1.1 (by omega)
            have hlt : Dp h < e := by
              by_cases q2 : Dp h = e
              · exfalso
                rw [q2] at good
                have hq : h = qi e := by omega
                have hw : u < Wy e := by omega
                obtain ⟨d1, d2, d3⟩ := c6 e (Nat.le_refl _)
                have gno := (c2.2 e c4).2.2.2.2.1 u hw
                rw [← d2, ← hq] at gno
                refine gno (Or.inr ⟨?_, t, h1, ?_⟩)
                · omega
                · omega
              · omega
            refine ⟨by omega, ?_⟩
            have := (c6 (Dp h + 1) (by omega)).1
            omega
          · obtain ⟨o1, o2, o3, o4⟩ := o i (by omega)
            rw [o1] at a1 a2
            rw [o3] at a2 ⊢
            exact c8 i (by omega) a1 a2
theorem CW.stop {T : Nat → Nat → Option Nat} {E : Nat → Nat → Bool} {V : Nat → Prop} {D : Nat → Int} {s0 n : Nat} {P Wy : Nat → Nat} {N h u : Nat} {S B Dp : Nat → Nat} {F Sn : Nat → Int} (hDE : DE T E V D) (C : CW T E V D s0 n P Wy N h u S B Dp F) (J : QW V s0 N h S B Dp F Sn) (hh : h < N) (hu : u < 4) (h2 : E (S h) u = true) : D s0 = n ∧ ∃ qi : Nat → Nat, 0 < n ∧ qi 0 = 0 ∧ h = qi (n - 1) ∧ u = Wy (n - 1) ∧ (∀ d, d < n → qi d < N ∧ Dp (qi d) = d) ∧ ∀ d, d + 1 < n → F (qi (d + 1)) = qi d ∧ B (qi (d + 1)) = Wy d := by
  have hVh := (J.1 h hh).1
  have h1 := (hDE (S h) hVh).2.2.1 u hu h2
  rcases C with ⟨c0, C⟩ | ⟨c1, c2, c3, e, qi, c4, c5, c6, c7, c8, c9⟩
  · have := C h hh
    omega
  · have w9 := c3 h hh
    obtain ⟨d1, d2, d3⟩ := c6 e (Nat.le_refl _)
    have hle : h ≤ qi e := by omega
    have hdp := J.2.2.2.2.1 h (qi e) hle d1
    rw [d3] at hdp
    have he : e + 1 = n := by omega
    have hd : Dp h = e := by omega
    obtain ⟨x1, x2⟩ := c8 h hh (by omega) (by omega)
    rw [hd] at x2
    have hq : h = qi e := by omega
    have huw : u = Wy e := by
      by_cases q : u < Wy e
      · exfalso
        have gno := (c2.2 e c4).2.2.2.2.1 u q
        rw [← d2, ← hq] at gno
        exact gno (Or.inl ⟨by omega, h2⟩)
      · omega
    have en : n - 1 = e := by omega
    rw [en]
    exact ⟨c1, qi, by omega, c5, hq, huw, fun d hd => ⟨(c6 d (by omega)).1, (c6 d (by omega)).2.2⟩, fun d hd => c7 d (by omega)⟩
theorem CW.head {T : Nat → Nat → Option Nat} {E : Nat → Nat → Bool} {V : Nat → Prop} {D : Nat → Int} {s0 n : Nat} {P Wy : Nat → Nat} {N h : Nat} {S B Dp : Nat → Nat} {F : Nat → Int} (C : CW T E V D s0 n P Wy N h 4 S B Dp F) : CW T E V D s0 n P Wy N (h + 1) 0 S B Dp F := by
  rcases C with C | ⟨c1, c2, c3, e, qi, c4, c5, c6, c7, c8, c9⟩
  · exact Or.inl C
  · have := (c2.2 e c4).2.2.1
    exact Or.inr ⟨c1, c2, c3, e, qi, c4, c5, c6, c7, c8, by omega⟩
theorem CW.none {T : Nat → Nat → Option Nat} {E : Nat → Nat → Bool} {V : Nat → Prop} {D : Nat → Int} {s0 n : Nat} {P Wy : Nat → Nat} {N u : Nat} {S B Dp : Nat → Nat} {F : Nat → Int} (C : CW T E V D s0 n P Wy N N u S B Dp F) : D s0 = -9 := by
  rcases C with C | ⟨c1, c2, c3, e, qi, c4, c5, c6, c7, c8, c9⟩
  · exact C.1
  · have := (c6 e (Nat.le_refl _)).1
    omega
theorem QW.new {V : Nat → Prop} {s0 N h t u : Nat} {S B Dp S' B' Dp' : Nat → Nat} {F F' Sn Sn' : Nat → Int} (J : QW V s0 N h S B Dp F Sn) (hh : h < N) (hV : V t) (ht : t < 340) (h0 : Sn t = 0) (o : ∀ i, i < N → S' i = S i ∧ B' i = B i ∧ Dp' i = Dp i ∧ F' i = F i) (k1 : S' N = t) (k3 : Dp' N = Dp h + 1) (s1 : Sn' t = 1) (s2 : ∀ j, j ≠ t → Sn' j = Sn j) : QW V s0 (N + 1) h S' B' Dp' F' Sn' := by
  obtain ⟨j1, j2, j3, ⟨j4, j5, j6, j7, j8⟩, j9, j10⟩ := J
  refine ⟨fun i hi => ?_, fun j hj => ?_, ?_, ?_, fun i j ij hj => ?_, fun i hi => ?_⟩
  · by_cases q : i = N
    · rw [q, k1, s1]; exact ⟨hV, rfl⟩
    · obtain ⟨a1, a2⟩ := j1 i (by omega)
      rw [(o i (by omega)).1, s2 _ (fun z => by rw [z] at a2; omega)]
      exact ⟨a1, a2⟩
  · by_cases q : j = t
    · rw [q]; exact Or.inr ⟨s1, N, by omega, k1⟩
    · rw [s2 j q]
      rcases j2 j hj with z | ⟨z, i, z1, z2⟩
      · exact Or.inl z
      · exact Or.inr ⟨z, i, by omega, by rw [(o i z1).1]; exact z2⟩
  · have := cz_put (W := Sn) (L := fun _ => 0) (W' := Sn') (L' := fun _ => 0) (s := t) (x := 1) (n := 0) ⟨s1, rfl, fun j hj => ⟨s2 j hj, rfl⟩⟩ h0 (by omega) 340 ht
    omega
  · obtain ⟨o1, o2, o3, o4⟩ := o 0 j4
    rw [o1, o2, o3, o4]
    exact ⟨by omega, j5, j6, j7, j8⟩
  · have hd : Dp' h = Dp h := (o h hh).2.2.1
    by_cases q : j = N
    · rw [q, k3]
      by_cases q2 : i = N
      · rw [q2, k3]; exact Nat.le_refl _
      · rw [(o i (by omega)).2.2.1]
        exact (j10 i (by omega)).1
    · rw [(o j (by omega)).2.2.1, (o i (by omega)).2.2.1]
      exact j9 i j ij (by omega)
  · have hd : Dp' h = Dp h := (o h hh).2.2.1
    rw [hd]
    by_cases q : i = N
    · rw [q, k3]
      have := (j10 h hh).2
      exact ⟨Nat.le_refl _, by omega⟩
    · rw [(o i (by omega)).2.2.1]
      exact j10 i (by omega)
theorem QW.head {V : Nat → Prop} {s0 N h : Nat} {S B Dp : Nat → Nat} {F Sn : Nat → Int} (J : QW V s0 N h S B Dp F Sn) (hh : h + 1 < N) : QW V s0 N (h + 1) S B Dp F Sn := by
  obtain ⟨j1, j2, j3, j4, j9, j10⟩ := J
  refine ⟨j1, j2, j3, j4, j9, fun i hi => ?_⟩
  have := j9 h (h + 1) (by omega) hh
  have := j10 i hi
  omega
