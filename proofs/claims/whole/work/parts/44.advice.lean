-- the call advice
def Cm (g : Nat → Bool) (lim lea : Int) (tl : Nat → Int) (W L : Nat → Int) (c : Nat) (l : Int) (p w : Nat) : Prop := ∃ x y, mv g lim lea tl W L c l p w = some (x, y) ∧ x = W (sx c l p) ∧ (x = 0 ∨ y = L (sx c l p) - 1)
theorem Cm_uniq {g : Nat → Bool} {lim lea : Int} {tl : Nat → Int} {W L W' L' : Nat → Int} (h : LC g lim lea tl W L) (h' : LC g lim lea tl W' L') {c p w : Nat} {l : Int} (hv : Lv g lim c l p) (k : Cm g lim lea tl W L c l p w) : Cm g lim lea tl W' L' c l p w := by
  obtain ⟨x, y, a1, a2, a3⟩ := k
  obtain ⟨u1, u2⟩ := LC.uniq h h' c l p hv
  unfold mv at a1
  rcases hx : nx g c w with _ | c'
  · rw [hx] at a1; cases a1
  · rw [hx] at a1
    dsimp only at a1
    by_cases q : vd lim (l + tl c' + lea) = 0
    · rw [if_pos q] at a1
      have e1 := congrArg Prod.fst (Option.some.inj a1)
      have e2 := congrArg Prod.snd (Option.some.inj a1)
      dsimp only at e1 e2
      obtain ⟨v1, v2⟩ := LC.uniq h h' c' (l + tl c' + lea) (1 - p) (Lv.next hx q)
      refine ⟨W' (sx c' (l + tl c' + lea) (1 - p)), L' (sx c' (l + tl c' + lea) (1 - p)), ?_, by rw [v1, u1, e1, a2], ?_⟩
      · unfold mv
        rw [hx]
        dsimp only
        rw [if_pos q]
      · by_cases z : x = 0
        · left; rw [v1, e1, z]
        · right
          rw [v2 (by rw [e1]; exact z), u2 (by rw [← a2]; exact z), e2]
          omega
    · rw [if_neg q] at a1
      have e1 := congrArg Prod.fst (Option.some.inj a1)
      have e2 := congrArg Prod.snd (Option.some.inj a1)
      dsimp only at e1 e2
      refine ⟨vd lim (l + tl c' + lea), 0, ?_, by rw [u1, e1, a2], ?_⟩
      · unfold mv
        rw [hx]
        dsimp only
        rw [if_neg q]
      · right
        rw [u2 (by rw [← a2, ← e1]; exact q)]
        omega
theorem t_lengthN {σ : Mm} {c p : Nat} {l : Int} (h : c < 20) (h1 : -9 < l) (h2 : l < 9) (h3 : p < 2) : f_Co_length σ (iz c) (iz l) (iz p) = some (gA σ 23 (sx c l p), σ) := by
  have e := (sx_eq h h1 h2 h3).2
  unfold f_Co_length
  rw [t_stateOf σ h (by omega) (by omega) h3, bd_eq, if_neg (by rw [i0, iz_lt (by omega) (by omega) (by omega) (by omega)]; omega), ix_n e (by decide)]
theorem t_comesSo {σ : Mm} {W L : Nat → Int} {g : Nat → Bool} {lim lea : Int} {tl : Nat → Int} (G : YG σ 11 g lim lea tl) (hT : TlOk g tl) (hg : ∀ c, g c = true → c < 20) (hl1 : 2 ≤ lim) (hl2 : lim ≤ 9) (he : -2 ≤ lea ∧ lea ≤ 2) (K : LkC (gA σ 22) (gA σ 23) W L) {c p w c' : Nat} {l : Int} (e3 : gI σ 36 3 = iz c) (e4 : gI σ 36 4 = iz l) (e5 : gI σ 36 5 = iz p) (hv : Lv g lim c l p) (hx : nx g c w = some c') :
    (Cm g lim lea tl W L c l p w → f_T_comesSo σ (iz c') = some (1, σ)) ∧ (¬ Cm g lim lea tl W L c l p w → f_T_comesSo σ (iz c') = some (0, σ)) := by
  obtain ⟨b1, b2, b3, b4⟩ := hv.b hg hl2
  obtain ⟨xg, -⟩ := nx_ok hx
  have xc := hg c' xg
  have xt := hT c' xg
  have s2 := (sx_eq b1 b2 b3 b4).2
  have hW := t_winner K b1 b2 b3 b4
  have hLn := t_lengthN (σ := σ) b1 b2 b3 b4
  have hLo := t_leanOn (l := l) G hT xc xg
  rw [show l + (tl c' + lea) = l + tl c' + lea by omega] at hLo
  have hV := t_verdict (l := l + tl c' + lea) G hl1 hl2 (by omega) (by omega)
  have hvc := vd_cases lim (l + tl c' + lea)
  obtain ⟨-, k2, k3⟩ := K _ s2
  have base : f_T_comesSo σ (iz c') = (if iz (vd lim (l + tl c' + lea)) = 0 then (nm (1 - iz (p : Int)) fun y1 => (bd (f_Co_winner σ (iz c') (iz (l + tl c' + lea)) y1) fun r_5 σ5 => (if r_5 = iz (W (sx c l p)) then (if iz (W (sx c l p)) = 0 then some ((1 : Int32), σ5) else (bd (f_Co_length σ5 (iz c') (iz (l + tl c' + lea)) y1) fun r_6 σ6 => (if r_6 = (gA σ 23 (sx c l p) - 1) then some ((1 : Int32), σ6) else some ((0 : Int32), σ6)))) else some ((0 : Int32), σ5)))) else (if iz (vd lim (l + tl c' + lea)) = iz (W (sx c l p)) then (if gA σ 23 (sx c l p) = 1 then some ((1 : Int32), σ) else some ((0 : Int32), σ)) else some ((0 : Int32), σ))) := by
    unfold f_T_comesSo
    rw [e3, e4, e5, hW, bd_eq, e3, e4, e5, hLn, bd_eq, e4, hLo, bd_eq, hV, bd_eq, e5]
  by_cases q : vd lim (l + tl c' + lea) = 0
  · obtain ⟨d1, d2, d3, d4⟩ := (Lv.next (p := p) hx q).b hg hl2
    have t2 := (sx_eq d1 d2 d3 d4).2
    have hW2 := t_winner K d1 d2 d3 d4
    have hL2 := t_lengthN (σ := σ) d1 d2 d3 d4
    obtain ⟨-, j2, j3⟩ := K _ t2
    have hm : mv g lim lea tl W L c l p w = some (W (sx c' (l + tl c' + lea) (1 - p)), L (sx c' (l + tl c' + lea) (1 - p))) := by
      unfold mv
      rw [hx]
      dsimp only
      rw [if_pos q]
    have cm : Cm g lim lea tl W L c l p w ↔ (W (sx c' (l + tl c' + lea) (1 - p)) = W (sx c l p) ∧ (W (sx c l p) = 0 ∨ L (sx c' (l + tl c' + lea) (1 - p)) = L (sx c l p) - 1)) := by
      unfold Cm
      rw [hm]
      constructor
      · rintro ⟨x, y, a1, a2, a3⟩
        have z1 := congrArg Prod.fst (Option.some.inj a1)
        have z2 := congrArg Prod.snd (Option.some.inj a1)
        dsimp only at z1 z2
        exact ⟨by omega, by omega⟩
      · rintro ⟨a1, a2⟩
        exact ⟨_, _, rfl, a1, by omega⟩
    have ep : (1 : Int32) - iz (p : Int) = iz ((1 - p : Nat) : Int) := by
      rw [i1, iz_sub]
      congr 1
      omega
    rw [base, if_pos (by rw [q, i0]), nm_eq, ep, hW2, bd_eq]
    by_cases q2 : W (sx c' (l + tl c' + lea) (1 - p)) = W (sx c l p)
    · rw [if_pos (by rw [q2])]
      by_cases q3 : W (sx c l p) = 0
      · rw [if_pos (by rw [q3, i0])]
        exact ⟨fun _ => rfl, fun z => absurd (cm.mpr ⟨q2, Or.inl q3⟩) z⟩
      · rw [if_neg (by rw [i0, iz_eq (by omega) (by omega) (by omega) (by omega)]; exact q3), hL2, bd_eq, (k3 q3).1, (j3 (by omega)).1, i1, iz_sub]
        have l1 := (k3 q3).2
        have l2 := (j3 (by omega)).2
        by_cases q4 : L (sx c' (l + tl c' + lea) (1 - p)) = L (sx c l p) - 1
        · rw [if_pos (by rw [q4])]
          exact ⟨fun _ => rfl, fun z => absurd (cm.mpr ⟨q2, Or.inr q4⟩) z⟩
        · rw [if_neg (by rw [iz_eq (by omega) (by omega) (by omega) (by omega)]; exact q4)]
          exact ⟨fun z => by have := cm.mp z; omega, fun _ => rfl⟩
    · rw [if_neg (by rw [iz_eq (by omega) (by omega) (by omega) (by omega)]; exact q2)]
      exact ⟨fun z => absurd (cm.mp z).1 q2, fun _ => rfl⟩
  · have hm : mv g lim lea tl W L c l p w = some (vd lim (l + tl c' + lea), 0) := by
      unfold mv
      rw [hx]
      dsimp only
      rw [if_neg q]
    have cm : Cm g lim lea tl W L c l p w ↔ (vd lim (l + tl c' + lea) = W (sx c l p) ∧ L (sx c l p) = 1) := by
      unfold Cm
      rw [hm]
      constructor
      · rintro ⟨x, y, a1, a2, a3⟩
        have z1 := congrArg Prod.fst (Option.some.inj a1)
        have z2 := congrArg Prod.snd (Option.some.inj a1)
        dsimp only at z1 z2
        exact ⟨by omega, by omega⟩
      · rintro ⟨a1, a2⟩
        exact ⟨_, _, rfl, a1, by omega⟩
    rw [base, if_neg (by rw [i0, iz_eq (by omega) (by omega) (by omega) (by omega)]; exact q)]
    by_cases q2 : vd lim (l + tl c' + lea) = W (sx c l p)
    · rw [if_pos (by rw [q2]), (k3 (by omega)).1]
      have l1 := (k3 (by omega)).2
      by_cases q4 : L (sx c l p) = 1
      · rw [if_pos (by rw [q4, i1])]
        exact ⟨fun _ => rfl, fun z => absurd (cm.mpr ⟨q2, q4⟩) z⟩
      · rw [if_neg (by rw [i1, iz_eq (by omega) (by omega) (by omega) (by omega)]; exact q4)]
        exact ⟨fun z => absurd (cm.mp z).2 q4, fun _ => rfl⟩
    · rw [if_neg (by rw [iz_eq (by omega) (by omega) (by omega) (by omega)]; exact q2)]
      exact ⟨fun z => absurd (cm.mp z).1 q2, fun _ => rfl⟩
/-- the advice: the first way that comes so -/
def Av (P : Nat → Prop) (a : Int) : Prop := (a = -9 ∧ ∀ w, w < 4 → ¬ P w) ∨ ∃ w : Nat, w < 4 ∧ a = w ∧ P w ∧ ∀ u, u < w → ¬ P u
theorem Av.uniq {P P' : Nat → Prop} (e : ∀ w, P w ↔ P' w) {a b : Int} (h : Av P a) (k : Av P' b) : a = b := by
  rcases h with ⟨h1, h2⟩ | ⟨w, h1, h2, h3, h4⟩
  · rcases k with ⟨k1, k2⟩ | ⟨u, k1, k2, k3, k4⟩
    · rw [h1, k1]
    · exact absurd ((e u).mpr k3) (h2 u k1)
  · rcases k with ⟨k1, k2⟩ | ⟨u, k1, k2, k3, k4⟩
    · exact absurd ((e w).mp h3) (k2 w h1)
    · by_cases z1 : w < u
      · exact absurd ((e w).mp h3) (k4 w z1)
      by_cases z2 : u < w
      · exact absurd ((e u).mpr k3) (h4 u z2)
      omega
theorem t_advice {σ : Mm} {W L : Nat → Int} {g : Nat → Bool} {lim lea : Int} {tl : Nat → Int} (G : YG σ 11 g lim lea tl) (hT : TlOk g tl) (hg : ∀ c, g c = true → c < 20) (hl1 : 2 ≤ lim) (hl2 : lim ≤ 9) (he : -2 ≤ lea ∧ lea ≤ 2) (K : LkC (gA σ 22) (gA σ 23) W L) {c p : Nat} {l : Int} (e3 : gI σ 36 3 = iz c) (e4 : gI σ 36 4 = iz l) (e5 : gI σ 36 5 = iz p) (hv : Lv g lim c l p) :
    ∃ x, f_T_advice_23 σ (iz 0) = some x ∧ ∃ a, x = (iz a, σ) ∧ Av (Cm g lim lea tl W L c l p) a := by
  obtain ⟨b1, b2, b3, b4⟩ := hv.b hg hl2
  unfold f_T_advice_23
  refine lp_ind (fun s => 4 - s.2.toNatClampNeg) (fun s => ∃ w : Nat, s = (σ, iz w) ∧ w ≤ 4 ∧ ∀ u, u < w → ¬ Cm g lim lea tl W L c l p u) _ (fun s hs => ?_) _ ⟨0, rfl, by omega, fun u hu => absurd hu (Nat.not_lt_zero u)⟩ ?_
  · obtain ⟨w, rfl, hw, hn⟩ := hs
    dsimp only
    by_cases k : w < 4
    · have hB := t_beyond G b1 k
      rw [if_pos hv.1] at hB
      have kk : iz (w : Int) + 1 = iz ((w + 1 : Nat) : Int) := by rw [i1, iz_add]; rfl
      have k4 : iz (w : Int) < 4 := by rw [i4, iz_lt (by omega) (by omega) (by omega) (by omega)]; omega
      have mu : 4 - ((σ, iz ((w + 1 : Nat) : Int)) : Mm × Int32).2.toNatClampNeg < 4 - (iz (w : Int)).toNatClampNeg := by
        dsimp only
        rw [iz_nat (by omega) (by omega), iz_nat (by omega) (by omega)]
        omega
      have goes : ¬ Cm g lim lea tl W L c l p w → ∀ u, u < w + 1 → ¬ Cm g lim lea tl W L c l p u := fun z u hu => by
        by_cases q : u = w
        · rw [q]; exact z
        · exact hn u (by omega)
      rcases hx : nx g c w with _ | c'
      · rw [hx] at hB
        dsimp only at hB
        left
        refine ⟨_, ?_, ⟨w + 1, rfl, by omega, goes (fun ⟨x, y, z, _⟩ => ?_)⟩, mu⟩
        · unfold f_T_advice_23_b
          rw [if_pos k4, e3, hB, bd_eq, if_pos (by decide), nm_eq, kk]
        · unfold mv at z
          rw [hx] at z
          cases z
      · rw [hx] at hB
        dsimp only at hB
        have xc := hg c' (nx_ok hx).1
        obtain ⟨r1, r2⟩ := t_comesSo G hT hg hl1 hl2 he K e3 e4 e5 hv hx
        have kn : ¬ iz (c' : Int) < 0 := by rw [i0, iz_lt (by omega) (by omega) (by omega) (by omega)]; omega
        by_cases q : Cm g lim lea tl W L c l p w
        · right
          refine ⟨(iz w, σ), ?_, w, rfl, Or.inr ⟨w, k, rfl, q, hn⟩⟩
          unfold f_T_advice_23_b
          rw [if_pos k4, e3, hB, bd_eq, if_neg kn, r1 q, bd_eq, if_neg (by decide)]
          rfl
        · left
          refine ⟨_, ?_, ⟨w + 1, rfl, by omega, goes q⟩, mu⟩
          unfold f_T_advice_23_b
          rw [if_pos k4, e3, hB, bd_eq, if_neg kn, r2 q, bd_eq, if_pos rfl, nm_eq, kk]
    · right
      have : w = 4 := by omega
      subst this
      refine ⟨(iz (-9), σ), ?_, -9, rfl, Or.inl ⟨rfl, hn⟩⟩
      unfold f_T_advice_23_b
      rw [if_neg (by decide)]
      rfl
  · dsimp only
    omega
