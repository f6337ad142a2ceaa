-- numbered states and the yard's states
def dL (s : Nat) : Int := ((s / 2 % 17 : Nat) : Int) - 8
def TT (g : Nat → Bool) (lim lea : Int) (tl : Nat → Int) (s w : Nat) : Option Nat := tgt g lim lea tl (s / 34) (dL s) (s % 2) w
def RR (g : Nat → Bool) (lim lea : Int) (tl : Nat → Int) (s w : Nat) : Nat := pV g lim lea tl (s / 34) (dL s) w
def VV (g : Nat → Bool) (lim : Int) (s : Nat) : Prop := Lv g lim (s / 34) (dL s) (s % 2) ∧ s < 680
theorem sx_dec {c p : Nat} {l : Int} (h1 : c < 20) (h2 : -9 < l) (h3 : l < 9) (h4 : p < 2) : sx c l p / 34 = c ∧ dL (sx c l p) = l ∧ sx c l p % 2 = p := by
  have := (sx_eq h1 h2 h3 h4).1
  unfold dL
  omega
theorem sx_enc {s : Nat} (h : s < 680) : sx (s / 34) (dL s) (s % 2) = s := by
  have e : -9 < dL s ∧ dL s < 9 := by unfold dL; omega
  have := (sx_eq (c := s / 34) (l := dL s) (p := s % 2) (by omega) e.1 e.2 (by omega)).1
  unfold dL at *
  omega
theorem Lv.b {g : Nat → Bool} {lim : Int} (hg : ∀ c, g c = true → c < 20) (hl : lim ≤ 9) {c p : Nat} {l : Int} (h : Lv g lim c l p) : c < 20 ∧ -9 < l ∧ l < 9 ∧ p < 2 := by
  obtain ⟨h1, h2, h3, h4⟩ := h
  exact ⟨hg c h1, by omega, by omega, h4⟩
theorem VV.of {g : Nat → Bool} {lim : Int} (hg : ∀ c, g c = true → c < 20) (hl : lim ≤ 9) {c p : Nat} {l : Int} (h : Lv g lim c l p) : VV g lim (sx c l p) := by
  obtain ⟨b1, b2, b3, b4⟩ := h.b hg hl
  obtain ⟨d1, d2, d3⟩ := sx_dec b1 b2 b3 b4
  unfold VV
  rw [d1, d2, d3]
  exact ⟨h, (sx_eq b1 b2 b3 b4).2⟩
theorem VV.ex {g : Nat → Bool} {lim : Int} (hg : ∀ c, g c = true → c < 20) (hl : lim ≤ 9) {s : Nat} (h : VV g lim s) : ∃ c l p, Lv g lim c l p ∧ s = sx c l p ∧ c < 20 ∧ -9 < l ∧ l < 9 ∧ p < 2 := by
  obtain ⟨h1, h2⟩ := h
  obtain ⟨b1, b2, b3, b4⟩ := h1.b hg hl
  exact ⟨_, _, _, h1, (sx_enc h2).symm, b1, b2, b3, b4⟩
theorem TT_sx {g : Nat → Bool} {lim lea : Int} {tl : Nat → Int} {c p : Nat} {l : Int} (h1 : c < 20) (h2 : -9 < l) (h3 : l < 9) (h4 : p < 2) (w : Nat) : TT g lim lea tl (sx c l p) w = tgt g lim lea tl c l p w ∧ RR g lim lea tl (sx c l p) w = pV g lim lea tl c l w := by
  obtain ⟨d1, d2, d3⟩ := sx_dec h1 h2 h3 h4
  unfold TT RR
  rw [d1, d2, d3]
  exact ⟨rfl, rfl⟩
theorem mvA_mv {g : Nat → Bool} {lim lea : Int} {tl : Nat → Int} {c p : Nat} {l : Int} (h1 : c < 20) (h2 : -9 < l) (h3 : l < 9) (h4 : p < 2) (W L : Nat → Int) (w : Nat) : mvA (TT g lim lea tl) (RR g lim lea tl) W L (sx c l p) w = mv g lim lea tl W L c l p w := by
  obtain ⟨e1, e2⟩ := TT_sx (g := g) (lim := lim) (lea := lea) (tl := tl) h1 h2 h3 h4 w
  unfold mvA
  rw [e1, e2]
  rcases mv_cases g lim lea tl W L c l p w with ⟨k1, k2, k3, k4, k5, k6, k7⟩ | ⟨c', k1, k2, k3, k4, k5, k6, k7, k8⟩ | ⟨v, k1, k2, k3, k4, k5, k6, k7⟩
  · rw [k2, k3, k7]
    dsimp only
    rw [if_pos rfl]
  · rw [k3, k4]
  · rw [k2, k3, k7]
    dsimp only
    rw [if_neg (by omega)]
theorem tgt_some {g : Nat → Bool} {lim lea : Int} {tl : Nat → Int} {c p w t : Nat} {l : Int} (h : tgt g lim lea tl c l p w = some t) : ∃ c', nx g c w = some c' ∧ vd lim (l + tl c' + lea) = 0 ∧ t = sx c' (l + tl c' + lea) (1 - p) := by
  unfold tgt at h
  rcases hx : nx g c w with _ | c'
  · rw [hx] at h; cases h
  · rw [hx] at h
    dsimp only at h
    by_cases q : vd lim (l + tl c' + lea) = 0
    · rw [if_pos q] at h
      exact ⟨c', rfl, q, (Option.some.inj h).symm⟩
    · rw [if_neg q] at h; cases h
theorem tgt_of {g : Nat → Bool} {lim lea : Int} {tl : Nat → Int} {c c' p w : Nat} {l : Int} (h : nx g c w = some c') (q : vd lim (l + tl c' + lea) = 0) : tgt g lim lea tl c l p w = some (sx c' (l + tl c' + lea) (1 - p)) := by
  unfold tgt
  rw [h]
  dsimp only
  rw [if_pos q]
theorem TT_V {g : Nat → Bool} {lim lea : Int} {tl : Nat → Int} (hg : ∀ c, g c = true → c < 20) (hl : lim ≤ 9) : ∀ s w t, VV g lim s → w < 4 → TT g lim lea tl s w = some t → VV g lim t := by
  intro s w t hs hw h
  obtain ⟨c', h1, h2, rfl⟩ := tgt_some h
  exact VV.of hg hl (Lv.next h1 h2)
theorem TT_S {g : Nat → Bool} {lim lea : Int} {tl : Nat → Int} (hg : ∀ c, g c = true → c < 20) (hl : lim ≤ 9) : ∀ s w t, VV g lim s → w < 4 → TT g lim lea tl s w = some t → ∃ u, u < 4 ∧ ∀ W L, mvA (TT g lim lea tl) (RR g lim lea tl) W L t u ≠ none := by
  intro s w t hs hw h
  obtain ⟨c', h1, h2, rfl⟩ := tgt_some h
  have hn := Lv.next (p := s % 2) h1 h2
  obtain ⟨b1, b2, b3, b4⟩ := hn.b hg hl
  have hy := nx_sym (hg _ hs.1.1) hs.1.1 hw h1 b1
  refine ⟨(w + 2) % 4, by omega, fun W L hm => ?_⟩
  rw [mvA_mv b1 b2 b3 b4] at hm
  unfold mv at hm
  rw [hy] at hm
  dsimp only at hm
  by_cases q : vd lim (dL s + tl c' + lea + tl (s / 34) + lea) = 0
  · rw [if_pos q] at hm; cases hm
  · rw [if_neg q] at hm; cases hm
theorem TT_R {g : Nat → Bool} {lim lea : Int} {tl : Nat → Int} : ∀ s w, RR g lim lea tl s w < 3 := fun s w => pV_le ..
theorem TT_I {g : Nat → Bool} {lim lea : Int} {tl : Nat → Int} (hg : ∀ c, g c = true → c < 20) (hl : lim ≤ 9) {s : Nat} (hp : s % 2 < 2) : ∀ w u t, w < 4 → u < 4 → TT g lim lea tl s w = some t → TT g lim lea tl s u = some t → w = u := by
  intro w u t hw hu h1 h2
  obtain ⟨c1, a1, a2, rfl⟩ := tgt_some h1
  obtain ⟨c2, a3, a4, a5⟩ := tgt_some h2
  obtain ⟨b1, b2, b3, b4⟩ := (Lv.next (p := s % 2) a1 a2).b hg hl
  obtain ⟨d1, d2, d3, d4⟩ := (Lv.next (p := s % 2) a3 a4).b hg hl
  obtain ⟨e, -, -⟩ := sx_inj b1 b2 b3 b4 d1 d2 d3 d4 a5
  rw [← e] at a3
  exact nx_way hw hu a1 a3
/-- pushes into a state come from its neighbours -/
theorem pred_of {g : Nat → Bool} {lim lea : Int} {tl : Nat → Int} (hg : ∀ c, g c = true → c < 20) (hl : lim ≤ 9) {c p u c2 : Nat} {l : Int} (h : Lv g lim c l p) (hu : u < 4) (hx : nx g c u = some c2) (hq : vd lim (l - (tl c + lea)) = 0) : Lv g lim c2 (l - (tl c + lea)) (1 - p) ∧ TT g lim lea tl (sx c2 (l - (tl c + lea)) (1 - p)) ((u + 2) % 4) = some (sx c l p) := by
  obtain ⟨b1, b2, b3, b4⟩ := h.b hg hl
  have g2 := (nx_ok hx).1
  have hv : Lv g lim c2 (l - (tl c + lea)) (1 - p) := ⟨g2, (vd_0.mp hq).1, (vd_0.mp hq).2, by omega⟩
  obtain ⟨d1, d2, d3, d4⟩ := hv.b hg hl
  refine ⟨hv, ?_⟩
  have e : l - (tl c + lea) + tl c + lea = l := by omega
  rw [(TT_sx d1 d2 d3 d4 _).1, tgt_of (nx_sym b1 h.1 hu hx d1) (by rw [e]; exact vd_0.mpr ⟨h.2.1, h.2.2.1⟩), e, show 1 - (1 - p) = p by omega]
theorem pred_is {g : Nat → Bool} {lim lea : Int} {tl : Nat → Int} (hg : ∀ c, g c = true → c < 20) (hl : lim ≤ 9) {c p s w : Nat} {l : Int} (h : Lv g lim c l p) (hs : VV g lim s) (hw : w < 4) (ht : TT g lim lea tl s w = some (sx c l p)) : vd lim (l - (tl c + lea)) = 0 ∧ ∃ u c2, u < 4 ∧ nx g c u = some c2 ∧ s = sx c2 (l - (tl c + lea)) (1 - p) := by
  obtain ⟨c1, a1, a2, a3⟩ := tgt_some ht
  obtain ⟨b1, b2, b3, b4⟩ := h.b hg hl
  obtain ⟨d1, d2, d3, d4⟩ := (Lv.next (p := s % 2) a1 a2).b hg hl
  obtain ⟨rfl, e2, e3⟩ := sx_inj b1 b2 b3 b4 d1 d2 d3 d4 a3
  have e4 : l - (tl c + lea) = dL s := by omega
  have e5 : 1 - p = s % 2 := by omega
  rw [e4, e5]
  refine ⟨vd_0.mpr ⟨hs.1.2.1, hs.1.2.2.1⟩, (w + 2) % 4, s / 34, by omega, nx_sym (hg _ hs.1.1) hs.1.1 hw a1 b1, (sx_enc hs.2).symm⟩
/-- solved -/
theorem LC.of {g : Nat → Bool} {lim lea : Int} {tl : Nat → Int} (hg : ∀ c, g c = true → c < 20) (hl : lim ≤ 9) {q : Nat} {D : Int} {W L : Nat → Int} {Q : Nat → Nat} {Ct : Nat → Nat → Bool} (J : QI (VV g lim) (TT g lim lea tl) q q D W L Q Ct) (I : ∀ u, VV g lim u → LI (TT g lim lea tl) (RR g lim lea tl) 680 W L Ct u) : LC g lim lea tl W L := by
  intro c l p hv
  obtain ⟨b1, b2, b3, b4⟩ := hv.b hg hl
  have hV := VV.of hg hl hv
  obtain ⟨i1, i2, i3, i4, i5, i6⟩ := I _ hV
  have e := fun W L w => mvA_mv (g := g) (lim := lim) (lea := lea) (tl := tl) b1 b2 b3 b4 W L w
  have hE := fun z => end_0 (TT_V hg hl) J I hV hV.2 z
  unfold B1 at i4
  unfold B2 at i5
  rw [(sx_dec b1 b2 b3 b4).2.2] at i1 i4 i5 hE
  refine ⟨i1, i3, fun q => ?_, fun q => ?_, fun q => ?_⟩
  · obtain ⟨⟨w, w1, w2⟩, w3⟩ := i4 q
    exact ⟨⟨w, w1, by rw [← e]; exact w2⟩, fun u x u1 u2 => w3 u x u1 (by rw [e]; exact u2)⟩
  · obtain ⟨w1, w2⟩ := i5 q
    refine ⟨fun w x y u1 u2 => w1 w x y u1 (by rw [e]; exact u2), ?_⟩
    rcases w2 with ⟨w3, w4⟩ | ⟨w, w3, w4⟩
    · exact Or.inl ⟨w3, fun w hw => by rw [← e]; exact w4 w hw⟩
    · exact Or.inr ⟨w, w3, by rw [← e]; exact w4⟩
  · obtain ⟨w1, w, x, y, w2, w3, w4⟩ := hE q
    exact ⟨fun w x u1 u2 => w1 w x u1 (by rw [e]; exact u2), w, x, y, w2, by rw [← e]; exact w3, w4⟩
