-- passing back from one state
theorem t_gain {σ : Mm} {r : Nat} {g : Nat → Bool} {lim lea : Int} {tl : Nat → Int} (G : YG σ r g lim lea tl) (hT : TlOk g tl) {c : Nat} (h : c < 20) (hg : g c = true) : f_Gr_gain σ r (iz c) = some (iz (tl c + lea), σ) := by
  unfold f_Gr_gain
  rw [t_isBrick G.2.2.1 hT h, bd_eq, if_pos hg, if_pos rfl, ix_n h (by decide), G.2.2.1 c h, if_pos hg, G.2.1, iz_add]
theorem t_passBack {σ : Mm} {r c p t : Nat} {g : Nat → Bool} {lim lea l : Int} {tl : Nat → Int} (hr : ∀ K : Nat → Option (Int32 × Mm), rk (gR σ 21 5) okGr K = K r) (G : YG σ r g lim lea tl) (hT : TlOk g tl) (hl1 : 2 ≤ lim) (hl2 : lim ≤ 9) (he : -2 ≤ lea ∧ lea ≤ 2) (hc : c < 20) (hg : g c = true) (h1 : -9 < l) (h2 : l < 9) (hp : p < 2) (ht : t = sx c l p) :
    f_Co_passBack σ (iz t) = if vd lim (l - (tl c + lea)) = 0 then f_Co_passBack_38 σ (iz t) (iz c) (iz (l - (tl c + lea))) (iz 0) else some (0, σ) := by
  obtain ⟨e1, e2⟩ := sx_eq hc h1 h2 hp
  rw [← ht] at e1 e2
  have d0 : iz (t : Int) / 2 = iz ((t / 2 : Nat) : Int) := by
    rw [i2, iz_div (by omega) (by omega) (by decide) (by decide)]; rfl
  have d1 : iz ((t / 2 : Nat) : Int) / 17 = iz (c : Int) := by
    rw [i17, iz_div (by omega) (by omega) (by decide) (by decide)]
    congr 1
    omega
  have d2 : rm32 (iz ((t / 2 : Nat) : Int)) 17 - 8 = iz l := by
    rw [i17, iz_rm (by omega) (by omega) (by decide) (by decide), i8, iz_sub]
    congr 1
    omega
  have xt := hT c hg
  have hV := t_verdict (l := l - (tl c + lea)) G hl1 hl2 (by omega) (by omega)
  have hv := vd_cases lim (l - (tl c + lea))
  unfold f_Co_passBack f_T_cellOf f_T_leanOf
  rw [d0, bd_eq, d1, bd_eq, d2, hr, t_gain G hT hc hg, bd_eq, iz_sub, nm_eq, hr, hV, bd_eq]
  by_cases q : vd lim (l - (tl c + lea)) = 0
  · rw [if_pos (by rw [q, i0]), if_pos q, i0]
  · rw [if_neg (by rw [i0, iz_eq (by omega) (by omega) (by omega) (by omega)]; exact q), if_neg q]
