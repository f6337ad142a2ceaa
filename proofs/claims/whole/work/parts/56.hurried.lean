-- soonest, the reference's rounds
theorem Vw_lt {g : Nat → Bool} : ∀ s, Vw g s → s < 340 := fun _ h => h.1
theorem m_hround {τ : Mm} {W R : Nat} {g : Nat → Bool} {lim lea st : Int} {tl : Nat → Int} {D : Nat → Int} {sd k : Int} (Y : Yok W R g lim lea st) (M : YM τ W R g lim lea st) (T : TlM τ g tl) (hT : TlOk g tl) (h : OD τ D) (hsd : sd = 1 ∨ sd = 2) (hk : 1 ≤ k ∧ k ≤ 390) (I : HI (Tw g lim lea tl) (Ew g lim lea tl sd) (Vw g) k 0 D) (hf : ∀ s, Vw g s → D s ≠ k) :
    ∃ z, f_M_hurries_36 τ (iz sd) (iz k) 0 0 = some z ∧ ∃ τ' v' D', z = Sum.inl (τ', iz v', iz (k + 1)) ∧ eqM τ τ' ∧ OD τ' D' ∧ HI (Tw g lim lea tl) (Ew g lim lea tl sd) (Vw g) k 340 D' ∧ (v' = 0 ∨ v' = 1) ∧ (k = 1 → v' = 1) ∧ (v' = 0 → ∀ s, Vw g s → D' s ≠ k) ∧ (k ≠ 1 → v' = 1 → cz (fun j => D' j + 9) 340 + 1 ≤ cz (fun j => D j + 9) 340) := by
  unfold f_M_hurries_36
  refine lp_ind (fun s => 340 - s.2.2.toNatClampNeg) (fun z => ∃ (τ' : Mm) (i : Nat) (v' : Int) (D' : Nat → Int), z = (τ', iz v', iz i) ∧ i ≤ 340 ∧ eqM τ τ' ∧ OD τ' D' ∧ HI (Tw g lim lea tl) (Ew g lim lea tl sd) (Vw g) k i D' ∧ (v' = 0 ∨ v' = 1) ∧ (v' = 0 → ∀ s, Vw g s → D' s ≠ k) ∧ cz (fun j => D' j + 9) 340 ≤ cz (fun j => D j + 9) 340 ∧ (v' = 1 → cz (fun j => D' j + 9) 340 + 1 ≤ cz (fun j => D j + 9) 340)) _ (fun z hz => ?_) _ ⟨τ, 0, 0, D, rfl, by omega, eqM.rfl, h, I, Or.inl rfl, fun _ => hf, Nat.le_refl _, fun z => absurd z (by decide)⟩ ?_
  · obtain ⟨τ', i, v', D', rfl, hi, e, hD, I', hv, hz, hc1, hc2⟩ := hz
    dsimp only
    by_cases k3 : i < 340
    · left
      have k4 : iz (i : Int) < 340 := by rw [i340, iz_lt (by omega) (by omega) (by omega) (by omega)]; omega
      have d1 : iz (i : Int) / 17 = iz ((i / 17 : Nat) : Int) := by
        rw [i17, iz_div (by omega) (by omega) (by decide) (by decide)]; rfl
      have mu : ∀ (τ2 : Mm) (x : Int32), 340 - ((τ2, x, iz ((i + 1 : Nat) : Int)) : Mm × Int32 × Int32).2.2.toNatClampNeg < 340 - (iz (i : Int)).toNatClampNeg := fun τ2 x => by
        dsimp only
        rw [iz_nat (by omega) (by omega), iz_nat (by omega) (by omega)]
        omega
      obtain ⟨_, a1, τ2, v2, D2, rfl, a2, a3, a4⟩ := m_hspot Y (M.ext e) (T.eqM e) hT hD hsd hk hv k3
      have hst : f_M_hurries_36_b (iz sd) (iz k) τ' (iz v') (iz (i : Int)) = some (Sum.inl (τ2, iz v2, iz ((i + 1 : Nat) : Int))) := by
        unfold f_M_hurries_36_b
        rw [if_pos k4, d1, nm_eq, a1]
      refine ⟨_, hst, ?_, mu ..⟩
      rcases a4 with ⟨rfl, rfl, b3⟩ | ⟨rfl, b2, b3, b4, b5, w, b6, b7⟩
      · exact ⟨τ2, i + 1, v2, D2, rfl, by omega, e.trans a2, a3, I'.skip b3 hk.1, hv, hz, hc1, hc2⟩
      · have hcz : cz (fun j => D2 j + 9) 340 + 1 = cz (fun j => D' j + 9) 340 := by
          refine cz_put (W := fun j => D' j + 9) (L := fun _ => 0) (W' := fun j => D2 j + 9) (L' := fun _ => 0) (s := i) (x := k + 9) (n := 0) ⟨?_, rfl, fun j hj => ⟨?_, rfl⟩⟩ ?_ (by omega) 340 k3
          · dsimp only; rw [b4]
          · dsimp only; rw [b5 j hj]
          · rw [b3]; rfl
        exact ⟨τ2, i + 1, 1, D2, rfl, by omega, e.trans a2, a3, I'.set hk.1 b3 b4 b5 b6 b7, Or.inr rfl, fun z => absurd z (by decide), by omega, fun _ => by omega⟩
    · right
      have : i = 340 := by omega
      subst this
      have kk : iz k + 1 = iz (k + 1) := by rw [i1, iz_add]
      have hb : f_M_hurries_36_b (iz sd) (iz k) τ' (iz v') (iz ((340 : Nat) : Int)) = (f_M_hurries_213 τ' (iz v') (iz k) : Option ((Mm × Int32 × Int32) ⊕ (Int32 × Mm))).map Sum.inr := by
        unfold f_M_hurries_36_b
        rw [if_neg (by decide)]
      rw [hb]
      unfold f_M_hurries_213 f_M_hurries_222 f_M_hurries_227
      rcases hv with rfl | rfl
      · rw [if_pos (by rw [i0])]
        by_cases q : k = 1
        · rw [if_pos (by rw [q, i1]), nm_eq, kk]
          exact ⟨_, rfl, τ', 1, D', rfl, e, hD, I', Or.inr rfl, fun _ => rfl, fun z => absurd z (by decide), fun z => absurd q z⟩
        · rw [if_neg (by rw [i1, iz_eq (by omega) (by omega) (by omega) (by omega)]; exact q), nm_eq, kk]
          exact ⟨_, rfl, τ', 0, D', rfl, e, hD, I', Or.inl rfl, fun z => absurd z q, fun _ => hz rfl, fun _ z => absurd z (by decide)⟩
      · rw [if_neg (by decide), nm_eq, kk]
        exact ⟨_, rfl, τ', 1, D', rfl, e, hD, I', Or.inr rfl, fun _ => rfl, fun z => absurd z (by decide), fun _ _ => hc2 rfl⟩
  · dsimp only
    omega
theorem m_hrounds {τ : Mm} {W R : Nat} {g : Nat → Bool} {lim lea st : Int} {tl : Nat → Int} {D : Nat → Int} {sd : Int} (Y : Yok W R g lim lea st) (M : YM τ W R g lim lea st) (T : TlM τ g tl) (hT : TlOk g tl) (h : OD τ D) (hsd : sd = 1 ∨ sd = 2) (h9 : ∀ s, s < 340 → D s = -9) :
    ∃ z, f_M_hurries_27 τ (iz sd) 1 1 = some z ∧ ∃ τ' D', z = (0, τ') ∧ eqM τ τ' ∧ OD τ' D' ∧ DE (Tw g lim lea tl) (Ew g lim lea tl sd) (Vw g) D' := by
  unfold f_M_hurries_27
  refine lp_ind (fun s => 400 - s.2.2.toNatClampNeg) (fun z => ∃ (τ' : Mm) (k : Nat) (v' : Int) (D' : Nat → Int), z = (τ', iz v', iz k) ∧ (1 ≤ k ∧ k ≤ 345) ∧ eqM τ τ' ∧ OD τ' D' ∧ ((v' = 0 ∧ DE (Tw g lim lea tl) (Ew g lim lea tl sd) (Vw g) D') ∨ (v' = 1 ∧ HI (Tw g lim lea tl) (Ew g lim lea tl sd) (Vw g) k 0 D' ∧ (∀ s, Vw g s → D' s ≠ k) ∧ cz (fun j => D' j + 9) 340 + k ≤ 342))) _ (fun z hz => ?_) _ ⟨τ, 1, 1, D, rfl, by omega, eqM.rfl, h, Or.inr ⟨rfl, fun s hs => ?_, fun s hs => ?_, ?_⟩⟩ ?_
  · obtain ⟨τ', k, v', D', rfl, hk, e, hD, hc⟩ := hz
    dsimp only
    rcases hc with ⟨rfl, hDE⟩ | ⟨rfl, I', hf, hcz⟩
    · right
      refine ⟨(0, τ'), ?_, τ', D', rfl, e, hD, hDE⟩
      unfold f_M_hurries_27_b
      rw [if_pos (by rw [i0])]
      rfl
    · left
      obtain ⟨_, a1, τ2, v2, D2, rfl, a2, a3, a4, a5, a6, a7, a8⟩ := m_hround (k := (k : Int)) Y (M.ext e) (T.eqM e) hT hD hsd (by omega) I' hf
      have hst : f_M_hurries_27_b (iz sd) τ' (iz 1) (iz (k : Int)) = some (Sum.inl (τ2, iz v2, iz ((k + 1 : Nat) : Int))) := by
        unfold f_M_hurries_27_b
        rw [if_neg (by decide), a1]
        rfl
      refine ⟨_, hst, ⟨τ2, k + 1, v2, D2, rfl, by omega, e.trans a2, a3, ?_⟩, ?_⟩
      · rcases a5 with z | z
        · exact Or.inl ⟨z, a4.end Vw_lt (Tw_V Y.g20 Y.2.2.2.1) (a7 z)⟩
        · refine Or.inr ⟨z, a4.next Vw_lt, fun s hs q => ?_, ?_⟩
          · have := (a4 s hs).1
            omega
          · by_cases q : k = 1
            · have := cz_le (fun j => D2 j + 9) 340
              omega
            · have := a8 (by omega) z
              omega
      · dsimp only
        rw [iz_nat (by omega) (by omega), iz_nat (by omega) (by omega)]
        omega
  · have e9 := h9 s hs.1
    refine ⟨Or.inl e9, fun z => by omega, fun w _ _ z => by omega, fun w t hw ht z _ _ => ?_⟩
    have := h9 t (Tw_V Y.g20 Y.2.2.2.1 s w t hs hw ht).1
    omega
  · have := h9 s hs.1
    omega
  · have := cz_le (fun j => D j + 9) 340
    omega
  · dsimp only
    omega
theorem m_hurries {τ : Mm} {W R : Nat} {g : Nat → Bool} {lim lea st : Int} {tl : Nat → Int} {sd : Int} (Y : Yok W R g lim lea st) (M : YM τ W R g lim lea st) (T : TlM τ g tl) (hT : TlOk g tl) (hsd : sd = 1 ∨ sd = 2) :
    ∃ z, f_M_hurries τ (iz sd) = some z ∧ ∃ τ' D', z = (0, τ') ∧ eqM τ τ' ∧ OD τ' D' ∧ DE (Tw g lim lea tl) (Ew g lim lea tl sd) (Vw g) D' := by
  unfold f_M_hurries f_M_hurries_2
  refine lp_ind (fun s => 340 - s.2.toNatClampNeg) (fun z => ∃ (τ' : Mm) (i : Nat), z = (τ', iz i) ∧ i ≤ 340 ∧ eqM τ τ' ∧ ∀ j, j < i → gA τ' 11 j = iz (-9)) _ (fun z hz => ?_) _ ⟨τ, 0, rfl, by omega, eqM.rfl, fun j hj => absurd hj (Nat.not_lt_zero j)⟩ ?_
  · obtain ⟨τ', i, rfl, hi, e, h2⟩ := hz
    dsimp only
    by_cases k3 : i < 340
    · left
      have k4 : iz (i : Int) < 340 := by rw [i340, iz_lt (by omega) (by omega) (by omega) (by omega)]; omega
      have kk : iz (i : Int) + 1 = iz ((i + 1 : Nat) : Int) := by rw [i1, iz_add]; rfl
      refine ⟨(sA τ' 11 i (-9), iz ((i + 1 : Nat) : Int)), ?_, ⟨_, i + 1, rfl, by omega, e.trans (eqM_13 (by simp)), fun j hj => ?_⟩, ?_⟩
      · unfold f_M_hurries_2_b
        rw [if_pos k4, ix_n k3 (by decide), nm_eq, nm_eq, kk]
      · rw [gA_sA, if_pos rfl]
        by_cases q : j = i
        · rw [q, pk_us]; rfl
        · rw [pk_un q]; exact h2 j (by omega)
      · dsimp only
        rw [iz_nat (by omega) (by omega), iz_nat (by omega) (by omega)]
        omega
    · right
      have : i = 340 := by omega
      subst this
      have O : OD τ' (fun _ => -9) := ⟨h2, fun j _ => ⟨Int.le_refl (-9), (by decide : (-9 : Int) ≤ 400)⟩⟩
      obtain ⟨_, c1, τ2, D2, rfl, c2, c3, c4⟩ := m_hrounds Y (M.ext e) (T.eqM e) hT O hsd (fun _ _ => rfl)
      refine ⟨(0, τ2), ?_, τ2, D2, rfl, e.trans c2, c3, c4⟩
      unfold f_M_hurries_2_b f_M_hurries_23
      rw [if_neg (by decide), c1]
      rfl
  · dsimp only
    omega
