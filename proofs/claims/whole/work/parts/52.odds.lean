-- odds, the reference's loops
theorem m_odds193 {τ : Mm} {A B : Nat → Int} {k : Nat} {v4 v5 : Int32} (h : OM τ A B) : ∃ z, f_M_odds_193 τ v4 v5 (iz k) 0 = some z ∧ ∃ τ', z = Sum.inl (τ', v4, v5, iz ((k + 1 : Nat) : Int)) ∧ eqM τ τ' ∧ OM τ' B B := by
  unfold f_M_odds_193
  refine lp_ind (fun s => 340 - s.2.toNatClampNeg) (fun z => ∃ (τ' : Mm) (i : Nat), z = (τ', iz i) ∧ i ≤ 340 ∧ eqM τ τ' ∧ (∀ j, j < 340 → gA τ' 13 j = iz (B j)) ∧ ∀ j, j < i → gA τ' 12 j = iz (B j)) _ (fun z hz => ?_) _ ⟨τ, 0, rfl, by omega, eqM.rfl, h.2, fun j hj => absurd hj (Nat.not_lt_zero j)⟩ ?_
  · obtain ⟨τ', i, rfl, hi, e, h1, h2⟩ := hz
    dsimp only
    by_cases k3 : i < 340
    · left
      have k4 : iz (i : Int) < 340 := by rw [i340, iz_lt (by omega) (by omega) (by omega) (by omega)]; omega
      have kk : iz (i : Int) + 1 = iz ((i + 1 : Nat) : Int) := by rw [i1, iz_add]; rfl
      refine ⟨(sA τ' 12 i (gA τ' 13 i), iz ((i + 1 : Nat) : Int)), ?_, ⟨_, i + 1, rfl, by omega, e.trans (eqM_13 (by simp)), fun j hj => ?_, fun j hj => ?_⟩, ?_⟩
      · unfold f_M_odds_193_b
        rw [if_pos k4, ix_n k3 (by decide), ix_n k3 (by decide), nm_eq, nm_eq, kk]
      · rw [gA_sA, if_neg (by decide)]; exact h1 j hj
      · rw [gA_sA, if_pos rfl]
        by_cases q : j = i
        · rw [q, pk_us, h1 i k3]
        · rw [pk_un q]; exact h2 j (by omega)
      · dsimp only
        rw [iz_nat (by omega) (by omega), iz_nat (by omega) (by omega)]
        omega
    · right
      have : i = 340 := by omega
      subst this
      refine ⟨Sum.inl (τ', v4, v5, iz ((k + 1 : Nat) : Int)), ?_, τ', rfl, e, h2, h1⟩
      unfold f_M_odds_193_b
      rw [if_neg (by decide), nm_eq, i1, iz_add]
      rfl
  · dsimp only
    omega
theorem m_odds150 {τ : Mm} {W R : Nat} {g : Nat → Bool} {lim lea st : Int} {tl : Nat → Int} {A : Nat → Int} {x : (Nat → Int) × Int} {sd : Int} {n : Nat} {v5 : Int32} (Y : Yok W R g lim lea st) (M : YM τ W R g lim lea st) (T : TlM τ g tl) (hT : TlOk g tl) (h : OM τ A x.1) (hsd : sd = 1 ∨ sd = 2) (hA : ∀ j, j < 340 → 0 ≤ A j ∧ A j ≤ 100000) (hA2 : ∀ j, j < 340 → A j ≠ 0 → g (j / 17) = true) :
    ∃ z, f_M_odds_150 τ (iz sd) v5 (iz n) (iz x.2) 0 = some z ∧ ∃ τ', z = Sum.inl (τ', iz (sN g lim lea tl sd A 340 x).2, v5, iz ((n + 1 : Nat) : Int)) ∧ eqM τ τ' ∧ OM τ' (sN g lim lea tl sd A 340 x).1 (sN g lim lea tl sd A 340 x).1 := by
  unfold f_M_odds_150
  refine lp_ind (fun s => 340 - s.2.2.toNatClampNeg) (fun z => ∃ (τ' : Mm) (k : Nat), z = (τ', iz (sN g lim lea tl sd A k x).2, iz k) ∧ k ≤ 340 ∧ eqM τ τ' ∧ OM τ' A (sN g lim lea tl sd A k x).1) _ (fun z hz => ?_) _ ⟨τ, 0, rfl, by omega, eqM.rfl, h⟩ ?_
  · obtain ⟨τ', k, rfl, hk, e, h'⟩ := hz
    dsimp only
    by_cases k3 : k < 340
    · left
      have k4 : iz (k : Int) < 340 := by rw [i340, iz_lt (by omega) (by omega) (by omega) (by omega)]; omega
      have kk : iz (k : Int) + 1 = iz ((k + 1 : Nat) : Int) := by rw [i1, iz_add]; rfl
      have mu : ∀ (τ2 : Mm) (v : Int32), 340 - ((τ2, v, iz ((k + 1 : Nat) : Int)) : Mm × Int32 × Int32).2.2.toNatClampNeg < 340 - (iz (k : Int)).toNatClampNeg := fun τ2 v => by
        dsimp only
        rw [iz_nat (by omega) (by omega), iz_nat (by omega) (by omega)]
        omega
      obtain ⟨a1, a2⟩ := hA k k3
      have eA := h'.1 k k3
      have es : sN g lim lea tl sd A (k + 1) x = if A k ≤ 0 then sN g lim lea tl sd A k x else sA1 g lim lea tl sd A k (sN g lim lea tl sd A k x) := rfl
      by_cases q : A k ≤ 0
      · rw [if_pos q] at es
        refine ⟨(τ', iz (sN g lim lea tl sd A (k + 1) x).2, iz ((k + 1 : Nat) : Int)), ?_, ⟨τ', k + 1, rfl, by omega, e, by rw [es]; exact h'⟩, mu ..⟩
        unfold f_M_odds_150_b f_M_odds_181
        rw [if_pos k4, ix_n k3 (by decide), eA, if_pos (by rw [i0, iz_le (by omega) (by omega) (by omega) (by omega)]; exact q), Int32.add_zero, nm_eq, kk, nm_eq, es]
      · rw [if_neg q] at es
        obtain ⟨_, b1, τ2, acc, rfl, b2, b3, b4⟩ := m_spreads Y (M.ext e) (T.eqM e) hT h' hsd k3 (hA2 k k3 (by omega))
        refine ⟨(τ2, iz (sN g lim lea tl sd A (k + 1) x).2, iz ((k + 1 : Nat) : Int)), ?_, ⟨τ2, k + 1, rfl, by omega, e.trans b2, by rw [es]; exact b3⟩, mu ..⟩
        unfold f_M_odds_150_b f_M_odds_181
        rw [if_pos k4, ix_n k3 (by decide), eA, if_neg (by rw [i0, iz_le (by omega) (by omega) (by omega) (by omega)]; exact q), b1, bd_eq, iz_add, nm_eq, kk, nm_eq, es, b4]
    · right
      have : k = 340 := by omega
      subst this
      obtain ⟨_, c1, τ2, rfl, c2, c3⟩ := m_odds193 (k := n) (v4 := iz (sN g lim lea tl sd A 340 x).2) (v5 := v5) h'
      refine ⟨Sum.inl (τ2, iz (sN g lim lea tl sd A 340 x).2, v5, iz ((n + 1 : Nat) : Int)), ?_, τ2, rfl, e.trans c2, c3⟩
      unfold f_M_odds_150_b f_M_odds_190
      rw [if_neg (by decide), c1]
      rfl
  · dsimp only
    omega
theorem m_odds125 {τ : Mm} {W R : Nat} {g : Nat → Bool} {lim lea st : Int} {tl : Nat → Int} {A B : Nat → Int} {u sd : Int} {n : Nat} {v5 : Int32} (Y : Yok W R g lim lea st) (M : YM τ W R g lim lea st) (T : TlM τ g tl) (hT : TlOk g tl) (h : OM τ A B) (hsd : sd = 1 ∨ sd = 2) (hA : ∀ j, j < 340 → 0 ≤ A j ∧ A j ≤ 100000) (hA2 : ∀ j, j < 340 → A j ≠ 0 → g (j / 17) = true) :
    ∃ z, f_M_odds_125 τ (iz sd) (iz u) v5 (iz n) 0 = some z ∧ ∃ τ', z = Sum.inl (τ', iz (sN g lim lea tl sd A 340 (fun _ => 0, u)).2, v5, iz ((n + 1 : Nat) : Int)) ∧ eqM τ τ' ∧ OM τ' (sN g lim lea tl sd A 340 (fun _ => 0, u)).1 (sN g lim lea tl sd A 340 (fun _ => 0, u)).1 := by
  unfold f_M_odds_125
  refine lp_ind (fun s => 340 - s.2.toNatClampNeg) (fun z => ∃ (τ' : Mm) (i : Nat), z = (τ', iz i) ∧ i ≤ 340 ∧ eqM τ τ' ∧ (∀ j, j < 340 → gA τ' 12 j = iz (A j)) ∧ ∀ j, j < i → gA τ' 13 j = iz 0) _ (fun z hz => ?_) _ ⟨τ, 0, rfl, by omega, eqM.rfl, h.1, fun j hj => absurd hj (Nat.not_lt_zero j)⟩ ?_
  · obtain ⟨τ', i, rfl, hi, e, h1, h2⟩ := hz
    dsimp only
    by_cases k3 : i < 340
    · left
      have k4 : iz (i : Int) < 340 := by rw [i340, iz_lt (by omega) (by omega) (by omega) (by omega)]; omega
      have kk : iz (i : Int) + 1 = iz ((i + 1 : Nat) : Int) := by rw [i1, iz_add]; rfl
      refine ⟨(sA τ' 13 i 0, iz ((i + 1 : Nat) : Int)), ?_, ⟨_, i + 1, rfl, by omega, e.trans (eqM_13 (by simp)), fun j hj => ?_, fun j hj => ?_⟩, ?_⟩
      · unfold f_M_odds_125_b
        rw [if_pos k4, ix_n k3 (by decide), nm_eq, nm_eq, kk]
      · rw [gA_sA, if_neg (by decide)]; exact h1 j hj
      · rw [gA_sA, if_pos rfl]
        by_cases q : j = i
        · rw [q, pk_us, i0]
        · rw [pk_un q]; exact h2 j (by omega)
      · dsimp only
        rw [iz_nat (by omega) (by omega), iz_nat (by omega) (by omega)]
        omega
    · right
      have : i = 340 := by omega
      subst this
      obtain ⟨_, c1, τ2, rfl, c2, c3⟩ := m_odds150 (x := (fun _ => 0, u)) (n := n) (v5 := v5) Y (M.ext e) (T.eqM e) hT ⟨h1, h2⟩ hsd hA hA2
      refine ⟨_, ?_, τ2, rfl, e.trans c2, c3⟩
      unfold f_M_odds_125_b f_M_odds_147
      rw [if_neg (by decide)]
      dsimp only at c1
      rw [c1]
      rfl
  · dsimp only
    omega
theorem m_odds102 {τ : Mm} {W R : Nat} {g : Nat → Bool} {lim lea st : Int} {tl : Nat → Int} {B : Nat → Int} {sd : Int} {s0 n : Nat} {v : Int} (hv : v = 0 ∨ v = 1) (Y : Yok W R g lim lea st) (M : YM τ W R g lim lea st) (T : TlM τ g tl) (hT : TlOk g tl) (hs : s0 < 340) (hgs : g (s0 / 17) = true) (hn : n ≤ 4) (h : OM τ (rN g lim lea tl sd s0 0).1 B) (hsd : sd = 1 ∨ sd = 2) {N : Nat} (hN : N ≤ 60) (e1 : (est N (rN g lim lea tl sd s0 n).2 (p12 n)).2 = 0) (e2 : ∀ j, j < N → (est j (rN g lim lea tl sd s0 n).2 (p12 n)).2 ≠ 0) :
    ∃ z, f_M_odds_102 τ (iz sd) (iz n) (iz v) 0 1 0 = some z ∧ ∃ τ', z = (if v = 0 then iz ((rN g lim lea tl sd s0 n).2 / (est N (rN g lim lea tl sd s0 n).2 (p12 n)).1) else iz (p12 n / (est N (rN g lim lea tl sd s0 n).2 (p12 n)).1), τ') ∧ eqM τ τ' := by
  have hl2 := Y.2.2.2.1
  unfold f_M_odds_102
  refine lp_ind (fun s => n - s.2.2.2.toNatClampNeg) (fun z => ∃ (τ' : Mm) (k : Nat) (B : Nat → Int), z = (τ', iz (rN g lim lea tl sd s0 k).2, iz (p12 k), iz k) ∧ k ≤ n ∧ eqM τ τ' ∧ OM τ' (rN g lim lea tl sd s0 k).1 B) _ (fun z hz => ?_) _ ⟨τ, 0, B, rfl, by omega, eqM.rfl, h⟩ ?_
  · obtain ⟨τ', k, B, rfl, hk, e, h'⟩ := hz
    dsimp only
    by_cases k3 : k < n
    · left
      have k4 : iz (k : Int) < iz (n : Int) := by rw [iz_lt (by omega) (by omega) (by omega) (by omega)]; omega
      obtain ⟨r1, r2, r3, r4⟩ := rN_in (lea := lea) (tl := tl) (sd := sd) hl2 hs hgs (show k ≤ 4 by omega)
      obtain ⟨_, b1, τ2, rfl, b2, b3⟩ := m_odds125 (u := 12 * (rN g lim lea tl sd s0 k).2) (n := k) (v5 := iz (p12 k * 12)) Y (M.ext e) (T.eqM e) hT h' hsd r1 r2
      refine ⟨(τ2, iz (rN g lim lea tl sd s0 (k + 1)).2, iz (p12 (k + 1)), iz ((k + 1 : Nat) : Int)), ?_, ⟨τ2, k + 1, _, rfl, by omega, e.trans b2, b3⟩, ?_⟩
      · unfold f_M_odds_102_b
        rw [if_pos k4, i12, iz_mul, iz_mul, nm_eq, nm_eq, Int.mul_comm _ 12, b1]
        rfl
      · dsimp only
        rw [iz_nat (by omega) (by omega), iz_nat (by omega) (by omega)]
        omega
    · right
      have : k = n := by omega
      subst this
      obtain ⟨r1, r2, r3, r4⟩ := rN_in (lea := lea) (tl := tl) (sd := sd) hl2 hs hgs hn
      obtain ⟨p1, p2⟩ := p12_in hn
      have hgcd := m_gcd τ' (M := 20736) ⟨r3, by omega⟩ ⟨by omega, p2⟩ (by decide) hN e1 e2
      have hpos := est_pos r3 (show 0 < p12 k by omega) e1 e2
      have hin := (est_in (M := 20736) N (rN g lim lea tl sd s0 k).2 (p12 k) r3 (by omega) (by omega) p2).1
      have hb : f_M_odds_102_b (iz sd) (iz (k : Int)) (iz v) τ' (iz (rN g lim lea tl sd s0 k).2) (iz (p12 k)) (iz (k : Int)) = (f_M_odds_227 τ' (iz v) (iz (rN g lim lea tl sd s0 k).2) (iz (p12 k)) : Option (Int32 × Mm)).map Sum.inr := by
        unfold f_M_odds_102_b
        rw [if_neg (by rw [iz_lt (by omega) (by omega) (by omega) (by omega)]; omega)]
      rw [hb]
      generalize (rN g lim lea tl sd s0 k).2 = u at *
      generalize p12 k = lo at *
      generalize (est N u lo).1 = d at *
      have hd : ¬ iz d = 0 := by rw [i0, iz_eq (by omega) (by omega) (by omega) (by omega)]; omega
      unfold f_M_odds_227
      rw [hgcd, bd_eq, if_neg hd, if_neg hd, iz_div (by omega) (by omega) (by omega) (by omega), iz_div (by omega) (by omega) (by omega) (by omega)]
      rcases hv with rfl | rfl
      · rw [if_pos (by rw [i0]), if_pos rfl]
        exact ⟨_, rfl, τ', rfl, e⟩
      · rw [if_neg (by decide), if_neg (by decide)]
        exact ⟨_, rfl, τ', rfl, e⟩
  · dsimp only
    omega
theorem m_odds53 {τ : Mm} {W R : Nat} {g : Nat → Bool} {lim lea st : Int} {tl : Nat → Int} {sd l : Int} {c n : Nat} {v : Int} (hv : v = 0 ∨ v = 1) (Y : Yok W R g lim lea st) (M : YM τ W R g lim lea st) (T : TlM τ g tl) (hT : TlOk g tl) (f0 : gA τ 4 0 = iz c) (f1 : gA τ 4 1 = iz l) (hc : g c = true) (l1 : -9 < l) (l2 : l < 9) (hn : n ≤ 4) (hsd : sd = 1 ∨ sd = 2) {N : Nat} (hN : N ≤ 60) (e1 : (est N (rN g lim lea tl sd (17 * (c : Int) + l + 8).toNat n).2 (p12 n)).2 = 0) (e2 : ∀ j, j < N → (est j (rN g lim lea tl sd (17 * (c : Int) + l + 8).toNat n).2 (p12 n)).2 ≠ 0) :
    ∃ z, f_M_odds_53 τ (iz sd) (iz n) (iz v) 0 1 0 = some z ∧ ∃ τ', z = (if v = 0 then iz ((rN g lim lea tl sd (17 * (c : Int) + l + 8).toNat n).2 / (est N (rN g lim lea tl sd (17 * (c : Int) + l + 8).toNat n).2 (p12 n)).1) else iz (p12 n / (est N (rN g lim lea tl sd (17 * (c : Int) + l + 8).toNat n).2 (p12 n)).1), τ') ∧ eqM τ τ' := by
  have hc20 := Y.g20 c hc
  obtain ⟨s0, hs0⟩ : ∃ s0 : Nat, s0 = (17 * (c : Int) + l + 8).toNat := ⟨_, rfl⟩
  have es : (17 * (c : Int) + l + 8) = (s0 : Int) := by omega
  have hs : s0 < 340 := by omega
  have hgs : g (s0 / 17) = true := by rw [show s0 / 17 = c by omega]; exact hc
  rw [← hs0] at e1 e2 ⊢
  unfold f_M_odds_53
  refine lp_ind (fun s => 340 - s.2.toNatClampNeg) (fun z => ∃ (τ' : Mm) (i : Nat), z = (τ', iz i) ∧ i ≤ 340 ∧ eqM τ τ' ∧ ∀ j, j < i → gA τ' 12 j = iz (bump (fun _ => 0) s0 1 j)) _ (fun z hz => ?_) _ ⟨τ, 0, rfl, by omega, eqM.rfl, fun j hj => absurd hj (Nat.not_lt_zero j)⟩ ?_
  · obtain ⟨τ', i, rfl, hi, e, h2⟩ := hz
    dsimp only
    by_cases k3 : i < 340
    · left
      have k4 : iz (i : Int) < 340 := by rw [i340, iz_lt (by omega) (by omega) (by omega) (by omega)]; omega
      have kk : iz (i : Int) + 1 = iz ((i + 1 : Nat) : Int) := by rw [i1, iz_add]; rfl
      have g0 : gA τ' 4 0 = iz c := by rw [e.2.1 4 (by decide)]; exact f0
      have g1 : gA τ' 4 1 = iz l := by rw [e.2.1 4 (by decide)]; exact f1
      refine ⟨(sA τ' 12 i (iz (bump (fun _ => 0) s0 1 i)), iz ((i + 1 : Nat) : Int)), ?_, ⟨_, i + 1, rfl, by omega, e.trans (eqM_13 (by simp)), fun j hj => ?_⟩, ?_⟩
      · unfold f_M_odds_53_b f_M_odds_92
        rw [if_pos k4, i0, ix_iz (by decide) (by decide) (by decide), tn0, g0, i1, ix_iz (by decide) (by decide) (by decide), tn1, g1, m_spot, bd_eq, es]
        by_cases q : i = s0
        · rw [if_pos (by rw [q]), ix_n k3 (by decide), nm_eq, nm_eq, ← i1, kk]
          have : bump (fun _ => 0) s0 1 i = 1 := if_pos q
          rw [this, i1]
        · rw [if_neg (by rw [iz_eq (by omega) (by omega) (by omega) (by omega)]; omega), ix_n k3 (by decide), nm_eq, nm_eq, ← i1, kk]
          have : bump (fun _ => 0) s0 1 i = 0 := if_neg q
          rw [this]
      · rw [gA_sA, if_pos rfl]
        by_cases q : j = i
        · rw [q, pk_us]
        · rw [pk_un q]; exact h2 j (by omega)
      · dsimp only
        rw [iz_nat (by omega) (by omega), iz_nat (by omega) (by omega)]
        omega
    · right
      have : i = 340 := by omega
      subst this
      have O : OM τ' (rN g lim lea tl sd s0 0).1 (fun j => (gA τ' 13 j).toInt) := ⟨h2, fun j _ => (Int32.ofInt_toInt _).symm⟩
      obtain ⟨_, c1, τ2, rfl, c2⟩ := m_odds102 hv Y (M.ext e) (T.eqM e) hT hs hgs hn O hsd hN e1 e2
      refine ⟨_, ?_, τ2, rfl, e.trans c2⟩
      unfold f_M_odds_53_b f_M_odds_99
      rw [if_neg (by decide), c1]
      rfl
  · dsimp only
    omega
