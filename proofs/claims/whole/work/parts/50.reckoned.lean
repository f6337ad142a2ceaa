-- odds: pushing once, and reckoning
theorem OC.setU {σ : Mm} {tA tB : Nat} {A B : Nat → Int} {u lo sd : Int} (h : OC σ tA tB A B u lo sd) (u' : Int) : OC (sI σ 33 2 (iz u')) tA tB A B u' lo sd := by
  obtain ⟨h1, h2, h3, h4, h5, h6, h7, h8, h9⟩ := h
  refine ⟨h1, h2, h3, h4, ?_, ?_, ?_, h8, h9⟩
  · rw [gI_sI, if_neg (by decide)]; exact h5
  · rw [gI_sI, if_pos ⟨rfl, rfl⟩]
  · rw [gI_sI, if_neg (by decide)]; exact h7
theorem OC.setL {σ : Mm} {tA tB : Nat} {A B : Nat → Int} {u lo sd : Int} (h : OC σ tA tB A B u lo sd) (lo' : Int) : OC (sI σ 33 3 (iz lo')) tA tB A B u lo' sd := by
  obtain ⟨h1, h2, h3, h4, h5, h6, h7, h8, h9⟩ := h
  refine ⟨h1, h2, h3, h4, ?_, ?_, ?_, h8, h9⟩
  · rw [gI_sI, if_neg (by decide)]; exact h5
  · rw [gI_sI, if_neg (by decide)]; exact h6
  · rw [gI_sI, if_pos ⟨rfl, rfl⟩]
theorem OC.fillB {σ : Mm} {tA tB : Nat} {A B : Nat → Int} {u lo sd : Int} (h : OC σ tA tB A B u lo sd) : OC (sAs σ tB (fun j => if j < 340 then 0 else gA σ tB j)) tA tB A (fun _ => 0) u lo sd := by
  obtain ⟨h1, h2, h3, h4, h5, h6, h7, h8, h9⟩ := h
  refine ⟨h1, h2, h3, h4, h5, h6, h7, fun i hi => ?_, fun i hi => ?_⟩
  · rw [gA_sAs, if_neg (by omega)]; exact h8 i hi
  · rw [gA_sAs, if_pos rfl, if_pos hi, i0]
theorem OC.swap {σ : Mm} {tA tB : Nat} {A B : Nat → Int} {u lo sd : Int} (h : OC σ tA tB A B u lo sd) : OC (sR (sR σ 33 0 (some tB)) 33 1 (some tA)) tB tA B A u lo sd ∧ eqT σ (sR (sR σ 33 0 (some tB)) 33 1 (some tA)) := by
  obtain ⟨h1, h2, h3, h4, h5, h6, h7, h8, h9⟩ := h
  have e0 : gR (sR (sR σ 33 0 (some tB)) 33 1 (some tA)) 33 0 = some tB := by
    rw [gR_sR, if_neg (by decide), gR_sR, if_pos ⟨rfl, rfl⟩]
  have e1 : gR (sR (sR σ 33 0 (some tB)) 33 1 (some tA)) 33 1 = some tA := by
    rw [gR_sR, if_pos ⟨rfl, rfl⟩]
  refine ⟨⟨e0, e1, by omega, ?_, h5, h6, h7, h9, h8⟩, ⟨fun c j _ => Eq.refl (gI σ c j), fun c _ => Eq.refl (gA σ c), ?_, ?_, Eq.refl (gJ σ), fun _ => ?_⟩⟩
  · rw [gR_sR, if_neg (by decide), gR_sR, if_neg (by decide)]; exact h4
  · rw [gR_sR, if_neg (by decide), gR_sR, if_neg (by decide)]
  · rw [gR_sR, if_neg (by decide), gR_sR, if_neg (by decide)]
  · unfold Rparts
    rw [e0, e1]
    rcases h3 with ⟨rfl, rfl⟩ | ⟨rfl, rfl⟩
    · exact Or.inr ⟨rfl, rfl⟩
    · exact Or.inl ⟨rfl, rfl⟩
theorem t_pushes32 {σ : Mm} {g : Nat → Bool} {lim lea : Int} {tl : Nat → Int} {tA tB : Nat} {A : Nat → Int} {x : (Nat → Int) × Int} {lo sd : Int} (G : YG σ 11 g lim lea tl) (hT : TlOk g tl) (hg : ∀ c, g c = true → c < 20) (hl1 : 2 ≤ lim) (hl2 : lim ≤ 9) (he : -2 ≤ lea ∧ lea ≤ 2) (h : OC σ tA tB A x.1 x.2 lo sd) (hsd : sd = 1 ∨ sd = 2) (hA : ∀ j, j < 340 → 0 ≤ A j ∧ A j ≤ 100000) (hA2 : ∀ j, j < 340 → A j ≠ 0 → g (j / 17) = true) :
    ∃ z, f_Ch_pushOnce_32 σ 0 = some z ∧ ∃ σ', z = (0, σ') ∧ eqT σ σ' ∧ OC σ' tB tA (sN g lim lea tl sd A 340 x).1 A (sN g lim lea tl sd A 340 x).2 lo sd := by
  unfold f_Ch_pushOnce_32
  refine lp_ind (fun s => 340 - s.2.toNatClampNeg) (fun z => ∃ (σ' : Mm) (k : Nat), z = (σ', iz k) ∧ k ≤ 340 ∧ eqT σ σ' ∧ OC σ' tA tB A (sN g lim lea tl sd A k x).1 (sN g lim lea tl sd A k x).2 lo sd) _ (fun z hz => ?_) _ ⟨σ, 0, rfl, by omega, eqT.rfl, h⟩ ?_
  · obtain ⟨σ', k, rfl, hk, e, h'⟩ := hz
    dsimp only
    by_cases k3 : k < 340
    · left
      have k4 : iz (k : Int) < 340 := by rw [i340, iz_lt (by omega) (by omega) (by omega) (by omega)]; omega
      have kk : iz (k : Int) + 1 = iz ((k + 1 : Nat) : Int) := by rw [i1, iz_add]; rfl
      have mu : ∀ τ2 : Mm, 340 - ((τ2, iz ((k + 1 : Nat) : Int)) : Mm × Int32).2.toNatClampNeg < 340 - (iz (k : Int)).toNatClampNeg := fun τ2 => by
        dsimp only
        rw [iz_nat (by omega) (by omega), iz_nat (by omega) (by omega)]
        omega
      have eA := h'.2.2.2.2.2.2.2.1 k k3
      obtain ⟨a1, a2⟩ := hA k k3
      have es : sN g lim lea tl sd A (k + 1) x = if A k ≤ 0 then sN g lim lea tl sd A k x else sA1 g lim lea tl sd A k (sN g lim lea tl sd A k x) := rfl
      by_cases q : A k ≤ 0
      · refine ⟨(σ', iz ((k + 1 : Nat) : Int)), ?_, ⟨σ', k + 1, rfl, by omega, e, by rw [es, if_pos q]; exact h'⟩, mu σ'⟩
        unfold f_Ch_pushOnce_32_b
        rw [if_pos k4, h'.rk0, ix_n k3 (by decide), eA, if_pos (by rw [i0, iz_le (by omega) (by omega) (by omega) (by omega)]; exact q), nm_eq, kk]
      · obtain ⟨σ2, b1, b2, b3⟩ := t_shareOut (G.eqT e) hT hg hl1 hl2 he h' hsd k3 (hA2 k k3 (by omega))
        refine ⟨(σ2, iz ((k + 1 : Nat) : Int)), ?_, ⟨σ2, k + 1, rfl, by omega, e.trans b2, by rw [es, if_neg q]; exact b3⟩, mu σ2⟩
        unfold f_Ch_pushOnce_32_b
        rw [if_pos k4, h'.rk0, ix_n k3 (by decide), eA, if_neg (by rw [i0, iz_le (by omega) (by omega) (by omega) (by omega)]; exact q), b1, bd_eq, nm_eq, kk]
    · right
      have : k = 340 := by omega
      subst this
      refine ⟨(0, sR (sR σ' 33 0 (some tB)) 33 1 (some tA)), ?_, _, rfl, e.trans h'.swap.2, h'.swap.1⟩
      unfold f_Ch_pushOnce_32_b f_Ch_pushOnce_59
      rw [if_neg (by decide), h'.rk0, h'.rk1, nm_eq, nm_eq]
      rfl
  · dsimp only
    omega
theorem t_pushOnce {σ : Mm} {g : Nat → Bool} {lim lea : Int} {tl : Nat → Int} {tA tB : Nat} {A B : Nat → Int} {u lo sd : Int} (G : YG σ 11 g lim lea tl) (hT : TlOk g tl) (hg : ∀ c, g c = true → c < 20) (hl1 : 2 ≤ lim) (hl2 : lim ≤ 9) (he : -2 ≤ lea ∧ lea ≤ 2) (h : OC σ tA tB A B u lo sd) (hsd : sd = 1 ∨ sd = 2) (hA : ∀ j, j < 340 → 0 ≤ A j ∧ A j ≤ 100000) (hA2 : ∀ j, j < 340 → A j ≠ 0 → g (j / 17) = true) :
    ∃ σ', f_Ch_pushOnce σ = some (0, σ') ∧ eqT σ σ' ∧ OC σ' tB tA (sN g lim lea tl sd A 340 (fun _ => 0, 12 * u)).1 A (sN g lim lea tl sd A 340 (fun _ => 0, 12 * u)).2 (lo * 12) sd := by
  have hB : tB = 34 ∨ tB = 35 := by
    rcases h.2.2.1 with ⟨-, e⟩ | ⟨-, e⟩ <;> rw [e] <;> simp
  have h1 : OC (sI σ 33 2 (iz (12 * u))) tA tB A B (12 * u) lo sd := h.setU _
  have h2 : OC (sI (sI σ 33 2 (iz (12 * u))) 33 3 (iz (lo * 12))) tA tB A B (12 * u) (lo * 12) sd := h1.setL _
  have h3 := h2.fillB
  have e3 : eqT σ (sAs (sI (sI σ 33 2 (iz (12 * u))) 33 3 (iz (lo * 12))) tB (fun j => if j < 340 then 0 else gA (sI (sI σ 33 2 (iz (12 * u))) 33 3 (iz (lo * 12))) tB j)) := (eqT_33.trans eqT_33).trans (eqT_pas hB)
  obtain ⟨_, z1, σ', rfl, z2, z3⟩ := t_pushes32 (x := (fun _ => 0, 12 * u)) (G.eqT e3) hT hg hl1 hl2 he h3 hsd hA hA2
  refine ⟨σ', ?_, e3.trans z2, z3⟩
  unfold f_Ch_pushOnce
  rw [h.2.2.2.2.2.1, i12, iz_mul, Int.mul_comm u 12, nm_eq, h1.2.2.2.2.2.2.1, iz_mul, nm_eq, h2.rk1, f_fill _ _ 340 _ (by decide), bd_eq]
  exact z1
theorem t_gcd (σ : Mm) {u lo M : Int} {N : Nat} (hu : 0 ≤ u ∧ u ≤ M) (hlo : 0 ≤ lo ∧ lo ≤ M) (hM : M < 2147483648) (hN : N ≤ 60) (e1 : (est N u lo).2 = 0) (e2 : ∀ j, j < N → (est j u lo).2 ≠ 0) : f_Ch_commonDivisor σ (iz u) (iz lo) = some (iz (est N u lo).1, σ) := by
  unfold f_Ch_commonDivisor f_Ch_commonDivisor_7
  refine lp_run (fun k => (σ, iz (est k u lo).1, iz (est k u lo).2, iz (k : Int))) N (by omega) (fun k hk => ?_) ?_
  · dsimp only
    obtain ⟨⟨a1, a2⟩, a3, a4⟩ := est_in k u lo hu.1 hu.2 hlo.1 hlo.2
    have a5 := e2 k hk
    have k4 : iz (k : Int) < 64 := by rw [i64, iz_lt (by omega) (by omega) (by omega) (by omega)]; omega
    have kk : iz (k : Int) + 1 = iz ((k + 1 : Nat) : Int) := by rw [i1, iz_add]; rfl
    have en := est_next k u lo
    rw [en]
    dsimp only
    generalize est k u lo = E at *
    unfold f_Ch_commonDivisor_7_b
    rw [if_pos k4, if_neg (by rw [i0, iz_le (by omega) (by omega) (by omega) (by omega)]; omega), if_neg (by rw [i0, iz_eq (by omega) (by omega) (by omega) (by omega)]; omega), iz_rm (by omega) (by omega) (by omega) (by omega), nm_eq, kk, nm_eq]
  · dsimp only
    have k4 : iz (N : Int) < 64 := by rw [i64, iz_lt (by omega) (by omega) (by omega) (by omega)]; omega
    unfold f_Ch_commonDivisor_7_b
    rw [if_pos k4, e1, if_pos (by decide)]
theorem m_gcd (τ : Mm) {u lo M : Int} {N : Nat} (hu : 0 ≤ u ∧ u ≤ M) (hlo : 0 ≤ lo ∧ lo ≤ M) (hM : M < 2147483648) (hN : N ≤ 60) (e1 : (est N u lo).2 = 0) (e2 : ∀ j, j < N → (est j u lo).2 ≠ 0) : f_M_gcd τ (iz u) (iz lo) = some (iz (est N u lo).1, τ) := by
  unfold f_M_gcd f_M_gcd_4
  refine lp_run (fun k => (τ, iz (est k u lo).1, iz (est k u lo).2)) N (by omega) (fun k hk => ?_) ?_
  · dsimp only
    obtain ⟨⟨a1, a2⟩, a3, a4⟩ := est_in k u lo hu.1 hu.2 hlo.1 hlo.2
    have a5 := e2 k hk
    have en := est_next k u lo
    rw [en]
    dsimp only
    generalize est k u lo = E at *
    have hn : ¬ iz E.2 = 0 := by rw [i0, iz_eq (by omega) (by omega) (by omega) (by omega)]; exact a5
    unfold f_M_gcd_4_b
    rw [if_neg hn, if_neg hn, iz_rm (by omega) (by omega) (by omega) (by omega), nm_eq]
  · dsimp only
    unfold f_M_gcd_4_b
    rw [e1, if_pos (by decide)]
theorem p12_in {n : Nat} (h : n ≤ 4) : 1 ≤ p12 n ∧ p12 n ≤ 20736 := by
  rcases (show n = 0 ∨ n = 1 ∨ n = 2 ∨ n = 3 ∨ n = 4 by omega) with rfl | rfl | rfl | rfl | rfl <;> decide
theorem rN_in {g : Nat → Bool} {lim lea : Int} {tl : Nat → Int} {sd : Int} {s0 n : Nat} (hl : lim ≤ 9) (h0 : s0 < 340) (hg : g (s0 / 17) = true) (hn : n ≤ 4) : (∀ j, j < 340 → 0 ≤ (rN g lim lea tl sd s0 n).1 j ∧ (rN g lim lea tl sd s0 n).1 j ≤ 100000) ∧ (∀ j, j < 340 → (rN g lim lea tl sd s0 n).1 j ≠ 0 → g (j / 17) = true) ∧ 0 ≤ (rN g lim lea tl sd s0 n).2 ∧ (rN g lim lea tl sd s0 n).2 ≤ p12 n := by
  obtain ⟨h1, h2, h3, h4⟩ := PB.rnd (lea := lea) (tl := tl) (sd := sd) hl h0 hg n
  have h5 := (p12_in hn).2
  have h6 := SI_nonneg h1 340
  refine ⟨fun j hj => ⟨h1 j, ?_⟩, h2, h3, by omega⟩
  have := SI_has h1 340 hj
  omega
theorem t_reckon53 {σ : Mm} {g : Nat → Bool} {lim lea : Int} {tl : Nat → Int} {tA tB s0 n : Nat} {B : Nat → Int} {sd : Int} (G : YG σ 11 g lim lea tl) (hT : TlOk g tl) (hg : ∀ c, g c = true → c < 20) (hl1 : 2 ≤ lim) (hl2 : lim ≤ 9) (he : -2 ≤ lea ∧ lea ≤ 2) (hs : s0 < 340) (hgs : g (s0 / 17) = true) (hn : n ≤ 4) (h : OC σ tA tB (rN g lim lea tl sd s0 0).1 B (rN g lim lea tl sd s0 0).2 (p12 0) sd) (hsd : sd = 1 ∨ sd = 2) {N : Nat} (hN : N ≤ 60) (e1 : (est N (rN g lim lea tl sd s0 n).2 (p12 n)).2 = 0) (e2 : ∀ j, j < N → (est j (rN g lim lea tl sd s0 n).2 (p12 n)).2 ≠ 0) :
    ∃ z, f_Ch_reckon_53 σ (iz n) 0 = some z ∧ ∃ σ', z = (0, σ') ∧ eqT σ σ' ∧ gI σ' 33 2 = iz ((rN g lim lea tl sd s0 n).2 / (est N (rN g lim lea tl sd s0 n).2 (p12 n)).1) ∧ gI σ' 33 3 = iz (p12 n / (est N (rN g lim lea tl sd s0 n).2 (p12 n)).1) := by
  unfold f_Ch_reckon_53
  refine lp_ind (fun s => n - s.2.toNatClampNeg) (fun z => ∃ (σ' : Mm) (k tA tB : Nat) (B : Nat → Int), z = (σ', iz k) ∧ k ≤ n ∧ eqT σ σ' ∧ OC σ' tA tB (rN g lim lea tl sd s0 k).1 B (rN g lim lea tl sd s0 k).2 (p12 k) sd) _ (fun z hz => ?_) _ ⟨σ, 0, tA, tB, B, rfl, by omega, eqT.rfl, h⟩ ?_
  · obtain ⟨σ', k, tA, tB, B, rfl, hk, e, h'⟩ := hz
    dsimp only
    by_cases k3 : k < n
    · left
      have k4 : iz (k : Int) < iz (n : Int) := by rw [iz_lt (by omega) (by omega) (by omega) (by omega)]; omega
      have kk : iz (k : Int) + 1 = iz ((k + 1 : Nat) : Int) := by rw [i1, iz_add]; rfl
      obtain ⟨r1, r2, r3, r4⟩ := rN_in (lea := lea) (tl := tl) (sd := sd) hl2 hs hgs (show k ≤ 4 by omega)
      obtain ⟨σ2, b1, b2, b3⟩ := t_pushOnce (G.eqT e) hT hg hl1 hl2 he h' hsd r1 r2
      refine ⟨(σ2, iz ((k + 1 : Nat) : Int)), ?_, ⟨σ2, k + 1, tB, tA, _, rfl, by omega, e.trans b2, b3⟩, ?_⟩
      · unfold f_Ch_reckon_53_b
        rw [if_pos k4, b1, bd_eq, nm_eq, kk]
      · dsimp only
        rw [iz_nat (by omega) (by omega), iz_nat (by omega) (by omega)]
        omega
    · right
      have : k = n := by omega
      subst this
      obtain ⟨r1, r2, r3, r4⟩ := rN_in (lea := lea) (tl := tl) (sd := sd) hl2 hs hgs hn
      obtain ⟨p1, p2⟩ := p12_in hn
      have hgcd := t_gcd σ' (M := 20736) ⟨r3, by omega⟩ ⟨by omega, p2⟩ (by decide) hN e1 e2
      have hpos := est_pos r3 (show 0 < p12 k by omega) e1 e2
      have hin := (est_in (M := 20736) N (rN g lim lea tl sd s0 k).2 (p12 k) r3 (by omega) (by omega) p2).1
      obtain ⟨-, -, -, -, -, o6, o7, -⟩ := h'
      have hb : f_Ch_reckon_53_b (iz (k : Int)) σ' (iz (k : Int)) = (f_Ch_reckon_70 σ' : Option (Int32 × Mm)).map Sum.inr := by
        unfold f_Ch_reckon_53_b
        rw [if_neg (by rw [iz_lt (by omega) (by omega) (by omega) (by omega)]; omega)]
      rw [hb]
      generalize (rN g lim lea tl sd s0 k).2 = u at *
      generalize p12 k = lo at *
      generalize (est N u lo).1 = d at *
      unfold f_Ch_reckon_70
      rw [o6, o7, hgcd, bd_eq]
      by_cases q : d ≤ 1
      · have : d = 1 := by omega
        rw [if_pos (by rw [i1, iz_le (by omega) (by omega) (by omega) (by omega)]; exact q), this, Int.ediv_one, Int.ediv_one]
        exact ⟨(0, σ'), rfl, σ', rfl, e, o6, o7⟩
      · have hd : ¬ iz d = 0 := by rw [i0, iz_eq (by omega) (by omega) (by omega) (by omega)]; omega
        rw [if_neg (by rw [i1, iz_le (by omega) (by omega) (by omega) (by omega)]; exact q), if_neg hd, o6, iz_div (by omega) (by omega) (by omega) (by omega), nm_eq, if_neg hd, gI_sI, if_neg (by decide), o7, iz_div (by omega) (by omega) (by omega) (by omega), nm_eq]
        refine ⟨_, rfl, _, rfl, (e.trans eqT_33).trans eqT_33, ?_, ?_⟩
        · rw [gI_sI, if_neg (by decide), gI_sI, if_pos ⟨rfl, rfl⟩]
        · rw [gI_sI, if_pos ⟨rfl, rfl⟩]
  · dsimp only
    omega
theorem t_reckon {σ : Mm} {g : Nat → Bool} {lim lea : Int} {tl : Nat → Int} {c n : Nat} {l sd : Int} (G : YG σ 11 g lim lea tl) (hT : TlOk g tl) (hg : ∀ c, g c = true → c < 20) (hl1 : 2 ≤ lim) (hl2 : lim ≤ 9) (he : -2 ≤ lea ∧ lea ≤ 2) (hc : g c = true) (l1 : -9 < l) (l2 : l < 9) (hn : n ≤ 4) (hP : Rparts σ) (hsd : sd = 1 ∨ sd = 2) {N : Nat} (hN : N ≤ 60) (e1 : (est N (rN g lim lea tl sd (17 * (c : Int) + l + 8).toNat n).2 (p12 n)).2 = 0) (e2 : ∀ j, j < N → (est j (rN g lim lea tl sd (17 * (c : Int) + l + 8).toNat n).2 (p12 n)).2 ≠ 0) :
    ∃ σ', f_Ch_reckon σ 11 (iz c) (iz l) (iz sd) (iz n) = some (0, σ') ∧ eqT σ σ' ∧ gI σ' 33 2 = iz ((rN g lim lea tl sd (17 * (c : Int) + l + 8).toNat n).2 / (est N (rN g lim lea tl sd (17 * (c : Int) + l + 8).toNat n).2 (p12 n)).1) ∧ gI σ' 33 3 = iz (p12 n / (est N (rN g lim lea tl sd (17 * (c : Int) + l + 8).toNat n).2 (p12 n)).1) := by
  have hc20 := hg c hc
  obtain ⟨s0, hs0⟩ : ∃ s0 : Nat, s0 = (17 * (c : Int) + l + 8).toNat := ⟨_, rfl⟩
  have es : (17 * (c : Int) + l + 8) = (s0 : Int) := by omega
  have hs : s0 < 340 := by omega
  have hgs : g (s0 / 17) = true := by rw [show s0 / 17 = c by omega]; exact hc
  rw [← hs0] at e1 e2 ⊢
  obtain ⟨tA, tB, p1, p2, p3⟩ : ∃ tA tB, gR σ 33 0 = some tA ∧ gR σ 33 1 = some tB ∧ ((tA = 34 ∧ tB = 35) ∨ (tA = 35 ∧ tB = 34)) := by
    rcases hP with ⟨a, b⟩ | ⟨a, b⟩
    · exact ⟨34, 35, a, b, Or.inl ⟨rfl, rfl⟩⟩
    · exact ⟨35, 34, a, b, Or.inr ⟨rfl, rfl⟩⟩
  have hAt : tA = 34 ∨ tA = 35 := by omega
  -- the memory when the pushes begin
  obtain ⟨σ4, h4⟩ : ∃ σ4, σ4 = sI (sI (sI (sR σ 33 4 (some 11)) 33 5 (iz sd)) 33 2 0) 33 3 1 := ⟨_, rfl⟩
  obtain ⟨σ6, h6⟩ : ∃ σ6, σ6 = sAs σ4 tA (fun j => if j < 340 then 0 else gA σ4 tA j) := ⟨_, rfl⟩
  have r4 : ∀ k, k ≠ 4 → gR σ4 33 k = gR σ 33 k := fun k hk => by
    rw [h4, gR_sI, gR_sI, gR_sI, gR_sR, if_neg (fun ⟨_, z⟩ => hk z)]
  have e6 : eqT σ (sA σ6 tA s0 1) := by
    refine eqT.trans ?_ (eqT_pa hAt)
    rw [h6]
    refine eqT.trans ?_ (eqT_pas hAt)
    rw [h4]
    refine eqT.trans (eqT.trans (eqT.trans ?_ eqT_33) eqT_33) eqT_33
    refine ⟨fun c j _ => Eq.refl (gI σ c j), fun c _ => Eq.refl (gA σ c), ?_, ?_, Eq.refl (gJ σ), fun z => ?_⟩
    · rw [gR_sR, if_neg (by decide)]
    · rw [gR_sR, if_neg (by decide)]
    · unfold Rparts
      rw [gR_sR, if_neg (by decide), gR_sR, if_neg (by decide)]
      exact z
  have O : OC (sA σ6 tA s0 1) tA tB (rN g lim lea tl sd s0 0).1 (fun j => (gA σ tB j).toInt) (rN g lim lea tl sd s0 0).2 (p12 0) sd := by
    refine ⟨?_, ?_, p3, ?_, ?_, ?_, ?_, fun j hj => ?_, fun j hj => ?_⟩
    · rw [gR_sA, h6, gR_sAs, r4 0 (by decide)]; exact p1
    · rw [gR_sA, h6, gR_sAs, r4 1 (by decide)]; exact p2
    · rw [gR_sA, h6, gR_sAs, h4, gR_sI, gR_sI, gR_sI, gR_sR, if_pos ⟨rfl, rfl⟩]
    · rw [gI_sA, h6, gI_sAs, h4, gI_sI, if_neg (by decide), gI_sI, if_neg (by decide), gI_sI, if_pos ⟨rfl, rfl⟩]
    · rw [gI_sA, h6, gI_sAs, h4, gI_sI, if_neg (by decide), gI_sI, if_pos ⟨rfl, rfl⟩]; rfl
    · rw [gI_sA, h6, gI_sAs, h4, gI_sI, if_pos ⟨rfl, rfl⟩]; rfl
    · rw [gA_sA, if_pos rfl, h6, gA_sAs, if_pos rfl]
      show _ = iz (if j = s0 then (0 : Int) + 1 else 0)
      by_cases q : j = s0
      · rw [q, pk_us, if_pos rfl]; rfl
      · rw [pk_un q, if_pos hj, if_neg q]; rfl
    · rw [gA_sA, if_neg (by omega), h6, gA_sAs, if_neg (by omega), h4, gA_sI, gA_sI, gA_sI, gA_sR]
      exact (Int32.ofInt_toInt _).symm
  obtain ⟨_, z1, σ', rfl, z2, z3, z4⟩ := t_reckon53 (G.eqT e6) hT hg hl1 hl2 he hs hgs hn O hsd hN e1 e2
  refine ⟨σ', ?_, e6.trans z2, z3, z4⟩
  have hr4 : ∀ {α : Type} (K : Nat → Option α), rk (gR σ4 33 0) okPa K = K tA := fun K => by
    rw [r4 0 (by decide), p1]
    exact rk_eq K (by rcases hAt with e | e <;> rw [e] <;> rfl)
  have hr6 : ∀ {α : Type} (K : Nat → Option α), rk (gR σ6 33 0) okPa K = K tA := fun K => by
    rw [h6, gR_sAs]
    exact hr4 K
  unfold f_Ch_reckon
  rw [nm_eq, nm_eq, nm_eq, nm_eq, ← h4, t_spotOf σ4 hc20 (by omega) (by omega), bd_eq, es, if_neg (by rw [i0, iz_lt (by omega) (by omega) (by omega) (by omega)]; omega), hr4, f_fill _ _ 340 _ (by decide), bd_eq, ← h6, hr6, ix_n hs (by decide), nm_eq]
  exact z1
