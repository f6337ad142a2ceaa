-- one way back, and all of them
def KB (g : Nat → Bool) (w c : Nat) (l0 : Int) (p t : Nat) (Ct : Nat → Nat → Bool) : Prop := (∀ s, Ct t s = true → ∃ u c2, u < w ∧ nx g c u = some c2 ∧ s = sx c2 l0 p) ∧ ∀ u c2, u < w → nx g c u = some c2 → Ct t (sx c2 l0 p) = true
/-- the yard, as a contest's ground -/
def YC (g : Nat → Bool) (lim lea : Int) (tl : Nat → Int) (σ : Mm) (r : Nat) : Prop := gR σ 21 5 = some r ∧ (r = 11 ∨ r = 13) ∧ YG σ r g lim lea tl ∧ TlOk g tl ∧ (∀ c, g c = true → c < 20) ∧ 2 ≤ lim ∧ lim ≤ 9 ∧ (-2 ≤ lea ∧ lea ≤ 2)
theorem YC.eqC {g : Nat → Bool} {lim lea : Int} {tl : Nat → Int} {σ σ' : Mm} {r : Nat} (Y : YC g lim lea tl σ r) (e : eqC σ σ') : YC g lim lea tl σ' r := by
  obtain ⟨y1, y2, y3, y4⟩ := Y
  exact ⟨by rw [e.2.2.1]; exact y1, y2, y3.eqC e y2, y4⟩
theorem YC.rk {g : Nat → Bool} {lim lea : Int} {tl : Nat → Int} {σ : Mm} {r : Nat} (Y : YC g lim lea tl σ r) {α : Type} (K : Nat → Option α) : rk (gR σ 21 5) okGr K = K r := by
  rw [Y.1]
  exact rk_eq K (by rcases Y.2.1 with h | h <;> rw [h] <;> rfl)
theorem pb_step {g : Nat → Bool} {lim lea : Int} {tl : Nat → Int} {σ : Mm} {r h q c p w : Nat} {l D : Int} {W L : Nat → Int} {Q : Nat → Nat} {Ct : Nat → Nat → Bool} (Y : YC g lim lea tl σ r) (F : FI g lim lea tl 680 h q D σ W L Q Ct) (hh : h < q) (hv : Lv g lim c l p) (ht : Q h = sx c l p) (hL : L (sx c l p) = 0 ∨ L (sx c l p) = D) (hD : 0 ≤ D ∧ D ≤ 699) (hq : vd lim (l - (tl c + lea)) = 0) (hw : w < 4) (K : KB g w c (l - (tl c + lea)) (1 - p) (sx c l p) Ct) :
    ∃ σ' q' W' L' Q' Ct', f_Co_passBack_38_b (iz ((sx c l p : Nat) : Int)) (iz c) (iz (l - (tl c + lea))) σ (iz w) = some (.inl (σ', iz ((w + 1 : Nat) : Int))) ∧ eqC σ σ' ∧ FI g lim lea tl 680 h q' D σ' W' L' Q' Ct' ∧ h < q' ∧ Q' h = sx c l p ∧ L' (sx c l p) = L (sx c l p) ∧ KB g (w + 1) c (l - (tl c + lea)) (1 - p) (sx c l p) Ct' := by
  obtain ⟨y1, y2, y3, y4, y5, y6, y7, y8⟩ := id Y
  obtain ⟨b1, b2, b3, b4⟩ := hv.b y5 y7
  obtain ⟨K1, K2⟩ := K
  obtain ⟨t1, t2⟩ := sx_eq b1 b2 b3 b4
  have hB := t_beyond y3 b1 hw
  rw [if_pos hv.1] at hB
  rcases hx : nx g c w with _ | c2
  · rw [hx] at hB
    dsimp only at hB
    refine ⟨σ, q, W, L, Q, Ct, t_pb0 (z := 0) (fun K => Y.rk K) hw hB, eqC.rfl, F, hh, ht, rfl, fun s hs => ?_, fun u c3 hu h3 => ?_⟩
    · obtain ⟨u, c3, h1, h2, h3⟩ := K1 s hs
      exact ⟨u, c3, by omega, h2, h3⟩
    · by_cases e : u = w
      · rw [e, hx] at h3; cases h3
      · exact K2 u c3 (by omega) h3
  · rw [hx] at hB
    dsimp only at hB
    obtain ⟨hv2, hT⟩ := pred_of y5 y7 hv hw hx hq
    obtain ⟨d1, d2, d3, d4⟩ := hv2.b y5 y7
    obtain ⟨s1, s2⟩ := sx_eq d1 d2 d3 d4
    have hpar := (sx_dec d1 d2 d3 d4).2.2
    have hVs := VV.of y5 y7 hv2
    have hVt := VV.of y5 y7 hv
    have hst := t_stateOf σ (c := c2) (l := l - (tl c + lea)) (p := 1 - p) d1 (by omega) (by omega) d4
    have hpt := (sx_dec b1 b2 b3 b4).2.2
    have hKs : ∀ Ct', (∀ t' s', Ct' t' s' = true ↔ (t' = sx c l p ∧ s' = sx c2 (l - (tl c + lea)) (1 - p)) ∨ Ct t' s' = true) → KB g (w + 1) c (l - (tl c + lea)) (1 - p) (sx c l p) Ct' := by
      refine fun Ct' hC => ⟨fun s hs => ?_, fun u c3 hu h3 => ?_⟩
      · rcases (hC _ _).mp hs with ⟨-, z⟩ | z
        · exact ⟨w, c2, by omega, hx, z⟩
        · obtain ⟨u, c3, h1, h2, h3⟩ := K1 s z
          exact ⟨u, c3, by omega, h2, h3⟩
      · by_cases e : u = w
        · rw [e, hx] at h3
          rw [← Option.some.inj h3]
          exact (hC _ _).mpr (Or.inl ⟨rfl, rfl⟩)
        · exact (hC _ _).mpr (Or.inr (K2 u c3 (by omega) h3))
    have hCt : Ct (sx c l p) (sx c2 (l - (tl c + lea)) (1 - p)) = false := by
      by_cases z : Ct (sx c l p) (sx c2 (l - (tl c + lea)) (1 - p)) = true
      · obtain ⟨u, c3, h1, h2, h3⟩ := K1 _ z
        obtain ⟨-, -, -, -⟩ := hv2
        obtain ⟨e1, -, -⟩ := sx_inj d1 d2 d3 d4 (y5 c3 (nx_ok h2).1) d2 d3 d4 h3
        rw [← e1] at h2
        exact absurd (nx_way (by omega) hw h2 hx) (by omega)
      · exact Bool.eq_false_iff.mpr z
    obtain ⟨C, J, I⟩ := id F
    obtain ⟨cl1, cl2, cl3⟩ := C.1 _ t2
    obtain ⟨cs1, cs2, cs3⟩ := C.1 _ s2
    have hWt : W (sx c l p) ≠ 0 := by rw [← ht]; exact (J.1 h hh).2
    obtain ⟨cl4, cl5, cl6⟩ := cl3 hWt
    by_cases hW : W (sx c2 (l - (tl c + lea)) (1 - p)) = 0
    · -- not settled yet
      have hLt := LI.pos (TT_V y5 y7) (TT_S y5 y7) I hVs (by omega) hT hWt
      have hLD : L (sx c l p) = D := by omega
      have h6 := (I _ hVs).2.2.2.2.2 s2 hW
      have h24 := C.2.1 _ hVs s2 hW
      have hq680 := F.q.2.1 _ s2 hW
      have hsm := sm_le (f := unC (TT g lim lea tl) Ct (sx c2 (l - (tl c + lea)) (1 - p))) (fun v => by
        unfold unC
        rcases TT g lim lea tl (sx c2 (l - (tl c + lea)) (1 - p)) v with _ | t'
        · exact Nat.zero_le _
        · dsimp only
          by_cases z : Ct t' (sx c2 (l - (tl c + lea)) (1 - p)) = true
          · rw [if_pos z]; exact Nat.zero_le _
          · rw [if_neg z]; exact Nat.le_refl _) 4
      have hset := t_settleFrom (σ := σ) (x := W (sx c l p)) (n := L (sx c l p) + 1) s2 hq680 C.2.2.2 hpar h24 ⟨by omega, by omega⟩ (by omega)
      have hpb := fun σ' e => t_pb1 (σ := σ) (σ' := σ') (l := l - (tl c + lea)) (n := L (sx c l p)) (fun K => Y.rk K) hw t2 hpt hB hst s2 cs1 cs2 cl1 cl4 e
      by_cases hc : W (sx c l p) = ((1 - p : Nat) : Int) + 1 ∨ ((sm (unC (TT g lim lea tl) Ct (sx c2 (l - (tl c + lea)) (1 - p))) 4 : Nat) : Int) = 1
      · rw [if_pos hc] at hset
        have hB12 := pass_B (TT_V y5 y7) (TT_S y5 y7) TT_R J I hh ht hLD hVs s2 hW (by omega) hT hCt (by rw [hpar]; omega)
        obtain ⟨W', L', Q', P, e1, e2, F'⟩ := F.settle (iz (((sm (unC (TT g lim lea tl) Ct (sx c2 (l - (tl c + lea)) (1 - p))) 4 : Nat) : Int) - 1)) (x := W (sx c l p)) (n := L (sx c l p) + 1) (by omega) hVs hW hD (Or.inr (by omega)) (by omega) (Nat.le_refl _) s2 (fun u _ a1 a2 => by omega) hB12
        have hpp := hpb _ (fun _ => hset)
        rw [if_pos hW] at hpp
        have hWs : W' (sx c2 (l - (tl c + lea)) (1 - p)) ≠ 0 := by rw [P.1]; exact hWt
        have hQ' : Q' h = sx c l p := by rw [e2 h (by omega)]; exact ht
        obtain ⟨C', J', I'⟩ := F'
        refine ⟨_, q + 1, W', L', Q', mk Ct (sx c l p) (sx c2 (l - (tl c + lea)) (1 - p)), hpp, eqC_aSet .., ⟨C'.mark hWs, J'.mark (by omega) hQ', LI.mark I' (fun z => absurd z hWs)⟩, by omega, hQ', ?_, hKs _ (fun t' s' => mk_iff ..)⟩
        exact (P.2.2 _ (fun z => by rw [z] at hWt; exact hWt hW)).2
      · rw [if_neg hc] at hset
        have hWx : W (sx c l p) = 2 - ((1 - p : Nat) : Int) := by
          have := (I _ hVt).1
          rw [hpt] at this
          omega
        have hpp := hpb _ (fun _ => hset)
        rw [if_pos hW] at hpp
        have hu := unC_mk (TT_I y5 y7 (by omega)) (by omega) hT hCt
        refine ⟨_, q, W, L, Q, mk Ct (sx c l p) (sx c2 (l - (tl c + lea)) (1 - p)), hpp, eqC_24 .., ⟨C.put24 (fun _ => ?_) (fun u hu => funext fun w => unC_ne hu w) (fun u _ a1 _ => a1), J.mark hh ht, LI.mark I (fun _ => ?_)⟩, hh, ht, rfl, hKs _ (fun t' s' => mk_iff ..)⟩
        · congr 1
          omega
        · refine pass_dec (TT_I y5 y7 (by omega)) h6 (by omega) hT hCt ?_ (fun z => hc (Or.inr (by rw [z]; rfl)))
          rw [hpar]; exact hWx
    · have hpp := t_pb1 (σ := σ) (σ' := σ) (l := l - (tl c + lea)) (n := L (sx c l p)) (fun K => Y.rk K) hw t2 hpt hB hst s2 cs1 cs2 cl1 cl4 (fun z => absurd z hW)
      rw [if_neg hW] at hpp
      exact ⟨σ, q, W, L, Q, mk Ct (sx c l p) (sx c2 (l - (tl c + lea)) (1 - p)), hpp, eqC.rfl, ⟨C.mark hW, J.mark hh ht, LI.mark I (fun z => absurd z hW)⟩, hh, ht, rfl, hKs _ (fun t' s' => mk_iff ..)⟩
theorem pb_all {g : Nat → Bool} {lim lea : Int} {tl : Nat → Int} {σ : Mm} {r h q c p : Nat} {l D : Int} {W L : Nat → Int} {Q : Nat → Nat} {Ct : Nat → Nat → Bool} (Y : YC g lim lea tl σ r) (F : FI g lim lea tl 680 h q D σ W L Q Ct) (hh : h < q) (hv : Lv g lim c l p) (ht : Q h = sx c l p) (hL : L (sx c l p) = 0 ∨ L (sx c l p) = D) (hD : 0 ≤ D ∧ D ≤ 699) (hq : vd lim (l - (tl c + lea)) = 0) (K : KB g 0 c (l - (tl c + lea)) (1 - p) (sx c l p) Ct) :
    ∃ x, f_Co_passBack_38 σ (iz ((sx c l p : Nat) : Int)) (iz c) (iz (l - (tl c + lea))) (iz 0) = some x ∧ ∃ σ' q' W' L' Q' Ct', x = (0, σ') ∧ eqC σ σ' ∧ FI g lim lea tl 680 h q' D σ' W' L' Q' Ct' ∧ h < q' ∧ Q' h = sx c l p ∧ L' (sx c l p) = L (sx c l p) ∧ KB g 4 c (l - (tl c + lea)) (1 - p) (sx c l p) Ct' := by
  unfold f_Co_passBack_38
  refine lp_ind (fun s => 4 - s.2.toNatClampNeg) (fun s => ∃ (σ' : Mm) (w q' : Nat) (W' L' : Nat → Int) (Q' : Nat → Nat) (Ct' : Nat → Nat → Bool), s = (σ', iz w) ∧ w ≤ 4 ∧ eqC σ σ' ∧ FI g lim lea tl 680 h q' D σ' W' L' Q' Ct' ∧ h < q' ∧ Q' h = sx c l p ∧ L' (sx c l p) = L (sx c l p) ∧ KB g w c (l - (tl c + lea)) (1 - p) (sx c l p) Ct') _ (fun s hs => ?_) _ ⟨σ, 0, q, W, L, Q, Ct, rfl, by omega, eqC.rfl, F, hh, ht, rfl, K⟩ ?_
  · obtain ⟨σ', w, q', W', L', Q', Ct', rfl, hw, e, F', h1, h2, h3, h4⟩ := hs
    by_cases k : w < 4
    · left
      obtain ⟨σ2, q2, W2, L2, Q2, Ct2, a1, a2, a3, a4, a5, a6, a7⟩ := pb_step (Y.eqC e) F' h1 hv h2 (by rw [h3]; exact hL) hD hq k h4
      refine ⟨_, a1, ⟨σ2, w + 1, q2, W2, L2, Q2, Ct2, rfl, by omega, e.trans a2, a3, a4, a5, a6.trans h3, a7⟩, ?_⟩
      dsimp only
      rw [iz_nat (by omega) (by omega), iz_nat (by omega) (by omega)]
      omega
    · right
      have : w = 4 := by omega
      subst this
      refine ⟨(0, σ'), ?_, σ', q', W', L', Q', Ct', rfl, e, F', h1, h2, h3, h4⟩
      dsimp only
      unfold f_Co_passBack_38_b
      rw [if_neg (by decide)]
      rfl
  · dsimp only
    omega
