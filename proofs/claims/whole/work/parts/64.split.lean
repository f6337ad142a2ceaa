-- the class splits the text
def TXt (σ : Mm) (a : Nat → Nat) (t : Nat) : Prop := t ≤ 120 ∧ gI σ 1 1 = iz t ∧ ∀ j, j < t → a j < 256 ∧ gA σ 2 j = iz (a j)
theorem TXt.ext {σ σ' : Mm} {a : Nat → Nat} {t : Nat} (e : eqT σ σ') (h : TXt σ a t) : TXt σ' a t := by
  refine ⟨h.1, (e.1 1 1 (by decide)).trans h.2.1, fun j hj => ?_⟩
  rw [e.2.1 2 (by decide)]
  exact h.2.2 j hj
theorem t_letterAt {σ : Mm} {a : Nat → Nat} {t j : Nat} (h : TXt σ a t) (hj : j < t) : f_Te_letterAt σ (iz (j : Int)) = some (iz (a j), σ) := by
  have h1 := h.1
  unfold f_Te_letterAt
  rw [if_neg (by rw [i0, iz_lt (by omega) (by omega) (by omega) (by omega)]; omega), h.2.1, if_pos (by rw [iz_lt (by omega) (by omega) (by omega) (by omega)]; omega), if_pos (by rw [i120, iz_lt (by omega) (by omega) (by omega) (by omega)]; omega), ix_n (by omega) (by decide), (h.2.2 j hj).2]
theorem t_isDigit (σ : Mm) {z : Nat} (h : z < 256) : f_Re_isDigit σ (iz (z : Int)) = some (if 48 ≤ z ∧ z ≤ 57 then 1 else 0, σ) := by
  unfold f_Re_isDigit
  by_cases q1 : z < 48
  · rw [if_pos (by rw [i48, iz_lt (by omega) (by omega) (by omega) (by omega)]; omega), if_neg (by omega)]
  · rw [if_neg (by rw [i48, iz_lt (by omega) (by omega) (by omega) (by omega)]; omega)]
    by_cases q2 : z ≤ 57
    · rw [if_pos (by rw [i57, iz_le (by omega) (by omega) (by omega) (by omega)]; omega), if_pos (by omega)]
    · rw [if_neg (by rw [i57, iz_le (by omega) (by omega) (by omega) (by omega)]; omega), if_neg (by omega)]
def TK (σ : Mm) (a : Nat → Nat) (n : Nat) (Q G : Nat → Nat) : Prop := gI σ 3 4 = iz n ∧ ∀ i, i < n → gA σ 6 i = iz (Q i : Nat) ∧ (dg a (Q i) → gA σ 5 i = iz (dv a (Q i) (G (i + 1) - Q i)) ∧ gA σ 4 i = (if gd a (Q i) (G (i + 1) - Q i) = true then iz (-2) else iz (-3))) ∧ (¬ dg a (Q i) → gA σ 4 i = iz (a (Q i) : Nat))
def aTk (σ : Mm) (n : Nat) (x y z : Int32) : Mm := sI (sA (sA (sA σ 4 n x) 6 n y) 5 n z) 3 4 (iz ((n + 1 : Nat) : Int))
theorem eqT_3 {σ : Mm} {k : Nat} {v : Int32} : eqT σ (sI σ 3 k v) := ⟨fun c j hc => by rw [gI_sI, if_neg (fun ⟨z, _⟩ => by rw [z] at hc; cases hc)], fun c _ => Eq.refl (gA σ c), Eq.refl (gR σ 0 2), Eq.refl (gR σ 0 3), Eq.refl (gJ σ), fun h => h⟩
theorem eqT_45 {σ : Mm} {c k : Nat} {v : Int32} (h : c = 4 ∨ c = 5 ∨ c = 6) : eqT σ (sA σ c k v) := ⟨fun c j _ => Eq.refl (gI σ c j), fun x hx => by rw [gA_sA, if_neg (fun z => by rw [z] at hx; rcases h with rfl | rfl | rfl <;> cases hx)], Eq.refl (gR σ 0 2), Eq.refl (gR σ 0 3), Eq.refl (gJ σ), fun h => h⟩
theorem eqT_aTk {σ : Mm} {n : Nat} {x y z : Int32} : eqT σ (aTk σ n x y z) := (((eqT_45 (by simp)).trans (eqT_45 (by simp))).trans (eqT_45 (by simp))).trans eqT_3
theorem t_addToken {σ : Mm} {n : Nat} (h : gI σ 3 4 = iz n) (hn : n < 121) (x y z : Int32) : f_Re_addToken σ x y z = some (0, aTk σ n x y z) := by
  unfold f_Re_addToken aTk
  rw [h, if_pos (by rw [i121, iz_lt (by omega) (by omega) (by omega) (by omega)]; omega), ix_n hn (by decide), nm_eq]
  simp only [gI_sA, h]
  rw [ix_n hn (by decide), nm_eq]
  simp only [gI_sA, h]
  rw [ix_n hn (by decide), nm_eq]
  simp only [gI_sA, h]
  rw [nm_eq, i1, iz_add]
  rfl
theorem TK.more {σ : Mm} {a : Nat → Nat} {n : Nat} {Q G Q' G' : Nat → Nat} {x z : Int32} {p : Nat} (h : TK σ a n Q G) (q1 : Q' n = p) (q2 : ∀ i, i < n → Q' i = Q i) (g1 : G' (n + 1) = p + 1) (g2 : ∀ i, i ≤ n → G' i = G i) (hx : dg a p → z = iz (dv a p 1) ∧ x = iz (-2)) (hx2 : ¬ dg a p → x = iz (a p : Nat)) : TK (aTk σ n x (iz (p : Nat)) z) a (n + 1) Q' G' := by
  refine ⟨?_, fun i hi => ?_⟩
  · unfold aTk
    rw [gI_sI, if_pos ⟨rfl, rfl⟩]
  · unfold aTk
    rw [gA_sI, gA_sI, gA_sI, gA_sA, if_neg (by decide), gA_sA, if_pos rfl, gA_sA, if_neg (by decide)]
    rw [gA_sA, if_pos rfl, gA_sA, if_neg (by decide), gA_sA, if_neg (by decide)]
    rw [gA_sA, if_neg (by decide), gA_sA, if_neg (by decide), gA_sA, if_pos rfl]
    by_cases e : i = n
    · subst e
      rw [pk_us, pk_us, pk_us, q1, g1, show p + 1 - p = 1 by omega]
      refine ⟨rfl, fun d => ?_, fun d => hx2 d⟩
      obtain ⟨d1, d2⟩ := hx d
      exact ⟨d1, d2.trans (if_pos rfl).symm⟩
    · rw [pk_un e, pk_un e, pk_un e, q2 i (by omega), g2 (i + 1) (by omega)]
      exact h.2 i (by omega)
/-- what splitting leaves alone, beside -/
def FX (σ σ' : Mm) : Prop := gR σ' 3 6 = gR σ 3 6 ∧ gA σ' 8 = gA σ 8 ∧ gA σ' 10 = gA σ 10
theorem FX.trans {a b c : Mm} (h : FX a b) (k : FX b c) : FX a c := ⟨k.1.trans h.1, k.2.1.trans h.2.1, k.2.2.trans h.2.2⟩
theorem FX_aTk {σ : Mm} {n : Nat} {x y z : Int32} : FX σ (aTk σ n x y z) := ⟨rfl, rfl, rfl⟩
theorem FX_sA {σ : Mm} {c k : Nat} {v : Int32} (h : c = 4 ∨ c = 5 ∨ c = 6) : FX σ (sA σ c k v) := ⟨rfl, by rw [gA_sA, if_neg (by omega)], by rw [gA_sA, if_neg (by omega)]⟩
theorem FX_sI {σ : Mm} {c k : Nat} {v : Int32} : FX σ (sI σ c k v) := ⟨rfl, rfl, rfl⟩
theorem t_addDigit {σ : Mm} {a : Nat → Nat} {t p n : Nat} {Q G : Nat → Nat} (T : TXt σ a t) (hp : p < t) (C : CH a p n Q G) (K : TK σ a n Q G) (hd : dg a p) : ∃ σ' n' Q' G', f_Re_addDigit σ (iz ((a p : Int) - 48)) (iz (p : Int)) = some (0, σ') ∧ eqT σ σ' ∧ CH a (p + 1) n' Q' G' ∧ TK σ' a n' Q' G' ∧ (∀ k, k ≠ 4 → gI σ' 3 k = gI σ 3 k) ∧ FX σ σ' := by
  have ht := T.1
  have hn := C.le n (Nat.le_refl _)
  have hnp := C.2.2.2
  have hdp := hd
  unfold dg at hdp
  have ey : gI σ 3 4 - 1 = iz ((n : Int) - 1) := by rw [K.1, i1, iz_sub]
  have new : (p = 0 ∨ ¬ dg a (p - 1)) → ∃ σ' n' Q' G', f_Re_addDigit_27 σ (iz ((a p : Int) - 48)) (iz (p : Int)) = some (0, σ') ∧ eqT σ σ' ∧ CH a (p + 1) n' Q' G' ∧ TK σ' a n' Q' G' ∧ (∀ k, k ≠ 4 → gI σ' 3 k = gI σ 3 k) ∧ FX σ σ' := fun hz => by
    obtain ⟨Q', q1, q2⟩ : ∃ Q' : Nat → Nat, Q' n = p ∧ ∀ i, i < n → Q' i = Q i := ⟨fun i => if i = n then p else Q i, if_pos rfl, fun i hi => if_neg (by omega)⟩
    obtain ⟨G', g1, g2⟩ : ∃ G' : Nat → Nat, G' (n + 1) = p + 1 ∧ ∀ i, i ≤ n → G' i = G i := ⟨fun i => if i = n + 1 then p + 1 else G i, if_pos rfl, fun i hi => if_neg (by omega)⟩
    have e1 : dv a p 1 = (a p : Int) - 48 := by
      unfold dv
      rw [show dv a p 0 = 0 from rfl, if_pos (by rw [Nat.add_zero]; omega), Nat.add_zero]
      omega
    refine ⟨aTk σ n (iz (-2)) (iz (p : Nat)) (iz ((a p : Int) - 48)), n + 1, Q', G', ?_, eqT_aTk, C.more (by omega) (fun _ => hz) q1 q2 g1 g2, K.more q1 q2 g1 g2 (fun _ => ⟨by rw [e1], rfl⟩) (fun z => absurd hd z), fun k hk => by unfold aTk; rw [gI_sI, if_neg (fun ⟨_, z⟩ => hk z), gI_sA, gI_sA, gI_sA], FX_aTk⟩
    unfold f_Re_addDigit_27
    rw [i2, iz_neg, t_addToken K.1 (by omega), bd_eq]
  unfold f_Re_addDigit
  rw [ey, nm_eq]
  by_cases q0 : n = 0
  · rw [if_pos (by rw [i0, iz_lt (by omega) (by omega) (by omega) (by omega)]; omega)]
    refine new ?_
    by_cases q1 : p = 0
    · exact Or.inl q1
    · right
      intro z
      obtain ⟨n', e, -⟩ := C.last (by omega) z
      omega
  · have hp0 : 0 < p := by omega
    have el : iz (p : Int) - 1 = iz ((p - 1 : Nat) : Int) := by
      rw [i1, iz_sub]
      congr 1
      omega
    rw [if_neg (by rw [i0, iz_lt (by omega) (by omega) (by omega) (by omega)]; omega), el, t_letterAt T (by omega), bd_eq, t_isDigit σ (T.2.2 (p - 1) (by omega)).1, bd_eq]
    by_cases q1 : dg a (p - 1)
    · rw [if_pos (show 48 ≤ a (p - 1) ∧ a (p - 1) ≤ 57 from q1), if_neg (by decide)]
      obtain ⟨n', rfl, c1, c2, c3⟩ := C.last hp0 q1
      obtain ⟨G', g1, g2⟩ : ∃ G' : Nat → Nat, G' (n' + 1) = p + 1 ∧ ∀ i, i ≤ n' → G' i = G i := ⟨fun i => if i = n' + 1 then p + 1 else G i, if_pos rfl, fun i hi => if_neg (by omega)⟩
      obtain ⟨k1, k2, k3⟩ := K.2 n' (by omega)
      have dq : dg a (Q n') := c3 (Q n') (Nat.le_refl _) c2
      obtain ⟨k4, k5⟩ := k2 dq
      obtain ⟨m, hm⟩ : ∃ m, p = Q n' + (m + 1) := ⟨p - Q n' - 1, by omega⟩
      have em : G (n' + 1) - Q n' = m + 1 := by omega
      have em2 : G' (n' + 1) - Q n' = m + 1 + 1 := by omega
      rw [em] at k4 k5
      have hnum := (num_eq (a := a) (q := Q n') m (fun j j1 j2 => c3 j j1 (by omega))).2.1
      have d1 : dv a (Q n') (m + 1 + 1) = if 10 * dv a (Q n') (m + 1) + ((a p : Int) - 48) < 100 then 10 * dv a (Q n') (m + 1) + ((a p : Int) - 48) else 100 := by
        rw [hm]; rfl
      have g3 : gd a (Q n') (m + 1 + 1) = true ↔ (gd a (Q n') (m + 1) = true ∧ dv a (Q n') (m + 1) ≠ 0 ∧ dv a (Q n') (m + 1 + 1) ≤ 99) := by
        rw [show gd a (Q n') (m + 1 + 1) = (gd a (Q n') (m + 1) && !(decide (dv a (Q n') (m + 1) = 0)) && decide (dv a (Q n') (m + 2) ≤ 99)) from rfl]
        simp [and_assoc]
      have C' := C.digit hd c1 c3 g1 g2
      have eidx : iz (((n' + 1 : Nat) : Int) - 1) = iz (n' : Int) := by congr 1; omega
      have hdv0 : 0 ≤ dv a (Q n') (m + 1) ∧ dv a (Q n') (m + 1) ≤ 100 := by omega
      have enew : (if (10 * iz (dv a (Q n') (m + 1)) + iz ((a p : Int) - 48)) < 100 then (10 * iz (dv a (Q n') (m + 1)) + iz ((a p : Int) - 48)) else 100) = iz (dv a (Q n') (m + 1 + 1)) := by
        rw [i10, iz_mul, iz_add, i100, d1]
        by_cases z : 10 * dv a (Q n') (m + 1) + ((a p : Int) - 48) < 100
        · rw [if_pos (by rw [iz_lt (by omega) (by omega) (by omega) (by omega)]; exact z), if_pos z]
        · rw [if_neg (by rw [iz_lt (by omega) (by omega) (by omega) (by omega)]; exact z), if_neg z]
      have hdv2 : 0 ≤ dv a (Q n') (m + 1 + 1) ∧ dv a (Q n') (m + 1 + 1) ≤ 100 := by
        by_cases z : 10 * dv a (Q n') (m + 1) + ((a p : Int) - 48) < 100
        · rw [if_pos z] at d1; omega
        · rw [if_neg z] at d1; omega
      rw [eidx, ix_n (by omega) (by decide), k4, nm_eq, ix_n (by omega) (by decide), enew, nm_eq]
      -- the two memories
      have other : ∀ (σ' : Mm) (b : Int32), gI σ' 3 4 = gI σ 3 4 → gA σ' 6 = gA σ 6 → gA σ' 5 = upd (gA σ 5) n' (iz (dv a (Q n') (m + 1 + 1))) → (∀ i, i ≠ n' → gA σ' 4 i = gA σ 4 i) → gA σ' 4 n' = (if gd a (Q n') (m + 1 + 1) = true then iz (-2) else iz (-3)) → TK σ' a (n' + 1) Q G' := fun σ' b x1 x2 x3 x4 x5 => by
        refine ⟨x1.trans K.1, fun i hi => ?_⟩
        rw [x2, x3]
        by_cases e : i = n'
        · subst e
          rw [pk_us, em2, x5]
          exact ⟨k1, fun _ => ⟨rfl, rfl⟩, fun z => absurd dq z⟩
        · rw [pk_un e, x4 i e, g2 (i + 1) (by omega)]
          exact K.2 i hi
      have wrong : ∀ (_ : ¬ gd a (Q n') (m + 1 + 1) = true), ∃ σ' n2 Q' G2, f_Re_addDigit_78 (sA σ 5 n' (iz (dv a (Q n') (m + 1 + 1)))) (iz (n' : Int)) = some (0, σ') ∧ eqT σ σ' ∧ CH a (p + 1) n2 Q' G2 ∧ TK σ' a n2 Q' G2 ∧ (∀ k, k ≠ 4 → gI σ' 3 k = gI σ 3 k) ∧ FX σ σ' := fun hg => by
        refine ⟨sA (sA σ 5 n' (iz (dv a (Q n') (m + 1 + 1)))) 4 n' (-3), n' + 1, Q, G', ?_, (eqT_45 (by simp)).trans (eqT_45 (by simp)), C', other _ 0 ?_ ?_ ?_ (fun i hi => ?_) ?_, fun k hk => rfl, (FX_sA (by simp)).trans (FX_sA (by simp))⟩
        · unfold f_Re_addDigit_78
          rw [ix_n (by omega) (by decide), nm_eq]
        · rw [gI_sA, gI_sA]
        · rw [gA_sA, if_neg (by decide), gA_sA, if_neg (by decide)]
        · rw [gA_sA, if_neg (by decide), gA_sA, if_pos rfl]
        · rw [gA_sA, if_pos rfl, pk_un hi, gA_sA, if_neg (by decide)]
        · rw [gA_sA, if_pos rfl, pk_us, if_neg hg]; rfl
      by_cases q2 : dv a (Q n') (m + 1) = 0
      · rw [if_pos (by rw [q2, i0])]
        exact wrong (fun z => (g3.mp z).2.1 q2)
      · rw [if_neg (by rw [i0, iz_eq (by omega) (by omega) (by omega) (by omega)]; exact q2), ix_n (by omega) (by decide), gA_sA, if_pos rfl, pk_us]
        by_cases q3 : dv a (Q n') (m + 1 + 1) ≤ 99
        · rw [if_pos (by rw [show (99 : Int32) = iz 99 from rfl, iz_le (by omega) (by omega) (by omega) (by omega)]; exact q3)]
          refine ⟨_, n' + 1, Q, G', rfl, eqT_45 (by simp), C', other _ 0 (by rw [gI_sA]) (by rw [gA_sA, if_neg (by decide)]) (by rw [gA_sA, if_pos rfl]) (fun i hi => by rw [gA_sA, if_neg (by decide)]) ?_, fun k hk => rfl, FX_sA (by simp)⟩
          rw [gA_sA, if_neg (by decide), k5]
          by_cases z : gd a (Q n') (m + 1) = true
          · rw [if_pos z, if_pos (g3.mpr ⟨z, q2, q3⟩)]
          · rw [if_neg z, if_neg (fun y => z (g3.mp y).1)]
        · rw [if_neg (by rw [show (99 : Int32) = iz 99 from rfl, iz_le (by omega) (by omega) (by omega) (by omega)]; exact q3)]
          exact wrong (fun z => q3 (g3.mp z).2.2)
    · rw [if_neg (show ¬ (48 ≤ a (p - 1) ∧ a (p - 1) ≤ 57) from q1), if_pos rfl]
      exact new (Or.inr q1)
