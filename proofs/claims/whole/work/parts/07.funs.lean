-- TippedBarrow$Text.add
def f_Te_add (σ : Mm) (v1 : Int32) : Option (Int32 × Mm) := (if (gI σ 1 1) < 0 then some ((0 : Int32), σ) else (if (gI σ 1 1) < 120 then (ix (gI σ 1 1) 120 fun j1 => nm (sA σ 2 j1 v1) fun σ1 => (nm (sI σ1 1 1 ((gI σ1 1 1) + 1)) fun σ2 => some ((1 : Int32), σ2))) else some ((0 : Int32), σ)))
-- TippedBarrow.type
def f_T_type (σ : Mm) (v1 : Int32) : Option (Int32 × Mm) := (if v1 < 0 then some (((-1) : Int32), σ) else (if v1 ≤ 255 then (bd (f_Te_add σ v1) fun r_1 σ1 => (if r_1 = 0 then some (((-3) : Int32), σ1) else some ((gI σ1 1 1), σ1))) else some (((-1) : Int32), σ)))
-- TippedBarrow.clear
def f_T_clear (σ : Mm)  : Option (Int32 × Mm) := (nm (gI σ 1 1) fun y1 => (nm (sI σ 1 1 0) fun σ1 => some (y1, σ1)))
-- java/util/Arrays.fill
def f_Ar_fill_5_b (r0 : Nat) (n : Nat) (v1 : Int32) (v3 : Int32) (σ : Mm) (v2 : Int32) : Option ((Mm × Int32) ⊕ (Int32 × Mm)) := (if v2 < v3 then (ix v2 n fun j1 => nm (sA σ r0 j1 v1) fun σ1 => (nm (v2 + 1) fun y1 => some (Sum.inl (σ1, y1)))) else ((some ((0 : Int32), σ) : Option (Int32 × Mm)).map Sum.inr))
def f_Ar_fill_5 (σ : Mm) (r0 : Nat) (n : Nat) (v1 : Int32) (v3 : Int32) (v2 : Int32) : Option (Int32 × Mm) := lp (fun s : Mm × Int32 => f_Ar_fill_5_b r0 n v1 v3 s.1 s.2) (σ, v2)
def f_Ar_fill (σ : Mm) (r0 : Nat) (n : Nat) (v1 : Int32) : Option (Int32 × Mm) := (nm (nI n) fun y1 => f_Ar_fill_5 σ r0 n v1 y1 0)
-- TippedBarrow$Plan.empty
def f_Pl_empty (σ : Mm) (r0 : Nat) : Option (Int32 × Mm) := (bd (f_Ar_fill σ (r0 + 1) 20 100) fun r_1 σ1 => (nm (sI σ1 r0 1 0) fun σ2 => (nm (sI σ2 r0 2 0) fun σ3 => (nm (sI σ3 r0 3 (-9)) fun σ4 => (nm (sI σ4 r0 4 5) fun σ5 => (nm (sI σ5 r0 5 0) fun σ6 => some ((0 : Int32), σ6)))))))
-- TippedBarrow$Text.letterAt
def f_Te_letterAt (σ : Mm) (v1 : Int32) : Option (Int32 × Mm) := (if v1 < 0 then some (((-1) : Int32), σ) else (if v1 < (gI σ 1 1) then (if v1 < 120 then (ix v1 120 fun j1 => some ((gA σ 2 j1), σ)) else some (((-1) : Int32), σ)) else some (((-1) : Int32), σ)))
-- TippedBarrow$Reader.isDigit
def f_Re_isDigit (σ : Mm) (v0 : Int32) : Option (Int32 × Mm) := (if v0 < 48 then some ((0 : Int32), σ) else (if v0 ≤ 57 then some ((1 : Int32), σ) else some ((0 : Int32), σ)))
-- TippedBarrow$Reader.addToken
def f_Re_addToken (σ : Mm) (v1 : Int32) (v2 : Int32) (v3 : Int32) : Option (Int32 × Mm) := (if (gI σ 3 4) < 121 then (ix (gI σ 3 4) 121 fun j1 => nm (sA σ 4 j1 v1) fun σ1 => (ix (gI σ1 3 4) 121 fun j2 => nm (sA σ1 6 j2 v2) fun σ2 => (ix (gI σ2 3 4) 121 fun j3 => nm (sA σ2 5 j3 v3) fun σ3 => (nm (sI σ3 3 4 ((gI σ3 3 4) + 1)) fun σ4 => some ((0 : Int32), σ4))))) else some ((0 : Int32), σ))
-- TippedBarrow$Reader.addDigit
def f_Re_addDigit_78 (σ : Mm) (v3 : Int32) : Option (Int32 × Mm) := (ix v3 121 fun j1 => nm (sA σ 4 j1 (-3)) fun σ1 => some ((0 : Int32), σ1))
def f_Re_addDigit_27 (σ : Mm) (v1 : Int32) (v2 : Int32) : Option (Int32 × Mm) := (bd (f_Re_addToken σ (-2) v2 v1) fun r_1 σ1 => some ((0 : Int32), σ1))
def f_Re_addDigit (σ : Mm) (v1 : Int32) (v2 : Int32) : Option (Int32 × Mm) := (nm ((gI σ 3 4) - 1) fun y1 => (if y1 < 0 then f_Re_addDigit_27 σ v1 v2 else (bd (f_Te_letterAt σ (v2 - 1)) fun r_1 σ1 => (bd (f_Re_isDigit σ1 r_1) fun r_2 σ2 => (if r_2 = 0 then f_Re_addDigit_27 σ2 v1 v2 else (ix y1 121 fun j1 => (nm (gA σ2 5 j1) fun y2 => (ix y1 121 fun j2 => nm (sA σ2 5 j2 (if ((10 * y2) + v1) < 100 then ((10 * y2) + v1) else 100)) fun σ3 => (if y2 = 0 then f_Re_addDigit_78 σ3 y1 else (ix y1 121 fun j3 => (if (gA σ3 5 j3) ≤ 99 then some ((0 : Int32), σ3) else f_Re_addDigit_78 σ3 y1)))))))))))
-- TippedBarrow$Reader.split
def f_Re_split_65 (σ : Mm)  : Option (Int32 × Mm) := (bd (f_Re_addToken σ (-1) (gI σ 1 1) 0) fun r_1 σ1 => some ((0 : Int32), σ1))
def f_Re_split_7_b  (σ : Mm) (v1 : Int32) : Option ((Mm × Int32) ⊕ (Int32 × Mm)) := (if v1 < (gI σ 1 1) then (bd (f_Te_letterAt σ v1) fun r_1 σ1 => (bd (f_Re_isDigit σ1 r_1) fun r_2 σ2 => (if r_2 = 0 then (if r_1 = 32 then (nm (v1 + 1) fun y1 => some (Sum.inl (σ2, y1))) else (bd (f_Re_addToken σ2 r_1 v1 0) fun r_3 σ3 => (nm (v1 + 1) fun y2 => some (Sum.inl (σ3, y2))))) else (bd (f_Re_addDigit σ2 (r_1 - 48) v1) fun r_4 σ4 => (nm (v1 + 1) fun y3 => some (Sum.inl (σ4, y3))))))) else ((f_Re_split_65 σ : Option (Int32 × Mm)).map Sum.inr))
def f_Re_split_7 (σ : Mm) (v1 : Int32) : Option (Int32 × Mm) := lp (fun s : Mm × Int32 => f_Re_split_7_b s.1 s.2) (σ, v1)
def f_Re_split (σ : Mm)  : Option (Int32 × Mm) := (nm (sI σ 3 4 0) fun σ1 => f_Re_split_7 σ1 0)
-- TippedBarrow$Reader.isInHand
def f_Re_isInHand (σ : Mm) (v1 : Int32) : Option (Int32 × Mm) := (if (gI σ 3 5) < (gI σ 3 4) then (ix (gI σ 3 5) 121 fun j1 => (if (gA σ 4 j1) = v1 then some ((1 : Int32), σ) else some ((0 : Int32), σ))) else some ((0 : Int32), σ))
-- TippedBarrow$Reader.readNumber
def f_Re_readNumber (σ : Mm) (v1 : Int32) (v2 : Int32) : Option (Int32 × Mm) := (bd (f_Re_isInHand σ (-2)) fun r_1 σ1 => (if r_1 = 0 then some (((-1) : Int32), σ1) else (ix (gI σ1 3 5) 121 fun j1 => (if (gA σ1 5 j1) < v1 then some (((-1) : Int32), σ1) else (ix (gI σ1 3 5) 121 fun j2 => (if (gA σ1 5 j2) ≤ v2 then (ix (gI σ1 3 5) 121 fun j3 => (nm (gA σ1 5 j3) fun y1 => (nm (sI σ1 3 5 ((gI σ1 3 5) + 1)) fun σ2 => some (y1, σ2)))) else some (((-1) : Int32), σ1)))))))
-- TippedBarrow$Reader.readWide
def f_Re_readWide (σ : Mm)  : Option (Int32 × Mm) := (nm (sI σ 3 5 ((gI σ 3 5) + 1)) fun σ1 => (bd (f_Re_readNumber σ1 1 5) fun r_1 σ2 => (if r_1 < 0 then some ((0 : Int32), σ2) else (rk (gR σ2 3 6) okPl fun t1 => (nm (sI σ2 t1 1 r_1) fun σ3 => some ((1 : Int32), σ3))))))
-- TippedBarrow.cellAt
def f_T_cellAt (σ : Mm) (v0 : Int32) (v1 : Int32) : Option (Int32 × Mm) := (if v0 < 0 then some (((-1) : Int32), σ) else (if v0 < 5 then (if v1 < 0 then some (((-1) : Int32), σ) else (if v1 < 4 then some (((5 * v1) + v0), σ) else some (((-1) : Int32), σ))) else some (((-1) : Int32), σ)))
-- TippedBarrow$Reader.readCell
def f_Re_readCell (σ : Mm) (v1 : Int32) : Option (Int32 × Mm) := (bd (f_Re_isInHand σ 120) fun r_1 σ1 => (if r_1 = 0 then (bd (f_Re_readNumber σ1 0 8) fun r_2 σ2 => (if r_2 < 0 then some ((0 : Int32), σ2) else (rk (gR σ2 3 6) okPl fun t1 => (ix v1 20 fun j1 => nm (sA σ2 (t1 + 1) j1 (r_2 - 4)) fun σ3 => some ((1 : Int32), σ3))))) else (nm (sI σ1 3 5 ((gI σ1 3 5) + 1)) fun σ4 => (rk (gR σ4 3 6) okPl fun t2 => (ix v1 20 fun j2 => nm (sA σ4 (t2 + 1) j2 100) fun σ5 => some ((1 : Int32), σ5))))))
-- TippedBarrow$Reader.readRow
def f_Re_readRow_90 (σ : Mm)  : Option (Int32 × Mm) := (rk (gR σ 3 6) okPl fun t1 => (nm (sI σ t1 2 ((gI σ t1 2) + 1)) fun σ1 => some ((1 : Int32), σ1)))
def f_Re_readRow_47_b  (σ : Mm) (v1 : Int32) : Option ((Mm × Int32) ⊕ (Int32 × Mm)) := (rk (gR σ 3 6) okPl fun t1 => (if v1 < (gI σ t1 1) then (rk (gR σ 3 6) okPl fun t2 => (bd (f_T_cellAt σ v1 (gI σ t2 2)) fun r_1 σ1 => (if r_1 < 0 then ((some ((0 : Int32), σ1) : Option (Int32 × Mm)).map Sum.inr) else (bd (f_Re_readCell σ1 r_1) fun r_2 σ2 => (if r_2 = 0 then ((some ((0 : Int32), σ2) : Option (Int32 × Mm)).map Sum.inr) else (nm (v1 + 1) fun y1 => some (Sum.inl (σ2, y1)))))))) else ((f_Re_readRow_90 σ : Option (Int32 × Mm)).map Sum.inr)))
def f_Re_readRow_47 (σ : Mm) (v1 : Int32) : Option (Int32 × Mm) := lp (fun s : Mm × Int32 => f_Re_readRow_47_b s.1 s.2) (σ, v1)
def f_Re_readRow (σ : Mm)  : Option (Int32 × Mm) := (rk (gR σ 3 6) okPl fun t1 => (if (gI σ t1 1) = 0 then some ((0 : Int32), σ) else (rk (gR σ 3 6) okPl fun t2 => (if (gI σ t2 3) = (-9) then (rk (gR σ 3 6) okPl fun t3 => (if (gI σ t3 2) < 4 then (nm (sI σ 3 5 ((gI σ 3 5) + 1)) fun σ1 => f_Re_readRow_47 σ1 0) else some ((0 : Int32), σ))) else some ((0 : Int32), σ)))))
-- TippedBarrow$Reader.readStart
def f_Re_readStart (σ : Mm)  : Option (Int32 × Mm) := (rk (gR σ 3 6) okPl fun t1 => (if (gI σ t1 3) = (-9) then (nm (sI σ 3 5 ((gI σ 3 5) + 1)) fun σ1 => (rk (gR σ1 3 6) okPl fun t2 => (bd (f_Re_readNumber σ1 0 ((gI σ1 t2 1) - 1)) fun r_1 σ2 => (if r_1 < 0 then some ((0 : Int32), σ2) else (bd (f_Re_isInHand σ2 (-2)) fun r_2 σ3 => (if r_2 = 0 then some ((0 : Int32), σ3) else (ix (gI σ3 3 5) 121 fun j1 => (rk (gR σ3 3 6) okPl fun t3 => (if (gA σ3 5 j1) < (gI σ3 t3 2) then (ix (gI σ3 3 5) 121 fun j2 => (bd (f_T_cellAt σ3 r_1 (gA σ3 5 j2)) fun r_3 σ4 => (if r_3 < 0 then some ((0 : Int32), σ4) else (rk (gR σ4 3 6) okPl fun t4 => (ix r_3 20 fun j3 => (if (gA σ4 (t4 + 1) j3) = 100 then some ((0 : Int32), σ4) else (nm (sI σ4 3 5 ((gI σ4 3 5) + 1)) fun σ5 => (rk (gR σ5 3 6) okPl fun t5 => (nm (sI σ5 t5 3 r_3) fun σ6 => some ((1 : Int32), σ6)))))))))) else some ((0 : Int32), σ3)))))))))) else some ((0 : Int32), σ)))
-- TippedBarrow$Reader.readLimit
def f_Re_readLimit (σ : Mm)  : Option (Int32 × Mm) := (if (gI σ 3 7) = 0 then (nm (sI σ 3 7 1) fun σ1 => (nm (sI σ1 3 5 ((gI σ1 3 5) + 1)) fun σ2 => (bd (f_Re_readNumber σ2 2 9) fun r_1 σ3 => (if r_1 < 0 then some ((0 : Int32), σ3) else (rk (gR σ3 3 6) okPl fun t1 => (nm (sI σ3 t1 4 r_1) fun σ4 => some ((1 : Int32), σ4))))))) else some ((0 : Int32), σ))
-- TippedBarrow$Reader.readLeaning
def f_Re_readLeaning (σ : Mm)  : Option (Int32 × Mm) := (if (gI σ 3 8) = 0 then (nm (sI σ 3 8 1) fun σ1 => (nm (sI σ1 3 5 ((gI σ1 3 5) + 1)) fun σ2 => (bd (f_Re_readNumber σ2 0 4) fun r_1 σ3 => (if r_1 < 0 then some ((0 : Int32), σ3) else (rk (gR σ3 3 6) okPl fun t1 => (nm (sI σ3 t1 5 (r_1 - 2)) fun σ4 => some ((1 : Int32), σ4))))))) else some ((0 : Int32), σ))
-- TippedBarrow$Reader.readItem
def f_Re_readItem (σ : Mm) (v1 : Int32) : Option (Int32 × Mm) := (if (gI σ 3 5) < (gI σ 3 4) then (ix (gI σ 3 5) 121 fun j1 => (if (gA σ 4 j1) = 98 then (bd (f_Re_readStart σ) fun r_5 σ5 => (if r_5 = 0 ∨ r_5 = 1 then some (r_5, σ5) else none)) else (if (gA σ 4 j1) = 106 then (bd (f_Re_readLeaning σ) fun r_4 σ4 => (if r_4 = 0 ∨ r_4 = 1 then some (r_4, σ4) else none)) else (if (gA σ 4 j1) = 107 then (bd (f_Re_readLimit σ) fun r_3 σ3 => (if r_3 = 0 ∨ r_3 = 1 then some (r_3, σ3) else none)) else (if (gA σ 4 j1) = 114 then (bd (f_Re_readRow σ) fun r_2 σ2 => (if r_2 = 0 ∨ r_2 = 1 then some (r_2, σ2) else none)) else (if (gA σ 4 j1) = 119 then (if v1 = 0 then (bd (f_Re_readWide σ) fun r_1 σ1 => (if r_1 = 0 then some ((0 : Int32), σ1) else some ((1 : Int32), σ1))) else some ((0 : Int32), σ)) else some ((0 : Int32), σ))))))) else some ((0 : Int32), σ))
-- TippedBarrow$Reader.read
def f_Re_read_117 (σ : Mm) (s0 : Int32) (s1 : Int32) : Option (Int32 × Mm) := some ((s0 - s1), σ)
def f_Re_read_85 (σ : Mm)  : Option (Int32 × Mm) := (if (gI σ 3 5) < (gI σ 3 4) then (ix (gI σ 3 5) 121 fun j1 => f_Re_read_117 σ (-10) (gA σ 6 j1)) else f_Re_read_117 σ (-10) (gI σ 1 1))
def f_Re_read_66 (σ : Mm)  : Option (Int32 × Mm) := f_Re_read_85 σ
def f_Re_read_33_b  (σ : Mm) (v2 : Int32) : Option ((Mm × Int32) ⊕ (Int32 × Mm)) := (if v2 < 121 then (bd (f_Re_isInHand σ (-1)) fun r_1 σ1 => (if r_1 = 0 then (bd (f_Re_readItem σ1 v2) fun r_2 σ2 => (if r_2 = 0 then ((f_Re_read_85 σ2 : Option (Int32 × Mm)).map Sum.inr) else (bd (f_Re_isInHand σ2 59) fun r_3 σ3 => (if r_3 = 0 then ((f_Re_read_66 σ3 : Option (Int32 × Mm)).map Sum.inr) else (nm (sI σ3 3 5 ((gI σ3 3 5) + 1)) fun σ4 => (nm (v2 + 1) fun y1 => some (Sum.inl (σ4, y1)))))))) else ((some (v2, σ1) : Option (Int32 × Mm)).map Sum.inr))) else ((f_Re_read_85 σ : Option (Int32 × Mm)).map Sum.inr))
def f_Re_read_33 (σ : Mm) (v2 : Int32) : Option (Int32 × Mm) := lp (fun s : Mm × Int32 => f_Re_read_33_b s.1 s.2) (σ, v2)
def f_Re_read (σ : Mm) (r1 : Nat) : Option (Int32 × Mm) := (nm (sR σ 3 6 (some r1)) fun σ1 => (rk (gR σ1 3 6) okPl fun t1 => (bd (f_Pl_empty σ1 t1) fun r_1 σ2 => (nm (sI σ2 3 7 0) fun σ3 => (nm (sI σ3 3 8 0) fun σ4 => (nm (sI σ4 3 5 0) fun σ5 => (bd (f_Re_split σ5) fun r_2 σ6 => f_Re_read_33 σ6 0)))))))
-- TippedBarrow$Moment.begin
def f_Mo_begin (σ : Mm) (r0 : Nat) (r1 : Nat) : Option (Int32 × Mm) := (nm (sAs σ (r0 + 1) (va_cpy (gA σ (r1 + 1)) (gA σ (r0 + 1)) (0 : Int32).toNatClampNeg (0 : Int32).toNatClampNeg (20 : Int32).toNatClampNeg)) fun σ1 => (bd (f_Ar_fill σ1 (r0 + 2) 2 0) fun r_1 σ2 => (bd (f_Ar_fill σ2 (r0 + 3) 2 0) fun r_2 σ3 => (nm (sI σ3 r0 3 (gI σ3 r1 3)) fun σ4 => (nm (sI σ4 r0 4 0) fun σ5 => (nm (sI σ5 r0 5 0) fun σ6 => some ((0 : Int32), σ6)))))))
-- TippedBarrow$Ground.isBrick
def f_Gr_isBrick (σ : Mm) (r0 : Nat) (v1 : Int32) : Option (Int32 × Mm) := (if v1 < 0 then some ((1 : Int32), σ) else (if v1 < 20 then (ix v1 20 fun j1 => (if (gA σ (gTl r0) j1) = 100 then some ((1 : Int32), σ) else some ((0 : Int32), σ))) else some ((1 : Int32), σ)))
-- TippedBarrow$Ground.survey
def f_Gr_survey_67 (σ : Mm) (r0 : Nat) (v2 : Int32) (s1 : Int32) (s2 : Int32) : Option ((Mm × Int32) ⊕ ((Mm × Int32) ⊕ (Int32 × Mm))) := (ix s1 80 fun j1 => nm (sA σ (r0 + 1) j1 s2) fun σ1 => (nm (v2 + 1) fun y1 => some (Sum.inl (σ1, y1))))
def f_Gr_survey_62 (σ : Mm) (r0 : Nat) (v2 : Int32) (s1 : Int32) : Option ((Mm × Int32) ⊕ ((Mm × Int32) ⊕ (Int32 × Mm))) := f_Gr_survey_67 σ r0 v2 s1 (-1)
def f_Gr_survey_10_b (r0 : Nat) (v1 : Int32) (σ : Mm) (v2 : Int32) : Option ((Mm × Int32) ⊕ ((Mm × Int32) ⊕ (Int32 × Mm))) := (if v2 < 4 then (ix v2 4 fun j1 => (ix v2 4 fun j2 => (bd (f_T_cellAt σ ((rm32 v1 5) + (stepXI j1)) ((v1 / 5) + (stepYI j2))) fun r_1 σ1 => (bd (f_Gr_isBrick σ1 r0 v1) fun r_2 σ2 => (if r_2 = 0 then (bd (f_Gr_isBrick σ2 r0 r_1) fun r_3 σ3 => (if r_3 = 0 then f_Gr_survey_67 σ3 r0 v2 ((4 * v1) + v2) r_1 else f_Gr_survey_62 σ3 r0 v2 ((4 * v1) + v2))) else f_Gr_survey_62 σ2 r0 v2 ((4 * v1) + v2)))))) else (((nm (v1 + 1) fun y1 => some (Sum.inl (σ, y1))) : Option ((Mm × Int32) ⊕ (Int32 × Mm))).map Sum.inr))
def f_Gr_survey_10 (σ : Mm) (r0 : Nat) (v1 : Int32) (v2 : Int32) : Option ((Mm × Int32) ⊕ (Int32 × Mm)) := lp (fun s : Mm × Int32 => f_Gr_survey_10_b r0 v1 s.1 s.2) (σ, v2)
def f_Gr_survey_2_b (r0 : Nat) (σ : Mm) (v1 : Int32) : Option ((Mm × Int32) ⊕ (Int32 × Mm)) := (if v1 < 20 then f_Gr_survey_10 σ r0 v1 0 else ((some ((0 : Int32), σ) : Option (Int32 × Mm)).map Sum.inr))
def f_Gr_survey_2 (σ : Mm) (r0 : Nat) (v1 : Int32) : Option (Int32 × Mm) := lp (fun s : Mm × Int32 => f_Gr_survey_2_b r0 s.1 s.2) (σ, v1)
def f_Gr_survey (σ : Mm) (r0 : Nat) : Option (Int32 × Mm) := f_Gr_survey_2 σ r0 0
-- TippedBarrow.yard
def f_T_yard_105_b (v1 : Int32) (σ : Mm) (v3 : Int32) : Option ((Mm × Int32) ⊕ (Int32 × Mm)) := (if v3 < 2 then (ix v3 2 fun j1 => nm (sA σ 19 j1 0) fun σ1 => (nm (v3 + 1) fun y1 => some (Sum.inl (σ1, y1)))) else ((some (v1, σ) : Option (Int32 × Mm)).map Sum.inr))
def f_T_yard_105 (σ : Mm) (v1 : Int32) (v3 : Int32) : Option (Int32 × Mm) := lp (fun s : Mm × Int32 => f_T_yard_105_b v1 s.1 s.2) (σ, v3)
def f_T_yard (σ : Mm)  : Option (Int32 × Mm) := (rk (gR σ 0 3) okPl fun t1 => (bd (f_Re_read σ t1) fun r_1 σ1 => (if r_1 < 0 then some (r_1, σ1) else (rk (gR σ1 0 2) okPl fun t2 => (rk (gR σ1 0 3) okPl fun t3 => (nm (sR σ1 0 2 (some t3)) fun σ2 => (nm (sR σ2 0 3 (some t2)) fun σ3 => (nm (sI σ3 1 1 0) fun σ4 => (rk (gR σ4 0 2) okPl fun t4 => (nm (sI σ4 11 2 (gI σ4 t4 4)) fun σ5 => (rk (gR σ5 0 2) okPl fun t5 => (nm (sI σ5 11 3 (gI σ5 t5 5)) fun σ6 => (rk (gR σ6 0 2) okPl fun t6 => (bd (f_Mo_begin σ6 36 t6) fun r_2 σ7 => (bd (f_Gr_survey σ7 11) fun r_3 σ8 => (nm (sI σ8 16 2 0) fun σ9 => (nm (sI σ9 0 11 0) fun σ10 => f_T_yard_105 σ10 r_1 0)))))))))))))))))
-- TippedBarrow.tilt
def f_T_tilt (σ : Mm) (v1 : Int32) (v2 : Int32) : Option (Int32 × Mm) := (bd (f_T_cellAt σ v1 v2) fun r_1 σ1 => (bd (f_Gr_isBrick σ1 11 r_1) fun r_2 σ2 => (if r_2 = 0 then (ix r_1 20 fun j1 => some ((gA σ2 37 j1), σ2)) else some (((-1000000) : Int32), σ2))))
-- TippedBarrow.now
def f_T_now (σ : Mm) (v1 : Int32) : Option (Int32 × Mm) := (if v1 = 0 then some ((gI σ 36 3), σ) else (if v1 = 1 then some ((gI σ 36 4), σ) else (if v1 = 2 then some ((gI σ 36 5), σ) else (if v1 = 3 then (ix 0 2 fun j4 => some ((gA σ 38 j4), σ)) else (if v1 = 4 then (ix 1 2 fun j3 => some ((gA σ 38 j3), σ)) else (if v1 = 5 then (ix 0 2 fun j2 => some ((gA σ 39 j2), σ)) else (if v1 = 6 then (ix 1 2 fun j1 => some ((gA σ 39 j1), σ)) else (if v1 = 7 then some ((gI σ 16 2), σ) else some (((-1000000) : Int32), σ)))))))))
-- TippedBarrow.hasNoStart
def f_T_hasNoStart (σ : Mm)  : Option (Int32 × Mm) := (rk (gR σ 0 2) okPl fun t1 => (if (gI σ t1 3) = (-9) then some ((1 : Int32), σ) else some ((0 : Int32), σ)))
-- TippedBarrow.isNoWay
def f_T_isNoWay (σ : Mm) (v0 : Int32) : Option (Int32 × Mm) := (if v0 < 0 then some ((1 : Int32), σ) else (if v0 < 4 then some ((0 : Int32), σ) else some ((1 : Int32), σ)))
-- TippedBarrow$Ground.beyond
def f_Gr_beyond (σ : Mm) (r0 : Nat) (v1 : Int32) (v2 : Int32) : Option (Int32 × Mm) := (if v1 < 0 then some (((-1) : Int32), σ) else (if v1 < 20 then (if v2 < 0 then some (((-1) : Int32), σ) else (if v2 < 4 then (ix ((4 * v1) + v2) 80 fun j1 => some ((gA σ (r0 + 1) j1), σ)) else some (((-1) : Int32), σ))) else some (((-1) : Int32), σ)))
-- TippedBarrow.nextCell
def f_T_nextCell (σ : Mm) (v1 : Int32) : Option (Int32 × Mm) := (bd (f_T_hasNoStart σ) fun r_1 σ1 => (if r_1 = 0 then (ix 0 2 fun j1 => (if (gA σ1 38 j1) < 999 then (ix 1 2 fun j2 => (if (gA σ1 38 j2) < 999 then (bd (f_Gr_beyond σ1 11 (gI σ1 36 3) v1) fun r_2 σ2 => some (r_2, σ2)) else some (((-1) : Int32), σ1))) else some (((-1) : Int32), σ1))) else some (((-1) : Int32), σ1)))
-- TippedBarrow$Moment.become
def f_Mo_become (σ : Mm) (r0 : Nat) (r1 : Nat) : Option (Int32 × Mm) := (nm (sAs σ (r0 + 1) (va_cpy (gA σ (r1 + 1)) (gA σ (r0 + 1)) (0 : Int32).toNatClampNeg (0 : Int32).toNatClampNeg (20 : Int32).toNatClampNeg)) fun σ1 => (nm (sAs σ1 (r0 + 2) (va_cpy (gA σ1 (r1 + 2)) (gA σ1 (r0 + 2)) (0 : Int32).toNatClampNeg (0 : Int32).toNatClampNeg (2 : Int32).toNatClampNeg)) fun σ2 => (nm (sAs σ2 (r0 + 3) (va_cpy (gA σ2 (r1 + 3)) (gA σ2 (r0 + 3)) (0 : Int32).toNatClampNeg (0 : Int32).toNatClampNeg (2 : Int32).toNatClampNeg)) fun σ3 => (nm (sI σ3 r0 3 (gI σ3 r1 3)) fun σ4 => (nm (sI σ4 r0 4 (gI σ4 r1 4)) fun σ5 => (nm (sI σ5 r0 5 (gI σ5 r1 5)) fun σ6 => some ((0 : Int32), σ6)))))))
-- TippedBarrow$History.save
def f_Hi_save (σ : Mm) (r1 : Nat) : Option (Int32 × Mm) := (nm (sI σ 16 1 (rm32 ((gI σ 16 1) + 1) 10)) fun σ1 => (ix (gI σ1 16 1) 10 fun j1 => (bd (f_Mo_become σ1 (40 + 4 * j1) r1) fun r_1 σ2 => (nm (sI σ2 16 2 (if ((gI σ2 16 2) + 1) < 10 then ((gI σ2 16 2) + 1) else 10)) fun σ3 => some ((0 : Int32), σ3)))))
-- TippedBarrow$Ground.gain
def f_Gr_gain (σ : Mm) (r0 : Nat) (v1 : Int32) : Option (Int32 × Mm) := (bd (f_Gr_isBrick σ r0 v1) fun r_1 σ1 => (if r_1 = 0 then (ix v1 20 fun j1 => some (((gA σ1 (gTl r0) j1) + (gI σ1 r0 3)), σ1)) else some ((0 : Int32), σ1)))
-- TippedBarrow$Ground.leanOn
def f_Gr_leanOn (σ : Mm) (r0 : Nat) (v1 : Int32) (v2 : Int32) : Option (Int32 × Mm) := (bd (f_Gr_gain σ r0 v1) fun r_1 σ1 => some ((v2 + r_1), σ1))
-- TippedBarrow$Ground.verdict
def f_Gr_verdict (σ : Mm) (r0 : Nat) (v1 : Int32) : Option (Int32 × Mm) := (if v1 ≤ (-(gI σ r0 2)) then some ((1 : Int32), σ) else (if v1 < (gI σ r0 2) then some ((0 : Int32), σ) else some ((2 : Int32), σ)))
-- TippedBarrow$Moment.tip
def f_Mo_tip_84 (σ : Mm) (r0 : Nat) (s1 : Int32) : Option (Int32 × Mm) := (nm (sI σ r0 5 s1) fun σ1 => some ((0 : Int32), σ1))
def f_Mo_tip_50 (σ : Mm) (r0 : Nat) (v2 : Int32) (v3 : Int32) (s1 : Int32) : Option (Int32 × Mm) := (ix s1 2 fun j1 => (ix s1 2 fun j2 => nm (sA σ (r0 + 2) j2 ((gA σ (r0 + 2) j1) + 1)) fun σ1 => (bd (f_Ar_fill σ1 (r0 + 3) 2 0) fun r_1 σ2 => (nm (sI σ2 r0 3 v3) fun σ3 => (nm (sI σ3 r0 4 0) fun σ4 => (if v2 = 1 then f_Mo_tip_84 σ4 r0 1 else f_Mo_tip_84 σ4 r0 0))))))
def f_Mo_tip_16 (σ : Mm) (r0 : Nat) (v1 : Int32) (v2 : Int32) (v3 : Int32) (s0 : Int32) (s1 : Int32) : Option (Int32 × Mm) := (nm (s0 + s1) fun y1 => (ix v1 20 fun j1 => nm (sA σ (r0 + 1) j1 (if (-4) < (if y1 < 4 then y1 else 4) then (if y1 < 4 then y1 else 4) else (-4))) fun σ1 => (if v2 = 1 then f_Mo_tip_50 σ1 r0 v2 v3 0 else f_Mo_tip_50 σ1 r0 v2 v3 1)))
def f_Mo_tip (σ : Mm) (r0 : Nat) (v1 : Int32) (v2 : Int32) (v3 : Int32) : Option (Int32 × Mm) := (ix v1 20 fun j1 => (if v2 = 1 then f_Mo_tip_16 σ r0 v1 v2 v3 (gA σ (r0 + 1) j1) (-1) else f_Mo_tip_16 σ r0 v1 v2 v3 (gA σ (r0 + 1) j1) 1))
-- TippedBarrow.pushes
def f_T_pushes (σ : Mm) (v1 : Int32) : Option (Int32 × Mm) := (bd (f_T_isNoWay σ v1) fun r_1 σ1 => (if r_1 = 0 then (bd (f_T_nextCell σ1 v1) fun r_2 σ2 => (if r_2 < 0 then some (((-2) : Int32), σ2) else (bd (f_Hi_save σ2 36) fun r_3 σ3 => (bd (f_Gr_leanOn σ3 11 r_2 (gI σ3 36 4)) fun r_4 σ4 => (bd (f_Gr_verdict σ4 11 r_4) fun r_5 σ5 => (if r_5 = 0 then (nm (sI σ5 36 3 r_2) fun σ7 => (nm (sI σ7 36 4 r_4) fun σ8 => (nm (sI σ8 36 5 (1 - (gI σ8 36 5))) fun σ9 => some (r_5, σ9)))) else (rk (gR σ5 0 2) okPl fun t1 => (bd (f_Mo_tip σ5 36 r_2 r_5 (gI σ5 t1 3)) fun r_6 σ6 => some (r_5, σ6))))))))) else some (((-1) : Int32), σ1)))
-- TippedBarrow.objects
def f_T_objects (σ : Mm)  : Option (Int32 × Mm) := (nm (gI σ 36 5) fun y1 => (bd (f_T_hasNoStart σ) fun r_1 σ1 => (if r_1 = 0 then (ix y1 2 fun j1 => (if (gA σ1 39 j1) < 3 then (bd (f_Hi_save σ1 36) fun r_2 σ2 => (ix y1 2 fun j2 => (ix y1 2 fun j3 => nm (sA σ2 39 j3 ((gA σ2 39 j2) + 1)) fun σ3 => (nm (sI σ3 36 5 (1 - y1)) fun σ4 => some ((gI σ4 36 5), σ4))))) else some (((-2) : Int32), σ1))) else some (((-2) : Int32), σ1))))
-- TippedBarrow.evens
def f_T_evens_30 (σ : Mm)  : Option (Int32 × Mm) := some (((-1000000) : Int32), σ)
def f_T_evens (σ : Mm) (v1 : Int32) (v2 : Int32) (v3 : Int32) : Option (Int32 × Mm) := (bd (f_T_cellAt σ v1 v2) fun r_1 σ1 => (bd (f_Gr_isBrick σ1 11 r_1) fun r_2 σ2 => (if r_2 = 0 then (if v3 < (-4) then f_T_evens_30 σ2 else (if v3 ≤ 4 then (ix r_1 20 fun j1 => (nm (gA σ2 37 j1) fun y1 => (if y1 = v3 then some (((-1000000) : Int32), σ2) else (bd (f_Hi_save σ2 36) fun r_3 σ3 => (ix r_1 20 fun j2 => nm (sA σ3 37 j2 v3) fun σ4 => some (y1, σ4)))))) else f_T_evens_30 σ2)) else f_T_evens_30 σ2)))
-- TippedBarrow$History.restore
def f_Hi_restore (σ : Mm) (r1 : Nat) : Option (Int32 × Mm) := (if (gI σ 16 2) ≤ 0 then some ((0 : Int32), σ) else (ix (gI σ 16 1) 10 fun j1 => (bd (f_Mo_become σ r1 (40 + 4 * j1)) fun r_1 σ1 => (nm (sI σ1 16 1 (rm32 (((gI σ1 16 1) + 10) - 1) 10)) fun σ2 => (nm (sI σ2 16 2 ((gI σ2 16 2) - 1)) fun σ3 => some ((1 : Int32), σ3))))))
-- TippedBarrow.undo
def f_T_undo (σ : Mm)  : Option (Int32 × Mm) := (bd (f_Hi_restore σ 36) fun r_1 σ1 => (if r_1 = 0 then some (((-2) : Int32), σ1) else some ((gI σ1 16 2), σ1)))
-- TippedBarrow.would
def f_T_would (σ : Mm) (v1 : Int32) : Option (Int32 × Mm) := (bd (f_T_isNoWay σ v1) fun r_1 σ1 => (if r_1 = 0 then (bd (f_T_nextCell σ1 v1) fun r_2 σ2 => (if r_2 < 0 then some (((-2) : Int32), σ2) else (bd (f_Gr_leanOn σ2 11 r_2 (gI σ2 36 4)) fun r_3 σ3 => (bd (f_Gr_verdict σ3 11 r_3) fun r_4 σ4 => some (r_4, σ4))))) else some (((-1) : Int32), σ1)))
-- TippedBarrow.spotOf
def f_T_spotOf (σ : Mm) (v0 : Int32) (v1 : Int32) : Option (Int32 × Mm) := (if v0 < 0 then some (((-1) : Int32), σ) else (if v0 < 20 then (if v1 < (-8) then some (((-1) : Int32), σ) else (if v1 ≤ 8 then some ((((17 * v0) + v1) + 8), σ) else some (((-1) : Int32), σ))) else some (((-1) : Int32), σ)))
-- TippedBarrow$Contest.stateOf
def f_Co_stateOf (σ : Mm) (v0 : Int32) (v1 : Int32) (v2 : Int32) : Option (Int32 × Mm) := (bd (f_T_spotOf σ v0 v1) fun r_1 σ1 => (if r_1 < 0 then some (((-1) : Int32), σ1) else (if v2 < 0 then some (((-1) : Int32), σ1) else (if v2 ≤ 1 then some (((2 * r_1) + v2), σ1) else some (((-1) : Int32), σ1)))))
-- TippedBarrow$Contest.sideOf
def f_Co_sideOf (σ : Mm) (v0 : Int32) : Option (Int32 × Mm) := some ((v0 + 1), σ)
-- TippedBarrow$Contest.settle
def f_Co_settle (σ : Mm) (v1 : Int32) (v2 : Int32) (v3 : Int32) : Option (Int32 × Mm) := (ix v1 680 fun j1 => nm (sA σ 22 j1 v2) fun σ1 => (ix v1 680 fun j2 => nm (sA σ1 23 j2 v3) fun σ2 => (if (gI σ2 21 4) < 680 then (ix (gI σ2 21 4) 680 fun j3 => nm (sA σ2 25 j3 v1) fun σ3 => (nm (sI σ3 21 4 ((gI σ3 21 4) + 1)) fun σ4 => some ((0 : Int32), σ4))) else some ((0 : Int32), σ2))))
-- TippedBarrow$Contest.lookOnePushAhead
def f_Co_lookOnePushAhead_165 (σ : Mm) (v6 : Int32) (s1 : Int32) (s2 : Int32) (s3 : Int32) : Option ((Mm × Int32) ⊕ (Int32 × Mm)) := (bd (f_Co_settle σ s1 s2 s3) fun r_1 σ1 => (nm (v6 + 1) fun y1 => some (Sum.inl (σ1, y1))))
def f_Co_lookOnePushAhead_83_b (v1 : Int32) (v2 : Int32) (v3 : Int32) (v4 : Int32) (v5 : Int32) (σ : Mm) (v6 : Int32) : Option ((Mm × Int32) ⊕ (Int32 × Mm)) := (if v6 < 2 then (bd (f_Co_stateOf σ v1 v2 v6) fun r_1 σ1 => (if r_1 < 0 then (nm (v6 + 1) fun y3 => some (Sum.inl (σ1, y3))) else (ix r_1 680 fun j1 => nm (sA σ1 24 j1 v4) fun σ2 => (bd (f_Co_sideOf σ2 v6) fun r_2 σ3 => (if (v5 &&& r_2) = 0 then (if v4 = 0 then (bd (f_Co_sideOf σ3 (1 - v6)) fun r_3 σ4 => (if v3 = 0 then f_Co_lookOnePushAhead_165 σ4 v6 r_1 r_3 0 else f_Co_lookOnePushAhead_165 σ4 v6 r_1 r_3 1)) else (nm (v6 + 1) fun y1 => some (Sum.inl (σ3, y1)))) else (bd (f_Co_sideOf σ3 v6) fun r_4 σ5 => (bd (f_Co_settle σ5 r_1 r_4 1) fun r_5 σ6 => (nm (v6 + 1) fun y2 => some (Sum.inl (σ6, y2)))))))))) else ((some ((0 : Int32), σ) : Option (Int32 × Mm)).map Sum.inr))
def f_Co_lookOnePushAhead_83 (σ : Mm) (v1 : Int32) (v2 : Int32) (v3 : Int32) (v4 : Int32) (v5 : Int32) (v6 : Int32) : Option (Int32 × Mm) := lp (fun s : Mm × Int32 => f_Co_lookOnePushAhead_83_b v1 v2 v3 v4 v5 s.1 s.2) (σ, v6)
def f_Co_lookOnePushAhead_80 (σ : Mm) (v1 : Int32) (v2 : Int32) (v3 : Int32) (v4 : Int32) (v5 : Int32) : Option (Int32 × Mm) := f_Co_lookOnePushAhead_83 σ v1 v2 v3 v4 v5 0
def f_Co_lookOnePushAhead_67 (σ : Mm) (v3 : Int32) (v4 : Int32) (v5 : Int32) (v6 : Int32) (v8 : Int32) : Option ((Mm × Int32 × Int32 × Int32 × Int32) ⊕ (Int32 × Mm)) := (nm (v5 ||| v8) fun y1 => (nm (v6 + 1) fun y2 => some (Sum.inl (σ, v3, v4, y1, y2))))
def f_Co_lookOnePushAhead_11_b (v1 : Int32) (v2 : Int32) (σ : Mm) (v3 : Int32) (v4 : Int32) (v5 : Int32) (v6 : Int32) : Option ((Mm × Int32 × Int32 × Int32 × Int32) ⊕ (Int32 × Mm)) := (if v6 < 4 then (rk (gR σ 21 5) okGr fun t1 => (bd (f_Gr_beyond σ t1 v1 v6) fun r_1 σ1 => (if r_1 < 0 then (nm (v6 + 1) fun y3 => some (Sum.inl (σ1, v3, v4, v5, y3))) else (nm (v3 + 1) fun y1 => (rk (gR σ1 21 5) okGr fun t2 => (rk (gR σ1 21 5) okGr fun t3 => (bd (f_Gr_leanOn σ1 t3 r_1 v2) fun r_2 σ2 => (bd (f_Gr_verdict σ2 t2 r_2) fun r_3 σ3 => (if r_3 = 0 then (nm (v4 + 1) fun y2 => f_Co_lookOnePushAhead_67 σ3 y1 y2 v5 v6 r_3) else f_Co_lookOnePushAhead_67 σ3 y1 v4 v5 v6 r_3))))))))) else ((f_Co_lookOnePushAhead_80 σ v1 v2 v3 v4 v5 : Option (Int32 × Mm)).map Sum.inr))
def f_Co_lookOnePushAhead_11 (σ : Mm) (v1 : Int32) (v2 : Int32) (v3 : Int32) (v4 : Int32) (v5 : Int32) (v6 : Int32) : Option (Int32 × Mm) := lp (fun s : Mm × Int32 × Int32 × Int32 × Int32 => f_Co_lookOnePushAhead_11_b v1 v2 s.1 s.2.1 s.2.2.1 s.2.2.2.1 s.2.2.2.2) (σ, v3, v4, v5, v6)
def f_Co_lookOnePushAhead (σ : Mm) (v1 : Int32) (v2 : Int32) : Option (Int32 × Mm) := f_Co_lookOnePushAhead_11 σ v1 v2 0 0 0 0
-- TippedBarrow.cellOf
def f_T_cellOf (σ : Mm) (v0 : Int32) : Option (Int32 × Mm) := some ((v0 / 17), σ)
-- TippedBarrow.leanOf
def f_T_leanOf (σ : Mm) (v0 : Int32) : Option (Int32 × Mm) := some (((rm32 v0 17) - 8), σ)
-- TippedBarrow$Contest.settleFrom
def f_Co_settleFrom_29 (σ : Mm) (v1 : Int32) (v2 : Int32) (v3 : Int32) : Option (Int32 × Mm) := (bd (f_Co_settle σ v1 v2 v3) fun r_1 σ1 => some ((0 : Int32), σ1))
def f_Co_settleFrom (σ : Mm) (v1 : Int32) (v2 : Int32) (v3 : Int32) : Option (Int32 × Mm) := (ix v1 680 fun j1 => (ix v1 680 fun j2 => nm (sA σ 24 j2 ((gA σ 24 j1) - 1)) fun σ1 => (bd (f_Co_sideOf σ1 (rm32 v1 2)) fun r_1 σ2 => (if v2 = r_1 then f_Co_settleFrom_29 σ2 v1 v2 v3 else (ix v1 680 fun j3 => (if (gA σ2 24 j3) = 0 then f_Co_settleFrom_29 σ2 v1 v2 v3 else some ((0 : Int32), σ2)))))))
-- TippedBarrow$Contest.passBack
def f_Co_passBack_38_b (v1 : Int32) (v2 : Int32) (v3 : Int32) (σ : Mm) (v4 : Int32) : Option ((Mm × Int32) ⊕ (Int32 × Mm)) := (if v4 < 4 then (rk (gR σ 21 5) okGr fun t1 => (bd (f_Gr_beyond σ t1 v2 v4) fun r_1 σ1 => (bd (f_Co_stateOf σ1 r_1 v3 (1 - (rm32 v1 2))) fun r_2 σ2 => (if r_2 < 0 then (nm (v4 + 1) fun y1 => some (Sum.inl (σ2, y1))) else (ix r_2 680 fun j1 => (if (gA σ2 22 j1) = 0 then (ix v1 680 fun j2 => (ix v1 680 fun j3 => (bd (f_Co_settleFrom σ2 r_2 (gA σ2 22 j2) ((gA σ2 23 j3) + 1)) fun r_3 σ3 => (nm (v4 + 1) fun y3 => some (Sum.inl (σ3, y3)))))) else (nm (v4 + 1) fun y2 => some (Sum.inl (σ2, y2))))))))) else ((some ((0 : Int32), σ) : Option (Int32 × Mm)).map Sum.inr))
def f_Co_passBack_38 (σ : Mm) (v1 : Int32) (v2 : Int32) (v3 : Int32) (v4 : Int32) : Option (Int32 × Mm) := lp (fun s : Mm × Int32 => f_Co_passBack_38_b v1 v2 v3 s.1 s.2) (σ, v4)
def f_Co_passBack (σ : Mm) (v1 : Int32) : Option (Int32 × Mm) := (bd (f_T_cellOf σ (v1 / 2)) fun r_1 σ1 => (bd (f_T_leanOf σ1 (v1 / 2)) fun r_2 σ2 => (rk (gR σ2 21 5) okGr fun t1 => (bd (f_Gr_gain σ2 t1 r_1) fun r_3 σ3 => (nm (r_2 - r_3) fun y1 => (rk (gR σ3 21 5) okGr fun t2 => (bd (f_Gr_verdict σ3 t2 y1) fun r_4 σ4 => (if r_4 = 0 then f_Co_passBack_38 σ4 v1 r_1 y1 0 else some ((0 : Int32), σ4)))))))))
-- TippedBarrow$Contest.solve
def f_Co_solve_80_b  (σ : Mm) (v2 : Int32) : Option ((Mm × Int32) ⊕ (Int32 × Mm)) := (if v2 < (gI σ 21 4) then (if v2 < 680 then (ix v2 680 fun j1 => (bd (f_Co_passBack σ (gA σ 25 j1)) fun r_1 σ1 => (nm (v2 + 1) fun y1 => some (Sum.inl (σ1, y1))))) else ((some ((0 : Int32), σ) : Option (Int32 × Mm)).map Sum.inr)) else ((some ((0 : Int32), σ) : Option (Int32 × Mm)).map Sum.inr))
def f_Co_solve_80 (σ : Mm) (v2 : Int32) : Option (Int32 × Mm) := lp (fun s : Mm × Int32 => f_Co_solve_80_b s.1 s.2) (σ, v2)
def f_Co_solve_78 (σ : Mm)  : Option (Int32 × Mm) := f_Co_solve_80 σ 0
def f_Co_solve_43_b (v2 : Int32) (σ : Mm) (v3 : Int32) : Option ((Mm × Int32) ⊕ ((Mm × Int32) ⊕ (Int32 × Mm))) := (if v3 ≤ 8 then (rk (gR σ 21 5) okGr fun t1 => (bd (f_Gr_verdict σ t1 v3) fun r_1 σ1 => (if r_1 = 0 then (bd (f_Co_lookOnePushAhead σ1 v2 v3) fun r_2 σ2 => (nm (v3 + 1) fun y3 => some (Sum.inl (σ2, y3)))) else (nm (v3 + 1) fun y2 => some (Sum.inl (σ1, y2)))))) else (((nm (v2 + 1) fun y1 => some (Sum.inl (σ, y1))) : Option ((Mm × Int32) ⊕ (Int32 × Mm))).map Sum.inr))
def f_Co_solve_43 (σ : Mm) (v2 : Int32) (v3 : Int32) : Option ((Mm × Int32) ⊕ (Int32 × Mm)) := lp (fun s : Mm × Int32 => f_Co_solve_43_b v2 s.1 s.2) (σ, v3)
def f_Co_solve_20_b  (σ : Mm) (v2 : Int32) : Option ((Mm × Int32) ⊕ (Int32 × Mm)) := (if v2 < 20 then (rk (gR σ 21 5) okGr fun t1 => (bd (f_Gr_isBrick σ t1 v2) fun r_1 σ1 => (if r_1 = 0 then f_Co_solve_43 σ1 v2 (-8) else (nm (v2 + 1) fun y1 => some (Sum.inl (σ1, y1)))))) else ((f_Co_solve_78 σ : Option (Int32 × Mm)).map Sum.inr))
def f_Co_solve_20 (σ : Mm) (v2 : Int32) : Option (Int32 × Mm) := lp (fun s : Mm × Int32 => f_Co_solve_20_b s.1 s.2) (σ, v2)
def f_Co_solve (σ : Mm) (r1 : Nat) : Option (Int32 × Mm) := (nm (sR σ 21 5 (some r1)) fun σ1 => (nm (sI σ1 21 4 0) fun σ2 => (bd (f_Ar_fill σ2 22 680 0) fun r_1 σ3 => f_Co_solve_20 σ3 0)))
-- TippedBarrow$Contest.winner
def f_Co_winner (σ : Mm) (v1 : Int32) (v2 : Int32) (v3 : Int32) : Option (Int32 × Mm) := (bd (f_Co_stateOf σ v1 v2 v3) fun r_1 σ1 => (if r_1 < 0 then some ((0 : Int32), σ1) else (ix r_1 680 fun j1 => some ((gA σ1 22 j1), σ1))))
-- TippedBarrow$Contest.length
def f_Co_length (σ : Mm) (v1 : Int32) (v2 : Int32) (v3 : Int32) : Option (Int32 × Mm) := (bd (f_Co_stateOf σ v1 v2 v3) fun r_1 σ1 => (if r_1 < 0 then some ((0 : Int32), σ1) else (ix r_1 680 fun j1 => some ((gA σ1 23 j1), σ1))))
-- TippedBarrow.game
def f_T_game (σ : Mm) (v1 : Int32) : Option (Int32 × Mm) := (if v1 < 0 then some (((-1) : Int32), σ) else (if v1 ≤ 1 then (bd (f_T_hasNoStart σ) fun r_1 σ1 => (if r_1 = 0 then (bd (f_Co_solve σ1 11) fun r_2 σ2 => (bd (f_Co_winner σ2 (gI σ2 36 3) (gI σ2 36 4) (gI σ2 36 5)) fun r_3 σ3 => (if v1 = 0 then some (r_3, σ3) else (if r_3 = 0 then some (((-9) : Int32), σ3) else (bd (f_Co_length σ3 (gI σ3 36 3) (gI σ3 36 4) (gI σ3 36 5)) fun r_4 σ4 => some (r_4, σ4)))))) else some (((-2) : Int32), σ1))) else some (((-1) : Int32), σ)))
-- TippedBarrow.comesSo
def f_T_comesSo (σ : Mm) (v1 : Int32) : Option (Int32 × Mm) := (bd (f_Co_winner σ (gI σ 36 3) (gI σ 36 4) (gI σ 36 5)) fun r_1 σ1 => (bd (f_Co_length σ1 (gI σ1 36 3) (gI σ1 36 4) (gI σ1 36 5)) fun r_2 σ2 => (bd (f_Gr_leanOn σ2 11 v1 (gI σ2 36 4)) fun r_3 σ3 => (bd (f_Gr_verdict σ3 11 r_3) fun r_4 σ4 => (if r_4 = 0 then (nm (1 - (gI σ4 36 5)) fun y1 => (bd (f_Co_winner σ4 v1 r_3 y1) fun r_5 σ5 => (if r_5 = r_1 then (if r_1 = 0 then some ((1 : Int32), σ5) else (bd (f_Co_length σ5 v1 r_3 y1) fun r_6 σ6 => (if r_6 = (r_2 - 1) then some ((1 : Int32), σ6) else some ((0 : Int32), σ6)))) else some ((0 : Int32), σ5)))) else (if r_4 = r_1 then (if r_2 = 1 then some ((1 : Int32), σ4) else some ((0 : Int32), σ4)) else some ((0 : Int32), σ4)))))))
-- TippedBarrow.advice
def f_T_advice_23_b  (σ : Mm) (v1 : Int32) : Option ((Mm × Int32) ⊕ (Int32 × Mm)) := (if v1 < 4 then (bd (f_Gr_beyond σ 11 (gI σ 36 3) v1) fun r_1 σ1 => (if r_1 < 0 then (nm (v1 + 1) fun y1 => some (Sum.inl (σ1, y1))) else (bd (f_T_comesSo σ1 r_1) fun r_2 σ2 => (if r_2 = 0 then (nm (v1 + 1) fun y2 => some (Sum.inl (σ2, y2))) else ((some (v1, σ2) : Option (Int32 × Mm)).map Sum.inr))))) else ((some (((-9) : Int32), σ) : Option (Int32 × Mm)).map Sum.inr))
def f_T_advice_23 (σ : Mm) (v1 : Int32) : Option (Int32 × Mm) := lp (fun s : Mm × Int32 => f_T_advice_23_b s.1 s.2) (σ, v1)
def f_T_advice (σ : Mm)  : Option (Int32 × Mm) := (bd (f_T_hasNoStart σ) fun r_1 σ1 => (if r_1 = 0 then (bd (f_Co_solve σ1 11) fun r_2 σ2 => f_T_advice_23 σ2 0) else some (((-2) : Int32), σ1)))
-- TippedBarrow.isNoSide
def f_T_isNoSide (σ : Mm) (v0 : Int32) : Option (Int32 × Mm) := (if v0 < 1 then some ((1 : Int32), σ) else (if v0 ≤ 2 then some ((0 : Int32), σ) else some ((1 : Int32), σ)))
-- TippedBarrow$Walk.visit
def f_Wa_visit_85 (σ : Mm) (s1 : Int32) (s2 : Int32) : Option (Int32 × Mm) := (ix s1 340 fun j1 => nm (sA σ 30 j1 s2) fun σ1 => (nm (sI σ1 26 6 ((gI σ1 26 6) + 1)) fun σ2 => some ((0 : Int32), σ2)))
def f_Wa_visit (σ : Mm) (v1 : Int32) (v2 : Int32) (v3 : Int32) : Option (Int32 × Mm) := (if v1 < 0 then some ((0 : Int32), σ) else (ix v1 340 fun j1 => (if (gA σ 31 j1) = 0 then (if (gI σ 26 6) < 340 then (ix v1 340 fun j2 => nm (sA σ 31 j2 1) fun σ1 => (ix (gI σ1 26 6) 340 fun j3 => nm (sA σ1 27 j3 v1) fun σ2 => (ix (gI σ2 26 6) 340 fun j4 => nm (sA σ2 28 j4 v2) fun σ3 => (ix (gI σ3 26 6) 340 fun j5 => nm (sA σ3 29 j5 v3) fun σ4 => (if v2 < 0 then f_Wa_visit_85 σ4 (gI σ4 26 6) 0 else (ix v2 340 fun j6 => f_Wa_visit_85 σ4 (gI σ4 26 6) ((gA σ4 30 j6) + 1))))))) else some ((0 : Int32), σ)) else some ((0 : Int32), σ))))
-- TippedBarrow$Walk.visitFrom
def f_Wa_visitFrom_13_b (v1 : Int32) (v2 : Int32) (v3 : Int32) (σ : Mm) (v4 : Int32) : Option ((Mm × Int32) ⊕ (Int32 × Mm)) := (if v4 < 4 then (rk (gR σ 26 7) okGr fun t1 => (bd (f_Gr_beyond σ t1 v3 v4) fun r_1 σ1 => (if r_1 < 0 then (nm (v4 + 1) fun y3 => some (Sum.inl (σ1, y3))) else (rk (gR σ1 26 7) okGr fun t2 => (ix v1 340 fun j1 => (bd (f_T_leanOf σ1 (gA σ1 27 j1)) fun r_2 σ2 => (bd (f_Gr_leanOn σ2 t2 r_1 r_2) fun r_3 σ3 => (rk (gR σ3 26 7) okGr fun t3 => (bd (f_Gr_verdict σ3 t3 r_3) fun r_4 σ4 => (if r_4 = v2 then ((some (v4, σ4) : Option (Int32 × Mm)).map Sum.inr) else (if r_4 = 0 then (bd (f_T_spotOf σ4 r_1 r_3) fun r_5 σ5 => (bd (f_Wa_visit σ5 r_5 v1 v4) fun r_6 σ6 => (nm (v4 + 1) fun y2 => some (Sum.inl (σ6, y2))))) else (nm (v4 + 1) fun y1 => some (Sum.inl (σ4, y1)))))))))))))) else ((some (((-1) : Int32), σ) : Option (Int32 × Mm)).map Sum.inr))
def f_Wa_visitFrom_13 (σ : Mm) (v1 : Int32) (v2 : Int32) (v3 : Int32) (v4 : Int32) : Option (Int32 × Mm) := lp (fun s : Mm × Int32 => f_Wa_visitFrom_13_b v1 v2 v3 s.1 s.2) (σ, v4)
def f_Wa_visitFrom (σ : Mm) (v1 : Int32) (v2 : Int32) : Option (Int32 × Mm) := (ix v1 340 fun j1 => (bd (f_T_cellOf σ (gA σ 27 j1)) fun r_1 σ1 => f_Wa_visitFrom_13 σ1 v1 v2 r_1 0))
-- TippedBarrow$Walk.write
def f_Wa_write_20_b (v3 : Int32) (σ : Mm) (v4 : Int32) (v5 : Int32) (v6 : Int32) : Option ((Mm × Int32 × Int32 × Int32) ⊕ (Int32 × Mm)) := (if v6 < 0 then ((some (v3, σ) : Option (Int32 × Mm)).map Sum.inr) else (if v6 < 340 then (if v4 < 0 then ((some (v3, σ) : Option (Int32 × Mm)).map Sum.inr) else (ix v6 340 fun j1 => nm (sA σ 32 j1 v5) fun σ1 => (ix v4 340 fun j2 => (nm (gA σ1 29 j2) fun y1 => (ix v4 340 fun j3 => (nm (gA σ1 28 j3) fun y2 => (nm (v6 + (-1)) fun y3 => some (Sum.inl (σ1, y2, y1, y3))))))))) else ((some (v3, σ) : Option (Int32 × Mm)).map Sum.inr)))
def f_Wa_write_20 (σ : Mm) (v3 : Int32) (v4 : Int32) (v5 : Int32) (v6 : Int32) : Option (Int32 × Mm) := lp (fun s : Mm × Int32 × Int32 × Int32 => f_Wa_write_20_b v3 s.1 s.2.1 s.2.2.1 s.2.2.2) (σ, v4, v5, v6)
def f_Wa_write (σ : Mm) (v1 : Int32) (v2 : Int32) : Option (Int32 × Mm) := (ix v1 340 fun j1 => (nm ((gA σ 30 j1) + 1) fun y1 => (nm (y1 - 1) fun y2 => f_Wa_write_20 σ y1 v1 v2 y2)))
-- TippedBarrow$Walk.seek
def f_Wa_seek_81 (σ : Mm) (v5 : Int32) (v6 : Int32) : Option (Int32 × Mm) := (bd (f_Wa_write σ v5 v6) fun r_1 σ1 => some (r_1, σ1))
def f_Wa_seek_49_b (v4 : Int32) (σ : Mm) (v5 : Int32) : Option ((Mm × Int32) ⊕ (Int32 × Mm)) := (if v5 < (gI σ 26 6) then (if v5 < 340 then (bd (f_Wa_visitFrom σ v5 v4) fun r_1 σ1 => (if r_1 < 0 then (nm (v5 + 1) fun y1 => some (Sum.inl (σ1, y1))) else ((f_Wa_seek_81 σ1 v5 r_1 : Option (Int32 × Mm)).map Sum.inr))) else ((some (((-9) : Int32), σ) : Option (Int32 × Mm)).map Sum.inr)) else ((some (((-9) : Int32), σ) : Option (Int32 × Mm)).map Sum.inr))
def f_Wa_seek_49 (σ : Mm) (v4 : Int32) (v5 : Int32) : Option (Int32 × Mm) := lp (fun s : Mm × Int32 => f_Wa_seek_49_b v4 s.1 s.2) (σ, v5)
def f_Wa_seek_35 (σ : Mm) (v2 : Int32) (v3 : Int32) (v4 : Int32) : Option (Int32 × Mm) := (bd (f_T_spotOf σ v2 v3) fun r_1 σ1 => (bd (f_Wa_visit σ1 r_1 (-1) 0) fun r_2 σ2 => f_Wa_seek_49 σ2 v4 0))
def f_Wa_seek_13_b (v2 : Int32) (v3 : Int32) (v4 : Int32) (σ : Mm) (v5 : Int32) : Option ((Mm × Int32) ⊕ (Int32 × Mm)) := (if v5 < 340 then (ix v5 340 fun j1 => nm (sA σ 31 j1 0) fun σ1 => (nm (v5 + 1) fun y1 => some (Sum.inl (σ1, y1)))) else ((f_Wa_seek_35 σ v2 v3 v4 : Option (Int32 × Mm)).map Sum.inr))
def f_Wa_seek_13 (σ : Mm) (v2 : Int32) (v3 : Int32) (v4 : Int32) (v5 : Int32) : Option (Int32 × Mm) := lp (fun s : Mm × Int32 => f_Wa_seek_13_b v2 v3 v4 s.1 s.2) (σ, v5)
def f_Wa_seek (σ : Mm) (r1 : Nat) (v2 : Int32) (v3 : Int32) (v4 : Int32) : Option (Int32 × Mm) := (nm (sR σ 26 7 (some r1)) fun σ1 => (nm (sI σ1 26 6 0) fun σ2 => f_Wa_seek_13 σ2 v2 v3 v4 0))
-- TippedBarrow$Walk.wayAt
def f_Wa_wayAt (σ : Mm) (v1 : Int32) : Option (Int32 × Mm) := (if v1 < 0 then some (((-9) : Int32), σ) else (if v1 < 340 then (ix v1 340 fun j1 => some ((gA σ 32 j1), σ)) else some (((-9) : Int32), σ)))
-- TippedBarrow.soonest
def f_T_soonest (σ : Mm) (v1 : Int32) (v2 : Int32) : Option (Int32 × Mm) := (bd (f_T_isNoSide σ v1) fun r_1 σ1 => (if r_1 = 0 then (if v2 < (-1) then some (((-1) : Int32), σ1) else (bd (f_T_hasNoStart σ1) fun r_2 σ2 => (if r_2 = 0 then (bd (f_Wa_seek σ2 11 (gI σ2 36 3) (gI σ2 36 4) v1) fun r_3 σ3 => (if r_3 = (-9) then some (r_3, σ3) else (if v2 = (-1) then some (r_3, σ3) else (if v2 < r_3 then (bd (f_Wa_wayAt σ3 v2) fun r_4 σ4 => some (r_4, σ4)) else some (((-5) : Int32), σ3))))) else some (((-2) : Int32), σ2)))) else some (((-1) : Int32), σ1)))
-- TippedBarrow$Ground.waysFrom
def f_Gr_waysFrom_4_b (r0 : Nat) (v1 : Int32) (σ : Mm) (v2 : Int32) (v3 : Int32) : Option ((Mm × Int32 × Int32) ⊕ (Int32 × Mm)) := (if v3 < 4 then (bd (f_Gr_beyond σ r0 v1 v3) fun r_1 σ1 => (if r_1 < 0 then (nm (v3 + 1) fun y1 => some (Sum.inl (σ1, v2, y1))) else (nm (v2 + 1) fun y2 => (nm (v3 + 1) fun y3 => some (Sum.inl (σ1, y2, y3)))))) else ((some (v2, σ) : Option (Int32 × Mm)).map Sum.inr))
def f_Gr_waysFrom_4 (σ : Mm) (r0 : Nat) (v1 : Int32) (v2 : Int32) (v3 : Int32) : Option (Int32 × Mm) := lp (fun s : Mm × Int32 × Int32 => f_Gr_waysFrom_4_b r0 v1 s.1 s.2.1 s.2.2) (σ, v2, v3)
def f_Gr_waysFrom (σ : Mm) (r0 : Nat) (v1 : Int32) : Option (Int32 × Mm) := f_Gr_waysFrom_4 σ r0 v1 0 0
-- TippedBarrow$Chance.shareOut
def f_Ch_shareOut_53_b (v1 : Int32) (v2 : Int32) (v4 : Int32) (σ : Mm) (v5 : Int32) : Option ((Mm × Int32) ⊕ (Int32 × Mm)) := (if v5 < 4 then (rk (gR σ 33 4) okGr fun t1 => (bd (f_Gr_beyond σ t1 v2 v5) fun r_1 σ1 => (if r_1 < 0 then (nm (v5 + 1) fun y5 => some (Sum.inl (σ1, y5))) else (rk (gR σ1 33 4) okGr fun t2 => (bd (f_T_leanOf σ1 v1) fun r_2 σ2 => (bd (f_Gr_leanOn σ2 t2 r_1 r_2) fun r_3 σ3 => (rk (gR σ3 33 4) okGr fun t3 => (bd (f_Gr_verdict σ3 t3 r_3) fun r_4 σ4 => (bd (f_T_spotOf σ4 r_1 r_3) fun r_5 σ5 => (if r_4 = (gI σ5 33 5) then (nm (sI σ5 33 2 ((gI σ5 33 2) + v4)) fun σ7 => (nm (v5 + 1) fun y4 => some (Sum.inl (σ7, y4)))) else (if r_4 = 0 then (if r_5 < 0 then (nm (v5 + 1) fun y2 => some (Sum.inl (σ5, y2))) else (rk (gR σ5 33 1) okPa fun t4 => (ix r_5 340 fun j1 => (ix r_5 340 fun j2 => nm (sA σ5 t4 j2 ((gA σ5 t4 j1) + v4)) fun σ6 => (nm (v5 + 1) fun y3 => some (Sum.inl (σ6, y3))))))) else (nm (v5 + 1) fun y1 => some (Sum.inl (σ5, y1)))))))))))))) else ((some ((0 : Int32), σ) : Option (Int32 × Mm)).map Sum.inr))
def f_Ch_shareOut_53 (σ : Mm) (v1 : Int32) (v2 : Int32) (v4 : Int32) (v5 : Int32) : Option (Int32 × Mm) := lp (fun s : Mm × Int32 => f_Ch_shareOut_53_b v1 v2 v4 s.1 s.2) (σ, v5)
def f_Ch_shareOut (σ : Mm) (v1 : Int32) : Option (Int32 × Mm) := (bd (f_T_cellOf σ v1) fun r_1 σ1 => (rk (gR σ1 33 4) okGr fun t1 => (bd (f_Gr_waysFrom σ1 t1 r_1) fun r_2 σ2 => (if r_2 ≤ 0 then (rk (gR σ2 33 1) okPa fun t3 => (ix v1 340 fun j2 => (rk (gR σ2 33 0) okPa fun t4 => (ix v1 340 fun j3 => (ix v1 340 fun j4 => nm (sA σ2 t3 j4 ((gA σ2 t3 j2) + (12 * (gA σ2 t4 j3)))) fun σ3 => some ((0 : Int32), σ3)))))) else (if r_2 = 0 then none else (rk (gR σ2 33 0) okPa fun t2 => (ix v1 340 fun j1 => (nm ((12 / r_2) * (gA σ2 t2 j1)) fun y1 => f_Ch_shareOut_53 σ2 v1 r_1 y1 0))))))))
-- TippedBarrow$Chance.pushOnce
def f_Ch_pushOnce_59 (σ : Mm)  : Option (Int32 × Mm) := (rk (gR σ 33 0) okPa fun t1 => (rk (gR σ 33 1) okPa fun t2 => (nm (sR σ 33 0 (some t2)) fun σ1 => (nm (sR σ1 33 1 (some t1)) fun σ2 => some ((0 : Int32), σ2)))))
def f_Ch_pushOnce_32_b  (σ : Mm) (v1 : Int32) : Option ((Mm × Int32) ⊕ (Int32 × Mm)) := (if v1 < 340 then (rk (gR σ 33 0) okPa fun t1 => (ix v1 340 fun j1 => (if (gA σ t1 j1) ≤ 0 then (nm (v1 + 1) fun y1 => some (Sum.inl (σ, y1))) else (bd (f_Ch_shareOut σ v1) fun r_1 σ1 => (nm (v1 + 1) fun y2 => some (Sum.inl (σ1, y2))))))) else ((f_Ch_pushOnce_59 σ : Option (Int32 × Mm)).map Sum.inr))
def f_Ch_pushOnce_32 (σ : Mm) (v1 : Int32) : Option (Int32 × Mm) := lp (fun s : Mm × Int32 => f_Ch_pushOnce_32_b s.1 s.2) (σ, v1)
def f_Ch_pushOnce (σ : Mm)  : Option (Int32 × Mm) := (nm (sI σ 33 2 ((gI σ 33 2) * 12)) fun σ1 => (nm (sI σ1 33 3 ((gI σ1 33 3) * 12)) fun σ2 => (rk (gR σ2 33 1) okPa fun t1 => (bd (f_Ar_fill σ2 t1 340 0) fun r_1 σ3 => f_Ch_pushOnce_32 σ3 0))))
-- TippedBarrow$Chance.commonDivisor
def f_Ch_commonDivisor_7_b  (σ : Mm) (v2 : Int32) (v3 : Int32) (v4 : Int32) : Option ((Mm × Int32 × Int32 × Int32) ⊕ (Int32 × Mm)) := (if v4 < 64 then (if v3 ≤ 0 then ((some (v2, σ) : Option (Int32 × Mm)).map Sum.inr) else (if v3 = 0 then none else (nm (rm32 v2 v3) fun y1 => (nm (v4 + 1) fun y2 => some (Sum.inl (σ, v3, y1, y2)))))) else ((some (v2, σ) : Option (Int32 × Mm)).map Sum.inr))
def f_Ch_commonDivisor_7 (σ : Mm) (v2 : Int32) (v3 : Int32) (v4 : Int32) : Option (Int32 × Mm) := lp (fun s : Mm × Int32 × Int32 × Int32 => f_Ch_commonDivisor_7_b s.1 s.2.1 s.2.2.1 s.2.2.2) (σ, v2, v3, v4)
def f_Ch_commonDivisor (σ : Mm) (v0 : Int32) (v1 : Int32) : Option (Int32 × Mm) := f_Ch_commonDivisor_7 σ v0 v1 0
-- TippedBarrow$Chance.reckon
def f_Ch_reckon_70 (σ : Mm)  : Option (Int32 × Mm) := (bd (f_Ch_commonDivisor σ (gI σ 33 2) (gI σ 33 3)) fun r_1 σ1 => (if r_1 ≤ 1 then some ((0 : Int32), σ1) else (if r_1 = 0 then none else (nm (sI σ1 33 2 ((gI σ1 33 2) / r_1)) fun σ2 => (if r_1 = 0 then none else (nm (sI σ2 33 3 ((gI σ2 33 3) / r_1)) fun σ3 => some ((0 : Int32), σ3)))))))
def f_Ch_reckon_53_b (v5 : Int32) (σ : Mm) (v7 : Int32) : Option ((Mm × Int32) ⊕ (Int32 × Mm)) := (if v7 < v5 then (bd (f_Ch_pushOnce σ) fun r_1 σ1 => (nm (v7 + 1) fun y1 => some (Sum.inl (σ1, y1)))) else ((f_Ch_reckon_70 σ : Option (Int32 × Mm)).map Sum.inr))
def f_Ch_reckon_53 (σ : Mm) (v5 : Int32) (v7 : Int32) : Option (Int32 × Mm) := lp (fun s : Mm × Int32 => f_Ch_reckon_53_b v5 s.1 s.2) (σ, v7)
def f_Ch_reckon (σ : Mm) (r1 : Nat) (v2 : Int32) (v3 : Int32) (v4 : Int32) (v5 : Int32) : Option (Int32 × Mm) := (nm (sR σ 33 4 (some r1)) fun σ1 => (nm (sI σ1 33 5 v4) fun σ2 => (nm (sI σ2 33 2 0) fun σ3 => (nm (sI σ3 33 3 1) fun σ4 => (bd (f_T_spotOf σ4 v2 v3) fun r_1 σ5 => (if r_1 < 0 then some ((0 : Int32), σ5) else (rk (gR σ5 33 0) okPa fun t1 => (bd (f_Ar_fill σ5 t1 340 0) fun r_2 σ6 => (rk (gR σ6 33 0) okPa fun t2 => (ix r_1 340 fun j1 => nm (sA σ6 t2 j1 1) fun σ7 => f_Ch_reckon_53 σ7 v5 0))))))))))
-- TippedBarrow.odds
def f_T_odds (σ : Mm) (v1 : Int32) (v2 : Int32) (v3 : Int32) : Option (Int32 × Mm) := (bd (f_T_isNoSide σ v1) fun r_1 σ1 => (if r_1 = 0 then (if v2 < 0 then some (((-1) : Int32), σ1) else (if v2 ≤ 4 then (if v3 < 0 then some (((-1) : Int32), σ1) else (if v3 ≤ 1 then (bd (f_T_hasNoStart σ1) fun r_2 σ2 => (if r_2 = 0 then (bd (f_Ch_reckon σ2 11 (gI σ2 36 3) (gI σ2 36 4) v1 v2) fun r_3 σ3 => (if v3 = 0 then some ((gI σ3 33 2), σ3) else some ((gI σ3 33 3), σ3))) else some (((-2) : Int32), σ2))) else some (((-1) : Int32), σ1))) else some (((-1) : Int32), σ1))) else some (((-1) : Int32), σ1)))
-- TippedBarrow$Ground.become
def f_Gr_become (σ : Mm) (r0 : Nat) (r1 : Nat) : Option (Int32 × Mm) := (nm (sAs σ (gTl r0) (va_cpy (gA σ (gTl r1)) (gA σ (gTl r0)) (0 : Int32).toNatClampNeg (0 : Int32).toNatClampNeg (20 : Int32).toNatClampNeg)) fun σ1 => (nm (sAs σ1 (r0 + 1) (va_cpy (gA σ1 (r1 + 1)) (gA σ1 (r0 + 1)) (0 : Int32).toNatClampNeg (0 : Int32).toNatClampNeg (80 : Int32).toNatClampNeg)) fun σ2 => (nm (sI σ2 r0 2 (gI σ2 r1 2)) fun σ3 => (nm (sI σ3 r0 3 (gI σ3 r1 3)) fun σ4 => some ((0 : Int32), σ4)))))
-- TippedBarrow.decides
def f_T_decides_156 (σ : Mm) (v2 : Int32) (v3 : Int32) (v4 : Int32) : Option ((Mm × Int32 × Int32) ⊕ (Int32 × Mm)) := (ix v3 20 fun j1 => nm (sA σ 15 j1 v4) fun σ1 => (nm (v3 + 1) fun y1 => some (Sum.inl (σ1, v2, y1))))
def f_T_decides_65_b (v1 : Int32) (σ : Mm) (v2 : Int32) (v3 : Int32) : Option ((Mm × Int32 × Int32) ⊕ (Int32 × Mm)) := (if v3 < 20 then (ix v3 20 fun j1 => (nm (gA σ 15 j1) fun y1 => (if y1 = 100 then (nm (v3 + 1) fun y2 => some (Sum.inl (σ, v2, y2))) else (if y1 = 0 then (nm (v3 + 1) fun y4 => some (Sum.inl (σ, v2, y4))) else (ix v3 20 fun j2 => nm (sA σ 15 j2 0) fun σ1 => (bd (f_Co_solve σ1 13) fun r_1 σ2 => (bd (f_Co_winner σ2 (gI σ2 36 3) (gI σ2 36 4) (gI σ2 36 5)) fun r_2 σ3 => (if r_2 = v1 then f_T_decides_156 σ3 v2 v3 y1 else (nm (v2 ||| (1 <<< (v3 &&& 31))) fun y3 => f_T_decides_156 σ3 y3 v3 y1))))))))) else ((some (v2, σ) : Option (Int32 × Mm)).map Sum.inr))
def f_T_decides_65 (σ : Mm) (v1 : Int32) (v2 : Int32) (v3 : Int32) : Option (Int32 × Mm) := lp (fun s : Mm × Int32 × Int32 => f_T_decides_65_b v1 s.1 s.2.1 s.2.2) (σ, v2, v3)
def f_T_decides (σ : Mm)  : Option (Int32 × Mm) := (bd (f_T_hasNoStart σ) fun r_1 σ1 => (if r_1 = 0 then (bd (f_Co_solve σ1 11) fun r_2 σ2 => (bd (f_Co_winner σ2 (gI σ2 36 3) (gI σ2 36 4) (gI σ2 36 5)) fun r_3 σ3 => (bd (f_Gr_become σ3 13 11) fun r_4 σ4 => f_T_decides_65 σ4 r_3 0 0))) else some (((-2) : Int32), σ1)))
-- TippedBarrow.tells
def f_T_tells (σ : Mm) (v1 : Int32) : Option (Int32 × Mm) := (bd (f_T_isNoWay σ v1) fun r_1 σ1 => (if r_1 = 0 then (if (gI σ1 0 11) < 8 then (ix (gI σ1 0 11) 8 fun j1 => nm (sA σ1 20 j1 v1) fun σ2 => (nm (sI σ2 0 11 ((gI σ2 0 11) + 1)) fun σ3 => some ((gI σ3 0 11), σ3))) else some (((-3) : Int32), σ1)) else some (((-1) : Int32), σ1)))
-- TippedBarrow.forget
def f_T_forget (σ : Mm)  : Option (Int32 × Mm) := (nm (gI σ 0 11) fun y1 => (nm (sI σ 0 11 0) fun σ1 => some (y1, σ1)))
-- TippedBarrow.endOfTold
def f_T_endOfTold_16_b (r1 : Nat) (σ : Mm) (v2 : Int32) (v3 : Int32) (v4 : Int32) (v5 : Int32) : Option ((Mm × Int32 × Int32 × Int32 × Int32) ⊕ (Int32 × Mm)) := (if v5 < (gI σ 0 11) then (if v5 < 8 then (ix v5 8 fun j1 => (bd (f_Gr_beyond σ r1 v2 (gA σ 20 j1)) fun r_1 σ1 => (if v4 = 0 then (if r_1 < 0 then ((some (((-1) : Int32), σ1) : Option (Int32 × Mm)).map Sum.inr) else (bd (f_Gr_leanOn σ1 r1 r_1 v3) fun r_2 σ2 => (bd (f_Gr_verdict σ2 r1 r_2) fun r_3 σ3 => (nm (v5 + 1) fun y1 => some (Sum.inl (σ3, r_1, r_2, r_3, y1)))))) else ((some (((-1) : Int32), σ1) : Option (Int32 × Mm)).map Sum.inr)))) else ((some (v4, σ) : Option (Int32 × Mm)).map Sum.inr)) else ((some (v4, σ) : Option (Int32 × Mm)).map Sum.inr))
def f_T_endOfTold_16 (σ : Mm) (r1 : Nat) (v2 : Int32) (v3 : Int32) (v4 : Int32) (v5 : Int32) : Option (Int32 × Mm) := lp (fun s : Mm × Int32 × Int32 × Int32 × Int32 => f_T_endOfTold_16_b r1 s.1 s.2.1 s.2.2.1 s.2.2.2.1 s.2.2.2.2) (σ, v2, v3, v4, v5)
def f_T_endOfTold (σ : Mm) (r1 : Nat) : Option (Int32 × Mm) := (rk (gR σ 0 2) okPl fun t1 => (nm (gI σ t1 3) fun y1 => f_T_endOfTold_16 σ r1 y1 0 0 0))
-- TippedBarrow.leanings
def f_T_leanings_36_b (v1 : Int32) (σ : Mm) (v2 : Int32) (v3 : Int32) : Option ((Mm × Int32 × Int32) ⊕ (Int32 × Mm)) := (if v3 < 5 then (nm (sI σ 13 3 (v3 - 2)) fun σ1 => (bd (f_T_endOfTold σ1 13) fun r_1 σ2 => (if r_1 = v1 then (nm (v2 ||| (1 <<< (v3 &&& 31))) fun y2 => (nm (v3 + 1) fun y3 => some (Sum.inl (σ2, y2, y3)))) else (nm (v3 + 1) fun y1 => some (Sum.inl (σ2, v2, y1)))))) else ((some (v2, σ) : Option (Int32 × Mm)).map Sum.inr))
def f_T_leanings_36 (σ : Mm) (v1 : Int32) (v2 : Int32) (v3 : Int32) : Option (Int32 × Mm) := lp (fun s : Mm × Int32 × Int32 => f_T_leanings_36_b v1 s.1 s.2.1 s.2.2) (σ, v2, v3)
def f_T_leanings (σ : Mm) (v1 : Int32) : Option (Int32 × Mm) := (if v1 < 0 then some (((-1) : Int32), σ) else (if v1 ≤ 2 then (bd (f_T_hasNoStart σ) fun r_1 σ1 => (if r_1 = 0 then (bd (f_Gr_become σ1 13 11) fun r_2 σ2 => f_T_leanings_36 σ2 v1 0 0) else some (((-2) : Int32), σ1))) else some (((-1) : Int32), σ)))
-- TippedBarrow.rateCell
def f_T_rateCell (σ : Mm) (v1 : Int32) : Option (Int32 × Mm) := (nm (sJ σ ((gJ σ) + 1)) fun σ1 => (ix v1 20 fun j1 => some ((gA σ1 37 j1), σ1)))
-- TippedBarrow.rateRut
def f_T_rateRut (σ : Mm) (v1 : Int32) : Option (Int32 × Mm) := (nm (sJ σ ((gJ σ) + (10))) fun σ1 => (bd (f_T_rateCell σ1 v1) fun r_1 σ2 => some ((r_1 + (rm32 v1 5)), σ2)))
-- TippedBarrow.ratePuddle
def f_T_ratePuddle (σ : Mm) (v1 : Int32) : Option (Int32 × Mm) := (nm (sJ σ ((gJ σ) + (100))) fun σ1 => (bd (f_T_rateCell σ1 v1) fun r_1 σ2 => some ((r_1 - (gI σ2 36 4)), σ2)))
-- TippedBarrow.ratePlank
def f_T_ratePlank (σ : Mm) (v1 : Int32) : Option (Int32 × Mm) := (nm (sJ σ ((gJ σ) + (1000))) fun σ1 => (bd (f_T_rateRut σ1 v1) fun r_1 σ2 => some ((2 * r_1), σ2)))
-- TippedBarrow.rateBean
def f_T_rateBean (σ : Mm) (v1 : Int32) : Option (Int32 × Mm) := (nm (sJ σ ((gJ σ) + (10000))) fun σ1 => (bd (f_T_ratePuddle σ1 v1) fun r_1 σ2 => some ((r_1 + (v1 / 5)), σ2)))
-- TippedBarrow$Moment.allVerdicts
def f_Mo_allVerdicts (σ : Mm) (r0 : Nat) : Option (Int32 × Mm) := (ix 0 2 fun j1 => (ix 1 2 fun j2 => some (((gA σ (r0 + 2) j1) + (gA σ (r0 + 2) j2)), σ)))
-- TippedBarrow.rateQuarry
def f_T_rateQuarry (σ : Mm) (v1 : Int32) : Option (Int32 × Mm) := (nm (sJ σ ((gJ σ) + (100000))) fun σ1 => (bd (f_T_rateCell σ1 v1) fun r_1 σ2 => (bd (f_Mo_allVerdicts σ2 36) fun r_2 σ3 => some ((r_1 + r_2), σ3))))
-- TippedBarrow.rate
def f_T_rate (σ : Mm) (v1 : Int32) (v2 : Int32) (v3 : Int32) : Option (Int32 × Mm) := (bd (f_T_cellAt σ v2 v3) fun r_1 σ1 => (bd (f_Gr_isBrick σ1 11 r_1) fun r_2 σ2 => (if r_2 = 0 then (if v1 = 0 then (bd (f_T_rateCell σ2 r_1) fun r_8 σ8 => some (r_8, σ8)) else (if v1 = 1 then (bd (f_T_rateRut σ2 r_1) fun r_7 σ7 => some (r_7, σ7)) else (if v1 = 2 then (bd (f_T_ratePuddle σ2 r_1) fun r_6 σ6 => some (r_6, σ6)) else (if v1 = 3 then (bd (f_T_ratePlank σ2 r_1) fun r_5 σ5 => some (r_5, σ5)) else (if v1 = 4 then (bd (f_T_rateBean σ2 r_1) fun r_4 σ4 => some (r_4, σ4)) else (if v1 = 5 then (bd (f_T_rateQuarry σ2 r_1) fun r_3 σ3 => some (r_3, σ3)) else some (((-1000000) : Int32), σ2))))))) else some (((-1000000) : Int32), σ2))))
-- TippedBarrow.keep
def f_T_keep (σ : Mm) (v1 : Int32) : Option (Int32 × Mm) := (if v1 < 0 then some (((-1) : Int32), σ) else (if v1 < 2 then (ix v1 2 fun j1 => (bd (f_Mo_become σ (80 + 4 * j1) 36) fun r_1 σ1 => (ix v1 2 fun j2 => nm (sA σ1 19 j2 1) fun σ2 => (bd (f_Mo_allVerdicts σ2 36) fun r_2 σ3 => some (r_2, σ3))))) else some (((-1) : Int32), σ)))
-- TippedBarrow.back
def f_T_back (σ : Mm) (v1 : Int32) : Option (Int32 × Mm) := (if v1 < 0 then some (((-1) : Int32), σ) else (if v1 < 2 then (ix v1 2 fun j1 => (if (gA σ 19 j1) = 0 then some (((-2) : Int32), σ) else (ix v1 2 fun j2 => (bd (f_Mo_become σ 36 (80 + 4 * j2)) fun r_1 σ1 => (nm (sI σ1 16 2 0) fun σ2 => (bd (f_Mo_allVerdicts σ2 36) fun r_2 σ3 => some (r_2, σ3))))))) else some (((-1) : Int32), σ)))
-- TippedBarrow.count
def f_T_count (σ : Mm) (v1 : Int32) : Option (Int32 × Mm) := (if v1 = 0 then (rk (gR σ 0 2) okPl fun t5 => some ((gI σ t5 1), σ)) else (if v1 = 1 then (rk (gR σ 0 2) okPl fun t4 => some ((gI σ t4 2), σ)) else (if v1 = 2 then (rk (gR σ 0 2) okPl fun t3 => some ((gI σ t3 3), σ)) else (if v1 = 3 then (rk (gR σ 0 2) okPl fun t2 => some ((gI σ t2 4), σ)) else (if v1 = 4 then (rk (gR σ 0 2) okPl fun t1 => some (((gI σ t1 5) + 2), σ)) else (if v1 = 5 then some ((gI σ 0 11), σ) else (if v1 = 6 then some ((gI σ 1 1), σ) else some (((-1) : Int32), σ))))))))
-- TippedBarrow.trace
def f_T_trace (σ : Mm)  : Option (Int64 × Mm) := some ((gJ σ), σ)
-- TippedBarrowModel.in
def f_M_in (σ : Mm) (v0 : Int32) (v1 : Int32) (v2 : Int32) : Option (Int32 × Mm) := (if v0 < v1 then some ((0 : Int32), σ) else (if v0 ≤ v2 then some ((1 : Int32), σ) else some ((0 : Int32), σ)))
-- TippedBarrowModel.type
def f_M_type (σ : Mm) (v1 : Int32) : Option (Int32 × Mm) := (nm (sI σ 0 0 0) fun σ1 => (bd (f_M_in σ1 v1 0 255) fun r_1 σ2 => (if r_1 = 0 then some (((-1) : Int32), σ2) else (if (gI σ2 0 3) = 120 then some (((-3) : Int32), σ2) else (ix (gI σ2 0 3) 120 fun j1 => nm (sA σ2 1 j1 v1) fun σ3 => (nm (sI σ3 0 3 ((gI σ3 0 3) + 1)) fun σ4 => some ((gI σ4 0 3), σ4)))))))
-- TippedBarrowModel.clear
def f_M_clear (σ : Mm)  : Option (Int32 × Mm) := (nm (sI σ 0 0 0) fun σ1 => (nm (gI σ1 0 3) fun y1 => (nm (sI σ1 0 3 0) fun σ2 => some (y1, σ2))))
-- TippedBarrowModel.letterAt
def f_M_letterAt (σ : Mm) (v1 : Int32) : Option (Int32 × Mm) := (if v1 < (gI σ 0 3) then (ix v1 120 fun j1 => some ((gA σ 1 j1), σ)) else some (((-1) : Int32), σ))
-- TippedBarrowModel.isLetter
def f_M_isLetter (σ : Mm) (v0 : Int32) : Option (Int32 × Mm) := (if v0 = 119 then some ((1 : Int32), σ) else (if v0 = 114 then some ((1 : Int32), σ) else (if v0 = 120 then some ((1 : Int32), σ) else (if v0 = 98 then some ((1 : Int32), σ) else (if v0 = 107 then some ((1 : Int32), σ) else (if v0 = 106 then some ((1 : Int32), σ) else some ((0 : Int32), σ)))))))
-- TippedBarrowModel.advances
def f_M_advances_219 (σ : Mm) (s1 : Int32) : Option (Int32 × Mm) := (nm (sI σ 0 5 s1) fun σ1 => some ((0 : Int32), σ1))
def f_M_advances_175 (σ : Mm) (s1 : Int32) : Option (Int32 × Mm) := (nm (sI σ 0 5 s1) fun σ1 => some ((0 : Int32), σ1))
def f_M_advances_174 (σ : Mm)  : Option (Int32 × Mm) := f_M_advances_175 σ 2
def f_M_advances_170 (σ : Mm)  : Option (Int32 × Mm) := f_M_advances_175 σ 4
def f_M_advances_141 (σ : Mm) (v1 : Int32) : Option (Int32 × Mm) := (if (gI σ 0 7) ≤ 99 then (if v1 = 48 then (if ((gI σ 0 4) - (gI σ 0 6)) ≤ 1 then f_M_advances_174 σ else f_M_advances_170 σ) else f_M_advances_174 σ) else f_M_advances_170 σ)
def f_M_advances_125 (σ : Mm) (s1 : Int32) : Option ((Mm) ⊕ (Int32 × Mm)) := (nm (sI σ 0 7 s1) fun σ1 => (nm (sI σ1 0 4 ((gI σ1 0 4) + 1)) fun σ2 => some (Sum.inl σ2)))
def f_M_advances_71_b (v1 : Int32) (σ : Mm)  : Option ((Mm) ⊕ (Int32 × Mm)) := (bd (f_M_letterAt σ (gI σ 0 4)) fun r_1 σ1 => (bd (f_M_in σ1 r_1 48 57) fun r_2 σ2 => (if r_2 = 0 then ((f_M_advances_141 σ2 v1 : Option (Int32 × Mm)).map Sum.inr) else (if (gI σ2 0 7) ≤ 99 then (bd (f_M_letterAt σ2 (gI σ2 0 4)) fun r_3 σ3 => f_M_advances_125 σ3 (((10 * (gI σ2 0 7)) + r_3) - 48)) else f_M_advances_125 σ2 (gI σ2 0 7)))))
def f_M_advances_71 (σ : Mm) (v1 : Int32) : Option (Int32 × Mm) := lp (fun s : Mm => f_M_advances_71_b v1 s) σ
def f_M_advances_26 (σ : Mm)  : Option (Int32 × Mm) := (nm (sI σ 0 6 (gI σ 0 4)) fun σ1 => (bd (f_M_letterAt σ1 (gI σ1 0 4)) fun r_1 σ2 => (if r_1 < 0 then (nm (sI σ2 0 5 0) fun σ8 => some ((0 : Int32), σ8)) else (bd (f_M_in σ2 r_1 48 57) fun r_2 σ3 => (if r_2 = 0 then (nm (sI σ3 0 4 ((gI σ3 0 4) + 1)) fun σ4 => (nm (sI σ4 0 7 r_1) fun σ5 => (if r_1 = 59 then f_M_advances_219 σ5 3 else (bd (f_M_isLetter σ5 r_1) fun r_3 σ6 => (if r_3 = 0 then f_M_advances_219 σ6 4 else f_M_advances_219 σ6 1))))) else (nm (sI σ3 0 7 0) fun σ7 => f_M_advances_71 σ7 r_1))))))
def f_M_advances_0_b  (σ : Mm)  : Option ((Mm) ⊕ (Int32 × Mm)) := (bd (f_M_letterAt σ (gI σ 0 4)) fun r_1 σ1 => (if r_1 = 32 then (nm (sI σ1 0 4 ((gI σ1 0 4) + 1)) fun σ2 => some (Sum.inl σ2)) else ((f_M_advances_26 σ1 : Option (Int32 × Mm)).map Sum.inr)))
def f_M_advances_0 (σ : Mm)  : Option (Int32 × Mm) := lp (fun s : Mm => f_M_advances_0_b s) σ
def f_M_advances (σ : Mm)  : Option (Int32 × Mm) := f_M_advances_0 σ
-- TippedBarrowModel.isWell
def f_M_isWell (σ : Mm)  : Option (Int32 × Mm) := (if (gI σ 0 8) < 0 then some ((1 : Int32), σ) else some ((0 : Int32), σ))
-- TippedBarrowModel.takes
def f_M_takes (σ : Mm) (v1 : Int32) : Option (Int32 × Mm) := (bd (f_M_isWell σ) fun r_1 σ1 => (if r_1 = 0 then some ((0 : Int32), σ1) else (if v1 = 0 then (nm (sI σ1 0 8 (gI σ1 0 6)) fun σ3 => some ((0 : Int32), σ3)) else (nm (gI σ1 0 7) fun y1 => (bd (f_M_advances σ1) fun r_2 σ2 => some (y1, σ2))))))
-- TippedBarrowModel.number
def f_M_number_26 (σ : Mm) (s1 : Int32) : Option (Int32 × Mm) := (bd (f_M_takes σ s1) fun r_1 σ1 => some (r_1, σ1))
def f_M_number_25 (σ : Mm)  : Option (Int32 × Mm) := f_M_number_26 σ 0
def f_M_number (σ : Mm) (v1 : Int32) (v2 : Int32) : Option (Int32 × Mm) := (if (gI σ 0 5) = 2 then (bd (f_M_in σ (gI σ 0 7) v1 v2) fun r_1 σ1 => (if r_1 = 0 then f_M_number_25 σ1 else f_M_number_26 σ1 1)) else f_M_number_25 σ)
-- TippedBarrowModel.begins
def f_M_begins (σ : Mm)  : Option (Int32 × Mm) := (nm (sI σ 0 10 0) fun σ1 => (nm (sI σ1 0 12 0) fun σ2 => (ix 5 10 fun j1 => nm (sA σ2 2 j1 0) fun σ3 => (ix 6 10 fun j2 => nm (sA σ3 2 j2 0) fun σ4 => (ix 7 10 fun j3 => nm (sA σ4 2 j3 (-9)) fun σ5 => (ix 8 10 fun j4 => nm (sA σ5 2 j4 5) fun σ6 => (ix 9 10 fun j5 => nm (sA σ6 2 j5 0) fun σ7 => some ((0 : Int32), σ7))))))))
-- TippedBarrowModel.bitOf
def f_M_bitOf (σ : Mm) (v0 : Int32) : Option (Int32 × Mm) := (if v0 = 98 then some ((1 : Int32), σ) else (if v0 = 107 then some ((2 : Int32), σ) else some ((4 : Int32), σ)))
-- TippedBarrowModel.mayBegin
def f_M_mayBegin (σ : Mm) (v1 : Int32) : Option (Int32 × Mm) := (if (gI σ 0 7) = 119 then (if v1 = 0 then some ((1 : Int32), σ) else some ((0 : Int32), σ)) else (if (gI σ 0 7) = 114 then (ix 5 10 fun j1 => (if (gA σ 2 j1) ≤ 0 then some ((0 : Int32), σ) else (ix 6 10 fun j2 => (if (gA σ 2 j2) < 4 then (if ((gI σ 0 10) &&& 1) = 0 then some ((1 : Int32), σ) else some ((0 : Int32), σ)) else some ((0 : Int32), σ))))) else (if (gI σ 0 7) = 120 then some ((0 : Int32), σ) else (bd (f_M_bitOf σ (gI σ 0 7)) fun r_1 σ1 => (if ((gI σ 0 10) &&& r_1) = 0 then some ((1 : Int32), σ1) else some ((0 : Int32), σ1))))))
-- TippedBarrowModel.readsRow
def f_M_readsRow_123 (σ : Mm)  : Option (Int32 × Mm) := (ix 6 10 fun j1 => (ix 6 10 fun j2 => nm (sA σ 2 j2 ((gA σ 2 j1) + 1)) fun σ1 => some ((0 : Int32), σ1)))
def f_M_readsRow_113 (σ : Mm) (v1 : Int32) (s1 : Int32) (s2 : Int32) : Option ((Mm × Int32) ⊕ (Int32 × Mm)) := (nm (sI σ 0 12 (s1 ||| s2)) fun σ1 => (nm (v1 + 1) fun y1 => some (Sum.inl (σ1, y1))))
def f_M_readsRow_96 (σ : Mm) (v1 : Int32) (v2 : Int32) (v3 : Int32) (s1 : Int32) (s2 : Int32) : Option ((Mm × Int32) ⊕ (Int32 × Mm)) := (ix s1 20 fun j1 => nm (sA σ 3 j1 s2) fun σ1 => (if v3 = 0 then f_M_readsRow_113 σ1 v1 (gI σ1 0 12) 0 else f_M_readsRow_113 σ1 v1 (gI σ1 0 12) (1 <<< (v2 &&& 31))))
def f_M_readsRow_74 (σ : Mm) (v1 : Int32) (v2 : Int32) (v3 : Int32) (s1 : Int32) : Option ((Mm × Int32) ⊕ (Int32 × Mm)) := (bd (f_M_takes σ s1) fun r_1 σ1 => (if v3 = 0 then f_M_readsRow_96 σ1 v1 v2 v3 v2 (r_1 - 4) else f_M_readsRow_96 σ1 v1 v2 v3 v2 0))
def f_M_readsRow_73 (σ : Mm) (v1 : Int32) (v2 : Int32) (v3 : Int32) : Option ((Mm × Int32) ⊕ (Int32 × Mm)) := f_M_readsRow_74 σ v1 v2 v3 0
def f_M_readsRow_69 (σ : Mm) (v1 : Int32) (v2 : Int32) (v3 : Int32) : Option ((Mm × Int32) ⊕ (Int32 × Mm)) := f_M_readsRow_74 σ v1 v2 v3 1
def f_M_readsRow_46 (σ : Mm) (v1 : Int32) (v2 : Int32) (s0 : Int32) : Option ((Mm × Int32) ⊕ (Int32 × Mm)) := (if s0 = 0 then (if (gI σ 0 5) = 2 then (if (gI σ 0 7) ≤ 8 then f_M_readsRow_69 σ v1 v2 s0 else f_M_readsRow_73 σ v1 v2 s0) else f_M_readsRow_73 σ v1 v2 s0) else f_M_readsRow_69 σ v1 v2 s0)
def f_M_readsRow_45 (σ : Mm) (v1 : Int32) (v2 : Int32) : Option ((Mm × Int32) ⊕ (Int32 × Mm)) := f_M_readsRow_46 σ v1 v2 0
def f_M_readsRow_2_b  (σ : Mm) (v1 : Int32) : Option ((Mm × Int32) ⊕ (Int32 × Mm)) := (ix 5 10 fun j1 => (if v1 < (gA σ 2 j1) then (ix 6 10 fun j2 => (nm ((5 * (gA σ 2 j2)) + v1) fun y1 => (if (gI σ 0 5) = 1 then (if (gI σ 0 7) = 120 then f_M_readsRow_46 σ v1 y1 1 else f_M_readsRow_45 σ v1 y1) else f_M_readsRow_45 σ v1 y1))) else ((f_M_readsRow_123 σ : Option (Int32 × Mm)).map Sum.inr)))
def f_M_readsRow_2 (σ : Mm) (v1 : Int32) : Option (Int32 × Mm) := lp (fun s : Mm × Int32 => f_M_readsRow_2_b s.1 s.2) (σ, v1)
def f_M_readsRow (σ : Mm)  : Option (Int32 × Mm) := f_M_readsRow_2 σ 0
-- TippedBarrowModel.readsStart
def f_M_readsStart_86 (σ : Mm) (v3 : Int32) (s1 : Int32) : Option (Int32 × Mm) := (bd (f_M_takes σ s1) fun r_1 σ1 => (ix 7 10 fun j1 => nm (sA σ1 2 j1 v3) fun σ2 => some ((0 : Int32), σ2)))
def f_M_readsStart_85 (σ : Mm) (v3 : Int32) : Option (Int32 × Mm) := f_M_readsStart_86 σ v3 0
def f_M_readsStart_64 (σ : Mm) (v2 : Int32) (s0 : Int32) : Option (Int32 × Mm) := (if v2 = 0 then f_M_readsStart_85 σ s0 else (if (((gI σ 0 12) >>> (s0 &&& 31)) &&& 1) = 0 then f_M_readsStart_86 σ s0 1 else f_M_readsStart_85 σ s0))
def f_M_readsStart_47 (σ : Mm) (v1 : Int32) (s0 : Int32) : Option (Int32 × Mm) := (if s0 = 0 then f_M_readsStart_64 σ s0 0 else f_M_readsStart_64 σ s0 ((5 * (gI σ 0 7)) + v1))
def f_M_readsStart_46 (σ : Mm) (v1 : Int32) : Option (Int32 × Mm) := f_M_readsStart_47 σ v1 0
def f_M_readsStart (σ : Mm)  : Option (Int32 × Mm) := (ix 5 10 fun j1 => (bd (f_M_number σ 0 ((gA σ 2 j1) - 1)) fun r_1 σ1 => (if (gI σ1 0 5) = 2 then (ix 6 10 fun j2 => (bd (f_M_in σ1 (gI σ1 0 7) 0 ((gA σ1 2 j2) - 1)) fun r_2 σ2 => (if r_2 = 0 then f_M_readsStart_46 σ2 r_1 else f_M_readsStart_47 σ2 r_1 1))) else f_M_readsStart_46 σ1 r_1)))
-- TippedBarrowModel.readsItem
def f_M_readsItem_85 (σ : Mm) (v1 : Int32) : Option (Int32 × Mm) := (bd (f_M_bitOf σ v1) fun r_1 σ1 => (nm (sI σ1 0 10 ((gI σ 0 10) ||| r_1)) fun σ2 => some ((0 : Int32), σ2)))
def f_M_readsItem (σ : Mm) (v1 : Int32) : Option (Int32 × Mm) := (if v1 = 119 then (bd (f_M_number σ 1 5) fun r_5 σ7 => (ix 5 10 fun j3 => nm (sA σ7 2 j3 r_5) fun σ8 => some ((0 : Int32), σ8))) else (if v1 = 114 then (bd (f_M_readsRow σ) fun r_4 σ6 => some ((0 : Int32), σ6)) else (if v1 = 98 then (bd (f_M_readsStart σ) fun r_3 σ5 => f_M_readsItem_85 σ5 v1) else (if v1 = 107 then (bd (f_M_number σ 2 9) fun r_2 σ3 => (ix 8 10 fun j2 => nm (sA σ3 2 j2 r_2) fun σ4 => f_M_readsItem_85 σ4 v1)) else (bd (f_M_number σ 0 4) fun r_1 σ1 => (ix 9 10 fun j1 => nm (sA σ1 2 j1 (r_1 - 2)) fun σ2 => f_M_readsItem_85 σ2 v1))))))
-- TippedBarrowModel.isCell
def f_M_isCell (σ : Mm) (v1 : Int32) (v2 : Int32) : Option (Int32 × Mm) := (ix 0 10 fun j1 => (bd (f_M_in σ v1 0 ((gA σ 2 j1) - 1)) fun r_1 σ1 => (if r_1 = 0 then some ((0 : Int32), σ1) else (ix 1 10 fun j2 => (bd (f_M_in σ1 v2 0 ((gA σ1 2 j2) - 1)) fun r_2 σ2 => (if r_2 = 0 then some ((0 : Int32), σ2) else some ((1 : Int32), σ2)))))))
-- TippedBarrowModel.settles
def f_M_settles_114 (σ : Mm)  : Option (Int32 × Mm) := (nm (sI σ 0 3 0) fun σ1 => (nm (sI σ1 0 20 0) fun σ2 => (nm (sI σ2 0 18 0) fun σ3 => (ix 0 2 fun j1 => nm (sA σ3 6 j1 0) fun σ4 => (ix 1 2 fun j2 => nm (sA σ4 6 j2 0) fun σ5 => some ((0 : Int32), σ5))))))
def f_M_settles_107 (σ : Mm) (v1 : Int32) (s1 : Int32) (s2 : Int32) : Option ((Mm × Int32) ⊕ (Int32 × Mm)) := (ix s1 27 fun j1 => nm (sA σ 4 j1 s2) fun σ1 => (nm (v1 + 1) fun y1 => some (Sum.inl (σ1, y1))))
def f_M_settles_70_b  (σ : Mm) (v1 : Int32) : Option ((Mm × Int32) ⊕ (Int32 × Mm)) := (if v1 < 20 then (bd (f_M_isCell σ (rm32 v1 5) (v1 / 5)) fun r_1 σ1 => (if r_1 = 0 then f_M_settles_107 σ1 v1 (7 + v1) 0 else (ix v1 20 fun j1 => f_M_settles_107 σ1 v1 (7 + v1) (gA σ1 3 j1)))) else ((f_M_settles_114 σ : Option (Int32 × Mm)).map Sum.inr))
def f_M_settles_70 (σ : Mm) (v1 : Int32) : Option (Int32 × Mm) := lp (fun s : Mm × Int32 => f_M_settles_70_b s.1 s.2) (σ, v1)
def f_M_settles_56 (σ : Mm)  : Option (Int32 × Mm) := (ix 2 10 fun j1 => (ix 0 27 fun j2 => nm (sA σ 4 j2 (gA σ 2 j1)) fun σ1 => f_M_settles_70 σ1 0))
def f_M_settles_37_b  (σ : Mm) (v1 : Int32) : Option ((Mm × Int32) ⊕ (Int32 × Mm)) := (if v1 < 27 then (ix v1 27 fun j1 => nm (sA σ 4 j1 0) fun σ1 => (nm (v1 + 1) fun y1 => some (Sum.inl (σ1, y1)))) else ((f_M_settles_56 σ : Option (Int32 × Mm)).map Sum.inr))
def f_M_settles_37 (σ : Mm) (v1 : Int32) : Option (Int32 × Mm) := lp (fun s : Mm × Int32 => f_M_settles_37_b s.1 s.2) (σ, v1)
def f_M_settles_27 (σ : Mm)  : Option (Int32 × Mm) := (nm (sI σ 0 11 (gI σ 0 12)) fun σ1 => f_M_settles_37 σ1 0)
def f_M_settles_2_b  (σ : Mm) (v1 : Int32) : Option ((Mm × Int32) ⊕ (Int32 × Mm)) := (if v1 < 5 then (ix (5 + v1) 10 fun j1 => (ix v1 10 fun j2 => nm (sA σ 2 j2 (gA σ 2 j1)) fun σ1 => (nm (v1 + 1) fun y1 => some (Sum.inl (σ1, y1))))) else ((f_M_settles_27 σ : Option (Int32 × Mm)).map Sum.inr))
def f_M_settles_2 (σ : Mm) (v1 : Int32) : Option (Int32 × Mm) := lp (fun s : Mm × Int32 => f_M_settles_2_b s.1 s.2) (σ, v1)
def f_M_settles (σ : Mm)  : Option (Int32 × Mm) := f_M_settles_2 σ 0
-- TippedBarrowModel.yard
def f_M_yard_101 (σ : Mm) (v1 : Int32) : Option (Int32 × Mm) := (bd (f_M_isWell σ) fun r_1 σ1 => (if r_1 = 0 then some (((-10) - (gI σ1 0 8)), σ1) else (bd (f_M_settles σ1) fun r_2 σ2 => some (v1, σ2))))
def f_M_yard_91 (σ : Mm) (v1 : Int32) (s1 : Int32) : Option ((Mm × Int32) ⊕ (Int32 × Mm)) := (bd (f_M_takes σ s1) fun r_1 σ1 => (nm (v1 + 1) fun y1 => some (Sum.inl (σ1, y1))))
def f_M_yard_77 (σ : Mm) (v1 : Int32) : Option ((Mm × Int32) ⊕ (Int32 × Mm)) := (if (gI σ 0 5) = 3 then f_M_yard_91 σ v1 1 else f_M_yard_91 σ v1 0)
def f_M_yard_61 (σ : Mm) (v1 : Int32) (s1 : Int32) : Option ((Mm × Int32) ⊕ (Int32 × Mm)) := (bd (f_M_takes σ s1) fun r_1 σ1 => (bd (f_M_isWell σ1) fun r_2 σ2 => (if r_2 = 0 then f_M_yard_77 σ2 v1 else (bd (f_M_readsItem σ2 r_1) fun r_3 σ3 => f_M_yard_77 σ3 v1))))
def f_M_yard_60 (σ : Mm) (v1 : Int32) : Option ((Mm × Int32) ⊕ (Int32 × Mm)) := f_M_yard_61 σ v1 0
def f_M_yard_25_b  (σ : Mm) (v1 : Int32) : Option ((Mm × Int32) ⊕ (Int32 × Mm)) := (bd (f_M_isWell σ) fun r_1 σ1 => (if r_1 = 0 then ((f_M_yard_101 σ1 v1 : Option (Int32 × Mm)).map Sum.inr) else (if (gI σ1 0 5) = 0 then ((f_M_yard_101 σ1 v1 : Option (Int32 × Mm)).map Sum.inr) else (if (gI σ1 0 5) = 1 then (bd (f_M_mayBegin σ1 v1) fun r_2 σ2 => (if r_2 = 0 then f_M_yard_60 σ2 v1 else f_M_yard_61 σ2 v1 1)) else f_M_yard_60 σ1 v1))))
def f_M_yard_25 (σ : Mm) (v1 : Int32) : Option (Int32 × Mm) := lp (fun s : Mm × Int32 => f_M_yard_25_b s.1 s.2) (σ, v1)
def f_M_yard (σ : Mm)  : Option (Int32 × Mm) := (nm (sI σ 0 0 0) fun σ1 => (nm (sI σ1 0 8 (-1)) fun σ2 => (nm (sI σ2 0 4 0) fun σ3 => (bd (f_M_begins σ3) fun r_1 σ4 => (bd (f_M_advances σ4) fun r_2 σ5 => f_M_yard_25 σ5 0)))))
-- TippedBarrowModel.isGround
def f_M_isGround (σ : Mm) (v1 : Int32) (v2 : Int32) : Option (Int32 × Mm) := (bd (f_M_isCell σ v1 v2) fun r_1 σ1 => (if r_1 = 0 then some ((0 : Int32), σ1) else (if (((gI σ1 0 11) >>> (((5 * v2) + v1) &&& 31)) &&& 1) = 0 then some ((1 : Int32), σ1) else some ((0 : Int32), σ1))))
-- TippedBarrowModel.hasStart
def f_M_hasStart (σ : Mm)  : Option (Int32 × Mm) := (ix 2 10 fun j1 => (if (gA σ 2 j1) = (-9) then some ((0 : Int32), σ) else some ((1 : Int32), σ)))
-- TippedBarrowModel.tilt
def f_M_tilt (σ : Mm) (v1 : Int32) (v2 : Int32) : Option (Int32 × Mm) := (nm (sI σ 0 0 0) fun σ1 => (bd (f_M_isGround σ1 v1 v2) fun r_1 σ2 => (if r_1 = 0 then some (((-1000000) : Int32), σ2) else (ix ((7 + (5 * v2)) + v1) 27 fun j1 => some ((gA σ2 4 j1), σ2)))))
-- TippedBarrowModel.now
def f_M_now (σ : Mm) (v1 : Int32) : Option (Int32 × Mm) := (nm (sI σ 0 0 0) fun σ1 => (bd (f_M_in σ1 v1 0 6) fun r_1 σ2 => (if r_1 = 0 then (if v1 = 7 then some ((gI σ2 0 18), σ2) else some (((-1000000) : Int32), σ2)) else (ix v1 27 fun j1 => some ((gA σ2 4 j1), σ2)))))
-- TippedBarrowModel.notes
def f_M_notes_79 (σ : Mm)  : Option (Int32 × Mm) := (nm (sI σ 0 18 ((gI σ 0 18) + 1)) fun σ1 => some ((0 : Int32), σ1))
def f_M_notes_47_b  (σ : Mm) (v1 : Int32) : Option ((Mm × Int32) ⊕ (Int32 × Mm)) := (if v1 < 27 then (ix v1 27 fun j1 => (ix ((27 * (gI σ 0 18)) + v1) 270 fun j2 => nm (sA σ 7 j2 (gA σ 4 j1)) fun σ1 => (nm (v1 + 1) fun y1 => some (Sum.inl (σ1, y1))))) else ((f_M_notes_79 σ : Option (Int32 × Mm)).map Sum.inr))
def f_M_notes_47 (σ : Mm) (v1 : Int32) : Option (Int32 × Mm) := lp (fun s : Mm × Int32 => f_M_notes_47_b s.1 s.2) (σ, v1)
def f_M_notes_45 (σ : Mm)  : Option (Int32 × Mm) := f_M_notes_47 σ 0
def f_M_notes_39 (σ : Mm)  : Option (Int32 × Mm) := (nm (sI σ 0 18 9) fun σ1 => f_M_notes_45 σ1)
def f_M_notes_11_b  (σ : Mm) (v1 : Int32) : Option ((Mm × Int32) ⊕ (Int32 × Mm)) := (if v1 < 243 then (ix (v1 + 27) 270 fun j1 => (ix v1 270 fun j2 => nm (sA σ 7 j2 (gA σ 7 j1)) fun σ1 => (nm (v1 + 1) fun y1 => some (Sum.inl (σ1, y1))))) else ((f_M_notes_39 σ : Option (Int32 × Mm)).map Sum.inr))
def f_M_notes_11 (σ : Mm) (v1 : Int32) : Option (Int32 × Mm) := lp (fun s : Mm × Int32 => f_M_notes_11_b s.1 s.2) (σ, v1)
def f_M_notes (σ : Mm)  : Option (Int32 × Mm) := (if (gI σ 0 18) = 10 then f_M_notes_11 σ 0 else f_M_notes_45 σ)
-- TippedBarrowModel.comes
def f_M_comes_46 (σ : Mm) (v2 : Int32) (v4 : Int32) (v5 : Int32) (s0 : Int32) (s1 : Int32) : Option (Int32 × Mm) := (nm (s0 + s1) fun y1 => (bd (f_M_isGround σ v5 y1) fun r_1 σ1 => (if r_1 = 0 then some ((3 : Int32), σ1) else (nm (sI σ1 0 21 ((5 * y1) + v5)) fun σ2 => (ix (7 + (gI σ2 0 21)) 27 fun j1 => (nm (sI σ2 0 22 ((v2 + (gA σ2 4 j1)) + v4)) fun σ3 => (ix 3 10 fun j2 => (if (gI σ3 0 22) ≤ (-(gA σ3 2 j2)) then some ((1 : Int32), σ3) else (ix 3 10 fun j3 => (if (gI σ3 0 22) < (gA σ3 2 j3) then some ((0 : Int32), σ3) else some ((2 : Int32), σ3)))))))))))
def f_M_comes_22 (σ : Mm) (v1 : Int32) (v2 : Int32) (v3 : Int32) (v4 : Int32) (s0 : Int32) (s1 : Int32) : Option (Int32 × Mm) := (nm (s0 + s1) fun y1 => (if v3 = 2 then f_M_comes_46 σ v2 v4 y1 (v1 / 5) 1 else (if v3 = 0 then f_M_comes_46 σ v2 v4 y1 (v1 / 5) (-1) else f_M_comes_46 σ v2 v4 y1 (v1 / 5) 0)))
def f_M_comes (σ : Mm) (v1 : Int32) (v2 : Int32) (v3 : Int32) (v4 : Int32) : Option (Int32 × Mm) := (if v3 = 1 then f_M_comes_22 σ v1 v2 v3 v4 (rm32 v1 5) 1 else (if v3 = 3 then f_M_comes_22 σ v1 v2 v3 v4 (rm32 v1 5) (-1) else f_M_comes_22 σ v1 v2 v3 v4 (rm32 v1 5) 0))
-- TippedBarrowModel.comesBy
def f_M_comesBy (σ : Mm) (v1 : Int32) (v2 : Int32) (v3 : Int32) : Option (Int32 × Mm) := (ix 4 10 fun j1 => (bd (f_M_comes σ v1 v2 v3 (gA σ 2 j1)) fun r_1 σ1 => some (r_1, σ1)))
-- TippedBarrowModel.pushes
def f_M_pushes_226 (σ : Mm) (v2 : Int32) (s1 : Int32) (s2 : Int32) : Option (Int32 × Mm) := (ix s1 27 fun j1 => nm (sA σ 4 j1 s2) fun σ1 => (ix 5 27 fun j2 => nm (sA σ1 4 j2 0) fun σ2 => (ix 6 27 fun j3 => nm (sA σ2 4 j3 0) fun σ3 => some (v2, σ3))))
def f_M_pushes_177 (σ : Mm) (v2 : Int32) (s1 : Int32) (s2 : Int32) : Option (Int32 × Mm) := (ix s1 27 fun j1 => nm (sA σ 4 j1 s2) fun σ1 => (ix ((3 + v2) - 1) 27 fun j2 => (ix ((3 + v2) - 1) 27 fun j3 => nm (sA σ1 4 j3 ((gA σ1 4 j2) + 1)) fun σ2 => (ix 2 10 fun j4 => (ix 0 27 fun j5 => nm (sA σ2 4 j5 (gA σ2 2 j4)) fun σ3 => (ix 1 27 fun j6 => nm (sA σ3 4 j6 0) fun σ4 => (if v2 = 1 then f_M_pushes_226 σ4 v2 2 1 else f_M_pushes_226 σ4 v2 2 0)))))))
def f_M_pushes_143 (σ : Mm) (v2 : Int32) (s0 : Int32) (s1 : Int32) : Option (Int32 × Mm) := (nm (s0 + s1) fun y1 => (if y1 < (-4) then f_M_pushes_177 σ v2 (7 + (gI σ 0 21)) (-4) else (if y1 ≤ 4 then f_M_pushes_177 σ v2 (7 + (gI σ 0 21)) y1 else f_M_pushes_177 σ v2 (7 + (gI σ 0 21)) 4)))
def f_M_pushes_44 (σ : Mm) (s0 : Int32) : Option (Int32 × Mm) := (if s0 = 3 then some (((-2) : Int32), σ) else (ix 3 27 fun j1 => (if (gA σ 4 j1) = 999 then some (((-2) : Int32), σ) else (ix 4 27 fun j2 => (if (gA σ 4 j2) = 999 then some (((-2) : Int32), σ) else (bd (f_M_notes σ) fun r_1 σ1 => (if s0 = 0 then (ix 0 27 fun j4 => nm (sA σ1 4 j4 (gI σ1 0 21)) fun σ2 => (ix 1 27 fun j5 => nm (sA σ2 4 j5 (gI σ2 0 22)) fun σ3 => (ix 2 27 fun j6 => (ix 2 27 fun j7 => nm (sA σ3 4 j7 (1 - (gA σ3 4 j6))) fun σ4 => some (s0, σ4))))) else (ix (7 + (gI σ1 0 21)) 27 fun j3 => (if s0 = 1 then f_M_pushes_143 σ1 s0 (gA σ1 4 j3) (-1) else f_M_pushes_143 σ1 s0 (gA σ1 4 j3) 1)))))))))
def f_M_pushes (σ : Mm) (v1 : Int32) : Option (Int32 × Mm) := (nm (sI σ 0 0 0) fun σ1 => (bd (f_M_in σ1 v1 0 3) fun r_1 σ2 => (if r_1 = 0 then some (((-1) : Int32), σ2) else (bd (f_M_hasStart σ2) fun r_2 σ3 => (if r_2 = 0 then f_M_pushes_44 σ3 3 else (ix 0 27 fun j1 => (ix 1 27 fun j2 => (bd (f_M_comesBy σ3 (gA σ3 4 j1) (gA σ3 4 j2) v1) fun r_3 σ4 => f_M_pushes_44 σ4 r_3))))))))
-- TippedBarrowModel.objects
def f_M_objects (σ : Mm)  : Option (Int32 × Mm) := (nm (sI σ 0 0 0) fun σ1 => (bd (f_M_hasStart σ1) fun r_1 σ2 => (if r_1 = 0 then some (((-2) : Int32), σ2) else (ix 2 27 fun j1 => (ix (5 + (gA σ2 4 j1)) 27 fun j2 => (if (gA σ2 4 j2) = 3 then some (((-2) : Int32), σ2) else (bd (f_M_notes σ2) fun r_2 σ3 => (ix 2 27 fun j3 => (ix (5 + (gA σ3 4 j3)) 27 fun j4 => (ix (5 + (gA σ3 4 j3)) 27 fun j5 => nm (sA σ3 4 j5 ((gA σ3 4 j4) + 1)) fun σ4 => (ix 2 27 fun j6 => (ix 2 27 fun j7 => nm (sA σ4 4 j7 (1 - (gA σ4 4 j6))) fun σ5 => (ix 2 27 fun j8 => some ((gA σ5 4 j8), σ5))))))))))))))
-- TippedBarrowModel.evens
def f_M_evens_41 (σ : Mm)  : Option (Int32 × Mm) := some (((-1000000) : Int32), σ)
def f_M_evens (σ : Mm) (v1 : Int32) (v2 : Int32) (v3 : Int32) : Option (Int32 × Mm) := (nm (sI σ 0 0 0) fun σ1 => (bd (f_M_isGround σ1 v1 v2) fun r_1 σ2 => (if r_1 = 0 then f_M_evens_41 σ2 else (bd (f_M_in σ2 v3 (-4) 4) fun r_2 σ3 => (if r_2 = 0 then f_M_evens_41 σ3 else (ix ((7 + (5 * v2)) + v1) 27 fun j1 => (if (gA σ3 4 j1) = v3 then f_M_evens_41 σ3 else (bd (f_M_notes σ3) fun r_3 σ4 => (ix ((7 + (5 * v2)) + v1) 27 fun j2 => (nm (gA σ4 4 j2) fun y1 => (ix ((7 + (5 * v2)) + v1) 27 fun j3 => nm (sA σ4 4 j3 v3) fun σ5 => some (y1, σ5))))))))))))
-- TippedBarrowModel.undo
def f_M_undo_59 (σ : Mm)  : Option (Int32 × Mm) := some ((gI σ 0 18), σ)
def f_M_undo_27_b  (σ : Mm) (v1 : Int32) : Option ((Mm × Int32) ⊕ (Int32 × Mm)) := (if v1 < 27 then (ix ((27 * (gI σ 0 18)) + v1) 270 fun j1 => (ix v1 27 fun j2 => nm (sA σ 4 j2 (gA σ 7 j1)) fun σ1 => (nm (v1 + 1) fun y1 => some (Sum.inl (σ1, y1))))) else ((f_M_undo_59 σ : Option (Int32 × Mm)).map Sum.inr))
def f_M_undo_27 (σ : Mm) (v1 : Int32) : Option (Int32 × Mm) := lp (fun s : Mm × Int32 => f_M_undo_27_b s.1 s.2) (σ, v1)
def f_M_undo (σ : Mm)  : Option (Int32 × Mm) := (nm (sI σ 0 0 0) fun σ1 => (if (gI σ1 0 18) = 0 then some (((-2) : Int32), σ1) else (nm (sI σ1 0 18 ((gI σ1 0 18) - 1)) fun σ2 => f_M_undo_27 σ2 0)))
-- TippedBarrowModel.would
def f_M_would_44 (σ : Mm) (s0 : Int32) : Option (Int32 × Mm) := (if s0 = 3 then some (((-2) : Int32), σ) else some (s0, σ))
def f_M_would (σ : Mm) (v1 : Int32) : Option (Int32 × Mm) := (nm (sI σ 0 0 0) fun σ1 => (bd (f_M_in σ1 v1 0 3) fun r_1 σ2 => (if r_1 = 0 then some (((-1) : Int32), σ2) else (bd (f_M_hasStart σ2) fun r_2 σ3 => (if r_2 = 0 then f_M_would_44 σ3 3 else (ix 0 27 fun j1 => (ix 1 27 fun j2 => (bd (f_M_comesBy σ3 (gA σ3 4 j1) (gA σ3 4 j2) v1) fun r_3 σ4 => f_M_would_44 σ4 r_3))))))))
-- TippedBarrowModel.spot
def f_M_spot (σ : Mm) (v0 : Int32) (v1 : Int32) : Option (Int32 × Mm) := some ((((17 * v0) + v1) + 8), σ)
-- TippedBarrowModel.winnerBehind
def f_M_winnerBehind (σ : Mm) (v1 : Int32) (v2 : Int32) : Option (Int32 × Mm) := (if v1 = 0 then (bd (f_M_spot σ (gI σ 0 21) (gI σ 0 22)) fun r_1 σ1 => (ix (((2 * r_1) + 1) - v2) 680 fun j1 => some ((gA σ1 9 j1), σ1))) else some (v1, σ))
-- TippedBarrowModel.pushesBehind
def f_M_pushesBehind (σ : Mm) (v1 : Int32) (v2 : Int32) : Option (Int32 × Mm) := (if v1 = 0 then (bd (f_M_spot σ (gI σ 0 21) (gI σ 0 22)) fun r_1 σ1 => (ix (((2 * r_1) + 1) - v2) 680 fun j1 => some ((gA σ1 10 j1), σ1))) else some ((0 : Int32), σ))
-- TippedBarrowModel.isIn
def f_M_isIn_151 (σ : Mm) (v3 : Int32) (v4 : Int32) (v5 : Int32) (v6 : Int32) (v7 : Int32) (v8 : Int32) : Option (Int32 × Mm) := (if v6 = v5 then (if v7 = (v4 - 1) then (ix v8 680 fun j1 => nm (sA σ 9 j1 (2 - v3)) fun σ1 => (ix v8 680 fun j2 => nm (sA σ1 10 j2 v4) fun σ2 => some ((1 : Int32), σ2))) else some ((0 : Int32), σ)) else some ((0 : Int32), σ))
def f_M_isIn_143 (σ : Mm) (v5 : Int32) (v6 : Int32) (v9 : Int32) (s0 : Int32) : Option ((Mm × Int32 × Int32 × Int32 × Int32) ⊕ (Int32 × Mm)) := (nm (v9 + 1) fun y1 => some (Sum.inl (σ, v5, v6, s0, y1)))
def f_M_isIn_141 (σ : Mm) (v5 : Int32) (v6 : Int32) (v7 : Int32) (v9 : Int32) : Option ((Mm × Int32 × Int32 × Int32 × Int32) ⊕ (Int32 × Mm)) := f_M_isIn_143 σ v5 v6 v9 v7
def f_M_isIn_118 (σ : Mm) (v3 : Int32) (v5 : Int32) (v7 : Int32) (v9 : Int32) (v11 : Int32) (v12 : Int32) (s0 : Int32) (s1 : Int32) : Option ((Mm × Int32 × Int32 × Int32 × Int32) ⊕ (Int32 × Mm)) := (nm (s0 + s1) fun y1 => (if v11 = (2 - v3) then (if v12 ≤ v7 then f_M_isIn_141 σ v5 y1 v7 v9 else f_M_isIn_143 σ v5 y1 v9 v12) else f_M_isIn_141 σ v5 y1 v7 v9))
def f_M_isIn_100 (σ : Mm) (v3 : Int32) (v5 : Int32) (v6 : Int32) (v7 : Int32) (v9 : Int32) (v11 : Int32) (v12 : Int32) : Option ((Mm × Int32 × Int32 × Int32 × Int32) ⊕ (Int32 × Mm)) := (nm (v5 + 1) fun y1 => (if v11 = (2 - v3) then f_M_isIn_118 σ v3 y1 v7 v9 v11 v12 v6 1 else f_M_isIn_118 σ v3 y1 v7 v9 v11 v12 v6 0))
def f_M_isIn_80 (σ : Mm) (v4 : Int32) (v8 : Int32) (v11 : Int32) : Option (Int32 × Mm) := (ix v8 680 fun j1 => nm (sA σ 9 j1 v11) fun σ1 => (ix v8 680 fun j2 => nm (sA σ1 10 j2 v4) fun σ2 => some ((1 : Int32), σ2)))
def f_M_isIn_23_b (v1 : Int32) (v2 : Int32) (v3 : Int32) (v4 : Int32) (v8 : Int32) (σ : Mm) (v5 : Int32) (v6 : Int32) (v7 : Int32) (v9 : Int32) : Option ((Mm × Int32 × Int32 × Int32 × Int32) ⊕ (Int32 × Mm)) := (if v9 < 4 then (bd (f_M_comesBy σ v1 v2 v9) fun r_1 σ1 => (if r_1 = 3 then (nm (v9 + 1) fun y1 => some (Sum.inl (σ1, v5, v6, v7, y1))) else (bd (f_M_winnerBehind σ1 r_1 v3) fun r_2 σ2 => (bd (f_M_pushesBehind σ2 r_1 v3) fun r_3 σ3 => (if r_2 = (v3 + 1) then (if r_3 = (v4 - 1) then ((f_M_isIn_80 σ3 v4 v8 r_2 : Option (Int32 × Mm)).map Sum.inr) else f_M_isIn_100 σ3 v3 v5 v6 v7 v9 r_2 r_3) else f_M_isIn_100 σ3 v3 v5 v6 v7 v9 r_2 r_3))))) else ((f_M_isIn_151 σ v3 v4 v5 v6 v7 v8 : Option (Int32 × Mm)).map Sum.inr))
def f_M_isIn_23 (σ : Mm) (v1 : Int32) (v2 : Int32) (v3 : Int32) (v4 : Int32) (v8 : Int32) (v5 : Int32) (v6 : Int32) (v7 : Int32) (v9 : Int32) : Option (Int32 × Mm) := lp (fun s : Mm × Int32 × Int32 × Int32 × Int32 => f_M_isIn_23_b v1 v2 v3 v4 v8 s.1 s.2.1 s.2.2.1 s.2.2.2.1 s.2.2.2.2) (σ, v5, v6, v7, v9)
def f_M_isIn (σ : Mm) (v1 : Int32) (v2 : Int32) (v3 : Int32) (v4 : Int32) : Option (Int32 × Mm) := (bd (f_M_spot σ v1 v2) fun r_1 σ1 => (nm ((2 * r_1) + v3) fun y1 => f_M_isIn_23 σ1 v1 v2 v3 v4 y1 0 0 (-1) 0))
-- TippedBarrowModel.rounds
def f_M_rounds_111 (σ : Mm) (v3 : Int32) (s0 : Int32) : Option ((Mm × Int32 × Int32) ⊕ (Int32 × Mm)) := (nm (v3 + 1) fun y1 => some (Sum.inl (σ, s0, y1)))
def f_M_rounds_106 (σ : Mm) (v3 : Int32) : Option ((Mm × Int32 × Int32) ⊕ (Int32 × Mm)) := f_M_rounds_111 σ v3 1
def f_M_rounds_102 (σ : Mm) (v2 : Int32) (v3 : Int32) : Option ((Mm × Int32 × Int32) ⊕ (Int32 × Mm)) := (if v2 = 0 then f_M_rounds_111 σ v3 0 else f_M_rounds_106 σ v3)
def f_M_rounds_80 (σ : Mm) (v1 : Int32) (v2 : Int32) (v3 : Int32) (v4 : Int32) (v5 : Int32) (s0 : Int32) : Option ((Mm × Int32 × Int32) ⊕ (Int32 × Mm)) := (if s0 = 0 then f_M_rounds_102 σ v2 v3 else (bd (f_M_isIn σ v4 v5 (rm32 v3 2) v1) fun r_1 σ1 => (if r_1 = 0 then f_M_rounds_102 σ1 v2 v3 else f_M_rounds_106 σ1 v3)))
def f_M_rounds_79 (σ : Mm) (v1 : Int32) (v2 : Int32) (v3 : Int32) (v4 : Int32) (v5 : Int32) : Option ((Mm × Int32 × Int32) ⊕ (Int32 × Mm)) := f_M_rounds_80 σ v1 v2 v3 v4 v5 0
def f_M_rounds_4_b (v1 : Int32) (σ : Mm) (v2 : Int32) (v3 : Int32) : Option ((Mm × Int32 × Int32) ⊕ (Int32 × Mm)) := (if v3 < 680 then (nm (v3 / 34) fun y1 => (nm ((rm32 (v3 / 2) 17) - 8) fun y2 => (ix v3 680 fun j1 => (if (gA σ 9 j1) = 0 then (bd (f_M_isGround σ (rm32 y1 5) (y1 / 5)) fun r_1 σ1 => (if r_1 = 0 then f_M_rounds_79 σ1 v1 v2 v3 y1 y2 else (ix 3 10 fun j2 => (if y2 < (gA σ1 2 j2) then (ix 3 10 fun j3 => (if y2 ≤ (-(gA σ1 2 j3)) then f_M_rounds_79 σ1 v1 v2 v3 y1 y2 else f_M_rounds_80 σ1 v1 v2 v3 y1 y2 1)) else f_M_rounds_79 σ1 v1 v2 v3 y1 y2)))) else f_M_rounds_79 σ v1 v2 v3 y1 y2)))) else (((if v2 = 0 ∨ v2 = 1 then some (v2, σ) else none) : Option (Int32 × Mm)).map Sum.inr))
def f_M_rounds_4 (σ : Mm) (v1 : Int32) (v2 : Int32) (v3 : Int32) : Option (Int32 × Mm) := lp (fun s : Mm × Int32 × Int32 => f_M_rounds_4_b v1 s.1 s.2.1 s.2.2) (σ, v2, v3)
def f_M_rounds (σ : Mm) (v1 : Int32) : Option (Int32 × Mm) := f_M_rounds_4 σ v1 0 0
-- TippedBarrowModel.plays
def f_M_plays_37_b  (σ : Mm) (v1 : Int32) : Option ((Mm × Int32) ⊕ (Int32 × Mm)) := (bd (f_M_rounds σ v1) fun r_1 σ1 => (if r_1 = 0 then ((some ((0 : Int32), σ1) : Option (Int32 × Mm)).map Sum.inr) else (nm (v1 + 1) fun y1 => some (Sum.inl (σ1, y1)))))
def f_M_plays_37 (σ : Mm) (v1 : Int32) : Option (Int32 × Mm) := lp (fun s : Mm × Int32 => f_M_plays_37_b s.1 s.2) (σ, v1)
def f_M_plays_29 (σ : Mm)  : Option (Int32 × Mm) := (bd (f_M_rounds σ 0) fun r_1 σ1 => f_M_plays_37 σ1 1)
def f_M_plays_2_b  (σ : Mm) (v1 : Int32) : Option ((Mm × Int32) ⊕ (Int32 × Mm)) := (if v1 < 680 then (ix v1 680 fun j1 => nm (sA σ 9 j1 0) fun σ1 => (ix v1 680 fun j2 => nm (sA σ1 10 j2 0) fun σ2 => (nm (v1 + 1) fun y1 => some (Sum.inl (σ2, y1))))) else ((f_M_plays_29 σ : Option (Int32 × Mm)).map Sum.inr))
def f_M_plays_2 (σ : Mm) (v1 : Int32) : Option (Int32 × Mm) := lp (fun s : Mm × Int32 => f_M_plays_2_b s.1 s.2) (σ, v1)
def f_M_plays (σ : Mm)  : Option (Int32 × Mm) := f_M_plays_2 σ 0
-- TippedBarrowModel.here
def f_M_here (σ : Mm)  : Option (Int32 × Mm) := (ix 0 27 fun j1 => (ix 1 27 fun j2 => (bd (f_M_spot σ (gA σ 4 j1) (gA σ 4 j2)) fun r_1 σ1 => (ix 2 27 fun j3 => some (((2 * r_1) + (gA σ1 4 j3)), σ1)))))
-- TippedBarrowModel.game
def f_M_game (σ : Mm) (v1 : Int32) : Option (Int32 × Mm) := (nm (sI σ 0 0 0) fun σ1 => (bd (f_M_in σ1 v1 0 1) fun r_1 σ2 => (if r_1 = 0 then some (((-1) : Int32), σ2) else (bd (f_M_hasStart σ2) fun r_2 σ3 => (if r_2 = 0 then some (((-2) : Int32), σ3) else (bd (f_M_plays σ3) fun r_3 σ4 => (if v1 = 0 then (bd (f_M_here σ4) fun r_6 σ7 => (ix r_6 680 fun j3 => some ((gA σ7 9 j3), σ7))) else (bd (f_M_here σ4) fun r_4 σ5 => (ix r_4 680 fun j1 => (if (gA σ5 9 j1) = 0 then some (((-9) : Int32), σ5) else (bd (f_M_here σ5) fun r_5 σ6 => (ix r_5 680 fun j2 => some ((gA σ6 10 j2), σ6)))))))))))))
-- TippedBarrowModel.advice
def f_M_advice_126 (σ : Mm) (v3 : Int32) (s0 : Int32) : Option ((Mm × Int32 × Int32) ⊕ (Int32 × Mm)) := (nm (v3 + (-1)) fun y1 => some (Sum.inl (σ, s0, y1)))
def f_M_advice_125 (σ : Mm) (v1 : Int32) (v3 : Int32) : Option ((Mm × Int32 × Int32) ⊕ (Int32 × Mm)) := f_M_advice_126 σ v3 v1
def f_M_advice_121 (σ : Mm) (v3 : Int32) : Option ((Mm × Int32 × Int32) ⊕ (Int32 × Mm)) := f_M_advice_126 σ v3 v3
def f_M_advice_84 (σ : Mm) (v1 : Int32) (v2 : Int32) (v3 : Int32) (v4 : Int32) (s0 : Int32) : Option ((Mm × Int32 × Int32) ⊕ (Int32 × Mm)) := (if s0 = 0 then f_M_advice_125 σ v1 v3 else (if v2 = 0 then f_M_advice_121 σ v3 else (ix 2 27 fun j1 => (bd (f_M_pushesBehind σ v4 (gA σ 4 j1)) fun r_1 σ1 => (bd (f_M_here σ1) fun r_2 σ2 => (ix r_2 680 fun j2 => (if r_1 = ((gA σ2 10 j2) - 1) then f_M_advice_121 σ2 v3 else f_M_advice_125 σ2 v1 v3)))))))
def f_M_advice_34_b (v2 : Int32) (σ : Mm) (v1 : Int32) (v3 : Int32) : Option ((Mm × Int32 × Int32) ⊕ (Int32 × Mm)) := (if v3 < 0 then ((some (v1, σ) : Option (Int32 × Mm)).map Sum.inr) else (ix 0 27 fun j1 => (ix 1 27 fun j2 => (bd (f_M_comesBy σ (gA σ 4 j1) (gA σ 4 j2) v3) fun r_1 σ1 => (if r_1 = 3 then (nm (v3 + (-1)) fun y1 => some (Sum.inl (σ1, v1, y1))) else (ix 2 27 fun j3 => (bd (f_M_winnerBehind σ1 r_1 (gA σ1 4 j3)) fun r_2 σ2 => (if r_2 = v2 then f_M_advice_84 σ2 v1 v2 v3 r_1 1 else f_M_advice_84 σ2 v1 v2 v3 r_1 0))))))))
def f_M_advice_34 (σ : Mm) (v2 : Int32) (v1 : Int32) (v3 : Int32) : Option (Int32 × Mm) := lp (fun s : Mm × Int32 × Int32 => f_M_advice_34_b v2 s.1 s.2.1 s.2.2) (σ, v1, v3)
def f_M_advice (σ : Mm)  : Option (Int32 × Mm) := (nm (sI σ 0 0 0) fun σ1 => (bd (f_M_hasStart σ1) fun r_1 σ2 => (if r_1 = 0 then some (((-2) : Int32), σ2) else (bd (f_M_plays σ2) fun r_2 σ3 => (bd (f_M_here σ3) fun r_3 σ4 => (ix r_3 680 fun j1 => (nm (gA σ4 9 j1) fun y1 => f_M_advice_34 σ4 y1 (-9) 3)))))))
-- TippedBarrowModel.hurries
def f_M_hurries_227 (σ : Mm) (v3 : Int32) (s0 : Int32) : Option ((Mm × Int32 × Int32) ⊕ (Int32 × Mm)) := (nm (v3 + 1) fun y1 => some (Sum.inl (σ, s0, y1)))
def f_M_hurries_222 (σ : Mm) (v3 : Int32) : Option ((Mm × Int32 × Int32) ⊕ (Int32 × Mm)) := f_M_hurries_227 σ v3 1
def f_M_hurries_213 (σ : Mm) (v2 : Int32) (v3 : Int32) : Option ((Mm × Int32 × Int32) ⊕ (Int32 × Mm)) := (if v2 = 0 then (if v3 = 1 then f_M_hurries_222 σ v3 else f_M_hurries_227 σ v3 0) else f_M_hurries_222 σ v3)
def f_M_hurries_200 (σ : Mm) (v6 : Int32) (s0 : Int32) : Option ((Mm × Int32 × Int32) ⊕ ((Mm × Int32 × Int32) ⊕ ((Mm × Int32 × Int32) ⊕ (Int32 × Mm)))) := (nm (v6 + 1) fun y1 => some (Sum.inl (σ, s0, y1)))
def f_M_hurries_195 (σ : Mm) (v6 : Int32) : Option ((Mm × Int32 × Int32) ⊕ ((Mm × Int32 × Int32) ⊕ ((Mm × Int32 × Int32) ⊕ (Int32 × Mm)))) := f_M_hurries_200 σ v6 1
def f_M_hurries_185 (σ : Mm) (v2 : Int32) (v6 : Int32) (v8 : Int32) (s1 : Int32) (s2 : Int32) : Option ((Mm × Int32 × Int32) ⊕ ((Mm × Int32 × Int32) ⊕ ((Mm × Int32 × Int32) ⊕ (Int32 × Mm)))) := (ix s1 340 fun j1 => nm (sA σ 11 j1 s2) fun σ1 => (if v2 = 0 then (if v8 = 0 then f_M_hurries_200 σ1 v6 0 else f_M_hurries_195 σ1 v6) else f_M_hurries_195 σ1 v6))
def f_M_hurries_161 (σ : Mm) (v2 : Int32) (v3 : Int32) (v4 : Int32) (v6 : Int32) (s0 : Int32) : Option ((Mm × Int32 × Int32) ⊕ ((Mm × Int32 × Int32) ⊕ ((Mm × Int32 × Int32) ⊕ (Int32 × Mm)))) := (if s0 = 0 then (ix v4 340 fun j1 => f_M_hurries_185 σ v2 v6 s0 v4 (gA σ 11 j1)) else f_M_hurries_185 σ v2 v6 s0 v4 v3)
def f_M_hurries_160 (σ : Mm) (v2 : Int32) (v3 : Int32) (v4 : Int32) (v6 : Int32) : Option ((Mm × Int32 × Int32) ⊕ ((Mm × Int32 × Int32) ⊕ ((Mm × Int32 × Int32) ⊕ (Int32 × Mm)))) := f_M_hurries_161 σ v2 v3 v4 v6 0
def f_M_hurries_54_b (v1 : Int32) (v3 : Int32) (v4 : Int32) (v5 : Int32) (σ : Mm) (v2 : Int32) (v6 : Int32) : Option ((Mm × Int32 × Int32) ⊕ ((Mm × Int32 × Int32) ⊕ ((Mm × Int32 × Int32) ⊕ (Int32 × Mm)))) := (if v6 < 4 then (ix v4 340 fun j1 => (if (gA σ 11 j1) = (-9) then (bd (f_M_isGround σ (rm32 v5 5) (v5 / 5)) fun r_1 σ1 => (if r_1 = 0 then (((nm (v4 + 1) fun y3 => some (Sum.inl (σ1, v2, y3))) : Option ((Mm × Int32 × Int32) ⊕ ((Mm × Int32 × Int32) ⊕ (Int32 × Mm)))).map Sum.inr) else (bd (f_M_comesBy σ1 v5 ((rm32 v4 17) - 8) v6) fun r_2 σ2 => (if r_2 = v1 then (if v3 = 1 then f_M_hurries_161 σ2 v2 v3 v4 v6 1 else f_M_hurries_161 σ2 v2 v3 v4 v6 0) else (if r_2 = 0 then (if v3 ≤ 1 then f_M_hurries_160 σ2 v2 v3 v4 v6 else (bd (f_M_spot σ2 (gI σ2 0 21) (gI σ2 0 22)) fun r_3 σ3 => (ix r_3 340 fun j2 => (if (gA σ3 11 j2) = (v3 - 1) then f_M_hurries_161 σ3 v2 v3 v4 v6 1 else f_M_hurries_160 σ3 v2 v3 v4 v6)))) else f_M_hurries_160 σ2 v2 v3 v4 v6))))) else (((nm (v4 + 1) fun y2 => some (Sum.inl (σ, v2, y2))) : Option ((Mm × Int32 × Int32) ⊕ ((Mm × Int32 × Int32) ⊕ (Int32 × Mm)))).map Sum.inr))) else (((nm (v4 + 1) fun y1 => some (Sum.inl (σ, v2, y1))) : Option ((Mm × Int32 × Int32) ⊕ ((Mm × Int32 × Int32) ⊕ (Int32 × Mm)))).map Sum.inr))
def f_M_hurries_54 (σ : Mm) (v1 : Int32) (v3 : Int32) (v4 : Int32) (v5 : Int32) (v2 : Int32) (v6 : Int32) : Option ((Mm × Int32 × Int32) ⊕ ((Mm × Int32 × Int32) ⊕ (Int32 × Mm))) := lp (fun s : Mm × Int32 × Int32 => f_M_hurries_54_b v1 v3 v4 v5 s.1 s.2.1 s.2.2) (σ, v2, v6)
def f_M_hurries_36_b (v1 : Int32) (v3 : Int32) (σ : Mm) (v2 : Int32) (v4 : Int32) : Option ((Mm × Int32 × Int32) ⊕ ((Mm × Int32 × Int32) ⊕ (Int32 × Mm))) := (if v4 < 340 then (nm (v4 / 17) fun y1 => f_M_hurries_54 σ v1 v3 v4 y1 v2 0) else ((f_M_hurries_213 σ v2 v3 : Option ((Mm × Int32 × Int32) ⊕ (Int32 × Mm))).map Sum.inr))
def f_M_hurries_36 (σ : Mm) (v1 : Int32) (v3 : Int32) (v2 : Int32) (v4 : Int32) : Option ((Mm × Int32 × Int32) ⊕ (Int32 × Mm)) := lp (fun s : Mm × Int32 × Int32 => f_M_hurries_36_b v1 v3 s.1 s.2.1 s.2.2) (σ, v2, v4)
def f_M_hurries_27_b (v1 : Int32) (σ : Mm) (v2 : Int32) (v3 : Int32) : Option ((Mm × Int32 × Int32) ⊕ (Int32 × Mm)) := (if v2 = 0 then ((some ((0 : Int32), σ) : Option (Int32 × Mm)).map Sum.inr) else f_M_hurries_36 σ v1 v3 0 0)
def f_M_hurries_27 (σ : Mm) (v1 : Int32) (v2 : Int32) (v3 : Int32) : Option (Int32 × Mm) := lp (fun s : Mm × Int32 × Int32 => f_M_hurries_27_b v1 s.1 s.2.1 s.2.2) (σ, v2, v3)
def f_M_hurries_23 (σ : Mm) (v1 : Int32) : Option (Int32 × Mm) := f_M_hurries_27 σ v1 1 1
def f_M_hurries_2_b (v1 : Int32) (σ : Mm) (v2 : Int32) : Option ((Mm × Int32) ⊕ (Int32 × Mm)) := (if v2 < 340 then (ix v2 340 fun j1 => nm (sA σ 11 j1 (-9)) fun σ1 => (nm (v2 + 1) fun y1 => some (Sum.inl (σ1, y1)))) else ((f_M_hurries_23 σ v1 : Option (Int32 × Mm)).map Sum.inr))
def f_M_hurries_2 (σ : Mm) (v1 : Int32) (v2 : Int32) : Option (Int32 × Mm) := lp (fun s : Mm × Int32 => f_M_hurries_2_b v1 s.1 s.2) (σ, v2)
def f_M_hurries (σ : Mm) (v1 : Int32) : Option (Int32 × Mm) := f_M_hurries_2 σ v1 0
-- TippedBarrowModel.soonest
def f_M_soonest_185 (σ : Mm) (v2 : Int32) (v3 : Int32) (v4 : Int32) (v5 : Int32) (v6 : Int32) (v7 : Int32) : Option ((Mm × Int32 × Int32 × Int32 × Int32) ⊕ (Int32 × Mm)) := (if v6 = v2 then ((some (v7, σ) : Option (Int32 × Mm)).map Sum.inr) else (bd (f_M_comesBy σ v3 v4 v7) fun r_1 σ1 => (nm (gI σ1 0 21) fun y1 => (nm (gI σ1 0 22) fun y2 => (nm (v5 + (-1)) fun y3 => (nm (v6 + 1) fun y4 => some (Sum.inl (σ1, y1, y2, y3, y4))))))))
def f_M_soonest_177 (σ : Mm) (v8 : Int32) (s0 : Int32) : Option ((Mm × Int32 × Int32) ⊕ ((Mm × Int32 × Int32 × Int32 × Int32) ⊕ (Int32 × Mm))) := (nm (v8 + (-1)) fun y1 => some (Sum.inl (σ, s0, y1)))
def f_M_soonest_163 (σ : Mm) (v7 : Int32) (v8 : Int32) (s0 : Int32) : Option ((Mm × Int32 × Int32) ⊕ ((Mm × Int32 × Int32 × Int32 × Int32) ⊕ (Int32 × Mm))) := (if s0 = 0 then f_M_soonest_177 σ v8 v7 else f_M_soonest_177 σ v8 v8)
def f_M_soonest_162 (σ : Mm) (v7 : Int32) (v8 : Int32) : Option ((Mm × Int32 × Int32) ⊕ ((Mm × Int32 × Int32 × Int32 × Int32) ⊕ (Int32 × Mm))) := f_M_soonest_163 σ v7 v8 0
def f_M_soonest_94_b (v1 : Int32) (v2 : Int32) (v3 : Int32) (v4 : Int32) (v5 : Int32) (v6 : Int32) (σ : Mm) (v7 : Int32) (v8 : Int32) : Option ((Mm × Int32 × Int32) ⊕ ((Mm × Int32 × Int32 × Int32 × Int32) ⊕ (Int32 × Mm))) := (if v8 < 0 then ((f_M_soonest_185 σ v2 v3 v4 v5 v6 v7 : Option ((Mm × Int32 × Int32 × Int32 × Int32) ⊕ (Int32 × Mm))).map Sum.inr) else (bd (f_M_comesBy σ v3 v4 v8) fun r_1 σ1 => (if v5 = 1 then (if r_1 = v1 then f_M_soonest_163 σ1 v7 v8 1 else f_M_soonest_163 σ1 v7 v8 0) else (if r_1 = 0 then (bd (f_M_spot σ1 (gI σ1 0 21) (gI σ1 0 22)) fun r_2 σ2 => (ix r_2 340 fun j1 => (if (gA σ2 11 j1) = (v5 - 1) then f_M_soonest_163 σ2 v7 v8 1 else f_M_soonest_162 σ2 v7 v8))) else f_M_soonest_162 σ1 v7 v8))))
def f_M_soonest_94 (σ : Mm) (v1 : Int32) (v2 : Int32) (v3 : Int32) (v4 : Int32) (v5 : Int32) (v6 : Int32) (v7 : Int32) (v8 : Int32) : Option ((Mm × Int32 × Int32 × Int32 × Int32) ⊕ (Int32 × Mm)) := lp (fun s : Mm × Int32 × Int32 => f_M_soonest_94_b v1 v2 v3 v4 v5 v6 s.1 s.2.1 s.2.2) (σ, v7, v8)
def f_M_soonest_82_b (v1 : Int32) (v2 : Int32) (σ : Mm) (v3 : Int32) (v4 : Int32) (v5 : Int32) (v6 : Int32) : Option ((Mm × Int32 × Int32 × Int32 × Int32) ⊕ (Int32 × Mm)) := (if v5 ≤ 0 then ((some (((-5) : Int32), σ) : Option (Int32 × Mm)).map Sum.inr) else f_M_soonest_94 σ v1 v2 v3 v4 v5 v6 (-9) 3)
def f_M_soonest_82 (σ : Mm) (v1 : Int32) (v2 : Int32) (v3 : Int32) (v4 : Int32) (v5 : Int32) (v6 : Int32) : Option (Int32 × Mm) := lp (fun s : Mm × Int32 × Int32 × Int32 × Int32 => f_M_soonest_82_b v1 v2 s.1 s.2.1 s.2.2.1 s.2.2.2.1 s.2.2.2.2) (σ, v3, v4, v5, v6)
def f_M_soonest (σ : Mm) (v1 : Int32) (v2 : Int32) : Option (Int32 × Mm) := (nm (sI σ 0 0 0) fun σ1 => (bd (f_M_in σ1 v1 1 2) fun r_1 σ2 => (if r_1 = 0 then some (((-1) : Int32), σ2) else (if v2 < (-1) then some (((-1) : Int32), σ2) else (bd (f_M_hasStart σ2) fun r_2 σ3 => (if r_2 = 0 then some (((-2) : Int32), σ3) else (bd (f_M_hurries σ3 v1) fun r_3 σ4 => (ix 0 27 fun j1 => (nm (gA σ4 4 j1) fun y1 => (ix 1 27 fun j2 => (nm (gA σ4 4 j2) fun y2 => (bd (f_M_spot σ4 y1 y2) fun r_4 σ5 => (ix r_4 340 fun j3 => (nm (gA σ5 11 j3) fun y3 => (if y3 = (-9) then some (y3, σ5) else (if v2 = (-1) then some (y3, σ5) else f_M_soonest_82 σ5 v1 v2 y1 y2 y3 0))))))))))))))))
-- TippedBarrowModel.gcd
def f_M_gcd_4_b  (σ : Mm) (v2 : Int32) (v3 : Int32) : Option ((Mm × Int32 × Int32) ⊕ (Int32 × Mm)) := (if v3 = 0 then ((some (v2, σ) : Option (Int32 × Mm)).map Sum.inr) else (if v3 = 0 then none else (nm (rm32 v2 v3) fun y1 => some (Sum.inl (σ, v3, y1)))))
def f_M_gcd_4 (σ : Mm) (v2 : Int32) (v3 : Int32) : Option (Int32 × Mm) := lp (fun s : Mm × Int32 × Int32 => f_M_gcd_4_b s.1 s.2.1 s.2.2) (σ, v2, v3)
def f_M_gcd (σ : Mm) (v0 : Int32) (v1 : Int32) : Option (Int32 × Mm) := f_M_gcd_4 σ v0 v1
-- TippedBarrowModel.spreads
def f_M_spreads_154 (σ : Mm) (v5 : Int32) (s0 : Int32) (s1 : Int32) : Option ((Mm × Int32 × Int32) ⊕ (Int32 × Mm)) := (nm (s0 + s1) fun y1 => (nm (v5 + 1) fun y2 => some (Sum.inl (σ, y1, y2))))
def f_M_spreads_140 (σ : Mm) (v2 : Int32) (v4 : Int32) (v5 : Int32) (v6 : Int32) (v7 : Int32) : Option ((Mm × Int32 × Int32) ⊕ (Int32 × Mm)) := (if v6 = v2 then f_M_spreads_154 σ v5 v4 v7 else f_M_spreads_154 σ v5 v4 0)
def f_M_spreads_76_b (v1 : Int32) (v2 : Int32) (v3 : Int32) (σ : Mm) (v4 : Int32) (v5 : Int32) : Option ((Mm × Int32 × Int32) ⊕ (Int32 × Mm)) := (if v5 < 4 then (bd (f_M_comesBy σ (v1 / 17) ((rm32 v1 17) - 8) v5) fun r_1 σ1 => (ix v1 340 fun j1 => (if v3 = 0 then none else (nm ((gA σ1 12 j1) * (12 / v3)) fun y1 => (if r_1 = 0 then (bd (f_M_spot σ1 (gI σ1 0 21) (gI σ1 0 22)) fun r_2 σ2 => (ix r_2 340 fun j2 => (ix r_2 340 fun j3 => nm (sA σ2 13 j3 ((gA σ2 13 j2) + y1)) fun σ3 => f_M_spreads_140 σ3 v2 v4 v5 r_1 y1))) else f_M_spreads_140 σ1 v2 v4 v5 r_1 y1))))) else ((some (v4, σ) : Option (Int32 × Mm)).map Sum.inr))
def f_M_spreads_76 (σ : Mm) (v1 : Int32) (v2 : Int32) (v3 : Int32) (v4 : Int32) (v5 : Int32) : Option (Int32 × Mm) := lp (fun s : Mm × Int32 × Int32 => f_M_spreads_76_b v1 v2 v3 s.1 s.2.1 s.2.2) (σ, v4, v5)
def f_M_spreads_49 (σ : Mm) (v1 : Int32) (v2 : Int32) (v3 : Int32) (v4 : Int32) : Option (Int32 × Mm) := (if v3 = 0 then (ix v1 340 fun j1 => (ix v1 340 fun j2 => (ix v1 340 fun j3 => nm (sA σ 13 j3 ((gA σ 13 j1) + (12 * (gA σ 12 j2)))) fun σ1 => some ((0 : Int32), σ1)))) else f_M_spreads_76 σ v1 v2 v3 v4 0)
def f_M_spreads_41 (σ : Mm) (v5 : Int32) (s0 : Int32) (s1 : Int32) : Option ((Mm × Int32 × Int32) ⊕ (Int32 × Mm)) := (nm (s0 + s1) fun y1 => (nm (v5 + 1) fun y2 => some (Sum.inl (σ, y1, y2))))
def f_M_spreads_8_b (v1 : Int32) (v2 : Int32) (v4 : Int32) (σ : Mm) (v3 : Int32) (v5 : Int32) : Option ((Mm × Int32 × Int32) ⊕ (Int32 × Mm)) := (if v5 < 4 then (bd (f_M_comesBy σ (v1 / 17) ((rm32 v1 17) - 8) v5) fun r_1 σ1 => (if r_1 = 3 then f_M_spreads_41 σ1 v5 v3 0 else f_M_spreads_41 σ1 v5 v3 1)) else ((f_M_spreads_49 σ v1 v2 v3 v4 : Option (Int32 × Mm)).map Sum.inr))
def f_M_spreads_8 (σ : Mm) (v1 : Int32) (v2 : Int32) (v4 : Int32) (v3 : Int32) (v5 : Int32) : Option (Int32 × Mm) := lp (fun s : Mm × Int32 × Int32 => f_M_spreads_8_b v1 v2 v4 s.1 s.2.1 s.2.2) (σ, v3, v5)
def f_M_spreads (σ : Mm) (v1 : Int32) (v2 : Int32) : Option (Int32 × Mm) := f_M_spreads_8 σ v1 v2 0 0 0
-- TippedBarrowModel.odds
def f_M_odds_227 (σ : Mm) (v3 : Int32) (v4 : Int32) (v5 : Int32) : Option (Int32 × Mm) := (bd (f_M_gcd σ v4 v5) fun r_1 σ1 => (if v3 = 0 then (if r_1 = 0 then none else some ((v4 / r_1), σ1)) else (if r_1 = 0 then none else some ((v5 / r_1), σ1))))
def f_M_odds_193_b (v4 : Int32) (v5 : Int32) (v6 : Int32) (σ : Mm) (v7 : Int32) : Option ((Mm × Int32) ⊕ ((Mm × Int32 × Int32 × Int32) ⊕ (Int32 × Mm))) := (if v7 < 340 then (ix v7 340 fun j1 => (ix v7 340 fun j2 => nm (sA σ 12 j2 (gA σ 13 j1)) fun σ1 => (nm (v7 + 1) fun y2 => some (Sum.inl (σ1, y2))))) else (((nm (v6 + 1) fun y1 => some (Sum.inl (σ, v4, v5, y1))) : Option ((Mm × Int32 × Int32 × Int32) ⊕ (Int32 × Mm))).map Sum.inr))
def f_M_odds_193 (σ : Mm) (v4 : Int32) (v5 : Int32) (v6 : Int32) (v7 : Int32) : Option ((Mm × Int32 × Int32 × Int32) ⊕ (Int32 × Mm)) := lp (fun s : Mm × Int32 => f_M_odds_193_b v4 v5 v6 s.1 s.2) (σ, v7)
def f_M_odds_190 (σ : Mm) (v4 : Int32) (v5 : Int32) (v6 : Int32) : Option ((Mm × Int32 × Int32 × Int32) ⊕ (Int32 × Mm)) := f_M_odds_193 σ v4 v5 v6 0
def f_M_odds_181 (σ : Mm) (v7 : Int32) (s0 : Int32) (s1 : Int32) : Option ((Mm × Int32 × Int32) ⊕ ((Mm × Int32 × Int32 × Int32) ⊕ (Int32 × Mm))) := (nm (s0 + s1) fun y1 => (nm (v7 + 1) fun y2 => some (Sum.inl (σ, y1, y2))))
def f_M_odds_150_b (v1 : Int32) (v5 : Int32) (v6 : Int32) (σ : Mm) (v4 : Int32) (v7 : Int32) : Option ((Mm × Int32 × Int32) ⊕ ((Mm × Int32 × Int32 × Int32) ⊕ (Int32 × Mm))) := (if v7 < 340 then (ix v7 340 fun j1 => (if (gA σ 12 j1) ≤ 0 then f_M_odds_181 σ v7 v4 0 else (bd (f_M_spreads σ v7 v1) fun r_1 σ1 => f_M_odds_181 σ1 v7 v4 r_1))) else ((f_M_odds_190 σ v4 v5 v6 : Option ((Mm × Int32 × Int32 × Int32) ⊕ (Int32 × Mm))).map Sum.inr))
def f_M_odds_150 (σ : Mm) (v1 : Int32) (v5 : Int32) (v6 : Int32) (v4 : Int32) (v7 : Int32) : Option ((Mm × Int32 × Int32 × Int32) ⊕ (Int32 × Mm)) := lp (fun s : Mm × Int32 × Int32 => f_M_odds_150_b v1 v5 v6 s.1 s.2.1 s.2.2) (σ, v4, v7)
def f_M_odds_147 (σ : Mm) (v1 : Int32) (v4 : Int32) (v5 : Int32) (v6 : Int32) : Option ((Mm × Int32 × Int32 × Int32) ⊕ (Int32 × Mm)) := f_M_odds_150 σ v1 v5 v6 v4 0
def f_M_odds_125_b (v1 : Int32) (v4 : Int32) (v5 : Int32) (v6 : Int32) (σ : Mm) (v7 : Int32) : Option ((Mm × Int32) ⊕ ((Mm × Int32 × Int32 × Int32) ⊕ (Int32 × Mm))) := (if v7 < 340 then (ix v7 340 fun j1 => nm (sA σ 13 j1 0) fun σ1 => (nm (v7 + 1) fun y1 => some (Sum.inl (σ1, y1)))) else ((f_M_odds_147 σ v1 v4 v5 v6 : Option ((Mm × Int32 × Int32 × Int32) ⊕ (Int32 × Mm))).map Sum.inr))
def f_M_odds_125 (σ : Mm) (v1 : Int32) (v4 : Int32) (v5 : Int32) (v6 : Int32) (v7 : Int32) : Option ((Mm × Int32 × Int32 × Int32) ⊕ (Int32 × Mm)) := lp (fun s : Mm × Int32 => f_M_odds_125_b v1 v4 v5 v6 s.1 s.2) (σ, v7)
def f_M_odds_102_b (v1 : Int32) (v2 : Int32) (v3 : Int32) (σ : Mm) (v4 : Int32) (v5 : Int32) (v6 : Int32) : Option ((Mm × Int32 × Int32 × Int32) ⊕ (Int32 × Mm)) := (if v6 < v2 then (nm (v5 * 12) fun y1 => (nm (v4 * 12) fun y2 => f_M_odds_125 σ v1 y2 y1 v6 0)) else ((f_M_odds_227 σ v3 v4 v5 : Option (Int32 × Mm)).map Sum.inr))
def f_M_odds_102 (σ : Mm) (v1 : Int32) (v2 : Int32) (v3 : Int32) (v4 : Int32) (v5 : Int32) (v6 : Int32) : Option (Int32 × Mm) := lp (fun s : Mm × Int32 × Int32 × Int32 => f_M_odds_102_b v1 v2 v3 s.1 s.2.1 s.2.2.1 s.2.2.2) (σ, v4, v5, v6)
def f_M_odds_99 (σ : Mm) (v1 : Int32) (v2 : Int32) (v3 : Int32) (v4 : Int32) (v5 : Int32) : Option (Int32 × Mm) := f_M_odds_102 σ v1 v2 v3 v4 v5 0
def f_M_odds_92 (σ : Mm) (v6 : Int32) (s1 : Int32) (s2 : Int32) : Option ((Mm × Int32) ⊕ (Int32 × Mm)) := (ix s1 340 fun j1 => nm (sA σ 12 j1 s2) fun σ1 => (nm (v6 + 1) fun y1 => some (Sum.inl (σ1, y1))))
def f_M_odds_53_b (v1 : Int32) (v2 : Int32) (v3 : Int32) (v4 : Int32) (v5 : Int32) (σ : Mm) (v6 : Int32) : Option ((Mm × Int32) ⊕ (Int32 × Mm)) := (if v6 < 340 then (ix 0 27 fun j1 => (ix 1 27 fun j2 => (bd (f_M_spot σ (gA σ 4 j1) (gA σ 4 j2)) fun r_1 σ1 => (if v6 = r_1 then f_M_odds_92 σ1 v6 v6 1 else f_M_odds_92 σ1 v6 v6 0)))) else ((f_M_odds_99 σ v1 v2 v3 v4 v5 : Option (Int32 × Mm)).map Sum.inr))
def f_M_odds_53 (σ : Mm) (v1 : Int32) (v2 : Int32) (v3 : Int32) (v4 : Int32) (v5 : Int32) (v6 : Int32) : Option (Int32 × Mm) := lp (fun s : Mm × Int32 => f_M_odds_53_b v1 v2 v3 v4 v5 s.1 s.2) (σ, v6)
def f_M_odds (σ : Mm) (v1 : Int32) (v2 : Int32) (v3 : Int32) : Option (Int32 × Mm) := (nm (sI σ 0 0 0) fun σ1 => (bd (f_M_in σ1 v1 1 2) fun r_1 σ2 => (if r_1 = 0 then some (((-1) : Int32), σ2) else (bd (f_M_in σ2 v2 0 4) fun r_2 σ3 => (if r_2 = 0 then some (((-1) : Int32), σ3) else (bd (f_M_in σ3 v3 0 1) fun r_3 σ4 => (if r_3 = 0 then some (((-1) : Int32), σ4) else (bd (f_M_hasStart σ4) fun r_4 σ5 => (if r_4 = 0 then some (((-2) : Int32), σ5) else f_M_odds_53 σ5 v1 v2 v3 0 1 0)))))))))
-- TippedBarrowModel.decides
def f_M_decides_103 (σ : Mm) (v3 : Int32) (v4 : Int32) (s0 : Int32) (s1 : Int32) : Option ((Mm × Int32 × Int32) ⊕ (Int32 × Mm)) := (nm (s0 ||| s1) fun y1 => (ix (7 + v3) 27 fun j1 => nm (sA σ 4 j1 v4) fun σ1 => (nm (v3 + 1) fun y2 => some (Sum.inl (σ1, y1, y2)))))
def f_M_decides_33_b (v1 : Int32) (σ : Mm) (v2 : Int32) (v3 : Int32) : Option ((Mm × Int32 × Int32) ⊕ (Int32 × Mm)) := (if v3 < 20 then (ix (7 + v3) 27 fun j1 => (nm (gA σ 4 j1) fun y1 => (if y1 = 0 then (nm (v3 + 1) fun y2 => some (Sum.inl (σ, v2, y2))) else (bd (f_M_isGround σ (rm32 v3 5) (v3 / 5)) fun r_1 σ1 => (if r_1 = 0 then (nm (v3 + 1) fun y3 => some (Sum.inl (σ1, v2, y3))) else (ix (7 + v3) 27 fun j2 => nm (sA σ1 4 j2 0) fun σ2 => (bd (f_M_plays σ2) fun r_2 σ3 => (bd (f_M_here σ3) fun r_3 σ4 => (ix r_3 680 fun j3 => (if (gA σ4 9 j3) = v1 then f_M_decides_103 σ4 v3 y1 v2 0 else f_M_decides_103 σ4 v3 y1 v2 (1 <<< (v3 &&& 31)))))))))))) else ((some (v2, σ) : Option (Int32 × Mm)).map Sum.inr))
def f_M_decides_33 (σ : Mm) (v1 : Int32) (v2 : Int32) (v3 : Int32) : Option (Int32 × Mm) := lp (fun s : Mm × Int32 × Int32 => f_M_decides_33_b v1 s.1 s.2.1 s.2.2) (σ, v2, v3)
def f_M_decides (σ : Mm)  : Option (Int32 × Mm) := (nm (sI σ 0 0 0) fun σ1 => (bd (f_M_hasStart σ1) fun r_1 σ2 => (if r_1 = 0 then some (((-2) : Int32), σ2) else (bd (f_M_plays σ2) fun r_2 σ3 => (bd (f_M_here σ3) fun r_3 σ4 => (ix r_3 680 fun j1 => (nm (gA σ4 9 j1) fun y1 => f_M_decides_33 σ4 y1 0 0)))))))
-- TippedBarrowModel.tells
def f_M_tells (σ : Mm) (v1 : Int32) : Option (Int32 × Mm) := (nm (sI σ 0 0 0) fun σ1 => (bd (f_M_in σ1 v1 0 3) fun r_1 σ2 => (if r_1 = 0 then some (((-1) : Int32), σ2) else (if (gI σ2 0 20) = 8 then some (((-3) : Int32), σ2) else (ix (gI σ2 0 20) 8 fun j1 => nm (sA σ2 8 j1 v1) fun σ3 => (nm (sI σ3 0 20 ((gI σ3 0 20) + 1)) fun σ4 => some ((gI σ4 0 20), σ4)))))))
-- TippedBarrowModel.forget
def f_M_forget (σ : Mm)  : Option (Int32 × Mm) := (nm (sI σ 0 0 0) fun σ1 => (nm (gI σ1 0 20) fun y1 => (nm (sI σ1 0 20 0) fun σ2 => some (y1, σ2))))
-- TippedBarrowModel.endsSo
def f_M_endsSo_68 (σ : Mm) (v2 : Int32) (v5 : Int32) : Option (Int32 × Mm) := (if v5 = v2 then some ((1 : Int32), σ) else some ((0 : Int32), σ))
def f_M_endsSo_49 (σ : Mm) (v6 : Int32) (s0 : Int32) : Option ((Mm × Int32 × Int32 × Int32 × Int32) ⊕ (Int32 × Mm)) := (nm (gI σ 0 21) fun y1 => (nm (gI σ 0 22) fun y2 => (nm (v6 + 1) fun y3 => some (Sum.inl (σ, y1, y2, s0, y3)))))
def f_M_endsSo_16_b (v1 : Int32) (v2 : Int32) (σ : Mm) (v3 : Int32) (v4 : Int32) (v5 : Int32) (v6 : Int32) : Option ((Mm × Int32 × Int32 × Int32 × Int32) ⊕ (Int32 × Mm)) := (if v6 < (gI σ 0 20) then (if v5 = 0 then (ix v6 8 fun j1 => (bd (f_M_comes σ v3 v4 (gA σ 8 j1) v1) fun r_1 σ1 => f_M_endsSo_49 σ1 v6 r_1)) else f_M_endsSo_49 σ v6 3) else ((f_M_endsSo_68 σ v2 v5 : Option (Int32 × Mm)).map Sum.inr))
def f_M_endsSo_16 (σ : Mm) (v1 : Int32) (v2 : Int32) (v3 : Int32) (v4 : Int32) (v5 : Int32) (v6 : Int32) : Option (Int32 × Mm) := lp (fun s : Mm × Int32 × Int32 × Int32 × Int32 => f_M_endsSo_16_b v1 v2 s.1 s.2.1 s.2.2.1 s.2.2.2.1 s.2.2.2.2) (σ, v3, v4, v5, v6)
def f_M_endsSo (σ : Mm) (v1 : Int32) (v2 : Int32) : Option (Int32 × Mm) := (ix 2 10 fun j1 => (nm (gA σ 2 j1) fun y1 => f_M_endsSo_16 σ v1 v2 y1 0 0 0))
-- TippedBarrowModel.leanings
def f_M_leanings_54 (σ : Mm) (v3 : Int32) (s0 : Int32) (s1 : Int32) : Option ((Mm × Int32 × Int32) ⊕ (Int32 × Mm)) := (nm (s0 ||| s1) fun y1 => (nm (v3 + 1) fun y2 => some (Sum.inl (σ, y1, y2))))
def f_M_leanings_30_b (v1 : Int32) (σ : Mm) (v2 : Int32) (v3 : Int32) : Option ((Mm × Int32 × Int32) ⊕ (Int32 × Mm)) := (if v3 < 5 then (bd (f_M_endsSo σ (v3 - 2) v1) fun r_1 σ1 => (if r_1 = 0 then f_M_leanings_54 σ1 v3 v2 0 else f_M_leanings_54 σ1 v3 v2 (1 <<< (v3 &&& 31)))) else ((some (v2, σ) : Option (Int32 × Mm)).map Sum.inr))
def f_M_leanings_30 (σ : Mm) (v1 : Int32) (v2 : Int32) (v3 : Int32) : Option (Int32 × Mm) := lp (fun s : Mm × Int32 × Int32 => f_M_leanings_30_b v1 s.1 s.2.1 s.2.2) (σ, v2, v3)
def f_M_leanings (σ : Mm) (v1 : Int32) : Option (Int32 × Mm) := (nm (sI σ 0 0 0) fun σ1 => (bd (f_M_in σ1 v1 0 2) fun r_1 σ2 => (if r_1 = 0 then some (((-1) : Int32), σ2) else (bd (f_M_hasStart σ2) fun r_2 σ3 => (if r_2 = 0 then some (((-2) : Int32), σ3) else f_M_leanings_30 σ3 v1 0 0)))))
-- TippedBarrowModel.rate
def f_M_rate_118 (σ : Mm) (v1 : Int32) (v3 : Int32) (v4 : Int32) (v5 : Int32) (v6 : Int32) (s1 : Int64) (s2 : Int64) : Option (Int32 × Mm) := (nm (sJ σ (s1 + s2)) fun σ1 => (if v1 = 0 then some (v4, σ1) else (if v1 = 1 then some (v5, σ1) else (if v1 = 2 then some (v6, σ1) else (if v1 = 3 then some ((2 * v5), σ1) else (if v1 = 4 then some ((v6 + v3), σ1) else (ix 3 27 fun j1 => (ix 4 27 fun j2 => some (((v4 + (gA σ1 4 j1)) + (gA σ1 4 j2)), σ1)))))))))
def f_M_rate_23 (σ : Mm)  : Option (Int32 × Mm) := some (((-1000000) : Int32), σ)
def f_M_rate (σ : Mm) (v1 : Int32) (v2 : Int32) (v3 : Int32) : Option (Int32 × Mm) := (nm (sI σ 0 0 0) fun σ1 => (bd (f_M_in σ1 v1 0 5) fun r_1 σ2 => (if r_1 = 0 then f_M_rate_23 σ2 else (bd (f_M_isGround σ2 v2 v3) fun r_2 σ3 => (if r_2 = 0 then f_M_rate_23 σ3 else (ix ((7 + (5 * v3)) + v2) 27 fun j1 => (nm (gA σ3 4 j1) fun y1 => (nm (y1 + v2) fun y2 => (ix 1 27 fun j2 => (nm (y1 - (gA σ3 4 j2)) fun y3 => (if v1 = 0 then f_M_rate_118 σ3 v1 v3 y1 y2 y3 (gJ σ3) 1 else (if v1 = 1 then f_M_rate_118 σ3 v1 v3 y1 y2 y3 (gJ σ3) (11) else (if v1 = 2 then f_M_rate_118 σ3 v1 v3 y1 y2 y3 (gJ σ3) (101) else (if v1 = 3 then f_M_rate_118 σ3 v1 v3 y1 y2 y3 (gJ σ3) (1011) else (if v1 = 4 then f_M_rate_118 σ3 v1 v3 y1 y2 y3 (gJ σ3) (10101) else f_M_rate_118 σ3 v1 v3 y1 y2 y3 (gJ σ3) (100001))))))))))))))))
-- TippedBarrowModel.keep
def f_M_keep_47 (σ : Mm) (v1 : Int32) : Option (Int32 × Mm) := (ix v1 2 fun j1 => nm (sA σ 6 j1 1) fun σ1 => (ix 3 27 fun j2 => (ix 4 27 fun j3 => some (((gA σ1 4 j2) + (gA σ1 4 j3)), σ1))))
def f_M_keep_18_b (v1 : Int32) (σ : Mm) (v2 : Int32) : Option ((Mm × Int32) ⊕ (Int32 × Mm)) := (if v2 < 27 then (ix v2 27 fun j1 => (ix ((27 * v1) + v2) 54 fun j2 => nm (sA σ 5 j2 (gA σ 4 j1)) fun σ1 => (nm (v2 + 1) fun y1 => some (Sum.inl (σ1, y1))))) else ((f_M_keep_47 σ v1 : Option (Int32 × Mm)).map Sum.inr))
def f_M_keep_18 (σ : Mm) (v1 : Int32) (v2 : Int32) : Option (Int32 × Mm) := lp (fun s : Mm × Int32 => f_M_keep_18_b v1 s.1 s.2) (σ, v2)
def f_M_keep (σ : Mm) (v1 : Int32) : Option (Int32 × Mm) := (nm (sI σ 0 0 0) fun σ1 => (bd (f_M_in σ1 v1 0 1) fun r_1 σ2 => (if r_1 = 0 then some (((-1) : Int32), σ2) else f_M_keep_18 σ2 v1 0)))
-- TippedBarrowModel.back
def f_M_back_59 (σ : Mm)  : Option (Int32 × Mm) := (nm (sI σ 0 18 0) fun σ1 => (ix 3 27 fun j1 => (ix 4 27 fun j2 => some (((gA σ1 4 j1) + (gA σ1 4 j2)), σ1))))
def f_M_back_30_b (v1 : Int32) (σ : Mm) (v2 : Int32) : Option ((Mm × Int32) ⊕ (Int32 × Mm)) := (if v2 < 27 then (ix ((27 * v1) + v2) 54 fun j1 => (ix v2 27 fun j2 => nm (sA σ 4 j2 (gA σ 5 j1)) fun σ1 => (nm (v2 + 1) fun y1 => some (Sum.inl (σ1, y1))))) else ((f_M_back_59 σ : Option (Int32 × Mm)).map Sum.inr))
def f_M_back_30 (σ : Mm) (v1 : Int32) (v2 : Int32) : Option (Int32 × Mm) := lp (fun s : Mm × Int32 => f_M_back_30_b v1 s.1 s.2) (σ, v2)
def f_M_back (σ : Mm) (v1 : Int32) : Option (Int32 × Mm) := (nm (sI σ 0 0 0) fun σ1 => (bd (f_M_in σ1 v1 0 1) fun r_1 σ2 => (if r_1 = 0 then some (((-1) : Int32), σ2) else (ix v1 2 fun j1 => (if (gA σ2 6 j1) = 0 then some (((-2) : Int32), σ2) else f_M_back_30 σ2 v1 0)))))
-- TippedBarrowModel.count
def f_M_count (σ : Mm) (v1 : Int32) : Option (Int32 × Mm) := (nm (sI σ 0 0 0) fun σ1 => (bd (f_M_in σ1 v1 0 3) fun r_1 σ2 => (if r_1 = 0 then (if v1 = 4 then (ix 4 10 fun j1 => some (((gA σ2 2 j1) + 2), σ2)) else (if v1 = 5 then some ((gI σ2 0 20), σ2) else (if v1 = 6 then some ((gI σ2 0 3), σ2) else some (((-1) : Int32), σ2)))) else (ix v1 10 fun j2 => some ((gA σ2 2 j2), σ2)))))
-- TippedBarrowModel.trace
def f_M_trace (σ : Mm)  : Option (Int64 × Mm) := (nm (sI σ 0 0 0) fun σ1 => some ((gJ σ1), σ1))
abbrev rm_X7_add : Room := { frames := 0, cells := 0, slots := 0, locals := 0 }
abbrev rm_X9_type : Room := { frames := 1, cells := 0, slots := 0, locals := 21 }
abbrev rm_X9_clear : Room := { frames := 0, cells := 0, slots := 0, locals := 0 }
abbrev rm_J7_fill_53178 : Room := { frames := 0, cells := 0, slots := 0, locals := 0 }
abbrev rm_X5_empty : Room := { frames := 1, cells := 0, slots := 0, locals := 23 }
abbrev rm_X7_letterAt : Room := { frames := 0, cells := 0, slots := 0, locals := 0 }
abbrev rm_X6_isDigit : Room := { frames := 0, cells := 0, slots := 0, locals := 0 }
abbrev rm_X6_addToken : Room := { frames := 0, cells := 0, slots := 0, locals := 0 }
abbrev rm_X6_addDigit : Room := { frames := 1, cells := 0, slots := 0, locals := 23 }
abbrev rm_X6_split : Room := { frames := 2, cells := 0, slots := 0, locals := 47 }
abbrev rm_X6_isInHand : Room := { frames := 0, cells := 0, slots := 0, locals := 0 }
abbrev rm_X6_readNumber : Room := { frames := 1, cells := 0, slots := 0, locals := 21 }
abbrev rm_X6_readWide : Room := { frames := 2, cells := 0, slots := 0, locals := 44 }
abbrev rm_X9_cellAt : Room := { frames := 0, cells := 0, slots := 0, locals := 0 }
abbrev rm_X6_readCell : Room := { frames := 2, cells := 0, slots := 0, locals := 44 }
abbrev rm_X6_readRow : Room := { frames := 3, cells := 0, slots := 0, locals := 66 }
abbrev rm_X6_readStart : Room := { frames := 2, cells := 0, slots := 0, locals := 44 }
abbrev rm_X6_readLimit : Room := { frames := 2, cells := 0, slots := 0, locals := 44 }
abbrev rm_X6_readLeaning : Room := { frames := 2, cells := 0, slots := 0, locals := 44 }
abbrev rm_X6_readItem : Room := { frames := 4, cells := 0, slots := 0, locals := 88 }
abbrev rm_X6_read : Room := { frames := 5, cells := 0, slots := 0, locals := 109 }
abbrev rm_X4_begin : Room := { frames := 1, cells := 0, slots := 0, locals := 40 }
abbrev rm_X2_isBrick : Room := { frames := 0, cells := 0, slots := 0, locals := 0 }
abbrev rm_X2_survey : Room := { frames := 1, cells := 0, slots := 0, locals := 21 }
abbrev rm_X9_yard : Room := { frames := 6, cells := 0, slots := 0, locals := 131 }
abbrev rm_X9_tilt : Room := { frames := 1, cells := 0, slots := 0, locals := 21 }
abbrev rm_X9_now : Room := { frames := 0, cells := 0, slots := 0, locals := 0 }
abbrev rm_X9_hasNoStart : Room := { frames := 0, cells := 0, slots := 0, locals := 0 }
abbrev rm_X9_isNoWay : Room := { frames := 0, cells := 0, slots := 0, locals := 0 }
abbrev rm_X2_beyond : Room := { frames := 0, cells := 0, slots := 0, locals := 0 }
abbrev rm_X9_nextCell : Room := { frames := 1, cells := 0, slots := 0, locals := 22 }
abbrev rm_X4_become : Room := { frames := 1, cells := 0, slots := 0, locals := 40 }
abbrev rm_X3_save : Room := { frames := 2, cells := 0, slots := 0, locals := 61 }
abbrev rm_X2_gain : Room := { frames := 1, cells := 0, slots := 0, locals := 21 }
abbrev rm_X2_leanOn : Room := { frames := 2, cells := 0, slots := 0, locals := 42 }
abbrev rm_X2_verdict : Room := { frames := 0, cells := 0, slots := 0, locals := 0 }
abbrev rm_X4_tip : Room := { frames := 1, cells := 0, slots := 0, locals := 23 }
abbrev rm_X9_pushes : Room := { frames := 3, cells := 0, slots := 0, locals := 82 }
abbrev rm_X9_objects : Room := { frames := 3, cells := 0, slots := 0, locals := 82 }
abbrev rm_X9_evens : Room := { frames := 3, cells := 0, slots := 0, locals := 82 }
abbrev rm_X3_restore : Room := { frames := 2, cells := 0, slots := 0, locals := 61 }
abbrev rm_X9_undo : Room := { frames := 3, cells := 0, slots := 0, locals := 82 }
abbrev rm_X9_would : Room := { frames := 3, cells := 0, slots := 0, locals := 64 }
abbrev rm_X9_spotOf : Room := { frames := 0, cells := 0, slots := 0, locals := 0 }
abbrev rm_X1_stateOf : Room := { frames := 1, cells := 0, slots := 0, locals := 21 }
abbrev rm_X1_sideOf : Room := { frames := 0, cells := 0, slots := 0, locals := 0 }
abbrev rm_X1_settle : Room := { frames := 0, cells := 0, slots := 0, locals := 0 }
abbrev rm_X1_lookOnePushAhead : Room := { frames := 3, cells := 0, slots := 0, locals := 64 }
abbrev rm_X9_cellOf : Room := { frames := 0, cells := 0, slots := 0, locals := 0 }
abbrev rm_X9_leanOf : Room := { frames := 0, cells := 0, slots := 0, locals := 0 }
abbrev rm_X1_settleFrom : Room := { frames := 1, cells := 0, slots := 0, locals := 23 }
abbrev rm_X1_passBack : Room := { frames := 2, cells := 0, slots := 0, locals := 46 }
abbrev rm_X1_solve : Room := { frames := 4, cells := 0, slots := 0, locals := 92 }
abbrev rm_X1_winner : Room := { frames := 2, cells := 0, slots := 0, locals := 44 }
abbrev rm_X1_length : Room := { frames := 2, cells := 0, slots := 0, locals := 44 }
abbrev rm_X9_game : Room := { frames := 5, cells := 0, slots := 0, locals := 115 }
abbrev rm_X9_comesSo : Room := { frames := 3, cells := 0, slots := 0, locals := 68 }
abbrev rm_X9_advice : Room := { frames := 5, cells := 0, slots := 0, locals := 115 }
abbrev rm_X9_isNoSide : Room := { frames := 0, cells := 0, slots := 0, locals := 0 }
abbrev rm_X8_visit : Room := { frames := 0, cells := 0, slots := 0, locals := 0 }
abbrev rm_X8_visitFrom : Room := { frames := 3, cells := 0, slots := 0, locals := 64 }
abbrev rm_X8_write : Room := { frames := 0, cells := 0, slots := 0, locals := 0 }
abbrev rm_X8_seek : Room := { frames := 4, cells := 0, slots := 0, locals := 91 }
abbrev rm_X8_wayAt : Room := { frames := 0, cells := 0, slots := 0, locals := 0 }
abbrev rm_X9_soonest : Room := { frames := 5, cells := 0, slots := 0, locals := 117 }
abbrev rm_X2_waysFrom : Room := { frames := 1, cells := 0, slots := 0, locals := 22 }
abbrev rm_X0_shareOut : Room := { frames := 3, cells := 0, slots := 0, locals := 64 }
abbrev rm_X0_pushOnce : Room := { frames := 4, cells := 0, slots := 0, locals := 93 }
abbrev rm_X0_commonDivisor : Room := { frames := 0, cells := 0, slots := 0, locals := 0 }
abbrev rm_X0_reckon : Room := { frames := 5, cells := 0, slots := 0, locals := 114 }
abbrev rm_X9_odds : Room := { frames := 6, cells := 0, slots := 0, locals := 141 }
abbrev rm_X2_become : Room := { frames := 1, cells := 0, slots := 0, locals := 40 }
abbrev rm_X9_decides : Room := { frames := 5, cells := 0, slots := 0, locals := 115 }
abbrev rm_X9_tells : Room := { frames := 1, cells := 0, slots := 0, locals := 20 }
abbrev rm_X9_forget : Room := { frames := 0, cells := 0, slots := 0, locals := 0 }
abbrev rm_X9_endOfTold : Room := { frames := 3, cells := 0, slots := 0, locals := 64 }
abbrev rm_X9_leanings : Room := { frames := 4, cells := 0, slots := 0, locals := 90 }
abbrev rm_X9_rateCell : Room := { frames := 0, cells := 0, slots := 0, locals := 0 }
abbrev rm_X9_rateRut : Room := { frames := 1, cells := 0, slots := 0, locals := 21 }
abbrev rm_X9_ratePuddle : Room := { frames := 1, cells := 0, slots := 0, locals := 21 }
abbrev rm_X9_ratePlank : Room := { frames := 2, cells := 0, slots := 0, locals := 42 }
abbrev rm_X9_rateBean : Room := { frames := 2, cells := 0, slots := 0, locals := 42 }
abbrev rm_X4_allVerdicts : Room := { frames := 0, cells := 0, slots := 0, locals := 0 }
abbrev rm_X9_rateQuarry : Room := { frames := 1, cells := 0, slots := 0, locals := 21 }
abbrev rm_X9_rate : Room := { frames := 3, cells := 0, slots := 0, locals := 63 }
abbrev rm_X9_keep : Room := { frames := 2, cells := 0, slots := 0, locals := 61 }
abbrev rm_X9_back : Room := { frames := 2, cells := 0, slots := 0, locals := 61 }
abbrev rm_X9_count : Room := { frames := 0, cells := 0, slots := 0, locals := 0 }
abbrev rm_X9_trace : Room := { frames := 0, cells := 0, slots := 0, locals := 0 }
abbrev rm_X10_in : Room := { frames := 0, cells := 0, slots := 0, locals := 0 }
abbrev rm_X10_type : Room := { frames := 1, cells := 0, slots := 0, locals := 22 }
abbrev rm_X10_clear : Room := { frames := 0, cells := 0, slots := 0, locals := 0 }
abbrev rm_X10_letterAt : Room := { frames := 0, cells := 0, slots := 0, locals := 0 }
abbrev rm_X10_isLetter : Room := { frames := 0, cells := 0, slots := 0, locals := 0 }
abbrev rm_X10_advances : Room := { frames := 1, cells := 0, slots := 0, locals := 22 }
abbrev rm_X10_isWell : Room := { frames := 0, cells := 0, slots := 0, locals := 0 }
abbrev rm_X10_takes : Room := { frames := 2, cells := 0, slots := 0, locals := 43 }
abbrev rm_X10_number : Room := { frames := 3, cells := 0, slots := 0, locals := 65 }
abbrev rm_X10_begins : Room := { frames := 0, cells := 0, slots := 0, locals := 0 }
abbrev rm_X10_bitOf : Room := { frames := 0, cells := 0, slots := 0, locals := 0 }
abbrev rm_X10_mayBegin : Room := { frames := 1, cells := 0, slots := 0, locals := 20 }
abbrev rm_X10_readsRow : Room := { frames := 3, cells := 0, slots := 0, locals := 65 }
abbrev rm_X10_readsStart : Room := { frames := 4, cells := 0, slots := 0, locals := 87 }
abbrev rm_X10_readsItem : Room := { frames := 5, cells := 0, slots := 0, locals := 110 }
abbrev rm_X10_isCell : Room := { frames := 1, cells := 0, slots := 0, locals := 22 }
abbrev rm_X10_settles : Room := { frames := 2, cells := 0, slots := 0, locals := 44 }
abbrev rm_X10_yard : Room := { frames := 6, cells := 0, slots := 0, locals := 131 }
abbrev rm_X10_isGround : Room := { frames := 2, cells := 0, slots := 0, locals := 44 }
abbrev rm_X10_hasStart : Room := { frames := 0, cells := 0, slots := 0, locals := 0 }
abbrev rm_X10_tilt : Room := { frames := 3, cells := 0, slots := 0, locals := 66 }
abbrev rm_X10_now : Room := { frames := 1, cells := 0, slots := 0, locals := 22 }
abbrev rm_X10_notes : Room := { frames := 0, cells := 0, slots := 0, locals := 0 }
abbrev rm_X10_comes : Room := { frames := 3, cells := 0, slots := 0, locals := 66 }
abbrev rm_X10_comesBy : Room := { frames := 4, cells := 0, slots := 0, locals := 92 }
abbrev rm_X10_pushes : Room := { frames := 5, cells := 0, slots := 0, locals := 115 }
abbrev rm_X10_objects : Room := { frames := 1, cells := 0, slots := 0, locals := 21 }
abbrev rm_X10_evens : Room := { frames := 3, cells := 0, slots := 0, locals := 66 }
abbrev rm_X10_undo : Room := { frames := 0, cells := 0, slots := 0, locals := 0 }
abbrev rm_X10_would : Room := { frames := 5, cells := 0, slots := 0, locals := 115 }
abbrev rm_X10_spot : Room := { frames := 0, cells := 0, slots := 0, locals := 0 }
abbrev rm_X10_winnerBehind : Room := { frames := 1, cells := 0, slots := 0, locals := 21 }
abbrev rm_X10_pushesBehind : Room := { frames := 1, cells := 0, slots := 0, locals := 21 }
abbrev rm_X10_isIn : Room := { frames := 5, cells := 0, slots := 0, locals := 115 }
abbrev rm_X10_rounds : Room := { frames := 6, cells := 0, slots := 0, locals := 147 }
abbrev rm_X10_plays : Room := { frames := 7, cells := 0, slots := 0, locals := 173 }
abbrev rm_X10_here : Room := { frames := 1, cells := 0, slots := 0, locals := 21 }
abbrev rm_X10_game : Room := { frames := 8, cells := 0, slots := 0, locals := 194 }
abbrev rm_X10_advice : Room := { frames := 8, cells := 0, slots := 0, locals := 194 }
abbrev rm_X10_hurries : Room := { frames := 5, cells := 0, slots := 0, locals := 115 }
abbrev rm_X10_soonest : Room := { frames := 6, cells := 0, slots := 0, locals := 143 }
abbrev rm_X10_gcd : Room := { frames := 0, cells := 0, slots := 0, locals := 0 }
abbrev rm_X10_spreads : Room := { frames := 5, cells := 0, slots := 0, locals := 115 }
abbrev rm_X10_odds : Room := { frames := 6, cells := 0, slots := 0, locals := 142 }
abbrev rm_X10_decides : Room := { frames := 8, cells := 0, slots := 0, locals := 194 }
abbrev rm_X10_tells : Room := { frames := 1, cells := 0, slots := 0, locals := 22 }
abbrev rm_X10_forget : Room := { frames := 0, cells := 0, slots := 0, locals := 0 }
abbrev rm_X10_endsSo : Room := { frames := 4, cells := 0, slots := 0, locals := 92 }
abbrev rm_X10_leanings : Room := { frames := 5, cells := 0, slots := 0, locals := 118 }
abbrev rm_X10_rate : Room := { frames := 3, cells := 0, slots := 0, locals := 66 }
abbrev rm_X10_keep : Room := { frames := 1, cells := 0, slots := 0, locals := 22 }
abbrev rm_X10_back : Room := { frames := 1, cells := 0, slots := 0, locals := 22 }
abbrev rm_X10_count : Room := { frames := 1, cells := 0, slots := 0, locals := 22 }
abbrev rm_X10_trace : Room := { frames := 0, cells := 0, slots := 0, locals := 0 }
