/-! the words of what the law calls, among the tables' words -/
theorem gcons {big c t : List Cond} {w : Cond} (hg : GoodIn big c) (i : Nat) (hi : c[i]? = some w) (ht : GoodIn big t) : GoodIn big (w :: t) := fun v hv => (List.mem_cons.mp hv).elim (fun e => e ▸ hg w (List.mem_of_getElem? hi)) (ht v)
theorem gnil {big : List Cond} : GoodIn big [] := fun v hv => by cases hv
theorem gl_wsX9_init_r1 : GoodIn lw_tbl wsX9_init_r1 := by
  unfold wsX9_init_r1
  exact (gcons wsL_law_r1_g 9 rfl (gcons wsL_law_r1_g 10 rfl (gcons wsL_law_r1_g 11 rfl (gcons wsL_law_r1_g 12 rfl (gcons wsL_law_r1_g 13 rfl (gcons wsL_law_r1_g 14 rfl (gcons wsL_law_r1_g 15 rfl (gcons wsL_law_r1_g 16 rfl (gcons wsL_law_r1_g 17 rfl (gcons wsL_law_r1_g 18 rfl (gcons wsL_law_r1_g 19 rfl (gcons wsL_law_r1_g 20 rfl (gcons wsL_law_r1_g 21 rfl (gcons wsL_law_r1_g 22 rfl (gcons wsL_law_r1_g 23 rfl (gcons wsL_law_r2_g 0 rfl (gcons wsL_law_r2_g 1 rfl (gcons wsL_law_r2_g 2 rfl (gcons wsL_law_r2_g 3 rfl (gcons wsL_law_r2_g 4 rfl (gcons wsL_law_r2_g 5 rfl (gcons wsL_law_r2_g 6 rfl (gcons wsL_law_r2_g 7 rfl (gcons wsL_law_r2_g 8 rfl gnil))))))))))))))))))))))))
theorem gl_wsX9_init_r2 : GoodIn lw_tbl wsX9_init_r2 := by
  unfold wsX9_init_r2
  exact (gcons wsL_law_r2_g 9 rfl (gcons wsL_law_r2_g 10 rfl (gcons wsL_law_r2_g 11 rfl (gcons wsL_law_r2_g 12 rfl (gcons wsL_law_r2_g 13 rfl (gcons wsL_law_r2_g 14 rfl (gcons wsL_law_r2_g 15 rfl (gcons wsL_law_r2_g 16 rfl (gcons wsL_law_r2_g 17 rfl (gcons wsL_law_r2_g 18 rfl (gcons wsL_law_r2_g 19 rfl (gcons wsL_law_r2_g 20 rfl (gcons wsL_law_r2_g 21 rfl (gcons wsL_law_r2_g 22 rfl (gcons wsL_law_r2_g 23 rfl (gcons wsL_law_r3_g 0 rfl (gcons wsL_law_r3_g 1 rfl (gcons wsL_law_r3_g 2 rfl (gcons wsL_law_r3_g 3 rfl (gcons wsL_law_r3_g 4 rfl (gcons wsL_law_r3_g 5 rfl (gcons wsL_law_r3_g 6 rfl (gcons wsL_law_r3_g 7 rfl (gcons wsL_law_r3_g 8 rfl gnil))))))))))))))))))))))))
theorem gl_wsX9_init_r3 : GoodIn lw_tbl wsX9_init_r3 := by
  unfold wsX9_init_r3
  exact (gcons wsL_law_r3_g 9 rfl (gcons wsL_law_r3_g 10 rfl (gcons wsL_law_r3_g 11 rfl (gcons wsL_law_r3_g 12 rfl (gcons wsL_law_r3_g 13 rfl (gcons wsL_law_r3_g 14 rfl (gcons wsL_law_r3_g 15 rfl (gcons wsL_law_r3_g 16 rfl (gcons wsL_law_r3_g 17 rfl (gcons wsL_law_r3_g 18 rfl (gcons wsL_law_r3_g 19 rfl (gcons wsL_law_r3_g 20 rfl (gcons wsL_law_r3_g 21 rfl (gcons wsL_law_r3_g 22 rfl (gcons wsL_law_r3_g 23 rfl (gcons wsL_law_r4_g 0 rfl (gcons wsL_law_r4_g 1 rfl (gcons wsL_law_r4_g 2 rfl (gcons wsL_law_r4_g 3 rfl (gcons wsL_law_r4_g 4 rfl (gcons wsL_law_r4_g 5 rfl (gcons wsL_law_r4_g 6 rfl (gcons wsL_law_r4_g 7 rfl (gcons wsL_law_r4_g 8 rfl gnil))))))))))))))))))))))))
theorem gl_wsX9_init_r4 : GoodIn lw_tbl wsX9_init_r4 := by
  unfold wsX9_init_r4
  exact (gcons wsL_law_r4_g 9 rfl (gcons wsL_law_r4_g 10 rfl (gcons wsL_law_r4_g 11 rfl (gcons wsL_law_r4_g 12 rfl (gcons wsL_law_r4_g 13 rfl (gcons wsL_law_r4_g 14 rfl (gcons wsL_law_r4_g 15 rfl (gcons wsL_law_r4_g 16 rfl (gcons wsL_law_r4_g 17 rfl (gcons wsL_law_r4_g 18 rfl (gcons wsL_law_r4_g 19 rfl (gcons wsL_law_r4_g 20 rfl (gcons wsL_law_r4_g 21 rfl (gcons wsL_law_r4_g 22 rfl (gcons wsL_law_r4_g 23 rfl (gcons wsL_law_r5_g 0 rfl (gcons wsL_law_r5_g 1 rfl (gcons wsL_law_r5_g 2 rfl (gcons wsL_law_r5_g 3 rfl (gcons wsL_law_r5_g 4 rfl (gcons wsL_law_r5_g 5 rfl (gcons wsL_law_r5_g 6 rfl (gcons wsL_law_r5_g 7 rfl (gcons wsL_law_r5_g 8 rfl gnil))))))))))))))))))))))))
theorem gl_wsX9_init_r5 : GoodIn lw_tbl wsX9_init_r5 := by
  unfold wsX9_init_r5
  exact (gcons wsL_law_r5_g 9 rfl (gcons wsL_law_r5_g 10 rfl (gcons wsL_law_r5_g 11 rfl (gcons wsL_law_r5_g 12 rfl (gcons wsL_law_r5_g 13 rfl (gcons wsL_law_r5_g 14 rfl (gcons wsL_law_r5_g 15 rfl (gcons wsL_law_r5_g 16 rfl (gcons wsL_law_r5_g 17 rfl (gcons wsL_law_r5_g 18 rfl (gcons wsL_law_r5_g 19 rfl (gcons wsL_law_r5_g 20 rfl (gcons wsL_law_r5_g 21 rfl (gcons wsL_law_r5_g 22 rfl (gcons wsL_law_r5_g 23 rfl (gcons wsL_law_r6_g 0 rfl (gcons wsL_law_r6_g 1 rfl (gcons wsL_law_r6_g 2 rfl (gcons wsL_law_r6_g 3 rfl (gcons wsL_law_r6_g 4 rfl (gcons wsL_law_r6_g 5 rfl (gcons wsL_law_r6_g 6 rfl (gcons wsL_law_r6_g 7 rfl (gcons wsL_law_r6_g 8 rfl gnil))))))))))))))))))))))))
theorem gl_wsX9_init_r6 : GoodIn lw_tbl wsX9_init_r6 := by
  unfold wsX9_init_r6
  exact (gcons wsL_law_r6_g 9 rfl (gcons wsL_law_r6_g 10 rfl gnil))
theorem gl_wsX9_init : GoodIn lw_tbl wsX9_init := by
  unfold wsX9_init
  exact (gcons wsL_law_r1_g 8 rfl (goodIn_app (goodIn_app (goodIn_app (goodIn_app (goodIn_app (goodIn_app (goodIn_app (goodIn_app (goodIn_app (goodIn_app (goodIn_app gl_wsX9_init_r1 (goodIn_app gl_wsX9_init_r2 (goodIn_app gl_wsX9_init_r3 (goodIn_app gl_wsX9_init_r4 (goodIn_app gl_wsX9_init_r5 gl_wsX9_init_r6))))) wsX70_g) wsX90_g) wsX60_g) wsX50_g) wsX40_g) wsX20_g) wsX30_g) wsX10_g) wsX80_g) wsX00_g))
theorem gl_wsX10_init_r1 : GoodIn lw_tbl wsX10_init_r1 := by
  unfold wsX10_init_r1
  exact (gcons wsL_law_r6_g 14 rfl (gcons wsL_law_r1_g 10 rfl (gcons wsL_law_r1_g 11 rfl (gcons wsL_law_r2_g 10 rfl (gcons wsL_law_r6_g 15 rfl (gcons wsL_law_r6_g 16 rfl (gcons wsL_law_r6_g 17 rfl (gcons wsL_law_r6_g 18 rfl (gcons wsL_law_r6_g 19 rfl (gcons wsL_law_r2_g 17 rfl (gcons wsL_law_r6_g 20 rfl (gcons wsL_law_r6_g 21 rfl (gcons wsL_law_r6_g 22 rfl (gcons wsL_law_r6_g 23 rfl (gcons wsL_law_r7_g 0 rfl (gcons wsL_law_r7_g 1 rfl (gcons wsL_law_r7_g 2 rfl (gcons wsL_law_r7_g 3 rfl (gcons wsL_law_r7_g 4 rfl (gcons wsL_law_r7_g 5 rfl (gcons wsL_law_r7_g 6 rfl (gcons wsL_law_r1_g 5 rfl (gcons wsL_law_r7_g 7 rfl (gcons wsL_law_r7_g 8 rfl gnil))))))))))))))))))))))))
theorem gl_wsX10_init_r2 : GoodIn lw_tbl wsX10_init_r2 := by
  unfold wsX10_init_r2
  exact (gcons wsL_law_r7_g 9 rfl (gcons wsL_law_r7_g 10 rfl (gcons wsL_law_r7_g 11 rfl (gcons wsL_law_r7_g 12 rfl (gcons wsL_law_r7_g 13 rfl (gcons wsL_law_r7_g 14 rfl (gcons wsL_law_r7_g 15 rfl (gcons wsL_law_r7_g 16 rfl (gcons wsL_law_r7_g 17 rfl (gcons wsL_law_r7_g 18 rfl (gcons wsL_law_r7_g 19 rfl (gcons wsL_law_r7_g 20 rfl (gcons wsL_law_r7_g 21 rfl (gcons wsL_law_r7_g 22 rfl (gcons wsL_law_r7_g 23 rfl (gcons wsL_law_r8_g 0 rfl gnil))))))))))))))))
theorem gl_wsX10_init : GoodIn lw_tbl wsX10_init := by
  unfold wsX10_init
  exact (gcons wsL_law_r6_g 13 rfl (goodIn_app (goodIn_app gl_wsX10_init_r1 gl_wsX10_init_r2) wsX100_g))
theorem gl_wsX9_type : GoodIn lw_tbl wsX9_type := by
  unfold wsX9_type
  exact (gcons wsL_law_r8_g 4 rfl (goodIn_app (goodIn_app (gcons wsL_law_r1_g 15 rfl (gcons wsL_law_r8_g 5 rfl (gcons wsL_law_r8_g 6 rfl (gcons wsL_law_r8_g 7 rfl (gcons wsL_law_r8_g 8 rfl (gcons wsL_law_r1_g 14 rfl (gcons wsL_law_r8_g 9 rfl (gcons wsL_law_r8_g 10 rfl (gcons wsL_law_r3_g 11 rfl gnil))))))))) wsX90_g) wsX70_g))
theorem gl_wsX10_type : GoodIn lw_tbl wsX10_type := by
  unfold wsX10_type
  exact (gcons wsL_law_r8_g 14 rfl (goodIn_app (gcons wsL_law_r8_g 15 rfl (gcons wsL_law_r7_g 15 rfl (gcons wsL_law_r6_g 15 rfl (gcons wsL_law_r7_g 22 rfl (gcons wsL_law_r7_g 23 rfl (gcons wsL_law_r1_g 5 rfl (gcons wsL_law_r8_g 0 rfl gnil))))))) wsX100_g))
theorem gl_wsX9_clear : GoodIn lw_tbl wsX9_clear := by
  unfold wsX9_clear
  exact (gcons wsL_law_r8_g 19 rfl (goodIn_app (goodIn_app (gcons wsL_law_r1_g 15 rfl (gcons wsL_law_r8_g 5 rfl gnil)) wsX90_g) wsX70_g))
theorem gl_wsX10_clear : GoodIn lw_tbl wsX10_clear := by
  unfold wsX10_clear
  exact (gcons wsL_law_r8_g 23 rfl (goodIn_app (gcons wsL_law_r8_g 15 rfl (gcons wsL_law_r7_g 15 rfl gnil)) wsX100_g))
theorem gl_wsX9_yard_r1 : GoodIn lw_tbl wsX9_yard_r1 := by
  unfold wsX9_yard_r1
  exact (gcons wsL_law_r1_g 19 rfl (gcons wsL_law_r2_g 0 rfl (gcons wsL_law_r1_g 23 rfl (gcons wsL_law_r1_g 15 rfl (gcons wsL_law_r8_g 5 rfl (gcons wsL_law_r2_g 9 rfl (gcons wsL_law_r9_g 4 rfl (gcons wsL_law_r9_g 5 rfl (gcons wsL_law_r9_g 6 rfl (gcons wsL_law_r9_g 7 rfl (gcons wsL_law_r2_g 4 rfl (gcons wsL_law_r2_g 15 rfl (gcons wsL_law_r9_g 8 rfl (gcons wsL_law_r9_g 9 rfl (gcons wsL_law_r2_g 18 rfl (gcons wsL_law_r9_g 10 rfl (gcons wsL_law_r9_g 11 rfl (gcons wsL_law_r9_g 12 rfl (gcons wsL_law_r1_g 18 rfl (gcons wsL_law_r9_g 13 rfl (gcons wsL_law_r9_g 14 rfl (gcons wsL_law_r9_g 15 rfl (gcons wsL_law_r9_g 16 rfl (gcons wsL_law_r9_g 17 rfl gnil))))))))))))))))))))))))
theorem gl_wsX9_yard_r2 : GoodIn lw_tbl wsX9_yard_r2 := by
  unfold wsX9_yard_r2
  exact (gcons wsL_law_r9_g 18 rfl (gcons wsL_law_r3_g 18 rfl (gcons wsL_law_r3_g 19 rfl (gcons wsL_law_r9_g 19 rfl (gcons wsL_law_r9_g 20 rfl (gcons wsL_law_r4_g 2 rfl (gcons wsL_law_r4_g 3 rfl (gcons wsL_law_r1_g 22 rfl (gcons wsL_law_r4_g 4 rfl (gcons wsL_law_r4_g 0 rfl (gcons wsL_law_r4_g 5 rfl (gcons wsL_law_r4_g 6 rfl (gcons wsL_law_r4_g 7 rfl (gcons wsL_law_r4_g 8 rfl (gcons wsL_law_r4_g 9 rfl (gcons wsL_law_r4_g 10 rfl (gcons wsL_law_r4_g 11 rfl (gcons wsL_law_r4_g 12 rfl (gcons wsL_law_r4_g 13 rfl (gcons wsL_law_r9_g 21 rfl (gcons wsL_law_r9_g 22 rfl (gcons wsL_law_r9_g 23 rfl (gcons wsL_law_r10_g 0 rfl (gcons wsL_law_r10_g 1 rfl gnil))))))))))))))))))))))))
theorem gl_wsX9_yard_r3 : GoodIn lw_tbl wsX9_yard_r3 := by
  unfold wsX9_yard_r3
  exact (gcons wsL_law_r10_g 2 rfl (gcons wsL_law_r10_g 3 rfl (gcons wsL_law_r1_g 14 rfl (gcons wsL_law_r10_g 4 rfl (gcons wsL_law_r8_g 10 rfl (gcons wsL_law_r3_g 11 rfl (gcons wsL_law_r10_g 5 rfl (gcons wsL_law_r10_g 6 rfl (gcons wsL_law_r10_g 7 rfl (gcons wsL_law_r10_g 8 rfl (gcons wsL_law_r10_g 9 rfl (gcons wsL_law_r10_g 10 rfl (gcons wsL_law_r10_g 11 rfl (gcons wsL_law_r3_g 17 rfl (gcons wsL_law_r10_g 12 rfl (gcons wsL_law_r10_g 13 rfl (gcons wsL_law_r10_g 14 rfl (gcons wsL_law_r10_g 15 rfl (gcons wsL_law_r3_g 16 rfl (gcons wsL_law_r10_g 16 rfl (gcons wsL_law_r10_g 17 rfl (gcons wsL_law_r10_g 18 rfl (gcons wsL_law_r10_g 19 rfl (gcons wsL_law_r10_g 20 rfl gnil))))))))))))))))))))))))
theorem gl_wsX9_yard_r4 : GoodIn lw_tbl wsX9_yard_r4 := by
  unfold wsX9_yard_r4
  exact (gcons wsL_law_r10_g 21 rfl (gcons wsL_law_r10_g 22 rfl (gcons wsL_law_r10_g 23 rfl (gcons wsL_law_r11_g 0 rfl (gcons wsL_law_r11_g 1 rfl (gcons wsL_law_r11_g 2 rfl (gcons wsL_law_r11_g 3 rfl (gcons wsL_law_r11_g 4 rfl (gcons wsL_law_r11_g 5 rfl (gcons wsL_law_r11_g 6 rfl (gcons wsL_law_r11_g 7 rfl (gcons wsL_law_r11_g 8 rfl (gcons wsL_law_r11_g 9 rfl (gcons wsL_law_r11_g 10 rfl (gcons wsL_law_r11_g 11 rfl (gcons wsL_law_r11_g 12 rfl (gcons wsL_law_r11_g 13 rfl (gcons wsL_law_r11_g 14 rfl (gcons wsL_law_r11_g 15 rfl (gcons wsL_law_r11_g 16 rfl (gcons wsL_law_r11_g 17 rfl (gcons wsL_law_r11_g 18 rfl (gcons wsL_law_r11_g 19 rfl (gcons wsL_law_r1_g 2 rfl gnil))))))))))))))))))))))))
theorem gl_wsX9_yard_r5 : GoodIn lw_tbl wsX9_yard_r5 := by
  unfold wsX9_yard_r5
  exact (gcons wsL_law_r11_g 20 rfl (gcons wsL_law_r11_g 21 rfl (gcons wsL_law_r11_g 22 rfl (gcons wsL_law_r11_g 23 rfl (gcons wsL_law_r12_g 0 rfl (gcons wsL_law_r12_g 1 rfl (gcons wsL_law_r12_g 2 rfl (gcons wsL_law_r12_g 3 rfl (gcons wsL_law_r12_g 4 rfl (gcons wsL_law_r12_g 5 rfl (gcons wsL_law_r12_g 6 rfl (gcons wsL_law_r12_g 7 rfl (gcons wsL_law_r12_g 8 rfl (gcons wsL_law_r12_g 9 rfl (gcons wsL_law_r12_g 10 rfl (gcons wsL_law_r12_g 11 rfl (gcons wsL_law_r12_g 12 rfl (gcons wsL_law_r12_g 13 rfl (gcons wsL_law_r12_g 14 rfl (gcons wsL_law_r12_g 15 rfl (gcons wsL_law_r12_g 16 rfl (gcons wsL_law_r12_g 17 rfl (gcons wsL_law_r12_g 18 rfl (gcons wsL_law_r2_g 3 rfl gnil))))))))))))))))))))))))
theorem gl_wsX9_yard_r6 : GoodIn lw_tbl wsX9_yard_r6 := by
  unfold wsX9_yard_r6
  exact (gcons wsL_law_r12_g 19 rfl (gcons wsL_law_r12_g 20 rfl (gcons wsL_law_r4_g 18 rfl (gcons wsL_law_r12_g 21 rfl (gcons wsL_law_r12_g 22 rfl (gcons wsL_law_r12_g 23 rfl (gcons wsL_law_r13_g 0 rfl (gcons wsL_law_r4_g 19 rfl (gcons wsL_law_r4_g 20 rfl (gcons wsL_law_r13_g 1 rfl (gcons wsL_law_r4_g 21 rfl (gcons wsL_law_r13_g 2 rfl (gcons wsL_law_r13_g 3 rfl (gcons wsL_law_r4_g 22 rfl (gcons wsL_law_r13_g 4 rfl (gcons wsL_law_r13_g 5 rfl (gcons wsL_law_r13_g 6 rfl (gcons wsL_law_r2_g 7 rfl (gcons wsL_law_r13_g 7 rfl (gcons wsL_law_r13_g 8 rfl (gcons wsL_law_r13_g 9 rfl (gcons wsL_law_r5_g 3 rfl (gcons wsL_law_r13_g 10 rfl (gcons wsL_law_r13_g 11 rfl gnil))))))))))))))))))))))))
theorem gl_wsX9_yard_r7 : GoodIn lw_tbl wsX9_yard_r7 := by
  unfold wsX9_yard_r7
  exact (gcons wsL_law_r13_g 12 rfl (gcons wsL_law_r13_g 13 rfl (gcons wsL_law_r5_g 5 rfl gnil)))
theorem gl_wsX9_yard : GoodIn lw_tbl wsX9_yard := by
  unfold wsX9_yard
  exact (gcons wsL_law_r9_g 3 rfl (goodIn_app (goodIn_app (goodIn_app (goodIn_app (goodIn_app (goodIn_app (goodIn_app (goodIn_app gl_wsX9_yard_r1 (goodIn_app gl_wsX9_yard_r2 (goodIn_app gl_wsX9_yard_r3 (goodIn_app gl_wsX9_yard_r4 (goodIn_app gl_wsX9_yard_r5 (goodIn_app gl_wsX9_yard_r6 gl_wsX9_yard_r7)))))) wsX90_g) wsX70_g) wsX50_g) wsX20_g) wsX30_g) wsX60_g) wsX40_g))
theorem gl_wsX10_yard_r1 : GoodIn lw_tbl wsX10_yard_r1 := by
  unfold wsX10_yard_r1
  exact (gcons wsL_law_r8_g 15 rfl (gcons wsL_law_r13_g 18 rfl (gcons wsL_law_r13_g 19 rfl (gcons wsL_law_r13_g 20 rfl (gcons wsL_law_r7_g 4 rfl (gcons wsL_law_r7_g 5 rfl (gcons wsL_law_r7_g 6 rfl (gcons wsL_law_r1_g 5 rfl (gcons wsL_law_r7_g 7 rfl (gcons wsL_law_r7_g 8 rfl (gcons wsL_law_r7_g 9 rfl (gcons wsL_law_r6_g 16 rfl (gcons wsL_law_r13_g 21 rfl (gcons wsL_law_r13_g 22 rfl (gcons wsL_law_r13_g 23 rfl (gcons wsL_law_r14_g 0 rfl (gcons wsL_law_r14_g 1 rfl (gcons wsL_law_r14_g 2 rfl (gcons wsL_law_r14_g 3 rfl (gcons wsL_law_r14_g 4 rfl (gcons wsL_law_r14_g 5 rfl (gcons wsL_law_r14_g 6 rfl (gcons wsL_law_r7_g 15 rfl (gcons wsL_law_r6_g 15 rfl gnil))))))))))))))))))))))))
theorem gl_wsX10_yard_r2 : GoodIn lw_tbl wsX10_yard_r2 := by
  unfold wsX10_yard_r2
  exact (gcons wsL_law_r7_g 22 rfl (gcons wsL_law_r7_g 23 rfl (gcons wsL_law_r8_g 0 rfl (gcons wsL_law_r14_g 7 rfl (gcons wsL_law_r14_g 8 rfl (gcons wsL_law_r14_g 9 rfl (gcons wsL_law_r14_g 10 rfl (gcons wsL_law_r14_g 11 rfl (gcons wsL_law_r14_g 12 rfl (gcons wsL_law_r14_g 13 rfl (gcons wsL_law_r14_g 14 rfl (gcons wsL_law_r14_g 15 rfl (gcons wsL_law_r14_g 16 rfl (gcons wsL_law_r14_g 17 rfl (gcons wsL_law_r14_g 18 rfl (gcons wsL_law_r14_g 19 rfl (gcons wsL_law_r14_g 20 rfl (gcons wsL_law_r14_g 21 rfl (gcons wsL_law_r14_g 22 rfl (gcons wsL_law_r14_g 23 rfl (gcons wsL_law_r15_g 0 rfl (gcons wsL_law_r15_g 1 rfl (gcons wsL_law_r15_g 2 rfl (gcons wsL_law_r15_g 3 rfl gnil))))))))))))))))))))))))
theorem gl_wsX10_yard_r3 : GoodIn lw_tbl wsX10_yard_r3 := by
  unfold wsX10_yard_r3
  exact (gcons wsL_law_r15_g 4 rfl (gcons wsL_law_r15_g 5 rfl (gcons wsL_law_r15_g 6 rfl (gcons wsL_law_r15_g 7 rfl (gcons wsL_law_r15_g 8 rfl (gcons wsL_law_r15_g 9 rfl (gcons wsL_law_r15_g 10 rfl (gcons wsL_law_r15_g 11 rfl (gcons wsL_law_r15_g 12 rfl (gcons wsL_law_r6_g 17 rfl (gcons wsL_law_r15_g 13 rfl (gcons wsL_law_r15_g 14 rfl (gcons wsL_law_r15_g 15 rfl (gcons wsL_law_r15_g 16 rfl (gcons wsL_law_r7_g 10 rfl (gcons wsL_law_r7_g 11 rfl (gcons wsL_law_r7_g 12 rfl (gcons wsL_law_r7_g 13 rfl (gcons wsL_law_r7_g 14 rfl (gcons wsL_law_r6_g 18 rfl (gcons wsL_law_r7_g 16 rfl (gcons wsL_law_r7_g 17 rfl (gcons wsL_law_r6_g 20 rfl (gcons wsL_law_r7_g 18 rfl gnil))))))))))))))))))))))))
theorem gl_wsX10_yard_r4 : GoodIn lw_tbl wsX10_yard_r4 := by
  unfold wsX10_yard_r4
  exact (gcons wsL_law_r7_g 19 rfl (gcons wsL_law_r7_g 20 rfl (gcons wsL_law_r7_g 21 rfl gnil)))
theorem gl_wsX10_yard : GoodIn lw_tbl wsX10_yard := by
  unfold wsX10_yard
  exact (gcons wsL_law_r13_g 17 rfl (goodIn_app (goodIn_app gl_wsX10_yard_r1 (goodIn_app gl_wsX10_yard_r2 (goodIn_app gl_wsX10_yard_r3 gl_wsX10_yard_r4))) wsX100_g))
theorem gl_wsX9_tilt : GoodIn lw_tbl wsX9_tilt := by
  unfold wsX9_tilt
  exact (gcons wsL_law_r15_g 20 rfl (goodIn_app (goodIn_app (goodIn_app (gcons wsL_law_r2_g 9 rfl (gcons wsL_law_r15_g 21 rfl (gcons wsL_law_r2_g 4 rfl (gcons wsL_law_r2_g 8 rfl (gcons wsL_law_r15_g 22 rfl (gcons wsL_law_r11_g 19 rfl (gcons wsL_law_r1_g 2 rfl (gcons wsL_law_r11_g 20 rfl (gcons wsL_law_r15_g 23 rfl (gcons wsL_law_r13_g 11 rfl (gcons wsL_law_r13_g 12 rfl (gcons wsL_law_r2_g 7 rfl (gcons wsL_law_r13_g 13 rfl (gcons wsL_law_r5_g 5 rfl gnil)))))))))))))) wsX90_g) wsX40_g) wsX20_g))
theorem gl_wsX10_tilt : GoodIn lw_tbl wsX10_tilt := by
  unfold wsX10_tilt
  exact (gcons wsL_law_r16_g 3 rfl (goodIn_app (gcons wsL_law_r8_g 15 rfl (gcons wsL_law_r6_g 18 rfl (gcons wsL_law_r16_g 4 rfl (gcons wsL_law_r16_g 5 rfl (gcons wsL_law_r16_g 6 rfl (gcons wsL_law_r16_g 7 rfl (gcons wsL_law_r1_g 5 rfl (gcons wsL_law_r16_g 8 rfl (gcons wsL_law_r7_g 14 rfl (gcons wsL_law_r7_g 18 rfl (gcons wsL_law_r7_g 19 rfl (gcons wsL_law_r7_g 20 rfl (gcons wsL_law_r7_g 21 rfl (gcons wsL_law_r6_g 16 rfl (gcons wsL_law_r7_g 22 rfl (gcons wsL_law_r7_g 23 rfl (gcons wsL_law_r8_g 0 rfl gnil))))))))))))))))) wsX100_g))
theorem gl_wsX9_now : GoodIn lw_tbl wsX9_now := by
  unfold wsX9_now
  exact (gcons wsL_law_r16_g 12 rfl (goodIn_app (goodIn_app (goodIn_app (gcons wsL_law_r2_g 4 rfl (gcons wsL_law_r16_g 13 rfl (gcons wsL_law_r16_g 14 rfl (gcons wsL_law_r16_g 15 rfl (gcons wsL_law_r16_g 16 rfl (gcons wsL_law_r16_g 17 rfl (gcons wsL_law_r2_g 15 rfl (gcons wsL_law_r9_g 8 rfl (gcons wsL_law_r15_g 21 rfl gnil))))))))) wsX90_g) wsX40_g) wsX30_g))
theorem gl_wsX10_now : GoodIn lw_tbl wsX10_now := by
  unfold wsX10_now
  exact (gcons wsL_law_r16_g 21 rfl (goodIn_app (gcons wsL_law_r8_g 15 rfl (gcons wsL_law_r6_g 18 rfl (gcons wsL_law_r7_g 17 rfl (gcons wsL_law_r16_g 4 rfl (gcons wsL_law_r7_g 22 rfl (gcons wsL_law_r7_g 23 rfl (gcons wsL_law_r1_g 5 rfl (gcons wsL_law_r8_g 0 rfl gnil)))))))) wsX100_g))
theorem gl_wsX9_pushes_r1 : GoodIn lw_tbl wsX9_pushes_r1 := by
  unfold wsX9_pushes_r1
  exact (gcons wsL_law_r2_g 15 rfl (gcons wsL_law_r2_g 4 rfl (gcons wsL_law_r2_g 9 rfl (gcons wsL_law_r16_g 14 rfl (gcons wsL_law_r16_g 13 rfl (gcons wsL_law_r16_g 15 rfl (gcons wsL_law_r1_g 23 rfl (gcons wsL_law_r17_g 2 rfl (gcons wsL_law_r17_g 3 rfl (gcons wsL_law_r17_g 4 rfl (gcons wsL_law_r1_g 2 rfl (gcons wsL_law_r17_g 5 rfl (gcons wsL_law_r17_g 6 rfl (gcons wsL_law_r17_g 7 rfl (gcons wsL_law_r17_g 8 rfl (gcons wsL_law_r17_g 9 rfl (gcons wsL_law_r16_g 16 rfl (gcons wsL_law_r17_g 10 rfl (gcons wsL_law_r17_g 11 rfl (gcons wsL_law_r17_g 12 rfl (gcons wsL_law_r17_g 13 rfl (gcons wsL_law_r17_g 14 rfl (gcons wsL_law_r17_g 15 rfl (gcons wsL_law_r17_g 16 rfl gnil))))))))))))))))))))))))
theorem gl_wsX9_pushes_r2 : GoodIn lw_tbl wsX9_pushes_r2 := by
  unfold wsX9_pushes_r2
  exact (gcons wsL_law_r2_g 7 rfl (gcons wsL_law_r17_g 17 rfl (gcons wsL_law_r5_g 3 rfl (gcons wsL_law_r17_g 18 rfl (gcons wsL_law_r17_g 19 rfl (gcons wsL_law_r17_g 20 rfl (gcons wsL_law_r2_g 14 rfl (gcons wsL_law_r17_g 21 rfl (gcons wsL_law_r17_g 22 rfl (gcons wsL_law_r5_g 12 rfl (gcons wsL_law_r17_g 23 rfl (gcons wsL_law_r18_g 0 rfl (gcons wsL_law_r10_g 13 rfl (gcons wsL_law_r10_g 14 rfl (gcons wsL_law_r10_g 15 rfl (gcons wsL_law_r18_g 1 rfl (gcons wsL_law_r18_g 2 rfl (gcons wsL_law_r18_g 3 rfl (gcons wsL_law_r2_g 3 rfl (gcons wsL_law_r18_g 4 rfl (gcons wsL_law_r4_g 18 rfl (gcons wsL_law_r12_g 21 rfl (gcons wsL_law_r12_g 22 rfl (gcons wsL_law_r12_g 23 rfl gnil))))))))))))))))))))))))
theorem gl_wsX9_pushes_r3 : GoodIn lw_tbl wsX9_pushes_r3 := by
  unfold wsX9_pushes_r3
  exact (gcons wsL_law_r13_g 0 rfl (gcons wsL_law_r4_g 19 rfl (gcons wsL_law_r4_g 20 rfl (gcons wsL_law_r4_g 21 rfl (gcons wsL_law_r13_g 2 rfl (gcons wsL_law_r13_g 3 rfl (gcons wsL_law_r18_g 5 rfl (gcons wsL_law_r18_g 6 rfl (gcons wsL_law_r18_g 7 rfl (gcons wsL_law_r18_g 8 rfl (gcons wsL_law_r18_g 9 rfl (gcons wsL_law_r18_g 10 rfl (gcons wsL_law_r18_g 11 rfl (gcons wsL_law_r18_g 12 rfl (gcons wsL_law_r5_g 5 rfl (gcons wsL_law_r18_g 13 rfl (gcons wsL_law_r13_g 10 rfl (gcons wsL_law_r13_g 11 rfl (gcons wsL_law_r13_g 12 rfl (gcons wsL_law_r13_g 13 rfl (gcons wsL_law_r18_g 14 rfl (gcons wsL_law_r18_g 15 rfl (gcons wsL_law_r18_g 16 rfl (gcons wsL_law_r18_g 17 rfl gnil))))))))))))))))))))))))
theorem gl_wsX9_pushes_r4 : GoodIn lw_tbl wsX9_pushes_r4 := by
  unfold wsX9_pushes_r4
  exact (gcons wsL_law_r5_g 4 rfl (gcons wsL_law_r18_g 18 rfl (gcons wsL_law_r18_g 19 rfl (gcons wsL_law_r18_g 20 rfl (gcons wsL_law_r18_g 21 rfl (gcons wsL_law_r18_g 22 rfl (gcons wsL_law_r18_g 23 rfl (gcons wsL_law_r19_g 0 rfl (gcons wsL_law_r19_g 1 rfl (gcons wsL_law_r4_g 22 rfl (gcons wsL_law_r4_g 11 rfl (gcons wsL_law_r4_g 12 rfl (gcons wsL_law_r4_g 13 rfl gnil)))))))))))))
theorem gl_wsX9_pushes : GoodIn lw_tbl wsX9_pushes := by
  unfold wsX9_pushes
  exact (gcons wsL_law_r17_g 1 rfl (goodIn_app (goodIn_app (goodIn_app (goodIn_app (goodIn_app (goodIn_app gl_wsX9_pushes_r1 (goodIn_app gl_wsX9_pushes_r2 (goodIn_app gl_wsX9_pushes_r3 gl_wsX9_pushes_r4))) wsX90_g) wsX40_g) wsX50_g) wsX20_g) wsX30_g))
theorem gl_wsX10_pushes_r1 : GoodIn lw_tbl wsX10_pushes_r1 := by
  unfold wsX10_pushes_r1
  exact (gcons wsL_law_r8_g 15 rfl (gcons wsL_law_r6_g 18 rfl (gcons wsL_law_r19_g 6 rfl (gcons wsL_law_r19_g 7 rfl (gcons wsL_law_r6_g 16 rfl (gcons wsL_law_r7_g 22 rfl (gcons wsL_law_r7_g 23 rfl (gcons wsL_law_r1_g 5 rfl (gcons wsL_law_r8_g 0 rfl (gcons wsL_law_r19_g 8 rfl (gcons wsL_law_r19_g 9 rfl (gcons wsL_law_r19_g 10 rfl (gcons wsL_law_r19_g 11 rfl (gcons wsL_law_r19_g 12 rfl (gcons wsL_law_r19_g 13 rfl (gcons wsL_law_r19_g 14 rfl (gcons wsL_law_r19_g 15 rfl (gcons wsL_law_r19_g 16 rfl (gcons wsL_law_r19_g 17 rfl (gcons wsL_law_r19_g 18 rfl (gcons wsL_law_r19_g 19 rfl (gcons wsL_law_r16_g 5 rfl (gcons wsL_law_r16_g 6 rfl (gcons wsL_law_r16_g 7 rfl gnil))))))))))))))))))))))))
theorem gl_wsX10_pushes_r2 : GoodIn lw_tbl wsX10_pushes_r2 := by
  unfold wsX10_pushes_r2
  exact (gcons wsL_law_r16_g 8 rfl (gcons wsL_law_r7_g 14 rfl (gcons wsL_law_r7_g 18 rfl (gcons wsL_law_r7_g 19 rfl (gcons wsL_law_r7_g 20 rfl (gcons wsL_law_r7_g 21 rfl (gcons wsL_law_r19_g 20 rfl (gcons wsL_law_r19_g 21 rfl (gcons wsL_law_r19_g 22 rfl (gcons wsL_law_r19_g 23 rfl (gcons wsL_law_r7_g 17 rfl (gcons wsL_law_r6_g 21 rfl gnil))))))))))))
theorem gl_wsX10_pushes : GoodIn lw_tbl wsX10_pushes := by
  unfold wsX10_pushes
  exact (gcons wsL_law_r19_g 5 rfl (goodIn_app (goodIn_app gl_wsX10_pushes_r1 gl_wsX10_pushes_r2) wsX100_g))
theorem gl_wsX9_objects_r1 : GoodIn lw_tbl wsX9_objects_r1 := by
  unfold wsX9_objects_r1
  exact (gcons wsL_law_r2_g 4 rfl (gcons wsL_law_r16_g 15 rfl (gcons wsL_law_r16_g 17 rfl (gcons wsL_law_r2_g 15 rfl (gcons wsL_law_r17_g 10 rfl (gcons wsL_law_r17_g 11 rfl (gcons wsL_law_r17_g 12 rfl (gcons wsL_law_r1_g 2 rfl (gcons wsL_law_r17_g 13 rfl (gcons wsL_law_r1_g 23 rfl (gcons wsL_law_r17_g 2 rfl (gcons wsL_law_r17_g 18 rfl (gcons wsL_law_r17_g 19 rfl (gcons wsL_law_r17_g 20 rfl (gcons wsL_law_r2_g 14 rfl (gcons wsL_law_r17_g 21 rfl (gcons wsL_law_r17_g 22 rfl (gcons wsL_law_r5_g 12 rfl (gcons wsL_law_r17_g 23 rfl (gcons wsL_law_r18_g 0 rfl (gcons wsL_law_r10_g 13 rfl (gcons wsL_law_r10_g 14 rfl (gcons wsL_law_r10_g 15 rfl (gcons wsL_law_r18_g 1 rfl gnil))))))))))))))))))))))))
theorem gl_wsX9_objects_r2 : GoodIn lw_tbl wsX9_objects_r2 := by
  unfold wsX9_objects_r2
  exact (gcons wsL_law_r18_g 2 rfl (gcons wsL_law_r18_g 3 rfl (gcons wsL_law_r2_g 3 rfl (gcons wsL_law_r18_g 4 rfl (gcons wsL_law_r4_g 18 rfl (gcons wsL_law_r12_g 21 rfl (gcons wsL_law_r12_g 22 rfl (gcons wsL_law_r12_g 23 rfl (gcons wsL_law_r13_g 0 rfl (gcons wsL_law_r4_g 19 rfl (gcons wsL_law_r4_g 20 rfl (gcons wsL_law_r4_g 21 rfl (gcons wsL_law_r13_g 2 rfl (gcons wsL_law_r13_g 3 rfl gnil))))))))))))))
theorem gl_wsX9_objects : GoodIn lw_tbl wsX9_objects := by
  unfold wsX9_objects
  exact (gcons wsL_law_r20_g 3 rfl (goodIn_app (goodIn_app (goodIn_app (goodIn_app (goodIn_app gl_wsX9_objects_r1 gl_wsX9_objects_r2) wsX90_g) wsX40_g) wsX50_g) wsX30_g))
theorem gl_wsX10_objects : GoodIn lw_tbl wsX10_objects := by
  unfold wsX10_objects
  exact (gcons wsL_law_r20_g 7 rfl (goodIn_app (gcons wsL_law_r8_g 15 rfl (gcons wsL_law_r6_g 18 rfl (gcons wsL_law_r19_g 8 rfl (gcons wsL_law_r19_g 9 rfl (gcons wsL_law_r19_g 10 rfl (gcons wsL_law_r1_g 5 rfl (gcons wsL_law_r19_g 11 rfl (gcons wsL_law_r6_g 16 rfl (gcons wsL_law_r19_g 20 rfl (gcons wsL_law_r19_g 21 rfl (gcons wsL_law_r19_g 22 rfl (gcons wsL_law_r19_g 23 rfl (gcons wsL_law_r7_g 17 rfl (gcons wsL_law_r6_g 21 rfl gnil)))))))))))))) wsX100_g))
theorem gl_wsX9_evens_r1 : GoodIn lw_tbl wsX9_evens_r1 := by
  unfold wsX9_evens_r1
  exact (gcons wsL_law_r2_g 9 rfl (gcons wsL_law_r15_g 21 rfl (gcons wsL_law_r2_g 4 rfl (gcons wsL_law_r2_g 8 rfl (gcons wsL_law_r2_g 15 rfl (gcons wsL_law_r15_g 22 rfl (gcons wsL_law_r11_g 19 rfl (gcons wsL_law_r1_g 2 rfl (gcons wsL_law_r11_g 20 rfl (gcons wsL_law_r15_g 23 rfl (gcons wsL_law_r13_g 11 rfl (gcons wsL_law_r13_g 12 rfl (gcons wsL_law_r2_g 7 rfl (gcons wsL_law_r13_g 13 rfl (gcons wsL_law_r5_g 5 rfl (gcons wsL_law_r17_g 18 rfl (gcons wsL_law_r17_g 19 rfl (gcons wsL_law_r17_g 20 rfl (gcons wsL_law_r2_g 14 rfl (gcons wsL_law_r17_g 21 rfl (gcons wsL_law_r17_g 22 rfl (gcons wsL_law_r5_g 12 rfl (gcons wsL_law_r17_g 23 rfl (gcons wsL_law_r18_g 0 rfl gnil))))))))))))))))))))))))
theorem gl_wsX9_evens_r2 : GoodIn lw_tbl wsX9_evens_r2 := by
  unfold wsX9_evens_r2
  exact (gcons wsL_law_r10_g 13 rfl (gcons wsL_law_r10_g 14 rfl (gcons wsL_law_r10_g 15 rfl (gcons wsL_law_r18_g 1 rfl (gcons wsL_law_r18_g 2 rfl (gcons wsL_law_r18_g 3 rfl (gcons wsL_law_r2_g 3 rfl (gcons wsL_law_r18_g 4 rfl (gcons wsL_law_r4_g 18 rfl (gcons wsL_law_r12_g 21 rfl (gcons wsL_law_r12_g 22 rfl (gcons wsL_law_r12_g 23 rfl (gcons wsL_law_r13_g 0 rfl (gcons wsL_law_r4_g 19 rfl (gcons wsL_law_r4_g 20 rfl (gcons wsL_law_r4_g 21 rfl (gcons wsL_law_r13_g 2 rfl (gcons wsL_law_r13_g 3 rfl gnil))))))))))))))))))
theorem gl_wsX9_evens : GoodIn lw_tbl wsX9_evens := by
  unfold wsX9_evens
  exact (gcons wsL_law_r20_g 11 rfl (goodIn_app (goodIn_app (goodIn_app (goodIn_app (goodIn_app gl_wsX9_evens_r1 gl_wsX9_evens_r2) wsX90_g) wsX40_g) wsX20_g) wsX30_g))
theorem gl_wsX10_evens : GoodIn lw_tbl wsX10_evens := by
  unfold wsX10_evens
  exact (gcons wsL_law_r20_g 15 rfl (goodIn_app (gcons wsL_law_r8_g 15 rfl (gcons wsL_law_r6_g 18 rfl (gcons wsL_law_r16_g 4 rfl (gcons wsL_law_r16_g 5 rfl (gcons wsL_law_r16_g 6 rfl (gcons wsL_law_r16_g 7 rfl (gcons wsL_law_r1_g 5 rfl (gcons wsL_law_r16_g 8 rfl (gcons wsL_law_r7_g 14 rfl (gcons wsL_law_r7_g 18 rfl (gcons wsL_law_r7_g 19 rfl (gcons wsL_law_r7_g 20 rfl (gcons wsL_law_r7_g 21 rfl (gcons wsL_law_r6_g 16 rfl (gcons wsL_law_r7_g 22 rfl (gcons wsL_law_r7_g 23 rfl (gcons wsL_law_r8_g 0 rfl (gcons wsL_law_r19_g 20 rfl (gcons wsL_law_r19_g 21 rfl (gcons wsL_law_r19_g 22 rfl (gcons wsL_law_r19_g 23 rfl (gcons wsL_law_r7_g 17 rfl (gcons wsL_law_r6_g 21 rfl gnil))))))))))))))))))))))) wsX100_g))
theorem gl_wsX9_undo_r1 : GoodIn lw_tbl wsX9_undo_r1 := by
  unfold wsX9_undo_r1
  exact (gcons wsL_law_r2_g 15 rfl (gcons wsL_law_r2_g 4 rfl (gcons wsL_law_r9_g 8 rfl (gcons wsL_law_r20_g 20 rfl (gcons wsL_law_r20_g 21 rfl (gcons wsL_law_r20_g 22 rfl (gcons wsL_law_r2_g 14 rfl (gcons wsL_law_r20_g 23 rfl (gcons wsL_law_r17_g 23 rfl (gcons wsL_law_r5_g 12 rfl (gcons wsL_law_r17_g 22 rfl (gcons wsL_law_r18_g 1 rfl (gcons wsL_law_r18_g 2 rfl (gcons wsL_law_r18_g 3 rfl (gcons wsL_law_r2_g 3 rfl (gcons wsL_law_r18_g 4 rfl (gcons wsL_law_r4_g 18 rfl (gcons wsL_law_r12_g 21 rfl (gcons wsL_law_r12_g 22 rfl (gcons wsL_law_r12_g 23 rfl (gcons wsL_law_r13_g 0 rfl (gcons wsL_law_r4_g 19 rfl (gcons wsL_law_r4_g 20 rfl (gcons wsL_law_r4_g 21 rfl gnil))))))))))))))))))))))))
theorem gl_wsX9_undo_r2 : GoodIn lw_tbl wsX9_undo_r2 := by
  unfold wsX9_undo_r2
  exact (gcons wsL_law_r13_g 2 rfl (gcons wsL_law_r13_g 3 rfl gnil))
theorem gl_wsX9_undo : GoodIn lw_tbl wsX9_undo := by
  unfold wsX9_undo
  exact (gcons wsL_law_r20_g 19 rfl (goodIn_app (goodIn_app (goodIn_app (goodIn_app gl_wsX9_undo_r1 gl_wsX9_undo_r2) wsX90_g) wsX30_g) wsX40_g))
theorem gl_wsX10_undo : GoodIn lw_tbl wsX10_undo := by
  unfold wsX10_undo
  exact (gcons wsL_law_r21_g 3 rfl (goodIn_app (gcons wsL_law_r8_g 15 rfl (gcons wsL_law_r7_g 17 rfl (gcons wsL_law_r6_g 18 rfl (gcons wsL_law_r6_g 21 rfl gnil)))) wsX100_g))
theorem gl_wsX9_would_r1 : GoodIn lw_tbl wsX9_would_r1 := by
  unfold wsX9_would_r1
  exact (gcons wsL_law_r2_g 9 rfl (gcons wsL_law_r2_g 4 rfl (gcons wsL_law_r16_g 14 rfl (gcons wsL_law_r17_g 3 rfl (gcons wsL_law_r17_g 4 rfl (gcons wsL_law_r1_g 2 rfl (gcons wsL_law_r17_g 5 rfl (gcons wsL_law_r17_g 6 rfl (gcons wsL_law_r17_g 7 rfl (gcons wsL_law_r17_g 8 rfl (gcons wsL_law_r17_g 9 rfl (gcons wsL_law_r16_g 16 rfl (gcons wsL_law_r16_g 13 rfl (gcons wsL_law_r17_g 10 rfl (gcons wsL_law_r17_g 11 rfl (gcons wsL_law_r17_g 12 rfl (gcons wsL_law_r17_g 13 rfl (gcons wsL_law_r1_g 23 rfl (gcons wsL_law_r17_g 2 rfl (gcons wsL_law_r17_g 14 rfl (gcons wsL_law_r17_g 15 rfl (gcons wsL_law_r17_g 16 rfl (gcons wsL_law_r2_g 7 rfl (gcons wsL_law_r17_g 17 rfl gnil))))))))))))))))))))))))
theorem gl_wsX9_would_r2 : GoodIn lw_tbl wsX9_would_r2 := by
  unfold wsX9_would_r2
  exact (gcons wsL_law_r5_g 3 rfl (gcons wsL_law_r18_g 5 rfl (gcons wsL_law_r18_g 6 rfl (gcons wsL_law_r18_g 7 rfl (gcons wsL_law_r18_g 8 rfl (gcons wsL_law_r18_g 9 rfl (gcons wsL_law_r18_g 10 rfl (gcons wsL_law_r18_g 11 rfl (gcons wsL_law_r18_g 12 rfl (gcons wsL_law_r5_g 5 rfl (gcons wsL_law_r18_g 13 rfl (gcons wsL_law_r13_g 10 rfl (gcons wsL_law_r13_g 11 rfl (gcons wsL_law_r13_g 12 rfl (gcons wsL_law_r13_g 13 rfl (gcons wsL_law_r18_g 14 rfl (gcons wsL_law_r18_g 15 rfl (gcons wsL_law_r18_g 16 rfl (gcons wsL_law_r18_g 17 rfl (gcons wsL_law_r5_g 4 rfl gnil))))))))))))))))))))
theorem gl_wsX9_would : GoodIn lw_tbl wsX9_would := by
  unfold wsX9_would
  exact (gcons wsL_law_r21_g 7 rfl (goodIn_app (goodIn_app (goodIn_app (goodIn_app (goodIn_app gl_wsX9_would_r1 gl_wsX9_would_r2) wsX90_g) wsX40_g) wsX50_g) wsX20_g))
theorem gl_wsX10_would_r1 : GoodIn lw_tbl wsX10_would_r1 := by
  unfold wsX10_would_r1
  exact (gcons wsL_law_r8_g 15 rfl (gcons wsL_law_r6_g 18 rfl (gcons wsL_law_r7_g 22 rfl (gcons wsL_law_r7_g 23 rfl (gcons wsL_law_r1_g 5 rfl (gcons wsL_law_r8_g 0 rfl (gcons wsL_law_r19_g 8 rfl (gcons wsL_law_r19_g 9 rfl (gcons wsL_law_r19_g 10 rfl (gcons wsL_law_r19_g 11 rfl (gcons wsL_law_r6_g 16 rfl (gcons wsL_law_r19_g 12 rfl (gcons wsL_law_r19_g 13 rfl (gcons wsL_law_r19_g 14 rfl (gcons wsL_law_r19_g 15 rfl (gcons wsL_law_r19_g 16 rfl (gcons wsL_law_r19_g 17 rfl (gcons wsL_law_r19_g 18 rfl (gcons wsL_law_r19_g 19 rfl (gcons wsL_law_r19_g 6 rfl (gcons wsL_law_r19_g 7 rfl (gcons wsL_law_r16_g 5 rfl (gcons wsL_law_r16_g 6 rfl (gcons wsL_law_r16_g 7 rfl gnil))))))))))))))))))))))))
theorem gl_wsX10_would_r2 : GoodIn lw_tbl wsX10_would_r2 := by
  unfold wsX10_would_r2
  exact (gcons wsL_law_r16_g 8 rfl (gcons wsL_law_r7_g 14 rfl (gcons wsL_law_r7_g 18 rfl (gcons wsL_law_r7_g 19 rfl (gcons wsL_law_r7_g 20 rfl (gcons wsL_law_r7_g 21 rfl gnil))))))
theorem gl_wsX10_would : GoodIn lw_tbl wsX10_would := by
  unfold wsX10_would
  exact (gcons wsL_law_r21_g 11 rfl (goodIn_app (goodIn_app gl_wsX10_would_r1 gl_wsX10_would_r2) wsX100_g))
theorem gl_wsX9_game_r1 : GoodIn lw_tbl wsX9_game_r1 := by
  unfold wsX9_game_r1
  exact (gcons wsL_law_r2_g 23 rfl (gcons wsL_law_r2_g 9 rfl (gcons wsL_law_r2_g 4 rfl (gcons wsL_law_r16_g 13 rfl (gcons wsL_law_r16_g 14 rfl (gcons wsL_law_r16_g 15 rfl (gcons wsL_law_r17_g 10 rfl (gcons wsL_law_r17_g 11 rfl (gcons wsL_law_r17_g 12 rfl (gcons wsL_law_r1_g 2 rfl (gcons wsL_law_r17_g 13 rfl (gcons wsL_law_r1_g 23 rfl (gcons wsL_law_r17_g 2 rfl (gcons wsL_law_r21_g 16 rfl (gcons wsL_law_r21_g 17 rfl (gcons wsL_law_r21_g 18 rfl (gcons wsL_law_r2_g 22 rfl (gcons wsL_law_r21_g 19 rfl (gcons wsL_law_r21_g 20 rfl (gcons wsL_law_r21_g 21 rfl (gcons wsL_law_r5_g 17 rfl (gcons wsL_law_r5_g 20 rfl (gcons wsL_law_r21_g 22 rfl (gcons wsL_law_r4_g 11 rfl gnil))))))))))))))))))))))))
theorem gl_wsX9_game_r2 : GoodIn lw_tbl wsX9_game_r2 := by
  unfold wsX9_game_r2
  exact (gcons wsL_law_r4_g 12 rfl (gcons wsL_law_r4_g 13 rfl (gcons wsL_law_r21_g 23 rfl (gcons wsL_law_r13_g 11 rfl (gcons wsL_law_r13_g 12 rfl (gcons wsL_law_r2_g 7 rfl (gcons wsL_law_r13_g 13 rfl (gcons wsL_law_r5_g 5 rfl (gcons wsL_law_r22_g 0 rfl (gcons wsL_law_r18_g 15 rfl (gcons wsL_law_r18_g 16 rfl (gcons wsL_law_r18_g 17 rfl (gcons wsL_law_r5_g 4 rfl (gcons wsL_law_r22_g 1 rfl (gcons wsL_law_r22_g 2 rfl (gcons wsL_law_r22_g 3 rfl (gcons wsL_law_r22_g 4 rfl (gcons wsL_law_r5_g 19 rfl (gcons wsL_law_r22_g 5 rfl (gcons wsL_law_r17_g 15 rfl (gcons wsL_law_r17_g 16 rfl (gcons wsL_law_r17_g 17 rfl (gcons wsL_law_r5_g 3 rfl (gcons wsL_law_r22_g 6 rfl gnil))))))))))))))))))))))))
theorem gl_wsX9_game_r3 : GoodIn lw_tbl wsX9_game_r3 := by
  unfold wsX9_game_r3
  exact (gcons wsL_law_r18_g 6 rfl (gcons wsL_law_r18_g 7 rfl (gcons wsL_law_r18_g 8 rfl (gcons wsL_law_r18_g 9 rfl (gcons wsL_law_r18_g 10 rfl (gcons wsL_law_r18_g 11 rfl (gcons wsL_law_r18_g 12 rfl (gcons wsL_law_r18_g 13 rfl (gcons wsL_law_r13_g 10 rfl (gcons wsL_law_r22_g 7 rfl (gcons wsL_law_r22_g 8 rfl (gcons wsL_law_r22_g 9 rfl (gcons wsL_law_r22_g 10 rfl (gcons wsL_law_r22_g 11 rfl (gcons wsL_law_r22_g 12 rfl (gcons wsL_law_r22_g 13 rfl (gcons wsL_law_r22_g 14 rfl (gcons wsL_law_r22_g 15 rfl (gcons wsL_law_r22_g 16 rfl (gcons wsL_law_r22_g 17 rfl (gcons wsL_law_r22_g 18 rfl (gcons wsL_law_r5_g 18 rfl (gcons wsL_law_r22_g 19 rfl (gcons wsL_law_r22_g 20 rfl gnil))))))))))))))))))))))))
theorem gl_wsX9_game_r4 : GoodIn lw_tbl wsX9_game_r4 := by
  unfold wsX9_game_r4
  exact (gcons wsL_law_r22_g 21 rfl (gcons wsL_law_r22_g 22 rfl (gcons wsL_law_r22_g 23 rfl (gcons wsL_law_r23_g 0 rfl (gcons wsL_law_r23_g 1 rfl (gcons wsL_law_r23_g 2 rfl (gcons wsL_law_r23_g 3 rfl (gcons wsL_law_r23_g 4 rfl (gcons wsL_law_r23_g 5 rfl (gcons wsL_law_r23_g 6 rfl (gcons wsL_law_r23_g 7 rfl (gcons wsL_law_r23_g 8 rfl (gcons wsL_law_r23_g 9 rfl (gcons wsL_law_r23_g 10 rfl (gcons wsL_law_r23_g 11 rfl (gcons wsL_law_r23_g 12 rfl (gcons wsL_law_r23_g 13 rfl (gcons wsL_law_r23_g 14 rfl (gcons wsL_law_r23_g 15 rfl gnil)))))))))))))))))))
theorem gl_wsX9_game : GoodIn lw_tbl wsX9_game := by
  unfold wsX9_game
  exact (gcons wsL_law_r21_g 15 rfl (goodIn_app (goodIn_app (goodIn_app (goodIn_app (goodIn_app (goodIn_app gl_wsX9_game_r1 (goodIn_app gl_wsX9_game_r2 (goodIn_app gl_wsX9_game_r3 gl_wsX9_game_r4))) wsX90_g) wsX40_g) wsX50_g) wsX10_g) wsX20_g))
theorem gl_wsX10_game_r1 : GoodIn lw_tbl wsX10_game_r1 := by
  unfold wsX10_game_r1
  exact (gcons wsL_law_r8_g 15 rfl (gcons wsL_law_r6_g 23 rfl (gcons wsL_law_r7_g 0 rfl (gcons wsL_law_r7_g 22 rfl (gcons wsL_law_r7_g 23 rfl (gcons wsL_law_r1_g 5 rfl (gcons wsL_law_r8_g 0 rfl (gcons wsL_law_r19_g 8 rfl (gcons wsL_law_r19_g 9 rfl (gcons wsL_law_r19_g 10 rfl (gcons wsL_law_r19_g 11 rfl (gcons wsL_law_r6_g 16 rfl (gcons wsL_law_r23_g 20 rfl (gcons wsL_law_r23_g 21 rfl (gcons wsL_law_r23_g 22 rfl (gcons wsL_law_r23_g 23 rfl (gcons wsL_law_r24_g 0 rfl (gcons wsL_law_r24_g 1 rfl (gcons wsL_law_r24_g 2 rfl (gcons wsL_law_r24_g 3 rfl (gcons wsL_law_r16_g 5 rfl (gcons wsL_law_r16_g 6 rfl (gcons wsL_law_r16_g 7 rfl (gcons wsL_law_r16_g 8 rfl gnil))))))))))))))))))))))))
theorem gl_wsX10_game_r2 : GoodIn lw_tbl wsX10_game_r2 := by
  unfold wsX10_game_r2
  exact (gcons wsL_law_r7_g 14 rfl (gcons wsL_law_r7_g 18 rfl (gcons wsL_law_r7_g 19 rfl (gcons wsL_law_r7_g 20 rfl (gcons wsL_law_r7_g 21 rfl (gcons wsL_law_r24_g 4 rfl (gcons wsL_law_r24_g 5 rfl (gcons wsL_law_r24_g 6 rfl (gcons wsL_law_r24_g 7 rfl (gcons wsL_law_r24_g 8 rfl (gcons wsL_law_r24_g 9 rfl (gcons wsL_law_r24_g 10 rfl (gcons wsL_law_r19_g 12 rfl (gcons wsL_law_r19_g 13 rfl (gcons wsL_law_r19_g 14 rfl (gcons wsL_law_r19_g 15 rfl (gcons wsL_law_r19_g 16 rfl (gcons wsL_law_r19_g 17 rfl (gcons wsL_law_r19_g 18 rfl (gcons wsL_law_r19_g 19 rfl (gcons wsL_law_r19_g 6 rfl (gcons wsL_law_r6_g 18 rfl (gcons wsL_law_r19_g 7 rfl (gcons wsL_law_r24_g 11 rfl gnil))))))))))))))))))))))))
theorem gl_wsX10_game_r3 : GoodIn lw_tbl wsX10_game_r3 := by
  unfold wsX10_game_r3
  exact (gcons wsL_law_r24_g 12 rfl (gcons wsL_law_r24_g 13 rfl (gcons wsL_law_r24_g 14 rfl (gcons wsL_law_r24_g 15 rfl (gcons wsL_law_r24_g 16 rfl (gcons wsL_law_r24_g 17 rfl (gcons wsL_law_r24_g 18 rfl (gcons wsL_law_r24_g 19 rfl (gcons wsL_law_r24_g 20 rfl (gcons wsL_law_r24_g 21 rfl (gcons wsL_law_r24_g 22 rfl gnil)))))))))))
theorem gl_wsX10_game : GoodIn lw_tbl wsX10_game := by
  unfold wsX10_game
  exact (gcons wsL_law_r23_g 19 rfl (goodIn_app (goodIn_app gl_wsX10_game_r1 (goodIn_app gl_wsX10_game_r2 gl_wsX10_game_r3)) wsX100_g))
theorem gl_wsX9_advice_r1 : GoodIn lw_tbl wsX9_advice_r1 := by
  unfold wsX9_advice_r1
  exact (gcons wsL_law_r2_g 23 rfl (gcons wsL_law_r2_g 9 rfl (gcons wsL_law_r2_g 4 rfl (gcons wsL_law_r16_g 13 rfl (gcons wsL_law_r17_g 10 rfl (gcons wsL_law_r17_g 11 rfl (gcons wsL_law_r17_g 12 rfl (gcons wsL_law_r1_g 2 rfl (gcons wsL_law_r17_g 13 rfl (gcons wsL_law_r1_g 23 rfl (gcons wsL_law_r17_g 2 rfl (gcons wsL_law_r21_g 16 rfl (gcons wsL_law_r21_g 17 rfl (gcons wsL_law_r21_g 18 rfl (gcons wsL_law_r2_g 22 rfl (gcons wsL_law_r21_g 19 rfl (gcons wsL_law_r21_g 20 rfl (gcons wsL_law_r21_g 21 rfl (gcons wsL_law_r5_g 17 rfl (gcons wsL_law_r5_g 20 rfl (gcons wsL_law_r21_g 22 rfl (gcons wsL_law_r4_g 11 rfl (gcons wsL_law_r4_g 12 rfl (gcons wsL_law_r4_g 13 rfl gnil))))))))))))))))))))))))
theorem gl_wsX9_advice_r2 : GoodIn lw_tbl wsX9_advice_r2 := by
  unfold wsX9_advice_r2
  exact (gcons wsL_law_r21_g 23 rfl (gcons wsL_law_r13_g 11 rfl (gcons wsL_law_r13_g 12 rfl (gcons wsL_law_r2_g 7 rfl (gcons wsL_law_r13_g 13 rfl (gcons wsL_law_r5_g 5 rfl (gcons wsL_law_r22_g 0 rfl (gcons wsL_law_r18_g 15 rfl (gcons wsL_law_r18_g 16 rfl (gcons wsL_law_r18_g 17 rfl (gcons wsL_law_r5_g 4 rfl (gcons wsL_law_r22_g 1 rfl (gcons wsL_law_r22_g 2 rfl (gcons wsL_law_r22_g 3 rfl (gcons wsL_law_r22_g 4 rfl (gcons wsL_law_r5_g 19 rfl (gcons wsL_law_r22_g 5 rfl (gcons wsL_law_r17_g 15 rfl (gcons wsL_law_r17_g 16 rfl (gcons wsL_law_r17_g 17 rfl (gcons wsL_law_r5_g 3 rfl (gcons wsL_law_r22_g 6 rfl (gcons wsL_law_r18_g 6 rfl (gcons wsL_law_r18_g 7 rfl gnil))))))))))))))))))))))))
theorem gl_wsX9_advice_r3 : GoodIn lw_tbl wsX9_advice_r3 := by
  unfold wsX9_advice_r3
  exact (gcons wsL_law_r18_g 8 rfl (gcons wsL_law_r18_g 9 rfl (gcons wsL_law_r18_g 10 rfl (gcons wsL_law_r18_g 11 rfl (gcons wsL_law_r18_g 12 rfl (gcons wsL_law_r18_g 13 rfl (gcons wsL_law_r13_g 10 rfl (gcons wsL_law_r22_g 7 rfl (gcons wsL_law_r22_g 8 rfl (gcons wsL_law_r22_g 9 rfl (gcons wsL_law_r22_g 10 rfl (gcons wsL_law_r22_g 11 rfl (gcons wsL_law_r22_g 12 rfl (gcons wsL_law_r22_g 13 rfl (gcons wsL_law_r22_g 14 rfl (gcons wsL_law_r22_g 15 rfl (gcons wsL_law_r22_g 16 rfl (gcons wsL_law_r22_g 17 rfl (gcons wsL_law_r22_g 18 rfl (gcons wsL_law_r5_g 18 rfl (gcons wsL_law_r22_g 19 rfl (gcons wsL_law_r22_g 20 rfl (gcons wsL_law_r22_g 21 rfl (gcons wsL_law_r22_g 22 rfl gnil))))))))))))))))))))))))
theorem gl_wsX9_advice_r4 : GoodIn lw_tbl wsX9_advice_r4 := by
  unfold wsX9_advice_r4
  exact (gcons wsL_law_r22_g 23 rfl (gcons wsL_law_r23_g 0 rfl (gcons wsL_law_r23_g 1 rfl (gcons wsL_law_r23_g 2 rfl (gcons wsL_law_r23_g 3 rfl (gcons wsL_law_r23_g 4 rfl (gcons wsL_law_r23_g 5 rfl (gcons wsL_law_r23_g 6 rfl (gcons wsL_law_r23_g 7 rfl (gcons wsL_law_r17_g 14 rfl (gcons wsL_law_r25_g 3 rfl (gcons wsL_law_r25_g 4 rfl (gcons wsL_law_r25_g 5 rfl (gcons wsL_law_r25_g 6 rfl (gcons wsL_law_r16_g 14 rfl (gcons wsL_law_r16_g 15 rfl (gcons wsL_law_r23_g 8 rfl (gcons wsL_law_r23_g 9 rfl (gcons wsL_law_r23_g 10 rfl (gcons wsL_law_r23_g 11 rfl (gcons wsL_law_r23_g 12 rfl (gcons wsL_law_r23_g 13 rfl (gcons wsL_law_r23_g 14 rfl (gcons wsL_law_r23_g 15 rfl gnil))))))))))))))))))))))))
theorem gl_wsX9_advice_r5 : GoodIn lw_tbl wsX9_advice_r5 := by
  unfold wsX9_advice_r5
  exact (gcons wsL_law_r18_g 5 rfl (gcons wsL_law_r18_g 14 rfl gnil))
theorem gl_wsX9_advice : GoodIn lw_tbl wsX9_advice := by
  unfold wsX9_advice
  exact (gcons wsL_law_r25_g 2 rfl (goodIn_app (goodIn_app (goodIn_app (goodIn_app (goodIn_app (goodIn_app gl_wsX9_advice_r1 (goodIn_app gl_wsX9_advice_r2 (goodIn_app gl_wsX9_advice_r3 (goodIn_app gl_wsX9_advice_r4 gl_wsX9_advice_r5)))) wsX90_g) wsX40_g) wsX50_g) wsX10_g) wsX20_g))
theorem gl_wsX10_advice_r1 : GoodIn lw_tbl wsX10_advice_r1 := by
  unfold wsX10_advice_r1
  exact (gcons wsL_law_r8_g 15 rfl (gcons wsL_law_r6_g 23 rfl (gcons wsL_law_r6_g 18 rfl (gcons wsL_law_r7_g 0 rfl (gcons wsL_law_r19_g 8 rfl (gcons wsL_law_r19_g 9 rfl (gcons wsL_law_r19_g 10 rfl (gcons wsL_law_r1_g 5 rfl (gcons wsL_law_r19_g 11 rfl (gcons wsL_law_r6_g 16 rfl (gcons wsL_law_r23_g 20 rfl (gcons wsL_law_r23_g 21 rfl (gcons wsL_law_r23_g 22 rfl (gcons wsL_law_r23_g 23 rfl (gcons wsL_law_r24_g 0 rfl (gcons wsL_law_r24_g 1 rfl (gcons wsL_law_r24_g 2 rfl (gcons wsL_law_r24_g 3 rfl (gcons wsL_law_r16_g 5 rfl (gcons wsL_law_r16_g 6 rfl (gcons wsL_law_r16_g 7 rfl (gcons wsL_law_r16_g 8 rfl (gcons wsL_law_r7_g 14 rfl (gcons wsL_law_r7_g 18 rfl gnil))))))))))))))))))))))))
theorem gl_wsX10_advice_r2 : GoodIn lw_tbl wsX10_advice_r2 := by
  unfold wsX10_advice_r2
  exact (gcons wsL_law_r7_g 19 rfl (gcons wsL_law_r7_g 20 rfl (gcons wsL_law_r7_g 21 rfl (gcons wsL_law_r7_g 22 rfl (gcons wsL_law_r7_g 23 rfl (gcons wsL_law_r8_g 0 rfl (gcons wsL_law_r24_g 4 rfl (gcons wsL_law_r24_g 5 rfl (gcons wsL_law_r24_g 6 rfl (gcons wsL_law_r24_g 7 rfl (gcons wsL_law_r24_g 8 rfl (gcons wsL_law_r24_g 9 rfl (gcons wsL_law_r24_g 10 rfl (gcons wsL_law_r19_g 12 rfl (gcons wsL_law_r19_g 13 rfl (gcons wsL_law_r19_g 14 rfl (gcons wsL_law_r19_g 15 rfl (gcons wsL_law_r19_g 16 rfl (gcons wsL_law_r19_g 17 rfl (gcons wsL_law_r19_g 18 rfl (gcons wsL_law_r19_g 19 rfl (gcons wsL_law_r19_g 6 rfl (gcons wsL_law_r19_g 7 rfl (gcons wsL_law_r24_g 11 rfl gnil))))))))))))))))))))))))
theorem gl_wsX10_advice_r3 : GoodIn lw_tbl wsX10_advice_r3 := by
  unfold wsX10_advice_r3
  exact (gcons wsL_law_r24_g 12 rfl (gcons wsL_law_r24_g 13 rfl (gcons wsL_law_r24_g 14 rfl (gcons wsL_law_r24_g 15 rfl (gcons wsL_law_r24_g 16 rfl (gcons wsL_law_r24_g 17 rfl (gcons wsL_law_r24_g 18 rfl (gcons wsL_law_r24_g 19 rfl (gcons wsL_law_r24_g 20 rfl (gcons wsL_law_r24_g 21 rfl (gcons wsL_law_r24_g 22 rfl gnil)))))))))))
theorem gl_wsX10_advice : GoodIn lw_tbl wsX10_advice := by
  unfold wsX10_advice
  exact (gcons wsL_law_r25_g 10 rfl (goodIn_app (goodIn_app gl_wsX10_advice_r1 (goodIn_app gl_wsX10_advice_r2 gl_wsX10_advice_r3)) wsX100_g))
theorem gl_wsX9_soonest_r1 : GoodIn lw_tbl wsX9_soonest_r1 := by
  unfold wsX9_soonest_r1
  exact (gcons wsL_law_r3_g 3 rfl (gcons wsL_law_r2_g 9 rfl (gcons wsL_law_r2_g 4 rfl (gcons wsL_law_r16_g 13 rfl (gcons wsL_law_r16_g 14 rfl (gcons wsL_law_r25_g 15 rfl (gcons wsL_law_r25_g 16 rfl (gcons wsL_law_r1_g 2 rfl (gcons wsL_law_r25_g 17 rfl (gcons wsL_law_r17_g 10 rfl (gcons wsL_law_r17_g 11 rfl (gcons wsL_law_r17_g 12 rfl (gcons wsL_law_r17_g 13 rfl (gcons wsL_law_r1_g 23 rfl (gcons wsL_law_r17_g 2 rfl (gcons wsL_law_r25_g 18 rfl (gcons wsL_law_r25_g 19 rfl (gcons wsL_law_r25_g 20 rfl (gcons wsL_law_r3_g 2 rfl (gcons wsL_law_r25_g 21 rfl (gcons wsL_law_r25_g 22 rfl (gcons wsL_law_r25_g 23 rfl (gcons wsL_law_r6_g 4 rfl (gcons wsL_law_r22_g 10 rfl gnil))))))))))))))))))))))))
theorem gl_wsX9_soonest_r2 : GoodIn lw_tbl wsX9_soonest_r2 := by
  unfold wsX9_soonest_r2
  exact (gcons wsL_law_r22_g 11 rfl (gcons wsL_law_r26_g 0 rfl (gcons wsL_law_r26_g 1 rfl (gcons wsL_law_r26_g 2 rfl (gcons wsL_law_r26_g 3 rfl (gcons wsL_law_r6_g 0 rfl (gcons wsL_law_r6_g 1 rfl (gcons wsL_law_r6_g 2 rfl (gcons wsL_law_r6_g 3 rfl (gcons wsL_law_r26_g 4 rfl (gcons wsL_law_r26_g 5 rfl (gcons wsL_law_r26_g 6 rfl (gcons wsL_law_r26_g 7 rfl (gcons wsL_law_r22_g 23 rfl (gcons wsL_law_r23_g 0 rfl (gcons wsL_law_r26_g 8 rfl (gcons wsL_law_r17_g 15 rfl (gcons wsL_law_r17_g 16 rfl (gcons wsL_law_r2_g 7 rfl (gcons wsL_law_r17_g 17 rfl (gcons wsL_law_r5_g 3 rfl (gcons wsL_law_r23_g 1 rfl (gcons wsL_law_r23_g 2 rfl (gcons wsL_law_r26_g 9 rfl gnil))))))))))))))))))))))))
theorem gl_wsX9_soonest_r3 : GoodIn lw_tbl wsX9_soonest_r3 := by
  unfold wsX9_soonest_r3
  exact (gcons wsL_law_r18_g 6 rfl (gcons wsL_law_r18_g 7 rfl (gcons wsL_law_r18_g 8 rfl (gcons wsL_law_r18_g 9 rfl (gcons wsL_law_r18_g 10 rfl (gcons wsL_law_r18_g 11 rfl (gcons wsL_law_r18_g 12 rfl (gcons wsL_law_r5_g 5 rfl (gcons wsL_law_r18_g 13 rfl (gcons wsL_law_r13_g 10 rfl (gcons wsL_law_r13_g 11 rfl (gcons wsL_law_r13_g 12 rfl (gcons wsL_law_r13_g 13 rfl (gcons wsL_law_r26_g 10 rfl (gcons wsL_law_r18_g 15 rfl (gcons wsL_law_r18_g 16 rfl (gcons wsL_law_r18_g 17 rfl (gcons wsL_law_r5_g 4 rfl (gcons wsL_law_r26_g 11 rfl (gcons wsL_law_r26_g 12 rfl (gcons wsL_law_r26_g 13 rfl (gcons wsL_law_r26_g 14 rfl (gcons wsL_law_r6_g 5 rfl (gcons wsL_law_r26_g 15 rfl gnil))))))))))))))))))))))))
theorem gl_wsX9_soonest_r4 : GoodIn lw_tbl wsX9_soonest_r4 := by
  unfold wsX9_soonest_r4
  exact (gcons wsL_law_r26_g 16 rfl (gcons wsL_law_r26_g 17 rfl (gcons wsL_law_r26_g 18 rfl gnil)))
theorem gl_wsX9_soonest : GoodIn lw_tbl wsX9_soonest := by
  unfold wsX9_soonest
  exact (gcons wsL_law_r25_g 14 rfl (goodIn_app (goodIn_app (goodIn_app (goodIn_app (goodIn_app (goodIn_app gl_wsX9_soonest_r1 (goodIn_app gl_wsX9_soonest_r2 (goodIn_app gl_wsX9_soonest_r3 gl_wsX9_soonest_r4))) wsX90_g) wsX40_g) wsX50_g) wsX80_g) wsX20_g))
theorem gl_wsX10_soonest_r1 : GoodIn lw_tbl wsX10_soonest_r1 := by
  unfold wsX10_soonest_r1
  exact (gcons wsL_law_r8_g 15 rfl (gcons wsL_law_r6_g 18 rfl (gcons wsL_law_r7_g 1 rfl (gcons wsL_law_r19_g 6 rfl (gcons wsL_law_r19_g 7 rfl (gcons wsL_law_r7_g 22 rfl (gcons wsL_law_r7_g 23 rfl (gcons wsL_law_r1_g 5 rfl (gcons wsL_law_r8_g 0 rfl (gcons wsL_law_r19_g 8 rfl (gcons wsL_law_r19_g 9 rfl (gcons wsL_law_r19_g 10 rfl (gcons wsL_law_r19_g 11 rfl (gcons wsL_law_r6_g 16 rfl (gcons wsL_law_r26_g 23 rfl (gcons wsL_law_r27_g 0 rfl (gcons wsL_law_r27_g 1 rfl (gcons wsL_law_r27_g 2 rfl (gcons wsL_law_r16_g 5 rfl (gcons wsL_law_r16_g 6 rfl (gcons wsL_law_r16_g 7 rfl (gcons wsL_law_r16_g 8 rfl (gcons wsL_law_r7_g 14 rfl (gcons wsL_law_r7_g 18 rfl gnil))))))))))))))))))))))))
theorem gl_wsX10_soonest_r2 : GoodIn lw_tbl wsX10_soonest_r2 := by
  unfold wsX10_soonest_r2
  exact (gcons wsL_law_r7_g 19 rfl (gcons wsL_law_r7_g 20 rfl (gcons wsL_law_r7_g 21 rfl (gcons wsL_law_r19_g 12 rfl (gcons wsL_law_r19_g 13 rfl (gcons wsL_law_r19_g 14 rfl (gcons wsL_law_r19_g 15 rfl (gcons wsL_law_r19_g 16 rfl (gcons wsL_law_r19_g 17 rfl (gcons wsL_law_r19_g 18 rfl (gcons wsL_law_r19_g 19 rfl (gcons wsL_law_r24_g 8 rfl (gcons wsL_law_r24_g 9 rfl (gcons wsL_law_r24_g 10 rfl gnil))))))))))))))
theorem gl_wsX10_soonest : GoodIn lw_tbl wsX10_soonest := by
  unfold wsX10_soonest
  exact (gcons wsL_law_r26_g 22 rfl (goodIn_app (goodIn_app gl_wsX10_soonest_r1 gl_wsX10_soonest_r2) wsX100_g))
theorem gl_wsX9_odds_r1 : GoodIn lw_tbl wsX9_odds_r1 := by
  unfold wsX9_odds_r1
  exact (gcons wsL_law_r3_g 7 rfl (gcons wsL_law_r2_g 9 rfl (gcons wsL_law_r2_g 4 rfl (gcons wsL_law_r16_g 13 rfl (gcons wsL_law_r16_g 14 rfl (gcons wsL_law_r27_g 7 rfl (gcons wsL_law_r27_g 8 rfl (gcons wsL_law_r25_g 15 rfl (gcons wsL_law_r25_g 16 rfl (gcons wsL_law_r1_g 2 rfl (gcons wsL_law_r25_g 17 rfl (gcons wsL_law_r17_g 10 rfl (gcons wsL_law_r17_g 11 rfl (gcons wsL_law_r17_g 12 rfl (gcons wsL_law_r17_g 13 rfl (gcons wsL_law_r1_g 23 rfl (gcons wsL_law_r17_g 2 rfl (gcons wsL_law_r27_g 9 rfl (gcons wsL_law_r27_g 10 rfl (gcons wsL_law_r27_g 11 rfl (gcons wsL_law_r3_g 6 rfl (gcons wsL_law_r27_g 12 rfl (gcons wsL_law_r27_g 13 rfl (gcons wsL_law_r27_g 14 rfl gnil))))))))))))))))))))))))
theorem gl_wsX9_odds_r2 : GoodIn lw_tbl wsX9_odds_r2 := by
  unfold wsX9_odds_r2
  exact (gcons wsL_law_r27_g 15 rfl (gcons wsL_law_r27_g 16 rfl (gcons wsL_law_r6_g 9 rfl (gcons wsL_law_r22_g 10 rfl (gcons wsL_law_r22_g 11 rfl (gcons wsL_law_r27_g 17 rfl (gcons wsL_law_r4_g 11 rfl (gcons wsL_law_r4_g 12 rfl (gcons wsL_law_r4_g 13 rfl (gcons wsL_law_r27_g 18 rfl (gcons wsL_law_r27_g 19 rfl (gcons wsL_law_r27_g 20 rfl (gcons wsL_law_r27_g 21 rfl (gcons wsL_law_r6_g 10 rfl (gcons wsL_law_r27_g 22 rfl (gcons wsL_law_r27_g 23 rfl (gcons wsL_law_r28_g 0 rfl (gcons wsL_law_r28_g 1 rfl (gcons wsL_law_r22_g 23 rfl (gcons wsL_law_r23_g 0 rfl (gcons wsL_law_r28_g 2 rfl (gcons wsL_law_r28_g 3 rfl (gcons wsL_law_r28_g 4 rfl (gcons wsL_law_r2_g 7 rfl gnil))))))))))))))))))))))))
theorem gl_wsX9_odds_r3 : GoodIn lw_tbl wsX9_odds_r3 := by
  unfold wsX9_odds_r3
  exact (gcons wsL_law_r28_g 5 rfl (gcons wsL_law_r28_g 6 rfl (gcons wsL_law_r17_g 15 rfl (gcons wsL_law_r17_g 16 rfl (gcons wsL_law_r17_g 17 rfl (gcons wsL_law_r5_g 3 rfl (gcons wsL_law_r28_g 7 rfl (gcons wsL_law_r23_g 1 rfl (gcons wsL_law_r23_g 2 rfl (gcons wsL_law_r28_g 8 rfl (gcons wsL_law_r18_g 6 rfl (gcons wsL_law_r18_g 7 rfl (gcons wsL_law_r18_g 8 rfl (gcons wsL_law_r18_g 9 rfl (gcons wsL_law_r18_g 10 rfl (gcons wsL_law_r18_g 11 rfl (gcons wsL_law_r18_g 12 rfl (gcons wsL_law_r5_g 5 rfl (gcons wsL_law_r18_g 13 rfl (gcons wsL_law_r13_g 10 rfl (gcons wsL_law_r13_g 11 rfl (gcons wsL_law_r13_g 12 rfl (gcons wsL_law_r13_g 13 rfl (gcons wsL_law_r28_g 9 rfl gnil))))))))))))))))))))))))
theorem gl_wsX9_odds_r4 : GoodIn lw_tbl wsX9_odds_r4 := by
  unfold wsX9_odds_r4
  exact (gcons wsL_law_r18_g 15 rfl (gcons wsL_law_r18_g 16 rfl (gcons wsL_law_r18_g 17 rfl (gcons wsL_law_r5_g 4 rfl (gcons wsL_law_r28_g 10 rfl (gcons wsL_law_r28_g 11 rfl (gcons wsL_law_r28_g 12 rfl gnil)))))))
theorem gl_wsX9_odds : GoodIn lw_tbl wsX9_odds := by
  unfold wsX9_odds
  exact (gcons wsL_law_r27_g 6 rfl (goodIn_app (goodIn_app (goodIn_app (goodIn_app (goodIn_app (goodIn_app gl_wsX9_odds_r1 (goodIn_app gl_wsX9_odds_r2 (goodIn_app gl_wsX9_odds_r3 gl_wsX9_odds_r4))) wsX90_g) wsX40_g) wsX00_g) wsX50_g) wsX20_g))
theorem gl_wsX10_odds_r1 : GoodIn lw_tbl wsX10_odds_r1 := by
  unfold wsX10_odds_r1
  exact (gcons wsL_law_r8_g 15 rfl (gcons wsL_law_r7_g 2 rfl (gcons wsL_law_r6_g 18 rfl (gcons wsL_law_r7_g 3 rfl (gcons wsL_law_r7_g 22 rfl (gcons wsL_law_r7_g 23 rfl (gcons wsL_law_r1_g 5 rfl (gcons wsL_law_r8_g 0 rfl (gcons wsL_law_r19_g 8 rfl (gcons wsL_law_r19_g 9 rfl (gcons wsL_law_r19_g 10 rfl (gcons wsL_law_r19_g 11 rfl (gcons wsL_law_r6_g 16 rfl (gcons wsL_law_r24_g 8 rfl (gcons wsL_law_r24_g 9 rfl (gcons wsL_law_r24_g 10 rfl (gcons wsL_law_r28_g 17 rfl (gcons wsL_law_r28_g 18 rfl (gcons wsL_law_r28_g 19 rfl (gcons wsL_law_r28_g 20 rfl (gcons wsL_law_r19_g 6 rfl (gcons wsL_law_r19_g 7 rfl (gcons wsL_law_r19_g 12 rfl (gcons wsL_law_r19_g 13 rfl gnil))))))))))))))))))))))))
theorem gl_wsX10_odds_r2 : GoodIn lw_tbl wsX10_odds_r2 := by
  unfold wsX10_odds_r2
  exact (gcons wsL_law_r19_g 14 rfl (gcons wsL_law_r19_g 15 rfl (gcons wsL_law_r19_g 16 rfl (gcons wsL_law_r19_g 17 rfl (gcons wsL_law_r19_g 18 rfl (gcons wsL_law_r19_g 19 rfl (gcons wsL_law_r16_g 5 rfl (gcons wsL_law_r16_g 6 rfl (gcons wsL_law_r16_g 7 rfl (gcons wsL_law_r16_g 8 rfl (gcons wsL_law_r7_g 14 rfl (gcons wsL_law_r7_g 18 rfl (gcons wsL_law_r7_g 19 rfl (gcons wsL_law_r7_g 20 rfl (gcons wsL_law_r7_g 21 rfl (gcons wsL_law_r28_g 21 rfl (gcons wsL_law_r28_g 22 rfl (gcons wsL_law_r28_g 23 rfl gnil))))))))))))))))))
theorem gl_wsX10_odds : GoodIn lw_tbl wsX10_odds := by
  unfold wsX10_odds
  exact (gcons wsL_law_r28_g 16 rfl (goodIn_app (goodIn_app gl_wsX10_odds_r1 gl_wsX10_odds_r2) wsX100_g))
theorem gl_wsX9_decides_r1 : GoodIn lw_tbl wsX9_decides_r1 := by
  unfold wsX9_decides_r1
  exact (gcons wsL_law_r2_g 23 rfl (gcons wsL_law_r2_g 9 rfl (gcons wsL_law_r2_g 4 rfl (gcons wsL_law_r16_g 13 rfl (gcons wsL_law_r16_g 14 rfl (gcons wsL_law_r16_g 15 rfl (gcons wsL_law_r2_g 11 rfl (gcons wsL_law_r29_g 4 rfl (gcons wsL_law_r17_g 10 rfl (gcons wsL_law_r17_g 11 rfl (gcons wsL_law_r17_g 12 rfl (gcons wsL_law_r1_g 2 rfl (gcons wsL_law_r17_g 13 rfl (gcons wsL_law_r1_g 23 rfl (gcons wsL_law_r17_g 2 rfl (gcons wsL_law_r21_g 16 rfl (gcons wsL_law_r21_g 17 rfl (gcons wsL_law_r21_g 18 rfl (gcons wsL_law_r2_g 22 rfl (gcons wsL_law_r21_g 19 rfl (gcons wsL_law_r21_g 20 rfl (gcons wsL_law_r21_g 21 rfl (gcons wsL_law_r5_g 17 rfl (gcons wsL_law_r5_g 20 rfl gnil))))))))))))))))))))))))
theorem gl_wsX9_decides_r2 : GoodIn lw_tbl wsX9_decides_r2 := by
  unfold wsX9_decides_r2
  exact (gcons wsL_law_r21_g 22 rfl (gcons wsL_law_r4_g 11 rfl (gcons wsL_law_r4_g 12 rfl (gcons wsL_law_r4_g 13 rfl (gcons wsL_law_r21_g 23 rfl (gcons wsL_law_r13_g 11 rfl (gcons wsL_law_r13_g 12 rfl (gcons wsL_law_r2_g 7 rfl (gcons wsL_law_r13_g 13 rfl (gcons wsL_law_r5_g 5 rfl (gcons wsL_law_r22_g 0 rfl (gcons wsL_law_r18_g 15 rfl (gcons wsL_law_r18_g 16 rfl (gcons wsL_law_r18_g 17 rfl (gcons wsL_law_r5_g 4 rfl (gcons wsL_law_r22_g 1 rfl (gcons wsL_law_r22_g 2 rfl (gcons wsL_law_r22_g 3 rfl (gcons wsL_law_r22_g 4 rfl (gcons wsL_law_r5_g 19 rfl (gcons wsL_law_r22_g 5 rfl (gcons wsL_law_r17_g 15 rfl (gcons wsL_law_r17_g 16 rfl (gcons wsL_law_r17_g 17 rfl gnil))))))))))))))))))))))))
theorem gl_wsX9_decides_r3 : GoodIn lw_tbl wsX9_decides_r3 := by
  unfold wsX9_decides_r3
  exact (gcons wsL_law_r5_g 3 rfl (gcons wsL_law_r22_g 6 rfl (gcons wsL_law_r18_g 6 rfl (gcons wsL_law_r18_g 7 rfl (gcons wsL_law_r18_g 8 rfl (gcons wsL_law_r18_g 9 rfl (gcons wsL_law_r18_g 10 rfl (gcons wsL_law_r18_g 11 rfl (gcons wsL_law_r18_g 12 rfl (gcons wsL_law_r18_g 13 rfl (gcons wsL_law_r13_g 10 rfl (gcons wsL_law_r22_g 7 rfl (gcons wsL_law_r22_g 8 rfl (gcons wsL_law_r22_g 9 rfl (gcons wsL_law_r22_g 10 rfl (gcons wsL_law_r22_g 11 rfl (gcons wsL_law_r22_g 12 rfl (gcons wsL_law_r22_g 13 rfl (gcons wsL_law_r22_g 14 rfl (gcons wsL_law_r22_g 15 rfl (gcons wsL_law_r22_g 16 rfl (gcons wsL_law_r22_g 17 rfl (gcons wsL_law_r22_g 18 rfl (gcons wsL_law_r5_g 18 rfl gnil))))))))))))))))))))))))
theorem gl_wsX9_decides_r4 : GoodIn lw_tbl wsX9_decides_r4 := by
  unfold wsX9_decides_r4
  exact (gcons wsL_law_r22_g 19 rfl (gcons wsL_law_r22_g 20 rfl (gcons wsL_law_r22_g 21 rfl (gcons wsL_law_r22_g 22 rfl (gcons wsL_law_r22_g 23 rfl (gcons wsL_law_r23_g 0 rfl (gcons wsL_law_r23_g 1 rfl (gcons wsL_law_r23_g 2 rfl (gcons wsL_law_r23_g 3 rfl (gcons wsL_law_r23_g 4 rfl (gcons wsL_law_r23_g 5 rfl (gcons wsL_law_r23_g 6 rfl (gcons wsL_law_r23_g 7 rfl (gcons wsL_law_r23_g 8 rfl (gcons wsL_law_r23_g 9 rfl (gcons wsL_law_r23_g 10 rfl (gcons wsL_law_r23_g 11 rfl (gcons wsL_law_r29_g 5 rfl (gcons wsL_law_r29_g 6 rfl (gcons wsL_law_r29_g 7 rfl (gcons wsL_law_r29_g 8 rfl (gcons wsL_law_r29_g 9 rfl (gcons wsL_law_r12_g 22 rfl (gcons wsL_law_r12_g 23 rfl gnil))))))))))))))))))))))))
theorem gl_wsX9_decides_r5 : GoodIn lw_tbl wsX9_decides_r5 := by
  unfold wsX9_decides_r5
  exact (gcons wsL_law_r13_g 0 rfl gnil)
theorem gl_wsX9_decides : GoodIn lw_tbl wsX9_decides := by
  unfold wsX9_decides
  exact (gcons wsL_law_r29_g 3 rfl (goodIn_app (goodIn_app (goodIn_app (goodIn_app (goodIn_app (goodIn_app gl_wsX9_decides_r1 (goodIn_app gl_wsX9_decides_r2 (goodIn_app gl_wsX9_decides_r3 (goodIn_app gl_wsX9_decides_r4 gl_wsX9_decides_r5)))) wsX90_g) wsX40_g) wsX20_g) wsX50_g) wsX10_g))
theorem gl_wsX10_decides_r1 : GoodIn lw_tbl wsX10_decides_r1 := by
  unfold wsX10_decides_r1
  exact (gcons wsL_law_r8_g 15 rfl (gcons wsL_law_r6_g 23 rfl (gcons wsL_law_r6_g 18 rfl (gcons wsL_law_r19_g 8 rfl (gcons wsL_law_r19_g 9 rfl (gcons wsL_law_r19_g 10 rfl (gcons wsL_law_r1_g 5 rfl (gcons wsL_law_r19_g 11 rfl (gcons wsL_law_r6_g 16 rfl (gcons wsL_law_r23_g 20 rfl (gcons wsL_law_r23_g 21 rfl (gcons wsL_law_r23_g 22 rfl (gcons wsL_law_r23_g 23 rfl (gcons wsL_law_r7_g 0 rfl (gcons wsL_law_r24_g 0 rfl (gcons wsL_law_r24_g 1 rfl (gcons wsL_law_r24_g 2 rfl (gcons wsL_law_r24_g 3 rfl (gcons wsL_law_r16_g 5 rfl (gcons wsL_law_r16_g 6 rfl (gcons wsL_law_r16_g 7 rfl (gcons wsL_law_r16_g 8 rfl (gcons wsL_law_r7_g 14 rfl (gcons wsL_law_r7_g 18 rfl gnil))))))))))))))))))))))))
theorem gl_wsX10_decides_r2 : GoodIn lw_tbl wsX10_decides_r2 := by
  unfold wsX10_decides_r2
  exact (gcons wsL_law_r7_g 19 rfl (gcons wsL_law_r7_g 20 rfl (gcons wsL_law_r7_g 21 rfl (gcons wsL_law_r7_g 22 rfl (gcons wsL_law_r7_g 23 rfl (gcons wsL_law_r8_g 0 rfl (gcons wsL_law_r24_g 4 rfl (gcons wsL_law_r24_g 5 rfl (gcons wsL_law_r24_g 6 rfl (gcons wsL_law_r24_g 7 rfl (gcons wsL_law_r24_g 8 rfl (gcons wsL_law_r24_g 9 rfl (gcons wsL_law_r24_g 10 rfl (gcons wsL_law_r19_g 12 rfl (gcons wsL_law_r19_g 13 rfl (gcons wsL_law_r19_g 14 rfl (gcons wsL_law_r19_g 15 rfl (gcons wsL_law_r19_g 16 rfl (gcons wsL_law_r19_g 17 rfl (gcons wsL_law_r19_g 18 rfl (gcons wsL_law_r19_g 19 rfl (gcons wsL_law_r19_g 6 rfl (gcons wsL_law_r19_g 7 rfl (gcons wsL_law_r24_g 11 rfl gnil))))))))))))))))))))))))
theorem gl_wsX10_decides_r3 : GoodIn lw_tbl wsX10_decides_r3 := by
  unfold wsX10_decides_r3
  exact (gcons wsL_law_r24_g 12 rfl (gcons wsL_law_r24_g 13 rfl (gcons wsL_law_r24_g 14 rfl (gcons wsL_law_r24_g 15 rfl (gcons wsL_law_r24_g 16 rfl (gcons wsL_law_r24_g 17 rfl (gcons wsL_law_r24_g 18 rfl (gcons wsL_law_r24_g 19 rfl (gcons wsL_law_r24_g 20 rfl (gcons wsL_law_r24_g 21 rfl (gcons wsL_law_r24_g 22 rfl gnil)))))))))))
theorem gl_wsX10_decides : GoodIn lw_tbl wsX10_decides := by
  unfold wsX10_decides
  exact (gcons wsL_law_r29_g 13 rfl (goodIn_app (goodIn_app gl_wsX10_decides_r1 (goodIn_app gl_wsX10_decides_r2 gl_wsX10_decides_r3)) wsX100_g))
theorem gl_wsX9_tells : GoodIn lw_tbl wsX9_tells := by
  unfold wsX9_tells
  exact (gcons wsL_law_r29_g 17 rfl (goodIn_app (gcons wsL_law_r9_g 9 rfl (gcons wsL_law_r2_g 19 rfl (gcons wsL_law_r17_g 3 rfl (gcons wsL_law_r17_g 4 rfl (gcons wsL_law_r1_g 2 rfl (gcons wsL_law_r17_g 5 rfl gnil)))))) wsX90_g))
theorem gl_wsX10_tells : GoodIn lw_tbl wsX10_tells := by
  unfold wsX10_tells
  exact (gcons wsL_law_r29_g 21 rfl (goodIn_app (gcons wsL_law_r8_g 15 rfl (gcons wsL_law_r7_g 16 rfl (gcons wsL_law_r6_g 22 rfl (gcons wsL_law_r7_g 22 rfl (gcons wsL_law_r7_g 23 rfl (gcons wsL_law_r1_g 5 rfl (gcons wsL_law_r8_g 0 rfl gnil))))))) wsX100_g))
theorem gl_wsX9_forget : GoodIn lw_tbl wsX9_forget := by
  unfold wsX9_forget
  exact (gcons wsL_law_r30_g 1 rfl (goodIn_app (gcons wsL_law_r9_g 9 rfl gnil) wsX90_g))
theorem gl_wsX10_forget : GoodIn lw_tbl wsX10_forget := by
  unfold wsX10_forget
  exact (gcons wsL_law_r30_g 5 rfl (goodIn_app (gcons wsL_law_r8_g 15 rfl (gcons wsL_law_r7_g 16 rfl gnil)) wsX100_g))
theorem gl_wsX9_leanings_r1 : GoodIn lw_tbl wsX9_leanings_r1 := by
  unfold wsX9_leanings_r1
  exact (gcons wsL_law_r2_g 11 rfl (gcons wsL_law_r2_g 9 rfl (gcons wsL_law_r9_g 7 rfl (gcons wsL_law_r17_g 10 rfl (gcons wsL_law_r17_g 11 rfl (gcons wsL_law_r17_g 12 rfl (gcons wsL_law_r1_g 2 rfl (gcons wsL_law_r17_g 13 rfl (gcons wsL_law_r1_g 23 rfl (gcons wsL_law_r17_g 2 rfl (gcons wsL_law_r29_g 5 rfl (gcons wsL_law_r29_g 6 rfl (gcons wsL_law_r29_g 7 rfl (gcons wsL_law_r2_g 7 rfl (gcons wsL_law_r29_g 8 rfl (gcons wsL_law_r5_g 5 rfl (gcons wsL_law_r29_g 9 rfl (gcons wsL_law_r12_g 22 rfl (gcons wsL_law_r12_g 23 rfl (gcons wsL_law_r13_g 0 rfl (gcons wsL_law_r5_g 3 rfl (gcons wsL_law_r5_g 4 rfl (gcons wsL_law_r18_g 13 rfl (gcons wsL_law_r30_g 10 rfl gnil))))))))))))))))))))))))
theorem gl_wsX9_leanings_r2 : GoodIn lw_tbl wsX9_leanings_r2 := by
  unfold wsX9_leanings_r2
  exact (gcons wsL_law_r30_g 11 rfl (gcons wsL_law_r30_g 12 rfl (gcons wsL_law_r30_g 13 rfl (gcons wsL_law_r9_g 9 rfl (gcons wsL_law_r2_g 19 rfl (gcons wsL_law_r17_g 14 rfl (gcons wsL_law_r17_g 15 rfl (gcons wsL_law_r17_g 16 rfl (gcons wsL_law_r17_g 17 rfl (gcons wsL_law_r18_g 5 rfl (gcons wsL_law_r18_g 6 rfl (gcons wsL_law_r18_g 7 rfl (gcons wsL_law_r18_g 8 rfl (gcons wsL_law_r18_g 9 rfl (gcons wsL_law_r18_g 10 rfl (gcons wsL_law_r18_g 11 rfl (gcons wsL_law_r18_g 12 rfl (gcons wsL_law_r13_g 10 rfl (gcons wsL_law_r13_g 11 rfl (gcons wsL_law_r13_g 12 rfl (gcons wsL_law_r13_g 13 rfl (gcons wsL_law_r18_g 14 rfl (gcons wsL_law_r18_g 15 rfl (gcons wsL_law_r18_g 16 rfl gnil))))))))))))))))))))))))
theorem gl_wsX9_leanings_r3 : GoodIn lw_tbl wsX9_leanings_r3 := by
  unfold wsX9_leanings_r3
  exact (gcons wsL_law_r18_g 17 rfl gnil)
theorem gl_wsX9_leanings : GoodIn lw_tbl wsX9_leanings := by
  unfold wsX9_leanings
  exact (gcons wsL_law_r30_g 9 rfl (goodIn_app (goodIn_app (goodIn_app (goodIn_app gl_wsX9_leanings_r1 (goodIn_app gl_wsX9_leanings_r2 gl_wsX9_leanings_r3)) wsX90_g) wsX20_g) wsX50_g))
theorem gl_wsX10_leanings_r1 : GoodIn lw_tbl wsX10_leanings_r1 := by
  unfold wsX10_leanings_r1
  exact (gcons wsL_law_r8_g 15 rfl (gcons wsL_law_r7_g 22 rfl (gcons wsL_law_r7_g 23 rfl (gcons wsL_law_r1_g 5 rfl (gcons wsL_law_r8_g 0 rfl (gcons wsL_law_r19_g 8 rfl (gcons wsL_law_r19_g 9 rfl (gcons wsL_law_r19_g 10 rfl (gcons wsL_law_r19_g 11 rfl (gcons wsL_law_r6_g 16 rfl (gcons wsL_law_r30_g 18 rfl (gcons wsL_law_r30_g 19 rfl (gcons wsL_law_r30_g 20 rfl (gcons wsL_law_r30_g 21 rfl (gcons wsL_law_r7_g 16 rfl (gcons wsL_law_r6_g 22 rfl (gcons wsL_law_r19_g 6 rfl (gcons wsL_law_r19_g 7 rfl (gcons wsL_law_r19_g 16 rfl (gcons wsL_law_r19_g 17 rfl (gcons wsL_law_r19_g 18 rfl (gcons wsL_law_r19_g 19 rfl (gcons wsL_law_r6_g 18 rfl (gcons wsL_law_r16_g 5 rfl gnil))))))))))))))))))))))))
theorem gl_wsX10_leanings_r2 : GoodIn lw_tbl wsX10_leanings_r2 := by
  unfold wsX10_leanings_r2
  exact (gcons wsL_law_r16_g 6 rfl (gcons wsL_law_r16_g 7 rfl (gcons wsL_law_r16_g 8 rfl (gcons wsL_law_r7_g 14 rfl (gcons wsL_law_r7_g 18 rfl (gcons wsL_law_r7_g 19 rfl (gcons wsL_law_r7_g 20 rfl (gcons wsL_law_r7_g 21 rfl gnil))))))))
theorem gl_wsX10_leanings : GoodIn lw_tbl wsX10_leanings := by
  unfold wsX10_leanings
  exact (gcons wsL_law_r30_g 17 rfl (goodIn_app (goodIn_app gl_wsX10_leanings_r1 gl_wsX10_leanings_r2) wsX100_g))
theorem gl_wsX9_rate_r1 : GoodIn lw_tbl wsX9_rate_r1 := by
  unfold wsX9_rate_r1
  exact (gcons wsL_law_r2_g 9 rfl (gcons wsL_law_r15_g 21 rfl (gcons wsL_law_r15_g 22 rfl (gcons wsL_law_r11_g 19 rfl (gcons wsL_law_r1_g 2 rfl (gcons wsL_law_r11_g 20 rfl (gcons wsL_law_r15_g 23 rfl (gcons wsL_law_r13_g 11 rfl (gcons wsL_law_r13_g 12 rfl (gcons wsL_law_r2_g 7 rfl (gcons wsL_law_r13_g 13 rfl (gcons wsL_law_r5_g 5 rfl (gcons wsL_law_r31_g 2 rfl (gcons wsL_law_r31_g 3 rfl (gcons wsL_law_r31_g 4 rfl (gcons wsL_law_r31_g 5 rfl (gcons wsL_law_r31_g 6 rfl (gcons wsL_law_r2_g 4 rfl (gcons wsL_law_r2_g 8 rfl (gcons wsL_law_r31_g 7 rfl (gcons wsL_law_r31_g 8 rfl (gcons wsL_law_r31_g 9 rfl (gcons wsL_law_r31_g 10 rfl (gcons wsL_law_r31_g 11 rfl gnil))))))))))))))))))))))))
theorem gl_wsX9_rate_r2 : GoodIn lw_tbl wsX9_rate_r2 := by
  unfold wsX9_rate_r2
  exact (gcons wsL_law_r31_g 12 rfl (gcons wsL_law_r31_g 13 rfl (gcons wsL_law_r31_g 14 rfl (gcons wsL_law_r31_g 15 rfl (gcons wsL_law_r31_g 16 rfl (gcons wsL_law_r16_g 14 rfl (gcons wsL_law_r31_g 17 rfl (gcons wsL_law_r31_g 18 rfl (gcons wsL_law_r31_g 19 rfl (gcons wsL_law_r31_g 20 rfl (gcons wsL_law_r31_g 21 rfl (gcons wsL_law_r31_g 22 rfl (gcons wsL_law_r31_g 23 rfl (gcons wsL_law_r32_g 0 rfl (gcons wsL_law_r32_g 1 rfl (gcons wsL_law_r32_g 2 rfl (gcons wsL_law_r32_g 3 rfl (gcons wsL_law_r32_g 4 rfl (gcons wsL_law_r32_g 5 rfl (gcons wsL_law_r32_g 6 rfl (gcons wsL_law_r32_g 7 rfl (gcons wsL_law_r32_g 8 rfl (gcons wsL_law_r32_g 9 rfl (gcons wsL_law_r32_g 10 rfl gnil))))))))))))))))))))))))
theorem gl_wsX9_rate_r3 : GoodIn lw_tbl wsX9_rate_r3 := by
  unfold wsX9_rate_r3
  exact (gcons wsL_law_r2_g 3 rfl (gcons wsL_law_r32_g 11 rfl (gcons wsL_law_r4_g 19 rfl gnil)))
theorem gl_wsX9_rate : GoodIn lw_tbl wsX9_rate := by
  unfold wsX9_rate
  exact (gcons wsL_law_r31_g 1 rfl (goodIn_app (goodIn_app (goodIn_app (goodIn_app gl_wsX9_rate_r1 (goodIn_app gl_wsX9_rate_r2 gl_wsX9_rate_r3)) wsX90_g) wsX20_g) wsX40_g))
theorem gl_wsX10_rate : GoodIn lw_tbl wsX10_rate := by
  unfold wsX10_rate
  exact (gcons wsL_law_r32_g 15 rfl (goodIn_app (gcons wsL_law_r8_g 15 rfl (gcons wsL_law_r16_g 4 rfl (gcons wsL_law_r6_g 18 rfl (gcons wsL_law_r32_g 16 rfl (gcons wsL_law_r32_g 17 rfl (gcons wsL_law_r32_g 18 rfl (gcons wsL_law_r32_g 19 rfl (gcons wsL_law_r32_g 20 rfl (gcons wsL_law_r32_g 21 rfl (gcons wsL_law_r7_g 22 rfl (gcons wsL_law_r7_g 23 rfl (gcons wsL_law_r1_g 5 rfl (gcons wsL_law_r8_g 0 rfl (gcons wsL_law_r16_g 5 rfl (gcons wsL_law_r16_g 6 rfl (gcons wsL_law_r16_g 7 rfl (gcons wsL_law_r16_g 8 rfl (gcons wsL_law_r7_g 14 rfl (gcons wsL_law_r7_g 18 rfl (gcons wsL_law_r7_g 19 rfl (gcons wsL_law_r7_g 20 rfl (gcons wsL_law_r7_g 21 rfl (gcons wsL_law_r6_g 16 rfl gnil))))))))))))))))))))))) wsX100_g))
theorem gl_wsX9_keep : GoodIn lw_tbl wsX9_keep := by
  unfold wsX9_keep
  exact (gcons wsL_law_r33_g 1 rfl (goodIn_app (goodIn_app (gcons wsL_law_r2_g 16 rfl (gcons wsL_law_r2_g 4 rfl (gcons wsL_law_r2_g 18 rfl (gcons wsL_law_r33_g 2 rfl (gcons wsL_law_r18_g 2 rfl (gcons wsL_law_r18_g 3 rfl (gcons wsL_law_r2_g 3 rfl (gcons wsL_law_r18_g 4 rfl (gcons wsL_law_r4_g 18 rfl (gcons wsL_law_r12_g 21 rfl (gcons wsL_law_r12_g 22 rfl (gcons wsL_law_r12_g 23 rfl (gcons wsL_law_r13_g 0 rfl (gcons wsL_law_r4_g 19 rfl (gcons wsL_law_r4_g 20 rfl (gcons wsL_law_r4_g 21 rfl (gcons wsL_law_r13_g 2 rfl (gcons wsL_law_r13_g 3 rfl (gcons wsL_law_r32_g 8 rfl (gcons wsL_law_r32_g 9 rfl (gcons wsL_law_r32_g 10 rfl (gcons wsL_law_r32_g 11 rfl gnil)))))))))))))))))))))) wsX90_g) wsX40_g))
theorem gl_wsX10_keep : GoodIn lw_tbl wsX10_keep := by
  unfold wsX10_keep
  exact (gcons wsL_law_r33_g 6 rfl (goodIn_app (gcons wsL_law_r8_g 15 rfl (gcons wsL_law_r6_g 19 rfl (gcons wsL_law_r6_g 18 rfl (gcons wsL_law_r6_g 20 rfl (gcons wsL_law_r7_g 22 rfl (gcons wsL_law_r7_g 23 rfl (gcons wsL_law_r1_g 5 rfl (gcons wsL_law_r8_g 0 rfl gnil)))))))) wsX100_g))
theorem gl_wsX9_back : GoodIn lw_tbl wsX9_back := by
  unfold wsX9_back
  exact (gcons wsL_law_r33_g 10 rfl (goodIn_app (goodIn_app (goodIn_app (gcons wsL_law_r2_g 18 rfl (gcons wsL_law_r2_g 4 rfl (gcons wsL_law_r2_g 16 rfl (gcons wsL_law_r2_g 15 rfl (gcons wsL_law_r9_g 8 rfl (gcons wsL_law_r33_g 2 rfl (gcons wsL_law_r18_g 2 rfl (gcons wsL_law_r18_g 3 rfl (gcons wsL_law_r2_g 3 rfl (gcons wsL_law_r18_g 4 rfl (gcons wsL_law_r4_g 18 rfl (gcons wsL_law_r12_g 21 rfl (gcons wsL_law_r12_g 22 rfl (gcons wsL_law_r12_g 23 rfl (gcons wsL_law_r13_g 0 rfl (gcons wsL_law_r4_g 19 rfl (gcons wsL_law_r4_g 20 rfl (gcons wsL_law_r4_g 21 rfl (gcons wsL_law_r13_g 2 rfl (gcons wsL_law_r13_g 3 rfl (gcons wsL_law_r32_g 8 rfl (gcons wsL_law_r32_g 9 rfl (gcons wsL_law_r32_g 10 rfl (gcons wsL_law_r32_g 11 rfl gnil)))))))))))))))))))))))) wsX90_g) wsX30_g) wsX40_g))
theorem gl_wsX10_back : GoodIn lw_tbl wsX10_back := by
  unfold wsX10_back
  exact (gcons wsL_law_r33_g 14 rfl (goodIn_app (gcons wsL_law_r8_g 15 rfl (gcons wsL_law_r6_g 20 rfl (gcons wsL_law_r6_g 18 rfl (gcons wsL_law_r6_g 19 rfl (gcons wsL_law_r7_g 17 rfl (gcons wsL_law_r7_g 22 rfl (gcons wsL_law_r7_g 23 rfl (gcons wsL_law_r1_g 5 rfl (gcons wsL_law_r8_g 0 rfl gnil))))))))) wsX100_g))
theorem gl_wsX9_count : GoodIn lw_tbl wsX9_count := by
  unfold wsX9_count
  exact (gcons wsL_law_r33_g 18 rfl (goodIn_app (goodIn_app (goodIn_app (gcons wsL_law_r1_g 23 rfl (gcons wsL_law_r33_g 19 rfl (gcons wsL_law_r33_g 20 rfl (gcons wsL_law_r17_g 2 rfl (gcons wsL_law_r9_g 4 rfl (gcons wsL_law_r9_g 6 rfl (gcons wsL_law_r9_g 9 rfl (gcons wsL_law_r1_g 15 rfl (gcons wsL_law_r8_g 5 rfl gnil))))))))) wsX90_g) wsX50_g) wsX70_g))
theorem gl_wsX10_count : GoodIn lw_tbl wsX10_count := by
  unfold wsX10_count
  exact (gcons wsL_law_r34_g 0 rfl (goodIn_app (gcons wsL_law_r8_g 15 rfl (gcons wsL_law_r6_g 16 rfl (gcons wsL_law_r7_g 16 rfl (gcons wsL_law_r7_g 15 rfl (gcons wsL_law_r7_g 22 rfl (gcons wsL_law_r7_g 23 rfl (gcons wsL_law_r1_g 5 rfl (gcons wsL_law_r8_g 0 rfl gnil)))))))) wsX100_g))
theorem gl_wsX9_trace : GoodIn lw_tbl wsX9_trace := by
  unfold wsX9_trace
  exact (gcons wsL_law_r34_g 4 rfl (goodIn_app (gcons wsL_law_r31_g 6 rfl gnil) wsX90_g))
theorem gl_wsX10_trace : GoodIn lw_tbl wsX10_trace := by
  unfold wsX10_trace
  exact (gcons wsL_law_r34_g 8 rfl (goodIn_app (gcons wsL_law_r8_g 15 rfl (gcons wsL_law_r32_g 16 rfl gnil)) wsX100_g))
theorem gv_X9_type : GoodIn lw_tbl (wsV RL 13 RX9 yX9_type wsX9_type) := by
  unfold wsV
  exact goodIn_app (gcons wsL_law_r8_g 1 rfl (gcons wsL_law_r8_g 2 rfl (gcons wsL_law_r8_g 3 rfl (gcons wsL_law_r1_g 2 rfl gnil)))) gl_wsX9_type
theorem gv_X10_type : GoodIn lw_tbl (wsV RL 17 RX10 yX10_type wsX10_type) := by
  unfold wsV
  exact goodIn_app (gcons wsL_law_r8_g 11 rfl (gcons wsL_law_r8_g 12 rfl (gcons wsL_law_r8_g 13 rfl (gcons wsL_law_r1_g 5 rfl gnil)))) gl_wsX10_type
theorem gv_X9_clear : GoodIn lw_tbl (wsV RL 18 RX9 yX9_clear wsX9_clear) := by
  unfold wsV
  exact goodIn_app (gcons wsL_law_r8_g 16 rfl (gcons wsL_law_r8_g 17 rfl (gcons wsL_law_r8_g 18 rfl (gcons wsL_law_r1_g 2 rfl gnil)))) gl_wsX9_clear
theorem gv_X10_clear : GoodIn lw_tbl (wsV RL 22 RX10 yX10_clear wsX10_clear) := by
  unfold wsV
  exact goodIn_app (gcons wsL_law_r8_g 20 rfl (gcons wsL_law_r8_g 21 rfl (gcons wsL_law_r8_g 22 rfl (gcons wsL_law_r1_g 5 rfl gnil)))) gl_wsX10_clear
theorem gv_X9_yard : GoodIn lw_tbl (wsV RL 23 RX9 yX9_yard wsX9_yard) := by
  unfold wsV
  exact goodIn_app (gcons wsL_law_r9_g 0 rfl (gcons wsL_law_r9_g 1 rfl (gcons wsL_law_r9_g 2 rfl (gcons wsL_law_r1_g 2 rfl gnil)))) gl_wsX9_yard
theorem gv_X10_yard : GoodIn lw_tbl (wsV RL 26 RX10 yX10_yard wsX10_yard) := by
  unfold wsV
  exact goodIn_app (gcons wsL_law_r13_g 14 rfl (gcons wsL_law_r13_g 15 rfl (gcons wsL_law_r13_g 16 rfl (gcons wsL_law_r1_g 5 rfl gnil)))) gl_wsX10_yard
theorem gv_X9_tilt : GoodIn lw_tbl (wsV RL 27 RX9 yX9_tilt wsX9_tilt) := by
  unfold wsV
  exact goodIn_app (gcons wsL_law_r15_g 17 rfl (gcons wsL_law_r15_g 18 rfl (gcons wsL_law_r15_g 19 rfl (gcons wsL_law_r1_g 2 rfl gnil)))) gl_wsX9_tilt
theorem gv_X10_tilt : GoodIn lw_tbl (wsV RL 31 RX10 yX10_tilt wsX10_tilt) := by
  unfold wsV
  exact goodIn_app (gcons wsL_law_r16_g 0 rfl (gcons wsL_law_r16_g 1 rfl (gcons wsL_law_r16_g 2 rfl (gcons wsL_law_r1_g 5 rfl gnil)))) gl_wsX10_tilt
theorem gv_X9_now : GoodIn lw_tbl (wsV RL 32 RX9 yX9_now wsX9_now) := by
  unfold wsV
  exact goodIn_app (gcons wsL_law_r16_g 9 rfl (gcons wsL_law_r16_g 10 rfl (gcons wsL_law_r16_g 11 rfl (gcons wsL_law_r1_g 2 rfl gnil)))) gl_wsX9_now
theorem gv_X10_now : GoodIn lw_tbl (wsV RL 35 RX10 yX10_now wsX10_now) := by
  unfold wsV
  exact goodIn_app (gcons wsL_law_r16_g 18 rfl (gcons wsL_law_r16_g 19 rfl (gcons wsL_law_r16_g 20 rfl (gcons wsL_law_r1_g 5 rfl gnil)))) gl_wsX10_now
theorem gv_X9_pushes : GoodIn lw_tbl (wsV RL 36 RX9 yX9_pushes wsX9_pushes) := by
  unfold wsV
  exact goodIn_app (gcons wsL_law_r16_g 22 rfl (gcons wsL_law_r16_g 23 rfl (gcons wsL_law_r17_g 0 rfl (gcons wsL_law_r1_g 2 rfl gnil)))) gl_wsX9_pushes
theorem gv_X10_pushes : GoodIn lw_tbl (wsV RL 39 RX10 yX10_pushes wsX10_pushes) := by
  unfold wsV
  exact goodIn_app (gcons wsL_law_r19_g 2 rfl (gcons wsL_law_r19_g 3 rfl (gcons wsL_law_r19_g 4 rfl (gcons wsL_law_r1_g 5 rfl gnil)))) gl_wsX10_pushes
theorem gv_X9_objects : GoodIn lw_tbl (wsV RL 40 RX9 yX9_objects wsX9_objects) := by
  unfold wsV
  exact goodIn_app (gcons wsL_law_r20_g 0 rfl (gcons wsL_law_r20_g 1 rfl (gcons wsL_law_r20_g 2 rfl (gcons wsL_law_r1_g 2 rfl gnil)))) gl_wsX9_objects
theorem gv_X10_objects : GoodIn lw_tbl (wsV RL 43 RX10 yX10_objects wsX10_objects) := by
  unfold wsV
  exact goodIn_app (gcons wsL_law_r20_g 4 rfl (gcons wsL_law_r20_g 5 rfl (gcons wsL_law_r20_g 6 rfl (gcons wsL_law_r1_g 5 rfl gnil)))) gl_wsX10_objects
theorem gv_X9_evens : GoodIn lw_tbl (wsV RL 44 RX9 yX9_evens wsX9_evens) := by
  unfold wsV
  exact goodIn_app (gcons wsL_law_r20_g 8 rfl (gcons wsL_law_r20_g 9 rfl (gcons wsL_law_r20_g 10 rfl (gcons wsL_law_r1_g 2 rfl gnil)))) gl_wsX9_evens
theorem gv_X10_evens : GoodIn lw_tbl (wsV RL 48 RX10 yX10_evens wsX10_evens) := by
  unfold wsV
  exact goodIn_app (gcons wsL_law_r20_g 12 rfl (gcons wsL_law_r20_g 13 rfl (gcons wsL_law_r20_g 14 rfl (gcons wsL_law_r1_g 5 rfl gnil)))) gl_wsX10_evens
theorem gv_X9_undo : GoodIn lw_tbl (wsV RL 49 RX9 yX9_undo wsX9_undo) := by
  unfold wsV
  exact goodIn_app (gcons wsL_law_r20_g 16 rfl (gcons wsL_law_r20_g 17 rfl (gcons wsL_law_r20_g 18 rfl (gcons wsL_law_r1_g 2 rfl gnil)))) gl_wsX9_undo
theorem gv_X10_undo : GoodIn lw_tbl (wsV RL 52 RX10 yX10_undo wsX10_undo) := by
  unfold wsV
  exact goodIn_app (gcons wsL_law_r21_g 0 rfl (gcons wsL_law_r21_g 1 rfl (gcons wsL_law_r21_g 2 rfl (gcons wsL_law_r1_g 5 rfl gnil)))) gl_wsX10_undo
theorem gv_X9_would : GoodIn lw_tbl (wsV RL 53 RX9 yX9_would wsX9_would) := by
  unfold wsV
  exact goodIn_app (gcons wsL_law_r21_g 4 rfl (gcons wsL_law_r21_g 5 rfl (gcons wsL_law_r21_g 6 rfl (gcons wsL_law_r1_g 2 rfl gnil)))) gl_wsX9_would
theorem gv_X10_would : GoodIn lw_tbl (wsV RL 56 RX10 yX10_would wsX10_would) := by
  unfold wsV
  exact goodIn_app (gcons wsL_law_r21_g 8 rfl (gcons wsL_law_r21_g 9 rfl (gcons wsL_law_r21_g 10 rfl (gcons wsL_law_r1_g 5 rfl gnil)))) gl_wsX10_would
theorem gv_X9_game : GoodIn lw_tbl (wsV RL 57 RX9 yX9_game wsX9_game) := by
  unfold wsV
  exact goodIn_app (gcons wsL_law_r21_g 12 rfl (gcons wsL_law_r21_g 13 rfl (gcons wsL_law_r21_g 14 rfl (gcons wsL_law_r1_g 2 rfl gnil)))) gl_wsX9_game
theorem gv_X10_game : GoodIn lw_tbl (wsV RL 60 RX10 yX10_game wsX10_game) := by
  unfold wsV
  exact goodIn_app (gcons wsL_law_r23_g 16 rfl (gcons wsL_law_r23_g 17 rfl (gcons wsL_law_r23_g 18 rfl (gcons wsL_law_r1_g 5 rfl gnil)))) gl_wsX10_game
theorem gv_X9_advice : GoodIn lw_tbl (wsV RL 61 RX9 yX9_advice wsX9_advice) := by
  unfold wsV
  exact goodIn_app (gcons wsL_law_r24_g 23 rfl (gcons wsL_law_r25_g 0 rfl (gcons wsL_law_r25_g 1 rfl (gcons wsL_law_r1_g 2 rfl gnil)))) gl_wsX9_advice
theorem gv_X10_advice : GoodIn lw_tbl (wsV RL 64 RX10 yX10_advice wsX10_advice) := by
  unfold wsV
  exact goodIn_app (gcons wsL_law_r25_g 7 rfl (gcons wsL_law_r25_g 8 rfl (gcons wsL_law_r25_g 9 rfl (gcons wsL_law_r1_g 5 rfl gnil)))) gl_wsX10_advice
theorem gv_X9_soonest : GoodIn lw_tbl (wsV RL 65 RX9 yX9_soonest wsX9_soonest) := by
  unfold wsV
  exact goodIn_app (gcons wsL_law_r25_g 11 rfl (gcons wsL_law_r25_g 12 rfl (gcons wsL_law_r25_g 13 rfl (gcons wsL_law_r1_g 2 rfl gnil)))) gl_wsX9_soonest
theorem gv_X10_soonest : GoodIn lw_tbl (wsV RL 68 RX10 yX10_soonest wsX10_soonest) := by
  unfold wsV
  exact goodIn_app (gcons wsL_law_r26_g 19 rfl (gcons wsL_law_r26_g 20 rfl (gcons wsL_law_r26_g 21 rfl (gcons wsL_law_r1_g 5 rfl gnil)))) gl_wsX10_soonest
theorem gv_X9_odds : GoodIn lw_tbl (wsV RL 69 RX9 yX9_odds wsX9_odds) := by
  unfold wsV
  exact goodIn_app (gcons wsL_law_r27_g 3 rfl (gcons wsL_law_r27_g 4 rfl (gcons wsL_law_r27_g 5 rfl (gcons wsL_law_r1_g 2 rfl gnil)))) gl_wsX9_odds
theorem gv_X10_odds : GoodIn lw_tbl (wsV RL 72 RX10 yX10_odds wsX10_odds) := by
  unfold wsV
  exact goodIn_app (gcons wsL_law_r28_g 13 rfl (gcons wsL_law_r28_g 14 rfl (gcons wsL_law_r28_g 15 rfl (gcons wsL_law_r1_g 5 rfl gnil)))) gl_wsX10_odds
theorem gv_X9_decides : GoodIn lw_tbl (wsV RL 73 RX9 yX9_decides wsX9_decides) := by
  unfold wsV
  exact goodIn_app (gcons wsL_law_r29_g 0 rfl (gcons wsL_law_r29_g 1 rfl (gcons wsL_law_r29_g 2 rfl (gcons wsL_law_r1_g 2 rfl gnil)))) gl_wsX9_decides
theorem gv_X10_decides : GoodIn lw_tbl (wsV RL 76 RX10 yX10_decides wsX10_decides) := by
  unfold wsV
  exact goodIn_app (gcons wsL_law_r29_g 10 rfl (gcons wsL_law_r29_g 11 rfl (gcons wsL_law_r29_g 12 rfl (gcons wsL_law_r1_g 5 rfl gnil)))) gl_wsX10_decides
theorem gv_X9_tells : GoodIn lw_tbl (wsV RL 77 RX9 yX9_tells wsX9_tells) := by
  unfold wsV
  exact goodIn_app (gcons wsL_law_r29_g 14 rfl (gcons wsL_law_r29_g 15 rfl (gcons wsL_law_r29_g 16 rfl (gcons wsL_law_r1_g 2 rfl gnil)))) gl_wsX9_tells
theorem gv_X10_tells : GoodIn lw_tbl (wsV RL 80 RX10 yX10_tells wsX10_tells) := by
  unfold wsV
  exact goodIn_app (gcons wsL_law_r29_g 18 rfl (gcons wsL_law_r29_g 19 rfl (gcons wsL_law_r29_g 20 rfl (gcons wsL_law_r1_g 5 rfl gnil)))) gl_wsX10_tells
theorem gv_X9_forget : GoodIn lw_tbl (wsV RL 81 RX9 yX9_forget wsX9_forget) := by
  unfold wsV
  exact goodIn_app (gcons wsL_law_r29_g 22 rfl (gcons wsL_law_r29_g 23 rfl (gcons wsL_law_r30_g 0 rfl (gcons wsL_law_r1_g 2 rfl gnil)))) gl_wsX9_forget
theorem gv_X10_forget : GoodIn lw_tbl (wsV RL 84 RX10 yX10_forget wsX10_forget) := by
  unfold wsV
  exact goodIn_app (gcons wsL_law_r30_g 2 rfl (gcons wsL_law_r30_g 3 rfl (gcons wsL_law_r30_g 4 rfl (gcons wsL_law_r1_g 5 rfl gnil)))) gl_wsX10_forget
theorem gv_X9_leanings : GoodIn lw_tbl (wsV RL 85 RX9 yX9_leanings wsX9_leanings) := by
  unfold wsV
  exact goodIn_app (gcons wsL_law_r30_g 6 rfl (gcons wsL_law_r30_g 7 rfl (gcons wsL_law_r30_g 8 rfl (gcons wsL_law_r1_g 2 rfl gnil)))) gl_wsX9_leanings
theorem gv_X10_leanings : GoodIn lw_tbl (wsV RL 88 RX10 yX10_leanings wsX10_leanings) := by
  unfold wsV
  exact goodIn_app (gcons wsL_law_r30_g 14 rfl (gcons wsL_law_r30_g 15 rfl (gcons wsL_law_r30_g 16 rfl (gcons wsL_law_r1_g 5 rfl gnil)))) gl_wsX10_leanings
theorem gv_X9_rate : GoodIn lw_tbl (wsV RL 89 RX9 yX9_rate wsX9_rate) := by
  unfold wsV
  exact goodIn_app (gcons wsL_law_r30_g 22 rfl (gcons wsL_law_r30_g 23 rfl (gcons wsL_law_r31_g 0 rfl (gcons wsL_law_r1_g 2 rfl gnil)))) gl_wsX9_rate
theorem gv_X10_rate : GoodIn lw_tbl (wsV RL 92 RX10 yX10_rate wsX10_rate) := by
  unfold wsV
  exact goodIn_app (gcons wsL_law_r32_g 12 rfl (gcons wsL_law_r32_g 13 rfl (gcons wsL_law_r32_g 14 rfl (gcons wsL_law_r1_g 5 rfl gnil)))) gl_wsX10_rate
theorem gv_X9_keep : GoodIn lw_tbl (wsV RL 93 RX9 yX9_keep wsX9_keep) := by
  unfold wsV
  exact goodIn_app (gcons wsL_law_r32_g 22 rfl (gcons wsL_law_r32_g 23 rfl (gcons wsL_law_r33_g 0 rfl (gcons wsL_law_r1_g 2 rfl gnil)))) gl_wsX9_keep
theorem gv_X10_keep : GoodIn lw_tbl (wsV RL 96 RX10 yX10_keep wsX10_keep) := by
  unfold wsV
  exact goodIn_app (gcons wsL_law_r33_g 3 rfl (gcons wsL_law_r33_g 4 rfl (gcons wsL_law_r33_g 5 rfl (gcons wsL_law_r1_g 5 rfl gnil)))) gl_wsX10_keep
theorem gv_X9_back : GoodIn lw_tbl (wsV RL 97 RX9 yX9_back wsX9_back) := by
  unfold wsV
  exact goodIn_app (gcons wsL_law_r33_g 7 rfl (gcons wsL_law_r33_g 8 rfl (gcons wsL_law_r33_g 9 rfl (gcons wsL_law_r1_g 2 rfl gnil)))) gl_wsX9_back
theorem gv_X10_back : GoodIn lw_tbl (wsV RL 100 RX10 yX10_back wsX10_back) := by
  unfold wsV
  exact goodIn_app (gcons wsL_law_r33_g 11 rfl (gcons wsL_law_r33_g 12 rfl (gcons wsL_law_r33_g 13 rfl (gcons wsL_law_r1_g 5 rfl gnil)))) gl_wsX10_back
theorem gv_X9_count : GoodIn lw_tbl (wsV RL 101 RX9 yX9_count wsX9_count) := by
  unfold wsV
  exact goodIn_app (gcons wsL_law_r33_g 15 rfl (gcons wsL_law_r33_g 16 rfl (gcons wsL_law_r33_g 17 rfl (gcons wsL_law_r1_g 2 rfl gnil)))) gl_wsX9_count
theorem gv_X10_count : GoodIn lw_tbl (wsV RL 104 RX10 yX10_count wsX10_count) := by
  unfold wsV
  exact goodIn_app (gcons wsL_law_r33_g 21 rfl (gcons wsL_law_r33_g 22 rfl (gcons wsL_law_r33_g 23 rfl (gcons wsL_law_r1_g 5 rfl gnil)))) gl_wsX10_count
theorem gv_X9_trace : GoodIn lw_tbl (wsV RL 105 RX9 yX9_trace wsX9_trace) := by
  unfold wsV
  exact goodIn_app (gcons wsL_law_r34_g 1 rfl (gcons wsL_law_r34_g 2 rfl (gcons wsL_law_r34_g 3 rfl (gcons wsL_law_r1_g 2 rfl gnil)))) gl_wsX9_trace
theorem gv_X10_trace : GoodIn lw_tbl (wsV RL 109 RX10 yX10_trace wsX10_trace) := by
  unfold wsV
  exact goodIn_app (gcons wsL_law_r34_g 5 rfl (gcons wsL_law_r34_g 6 rfl (gcons wsL_law_r34_g 7 rfl (gcons wsL_law_r1_g 5 rfl gnil)))) gl_wsX10_trace
