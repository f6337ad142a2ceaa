theorem dX9_back_4 : decode cX9_back 4 = .ok (.iload_n 1, 1) := by decide +kernel
theorem dX9_back_5 : decode cX9_back 5 = .ok (.iconst 2, 1) := by decide +kernel
theorem dX9_back_6 : decode cX9_back 6 = .ok (.if_icmp .lt 5, 3) := by decide +kernel
theorem dX9_back_9 : decode cX9_back 9 = .ok (.iconst (-1), 1) := by decide +kernel
theorem dX9_back_10 : decode cX9_back 10 = .ok (.ireturn, 1) := by decide +kernel
theorem dX9_back_11 : decode cX9_back 11 = .ok (.aload_n 0, 1) := by decide +kernel
theorem dX9_back_12 : decode cX9_back 12 = .ok (.getfield 69, 3) := by decide +kernel
theorem dX9_back_15 : decode cX9_back 15 = .ok (.iload_n 1, 1) := by decide +kernel
theorem dX9_back_16 : decode cX9_back 16 = .ok (.baload, 1) := by decide +kernel
theorem dX9_back_17 : decode cX9_back 17 = .ok (.ifCond .ne 6, 3) := by decide +kernel
theorem dX9_back_20 : decode cX9_back 20 = .ok (.bipush (-2), 2) := by decide +kernel
theorem dX9_back_22 : decode cX9_back 22 = .ok (.ireturn, 1) := by decide +kernel
theorem dX9_back_23 : decode cX9_back 23 = .ok (.aload_n 0, 1) := by decide +kernel
theorem dX9_back_24 : decode cX9_back 24 = .ok (.getfield 38, 3) := by decide +kernel
theorem dX9_back_27 : decode cX9_back 27 = .ok (.aload_n 0, 1) := by decide +kernel
theorem dX9_back_28 : decode cX9_back 28 = .ok (.getfield 65, 3) := by decide +kernel
theorem dX9_back_31 : decode cX9_back 31 = .ok (.iload_n 1, 1) := by decide +kernel
theorem dX9_back_32 : decode cX9_back 32 = .ok (.aaload, 1) := by decide +kernel
theorem dX9_back_33 : decode cX9_back 33 = .ok (.invokevirtual 247, 3) := by decide +kernel
theorem dX9_back_36 : decode cX9_back 36 = .ok (.aload_n 0, 1) := by decide +kernel
theorem dX9_back_37 : decode cX9_back 37 = .ok (.getfield 61, 3) := by decide +kernel
theorem dX9_back_40 : decode cX9_back 40 = .ok (.iconst 0, 1) := by decide +kernel
theorem dX9_back_41 : decode cX9_back 41 = .ok (.putfield 124, 3) := by decide +kernel
theorem dX9_back_44 : decode cX9_back 44 = .ok (.aload_n 0, 1) := by decide +kernel
theorem dX9_back_45 : decode cX9_back 45 = .ok (.getfield 38, 3) := by decide +kernel
theorem dX9_back_48 : decode cX9_back 48 = .ok (.invokevirtual 249, 3) := by decide +kernel
theorem dX9_back_51 : decode cX9_back 51 = .ok (.ireturn, 1) := by decide +kernel
theorem dX9_count_0 : decode cX9_count 0 = .ok (.iload_n 1, 1) := by decide +kernel
theorem dX9_count_1 : decode cX9_count 1 = .ok (.tableswitch 98 0 6 #[43, 51, 59, 67, 75, 85, 90], 43) := by decide +kernel
theorem dX9_count_44 : decode cX9_count 44 = .ok (.aload_n 0, 1) := by decide +kernel
theorem dX9_count_45 : decode cX9_count 45 = .ok (.getfield 28, 3) := by decide +kernel
theorem dX9_count_48 : decode cX9_count 48 = .ok (.getfield 253, 3) := by decide +kernel
theorem dX9_count_51 : decode cX9_count 51 = .ok (.ireturn, 1) := by decide +kernel
theorem dX9_count_52 : decode cX9_count 52 = .ok (.aload_n 0, 1) := by decide +kernel
theorem dX9_count_53 : decode cX9_count 53 = .ok (.getfield 28, 3) := by decide +kernel
theorem dX9_count_56 : decode cX9_count 56 = .ok (.getfield 256, 3) := by decide +kernel
theorem dX9_count_59 : decode cX9_count 59 = .ok (.ireturn, 1) := by decide +kernel
theorem dX9_count_60 : decode cX9_count 60 = .ok (.aload_n 0, 1) := by decide +kernel
theorem dX9_count_61 : decode cX9_count 61 = .ok (.getfield 28, 3) := by decide +kernel
theorem dX9_count_64 : decode cX9_count 64 = .ok (.getfield 153, 3) := by decide +kernel
theorem dX9_count_67 : decode cX9_count 67 = .ok (.ireturn, 1) := by decide +kernel
theorem dX9_count_68 : decode cX9_count 68 = .ok (.aload_n 0, 1) := by decide +kernel
theorem dX9_count_69 : decode cX9_count 69 = .ok (.getfield 28, 3) := by decide +kernel
theorem dX9_count_72 : decode cX9_count 72 = .ok (.getfield 109, 3) := by decide +kernel
theorem dX9_count_75 : decode cX9_count 75 = .ok (.ireturn, 1) := by decide +kernel
theorem dX9_count_76 : decode cX9_count 76 = .ok (.aload_n 0, 1) := by decide +kernel
theorem dX9_count_77 : decode cX9_count 77 = .ok (.getfield 28, 3) := by decide +kernel
theorem dX9_count_80 : decode cX9_count 80 = .ok (.getfield 113, 3) := by decide +kernel
theorem dX9_count_83 : decode cX9_count 83 = .ok (.iconst 2, 1) := by decide +kernel
theorem dX9_count_84 : decode cX9_count 84 = .ok (.iadd, 1) := by decide +kernel
theorem dX9_count_85 : decode cX9_count 85 = .ok (.ireturn, 1) := by decide +kernel
theorem dX9_count_86 : decode cX9_count 86 = .ok (.aload_n 0, 1) := by decide +kernel
theorem dX9_count_87 : decode cX9_count 87 = .ok (.getfield 127, 3) := by decide +kernel
theorem dX9_count_90 : decode cX9_count 90 = .ok (.ireturn, 1) := by decide +kernel
theorem dX9_count_91 : decode cX9_count 91 = .ok (.aload_n 0, 1) := by decide +kernel
theorem dX9_count_92 : decode cX9_count 92 = .ok (.getfield 12, 3) := by decide +kernel
theorem dX9_count_95 : decode cX9_count 95 = .ok (.getfield 101, 3) := by decide +kernel
theorem dX9_count_98 : decode cX9_count 98 = .ok (.ireturn, 1) := by decide +kernel
theorem dX9_count_99 : decode cX9_count 99 = .ok (.iconst (-1), 1) := by decide +kernel
theorem dX9_count_100 : decode cX9_count 100 = .ok (.ireturn, 1) := by decide +kernel
theorem dX9_trace_0 : decode cX9_trace 0 = .ok (.aload_n 0, 1) := by decide +kernel
theorem dX9_trace_1 : decode cX9_trace 1 = .ok (.getfield 259, 3) := by decide +kernel
theorem dX9_trace_4 : decode cX9_trace 4 = .ok (.lreturn, 1) := by decide +kernel
theorem dX9_rateCell_0 : decode cX9_rateCell 0 = .ok (.aload_n 0, 1) := by decide +kernel
theorem dX9_rateCell_1 : decode cX9_rateCell 1 = .ok (.dup, 1) := by decide +kernel
theorem dX9_rateCell_2 : decode cX9_rateCell 2 = .ok (.getfield 259, 3) := by decide +kernel
theorem dX9_rateCell_5 : decode cX9_rateCell 5 = .ok (.lconst 1, 1) := by decide +kernel
theorem dX9_rateCell_6 : decode cX9_rateCell 6 = .ok (.ladd, 1) := by decide +kernel
theorem dX9_rateCell_7 : decode cX9_rateCell 7 = .ok (.putfield 259, 3) := by decide +kernel
theorem dX9_rateCell_10 : decode cX9_rateCell 10 = .ok (.aload_n 0, 1) := by decide +kernel
theorem dX9_rateCell_11 : decode cX9_rateCell 11 = .ok (.getfield 38, 3) := by decide +kernel
theorem dX9_rateCell_14 : decode cX9_rateCell 14 = .ok (.getfield 44, 3) := by decide +kernel
theorem dX9_rateCell_17 : decode cX9_rateCell 17 = .ok (.iload_n 1, 1) := by decide +kernel
theorem dX9_rateCell_18 : decode cX9_rateCell 18 = .ok (.iaload, 1) := by decide +kernel
theorem dX9_rateCell_19 : decode cX9_rateCell 19 = .ok (.ireturn, 1) := by decide +kernel
theorem dX9_rateRut_0 : decode cX9_rateRut 0 = .ok (.aload_n 0, 1) := by decide +kernel
theorem dX9_rateRut_1 : decode cX9_rateRut 1 = .ok (.dup, 1) := by decide +kernel
theorem dX9_rateRut_2 : decode cX9_rateRut 2 = .ok (.getfield 259, 3) := by decide +kernel
theorem dX9_rateRut_5 : decode cX9_rateRut 5 = .ok (.ldc2_w 263, 3) := by decide +kernel
theorem dX9_rateRut_8 : decode cX9_rateRut 8 = .ok (.ladd, 1) := by decide +kernel
theorem dX9_rateRut_9 : decode cX9_rateRut 9 = .ok (.putfield 259, 3) := by decide +kernel
theorem dX9_rateRut_12 : decode cX9_rateRut 12 = .ok (.aload_n 0, 1) := by decide +kernel
theorem dX9_rateRut_13 : decode cX9_rateRut 13 = .ok (.iload_n 1, 1) := by decide +kernel
theorem dX9_rateRut_14 : decode cX9_rateRut 14 = .ok (.invokevirtual 229, 3) := by decide +kernel
theorem dX9_rateRut_17 : decode cX9_rateRut 17 = .ok (.iload_n 1, 1) := by decide +kernel
theorem dX9_rateRut_18 : decode cX9_rateRut 18 = .ok (.iconst 5, 1) := by decide +kernel
theorem dX9_rateRut_19 : decode cX9_rateRut 19 = .ok (.irem, 1) := by decide +kernel
theorem dX9_rateRut_20 : decode cX9_rateRut 20 = .ok (.iadd, 1) := by decide +kernel
theorem dX9_rateRut_21 : decode cX9_rateRut 21 = .ok (.ireturn, 1) := by decide +kernel
theorem dX9_ratePuddle_0 : decode cX9_ratePuddle 0 = .ok (.aload_n 0, 1) := by decide +kernel
theorem dX9_ratePuddle_1 : decode cX9_ratePuddle 1 = .ok (.dup, 1) := by decide +kernel
theorem dX9_ratePuddle_2 : decode cX9_ratePuddle 2 = .ok (.getfield 259, 3) := by decide +kernel
theorem dX9_ratePuddle_5 : decode cX9_ratePuddle 5 = .ok (.ldc2_w 265, 3) := by decide +kernel
theorem dX9_ratePuddle_8 : decode cX9_ratePuddle 8 = .ok (.ladd, 1) := by decide +kernel
theorem dX9_ratePuddle_9 : decode cX9_ratePuddle 9 = .ok (.putfield 259, 3) := by decide +kernel
theorem dX9_ratePuddle_12 : decode cX9_ratePuddle 12 = .ok (.aload_n 0, 1) := by decide +kernel
theorem dX9_ratePuddle_13 : decode cX9_ratePuddle 13 = .ok (.iload_n 1, 1) := by decide +kernel
theorem dX9_ratePuddle_14 : decode cX9_ratePuddle 14 = .ok (.invokevirtual 229, 3) := by decide +kernel
theorem dX9_ratePuddle_17 : decode cX9_ratePuddle 17 = .ok (.aload_n 0, 1) := by decide +kernel
theorem dX9_ratePuddle_18 : decode cX9_ratePuddle 18 = .ok (.getfield 38, 3) := by decide +kernel
theorem dX9_ratePuddle_21 : decode cX9_ratePuddle 21 = .ok (.getfield 141, 3) := by decide +kernel
theorem dX9_ratePuddle_24 : decode cX9_ratePuddle 24 = .ok (.isub, 1) := by decide +kernel
theorem dX9_ratePuddle_25 : decode cX9_ratePuddle 25 = .ok (.ireturn, 1) := by decide +kernel
theorem dX9_ratePlank_0 : decode cX9_ratePlank 0 = .ok (.aload_n 0, 1) := by decide +kernel
theorem dX9_ratePlank_1 : decode cX9_ratePlank 1 = .ok (.dup, 1) := by decide +kernel
theorem dX9_ratePlank_2 : decode cX9_ratePlank 2 = .ok (.getfield 259, 3) := by decide +kernel
theorem dX9_ratePlank_5 : decode cX9_ratePlank 5 = .ok (.ldc2_w 267, 3) := by decide +kernel
theorem dX9_ratePlank_8 : decode cX9_ratePlank 8 = .ok (.ladd, 1) := by decide +kernel
theorem dX9_ratePlank_9 : decode cX9_ratePlank 9 = .ok (.putfield 259, 3) := by decide +kernel
theorem dX9_ratePlank_12 : decode cX9_ratePlank 12 = .ok (.iconst 2, 1) := by decide +kernel
theorem dX9_ratePlank_13 : decode cX9_ratePlank 13 = .ok (.aload_n 0, 1) := by decide +kernel
theorem dX9_ratePlank_14 : decode cX9_ratePlank 14 = .ok (.iload_n 1, 1) := by decide +kernel
theorem dX9_ratePlank_15 : decode cX9_ratePlank 15 = .ok (.invokevirtual 232, 3) := by decide +kernel
theorem dX9_ratePlank_18 : decode cX9_ratePlank 18 = .ok (.imul, 1) := by decide +kernel
theorem dX9_ratePlank_19 : decode cX9_ratePlank 19 = .ok (.ireturn, 1) := by decide +kernel
theorem dX9_rateBean_0 : decode cX9_rateBean 0 = .ok (.aload_n 0, 1) := by decide +kernel
theorem dX9_rateBean_1 : decode cX9_rateBean 1 = .ok (.dup, 1) := by decide +kernel
theorem dX9_rateBean_2 : decode cX9_rateBean 2 = .ok (.getfield 259, 3) := by decide +kernel
theorem dX9_rateBean_5 : decode cX9_rateBean 5 = .ok (.ldc2_w 269, 3) := by decide +kernel
theorem dX9_rateBean_8 : decode cX9_rateBean 8 = .ok (.ladd, 1) := by decide +kernel
theorem dX9_rateBean_9 : decode cX9_rateBean 9 = .ok (.putfield 259, 3) := by decide +kernel
theorem dX9_rateBean_12 : decode cX9_rateBean 12 = .ok (.aload_n 0, 1) := by decide +kernel
theorem dX9_rateBean_13 : decode cX9_rateBean 13 = .ok (.iload_n 1, 1) := by decide +kernel
theorem dX9_rateBean_14 : decode cX9_rateBean 14 = .ok (.invokevirtual 235, 3) := by decide +kernel
theorem dX9_rateBean_17 : decode cX9_rateBean 17 = .ok (.iload_n 1, 1) := by decide +kernel
theorem dX9_rateBean_18 : decode cX9_rateBean 18 = .ok (.iconst 5, 1) := by decide +kernel
theorem dX9_rateBean_19 : decode cX9_rateBean 19 = .ok (.idiv, 1) := by decide +kernel
theorem dX9_rateBean_20 : decode cX9_rateBean 20 = .ok (.iadd, 1) := by decide +kernel
theorem dX9_rateBean_21 : decode cX9_rateBean 21 = .ok (.ireturn, 1) := by decide +kernel
theorem dX9_rateQuarry_0 : decode cX9_rateQuarry 0 = .ok (.aload_n 0, 1) := by decide +kernel
theorem dX9_rateQuarry_1 : decode cX9_rateQuarry 1 = .ok (.dup, 1) := by decide +kernel
theorem dX9_rateQuarry_2 : decode cX9_rateQuarry 2 = .ok (.getfield 259, 3) := by decide +kernel
theorem dX9_rateQuarry_5 : decode cX9_rateQuarry 5 = .ok (.ldc2_w 271, 3) := by decide +kernel
theorem dX9_rateQuarry_8 : decode cX9_rateQuarry 8 = .ok (.ladd, 1) := by decide +kernel
theorem dX9_rateQuarry_9 : decode cX9_rateQuarry 9 = .ok (.putfield 259, 3) := by decide +kernel
theorem dX9_rateQuarry_12 : decode cX9_rateQuarry 12 = .ok (.aload_n 0, 1) := by decide +kernel
theorem dX9_rateQuarry_13 : decode cX9_rateQuarry 13 = .ok (.iload_n 1, 1) := by decide +kernel
theorem dX9_rateQuarry_14 : decode cX9_rateQuarry 14 = .ok (.invokevirtual 229, 3) := by decide +kernel
theorem dX9_rateQuarry_17 : decode cX9_rateQuarry 17 = .ok (.aload_n 0, 1) := by decide +kernel
theorem dX9_rateQuarry_18 : decode cX9_rateQuarry 18 = .ok (.getfield 38, 3) := by decide +kernel
theorem dX9_rateQuarry_21 : decode cX9_rateQuarry 21 = .ok (.invokevirtual 249, 3) := by decide +kernel
theorem dX9_rateQuarry_24 : decode cX9_rateQuarry 24 = .ok (.iadd, 1) := by decide +kernel
theorem dX9_rateQuarry_25 : decode cX9_rateQuarry 25 = .ok (.ireturn, 1) := by decide +kernel
theorem dX9_spotOf_0 : decode cX9_spotOf 0 = .ok (.iload_n 0, 1) := by decide +kernel
theorem dX9_spotOf_1 : decode cX9_spotOf 1 = .ok (.ifCond .lt 21, 3) := by decide +kernel
theorem dX9_spotOf_4 : decode cX9_spotOf 4 = .ok (.iload_n 0, 1) := by decide +kernel
theorem dX9_spotOf_5 : decode cX9_spotOf 5 = .ok (.bipush 20, 2) := by decide +kernel
theorem dX9_spotOf_7 : decode cX9_spotOf 7 = .ok (.if_icmp .ge 15, 3) := by decide +kernel
theorem dX9_spotOf_10 : decode cX9_spotOf 10 = .ok (.iload_n 1, 1) := by decide +kernel
theorem dX9_spotOf_11 : decode cX9_spotOf 11 = .ok (.bipush (-8), 2) := by decide +kernel
theorem dX9_spotOf_13 : decode cX9_spotOf 13 = .ok (.if_icmp .lt 9, 3) := by decide +kernel
theorem dX9_spotOf_16 : decode cX9_spotOf 16 = .ok (.iload_n 1, 1) := by decide +kernel
theorem dX9_spotOf_17 : decode cX9_spotOf 17 = .ok (.bipush 8, 2) := by decide +kernel
theorem dX9_spotOf_19 : decode cX9_spotOf 19 = .ok (.if_icmp .le 5, 3) := by decide +kernel
theorem dX9_spotOf_22 : decode cX9_spotOf 22 = .ok (.iconst (-1), 1) := by decide +kernel
theorem dX9_spotOf_23 : decode cX9_spotOf 23 = .ok (.ireturn, 1) := by decide +kernel
theorem dX9_spotOf_24 : decode cX9_spotOf 24 = .ok (.bipush 17, 2) := by decide +kernel
theorem dX9_spotOf_26 : decode cX9_spotOf 26 = .ok (.iload_n 0, 1) := by decide +kernel
theorem dX9_spotOf_27 : decode cX9_spotOf 27 = .ok (.imul, 1) := by decide +kernel
theorem dX9_spotOf_28 : decode cX9_spotOf 28 = .ok (.iload_n 1, 1) := by decide +kernel
theorem dX9_spotOf_29 : decode cX9_spotOf 29 = .ok (.iadd, 1) := by decide +kernel
theorem dX9_spotOf_30 : decode cX9_spotOf 30 = .ok (.bipush 8, 2) := by decide +kernel
theorem dX9_spotOf_32 : decode cX9_spotOf 32 = .ok (.iadd, 1) := by decide +kernel
theorem dX9_spotOf_33 : decode cX9_spotOf 33 = .ok (.ireturn, 1) := by decide +kernel
theorem dX9_cellOf_0 : decode cX9_cellOf 0 = .ok (.iload_n 0, 1) := by decide +kernel
theorem dX9_cellOf_1 : decode cX9_cellOf 1 = .ok (.bipush 17, 2) := by decide +kernel
theorem dX9_cellOf_3 : decode cX9_cellOf 3 = .ok (.idiv, 1) := by decide +kernel
theorem dX9_cellOf_4 : decode cX9_cellOf 4 = .ok (.ireturn, 1) := by decide +kernel
theorem dX9_leanOf_0 : decode cX9_leanOf 0 = .ok (.iload_n 0, 1) := by decide +kernel
theorem dX9_leanOf_1 : decode cX9_leanOf 1 = .ok (.bipush 17, 2) := by decide +kernel
theorem dX9_leanOf_3 : decode cX9_leanOf 3 = .ok (.irem, 1) := by decide +kernel
theorem dX9_leanOf_4 : decode cX9_leanOf 4 = .ok (.bipush 8, 2) := by decide +kernel
theorem dX9_leanOf_6 : decode cX9_leanOf 6 = .ok (.isub, 1) := by decide +kernel
theorem dX9_leanOf_7 : decode cX9_leanOf 7 = .ok (.ireturn, 1) := by decide +kernel
theorem dX10_init_0 : decode cX10_init 0 = .ok (.aload_n 0, 1) := by decide +kernel
theorem dX10_init_1 : decode cX10_init 1 = .ok (.invokespecial 1, 3) := by decide +kernel
theorem dX10_init_4 : decode cX10_init 4 = .ok (.aload_n 0, 1) := by decide +kernel
theorem dX10_init_5 : decode cX10_init 5 = .ok (.bipush 120, 2) := by decide +kernel
theorem dX10_init_7 : decode cX10_init 7 = .ok (.newarray .int, 2) := by decide +kernel
theorem dX10_init_9 : decode cX10_init 9 = .ok (.putfield 7, 3) := by decide +kernel
theorem dX10_init_12 : decode cX10_init 12 = .ok (.aload_n 0, 1) := by decide +kernel
theorem dX10_init_13 : decode cX10_init 13 = .ok (.bipush 10, 2) := by decide +kernel
theorem dX10_init_15 : decode cX10_init 15 = .ok (.newarray .int, 2) := by decide +kernel
theorem dX10_init_17 : decode cX10_init 17 = .ok (.putfield 13, 3) := by decide +kernel
theorem dX10_init_20 : decode cX10_init 20 = .ok (.aload_n 0, 1) := by decide +kernel
theorem dX10_init_21 : decode cX10_init 21 = .ok (.bipush 20, 2) := by decide +kernel
theorem dX10_init_23 : decode cX10_init 23 = .ok (.newarray .int, 2) := by decide +kernel
theorem dX10_init_25 : decode cX10_init 25 = .ok (.putfield 16, 3) := by decide +kernel
theorem dX10_init_28 : decode cX10_init 28 = .ok (.aload_n 0, 1) := by decide +kernel
theorem dX10_init_29 : decode cX10_init 29 = .ok (.bipush 27, 2) := by decide +kernel
theorem dX10_init_31 : decode cX10_init 31 = .ok (.newarray .int, 2) := by decide +kernel
theorem dX10_init_33 : decode cX10_init 33 = .ok (.putfield 19, 3) := by decide +kernel
theorem dX10_init_36 : decode cX10_init 36 = .ok (.aload_n 0, 1) := by decide +kernel
theorem dX10_init_37 : decode cX10_init 37 = .ok (.bipush 54, 2) := by decide +kernel
theorem dX10_init_39 : decode cX10_init 39 = .ok (.newarray .int, 2) := by decide +kernel
theorem dX10_init_41 : decode cX10_init 41 = .ok (.putfield 22, 3) := by decide +kernel
theorem dX10_init_44 : decode cX10_init 44 = .ok (.aload_n 0, 1) := by decide +kernel
theorem dX10_init_45 : decode cX10_init 45 = .ok (.iconst 2, 1) := by decide +kernel
theorem dX10_init_46 : decode cX10_init 46 = .ok (.newarray .boolean, 2) := by decide +kernel
theorem dX10_init_48 : decode cX10_init 48 = .ok (.putfield 25, 3) := by decide +kernel
theorem dX10_init_51 : decode cX10_init 51 = .ok (.aload_n 0, 1) := by decide +kernel
theorem dX10_init_52 : decode cX10_init 52 = .ok (.sipush 270, 3) := by decide +kernel
theorem dX10_init_55 : decode cX10_init 55 = .ok (.newarray .int, 2) := by decide +kernel
theorem dX10_init_57 : decode cX10_init 57 = .ok (.putfield 29, 3) := by decide +kernel
theorem dX10_init_60 : decode cX10_init 60 = .ok (.aload_n 0, 1) := by decide +kernel
theorem dX10_init_61 : decode cX10_init 61 = .ok (.bipush 8, 2) := by decide +kernel
theorem dX10_init_63 : decode cX10_init 63 = .ok (.newarray .int, 2) := by decide +kernel
theorem dX10_init_65 : decode cX10_init 65 = .ok (.putfield 32, 3) := by decide +kernel
theorem dX10_init_68 : decode cX10_init 68 = .ok (.aload_n 0, 1) := by decide +kernel
theorem dX10_init_69 : decode cX10_init 69 = .ok (.sipush 680, 3) := by decide +kernel
theorem dX10_init_72 : decode cX10_init 72 = .ok (.newarray .int, 2) := by decide +kernel
theorem dX10_init_74 : decode cX10_init 74 = .ok (.putfield 35, 3) := by decide +kernel
theorem dX10_init_77 : decode cX10_init 77 = .ok (.aload_n 0, 1) := by decide +kernel
theorem dX10_init_78 : decode cX10_init 78 = .ok (.sipush 680, 3) := by decide +kernel
theorem dX10_init_81 : decode cX10_init 81 = .ok (.newarray .int, 2) := by decide +kernel
theorem dX10_init_83 : decode cX10_init 83 = .ok (.putfield 38, 3) := by decide +kernel
theorem dX10_init_86 : decode cX10_init 86 = .ok (.aload_n 0, 1) := by decide +kernel
theorem dX10_init_87 : decode cX10_init 87 = .ok (.sipush 340, 3) := by decide +kernel
theorem dX10_init_90 : decode cX10_init 90 = .ok (.newarray .int, 2) := by decide +kernel
theorem dX10_init_92 : decode cX10_init 92 = .ok (.putfield 41, 3) := by decide +kernel
theorem dX10_init_95 : decode cX10_init 95 = .ok (.aload_n 0, 1) := by decide +kernel
theorem dX10_init_96 : decode cX10_init 96 = .ok (.sipush 340, 3) := by decide +kernel
theorem dX10_init_99 : decode cX10_init 99 = .ok (.newarray .int, 2) := by decide +kernel
theorem dX10_init_101 : decode cX10_init 101 = .ok (.putfield 44, 3) := by decide +kernel
theorem dX10_init_104 : decode cX10_init 104 = .ok (.aload_n 0, 1) := by decide +kernel
theorem dX10_init_105 : decode cX10_init 105 = .ok (.sipush 340, 3) := by decide +kernel
theorem dX10_init_108 : decode cX10_init 108 = .ok (.newarray .int, 2) := by decide +kernel
theorem dX10_init_110 : decode cX10_init 110 = .ok (.putfield 47, 3) := by decide +kernel
theorem dX10_init_113 : decode cX10_init 113 = .ok (.aload_n 0, 1) := by decide +kernel
theorem dX10_init_114 : decode cX10_init 114 = .ok (.invokevirtual 50, 3) := by decide +kernel
theorem dX10_init_117 : decode cX10_init 117 = .ok (.aload_n 0, 1) := by decide +kernel
theorem dX10_init_118 : decode cX10_init 118 = .ok (.invokevirtual 53, 3) := by decide +kernel
theorem dX10_init_121 : decode cX10_init 121 = .ok (.return_, 1) := by decide +kernel
theorem dX10_in_0 : decode cX10_in 0 = .ok (.iload_n 0, 1) := by decide +kernel
theorem dX10_in_1 : decode cX10_in 1 = .ok (.iload_n 1, 1) := by decide +kernel
theorem dX10_in_2 : decode cX10_in 2 = .ok (.if_icmp .lt 12, 3) := by decide +kernel
theorem dX10_in_5 : decode cX10_in 5 = .ok (.iload_n 0, 1) := by decide +kernel
theorem dX10_in_6 : decode cX10_in 6 = .ok (.iload_n 2, 1) := by decide +kernel
theorem dX10_in_7 : decode cX10_in 7 = .ok (.if_icmp .gt 7, 3) := by decide +kernel
theorem dX10_in_10 : decode cX10_in 10 = .ok (.iconst 1, 1) := by decide +kernel
theorem dX10_in_11 : decode cX10_in 11 = .ok (.goto 4, 3) := by decide +kernel
theorem dX10_in_14 : decode cX10_in 14 = .ok (.iconst 0, 1) := by decide +kernel
theorem dX10_in_15 : decode cX10_in 15 = .ok (.ireturn, 1) := by decide +kernel
theorem dX10_type_0 : decode cX10_type 0 = .ok (.aload_n 0, 1) := by decide +kernel
theorem dX10_type_1 : decode cX10_type 1 = .ok (.iconst 0, 1) := by decide +kernel
theorem dX10_type_2 : decode cX10_type 2 = .ok (.putfield 56, 3) := by decide +kernel
theorem dX10_type_5 : decode cX10_type 5 = .ok (.iload_n 1, 1) := by decide +kernel
theorem dX10_type_6 : decode cX10_type 6 = .ok (.iconst 0, 1) := by decide +kernel
theorem dX10_type_7 : decode cX10_type 7 = .ok (.sipush 255, 3) := by decide +kernel
theorem dX10_type_10 : decode cX10_type 10 = .ok (.invokestatic 60, 3) := by decide +kernel
theorem dX10_type_13 : decode cX10_type 13 = .ok (.ifCond .ne 5, 3) := by decide +kernel
theorem dX10_type_16 : decode cX10_type 16 = .ok (.iconst (-1), 1) := by decide +kernel
theorem dX10_type_17 : decode cX10_type 17 = .ok (.ireturn, 1) := by decide +kernel
theorem dX10_type_18 : decode cX10_type 18 = .ok (.aload_n 0, 1) := by decide +kernel
theorem dX10_type_19 : decode cX10_type 19 = .ok (.getfield 64, 3) := by decide +kernel
theorem dX10_type_22 : decode cX10_type 22 = .ok (.bipush 120, 2) := by decide +kernel
theorem dX10_type_24 : decode cX10_type 24 = .ok (.if_icmp .ne 6, 3) := by decide +kernel
theorem dX10_type_27 : decode cX10_type 27 = .ok (.bipush (-3), 2) := by decide +kernel
theorem dX10_type_29 : decode cX10_type 29 = .ok (.ireturn, 1) := by decide +kernel
theorem dX10_type_30 : decode cX10_type 30 = .ok (.aload_n 0, 1) := by decide +kernel
theorem dX10_type_31 : decode cX10_type 31 = .ok (.getfield 7, 3) := by decide +kernel
theorem dX10_type_34 : decode cX10_type 34 = .ok (.aload_n 0, 1) := by decide +kernel
theorem dX10_type_35 : decode cX10_type 35 = .ok (.getfield 64, 3) := by decide +kernel
theorem dX10_type_38 : decode cX10_type 38 = .ok (.iload_n 1, 1) := by decide +kernel
theorem dX10_type_39 : decode cX10_type 39 = .ok (.iastore, 1) := by decide +kernel
theorem dX10_type_40 : decode cX10_type 40 = .ok (.aload_n 0, 1) := by decide +kernel
theorem dX10_type_41 : decode cX10_type 41 = .ok (.dup, 1) := by decide +kernel
theorem dX10_type_42 : decode cX10_type 42 = .ok (.getfield 64, 3) := by decide +kernel
theorem dX10_type_45 : decode cX10_type 45 = .ok (.iconst 1, 1) := by decide +kernel
theorem dX10_type_46 : decode cX10_type 46 = .ok (.iadd, 1) := by decide +kernel
theorem dX10_type_47 : decode cX10_type 47 = .ok (.putfield 64, 3) := by decide +kernel
theorem dX10_type_50 : decode cX10_type 50 = .ok (.aload_n 0, 1) := by decide +kernel
theorem dX10_type_51 : decode cX10_type 51 = .ok (.getfield 64, 3) := by decide +kernel
theorem dX10_type_54 : decode cX10_type 54 = .ok (.ireturn, 1) := by decide +kernel
theorem dX10_clear_0 : decode cX10_clear 0 = .ok (.aload_n 0, 1) := by decide +kernel
theorem dX10_clear_1 : decode cX10_clear 1 = .ok (.iconst 0, 1) := by decide +kernel
theorem dX10_clear_2 : decode cX10_clear 2 = .ok (.putfield 56, 3) := by decide +kernel
theorem dX10_clear_5 : decode cX10_clear 5 = .ok (.aload_n 0, 1) := by decide +kernel
theorem dX10_clear_6 : decode cX10_clear 6 = .ok (.getfield 64, 3) := by decide +kernel
theorem dX10_clear_9 : decode cX10_clear 9 = .ok (.istore_n 1, 1) := by decide +kernel
theorem dX10_clear_10 : decode cX10_clear 10 = .ok (.aload_n 0, 1) := by decide +kernel
theorem dX10_clear_11 : decode cX10_clear 11 = .ok (.iconst 0, 1) := by decide +kernel
theorem dX10_clear_12 : decode cX10_clear 12 = .ok (.putfield 64, 3) := by decide +kernel
theorem dX10_clear_15 : decode cX10_clear 15 = .ok (.iload_n 1, 1) := by decide +kernel
theorem dX10_clear_16 : decode cX10_clear 16 = .ok (.ireturn, 1) := by decide +kernel
theorem dX10_letterAt_0 : decode cX10_letterAt 0 = .ok (.iload_n 1, 1) := by decide +kernel
theorem dX10_letterAt_1 : decode cX10_letterAt 1 = .ok (.aload_n 0, 1) := by decide +kernel
theorem dX10_letterAt_2 : decode cX10_letterAt 2 = .ok (.getfield 64, 3) := by decide +kernel
theorem dX10_letterAt_5 : decode cX10_letterAt 5 = .ok (.if_icmp .ge 12, 3) := by decide +kernel
theorem dX10_letterAt_8 : decode cX10_letterAt 8 = .ok (.aload_n 0, 1) := by decide +kernel
theorem dX10_letterAt_9 : decode cX10_letterAt 9 = .ok (.getfield 7, 3) := by decide +kernel
theorem dX10_letterAt_12 : decode cX10_letterAt 12 = .ok (.iload_n 1, 1) := by decide +kernel
theorem dX10_letterAt_13 : decode cX10_letterAt 13 = .ok (.iaload, 1) := by decide +kernel
theorem dX10_letterAt_14 : decode cX10_letterAt 14 = .ok (.goto 4, 3) := by decide +kernel
theorem dX10_letterAt_17 : decode cX10_letterAt 17 = .ok (.iconst (-1), 1) := by decide +kernel
theorem dX10_letterAt_18 : decode cX10_letterAt 18 = .ok (.ireturn, 1) := by decide +kernel
theorem dX10_isLetter_0 : decode cX10_isLetter 0 = .ok (.iload_n 0, 1) := by decide +kernel
theorem dX10_isLetter_1 : decode cX10_isLetter 1 = .ok (.bipush 119, 2) := by decide +kernel
theorem dX10_isLetter_3 : decode cX10_isLetter 3 = .ok (.if_icmp .eq 33, 3) := by decide +kernel
theorem dX10_isLetter_6 : decode cX10_isLetter 6 = .ok (.iload_n 0, 1) := by decide +kernel
theorem dX10_isLetter_7 : decode cX10_isLetter 7 = .ok (.bipush 114, 2) := by decide +kernel
theorem dX10_isLetter_9 : decode cX10_isLetter 9 = .ok (.if_icmp .eq 27, 3) := by decide +kernel
theorem dX10_isLetter_12 : decode cX10_isLetter 12 = .ok (.iload_n 0, 1) := by decide +kernel
theorem dX10_isLetter_13 : decode cX10_isLetter 13 = .ok (.bipush 120, 2) := by decide +kernel
theorem dX10_isLetter_15 : decode cX10_isLetter 15 = .ok (.if_icmp .eq 21, 3) := by decide +kernel
theorem dX10_isLetter_18 : decode cX10_isLetter 18 = .ok (.iload_n 0, 1) := by decide +kernel
theorem dX10_isLetter_19 : decode cX10_isLetter 19 = .ok (.bipush 98, 2) := by decide +kernel
theorem dX10_isLetter_21 : decode cX10_isLetter 21 = .ok (.if_icmp .eq 15, 3) := by decide +kernel
theorem dX10_isLetter_24 : decode cX10_isLetter 24 = .ok (.iload_n 0, 1) := by decide +kernel
theorem dX10_isLetter_25 : decode cX10_isLetter 25 = .ok (.bipush 107, 2) := by decide +kernel
theorem dX10_isLetter_27 : decode cX10_isLetter 27 = .ok (.if_icmp .eq 9, 3) := by decide +kernel
theorem dX10_isLetter_30 : decode cX10_isLetter 30 = .ok (.iload_n 0, 1) := by decide +kernel
theorem dX10_isLetter_31 : decode cX10_isLetter 31 = .ok (.bipush 106, 2) := by decide +kernel
theorem dX10_isLetter_33 : decode cX10_isLetter 33 = .ok (.if_icmp .ne 7, 3) := by decide +kernel
theorem dX10_isLetter_36 : decode cX10_isLetter 36 = .ok (.iconst 1, 1) := by decide +kernel
theorem dX10_isLetter_37 : decode cX10_isLetter 37 = .ok (.goto 4, 3) := by decide +kernel
theorem dX10_isLetter_40 : decode cX10_isLetter 40 = .ok (.iconst 0, 1) := by decide +kernel
theorem dX10_isLetter_41 : decode cX10_isLetter 41 = .ok (.ireturn, 1) := by decide +kernel
theorem dX10_advances_0 : decode cX10_advances 0 = .ok (.aload_n 0, 1) := by decide +kernel
theorem dX10_advances_1 : decode cX10_advances 1 = .ok (.aload_n 0, 1) := by decide +kernel
theorem dX10_advances_2 : decode cX10_advances 2 = .ok (.getfield 67, 3) := by decide +kernel
theorem dX10_advances_5 : decode cX10_advances 5 = .ok (.invokevirtual 70, 3) := by decide +kernel
theorem dX10_advances_8 : decode cX10_advances 8 = .ok (.bipush 32, 2) := by decide +kernel
theorem dX10_advances_10 : decode cX10_advances 10 = .ok (.if_icmp .ne 16, 3) := by decide +kernel
theorem dX10_advances_13 : decode cX10_advances 13 = .ok (.aload_n 0, 1) := by decide +kernel
theorem dX10_advances_14 : decode cX10_advances 14 = .ok (.dup, 1) := by decide +kernel
theorem dX10_advances_15 : decode cX10_advances 15 = .ok (.getfield 67, 3) := by decide +kernel
theorem dX10_advances_18 : decode cX10_advances 18 = .ok (.iconst 1, 1) := by decide +kernel
theorem dX10_advances_19 : decode cX10_advances 19 = .ok (.iadd, 1) := by decide +kernel
theorem dX10_advances_20 : decode cX10_advances 20 = .ok (.putfield 67, 3) := by decide +kernel
theorem dX10_advances_23 : decode cX10_advances 23 = .ok (.goto (-23), 3) := by decide +kernel
theorem dX10_advances_26 : decode cX10_advances 26 = .ok (.aload_n 0, 1) := by decide +kernel
theorem dX10_advances_27 : decode cX10_advances 27 = .ok (.aload_n 0, 1) := by decide +kernel
theorem dX10_advances_28 : decode cX10_advances 28 = .ok (.getfield 67, 3) := by decide +kernel
theorem dX10_advances_31 : decode cX10_advances 31 = .ok (.putfield 74, 3) := by decide +kernel
theorem dX10_advances_34 : decode cX10_advances 34 = .ok (.aload_n 0, 1) := by decide +kernel
theorem dX10_advances_35 : decode cX10_advances 35 = .ok (.aload_n 0, 1) := by decide +kernel
theorem dX10_advances_36 : decode cX10_advances 36 = .ok (.getfield 67, 3) := by decide +kernel
theorem dX10_advances_39 : decode cX10_advances 39 = .ok (.invokevirtual 70, 3) := by decide +kernel
theorem dX10_advances_42 : decode cX10_advances 42 = .ok (.istore_n 1, 1) := by decide +kernel
theorem dX10_advances_43 : decode cX10_advances 43 = .ok (.iload_n 1, 1) := by decide +kernel
theorem dX10_advances_44 : decode cX10_advances 44 = .ok (.ifCond .ge 11, 3) := by decide +kernel
theorem dX10_advances_47 : decode cX10_advances 47 = .ok (.aload_n 0, 1) := by decide +kernel
theorem dX10_advances_48 : decode cX10_advances 48 = .ok (.iconst 0, 1) := by decide +kernel
theorem dX10_advances_49 : decode cX10_advances 49 = .ok (.putfield 77, 3) := by decide +kernel
theorem dX10_advances_52 : decode cX10_advances 52 = .ok (.goto 170, 3) := by decide +kernel
theorem dX10_advances_55 : decode cX10_advances 55 = .ok (.iload_n 1, 1) := by decide +kernel
theorem dX10_advances_56 : decode cX10_advances 56 = .ok (.bipush 48, 2) := by decide +kernel
theorem dX10_advances_58 : decode cX10_advances 58 = .ok (.bipush 57, 2) := by decide +kernel
theorem dX10_advances_60 : decode cX10_advances 60 = .ok (.invokestatic 60, 3) := by decide +kernel
theorem dX10_advances_63 : decode cX10_advances 63 = .ok (.ifCond .eq 118, 3) := by decide +kernel
theorem dX10_advances_66 : decode cX10_advances 66 = .ok (.aload_n 0, 1) := by decide +kernel
theorem dX10_advances_67 : decode cX10_advances 67 = .ok (.iconst 0, 1) := by decide +kernel
theorem dX10_advances_68 : decode cX10_advances 68 = .ok (.putfield 80, 3) := by decide +kernel
theorem dX10_advances_71 : decode cX10_advances 71 = .ok (.aload_n 0, 1) := by decide +kernel
theorem dX10_advances_72 : decode cX10_advances 72 = .ok (.aload_n 0, 1) := by decide +kernel
theorem dX10_advances_73 : decode cX10_advances 73 = .ok (.getfield 67, 3) := by decide +kernel
theorem dX10_advances_76 : decode cX10_advances 76 = .ok (.invokevirtual 70, 3) := by decide +kernel
theorem dX10_advances_79 : decode cX10_advances 79 = .ok (.bipush 48, 2) := by decide +kernel
theorem dX10_advances_81 : decode cX10_advances 81 = .ok (.bipush 57, 2) := by decide +kernel
theorem dX10_advances_83 : decode cX10_advances 83 = .ok (.invokestatic 60, 3) := by decide +kernel
theorem dX10_advances_86 : decode cX10_advances 86 = .ok (.ifCond .eq 55, 3) := by decide +kernel
theorem dX10_advances_89 : decode cX10_advances 89 = .ok (.aload_n 0, 1) := by decide +kernel
theorem dX10_advances_90 : decode cX10_advances 90 = .ok (.aload_n 0, 1) := by decide +kernel
theorem dX10_advances_91 : decode cX10_advances 91 = .ok (.getfield 80, 3) := by decide +kernel
theorem dX10_advances_94 : decode cX10_advances 94 = .ok (.bipush 99, 2) := by decide +kernel
theorem dX10_advances_96 : decode cX10_advances 96 = .ok (.if_icmp .le 10, 3) := by decide +kernel
theorem dX10_advances_99 : decode cX10_advances 99 = .ok (.aload_n 0, 1) := by decide +kernel
theorem dX10_advances_100 : decode cX10_advances 100 = .ok (.getfield 80, 3) := by decide +kernel
theorem dX10_advances_103 : decode cX10_advances 103 = .ok (.goto 22, 3) := by decide +kernel
theorem dX10_advances_106 : decode cX10_advances 106 = .ok (.bipush 10, 2) := by decide +kernel
theorem dX10_advances_108 : decode cX10_advances 108 = .ok (.aload_n 0, 1) := by decide +kernel
theorem dX10_advances_109 : decode cX10_advances 109 = .ok (.getfield 80, 3) := by decide +kernel
theorem dX10_advances_112 : decode cX10_advances 112 = .ok (.imul, 1) := by decide +kernel
theorem dX10_advances_113 : decode cX10_advances 113 = .ok (.aload_n 0, 1) := by decide +kernel
theorem dX10_advances_114 : decode cX10_advances 114 = .ok (.aload_n 0, 1) := by decide +kernel
theorem dX10_advances_115 : decode cX10_advances 115 = .ok (.getfield 67, 3) := by decide +kernel
theorem dX10_advances_118 : decode cX10_advances 118 = .ok (.invokevirtual 70, 3) := by decide +kernel
theorem dX10_advances_121 : decode cX10_advances 121 = .ok (.iadd, 1) := by decide +kernel
theorem dX10_advances_122 : decode cX10_advances 122 = .ok (.bipush 48, 2) := by decide +kernel
theorem dX10_advances_124 : decode cX10_advances 124 = .ok (.isub, 1) := by decide +kernel
theorem dX10_advances_125 : decode cX10_advances 125 = .ok (.putfield 80, 3) := by decide +kernel
theorem dX10_advances_128 : decode cX10_advances 128 = .ok (.aload_n 0, 1) := by decide +kernel
theorem dX10_advances_129 : decode cX10_advances 129 = .ok (.dup, 1) := by decide +kernel
theorem dX10_advances_130 : decode cX10_advances 130 = .ok (.getfield 67, 3) := by decide +kernel
theorem dX10_advances_133 : decode cX10_advances 133 = .ok (.iconst 1, 1) := by decide +kernel
theorem dX10_advances_134 : decode cX10_advances 134 = .ok (.iadd, 1) := by decide +kernel
theorem dX10_advances_135 : decode cX10_advances 135 = .ok (.putfield 67, 3) := by decide +kernel
theorem dX10_advances_138 : decode cX10_advances 138 = .ok (.goto (-67), 3) := by decide +kernel
theorem dX10_advances_141 : decode cX10_advances 141 = .ok (.aload_n 0, 1) := by decide +kernel
theorem dX10_advances_142 : decode cX10_advances 142 = .ok (.aload_n 0, 1) := by decide +kernel
theorem dX10_advances_143 : decode cX10_advances 143 = .ok (.getfield 80, 3) := by decide +kernel
theorem dX10_advances_146 : decode cX10_advances 146 = .ok (.bipush 99, 2) := by decide +kernel
theorem dX10_advances_148 : decode cX10_advances 148 = .ok (.if_icmp .gt 22, 3) := by decide +kernel
theorem dX10_advances_151 : decode cX10_advances 151 = .ok (.iload_n 1, 1) := by decide +kernel
theorem dX10_advances_152 : decode cX10_advances 152 = .ok (.bipush 48, 2) := by decide +kernel
theorem dX10_advances_154 : decode cX10_advances 154 = .ok (.if_icmp .ne 20, 3) := by decide +kernel
theorem dX10_advances_157 : decode cX10_advances 157 = .ok (.aload_n 0, 1) := by decide +kernel
theorem dX10_advances_158 : decode cX10_advances 158 = .ok (.getfield 67, 3) := by decide +kernel
theorem dX10_advances_161 : decode cX10_advances 161 = .ok (.aload_n 0, 1) := by decide +kernel
theorem dX10_advances_162 : decode cX10_advances 162 = .ok (.getfield 74, 3) := by decide +kernel
theorem dX10_advances_165 : decode cX10_advances 165 = .ok (.isub, 1) := by decide +kernel
theorem dX10_advances_166 : decode cX10_advances 166 = .ok (.iconst 1, 1) := by decide +kernel
theorem dX10_advances_167 : decode cX10_advances 167 = .ok (.if_icmp .le 7, 3) := by decide +kernel
theorem dX10_advances_170 : decode cX10_advances 170 = .ok (.iconst 4, 1) := by decide +kernel
theorem dX10_advances_171 : decode cX10_advances 171 = .ok (.goto 4, 3) := by decide +kernel
theorem dX10_advances_174 : decode cX10_advances 174 = .ok (.iconst 2, 1) := by decide +kernel
theorem dX10_advances_175 : decode cX10_advances 175 = .ok (.putfield 77, 3) := by decide +kernel
theorem dX10_advances_178 : decode cX10_advances 178 = .ok (.goto 44, 3) := by decide +kernel
theorem dX10_advances_181 : decode cX10_advances 181 = .ok (.aload_n 0, 1) := by decide +kernel
theorem dX10_advances_182 : decode cX10_advances 182 = .ok (.dup, 1) := by decide +kernel
theorem dX10_advances_183 : decode cX10_advances 183 = .ok (.getfield 67, 3) := by decide +kernel
theorem dX10_advances_186 : decode cX10_advances 186 = .ok (.iconst 1, 1) := by decide +kernel
theorem dX10_advances_187 : decode cX10_advances 187 = .ok (.iadd, 1) := by decide +kernel
theorem dX10_advances_188 : decode cX10_advances 188 = .ok (.putfield 67, 3) := by decide +kernel
theorem dX10_advances_191 : decode cX10_advances 191 = .ok (.aload_n 0, 1) := by decide +kernel
theorem dX10_advances_192 : decode cX10_advances 192 = .ok (.iload_n 1, 1) := by decide +kernel
theorem dX10_advances_193 : decode cX10_advances 193 = .ok (.putfield 80, 3) := by decide +kernel
theorem dX10_advances_196 : decode cX10_advances 196 = .ok (.aload_n 0, 1) := by decide +kernel
theorem dX10_advances_197 : decode cX10_advances 197 = .ok (.iload_n 1, 1) := by decide +kernel
theorem dX10_advances_198 : decode cX10_advances 198 = .ok (.bipush 59, 2) := by decide +kernel
theorem dX10_advances_200 : decode cX10_advances 200 = .ok (.if_icmp .ne 7, 3) := by decide +kernel
theorem dX10_advances_203 : decode cX10_advances 203 = .ok (.iconst 3, 1) := by decide +kernel
theorem dX10_advances_204 : decode cX10_advances 204 = .ok (.goto 15, 3) := by decide +kernel
theorem dX10_advances_207 : decode cX10_advances 207 = .ok (.iload_n 1, 1) := by decide +kernel
theorem dX10_advances_208 : decode cX10_advances 208 = .ok (.invokestatic 83, 3) := by decide +kernel
theorem dX10_advances_211 : decode cX10_advances 211 = .ok (.ifCond .eq 7, 3) := by decide +kernel
theorem dX10_advances_214 : decode cX10_advances 214 = .ok (.iconst 1, 1) := by decide +kernel
theorem dX10_advances_215 : decode cX10_advances 215 = .ok (.goto 4, 3) := by decide +kernel
theorem dX10_advances_218 : decode cX10_advances 218 = .ok (.iconst 4, 1) := by decide +kernel
theorem dX10_advances_219 : decode cX10_advances 219 = .ok (.putfield 77, 3) := by decide +kernel
theorem dX10_advances_222 : decode cX10_advances 222 = .ok (.return_, 1) := by decide +kernel
theorem dX10_isWell_0 : decode cX10_isWell 0 = .ok (.aload_n 0, 1) := by decide +kernel
theorem dX10_isWell_1 : decode cX10_isWell 1 = .ok (.getfield 87, 3) := by decide +kernel
theorem dX10_isWell_4 : decode cX10_isWell 4 = .ok (.ifCond .ge 7, 3) := by decide +kernel
theorem dX10_isWell_7 : decode cX10_isWell 7 = .ok (.iconst 1, 1) := by decide +kernel
theorem dX10_isWell_8 : decode cX10_isWell 8 = .ok (.goto 4, 3) := by decide +kernel
theorem dX10_isWell_11 : decode cX10_isWell 11 = .ok (.iconst 0, 1) := by decide +kernel
theorem dX10_isWell_12 : decode cX10_isWell 12 = .ok (.ireturn, 1) := by decide +kernel
theorem dX10_takes_0 : decode cX10_takes 0 = .ok (.aload_n 0, 1) := by decide +kernel
theorem dX10_takes_1 : decode cX10_takes 1 = .ok (.invokevirtual 90, 3) := by decide +kernel
theorem dX10_takes_4 : decode cX10_takes 4 = .ok (.ifCond .ne 5, 3) := by decide +kernel
theorem dX10_takes_7 : decode cX10_takes 7 = .ok (.iconst 0, 1) := by decide +kernel
theorem dX10_takes_8 : decode cX10_takes 8 = .ok (.ireturn, 1) := by decide +kernel
theorem dX10_takes_9 : decode cX10_takes 9 = .ok (.iload_n 1, 1) := by decide +kernel
theorem dX10_takes_10 : decode cX10_takes 10 = .ok (.ifCond .ne 13, 3) := by decide +kernel
theorem dX10_takes_13 : decode cX10_takes 13 = .ok (.aload_n 0, 1) := by decide +kernel
theorem dX10_takes_14 : decode cX10_takes 14 = .ok (.aload_n 0, 1) := by decide +kernel
theorem dX10_takes_15 : decode cX10_takes 15 = .ok (.getfield 74, 3) := by decide +kernel
theorem dX10_takes_18 : decode cX10_takes 18 = .ok (.putfield 87, 3) := by decide +kernel
theorem dX10_takes_21 : decode cX10_takes 21 = .ok (.iconst 0, 1) := by decide +kernel
theorem dX10_takes_22 : decode cX10_takes 22 = .ok (.ireturn, 1) := by decide +kernel
theorem dX10_takes_23 : decode cX10_takes 23 = .ok (.aload_n 0, 1) := by decide +kernel
theorem dX10_takes_24 : decode cX10_takes 24 = .ok (.getfield 80, 3) := by decide +kernel
theorem dX10_takes_27 : decode cX10_takes 27 = .ok (.istore_n 2, 1) := by decide +kernel
theorem dX10_takes_28 : decode cX10_takes 28 = .ok (.aload_n 0, 1) := by decide +kernel
theorem dX10_takes_29 : decode cX10_takes 29 = .ok (.invokevirtual 94, 3) := by decide +kernel
theorem dX10_takes_32 : decode cX10_takes 32 = .ok (.iload_n 2, 1) := by decide +kernel
theorem dX10_takes_33 : decode cX10_takes 33 = .ok (.ireturn, 1) := by decide +kernel
theorem dX10_number_0 : decode cX10_number 0 = .ok (.aload_n 0, 1) := by decide +kernel
theorem dX10_number_1 : decode cX10_number 1 = .ok (.aload_n 0, 1) := by decide +kernel
theorem dX10_number_2 : decode cX10_number 2 = .ok (.getfield 77, 3) := by decide +kernel
theorem dX10_number_5 : decode cX10_number 5 = .ok (.iconst 2, 1) := by decide +kernel
theorem dX10_number_6 : decode cX10_number 6 = .ok (.if_icmp .ne 19, 3) := by decide +kernel
theorem dX10_number_9 : decode cX10_number 9 = .ok (.aload_n 0, 1) := by decide +kernel
theorem dX10_number_10 : decode cX10_number 10 = .ok (.getfield 80, 3) := by decide +kernel
theorem dX10_number_13 : decode cX10_number 13 = .ok (.iload_n 1, 1) := by decide +kernel
theorem dX10_number_14 : decode cX10_number 14 = .ok (.iload_n 2, 1) := by decide +kernel
theorem dX10_number_15 : decode cX10_number 15 = .ok (.invokestatic 60, 3) := by decide +kernel
theorem dX10_number_18 : decode cX10_number 18 = .ok (.ifCond .eq 7, 3) := by decide +kernel
theorem dX10_number_21 : decode cX10_number 21 = .ok (.iconst 1, 1) := by decide +kernel
theorem dX10_number_22 : decode cX10_number 22 = .ok (.goto 4, 3) := by decide +kernel
theorem dX10_number_25 : decode cX10_number 25 = .ok (.iconst 0, 1) := by decide +kernel
theorem dX10_number_26 : decode cX10_number 26 = .ok (.invokevirtual 97, 3) := by decide +kernel
theorem dX10_number_29 : decode cX10_number 29 = .ok (.ireturn, 1) := by decide +kernel
theorem dX10_begins_0 : decode cX10_begins 0 = .ok (.aload_n 0, 1) := by decide +kernel
theorem dX10_begins_1 : decode cX10_begins 1 = .ok (.iconst 0, 1) := by decide +kernel
theorem dX10_begins_2 : decode cX10_begins 2 = .ok (.putfield 101, 3) := by decide +kernel
theorem dX10_begins_5 : decode cX10_begins 5 = .ok (.aload_n 0, 1) := by decide +kernel
theorem dX10_begins_6 : decode cX10_begins 6 = .ok (.iconst 0, 1) := by decide +kernel
theorem dX10_begins_7 : decode cX10_begins 7 = .ok (.putfield 104, 3) := by decide +kernel
theorem dX10_begins_10 : decode cX10_begins 10 = .ok (.aload_n 0, 1) := by decide +kernel
theorem dX10_begins_11 : decode cX10_begins 11 = .ok (.getfield 13, 3) := by decide +kernel
theorem dX10_begins_14 : decode cX10_begins 14 = .ok (.iconst 5, 1) := by decide +kernel
theorem dX10_begins_15 : decode cX10_begins 15 = .ok (.iconst 0, 1) := by decide +kernel
theorem dX10_begins_16 : decode cX10_begins 16 = .ok (.iastore, 1) := by decide +kernel
theorem dX10_begins_17 : decode cX10_begins 17 = .ok (.aload_n 0, 1) := by decide +kernel
theorem dX10_begins_18 : decode cX10_begins 18 = .ok (.getfield 13, 3) := by decide +kernel
theorem dX10_begins_21 : decode cX10_begins 21 = .ok (.bipush 6, 2) := by decide +kernel
theorem dX10_begins_23 : decode cX10_begins 23 = .ok (.iconst 0, 1) := by decide +kernel
theorem dX10_begins_24 : decode cX10_begins 24 = .ok (.iastore, 1) := by decide +kernel
theorem dX10_begins_25 : decode cX10_begins 25 = .ok (.aload_n 0, 1) := by decide +kernel
theorem dX10_begins_26 : decode cX10_begins 26 = .ok (.getfield 13, 3) := by decide +kernel
theorem dX10_begins_29 : decode cX10_begins 29 = .ok (.bipush 7, 2) := by decide +kernel
theorem dX10_begins_31 : decode cX10_begins 31 = .ok (.bipush (-9), 2) := by decide +kernel
theorem dX10_begins_33 : decode cX10_begins 33 = .ok (.iastore, 1) := by decide +kernel
theorem dX10_begins_34 : decode cX10_begins 34 = .ok (.aload_n 0, 1) := by decide +kernel
theorem dX10_begins_35 : decode cX10_begins 35 = .ok (.getfield 13, 3) := by decide +kernel
theorem dX10_begins_38 : decode cX10_begins 38 = .ok (.bipush 8, 2) := by decide +kernel
theorem dX10_begins_40 : decode cX10_begins 40 = .ok (.iconst 5, 1) := by decide +kernel
theorem dX10_begins_41 : decode cX10_begins 41 = .ok (.iastore, 1) := by decide +kernel
theorem dX10_begins_42 : decode cX10_begins 42 = .ok (.aload_n 0, 1) := by decide +kernel
theorem dX10_begins_43 : decode cX10_begins 43 = .ok (.getfield 13, 3) := by decide +kernel
theorem dX10_begins_46 : decode cX10_begins 46 = .ok (.bipush 9, 2) := by decide +kernel
theorem dX10_begins_48 : decode cX10_begins 48 = .ok (.iconst 0, 1) := by decide +kernel
theorem dX10_begins_49 : decode cX10_begins 49 = .ok (.iastore, 1) := by decide +kernel
theorem dX10_begins_50 : decode cX10_begins 50 = .ok (.return_, 1) := by decide +kernel
theorem dX10_bitOf_0 : decode cX10_bitOf 0 = .ok (.iload_n 0, 1) := by decide +kernel
theorem dX10_bitOf_1 : decode cX10_bitOf 1 = .ok (.bipush 98, 2) := by decide +kernel
theorem dX10_bitOf_3 : decode cX10_bitOf 3 = .ok (.if_icmp .ne 7, 3) := by decide +kernel
theorem dX10_bitOf_6 : decode cX10_bitOf 6 = .ok (.iconst 1, 1) := by decide +kernel
theorem dX10_bitOf_7 : decode cX10_bitOf 7 = .ok (.goto 14, 3) := by decide +kernel
theorem dX10_bitOf_10 : decode cX10_bitOf 10 = .ok (.iload_n 0, 1) := by decide +kernel
theorem dX10_bitOf_11 : decode cX10_bitOf 11 = .ok (.bipush 107, 2) := by decide +kernel
theorem dX10_bitOf_13 : decode cX10_bitOf 13 = .ok (.if_icmp .ne 7, 3) := by decide +kernel
theorem dX10_bitOf_16 : decode cX10_bitOf 16 = .ok (.iconst 2, 1) := by decide +kernel
theorem dX10_bitOf_17 : decode cX10_bitOf 17 = .ok (.goto 4, 3) := by decide +kernel
theorem dX10_bitOf_20 : decode cX10_bitOf 20 = .ok (.iconst 4, 1) := by decide +kernel
theorem dX10_bitOf_21 : decode cX10_bitOf 21 = .ok (.ireturn, 1) := by decide +kernel
theorem dX10_mayBegin_0 : decode cX10_mayBegin 0 = .ok (.aload_n 0, 1) := by decide +kernel
theorem dX10_mayBegin_1 : decode cX10_mayBegin 1 = .ok (.getfield 80, 3) := by decide +kernel
theorem dX10_mayBegin_4 : decode cX10_mayBegin 4 = .ok (.bipush 119, 2) := by decide +kernel
theorem dX10_mayBegin_6 : decode cX10_mayBegin 6 = .ok (.if_icmp .ne 13, 3) := by decide +kernel
theorem dX10_mayBegin_9 : decode cX10_mayBegin 9 = .ok (.iload_n 1, 1) := by decide +kernel
theorem dX10_mayBegin_10 : decode cX10_mayBegin 10 = .ok (.ifCond .ne 7, 3) := by decide +kernel
theorem dX10_mayBegin_13 : decode cX10_mayBegin 13 = .ok (.iconst 1, 1) := by decide +kernel
theorem dX10_mayBegin_14 : decode cX10_mayBegin 14 = .ok (.goto 4, 3) := by decide +kernel
theorem dX10_mayBegin_17 : decode cX10_mayBegin 17 = .ok (.iconst 0, 1) := by decide +kernel
theorem dX10_mayBegin_18 : decode cX10_mayBegin 18 = .ok (.ireturn, 1) := by decide +kernel
theorem dX10_mayBegin_19 : decode cX10_mayBegin 19 = .ok (.aload_n 0, 1) := by decide +kernel
theorem dX10_mayBegin_20 : decode cX10_mayBegin 20 = .ok (.getfield 80, 3) := by decide +kernel
theorem dX10_mayBegin_23 : decode cX10_mayBegin 23 = .ok (.bipush 114, 2) := by decide +kernel
theorem dX10_mayBegin_25 : decode cX10_mayBegin 25 = .ok (.if_icmp .ne 38, 3) := by decide +kernel
theorem dX10_mayBegin_28 : decode cX10_mayBegin 28 = .ok (.aload_n 0, 1) := by decide +kernel
theorem dX10_mayBegin_29 : decode cX10_mayBegin 29 = .ok (.getfield 13, 3) := by decide +kernel
theorem dX10_mayBegin_32 : decode cX10_mayBegin 32 = .ok (.iconst 5, 1) := by decide +kernel
theorem dX10_mayBegin_33 : decode cX10_mayBegin 33 = .ok (.iaload, 1) := by decide +kernel
theorem dX10_mayBegin_34 : decode cX10_mayBegin 34 = .ok (.ifCond .le 27, 3) := by decide +kernel
theorem dX10_mayBegin_37 : decode cX10_mayBegin 37 = .ok (.aload_n 0, 1) := by decide +kernel
theorem dX10_mayBegin_38 : decode cX10_mayBegin 38 = .ok (.getfield 13, 3) := by decide +kernel
theorem dX10_mayBegin_41 : decode cX10_mayBegin 41 = .ok (.bipush 6, 2) := by decide +kernel
theorem dX10_mayBegin_43 : decode cX10_mayBegin 43 = .ok (.iaload, 1) := by decide +kernel
theorem dX10_mayBegin_44 : decode cX10_mayBegin 44 = .ok (.iconst 4, 1) := by decide +kernel
theorem dX10_mayBegin_45 : decode cX10_mayBegin 45 = .ok (.if_icmp .ge 16, 3) := by decide +kernel
theorem dX10_mayBegin_48 : decode cX10_mayBegin 48 = .ok (.aload_n 0, 1) := by decide +kernel
theorem dX10_mayBegin_49 : decode cX10_mayBegin 49 = .ok (.getfield 101, 3) := by decide +kernel
theorem dX10_mayBegin_52 : decode cX10_mayBegin 52 = .ok (.iconst 1, 1) := by decide +kernel
theorem dX10_mayBegin_53 : decode cX10_mayBegin 53 = .ok (.iand, 1) := by decide +kernel
theorem dX10_mayBegin_54 : decode cX10_mayBegin 54 = .ok (.ifCond .ne 7, 3) := by decide +kernel
theorem dX10_mayBegin_57 : decode cX10_mayBegin 57 = .ok (.iconst 1, 1) := by decide +kernel
theorem dX10_mayBegin_58 : decode cX10_mayBegin 58 = .ok (.goto 4, 3) := by decide +kernel
theorem dX10_mayBegin_61 : decode cX10_mayBegin 61 = .ok (.iconst 0, 1) := by decide +kernel
theorem dX10_mayBegin_62 : decode cX10_mayBegin 62 = .ok (.ireturn, 1) := by decide +kernel
theorem dX10_mayBegin_63 : decode cX10_mayBegin 63 = .ok (.aload_n 0, 1) := by decide +kernel
theorem dX10_mayBegin_64 : decode cX10_mayBegin 64 = .ok (.getfield 80, 3) := by decide +kernel
theorem dX10_mayBegin_67 : decode cX10_mayBegin 67 = .ok (.bipush 120, 2) := by decide +kernel
theorem dX10_mayBegin_69 : decode cX10_mayBegin 69 = .ok (.if_icmp .eq 22, 3) := by decide +kernel
theorem dX10_mayBegin_72 : decode cX10_mayBegin 72 = .ok (.aload_n 0, 1) := by decide +kernel
theorem dX10_mayBegin_73 : decode cX10_mayBegin 73 = .ok (.getfield 101, 3) := by decide +kernel
theorem dX10_mayBegin_76 : decode cX10_mayBegin 76 = .ok (.aload_n 0, 1) := by decide +kernel
theorem dX10_mayBegin_77 : decode cX10_mayBegin 77 = .ok (.getfield 80, 3) := by decide +kernel
theorem dX10_mayBegin_80 : decode cX10_mayBegin 80 = .ok (.invokestatic 107, 3) := by decide +kernel
theorem dX10_mayBegin_83 : decode cX10_mayBegin 83 = .ok (.iand, 1) := by decide +kernel
theorem dX10_mayBegin_84 : decode cX10_mayBegin 84 = .ok (.ifCond .ne 7, 3) := by decide +kernel
theorem dX10_mayBegin_87 : decode cX10_mayBegin 87 = .ok (.iconst 1, 1) := by decide +kernel
theorem dX10_mayBegin_88 : decode cX10_mayBegin 88 = .ok (.goto 4, 3) := by decide +kernel
theorem dX10_mayBegin_91 : decode cX10_mayBegin 91 = .ok (.iconst 0, 1) := by decide +kernel
theorem dX10_mayBegin_92 : decode cX10_mayBegin 92 = .ok (.ireturn, 1) := by decide +kernel
theorem dX10_readsRow_0 : decode cX10_readsRow 0 = .ok (.iconst 0, 1) := by decide +kernel
theorem dX10_readsRow_1 : decode cX10_readsRow 1 = .ok (.istore_n 1, 1) := by decide +kernel
theorem dX10_readsRow_2 : decode cX10_readsRow 2 = .ok (.iload_n 1, 1) := by decide +kernel
theorem dX10_readsRow_3 : decode cX10_readsRow 3 = .ok (.aload_n 0, 1) := by decide +kernel
theorem dX10_readsRow_4 : decode cX10_readsRow 4 = .ok (.getfield 13, 3) := by decide +kernel
theorem dX10_readsRow_7 : decode cX10_readsRow 7 = .ok (.iconst 5, 1) := by decide +kernel
theorem dX10_readsRow_8 : decode cX10_readsRow 8 = .ok (.iaload, 1) := by decide +kernel
theorem dX10_readsRow_9 : decode cX10_readsRow 9 = .ok (.if_icmp .ge 114, 3) := by decide +kernel
theorem dX10_readsRow_12 : decode cX10_readsRow 12 = .ok (.iconst 5, 1) := by decide +kernel
theorem dX10_readsRow_13 : decode cX10_readsRow 13 = .ok (.aload_n 0, 1) := by decide +kernel
theorem dX10_readsRow_14 : decode cX10_readsRow 14 = .ok (.getfield 13, 3) := by decide +kernel
theorem dX10_readsRow_17 : decode cX10_readsRow 17 = .ok (.bipush 6, 2) := by decide +kernel
theorem dX10_readsRow_19 : decode cX10_readsRow 19 = .ok (.iaload, 1) := by decide +kernel
theorem dX10_readsRow_20 : decode cX10_readsRow 20 = .ok (.imul, 1) := by decide +kernel
theorem dX10_readsRow_21 : decode cX10_readsRow 21 = .ok (.iload_n 1, 1) := by decide +kernel
theorem dX10_readsRow_22 : decode cX10_readsRow 22 = .ok (.iadd, 1) := by decide +kernel
theorem dX10_readsRow_23 : decode cX10_readsRow 23 = .ok (.istore_n 2, 1) := by decide +kernel
theorem dX10_readsRow_24 : decode cX10_readsRow 24 = .ok (.aload_n 0, 1) := by decide +kernel
theorem dX10_readsRow_25 : decode cX10_readsRow 25 = .ok (.getfield 77, 3) := by decide +kernel
theorem dX10_readsRow_28 : decode cX10_readsRow 28 = .ok (.iconst 1, 1) := by decide +kernel
theorem dX10_readsRow_29 : decode cX10_readsRow 29 = .ok (.if_icmp .ne 16, 3) := by decide +kernel
theorem dX10_readsRow_32 : decode cX10_readsRow 32 = .ok (.aload_n 0, 1) := by decide +kernel
theorem dX10_readsRow_33 : decode cX10_readsRow 33 = .ok (.getfield 80, 3) := by decide +kernel
theorem dX10_readsRow_36 : decode cX10_readsRow 36 = .ok (.bipush 120, 2) := by decide +kernel
theorem dX10_readsRow_38 : decode cX10_readsRow 38 = .ok (.if_icmp .ne 7, 3) := by decide +kernel
theorem dX10_readsRow_41 : decode cX10_readsRow 41 = .ok (.iconst 1, 1) := by decide +kernel
theorem dX10_readsRow_42 : decode cX10_readsRow 42 = .ok (.goto 4, 3) := by decide +kernel
theorem dX10_readsRow_45 : decode cX10_readsRow 45 = .ok (.iconst 0, 1) := by decide +kernel
theorem dX10_readsRow_46 : decode cX10_readsRow 46 = .ok (.istore_n 3, 1) := by decide +kernel
theorem dX10_readsRow_47 : decode cX10_readsRow 47 = .ok (.aload_n 0, 1) := by decide +kernel
theorem dX10_readsRow_48 : decode cX10_readsRow 48 = .ok (.iload_n 3, 1) := by decide +kernel
theorem dX10_readsRow_49 : decode cX10_readsRow 49 = .ok (.ifCond .ne 20, 3) := by decide +kernel
theorem dX10_readsRow_52 : decode cX10_readsRow 52 = .ok (.aload_n 0, 1) := by decide +kernel
theorem dX10_readsRow_53 : decode cX10_readsRow 53 = .ok (.getfield 77, 3) := by decide +kernel
theorem dX10_readsRow_56 : decode cX10_readsRow 56 = .ok (.iconst 2, 1) := by decide +kernel
theorem dX10_readsRow_57 : decode cX10_readsRow 57 = .ok (.if_icmp .ne 16, 3) := by decide +kernel
theorem dX10_readsRow_60 : decode cX10_readsRow 60 = .ok (.aload_n 0, 1) := by decide +kernel
theorem dX10_readsRow_61 : decode cX10_readsRow 61 = .ok (.getfield 80, 3) := by decide +kernel
theorem dX10_readsRow_64 : decode cX10_readsRow 64 = .ok (.bipush 8, 2) := by decide +kernel
theorem dX10_readsRow_66 : decode cX10_readsRow 66 = .ok (.if_icmp .gt 7, 3) := by decide +kernel
theorem dX10_readsRow_69 : decode cX10_readsRow 69 = .ok (.iconst 1, 1) := by decide +kernel
theorem dX10_readsRow_70 : decode cX10_readsRow 70 = .ok (.goto 4, 3) := by decide +kernel
theorem dX10_readsRow_73 : decode cX10_readsRow 73 = .ok (.iconst 0, 1) := by decide +kernel
theorem dX10_readsRow_74 : decode cX10_readsRow 74 = .ok (.invokevirtual 97, 3) := by decide +kernel
theorem dX10_readsRow_77 : decode cX10_readsRow 77 = .ok (.istore 4, 2) := by decide +kernel
theorem dX10_readsRow_79 : decode cX10_readsRow 79 = .ok (.aload_n 0, 1) := by decide +kernel
theorem dX10_readsRow_80 : decode cX10_readsRow 80 = .ok (.getfield 16, 3) := by decide +kernel
theorem dX10_readsRow_83 : decode cX10_readsRow 83 = .ok (.iload_n 2, 1) := by decide +kernel
theorem dX10_readsRow_84 : decode cX10_readsRow 84 = .ok (.iload_n 3, 1) := by decide +kernel
theorem dX10_readsRow_85 : decode cX10_readsRow 85 = .ok (.ifCond .eq 7, 3) := by decide +kernel
theorem dX10_readsRow_88 : decode cX10_readsRow 88 = .ok (.iconst 0, 1) := by decide +kernel
theorem dX10_readsRow_89 : decode cX10_readsRow 89 = .ok (.goto 7, 3) := by decide +kernel
theorem dX10_readsRow_92 : decode cX10_readsRow 92 = .ok (.iload 4, 2) := by decide +kernel
theorem dX10_readsRow_94 : decode cX10_readsRow 94 = .ok (.iconst 4, 1) := by decide +kernel
theorem dX10_readsRow_95 : decode cX10_readsRow 95 = .ok (.isub, 1) := by decide +kernel
theorem dX10_readsRow_96 : decode cX10_readsRow 96 = .ok (.iastore, 1) := by decide +kernel
theorem dX10_readsRow_97 : decode cX10_readsRow 97 = .ok (.aload_n 0, 1) := by decide +kernel
theorem dX10_readsRow_98 : decode cX10_readsRow 98 = .ok (.dup, 1) := by decide +kernel
theorem dX10_readsRow_99 : decode cX10_readsRow 99 = .ok (.getfield 104, 3) := by decide +kernel
theorem dX10_readsRow_102 : decode cX10_readsRow 102 = .ok (.iload_n 3, 1) := by decide +kernel
theorem dX10_readsRow_103 : decode cX10_readsRow 103 = .ok (.ifCond .eq 9, 3) := by decide +kernel
theorem dX10_readsRow_106 : decode cX10_readsRow 106 = .ok (.iconst 1, 1) := by decide +kernel
theorem dX10_readsRow_107 : decode cX10_readsRow 107 = .ok (.iload_n 2, 1) := by decide +kernel
theorem dX10_readsRow_108 : decode cX10_readsRow 108 = .ok (.ishl, 1) := by decide +kernel
theorem dX10_readsRow_109 : decode cX10_readsRow 109 = .ok (.goto 4, 3) := by decide +kernel
theorem dX10_readsRow_112 : decode cX10_readsRow 112 = .ok (.iconst 0, 1) := by decide +kernel
theorem dX10_readsRow_113 : decode cX10_readsRow 113 = .ok (.ior, 1) := by decide +kernel
theorem dX10_readsRow_114 : decode cX10_readsRow 114 = .ok (.putfield 104, 3) := by decide +kernel
theorem dX10_readsRow_117 : decode cX10_readsRow 117 = .ok (.iinc 1 1, 3) := by decide +kernel
theorem dX10_readsRow_120 : decode cX10_readsRow 120 = .ok (.goto (-118), 3) := by decide +kernel
theorem dX10_readsRow_123 : decode cX10_readsRow 123 = .ok (.aload_n 0, 1) := by decide +kernel
theorem dX10_readsRow_124 : decode cX10_readsRow 124 = .ok (.getfield 13, 3) := by decide +kernel
theorem dX10_readsRow_127 : decode cX10_readsRow 127 = .ok (.bipush 6, 2) := by decide +kernel
theorem dX10_readsRow_129 : decode cX10_readsRow 129 = .ok (.dup2, 1) := by decide +kernel
theorem dX10_readsRow_130 : decode cX10_readsRow 130 = .ok (.iaload, 1) := by decide +kernel
theorem dX10_readsRow_131 : decode cX10_readsRow 131 = .ok (.iconst 1, 1) := by decide +kernel
theorem dX10_readsRow_132 : decode cX10_readsRow 132 = .ok (.iadd, 1) := by decide +kernel
theorem dX10_readsRow_133 : decode cX10_readsRow 133 = .ok (.iastore, 1) := by decide +kernel
theorem dX10_readsRow_134 : decode cX10_readsRow 134 = .ok (.return_, 1) := by decide +kernel
theorem dX10_readsStart_0 : decode cX10_readsStart 0 = .ok (.aload_n 0, 1) := by decide +kernel
theorem dX10_readsStart_1 : decode cX10_readsStart 1 = .ok (.iconst 0, 1) := by decide +kernel
theorem dX10_readsStart_2 : decode cX10_readsStart 2 = .ok (.aload_n 0, 1) := by decide +kernel
theorem dX10_readsStart_3 : decode cX10_readsStart 3 = .ok (.getfield 13, 3) := by decide +kernel
theorem dX10_readsStart_6 : decode cX10_readsStart 6 = .ok (.iconst 5, 1) := by decide +kernel
theorem dX10_readsStart_7 : decode cX10_readsStart 7 = .ok (.iaload, 1) := by decide +kernel
theorem dX10_readsStart_8 : decode cX10_readsStart 8 = .ok (.iconst 1, 1) := by decide +kernel
theorem dX10_readsStart_9 : decode cX10_readsStart 9 = .ok (.isub, 1) := by decide +kernel
theorem dX10_readsStart_10 : decode cX10_readsStart 10 = .ok (.invokevirtual 110, 3) := by decide +kernel
theorem dX10_readsStart_13 : decode cX10_readsStart 13 = .ok (.istore_n 1, 1) := by decide +kernel
theorem dX10_readsStart_14 : decode cX10_readsStart 14 = .ok (.aload_n 0, 1) := by decide +kernel
theorem dX10_readsStart_15 : decode cX10_readsStart 15 = .ok (.getfield 77, 3) := by decide +kernel
theorem dX10_readsStart_18 : decode cX10_readsStart 18 = .ok (.iconst 2, 1) := by decide +kernel
theorem dX10_readsStart_19 : decode cX10_readsStart 19 = .ok (.if_icmp .ne 27, 3) := by decide +kernel
theorem dX10_readsStart_22 : decode cX10_readsStart 22 = .ok (.aload_n 0, 1) := by decide +kernel
theorem dX10_readsStart_23 : decode cX10_readsStart 23 = .ok (.getfield 80, 3) := by decide +kernel
theorem dX10_readsStart_26 : decode cX10_readsStart 26 = .ok (.iconst 0, 1) := by decide +kernel
theorem dX10_readsStart_27 : decode cX10_readsStart 27 = .ok (.aload_n 0, 1) := by decide +kernel
theorem dX10_readsStart_28 : decode cX10_readsStart 28 = .ok (.getfield 13, 3) := by decide +kernel
theorem dX10_readsStart_31 : decode cX10_readsStart 31 = .ok (.bipush 6, 2) := by decide +kernel
theorem dX10_readsStart_33 : decode cX10_readsStart 33 = .ok (.iaload, 1) := by decide +kernel
theorem dX10_readsStart_34 : decode cX10_readsStart 34 = .ok (.iconst 1, 1) := by decide +kernel
theorem dX10_readsStart_35 : decode cX10_readsStart 35 = .ok (.isub, 1) := by decide +kernel
theorem dX10_readsStart_36 : decode cX10_readsStart 36 = .ok (.invokestatic 60, 3) := by decide +kernel
theorem dX10_readsStart_39 : decode cX10_readsStart 39 = .ok (.ifCond .eq 7, 3) := by decide +kernel
theorem dX10_readsStart_42 : decode cX10_readsStart 42 = .ok (.iconst 1, 1) := by decide +kernel
theorem dX10_readsStart_43 : decode cX10_readsStart 43 = .ok (.goto 4, 3) := by decide +kernel
theorem dX10_readsStart_46 : decode cX10_readsStart 46 = .ok (.iconst 0, 1) := by decide +kernel
theorem dX10_readsStart_47 : decode cX10_readsStart 47 = .ok (.istore_n 2, 1) := by decide +kernel
theorem dX10_readsStart_48 : decode cX10_readsStart 48 = .ok (.iload_n 2, 1) := by decide +kernel
theorem dX10_readsStart_49 : decode cX10_readsStart 49 = .ok (.ifCond .eq 14, 3) := by decide +kernel
theorem dX10_readsStart_52 : decode cX10_readsStart 52 = .ok (.iconst 5, 1) := by decide +kernel
theorem dX10_readsStart_53 : decode cX10_readsStart 53 = .ok (.aload_n 0, 1) := by decide +kernel
theorem dX10_readsStart_54 : decode cX10_readsStart 54 = .ok (.getfield 80, 3) := by decide +kernel
theorem dX10_readsStart_57 : decode cX10_readsStart 57 = .ok (.imul, 1) := by decide +kernel
theorem dX10_readsStart_58 : decode cX10_readsStart 58 = .ok (.iload_n 1, 1) := by decide +kernel
theorem dX10_readsStart_59 : decode cX10_readsStart 59 = .ok (.iadd, 1) := by decide +kernel
theorem dX10_readsStart_60 : decode cX10_readsStart 60 = .ok (.goto 4, 3) := by decide +kernel
theorem dX10_readsStart_63 : decode cX10_readsStart 63 = .ok (.iconst 0, 1) := by decide +kernel
theorem dX10_readsStart_64 : decode cX10_readsStart 64 = .ok (.istore_n 3, 1) := by decide +kernel
theorem dX10_readsStart_65 : decode cX10_readsStart 65 = .ok (.aload_n 0, 1) := by decide +kernel
theorem dX10_readsStart_66 : decode cX10_readsStart 66 = .ok (.iload_n 2, 1) := by decide +kernel
theorem dX10_readsStart_67 : decode cX10_readsStart 67 = .ok (.ifCond .eq 18, 3) := by decide +kernel
theorem dX10_readsStart_70 : decode cX10_readsStart 70 = .ok (.aload_n 0, 1) := by decide +kernel
theorem dX10_readsStart_71 : decode cX10_readsStart 71 = .ok (.getfield 104, 3) := by decide +kernel
theorem dX10_readsStart_74 : decode cX10_readsStart 74 = .ok (.iload_n 3, 1) := by decide +kernel
theorem dX10_readsStart_75 : decode cX10_readsStart 75 = .ok (.ishr, 1) := by decide +kernel
theorem dX10_readsStart_76 : decode cX10_readsStart 76 = .ok (.iconst 1, 1) := by decide +kernel
theorem dX10_readsStart_77 : decode cX10_readsStart 77 = .ok (.iand, 1) := by decide +kernel
theorem dX10_readsStart_78 : decode cX10_readsStart 78 = .ok (.ifCond .ne 7, 3) := by decide +kernel
theorem dX10_readsStart_81 : decode cX10_readsStart 81 = .ok (.iconst 1, 1) := by decide +kernel
theorem dX10_readsStart_82 : decode cX10_readsStart 82 = .ok (.goto 4, 3) := by decide +kernel
theorem dX10_readsStart_85 : decode cX10_readsStart 85 = .ok (.iconst 0, 1) := by decide +kernel
theorem dX10_readsStart_86 : decode cX10_readsStart 86 = .ok (.invokevirtual 97, 3) := by decide +kernel
theorem dX10_readsStart_89 : decode cX10_readsStart 89 = .ok (.pop, 1) := by decide +kernel
theorem dX10_readsStart_90 : decode cX10_readsStart 90 = .ok (.aload_n 0, 1) := by decide +kernel
theorem dX10_readsStart_91 : decode cX10_readsStart 91 = .ok (.getfield 13, 3) := by decide +kernel
theorem dX10_readsStart_94 : decode cX10_readsStart 94 = .ok (.bipush 7, 2) := by decide +kernel
theorem dX10_readsStart_96 : decode cX10_readsStart 96 = .ok (.iload_n 3, 1) := by decide +kernel
theorem dX10_readsStart_97 : decode cX10_readsStart 97 = .ok (.iastore, 1) := by decide +kernel
theorem dX10_readsStart_98 : decode cX10_readsStart 98 = .ok (.return_, 1) := by decide +kernel
theorem dX10_readsItem_0 : decode cX10_readsItem 0 = .ok (.iload_n 1, 1) := by decide +kernel
theorem dX10_readsItem_1 : decode cX10_readsItem 1 = .ok (.bipush 119, 2) := by decide +kernel
theorem dX10_readsItem_3 : decode cX10_readsItem 3 = .ok (.if_icmp .ne 18, 3) := by decide +kernel
theorem dX10_readsItem_6 : decode cX10_readsItem 6 = .ok (.aload_n 0, 1) := by decide +kernel
theorem dX10_readsItem_7 : decode cX10_readsItem 7 = .ok (.getfield 13, 3) := by decide +kernel
theorem dX10_readsItem_10 : decode cX10_readsItem 10 = .ok (.iconst 5, 1) := by decide +kernel
theorem dX10_readsItem_11 : decode cX10_readsItem 11 = .ok (.aload_n 0, 1) := by decide +kernel
theorem dX10_readsItem_12 : decode cX10_readsItem 12 = .ok (.iconst 1, 1) := by decide +kernel
theorem dX10_readsItem_13 : decode cX10_readsItem 13 = .ok (.iconst 5, 1) := by decide +kernel
theorem dX10_readsItem_14 : decode cX10_readsItem 14 = .ok (.invokevirtual 110, 3) := by decide +kernel
theorem dX10_readsItem_17 : decode cX10_readsItem 17 = .ok (.iastore, 1) := by decide +kernel
theorem dX10_readsItem_18 : decode cX10_readsItem 18 = .ok (.goto 80, 3) := by decide +kernel
theorem dX10_readsItem_21 : decode cX10_readsItem 21 = .ok (.iload_n 1, 1) := by decide +kernel
theorem dX10_readsItem_22 : decode cX10_readsItem 22 = .ok (.bipush 114, 2) := by decide +kernel
theorem dX10_readsItem_24 : decode cX10_readsItem 24 = .ok (.if_icmp .ne 10, 3) := by decide +kernel
theorem dX10_readsItem_27 : decode cX10_readsItem 27 = .ok (.aload_n 0, 1) := by decide +kernel
theorem dX10_readsItem_28 : decode cX10_readsItem 28 = .ok (.invokevirtual 114, 3) := by decide +kernel
theorem dX10_readsItem_31 : decode cX10_readsItem 31 = .ok (.goto 67, 3) := by decide +kernel
theorem dX10_readsItem_34 : decode cX10_readsItem 34 = .ok (.iload_n 1, 1) := by decide +kernel
theorem dX10_readsItem_35 : decode cX10_readsItem 35 = .ok (.bipush 98, 2) := by decide +kernel
theorem dX10_readsItem_37 : decode cX10_readsItem 37 = .ok (.if_icmp .ne 10, 3) := by decide +kernel
theorem dX10_readsItem_40 : decode cX10_readsItem 40 = .ok (.aload_n 0, 1) := by decide +kernel
theorem dX10_readsItem_41 : decode cX10_readsItem 41 = .ok (.invokevirtual 117, 3) := by decide +kernel
theorem dX10_readsItem_44 : decode cX10_readsItem 44 = .ok (.goto 41, 3) := by decide +kernel
theorem dX10_readsItem_47 : decode cX10_readsItem 47 = .ok (.iload_n 1, 1) := by decide +kernel
theorem dX10_readsItem_48 : decode cX10_readsItem 48 = .ok (.bipush 107, 2) := by decide +kernel
theorem dX10_readsItem_50 : decode cX10_readsItem 50 = .ok (.if_icmp .ne 20, 3) := by decide +kernel
theorem dX10_readsItem_53 : decode cX10_readsItem 53 = .ok (.aload_n 0, 1) := by decide +kernel
theorem dX10_readsItem_54 : decode cX10_readsItem 54 = .ok (.getfield 13, 3) := by decide +kernel
theorem dX10_readsItem_57 : decode cX10_readsItem 57 = .ok (.bipush 8, 2) := by decide +kernel
theorem dX10_readsItem_59 : decode cX10_readsItem 59 = .ok (.aload_n 0, 1) := by decide +kernel
theorem dX10_readsItem_60 : decode cX10_readsItem 60 = .ok (.iconst 2, 1) := by decide +kernel
theorem dX10_readsItem_61 : decode cX10_readsItem 61 = .ok (.bipush 9, 2) := by decide +kernel
theorem dX10_readsItem_63 : decode cX10_readsItem 63 = .ok (.invokevirtual 110, 3) := by decide +kernel
theorem dX10_readsItem_66 : decode cX10_readsItem 66 = .ok (.iastore, 1) := by decide +kernel
theorem dX10_readsItem_67 : decode cX10_readsItem 67 = .ok (.goto 18, 3) := by decide +kernel
theorem dX10_readsItem_70 : decode cX10_readsItem 70 = .ok (.aload_n 0, 1) := by decide +kernel
theorem dX10_readsItem_71 : decode cX10_readsItem 71 = .ok (.getfield 13, 3) := by decide +kernel
theorem dX10_readsItem_74 : decode cX10_readsItem 74 = .ok (.bipush 9, 2) := by decide +kernel
theorem dX10_readsItem_76 : decode cX10_readsItem 76 = .ok (.aload_n 0, 1) := by decide +kernel
theorem dX10_readsItem_77 : decode cX10_readsItem 77 = .ok (.iconst 0, 1) := by decide +kernel
theorem dX10_readsItem_78 : decode cX10_readsItem 78 = .ok (.iconst 4, 1) := by decide +kernel
theorem dX10_readsItem_79 : decode cX10_readsItem 79 = .ok (.invokevirtual 110, 3) := by decide +kernel
theorem dX10_readsItem_82 : decode cX10_readsItem 82 = .ok (.iconst 2, 1) := by decide +kernel
theorem dX10_readsItem_83 : decode cX10_readsItem 83 = .ok (.isub, 1) := by decide +kernel
theorem dX10_readsItem_84 : decode cX10_readsItem 84 = .ok (.iastore, 1) := by decide +kernel
theorem dX10_readsItem_85 : decode cX10_readsItem 85 = .ok (.aload_n 0, 1) := by decide +kernel
theorem dX10_readsItem_86 : decode cX10_readsItem 86 = .ok (.dup, 1) := by decide +kernel
theorem dX10_readsItem_87 : decode cX10_readsItem 87 = .ok (.getfield 101, 3) := by decide +kernel
theorem dX10_readsItem_90 : decode cX10_readsItem 90 = .ok (.iload_n 1, 1) := by decide +kernel
theorem dX10_readsItem_91 : decode cX10_readsItem 91 = .ok (.invokestatic 107, 3) := by decide +kernel
theorem dX10_readsItem_94 : decode cX10_readsItem 94 = .ok (.ior, 1) := by decide +kernel
theorem dX10_readsItem_95 : decode cX10_readsItem 95 = .ok (.putfield 101, 3) := by decide +kernel
theorem dX10_readsItem_98 : decode cX10_readsItem 98 = .ok (.return_, 1) := by decide +kernel
theorem dX10_yard_0 : decode cX10_yard 0 = .ok (.aload_n 0, 1) := by decide +kernel
theorem dX10_yard_1 : decode cX10_yard 1 = .ok (.iconst 0, 1) := by decide +kernel
theorem dX10_yard_2 : decode cX10_yard 2 = .ok (.putfield 56, 3) := by decide +kernel
theorem dX10_yard_5 : decode cX10_yard 5 = .ok (.aload_n 0, 1) := by decide +kernel
theorem dX10_yard_6 : decode cX10_yard 6 = .ok (.iconst (-1), 1) := by decide +kernel
theorem dX10_yard_7 : decode cX10_yard 7 = .ok (.putfield 87, 3) := by decide +kernel
theorem dX10_yard_10 : decode cX10_yard 10 = .ok (.aload_n 0, 1) := by decide +kernel
theorem dX10_yard_11 : decode cX10_yard 11 = .ok (.iconst 0, 1) := by decide +kernel
theorem dX10_yard_12 : decode cX10_yard 12 = .ok (.putfield 67, 3) := by decide +kernel
theorem dX10_yard_15 : decode cX10_yard 15 = .ok (.aload_n 0, 1) := by decide +kernel
theorem dX10_yard_16 : decode cX10_yard 16 = .ok (.invokevirtual 50, 3) := by decide +kernel
theorem dX10_yard_19 : decode cX10_yard 19 = .ok (.iconst 0, 1) := by decide +kernel
theorem dX10_yard_20 : decode cX10_yard 20 = .ok (.istore_n 1, 1) := by decide +kernel
theorem dX10_yard_21 : decode cX10_yard 21 = .ok (.aload_n 0, 1) := by decide +kernel
theorem dX10_yard_22 : decode cX10_yard 22 = .ok (.invokevirtual 94, 3) := by decide +kernel
theorem dX10_yard_25 : decode cX10_yard 25 = .ok (.aload_n 0, 1) := by decide +kernel
theorem dX10_yard_26 : decode cX10_yard 26 = .ok (.invokevirtual 90, 3) := by decide +kernel
theorem dX10_yard_29 : decode cX10_yard 29 = .ok (.ifCond .eq 72, 3) := by decide +kernel
theorem dX10_yard_32 : decode cX10_yard 32 = .ok (.aload_n 0, 1) := by decide +kernel
theorem dX10_yard_33 : decode cX10_yard 33 = .ok (.getfield 77, 3) := by decide +kernel
theorem dX10_yard_36 : decode cX10_yard 36 = .ok (.ifCond .eq 65, 3) := by decide +kernel
theorem dX10_yard_39 : decode cX10_yard 39 = .ok (.aload_n 0, 1) := by decide +kernel
theorem dX10_yard_40 : decode cX10_yard 40 = .ok (.aload_n 0, 1) := by decide +kernel
theorem dX10_yard_41 : decode cX10_yard 41 = .ok (.getfield 77, 3) := by decide +kernel
theorem dX10_yard_44 : decode cX10_yard 44 = .ok (.iconst 1, 1) := by decide +kernel
theorem dX10_yard_45 : decode cX10_yard 45 = .ok (.if_icmp .ne 15, 3) := by decide +kernel
theorem dX10_yard_48 : decode cX10_yard 48 = .ok (.aload_n 0, 1) := by decide +kernel
theorem dX10_yard_49 : decode cX10_yard 49 = .ok (.iload_n 1, 1) := by decide +kernel
theorem dX10_yard_50 : decode cX10_yard 50 = .ok (.invokevirtual 120, 3) := by decide +kernel
theorem dX10_yard_53 : decode cX10_yard 53 = .ok (.ifCond .eq 7, 3) := by decide +kernel
theorem dX10_yard_56 : decode cX10_yard 56 = .ok (.iconst 1, 1) := by decide +kernel
theorem dX10_yard_57 : decode cX10_yard 57 = .ok (.goto 4, 3) := by decide +kernel
theorem dX10_yard_60 : decode cX10_yard 60 = .ok (.iconst 0, 1) := by decide +kernel
theorem dX10_yard_61 : decode cX10_yard 61 = .ok (.invokevirtual 97, 3) := by decide +kernel
theorem dX10_yard_64 : decode cX10_yard 64 = .ok (.istore_n 2, 1) := by decide +kernel
theorem dX10_yard_65 : decode cX10_yard 65 = .ok (.aload_n 0, 1) := by decide +kernel
theorem dX10_yard_66 : decode cX10_yard 66 = .ok (.invokevirtual 90, 3) := by decide +kernel
theorem dX10_yard_69 : decode cX10_yard 69 = .ok (.ifCond .eq 8, 3) := by decide +kernel
theorem dX10_yard_72 : decode cX10_yard 72 = .ok (.aload_n 0, 1) := by decide +kernel
theorem dX10_yard_73 : decode cX10_yard 73 = .ok (.iload_n 2, 1) := by decide +kernel
theorem dX10_yard_74 : decode cX10_yard 74 = .ok (.invokevirtual 123, 3) := by decide +kernel
theorem dX10_yard_77 : decode cX10_yard 77 = .ok (.aload_n 0, 1) := by decide +kernel
theorem dX10_yard_78 : decode cX10_yard 78 = .ok (.aload_n 0, 1) := by decide +kernel
theorem dX10_yard_79 : decode cX10_yard 79 = .ok (.getfield 77, 3) := by decide +kernel
theorem dX10_yard_82 : decode cX10_yard 82 = .ok (.iconst 3, 1) := by decide +kernel
theorem dX10_yard_83 : decode cX10_yard 83 = .ok (.if_icmp .ne 7, 3) := by decide +kernel
theorem dX10_yard_86 : decode cX10_yard 86 = .ok (.iconst 1, 1) := by decide +kernel
theorem dX10_yard_87 : decode cX10_yard 87 = .ok (.goto 4, 3) := by decide +kernel
theorem dX10_yard_90 : decode cX10_yard 90 = .ok (.iconst 0, 1) := by decide +kernel
theorem dX10_yard_91 : decode cX10_yard 91 = .ok (.invokevirtual 97, 3) := by decide +kernel
theorem dX10_yard_94 : decode cX10_yard 94 = .ok (.pop, 1) := by decide +kernel
theorem dX10_yard_95 : decode cX10_yard 95 = .ok (.iinc 1 1, 3) := by decide +kernel
theorem dX10_yard_98 : decode cX10_yard 98 = .ok (.goto (-73), 3) := by decide +kernel
theorem dX10_yard_101 : decode cX10_yard 101 = .ok (.aload_n 0, 1) := by decide +kernel
theorem dX10_yard_102 : decode cX10_yard 102 = .ok (.invokevirtual 90, 3) := by decide +kernel
theorem dX10_yard_105 : decode cX10_yard 105 = .ok (.ifCond .ne 11, 3) := by decide +kernel
theorem dX10_yard_108 : decode cX10_yard 108 = .ok (.bipush (-10), 2) := by decide +kernel
theorem dX10_yard_110 : decode cX10_yard 110 = .ok (.aload_n 0, 1) := by decide +kernel
theorem dX10_yard_111 : decode cX10_yard 111 = .ok (.getfield 87, 3) := by decide +kernel
theorem dX10_yard_114 : decode cX10_yard 114 = .ok (.isub, 1) := by decide +kernel
theorem dX10_yard_115 : decode cX10_yard 115 = .ok (.ireturn, 1) := by decide +kernel
theorem dX10_yard_116 : decode cX10_yard 116 = .ok (.aload_n 0, 1) := by decide +kernel
theorem dX10_yard_117 : decode cX10_yard 117 = .ok (.invokevirtual 53, 3) := by decide +kernel
theorem dX10_yard_120 : decode cX10_yard 120 = .ok (.iload_n 1, 1) := by decide +kernel
theorem dX10_yard_121 : decode cX10_yard 121 = .ok (.ireturn, 1) := by decide +kernel
theorem dX10_settles_0 : decode cX10_settles 0 = .ok (.iconst 0, 1) := by decide +kernel
theorem dX10_settles_1 : decode cX10_settles 1 = .ok (.istore_n 1, 1) := by decide +kernel
theorem dX10_settles_2 : decode cX10_settles 2 = .ok (.iload_n 1, 1) := by decide +kernel
theorem dX10_settles_3 : decode cX10_settles 3 = .ok (.iconst 5, 1) := by decide +kernel
theorem dX10_settles_4 : decode cX10_settles 4 = .ok (.if_icmp .ge 23, 3) := by decide +kernel
theorem dX10_settles_7 : decode cX10_settles 7 = .ok (.aload_n 0, 1) := by decide +kernel
theorem dX10_settles_8 : decode cX10_settles 8 = .ok (.getfield 13, 3) := by decide +kernel
theorem dX10_settles_11 : decode cX10_settles 11 = .ok (.iload_n 1, 1) := by decide +kernel
theorem dX10_settles_12 : decode cX10_settles 12 = .ok (.aload_n 0, 1) := by decide +kernel
theorem dX10_settles_13 : decode cX10_settles 13 = .ok (.getfield 13, 3) := by decide +kernel
theorem dX10_settles_16 : decode cX10_settles 16 = .ok (.iconst 5, 1) := by decide +kernel
theorem dX10_settles_17 : decode cX10_settles 17 = .ok (.iload_n 1, 1) := by decide +kernel
theorem dX10_settles_18 : decode cX10_settles 18 = .ok (.iadd, 1) := by decide +kernel
theorem dX10_settles_19 : decode cX10_settles 19 = .ok (.iaload, 1) := by decide +kernel
theorem dX10_settles_20 : decode cX10_settles 20 = .ok (.iastore, 1) := by decide +kernel
theorem dX10_settles_21 : decode cX10_settles 21 = .ok (.iinc 1 1, 3) := by decide +kernel
theorem dX10_settles_24 : decode cX10_settles 24 = .ok (.goto (-22), 3) := by decide +kernel
theorem dX10_settles_27 : decode cX10_settles 27 = .ok (.aload_n 0, 1) := by decide +kernel
theorem dX10_settles_28 : decode cX10_settles 28 = .ok (.aload_n 0, 1) := by decide +kernel
theorem dX10_settles_29 : decode cX10_settles 29 = .ok (.getfield 104, 3) := by decide +kernel
theorem dX10_settles_32 : decode cX10_settles 32 = .ok (.putfield 127, 3) := by decide +kernel
theorem dX10_settles_35 : decode cX10_settles 35 = .ok (.iconst 0, 1) := by decide +kernel
theorem dX10_settles_36 : decode cX10_settles 36 = .ok (.istore_n 1, 1) := by decide +kernel
theorem dX10_settles_37 : decode cX10_settles 37 = .ok (.iload_n 1, 1) := by decide +kernel
theorem dX10_settles_38 : decode cX10_settles 38 = .ok (.bipush 27, 2) := by decide +kernel
theorem dX10_settles_40 : decode cX10_settles 40 = .ok (.if_icmp .ge 16, 3) := by decide +kernel
theorem dX10_settles_43 : decode cX10_settles 43 = .ok (.aload_n 0, 1) := by decide +kernel
theorem dX10_settles_44 : decode cX10_settles 44 = .ok (.getfield 19, 3) := by decide +kernel
theorem dX10_settles_47 : decode cX10_settles 47 = .ok (.iload_n 1, 1) := by decide +kernel
theorem dX10_settles_48 : decode cX10_settles 48 = .ok (.iconst 0, 1) := by decide +kernel
theorem dX10_settles_49 : decode cX10_settles 49 = .ok (.iastore, 1) := by decide +kernel
theorem dX10_settles_50 : decode cX10_settles 50 = .ok (.iinc 1 1, 3) := by decide +kernel
theorem dX10_settles_53 : decode cX10_settles 53 = .ok (.goto (-16), 3) := by decide +kernel
theorem dX10_settles_56 : decode cX10_settles 56 = .ok (.aload_n 0, 1) := by decide +kernel
theorem dX10_settles_57 : decode cX10_settles 57 = .ok (.getfield 19, 3) := by decide +kernel
theorem dX10_settles_60 : decode cX10_settles 60 = .ok (.iconst 0, 1) := by decide +kernel
theorem dX10_settles_61 : decode cX10_settles 61 = .ok (.aload_n 0, 1) := by decide +kernel
theorem dX10_settles_62 : decode cX10_settles 62 = .ok (.getfield 13, 3) := by decide +kernel
theorem dX10_settles_65 : decode cX10_settles 65 = .ok (.iconst 2, 1) := by decide +kernel
theorem dX10_settles_66 : decode cX10_settles 66 = .ok (.iaload, 1) := by decide +kernel
theorem dX10_settles_67 : decode cX10_settles 67 = .ok (.iastore, 1) := by decide +kernel
theorem dX10_settles_68 : decode cX10_settles 68 = .ok (.iconst 0, 1) := by decide +kernel
theorem dX10_settles_69 : decode cX10_settles 69 = .ok (.istore_n 1, 1) := by decide +kernel
theorem dX10_settles_70 : decode cX10_settles 70 = .ok (.iload_n 1, 1) := by decide +kernel
theorem dX10_settles_71 : decode cX10_settles 71 = .ok (.bipush 20, 2) := by decide +kernel
theorem dX10_settles_73 : decode cX10_settles 73 = .ok (.if_icmp .ge 41, 3) := by decide +kernel
theorem dX10_settles_76 : decode cX10_settles 76 = .ok (.aload_n 0, 1) := by decide +kernel
theorem dX10_settles_77 : decode cX10_settles 77 = .ok (.getfield 19, 3) := by decide +kernel
theorem dX10_settles_80 : decode cX10_settles 80 = .ok (.bipush 7, 2) := by decide +kernel
theorem dX10_settles_82 : decode cX10_settles 82 = .ok (.iload_n 1, 1) := by decide +kernel
theorem dX10_settles_83 : decode cX10_settles 83 = .ok (.iadd, 1) := by decide +kernel
theorem dX10_settles_84 : decode cX10_settles 84 = .ok (.aload_n 0, 1) := by decide +kernel
theorem dX10_settles_85 : decode cX10_settles 85 = .ok (.iload_n 1, 1) := by decide +kernel
theorem dX10_settles_86 : decode cX10_settles 86 = .ok (.iconst 5, 1) := by decide +kernel
theorem dX10_settles_87 : decode cX10_settles 87 = .ok (.irem, 1) := by decide +kernel
theorem dX10_settles_88 : decode cX10_settles 88 = .ok (.iload_n 1, 1) := by decide +kernel
theorem dX10_settles_89 : decode cX10_settles 89 = .ok (.iconst 5, 1) := by decide +kernel
theorem dX10_settles_90 : decode cX10_settles 90 = .ok (.idiv, 1) := by decide +kernel
theorem dX10_settles_91 : decode cX10_settles 91 = .ok (.invokevirtual 130, 3) := by decide +kernel
theorem dX10_settles_94 : decode cX10_settles 94 = .ok (.ifCond .eq 12, 3) := by decide +kernel
theorem dX10_settles_97 : decode cX10_settles 97 = .ok (.aload_n 0, 1) := by decide +kernel
theorem dX10_settles_98 : decode cX10_settles 98 = .ok (.getfield 16, 3) := by decide +kernel
theorem dX10_settles_101 : decode cX10_settles 101 = .ok (.iload_n 1, 1) := by decide +kernel
theorem dX10_settles_102 : decode cX10_settles 102 = .ok (.iaload, 1) := by decide +kernel
theorem dX10_settles_103 : decode cX10_settles 103 = .ok (.goto 4, 3) := by decide +kernel
theorem dX10_settles_106 : decode cX10_settles 106 = .ok (.iconst 0, 1) := by decide +kernel
theorem dX10_settles_107 : decode cX10_settles 107 = .ok (.iastore, 1) := by decide +kernel
theorem dX10_settles_108 : decode cX10_settles 108 = .ok (.iinc 1 1, 3) := by decide +kernel
theorem dX10_settles_111 : decode cX10_settles 111 = .ok (.goto (-41), 3) := by decide +kernel
theorem dX10_settles_114 : decode cX10_settles 114 = .ok (.aload_n 0, 1) := by decide +kernel
theorem dX10_settles_115 : decode cX10_settles 115 = .ok (.iconst 0, 1) := by decide +kernel
theorem dX10_settles_116 : decode cX10_settles 116 = .ok (.putfield 64, 3) := by decide +kernel
theorem dX10_settles_119 : decode cX10_settles 119 = .ok (.aload_n 0, 1) := by decide +kernel
theorem dX10_settles_120 : decode cX10_settles 120 = .ok (.iconst 0, 1) := by decide +kernel
theorem dX10_settles_121 : decode cX10_settles 121 = .ok (.putfield 134, 3) := by decide +kernel
theorem dX10_settles_124 : decode cX10_settles 124 = .ok (.aload_n 0, 1) := by decide +kernel
theorem dX10_settles_125 : decode cX10_settles 125 = .ok (.iconst 0, 1) := by decide +kernel
theorem dX10_settles_126 : decode cX10_settles 126 = .ok (.putfield 137, 3) := by decide +kernel
theorem dX10_settles_129 : decode cX10_settles 129 = .ok (.aload_n 0, 1) := by decide +kernel
theorem dX10_settles_130 : decode cX10_settles 130 = .ok (.getfield 25, 3) := by decide +kernel
theorem dX10_settles_133 : decode cX10_settles 133 = .ok (.iconst 0, 1) := by decide +kernel
theorem dX10_settles_134 : decode cX10_settles 134 = .ok (.iconst 0, 1) := by decide +kernel
theorem dX10_settles_135 : decode cX10_settles 135 = .ok (.bastore, 1) := by decide +kernel
theorem dX10_settles_136 : decode cX10_settles 136 = .ok (.aload_n 0, 1) := by decide +kernel
theorem dX10_settles_137 : decode cX10_settles 137 = .ok (.getfield 25, 3) := by decide +kernel
theorem dX10_settles_140 : decode cX10_settles 140 = .ok (.iconst 1, 1) := by decide +kernel
theorem dX10_settles_141 : decode cX10_settles 141 = .ok (.iconst 0, 1) := by decide +kernel
theorem dX10_settles_142 : decode cX10_settles 142 = .ok (.bastore, 1) := by decide +kernel
theorem dX10_settles_143 : decode cX10_settles 143 = .ok (.return_, 1) := by decide +kernel
theorem dX10_isCell_0 : decode cX10_isCell 0 = .ok (.iload_n 1, 1) := by decide +kernel
theorem dX10_isCell_1 : decode cX10_isCell 1 = .ok (.iconst 0, 1) := by decide +kernel
theorem dX10_isCell_2 : decode cX10_isCell 2 = .ok (.aload_n 0, 1) := by decide +kernel
theorem dX10_isCell_3 : decode cX10_isCell 3 = .ok (.getfield 13, 3) := by decide +kernel
theorem dX10_isCell_6 : decode cX10_isCell 6 = .ok (.iconst 0, 1) := by decide +kernel
theorem dX10_isCell_7 : decode cX10_isCell 7 = .ok (.iaload, 1) := by decide +kernel
theorem dX10_isCell_8 : decode cX10_isCell 8 = .ok (.iconst 1, 1) := by decide +kernel
theorem dX10_isCell_9 : decode cX10_isCell 9 = .ok (.isub, 1) := by decide +kernel
theorem dX10_isCell_10 : decode cX10_isCell 10 = .ok (.invokestatic 60, 3) := by decide +kernel
theorem dX10_isCell_13 : decode cX10_isCell 13 = .ok (.ifCond .eq 23, 3) := by decide +kernel
theorem dX10_isCell_16 : decode cX10_isCell 16 = .ok (.iload_n 2, 1) := by decide +kernel
theorem dX10_isCell_17 : decode cX10_isCell 17 = .ok (.iconst 0, 1) := by decide +kernel
theorem dX10_isCell_18 : decode cX10_isCell 18 = .ok (.aload_n 0, 1) := by decide +kernel
theorem dX10_isCell_19 : decode cX10_isCell 19 = .ok (.getfield 13, 3) := by decide +kernel
theorem dX10_isCell_22 : decode cX10_isCell 22 = .ok (.iconst 1, 1) := by decide +kernel
theorem dX10_isCell_23 : decode cX10_isCell 23 = .ok (.iaload, 1) := by decide +kernel
theorem dX10_isCell_24 : decode cX10_isCell 24 = .ok (.iconst 1, 1) := by decide +kernel
theorem dX10_isCell_25 : decode cX10_isCell 25 = .ok (.isub, 1) := by decide +kernel
theorem dX10_isCell_26 : decode cX10_isCell 26 = .ok (.invokestatic 60, 3) := by decide +kernel
theorem dX10_isCell_29 : decode cX10_isCell 29 = .ok (.ifCond .eq 7, 3) := by decide +kernel
theorem dX10_isCell_32 : decode cX10_isCell 32 = .ok (.iconst 1, 1) := by decide +kernel
theorem dX10_isCell_33 : decode cX10_isCell 33 = .ok (.goto 4, 3) := by decide +kernel
theorem dX10_isCell_36 : decode cX10_isCell 36 = .ok (.iconst 0, 1) := by decide +kernel
theorem dX10_isCell_37 : decode cX10_isCell 37 = .ok (.ireturn, 1) := by decide +kernel
theorem dX10_isGround_0 : decode cX10_isGround 0 = .ok (.aload_n 0, 1) := by decide +kernel
theorem dX10_isGround_1 : decode cX10_isGround 1 = .ok (.iload_n 1, 1) := by decide +kernel
theorem dX10_isGround_2 : decode cX10_isGround 2 = .ok (.iload_n 2, 1) := by decide +kernel
theorem dX10_isGround_3 : decode cX10_isGround 3 = .ok (.invokevirtual 130, 3) := by decide +kernel
theorem dX10_isGround_6 : decode cX10_isGround 6 = .ok (.ifCond .eq 22, 3) := by decide +kernel
theorem dX10_isGround_9 : decode cX10_isGround 9 = .ok (.aload_n 0, 1) := by decide +kernel
theorem dX10_isGround_10 : decode cX10_isGround 10 = .ok (.getfield 127, 3) := by decide +kernel
theorem dX10_isGround_13 : decode cX10_isGround 13 = .ok (.iconst 5, 1) := by decide +kernel
theorem dX10_isGround_14 : decode cX10_isGround 14 = .ok (.iload_n 2, 1) := by decide +kernel
theorem dX10_isGround_15 : decode cX10_isGround 15 = .ok (.imul, 1) := by decide +kernel
theorem dX10_isGround_16 : decode cX10_isGround 16 = .ok (.iload_n 1, 1) := by decide +kernel
theorem dX10_isGround_17 : decode cX10_isGround 17 = .ok (.iadd, 1) := by decide +kernel
theorem dX10_isGround_18 : decode cX10_isGround 18 = .ok (.ishr, 1) := by decide +kernel
theorem dX10_isGround_19 : decode cX10_isGround 19 = .ok (.iconst 1, 1) := by decide +kernel
theorem dX10_isGround_20 : decode cX10_isGround 20 = .ok (.iand, 1) := by decide +kernel
theorem dX10_isGround_21 : decode cX10_isGround 21 = .ok (.ifCond .ne 7, 3) := by decide +kernel
theorem dX10_isGround_24 : decode cX10_isGround 24 = .ok (.iconst 1, 1) := by decide +kernel
theorem dX10_isGround_25 : decode cX10_isGround 25 = .ok (.goto 4, 3) := by decide +kernel
theorem dX10_isGround_28 : decode cX10_isGround 28 = .ok (.iconst 0, 1) := by decide +kernel
theorem dX10_isGround_29 : decode cX10_isGround 29 = .ok (.ireturn, 1) := by decide +kernel
theorem dX10_hasStart_0 : decode cX10_hasStart 0 = .ok (.aload_n 0, 1) := by decide +kernel
theorem dX10_hasStart_1 : decode cX10_hasStart 1 = .ok (.getfield 13, 3) := by decide +kernel
theorem dX10_hasStart_4 : decode cX10_hasStart 4 = .ok (.iconst 2, 1) := by decide +kernel
theorem dX10_hasStart_5 : decode cX10_hasStart 5 = .ok (.iaload, 1) := by decide +kernel
theorem dX10_hasStart_6 : decode cX10_hasStart 6 = .ok (.bipush (-9), 2) := by decide +kernel
theorem dX10_hasStart_8 : decode cX10_hasStart 8 = .ok (.if_icmp .eq 7, 3) := by decide +kernel
theorem dX10_hasStart_11 : decode cX10_hasStart 11 = .ok (.iconst 1, 1) := by decide +kernel
theorem dX10_hasStart_12 : decode cX10_hasStart 12 = .ok (.goto 4, 3) := by decide +kernel
theorem dX10_hasStart_15 : decode cX10_hasStart 15 = .ok (.iconst 0, 1) := by decide +kernel
theorem dX10_hasStart_16 : decode cX10_hasStart 16 = .ok (.ireturn, 1) := by decide +kernel
theorem dX10_tilt_0 : decode cX10_tilt 0 = .ok (.aload_n 0, 1) := by decide +kernel
theorem dX10_tilt_1 : decode cX10_tilt 1 = .ok (.iconst 0, 1) := by decide +kernel
theorem dX10_tilt_2 : decode cX10_tilt 2 = .ok (.putfield 56, 3) := by decide +kernel
theorem dX10_tilt_5 : decode cX10_tilt 5 = .ok (.aload_n 0, 1) := by decide +kernel
theorem dX10_tilt_6 : decode cX10_tilt 6 = .ok (.iload_n 1, 1) := by decide +kernel
theorem dX10_tilt_7 : decode cX10_tilt 7 = .ok (.iload_n 2, 1) := by decide +kernel
theorem dX10_tilt_8 : decode cX10_tilt 8 = .ok (.invokevirtual 140, 3) := by decide +kernel
theorem dX10_tilt_11 : decode cX10_tilt 11 = .ok (.ifCond .eq 19, 3) := by decide +kernel
theorem dX10_tilt_14 : decode cX10_tilt 14 = .ok (.aload_n 0, 1) := by decide +kernel
theorem dX10_tilt_15 : decode cX10_tilt 15 = .ok (.getfield 19, 3) := by decide +kernel
theorem dX10_tilt_18 : decode cX10_tilt 18 = .ok (.bipush 7, 2) := by decide +kernel
theorem dX10_tilt_20 : decode cX10_tilt 20 = .ok (.iconst 5, 1) := by decide +kernel
theorem dX10_tilt_21 : decode cX10_tilt 21 = .ok (.iload_n 2, 1) := by decide +kernel
theorem dX10_tilt_22 : decode cX10_tilt 22 = .ok (.imul, 1) := by decide +kernel
theorem dX10_tilt_23 : decode cX10_tilt 23 = .ok (.iadd, 1) := by decide +kernel
theorem dX10_tilt_24 : decode cX10_tilt 24 = .ok (.iload_n 1, 1) := by decide +kernel
theorem dX10_tilt_25 : decode cX10_tilt 25 = .ok (.iadd, 1) := by decide +kernel
theorem dX10_tilt_26 : decode cX10_tilt 26 = .ok (.iaload, 1) := by decide +kernel
theorem dX10_tilt_27 : decode cX10_tilt 27 = .ok (.goto 5, 3) := by decide +kernel
theorem dX10_tilt_30 : decode cX10_tilt 30 = .ok (.ldc 143, 2) := by decide +kernel
theorem dX10_tilt_32 : decode cX10_tilt 32 = .ok (.ireturn, 1) := by decide +kernel
theorem dX10_now_0 : decode cX10_now 0 = .ok (.aload_n 0, 1) := by decide +kernel
theorem dX10_now_1 : decode cX10_now 1 = .ok (.iconst 0, 1) := by decide +kernel
theorem dX10_now_2 : decode cX10_now 2 = .ok (.putfield 56, 3) := by decide +kernel
theorem dX10_now_5 : decode cX10_now 5 = .ok (.iload_n 1, 1) := by decide +kernel
theorem dX10_now_6 : decode cX10_now 6 = .ok (.iconst 0, 1) := by decide +kernel
theorem dX10_now_7 : decode cX10_now 7 = .ok (.bipush 6, 2) := by decide +kernel
theorem dX10_now_9 : decode cX10_now 9 = .ok (.invokestatic 60, 3) := by decide +kernel
theorem dX10_now_12 : decode cX10_now 12 = .ok (.ifCond .eq 12, 3) := by decide +kernel
theorem dX10_now_15 : decode cX10_now 15 = .ok (.aload_n 0, 1) := by decide +kernel
theorem dX10_now_16 : decode cX10_now 16 = .ok (.getfield 19, 3) := by decide +kernel
theorem dX10_now_19 : decode cX10_now 19 = .ok (.iload_n 1, 1) := by decide +kernel
theorem dX10_now_20 : decode cX10_now 20 = .ok (.iaload, 1) := by decide +kernel
theorem dX10_now_21 : decode cX10_now 21 = .ok (.goto 18, 3) := by decide +kernel
theorem dX10_now_24 : decode cX10_now 24 = .ok (.iload_n 1, 1) := by decide +kernel
theorem dX10_now_25 : decode cX10_now 25 = .ok (.bipush 7, 2) := by decide +kernel
theorem dX10_now_27 : decode cX10_now 27 = .ok (.if_icmp .ne 10, 3) := by decide +kernel
theorem dX10_now_30 : decode cX10_now 30 = .ok (.aload_n 0, 1) := by decide +kernel
theorem dX10_now_31 : decode cX10_now 31 = .ok (.getfield 137, 3) := by decide +kernel
theorem dX10_now_34 : decode cX10_now 34 = .ok (.goto 5, 3) := by decide +kernel
theorem dX10_now_37 : decode cX10_now 37 = .ok (.ldc 143, 2) := by decide +kernel
theorem dX10_now_39 : decode cX10_now 39 = .ok (.ireturn, 1) := by decide +kernel
theorem dX10_notes_0 : decode cX10_notes 0 = .ok (.aload_n 0, 1) := by decide +kernel
theorem dX10_notes_1 : decode cX10_notes 1 = .ok (.getfield 137, 3) := by decide +kernel
theorem dX10_notes_4 : decode cX10_notes 4 = .ok (.bipush 10, 2) := by decide +kernel
theorem dX10_notes_6 : decode cX10_notes 6 = .ok (.if_icmp .ne 39, 3) := by decide +kernel
theorem dX10_notes_9 : decode cX10_notes 9 = .ok (.iconst 0, 1) := by decide +kernel
theorem dX10_notes_10 : decode cX10_notes 10 = .ok (.istore_n 1, 1) := by decide +kernel
theorem dX10_notes_11 : decode cX10_notes 11 = .ok (.iload_n 1, 1) := by decide +kernel
theorem dX10_notes_12 : decode cX10_notes 12 = .ok (.sipush 243, 3) := by decide +kernel
theorem dX10_notes_15 : decode cX10_notes 15 = .ok (.if_icmp .ge 24, 3) := by decide +kernel
theorem dX10_notes_18 : decode cX10_notes 18 = .ok (.aload_n 0, 1) := by decide +kernel
theorem dX10_notes_19 : decode cX10_notes 19 = .ok (.getfield 29, 3) := by decide +kernel
theorem dX10_notes_22 : decode cX10_notes 22 = .ok (.iload_n 1, 1) := by decide +kernel
theorem dX10_notes_23 : decode cX10_notes 23 = .ok (.aload_n 0, 1) := by decide +kernel
theorem dX10_notes_24 : decode cX10_notes 24 = .ok (.getfield 29, 3) := by decide +kernel
theorem dX10_notes_27 : decode cX10_notes 27 = .ok (.iload_n 1, 1) := by decide +kernel
theorem dX10_notes_28 : decode cX10_notes 28 = .ok (.bipush 27, 2) := by decide +kernel
theorem dX10_notes_30 : decode cX10_notes 30 = .ok (.iadd, 1) := by decide +kernel
theorem dX10_notes_31 : decode cX10_notes 31 = .ok (.iaload, 1) := by decide +kernel
theorem dX10_notes_32 : decode cX10_notes 32 = .ok (.iastore, 1) := by decide +kernel
theorem dX10_notes_33 : decode cX10_notes 33 = .ok (.iinc 1 1, 3) := by decide +kernel
theorem dX10_notes_36 : decode cX10_notes 36 = .ok (.goto (-25), 3) := by decide +kernel
theorem dX10_notes_39 : decode cX10_notes 39 = .ok (.aload_n 0, 1) := by decide +kernel
theorem dX10_notes_40 : decode cX10_notes 40 = .ok (.bipush 9, 2) := by decide +kernel
theorem dX10_notes_42 : decode cX10_notes 42 = .ok (.putfield 137, 3) := by decide +kernel
theorem dX10_notes_45 : decode cX10_notes 45 = .ok (.iconst 0, 1) := by decide +kernel
theorem dX10_notes_46 : decode cX10_notes 46 = .ok (.istore_n 1, 1) := by decide +kernel
theorem dX10_notes_47 : decode cX10_notes 47 = .ok (.iload_n 1, 1) := by decide +kernel
theorem dX10_notes_48 : decode cX10_notes 48 = .ok (.bipush 27, 2) := by decide +kernel
theorem dX10_notes_50 : decode cX10_notes 50 = .ok (.if_icmp .ge 29, 3) := by decide +kernel
theorem dX10_notes_53 : decode cX10_notes 53 = .ok (.aload_n 0, 1) := by decide +kernel
theorem dX10_notes_54 : decode cX10_notes 54 = .ok (.getfield 29, 3) := by decide +kernel
theorem dX10_notes_57 : decode cX10_notes 57 = .ok (.bipush 27, 2) := by decide +kernel
theorem dX10_notes_59 : decode cX10_notes 59 = .ok (.aload_n 0, 1) := by decide +kernel
theorem dX10_notes_60 : decode cX10_notes 60 = .ok (.getfield 137, 3) := by decide +kernel
theorem dX10_notes_63 : decode cX10_notes 63 = .ok (.imul, 1) := by decide +kernel
theorem dX10_notes_64 : decode cX10_notes 64 = .ok (.iload_n 1, 1) := by decide +kernel
theorem dX10_notes_65 : decode cX10_notes 65 = .ok (.iadd, 1) := by decide +kernel
theorem dX10_notes_66 : decode cX10_notes 66 = .ok (.aload_n 0, 1) := by decide +kernel
theorem dX10_notes_67 : decode cX10_notes 67 = .ok (.getfield 19, 3) := by decide +kernel
theorem dX10_notes_70 : decode cX10_notes 70 = .ok (.iload_n 1, 1) := by decide +kernel
theorem dX10_notes_71 : decode cX10_notes 71 = .ok (.iaload, 1) := by decide +kernel
theorem dX10_notes_72 : decode cX10_notes 72 = .ok (.iastore, 1) := by decide +kernel
theorem dX10_notes_73 : decode cX10_notes 73 = .ok (.iinc 1 1, 3) := by decide +kernel
theorem dX10_notes_76 : decode cX10_notes 76 = .ok (.goto (-29), 3) := by decide +kernel
theorem dX10_notes_79 : decode cX10_notes 79 = .ok (.aload_n 0, 1) := by decide +kernel
theorem dX10_notes_80 : decode cX10_notes 80 = .ok (.dup, 1) := by decide +kernel
theorem dX10_notes_81 : decode cX10_notes 81 = .ok (.getfield 137, 3) := by decide +kernel
theorem dX10_notes_84 : decode cX10_notes 84 = .ok (.iconst 1, 1) := by decide +kernel
theorem dX10_notes_85 : decode cX10_notes 85 = .ok (.iadd, 1) := by decide +kernel
theorem dX10_notes_86 : decode cX10_notes 86 = .ok (.putfield 137, 3) := by decide +kernel
theorem dX10_notes_89 : decode cX10_notes 89 = .ok (.return_, 1) := by decide +kernel
theorem dX10_comes_0 : decode cX10_comes 0 = .ok (.iload_n 1, 1) := by decide +kernel
theorem dX10_comes_1 : decode cX10_comes 1 = .ok (.iconst 5, 1) := by decide +kernel
theorem dX10_comes_2 : decode cX10_comes 2 = .ok (.irem, 1) := by decide +kernel
theorem dX10_comes_3 : decode cX10_comes 3 = .ok (.iload_n 3, 1) := by decide +kernel
theorem dX10_comes_4 : decode cX10_comes 4 = .ok (.iconst 1, 1) := by decide +kernel
theorem dX10_comes_5 : decode cX10_comes 5 = .ok (.if_icmp .ne 7, 3) := by decide +kernel
theorem dX10_comes_8 : decode cX10_comes 8 = .ok (.iconst 1, 1) := by decide +kernel
theorem dX10_comes_9 : decode cX10_comes 9 = .ok (.goto 13, 3) := by decide +kernel
theorem dX10_comes_12 : decode cX10_comes 12 = .ok (.iload_n 3, 1) := by decide +kernel
theorem dX10_comes_13 : decode cX10_comes 13 = .ok (.iconst 3, 1) := by decide +kernel
theorem dX10_comes_14 : decode cX10_comes 14 = .ok (.if_icmp .ne 7, 3) := by decide +kernel
theorem dX10_comes_17 : decode cX10_comes 17 = .ok (.iconst (-1), 1) := by decide +kernel
theorem dX10_comes_18 : decode cX10_comes 18 = .ok (.goto 4, 3) := by decide +kernel
theorem dX10_comes_21 : decode cX10_comes 21 = .ok (.iconst 0, 1) := by decide +kernel
theorem dX10_comes_22 : decode cX10_comes 22 = .ok (.iadd, 1) := by decide +kernel
theorem dX10_comes_23 : decode cX10_comes 23 = .ok (.istore 5, 2) := by decide +kernel
theorem dX10_comes_25 : decode cX10_comes 25 = .ok (.iload_n 1, 1) := by decide +kernel
theorem dX10_comes_26 : decode cX10_comes 26 = .ok (.iconst 5, 1) := by decide +kernel
theorem dX10_comes_27 : decode cX10_comes 27 = .ok (.idiv, 1) := by decide +kernel
theorem dX10_comes_28 : decode cX10_comes 28 = .ok (.iload_n 3, 1) := by decide +kernel
theorem dX10_comes_29 : decode cX10_comes 29 = .ok (.iconst 2, 1) := by decide +kernel
theorem dX10_comes_30 : decode cX10_comes 30 = .ok (.if_icmp .ne 7, 3) := by decide +kernel
theorem dX10_comes_33 : decode cX10_comes 33 = .ok (.iconst 1, 1) := by decide +kernel
theorem dX10_comes_34 : decode cX10_comes 34 = .ok (.goto 12, 3) := by decide +kernel
theorem dX10_comes_37 : decode cX10_comes 37 = .ok (.iload_n 3, 1) := by decide +kernel
theorem dX10_comes_38 : decode cX10_comes 38 = .ok (.ifCond .ne 7, 3) := by decide +kernel
theorem dX10_comes_41 : decode cX10_comes 41 = .ok (.iconst (-1), 1) := by decide +kernel
theorem dX10_comes_42 : decode cX10_comes 42 = .ok (.goto 4, 3) := by decide +kernel
theorem dX10_comes_45 : decode cX10_comes 45 = .ok (.iconst 0, 1) := by decide +kernel
theorem dX10_comes_46 : decode cX10_comes 46 = .ok (.iadd, 1) := by decide +kernel
theorem dX10_comes_47 : decode cX10_comes 47 = .ok (.istore 6, 2) := by decide +kernel
theorem dX10_comes_49 : decode cX10_comes 49 = .ok (.aload_n 0, 1) := by decide +kernel
theorem dX10_comes_50 : decode cX10_comes 50 = .ok (.iload 5, 2) := by decide +kernel
theorem dX10_comes_52 : decode cX10_comes 52 = .ok (.iload 6, 2) := by decide +kernel
theorem dX10_comes_54 : decode cX10_comes 54 = .ok (.invokevirtual 140, 3) := by decide +kernel
theorem dX10_comes_57 : decode cX10_comes 57 = .ok (.ifCond .ne 5, 3) := by decide +kernel
theorem dX10_comes_60 : decode cX10_comes 60 = .ok (.iconst 3, 1) := by decide +kernel
theorem dX10_comes_61 : decode cX10_comes 61 = .ok (.ireturn, 1) := by decide +kernel
theorem dX10_comes_62 : decode cX10_comes 62 = .ok (.aload_n 0, 1) := by decide +kernel
theorem dX10_comes_63 : decode cX10_comes 63 = .ok (.iconst 5, 1) := by decide +kernel
theorem dX10_comes_64 : decode cX10_comes 64 = .ok (.iload 6, 2) := by decide +kernel
theorem dX10_comes_66 : decode cX10_comes 66 = .ok (.imul, 1) := by decide +kernel
theorem dX10_comes_67 : decode cX10_comes 67 = .ok (.iload 5, 2) := by decide +kernel
theorem dX10_comes_69 : decode cX10_comes 69 = .ok (.iadd, 1) := by decide +kernel
theorem dX10_comes_70 : decode cX10_comes 70 = .ok (.putfield 144, 3) := by decide +kernel
theorem dX10_comes_73 : decode cX10_comes 73 = .ok (.aload_n 0, 1) := by decide +kernel
theorem dX10_comes_74 : decode cX10_comes 74 = .ok (.iload_n 2, 1) := by decide +kernel
theorem dX10_comes_75 : decode cX10_comes 75 = .ok (.aload_n 0, 1) := by decide +kernel
theorem dX10_comes_76 : decode cX10_comes 76 = .ok (.getfield 19, 3) := by decide +kernel
theorem dX10_comes_79 : decode cX10_comes 79 = .ok (.bipush 7, 2) := by decide +kernel
theorem dX10_comes_81 : decode cX10_comes 81 = .ok (.aload_n 0, 1) := by decide +kernel
theorem dX10_comes_82 : decode cX10_comes 82 = .ok (.getfield 144, 3) := by decide +kernel
theorem dX10_comes_85 : decode cX10_comes 85 = .ok (.iadd, 1) := by decide +kernel
theorem dX10_comes_86 : decode cX10_comes 86 = .ok (.iaload, 1) := by decide +kernel
theorem dX10_comes_87 : decode cX10_comes 87 = .ok (.iadd, 1) := by decide +kernel
theorem dX10_comes_88 : decode cX10_comes 88 = .ok (.iload 4, 2) := by decide +kernel
theorem dX10_comes_90 : decode cX10_comes 90 = .ok (.iadd, 1) := by decide +kernel
theorem dX10_comes_91 : decode cX10_comes 91 = .ok (.putfield 147, 3) := by decide +kernel
theorem dX10_comes_94 : decode cX10_comes 94 = .ok (.aload_n 0, 1) := by decide +kernel
theorem dX10_comes_95 : decode cX10_comes 95 = .ok (.getfield 147, 3) := by decide +kernel
theorem dX10_comes_98 : decode cX10_comes 98 = .ok (.aload_n 0, 1) := by decide +kernel
theorem dX10_comes_99 : decode cX10_comes 99 = .ok (.getfield 13, 3) := by decide +kernel
theorem dX10_comes_102 : decode cX10_comes 102 = .ok (.iconst 3, 1) := by decide +kernel
theorem dX10_comes_103 : decode cX10_comes 103 = .ok (.iaload, 1) := by decide +kernel
theorem dX10_comes_104 : decode cX10_comes 104 = .ok (.ineg, 1) := by decide +kernel
theorem dX10_comes_105 : decode cX10_comes 105 = .ok (.if_icmp .gt 7, 3) := by decide +kernel
theorem dX10_comes_108 : decode cX10_comes 108 = .ok (.iconst 1, 1) := by decide +kernel
theorem dX10_comes_109 : decode cX10_comes 109 = .ok (.goto 21, 3) := by decide +kernel
theorem dX10_comes_112 : decode cX10_comes 112 = .ok (.aload_n 0, 1) := by decide +kernel
theorem dX10_comes_113 : decode cX10_comes 113 = .ok (.getfield 147, 3) := by decide +kernel
theorem dX10_comes_116 : decode cX10_comes 116 = .ok (.aload_n 0, 1) := by decide +kernel
theorem dX10_comes_117 : decode cX10_comes 117 = .ok (.getfield 13, 3) := by decide +kernel
theorem dX10_comes_120 : decode cX10_comes 120 = .ok (.iconst 3, 1) := by decide +kernel
theorem dX10_comes_121 : decode cX10_comes 121 = .ok (.iaload, 1) := by decide +kernel
theorem dX10_comes_122 : decode cX10_comes 122 = .ok (.if_icmp .lt 7, 3) := by decide +kernel
theorem dX10_comes_125 : decode cX10_comes 125 = .ok (.iconst 2, 1) := by decide +kernel
theorem dX10_comes_126 : decode cX10_comes 126 = .ok (.goto 4, 3) := by decide +kernel
theorem dX10_comes_129 : decode cX10_comes 129 = .ok (.iconst 0, 1) := by decide +kernel
theorem dX10_comes_130 : decode cX10_comes 130 = .ok (.ireturn, 1) := by decide +kernel
theorem dX10_comesBy_0 : decode cX10_comesBy 0 = .ok (.aload_n 0, 1) := by decide +kernel
theorem dX10_comesBy_1 : decode cX10_comesBy 1 = .ok (.iload_n 1, 1) := by decide +kernel
theorem dX10_comesBy_2 : decode cX10_comesBy 2 = .ok (.iload_n 2, 1) := by decide +kernel
theorem dX10_comesBy_3 : decode cX10_comesBy 3 = .ok (.iload_n 3, 1) := by decide +kernel
theorem dX10_comesBy_4 : decode cX10_comesBy 4 = .ok (.aload_n 0, 1) := by decide +kernel
theorem dX10_comesBy_5 : decode cX10_comesBy 5 = .ok (.getfield 13, 3) := by decide +kernel
theorem dX10_comesBy_8 : decode cX10_comesBy 8 = .ok (.iconst 4, 1) := by decide +kernel
theorem dX10_comesBy_9 : decode cX10_comesBy 9 = .ok (.iaload, 1) := by decide +kernel
theorem dX10_comesBy_10 : decode cX10_comesBy 10 = .ok (.invokevirtual 150, 3) := by decide +kernel
theorem dX10_comesBy_13 : decode cX10_comesBy 13 = .ok (.ireturn, 1) := by decide +kernel
theorem dX10_pushes_0 : decode cX10_pushes 0 = .ok (.aload_n 0, 1) := by decide +kernel
theorem dX10_pushes_1 : decode cX10_pushes 1 = .ok (.iconst 0, 1) := by decide +kernel
theorem dX10_pushes_2 : decode cX10_pushes 2 = .ok (.putfield 56, 3) := by decide +kernel
theorem dX10_pushes_5 : decode cX10_pushes 5 = .ok (.iload_n 1, 1) := by decide +kernel
theorem dX10_pushes_6 : decode cX10_pushes 6 = .ok (.iconst 0, 1) := by decide +kernel
theorem dX10_pushes_7 : decode cX10_pushes 7 = .ok (.iconst 3, 1) := by decide +kernel
theorem dX10_pushes_8 : decode cX10_pushes 8 = .ok (.invokestatic 60, 3) := by decide +kernel
theorem dX10_pushes_11 : decode cX10_pushes 11 = .ok (.ifCond .ne 5, 3) := by decide +kernel
theorem dX10_pushes_14 : decode cX10_pushes 14 = .ok (.iconst (-1), 1) := by decide +kernel
theorem dX10_pushes_15 : decode cX10_pushes 15 = .ok (.ireturn, 1) := by decide +kernel
theorem dX10_pushes_16 : decode cX10_pushes 16 = .ok (.aload_n 0, 1) := by decide +kernel
theorem dX10_pushes_17 : decode cX10_pushes 17 = .ok (.invokevirtual 154, 3) := by decide +kernel
theorem dX10_pushes_20 : decode cX10_pushes 20 = .ok (.ifCond .eq 23, 3) := by decide +kernel
theorem dX10_pushes_23 : decode cX10_pushes 23 = .ok (.aload_n 0, 1) := by decide +kernel
theorem dX10_pushes_24 : decode cX10_pushes 24 = .ok (.aload_n 0, 1) := by decide +kernel
theorem dX10_pushes_25 : decode cX10_pushes 25 = .ok (.getfield 19, 3) := by decide +kernel
theorem dX10_pushes_28 : decode cX10_pushes 28 = .ok (.iconst 0, 1) := by decide +kernel
theorem dX10_pushes_29 : decode cX10_pushes 29 = .ok (.iaload, 1) := by decide +kernel
theorem dX10_pushes_30 : decode cX10_pushes 30 = .ok (.aload_n 0, 1) := by decide +kernel
theorem dX10_pushes_31 : decode cX10_pushes 31 = .ok (.getfield 19, 3) := by decide +kernel
theorem dX10_pushes_34 : decode cX10_pushes 34 = .ok (.iconst 1, 1) := by decide +kernel
theorem dX10_pushes_35 : decode cX10_pushes 35 = .ok (.iaload, 1) := by decide +kernel
theorem dX10_pushes_36 : decode cX10_pushes 36 = .ok (.iload_n 1, 1) := by decide +kernel
theorem dX10_pushes_37 : decode cX10_pushes 37 = .ok (.invokevirtual 157, 3) := by decide +kernel
theorem dX10_pushes_40 : decode cX10_pushes 40 = .ok (.goto 4, 3) := by decide +kernel
theorem dX10_pushes_43 : decode cX10_pushes 43 = .ok (.iconst 3, 1) := by decide +kernel
theorem dX10_pushes_44 : decode cX10_pushes 44 = .ok (.istore_n 2, 1) := by decide +kernel
theorem dX10_pushes_45 : decode cX10_pushes 45 = .ok (.iload_n 2, 1) := by decide +kernel
theorem dX10_pushes_46 : decode cX10_pushes 46 = .ok (.iconst 3, 1) := by decide +kernel
theorem dX10_pushes_47 : decode cX10_pushes 47 = .ok (.if_icmp .eq 27, 3) := by decide +kernel
theorem dX10_pushes_50 : decode cX10_pushes 50 = .ok (.aload_n 0, 1) := by decide +kernel
theorem dX10_pushes_51 : decode cX10_pushes 51 = .ok (.getfield 19, 3) := by decide +kernel
theorem dX10_pushes_54 : decode cX10_pushes 54 = .ok (.iconst 3, 1) := by decide +kernel
theorem dX10_pushes_55 : decode cX10_pushes 55 = .ok (.iaload, 1) := by decide +kernel
theorem dX10_pushes_56 : decode cX10_pushes 56 = .ok (.sipush 999, 3) := by decide +kernel
theorem dX10_pushes_59 : decode cX10_pushes 59 = .ok (.if_icmp .eq 15, 3) := by decide +kernel
theorem dX10_pushes_62 : decode cX10_pushes 62 = .ok (.aload_n 0, 1) := by decide +kernel
theorem dX10_pushes_63 : decode cX10_pushes 63 = .ok (.getfield 19, 3) := by decide +kernel
theorem dX10_pushes_66 : decode cX10_pushes 66 = .ok (.iconst 4, 1) := by decide +kernel
theorem dX10_pushes_67 : decode cX10_pushes 67 = .ok (.iaload, 1) := by decide +kernel
theorem dX10_pushes_68 : decode cX10_pushes 68 = .ok (.sipush 999, 3) := by decide +kernel
theorem dX10_pushes_71 : decode cX10_pushes 71 = .ok (.if_icmp .ne 6, 3) := by decide +kernel
theorem dX10_pushes_74 : decode cX10_pushes 74 = .ok (.bipush (-2), 2) := by decide +kernel
theorem dX10_pushes_76 : decode cX10_pushes 76 = .ok (.ireturn, 1) := by decide +kernel
theorem dX10_pushes_77 : decode cX10_pushes 77 = .ok (.aload_n 0, 1) := by decide +kernel
theorem dX10_pushes_78 : decode cX10_pushes 78 = .ok (.invokevirtual 161, 3) := by decide +kernel
theorem dX10_pushes_81 : decode cX10_pushes 81 = .ok (.iload_n 2, 1) := by decide +kernel
theorem dX10_pushes_82 : decode cX10_pushes 82 = .ok (.ifCond .ne 39, 3) := by decide +kernel
theorem dX10_pushes_85 : decode cX10_pushes 85 = .ok (.aload_n 0, 1) := by decide +kernel
theorem dX10_pushes_86 : decode cX10_pushes 86 = .ok (.getfield 19, 3) := by decide +kernel
theorem dX10_pushes_89 : decode cX10_pushes 89 = .ok (.iconst 0, 1) := by decide +kernel
theorem dX10_pushes_90 : decode cX10_pushes 90 = .ok (.aload_n 0, 1) := by decide +kernel
theorem dX10_pushes_91 : decode cX10_pushes 91 = .ok (.getfield 144, 3) := by decide +kernel
theorem dX10_pushes_94 : decode cX10_pushes 94 = .ok (.iastore, 1) := by decide +kernel
theorem dX10_pushes_95 : decode cX10_pushes 95 = .ok (.aload_n 0, 1) := by decide +kernel
theorem dX10_pushes_96 : decode cX10_pushes 96 = .ok (.getfield 19, 3) := by decide +kernel
theorem dX10_pushes_99 : decode cX10_pushes 99 = .ok (.iconst 1, 1) := by decide +kernel
theorem dX10_pushes_100 : decode cX10_pushes 100 = .ok (.aload_n 0, 1) := by decide +kernel
theorem dX10_pushes_101 : decode cX10_pushes 101 = .ok (.getfield 147, 3) := by decide +kernel
theorem dX10_pushes_104 : decode cX10_pushes 104 = .ok (.iastore, 1) := by decide +kernel
theorem dX10_pushes_105 : decode cX10_pushes 105 = .ok (.aload_n 0, 1) := by decide +kernel
theorem dX10_pushes_106 : decode cX10_pushes 106 = .ok (.getfield 19, 3) := by decide +kernel
theorem dX10_pushes_109 : decode cX10_pushes 109 = .ok (.iconst 2, 1) := by decide +kernel
theorem dX10_pushes_110 : decode cX10_pushes 110 = .ok (.iconst 1, 1) := by decide +kernel
theorem dX10_pushes_111 : decode cX10_pushes 111 = .ok (.aload_n 0, 1) := by decide +kernel
theorem dX10_pushes_112 : decode cX10_pushes 112 = .ok (.getfield 19, 3) := by decide +kernel
theorem dX10_pushes_115 : decode cX10_pushes 115 = .ok (.iconst 2, 1) := by decide +kernel
theorem dX10_pushes_116 : decode cX10_pushes 116 = .ok (.iaload, 1) := by decide +kernel
theorem dX10_pushes_117 : decode cX10_pushes 117 = .ok (.isub, 1) := by decide +kernel
theorem dX10_pushes_118 : decode cX10_pushes 118 = .ok (.iastore, 1) := by decide +kernel
theorem dX10_pushes_119 : decode cX10_pushes 119 = .ok (.iload_n 2, 1) := by decide +kernel
theorem dX10_pushes_120 : decode cX10_pushes 120 = .ok (.ireturn, 1) := by decide +kernel
theorem dX10_pushes_121 : decode cX10_pushes 121 = .ok (.aload_n 0, 1) := by decide +kernel
theorem dX10_pushes_122 : decode cX10_pushes 122 = .ok (.getfield 19, 3) := by decide +kernel
theorem dX10_pushes_125 : decode cX10_pushes 125 = .ok (.bipush 7, 2) := by decide +kernel
theorem dX10_pushes_127 : decode cX10_pushes 127 = .ok (.aload_n 0, 1) := by decide +kernel
theorem dX10_pushes_128 : decode cX10_pushes 128 = .ok (.getfield 144, 3) := by decide +kernel
theorem dX10_pushes_131 : decode cX10_pushes 131 = .ok (.iadd, 1) := by decide +kernel
theorem dX10_pushes_132 : decode cX10_pushes 132 = .ok (.iaload, 1) := by decide +kernel
theorem dX10_pushes_133 : decode cX10_pushes 133 = .ok (.iload_n 2, 1) := by decide +kernel
theorem dX10_pushes_134 : decode cX10_pushes 134 = .ok (.iconst 1, 1) := by decide +kernel
theorem dX10_pushes_135 : decode cX10_pushes 135 = .ok (.if_icmp .ne 7, 3) := by decide +kernel
theorem dX10_pushes_138 : decode cX10_pushes 138 = .ok (.iconst (-1), 1) := by decide +kernel
theorem dX10_pushes_139 : decode cX10_pushes 139 = .ok (.goto 4, 3) := by decide +kernel
theorem dX10_pushes_142 : decode cX10_pushes 142 = .ok (.iconst 1, 1) := by decide +kernel
theorem dX10_pushes_143 : decode cX10_pushes 143 = .ok (.iadd, 1) := by decide +kernel
theorem dX10_pushes_144 : decode cX10_pushes 144 = .ok (.istore_n 3, 1) := by decide +kernel
theorem dX10_pushes_145 : decode cX10_pushes 145 = .ok (.aload_n 0, 1) := by decide +kernel
theorem dX10_pushes_146 : decode cX10_pushes 146 = .ok (.getfield 19, 3) := by decide +kernel
theorem dX10_pushes_149 : decode cX10_pushes 149 = .ok (.bipush 7, 2) := by decide +kernel
theorem dX10_pushes_151 : decode cX10_pushes 151 = .ok (.aload_n 0, 1) := by decide +kernel
theorem dX10_pushes_152 : decode cX10_pushes 152 = .ok (.getfield 144, 3) := by decide +kernel
theorem dX10_pushes_155 : decode cX10_pushes 155 = .ok (.iadd, 1) := by decide +kernel
theorem dX10_pushes_156 : decode cX10_pushes 156 = .ok (.iload_n 3, 1) := by decide +kernel
theorem dX10_pushes_157 : decode cX10_pushes 157 = .ok (.bipush (-4), 2) := by decide +kernel
theorem dX10_pushes_159 : decode cX10_pushes 159 = .ok (.if_icmp .ge 8, 3) := by decide +kernel
theorem dX10_pushes_162 : decode cX10_pushes 162 = .ok (.bipush (-4), 2) := by decide +kernel
theorem dX10_pushes_164 : decode cX10_pushes 164 = .ok (.goto 13, 3) := by decide +kernel
theorem dX10_pushes_167 : decode cX10_pushes 167 = .ok (.iload_n 3, 1) := by decide +kernel
theorem dX10_pushes_168 : decode cX10_pushes 168 = .ok (.iconst 4, 1) := by decide +kernel
theorem dX10_pushes_169 : decode cX10_pushes 169 = .ok (.if_icmp .le 7, 3) := by decide +kernel
theorem dX10_pushes_172 : decode cX10_pushes 172 = .ok (.iconst 4, 1) := by decide +kernel
theorem dX10_pushes_173 : decode cX10_pushes 173 = .ok (.goto 4, 3) := by decide +kernel
theorem dX10_pushes_176 : decode cX10_pushes 176 = .ok (.iload_n 3, 1) := by decide +kernel
theorem dX10_pushes_177 : decode cX10_pushes 177 = .ok (.iastore, 1) := by decide +kernel
theorem dX10_pushes_178 : decode cX10_pushes 178 = .ok (.aload_n 0, 1) := by decide +kernel
theorem dX10_pushes_179 : decode cX10_pushes 179 = .ok (.getfield 19, 3) := by decide +kernel
theorem dX10_pushes_182 : decode cX10_pushes 182 = .ok (.iconst 3, 1) := by decide +kernel
theorem dX10_pushes_183 : decode cX10_pushes 183 = .ok (.iload_n 2, 1) := by decide +kernel
theorem dX10_pushes_184 : decode cX10_pushes 184 = .ok (.iadd, 1) := by decide +kernel
theorem dX10_pushes_185 : decode cX10_pushes 185 = .ok (.iconst 1, 1) := by decide +kernel
theorem dX10_pushes_186 : decode cX10_pushes 186 = .ok (.isub, 1) := by decide +kernel
theorem dX10_pushes_187 : decode cX10_pushes 187 = .ok (.dup2, 1) := by decide +kernel
theorem dX10_pushes_188 : decode cX10_pushes 188 = .ok (.iaload, 1) := by decide +kernel
theorem dX10_pushes_189 : decode cX10_pushes 189 = .ok (.iconst 1, 1) := by decide +kernel
theorem dX10_pushes_190 : decode cX10_pushes 190 = .ok (.iadd, 1) := by decide +kernel
theorem dX10_pushes_191 : decode cX10_pushes 191 = .ok (.iastore, 1) := by decide +kernel
theorem dX10_pushes_192 : decode cX10_pushes 192 = .ok (.aload_n 0, 1) := by decide +kernel
theorem dX10_pushes_193 : decode cX10_pushes 193 = .ok (.getfield 19, 3) := by decide +kernel
theorem dX10_pushes_196 : decode cX10_pushes 196 = .ok (.iconst 0, 1) := by decide +kernel
theorem dX10_pushes_197 : decode cX10_pushes 197 = .ok (.aload_n 0, 1) := by decide +kernel
theorem dX10_pushes_198 : decode cX10_pushes 198 = .ok (.getfield 13, 3) := by decide +kernel
theorem dX10_pushes_201 : decode cX10_pushes 201 = .ok (.iconst 2, 1) := by decide +kernel
theorem dX10_pushes_202 : decode cX10_pushes 202 = .ok (.iaload, 1) := by decide +kernel
theorem dX10_pushes_203 : decode cX10_pushes 203 = .ok (.iastore, 1) := by decide +kernel
theorem dX10_pushes_204 : decode cX10_pushes 204 = .ok (.aload_n 0, 1) := by decide +kernel
theorem dX10_pushes_205 : decode cX10_pushes 205 = .ok (.getfield 19, 3) := by decide +kernel
theorem dX10_pushes_208 : decode cX10_pushes 208 = .ok (.iconst 1, 1) := by decide +kernel
theorem dX10_pushes_209 : decode cX10_pushes 209 = .ok (.iconst 0, 1) := by decide +kernel
theorem dX10_pushes_210 : decode cX10_pushes 210 = .ok (.iastore, 1) := by decide +kernel
theorem dX10_pushes_211 : decode cX10_pushes 211 = .ok (.aload_n 0, 1) := by decide +kernel
theorem dX10_pushes_212 : decode cX10_pushes 212 = .ok (.getfield 19, 3) := by decide +kernel
theorem dX10_pushes_215 : decode cX10_pushes 215 = .ok (.iconst 2, 1) := by decide +kernel
theorem dX10_pushes_216 : decode cX10_pushes 216 = .ok (.iload_n 2, 1) := by decide +kernel
theorem dX10_pushes_217 : decode cX10_pushes 217 = .ok (.iconst 1, 1) := by decide +kernel
theorem dX10_pushes_218 : decode cX10_pushes 218 = .ok (.if_icmp .ne 7, 3) := by decide +kernel
theorem dX10_pushes_221 : decode cX10_pushes 221 = .ok (.iconst 1, 1) := by decide +kernel
theorem dX10_pushes_222 : decode cX10_pushes 222 = .ok (.goto 4, 3) := by decide +kernel
theorem dX10_pushes_225 : decode cX10_pushes 225 = .ok (.iconst 0, 1) := by decide +kernel
theorem dX10_pushes_226 : decode cX10_pushes 226 = .ok (.iastore, 1) := by decide +kernel
theorem dX10_pushes_227 : decode cX10_pushes 227 = .ok (.aload_n 0, 1) := by decide +kernel
theorem dX10_pushes_228 : decode cX10_pushes 228 = .ok (.getfield 19, 3) := by decide +kernel
theorem dX10_pushes_231 : decode cX10_pushes 231 = .ok (.iconst 5, 1) := by decide +kernel
theorem dX10_pushes_232 : decode cX10_pushes 232 = .ok (.iconst 0, 1) := by decide +kernel
theorem dX10_pushes_233 : decode cX10_pushes 233 = .ok (.iastore, 1) := by decide +kernel
theorem dX10_pushes_234 : decode cX10_pushes 234 = .ok (.aload_n 0, 1) := by decide +kernel
theorem dX10_pushes_235 : decode cX10_pushes 235 = .ok (.getfield 19, 3) := by decide +kernel
theorem dX10_pushes_238 : decode cX10_pushes 238 = .ok (.bipush 6, 2) := by decide +kernel
theorem dX10_pushes_240 : decode cX10_pushes 240 = .ok (.iconst 0, 1) := by decide +kernel
theorem dX10_pushes_241 : decode cX10_pushes 241 = .ok (.iastore, 1) := by decide +kernel
theorem dX10_pushes_242 : decode cX10_pushes 242 = .ok (.iload_n 2, 1) := by decide +kernel
theorem dX10_pushes_243 : decode cX10_pushes 243 = .ok (.ireturn, 1) := by decide +kernel
theorem dX10_objects_0 : decode cX10_objects 0 = .ok (.aload_n 0, 1) := by decide +kernel
theorem dX10_objects_1 : decode cX10_objects 1 = .ok (.iconst 0, 1) := by decide +kernel
theorem dX10_objects_2 : decode cX10_objects 2 = .ok (.putfield 56, 3) := by decide +kernel
theorem dX10_objects_5 : decode cX10_objects 5 = .ok (.aload_n 0, 1) := by decide +kernel
theorem dX10_objects_6 : decode cX10_objects 6 = .ok (.invokevirtual 154, 3) := by decide +kernel
theorem dX10_objects_9 : decode cX10_objects 9 = .ok (.ifCond .eq 20, 3) := by decide +kernel
theorem dX10_objects_12 : decode cX10_objects 12 = .ok (.aload_n 0, 1) := by decide +kernel
theorem dX10_objects_13 : decode cX10_objects 13 = .ok (.getfield 19, 3) := by decide +kernel
theorem dX10_objects_16 : decode cX10_objects 16 = .ok (.iconst 5, 1) := by decide +kernel
theorem dX10_objects_17 : decode cX10_objects 17 = .ok (.aload_n 0, 1) := by decide +kernel
theorem dX10_objects_18 : decode cX10_objects 18 = .ok (.getfield 19, 3) := by decide +kernel
theorem dX10_objects_21 : decode cX10_objects 21 = .ok (.iconst 2, 1) := by decide +kernel
theorem dX10_objects_22 : decode cX10_objects 22 = .ok (.iaload, 1) := by decide +kernel
theorem dX10_objects_23 : decode cX10_objects 23 = .ok (.iadd, 1) := by decide +kernel
theorem dX10_objects_24 : decode cX10_objects 24 = .ok (.iaload, 1) := by decide +kernel
theorem dX10_objects_25 : decode cX10_objects 25 = .ok (.iconst 3, 1) := by decide +kernel
theorem dX10_objects_26 : decode cX10_objects 26 = .ok (.if_icmp .ne 6, 3) := by decide +kernel
theorem dX10_objects_29 : decode cX10_objects 29 = .ok (.bipush (-2), 2) := by decide +kernel
theorem dX10_objects_31 : decode cX10_objects 31 = .ok (.ireturn, 1) := by decide +kernel
theorem dX10_objects_32 : decode cX10_objects 32 = .ok (.aload_n 0, 1) := by decide +kernel
theorem dX10_objects_33 : decode cX10_objects 33 = .ok (.invokevirtual 161, 3) := by decide +kernel
theorem dX10_objects_36 : decode cX10_objects 36 = .ok (.aload_n 0, 1) := by decide +kernel
theorem dX10_objects_37 : decode cX10_objects 37 = .ok (.getfield 19, 3) := by decide +kernel
theorem dX10_objects_40 : decode cX10_objects 40 = .ok (.iconst 5, 1) := by decide +kernel
theorem dX10_objects_41 : decode cX10_objects 41 = .ok (.aload_n 0, 1) := by decide +kernel
theorem dX10_objects_42 : decode cX10_objects 42 = .ok (.getfield 19, 3) := by decide +kernel
theorem dX10_objects_45 : decode cX10_objects 45 = .ok (.iconst 2, 1) := by decide +kernel
theorem dX10_objects_46 : decode cX10_objects 46 = .ok (.iaload, 1) := by decide +kernel
theorem dX10_objects_47 : decode cX10_objects 47 = .ok (.iadd, 1) := by decide +kernel
theorem dX10_objects_48 : decode cX10_objects 48 = .ok (.dup2, 1) := by decide +kernel
theorem dX10_objects_49 : decode cX10_objects 49 = .ok (.iaload, 1) := by decide +kernel
theorem dX10_objects_50 : decode cX10_objects 50 = .ok (.iconst 1, 1) := by decide +kernel
theorem dX10_objects_51 : decode cX10_objects 51 = .ok (.iadd, 1) := by decide +kernel
theorem dX10_objects_52 : decode cX10_objects 52 = .ok (.iastore, 1) := by decide +kernel
theorem dX10_objects_53 : decode cX10_objects 53 = .ok (.aload_n 0, 1) := by decide +kernel
theorem dX10_objects_54 : decode cX10_objects 54 = .ok (.getfield 19, 3) := by decide +kernel
theorem dX10_objects_57 : decode cX10_objects 57 = .ok (.iconst 2, 1) := by decide +kernel
theorem dX10_objects_58 : decode cX10_objects 58 = .ok (.iconst 1, 1) := by decide +kernel
theorem dX10_objects_59 : decode cX10_objects 59 = .ok (.aload_n 0, 1) := by decide +kernel
theorem dX10_objects_60 : decode cX10_objects 60 = .ok (.getfield 19, 3) := by decide +kernel
theorem dX10_objects_63 : decode cX10_objects 63 = .ok (.iconst 2, 1) := by decide +kernel
theorem dX10_objects_64 : decode cX10_objects 64 = .ok (.iaload, 1) := by decide +kernel
theorem dX10_objects_65 : decode cX10_objects 65 = .ok (.isub, 1) := by decide +kernel
theorem dX10_objects_66 : decode cX10_objects 66 = .ok (.iastore, 1) := by decide +kernel
theorem dX10_objects_67 : decode cX10_objects 67 = .ok (.aload_n 0, 1) := by decide +kernel
theorem dX10_objects_68 : decode cX10_objects 68 = .ok (.getfield 19, 3) := by decide +kernel
theorem dX10_objects_71 : decode cX10_objects 71 = .ok (.iconst 2, 1) := by decide +kernel
theorem dX10_objects_72 : decode cX10_objects 72 = .ok (.iaload, 1) := by decide +kernel
theorem dX10_objects_73 : decode cX10_objects 73 = .ok (.ireturn, 1) := by decide +kernel
theorem dX10_evens_0 : decode cX10_evens 0 = .ok (.aload_n 0, 1) := by decide +kernel
theorem dX10_evens_1 : decode cX10_evens 1 = .ok (.iconst 0, 1) := by decide +kernel
theorem dX10_evens_2 : decode cX10_evens 2 = .ok (.putfield 56, 3) := by decide +kernel
theorem dX10_evens_5 : decode cX10_evens 5 = .ok (.aload_n 0, 1) := by decide +kernel
theorem dX10_evens_6 : decode cX10_evens 6 = .ok (.iload_n 1, 1) := by decide +kernel
theorem dX10_evens_7 : decode cX10_evens 7 = .ok (.iload_n 2, 1) := by decide +kernel
theorem dX10_evens_8 : decode cX10_evens 8 = .ok (.invokevirtual 140, 3) := by decide +kernel
theorem dX10_evens_11 : decode cX10_evens 11 = .ok (.ifCond .eq 30, 3) := by decide +kernel
theorem dX10_evens_14 : decode cX10_evens 14 = .ok (.iload_n 3, 1) := by decide +kernel
theorem dX10_evens_15 : decode cX10_evens 15 = .ok (.bipush (-4), 2) := by decide +kernel
theorem dX10_evens_17 : decode cX10_evens 17 = .ok (.iconst 4, 1) := by decide +kernel
theorem dX10_evens_18 : decode cX10_evens 18 = .ok (.invokestatic 60, 3) := by decide +kernel
theorem dX10_evens_21 : decode cX10_evens 21 = .ok (.ifCond .eq 20, 3) := by decide +kernel
theorem dX10_evens_24 : decode cX10_evens 24 = .ok (.aload_n 0, 1) := by decide +kernel
theorem dX10_evens_25 : decode cX10_evens 25 = .ok (.getfield 19, 3) := by decide +kernel
theorem dX10_evens_28 : decode cX10_evens 28 = .ok (.bipush 7, 2) := by decide +kernel
theorem dX10_evens_30 : decode cX10_evens 30 = .ok (.iconst 5, 1) := by decide +kernel
theorem dX10_evens_31 : decode cX10_evens 31 = .ok (.iload_n 2, 1) := by decide +kernel
theorem dX10_evens_32 : decode cX10_evens 32 = .ok (.imul, 1) := by decide +kernel
theorem dX10_evens_33 : decode cX10_evens 33 = .ok (.iadd, 1) := by decide +kernel
theorem dX10_evens_34 : decode cX10_evens 34 = .ok (.iload_n 1, 1) := by decide +kernel
theorem dX10_evens_35 : decode cX10_evens 35 = .ok (.iadd, 1) := by decide +kernel
theorem dX10_evens_36 : decode cX10_evens 36 = .ok (.iaload, 1) := by decide +kernel
theorem dX10_evens_37 : decode cX10_evens 37 = .ok (.iload_n 3, 1) := by decide +kernel
theorem dX10_evens_38 : decode cX10_evens 38 = .ok (.if_icmp .ne 6, 3) := by decide +kernel
theorem dX10_evens_41 : decode cX10_evens 41 = .ok (.ldc 143, 2) := by decide +kernel
theorem dX10_evens_43 : decode cX10_evens 43 = .ok (.ireturn, 1) := by decide +kernel
theorem dX10_evens_44 : decode cX10_evens 44 = .ok (.aload_n 0, 1) := by decide +kernel
theorem dX10_evens_45 : decode cX10_evens 45 = .ok (.invokevirtual 161, 3) := by decide +kernel
theorem dX10_evens_48 : decode cX10_evens 48 = .ok (.aload_n 0, 1) := by decide +kernel
theorem dX10_evens_49 : decode cX10_evens 49 = .ok (.getfield 19, 3) := by decide +kernel
theorem dX10_evens_52 : decode cX10_evens 52 = .ok (.bipush 7, 2) := by decide +kernel
theorem dX10_evens_54 : decode cX10_evens 54 = .ok (.iconst 5, 1) := by decide +kernel
theorem dX10_evens_55 : decode cX10_evens 55 = .ok (.iload_n 2, 1) := by decide +kernel
theorem dX10_evens_56 : decode cX10_evens 56 = .ok (.imul, 1) := by decide +kernel
theorem dX10_evens_57 : decode cX10_evens 57 = .ok (.iadd, 1) := by decide +kernel
theorem dX10_evens_58 : decode cX10_evens 58 = .ok (.iload_n 1, 1) := by decide +kernel
theorem dX10_evens_59 : decode cX10_evens 59 = .ok (.iadd, 1) := by decide +kernel
theorem dX10_evens_60 : decode cX10_evens 60 = .ok (.iaload, 1) := by decide +kernel
theorem dX10_evens_61 : decode cX10_evens 61 = .ok (.istore 4, 2) := by decide +kernel
theorem dX10_evens_63 : decode cX10_evens 63 = .ok (.aload_n 0, 1) := by decide +kernel
theorem dX10_evens_64 : decode cX10_evens 64 = .ok (.getfield 19, 3) := by decide +kernel
theorem dX10_evens_67 : decode cX10_evens 67 = .ok (.bipush 7, 2) := by decide +kernel
theorem dX10_evens_69 : decode cX10_evens 69 = .ok (.iconst 5, 1) := by decide +kernel
theorem dX10_evens_70 : decode cX10_evens 70 = .ok (.iload_n 2, 1) := by decide +kernel
theorem dX10_evens_71 : decode cX10_evens 71 = .ok (.imul, 1) := by decide +kernel
theorem dX10_evens_72 : decode cX10_evens 72 = .ok (.iadd, 1) := by decide +kernel
theorem dX10_evens_73 : decode cX10_evens 73 = .ok (.iload_n 1, 1) := by decide +kernel
theorem dX10_evens_74 : decode cX10_evens 74 = .ok (.iadd, 1) := by decide +kernel
theorem dX10_evens_75 : decode cX10_evens 75 = .ok (.iload_n 3, 1) := by decide +kernel
theorem dX10_evens_76 : decode cX10_evens 76 = .ok (.iastore, 1) := by decide +kernel
theorem dX10_evens_77 : decode cX10_evens 77 = .ok (.iload 4, 2) := by decide +kernel
theorem dX10_evens_79 : decode cX10_evens 79 = .ok (.ireturn, 1) := by decide +kernel
theorem dX10_undo_0 : decode cX10_undo 0 = .ok (.aload_n 0, 1) := by decide +kernel
theorem dX10_undo_1 : decode cX10_undo 1 = .ok (.iconst 0, 1) := by decide +kernel
theorem dX10_undo_2 : decode cX10_undo 2 = .ok (.putfield 56, 3) := by decide +kernel
theorem dX10_undo_5 : decode cX10_undo 5 = .ok (.aload_n 0, 1) := by decide +kernel
theorem dX10_undo_6 : decode cX10_undo 6 = .ok (.getfield 137, 3) := by decide +kernel
theorem dX10_undo_9 : decode cX10_undo 9 = .ok (.ifCond .ne 6, 3) := by decide +kernel
theorem dX10_undo_12 : decode cX10_undo 12 = .ok (.bipush (-2), 2) := by decide +kernel
theorem dX10_undo_14 : decode cX10_undo 14 = .ok (.ireturn, 1) := by decide +kernel
theorem dX10_undo_15 : decode cX10_undo 15 = .ok (.aload_n 0, 1) := by decide +kernel
theorem dX10_undo_16 : decode cX10_undo 16 = .ok (.dup, 1) := by decide +kernel
theorem dX10_undo_17 : decode cX10_undo 17 = .ok (.getfield 137, 3) := by decide +kernel
theorem dX10_undo_20 : decode cX10_undo 20 = .ok (.iconst 1, 1) := by decide +kernel
theorem dX10_undo_21 : decode cX10_undo 21 = .ok (.isub, 1) := by decide +kernel
