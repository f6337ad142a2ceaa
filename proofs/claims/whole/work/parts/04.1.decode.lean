theorem dX6_readStart_107 : decode cX6_readStart 107 = .ok (.aload_n 0, 1) := by decide +kernel
theorem dX6_readStart_108 : decode cX6_readStart 108 = .ok (.dup, 1) := by decide +kernel
theorem dX6_readStart_109 : decode cX6_readStart 109 = .ok (.getfield 41, 3) := by decide +kernel
theorem dX6_readStart_112 : decode cX6_readStart 112 = .ok (.iconst 1, 1) := by decide +kernel
theorem dX6_readStart_113 : decode cX6_readStart 113 = .ok (.iadd, 1) := by decide +kernel
theorem dX6_readStart_114 : decode cX6_readStart 114 = .ok (.putfield 41, 3) := by decide +kernel
theorem dX6_readStart_117 : decode cX6_readStart 117 = .ok (.aload_n 0, 1) := by decide +kernel
theorem dX6_readStart_118 : decode cX6_readStart 118 = .ok (.getfield 25, 3) := by decide +kernel
theorem dX6_readStart_121 : decode cX6_readStart 121 = .ok (.iload_n 2, 1) := by decide +kernel
theorem dX6_readStart_122 : decode cX6_readStart 122 = .ok (.putfield 106, 3) := by decide +kernel
theorem dX6_readStart_125 : decode cX6_readStart 125 = .ok (.iconst 1, 1) := by decide +kernel
theorem dX6_readStart_126 : decode cX6_readStart 126 = .ok (.ireturn, 1) := by decide +kernel
theorem dX6_readLimit_0 : decode cX6_readLimit 0 = .ok (.aload_n 0, 1) := by decide +kernel
theorem dX6_readLimit_1 : decode cX6_readLimit 1 = .ok (.getfield 34, 3) := by decide +kernel
theorem dX6_readLimit_4 : decode cX6_readLimit 4 = .ok (.ifCond .eq 5, 3) := by decide +kernel
theorem dX6_readLimit_7 : decode cX6_readLimit 7 = .ok (.iconst 0, 1) := by decide +kernel
theorem dX6_readLimit_8 : decode cX6_readLimit 8 = .ok (.ireturn, 1) := by decide +kernel
theorem dX6_readLimit_9 : decode cX6_readLimit 9 = .ok (.aload_n 0, 1) := by decide +kernel
theorem dX6_readLimit_10 : decode cX6_readLimit 10 = .ok (.iconst 1, 1) := by decide +kernel
theorem dX6_readLimit_11 : decode cX6_readLimit 11 = .ok (.putfield 34, 3) := by decide +kernel
theorem dX6_readLimit_14 : decode cX6_readLimit 14 = .ok (.aload_n 0, 1) := by decide +kernel
theorem dX6_readLimit_15 : decode cX6_readLimit 15 = .ok (.dup, 1) := by decide +kernel
theorem dX6_readLimit_16 : decode cX6_readLimit 16 = .ok (.getfield 41, 3) := by decide +kernel
theorem dX6_readLimit_19 : decode cX6_readLimit 19 = .ok (.iconst 1, 1) := by decide +kernel
theorem dX6_readLimit_20 : decode cX6_readLimit 20 = .ok (.iadd, 1) := by decide +kernel
theorem dX6_readLimit_21 : decode cX6_readLimit 21 = .ok (.putfield 41, 3) := by decide +kernel
theorem dX6_readLimit_24 : decode cX6_readLimit 24 = .ok (.aload_n 0, 1) := by decide +kernel
theorem dX6_readLimit_25 : decode cX6_readLimit 25 = .ok (.iconst 2, 1) := by decide +kernel
theorem dX6_readLimit_26 : decode cX6_readLimit 26 = .ok (.bipush 9, 2) := by decide +kernel
theorem dX6_readLimit_28 : decode cX6_readLimit 28 = .ok (.invokevirtual 100, 3) := by decide +kernel
theorem dX6_readLimit_31 : decode cX6_readLimit 31 = .ok (.istore_n 1, 1) := by decide +kernel
theorem dX6_readLimit_32 : decode cX6_readLimit 32 = .ok (.iload_n 1, 1) := by decide +kernel
theorem dX6_readLimit_33 : decode cX6_readLimit 33 = .ok (.ifCond .ge 5, 3) := by decide +kernel
theorem dX6_readLimit_36 : decode cX6_readLimit 36 = .ok (.iconst 0, 1) := by decide +kernel
theorem dX6_readLimit_37 : decode cX6_readLimit 37 = .ok (.ireturn, 1) := by decide +kernel
theorem dX6_readLimit_38 : decode cX6_readLimit 38 = .ok (.aload_n 0, 1) := by decide +kernel
theorem dX6_readLimit_39 : decode cX6_readLimit 39 = .ok (.getfield 25, 3) := by decide +kernel
theorem dX6_readLimit_42 : decode cX6_readLimit 42 = .ok (.iload_n 1, 1) := by decide +kernel
theorem dX6_readLimit_43 : decode cX6_readLimit 43 = .ok (.putfield 121, 3) := by decide +kernel
theorem dX6_readLimit_46 : decode cX6_readLimit 46 = .ok (.iconst 1, 1) := by decide +kernel
theorem dX6_readLimit_47 : decode cX6_readLimit 47 = .ok (.ireturn, 1) := by decide +kernel
theorem dX6_readLeaning_0 : decode cX6_readLeaning 0 = .ok (.aload_n 0, 1) := by decide +kernel
theorem dX6_readLeaning_1 : decode cX6_readLeaning 1 = .ok (.getfield 38, 3) := by decide +kernel
theorem dX6_readLeaning_4 : decode cX6_readLeaning 4 = .ok (.ifCond .eq 5, 3) := by decide +kernel
theorem dX6_readLeaning_7 : decode cX6_readLeaning 7 = .ok (.iconst 0, 1) := by decide +kernel
theorem dX6_readLeaning_8 : decode cX6_readLeaning 8 = .ok (.ireturn, 1) := by decide +kernel
theorem dX6_readLeaning_9 : decode cX6_readLeaning 9 = .ok (.aload_n 0, 1) := by decide +kernel
theorem dX6_readLeaning_10 : decode cX6_readLeaning 10 = .ok (.iconst 1, 1) := by decide +kernel
theorem dX6_readLeaning_11 : decode cX6_readLeaning 11 = .ok (.putfield 38, 3) := by decide +kernel
theorem dX6_readLeaning_14 : decode cX6_readLeaning 14 = .ok (.aload_n 0, 1) := by decide +kernel
theorem dX6_readLeaning_15 : decode cX6_readLeaning 15 = .ok (.dup, 1) := by decide +kernel
theorem dX6_readLeaning_16 : decode cX6_readLeaning 16 = .ok (.getfield 41, 3) := by decide +kernel
theorem dX6_readLeaning_19 : decode cX6_readLeaning 19 = .ok (.iconst 1, 1) := by decide +kernel
theorem dX6_readLeaning_20 : decode cX6_readLeaning 20 = .ok (.iadd, 1) := by decide +kernel
theorem dX6_readLeaning_21 : decode cX6_readLeaning 21 = .ok (.putfield 41, 3) := by decide +kernel
theorem dX6_readLeaning_24 : decode cX6_readLeaning 24 = .ok (.aload_n 0, 1) := by decide +kernel
theorem dX6_readLeaning_25 : decode cX6_readLeaning 25 = .ok (.iconst 0, 1) := by decide +kernel
theorem dX6_readLeaning_26 : decode cX6_readLeaning 26 = .ok (.iconst 4, 1) := by decide +kernel
theorem dX6_readLeaning_27 : decode cX6_readLeaning 27 = .ok (.invokevirtual 100, 3) := by decide +kernel
theorem dX6_readLeaning_30 : decode cX6_readLeaning 30 = .ok (.istore_n 1, 1) := by decide +kernel
theorem dX6_readLeaning_31 : decode cX6_readLeaning 31 = .ok (.iload_n 1, 1) := by decide +kernel
theorem dX6_readLeaning_32 : decode cX6_readLeaning 32 = .ok (.ifCond .ge 5, 3) := by decide +kernel
theorem dX6_readLeaning_35 : decode cX6_readLeaning 35 = .ok (.iconst 0, 1) := by decide +kernel
theorem dX6_readLeaning_36 : decode cX6_readLeaning 36 = .ok (.ireturn, 1) := by decide +kernel
theorem dX6_readLeaning_37 : decode cX6_readLeaning 37 = .ok (.aload_n 0, 1) := by decide +kernel
theorem dX6_readLeaning_38 : decode cX6_readLeaning 38 = .ok (.getfield 25, 3) := by decide +kernel
theorem dX6_readLeaning_41 : decode cX6_readLeaning 41 = .ok (.iload_n 1, 1) := by decide +kernel
theorem dX6_readLeaning_42 : decode cX6_readLeaning 42 = .ok (.iconst 2, 1) := by decide +kernel
theorem dX6_readLeaning_43 : decode cX6_readLeaning 43 = .ok (.isub, 1) := by decide +kernel
theorem dX6_readLeaning_44 : decode cX6_readLeaning 44 = .ok (.putfield 124, 3) := by decide +kernel
theorem dX6_readLeaning_47 : decode cX6_readLeaning 47 = .ok (.iconst 1, 1) := by decide +kernel
theorem dX6_readLeaning_48 : decode cX6_readLeaning 48 = .ok (.ireturn, 1) := by decide +kernel
theorem dX6_readNumber_0 : decode cX6_readNumber 0 = .ok (.aload_n 0, 1) := by decide +kernel
theorem dX6_readNumber_1 : decode cX6_readNumber 1 = .ok (.bipush (-2), 2) := by decide +kernel
theorem dX6_readNumber_3 : decode cX6_readNumber 3 = .ok (.invokevirtual 48, 3) := by decide +kernel
theorem dX6_readNumber_6 : decode cX6_readNumber 6 = .ok (.ifCond .eq 29, 3) := by decide +kernel
theorem dX6_readNumber_9 : decode cX6_readNumber 9 = .ok (.aload_n 0, 1) := by decide +kernel
theorem dX6_readNumber_10 : decode cX6_readNumber 10 = .ok (.getfield 15, 3) := by decide +kernel
theorem dX6_readNumber_13 : decode cX6_readNumber 13 = .ok (.aload_n 0, 1) := by decide +kernel
theorem dX6_readNumber_14 : decode cX6_readNumber 14 = .ok (.getfield 41, 3) := by decide +kernel
theorem dX6_readNumber_17 : decode cX6_readNumber 17 = .ok (.iaload, 1) := by decide +kernel
theorem dX6_readNumber_18 : decode cX6_readNumber 18 = .ok (.iload_n 1, 1) := by decide +kernel
theorem dX6_readNumber_19 : decode cX6_readNumber 19 = .ok (.if_icmp .lt 16, 3) := by decide +kernel
theorem dX6_readNumber_22 : decode cX6_readNumber 22 = .ok (.aload_n 0, 1) := by decide +kernel
theorem dX6_readNumber_23 : decode cX6_readNumber 23 = .ok (.getfield 15, 3) := by decide +kernel
theorem dX6_readNumber_26 : decode cX6_readNumber 26 = .ok (.aload_n 0, 1) := by decide +kernel
theorem dX6_readNumber_27 : decode cX6_readNumber 27 = .ok (.getfield 41, 3) := by decide +kernel
theorem dX6_readNumber_30 : decode cX6_readNumber 30 = .ok (.iaload, 1) := by decide +kernel
theorem dX6_readNumber_31 : decode cX6_readNumber 31 = .ok (.iload_n 2, 1) := by decide +kernel
theorem dX6_readNumber_32 : decode cX6_readNumber 32 = .ok (.if_icmp .le 5, 3) := by decide +kernel
theorem dX6_readNumber_35 : decode cX6_readNumber 35 = .ok (.iconst (-1), 1) := by decide +kernel
theorem dX6_readNumber_36 : decode cX6_readNumber 36 = .ok (.ireturn, 1) := by decide +kernel
theorem dX6_readNumber_37 : decode cX6_readNumber 37 = .ok (.aload_n 0, 1) := by decide +kernel
theorem dX6_readNumber_38 : decode cX6_readNumber 38 = .ok (.getfield 15, 3) := by decide +kernel
theorem dX6_readNumber_41 : decode cX6_readNumber 41 = .ok (.aload_n 0, 1) := by decide +kernel
theorem dX6_readNumber_42 : decode cX6_readNumber 42 = .ok (.getfield 41, 3) := by decide +kernel
theorem dX6_readNumber_45 : decode cX6_readNumber 45 = .ok (.iaload, 1) := by decide +kernel
theorem dX6_readNumber_46 : decode cX6_readNumber 46 = .ok (.istore_n 3, 1) := by decide +kernel
theorem dX6_readNumber_47 : decode cX6_readNumber 47 = .ok (.aload_n 0, 1) := by decide +kernel
theorem dX6_readNumber_48 : decode cX6_readNumber 48 = .ok (.dup, 1) := by decide +kernel
theorem dX6_readNumber_49 : decode cX6_readNumber 49 = .ok (.getfield 41, 3) := by decide +kernel
theorem dX6_readNumber_52 : decode cX6_readNumber 52 = .ok (.iconst 1, 1) := by decide +kernel
theorem dX6_readNumber_53 : decode cX6_readNumber 53 = .ok (.iadd, 1) := by decide +kernel
theorem dX6_readNumber_54 : decode cX6_readNumber 54 = .ok (.putfield 41, 3) := by decide +kernel
theorem dX6_readNumber_57 : decode cX6_readNumber 57 = .ok (.iload_n 3, 1) := by decide +kernel
theorem dX6_readNumber_58 : decode cX6_readNumber 58 = .ok (.ireturn, 1) := by decide +kernel
theorem dX7_init_0 : decode cX7_init 0 = .ok (.aload_n 0, 1) := by decide +kernel
theorem dX7_init_1 : decode cX7_init 1 = .ok (.invokespecial 3, 3) := by decide +kernel
theorem dX7_init_4 : decode cX7_init 4 = .ok (.aload_n 0, 1) := by decide +kernel
theorem dX7_init_5 : decode cX7_init 5 = .ok (.bipush 120, 2) := by decide +kernel
theorem dX7_init_7 : decode cX7_init 7 = .ok (.newarray .int, 2) := by decide +kernel
theorem dX7_init_9 : decode cX7_init 9 = .ok (.putfield 9, 3) := by decide +kernel
theorem dX7_init_12 : decode cX7_init 12 = .ok (.return_, 1) := by decide +kernel
theorem dX7_add_0 : decode cX7_add 0 = .ok (.aload_n 0, 1) := by decide +kernel
theorem dX7_add_1 : decode cX7_add 1 = .ok (.getfield 15, 3) := by decide +kernel
theorem dX7_add_4 : decode cX7_add 4 = .ok (.ifCond .lt 12, 3) := by decide +kernel
theorem dX7_add_7 : decode cX7_add 7 = .ok (.aload_n 0, 1) := by decide +kernel
theorem dX7_add_8 : decode cX7_add 8 = .ok (.getfield 15, 3) := by decide +kernel
theorem dX7_add_11 : decode cX7_add 11 = .ok (.bipush 120, 2) := by decide +kernel
theorem dX7_add_13 : decode cX7_add 13 = .ok (.if_icmp .lt 5, 3) := by decide +kernel
theorem dX7_add_16 : decode cX7_add 16 = .ok (.iconst 0, 1) := by decide +kernel
theorem dX7_add_17 : decode cX7_add 17 = .ok (.ireturn, 1) := by decide +kernel
theorem dX7_add_18 : decode cX7_add 18 = .ok (.aload_n 0, 1) := by decide +kernel
theorem dX7_add_19 : decode cX7_add 19 = .ok (.getfield 9, 3) := by decide +kernel
theorem dX7_add_22 : decode cX7_add 22 = .ok (.aload_n 0, 1) := by decide +kernel
theorem dX7_add_23 : decode cX7_add 23 = .ok (.getfield 15, 3) := by decide +kernel
theorem dX7_add_26 : decode cX7_add 26 = .ok (.iload_n 1, 1) := by decide +kernel
theorem dX7_add_27 : decode cX7_add 27 = .ok (.iastore, 1) := by decide +kernel
theorem dX7_add_28 : decode cX7_add 28 = .ok (.aload_n 0, 1) := by decide +kernel
theorem dX7_add_29 : decode cX7_add 29 = .ok (.dup, 1) := by decide +kernel
theorem dX7_add_30 : decode cX7_add 30 = .ok (.getfield 15, 3) := by decide +kernel
theorem dX7_add_33 : decode cX7_add 33 = .ok (.iconst 1, 1) := by decide +kernel
theorem dX7_add_34 : decode cX7_add 34 = .ok (.iadd, 1) := by decide +kernel
theorem dX7_add_35 : decode cX7_add 35 = .ok (.putfield 15, 3) := by decide +kernel
theorem dX7_add_38 : decode cX7_add 38 = .ok (.iconst 1, 1) := by decide +kernel
theorem dX7_add_39 : decode cX7_add 39 = .ok (.ireturn, 1) := by decide +kernel
theorem dX7_letterAt_0 : decode cX7_letterAt 0 = .ok (.iload_n 1, 1) := by decide +kernel
theorem dX7_letterAt_1 : decode cX7_letterAt 1 = .ok (.ifCond .lt 17, 3) := by decide +kernel
theorem dX7_letterAt_4 : decode cX7_letterAt 4 = .ok (.iload_n 1, 1) := by decide +kernel
theorem dX7_letterAt_5 : decode cX7_letterAt 5 = .ok (.aload_n 0, 1) := by decide +kernel
theorem dX7_letterAt_6 : decode cX7_letterAt 6 = .ok (.getfield 15, 3) := by decide +kernel
theorem dX7_letterAt_9 : decode cX7_letterAt 9 = .ok (.if_icmp .ge 9, 3) := by decide +kernel
theorem dX7_letterAt_12 : decode cX7_letterAt 12 = .ok (.iload_n 1, 1) := by decide +kernel
theorem dX7_letterAt_13 : decode cX7_letterAt 13 = .ok (.bipush 120, 2) := by decide +kernel
theorem dX7_letterAt_15 : decode cX7_letterAt 15 = .ok (.if_icmp .lt 7, 3) := by decide +kernel
theorem dX7_letterAt_18 : decode cX7_letterAt 18 = .ok (.iconst (-1), 1) := by decide +kernel
theorem dX7_letterAt_19 : decode cX7_letterAt 19 = .ok (.goto 9, 3) := by decide +kernel
theorem dX7_letterAt_22 : decode cX7_letterAt 22 = .ok (.aload_n 0, 1) := by decide +kernel
theorem dX7_letterAt_23 : decode cX7_letterAt 23 = .ok (.getfield 9, 3) := by decide +kernel
theorem dX7_letterAt_26 : decode cX7_letterAt 26 = .ok (.iload_n 1, 1) := by decide +kernel
theorem dX7_letterAt_27 : decode cX7_letterAt 27 = .ok (.iaload, 1) := by decide +kernel
theorem dX7_letterAt_28 : decode cX7_letterAt 28 = .ok (.ireturn, 1) := by decide +kernel
theorem dX8_init_0 : decode cX8_init 0 = .ok (.aload_n 0, 1) := by decide +kernel
theorem dX8_init_1 : decode cX8_init 1 = .ok (.invokespecial 3, 3) := by decide +kernel
theorem dX8_init_4 : decode cX8_init 4 = .ok (.aload_n 0, 1) := by decide +kernel
theorem dX8_init_5 : decode cX8_init 5 = .ok (.sipush 340, 3) := by decide +kernel
theorem dX8_init_8 : decode cX8_init 8 = .ok (.newarray .int, 2) := by decide +kernel
theorem dX8_init_10 : decode cX8_init 10 = .ok (.putfield 9, 3) := by decide +kernel
theorem dX8_init_13 : decode cX8_init 13 = .ok (.aload_n 0, 1) := by decide +kernel
theorem dX8_init_14 : decode cX8_init 14 = .ok (.sipush 340, 3) := by decide +kernel
theorem dX8_init_17 : decode cX8_init 17 = .ok (.newarray .int, 2) := by decide +kernel
theorem dX8_init_19 : decode cX8_init 19 = .ok (.putfield 15, 3) := by decide +kernel
theorem dX8_init_22 : decode cX8_init 22 = .ok (.aload_n 0, 1) := by decide +kernel
theorem dX8_init_23 : decode cX8_init 23 = .ok (.sipush 340, 3) := by decide +kernel
theorem dX8_init_26 : decode cX8_init 26 = .ok (.newarray .int, 2) := by decide +kernel
theorem dX8_init_28 : decode cX8_init 28 = .ok (.putfield 18, 3) := by decide +kernel
theorem dX8_init_31 : decode cX8_init 31 = .ok (.aload_n 0, 1) := by decide +kernel
theorem dX8_init_32 : decode cX8_init 32 = .ok (.sipush 340, 3) := by decide +kernel
theorem dX8_init_35 : decode cX8_init 35 = .ok (.newarray .int, 2) := by decide +kernel
theorem dX8_init_37 : decode cX8_init 37 = .ok (.putfield 21, 3) := by decide +kernel
theorem dX8_init_40 : decode cX8_init 40 = .ok (.aload_n 0, 1) := by decide +kernel
theorem dX8_init_41 : decode cX8_init 41 = .ok (.sipush 340, 3) := by decide +kernel
theorem dX8_init_44 : decode cX8_init 44 = .ok (.newarray .boolean, 2) := by decide +kernel
theorem dX8_init_46 : decode cX8_init 46 = .ok (.putfield 24, 3) := by decide +kernel
theorem dX8_init_49 : decode cX8_init 49 = .ok (.aload_n 0, 1) := by decide +kernel
theorem dX8_init_50 : decode cX8_init 50 = .ok (.sipush 340, 3) := by decide +kernel
theorem dX8_init_53 : decode cX8_init 53 = .ok (.newarray .int, 2) := by decide +kernel
theorem dX8_init_55 : decode cX8_init 55 = .ok (.putfield 28, 3) := by decide +kernel
theorem dX8_init_58 : decode cX8_init 58 = .ok (.return_, 1) := by decide +kernel
theorem dX8_seek_0 : decode cX8_seek 0 = .ok (.aload_n 0, 1) := by decide +kernel
theorem dX8_seek_1 : decode cX8_seek 1 = .ok (.aload_n 1, 1) := by decide +kernel
theorem dX8_seek_2 : decode cX8_seek 2 = .ok (.putfield 31, 3) := by decide +kernel
theorem dX8_seek_5 : decode cX8_seek 5 = .ok (.aload_n 0, 1) := by decide +kernel
theorem dX8_seek_6 : decode cX8_seek 6 = .ok (.iconst 0, 1) := by decide +kernel
theorem dX8_seek_7 : decode cX8_seek 7 = .ok (.putfield 35, 3) := by decide +kernel
theorem dX8_seek_10 : decode cX8_seek 10 = .ok (.iconst 0, 1) := by decide +kernel
theorem dX8_seek_11 : decode cX8_seek 11 = .ok (.istore 5, 2) := by decide +kernel
theorem dX8_seek_13 : decode cX8_seek 13 = .ok (.iload 5, 2) := by decide +kernel
theorem dX8_seek_15 : decode cX8_seek 15 = .ok (.sipush 340, 3) := by decide +kernel
theorem dX8_seek_18 : decode cX8_seek 18 = .ok (.if_icmp .ge 17, 3) := by decide +kernel
theorem dX8_seek_21 : decode cX8_seek 21 = .ok (.aload_n 0, 1) := by decide +kernel
theorem dX8_seek_22 : decode cX8_seek 22 = .ok (.getfield 24, 3) := by decide +kernel
theorem dX8_seek_25 : decode cX8_seek 25 = .ok (.iload 5, 2) := by decide +kernel
theorem dX8_seek_27 : decode cX8_seek 27 = .ok (.iconst 0, 1) := by decide +kernel
theorem dX8_seek_28 : decode cX8_seek 28 = .ok (.bastore, 1) := by decide +kernel
theorem dX8_seek_29 : decode cX8_seek 29 = .ok (.iinc 5 1, 3) := by decide +kernel
theorem dX8_seek_32 : decode cX8_seek 32 = .ok (.goto (-19), 3) := by decide +kernel
theorem dX8_seek_35 : decode cX8_seek 35 = .ok (.aload_n 0, 1) := by decide +kernel
theorem dX8_seek_36 : decode cX8_seek 36 = .ok (.iload_n 2, 1) := by decide +kernel
theorem dX8_seek_37 : decode cX8_seek 37 = .ok (.iload_n 3, 1) := by decide +kernel
theorem dX8_seek_38 : decode cX8_seek 38 = .ok (.invokestatic 39, 3) := by decide +kernel
theorem dX8_seek_41 : decode cX8_seek 41 = .ok (.iconst (-1), 1) := by decide +kernel
theorem dX8_seek_42 : decode cX8_seek 42 = .ok (.iconst 0, 1) := by decide +kernel
theorem dX8_seek_43 : decode cX8_seek 43 = .ok (.invokevirtual 43, 3) := by decide +kernel
theorem dX8_seek_46 : decode cX8_seek 46 = .ok (.iconst 0, 1) := by decide +kernel
theorem dX8_seek_47 : decode cX8_seek 47 = .ok (.istore 5, 2) := by decide +kernel
theorem dX8_seek_49 : decode cX8_seek 49 = .ok (.iload 5, 2) := by decide +kernel
theorem dX8_seek_51 : decode cX8_seek 51 = .ok (.aload_n 0, 1) := by decide +kernel
theorem dX8_seek_52 : decode cX8_seek 52 = .ok (.getfield 35, 3) := by decide +kernel
theorem dX8_seek_55 : decode cX8_seek 55 = .ok (.if_icmp .ge 41, 3) := by decide +kernel
theorem dX8_seek_58 : decode cX8_seek 58 = .ok (.iload 5, 2) := by decide +kernel
theorem dX8_seek_60 : decode cX8_seek 60 = .ok (.sipush 340, 3) := by decide +kernel
theorem dX8_seek_63 : decode cX8_seek 63 = .ok (.if_icmp .ge 33, 3) := by decide +kernel
theorem dX8_seek_66 : decode cX8_seek 66 = .ok (.aload_n 0, 1) := by decide +kernel
theorem dX8_seek_67 : decode cX8_seek 67 = .ok (.iload 5, 2) := by decide +kernel
theorem dX8_seek_69 : decode cX8_seek 69 = .ok (.iload 4, 2) := by decide +kernel
theorem dX8_seek_71 : decode cX8_seek 71 = .ok (.invokevirtual 47, 3) := by decide +kernel
theorem dX8_seek_74 : decode cX8_seek 74 = .ok (.istore 6, 2) := by decide +kernel
theorem dX8_seek_76 : decode cX8_seek 76 = .ok (.iload 6, 2) := by decide +kernel
theorem dX8_seek_78 : decode cX8_seek 78 = .ok (.ifCond .lt 12, 3) := by decide +kernel
theorem dX8_seek_81 : decode cX8_seek 81 = .ok (.aload_n 0, 1) := by decide +kernel
theorem dX8_seek_82 : decode cX8_seek 82 = .ok (.iload 5, 2) := by decide +kernel
theorem dX8_seek_84 : decode cX8_seek 84 = .ok (.iload 6, 2) := by decide +kernel
theorem dX8_seek_86 : decode cX8_seek 86 = .ok (.invokevirtual 50, 3) := by decide +kernel
theorem dX8_seek_89 : decode cX8_seek 89 = .ok (.ireturn, 1) := by decide +kernel
theorem dX8_seek_90 : decode cX8_seek 90 = .ok (.iinc 5 1, 3) := by decide +kernel
theorem dX8_seek_93 : decode cX8_seek 93 = .ok (.goto (-44), 3) := by decide +kernel
theorem dX8_seek_96 : decode cX8_seek 96 = .ok (.bipush (-9), 2) := by decide +kernel
theorem dX8_seek_98 : decode cX8_seek 98 = .ok (.ireturn, 1) := by decide +kernel
theorem dX8_wayAt_0 : decode cX8_wayAt 0 = .ok (.iload_n 1, 1) := by decide +kernel
theorem dX8_wayAt_1 : decode cX8_wayAt 1 = .ok (.ifCond .lt 10, 3) := by decide +kernel
theorem dX8_wayAt_4 : decode cX8_wayAt 4 = .ok (.iload_n 1, 1) := by decide +kernel
theorem dX8_wayAt_5 : decode cX8_wayAt 5 = .ok (.sipush 340, 3) := by decide +kernel
theorem dX8_wayAt_8 : decode cX8_wayAt 8 = .ok (.if_icmp .lt 8, 3) := by decide +kernel
theorem dX8_wayAt_11 : decode cX8_wayAt 11 = .ok (.bipush (-9), 2) := by decide +kernel
theorem dX8_wayAt_13 : decode cX8_wayAt 13 = .ok (.goto 9, 3) := by decide +kernel
theorem dX8_wayAt_16 : decode cX8_wayAt 16 = .ok (.aload_n 0, 1) := by decide +kernel
theorem dX8_wayAt_17 : decode cX8_wayAt 17 = .ok (.getfield 28, 3) := by decide +kernel
theorem dX8_wayAt_20 : decode cX8_wayAt 20 = .ok (.iload_n 1, 1) := by decide +kernel
theorem dX8_wayAt_21 : decode cX8_wayAt 21 = .ok (.iaload, 1) := by decide +kernel
theorem dX8_wayAt_22 : decode cX8_wayAt 22 = .ok (.ireturn, 1) := by decide +kernel
theorem dX8_visitFrom_0 : decode cX8_visitFrom 0 = .ok (.aload_n 0, 1) := by decide +kernel
theorem dX8_visitFrom_1 : decode cX8_visitFrom 1 = .ok (.getfield 9, 3) := by decide +kernel
theorem dX8_visitFrom_4 : decode cX8_visitFrom 4 = .ok (.iload_n 1, 1) := by decide +kernel
theorem dX8_visitFrom_5 : decode cX8_visitFrom 5 = .ok (.iaload, 1) := by decide +kernel
theorem dX8_visitFrom_6 : decode cX8_visitFrom 6 = .ok (.invokestatic 53, 3) := by decide +kernel
theorem dX8_visitFrom_9 : decode cX8_visitFrom 9 = .ok (.istore_n 3, 1) := by decide +kernel
theorem dX8_visitFrom_10 : decode cX8_visitFrom 10 = .ok (.iconst 0, 1) := by decide +kernel
theorem dX8_visitFrom_11 : decode cX8_visitFrom 11 = .ok (.istore 4, 2) := by decide +kernel
theorem dX8_visitFrom_13 : decode cX8_visitFrom 13 = .ok (.iload 4, 2) := by decide +kernel
theorem dX8_visitFrom_15 : decode cX8_visitFrom 15 = .ok (.iconst 4, 1) := by decide +kernel
theorem dX8_visitFrom_16 : decode cX8_visitFrom 16 = .ok (.if_icmp .ge 88, 3) := by decide +kernel
theorem dX8_visitFrom_19 : decode cX8_visitFrom 19 = .ok (.aload_n 0, 1) := by decide +kernel
theorem dX8_visitFrom_20 : decode cX8_visitFrom 20 = .ok (.getfield 31, 3) := by decide +kernel
theorem dX8_visitFrom_23 : decode cX8_visitFrom 23 = .ok (.iload_n 3, 1) := by decide +kernel
theorem dX8_visitFrom_24 : decode cX8_visitFrom 24 = .ok (.iload 4, 2) := by decide +kernel
theorem dX8_visitFrom_26 : decode cX8_visitFrom 26 = .ok (.invokevirtual 57, 3) := by decide +kernel
theorem dX8_visitFrom_29 : decode cX8_visitFrom 29 = .ok (.istore 5, 2) := by decide +kernel
theorem dX8_visitFrom_31 : decode cX8_visitFrom 31 = .ok (.iload 5, 2) := by decide +kernel
theorem dX8_visitFrom_33 : decode cX8_visitFrom 33 = .ok (.ifCond .ge 6, 3) := by decide +kernel
theorem dX8_visitFrom_36 : decode cX8_visitFrom 36 = .ok (.goto 62, 3) := by decide +kernel
theorem dX8_visitFrom_39 : decode cX8_visitFrom 39 = .ok (.aload_n 0, 1) := by decide +kernel
theorem dX8_visitFrom_40 : decode cX8_visitFrom 40 = .ok (.getfield 31, 3) := by decide +kernel
theorem dX8_visitFrom_43 : decode cX8_visitFrom 43 = .ok (.iload 5, 2) := by decide +kernel
theorem dX8_visitFrom_45 : decode cX8_visitFrom 45 = .ok (.aload_n 0, 1) := by decide +kernel
theorem dX8_visitFrom_46 : decode cX8_visitFrom 46 = .ok (.getfield 9, 3) := by decide +kernel
theorem dX8_visitFrom_49 : decode cX8_visitFrom 49 = .ok (.iload_n 1, 1) := by decide +kernel
theorem dX8_visitFrom_50 : decode cX8_visitFrom 50 = .ok (.iaload, 1) := by decide +kernel
theorem dX8_visitFrom_51 : decode cX8_visitFrom 51 = .ok (.invokestatic 62, 3) := by decide +kernel
theorem dX8_visitFrom_54 : decode cX8_visitFrom 54 = .ok (.invokevirtual 65, 3) := by decide +kernel
theorem dX8_visitFrom_57 : decode cX8_visitFrom 57 = .ok (.istore 6, 2) := by decide +kernel
theorem dX8_visitFrom_59 : decode cX8_visitFrom 59 = .ok (.aload_n 0, 1) := by decide +kernel
theorem dX8_visitFrom_60 : decode cX8_visitFrom 60 = .ok (.getfield 31, 3) := by decide +kernel
theorem dX8_visitFrom_63 : decode cX8_visitFrom 63 = .ok (.iload 6, 2) := by decide +kernel
theorem dX8_visitFrom_65 : decode cX8_visitFrom 65 = .ok (.invokevirtual 68, 3) := by decide +kernel
theorem dX8_visitFrom_68 : decode cX8_visitFrom 68 = .ok (.istore 7, 2) := by decide +kernel
theorem dX8_visitFrom_70 : decode cX8_visitFrom 70 = .ok (.iload 7, 2) := by decide +kernel
theorem dX8_visitFrom_72 : decode cX8_visitFrom 72 = .ok (.iload_n 2, 1) := by decide +kernel
theorem dX8_visitFrom_73 : decode cX8_visitFrom 73 = .ok (.if_icmp .ne 6, 3) := by decide +kernel
theorem dX8_visitFrom_76 : decode cX8_visitFrom 76 = .ok (.iload 4, 2) := by decide +kernel
theorem dX8_visitFrom_78 : decode cX8_visitFrom 78 = .ok (.ireturn, 1) := by decide +kernel
theorem dX8_visitFrom_79 : decode cX8_visitFrom 79 = .ok (.iload 7, 2) := by decide +kernel
theorem dX8_visitFrom_81 : decode cX8_visitFrom 81 = .ok (.ifCond .ne 17, 3) := by decide +kernel
theorem dX8_visitFrom_84 : decode cX8_visitFrom 84 = .ok (.aload_n 0, 1) := by decide +kernel
theorem dX8_visitFrom_85 : decode cX8_visitFrom 85 = .ok (.iload 5, 2) := by decide +kernel
theorem dX8_visitFrom_87 : decode cX8_visitFrom 87 = .ok (.iload 6, 2) := by decide +kernel
theorem dX8_visitFrom_89 : decode cX8_visitFrom 89 = .ok (.invokestatic 39, 3) := by decide +kernel
theorem dX8_visitFrom_92 : decode cX8_visitFrom 92 = .ok (.iload_n 1, 1) := by decide +kernel
theorem dX8_visitFrom_93 : decode cX8_visitFrom 93 = .ok (.iload 4, 2) := by decide +kernel
theorem dX8_visitFrom_95 : decode cX8_visitFrom 95 = .ok (.invokevirtual 43, 3) := by decide +kernel
theorem dX8_visitFrom_98 : decode cX8_visitFrom 98 = .ok (.iinc 4 1, 3) := by decide +kernel
theorem dX8_visitFrom_101 : decode cX8_visitFrom 101 = .ok (.goto (-88), 3) := by decide +kernel
theorem dX8_visitFrom_104 : decode cX8_visitFrom 104 = .ok (.iconst (-1), 1) := by decide +kernel
theorem dX8_visitFrom_105 : decode cX8_visitFrom 105 = .ok (.ireturn, 1) := by decide +kernel
theorem dX8_visit_0 : decode cX8_visit 0 = .ok (.iload_n 1, 1) := by decide +kernel
theorem dX8_visit_1 : decode cX8_visit 1 = .ok (.ifCond .lt 22, 3) := by decide +kernel
theorem dX8_visit_4 : decode cX8_visit 4 = .ok (.aload_n 0, 1) := by decide +kernel
theorem dX8_visit_5 : decode cX8_visit 5 = .ok (.getfield 24, 3) := by decide +kernel
theorem dX8_visit_8 : decode cX8_visit 8 = .ok (.iload_n 1, 1) := by decide +kernel
theorem dX8_visit_9 : decode cX8_visit 9 = .ok (.baload, 1) := by decide +kernel
theorem dX8_visit_10 : decode cX8_visit 10 = .ok (.ifCond .ne 13, 3) := by decide +kernel
theorem dX8_visit_13 : decode cX8_visit 13 = .ok (.aload_n 0, 1) := by decide +kernel
theorem dX8_visit_14 : decode cX8_visit 14 = .ok (.getfield 35, 3) := by decide +kernel
theorem dX8_visit_17 : decode cX8_visit 17 = .ok (.sipush 340, 3) := by decide +kernel
theorem dX8_visit_20 : decode cX8_visit 20 = .ok (.if_icmp .lt 4, 3) := by decide +kernel
theorem dX8_visit_23 : decode cX8_visit 23 = .ok (.return_, 1) := by decide +kernel
theorem dX8_visit_24 : decode cX8_visit 24 = .ok (.aload_n 0, 1) := by decide +kernel
theorem dX8_visit_25 : decode cX8_visit 25 = .ok (.getfield 24, 3) := by decide +kernel
theorem dX8_visit_28 : decode cX8_visit 28 = .ok (.iload_n 1, 1) := by decide +kernel
theorem dX8_visit_29 : decode cX8_visit 29 = .ok (.iconst 1, 1) := by decide +kernel
theorem dX8_visit_30 : decode cX8_visit 30 = .ok (.bastore, 1) := by decide +kernel
theorem dX8_visit_31 : decode cX8_visit 31 = .ok (.aload_n 0, 1) := by decide +kernel
theorem dX8_visit_32 : decode cX8_visit 32 = .ok (.getfield 9, 3) := by decide +kernel
theorem dX8_visit_35 : decode cX8_visit 35 = .ok (.aload_n 0, 1) := by decide +kernel
theorem dX8_visit_36 : decode cX8_visit 36 = .ok (.getfield 35, 3) := by decide +kernel
theorem dX8_visit_39 : decode cX8_visit 39 = .ok (.iload_n 1, 1) := by decide +kernel
theorem dX8_visit_40 : decode cX8_visit 40 = .ok (.iastore, 1) := by decide +kernel
theorem dX8_visit_41 : decode cX8_visit 41 = .ok (.aload_n 0, 1) := by decide +kernel
theorem dX8_visit_42 : decode cX8_visit 42 = .ok (.getfield 15, 3) := by decide +kernel
theorem dX8_visit_45 : decode cX8_visit 45 = .ok (.aload_n 0, 1) := by decide +kernel
theorem dX8_visit_46 : decode cX8_visit 46 = .ok (.getfield 35, 3) := by decide +kernel
theorem dX8_visit_49 : decode cX8_visit 49 = .ok (.iload_n 2, 1) := by decide +kernel
theorem dX8_visit_50 : decode cX8_visit 50 = .ok (.iastore, 1) := by decide +kernel
theorem dX8_visit_51 : decode cX8_visit 51 = .ok (.aload_n 0, 1) := by decide +kernel
theorem dX8_visit_52 : decode cX8_visit 52 = .ok (.getfield 18, 3) := by decide +kernel
theorem dX8_visit_55 : decode cX8_visit 55 = .ok (.aload_n 0, 1) := by decide +kernel
theorem dX8_visit_56 : decode cX8_visit 56 = .ok (.getfield 35, 3) := by decide +kernel
theorem dX8_visit_59 : decode cX8_visit 59 = .ok (.iload_n 3, 1) := by decide +kernel
theorem dX8_visit_60 : decode cX8_visit 60 = .ok (.iastore, 1) := by decide +kernel
theorem dX8_visit_61 : decode cX8_visit 61 = .ok (.aload_n 0, 1) := by decide +kernel
theorem dX8_visit_62 : decode cX8_visit 62 = .ok (.getfield 21, 3) := by decide +kernel
theorem dX8_visit_65 : decode cX8_visit 65 = .ok (.aload_n 0, 1) := by decide +kernel
theorem dX8_visit_66 : decode cX8_visit 66 = .ok (.getfield 35, 3) := by decide +kernel
theorem dX8_visit_69 : decode cX8_visit 69 = .ok (.iload_n 2, 1) := by decide +kernel
theorem dX8_visit_70 : decode cX8_visit 70 = .ok (.ifCond .ge 7, 3) := by decide +kernel
theorem dX8_visit_73 : decode cX8_visit 73 = .ok (.iconst 0, 1) := by decide +kernel
theorem dX8_visit_74 : decode cX8_visit 74 = .ok (.goto 11, 3) := by decide +kernel
theorem dX8_visit_77 : decode cX8_visit 77 = .ok (.aload_n 0, 1) := by decide +kernel
theorem dX8_visit_78 : decode cX8_visit 78 = .ok (.getfield 21, 3) := by decide +kernel
theorem dX8_visit_81 : decode cX8_visit 81 = .ok (.iload_n 2, 1) := by decide +kernel
theorem dX8_visit_82 : decode cX8_visit 82 = .ok (.iaload, 1) := by decide +kernel
theorem dX8_visit_83 : decode cX8_visit 83 = .ok (.iconst 1, 1) := by decide +kernel
theorem dX8_visit_84 : decode cX8_visit 84 = .ok (.iadd, 1) := by decide +kernel
theorem dX8_visit_85 : decode cX8_visit 85 = .ok (.iastore, 1) := by decide +kernel
theorem dX8_visit_86 : decode cX8_visit 86 = .ok (.aload_n 0, 1) := by decide +kernel
theorem dX8_visit_87 : decode cX8_visit 87 = .ok (.dup, 1) := by decide +kernel
theorem dX8_visit_88 : decode cX8_visit 88 = .ok (.getfield 35, 3) := by decide +kernel
theorem dX8_visit_91 : decode cX8_visit 91 = .ok (.iconst 1, 1) := by decide +kernel
theorem dX8_visit_92 : decode cX8_visit 92 = .ok (.iadd, 1) := by decide +kernel
theorem dX8_visit_93 : decode cX8_visit 93 = .ok (.putfield 35, 3) := by decide +kernel
theorem dX8_visit_96 : decode cX8_visit 96 = .ok (.return_, 1) := by decide +kernel
theorem dX8_write_0 : decode cX8_write 0 = .ok (.aload_n 0, 1) := by decide +kernel
theorem dX8_write_1 : decode cX8_write 1 = .ok (.getfield 21, 3) := by decide +kernel
theorem dX8_write_4 : decode cX8_write 4 = .ok (.iload_n 1, 1) := by decide +kernel
theorem dX8_write_5 : decode cX8_write 5 = .ok (.iaload, 1) := by decide +kernel
theorem dX8_write_6 : decode cX8_write 6 = .ok (.iconst 1, 1) := by decide +kernel
theorem dX8_write_7 : decode cX8_write 7 = .ok (.iadd, 1) := by decide +kernel
theorem dX8_write_8 : decode cX8_write 8 = .ok (.istore_n 3, 1) := by decide +kernel
theorem dX8_write_9 : decode cX8_write 9 = .ok (.iload_n 1, 1) := by decide +kernel
theorem dX8_write_10 : decode cX8_write 10 = .ok (.istore 4, 2) := by decide +kernel
theorem dX8_write_12 : decode cX8_write 12 = .ok (.iload_n 2, 1) := by decide +kernel
theorem dX8_write_13 : decode cX8_write 13 = .ok (.istore 5, 2) := by decide +kernel
theorem dX8_write_15 : decode cX8_write 15 = .ok (.iload_n 3, 1) := by decide +kernel
theorem dX8_write_16 : decode cX8_write 16 = .ok (.iconst 1, 1) := by decide +kernel
theorem dX8_write_17 : decode cX8_write 17 = .ok (.isub, 1) := by decide +kernel
theorem dX8_write_18 : decode cX8_write 18 = .ok (.istore 6, 2) := by decide +kernel
theorem dX8_write_20 : decode cX8_write 20 = .ok (.iload 6, 2) := by decide +kernel
theorem dX8_write_22 : decode cX8_write 22 = .ok (.ifCond .lt 49, 3) := by decide +kernel
theorem dX8_write_25 : decode cX8_write 25 = .ok (.iload 6, 2) := by decide +kernel
theorem dX8_write_27 : decode cX8_write 27 = .ok (.sipush 340, 3) := by decide +kernel
theorem dX8_write_30 : decode cX8_write 30 = .ok (.if_icmp .ge 41, 3) := by decide +kernel
theorem dX8_write_33 : decode cX8_write 33 = .ok (.iload 4, 2) := by decide +kernel
theorem dX8_write_35 : decode cX8_write 35 = .ok (.ifCond .lt 36, 3) := by decide +kernel
theorem dX8_write_38 : decode cX8_write 38 = .ok (.aload_n 0, 1) := by decide +kernel
theorem dX8_write_39 : decode cX8_write 39 = .ok (.getfield 28, 3) := by decide +kernel
theorem dX8_write_42 : decode cX8_write 42 = .ok (.iload 6, 2) := by decide +kernel
theorem dX8_write_44 : decode cX8_write 44 = .ok (.iload 5, 2) := by decide +kernel
theorem dX8_write_46 : decode cX8_write 46 = .ok (.iastore, 1) := by decide +kernel
theorem dX8_write_47 : decode cX8_write 47 = .ok (.aload_n 0, 1) := by decide +kernel
theorem dX8_write_48 : decode cX8_write 48 = .ok (.getfield 18, 3) := by decide +kernel
theorem dX8_write_51 : decode cX8_write 51 = .ok (.iload 4, 2) := by decide +kernel
theorem dX8_write_53 : decode cX8_write 53 = .ok (.iaload, 1) := by decide +kernel
theorem dX8_write_54 : decode cX8_write 54 = .ok (.istore 5, 2) := by decide +kernel
theorem dX8_write_56 : decode cX8_write 56 = .ok (.aload_n 0, 1) := by decide +kernel
theorem dX8_write_57 : decode cX8_write 57 = .ok (.getfield 15, 3) := by decide +kernel
theorem dX8_write_60 : decode cX8_write 60 = .ok (.iload 4, 2) := by decide +kernel
theorem dX8_write_62 : decode cX8_write 62 = .ok (.iaload, 1) := by decide +kernel
theorem dX8_write_63 : decode cX8_write 63 = .ok (.istore 4, 2) := by decide +kernel
theorem dX8_write_65 : decode cX8_write 65 = .ok (.iinc 6 (-1), 3) := by decide +kernel
theorem dX8_write_68 : decode cX8_write 68 = .ok (.goto (-48), 3) := by decide +kernel
theorem dX8_write_71 : decode cX8_write 71 = .ok (.iload_n 3, 1) := by decide +kernel
theorem dX8_write_72 : decode cX8_write 72 = .ok (.ireturn, 1) := by decide +kernel
theorem dX9_init_0 : decode cX9_init 0 = .ok (.aload_n 0, 1) := by decide +kernel
theorem dX9_init_1 : decode cX9_init 1 = .ok (.invokespecial 3, 3) := by decide +kernel
theorem dX9_init_4 : decode cX9_init 4 = .ok (.aload_n 0, 1) := by decide +kernel
theorem dX9_init_5 : decode cX9_init 5 = .ok (.new 9, 3) := by decide +kernel
theorem dX9_init_8 : decode cX9_init 8 = .ok (.dup, 1) := by decide +kernel
theorem dX9_init_9 : decode cX9_init 9 = .ok (.invokespecial 11, 3) := by decide +kernel
theorem dX9_init_12 : decode cX9_init 12 = .ok (.putfield 12, 3) := by decide +kernel
theorem dX9_init_15 : decode cX9_init 15 = .ok (.aload_n 0, 1) := by decide +kernel
theorem dX9_init_16 : decode cX9_init 16 = .ok (.new 16, 3) := by decide +kernel
theorem dX9_init_19 : decode cX9_init 19 = .ok (.dup, 1) := by decide +kernel
theorem dX9_init_20 : decode cX9_init 20 = .ok (.aload_n 0, 1) := by decide +kernel
theorem dX9_init_21 : decode cX9_init 21 = .ok (.getfield 12, 3) := by decide +kernel
theorem dX9_init_24 : decode cX9_init 24 = .ok (.invokespecial 18, 3) := by decide +kernel
theorem dX9_init_27 : decode cX9_init 27 = .ok (.putfield 21, 3) := by decide +kernel
theorem dX9_init_30 : decode cX9_init 30 = .ok (.aload_n 0, 1) := by decide +kernel
theorem dX9_init_31 : decode cX9_init 31 = .ok (.new 25, 3) := by decide +kernel
theorem dX9_init_34 : decode cX9_init 34 = .ok (.dup, 1) := by decide +kernel
theorem dX9_init_35 : decode cX9_init 35 = .ok (.invokespecial 27, 3) := by decide +kernel
theorem dX9_init_38 : decode cX9_init 38 = .ok (.putfield 28, 3) := by decide +kernel
theorem dX9_init_41 : decode cX9_init 41 = .ok (.aload_n 0, 1) := by decide +kernel
theorem dX9_init_42 : decode cX9_init 42 = .ok (.new 25, 3) := by decide +kernel
theorem dX9_init_45 : decode cX9_init 45 = .ok (.dup, 1) := by decide +kernel
theorem dX9_init_46 : decode cX9_init 46 = .ok (.invokespecial 27, 3) := by decide +kernel
theorem dX9_init_49 : decode cX9_init 49 = .ok (.putfield 32, 3) := by decide +kernel
theorem dX9_init_52 : decode cX9_init 52 = .ok (.aload_n 0, 1) := by decide +kernel
theorem dX9_init_53 : decode cX9_init 53 = .ok (.new 35, 3) := by decide +kernel
theorem dX9_init_56 : decode cX9_init 56 = .ok (.dup, 1) := by decide +kernel
theorem dX9_init_57 : decode cX9_init 57 = .ok (.invokespecial 37, 3) := by decide +kernel
theorem dX9_init_60 : decode cX9_init 60 = .ok (.putfield 38, 3) := by decide +kernel
theorem dX9_init_63 : decode cX9_init 63 = .ok (.aload_n 0, 1) := by decide +kernel
theorem dX9_init_64 : decode cX9_init 64 = .ok (.new 42, 3) := by decide +kernel
theorem dX9_init_67 : decode cX9_init 67 = .ok (.dup, 1) := by decide +kernel
theorem dX9_init_68 : decode cX9_init 68 = .ok (.aload_n 0, 1) := by decide +kernel
theorem dX9_init_69 : decode cX9_init 69 = .ok (.getfield 38, 3) := by decide +kernel
theorem dX9_init_72 : decode cX9_init 72 = .ok (.getfield 44, 3) := by decide +kernel
theorem dX9_init_75 : decode cX9_init 75 = .ok (.invokespecial 48, 3) := by decide +kernel
theorem dX9_init_78 : decode cX9_init 78 = .ok (.putfield 51, 3) := by decide +kernel
theorem dX9_init_81 : decode cX9_init 81 = .ok (.aload_n 0, 1) := by decide +kernel
theorem dX9_init_82 : decode cX9_init 82 = .ok (.new 42, 3) := by decide +kernel
theorem dX9_init_85 : decode cX9_init 85 = .ok (.dup, 1) := by decide +kernel
theorem dX9_init_86 : decode cX9_init 86 = .ok (.bipush 20, 2) := by decide +kernel
theorem dX9_init_88 : decode cX9_init 88 = .ok (.newarray .int, 2) := by decide +kernel
theorem dX9_init_90 : decode cX9_init 90 = .ok (.invokespecial 48, 3) := by decide +kernel
theorem dX9_init_93 : decode cX9_init 93 = .ok (.putfield 55, 3) := by decide +kernel
theorem dX9_init_96 : decode cX9_init 96 = .ok (.aload_n 0, 1) := by decide +kernel
theorem dX9_init_97 : decode cX9_init 97 = .ok (.new 58, 3) := by decide +kernel
theorem dX9_init_100 : decode cX9_init 100 = .ok (.dup, 1) := by decide +kernel
theorem dX9_init_101 : decode cX9_init 101 = .ok (.invokespecial 60, 3) := by decide +kernel
theorem dX9_init_104 : decode cX9_init 104 = .ok (.putfield 61, 3) := by decide +kernel
theorem dX9_init_107 : decode cX9_init 107 = .ok (.aload_n 0, 1) := by decide +kernel
theorem dX9_init_108 : decode cX9_init 108 = .ok (.iconst 2, 1) := by decide +kernel
theorem dX9_init_109 : decode cX9_init 109 = .ok (.anewarray 35, 3) := by decide +kernel
theorem dX9_init_112 : decode cX9_init 112 = .ok (.dup, 1) := by decide +kernel
theorem dX9_init_113 : decode cX9_init 113 = .ok (.iconst 0, 1) := by decide +kernel
theorem dX9_init_114 : decode cX9_init 114 = .ok (.new 35, 3) := by decide +kernel
theorem dX9_init_117 : decode cX9_init 117 = .ok (.dup, 1) := by decide +kernel
theorem dX9_init_118 : decode cX9_init 118 = .ok (.invokespecial 37, 3) := by decide +kernel
theorem dX9_init_121 : decode cX9_init 121 = .ok (.aastore, 1) := by decide +kernel
theorem dX9_init_122 : decode cX9_init 122 = .ok (.dup, 1) := by decide +kernel
theorem dX9_init_123 : decode cX9_init 123 = .ok (.iconst 1, 1) := by decide +kernel
theorem dX9_init_124 : decode cX9_init 124 = .ok (.new 35, 3) := by decide +kernel
theorem dX9_init_127 : decode cX9_init 127 = .ok (.dup, 1) := by decide +kernel
theorem dX9_init_128 : decode cX9_init 128 = .ok (.invokespecial 37, 3) := by decide +kernel
theorem dX9_init_131 : decode cX9_init 131 = .ok (.aastore, 1) := by decide +kernel
theorem dX9_init_132 : decode cX9_init 132 = .ok (.putfield 65, 3) := by decide +kernel
theorem dX9_init_135 : decode cX9_init 135 = .ok (.aload_n 0, 1) := by decide +kernel
theorem dX9_init_136 : decode cX9_init 136 = .ok (.iconst 2, 1) := by decide +kernel
theorem dX9_init_137 : decode cX9_init 137 = .ok (.newarray .boolean, 2) := by decide +kernel
theorem dX9_init_139 : decode cX9_init 139 = .ok (.putfield 69, 3) := by decide +kernel
theorem dX9_init_142 : decode cX9_init 142 = .ok (.aload_n 0, 1) := by decide +kernel
theorem dX9_init_143 : decode cX9_init 143 = .ok (.bipush 8, 2) := by decide +kernel
theorem dX9_init_145 : decode cX9_init 145 = .ok (.newarray .int, 2) := by decide +kernel
theorem dX9_init_147 : decode cX9_init 147 = .ok (.putfield 73, 3) := by decide +kernel
theorem dX9_init_150 : decode cX9_init 150 = .ok (.aload_n 0, 1) := by decide +kernel
theorem dX9_init_151 : decode cX9_init 151 = .ok (.new 76, 3) := by decide +kernel
theorem dX9_init_154 : decode cX9_init 154 = .ok (.dup, 1) := by decide +kernel
theorem dX9_init_155 : decode cX9_init 155 = .ok (.invokespecial 78, 3) := by decide +kernel
theorem dX9_init_158 : decode cX9_init 158 = .ok (.putfield 79, 3) := by decide +kernel
theorem dX9_init_161 : decode cX9_init 161 = .ok (.aload_n 0, 1) := by decide +kernel
theorem dX9_init_162 : decode cX9_init 162 = .ok (.new 83, 3) := by decide +kernel
theorem dX9_init_165 : decode cX9_init 165 = .ok (.dup, 1) := by decide +kernel
theorem dX9_init_166 : decode cX9_init 166 = .ok (.invokespecial 85, 3) := by decide +kernel
theorem dX9_init_169 : decode cX9_init 169 = .ok (.putfield 86, 3) := by decide +kernel
theorem dX9_init_172 : decode cX9_init 172 = .ok (.aload_n 0, 1) := by decide +kernel
theorem dX9_init_173 : decode cX9_init 173 = .ok (.new 90, 3) := by decide +kernel
theorem dX9_init_176 : decode cX9_init 176 = .ok (.dup, 1) := by decide +kernel
theorem dX9_init_177 : decode cX9_init 177 = .ok (.invokespecial 92, 3) := by decide +kernel
theorem dX9_init_180 : decode cX9_init 180 = .ok (.putfield 93, 3) := by decide +kernel
theorem dX9_init_183 : decode cX9_init 183 = .ok (.return_, 1) := by decide +kernel
theorem dX9_type_0 : decode cX9_type 0 = .ok (.iload_n 1, 1) := by decide +kernel
theorem dX9_type_1 : decode cX9_type 1 = .ok (.ifCond .lt 10, 3) := by decide +kernel
theorem dX9_type_4 : decode cX9_type 4 = .ok (.iload_n 1, 1) := by decide +kernel
theorem dX9_type_5 : decode cX9_type 5 = .ok (.sipush 255, 3) := by decide +kernel
theorem dX9_type_8 : decode cX9_type 8 = .ok (.if_icmp .le 5, 3) := by decide +kernel
theorem dX9_type_11 : decode cX9_type 11 = .ok (.iconst (-1), 1) := by decide +kernel
theorem dX9_type_12 : decode cX9_type 12 = .ok (.ireturn, 1) := by decide +kernel
theorem dX9_type_13 : decode cX9_type 13 = .ok (.aload_n 0, 1) := by decide +kernel
theorem dX9_type_14 : decode cX9_type 14 = .ok (.getfield 12, 3) := by decide +kernel
theorem dX9_type_17 : decode cX9_type 17 = .ok (.iload_n 1, 1) := by decide +kernel
theorem dX9_type_18 : decode cX9_type 18 = .ok (.invokevirtual 97, 3) := by decide +kernel
theorem dX9_type_21 : decode cX9_type 21 = .ok (.ifCond .eq 13, 3) := by decide +kernel
theorem dX9_type_24 : decode cX9_type 24 = .ok (.aload_n 0, 1) := by decide +kernel
theorem dX9_type_25 : decode cX9_type 25 = .ok (.getfield 12, 3) := by decide +kernel
theorem dX9_type_28 : decode cX9_type 28 = .ok (.getfield 101, 3) := by decide +kernel
theorem dX9_type_31 : decode cX9_type 31 = .ok (.goto 5, 3) := by decide +kernel
theorem dX9_type_34 : decode cX9_type 34 = .ok (.bipush (-3), 2) := by decide +kernel
theorem dX9_type_36 : decode cX9_type 36 = .ok (.ireturn, 1) := by decide +kernel
theorem dX9_clear_0 : decode cX9_clear 0 = .ok (.aload_n 0, 1) := by decide +kernel
theorem dX9_clear_1 : decode cX9_clear 1 = .ok (.getfield 12, 3) := by decide +kernel
theorem dX9_clear_4 : decode cX9_clear 4 = .ok (.getfield 101, 3) := by decide +kernel
theorem dX9_clear_7 : decode cX9_clear 7 = .ok (.istore_n 1, 1) := by decide +kernel
theorem dX9_clear_8 : decode cX9_clear 8 = .ok (.aload_n 0, 1) := by decide +kernel
theorem dX9_clear_9 : decode cX9_clear 9 = .ok (.getfield 12, 3) := by decide +kernel
theorem dX9_clear_12 : decode cX9_clear 12 = .ok (.iconst 0, 1) := by decide +kernel
theorem dX9_clear_13 : decode cX9_clear 13 = .ok (.putfield 101, 3) := by decide +kernel
theorem dX9_clear_16 : decode cX9_clear 16 = .ok (.iload_n 1, 1) := by decide +kernel
theorem dX9_clear_17 : decode cX9_clear 17 = .ok (.ireturn, 1) := by decide +kernel
theorem dX9_yard_0 : decode cX9_yard 0 = .ok (.aload_n 0, 1) := by decide +kernel
theorem dX9_yard_1 : decode cX9_yard 1 = .ok (.getfield 21, 3) := by decide +kernel
theorem dX9_yard_4 : decode cX9_yard 4 = .ok (.aload_n 0, 1) := by decide +kernel
theorem dX9_yard_5 : decode cX9_yard 5 = .ok (.getfield 32, 3) := by decide +kernel
theorem dX9_yard_8 : decode cX9_yard 8 = .ok (.invokevirtual 105, 3) := by decide +kernel
theorem dX9_yard_11 : decode cX9_yard 11 = .ok (.istore_n 1, 1) := by decide +kernel
theorem dX9_yard_12 : decode cX9_yard 12 = .ok (.iload_n 1, 1) := by decide +kernel
theorem dX9_yard_13 : decode cX9_yard 13 = .ok (.ifCond .ge 5, 3) := by decide +kernel
theorem dX9_yard_16 : decode cX9_yard 16 = .ok (.iload_n 1, 1) := by decide +kernel
theorem dX9_yard_17 : decode cX9_yard 17 = .ok (.ireturn, 1) := by decide +kernel
theorem dX9_yard_18 : decode cX9_yard 18 = .ok (.aload_n 0, 1) := by decide +kernel
theorem dX9_yard_19 : decode cX9_yard 19 = .ok (.getfield 28, 3) := by decide +kernel
theorem dX9_yard_22 : decode cX9_yard 22 = .ok (.astore_n 2, 1) := by decide +kernel
theorem dX9_yard_23 : decode cX9_yard 23 = .ok (.aload_n 0, 1) := by decide +kernel
theorem dX9_yard_24 : decode cX9_yard 24 = .ok (.aload_n 0, 1) := by decide +kernel
theorem dX9_yard_25 : decode cX9_yard 25 = .ok (.getfield 32, 3) := by decide +kernel
theorem dX9_yard_28 : decode cX9_yard 28 = .ok (.putfield 28, 3) := by decide +kernel
theorem dX9_yard_31 : decode cX9_yard 31 = .ok (.aload_n 0, 1) := by decide +kernel
theorem dX9_yard_32 : decode cX9_yard 32 = .ok (.aload_n 2, 1) := by decide +kernel
theorem dX9_yard_33 : decode cX9_yard 33 = .ok (.putfield 32, 3) := by decide +kernel
theorem dX9_yard_36 : decode cX9_yard 36 = .ok (.aload_n 0, 1) := by decide +kernel
theorem dX9_yard_37 : decode cX9_yard 37 = .ok (.getfield 12, 3) := by decide +kernel
theorem dX9_yard_40 : decode cX9_yard 40 = .ok (.iconst 0, 1) := by decide +kernel
theorem dX9_yard_41 : decode cX9_yard 41 = .ok (.putfield 101, 3) := by decide +kernel
theorem dX9_yard_44 : decode cX9_yard 44 = .ok (.aload_n 0, 1) := by decide +kernel
theorem dX9_yard_45 : decode cX9_yard 45 = .ok (.getfield 51, 3) := by decide +kernel
theorem dX9_yard_48 : decode cX9_yard 48 = .ok (.aload_n 0, 1) := by decide +kernel
theorem dX9_yard_49 : decode cX9_yard 49 = .ok (.getfield 28, 3) := by decide +kernel
theorem dX9_yard_52 : decode cX9_yard 52 = .ok (.getfield 109, 3) := by decide +kernel
theorem dX9_yard_55 : decode cX9_yard 55 = .ok (.putfield 112, 3) := by decide +kernel
theorem dX9_yard_58 : decode cX9_yard 58 = .ok (.aload_n 0, 1) := by decide +kernel
theorem dX9_yard_59 : decode cX9_yard 59 = .ok (.getfield 51, 3) := by decide +kernel
theorem dX9_yard_62 : decode cX9_yard 62 = .ok (.aload_n 0, 1) := by decide +kernel
theorem dX9_yard_63 : decode cX9_yard 63 = .ok (.getfield 28, 3) := by decide +kernel
theorem dX9_yard_66 : decode cX9_yard 66 = .ok (.getfield 113, 3) := by decide +kernel
theorem dX9_yard_69 : decode cX9_yard 69 = .ok (.putfield 116, 3) := by decide +kernel
theorem dX9_yard_72 : decode cX9_yard 72 = .ok (.aload_n 0, 1) := by decide +kernel
theorem dX9_yard_73 : decode cX9_yard 73 = .ok (.getfield 38, 3) := by decide +kernel
theorem dX9_yard_76 : decode cX9_yard 76 = .ok (.aload_n 0, 1) := by decide +kernel
theorem dX9_yard_77 : decode cX9_yard 77 = .ok (.getfield 28, 3) := by decide +kernel
theorem dX9_yard_80 : decode cX9_yard 80 = .ok (.invokevirtual 117, 3) := by decide +kernel
theorem dX9_yard_83 : decode cX9_yard 83 = .ok (.aload_n 0, 1) := by decide +kernel
theorem dX9_yard_84 : decode cX9_yard 84 = .ok (.getfield 51, 3) := by decide +kernel
theorem dX9_yard_87 : decode cX9_yard 87 = .ok (.invokevirtual 121, 3) := by decide +kernel
theorem dX9_yard_90 : decode cX9_yard 90 = .ok (.aload_n 0, 1) := by decide +kernel
theorem dX9_yard_91 : decode cX9_yard 91 = .ok (.getfield 61, 3) := by decide +kernel
theorem dX9_yard_94 : decode cX9_yard 94 = .ok (.iconst 0, 1) := by decide +kernel
theorem dX9_yard_95 : decode cX9_yard 95 = .ok (.putfield 124, 3) := by decide +kernel
theorem dX9_yard_98 : decode cX9_yard 98 = .ok (.aload_n 0, 1) := by decide +kernel
theorem dX9_yard_99 : decode cX9_yard 99 = .ok (.iconst 0, 1) := by decide +kernel
theorem dX9_yard_100 : decode cX9_yard 100 = .ok (.putfield 127, 3) := by decide +kernel
theorem dX9_yard_103 : decode cX9_yard 103 = .ok (.iconst 0, 1) := by decide +kernel
theorem dX9_yard_104 : decode cX9_yard 104 = .ok (.istore_n 3, 1) := by decide +kernel
theorem dX9_yard_105 : decode cX9_yard 105 = .ok (.iload_n 3, 1) := by decide +kernel
theorem dX9_yard_106 : decode cX9_yard 106 = .ok (.iconst 2, 1) := by decide +kernel
theorem dX9_yard_107 : decode cX9_yard 107 = .ok (.if_icmp .ge 16, 3) := by decide +kernel
theorem dX9_yard_110 : decode cX9_yard 110 = .ok (.aload_n 0, 1) := by decide +kernel
theorem dX9_yard_111 : decode cX9_yard 111 = .ok (.getfield 69, 3) := by decide +kernel
theorem dX9_yard_114 : decode cX9_yard 114 = .ok (.iload_n 3, 1) := by decide +kernel
theorem dX9_yard_115 : decode cX9_yard 115 = .ok (.iconst 0, 1) := by decide +kernel
theorem dX9_yard_116 : decode cX9_yard 116 = .ok (.bastore, 1) := by decide +kernel
theorem dX9_yard_117 : decode cX9_yard 117 = .ok (.iinc 3 1, 3) := by decide +kernel
theorem dX9_yard_120 : decode cX9_yard 120 = .ok (.goto (-15), 3) := by decide +kernel
theorem dX9_yard_123 : decode cX9_yard 123 = .ok (.iload_n 1, 1) := by decide +kernel
theorem dX9_yard_124 : decode cX9_yard 124 = .ok (.ireturn, 1) := by decide +kernel
theorem dX9_tilt_0 : decode cX9_tilt 0 = .ok (.iload_n 1, 1) := by decide +kernel
theorem dX9_tilt_1 : decode cX9_tilt 1 = .ok (.iload_n 2, 1) := by decide +kernel
theorem dX9_tilt_2 : decode cX9_tilt 2 = .ok (.invokestatic 130, 3) := by decide +kernel
theorem dX9_tilt_5 : decode cX9_tilt 5 = .ok (.istore_n 3, 1) := by decide +kernel
theorem dX9_tilt_6 : decode cX9_tilt 6 = .ok (.aload_n 0, 1) := by decide +kernel
theorem dX9_tilt_7 : decode cX9_tilt 7 = .ok (.getfield 51, 3) := by decide +kernel
theorem dX9_tilt_10 : decode cX9_tilt 10 = .ok (.iload_n 3, 1) := by decide +kernel
theorem dX9_tilt_11 : decode cX9_tilt 11 = .ok (.invokevirtual 134, 3) := by decide +kernel
theorem dX9_tilt_14 : decode cX9_tilt 14 = .ok (.ifCond .eq 8, 3) := by decide +kernel
theorem dX9_tilt_17 : decode cX9_tilt 17 = .ok (.ldc 137, 2) := by decide +kernel
theorem dX9_tilt_19 : decode cX9_tilt 19 = .ok (.goto 12, 3) := by decide +kernel
theorem dX9_tilt_22 : decode cX9_tilt 22 = .ok (.aload_n 0, 1) := by decide +kernel
theorem dX9_tilt_23 : decode cX9_tilt 23 = .ok (.getfield 38, 3) := by decide +kernel
theorem dX9_tilt_26 : decode cX9_tilt 26 = .ok (.getfield 44, 3) := by decide +kernel
theorem dX9_tilt_29 : decode cX9_tilt 29 = .ok (.iload_n 3, 1) := by decide +kernel
theorem dX9_tilt_30 : decode cX9_tilt 30 = .ok (.iaload, 1) := by decide +kernel
theorem dX9_tilt_31 : decode cX9_tilt 31 = .ok (.ireturn, 1) := by decide +kernel
theorem dX9_now_0 : decode cX9_now 0 = .ok (.iload_n 1, 1) := by decide +kernel
theorem dX9_now_1 : decode cX9_now 1 = .ok (.tableswitch 119 0 7 #[47, 55, 63, 71, 81, 91, 101, 111], 47) := by decide +kernel
theorem dX9_now_48 : decode cX9_now 48 = .ok (.aload_n 0, 1) := by decide +kernel
theorem dX9_now_49 : decode cX9_now 49 = .ok (.getfield 38, 3) := by decide +kernel
theorem dX9_now_52 : decode cX9_now 52 = .ok (.getfield 138, 3) := by decide +kernel
theorem dX9_now_55 : decode cX9_now 55 = .ok (.ireturn, 1) := by decide +kernel
theorem dX9_now_56 : decode cX9_now 56 = .ok (.aload_n 0, 1) := by decide +kernel
theorem dX9_now_57 : decode cX9_now 57 = .ok (.getfield 38, 3) := by decide +kernel
theorem dX9_now_60 : decode cX9_now 60 = .ok (.getfield 141, 3) := by decide +kernel
theorem dX9_now_63 : decode cX9_now 63 = .ok (.ireturn, 1) := by decide +kernel
theorem dX9_now_64 : decode cX9_now 64 = .ok (.aload_n 0, 1) := by decide +kernel
theorem dX9_now_65 : decode cX9_now 65 = .ok (.getfield 38, 3) := by decide +kernel
theorem dX9_now_68 : decode cX9_now 68 = .ok (.getfield 144, 3) := by decide +kernel
theorem dX9_now_71 : decode cX9_now 71 = .ok (.ireturn, 1) := by decide +kernel
theorem dX9_now_72 : decode cX9_now 72 = .ok (.aload_n 0, 1) := by decide +kernel
theorem dX9_now_73 : decode cX9_now 73 = .ok (.getfield 38, 3) := by decide +kernel
theorem dX9_now_76 : decode cX9_now 76 = .ok (.getfield 147, 3) := by decide +kernel
theorem dX9_now_79 : decode cX9_now 79 = .ok (.iconst 0, 1) := by decide +kernel
theorem dX9_now_80 : decode cX9_now 80 = .ok (.iaload, 1) := by decide +kernel
theorem dX9_now_81 : decode cX9_now 81 = .ok (.ireturn, 1) := by decide +kernel
theorem dX9_now_82 : decode cX9_now 82 = .ok (.aload_n 0, 1) := by decide +kernel
theorem dX9_now_83 : decode cX9_now 83 = .ok (.getfield 38, 3) := by decide +kernel
theorem dX9_now_86 : decode cX9_now 86 = .ok (.getfield 147, 3) := by decide +kernel
theorem dX9_now_89 : decode cX9_now 89 = .ok (.iconst 1, 1) := by decide +kernel
theorem dX9_now_90 : decode cX9_now 90 = .ok (.iaload, 1) := by decide +kernel
theorem dX9_now_91 : decode cX9_now 91 = .ok (.ireturn, 1) := by decide +kernel
theorem dX9_now_92 : decode cX9_now 92 = .ok (.aload_n 0, 1) := by decide +kernel
theorem dX9_now_93 : decode cX9_now 93 = .ok (.getfield 38, 3) := by decide +kernel
theorem dX9_now_96 : decode cX9_now 96 = .ok (.getfield 150, 3) := by decide +kernel
theorem dX9_now_99 : decode cX9_now 99 = .ok (.iconst 0, 1) := by decide +kernel
theorem dX9_now_100 : decode cX9_now 100 = .ok (.iaload, 1) := by decide +kernel
theorem dX9_now_101 : decode cX9_now 101 = .ok (.ireturn, 1) := by decide +kernel
theorem dX9_now_102 : decode cX9_now 102 = .ok (.aload_n 0, 1) := by decide +kernel
theorem dX9_now_103 : decode cX9_now 103 = .ok (.getfield 38, 3) := by decide +kernel
theorem dX9_now_106 : decode cX9_now 106 = .ok (.getfield 150, 3) := by decide +kernel
theorem dX9_now_109 : decode cX9_now 109 = .ok (.iconst 1, 1) := by decide +kernel
theorem dX9_now_110 : decode cX9_now 110 = .ok (.iaload, 1) := by decide +kernel
theorem dX9_now_111 : decode cX9_now 111 = .ok (.ireturn, 1) := by decide +kernel
theorem dX9_now_112 : decode cX9_now 112 = .ok (.aload_n 0, 1) := by decide +kernel
theorem dX9_now_113 : decode cX9_now 113 = .ok (.getfield 61, 3) := by decide +kernel
theorem dX9_now_116 : decode cX9_now 116 = .ok (.getfield 124, 3) := by decide +kernel
theorem dX9_now_119 : decode cX9_now 119 = .ok (.ireturn, 1) := by decide +kernel
theorem dX9_now_120 : decode cX9_now 120 = .ok (.ldc 137, 2) := by decide +kernel
theorem dX9_now_122 : decode cX9_now 122 = .ok (.ireturn, 1) := by decide +kernel
theorem dX9_cellAt_0 : decode cX9_cellAt 0 = .ok (.iload_n 0, 1) := by decide +kernel
theorem dX9_cellAt_1 : decode cX9_cellAt 1 = .ok (.ifCond .lt 17, 3) := by decide +kernel
theorem dX9_cellAt_4 : decode cX9_cellAt 4 = .ok (.iload_n 0, 1) := by decide +kernel
theorem dX9_cellAt_5 : decode cX9_cellAt 5 = .ok (.iconst 5, 1) := by decide +kernel
theorem dX9_cellAt_6 : decode cX9_cellAt 6 = .ok (.if_icmp .ge 12, 3) := by decide +kernel
theorem dX9_cellAt_9 : decode cX9_cellAt 9 = .ok (.iload_n 1, 1) := by decide +kernel
theorem dX9_cellAt_10 : decode cX9_cellAt 10 = .ok (.ifCond .lt 8, 3) := by decide +kernel
theorem dX9_cellAt_13 : decode cX9_cellAt 13 = .ok (.iload_n 1, 1) := by decide +kernel
theorem dX9_cellAt_14 : decode cX9_cellAt 14 = .ok (.iconst 4, 1) := by decide +kernel
theorem dX9_cellAt_15 : decode cX9_cellAt 15 = .ok (.if_icmp .lt 5, 3) := by decide +kernel
theorem dX9_cellAt_18 : decode cX9_cellAt 18 = .ok (.iconst (-1), 1) := by decide +kernel
theorem dX9_cellAt_19 : decode cX9_cellAt 19 = .ok (.ireturn, 1) := by decide +kernel
theorem dX9_cellAt_20 : decode cX9_cellAt 20 = .ok (.iconst 5, 1) := by decide +kernel
theorem dX9_cellAt_21 : decode cX9_cellAt 21 = .ok (.iload_n 1, 1) := by decide +kernel
theorem dX9_cellAt_22 : decode cX9_cellAt 22 = .ok (.imul, 1) := by decide +kernel
theorem dX9_cellAt_23 : decode cX9_cellAt 23 = .ok (.iload_n 0, 1) := by decide +kernel
theorem dX9_cellAt_24 : decode cX9_cellAt 24 = .ok (.iadd, 1) := by decide +kernel
theorem dX9_cellAt_25 : decode cX9_cellAt 25 = .ok (.ireturn, 1) := by decide +kernel
theorem dX9_hasNoStart_0 : decode cX9_hasNoStart 0 = .ok (.aload_n 0, 1) := by decide +kernel
theorem dX9_hasNoStart_1 : decode cX9_hasNoStart 1 = .ok (.getfield 28, 3) := by decide +kernel
theorem dX9_hasNoStart_4 : decode cX9_hasNoStart 4 = .ok (.getfield 153, 3) := by decide +kernel
theorem dX9_hasNoStart_7 : decode cX9_hasNoStart 7 = .ok (.bipush (-9), 2) := by decide +kernel
theorem dX9_hasNoStart_9 : decode cX9_hasNoStart 9 = .ok (.if_icmp .ne 7, 3) := by decide +kernel
theorem dX9_hasNoStart_12 : decode cX9_hasNoStart 12 = .ok (.iconst 1, 1) := by decide +kernel
theorem dX9_hasNoStart_13 : decode cX9_hasNoStart 13 = .ok (.goto 4, 3) := by decide +kernel
theorem dX9_hasNoStart_16 : decode cX9_hasNoStart 16 = .ok (.iconst 0, 1) := by decide +kernel
theorem dX9_hasNoStart_17 : decode cX9_hasNoStart 17 = .ok (.ireturn, 1) := by decide +kernel
theorem dX9_pushes_0 : decode cX9_pushes 0 = .ok (.iload_n 1, 1) := by decide +kernel
theorem dX9_pushes_1 : decode cX9_pushes 1 = .ok (.invokestatic 156, 3) := by decide +kernel
theorem dX9_pushes_4 : decode cX9_pushes 4 = .ok (.ifCond .eq 5, 3) := by decide +kernel
theorem dX9_pushes_7 : decode cX9_pushes 7 = .ok (.iconst (-1), 1) := by decide +kernel
theorem dX9_pushes_8 : decode cX9_pushes 8 = .ok (.ireturn, 1) := by decide +kernel
theorem dX9_pushes_9 : decode cX9_pushes 9 = .ok (.aload_n 0, 1) := by decide +kernel
theorem dX9_pushes_10 : decode cX9_pushes 10 = .ok (.iload_n 1, 1) := by decide +kernel
theorem dX9_pushes_11 : decode cX9_pushes 11 = .ok (.invokevirtual 159, 3) := by decide +kernel
theorem dX9_pushes_14 : decode cX9_pushes 14 = .ok (.istore_n 2, 1) := by decide +kernel
theorem dX9_pushes_15 : decode cX9_pushes 15 = .ok (.iload_n 2, 1) := by decide +kernel
theorem dX9_pushes_16 : decode cX9_pushes 16 = .ok (.ifCond .ge 6, 3) := by decide +kernel
theorem dX9_pushes_19 : decode cX9_pushes 19 = .ok (.bipush (-2), 2) := by decide +kernel
theorem dX9_pushes_21 : decode cX9_pushes 21 = .ok (.ireturn, 1) := by decide +kernel
theorem dX9_pushes_22 : decode cX9_pushes 22 = .ok (.aload_n 0, 1) := by decide +kernel
theorem dX9_pushes_23 : decode cX9_pushes 23 = .ok (.getfield 61, 3) := by decide +kernel
theorem dX9_pushes_26 : decode cX9_pushes 26 = .ok (.aload_n 0, 1) := by decide +kernel
theorem dX9_pushes_27 : decode cX9_pushes 27 = .ok (.getfield 38, 3) := by decide +kernel
theorem dX9_pushes_30 : decode cX9_pushes 30 = .ok (.invokevirtual 163, 3) := by decide +kernel
theorem dX9_pushes_33 : decode cX9_pushes 33 = .ok (.aload_n 0, 1) := by decide +kernel
theorem dX9_pushes_34 : decode cX9_pushes 34 = .ok (.getfield 51, 3) := by decide +kernel
theorem dX9_pushes_37 : decode cX9_pushes 37 = .ok (.iload_n 2, 1) := by decide +kernel
theorem dX9_pushes_38 : decode cX9_pushes 38 = .ok (.aload_n 0, 1) := by decide +kernel
theorem dX9_pushes_39 : decode cX9_pushes 39 = .ok (.getfield 38, 3) := by decide +kernel
theorem dX9_pushes_42 : decode cX9_pushes 42 = .ok (.getfield 141, 3) := by decide +kernel
theorem dX9_pushes_45 : decode cX9_pushes 45 = .ok (.invokevirtual 167, 3) := by decide +kernel
theorem dX9_pushes_48 : decode cX9_pushes 48 = .ok (.istore_n 3, 1) := by decide +kernel
theorem dX9_pushes_49 : decode cX9_pushes 49 = .ok (.aload_n 0, 1) := by decide +kernel
theorem dX9_pushes_50 : decode cX9_pushes 50 = .ok (.getfield 51, 3) := by decide +kernel
theorem dX9_pushes_53 : decode cX9_pushes 53 = .ok (.iload_n 3, 1) := by decide +kernel
theorem dX9_pushes_54 : decode cX9_pushes 54 = .ok (.invokevirtual 170, 3) := by decide +kernel
theorem dX9_pushes_57 : decode cX9_pushes 57 = .ok (.istore 4, 2) := by decide +kernel
theorem dX9_pushes_59 : decode cX9_pushes 59 = .ok (.iload 4, 2) := by decide +kernel
theorem dX9_pushes_61 : decode cX9_pushes 61 = .ok (.ifCond .ne 38, 3) := by decide +kernel
theorem dX9_pushes_64 : decode cX9_pushes 64 = .ok (.aload_n 0, 1) := by decide +kernel
theorem dX9_pushes_65 : decode cX9_pushes 65 = .ok (.getfield 38, 3) := by decide +kernel
theorem dX9_pushes_68 : decode cX9_pushes 68 = .ok (.iload_n 2, 1) := by decide +kernel
theorem dX9_pushes_69 : decode cX9_pushes 69 = .ok (.putfield 138, 3) := by decide +kernel
theorem dX9_pushes_72 : decode cX9_pushes 72 = .ok (.aload_n 0, 1) := by decide +kernel
theorem dX9_pushes_73 : decode cX9_pushes 73 = .ok (.getfield 38, 3) := by decide +kernel
theorem dX9_pushes_76 : decode cX9_pushes 76 = .ok (.iload_n 3, 1) := by decide +kernel
theorem dX9_pushes_77 : decode cX9_pushes 77 = .ok (.putfield 141, 3) := by decide +kernel
theorem dX9_pushes_80 : decode cX9_pushes 80 = .ok (.aload_n 0, 1) := by decide +kernel
theorem dX9_pushes_81 : decode cX9_pushes 81 = .ok (.getfield 38, 3) := by decide +kernel
theorem dX9_pushes_84 : decode cX9_pushes 84 = .ok (.iconst 1, 1) := by decide +kernel
theorem dX9_pushes_85 : decode cX9_pushes 85 = .ok (.aload_n 0, 1) := by decide +kernel
theorem dX9_pushes_86 : decode cX9_pushes 86 = .ok (.getfield 38, 3) := by decide +kernel
theorem dX9_pushes_89 : decode cX9_pushes 89 = .ok (.getfield 144, 3) := by decide +kernel
theorem dX9_pushes_92 : decode cX9_pushes 92 = .ok (.isub, 1) := by decide +kernel
theorem dX9_pushes_93 : decode cX9_pushes 93 = .ok (.putfield 144, 3) := by decide +kernel
theorem dX9_pushes_96 : decode cX9_pushes 96 = .ok (.goto 20, 3) := by decide +kernel
theorem dX9_pushes_99 : decode cX9_pushes 99 = .ok (.aload_n 0, 1) := by decide +kernel
theorem dX9_pushes_100 : decode cX9_pushes 100 = .ok (.getfield 38, 3) := by decide +kernel
theorem dX9_pushes_103 : decode cX9_pushes 103 = .ok (.iload_n 2, 1) := by decide +kernel
theorem dX9_pushes_104 : decode cX9_pushes 104 = .ok (.iload 4, 2) := by decide +kernel
theorem dX9_pushes_106 : decode cX9_pushes 106 = .ok (.aload_n 0, 1) := by decide +kernel
theorem dX9_pushes_107 : decode cX9_pushes 107 = .ok (.getfield 28, 3) := by decide +kernel
theorem dX9_pushes_110 : decode cX9_pushes 110 = .ok (.getfield 153, 3) := by decide +kernel
theorem dX9_pushes_113 : decode cX9_pushes 113 = .ok (.invokevirtual 173, 3) := by decide +kernel
theorem dX9_pushes_116 : decode cX9_pushes 116 = .ok (.iload 4, 2) := by decide +kernel
theorem dX9_pushes_118 : decode cX9_pushes 118 = .ok (.ireturn, 1) := by decide +kernel
theorem dX9_objects_0 : decode cX9_objects 0 = .ok (.aload_n 0, 1) := by decide +kernel
theorem dX9_objects_1 : decode cX9_objects 1 = .ok (.getfield 38, 3) := by decide +kernel
theorem dX9_objects_4 : decode cX9_objects 4 = .ok (.getfield 144, 3) := by decide +kernel
theorem dX9_objects_7 : decode cX9_objects 7 = .ok (.istore_n 1, 1) := by decide +kernel
theorem dX9_objects_8 : decode cX9_objects 8 = .ok (.aload_n 0, 1) := by decide +kernel
theorem dX9_objects_9 : decode cX9_objects 9 = .ok (.invokevirtual 177, 3) := by decide +kernel
theorem dX9_objects_12 : decode cX9_objects 12 = .ok (.ifCond .ne 16, 3) := by decide +kernel
theorem dX9_objects_15 : decode cX9_objects 15 = .ok (.aload_n 0, 1) := by decide +kernel
theorem dX9_objects_16 : decode cX9_objects 16 = .ok (.getfield 38, 3) := by decide +kernel
theorem dX9_objects_19 : decode cX9_objects 19 = .ok (.getfield 150, 3) := by decide +kernel
theorem dX9_objects_22 : decode cX9_objects 22 = .ok (.iload_n 1, 1) := by decide +kernel
theorem dX9_objects_23 : decode cX9_objects 23 = .ok (.iaload, 1) := by decide +kernel
theorem dX9_objects_24 : decode cX9_objects 24 = .ok (.iconst 3, 1) := by decide +kernel
theorem dX9_objects_25 : decode cX9_objects 25 = .ok (.if_icmp .lt 6, 3) := by decide +kernel
theorem dX9_objects_28 : decode cX9_objects 28 = .ok (.bipush (-2), 2) := by decide +kernel
theorem dX9_objects_30 : decode cX9_objects 30 = .ok (.ireturn, 1) := by decide +kernel
theorem dX9_objects_31 : decode cX9_objects 31 = .ok (.aload_n 0, 1) := by decide +kernel
theorem dX9_objects_32 : decode cX9_objects 32 = .ok (.getfield 61, 3) := by decide +kernel
theorem dX9_objects_35 : decode cX9_objects 35 = .ok (.aload_n 0, 1) := by decide +kernel
theorem dX9_objects_36 : decode cX9_objects 36 = .ok (.getfield 38, 3) := by decide +kernel
theorem dX9_objects_39 : decode cX9_objects 39 = .ok (.invokevirtual 163, 3) := by decide +kernel
theorem dX9_objects_42 : decode cX9_objects 42 = .ok (.aload_n 0, 1) := by decide +kernel
theorem dX9_objects_43 : decode cX9_objects 43 = .ok (.getfield 38, 3) := by decide +kernel
theorem dX9_objects_46 : decode cX9_objects 46 = .ok (.getfield 150, 3) := by decide +kernel
theorem dX9_objects_49 : decode cX9_objects 49 = .ok (.iload_n 1, 1) := by decide +kernel
theorem dX9_objects_50 : decode cX9_objects 50 = .ok (.dup2, 1) := by decide +kernel
theorem dX9_objects_51 : decode cX9_objects 51 = .ok (.iaload, 1) := by decide +kernel
theorem dX9_objects_52 : decode cX9_objects 52 = .ok (.iconst 1, 1) := by decide +kernel
theorem dX9_objects_53 : decode cX9_objects 53 = .ok (.iadd, 1) := by decide +kernel
theorem dX9_objects_54 : decode cX9_objects 54 = .ok (.iastore, 1) := by decide +kernel
theorem dX9_objects_55 : decode cX9_objects 55 = .ok (.aload_n 0, 1) := by decide +kernel
theorem dX9_objects_56 : decode cX9_objects 56 = .ok (.getfield 38, 3) := by decide +kernel
theorem dX9_objects_59 : decode cX9_objects 59 = .ok (.iconst 1, 1) := by decide +kernel
theorem dX9_objects_60 : decode cX9_objects 60 = .ok (.iload_n 1, 1) := by decide +kernel
theorem dX9_objects_61 : decode cX9_objects 61 = .ok (.isub, 1) := by decide +kernel
theorem dX9_objects_62 : decode cX9_objects 62 = .ok (.putfield 144, 3) := by decide +kernel
theorem dX9_objects_65 : decode cX9_objects 65 = .ok (.aload_n 0, 1) := by decide +kernel
theorem dX9_objects_66 : decode cX9_objects 66 = .ok (.getfield 38, 3) := by decide +kernel
theorem dX9_objects_69 : decode cX9_objects 69 = .ok (.getfield 144, 3) := by decide +kernel
theorem dX9_objects_72 : decode cX9_objects 72 = .ok (.ireturn, 1) := by decide +kernel
theorem dX9_evens_0 : decode cX9_evens 0 = .ok (.iload_n 1, 1) := by decide +kernel
theorem dX9_evens_1 : decode cX9_evens 1 = .ok (.iload_n 2, 1) := by decide +kernel
theorem dX9_evens_2 : decode cX9_evens 2 = .ok (.invokestatic 130, 3) := by decide +kernel
theorem dX9_evens_5 : decode cX9_evens 5 = .ok (.istore 4, 2) := by decide +kernel
theorem dX9_evens_7 : decode cX9_evens 7 = .ok (.aload_n 0, 1) := by decide +kernel
theorem dX9_evens_8 : decode cX9_evens 8 = .ok (.getfield 51, 3) := by decide +kernel
theorem dX9_evens_11 : decode cX9_evens 11 = .ok (.iload 4, 2) := by decide +kernel
theorem dX9_evens_13 : decode cX9_evens 13 = .ok (.invokevirtual 134, 3) := by decide +kernel
theorem dX9_evens_16 : decode cX9_evens 16 = .ok (.ifCond .ne 14, 3) := by decide +kernel
theorem dX9_evens_19 : decode cX9_evens 19 = .ok (.iload_n 3, 1) := by decide +kernel
theorem dX9_evens_20 : decode cX9_evens 20 = .ok (.bipush (-4), 2) := by decide +kernel
theorem dX9_evens_22 : decode cX9_evens 22 = .ok (.if_icmp .lt 8, 3) := by decide +kernel
theorem dX9_evens_25 : decode cX9_evens 25 = .ok (.iload_n 3, 1) := by decide +kernel
theorem dX9_evens_26 : decode cX9_evens 26 = .ok (.iconst 4, 1) := by decide +kernel
theorem dX9_evens_27 : decode cX9_evens 27 = .ok (.if_icmp .le 6, 3) := by decide +kernel
theorem dX9_evens_30 : decode cX9_evens 30 = .ok (.ldc 137, 2) := by decide +kernel
theorem dX9_evens_32 : decode cX9_evens 32 = .ok (.ireturn, 1) := by decide +kernel
theorem dX9_evens_33 : decode cX9_evens 33 = .ok (.aload_n 0, 1) := by decide +kernel
theorem dX9_evens_34 : decode cX9_evens 34 = .ok (.getfield 38, 3) := by decide +kernel
theorem dX9_evens_37 : decode cX9_evens 37 = .ok (.getfield 44, 3) := by decide +kernel
theorem dX9_evens_40 : decode cX9_evens 40 = .ok (.iload 4, 2) := by decide +kernel
theorem dX9_evens_42 : decode cX9_evens 42 = .ok (.iaload, 1) := by decide +kernel
theorem dX9_evens_43 : decode cX9_evens 43 = .ok (.istore 5, 2) := by decide +kernel
theorem dX9_evens_45 : decode cX9_evens 45 = .ok (.iload 5, 2) := by decide +kernel
theorem dX9_evens_47 : decode cX9_evens 47 = .ok (.iload_n 3, 1) := by decide +kernel
theorem dX9_evens_48 : decode cX9_evens 48 = .ok (.if_icmp .ne 6, 3) := by decide +kernel
theorem dX9_evens_51 : decode cX9_evens 51 = .ok (.ldc 137, 2) := by decide +kernel
theorem dX9_evens_53 : decode cX9_evens 53 = .ok (.ireturn, 1) := by decide +kernel
theorem dX9_evens_54 : decode cX9_evens 54 = .ok (.aload_n 0, 1) := by decide +kernel
theorem dX9_evens_55 : decode cX9_evens 55 = .ok (.getfield 61, 3) := by decide +kernel
theorem dX9_evens_58 : decode cX9_evens 58 = .ok (.aload_n 0, 1) := by decide +kernel
theorem dX9_evens_59 : decode cX9_evens 59 = .ok (.getfield 38, 3) := by decide +kernel
theorem dX9_evens_62 : decode cX9_evens 62 = .ok (.invokevirtual 163, 3) := by decide +kernel
theorem dX9_evens_65 : decode cX9_evens 65 = .ok (.aload_n 0, 1) := by decide +kernel
theorem dX9_evens_66 : decode cX9_evens 66 = .ok (.getfield 38, 3) := by decide +kernel
theorem dX9_evens_69 : decode cX9_evens 69 = .ok (.getfield 44, 3) := by decide +kernel
theorem dX9_evens_72 : decode cX9_evens 72 = .ok (.iload 4, 2) := by decide +kernel
theorem dX9_evens_74 : decode cX9_evens 74 = .ok (.iload_n 3, 1) := by decide +kernel
theorem dX9_evens_75 : decode cX9_evens 75 = .ok (.iastore, 1) := by decide +kernel
theorem dX9_evens_76 : decode cX9_evens 76 = .ok (.iload 5, 2) := by decide +kernel
theorem dX9_evens_78 : decode cX9_evens 78 = .ok (.ireturn, 1) := by decide +kernel
theorem dX9_undo_0 : decode cX9_undo 0 = .ok (.aload_n 0, 1) := by decide +kernel
theorem dX9_undo_1 : decode cX9_undo 1 = .ok (.getfield 61, 3) := by decide +kernel
theorem dX9_undo_4 : decode cX9_undo 4 = .ok (.aload_n 0, 1) := by decide +kernel
theorem dX9_undo_5 : decode cX9_undo 5 = .ok (.getfield 38, 3) := by decide +kernel
theorem dX9_undo_8 : decode cX9_undo 8 = .ok (.invokevirtual 181, 3) := by decide +kernel
theorem dX9_undo_11 : decode cX9_undo 11 = .ok (.ifCond .eq 13, 3) := by decide +kernel
theorem dX9_undo_14 : decode cX9_undo 14 = .ok (.aload_n 0, 1) := by decide +kernel
theorem dX9_undo_15 : decode cX9_undo 15 = .ok (.getfield 61, 3) := by decide +kernel
theorem dX9_undo_18 : decode cX9_undo 18 = .ok (.getfield 124, 3) := by decide +kernel
theorem dX9_undo_21 : decode cX9_undo 21 = .ok (.goto 5, 3) := by decide +kernel
theorem dX9_undo_24 : decode cX9_undo 24 = .ok (.bipush (-2), 2) := by decide +kernel
theorem dX9_undo_26 : decode cX9_undo 26 = .ok (.ireturn, 1) := by decide +kernel
theorem dX9_isNoWay_0 : decode cX9_isNoWay 0 = .ok (.iload_n 0, 1) := by decide +kernel
theorem dX9_isNoWay_1 : decode cX9_isNoWay 1 = .ok (.ifCond .lt 8, 3) := by decide +kernel
theorem dX9_isNoWay_4 : decode cX9_isNoWay 4 = .ok (.iload_n 0, 1) := by decide +kernel
theorem dX9_isNoWay_5 : decode cX9_isNoWay 5 = .ok (.iconst 4, 1) := by decide +kernel
theorem dX9_isNoWay_6 : decode cX9_isNoWay 6 = .ok (.if_icmp .lt 7, 3) := by decide +kernel
theorem dX9_isNoWay_9 : decode cX9_isNoWay 9 = .ok (.iconst 1, 1) := by decide +kernel
theorem dX9_isNoWay_10 : decode cX9_isNoWay 10 = .ok (.goto 4, 3) := by decide +kernel
theorem dX9_isNoWay_13 : decode cX9_isNoWay 13 = .ok (.iconst 0, 1) := by decide +kernel
theorem dX9_isNoWay_14 : decode cX9_isNoWay 14 = .ok (.ireturn, 1) := by decide +kernel
theorem dX9_nextCell_0 : decode cX9_nextCell 0 = .ok (.aload_n 0, 1) := by decide +kernel
theorem dX9_nextCell_1 : decode cX9_nextCell 1 = .ok (.invokevirtual 177, 3) := by decide +kernel
theorem dX9_nextCell_4 : decode cX9_nextCell 4 = .ok (.ifCond .ne 33, 3) := by decide +kernel
theorem dX9_nextCell_7 : decode cX9_nextCell 7 = .ok (.aload_n 0, 1) := by decide +kernel
theorem dX9_nextCell_8 : decode cX9_nextCell 8 = .ok (.getfield 38, 3) := by decide +kernel
theorem dX9_nextCell_11 : decode cX9_nextCell 11 = .ok (.getfield 147, 3) := by decide +kernel
theorem dX9_nextCell_14 : decode cX9_nextCell 14 = .ok (.iconst 0, 1) := by decide +kernel
theorem dX9_nextCell_15 : decode cX9_nextCell 15 = .ok (.iaload, 1) := by decide +kernel
theorem dX9_nextCell_16 : decode cX9_nextCell 16 = .ok (.sipush 999, 3) := by decide +kernel
theorem dX9_nextCell_19 : decode cX9_nextCell 19 = .ok (.if_icmp .ge 18, 3) := by decide +kernel
theorem dX9_nextCell_22 : decode cX9_nextCell 22 = .ok (.aload_n 0, 1) := by decide +kernel
theorem dX9_nextCell_23 : decode cX9_nextCell 23 = .ok (.getfield 38, 3) := by decide +kernel
theorem dX9_nextCell_26 : decode cX9_nextCell 26 = .ok (.getfield 147, 3) := by decide +kernel
theorem dX9_nextCell_29 : decode cX9_nextCell 29 = .ok (.iconst 1, 1) := by decide +kernel
theorem dX9_nextCell_30 : decode cX9_nextCell 30 = .ok (.iaload, 1) := by decide +kernel
theorem dX9_nextCell_31 : decode cX9_nextCell 31 = .ok (.sipush 999, 3) := by decide +kernel
theorem dX9_nextCell_34 : decode cX9_nextCell 34 = .ok (.if_icmp .lt 5, 3) := by decide +kernel
theorem dX9_nextCell_37 : decode cX9_nextCell 37 = .ok (.iconst (-1), 1) := by decide +kernel
theorem dX9_nextCell_38 : decode cX9_nextCell 38 = .ok (.ireturn, 1) := by decide +kernel
theorem dX9_nextCell_39 : decode cX9_nextCell 39 = .ok (.aload_n 0, 1) := by decide +kernel
theorem dX9_nextCell_40 : decode cX9_nextCell 40 = .ok (.getfield 51, 3) := by decide +kernel
theorem dX9_nextCell_43 : decode cX9_nextCell 43 = .ok (.aload_n 0, 1) := by decide +kernel
theorem dX9_nextCell_44 : decode cX9_nextCell 44 = .ok (.getfield 38, 3) := by decide +kernel
theorem dX9_nextCell_47 : decode cX9_nextCell 47 = .ok (.getfield 138, 3) := by decide +kernel
theorem dX9_nextCell_50 : decode cX9_nextCell 50 = .ok (.iload_n 1, 1) := by decide +kernel
theorem dX9_nextCell_51 : decode cX9_nextCell 51 = .ok (.invokevirtual 185, 3) := by decide +kernel
theorem dX9_nextCell_54 : decode cX9_nextCell 54 = .ok (.ireturn, 1) := by decide +kernel
theorem dX9_would_0 : decode cX9_would 0 = .ok (.iload_n 1, 1) := by decide +kernel
theorem dX9_would_1 : decode cX9_would 1 = .ok (.invokestatic 156, 3) := by decide +kernel
theorem dX9_would_4 : decode cX9_would 4 = .ok (.ifCond .eq 5, 3) := by decide +kernel
theorem dX9_would_7 : decode cX9_would 7 = .ok (.iconst (-1), 1) := by decide +kernel
theorem dX9_would_8 : decode cX9_would 8 = .ok (.ireturn, 1) := by decide +kernel
theorem dX9_would_9 : decode cX9_would 9 = .ok (.aload_n 0, 1) := by decide +kernel
theorem dX9_would_10 : decode cX9_would 10 = .ok (.iload_n 1, 1) := by decide +kernel
theorem dX9_would_11 : decode cX9_would 11 = .ok (.invokevirtual 159, 3) := by decide +kernel
theorem dX9_would_14 : decode cX9_would 14 = .ok (.istore_n 2, 1) := by decide +kernel
theorem dX9_would_15 : decode cX9_would 15 = .ok (.iload_n 2, 1) := by decide +kernel
theorem dX9_would_16 : decode cX9_would 16 = .ok (.ifCond .ge 8, 3) := by decide +kernel
theorem dX9_would_19 : decode cX9_would 19 = .ok (.bipush (-2), 2) := by decide +kernel
theorem dX9_would_21 : decode cX9_would 21 = .ok (.goto 25, 3) := by decide +kernel
theorem dX9_would_24 : decode cX9_would 24 = .ok (.aload_n 0, 1) := by decide +kernel
theorem dX9_would_25 : decode cX9_would 25 = .ok (.getfield 51, 3) := by decide +kernel
theorem dX9_would_28 : decode cX9_would 28 = .ok (.aload_n 0, 1) := by decide +kernel
theorem dX9_would_29 : decode cX9_would 29 = .ok (.getfield 51, 3) := by decide +kernel
theorem dX9_would_32 : decode cX9_would 32 = .ok (.iload_n 2, 1) := by decide +kernel
theorem dX9_would_33 : decode cX9_would 33 = .ok (.aload_n 0, 1) := by decide +kernel
theorem dX9_would_34 : decode cX9_would 34 = .ok (.getfield 38, 3) := by decide +kernel
theorem dX9_would_37 : decode cX9_would 37 = .ok (.getfield 141, 3) := by decide +kernel
theorem dX9_would_40 : decode cX9_would 40 = .ok (.invokevirtual 167, 3) := by decide +kernel
theorem dX9_would_43 : decode cX9_would 43 = .ok (.invokevirtual 170, 3) := by decide +kernel
theorem dX9_would_46 : decode cX9_would 46 = .ok (.ireturn, 1) := by decide +kernel
theorem dX9_game_0 : decode cX9_game 0 = .ok (.iload_n 1, 1) := by decide +kernel
theorem dX9_game_1 : decode cX9_game 1 = .ok (.ifCond .lt 8, 3) := by decide +kernel
theorem dX9_game_4 : decode cX9_game 4 = .ok (.iload_n 1, 1) := by decide +kernel
theorem dX9_game_5 : decode cX9_game 5 = .ok (.iconst 1, 1) := by decide +kernel
theorem dX9_game_6 : decode cX9_game 6 = .ok (.if_icmp .le 5, 3) := by decide +kernel
theorem dX9_game_9 : decode cX9_game 9 = .ok (.iconst (-1), 1) := by decide +kernel
theorem dX9_game_10 : decode cX9_game 10 = .ok (.ireturn, 1) := by decide +kernel
theorem dX9_game_11 : decode cX9_game 11 = .ok (.aload_n 0, 1) := by decide +kernel
theorem dX9_game_12 : decode cX9_game 12 = .ok (.invokevirtual 177, 3) := by decide +kernel
theorem dX9_game_15 : decode cX9_game 15 = .ok (.ifCond .eq 6, 3) := by decide +kernel
theorem dX9_game_18 : decode cX9_game 18 = .ok (.bipush (-2), 2) := by decide +kernel
theorem dX9_game_20 : decode cX9_game 20 = .ok (.ireturn, 1) := by decide +kernel
theorem dX9_game_21 : decode cX9_game 21 = .ok (.aload_n 0, 1) := by decide +kernel
theorem dX9_game_22 : decode cX9_game 22 = .ok (.getfield 79, 3) := by decide +kernel
theorem dX9_game_25 : decode cX9_game 25 = .ok (.aload_n 0, 1) := by decide +kernel
theorem dX9_game_26 : decode cX9_game 26 = .ok (.getfield 51, 3) := by decide +kernel
theorem dX9_game_29 : decode cX9_game 29 = .ok (.invokevirtual 188, 3) := by decide +kernel
theorem dX9_game_32 : decode cX9_game 32 = .ok (.aload_n 0, 1) := by decide +kernel
theorem dX9_game_33 : decode cX9_game 33 = .ok (.getfield 79, 3) := by decide +kernel
theorem dX9_game_36 : decode cX9_game 36 = .ok (.aload_n 0, 1) := by decide +kernel
theorem dX9_game_37 : decode cX9_game 37 = .ok (.getfield 38, 3) := by decide +kernel
theorem dX9_game_40 : decode cX9_game 40 = .ok (.getfield 138, 3) := by decide +kernel
theorem dX9_game_43 : decode cX9_game 43 = .ok (.aload_n 0, 1) := by decide +kernel
theorem dX9_game_44 : decode cX9_game 44 = .ok (.getfield 38, 3) := by decide +kernel
theorem dX9_game_47 : decode cX9_game 47 = .ok (.getfield 141, 3) := by decide +kernel
theorem dX9_game_50 : decode cX9_game 50 = .ok (.aload_n 0, 1) := by decide +kernel
theorem dX9_game_51 : decode cX9_game 51 = .ok (.getfield 38, 3) := by decide +kernel
theorem dX9_game_54 : decode cX9_game 54 = .ok (.getfield 144, 3) := by decide +kernel
theorem dX9_game_57 : decode cX9_game 57 = .ok (.invokevirtual 192, 3) := by decide +kernel
theorem dX9_game_60 : decode cX9_game 60 = .ok (.istore_n 2, 1) := by decide +kernel
theorem dX9_game_61 : decode cX9_game 61 = .ok (.iload_n 1, 1) := by decide +kernel
theorem dX9_game_62 : decode cX9_game 62 = .ok (.ifCond .ne 5, 3) := by decide +kernel
theorem dX9_game_65 : decode cX9_game 65 = .ok (.iload_n 2, 1) := by decide +kernel
theorem dX9_game_66 : decode cX9_game 66 = .ok (.ireturn, 1) := by decide +kernel
theorem dX9_game_67 : decode cX9_game 67 = .ok (.iload_n 2, 1) := by decide +kernel
theorem dX9_game_68 : decode cX9_game 68 = .ok (.ifCond .ne 8, 3) := by decide +kernel
theorem dX9_game_71 : decode cX9_game 71 = .ok (.bipush (-9), 2) := by decide +kernel
theorem dX9_game_73 : decode cX9_game 73 = .ok (.goto 31, 3) := by decide +kernel
theorem dX9_game_76 : decode cX9_game 76 = .ok (.aload_n 0, 1) := by decide +kernel
theorem dX9_game_77 : decode cX9_game 77 = .ok (.getfield 79, 3) := by decide +kernel
theorem dX9_game_80 : decode cX9_game 80 = .ok (.aload_n 0, 1) := by decide +kernel
theorem dX9_game_81 : decode cX9_game 81 = .ok (.getfield 38, 3) := by decide +kernel
theorem dX9_game_84 : decode cX9_game 84 = .ok (.getfield 138, 3) := by decide +kernel
theorem dX9_game_87 : decode cX9_game 87 = .ok (.aload_n 0, 1) := by decide +kernel
theorem dX9_game_88 : decode cX9_game 88 = .ok (.getfield 38, 3) := by decide +kernel
theorem dX9_game_91 : decode cX9_game 91 = .ok (.getfield 141, 3) := by decide +kernel
theorem dX9_game_94 : decode cX9_game 94 = .ok (.aload_n 0, 1) := by decide +kernel
theorem dX9_game_95 : decode cX9_game 95 = .ok (.getfield 38, 3) := by decide +kernel
theorem dX9_game_98 : decode cX9_game 98 = .ok (.getfield 144, 3) := by decide +kernel
theorem dX9_game_101 : decode cX9_game 101 = .ok (.invokevirtual 196, 3) := by decide +kernel
theorem dX9_game_104 : decode cX9_game 104 = .ok (.ireturn, 1) := by decide +kernel
theorem dX9_advice_0 : decode cX9_advice 0 = .ok (.aload_n 0, 1) := by decide +kernel
theorem dX9_advice_1 : decode cX9_advice 1 = .ok (.invokevirtual 177, 3) := by decide +kernel
theorem dX9_advice_4 : decode cX9_advice 4 = .ok (.ifCond .eq 6, 3) := by decide +kernel
theorem dX9_advice_7 : decode cX9_advice 7 = .ok (.bipush (-2), 2) := by decide +kernel
theorem dX9_advice_9 : decode cX9_advice 9 = .ok (.ireturn, 1) := by decide +kernel
theorem dX9_advice_10 : decode cX9_advice 10 = .ok (.aload_n 0, 1) := by decide +kernel
theorem dX9_advice_11 : decode cX9_advice 11 = .ok (.getfield 79, 3) := by decide +kernel
theorem dX9_advice_14 : decode cX9_advice 14 = .ok (.aload_n 0, 1) := by decide +kernel
theorem dX9_advice_15 : decode cX9_advice 15 = .ok (.getfield 51, 3) := by decide +kernel
theorem dX9_advice_18 : decode cX9_advice 18 = .ok (.invokevirtual 188, 3) := by decide +kernel
theorem dX9_advice_21 : decode cX9_advice 21 = .ok (.iconst 0, 1) := by decide +kernel
theorem dX9_advice_22 : decode cX9_advice 22 = .ok (.istore_n 1, 1) := by decide +kernel
theorem dX9_advice_23 : decode cX9_advice 23 = .ok (.iload_n 1, 1) := by decide +kernel
theorem dX9_advice_24 : decode cX9_advice 24 = .ok (.iconst 4, 1) := by decide +kernel
theorem dX9_advice_25 : decode cX9_advice 25 = .ok (.if_icmp .ge 39, 3) := by decide +kernel
theorem dX9_advice_28 : decode cX9_advice 28 = .ok (.aload_n 0, 1) := by decide +kernel
theorem dX9_advice_29 : decode cX9_advice 29 = .ok (.getfield 51, 3) := by decide +kernel
theorem dX9_advice_32 : decode cX9_advice 32 = .ok (.aload_n 0, 1) := by decide +kernel
theorem dX9_advice_33 : decode cX9_advice 33 = .ok (.getfield 38, 3) := by decide +kernel
theorem dX9_advice_36 : decode cX9_advice 36 = .ok (.getfield 138, 3) := by decide +kernel
theorem dX9_advice_39 : decode cX9_advice 39 = .ok (.iload_n 1, 1) := by decide +kernel
theorem dX9_advice_40 : decode cX9_advice 40 = .ok (.invokevirtual 185, 3) := by decide +kernel
theorem dX9_advice_43 : decode cX9_advice 43 = .ok (.istore_n 2, 1) := by decide +kernel
theorem dX9_advice_44 : decode cX9_advice 44 = .ok (.iload_n 2, 1) := by decide +kernel
theorem dX9_advice_45 : decode cX9_advice 45 = .ok (.ifCond .lt 13, 3) := by decide +kernel
theorem dX9_advice_48 : decode cX9_advice 48 = .ok (.aload_n 0, 1) := by decide +kernel
theorem dX9_advice_49 : decode cX9_advice 49 = .ok (.iload_n 2, 1) := by decide +kernel
theorem dX9_advice_50 : decode cX9_advice 50 = .ok (.invokevirtual 198, 3) := by decide +kernel
theorem dX9_advice_53 : decode cX9_advice 53 = .ok (.ifCond .eq 5, 3) := by decide +kernel
theorem dX9_advice_56 : decode cX9_advice 56 = .ok (.iload_n 1, 1) := by decide +kernel
theorem dX9_advice_57 : decode cX9_advice 57 = .ok (.ireturn, 1) := by decide +kernel
theorem dX9_advice_58 : decode cX9_advice 58 = .ok (.iinc 1 1, 3) := by decide +kernel
theorem dX9_advice_61 : decode cX9_advice 61 = .ok (.goto (-38), 3) := by decide +kernel
theorem dX9_advice_64 : decode cX9_advice 64 = .ok (.bipush (-9), 2) := by decide +kernel
theorem dX9_advice_66 : decode cX9_advice 66 = .ok (.ireturn, 1) := by decide +kernel
theorem dX9_soonest_0 : decode cX9_soonest 0 = .ok (.iload_n 1, 1) := by decide +kernel
theorem dX9_soonest_1 : decode cX9_soonest 1 = .ok (.invokestatic 201, 3) := by decide +kernel
theorem dX9_soonest_4 : decode cX9_soonest 4 = .ok (.ifCond .ne 8, 3) := by decide +kernel
theorem dX9_soonest_7 : decode cX9_soonest 7 = .ok (.iload_n 2, 1) := by decide +kernel
theorem dX9_soonest_8 : decode cX9_soonest 8 = .ok (.iconst (-1), 1) := by decide +kernel
theorem dX9_soonest_9 : decode cX9_soonest 9 = .ok (.if_icmp .ge 5, 3) := by decide +kernel
theorem dX9_soonest_12 : decode cX9_soonest 12 = .ok (.iconst (-1), 1) := by decide +kernel
theorem dX9_soonest_13 : decode cX9_soonest 13 = .ok (.ireturn, 1) := by decide +kernel
theorem dX9_soonest_14 : decode cX9_soonest 14 = .ok (.aload_n 0, 1) := by decide +kernel
theorem dX9_soonest_15 : decode cX9_soonest 15 = .ok (.invokevirtual 177, 3) := by decide +kernel
theorem dX9_soonest_18 : decode cX9_soonest 18 = .ok (.ifCond .eq 6, 3) := by decide +kernel
theorem dX9_soonest_21 : decode cX9_soonest 21 = .ok (.bipush (-2), 2) := by decide +kernel
theorem dX9_soonest_23 : decode cX9_soonest 23 = .ok (.ireturn, 1) := by decide +kernel
theorem dX9_soonest_24 : decode cX9_soonest 24 = .ok (.aload_n 0, 1) := by decide +kernel
theorem dX9_soonest_25 : decode cX9_soonest 25 = .ok (.getfield 86, 3) := by decide +kernel
theorem dX9_soonest_28 : decode cX9_soonest 28 = .ok (.aload_n 0, 1) := by decide +kernel
theorem dX9_soonest_29 : decode cX9_soonest 29 = .ok (.getfield 51, 3) := by decide +kernel
theorem dX9_soonest_32 : decode cX9_soonest 32 = .ok (.aload_n 0, 1) := by decide +kernel
theorem dX9_soonest_33 : decode cX9_soonest 33 = .ok (.getfield 38, 3) := by decide +kernel
theorem dX9_soonest_36 : decode cX9_soonest 36 = .ok (.getfield 138, 3) := by decide +kernel
theorem dX9_soonest_39 : decode cX9_soonest 39 = .ok (.aload_n 0, 1) := by decide +kernel
theorem dX9_soonest_40 : decode cX9_soonest 40 = .ok (.getfield 38, 3) := by decide +kernel
theorem dX9_soonest_43 : decode cX9_soonest 43 = .ok (.getfield 141, 3) := by decide +kernel
theorem dX9_soonest_46 : decode cX9_soonest 46 = .ok (.iload_n 1, 1) := by decide +kernel
theorem dX9_soonest_47 : decode cX9_soonest 47 = .ok (.invokevirtual 204, 3) := by decide +kernel
theorem dX9_soonest_50 : decode cX9_soonest 50 = .ok (.istore_n 3, 1) := by decide +kernel
theorem dX9_soonest_51 : decode cX9_soonest 51 = .ok (.iload_n 3, 1) := by decide +kernel
theorem dX9_soonest_52 : decode cX9_soonest 52 = .ok (.bipush (-9), 2) := by decide +kernel
theorem dX9_soonest_54 : decode cX9_soonest 54 = .ok (.if_icmp .eq 8, 3) := by decide +kernel
theorem dX9_soonest_57 : decode cX9_soonest 57 = .ok (.iload_n 2, 1) := by decide +kernel
theorem dX9_soonest_58 : decode cX9_soonest 58 = .ok (.iconst (-1), 1) := by decide +kernel
theorem dX9_soonest_59 : decode cX9_soonest 59 = .ok (.if_icmp .ne 5, 3) := by decide +kernel
theorem dX9_soonest_62 : decode cX9_soonest 62 = .ok (.iload_n 3, 1) := by decide +kernel
theorem dX9_soonest_63 : decode cX9_soonest 63 = .ok (.ireturn, 1) := by decide +kernel
theorem dX9_soonest_64 : decode cX9_soonest 64 = .ok (.iload_n 2, 1) := by decide +kernel
theorem dX9_soonest_65 : decode cX9_soonest 65 = .ok (.iload_n 3, 1) := by decide +kernel
theorem dX9_soonest_66 : decode cX9_soonest 66 = .ok (.if_icmp .ge 14, 3) := by decide +kernel
theorem dX9_soonest_69 : decode cX9_soonest 69 = .ok (.aload_n 0, 1) := by decide +kernel
theorem dX9_soonest_70 : decode cX9_soonest 70 = .ok (.getfield 86, 3) := by decide +kernel
theorem dX9_soonest_73 : decode cX9_soonest 73 = .ok (.iload_n 2, 1) := by decide +kernel
theorem dX9_soonest_74 : decode cX9_soonest 74 = .ok (.invokevirtual 208, 3) := by decide +kernel
theorem dX9_soonest_77 : decode cX9_soonest 77 = .ok (.goto 5, 3) := by decide +kernel
theorem dX9_soonest_80 : decode cX9_soonest 80 = .ok (.bipush (-5), 2) := by decide +kernel
theorem dX9_soonest_82 : decode cX9_soonest 82 = .ok (.ireturn, 1) := by decide +kernel
theorem dX9_odds_0 : decode cX9_odds 0 = .ok (.iload_n 1, 1) := by decide +kernel
theorem dX9_odds_1 : decode cX9_odds 1 = .ok (.invokestatic 201, 3) := by decide +kernel
theorem dX9_odds_4 : decode cX9_odds 4 = .ok (.ifCond .ne 21, 3) := by decide +kernel
theorem dX9_odds_7 : decode cX9_odds 7 = .ok (.iload_n 2, 1) := by decide +kernel
theorem dX9_odds_8 : decode cX9_odds 8 = .ok (.ifCond .lt 17, 3) := by decide +kernel
theorem dX9_odds_11 : decode cX9_odds 11 = .ok (.iload_n 2, 1) := by decide +kernel
theorem dX9_odds_12 : decode cX9_odds 12 = .ok (.iconst 4, 1) := by decide +kernel
theorem dX9_odds_13 : decode cX9_odds 13 = .ok (.if_icmp .gt 12, 3) := by decide +kernel
theorem dX9_odds_16 : decode cX9_odds 16 = .ok (.iload_n 3, 1) := by decide +kernel
theorem dX9_odds_17 : decode cX9_odds 17 = .ok (.ifCond .lt 8, 3) := by decide +kernel
theorem dX9_odds_20 : decode cX9_odds 20 = .ok (.iload_n 3, 1) := by decide +kernel
theorem dX9_odds_21 : decode cX9_odds 21 = .ok (.iconst 1, 1) := by decide +kernel
theorem dX9_odds_22 : decode cX9_odds 22 = .ok (.if_icmp .le 5, 3) := by decide +kernel
theorem dX9_odds_25 : decode cX9_odds 25 = .ok (.iconst (-1), 1) := by decide +kernel
theorem dX9_odds_26 : decode cX9_odds 26 = .ok (.ireturn, 1) := by decide +kernel
theorem dX9_odds_27 : decode cX9_odds 27 = .ok (.aload_n 0, 1) := by decide +kernel
theorem dX9_odds_28 : decode cX9_odds 28 = .ok (.invokevirtual 177, 3) := by decide +kernel
theorem dX9_odds_31 : decode cX9_odds 31 = .ok (.ifCond .eq 6, 3) := by decide +kernel
theorem dX9_odds_34 : decode cX9_odds 34 = .ok (.bipush (-2), 2) := by decide +kernel
theorem dX9_odds_36 : decode cX9_odds 36 = .ok (.ireturn, 1) := by decide +kernel
theorem dX9_odds_37 : decode cX9_odds 37 = .ok (.aload_n 0, 1) := by decide +kernel
theorem dX9_odds_38 : decode cX9_odds 38 = .ok (.getfield 93, 3) := by decide +kernel
theorem dX9_odds_41 : decode cX9_odds 41 = .ok (.aload_n 0, 1) := by decide +kernel
theorem dX9_odds_42 : decode cX9_odds 42 = .ok (.getfield 51, 3) := by decide +kernel
theorem dX9_odds_45 : decode cX9_odds 45 = .ok (.aload_n 0, 1) := by decide +kernel
theorem dX9_odds_46 : decode cX9_odds 46 = .ok (.getfield 38, 3) := by decide +kernel
theorem dX9_odds_49 : decode cX9_odds 49 = .ok (.getfield 138, 3) := by decide +kernel
theorem dX9_odds_52 : decode cX9_odds 52 = .ok (.aload_n 0, 1) := by decide +kernel
theorem dX9_odds_53 : decode cX9_odds 53 = .ok (.getfield 38, 3) := by decide +kernel
theorem dX9_odds_56 : decode cX9_odds 56 = .ok (.getfield 141, 3) := by decide +kernel
theorem dX9_odds_59 : decode cX9_odds 59 = .ok (.iload_n 1, 1) := by decide +kernel
theorem dX9_odds_60 : decode cX9_odds 60 = .ok (.iload_n 2, 1) := by decide +kernel
theorem dX9_odds_61 : decode cX9_odds 61 = .ok (.invokevirtual 211, 3) := by decide +kernel
theorem dX9_odds_64 : decode cX9_odds 64 = .ok (.iload_n 3, 1) := by decide +kernel
theorem dX9_odds_65 : decode cX9_odds 65 = .ok (.ifCond .ne 13, 3) := by decide +kernel
theorem dX9_odds_68 : decode cX9_odds 68 = .ok (.aload_n 0, 1) := by decide +kernel
theorem dX9_odds_69 : decode cX9_odds 69 = .ok (.getfield 93, 3) := by decide +kernel
theorem dX9_odds_72 : decode cX9_odds 72 = .ok (.getfield 215, 3) := by decide +kernel
theorem dX9_odds_75 : decode cX9_odds 75 = .ok (.goto 10, 3) := by decide +kernel
theorem dX9_odds_78 : decode cX9_odds 78 = .ok (.aload_n 0, 1) := by decide +kernel
theorem dX9_odds_79 : decode cX9_odds 79 = .ok (.getfield 93, 3) := by decide +kernel
theorem dX9_odds_82 : decode cX9_odds 82 = .ok (.getfield 218, 3) := by decide +kernel
theorem dX9_odds_85 : decode cX9_odds 85 = .ok (.ireturn, 1) := by decide +kernel
theorem dX9_decides_0 : decode cX9_decides 0 = .ok (.aload_n 0, 1) := by decide +kernel
theorem dX9_decides_1 : decode cX9_decides 1 = .ok (.invokevirtual 177, 3) := by decide +kernel
theorem dX9_decides_4 : decode cX9_decides 4 = .ok (.ifCond .eq 6, 3) := by decide +kernel
theorem dX9_decides_7 : decode cX9_decides 7 = .ok (.bipush (-2), 2) := by decide +kernel
theorem dX9_decides_9 : decode cX9_decides 9 = .ok (.ireturn, 1) := by decide +kernel
theorem dX9_decides_10 : decode cX9_decides 10 = .ok (.aload_n 0, 1) := by decide +kernel
theorem dX9_decides_11 : decode cX9_decides 11 = .ok (.getfield 79, 3) := by decide +kernel
theorem dX9_decides_14 : decode cX9_decides 14 = .ok (.aload_n 0, 1) := by decide +kernel
theorem dX9_decides_15 : decode cX9_decides 15 = .ok (.getfield 51, 3) := by decide +kernel
theorem dX9_decides_18 : decode cX9_decides 18 = .ok (.invokevirtual 188, 3) := by decide +kernel
theorem dX9_decides_21 : decode cX9_decides 21 = .ok (.aload_n 0, 1) := by decide +kernel
theorem dX9_decides_22 : decode cX9_decides 22 = .ok (.getfield 79, 3) := by decide +kernel
theorem dX9_decides_25 : decode cX9_decides 25 = .ok (.aload_n 0, 1) := by decide +kernel
theorem dX9_decides_26 : decode cX9_decides 26 = .ok (.getfield 38, 3) := by decide +kernel
theorem dX9_decides_29 : decode cX9_decides 29 = .ok (.getfield 138, 3) := by decide +kernel
theorem dX9_decides_32 : decode cX9_decides 32 = .ok (.aload_n 0, 1) := by decide +kernel
theorem dX9_decides_33 : decode cX9_decides 33 = .ok (.getfield 38, 3) := by decide +kernel
theorem dX9_decides_36 : decode cX9_decides 36 = .ok (.getfield 141, 3) := by decide +kernel
theorem dX9_decides_39 : decode cX9_decides 39 = .ok (.aload_n 0, 1) := by decide +kernel
theorem dX9_decides_40 : decode cX9_decides 40 = .ok (.getfield 38, 3) := by decide +kernel
theorem dX9_decides_43 : decode cX9_decides 43 = .ok (.getfield 144, 3) := by decide +kernel
theorem dX9_decides_46 : decode cX9_decides 46 = .ok (.invokevirtual 192, 3) := by decide +kernel
theorem dX9_decides_49 : decode cX9_decides 49 = .ok (.istore_n 1, 1) := by decide +kernel
theorem dX9_decides_50 : decode cX9_decides 50 = .ok (.iconst 0, 1) := by decide +kernel
theorem dX9_decides_51 : decode cX9_decides 51 = .ok (.istore_n 2, 1) := by decide +kernel
theorem dX9_decides_52 : decode cX9_decides 52 = .ok (.aload_n 0, 1) := by decide +kernel
theorem dX9_decides_53 : decode cX9_decides 53 = .ok (.getfield 55, 3) := by decide +kernel
theorem dX9_decides_56 : decode cX9_decides 56 = .ok (.aload_n 0, 1) := by decide +kernel
theorem dX9_decides_57 : decode cX9_decides 57 = .ok (.getfield 51, 3) := by decide +kernel
theorem dX9_decides_60 : decode cX9_decides 60 = .ok (.invokevirtual 221, 3) := by decide +kernel
theorem dX9_decides_63 : decode cX9_decides 63 = .ok (.iconst 0, 1) := by decide +kernel
theorem dX9_decides_64 : decode cX9_decides 64 = .ok (.istore_n 3, 1) := by decide +kernel
theorem dX9_decides_65 : decode cX9_decides 65 = .ok (.iload_n 3, 1) := by decide +kernel
theorem dX9_decides_66 : decode cX9_decides 66 = .ok (.bipush 20, 2) := by decide +kernel
theorem dX9_decides_68 : decode cX9_decides 68 = .ok (.if_icmp .ge 105, 3) := by decide +kernel
theorem dX9_decides_71 : decode cX9_decides 71 = .ok (.aload_n 0, 1) := by decide +kernel
theorem dX9_decides_72 : decode cX9_decides 72 = .ok (.getfield 55, 3) := by decide +kernel
theorem dX9_decides_75 : decode cX9_decides 75 = .ok (.getfield 224, 3) := by decide +kernel
theorem dX9_decides_78 : decode cX9_decides 78 = .ok (.iload_n 3, 1) := by decide +kernel
theorem dX9_decides_79 : decode cX9_decides 79 = .ok (.iaload, 1) := by decide +kernel
theorem dX9_decides_80 : decode cX9_decides 80 = .ok (.istore 4, 2) := by decide +kernel
theorem dX9_decides_82 : decode cX9_decides 82 = .ok (.iload 4, 2) := by decide +kernel
theorem dX9_decides_84 : decode cX9_decides 84 = .ok (.bipush 100, 2) := by decide +kernel
theorem dX9_decides_86 : decode cX9_decides 86 = .ok (.if_icmp .eq 81, 3) := by decide +kernel
theorem dX9_decides_89 : decode cX9_decides 89 = .ok (.iload 4, 2) := by decide +kernel
theorem dX9_decides_91 : decode cX9_decides 91 = .ok (.ifCond .ne 6, 3) := by decide +kernel
theorem dX9_decides_94 : decode cX9_decides 94 = .ok (.goto 73, 3) := by decide +kernel
theorem dX9_decides_97 : decode cX9_decides 97 = .ok (.aload_n 0, 1) := by decide +kernel
theorem dX9_decides_98 : decode cX9_decides 98 = .ok (.getfield 55, 3) := by decide +kernel
theorem dX9_decides_101 : decode cX9_decides 101 = .ok (.getfield 224, 3) := by decide +kernel
theorem dX9_decides_104 : decode cX9_decides 104 = .ok (.iload_n 3, 1) := by decide +kernel
theorem dX9_decides_105 : decode cX9_decides 105 = .ok (.iconst 0, 1) := by decide +kernel
theorem dX9_decides_106 : decode cX9_decides 106 = .ok (.iastore, 1) := by decide +kernel
theorem dX9_decides_107 : decode cX9_decides 107 = .ok (.aload_n 0, 1) := by decide +kernel
theorem dX9_decides_108 : decode cX9_decides 108 = .ok (.getfield 79, 3) := by decide +kernel
theorem dX9_decides_111 : decode cX9_decides 111 = .ok (.aload_n 0, 1) := by decide +kernel
theorem dX9_decides_112 : decode cX9_decides 112 = .ok (.getfield 55, 3) := by decide +kernel
theorem dX9_decides_115 : decode cX9_decides 115 = .ok (.invokevirtual 188, 3) := by decide +kernel
theorem dX9_decides_118 : decode cX9_decides 118 = .ok (.aload_n 0, 1) := by decide +kernel
theorem dX9_decides_119 : decode cX9_decides 119 = .ok (.getfield 79, 3) := by decide +kernel
theorem dX9_decides_122 : decode cX9_decides 122 = .ok (.aload_n 0, 1) := by decide +kernel
theorem dX9_decides_123 : decode cX9_decides 123 = .ok (.getfield 38, 3) := by decide +kernel
theorem dX9_decides_126 : decode cX9_decides 126 = .ok (.getfield 138, 3) := by decide +kernel
theorem dX9_decides_129 : decode cX9_decides 129 = .ok (.aload_n 0, 1) := by decide +kernel
theorem dX9_decides_130 : decode cX9_decides 130 = .ok (.getfield 38, 3) := by decide +kernel
theorem dX9_decides_133 : decode cX9_decides 133 = .ok (.getfield 141, 3) := by decide +kernel
theorem dX9_decides_136 : decode cX9_decides 136 = .ok (.aload_n 0, 1) := by decide +kernel
theorem dX9_decides_137 : decode cX9_decides 137 = .ok (.getfield 38, 3) := by decide +kernel
theorem dX9_decides_140 : decode cX9_decides 140 = .ok (.getfield 144, 3) := by decide +kernel
theorem dX9_decides_143 : decode cX9_decides 143 = .ok (.invokevirtual 192, 3) := by decide +kernel
theorem dX9_decides_146 : decode cX9_decides 146 = .ok (.iload_n 1, 1) := by decide +kernel
theorem dX9_decides_147 : decode cX9_decides 147 = .ok (.if_icmp .eq 9, 3) := by decide +kernel
theorem dX9_decides_150 : decode cX9_decides 150 = .ok (.iload_n 2, 1) := by decide +kernel
theorem dX9_decides_151 : decode cX9_decides 151 = .ok (.iconst 1, 1) := by decide +kernel
theorem dX9_decides_152 : decode cX9_decides 152 = .ok (.iload_n 3, 1) := by decide +kernel
theorem dX9_decides_153 : decode cX9_decides 153 = .ok (.ishl, 1) := by decide +kernel
theorem dX9_decides_154 : decode cX9_decides 154 = .ok (.ior, 1) := by decide +kernel
theorem dX9_decides_155 : decode cX9_decides 155 = .ok (.istore_n 2, 1) := by decide +kernel
theorem dX9_decides_156 : decode cX9_decides 156 = .ok (.aload_n 0, 1) := by decide +kernel
theorem dX9_decides_157 : decode cX9_decides 157 = .ok (.getfield 55, 3) := by decide +kernel
theorem dX9_decides_160 : decode cX9_decides 160 = .ok (.getfield 224, 3) := by decide +kernel
theorem dX9_decides_163 : decode cX9_decides 163 = .ok (.iload_n 3, 1) := by decide +kernel
theorem dX9_decides_164 : decode cX9_decides 164 = .ok (.iload 4, 2) := by decide +kernel
theorem dX9_decides_166 : decode cX9_decides 166 = .ok (.iastore, 1) := by decide +kernel
theorem dX9_decides_167 : decode cX9_decides 167 = .ok (.iinc 3 1, 3) := by decide +kernel
theorem dX9_decides_170 : decode cX9_decides 170 = .ok (.goto (-105), 3) := by decide +kernel
theorem dX9_decides_173 : decode cX9_decides 173 = .ok (.iload_n 2, 1) := by decide +kernel
theorem dX9_decides_174 : decode cX9_decides 174 = .ok (.ireturn, 1) := by decide +kernel
theorem dX9_isNoSide_0 : decode cX9_isNoSide 0 = .ok (.iload_n 0, 1) := by decide +kernel
theorem dX9_isNoSide_1 : decode cX9_isNoSide 1 = .ok (.iconst 1, 1) := by decide +kernel
theorem dX9_isNoSide_2 : decode cX9_isNoSide 2 = .ok (.if_icmp .lt 8, 3) := by decide +kernel
theorem dX9_isNoSide_5 : decode cX9_isNoSide 5 = .ok (.iload_n 0, 1) := by decide +kernel
theorem dX9_isNoSide_6 : decode cX9_isNoSide 6 = .ok (.iconst 2, 1) := by decide +kernel
theorem dX9_isNoSide_7 : decode cX9_isNoSide 7 = .ok (.if_icmp .le 7, 3) := by decide +kernel
theorem dX9_isNoSide_10 : decode cX9_isNoSide 10 = .ok (.iconst 1, 1) := by decide +kernel
theorem dX9_isNoSide_11 : decode cX9_isNoSide 11 = .ok (.goto 4, 3) := by decide +kernel
theorem dX9_isNoSide_14 : decode cX9_isNoSide 14 = .ok (.iconst 0, 1) := by decide +kernel
theorem dX9_isNoSide_15 : decode cX9_isNoSide 15 = .ok (.ireturn, 1) := by decide +kernel
theorem dX9_comesSo_0 : decode cX9_comesSo 0 = .ok (.aload_n 0, 1) := by decide +kernel
theorem dX9_comesSo_1 : decode cX9_comesSo 1 = .ok (.getfield 79, 3) := by decide +kernel
theorem dX9_comesSo_4 : decode cX9_comesSo 4 = .ok (.aload_n 0, 1) := by decide +kernel
theorem dX9_comesSo_5 : decode cX9_comesSo 5 = .ok (.getfield 38, 3) := by decide +kernel
theorem dX9_comesSo_8 : decode cX9_comesSo 8 = .ok (.getfield 138, 3) := by decide +kernel
theorem dX9_comesSo_11 : decode cX9_comesSo 11 = .ok (.aload_n 0, 1) := by decide +kernel
theorem dX9_comesSo_12 : decode cX9_comesSo 12 = .ok (.getfield 38, 3) := by decide +kernel
theorem dX9_comesSo_15 : decode cX9_comesSo 15 = .ok (.getfield 141, 3) := by decide +kernel
theorem dX9_comesSo_18 : decode cX9_comesSo 18 = .ok (.aload_n 0, 1) := by decide +kernel
theorem dX9_comesSo_19 : decode cX9_comesSo 19 = .ok (.getfield 38, 3) := by decide +kernel
theorem dX9_comesSo_22 : decode cX9_comesSo 22 = .ok (.getfield 144, 3) := by decide +kernel
theorem dX9_comesSo_25 : decode cX9_comesSo 25 = .ok (.invokevirtual 192, 3) := by decide +kernel
theorem dX9_comesSo_28 : decode cX9_comesSo 28 = .ok (.istore_n 2, 1) := by decide +kernel
theorem dX9_comesSo_29 : decode cX9_comesSo 29 = .ok (.aload_n 0, 1) := by decide +kernel
theorem dX9_comesSo_30 : decode cX9_comesSo 30 = .ok (.getfield 79, 3) := by decide +kernel
theorem dX9_comesSo_33 : decode cX9_comesSo 33 = .ok (.aload_n 0, 1) := by decide +kernel
theorem dX9_comesSo_34 : decode cX9_comesSo 34 = .ok (.getfield 38, 3) := by decide +kernel
theorem dX9_comesSo_37 : decode cX9_comesSo 37 = .ok (.getfield 138, 3) := by decide +kernel
theorem dX9_comesSo_40 : decode cX9_comesSo 40 = .ok (.aload_n 0, 1) := by decide +kernel
theorem dX9_comesSo_41 : decode cX9_comesSo 41 = .ok (.getfield 38, 3) := by decide +kernel
theorem dX9_comesSo_44 : decode cX9_comesSo 44 = .ok (.getfield 141, 3) := by decide +kernel
theorem dX9_comesSo_47 : decode cX9_comesSo 47 = .ok (.aload_n 0, 1) := by decide +kernel
theorem dX9_comesSo_48 : decode cX9_comesSo 48 = .ok (.getfield 38, 3) := by decide +kernel
theorem dX9_comesSo_51 : decode cX9_comesSo 51 = .ok (.getfield 144, 3) := by decide +kernel
theorem dX9_comesSo_54 : decode cX9_comesSo 54 = .ok (.invokevirtual 196, 3) := by decide +kernel
theorem dX9_comesSo_57 : decode cX9_comesSo 57 = .ok (.istore_n 3, 1) := by decide +kernel
theorem dX9_comesSo_58 : decode cX9_comesSo 58 = .ok (.aload_n 0, 1) := by decide +kernel
theorem dX9_comesSo_59 : decode cX9_comesSo 59 = .ok (.getfield 51, 3) := by decide +kernel
theorem dX9_comesSo_62 : decode cX9_comesSo 62 = .ok (.iload_n 1, 1) := by decide +kernel
theorem dX9_comesSo_63 : decode cX9_comesSo 63 = .ok (.aload_n 0, 1) := by decide +kernel
theorem dX9_comesSo_64 : decode cX9_comesSo 64 = .ok (.getfield 38, 3) := by decide +kernel
theorem dX9_comesSo_67 : decode cX9_comesSo 67 = .ok (.getfield 141, 3) := by decide +kernel
theorem dX9_comesSo_70 : decode cX9_comesSo 70 = .ok (.invokevirtual 167, 3) := by decide +kernel
theorem dX9_comesSo_73 : decode cX9_comesSo 73 = .ok (.istore 4, 2) := by decide +kernel
theorem dX9_comesSo_75 : decode cX9_comesSo 75 = .ok (.aload_n 0, 1) := by decide +kernel
theorem dX9_comesSo_76 : decode cX9_comesSo 76 = .ok (.getfield 51, 3) := by decide +kernel
theorem dX9_comesSo_79 : decode cX9_comesSo 79 = .ok (.iload 4, 2) := by decide +kernel
theorem dX9_comesSo_81 : decode cX9_comesSo 81 = .ok (.invokevirtual 170, 3) := by decide +kernel
theorem dX9_comesSo_84 : decode cX9_comesSo 84 = .ok (.istore 5, 2) := by decide +kernel
theorem dX9_comesSo_86 : decode cX9_comesSo 86 = .ok (.iload 5, 2) := by decide +kernel
theorem dX9_comesSo_88 : decode cX9_comesSo 88 = .ok (.ifCond .eq 20, 3) := by decide +kernel
theorem dX9_comesSo_91 : decode cX9_comesSo 91 = .ok (.iload 5, 2) := by decide +kernel
theorem dX9_comesSo_93 : decode cX9_comesSo 93 = .ok (.iload_n 2, 1) := by decide +kernel
theorem dX9_comesSo_94 : decode cX9_comesSo 94 = .ok (.if_icmp .ne 12, 3) := by decide +kernel
theorem dX9_comesSo_97 : decode cX9_comesSo 97 = .ok (.iload_n 3, 1) := by decide +kernel
theorem dX9_comesSo_98 : decode cX9_comesSo 98 = .ok (.iconst 1, 1) := by decide +kernel
theorem dX9_comesSo_99 : decode cX9_comesSo 99 = .ok (.if_icmp .ne 7, 3) := by decide +kernel
theorem dX9_comesSo_102 : decode cX9_comesSo 102 = .ok (.iconst 1, 1) := by decide +kernel
theorem dX9_comesSo_103 : decode cX9_comesSo 103 = .ok (.goto 4, 3) := by decide +kernel
theorem dX9_comesSo_106 : decode cX9_comesSo 106 = .ok (.iconst 0, 1) := by decide +kernel
theorem dX9_comesSo_107 : decode cX9_comesSo 107 = .ok (.ireturn, 1) := by decide +kernel
theorem dX9_comesSo_108 : decode cX9_comesSo 108 = .ok (.iconst 1, 1) := by decide +kernel
theorem dX9_comesSo_109 : decode cX9_comesSo 109 = .ok (.aload_n 0, 1) := by decide +kernel
theorem dX9_comesSo_110 : decode cX9_comesSo 110 = .ok (.getfield 38, 3) := by decide +kernel
theorem dX9_comesSo_113 : decode cX9_comesSo 113 = .ok (.getfield 144, 3) := by decide +kernel
theorem dX9_comesSo_116 : decode cX9_comesSo 116 = .ok (.isub, 1) := by decide +kernel
theorem dX9_comesSo_117 : decode cX9_comesSo 117 = .ok (.istore 6, 2) := by decide +kernel
theorem dX9_comesSo_119 : decode cX9_comesSo 119 = .ok (.aload_n 0, 1) := by decide +kernel
theorem dX9_comesSo_120 : decode cX9_comesSo 120 = .ok (.getfield 79, 3) := by decide +kernel
theorem dX9_comesSo_123 : decode cX9_comesSo 123 = .ok (.iload_n 1, 1) := by decide +kernel
theorem dX9_comesSo_124 : decode cX9_comesSo 124 = .ok (.iload 4, 2) := by decide +kernel
theorem dX9_comesSo_126 : decode cX9_comesSo 126 = .ok (.iload 6, 2) := by decide +kernel
theorem dX9_comesSo_128 : decode cX9_comesSo 128 = .ok (.invokevirtual 192, 3) := by decide +kernel
theorem dX9_comesSo_131 : decode cX9_comesSo 131 = .ok (.iload_n 2, 1) := by decide +kernel
theorem dX9_comesSo_132 : decode cX9_comesSo 132 = .ok (.if_icmp .eq 5, 3) := by decide +kernel
theorem dX9_comesSo_135 : decode cX9_comesSo 135 = .ok (.iconst 0, 1) := by decide +kernel
theorem dX9_comesSo_136 : decode cX9_comesSo 136 = .ok (.ireturn, 1) := by decide +kernel
theorem dX9_comesSo_137 : decode cX9_comesSo 137 = .ok (.iload_n 2, 1) := by decide +kernel
theorem dX9_comesSo_138 : decode cX9_comesSo 138 = .ok (.ifCond .eq 21, 3) := by decide +kernel
theorem dX9_comesSo_141 : decode cX9_comesSo 141 = .ok (.aload_n 0, 1) := by decide +kernel
theorem dX9_comesSo_142 : decode cX9_comesSo 142 = .ok (.getfield 79, 3) := by decide +kernel
theorem dX9_comesSo_145 : decode cX9_comesSo 145 = .ok (.iload_n 1, 1) := by decide +kernel
theorem dX9_comesSo_146 : decode cX9_comesSo 146 = .ok (.iload 4, 2) := by decide +kernel
theorem dX9_comesSo_148 : decode cX9_comesSo 148 = .ok (.iload 6, 2) := by decide +kernel
theorem dX9_comesSo_150 : decode cX9_comesSo 150 = .ok (.invokevirtual 196, 3) := by decide +kernel
theorem dX9_comesSo_153 : decode cX9_comesSo 153 = .ok (.iload_n 3, 1) := by decide +kernel
theorem dX9_comesSo_154 : decode cX9_comesSo 154 = .ok (.iconst 1, 1) := by decide +kernel
theorem dX9_comesSo_155 : decode cX9_comesSo 155 = .ok (.isub, 1) := by decide +kernel
theorem dX9_comesSo_156 : decode cX9_comesSo 156 = .ok (.if_icmp .ne 7, 3) := by decide +kernel
theorem dX9_comesSo_159 : decode cX9_comesSo 159 = .ok (.iconst 1, 1) := by decide +kernel
theorem dX9_comesSo_160 : decode cX9_comesSo 160 = .ok (.goto 4, 3) := by decide +kernel
theorem dX9_comesSo_163 : decode cX9_comesSo 163 = .ok (.iconst 0, 1) := by decide +kernel
theorem dX9_comesSo_164 : decode cX9_comesSo 164 = .ok (.ireturn, 1) := by decide +kernel
theorem dX9_tells_0 : decode cX9_tells 0 = .ok (.iload_n 1, 1) := by decide +kernel
theorem dX9_tells_1 : decode cX9_tells 1 = .ok (.invokestatic 156, 3) := by decide +kernel
theorem dX9_tells_4 : decode cX9_tells 4 = .ok (.ifCond .eq 5, 3) := by decide +kernel
theorem dX9_tells_7 : decode cX9_tells 7 = .ok (.iconst (-1), 1) := by decide +kernel
theorem dX9_tells_8 : decode cX9_tells 8 = .ok (.ireturn, 1) := by decide +kernel
theorem dX9_tells_9 : decode cX9_tells 9 = .ok (.aload_n 0, 1) := by decide +kernel
theorem dX9_tells_10 : decode cX9_tells 10 = .ok (.getfield 127, 3) := by decide +kernel
theorem dX9_tells_13 : decode cX9_tells 13 = .ok (.bipush 8, 2) := by decide +kernel
theorem dX9_tells_15 : decode cX9_tells 15 = .ok (.if_icmp .lt 6, 3) := by decide +kernel
theorem dX9_tells_18 : decode cX9_tells 18 = .ok (.bipush (-3), 2) := by decide +kernel
theorem dX9_tells_20 : decode cX9_tells 20 = .ok (.ireturn, 1) := by decide +kernel
theorem dX9_tells_21 : decode cX9_tells 21 = .ok (.aload_n 0, 1) := by decide +kernel
theorem dX9_tells_22 : decode cX9_tells 22 = .ok (.getfield 73, 3) := by decide +kernel
theorem dX9_tells_25 : decode cX9_tells 25 = .ok (.aload_n 0, 1) := by decide +kernel
theorem dX9_tells_26 : decode cX9_tells 26 = .ok (.getfield 127, 3) := by decide +kernel
theorem dX9_tells_29 : decode cX9_tells 29 = .ok (.iload_n 1, 1) := by decide +kernel
theorem dX9_tells_30 : decode cX9_tells 30 = .ok (.iastore, 1) := by decide +kernel
theorem dX9_tells_31 : decode cX9_tells 31 = .ok (.aload_n 0, 1) := by decide +kernel
theorem dX9_tells_32 : decode cX9_tells 32 = .ok (.dup, 1) := by decide +kernel
theorem dX9_tells_33 : decode cX9_tells 33 = .ok (.getfield 127, 3) := by decide +kernel
theorem dX9_tells_36 : decode cX9_tells 36 = .ok (.iconst 1, 1) := by decide +kernel
theorem dX9_tells_37 : decode cX9_tells 37 = .ok (.iadd, 1) := by decide +kernel
theorem dX9_tells_38 : decode cX9_tells 38 = .ok (.putfield 127, 3) := by decide +kernel
theorem dX9_tells_41 : decode cX9_tells 41 = .ok (.aload_n 0, 1) := by decide +kernel
theorem dX9_tells_42 : decode cX9_tells 42 = .ok (.getfield 127, 3) := by decide +kernel
theorem dX9_tells_45 : decode cX9_tells 45 = .ok (.ireturn, 1) := by decide +kernel
theorem dX9_forget_0 : decode cX9_forget 0 = .ok (.aload_n 0, 1) := by decide +kernel
theorem dX9_forget_1 : decode cX9_forget 1 = .ok (.getfield 127, 3) := by decide +kernel
theorem dX9_forget_4 : decode cX9_forget 4 = .ok (.istore_n 1, 1) := by decide +kernel
theorem dX9_forget_5 : decode cX9_forget 5 = .ok (.aload_n 0, 1) := by decide +kernel
theorem dX9_forget_6 : decode cX9_forget 6 = .ok (.iconst 0, 1) := by decide +kernel
theorem dX9_forget_7 : decode cX9_forget 7 = .ok (.putfield 127, 3) := by decide +kernel
theorem dX9_forget_10 : decode cX9_forget 10 = .ok (.iload_n 1, 1) := by decide +kernel
theorem dX9_forget_11 : decode cX9_forget 11 = .ok (.ireturn, 1) := by decide +kernel
theorem dX9_leanings_0 : decode cX9_leanings 0 = .ok (.iload_n 1, 1) := by decide +kernel
theorem dX9_leanings_1 : decode cX9_leanings 1 = .ok (.ifCond .lt 8, 3) := by decide +kernel
theorem dX9_leanings_4 : decode cX9_leanings 4 = .ok (.iload_n 1, 1) := by decide +kernel
theorem dX9_leanings_5 : decode cX9_leanings 5 = .ok (.iconst 2, 1) := by decide +kernel
theorem dX9_leanings_6 : decode cX9_leanings 6 = .ok (.if_icmp .le 5, 3) := by decide +kernel
theorem dX9_leanings_9 : decode cX9_leanings 9 = .ok (.iconst (-1), 1) := by decide +kernel
theorem dX9_leanings_10 : decode cX9_leanings 10 = .ok (.ireturn, 1) := by decide +kernel
theorem dX9_leanings_11 : decode cX9_leanings 11 = .ok (.aload_n 0, 1) := by decide +kernel
theorem dX9_leanings_12 : decode cX9_leanings 12 = .ok (.invokevirtual 177, 3) := by decide +kernel
theorem dX9_leanings_15 : decode cX9_leanings 15 = .ok (.ifCond .eq 6, 3) := by decide +kernel
theorem dX9_leanings_18 : decode cX9_leanings 18 = .ok (.bipush (-2), 2) := by decide +kernel
theorem dX9_leanings_20 : decode cX9_leanings 20 = .ok (.ireturn, 1) := by decide +kernel
theorem dX9_leanings_21 : decode cX9_leanings 21 = .ok (.iconst 0, 1) := by decide +kernel
theorem dX9_leanings_22 : decode cX9_leanings 22 = .ok (.istore_n 2, 1) := by decide +kernel
theorem dX9_leanings_23 : decode cX9_leanings 23 = .ok (.aload_n 0, 1) := by decide +kernel
theorem dX9_leanings_24 : decode cX9_leanings 24 = .ok (.getfield 55, 3) := by decide +kernel
theorem dX9_leanings_27 : decode cX9_leanings 27 = .ok (.aload_n 0, 1) := by decide +kernel
theorem dX9_leanings_28 : decode cX9_leanings 28 = .ok (.getfield 51, 3) := by decide +kernel
theorem dX9_leanings_31 : decode cX9_leanings 31 = .ok (.invokevirtual 221, 3) := by decide +kernel
theorem dX9_leanings_34 : decode cX9_leanings 34 = .ok (.iconst 0, 1) := by decide +kernel
theorem dX9_leanings_35 : decode cX9_leanings 35 = .ok (.istore_n 3, 1) := by decide +kernel
theorem dX9_leanings_36 : decode cX9_leanings 36 = .ok (.iload_n 3, 1) := by decide +kernel
theorem dX9_leanings_37 : decode cX9_leanings 37 = .ok (.iconst 5, 1) := by decide +kernel
theorem dX9_leanings_38 : decode cX9_leanings 38 = .ok (.if_icmp .ge 37, 3) := by decide +kernel
theorem dX9_leanings_41 : decode cX9_leanings 41 = .ok (.aload_n 0, 1) := by decide +kernel
theorem dX9_leanings_42 : decode cX9_leanings 42 = .ok (.getfield 55, 3) := by decide +kernel
theorem dX9_leanings_45 : decode cX9_leanings 45 = .ok (.iload_n 3, 1) := by decide +kernel
theorem dX9_leanings_46 : decode cX9_leanings 46 = .ok (.iconst 2, 1) := by decide +kernel
theorem dX9_leanings_47 : decode cX9_leanings 47 = .ok (.isub, 1) := by decide +kernel
theorem dX9_leanings_48 : decode cX9_leanings 48 = .ok (.putfield 116, 3) := by decide +kernel
theorem dX9_leanings_51 : decode cX9_leanings 51 = .ok (.aload_n 0, 1) := by decide +kernel
theorem dX9_leanings_52 : decode cX9_leanings 52 = .ok (.aload_n 0, 1) := by decide +kernel
theorem dX9_leanings_53 : decode cX9_leanings 53 = .ok (.getfield 55, 3) := by decide +kernel
theorem dX9_leanings_56 : decode cX9_leanings 56 = .ok (.invokevirtual 225, 3) := by decide +kernel
theorem dX9_leanings_59 : decode cX9_leanings 59 = .ok (.iload_n 1, 1) := by decide +kernel
theorem dX9_leanings_60 : decode cX9_leanings 60 = .ok (.if_icmp .ne 9, 3) := by decide +kernel
theorem dX9_leanings_63 : decode cX9_leanings 63 = .ok (.iload_n 2, 1) := by decide +kernel
theorem dX9_leanings_64 : decode cX9_leanings 64 = .ok (.iconst 1, 1) := by decide +kernel
theorem dX9_leanings_65 : decode cX9_leanings 65 = .ok (.iload_n 3, 1) := by decide +kernel
theorem dX9_leanings_66 : decode cX9_leanings 66 = .ok (.ishl, 1) := by decide +kernel
theorem dX9_leanings_67 : decode cX9_leanings 67 = .ok (.ior, 1) := by decide +kernel
theorem dX9_leanings_68 : decode cX9_leanings 68 = .ok (.istore_n 2, 1) := by decide +kernel
theorem dX9_leanings_69 : decode cX9_leanings 69 = .ok (.iinc 3 1, 3) := by decide +kernel
theorem dX9_leanings_72 : decode cX9_leanings 72 = .ok (.goto (-36), 3) := by decide +kernel
theorem dX9_leanings_75 : decode cX9_leanings 75 = .ok (.iload_n 2, 1) := by decide +kernel
theorem dX9_leanings_76 : decode cX9_leanings 76 = .ok (.ireturn, 1) := by decide +kernel
theorem dX9_endOfTold_0 : decode cX9_endOfTold 0 = .ok (.aload_n 0, 1) := by decide +kernel
theorem dX9_endOfTold_1 : decode cX9_endOfTold 1 = .ok (.getfield 28, 3) := by decide +kernel
theorem dX9_endOfTold_4 : decode cX9_endOfTold 4 = .ok (.getfield 153, 3) := by decide +kernel
theorem dX9_endOfTold_7 : decode cX9_endOfTold 7 = .ok (.istore_n 2, 1) := by decide +kernel
theorem dX9_endOfTold_8 : decode cX9_endOfTold 8 = .ok (.iconst 0, 1) := by decide +kernel
theorem dX9_endOfTold_9 : decode cX9_endOfTold 9 = .ok (.istore_n 3, 1) := by decide +kernel
theorem dX9_endOfTold_10 : decode cX9_endOfTold 10 = .ok (.iconst 0, 1) := by decide +kernel
theorem dX9_endOfTold_11 : decode cX9_endOfTold 11 = .ok (.istore 4, 2) := by decide +kernel
theorem dX9_endOfTold_13 : decode cX9_endOfTold 13 = .ok (.iconst 0, 1) := by decide +kernel
theorem dX9_endOfTold_14 : decode cX9_endOfTold 14 = .ok (.istore 5, 2) := by decide +kernel
theorem dX9_endOfTold_16 : decode cX9_endOfTold 16 = .ok (.iload 5, 2) := by decide +kernel
theorem dX9_endOfTold_18 : decode cX9_endOfTold 18 = .ok (.aload_n 0, 1) := by decide +kernel
theorem dX9_endOfTold_19 : decode cX9_endOfTold 19 = .ok (.getfield 127, 3) := by decide +kernel
theorem dX9_endOfTold_22 : decode cX9_endOfTold 22 = .ok (.if_icmp .ge 60, 3) := by decide +kernel
theorem dX9_endOfTold_25 : decode cX9_endOfTold 25 = .ok (.iload 5, 2) := by decide +kernel
theorem dX9_endOfTold_27 : decode cX9_endOfTold 27 = .ok (.bipush 8, 2) := by decide +kernel
theorem dX9_endOfTold_29 : decode cX9_endOfTold 29 = .ok (.if_icmp .ge 53, 3) := by decide +kernel
theorem dX9_endOfTold_32 : decode cX9_endOfTold 32 = .ok (.aload_n 1, 1) := by decide +kernel
theorem dX9_endOfTold_33 : decode cX9_endOfTold 33 = .ok (.iload_n 2, 1) := by decide +kernel
theorem dX9_endOfTold_34 : decode cX9_endOfTold 34 = .ok (.aload_n 0, 1) := by decide +kernel
theorem dX9_endOfTold_35 : decode cX9_endOfTold 35 = .ok (.getfield 73, 3) := by decide +kernel
theorem dX9_endOfTold_38 : decode cX9_endOfTold 38 = .ok (.iload 5, 2) := by decide +kernel
theorem dX9_endOfTold_40 : decode cX9_endOfTold 40 = .ok (.iaload, 1) := by decide +kernel
theorem dX9_endOfTold_41 : decode cX9_endOfTold 41 = .ok (.invokevirtual 185, 3) := by decide +kernel
theorem dX9_endOfTold_44 : decode cX9_endOfTold 44 = .ok (.istore 6, 2) := by decide +kernel
theorem dX9_endOfTold_46 : decode cX9_endOfTold 46 = .ok (.iload 4, 2) := by decide +kernel
theorem dX9_endOfTold_48 : decode cX9_endOfTold 48 = .ok (.ifCond .ne 8, 3) := by decide +kernel
theorem dX9_endOfTold_51 : decode cX9_endOfTold 51 = .ok (.iload 6, 2) := by decide +kernel
theorem dX9_endOfTold_53 : decode cX9_endOfTold 53 = .ok (.ifCond .ge 5, 3) := by decide +kernel
theorem dX9_endOfTold_56 : decode cX9_endOfTold 56 = .ok (.iconst (-1), 1) := by decide +kernel
theorem dX9_endOfTold_57 : decode cX9_endOfTold 57 = .ok (.ireturn, 1) := by decide +kernel
theorem dX9_endOfTold_58 : decode cX9_endOfTold 58 = .ok (.iload 6, 2) := by decide +kernel
theorem dX9_endOfTold_60 : decode cX9_endOfTold 60 = .ok (.istore_n 2, 1) := by decide +kernel
theorem dX9_endOfTold_61 : decode cX9_endOfTold 61 = .ok (.aload_n 1, 1) := by decide +kernel
theorem dX9_endOfTold_62 : decode cX9_endOfTold 62 = .ok (.iload 6, 2) := by decide +kernel
theorem dX9_endOfTold_64 : decode cX9_endOfTold 64 = .ok (.iload_n 3, 1) := by decide +kernel
theorem dX9_endOfTold_65 : decode cX9_endOfTold 65 = .ok (.invokevirtual 167, 3) := by decide +kernel
theorem dX9_endOfTold_68 : decode cX9_endOfTold 68 = .ok (.istore_n 3, 1) := by decide +kernel
theorem dX9_endOfTold_69 : decode cX9_endOfTold 69 = .ok (.aload_n 1, 1) := by decide +kernel
theorem dX9_endOfTold_70 : decode cX9_endOfTold 70 = .ok (.iload_n 3, 1) := by decide +kernel
theorem dX9_endOfTold_71 : decode cX9_endOfTold 71 = .ok (.invokevirtual 170, 3) := by decide +kernel
theorem dX9_endOfTold_74 : decode cX9_endOfTold 74 = .ok (.istore 4, 2) := by decide +kernel
theorem dX9_endOfTold_76 : decode cX9_endOfTold 76 = .ok (.iinc 5 1, 3) := by decide +kernel
theorem dX9_endOfTold_79 : decode cX9_endOfTold 79 = .ok (.goto (-63), 3) := by decide +kernel
theorem dX9_endOfTold_82 : decode cX9_endOfTold 82 = .ok (.iload 4, 2) := by decide +kernel
theorem dX9_endOfTold_84 : decode cX9_endOfTold 84 = .ok (.ireturn, 1) := by decide +kernel
theorem dX9_rate_0 : decode cX9_rate 0 = .ok (.iload_n 2, 1) := by decide +kernel
theorem dX9_rate_1 : decode cX9_rate 1 = .ok (.iload_n 3, 1) := by decide +kernel
theorem dX9_rate_2 : decode cX9_rate 2 = .ok (.invokestatic 130, 3) := by decide +kernel
theorem dX9_rate_5 : decode cX9_rate 5 = .ok (.istore 4, 2) := by decide +kernel
theorem dX9_rate_7 : decode cX9_rate 7 = .ok (.aload_n 0, 1) := by decide +kernel
theorem dX9_rate_8 : decode cX9_rate 8 = .ok (.getfield 51, 3) := by decide +kernel
theorem dX9_rate_11 : decode cX9_rate 11 = .ok (.iload 4, 2) := by decide +kernel
theorem dX9_rate_13 : decode cX9_rate 13 = .ok (.invokevirtual 134, 3) := by decide +kernel
theorem dX9_rate_16 : decode cX9_rate 16 = .ok (.ifCond .eq 6, 3) := by decide +kernel
theorem dX9_rate_19 : decode cX9_rate 19 = .ok (.ldc 137, 2) := by decide +kernel
theorem dX9_rate_21 : decode cX9_rate 21 = .ok (.ireturn, 1) := by decide +kernel
theorem dX9_rate_22 : decode cX9_rate 22 = .ok (.iload_n 1, 1) := by decide +kernel
theorem dX9_rate_23 : decode cX9_rate 23 = .ok (.tableswitch 79 0 5 #[37, 44, 51, 58, 65, 72], 37) := by decide +kernel
theorem dX9_rate_60 : decode cX9_rate 60 = .ok (.aload_n 0, 1) := by decide +kernel
theorem dX9_rate_61 : decode cX9_rate 61 = .ok (.iload 4, 2) := by decide +kernel
theorem dX9_rate_63 : decode cX9_rate 63 = .ok (.invokevirtual 229, 3) := by decide +kernel
theorem dX9_rate_66 : decode cX9_rate 66 = .ok (.ireturn, 1) := by decide +kernel
theorem dX9_rate_67 : decode cX9_rate 67 = .ok (.aload_n 0, 1) := by decide +kernel
theorem dX9_rate_68 : decode cX9_rate 68 = .ok (.iload 4, 2) := by decide +kernel
theorem dX9_rate_70 : decode cX9_rate 70 = .ok (.invokevirtual 232, 3) := by decide +kernel
theorem dX9_rate_73 : decode cX9_rate 73 = .ok (.ireturn, 1) := by decide +kernel
theorem dX9_rate_74 : decode cX9_rate 74 = .ok (.aload_n 0, 1) := by decide +kernel
theorem dX9_rate_75 : decode cX9_rate 75 = .ok (.iload 4, 2) := by decide +kernel
theorem dX9_rate_77 : decode cX9_rate 77 = .ok (.invokevirtual 235, 3) := by decide +kernel
theorem dX9_rate_80 : decode cX9_rate 80 = .ok (.ireturn, 1) := by decide +kernel
theorem dX9_rate_81 : decode cX9_rate 81 = .ok (.aload_n 0, 1) := by decide +kernel
theorem dX9_rate_82 : decode cX9_rate 82 = .ok (.iload 4, 2) := by decide +kernel
theorem dX9_rate_84 : decode cX9_rate 84 = .ok (.invokevirtual 238, 3) := by decide +kernel
theorem dX9_rate_87 : decode cX9_rate 87 = .ok (.ireturn, 1) := by decide +kernel
theorem dX9_rate_88 : decode cX9_rate 88 = .ok (.aload_n 0, 1) := by decide +kernel
theorem dX9_rate_89 : decode cX9_rate 89 = .ok (.iload 4, 2) := by decide +kernel
theorem dX9_rate_91 : decode cX9_rate 91 = .ok (.invokevirtual 241, 3) := by decide +kernel
theorem dX9_rate_94 : decode cX9_rate 94 = .ok (.ireturn, 1) := by decide +kernel
theorem dX9_rate_95 : decode cX9_rate 95 = .ok (.aload_n 0, 1) := by decide +kernel
theorem dX9_rate_96 : decode cX9_rate 96 = .ok (.iload 4, 2) := by decide +kernel
theorem dX9_rate_98 : decode cX9_rate 98 = .ok (.invokevirtual 244, 3) := by decide +kernel
theorem dX9_rate_101 : decode cX9_rate 101 = .ok (.ireturn, 1) := by decide +kernel
theorem dX9_rate_102 : decode cX9_rate 102 = .ok (.ldc 137, 2) := by decide +kernel
theorem dX9_rate_104 : decode cX9_rate 104 = .ok (.ireturn, 1) := by decide +kernel
theorem dX9_keep_0 : decode cX9_keep 0 = .ok (.iload_n 1, 1) := by decide +kernel
theorem dX9_keep_1 : decode cX9_keep 1 = .ok (.ifCond .lt 8, 3) := by decide +kernel
theorem dX9_keep_4 : decode cX9_keep 4 = .ok (.iload_n 1, 1) := by decide +kernel
theorem dX9_keep_5 : decode cX9_keep 5 = .ok (.iconst 2, 1) := by decide +kernel
theorem dX9_keep_6 : decode cX9_keep 6 = .ok (.if_icmp .lt 5, 3) := by decide +kernel
theorem dX9_keep_9 : decode cX9_keep 9 = .ok (.iconst (-1), 1) := by decide +kernel
theorem dX9_keep_10 : decode cX9_keep 10 = .ok (.ireturn, 1) := by decide +kernel
theorem dX9_keep_11 : decode cX9_keep 11 = .ok (.aload_n 0, 1) := by decide +kernel
theorem dX9_keep_12 : decode cX9_keep 12 = .ok (.getfield 65, 3) := by decide +kernel
theorem dX9_keep_15 : decode cX9_keep 15 = .ok (.iload_n 1, 1) := by decide +kernel
theorem dX9_keep_16 : decode cX9_keep 16 = .ok (.aaload, 1) := by decide +kernel
theorem dX9_keep_17 : decode cX9_keep 17 = .ok (.aload_n 0, 1) := by decide +kernel
theorem dX9_keep_18 : decode cX9_keep 18 = .ok (.getfield 38, 3) := by decide +kernel
theorem dX9_keep_21 : decode cX9_keep 21 = .ok (.invokevirtual 247, 3) := by decide +kernel
theorem dX9_keep_24 : decode cX9_keep 24 = .ok (.aload_n 0, 1) := by decide +kernel
theorem dX9_keep_25 : decode cX9_keep 25 = .ok (.getfield 69, 3) := by decide +kernel
theorem dX9_keep_28 : decode cX9_keep 28 = .ok (.iload_n 1, 1) := by decide +kernel
theorem dX9_keep_29 : decode cX9_keep 29 = .ok (.iconst 1, 1) := by decide +kernel
theorem dX9_keep_30 : decode cX9_keep 30 = .ok (.bastore, 1) := by decide +kernel
theorem dX9_keep_31 : decode cX9_keep 31 = .ok (.aload_n 0, 1) := by decide +kernel
theorem dX9_keep_32 : decode cX9_keep 32 = .ok (.getfield 38, 3) := by decide +kernel
theorem dX9_keep_35 : decode cX9_keep 35 = .ok (.invokevirtual 249, 3) := by decide +kernel
theorem dX9_keep_38 : decode cX9_keep 38 = .ok (.ireturn, 1) := by decide +kernel
theorem dX9_back_0 : decode cX9_back 0 = .ok (.iload_n 1, 1) := by decide +kernel
theorem dX9_back_1 : decode cX9_back 1 = .ok (.ifCond .lt 8, 3) := by decide +kernel
