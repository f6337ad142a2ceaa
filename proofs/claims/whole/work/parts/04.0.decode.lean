theorem dX0_init_0 : decode cX0_init 0 = .ok (.aload_n 0, 1) := by decide +kernel
theorem dX0_init_1 : decode cX0_init 1 = .ok (.invokespecial 3, 3) := by decide +kernel
theorem dX0_init_4 : decode cX0_init 4 = .ok (.aload_n 0, 1) := by decide +kernel
theorem dX0_init_5 : decode cX0_init 5 = .ok (.sipush 340, 3) := by decide +kernel
theorem dX0_init_8 : decode cX0_init 8 = .ok (.newarray .int, 2) := by decide +kernel
theorem dX0_init_10 : decode cX0_init 10 = .ok (.putfield 9, 3) := by decide +kernel
theorem dX0_init_13 : decode cX0_init 13 = .ok (.aload_n 0, 1) := by decide +kernel
theorem dX0_init_14 : decode cX0_init 14 = .ok (.sipush 340, 3) := by decide +kernel
theorem dX0_init_17 : decode cX0_init 17 = .ok (.newarray .int, 2) := by decide +kernel
theorem dX0_init_19 : decode cX0_init 19 = .ok (.putfield 15, 3) := by decide +kernel
theorem dX0_init_22 : decode cX0_init 22 = .ok (.return_, 1) := by decide +kernel
theorem dX0_reckon_0 : decode cX0_reckon 0 = .ok (.aload_n 0, 1) := by decide +kernel
theorem dX0_reckon_1 : decode cX0_reckon 1 = .ok (.aload_n 1, 1) := by decide +kernel
theorem dX0_reckon_2 : decode cX0_reckon 2 = .ok (.putfield 18, 3) := by decide +kernel
theorem dX0_reckon_5 : decode cX0_reckon 5 = .ok (.aload_n 0, 1) := by decide +kernel
theorem dX0_reckon_6 : decode cX0_reckon 6 = .ok (.iload 4, 2) := by decide +kernel
theorem dX0_reckon_8 : decode cX0_reckon 8 = .ok (.putfield 22, 3) := by decide +kernel
theorem dX0_reckon_11 : decode cX0_reckon 11 = .ok (.aload_n 0, 1) := by decide +kernel
theorem dX0_reckon_12 : decode cX0_reckon 12 = .ok (.iconst 0, 1) := by decide +kernel
theorem dX0_reckon_13 : decode cX0_reckon 13 = .ok (.putfield 26, 3) := by decide +kernel
theorem dX0_reckon_16 : decode cX0_reckon 16 = .ok (.aload_n 0, 1) := by decide +kernel
theorem dX0_reckon_17 : decode cX0_reckon 17 = .ok (.iconst 1, 1) := by decide +kernel
theorem dX0_reckon_18 : decode cX0_reckon 18 = .ok (.putfield 29, 3) := by decide +kernel
theorem dX0_reckon_21 : decode cX0_reckon 21 = .ok (.iload_n 2, 1) := by decide +kernel
theorem dX0_reckon_22 : decode cX0_reckon 22 = .ok (.iload_n 3, 1) := by decide +kernel
theorem dX0_reckon_23 : decode cX0_reckon 23 = .ok (.invokestatic 32, 3) := by decide +kernel
theorem dX0_reckon_26 : decode cX0_reckon 26 = .ok (.istore 6, 2) := by decide +kernel
theorem dX0_reckon_28 : decode cX0_reckon 28 = .ok (.iload 6, 2) := by decide +kernel
theorem dX0_reckon_30 : decode cX0_reckon 30 = .ok (.ifCond .ge 4, 3) := by decide +kernel
theorem dX0_reckon_33 : decode cX0_reckon 33 = .ok (.return_, 1) := by decide +kernel
theorem dX0_reckon_34 : decode cX0_reckon 34 = .ok (.aload_n 0, 1) := by decide +kernel
theorem dX0_reckon_35 : decode cX0_reckon 35 = .ok (.getfield 9, 3) := by decide +kernel
theorem dX0_reckon_38 : decode cX0_reckon 38 = .ok (.iconst 0, 1) := by decide +kernel
theorem dX0_reckon_39 : decode cX0_reckon 39 = .ok (.invokestatic 36, 3) := by decide +kernel
theorem dX0_reckon_42 : decode cX0_reckon 42 = .ok (.aload_n 0, 1) := by decide +kernel
theorem dX0_reckon_43 : decode cX0_reckon 43 = .ok (.getfield 9, 3) := by decide +kernel
theorem dX0_reckon_46 : decode cX0_reckon 46 = .ok (.iload 6, 2) := by decide +kernel
theorem dX0_reckon_48 : decode cX0_reckon 48 = .ok (.iconst 1, 1) := by decide +kernel
theorem dX0_reckon_49 : decode cX0_reckon 49 = .ok (.iastore, 1) := by decide +kernel
theorem dX0_reckon_50 : decode cX0_reckon 50 = .ok (.iconst 0, 1) := by decide +kernel
theorem dX0_reckon_51 : decode cX0_reckon 51 = .ok (.istore 7, 2) := by decide +kernel
theorem dX0_reckon_53 : decode cX0_reckon 53 = .ok (.iload 7, 2) := by decide +kernel
theorem dX0_reckon_55 : decode cX0_reckon 55 = .ok (.iload 5, 2) := by decide +kernel
theorem dX0_reckon_57 : decode cX0_reckon 57 = .ok (.if_icmp .ge 13, 3) := by decide +kernel
theorem dX0_reckon_60 : decode cX0_reckon 60 = .ok (.aload_n 0, 1) := by decide +kernel
theorem dX0_reckon_61 : decode cX0_reckon 61 = .ok (.invokevirtual 42, 3) := by decide +kernel
theorem dX0_reckon_64 : decode cX0_reckon 64 = .ok (.iinc 7 1, 3) := by decide +kernel
theorem dX0_reckon_67 : decode cX0_reckon 67 = .ok (.goto (-14), 3) := by decide +kernel
theorem dX0_reckon_70 : decode cX0_reckon 70 = .ok (.aload_n 0, 1) := by decide +kernel
theorem dX0_reckon_71 : decode cX0_reckon 71 = .ok (.getfield 26, 3) := by decide +kernel
theorem dX0_reckon_74 : decode cX0_reckon 74 = .ok (.aload_n 0, 1) := by decide +kernel
theorem dX0_reckon_75 : decode cX0_reckon 75 = .ok (.getfield 29, 3) := by decide +kernel
theorem dX0_reckon_78 : decode cX0_reckon 78 = .ok (.invokestatic 45, 3) := by decide +kernel
theorem dX0_reckon_81 : decode cX0_reckon 81 = .ok (.istore 7, 2) := by decide +kernel
theorem dX0_reckon_83 : decode cX0_reckon 83 = .ok (.iload 7, 2) := by decide +kernel
theorem dX0_reckon_85 : decode cX0_reckon 85 = .ok (.iconst 1, 1) := by decide +kernel
theorem dX0_reckon_86 : decode cX0_reckon 86 = .ok (.if_icmp .le 25, 3) := by decide +kernel
theorem dX0_reckon_89 : decode cX0_reckon 89 = .ok (.aload_n 0, 1) := by decide +kernel
theorem dX0_reckon_90 : decode cX0_reckon 90 = .ok (.dup, 1) := by decide +kernel
theorem dX0_reckon_91 : decode cX0_reckon 91 = .ok (.getfield 26, 3) := by decide +kernel
theorem dX0_reckon_94 : decode cX0_reckon 94 = .ok (.iload 7, 2) := by decide +kernel
theorem dX0_reckon_96 : decode cX0_reckon 96 = .ok (.idiv, 1) := by decide +kernel
theorem dX0_reckon_97 : decode cX0_reckon 97 = .ok (.putfield 26, 3) := by decide +kernel
theorem dX0_reckon_100 : decode cX0_reckon 100 = .ok (.aload_n 0, 1) := by decide +kernel
theorem dX0_reckon_101 : decode cX0_reckon 101 = .ok (.dup, 1) := by decide +kernel
theorem dX0_reckon_102 : decode cX0_reckon 102 = .ok (.getfield 29, 3) := by decide +kernel
theorem dX0_reckon_105 : decode cX0_reckon 105 = .ok (.iload 7, 2) := by decide +kernel
theorem dX0_reckon_107 : decode cX0_reckon 107 = .ok (.idiv, 1) := by decide +kernel
theorem dX0_reckon_108 : decode cX0_reckon 108 = .ok (.putfield 29, 3) := by decide +kernel
theorem dX0_reckon_111 : decode cX0_reckon 111 = .ok (.return_, 1) := by decide +kernel
theorem dX0_pushOnce_0 : decode cX0_pushOnce 0 = .ok (.aload_n 0, 1) := by decide +kernel
theorem dX0_pushOnce_1 : decode cX0_pushOnce 1 = .ok (.dup, 1) := by decide +kernel
theorem dX0_pushOnce_2 : decode cX0_pushOnce 2 = .ok (.getfield 26, 3) := by decide +kernel
theorem dX0_pushOnce_5 : decode cX0_pushOnce 5 = .ok (.bipush 12, 2) := by decide +kernel
theorem dX0_pushOnce_7 : decode cX0_pushOnce 7 = .ok (.imul, 1) := by decide +kernel
theorem dX0_pushOnce_8 : decode cX0_pushOnce 8 = .ok (.putfield 26, 3) := by decide +kernel
theorem dX0_pushOnce_11 : decode cX0_pushOnce 11 = .ok (.aload_n 0, 1) := by decide +kernel
theorem dX0_pushOnce_12 : decode cX0_pushOnce 12 = .ok (.dup, 1) := by decide +kernel
theorem dX0_pushOnce_13 : decode cX0_pushOnce 13 = .ok (.getfield 29, 3) := by decide +kernel
theorem dX0_pushOnce_16 : decode cX0_pushOnce 16 = .ok (.bipush 12, 2) := by decide +kernel
theorem dX0_pushOnce_18 : decode cX0_pushOnce 18 = .ok (.imul, 1) := by decide +kernel
theorem dX0_pushOnce_19 : decode cX0_pushOnce 19 = .ok (.putfield 29, 3) := by decide +kernel
theorem dX0_pushOnce_22 : decode cX0_pushOnce 22 = .ok (.aload_n 0, 1) := by decide +kernel
theorem dX0_pushOnce_23 : decode cX0_pushOnce 23 = .ok (.getfield 15, 3) := by decide +kernel
theorem dX0_pushOnce_26 : decode cX0_pushOnce 26 = .ok (.iconst 0, 1) := by decide +kernel
theorem dX0_pushOnce_27 : decode cX0_pushOnce 27 = .ok (.invokestatic 36, 3) := by decide +kernel
theorem dX0_pushOnce_30 : decode cX0_pushOnce 30 = .ok (.iconst 0, 1) := by decide +kernel
theorem dX0_pushOnce_31 : decode cX0_pushOnce 31 = .ok (.istore_n 1, 1) := by decide +kernel
theorem dX0_pushOnce_32 : decode cX0_pushOnce 32 = .ok (.iload_n 1, 1) := by decide +kernel
theorem dX0_pushOnce_33 : decode cX0_pushOnce 33 = .ok (.sipush 340, 3) := by decide +kernel
theorem dX0_pushOnce_36 : decode cX0_pushOnce 36 = .ok (.if_icmp .ge 23, 3) := by decide +kernel
theorem dX0_pushOnce_39 : decode cX0_pushOnce 39 = .ok (.aload_n 0, 1) := by decide +kernel
theorem dX0_pushOnce_40 : decode cX0_pushOnce 40 = .ok (.getfield 9, 3) := by decide +kernel
theorem dX0_pushOnce_43 : decode cX0_pushOnce 43 = .ok (.iload_n 1, 1) := by decide +kernel
theorem dX0_pushOnce_44 : decode cX0_pushOnce 44 = .ok (.iaload, 1) := by decide +kernel
theorem dX0_pushOnce_45 : decode cX0_pushOnce 45 = .ok (.ifCond .le 8, 3) := by decide +kernel
theorem dX0_pushOnce_48 : decode cX0_pushOnce 48 = .ok (.aload_n 0, 1) := by decide +kernel
theorem dX0_pushOnce_49 : decode cX0_pushOnce 49 = .ok (.iload_n 1, 1) := by decide +kernel
theorem dX0_pushOnce_50 : decode cX0_pushOnce 50 = .ok (.invokevirtual 48, 3) := by decide +kernel
theorem dX0_pushOnce_53 : decode cX0_pushOnce 53 = .ok (.iinc 1 1, 3) := by decide +kernel
theorem dX0_pushOnce_56 : decode cX0_pushOnce 56 = .ok (.goto (-24), 3) := by decide +kernel
theorem dX0_pushOnce_59 : decode cX0_pushOnce 59 = .ok (.aload_n 0, 1) := by decide +kernel
theorem dX0_pushOnce_60 : decode cX0_pushOnce 60 = .ok (.getfield 9, 3) := by decide +kernel
theorem dX0_pushOnce_63 : decode cX0_pushOnce 63 = .ok (.astore_n 1, 1) := by decide +kernel
theorem dX0_pushOnce_64 : decode cX0_pushOnce 64 = .ok (.aload_n 0, 1) := by decide +kernel
theorem dX0_pushOnce_65 : decode cX0_pushOnce 65 = .ok (.aload_n 0, 1) := by decide +kernel
theorem dX0_pushOnce_66 : decode cX0_pushOnce 66 = .ok (.getfield 15, 3) := by decide +kernel
theorem dX0_pushOnce_69 : decode cX0_pushOnce 69 = .ok (.putfield 9, 3) := by decide +kernel
theorem dX0_pushOnce_72 : decode cX0_pushOnce 72 = .ok (.aload_n 0, 1) := by decide +kernel
theorem dX0_pushOnce_73 : decode cX0_pushOnce 73 = .ok (.aload_n 1, 1) := by decide +kernel
theorem dX0_pushOnce_74 : decode cX0_pushOnce 74 = .ok (.putfield 15, 3) := by decide +kernel
theorem dX0_pushOnce_77 : decode cX0_pushOnce 77 = .ok (.return_, 1) := by decide +kernel
theorem dX0_shareOut_0 : decode cX0_shareOut 0 = .ok (.iload_n 1, 1) := by decide +kernel
theorem dX0_shareOut_1 : decode cX0_shareOut 1 = .ok (.invokestatic 52, 3) := by decide +kernel
theorem dX0_shareOut_4 : decode cX0_shareOut 4 = .ok (.istore_n 2, 1) := by decide +kernel
theorem dX0_shareOut_5 : decode cX0_shareOut 5 = .ok (.aload_n 0, 1) := by decide +kernel
theorem dX0_shareOut_6 : decode cX0_shareOut 6 = .ok (.getfield 18, 3) := by decide +kernel
theorem dX0_shareOut_9 : decode cX0_shareOut 9 = .ok (.iload_n 2, 1) := by decide +kernel
theorem dX0_shareOut_10 : decode cX0_shareOut 10 = .ok (.invokevirtual 56, 3) := by decide +kernel
theorem dX0_shareOut_13 : decode cX0_shareOut 13 = .ok (.istore_n 3, 1) := by decide +kernel
theorem dX0_shareOut_14 : decode cX0_shareOut 14 = .ok (.iload_n 3, 1) := by decide +kernel
theorem dX0_shareOut_15 : decode cX0_shareOut 15 = .ok (.ifCond .gt 22, 3) := by decide +kernel
theorem dX0_shareOut_18 : decode cX0_shareOut 18 = .ok (.aload_n 0, 1) := by decide +kernel
theorem dX0_shareOut_19 : decode cX0_shareOut 19 = .ok (.getfield 15, 3) := by decide +kernel
theorem dX0_shareOut_22 : decode cX0_shareOut 22 = .ok (.iload_n 1, 1) := by decide +kernel
theorem dX0_shareOut_23 : decode cX0_shareOut 23 = .ok (.dup2, 1) := by decide +kernel
theorem dX0_shareOut_24 : decode cX0_shareOut 24 = .ok (.iaload, 1) := by decide +kernel
theorem dX0_shareOut_25 : decode cX0_shareOut 25 = .ok (.bipush 12, 2) := by decide +kernel
theorem dX0_shareOut_27 : decode cX0_shareOut 27 = .ok (.aload_n 0, 1) := by decide +kernel
theorem dX0_shareOut_28 : decode cX0_shareOut 28 = .ok (.getfield 9, 3) := by decide +kernel
theorem dX0_shareOut_31 : decode cX0_shareOut 31 = .ok (.iload_n 1, 1) := by decide +kernel
theorem dX0_shareOut_32 : decode cX0_shareOut 32 = .ok (.iaload, 1) := by decide +kernel
theorem dX0_shareOut_33 : decode cX0_shareOut 33 = .ok (.imul, 1) := by decide +kernel
theorem dX0_shareOut_34 : decode cX0_shareOut 34 = .ok (.iadd, 1) := by decide +kernel
theorem dX0_shareOut_35 : decode cX0_shareOut 35 = .ok (.iastore, 1) := by decide +kernel
theorem dX0_shareOut_36 : decode cX0_shareOut 36 = .ok (.return_, 1) := by decide +kernel
theorem dX0_shareOut_37 : decode cX0_shareOut 37 = .ok (.bipush 12, 2) := by decide +kernel
theorem dX0_shareOut_39 : decode cX0_shareOut 39 = .ok (.iload_n 3, 1) := by decide +kernel
theorem dX0_shareOut_40 : decode cX0_shareOut 40 = .ok (.idiv, 1) := by decide +kernel
theorem dX0_shareOut_41 : decode cX0_shareOut 41 = .ok (.aload_n 0, 1) := by decide +kernel
theorem dX0_shareOut_42 : decode cX0_shareOut 42 = .ok (.getfield 9, 3) := by decide +kernel
theorem dX0_shareOut_45 : decode cX0_shareOut 45 = .ok (.iload_n 1, 1) := by decide +kernel
theorem dX0_shareOut_46 : decode cX0_shareOut 46 = .ok (.iaload, 1) := by decide +kernel
theorem dX0_shareOut_47 : decode cX0_shareOut 47 = .ok (.imul, 1) := by decide +kernel
theorem dX0_shareOut_48 : decode cX0_shareOut 48 = .ok (.istore 4, 2) := by decide +kernel
theorem dX0_shareOut_50 : decode cX0_shareOut 50 = .ok (.iconst 0, 1) := by decide +kernel
theorem dX0_shareOut_51 : decode cX0_shareOut 51 = .ok (.istore 5, 2) := by decide +kernel
theorem dX0_shareOut_53 : decode cX0_shareOut 53 = .ok (.iload 5, 2) := by decide +kernel
theorem dX0_shareOut_55 : decode cX0_shareOut 55 = .ok (.iconst 4, 1) := by decide +kernel
theorem dX0_shareOut_56 : decode cX0_shareOut 56 = .ok (.if_icmp .ge 109, 3) := by decide +kernel
theorem dX0_shareOut_59 : decode cX0_shareOut 59 = .ok (.aload_n 0, 1) := by decide +kernel
theorem dX0_shareOut_60 : decode cX0_shareOut 60 = .ok (.getfield 18, 3) := by decide +kernel
theorem dX0_shareOut_63 : decode cX0_shareOut 63 = .ok (.iload_n 2, 1) := by decide +kernel
theorem dX0_shareOut_64 : decode cX0_shareOut 64 = .ok (.iload 5, 2) := by decide +kernel
theorem dX0_shareOut_66 : decode cX0_shareOut 66 = .ok (.invokevirtual 61, 3) := by decide +kernel
theorem dX0_shareOut_69 : decode cX0_shareOut 69 = .ok (.istore 6, 2) := by decide +kernel
theorem dX0_shareOut_71 : decode cX0_shareOut 71 = .ok (.iload 6, 2) := by decide +kernel
theorem dX0_shareOut_73 : decode cX0_shareOut 73 = .ok (.ifCond .ge 6, 3) := by decide +kernel
theorem dX0_shareOut_76 : decode cX0_shareOut 76 = .ok (.goto 83, 3) := by decide +kernel
theorem dX0_shareOut_79 : decode cX0_shareOut 79 = .ok (.aload_n 0, 1) := by decide +kernel
theorem dX0_shareOut_80 : decode cX0_shareOut 80 = .ok (.getfield 18, 3) := by decide +kernel
theorem dX0_shareOut_83 : decode cX0_shareOut 83 = .ok (.iload 6, 2) := by decide +kernel
theorem dX0_shareOut_85 : decode cX0_shareOut 85 = .ok (.iload_n 1, 1) := by decide +kernel
theorem dX0_shareOut_86 : decode cX0_shareOut 86 = .ok (.invokestatic 64, 3) := by decide +kernel
theorem dX0_shareOut_89 : decode cX0_shareOut 89 = .ok (.invokevirtual 67, 3) := by decide +kernel
theorem dX0_shareOut_92 : decode cX0_shareOut 92 = .ok (.istore 7, 2) := by decide +kernel
theorem dX0_shareOut_94 : decode cX0_shareOut 94 = .ok (.aload_n 0, 1) := by decide +kernel
theorem dX0_shareOut_95 : decode cX0_shareOut 95 = .ok (.getfield 18, 3) := by decide +kernel
theorem dX0_shareOut_98 : decode cX0_shareOut 98 = .ok (.iload 7, 2) := by decide +kernel
theorem dX0_shareOut_100 : decode cX0_shareOut 100 = .ok (.invokevirtual 70, 3) := by decide +kernel
theorem dX0_shareOut_103 : decode cX0_shareOut 103 = .ok (.istore 8, 2) := by decide +kernel
theorem dX0_shareOut_105 : decode cX0_shareOut 105 = .ok (.iload 6, 2) := by decide +kernel
theorem dX0_shareOut_107 : decode cX0_shareOut 107 = .ok (.iload 7, 2) := by decide +kernel
theorem dX0_shareOut_109 : decode cX0_shareOut 109 = .ok (.invokestatic 32, 3) := by decide +kernel
theorem dX0_shareOut_112 : decode cX0_shareOut 112 = .ok (.istore 9, 2) := by decide +kernel
theorem dX0_shareOut_114 : decode cX0_shareOut 114 = .ok (.iload 8, 2) := by decide +kernel
theorem dX0_shareOut_116 : decode cX0_shareOut 116 = .ok (.aload_n 0, 1) := by decide +kernel
theorem dX0_shareOut_117 : decode cX0_shareOut 117 = .ok (.getfield 22, 3) := by decide +kernel
theorem dX0_shareOut_120 : decode cX0_shareOut 120 = .ok (.if_icmp .ne 17, 3) := by decide +kernel
theorem dX0_shareOut_123 : decode cX0_shareOut 123 = .ok (.aload_n 0, 1) := by decide +kernel
theorem dX0_shareOut_124 : decode cX0_shareOut 124 = .ok (.dup, 1) := by decide +kernel
theorem dX0_shareOut_125 : decode cX0_shareOut 125 = .ok (.getfield 26, 3) := by decide +kernel
theorem dX0_shareOut_128 : decode cX0_shareOut 128 = .ok (.iload 4, 2) := by decide +kernel
theorem dX0_shareOut_130 : decode cX0_shareOut 130 = .ok (.iadd, 1) := by decide +kernel
theorem dX0_shareOut_131 : decode cX0_shareOut 131 = .ok (.putfield 26, 3) := by decide +kernel
theorem dX0_shareOut_134 : decode cX0_shareOut 134 = .ok (.goto 25, 3) := by decide +kernel
theorem dX0_shareOut_137 : decode cX0_shareOut 137 = .ok (.iload 8, 2) := by decide +kernel
theorem dX0_shareOut_139 : decode cX0_shareOut 139 = .ok (.ifCond .ne 20, 3) := by decide +kernel
theorem dX0_shareOut_142 : decode cX0_shareOut 142 = .ok (.iload 9, 2) := by decide +kernel
theorem dX0_shareOut_144 : decode cX0_shareOut 144 = .ok (.ifCond .lt 15, 3) := by decide +kernel
theorem dX0_shareOut_147 : decode cX0_shareOut 147 = .ok (.aload_n 0, 1) := by decide +kernel
theorem dX0_shareOut_148 : decode cX0_shareOut 148 = .ok (.getfield 15, 3) := by decide +kernel
theorem dX0_shareOut_151 : decode cX0_shareOut 151 = .ok (.iload 9, 2) := by decide +kernel
theorem dX0_shareOut_153 : decode cX0_shareOut 153 = .ok (.dup2, 1) := by decide +kernel
theorem dX0_shareOut_154 : decode cX0_shareOut 154 = .ok (.iaload, 1) := by decide +kernel
theorem dX0_shareOut_155 : decode cX0_shareOut 155 = .ok (.iload 4, 2) := by decide +kernel
theorem dX0_shareOut_157 : decode cX0_shareOut 157 = .ok (.iadd, 1) := by decide +kernel
theorem dX0_shareOut_158 : decode cX0_shareOut 158 = .ok (.iastore, 1) := by decide +kernel
theorem dX0_shareOut_159 : decode cX0_shareOut 159 = .ok (.iinc 5 1, 3) := by decide +kernel
theorem dX0_shareOut_162 : decode cX0_shareOut 162 = .ok (.goto (-109), 3) := by decide +kernel
theorem dX0_shareOut_165 : decode cX0_shareOut 165 = .ok (.return_, 1) := by decide +kernel
theorem dX0_commonDivisor_0 : decode cX0_commonDivisor 0 = .ok (.iload_n 0, 1) := by decide +kernel
theorem dX0_commonDivisor_1 : decode cX0_commonDivisor 1 = .ok (.istore_n 2, 1) := by decide +kernel
theorem dX0_commonDivisor_2 : decode cX0_commonDivisor 2 = .ok (.iload_n 1, 1) := by decide +kernel
theorem dX0_commonDivisor_3 : decode cX0_commonDivisor 3 = .ok (.istore_n 3, 1) := by decide +kernel
theorem dX0_commonDivisor_4 : decode cX0_commonDivisor 4 = .ok (.iconst 0, 1) := by decide +kernel
theorem dX0_commonDivisor_5 : decode cX0_commonDivisor 5 = .ok (.istore 4, 2) := by decide +kernel
theorem dX0_commonDivisor_7 : decode cX0_commonDivisor 7 = .ok (.iload 4, 2) := by decide +kernel
theorem dX0_commonDivisor_9 : decode cX0_commonDivisor 9 = .ok (.bipush 64, 2) := by decide +kernel
theorem dX0_commonDivisor_11 : decode cX0_commonDivisor 11 = .ok (.if_icmp .ge 23, 3) := by decide +kernel
theorem dX0_commonDivisor_14 : decode cX0_commonDivisor 14 = .ok (.iload_n 3, 1) := by decide +kernel
theorem dX0_commonDivisor_15 : decode cX0_commonDivisor 15 = .ok (.ifCond .le 19, 3) := by decide +kernel
theorem dX0_commonDivisor_18 : decode cX0_commonDivisor 18 = .ok (.iload_n 2, 1) := by decide +kernel
theorem dX0_commonDivisor_19 : decode cX0_commonDivisor 19 = .ok (.iload_n 3, 1) := by decide +kernel
theorem dX0_commonDivisor_20 : decode cX0_commonDivisor 20 = .ok (.irem, 1) := by decide +kernel
theorem dX0_commonDivisor_21 : decode cX0_commonDivisor 21 = .ok (.istore 5, 2) := by decide +kernel
theorem dX0_commonDivisor_23 : decode cX0_commonDivisor 23 = .ok (.iload_n 3, 1) := by decide +kernel
theorem dX0_commonDivisor_24 : decode cX0_commonDivisor 24 = .ok (.istore_n 2, 1) := by decide +kernel
theorem dX0_commonDivisor_25 : decode cX0_commonDivisor 25 = .ok (.iload 5, 2) := by decide +kernel
theorem dX0_commonDivisor_27 : decode cX0_commonDivisor 27 = .ok (.istore_n 3, 1) := by decide +kernel
theorem dX0_commonDivisor_28 : decode cX0_commonDivisor 28 = .ok (.iinc 4 1, 3) := by decide +kernel
theorem dX0_commonDivisor_31 : decode cX0_commonDivisor 31 = .ok (.goto (-24), 3) := by decide +kernel
theorem dX0_commonDivisor_34 : decode cX0_commonDivisor 34 = .ok (.iload_n 2, 1) := by decide +kernel
theorem dX0_commonDivisor_35 : decode cX0_commonDivisor 35 = .ok (.ireturn, 1) := by decide +kernel
theorem dX1_init_0 : decode cX1_init 0 = .ok (.aload_n 0, 1) := by decide +kernel
theorem dX1_init_1 : decode cX1_init 1 = .ok (.invokespecial 3, 3) := by decide +kernel
theorem dX1_init_4 : decode cX1_init 4 = .ok (.aload_n 0, 1) := by decide +kernel
theorem dX1_init_5 : decode cX1_init 5 = .ok (.sipush 680, 3) := by decide +kernel
theorem dX1_init_8 : decode cX1_init 8 = .ok (.newarray .int, 2) := by decide +kernel
theorem dX1_init_10 : decode cX1_init 10 = .ok (.putfield 11, 3) := by decide +kernel
theorem dX1_init_13 : decode cX1_init 13 = .ok (.aload_n 0, 1) := by decide +kernel
theorem dX1_init_14 : decode cX1_init 14 = .ok (.sipush 680, 3) := by decide +kernel
theorem dX1_init_17 : decode cX1_init 17 = .ok (.newarray .int, 2) := by decide +kernel
theorem dX1_init_19 : decode cX1_init 19 = .ok (.putfield 15, 3) := by decide +kernel
theorem dX1_init_22 : decode cX1_init 22 = .ok (.aload_n 0, 1) := by decide +kernel
theorem dX1_init_23 : decode cX1_init 23 = .ok (.sipush 680, 3) := by decide +kernel
theorem dX1_init_26 : decode cX1_init 26 = .ok (.newarray .int, 2) := by decide +kernel
theorem dX1_init_28 : decode cX1_init 28 = .ok (.putfield 18, 3) := by decide +kernel
theorem dX1_init_31 : decode cX1_init 31 = .ok (.aload_n 0, 1) := by decide +kernel
theorem dX1_init_32 : decode cX1_init 32 = .ok (.sipush 680, 3) := by decide +kernel
theorem dX1_init_35 : decode cX1_init 35 = .ok (.newarray .int, 2) := by decide +kernel
theorem dX1_init_37 : decode cX1_init 37 = .ok (.putfield 21, 3) := by decide +kernel
theorem dX1_init_40 : decode cX1_init 40 = .ok (.return_, 1) := by decide +kernel
theorem dX1_solve_0 : decode cX1_solve 0 = .ok (.aload_n 0, 1) := by decide +kernel
theorem dX1_solve_1 : decode cX1_solve 1 = .ok (.aload_n 1, 1) := by decide +kernel
theorem dX1_solve_2 : decode cX1_solve 2 = .ok (.putfield 24, 3) := by decide +kernel
theorem dX1_solve_5 : decode cX1_solve 5 = .ok (.aload_n 0, 1) := by decide +kernel
theorem dX1_solve_6 : decode cX1_solve 6 = .ok (.iconst 0, 1) := by decide +kernel
theorem dX1_solve_7 : decode cX1_solve 7 = .ok (.putfield 28, 3) := by decide +kernel
theorem dX1_solve_10 : decode cX1_solve 10 = .ok (.aload_n 0, 1) := by decide +kernel
theorem dX1_solve_11 : decode cX1_solve 11 = .ok (.getfield 11, 3) := by decide +kernel
theorem dX1_solve_14 : decode cX1_solve 14 = .ok (.iconst 0, 1) := by decide +kernel
theorem dX1_solve_15 : decode cX1_solve 15 = .ok (.invokestatic 32, 3) := by decide +kernel
theorem dX1_solve_18 : decode cX1_solve 18 = .ok (.iconst 0, 1) := by decide +kernel
theorem dX1_solve_19 : decode cX1_solve 19 = .ok (.istore_n 2, 1) := by decide +kernel
theorem dX1_solve_20 : decode cX1_solve 20 = .ok (.iload_n 2, 1) := by decide +kernel
theorem dX1_solve_21 : decode cX1_solve 21 = .ok (.bipush 20, 2) := by decide +kernel
theorem dX1_solve_23 : decode cX1_solve 23 = .ok (.if_icmp .ge 55, 3) := by decide +kernel
theorem dX1_solve_26 : decode cX1_solve 26 = .ok (.aload_n 0, 1) := by decide +kernel
theorem dX1_solve_27 : decode cX1_solve 27 = .ok (.getfield 24, 3) := by decide +kernel
theorem dX1_solve_30 : decode cX1_solve 30 = .ok (.iload_n 2, 1) := by decide +kernel
theorem dX1_solve_31 : decode cX1_solve 31 = .ok (.invokevirtual 38, 3) := by decide +kernel
theorem dX1_solve_34 : decode cX1_solve 34 = .ok (.ifCond .eq 6, 3) := by decide +kernel
theorem dX1_solve_37 : decode cX1_solve 37 = .ok (.goto 35, 3) := by decide +kernel
theorem dX1_solve_40 : decode cX1_solve 40 = .ok (.bipush (-8), 2) := by decide +kernel
theorem dX1_solve_42 : decode cX1_solve 42 = .ok (.istore_n 3, 1) := by decide +kernel
theorem dX1_solve_43 : decode cX1_solve 43 = .ok (.iload_n 3, 1) := by decide +kernel
theorem dX1_solve_44 : decode cX1_solve 44 = .ok (.bipush 8, 2) := by decide +kernel
theorem dX1_solve_46 : decode cX1_solve 46 = .ok (.if_icmp .gt 26, 3) := by decide +kernel
theorem dX1_solve_49 : decode cX1_solve 49 = .ok (.aload_n 0, 1) := by decide +kernel
theorem dX1_solve_50 : decode cX1_solve 50 = .ok (.getfield 24, 3) := by decide +kernel
theorem dX1_solve_53 : decode cX1_solve 53 = .ok (.iload_n 3, 1) := by decide +kernel
theorem dX1_solve_54 : decode cX1_solve 54 = .ok (.invokevirtual 44, 3) := by decide +kernel
theorem dX1_solve_57 : decode cX1_solve 57 = .ok (.ifCond .ne 9, 3) := by decide +kernel
theorem dX1_solve_60 : decode cX1_solve 60 = .ok (.aload_n 0, 1) := by decide +kernel
theorem dX1_solve_61 : decode cX1_solve 61 = .ok (.iload_n 2, 1) := by decide +kernel
theorem dX1_solve_62 : decode cX1_solve 62 = .ok (.iload_n 3, 1) := by decide +kernel
theorem dX1_solve_63 : decode cX1_solve 63 = .ok (.invokevirtual 48, 3) := by decide +kernel
theorem dX1_solve_66 : decode cX1_solve 66 = .ok (.iinc 3 1, 3) := by decide +kernel
theorem dX1_solve_69 : decode cX1_solve 69 = .ok (.goto (-26), 3) := by decide +kernel
theorem dX1_solve_72 : decode cX1_solve 72 = .ok (.iinc 2 1, 3) := by decide +kernel
theorem dX1_solve_75 : decode cX1_solve 75 = .ok (.goto (-55), 3) := by decide +kernel
theorem dX1_solve_78 : decode cX1_solve 78 = .ok (.iconst 0, 1) := by decide +kernel
theorem dX1_solve_79 : decode cX1_solve 79 = .ok (.istore_n 2, 1) := by decide +kernel
theorem dX1_solve_80 : decode cX1_solve 80 = .ok (.iload_n 2, 1) := by decide +kernel
theorem dX1_solve_81 : decode cX1_solve 81 = .ok (.aload_n 0, 1) := by decide +kernel
theorem dX1_solve_82 : decode cX1_solve 82 = .ok (.getfield 28, 3) := by decide +kernel
theorem dX1_solve_85 : decode cX1_solve 85 = .ok (.if_icmp .ge 26, 3) := by decide +kernel
theorem dX1_solve_88 : decode cX1_solve 88 = .ok (.iload_n 2, 1) := by decide +kernel
theorem dX1_solve_89 : decode cX1_solve 89 = .ok (.sipush 680, 3) := by decide +kernel
theorem dX1_solve_92 : decode cX1_solve 92 = .ok (.if_icmp .ge 19, 3) := by decide +kernel
theorem dX1_solve_95 : decode cX1_solve 95 = .ok (.aload_n 0, 1) := by decide +kernel
theorem dX1_solve_96 : decode cX1_solve 96 = .ok (.aload_n 0, 1) := by decide +kernel
theorem dX1_solve_97 : decode cX1_solve 97 = .ok (.getfield 21, 3) := by decide +kernel
theorem dX1_solve_100 : decode cX1_solve 100 = .ok (.iload_n 2, 1) := by decide +kernel
theorem dX1_solve_101 : decode cX1_solve 101 = .ok (.iaload, 1) := by decide +kernel
theorem dX1_solve_102 : decode cX1_solve 102 = .ok (.invokevirtual 52, 3) := by decide +kernel
theorem dX1_solve_105 : decode cX1_solve 105 = .ok (.iinc 2 1, 3) := by decide +kernel
theorem dX1_solve_108 : decode cX1_solve 108 = .ok (.goto (-28), 3) := by decide +kernel
theorem dX1_solve_111 : decode cX1_solve 111 = .ok (.return_, 1) := by decide +kernel
theorem dX1_winner_0 : decode cX1_winner 0 = .ok (.iload_n 1, 1) := by decide +kernel
theorem dX1_winner_1 : decode cX1_winner 1 = .ok (.iload_n 2, 1) := by decide +kernel
theorem dX1_winner_2 : decode cX1_winner 2 = .ok (.iload_n 3, 1) := by decide +kernel
theorem dX1_winner_3 : decode cX1_winner 3 = .ok (.invokestatic 56, 3) := by decide +kernel
theorem dX1_winner_6 : decode cX1_winner 6 = .ok (.istore 4, 2) := by decide +kernel
theorem dX1_winner_8 : decode cX1_winner 8 = .ok (.iload 4, 2) := by decide +kernel
theorem dX1_winner_10 : decode cX1_winner 10 = .ok (.ifCond .ge 7, 3) := by decide +kernel
theorem dX1_winner_13 : decode cX1_winner 13 = .ok (.iconst 0, 1) := by decide +kernel
theorem dX1_winner_14 : decode cX1_winner 14 = .ok (.goto 10, 3) := by decide +kernel
theorem dX1_winner_17 : decode cX1_winner 17 = .ok (.aload_n 0, 1) := by decide +kernel
theorem dX1_winner_18 : decode cX1_winner 18 = .ok (.getfield 11, 3) := by decide +kernel
theorem dX1_winner_21 : decode cX1_winner 21 = .ok (.iload 4, 2) := by decide +kernel
theorem dX1_winner_23 : decode cX1_winner 23 = .ok (.iaload, 1) := by decide +kernel
theorem dX1_winner_24 : decode cX1_winner 24 = .ok (.ireturn, 1) := by decide +kernel
theorem dX1_length_0 : decode cX1_length 0 = .ok (.iload_n 1, 1) := by decide +kernel
theorem dX1_length_1 : decode cX1_length 1 = .ok (.iload_n 2, 1) := by decide +kernel
theorem dX1_length_2 : decode cX1_length 2 = .ok (.iload_n 3, 1) := by decide +kernel
theorem dX1_length_3 : decode cX1_length 3 = .ok (.invokestatic 56, 3) := by decide +kernel
theorem dX1_length_6 : decode cX1_length 6 = .ok (.istore 4, 2) := by decide +kernel
theorem dX1_length_8 : decode cX1_length 8 = .ok (.iload 4, 2) := by decide +kernel
theorem dX1_length_10 : decode cX1_length 10 = .ok (.ifCond .ge 7, 3) := by decide +kernel
theorem dX1_length_13 : decode cX1_length 13 = .ok (.iconst 0, 1) := by decide +kernel
theorem dX1_length_14 : decode cX1_length 14 = .ok (.goto 10, 3) := by decide +kernel
theorem dX1_length_17 : decode cX1_length 17 = .ok (.aload_n 0, 1) := by decide +kernel
theorem dX1_length_18 : decode cX1_length 18 = .ok (.getfield 15, 3) := by decide +kernel
theorem dX1_length_21 : decode cX1_length 21 = .ok (.iload 4, 2) := by decide +kernel
theorem dX1_length_23 : decode cX1_length 23 = .ok (.iaload, 1) := by decide +kernel
theorem dX1_length_24 : decode cX1_length 24 = .ok (.ireturn, 1) := by decide +kernel
theorem dX1_stateOf_0 : decode cX1_stateOf 0 = .ok (.iload_n 0, 1) := by decide +kernel
theorem dX1_stateOf_1 : decode cX1_stateOf 1 = .ok (.iload_n 1, 1) := by decide +kernel
theorem dX1_stateOf_2 : decode cX1_stateOf 2 = .ok (.invokestatic 60, 3) := by decide +kernel
theorem dX1_stateOf_5 : decode cX1_stateOf 5 = .ok (.istore_n 3, 1) := by decide +kernel
theorem dX1_stateOf_6 : decode cX1_stateOf 6 = .ok (.iload_n 3, 1) := by decide +kernel
theorem dX1_stateOf_7 : decode cX1_stateOf 7 = .ok (.ifCond .lt 12, 3) := by decide +kernel
theorem dX1_stateOf_10 : decode cX1_stateOf 10 = .ok (.iload_n 2, 1) := by decide +kernel
theorem dX1_stateOf_11 : decode cX1_stateOf 11 = .ok (.ifCond .lt 8, 3) := by decide +kernel
theorem dX1_stateOf_14 : decode cX1_stateOf 14 = .ok (.iload_n 2, 1) := by decide +kernel
theorem dX1_stateOf_15 : decode cX1_stateOf 15 = .ok (.iconst 1, 1) := by decide +kernel
theorem dX1_stateOf_16 : decode cX1_stateOf 16 = .ok (.if_icmp .le 7, 3) := by decide +kernel
theorem dX1_stateOf_19 : decode cX1_stateOf 19 = .ok (.iconst (-1), 1) := by decide +kernel
theorem dX1_stateOf_20 : decode cX1_stateOf 20 = .ok (.goto 8, 3) := by decide +kernel
theorem dX1_stateOf_23 : decode cX1_stateOf 23 = .ok (.iconst 2, 1) := by decide +kernel
theorem dX1_stateOf_24 : decode cX1_stateOf 24 = .ok (.iload_n 3, 1) := by decide +kernel
theorem dX1_stateOf_25 : decode cX1_stateOf 25 = .ok (.imul, 1) := by decide +kernel
theorem dX1_stateOf_26 : decode cX1_stateOf 26 = .ok (.iload_n 2, 1) := by decide +kernel
theorem dX1_stateOf_27 : decode cX1_stateOf 27 = .ok (.iadd, 1) := by decide +kernel
theorem dX1_stateOf_28 : decode cX1_stateOf 28 = .ok (.ireturn, 1) := by decide +kernel
theorem dX1_lookOnePushAhead_0 : decode cX1_lookOnePushAhead 0 = .ok (.iconst 0, 1) := by decide +kernel
theorem dX1_lookOnePushAhead_1 : decode cX1_lookOnePushAhead 1 = .ok (.istore_n 3, 1) := by decide +kernel
theorem dX1_lookOnePushAhead_2 : decode cX1_lookOnePushAhead 2 = .ok (.iconst 0, 1) := by decide +kernel
theorem dX1_lookOnePushAhead_3 : decode cX1_lookOnePushAhead 3 = .ok (.istore 4, 2) := by decide +kernel
theorem dX1_lookOnePushAhead_5 : decode cX1_lookOnePushAhead 5 = .ok (.iconst 0, 1) := by decide +kernel
theorem dX1_lookOnePushAhead_6 : decode cX1_lookOnePushAhead 6 = .ok (.istore 5, 2) := by decide +kernel
theorem dX1_lookOnePushAhead_8 : decode cX1_lookOnePushAhead 8 = .ok (.iconst 0, 1) := by decide +kernel
theorem dX1_lookOnePushAhead_9 : decode cX1_lookOnePushAhead 9 = .ok (.istore 6, 2) := by decide +kernel
theorem dX1_lookOnePushAhead_11 : decode cX1_lookOnePushAhead 11 = .ok (.iload 6, 2) := by decide +kernel
theorem dX1_lookOnePushAhead_13 : decode cX1_lookOnePushAhead 13 = .ok (.iconst 4, 1) := by decide +kernel
theorem dX1_lookOnePushAhead_14 : decode cX1_lookOnePushAhead 14 = .ok (.if_icmp .ge 66, 3) := by decide +kernel
theorem dX1_lookOnePushAhead_17 : decode cX1_lookOnePushAhead 17 = .ok (.aload_n 0, 1) := by decide +kernel
theorem dX1_lookOnePushAhead_18 : decode cX1_lookOnePushAhead 18 = .ok (.getfield 24, 3) := by decide +kernel
theorem dX1_lookOnePushAhead_21 : decode cX1_lookOnePushAhead 21 = .ok (.iload_n 1, 1) := by decide +kernel
theorem dX1_lookOnePushAhead_22 : decode cX1_lookOnePushAhead 22 = .ok (.iload 6, 2) := by decide +kernel
theorem dX1_lookOnePushAhead_24 : decode cX1_lookOnePushAhead 24 = .ok (.invokevirtual 64, 3) := by decide +kernel
theorem dX1_lookOnePushAhead_27 : decode cX1_lookOnePushAhead 27 = .ok (.istore 7, 2) := by decide +kernel
theorem dX1_lookOnePushAhead_29 : decode cX1_lookOnePushAhead 29 = .ok (.iload 7, 2) := by decide +kernel
theorem dX1_lookOnePushAhead_31 : decode cX1_lookOnePushAhead 31 = .ok (.ifCond .ge 6, 3) := by decide +kernel
theorem dX1_lookOnePushAhead_34 : decode cX1_lookOnePushAhead 34 = .ok (.goto 40, 3) := by decide +kernel
theorem dX1_lookOnePushAhead_37 : decode cX1_lookOnePushAhead 37 = .ok (.iinc 3 1, 3) := by decide +kernel
theorem dX1_lookOnePushAhead_40 : decode cX1_lookOnePushAhead 40 = .ok (.aload_n 0, 1) := by decide +kernel
theorem dX1_lookOnePushAhead_41 : decode cX1_lookOnePushAhead 41 = .ok (.getfield 24, 3) := by decide +kernel
theorem dX1_lookOnePushAhead_44 : decode cX1_lookOnePushAhead 44 = .ok (.aload_n 0, 1) := by decide +kernel
theorem dX1_lookOnePushAhead_45 : decode cX1_lookOnePushAhead 45 = .ok (.getfield 24, 3) := by decide +kernel
theorem dX1_lookOnePushAhead_48 : decode cX1_lookOnePushAhead 48 = .ok (.iload 7, 2) := by decide +kernel
theorem dX1_lookOnePushAhead_50 : decode cX1_lookOnePushAhead 50 = .ok (.iload_n 2, 1) := by decide +kernel
theorem dX1_lookOnePushAhead_51 : decode cX1_lookOnePushAhead 51 = .ok (.invokevirtual 67, 3) := by decide +kernel
theorem dX1_lookOnePushAhead_54 : decode cX1_lookOnePushAhead 54 = .ok (.invokevirtual 44, 3) := by decide +kernel
theorem dX1_lookOnePushAhead_57 : decode cX1_lookOnePushAhead 57 = .ok (.istore 8, 2) := by decide +kernel
theorem dX1_lookOnePushAhead_59 : decode cX1_lookOnePushAhead 59 = .ok (.iload 8, 2) := by decide +kernel
theorem dX1_lookOnePushAhead_61 : decode cX1_lookOnePushAhead 61 = .ok (.ifCond .ne 6, 3) := by decide +kernel
theorem dX1_lookOnePushAhead_64 : decode cX1_lookOnePushAhead 64 = .ok (.iinc 4 1, 3) := by decide +kernel
theorem dX1_lookOnePushAhead_67 : decode cX1_lookOnePushAhead 67 = .ok (.iload 5, 2) := by decide +kernel
theorem dX1_lookOnePushAhead_69 : decode cX1_lookOnePushAhead 69 = .ok (.iload 8, 2) := by decide +kernel
theorem dX1_lookOnePushAhead_71 : decode cX1_lookOnePushAhead 71 = .ok (.ior, 1) := by decide +kernel
theorem dX1_lookOnePushAhead_72 : decode cX1_lookOnePushAhead 72 = .ok (.istore 5, 2) := by decide +kernel
theorem dX1_lookOnePushAhead_74 : decode cX1_lookOnePushAhead 74 = .ok (.iinc 6 1, 3) := by decide +kernel
theorem dX1_lookOnePushAhead_77 : decode cX1_lookOnePushAhead 77 = .ok (.goto (-66), 3) := by decide +kernel
theorem dX1_lookOnePushAhead_80 : decode cX1_lookOnePushAhead 80 = .ok (.iconst 0, 1) := by decide +kernel
theorem dX1_lookOnePushAhead_81 : decode cX1_lookOnePushAhead 81 = .ok (.istore 6, 2) := by decide +kernel
theorem dX1_lookOnePushAhead_83 : decode cX1_lookOnePushAhead 83 = .ok (.iload 6, 2) := by decide +kernel
theorem dX1_lookOnePushAhead_85 : decode cX1_lookOnePushAhead 85 = .ok (.iconst 2, 1) := by decide +kernel
theorem dX1_lookOnePushAhead_86 : decode cX1_lookOnePushAhead 86 = .ok (.if_icmp .ge 88, 3) := by decide +kernel
theorem dX1_lookOnePushAhead_89 : decode cX1_lookOnePushAhead 89 = .ok (.iload_n 1, 1) := by decide +kernel
theorem dX1_lookOnePushAhead_90 : decode cX1_lookOnePushAhead 90 = .ok (.iload_n 2, 1) := by decide +kernel
theorem dX1_lookOnePushAhead_91 : decode cX1_lookOnePushAhead 91 = .ok (.iload 6, 2) := by decide +kernel
theorem dX1_lookOnePushAhead_93 : decode cX1_lookOnePushAhead 93 = .ok (.invokestatic 56, 3) := by decide +kernel
theorem dX1_lookOnePushAhead_96 : decode cX1_lookOnePushAhead 96 = .ok (.istore 7, 2) := by decide +kernel
theorem dX1_lookOnePushAhead_98 : decode cX1_lookOnePushAhead 98 = .ok (.iload 7, 2) := by decide +kernel
theorem dX1_lookOnePushAhead_100 : decode cX1_lookOnePushAhead 100 = .ok (.ifCond .ge 6, 3) := by decide +kernel
theorem dX1_lookOnePushAhead_103 : decode cX1_lookOnePushAhead 103 = .ok (.goto 65, 3) := by decide +kernel
theorem dX1_lookOnePushAhead_106 : decode cX1_lookOnePushAhead 106 = .ok (.aload_n 0, 1) := by decide +kernel
theorem dX1_lookOnePushAhead_107 : decode cX1_lookOnePushAhead 107 = .ok (.getfield 18, 3) := by decide +kernel
theorem dX1_lookOnePushAhead_110 : decode cX1_lookOnePushAhead 110 = .ok (.iload 7, 2) := by decide +kernel
theorem dX1_lookOnePushAhead_112 : decode cX1_lookOnePushAhead 112 = .ok (.iload 4, 2) := by decide +kernel
theorem dX1_lookOnePushAhead_114 : decode cX1_lookOnePushAhead 114 = .ok (.iastore, 1) := by decide +kernel
theorem dX1_lookOnePushAhead_115 : decode cX1_lookOnePushAhead 115 = .ok (.iload 5, 2) := by decide +kernel
theorem dX1_lookOnePushAhead_117 : decode cX1_lookOnePushAhead 117 = .ok (.iload 6, 2) := by decide +kernel
theorem dX1_lookOnePushAhead_119 : decode cX1_lookOnePushAhead 119 = .ok (.invokestatic 70, 3) := by decide +kernel
theorem dX1_lookOnePushAhead_122 : decode cX1_lookOnePushAhead 122 = .ok (.iand, 1) := by decide +kernel
theorem dX1_lookOnePushAhead_123 : decode cX1_lookOnePushAhead 123 = .ok (.ifCond .eq 18, 3) := by decide +kernel
theorem dX1_lookOnePushAhead_126 : decode cX1_lookOnePushAhead 126 = .ok (.aload_n 0, 1) := by decide +kernel
theorem dX1_lookOnePushAhead_127 : decode cX1_lookOnePushAhead 127 = .ok (.iload 7, 2) := by decide +kernel
theorem dX1_lookOnePushAhead_129 : decode cX1_lookOnePushAhead 129 = .ok (.iload 6, 2) := by decide +kernel
theorem dX1_lookOnePushAhead_131 : decode cX1_lookOnePushAhead 131 = .ok (.invokestatic 70, 3) := by decide +kernel
theorem dX1_lookOnePushAhead_134 : decode cX1_lookOnePushAhead 134 = .ok (.iconst 1, 1) := by decide +kernel
theorem dX1_lookOnePushAhead_135 : decode cX1_lookOnePushAhead 135 = .ok (.invokevirtual 73, 3) := by decide +kernel
theorem dX1_lookOnePushAhead_138 : decode cX1_lookOnePushAhead 138 = .ok (.goto 30, 3) := by decide +kernel
theorem dX1_lookOnePushAhead_141 : decode cX1_lookOnePushAhead 141 = .ok (.iload 4, 2) := by decide +kernel
theorem dX1_lookOnePushAhead_143 : decode cX1_lookOnePushAhead 143 = .ok (.ifCond .ne 25, 3) := by decide +kernel
theorem dX1_lookOnePushAhead_146 : decode cX1_lookOnePushAhead 146 = .ok (.aload_n 0, 1) := by decide +kernel
theorem dX1_lookOnePushAhead_147 : decode cX1_lookOnePushAhead 147 = .ok (.iload 7, 2) := by decide +kernel
theorem dX1_lookOnePushAhead_149 : decode cX1_lookOnePushAhead 149 = .ok (.iconst 1, 1) := by decide +kernel
theorem dX1_lookOnePushAhead_150 : decode cX1_lookOnePushAhead 150 = .ok (.iload 6, 2) := by decide +kernel
theorem dX1_lookOnePushAhead_152 : decode cX1_lookOnePushAhead 152 = .ok (.isub, 1) := by decide +kernel
theorem dX1_lookOnePushAhead_153 : decode cX1_lookOnePushAhead 153 = .ok (.invokestatic 70, 3) := by decide +kernel
theorem dX1_lookOnePushAhead_156 : decode cX1_lookOnePushAhead 156 = .ok (.iload_n 3, 1) := by decide +kernel
theorem dX1_lookOnePushAhead_157 : decode cX1_lookOnePushAhead 157 = .ok (.ifCond .ne 7, 3) := by decide +kernel
theorem dX1_lookOnePushAhead_160 : decode cX1_lookOnePushAhead 160 = .ok (.iconst 0, 1) := by decide +kernel
theorem dX1_lookOnePushAhead_161 : decode cX1_lookOnePushAhead 161 = .ok (.goto 4, 3) := by decide +kernel
theorem dX1_lookOnePushAhead_164 : decode cX1_lookOnePushAhead 164 = .ok (.iconst 1, 1) := by decide +kernel
theorem dX1_lookOnePushAhead_165 : decode cX1_lookOnePushAhead 165 = .ok (.invokevirtual 73, 3) := by decide +kernel
theorem dX1_lookOnePushAhead_168 : decode cX1_lookOnePushAhead 168 = .ok (.iinc 6 1, 3) := by decide +kernel
theorem dX1_lookOnePushAhead_171 : decode cX1_lookOnePushAhead 171 = .ok (.goto (-88), 3) := by decide +kernel
theorem dX1_lookOnePushAhead_174 : decode cX1_lookOnePushAhead 174 = .ok (.return_, 1) := by decide +kernel
theorem dX1_passBack_0 : decode cX1_passBack 0 = .ok (.iload_n 1, 1) := by decide +kernel
theorem dX1_passBack_1 : decode cX1_passBack 1 = .ok (.iconst 2, 1) := by decide +kernel
theorem dX1_passBack_2 : decode cX1_passBack 2 = .ok (.idiv, 1) := by decide +kernel
theorem dX1_passBack_3 : decode cX1_passBack 3 = .ok (.invokestatic 77, 3) := by decide +kernel
theorem dX1_passBack_6 : decode cX1_passBack 6 = .ok (.istore_n 2, 1) := by decide +kernel
theorem dX1_passBack_7 : decode cX1_passBack 7 = .ok (.iload_n 1, 1) := by decide +kernel
theorem dX1_passBack_8 : decode cX1_passBack 8 = .ok (.iconst 2, 1) := by decide +kernel
theorem dX1_passBack_9 : decode cX1_passBack 9 = .ok (.idiv, 1) := by decide +kernel
theorem dX1_passBack_10 : decode cX1_passBack 10 = .ok (.invokestatic 80, 3) := by decide +kernel
theorem dX1_passBack_13 : decode cX1_passBack 13 = .ok (.aload_n 0, 1) := by decide +kernel
theorem dX1_passBack_14 : decode cX1_passBack 14 = .ok (.getfield 24, 3) := by decide +kernel
theorem dX1_passBack_17 : decode cX1_passBack 17 = .ok (.iload_n 2, 1) := by decide +kernel
theorem dX1_passBack_18 : decode cX1_passBack 18 = .ok (.invokevirtual 83, 3) := by decide +kernel
theorem dX1_passBack_21 : decode cX1_passBack 21 = .ok (.isub, 1) := by decide +kernel
theorem dX1_passBack_22 : decode cX1_passBack 22 = .ok (.istore_n 3, 1) := by decide +kernel
theorem dX1_passBack_23 : decode cX1_passBack 23 = .ok (.aload_n 0, 1) := by decide +kernel
theorem dX1_passBack_24 : decode cX1_passBack 24 = .ok (.getfield 24, 3) := by decide +kernel
theorem dX1_passBack_27 : decode cX1_passBack 27 = .ok (.iload_n 3, 1) := by decide +kernel
theorem dX1_passBack_28 : decode cX1_passBack 28 = .ok (.invokevirtual 44, 3) := by decide +kernel
theorem dX1_passBack_31 : decode cX1_passBack 31 = .ok (.ifCond .eq 4, 3) := by decide +kernel
theorem dX1_passBack_34 : decode cX1_passBack 34 = .ok (.return_, 1) := by decide +kernel
theorem dX1_passBack_35 : decode cX1_passBack 35 = .ok (.iconst 0, 1) := by decide +kernel
theorem dX1_passBack_36 : decode cX1_passBack 36 = .ok (.istore 4, 2) := by decide +kernel
theorem dX1_passBack_38 : decode cX1_passBack 38 = .ok (.iload 4, 2) := by decide +kernel
theorem dX1_passBack_40 : decode cX1_passBack 40 = .ok (.iconst 4, 1) := by decide +kernel
theorem dX1_passBack_41 : decode cX1_passBack 41 = .ok (.if_icmp .ge 65, 3) := by decide +kernel
theorem dX1_passBack_44 : decode cX1_passBack 44 = .ok (.aload_n 0, 1) := by decide +kernel
theorem dX1_passBack_45 : decode cX1_passBack 45 = .ok (.getfield 24, 3) := by decide +kernel
theorem dX1_passBack_48 : decode cX1_passBack 48 = .ok (.iload_n 2, 1) := by decide +kernel
theorem dX1_passBack_49 : decode cX1_passBack 49 = .ok (.iload 4, 2) := by decide +kernel
theorem dX1_passBack_51 : decode cX1_passBack 51 = .ok (.invokevirtual 64, 3) := by decide +kernel
theorem dX1_passBack_54 : decode cX1_passBack 54 = .ok (.iload_n 3, 1) := by decide +kernel
theorem dX1_passBack_55 : decode cX1_passBack 55 = .ok (.iconst 1, 1) := by decide +kernel
theorem dX1_passBack_56 : decode cX1_passBack 56 = .ok (.iload_n 1, 1) := by decide +kernel
theorem dX1_passBack_57 : decode cX1_passBack 57 = .ok (.iconst 2, 1) := by decide +kernel
theorem dX1_passBack_58 : decode cX1_passBack 58 = .ok (.irem, 1) := by decide +kernel
theorem dX1_passBack_59 : decode cX1_passBack 59 = .ok (.isub, 1) := by decide +kernel
theorem dX1_passBack_60 : decode cX1_passBack 60 = .ok (.invokestatic 56, 3) := by decide +kernel
theorem dX1_passBack_63 : decode cX1_passBack 63 = .ok (.istore 5, 2) := by decide +kernel
theorem dX1_passBack_65 : decode cX1_passBack 65 = .ok (.iload 5, 2) := by decide +kernel
theorem dX1_passBack_67 : decode cX1_passBack 67 = .ok (.ifCond .lt 33, 3) := by decide +kernel
theorem dX1_passBack_70 : decode cX1_passBack 70 = .ok (.aload_n 0, 1) := by decide +kernel
theorem dX1_passBack_71 : decode cX1_passBack 71 = .ok (.getfield 11, 3) := by decide +kernel
theorem dX1_passBack_74 : decode cX1_passBack 74 = .ok (.iload 5, 2) := by decide +kernel
theorem dX1_passBack_76 : decode cX1_passBack 76 = .ok (.iaload, 1) := by decide +kernel
theorem dX1_passBack_77 : decode cX1_passBack 77 = .ok (.ifCond .ne 23, 3) := by decide +kernel
theorem dX1_passBack_80 : decode cX1_passBack 80 = .ok (.aload_n 0, 1) := by decide +kernel
theorem dX1_passBack_81 : decode cX1_passBack 81 = .ok (.iload 5, 2) := by decide +kernel
theorem dX1_passBack_83 : decode cX1_passBack 83 = .ok (.aload_n 0, 1) := by decide +kernel
theorem dX1_passBack_84 : decode cX1_passBack 84 = .ok (.getfield 11, 3) := by decide +kernel
theorem dX1_passBack_87 : decode cX1_passBack 87 = .ok (.iload_n 1, 1) := by decide +kernel
theorem dX1_passBack_88 : decode cX1_passBack 88 = .ok (.iaload, 1) := by decide +kernel
theorem dX1_passBack_89 : decode cX1_passBack 89 = .ok (.aload_n 0, 1) := by decide +kernel
theorem dX1_passBack_90 : decode cX1_passBack 90 = .ok (.getfield 15, 3) := by decide +kernel
theorem dX1_passBack_93 : decode cX1_passBack 93 = .ok (.iload_n 1, 1) := by decide +kernel
theorem dX1_passBack_94 : decode cX1_passBack 94 = .ok (.iaload, 1) := by decide +kernel
theorem dX1_passBack_95 : decode cX1_passBack 95 = .ok (.iconst 1, 1) := by decide +kernel
theorem dX1_passBack_96 : decode cX1_passBack 96 = .ok (.iadd, 1) := by decide +kernel
theorem dX1_passBack_97 : decode cX1_passBack 97 = .ok (.invokevirtual 86, 3) := by decide +kernel
theorem dX1_passBack_100 : decode cX1_passBack 100 = .ok (.iinc 4 1, 3) := by decide +kernel
theorem dX1_passBack_103 : decode cX1_passBack 103 = .ok (.goto (-65), 3) := by decide +kernel
theorem dX1_passBack_106 : decode cX1_passBack 106 = .ok (.return_, 1) := by decide +kernel
theorem dX1_settleFrom_0 : decode cX1_settleFrom 0 = .ok (.aload_n 0, 1) := by decide +kernel
theorem dX1_settleFrom_1 : decode cX1_settleFrom 1 = .ok (.getfield 18, 3) := by decide +kernel
theorem dX1_settleFrom_4 : decode cX1_settleFrom 4 = .ok (.iload_n 1, 1) := by decide +kernel
theorem dX1_settleFrom_5 : decode cX1_settleFrom 5 = .ok (.dup2, 1) := by decide +kernel
theorem dX1_settleFrom_6 : decode cX1_settleFrom 6 = .ok (.iaload, 1) := by decide +kernel
theorem dX1_settleFrom_7 : decode cX1_settleFrom 7 = .ok (.iconst 1, 1) := by decide +kernel
theorem dX1_settleFrom_8 : decode cX1_settleFrom 8 = .ok (.isub, 1) := by decide +kernel
theorem dX1_settleFrom_9 : decode cX1_settleFrom 9 = .ok (.iastore, 1) := by decide +kernel
theorem dX1_settleFrom_10 : decode cX1_settleFrom 10 = .ok (.iload_n 2, 1) := by decide +kernel
theorem dX1_settleFrom_11 : decode cX1_settleFrom 11 = .ok (.iload_n 1, 1) := by decide +kernel
theorem dX1_settleFrom_12 : decode cX1_settleFrom 12 = .ok (.iconst 2, 1) := by decide +kernel
theorem dX1_settleFrom_13 : decode cX1_settleFrom 13 = .ok (.irem, 1) := by decide +kernel
theorem dX1_settleFrom_14 : decode cX1_settleFrom 14 = .ok (.invokestatic 70, 3) := by decide +kernel
theorem dX1_settleFrom_17 : decode cX1_settleFrom 17 = .ok (.if_icmp .eq 12, 3) := by decide +kernel
theorem dX1_settleFrom_20 : decode cX1_settleFrom 20 = .ok (.aload_n 0, 1) := by decide +kernel
theorem dX1_settleFrom_21 : decode cX1_settleFrom 21 = .ok (.getfield 18, 3) := by decide +kernel
theorem dX1_settleFrom_24 : decode cX1_settleFrom 24 = .ok (.iload_n 1, 1) := by decide +kernel
theorem dX1_settleFrom_25 : decode cX1_settleFrom 25 = .ok (.iaload, 1) := by decide +kernel
theorem dX1_settleFrom_26 : decode cX1_settleFrom 26 = .ok (.ifCond .ne 10, 3) := by decide +kernel
theorem dX1_settleFrom_29 : decode cX1_settleFrom 29 = .ok (.aload_n 0, 1) := by decide +kernel
theorem dX1_settleFrom_30 : decode cX1_settleFrom 30 = .ok (.iload_n 1, 1) := by decide +kernel
theorem dX1_settleFrom_31 : decode cX1_settleFrom 31 = .ok (.iload_n 2, 1) := by decide +kernel
theorem dX1_settleFrom_32 : decode cX1_settleFrom 32 = .ok (.iload_n 3, 1) := by decide +kernel
theorem dX1_settleFrom_33 : decode cX1_settleFrom 33 = .ok (.invokevirtual 73, 3) := by decide +kernel
theorem dX1_settleFrom_36 : decode cX1_settleFrom 36 = .ok (.return_, 1) := by decide +kernel
theorem dX1_settle_0 : decode cX1_settle 0 = .ok (.aload_n 0, 1) := by decide +kernel
theorem dX1_settle_1 : decode cX1_settle 1 = .ok (.getfield 11, 3) := by decide +kernel
theorem dX1_settle_4 : decode cX1_settle 4 = .ok (.iload_n 1, 1) := by decide +kernel
theorem dX1_settle_5 : decode cX1_settle 5 = .ok (.iload_n 2, 1) := by decide +kernel
theorem dX1_settle_6 : decode cX1_settle 6 = .ok (.iastore, 1) := by decide +kernel
theorem dX1_settle_7 : decode cX1_settle 7 = .ok (.aload_n 0, 1) := by decide +kernel
theorem dX1_settle_8 : decode cX1_settle 8 = .ok (.getfield 15, 3) := by decide +kernel
theorem dX1_settle_11 : decode cX1_settle 11 = .ok (.iload_n 1, 1) := by decide +kernel
theorem dX1_settle_12 : decode cX1_settle 12 = .ok (.iload_n 3, 1) := by decide +kernel
theorem dX1_settle_13 : decode cX1_settle 13 = .ok (.iastore, 1) := by decide +kernel
theorem dX1_settle_14 : decode cX1_settle 14 = .ok (.aload_n 0, 1) := by decide +kernel
theorem dX1_settle_15 : decode cX1_settle 15 = .ok (.getfield 28, 3) := by decide +kernel
theorem dX1_settle_18 : decode cX1_settle 18 = .ok (.sipush 680, 3) := by decide +kernel
theorem dX1_settle_21 : decode cX1_settle 21 = .ok (.if_icmp .ge 23, 3) := by decide +kernel
theorem dX1_settle_24 : decode cX1_settle 24 = .ok (.aload_n 0, 1) := by decide +kernel
theorem dX1_settle_25 : decode cX1_settle 25 = .ok (.getfield 21, 3) := by decide +kernel
theorem dX1_settle_28 : decode cX1_settle 28 = .ok (.aload_n 0, 1) := by decide +kernel
theorem dX1_settle_29 : decode cX1_settle 29 = .ok (.getfield 28, 3) := by decide +kernel
theorem dX1_settle_32 : decode cX1_settle 32 = .ok (.iload_n 1, 1) := by decide +kernel
theorem dX1_settle_33 : decode cX1_settle 33 = .ok (.iastore, 1) := by decide +kernel
theorem dX1_settle_34 : decode cX1_settle 34 = .ok (.aload_n 0, 1) := by decide +kernel
theorem dX1_settle_35 : decode cX1_settle 35 = .ok (.dup, 1) := by decide +kernel
theorem dX1_settle_36 : decode cX1_settle 36 = .ok (.getfield 28, 3) := by decide +kernel
theorem dX1_settle_39 : decode cX1_settle 39 = .ok (.iconst 1, 1) := by decide +kernel
theorem dX1_settle_40 : decode cX1_settle 40 = .ok (.iadd, 1) := by decide +kernel
theorem dX1_settle_41 : decode cX1_settle 41 = .ok (.putfield 28, 3) := by decide +kernel
theorem dX1_settle_44 : decode cX1_settle 44 = .ok (.return_, 1) := by decide +kernel
theorem dX1_sideOf_0 : decode cX1_sideOf 0 = .ok (.iload_n 0, 1) := by decide +kernel
theorem dX1_sideOf_1 : decode cX1_sideOf 1 = .ok (.iconst 1, 1) := by decide +kernel
theorem dX1_sideOf_2 : decode cX1_sideOf 2 = .ok (.iadd, 1) := by decide +kernel
theorem dX1_sideOf_3 : decode cX1_sideOf 3 = .ok (.ireturn, 1) := by decide +kernel
theorem dX2_init_0 : decode cX2_init 0 = .ok (.aload_n 0, 1) := by decide +kernel
theorem dX2_init_1 : decode cX2_init 1 = .ok (.invokespecial 3, 3) := by decide +kernel
theorem dX2_init_4 : decode cX2_init 4 = .ok (.aload_n 0, 1) := by decide +kernel
theorem dX2_init_5 : decode cX2_init 5 = .ok (.bipush 80, 2) := by decide +kernel
theorem dX2_init_7 : decode cX2_init 7 = .ok (.newarray .int, 2) := by decide +kernel
theorem dX2_init_9 : decode cX2_init 9 = .ok (.putfield 9, 3) := by decide +kernel
theorem dX2_init_12 : decode cX2_init 12 = .ok (.aload_n 0, 1) := by decide +kernel
theorem dX2_init_13 : decode cX2_init 13 = .ok (.iconst 5, 1) := by decide +kernel
theorem dX2_init_14 : decode cX2_init 14 = .ok (.putfield 15, 3) := by decide +kernel
theorem dX2_init_17 : decode cX2_init 17 = .ok (.aload_n 0, 1) := by decide +kernel
theorem dX2_init_18 : decode cX2_init 18 = .ok (.aload_n 1, 1) := by decide +kernel
theorem dX2_init_19 : decode cX2_init 19 = .ok (.putfield 19, 3) := by decide +kernel
theorem dX2_init_22 : decode cX2_init 22 = .ok (.aload_n 0, 1) := by decide +kernel
theorem dX2_init_23 : decode cX2_init 23 = .ok (.getfield 9, 3) := by decide +kernel
theorem dX2_init_26 : decode cX2_init 26 = .ok (.iconst (-1), 1) := by decide +kernel
theorem dX2_init_27 : decode cX2_init 27 = .ok (.invokestatic 22, 3) := by decide +kernel
theorem dX2_init_30 : decode cX2_init 30 = .ok (.return_, 1) := by decide +kernel
theorem dX2_survey_0 : decode cX2_survey 0 = .ok (.iconst 0, 1) := by decide +kernel
theorem dX2_survey_1 : decode cX2_survey 1 = .ok (.istore_n 1, 1) := by decide +kernel
theorem dX2_survey_2 : decode cX2_survey 2 = .ok (.iload_n 1, 1) := by decide +kernel
theorem dX2_survey_3 : decode cX2_survey 3 = .ok (.bipush 20, 2) := by decide +kernel
theorem dX2_survey_5 : decode cX2_survey 5 = .ok (.if_icmp .ge 75, 3) := by decide +kernel
theorem dX2_survey_8 : decode cX2_survey 8 = .ok (.iconst 0, 1) := by decide +kernel
theorem dX2_survey_9 : decode cX2_survey 9 = .ok (.istore_n 2, 1) := by decide +kernel
theorem dX2_survey_10 : decode cX2_survey 10 = .ok (.iload_n 2, 1) := by decide +kernel
theorem dX2_survey_11 : decode cX2_survey 11 = .ok (.iconst 4, 1) := by decide +kernel
theorem dX2_survey_12 : decode cX2_survey 12 = .ok (.if_icmp .ge 62, 3) := by decide +kernel
theorem dX2_survey_15 : decode cX2_survey 15 = .ok (.iload_n 1, 1) := by decide +kernel
theorem dX2_survey_16 : decode cX2_survey 16 = .ok (.iconst 5, 1) := by decide +kernel
theorem dX2_survey_17 : decode cX2_survey 17 = .ok (.irem, 1) := by decide +kernel
theorem dX2_survey_18 : decode cX2_survey 18 = .ok (.getstatic 28, 3) := by decide +kernel
theorem dX2_survey_21 : decode cX2_survey 21 = .ok (.iload_n 2, 1) := by decide +kernel
theorem dX2_survey_22 : decode cX2_survey 22 = .ok (.iaload, 1) := by decide +kernel
theorem dX2_survey_23 : decode cX2_survey 23 = .ok (.iadd, 1) := by decide +kernel
theorem dX2_survey_24 : decode cX2_survey 24 = .ok (.iload_n 1, 1) := by decide +kernel
theorem dX2_survey_25 : decode cX2_survey 25 = .ok (.iconst 5, 1) := by decide +kernel
theorem dX2_survey_26 : decode cX2_survey 26 = .ok (.idiv, 1) := by decide +kernel
theorem dX2_survey_27 : decode cX2_survey 27 = .ok (.getstatic 31, 3) := by decide +kernel
theorem dX2_survey_30 : decode cX2_survey 30 = .ok (.iload_n 2, 1) := by decide +kernel
theorem dX2_survey_31 : decode cX2_survey 31 = .ok (.iaload, 1) := by decide +kernel
theorem dX2_survey_32 : decode cX2_survey 32 = .ok (.iadd, 1) := by decide +kernel
theorem dX2_survey_33 : decode cX2_survey 33 = .ok (.invokestatic 34, 3) := by decide +kernel
theorem dX2_survey_36 : decode cX2_survey 36 = .ok (.istore_n 3, 1) := by decide +kernel
theorem dX2_survey_37 : decode cX2_survey 37 = .ok (.aload_n 0, 1) := by decide +kernel
theorem dX2_survey_38 : decode cX2_survey 38 = .ok (.getfield 9, 3) := by decide +kernel
theorem dX2_survey_41 : decode cX2_survey 41 = .ok (.iconst 4, 1) := by decide +kernel
theorem dX2_survey_42 : decode cX2_survey 42 = .ok (.iload_n 1, 1) := by decide +kernel
theorem dX2_survey_43 : decode cX2_survey 43 = .ok (.imul, 1) := by decide +kernel
theorem dX2_survey_44 : decode cX2_survey 44 = .ok (.iload_n 2, 1) := by decide +kernel
theorem dX2_survey_45 : decode cX2_survey 45 = .ok (.iadd, 1) := by decide +kernel
theorem dX2_survey_46 : decode cX2_survey 46 = .ok (.aload_n 0, 1) := by decide +kernel
theorem dX2_survey_47 : decode cX2_survey 47 = .ok (.iload_n 1, 1) := by decide +kernel
theorem dX2_survey_48 : decode cX2_survey 48 = .ok (.invokevirtual 38, 3) := by decide +kernel
theorem dX2_survey_51 : decode cX2_survey 51 = .ok (.ifCond .ne 11, 3) := by decide +kernel
theorem dX2_survey_54 : decode cX2_survey 54 = .ok (.aload_n 0, 1) := by decide +kernel
theorem dX2_survey_55 : decode cX2_survey 55 = .ok (.iload_n 3, 1) := by decide +kernel
theorem dX2_survey_56 : decode cX2_survey 56 = .ok (.invokevirtual 38, 3) := by decide +kernel
theorem dX2_survey_59 : decode cX2_survey 59 = .ok (.ifCond .eq 7, 3) := by decide +kernel
theorem dX2_survey_62 : decode cX2_survey 62 = .ok (.iconst (-1), 1) := by decide +kernel
theorem dX2_survey_63 : decode cX2_survey 63 = .ok (.goto 4, 3) := by decide +kernel
theorem dX2_survey_66 : decode cX2_survey 66 = .ok (.iload_n 3, 1) := by decide +kernel
theorem dX2_survey_67 : decode cX2_survey 67 = .ok (.iastore, 1) := by decide +kernel
theorem dX2_survey_68 : decode cX2_survey 68 = .ok (.iinc 2 1, 3) := by decide +kernel
theorem dX2_survey_71 : decode cX2_survey 71 = .ok (.goto (-61), 3) := by decide +kernel
theorem dX2_survey_74 : decode cX2_survey 74 = .ok (.iinc 1 1, 3) := by decide +kernel
theorem dX2_survey_77 : decode cX2_survey 77 = .ok (.goto (-75), 3) := by decide +kernel
theorem dX2_survey_80 : decode cX2_survey 80 = .ok (.return_, 1) := by decide +kernel
theorem dX2_become_0 : decode cX2_become 0 = .ok (.aload_n 1, 1) := by decide +kernel
theorem dX2_become_1 : decode cX2_become 1 = .ok (.getfield 19, 3) := by decide +kernel
theorem dX2_become_4 : decode cX2_become 4 = .ok (.iconst 0, 1) := by decide +kernel
theorem dX2_become_5 : decode cX2_become 5 = .ok (.aload_n 0, 1) := by decide +kernel
theorem dX2_become_6 : decode cX2_become 6 = .ok (.getfield 19, 3) := by decide +kernel
theorem dX2_become_9 : decode cX2_become 9 = .ok (.iconst 0, 1) := by decide +kernel
theorem dX2_become_10 : decode cX2_become 10 = .ok (.bipush 20, 2) := by decide +kernel
theorem dX2_become_12 : decode cX2_become 12 = .ok (.invokestatic 42, 3) := by decide +kernel
theorem dX2_become_15 : decode cX2_become 15 = .ok (.aload_n 1, 1) := by decide +kernel
theorem dX2_become_16 : decode cX2_become 16 = .ok (.getfield 9, 3) := by decide +kernel
theorem dX2_become_19 : decode cX2_become 19 = .ok (.iconst 0, 1) := by decide +kernel
theorem dX2_become_20 : decode cX2_become 20 = .ok (.aload_n 0, 1) := by decide +kernel
theorem dX2_become_21 : decode cX2_become 21 = .ok (.getfield 9, 3) := by decide +kernel
theorem dX2_become_24 : decode cX2_become 24 = .ok (.iconst 0, 1) := by decide +kernel
theorem dX2_become_25 : decode cX2_become 25 = .ok (.bipush 80, 2) := by decide +kernel
theorem dX2_become_27 : decode cX2_become 27 = .ok (.invokestatic 42, 3) := by decide +kernel
theorem dX2_become_30 : decode cX2_become 30 = .ok (.aload_n 0, 1) := by decide +kernel
theorem dX2_become_31 : decode cX2_become 31 = .ok (.aload_n 1, 1) := by decide +kernel
theorem dX2_become_32 : decode cX2_become 32 = .ok (.getfield 15, 3) := by decide +kernel
theorem dX2_become_35 : decode cX2_become 35 = .ok (.putfield 15, 3) := by decide +kernel
theorem dX2_become_38 : decode cX2_become 38 = .ok (.aload_n 0, 1) := by decide +kernel
theorem dX2_become_39 : decode cX2_become 39 = .ok (.aload_n 1, 1) := by decide +kernel
theorem dX2_become_40 : decode cX2_become 40 = .ok (.getfield 48, 3) := by decide +kernel
theorem dX2_become_43 : decode cX2_become 43 = .ok (.putfield 48, 3) := by decide +kernel
theorem dX2_become_46 : decode cX2_become 46 = .ok (.return_, 1) := by decide +kernel
theorem dX2_isBrick_0 : decode cX2_isBrick 0 = .ok (.iload_n 1, 1) := by decide +kernel
theorem dX2_isBrick_1 : decode cX2_isBrick 1 = .ok (.ifCond .lt 20, 3) := by decide +kernel
theorem dX2_isBrick_4 : decode cX2_isBrick 4 = .ok (.iload_n 1, 1) := by decide +kernel
theorem dX2_isBrick_5 : decode cX2_isBrick 5 = .ok (.bipush 20, 2) := by decide +kernel
theorem dX2_isBrick_7 : decode cX2_isBrick 7 = .ok (.if_icmp .ge 14, 3) := by decide +kernel
theorem dX2_isBrick_10 : decode cX2_isBrick 10 = .ok (.aload_n 0, 1) := by decide +kernel
theorem dX2_isBrick_11 : decode cX2_isBrick 11 = .ok (.getfield 19, 3) := by decide +kernel
theorem dX2_isBrick_14 : decode cX2_isBrick 14 = .ok (.iload_n 1, 1) := by decide +kernel
theorem dX2_isBrick_15 : decode cX2_isBrick 15 = .ok (.iaload, 1) := by decide +kernel
theorem dX2_isBrick_16 : decode cX2_isBrick 16 = .ok (.bipush 100, 2) := by decide +kernel
theorem dX2_isBrick_18 : decode cX2_isBrick 18 = .ok (.if_icmp .ne 7, 3) := by decide +kernel
theorem dX2_isBrick_21 : decode cX2_isBrick 21 = .ok (.iconst 1, 1) := by decide +kernel
theorem dX2_isBrick_22 : decode cX2_isBrick 22 = .ok (.goto 4, 3) := by decide +kernel
theorem dX2_isBrick_25 : decode cX2_isBrick 25 = .ok (.iconst 0, 1) := by decide +kernel
theorem dX2_isBrick_26 : decode cX2_isBrick 26 = .ok (.ireturn, 1) := by decide +kernel
theorem dX2_beyond_0 : decode cX2_beyond 0 = .ok (.iload_n 1, 1) := by decide +kernel
theorem dX2_beyond_1 : decode cX2_beyond 1 = .ok (.ifCond .lt 18, 3) := by decide +kernel
theorem dX2_beyond_4 : decode cX2_beyond 4 = .ok (.iload_n 1, 1) := by decide +kernel
theorem dX2_beyond_5 : decode cX2_beyond 5 = .ok (.bipush 20, 2) := by decide +kernel
theorem dX2_beyond_7 : decode cX2_beyond 7 = .ok (.if_icmp .ge 12, 3) := by decide +kernel
theorem dX2_beyond_10 : decode cX2_beyond 10 = .ok (.iload_n 2, 1) := by decide +kernel
theorem dX2_beyond_11 : decode cX2_beyond 11 = .ok (.ifCond .lt 8, 3) := by decide +kernel
theorem dX2_beyond_14 : decode cX2_beyond 14 = .ok (.iload_n 2, 1) := by decide +kernel
theorem dX2_beyond_15 : decode cX2_beyond 15 = .ok (.iconst 4, 1) := by decide +kernel
theorem dX2_beyond_16 : decode cX2_beyond 16 = .ok (.if_icmp .lt 5, 3) := by decide +kernel
theorem dX2_beyond_19 : decode cX2_beyond 19 = .ok (.iconst (-1), 1) := by decide +kernel
theorem dX2_beyond_20 : decode cX2_beyond 20 = .ok (.ireturn, 1) := by decide +kernel
theorem dX2_beyond_21 : decode cX2_beyond 21 = .ok (.aload_n 0, 1) := by decide +kernel
theorem dX2_beyond_22 : decode cX2_beyond 22 = .ok (.getfield 9, 3) := by decide +kernel
theorem dX2_beyond_25 : decode cX2_beyond 25 = .ok (.iconst 4, 1) := by decide +kernel
theorem dX2_beyond_26 : decode cX2_beyond 26 = .ok (.iload_n 1, 1) := by decide +kernel
theorem dX2_beyond_27 : decode cX2_beyond 27 = .ok (.imul, 1) := by decide +kernel
theorem dX2_beyond_28 : decode cX2_beyond 28 = .ok (.iload_n 2, 1) := by decide +kernel
theorem dX2_beyond_29 : decode cX2_beyond 29 = .ok (.iadd, 1) := by decide +kernel
theorem dX2_beyond_30 : decode cX2_beyond 30 = .ok (.iaload, 1) := by decide +kernel
theorem dX2_beyond_31 : decode cX2_beyond 31 = .ok (.ireturn, 1) := by decide +kernel
theorem dX2_waysFrom_0 : decode cX2_waysFrom 0 = .ok (.iconst 0, 1) := by decide +kernel
theorem dX2_waysFrom_1 : decode cX2_waysFrom 1 = .ok (.istore_n 2, 1) := by decide +kernel
theorem dX2_waysFrom_2 : decode cX2_waysFrom 2 = .ok (.iconst 0, 1) := by decide +kernel
theorem dX2_waysFrom_3 : decode cX2_waysFrom 3 = .ok (.istore_n 3, 1) := by decide +kernel
theorem dX2_waysFrom_4 : decode cX2_waysFrom 4 = .ok (.iload_n 3, 1) := by decide +kernel
theorem dX2_waysFrom_5 : decode cX2_waysFrom 5 = .ok (.iconst 4, 1) := by decide +kernel
theorem dX2_waysFrom_6 : decode cX2_waysFrom 6 = .ok (.if_icmp .ge 21, 3) := by decide +kernel
theorem dX2_waysFrom_9 : decode cX2_waysFrom 9 = .ok (.aload_n 0, 1) := by decide +kernel
theorem dX2_waysFrom_10 : decode cX2_waysFrom 10 = .ok (.iload_n 1, 1) := by decide +kernel
theorem dX2_waysFrom_11 : decode cX2_waysFrom 11 = .ok (.iload_n 3, 1) := by decide +kernel
theorem dX2_waysFrom_12 : decode cX2_waysFrom 12 = .ok (.invokevirtual 51, 3) := by decide +kernel
theorem dX2_waysFrom_15 : decode cX2_waysFrom 15 = .ok (.ifCond .lt 6, 3) := by decide +kernel
theorem dX2_waysFrom_18 : decode cX2_waysFrom 18 = .ok (.iinc 2 1, 3) := by decide +kernel
theorem dX2_waysFrom_21 : decode cX2_waysFrom 21 = .ok (.iinc 3 1, 3) := by decide +kernel
theorem dX2_waysFrom_24 : decode cX2_waysFrom 24 = .ok (.goto (-20), 3) := by decide +kernel
theorem dX2_waysFrom_27 : decode cX2_waysFrom 27 = .ok (.iload_n 2, 1) := by decide +kernel
theorem dX2_waysFrom_28 : decode cX2_waysFrom 28 = .ok (.ireturn, 1) := by decide +kernel
theorem dX2_gain_0 : decode cX2_gain 0 = .ok (.aload_n 0, 1) := by decide +kernel
theorem dX2_gain_1 : decode cX2_gain 1 = .ok (.iload_n 1, 1) := by decide +kernel
theorem dX2_gain_2 : decode cX2_gain 2 = .ok (.invokevirtual 38, 3) := by decide +kernel
theorem dX2_gain_5 : decode cX2_gain 5 = .ok (.ifCond .eq 7, 3) := by decide +kernel
theorem dX2_gain_8 : decode cX2_gain 8 = .ok (.iconst 0, 1) := by decide +kernel
theorem dX2_gain_9 : decode cX2_gain 9 = .ok (.goto 14, 3) := by decide +kernel
theorem dX2_gain_12 : decode cX2_gain 12 = .ok (.aload_n 0, 1) := by decide +kernel
theorem dX2_gain_13 : decode cX2_gain 13 = .ok (.getfield 19, 3) := by decide +kernel
theorem dX2_gain_16 : decode cX2_gain 16 = .ok (.iload_n 1, 1) := by decide +kernel
theorem dX2_gain_17 : decode cX2_gain 17 = .ok (.iaload, 1) := by decide +kernel
theorem dX2_gain_18 : decode cX2_gain 18 = .ok (.aload_n 0, 1) := by decide +kernel
theorem dX2_gain_19 : decode cX2_gain 19 = .ok (.getfield 48, 3) := by decide +kernel
theorem dX2_gain_22 : decode cX2_gain 22 = .ok (.iadd, 1) := by decide +kernel
theorem dX2_gain_23 : decode cX2_gain 23 = .ok (.ireturn, 1) := by decide +kernel
theorem dX2_leanOn_0 : decode cX2_leanOn 0 = .ok (.iload_n 2, 1) := by decide +kernel
theorem dX2_leanOn_1 : decode cX2_leanOn 1 = .ok (.aload_n 0, 1) := by decide +kernel
theorem dX2_leanOn_2 : decode cX2_leanOn 2 = .ok (.iload_n 1, 1) := by decide +kernel
theorem dX2_leanOn_3 : decode cX2_leanOn 3 = .ok (.invokevirtual 54, 3) := by decide +kernel
theorem dX2_leanOn_6 : decode cX2_leanOn 6 = .ok (.iadd, 1) := by decide +kernel
theorem dX2_leanOn_7 : decode cX2_leanOn 7 = .ok (.ireturn, 1) := by decide +kernel
theorem dX2_verdict_0 : decode cX2_verdict 0 = .ok (.iload_n 1, 1) := by decide +kernel
theorem dX2_verdict_1 : decode cX2_verdict 1 = .ok (.aload_n 0, 1) := by decide +kernel
theorem dX2_verdict_2 : decode cX2_verdict 2 = .ok (.getfield 15, 3) := by decide +kernel
theorem dX2_verdict_5 : decode cX2_verdict 5 = .ok (.ineg, 1) := by decide +kernel
theorem dX2_verdict_6 : decode cX2_verdict 6 = .ok (.if_icmp .gt 5, 3) := by decide +kernel
theorem dX2_verdict_9 : decode cX2_verdict 9 = .ok (.iconst 1, 1) := by decide +kernel
theorem dX2_verdict_10 : decode cX2_verdict 10 = .ok (.ireturn, 1) := by decide +kernel
theorem dX2_verdict_11 : decode cX2_verdict 11 = .ok (.iload_n 1, 1) := by decide +kernel
theorem dX2_verdict_12 : decode cX2_verdict 12 = .ok (.aload_n 0, 1) := by decide +kernel
theorem dX2_verdict_13 : decode cX2_verdict 13 = .ok (.getfield 15, 3) := by decide +kernel
theorem dX2_verdict_16 : decode cX2_verdict 16 = .ok (.if_icmp .lt 7, 3) := by decide +kernel
theorem dX2_verdict_19 : decode cX2_verdict 19 = .ok (.iconst 2, 1) := by decide +kernel
theorem dX2_verdict_20 : decode cX2_verdict 20 = .ok (.goto 4, 3) := by decide +kernel
theorem dX2_verdict_23 : decode cX2_verdict 23 = .ok (.iconst 0, 1) := by decide +kernel
theorem dX2_verdict_24 : decode cX2_verdict 24 = .ok (.ireturn, 1) := by decide +kernel
theorem dX3_init_0 : decode cX3_init 0 = .ok (.aload_n 0, 1) := by decide +kernel
theorem dX3_init_1 : decode cX3_init 1 = .ok (.invokespecial 1, 3) := by decide +kernel
theorem dX3_init_4 : decode cX3_init 4 = .ok (.aload_n 0, 1) := by decide +kernel
theorem dX3_init_5 : decode cX3_init 5 = .ok (.bipush 10, 2) := by decide +kernel
theorem dX3_init_7 : decode cX3_init 7 = .ok (.anewarray 9, 3) := by decide +kernel
theorem dX3_init_10 : decode cX3_init 10 = .ok (.putfield 11, 3) := by decide +kernel
theorem dX3_init_13 : decode cX3_init 13 = .ok (.iconst 0, 1) := by decide +kernel
theorem dX3_init_14 : decode cX3_init 14 = .ok (.istore_n 1, 1) := by decide +kernel
theorem dX3_init_15 : decode cX3_init 15 = .ok (.iload_n 1, 1) := by decide +kernel
theorem dX3_init_16 : decode cX3_init 16 = .ok (.bipush 10, 2) := by decide +kernel
theorem dX3_init_18 : decode cX3_init 18 = .ok (.if_icmp .ge 22, 3) := by decide +kernel
theorem dX3_init_21 : decode cX3_init 21 = .ok (.aload_n 0, 1) := by decide +kernel
theorem dX3_init_22 : decode cX3_init 22 = .ok (.getfield 11, 3) := by decide +kernel
theorem dX3_init_25 : decode cX3_init 25 = .ok (.iload_n 1, 1) := by decide +kernel
theorem dX3_init_26 : decode cX3_init 26 = .ok (.new 9, 3) := by decide +kernel
theorem dX3_init_29 : decode cX3_init 29 = .ok (.dup, 1) := by decide +kernel
theorem dX3_init_30 : decode cX3_init 30 = .ok (.invokespecial 15, 3) := by decide +kernel
theorem dX3_init_33 : decode cX3_init 33 = .ok (.aastore, 1) := by decide +kernel
theorem dX3_init_34 : decode cX3_init 34 = .ok (.iinc 1 1, 3) := by decide +kernel
theorem dX3_init_37 : decode cX3_init 37 = .ok (.goto (-22), 3) := by decide +kernel
theorem dX3_init_40 : decode cX3_init 40 = .ok (.return_, 1) := by decide +kernel
theorem dX3_save_0 : decode cX3_save 0 = .ok (.aload_n 0, 1) := by decide +kernel
theorem dX3_save_1 : decode cX3_save 1 = .ok (.aload_n 0, 1) := by decide +kernel
theorem dX3_save_2 : decode cX3_save 2 = .ok (.getfield 16, 3) := by decide +kernel
theorem dX3_save_5 : decode cX3_save 5 = .ok (.iconst 1, 1) := by decide +kernel
theorem dX3_save_6 : decode cX3_save 6 = .ok (.iadd, 1) := by decide +kernel
theorem dX3_save_7 : decode cX3_save 7 = .ok (.bipush 10, 2) := by decide +kernel
theorem dX3_save_9 : decode cX3_save 9 = .ok (.irem, 1) := by decide +kernel
theorem dX3_save_10 : decode cX3_save 10 = .ok (.putfield 16, 3) := by decide +kernel
theorem dX3_save_13 : decode cX3_save 13 = .ok (.aload_n 0, 1) := by decide +kernel
theorem dX3_save_14 : decode cX3_save 14 = .ok (.getfield 11, 3) := by decide +kernel
theorem dX3_save_17 : decode cX3_save 17 = .ok (.aload_n 0, 1) := by decide +kernel
theorem dX3_save_18 : decode cX3_save 18 = .ok (.getfield 16, 3) := by decide +kernel
theorem dX3_save_21 : decode cX3_save 21 = .ok (.aaload, 1) := by decide +kernel
theorem dX3_save_22 : decode cX3_save 22 = .ok (.aload_n 1, 1) := by decide +kernel
theorem dX3_save_23 : decode cX3_save 23 = .ok (.invokevirtual 20, 3) := by decide +kernel
theorem dX3_save_26 : decode cX3_save 26 = .ok (.aload_n 0, 1) := by decide +kernel
theorem dX3_save_27 : decode cX3_save 27 = .ok (.bipush 10, 2) := by decide +kernel
theorem dX3_save_29 : decode cX3_save 29 = .ok (.aload_n 0, 1) := by decide +kernel
theorem dX3_save_30 : decode cX3_save 30 = .ok (.getfield 24, 3) := by decide +kernel
theorem dX3_save_33 : decode cX3_save 33 = .ok (.iconst 1, 1) := by decide +kernel
theorem dX3_save_34 : decode cX3_save 34 = .ok (.iadd, 1) := by decide +kernel
theorem dX3_save_35 : decode cX3_save 35 = .ok (.invokestatic 27, 3) := by decide +kernel
theorem dX3_save_38 : decode cX3_save 38 = .ok (.putfield 24, 3) := by decide +kernel
theorem dX3_save_41 : decode cX3_save 41 = .ok (.return_, 1) := by decide +kernel
theorem dX3_restore_0 : decode cX3_restore 0 = .ok (.aload_n 0, 1) := by decide +kernel
theorem dX3_restore_1 : decode cX3_restore 1 = .ok (.getfield 24, 3) := by decide +kernel
theorem dX3_restore_4 : decode cX3_restore 4 = .ok (.ifCond .gt 5, 3) := by decide +kernel
theorem dX3_restore_7 : decode cX3_restore 7 = .ok (.iconst 0, 1) := by decide +kernel
theorem dX3_restore_8 : decode cX3_restore 8 = .ok (.ireturn, 1) := by decide +kernel
theorem dX3_restore_9 : decode cX3_restore 9 = .ok (.aload_n 1, 1) := by decide +kernel
theorem dX3_restore_10 : decode cX3_restore 10 = .ok (.aload_n 0, 1) := by decide +kernel
theorem dX3_restore_11 : decode cX3_restore 11 = .ok (.getfield 11, 3) := by decide +kernel
theorem dX3_restore_14 : decode cX3_restore 14 = .ok (.aload_n 0, 1) := by decide +kernel
theorem dX3_restore_15 : decode cX3_restore 15 = .ok (.getfield 16, 3) := by decide +kernel
theorem dX3_restore_18 : decode cX3_restore 18 = .ok (.aaload, 1) := by decide +kernel
theorem dX3_restore_19 : decode cX3_restore 19 = .ok (.invokevirtual 20, 3) := by decide +kernel
theorem dX3_restore_22 : decode cX3_restore 22 = .ok (.aload_n 0, 1) := by decide +kernel
theorem dX3_restore_23 : decode cX3_restore 23 = .ok (.aload_n 0, 1) := by decide +kernel
theorem dX3_restore_24 : decode cX3_restore 24 = .ok (.getfield 16, 3) := by decide +kernel
theorem dX3_restore_27 : decode cX3_restore 27 = .ok (.bipush 10, 2) := by decide +kernel
theorem dX3_restore_29 : decode cX3_restore 29 = .ok (.iadd, 1) := by decide +kernel
theorem dX3_restore_30 : decode cX3_restore 30 = .ok (.iconst 1, 1) := by decide +kernel
theorem dX3_restore_31 : decode cX3_restore 31 = .ok (.isub, 1) := by decide +kernel
theorem dX3_restore_32 : decode cX3_restore 32 = .ok (.bipush 10, 2) := by decide +kernel
theorem dX3_restore_34 : decode cX3_restore 34 = .ok (.irem, 1) := by decide +kernel
theorem dX3_restore_35 : decode cX3_restore 35 = .ok (.putfield 16, 3) := by decide +kernel
theorem dX3_restore_38 : decode cX3_restore 38 = .ok (.aload_n 0, 1) := by decide +kernel
theorem dX3_restore_39 : decode cX3_restore 39 = .ok (.dup, 1) := by decide +kernel
theorem dX3_restore_40 : decode cX3_restore 40 = .ok (.getfield 24, 3) := by decide +kernel
theorem dX3_restore_43 : decode cX3_restore 43 = .ok (.iconst 1, 1) := by decide +kernel
theorem dX3_restore_44 : decode cX3_restore 44 = .ok (.isub, 1) := by decide +kernel
theorem dX3_restore_45 : decode cX3_restore 45 = .ok (.putfield 24, 3) := by decide +kernel
theorem dX3_restore_48 : decode cX3_restore 48 = .ok (.iconst 1, 1) := by decide +kernel
theorem dX3_restore_49 : decode cX3_restore 49 = .ok (.ireturn, 1) := by decide +kernel
theorem dX4_init_0 : decode cX4_init 0 = .ok (.aload_n 0, 1) := by decide +kernel
theorem dX4_init_1 : decode cX4_init 1 = .ok (.invokespecial 3, 3) := by decide +kernel
theorem dX4_init_4 : decode cX4_init 4 = .ok (.aload_n 0, 1) := by decide +kernel
theorem dX4_init_5 : decode cX4_init 5 = .ok (.bipush 20, 2) := by decide +kernel
theorem dX4_init_7 : decode cX4_init 7 = .ok (.newarray .int, 2) := by decide +kernel
theorem dX4_init_9 : decode cX4_init 9 = .ok (.putfield 9, 3) := by decide +kernel
theorem dX4_init_12 : decode cX4_init 12 = .ok (.aload_n 0, 1) := by decide +kernel
theorem dX4_init_13 : decode cX4_init 13 = .ok (.iconst 2, 1) := by decide +kernel
theorem dX4_init_14 : decode cX4_init 14 = .ok (.newarray .int, 2) := by decide +kernel
theorem dX4_init_16 : decode cX4_init 16 = .ok (.putfield 15, 3) := by decide +kernel
theorem dX4_init_19 : decode cX4_init 19 = .ok (.aload_n 0, 1) := by decide +kernel
theorem dX4_init_20 : decode cX4_init 20 = .ok (.iconst 2, 1) := by decide +kernel
theorem dX4_init_21 : decode cX4_init 21 = .ok (.newarray .int, 2) := by decide +kernel
theorem dX4_init_23 : decode cX4_init 23 = .ok (.putfield 18, 3) := by decide +kernel
theorem dX4_init_26 : decode cX4_init 26 = .ok (.aload_n 0, 1) := by decide +kernel
theorem dX4_init_27 : decode cX4_init 27 = .ok (.bipush (-9), 2) := by decide +kernel
theorem dX4_init_29 : decode cX4_init 29 = .ok (.putfield 21, 3) := by decide +kernel
theorem dX4_init_32 : decode cX4_init 32 = .ok (.aload_n 0, 1) := by decide +kernel
theorem dX4_init_33 : decode cX4_init 33 = .ok (.getfield 9, 3) := by decide +kernel
theorem dX4_init_36 : decode cX4_init 36 = .ok (.bipush 100, 2) := by decide +kernel
theorem dX4_init_38 : decode cX4_init 38 = .ok (.invokestatic 25, 3) := by decide +kernel
theorem dX4_init_41 : decode cX4_init 41 = .ok (.return_, 1) := by decide +kernel
theorem dX4_begin_0 : decode cX4_begin 0 = .ok (.aload_n 1, 1) := by decide +kernel
theorem dX4_begin_1 : decode cX4_begin 1 = .ok (.getfield 31, 3) := by decide +kernel
theorem dX4_begin_4 : decode cX4_begin 4 = .ok (.iconst 0, 1) := by decide +kernel
theorem dX4_begin_5 : decode cX4_begin 5 = .ok (.aload_n 0, 1) := by decide +kernel
theorem dX4_begin_6 : decode cX4_begin 6 = .ok (.getfield 9, 3) := by decide +kernel
theorem dX4_begin_9 : decode cX4_begin 9 = .ok (.iconst 0, 1) := by decide +kernel
theorem dX4_begin_10 : decode cX4_begin 10 = .ok (.bipush 20, 2) := by decide +kernel
theorem dX4_begin_12 : decode cX4_begin 12 = .ok (.invokestatic 34, 3) := by decide +kernel
theorem dX4_begin_15 : decode cX4_begin 15 = .ok (.aload_n 0, 1) := by decide +kernel
theorem dX4_begin_16 : decode cX4_begin 16 = .ok (.getfield 15, 3) := by decide +kernel
theorem dX4_begin_19 : decode cX4_begin 19 = .ok (.iconst 0, 1) := by decide +kernel
theorem dX4_begin_20 : decode cX4_begin 20 = .ok (.invokestatic 25, 3) := by decide +kernel
theorem dX4_begin_23 : decode cX4_begin 23 = .ok (.aload_n 0, 1) := by decide +kernel
theorem dX4_begin_24 : decode cX4_begin 24 = .ok (.getfield 18, 3) := by decide +kernel
theorem dX4_begin_27 : decode cX4_begin 27 = .ok (.iconst 0, 1) := by decide +kernel
theorem dX4_begin_28 : decode cX4_begin 28 = .ok (.invokestatic 25, 3) := by decide +kernel
theorem dX4_begin_31 : decode cX4_begin 31 = .ok (.aload_n 0, 1) := by decide +kernel
theorem dX4_begin_32 : decode cX4_begin 32 = .ok (.aload_n 1, 1) := by decide +kernel
theorem dX4_begin_33 : decode cX4_begin 33 = .ok (.getfield 40, 3) := by decide +kernel
theorem dX4_begin_36 : decode cX4_begin 36 = .ok (.putfield 21, 3) := by decide +kernel
theorem dX4_begin_39 : decode cX4_begin 39 = .ok (.aload_n 0, 1) := by decide +kernel
theorem dX4_begin_40 : decode cX4_begin 40 = .ok (.iconst 0, 1) := by decide +kernel
theorem dX4_begin_41 : decode cX4_begin 41 = .ok (.putfield 43, 3) := by decide +kernel
theorem dX4_begin_44 : decode cX4_begin 44 = .ok (.aload_n 0, 1) := by decide +kernel
theorem dX4_begin_45 : decode cX4_begin 45 = .ok (.iconst 0, 1) := by decide +kernel
theorem dX4_begin_46 : decode cX4_begin 46 = .ok (.putfield 46, 3) := by decide +kernel
theorem dX4_begin_49 : decode cX4_begin 49 = .ok (.return_, 1) := by decide +kernel
theorem dX4_become_0 : decode cX4_become 0 = .ok (.aload_n 1, 1) := by decide +kernel
theorem dX4_become_1 : decode cX4_become 1 = .ok (.getfield 9, 3) := by decide +kernel
theorem dX4_become_4 : decode cX4_become 4 = .ok (.iconst 0, 1) := by decide +kernel
theorem dX4_become_5 : decode cX4_become 5 = .ok (.aload_n 0, 1) := by decide +kernel
theorem dX4_become_6 : decode cX4_become 6 = .ok (.getfield 9, 3) := by decide +kernel
theorem dX4_become_9 : decode cX4_become 9 = .ok (.iconst 0, 1) := by decide +kernel
theorem dX4_become_10 : decode cX4_become 10 = .ok (.bipush 20, 2) := by decide +kernel
theorem dX4_become_12 : decode cX4_become 12 = .ok (.invokestatic 34, 3) := by decide +kernel
theorem dX4_become_15 : decode cX4_become 15 = .ok (.aload_n 1, 1) := by decide +kernel
theorem dX4_become_16 : decode cX4_become 16 = .ok (.getfield 15, 3) := by decide +kernel
theorem dX4_become_19 : decode cX4_become 19 = .ok (.iconst 0, 1) := by decide +kernel
theorem dX4_become_20 : decode cX4_become 20 = .ok (.aload_n 0, 1) := by decide +kernel
theorem dX4_become_21 : decode cX4_become 21 = .ok (.getfield 15, 3) := by decide +kernel
theorem dX4_become_24 : decode cX4_become 24 = .ok (.iconst 0, 1) := by decide +kernel
theorem dX4_become_25 : decode cX4_become 25 = .ok (.iconst 2, 1) := by decide +kernel
theorem dX4_become_26 : decode cX4_become 26 = .ok (.invokestatic 34, 3) := by decide +kernel
theorem dX4_become_29 : decode cX4_become 29 = .ok (.aload_n 1, 1) := by decide +kernel
theorem dX4_become_30 : decode cX4_become 30 = .ok (.getfield 18, 3) := by decide +kernel
theorem dX4_become_33 : decode cX4_become 33 = .ok (.iconst 0, 1) := by decide +kernel
theorem dX4_become_34 : decode cX4_become 34 = .ok (.aload_n 0, 1) := by decide +kernel
theorem dX4_become_35 : decode cX4_become 35 = .ok (.getfield 18, 3) := by decide +kernel
theorem dX4_become_38 : decode cX4_become 38 = .ok (.iconst 0, 1) := by decide +kernel
theorem dX4_become_39 : decode cX4_become 39 = .ok (.iconst 2, 1) := by decide +kernel
theorem dX4_become_40 : decode cX4_become 40 = .ok (.invokestatic 34, 3) := by decide +kernel
theorem dX4_become_43 : decode cX4_become 43 = .ok (.aload_n 0, 1) := by decide +kernel
theorem dX4_become_44 : decode cX4_become 44 = .ok (.aload_n 1, 1) := by decide +kernel
theorem dX4_become_45 : decode cX4_become 45 = .ok (.getfield 21, 3) := by decide +kernel
theorem dX4_become_48 : decode cX4_become 48 = .ok (.putfield 21, 3) := by decide +kernel
theorem dX4_become_51 : decode cX4_become 51 = .ok (.aload_n 0, 1) := by decide +kernel
theorem dX4_become_52 : decode cX4_become 52 = .ok (.aload_n 1, 1) := by decide +kernel
theorem dX4_become_53 : decode cX4_become 53 = .ok (.getfield 43, 3) := by decide +kernel
theorem dX4_become_56 : decode cX4_become 56 = .ok (.putfield 43, 3) := by decide +kernel
theorem dX4_become_59 : decode cX4_become 59 = .ok (.aload_n 0, 1) := by decide +kernel
theorem dX4_become_60 : decode cX4_become 60 = .ok (.aload_n 1, 1) := by decide +kernel
theorem dX4_become_61 : decode cX4_become 61 = .ok (.getfield 46, 3) := by decide +kernel
theorem dX4_become_64 : decode cX4_become 64 = .ok (.putfield 46, 3) := by decide +kernel
theorem dX4_become_67 : decode cX4_become 67 = .ok (.return_, 1) := by decide +kernel
theorem dX4_tip_0 : decode cX4_tip 0 = .ok (.aload_n 0, 1) := by decide +kernel
theorem dX4_tip_1 : decode cX4_tip 1 = .ok (.getfield 9, 3) := by decide +kernel
theorem dX4_tip_4 : decode cX4_tip 4 = .ok (.iload_n 1, 1) := by decide +kernel
theorem dX4_tip_5 : decode cX4_tip 5 = .ok (.iaload, 1) := by decide +kernel
theorem dX4_tip_6 : decode cX4_tip 6 = .ok (.iload_n 2, 1) := by decide +kernel
theorem dX4_tip_7 : decode cX4_tip 7 = .ok (.iconst 1, 1) := by decide +kernel
theorem dX4_tip_8 : decode cX4_tip 8 = .ok (.if_icmp .ne 7, 3) := by decide +kernel
theorem dX4_tip_11 : decode cX4_tip 11 = .ok (.iconst (-1), 1) := by decide +kernel
theorem dX4_tip_12 : decode cX4_tip 12 = .ok (.goto 4, 3) := by decide +kernel
theorem dX4_tip_15 : decode cX4_tip 15 = .ok (.iconst 1, 1) := by decide +kernel
theorem dX4_tip_16 : decode cX4_tip 16 = .ok (.iadd, 1) := by decide +kernel
theorem dX4_tip_17 : decode cX4_tip 17 = .ok (.istore 4, 2) := by decide +kernel
theorem dX4_tip_19 : decode cX4_tip 19 = .ok (.aload_n 0, 1) := by decide +kernel
theorem dX4_tip_20 : decode cX4_tip 20 = .ok (.getfield 9, 3) := by decide +kernel
theorem dX4_tip_23 : decode cX4_tip 23 = .ok (.iload_n 1, 1) := by decide +kernel
theorem dX4_tip_24 : decode cX4_tip 24 = .ok (.bipush (-4), 2) := by decide +kernel
theorem dX4_tip_26 : decode cX4_tip 26 = .ok (.iconst 4, 1) := by decide +kernel
theorem dX4_tip_27 : decode cX4_tip 27 = .ok (.iload 4, 2) := by decide +kernel
theorem dX4_tip_29 : decode cX4_tip 29 = .ok (.invokestatic 49, 3) := by decide +kernel
theorem dX4_tip_32 : decode cX4_tip 32 = .ok (.invokestatic 55, 3) := by decide +kernel
theorem dX4_tip_35 : decode cX4_tip 35 = .ok (.iastore, 1) := by decide +kernel
theorem dX4_tip_36 : decode cX4_tip 36 = .ok (.aload_n 0, 1) := by decide +kernel
theorem dX4_tip_37 : decode cX4_tip 37 = .ok (.getfield 15, 3) := by decide +kernel
theorem dX4_tip_40 : decode cX4_tip 40 = .ok (.iload_n 2, 1) := by decide +kernel
theorem dX4_tip_41 : decode cX4_tip 41 = .ok (.iconst 1, 1) := by decide +kernel
theorem dX4_tip_42 : decode cX4_tip 42 = .ok (.if_icmp .ne 7, 3) := by decide +kernel
theorem dX4_tip_45 : decode cX4_tip 45 = .ok (.iconst 0, 1) := by decide +kernel
theorem dX4_tip_46 : decode cX4_tip 46 = .ok (.goto 4, 3) := by decide +kernel
theorem dX4_tip_49 : decode cX4_tip 49 = .ok (.iconst 1, 1) := by decide +kernel
theorem dX4_tip_50 : decode cX4_tip 50 = .ok (.dup2, 1) := by decide +kernel
theorem dX4_tip_51 : decode cX4_tip 51 = .ok (.iaload, 1) := by decide +kernel
theorem dX4_tip_52 : decode cX4_tip 52 = .ok (.iconst 1, 1) := by decide +kernel
theorem dX4_tip_53 : decode cX4_tip 53 = .ok (.iadd, 1) := by decide +kernel
theorem dX4_tip_54 : decode cX4_tip 54 = .ok (.iastore, 1) := by decide +kernel
theorem dX4_tip_55 : decode cX4_tip 55 = .ok (.aload_n 0, 1) := by decide +kernel
theorem dX4_tip_56 : decode cX4_tip 56 = .ok (.getfield 18, 3) := by decide +kernel
theorem dX4_tip_59 : decode cX4_tip 59 = .ok (.iconst 0, 1) := by decide +kernel
theorem dX4_tip_60 : decode cX4_tip 60 = .ok (.invokestatic 25, 3) := by decide +kernel
theorem dX4_tip_63 : decode cX4_tip 63 = .ok (.aload_n 0, 1) := by decide +kernel
theorem dX4_tip_64 : decode cX4_tip 64 = .ok (.iload_n 3, 1) := by decide +kernel
theorem dX4_tip_65 : decode cX4_tip 65 = .ok (.putfield 21, 3) := by decide +kernel
theorem dX4_tip_68 : decode cX4_tip 68 = .ok (.aload_n 0, 1) := by decide +kernel
theorem dX4_tip_69 : decode cX4_tip 69 = .ok (.iconst 0, 1) := by decide +kernel
theorem dX4_tip_70 : decode cX4_tip 70 = .ok (.putfield 43, 3) := by decide +kernel
theorem dX4_tip_73 : decode cX4_tip 73 = .ok (.aload_n 0, 1) := by decide +kernel
theorem dX4_tip_74 : decode cX4_tip 74 = .ok (.iload_n 2, 1) := by decide +kernel
theorem dX4_tip_75 : decode cX4_tip 75 = .ok (.iconst 1, 1) := by decide +kernel
theorem dX4_tip_76 : decode cX4_tip 76 = .ok (.if_icmp .ne 7, 3) := by decide +kernel
theorem dX4_tip_79 : decode cX4_tip 79 = .ok (.iconst 1, 1) := by decide +kernel
theorem dX4_tip_80 : decode cX4_tip 80 = .ok (.goto 4, 3) := by decide +kernel
theorem dX4_tip_83 : decode cX4_tip 83 = .ok (.iconst 0, 1) := by decide +kernel
theorem dX4_tip_84 : decode cX4_tip 84 = .ok (.putfield 46, 3) := by decide +kernel
theorem dX4_tip_87 : decode cX4_tip 87 = .ok (.return_, 1) := by decide +kernel
theorem dX4_allVerdicts_0 : decode cX4_allVerdicts 0 = .ok (.aload_n 0, 1) := by decide +kernel
theorem dX4_allVerdicts_1 : decode cX4_allVerdicts 1 = .ok (.getfield 15, 3) := by decide +kernel
theorem dX4_allVerdicts_4 : decode cX4_allVerdicts 4 = .ok (.iconst 0, 1) := by decide +kernel
theorem dX4_allVerdicts_5 : decode cX4_allVerdicts 5 = .ok (.iaload, 1) := by decide +kernel
theorem dX4_allVerdicts_6 : decode cX4_allVerdicts 6 = .ok (.aload_n 0, 1) := by decide +kernel
theorem dX4_allVerdicts_7 : decode cX4_allVerdicts 7 = .ok (.getfield 15, 3) := by decide +kernel
theorem dX4_allVerdicts_10 : decode cX4_allVerdicts 10 = .ok (.iconst 1, 1) := by decide +kernel
theorem dX4_allVerdicts_11 : decode cX4_allVerdicts 11 = .ok (.iaload, 1) := by decide +kernel
theorem dX4_allVerdicts_12 : decode cX4_allVerdicts 12 = .ok (.iadd, 1) := by decide +kernel
theorem dX4_allVerdicts_13 : decode cX4_allVerdicts 13 = .ok (.ireturn, 1) := by decide +kernel
theorem dX5_init_0 : decode cX5_init 0 = .ok (.aload_n 0, 1) := by decide +kernel
theorem dX5_init_1 : decode cX5_init 1 = .ok (.invokespecial 3, 3) := by decide +kernel
theorem dX5_init_4 : decode cX5_init 4 = .ok (.aload_n 0, 1) := by decide +kernel
theorem dX5_init_5 : decode cX5_init 5 = .ok (.bipush 20, 2) := by decide +kernel
theorem dX5_init_7 : decode cX5_init 7 = .ok (.newarray .int, 2) := by decide +kernel
theorem dX5_init_9 : decode cX5_init 9 = .ok (.putfield 9, 3) := by decide +kernel
theorem dX5_init_12 : decode cX5_init 12 = .ok (.aload_n 0, 1) := by decide +kernel
theorem dX5_init_13 : decode cX5_init 13 = .ok (.invokevirtual 15, 3) := by decide +kernel
theorem dX5_init_16 : decode cX5_init 16 = .ok (.return_, 1) := by decide +kernel
theorem dX5_empty_0 : decode cX5_empty 0 = .ok (.aload_n 0, 1) := by decide +kernel
theorem dX5_empty_1 : decode cX5_empty 1 = .ok (.getfield 9, 3) := by decide +kernel
theorem dX5_empty_4 : decode cX5_empty 4 = .ok (.bipush 100, 2) := by decide +kernel
theorem dX5_empty_6 : decode cX5_empty 6 = .ok (.invokestatic 18, 3) := by decide +kernel
theorem dX5_empty_9 : decode cX5_empty 9 = .ok (.aload_n 0, 1) := by decide +kernel
theorem dX5_empty_10 : decode cX5_empty 10 = .ok (.iconst 0, 1) := by decide +kernel
theorem dX5_empty_11 : decode cX5_empty 11 = .ok (.putfield 24, 3) := by decide +kernel
theorem dX5_empty_14 : decode cX5_empty 14 = .ok (.aload_n 0, 1) := by decide +kernel
theorem dX5_empty_15 : decode cX5_empty 15 = .ok (.iconst 0, 1) := by decide +kernel
theorem dX5_empty_16 : decode cX5_empty 16 = .ok (.putfield 28, 3) := by decide +kernel
theorem dX5_empty_19 : decode cX5_empty 19 = .ok (.aload_n 0, 1) := by decide +kernel
theorem dX5_empty_20 : decode cX5_empty 20 = .ok (.bipush (-9), 2) := by decide +kernel
theorem dX5_empty_22 : decode cX5_empty 22 = .ok (.putfield 31, 3) := by decide +kernel
theorem dX5_empty_25 : decode cX5_empty 25 = .ok (.aload_n 0, 1) := by decide +kernel
theorem dX5_empty_26 : decode cX5_empty 26 = .ok (.iconst 5, 1) := by decide +kernel
theorem dX5_empty_27 : decode cX5_empty 27 = .ok (.putfield 34, 3) := by decide +kernel
theorem dX5_empty_30 : decode cX5_empty 30 = .ok (.aload_n 0, 1) := by decide +kernel
theorem dX5_empty_31 : decode cX5_empty 31 = .ok (.iconst 0, 1) := by decide +kernel
theorem dX5_empty_32 : decode cX5_empty 32 = .ok (.putfield 37, 3) := by decide +kernel
theorem dX5_empty_35 : decode cX5_empty 35 = .ok (.return_, 1) := by decide +kernel
theorem dX6_init_0 : decode cX6_init 0 = .ok (.aload_n 0, 1) := by decide +kernel
theorem dX6_init_1 : decode cX6_init 1 = .ok (.invokespecial 3, 3) := by decide +kernel
theorem dX6_init_4 : decode cX6_init 4 = .ok (.aload_n 0, 1) := by decide +kernel
theorem dX6_init_5 : decode cX6_init 5 = .ok (.bipush 121, 2) := by decide +kernel
theorem dX6_init_7 : decode cX6_init 7 = .ok (.newarray .int, 2) := by decide +kernel
theorem dX6_init_9 : decode cX6_init 9 = .ok (.putfield 11, 3) := by decide +kernel
theorem dX6_init_12 : decode cX6_init 12 = .ok (.aload_n 0, 1) := by decide +kernel
theorem dX6_init_13 : decode cX6_init 13 = .ok (.bipush 121, 2) := by decide +kernel
theorem dX6_init_15 : decode cX6_init 15 = .ok (.newarray .int, 2) := by decide +kernel
theorem dX6_init_17 : decode cX6_init 17 = .ok (.putfield 15, 3) := by decide +kernel
theorem dX6_init_20 : decode cX6_init 20 = .ok (.aload_n 0, 1) := by decide +kernel
theorem dX6_init_21 : decode cX6_init 21 = .ok (.bipush 121, 2) := by decide +kernel
theorem dX6_init_23 : decode cX6_init 23 = .ok (.newarray .int, 2) := by decide +kernel
theorem dX6_init_25 : decode cX6_init 25 = .ok (.putfield 18, 3) := by decide +kernel
theorem dX6_init_28 : decode cX6_init 28 = .ok (.aload_n 0, 1) := by decide +kernel
theorem dX6_init_29 : decode cX6_init 29 = .ok (.aload_n 1, 1) := by decide +kernel
theorem dX6_init_30 : decode cX6_init 30 = .ok (.putfield 21, 3) := by decide +kernel
theorem dX6_init_33 : decode cX6_init 33 = .ok (.return_, 1) := by decide +kernel
theorem dX6_read_0 : decode cX6_read 0 = .ok (.aload_n 0, 1) := by decide +kernel
theorem dX6_read_1 : decode cX6_read 1 = .ok (.aload_n 1, 1) := by decide +kernel
theorem dX6_read_2 : decode cX6_read 2 = .ok (.putfield 25, 3) := by decide +kernel
theorem dX6_read_5 : decode cX6_read 5 = .ok (.aload_n 0, 1) := by decide +kernel
theorem dX6_read_6 : decode cX6_read 6 = .ok (.getfield 25, 3) := by decide +kernel
theorem dX6_read_9 : decode cX6_read 9 = .ok (.invokevirtual 29, 3) := by decide +kernel
theorem dX6_read_12 : decode cX6_read 12 = .ok (.aload_n 0, 1) := by decide +kernel
theorem dX6_read_13 : decode cX6_read 13 = .ok (.iconst 0, 1) := by decide +kernel
theorem dX6_read_14 : decode cX6_read 14 = .ok (.putfield 34, 3) := by decide +kernel
theorem dX6_read_17 : decode cX6_read 17 = .ok (.aload_n 0, 1) := by decide +kernel
theorem dX6_read_18 : decode cX6_read 18 = .ok (.iconst 0, 1) := by decide +kernel
theorem dX6_read_19 : decode cX6_read 19 = .ok (.putfield 38, 3) := by decide +kernel
theorem dX6_read_22 : decode cX6_read 22 = .ok (.aload_n 0, 1) := by decide +kernel
theorem dX6_read_23 : decode cX6_read 23 = .ok (.iconst 0, 1) := by decide +kernel
theorem dX6_read_24 : decode cX6_read 24 = .ok (.putfield 41, 3) := by decide +kernel
theorem dX6_read_27 : decode cX6_read 27 = .ok (.aload_n 0, 1) := by decide +kernel
theorem dX6_read_28 : decode cX6_read 28 = .ok (.invokevirtual 45, 3) := by decide +kernel
theorem dX6_read_31 : decode cX6_read 31 = .ok (.iconst 0, 1) := by decide +kernel
theorem dX6_read_32 : decode cX6_read 32 = .ok (.istore_n 2, 1) := by decide +kernel
theorem dX6_read_33 : decode cX6_read 33 = .ok (.iload_n 2, 1) := by decide +kernel
theorem dX6_read_34 : decode cX6_read 34 = .ok (.bipush 121, 2) := by decide +kernel
theorem dX6_read_36 : decode cX6_read 36 = .ok (.if_icmp .ge 49, 3) := by decide +kernel
theorem dX6_read_39 : decode cX6_read 39 = .ok (.aload_n 0, 1) := by decide +kernel
theorem dX6_read_40 : decode cX6_read 40 = .ok (.iconst (-1), 1) := by decide +kernel
theorem dX6_read_41 : decode cX6_read 41 = .ok (.invokevirtual 48, 3) := by decide +kernel
theorem dX6_read_44 : decode cX6_read 44 = .ok (.ifCond .eq 5, 3) := by decide +kernel
theorem dX6_read_47 : decode cX6_read 47 = .ok (.iload_n 2, 1) := by decide +kernel
theorem dX6_read_48 : decode cX6_read 48 = .ok (.ireturn, 1) := by decide +kernel
theorem dX6_read_49 : decode cX6_read 49 = .ok (.aload_n 0, 1) := by decide +kernel
theorem dX6_read_50 : decode cX6_read 50 = .ok (.iload_n 2, 1) := by decide +kernel
theorem dX6_read_51 : decode cX6_read 51 = .ok (.invokevirtual 52, 3) := by decide +kernel
theorem dX6_read_54 : decode cX6_read 54 = .ok (.ifCond .eq 31, 3) := by decide +kernel
theorem dX6_read_57 : decode cX6_read 57 = .ok (.aload_n 0, 1) := by decide +kernel
theorem dX6_read_58 : decode cX6_read 58 = .ok (.bipush 59, 2) := by decide +kernel
theorem dX6_read_60 : decode cX6_read 60 = .ok (.invokevirtual 48, 3) := by decide +kernel
theorem dX6_read_63 : decode cX6_read 63 = .ok (.ifCond .ne 6, 3) := by decide +kernel
theorem dX6_read_66 : decode cX6_read 66 = .ok (.goto 19, 3) := by decide +kernel
theorem dX6_read_69 : decode cX6_read 69 = .ok (.aload_n 0, 1) := by decide +kernel
theorem dX6_read_70 : decode cX6_read 70 = .ok (.dup, 1) := by decide +kernel
theorem dX6_read_71 : decode cX6_read 71 = .ok (.getfield 41, 3) := by decide +kernel
theorem dX6_read_74 : decode cX6_read 74 = .ok (.iconst 1, 1) := by decide +kernel
theorem dX6_read_75 : decode cX6_read 75 = .ok (.iadd, 1) := by decide +kernel
theorem dX6_read_76 : decode cX6_read 76 = .ok (.putfield 41, 3) := by decide +kernel
theorem dX6_read_79 : decode cX6_read 79 = .ok (.iinc 2 1, 3) := by decide +kernel
theorem dX6_read_82 : decode cX6_read 82 = .ok (.goto (-49), 3) := by decide +kernel
theorem dX6_read_85 : decode cX6_read 85 = .ok (.bipush (-10), 2) := by decide +kernel
theorem dX6_read_87 : decode cX6_read 87 = .ok (.aload_n 0, 1) := by decide +kernel
theorem dX6_read_88 : decode cX6_read 88 = .ok (.getfield 41, 3) := by decide +kernel
theorem dX6_read_91 : decode cX6_read 91 = .ok (.aload_n 0, 1) := by decide +kernel
theorem dX6_read_92 : decode cX6_read 92 = .ok (.getfield 55, 3) := by decide +kernel
theorem dX6_read_95 : decode cX6_read 95 = .ok (.if_icmp .ge 15, 3) := by decide +kernel
theorem dX6_read_98 : decode cX6_read 98 = .ok (.aload_n 0, 1) := by decide +kernel
theorem dX6_read_99 : decode cX6_read 99 = .ok (.getfield 18, 3) := by decide +kernel
theorem dX6_read_102 : decode cX6_read 102 = .ok (.aload_n 0, 1) := by decide +kernel
theorem dX6_read_103 : decode cX6_read 103 = .ok (.getfield 41, 3) := by decide +kernel
theorem dX6_read_106 : decode cX6_read 106 = .ok (.iaload, 1) := by decide +kernel
theorem dX6_read_107 : decode cX6_read 107 = .ok (.goto 10, 3) := by decide +kernel
theorem dX6_read_110 : decode cX6_read 110 = .ok (.aload_n 0, 1) := by decide +kernel
theorem dX6_read_111 : decode cX6_read 111 = .ok (.getfield 21, 3) := by decide +kernel
theorem dX6_read_114 : decode cX6_read 114 = .ok (.getfield 58, 3) := by decide +kernel
theorem dX6_read_117 : decode cX6_read 117 = .ok (.isub, 1) := by decide +kernel
theorem dX6_read_118 : decode cX6_read 118 = .ok (.ireturn, 1) := by decide +kernel
theorem dX6_split_0 : decode cX6_split 0 = .ok (.aload_n 0, 1) := by decide +kernel
theorem dX6_split_1 : decode cX6_split 1 = .ok (.iconst 0, 1) := by decide +kernel
theorem dX6_split_2 : decode cX6_split 2 = .ok (.putfield 55, 3) := by decide +kernel
theorem dX6_split_5 : decode cX6_split 5 = .ok (.iconst 0, 1) := by decide +kernel
theorem dX6_split_6 : decode cX6_split 6 = .ok (.istore_n 1, 1) := by decide +kernel
theorem dX6_split_7 : decode cX6_split 7 = .ok (.iload_n 1, 1) := by decide +kernel
theorem dX6_split_8 : decode cX6_split 8 = .ok (.aload_n 0, 1) := by decide +kernel
theorem dX6_split_9 : decode cX6_split 9 = .ok (.getfield 21, 3) := by decide +kernel
theorem dX6_split_12 : decode cX6_split 12 = .ok (.getfield 58, 3) := by decide +kernel
theorem dX6_split_15 : decode cX6_split 15 = .ok (.if_icmp .ge 50, 3) := by decide +kernel
theorem dX6_split_18 : decode cX6_split 18 = .ok (.aload_n 0, 1) := by decide +kernel
theorem dX6_split_19 : decode cX6_split 19 = .ok (.getfield 21, 3) := by decide +kernel
theorem dX6_split_22 : decode cX6_split 22 = .ok (.iload_n 1, 1) := by decide +kernel
theorem dX6_split_23 : decode cX6_split 23 = .ok (.invokevirtual 63, 3) := by decide +kernel
theorem dX6_split_26 : decode cX6_split 26 = .ok (.istore_n 2, 1) := by decide +kernel
theorem dX6_split_27 : decode cX6_split 27 = .ok (.iload_n 2, 1) := by decide +kernel
theorem dX6_split_28 : decode cX6_split 28 = .ok (.invokestatic 67, 3) := by decide +kernel
theorem dX6_split_31 : decode cX6_split 31 = .ok (.ifCond .eq 15, 3) := by decide +kernel
theorem dX6_split_34 : decode cX6_split 34 = .ok (.aload_n 0, 1) := by decide +kernel
theorem dX6_split_35 : decode cX6_split 35 = .ok (.iload_n 2, 1) := by decide +kernel
theorem dX6_split_36 : decode cX6_split 36 = .ok (.bipush 48, 2) := by decide +kernel
theorem dX6_split_38 : decode cX6_split 38 = .ok (.isub, 1) := by decide +kernel
theorem dX6_split_39 : decode cX6_split 39 = .ok (.iload_n 1, 1) := by decide +kernel
theorem dX6_split_40 : decode cX6_split 40 = .ok (.invokevirtual 70, 3) := by decide +kernel
theorem dX6_split_43 : decode cX6_split 43 = .ok (.goto 16, 3) := by decide +kernel
theorem dX6_split_46 : decode cX6_split 46 = .ok (.iload_n 2, 1) := by decide +kernel
theorem dX6_split_47 : decode cX6_split 47 = .ok (.bipush 32, 2) := by decide +kernel
theorem dX6_split_49 : decode cX6_split 49 = .ok (.if_icmp .eq 10, 3) := by decide +kernel
theorem dX6_split_52 : decode cX6_split 52 = .ok (.aload_n 0, 1) := by decide +kernel
theorem dX6_split_53 : decode cX6_split 53 = .ok (.iload_n 2, 1) := by decide +kernel
theorem dX6_split_54 : decode cX6_split 54 = .ok (.iload_n 1, 1) := by decide +kernel
theorem dX6_split_55 : decode cX6_split 55 = .ok (.iconst 0, 1) := by decide +kernel
theorem dX6_split_56 : decode cX6_split 56 = .ok (.invokevirtual 74, 3) := by decide +kernel
theorem dX6_split_59 : decode cX6_split 59 = .ok (.iinc 1 1, 3) := by decide +kernel
theorem dX6_split_62 : decode cX6_split 62 = .ok (.goto (-55), 3) := by decide +kernel
theorem dX6_split_65 : decode cX6_split 65 = .ok (.aload_n 0, 1) := by decide +kernel
theorem dX6_split_66 : decode cX6_split 66 = .ok (.iconst (-1), 1) := by decide +kernel
theorem dX6_split_67 : decode cX6_split 67 = .ok (.aload_n 0, 1) := by decide +kernel
theorem dX6_split_68 : decode cX6_split 68 = .ok (.getfield 21, 3) := by decide +kernel
theorem dX6_split_71 : decode cX6_split 71 = .ok (.getfield 58, 3) := by decide +kernel
theorem dX6_split_74 : decode cX6_split 74 = .ok (.iconst 0, 1) := by decide +kernel
theorem dX6_split_75 : decode cX6_split 75 = .ok (.invokevirtual 74, 3) := by decide +kernel
theorem dX6_split_78 : decode cX6_split 78 = .ok (.return_, 1) := by decide +kernel
theorem dX6_addToken_0 : decode cX6_addToken 0 = .ok (.aload_n 0, 1) := by decide +kernel
theorem dX6_addToken_1 : decode cX6_addToken 1 = .ok (.getfield 55, 3) := by decide +kernel
theorem dX6_addToken_4 : decode cX6_addToken 4 = .ok (.bipush 121, 2) := by decide +kernel
theorem dX6_addToken_6 : decode cX6_addToken 6 = .ok (.if_icmp .ge 43, 3) := by decide +kernel
theorem dX6_addToken_9 : decode cX6_addToken 9 = .ok (.aload_n 0, 1) := by decide +kernel
theorem dX6_addToken_10 : decode cX6_addToken 10 = .ok (.getfield 11, 3) := by decide +kernel
theorem dX6_addToken_13 : decode cX6_addToken 13 = .ok (.aload_n 0, 1) := by decide +kernel
theorem dX6_addToken_14 : decode cX6_addToken 14 = .ok (.getfield 55, 3) := by decide +kernel
theorem dX6_addToken_17 : decode cX6_addToken 17 = .ok (.iload_n 1, 1) := by decide +kernel
theorem dX6_addToken_18 : decode cX6_addToken 18 = .ok (.iastore, 1) := by decide +kernel
theorem dX6_addToken_19 : decode cX6_addToken 19 = .ok (.aload_n 0, 1) := by decide +kernel
theorem dX6_addToken_20 : decode cX6_addToken 20 = .ok (.getfield 18, 3) := by decide +kernel
theorem dX6_addToken_23 : decode cX6_addToken 23 = .ok (.aload_n 0, 1) := by decide +kernel
theorem dX6_addToken_24 : decode cX6_addToken 24 = .ok (.getfield 55, 3) := by decide +kernel
theorem dX6_addToken_27 : decode cX6_addToken 27 = .ok (.iload_n 2, 1) := by decide +kernel
theorem dX6_addToken_28 : decode cX6_addToken 28 = .ok (.iastore, 1) := by decide +kernel
theorem dX6_addToken_29 : decode cX6_addToken 29 = .ok (.aload_n 0, 1) := by decide +kernel
theorem dX6_addToken_30 : decode cX6_addToken 30 = .ok (.getfield 15, 3) := by decide +kernel
theorem dX6_addToken_33 : decode cX6_addToken 33 = .ok (.aload_n 0, 1) := by decide +kernel
theorem dX6_addToken_34 : decode cX6_addToken 34 = .ok (.getfield 55, 3) := by decide +kernel
theorem dX6_addToken_37 : decode cX6_addToken 37 = .ok (.iload_n 3, 1) := by decide +kernel
theorem dX6_addToken_38 : decode cX6_addToken 38 = .ok (.iastore, 1) := by decide +kernel
theorem dX6_addToken_39 : decode cX6_addToken 39 = .ok (.aload_n 0, 1) := by decide +kernel
theorem dX6_addToken_40 : decode cX6_addToken 40 = .ok (.dup, 1) := by decide +kernel
theorem dX6_addToken_41 : decode cX6_addToken 41 = .ok (.getfield 55, 3) := by decide +kernel
theorem dX6_addToken_44 : decode cX6_addToken 44 = .ok (.iconst 1, 1) := by decide +kernel
theorem dX6_addToken_45 : decode cX6_addToken 45 = .ok (.iadd, 1) := by decide +kernel
theorem dX6_addToken_46 : decode cX6_addToken 46 = .ok (.putfield 55, 3) := by decide +kernel
theorem dX6_addToken_49 : decode cX6_addToken 49 = .ok (.return_, 1) := by decide +kernel
theorem dX6_addDigit_0 : decode cX6_addDigit 0 = .ok (.aload_n 0, 1) := by decide +kernel
theorem dX6_addDigit_1 : decode cX6_addDigit 1 = .ok (.getfield 55, 3) := by decide +kernel
theorem dX6_addDigit_4 : decode cX6_addDigit 4 = .ok (.iconst 1, 1) := by decide +kernel
theorem dX6_addDigit_5 : decode cX6_addDigit 5 = .ok (.isub, 1) := by decide +kernel
theorem dX6_addDigit_6 : decode cX6_addDigit 6 = .ok (.istore_n 3, 1) := by decide +kernel
theorem dX6_addDigit_7 : decode cX6_addDigit 7 = .ok (.iload_n 3, 1) := by decide +kernel
theorem dX6_addDigit_8 : decode cX6_addDigit 8 = .ok (.ifCond .lt 19, 3) := by decide +kernel
theorem dX6_addDigit_11 : decode cX6_addDigit 11 = .ok (.aload_n 0, 1) := by decide +kernel
theorem dX6_addDigit_12 : decode cX6_addDigit 12 = .ok (.getfield 21, 3) := by decide +kernel
theorem dX6_addDigit_15 : decode cX6_addDigit 15 = .ok (.iload_n 2, 1) := by decide +kernel
theorem dX6_addDigit_16 : decode cX6_addDigit 16 = .ok (.iconst 1, 1) := by decide +kernel
theorem dX6_addDigit_17 : decode cX6_addDigit 17 = .ok (.isub, 1) := by decide +kernel
theorem dX6_addDigit_18 : decode cX6_addDigit 18 = .ok (.invokevirtual 63, 3) := by decide +kernel
theorem dX6_addDigit_21 : decode cX6_addDigit 21 = .ok (.invokestatic 67, 3) := by decide +kernel
theorem dX6_addDigit_24 : decode cX6_addDigit 24 = .ok (.ifCond .ne 12, 3) := by decide +kernel
theorem dX6_addDigit_27 : decode cX6_addDigit 27 = .ok (.aload_n 0, 1) := by decide +kernel
theorem dX6_addDigit_28 : decode cX6_addDigit 28 = .ok (.bipush (-2), 2) := by decide +kernel
theorem dX6_addDigit_30 : decode cX6_addDigit 30 = .ok (.iload_n 2, 1) := by decide +kernel
theorem dX6_addDigit_31 : decode cX6_addDigit 31 = .ok (.iload_n 1, 1) := by decide +kernel
theorem dX6_addDigit_32 : decode cX6_addDigit 32 = .ok (.invokevirtual 74, 3) := by decide +kernel
theorem dX6_addDigit_35 : decode cX6_addDigit 35 = .ok (.return_, 1) := by decide +kernel
theorem dX6_addDigit_36 : decode cX6_addDigit 36 = .ok (.aload_n 0, 1) := by decide +kernel
theorem dX6_addDigit_37 : decode cX6_addDigit 37 = .ok (.getfield 15, 3) := by decide +kernel
theorem dX6_addDigit_40 : decode cX6_addDigit 40 = .ok (.iload_n 3, 1) := by decide +kernel
theorem dX6_addDigit_41 : decode cX6_addDigit 41 = .ok (.iaload, 1) := by decide +kernel
theorem dX6_addDigit_42 : decode cX6_addDigit 42 = .ok (.istore 4, 2) := by decide +kernel
theorem dX6_addDigit_44 : decode cX6_addDigit 44 = .ok (.aload_n 0, 1) := by decide +kernel
theorem dX6_addDigit_45 : decode cX6_addDigit 45 = .ok (.getfield 15, 3) := by decide +kernel
theorem dX6_addDigit_48 : decode cX6_addDigit 48 = .ok (.iload_n 3, 1) := by decide +kernel
theorem dX6_addDigit_49 : decode cX6_addDigit 49 = .ok (.bipush 100, 2) := by decide +kernel
theorem dX6_addDigit_51 : decode cX6_addDigit 51 = .ok (.bipush 10, 2) := by decide +kernel
theorem dX6_addDigit_53 : decode cX6_addDigit 53 = .ok (.iload 4, 2) := by decide +kernel
theorem dX6_addDigit_55 : decode cX6_addDigit 55 = .ok (.imul, 1) := by decide +kernel
theorem dX6_addDigit_56 : decode cX6_addDigit 56 = .ok (.iload_n 1, 1) := by decide +kernel
theorem dX6_addDigit_57 : decode cX6_addDigit 57 = .ok (.iadd, 1) := by decide +kernel
theorem dX6_addDigit_58 : decode cX6_addDigit 58 = .ok (.invokestatic 78, 3) := by decide +kernel
theorem dX6_addDigit_61 : decode cX6_addDigit 61 = .ok (.iastore, 1) := by decide +kernel
theorem dX6_addDigit_62 : decode cX6_addDigit 62 = .ok (.iload 4, 2) := by decide +kernel
theorem dX6_addDigit_64 : decode cX6_addDigit 64 = .ok (.ifCond .eq 14, 3) := by decide +kernel
theorem dX6_addDigit_67 : decode cX6_addDigit 67 = .ok (.aload_n 0, 1) := by decide +kernel
theorem dX6_addDigit_68 : decode cX6_addDigit 68 = .ok (.getfield 15, 3) := by decide +kernel
theorem dX6_addDigit_71 : decode cX6_addDigit 71 = .ok (.iload_n 3, 1) := by decide +kernel
theorem dX6_addDigit_72 : decode cX6_addDigit 72 = .ok (.iaload, 1) := by decide +kernel
theorem dX6_addDigit_73 : decode cX6_addDigit 73 = .ok (.bipush 99, 2) := by decide +kernel
theorem dX6_addDigit_75 : decode cX6_addDigit 75 = .ok (.if_icmp .le 11, 3) := by decide +kernel
theorem dX6_addDigit_78 : decode cX6_addDigit 78 = .ok (.aload_n 0, 1) := by decide +kernel
theorem dX6_addDigit_79 : decode cX6_addDigit 79 = .ok (.getfield 11, 3) := by decide +kernel
theorem dX6_addDigit_82 : decode cX6_addDigit 82 = .ok (.iload_n 3, 1) := by decide +kernel
theorem dX6_addDigit_83 : decode cX6_addDigit 83 = .ok (.bipush (-3), 2) := by decide +kernel
theorem dX6_addDigit_85 : decode cX6_addDigit 85 = .ok (.iastore, 1) := by decide +kernel
theorem dX6_addDigit_86 : decode cX6_addDigit 86 = .ok (.return_, 1) := by decide +kernel
theorem dX6_isDigit_0 : decode cX6_isDigit 0 = .ok (.iload_n 0, 1) := by decide +kernel
theorem dX6_isDigit_1 : decode cX6_isDigit 1 = .ok (.bipush 48, 2) := by decide +kernel
theorem dX6_isDigit_3 : decode cX6_isDigit 3 = .ok (.if_icmp .lt 13, 3) := by decide +kernel
theorem dX6_isDigit_6 : decode cX6_isDigit 6 = .ok (.iload_n 0, 1) := by decide +kernel
theorem dX6_isDigit_7 : decode cX6_isDigit 7 = .ok (.bipush 57, 2) := by decide +kernel
theorem dX6_isDigit_9 : decode cX6_isDigit 9 = .ok (.if_icmp .gt 7, 3) := by decide +kernel
theorem dX6_isDigit_12 : decode cX6_isDigit 12 = .ok (.iconst 1, 1) := by decide +kernel
theorem dX6_isDigit_13 : decode cX6_isDigit 13 = .ok (.goto 4, 3) := by decide +kernel
theorem dX6_isDigit_16 : decode cX6_isDigit 16 = .ok (.iconst 0, 1) := by decide +kernel
theorem dX6_isDigit_17 : decode cX6_isDigit 17 = .ok (.ireturn, 1) := by decide +kernel
theorem dX6_isInHand_0 : decode cX6_isInHand 0 = .ok (.aload_n 0, 1) := by decide +kernel
theorem dX6_isInHand_1 : decode cX6_isInHand 1 = .ok (.getfield 41, 3) := by decide +kernel
theorem dX6_isInHand_4 : decode cX6_isInHand 4 = .ok (.aload_n 0, 1) := by decide +kernel
theorem dX6_isInHand_5 : decode cX6_isInHand 5 = .ok (.getfield 55, 3) := by decide +kernel
theorem dX6_isInHand_8 : decode cX6_isInHand 8 = .ok (.if_icmp .ge 20, 3) := by decide +kernel
theorem dX6_isInHand_11 : decode cX6_isInHand 11 = .ok (.aload_n 0, 1) := by decide +kernel
theorem dX6_isInHand_12 : decode cX6_isInHand 12 = .ok (.getfield 11, 3) := by decide +kernel
theorem dX6_isInHand_15 : decode cX6_isInHand 15 = .ok (.aload_n 0, 1) := by decide +kernel
theorem dX6_isInHand_16 : decode cX6_isInHand 16 = .ok (.getfield 41, 3) := by decide +kernel
theorem dX6_isInHand_19 : decode cX6_isInHand 19 = .ok (.iaload, 1) := by decide +kernel
theorem dX6_isInHand_20 : decode cX6_isInHand 20 = .ok (.iload_n 1, 1) := by decide +kernel
theorem dX6_isInHand_21 : decode cX6_isInHand 21 = .ok (.if_icmp .ne 7, 3) := by decide +kernel
theorem dX6_isInHand_24 : decode cX6_isInHand 24 = .ok (.iconst 1, 1) := by decide +kernel
theorem dX6_isInHand_25 : decode cX6_isInHand 25 = .ok (.goto 4, 3) := by decide +kernel
theorem dX6_isInHand_28 : decode cX6_isInHand 28 = .ok (.iconst 0, 1) := by decide +kernel
theorem dX6_isInHand_29 : decode cX6_isInHand 29 = .ok (.ireturn, 1) := by decide +kernel
theorem dX6_readItem_0 : decode cX6_readItem 0 = .ok (.aload_n 0, 1) := by decide +kernel
theorem dX6_readItem_1 : decode cX6_readItem 1 = .ok (.getfield 41, 3) := by decide +kernel
theorem dX6_readItem_4 : decode cX6_readItem 4 = .ok (.aload_n 0, 1) := by decide +kernel
theorem dX6_readItem_5 : decode cX6_readItem 5 = .ok (.getfield 55, 3) := by decide +kernel
theorem dX6_readItem_8 : decode cX6_readItem 8 = .ok (.if_icmp .lt 5, 3) := by decide +kernel
theorem dX6_readItem_11 : decode cX6_readItem 11 = .ok (.iconst 0, 1) := by decide +kernel
theorem dX6_readItem_12 : decode cX6_readItem 12 = .ok (.ireturn, 1) := by decide +kernel
theorem dX6_readItem_13 : decode cX6_readItem 13 = .ok (.aload_n 0, 1) := by decide +kernel
theorem dX6_readItem_14 : decode cX6_readItem 14 = .ok (.getfield 11, 3) := by decide +kernel
theorem dX6_readItem_17 : decode cX6_readItem 17 = .ok (.aload_n 0, 1) := by decide +kernel
theorem dX6_readItem_18 : decode cX6_readItem 18 = .ok (.getfield 41, 3) := by decide +kernel
theorem dX6_readItem_21 : decode cX6_readItem 21 = .ok (.iaload, 1) := by decide +kernel
theorem dX6_readItem_22 : decode cX6_readItem 22 = .ok (.lookupswitch 87 #[(98, 72), (106, 82), (107, 77), (114, 67), (119, 50)], 50) := by decide +kernel
theorem dX6_readItem_72 : decode cX6_readItem 72 = .ok (.iload_n 1, 1) := by decide +kernel
theorem dX6_readItem_73 : decode cX6_readItem 73 = .ok (.ifCond .ne 14, 3) := by decide +kernel
theorem dX6_readItem_76 : decode cX6_readItem 76 = .ok (.aload_n 0, 1) := by decide +kernel
theorem dX6_readItem_77 : decode cX6_readItem 77 = .ok (.invokevirtual 84, 3) := by decide +kernel
theorem dX6_readItem_80 : decode cX6_readItem 80 = .ok (.ifCond .eq 7, 3) := by decide +kernel
theorem dX6_readItem_83 : decode cX6_readItem 83 = .ok (.iconst 1, 1) := by decide +kernel
theorem dX6_readItem_84 : decode cX6_readItem 84 = .ok (.goto 4, 3) := by decide +kernel
theorem dX6_readItem_87 : decode cX6_readItem 87 = .ok (.iconst 0, 1) := by decide +kernel
theorem dX6_readItem_88 : decode cX6_readItem 88 = .ok (.ireturn, 1) := by decide +kernel
theorem dX6_readItem_89 : decode cX6_readItem 89 = .ok (.aload_n 0, 1) := by decide +kernel
theorem dX6_readItem_90 : decode cX6_readItem 90 = .ok (.invokevirtual 88, 3) := by decide +kernel
theorem dX6_readItem_93 : decode cX6_readItem 93 = .ok (.ireturn, 1) := by decide +kernel
theorem dX6_readItem_94 : decode cX6_readItem 94 = .ok (.aload_n 0, 1) := by decide +kernel
theorem dX6_readItem_95 : decode cX6_readItem 95 = .ok (.invokevirtual 91, 3) := by decide +kernel
theorem dX6_readItem_98 : decode cX6_readItem 98 = .ok (.ireturn, 1) := by decide +kernel
theorem dX6_readItem_99 : decode cX6_readItem 99 = .ok (.aload_n 0, 1) := by decide +kernel
theorem dX6_readItem_100 : decode cX6_readItem 100 = .ok (.invokevirtual 94, 3) := by decide +kernel
theorem dX6_readItem_103 : decode cX6_readItem 103 = .ok (.ireturn, 1) := by decide +kernel
theorem dX6_readItem_104 : decode cX6_readItem 104 = .ok (.aload_n 0, 1) := by decide +kernel
theorem dX6_readItem_105 : decode cX6_readItem 105 = .ok (.invokevirtual 97, 3) := by decide +kernel
theorem dX6_readItem_108 : decode cX6_readItem 108 = .ok (.ireturn, 1) := by decide +kernel
theorem dX6_readItem_109 : decode cX6_readItem 109 = .ok (.iconst 0, 1) := by decide +kernel
theorem dX6_readItem_110 : decode cX6_readItem 110 = .ok (.ireturn, 1) := by decide +kernel
theorem dX6_readWide_0 : decode cX6_readWide 0 = .ok (.aload_n 0, 1) := by decide +kernel
theorem dX6_readWide_1 : decode cX6_readWide 1 = .ok (.dup, 1) := by decide +kernel
theorem dX6_readWide_2 : decode cX6_readWide 2 = .ok (.getfield 41, 3) := by decide +kernel
theorem dX6_readWide_5 : decode cX6_readWide 5 = .ok (.iconst 1, 1) := by decide +kernel
theorem dX6_readWide_6 : decode cX6_readWide 6 = .ok (.iadd, 1) := by decide +kernel
theorem dX6_readWide_7 : decode cX6_readWide 7 = .ok (.putfield 41, 3) := by decide +kernel
theorem dX6_readWide_10 : decode cX6_readWide 10 = .ok (.aload_n 0, 1) := by decide +kernel
theorem dX6_readWide_11 : decode cX6_readWide 11 = .ok (.iconst 1, 1) := by decide +kernel
theorem dX6_readWide_12 : decode cX6_readWide 12 = .ok (.iconst 5, 1) := by decide +kernel
theorem dX6_readWide_13 : decode cX6_readWide 13 = .ok (.invokevirtual 100, 3) := by decide +kernel
theorem dX6_readWide_16 : decode cX6_readWide 16 = .ok (.istore_n 1, 1) := by decide +kernel
theorem dX6_readWide_17 : decode cX6_readWide 17 = .ok (.iload_n 1, 1) := by decide +kernel
theorem dX6_readWide_18 : decode cX6_readWide 18 = .ok (.ifCond .ge 5, 3) := by decide +kernel
theorem dX6_readWide_21 : decode cX6_readWide 21 = .ok (.iconst 0, 1) := by decide +kernel
theorem dX6_readWide_22 : decode cX6_readWide 22 = .ok (.ireturn, 1) := by decide +kernel
theorem dX6_readWide_23 : decode cX6_readWide 23 = .ok (.aload_n 0, 1) := by decide +kernel
theorem dX6_readWide_24 : decode cX6_readWide 24 = .ok (.getfield 25, 3) := by decide +kernel
theorem dX6_readWide_27 : decode cX6_readWide 27 = .ok (.iload_n 1, 1) := by decide +kernel
theorem dX6_readWide_28 : decode cX6_readWide 28 = .ok (.putfield 103, 3) := by decide +kernel
theorem dX6_readWide_31 : decode cX6_readWide 31 = .ok (.iconst 1, 1) := by decide +kernel
theorem dX6_readWide_32 : decode cX6_readWide 32 = .ok (.ireturn, 1) := by decide +kernel
theorem dX6_readRow_0 : decode cX6_readRow 0 = .ok (.aload_n 0, 1) := by decide +kernel
theorem dX6_readRow_1 : decode cX6_readRow 1 = .ok (.getfield 25, 3) := by decide +kernel
theorem dX6_readRow_4 : decode cX6_readRow 4 = .ok (.getfield 103, 3) := by decide +kernel
theorem dX6_readRow_7 : decode cX6_readRow 7 = .ok (.ifCond .eq 26, 3) := by decide +kernel
theorem dX6_readRow_10 : decode cX6_readRow 10 = .ok (.aload_n 0, 1) := by decide +kernel
theorem dX6_readRow_11 : decode cX6_readRow 11 = .ok (.getfield 25, 3) := by decide +kernel
theorem dX6_readRow_14 : decode cX6_readRow 14 = .ok (.getfield 106, 3) := by decide +kernel
theorem dX6_readRow_17 : decode cX6_readRow 17 = .ok (.bipush (-9), 2) := by decide +kernel
theorem dX6_readRow_19 : decode cX6_readRow 19 = .ok (.if_icmp .ne 14, 3) := by decide +kernel
theorem dX6_readRow_22 : decode cX6_readRow 22 = .ok (.aload_n 0, 1) := by decide +kernel
theorem dX6_readRow_23 : decode cX6_readRow 23 = .ok (.getfield 25, 3) := by decide +kernel
theorem dX6_readRow_26 : decode cX6_readRow 26 = .ok (.getfield 109, 3) := by decide +kernel
theorem dX6_readRow_29 : decode cX6_readRow 29 = .ok (.iconst 4, 1) := by decide +kernel
theorem dX6_readRow_30 : decode cX6_readRow 30 = .ok (.if_icmp .lt 5, 3) := by decide +kernel
theorem dX6_readRow_33 : decode cX6_readRow 33 = .ok (.iconst 0, 1) := by decide +kernel
theorem dX6_readRow_34 : decode cX6_readRow 34 = .ok (.ireturn, 1) := by decide +kernel
theorem dX6_readRow_35 : decode cX6_readRow 35 = .ok (.aload_n 0, 1) := by decide +kernel
theorem dX6_readRow_36 : decode cX6_readRow 36 = .ok (.dup, 1) := by decide +kernel
theorem dX6_readRow_37 : decode cX6_readRow 37 = .ok (.getfield 41, 3) := by decide +kernel
theorem dX6_readRow_40 : decode cX6_readRow 40 = .ok (.iconst 1, 1) := by decide +kernel
theorem dX6_readRow_41 : decode cX6_readRow 41 = .ok (.iadd, 1) := by decide +kernel
theorem dX6_readRow_42 : decode cX6_readRow 42 = .ok (.putfield 41, 3) := by decide +kernel
theorem dX6_readRow_45 : decode cX6_readRow 45 = .ok (.iconst 0, 1) := by decide +kernel
theorem dX6_readRow_46 : decode cX6_readRow 46 = .ok (.istore_n 1, 1) := by decide +kernel
theorem dX6_readRow_47 : decode cX6_readRow 47 = .ok (.iload_n 1, 1) := by decide +kernel
theorem dX6_readRow_48 : decode cX6_readRow 48 = .ok (.aload_n 0, 1) := by decide +kernel
theorem dX6_readRow_49 : decode cX6_readRow 49 = .ok (.getfield 25, 3) := by decide +kernel
theorem dX6_readRow_52 : decode cX6_readRow 52 = .ok (.getfield 103, 3) := by decide +kernel
theorem dX6_readRow_55 : decode cX6_readRow 55 = .ok (.if_icmp .ge 35, 3) := by decide +kernel
theorem dX6_readRow_58 : decode cX6_readRow 58 = .ok (.iload_n 1, 1) := by decide +kernel
theorem dX6_readRow_59 : decode cX6_readRow 59 = .ok (.aload_n 0, 1) := by decide +kernel
theorem dX6_readRow_60 : decode cX6_readRow 60 = .ok (.getfield 25, 3) := by decide +kernel
theorem dX6_readRow_63 : decode cX6_readRow 63 = .ok (.getfield 109, 3) := by decide +kernel
theorem dX6_readRow_66 : decode cX6_readRow 66 = .ok (.invokestatic 112, 3) := by decide +kernel
theorem dX6_readRow_69 : decode cX6_readRow 69 = .ok (.istore_n 2, 1) := by decide +kernel
theorem dX6_readRow_70 : decode cX6_readRow 70 = .ok (.iload_n 2, 1) := by decide +kernel
theorem dX6_readRow_71 : decode cX6_readRow 71 = .ok (.ifCond .lt 11, 3) := by decide +kernel
theorem dX6_readRow_74 : decode cX6_readRow 74 = .ok (.aload_n 0, 1) := by decide +kernel
theorem dX6_readRow_75 : decode cX6_readRow 75 = .ok (.iload_n 2, 1) := by decide +kernel
theorem dX6_readRow_76 : decode cX6_readRow 76 = .ok (.invokevirtual 115, 3) := by decide +kernel
theorem dX6_readRow_79 : decode cX6_readRow 79 = .ok (.ifCond .ne 5, 3) := by decide +kernel
theorem dX6_readRow_82 : decode cX6_readRow 82 = .ok (.iconst 0, 1) := by decide +kernel
theorem dX6_readRow_83 : decode cX6_readRow 83 = .ok (.ireturn, 1) := by decide +kernel
theorem dX6_readRow_84 : decode cX6_readRow 84 = .ok (.iinc 1 1, 3) := by decide +kernel
theorem dX6_readRow_87 : decode cX6_readRow 87 = .ok (.goto (-40), 3) := by decide +kernel
theorem dX6_readRow_90 : decode cX6_readRow 90 = .ok (.aload_n 0, 1) := by decide +kernel
theorem dX6_readRow_91 : decode cX6_readRow 91 = .ok (.getfield 25, 3) := by decide +kernel
theorem dX6_readRow_94 : decode cX6_readRow 94 = .ok (.dup, 1) := by decide +kernel
theorem dX6_readRow_95 : decode cX6_readRow 95 = .ok (.getfield 109, 3) := by decide +kernel
theorem dX6_readRow_98 : decode cX6_readRow 98 = .ok (.iconst 1, 1) := by decide +kernel
theorem dX6_readRow_99 : decode cX6_readRow 99 = .ok (.iadd, 1) := by decide +kernel
theorem dX6_readRow_100 : decode cX6_readRow 100 = .ok (.putfield 109, 3) := by decide +kernel
theorem dX6_readRow_103 : decode cX6_readRow 103 = .ok (.iconst 1, 1) := by decide +kernel
theorem dX6_readRow_104 : decode cX6_readRow 104 = .ok (.ireturn, 1) := by decide +kernel
theorem dX6_readCell_0 : decode cX6_readCell 0 = .ok (.aload_n 0, 1) := by decide +kernel
theorem dX6_readCell_1 : decode cX6_readCell 1 = .ok (.bipush 120, 2) := by decide +kernel
theorem dX6_readCell_3 : decode cX6_readCell 3 = .ok (.invokevirtual 48, 3) := by decide +kernel
theorem dX6_readCell_6 : decode cX6_readCell 6 = .ok (.ifCond .eq 26, 3) := by decide +kernel
theorem dX6_readCell_9 : decode cX6_readCell 9 = .ok (.aload_n 0, 1) := by decide +kernel
theorem dX6_readCell_10 : decode cX6_readCell 10 = .ok (.dup, 1) := by decide +kernel
theorem dX6_readCell_11 : decode cX6_readCell 11 = .ok (.getfield 41, 3) := by decide +kernel
theorem dX6_readCell_14 : decode cX6_readCell 14 = .ok (.iconst 1, 1) := by decide +kernel
theorem dX6_readCell_15 : decode cX6_readCell 15 = .ok (.iadd, 1) := by decide +kernel
theorem dX6_readCell_16 : decode cX6_readCell 16 = .ok (.putfield 41, 3) := by decide +kernel
theorem dX6_readCell_19 : decode cX6_readCell 19 = .ok (.aload_n 0, 1) := by decide +kernel
theorem dX6_readCell_20 : decode cX6_readCell 20 = .ok (.getfield 25, 3) := by decide +kernel
theorem dX6_readCell_23 : decode cX6_readCell 23 = .ok (.getfield 118, 3) := by decide +kernel
theorem dX6_readCell_26 : decode cX6_readCell 26 = .ok (.iload_n 1, 1) := by decide +kernel
theorem dX6_readCell_27 : decode cX6_readCell 27 = .ok (.bipush 100, 2) := by decide +kernel
theorem dX6_readCell_29 : decode cX6_readCell 29 = .ok (.iastore, 1) := by decide +kernel
theorem dX6_readCell_30 : decode cX6_readCell 30 = .ok (.iconst 1, 1) := by decide +kernel
theorem dX6_readCell_31 : decode cX6_readCell 31 = .ok (.ireturn, 1) := by decide +kernel
theorem dX6_readCell_32 : decode cX6_readCell 32 = .ok (.aload_n 0, 1) := by decide +kernel
theorem dX6_readCell_33 : decode cX6_readCell 33 = .ok (.iconst 0, 1) := by decide +kernel
theorem dX6_readCell_34 : decode cX6_readCell 34 = .ok (.bipush 8, 2) := by decide +kernel
theorem dX6_readCell_36 : decode cX6_readCell 36 = .ok (.invokevirtual 100, 3) := by decide +kernel
theorem dX6_readCell_39 : decode cX6_readCell 39 = .ok (.istore_n 2, 1) := by decide +kernel
theorem dX6_readCell_40 : decode cX6_readCell 40 = .ok (.iload_n 2, 1) := by decide +kernel
theorem dX6_readCell_41 : decode cX6_readCell 41 = .ok (.ifCond .ge 5, 3) := by decide +kernel
theorem dX6_readCell_44 : decode cX6_readCell 44 = .ok (.iconst 0, 1) := by decide +kernel
theorem dX6_readCell_45 : decode cX6_readCell 45 = .ok (.ireturn, 1) := by decide +kernel
theorem dX6_readCell_46 : decode cX6_readCell 46 = .ok (.aload_n 0, 1) := by decide +kernel
theorem dX6_readCell_47 : decode cX6_readCell 47 = .ok (.getfield 25, 3) := by decide +kernel
theorem dX6_readCell_50 : decode cX6_readCell 50 = .ok (.getfield 118, 3) := by decide +kernel
theorem dX6_readCell_53 : decode cX6_readCell 53 = .ok (.iload_n 1, 1) := by decide +kernel
theorem dX6_readCell_54 : decode cX6_readCell 54 = .ok (.iload_n 2, 1) := by decide +kernel
theorem dX6_readCell_55 : decode cX6_readCell 55 = .ok (.iconst 4, 1) := by decide +kernel
theorem dX6_readCell_56 : decode cX6_readCell 56 = .ok (.isub, 1) := by decide +kernel
theorem dX6_readCell_57 : decode cX6_readCell 57 = .ok (.iastore, 1) := by decide +kernel
theorem dX6_readCell_58 : decode cX6_readCell 58 = .ok (.iconst 1, 1) := by decide +kernel
theorem dX6_readCell_59 : decode cX6_readCell 59 = .ok (.ireturn, 1) := by decide +kernel
theorem dX6_readStart_0 : decode cX6_readStart 0 = .ok (.aload_n 0, 1) := by decide +kernel
theorem dX6_readStart_1 : decode cX6_readStart 1 = .ok (.getfield 25, 3) := by decide +kernel
theorem dX6_readStart_4 : decode cX6_readStart 4 = .ok (.getfield 106, 3) := by decide +kernel
theorem dX6_readStart_7 : decode cX6_readStart 7 = .ok (.bipush (-9), 2) := by decide +kernel
theorem dX6_readStart_9 : decode cX6_readStart 9 = .ok (.if_icmp .eq 5, 3) := by decide +kernel
theorem dX6_readStart_12 : decode cX6_readStart 12 = .ok (.iconst 0, 1) := by decide +kernel
theorem dX6_readStart_13 : decode cX6_readStart 13 = .ok (.ireturn, 1) := by decide +kernel
theorem dX6_readStart_14 : decode cX6_readStart 14 = .ok (.aload_n 0, 1) := by decide +kernel
theorem dX6_readStart_15 : decode cX6_readStart 15 = .ok (.dup, 1) := by decide +kernel
theorem dX6_readStart_16 : decode cX6_readStart 16 = .ok (.getfield 41, 3) := by decide +kernel
theorem dX6_readStart_19 : decode cX6_readStart 19 = .ok (.iconst 1, 1) := by decide +kernel
theorem dX6_readStart_20 : decode cX6_readStart 20 = .ok (.iadd, 1) := by decide +kernel
theorem dX6_readStart_21 : decode cX6_readStart 21 = .ok (.putfield 41, 3) := by decide +kernel
theorem dX6_readStart_24 : decode cX6_readStart 24 = .ok (.aload_n 0, 1) := by decide +kernel
theorem dX6_readStart_25 : decode cX6_readStart 25 = .ok (.iconst 0, 1) := by decide +kernel
theorem dX6_readStart_26 : decode cX6_readStart 26 = .ok (.aload_n 0, 1) := by decide +kernel
theorem dX6_readStart_27 : decode cX6_readStart 27 = .ok (.getfield 25, 3) := by decide +kernel
theorem dX6_readStart_30 : decode cX6_readStart 30 = .ok (.getfield 103, 3) := by decide +kernel
theorem dX6_readStart_33 : decode cX6_readStart 33 = .ok (.iconst 1, 1) := by decide +kernel
theorem dX6_readStart_34 : decode cX6_readStart 34 = .ok (.isub, 1) := by decide +kernel
theorem dX6_readStart_35 : decode cX6_readStart 35 = .ok (.invokevirtual 100, 3) := by decide +kernel
theorem dX6_readStart_38 : decode cX6_readStart 38 = .ok (.istore_n 1, 1) := by decide +kernel
theorem dX6_readStart_39 : decode cX6_readStart 39 = .ok (.iload_n 1, 1) := by decide +kernel
theorem dX6_readStart_40 : decode cX6_readStart 40 = .ok (.ifCond .lt 31, 3) := by decide +kernel
theorem dX6_readStart_43 : decode cX6_readStart 43 = .ok (.aload_n 0, 1) := by decide +kernel
theorem dX6_readStart_44 : decode cX6_readStart 44 = .ok (.bipush (-2), 2) := by decide +kernel
theorem dX6_readStart_46 : decode cX6_readStart 46 = .ok (.invokevirtual 48, 3) := by decide +kernel
theorem dX6_readStart_49 : decode cX6_readStart 49 = .ok (.ifCond .eq 22, 3) := by decide +kernel
theorem dX6_readStart_52 : decode cX6_readStart 52 = .ok (.aload_n 0, 1) := by decide +kernel
theorem dX6_readStart_53 : decode cX6_readStart 53 = .ok (.getfield 15, 3) := by decide +kernel
theorem dX6_readStart_56 : decode cX6_readStart 56 = .ok (.aload_n 0, 1) := by decide +kernel
theorem dX6_readStart_57 : decode cX6_readStart 57 = .ok (.getfield 41, 3) := by decide +kernel
theorem dX6_readStart_60 : decode cX6_readStart 60 = .ok (.iaload, 1) := by decide +kernel
theorem dX6_readStart_61 : decode cX6_readStart 61 = .ok (.aload_n 0, 1) := by decide +kernel
theorem dX6_readStart_62 : decode cX6_readStart 62 = .ok (.getfield 25, 3) := by decide +kernel
theorem dX6_readStart_65 : decode cX6_readStart 65 = .ok (.getfield 109, 3) := by decide +kernel
theorem dX6_readStart_68 : decode cX6_readStart 68 = .ok (.if_icmp .lt 5, 3) := by decide +kernel
theorem dX6_readStart_71 : decode cX6_readStart 71 = .ok (.iconst 0, 1) := by decide +kernel
theorem dX6_readStart_72 : decode cX6_readStart 72 = .ok (.ireturn, 1) := by decide +kernel
theorem dX6_readStart_73 : decode cX6_readStart 73 = .ok (.iload_n 1, 1) := by decide +kernel
theorem dX6_readStart_74 : decode cX6_readStart 74 = .ok (.aload_n 0, 1) := by decide +kernel
theorem dX6_readStart_75 : decode cX6_readStart 75 = .ok (.getfield 15, 3) := by decide +kernel
theorem dX6_readStart_78 : decode cX6_readStart 78 = .ok (.aload_n 0, 1) := by decide +kernel
theorem dX6_readStart_79 : decode cX6_readStart 79 = .ok (.getfield 41, 3) := by decide +kernel
theorem dX6_readStart_82 : decode cX6_readStart 82 = .ok (.iaload, 1) := by decide +kernel
theorem dX6_readStart_83 : decode cX6_readStart 83 = .ok (.invokestatic 112, 3) := by decide +kernel
theorem dX6_readStart_86 : decode cX6_readStart 86 = .ok (.istore_n 2, 1) := by decide +kernel
theorem dX6_readStart_87 : decode cX6_readStart 87 = .ok (.iload_n 2, 1) := by decide +kernel
theorem dX6_readStart_88 : decode cX6_readStart 88 = .ok (.ifCond .lt 17, 3) := by decide +kernel
theorem dX6_readStart_91 : decode cX6_readStart 91 = .ok (.aload_n 0, 1) := by decide +kernel
theorem dX6_readStart_92 : decode cX6_readStart 92 = .ok (.getfield 25, 3) := by decide +kernel
theorem dX6_readStart_95 : decode cX6_readStart 95 = .ok (.getfield 118, 3) := by decide +kernel
theorem dX6_readStart_98 : decode cX6_readStart 98 = .ok (.iload_n 2, 1) := by decide +kernel
theorem dX6_readStart_99 : decode cX6_readStart 99 = .ok (.iaload, 1) := by decide +kernel
theorem dX6_readStart_100 : decode cX6_readStart 100 = .ok (.bipush 100, 2) := by decide +kernel
theorem dX6_readStart_102 : decode cX6_readStart 102 = .ok (.if_icmp .ne 5, 3) := by decide +kernel
theorem dX6_readStart_105 : decode cX6_readStart 105 = .ok (.iconst 0, 1) := by decide +kernel
theorem dX6_readStart_106 : decode cX6_readStart 106 = .ok (.ireturn, 1) := by decide +kernel
