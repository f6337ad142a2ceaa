theorem dX10_undo_22 : decode cX10_undo 22 = .ok (.putfield 137, 3) := by decide +kernel
theorem dX10_undo_25 : decode cX10_undo 25 = .ok (.iconst 0, 1) := by decide +kernel
theorem dX10_undo_26 : decode cX10_undo 26 = .ok (.istore_n 1, 1) := by decide +kernel
theorem dX10_undo_27 : decode cX10_undo 27 = .ok (.iload_n 1, 1) := by decide +kernel
theorem dX10_undo_28 : decode cX10_undo 28 = .ok (.bipush 27, 2) := by decide +kernel
theorem dX10_undo_30 : decode cX10_undo 30 = .ok (.if_icmp .ge 29, 3) := by decide +kernel
theorem dX10_undo_33 : decode cX10_undo 33 = .ok (.aload_n 0, 1) := by decide +kernel
theorem dX10_undo_34 : decode cX10_undo 34 = .ok (.getfield 19, 3) := by decide +kernel
theorem dX10_undo_37 : decode cX10_undo 37 = .ok (.iload_n 1, 1) := by decide +kernel
theorem dX10_undo_38 : decode cX10_undo 38 = .ok (.aload_n 0, 1) := by decide +kernel
theorem dX10_undo_39 : decode cX10_undo 39 = .ok (.getfield 29, 3) := by decide +kernel
theorem dX10_undo_42 : decode cX10_undo 42 = .ok (.bipush 27, 2) := by decide +kernel
theorem dX10_undo_44 : decode cX10_undo 44 = .ok (.aload_n 0, 1) := by decide +kernel
theorem dX10_undo_45 : decode cX10_undo 45 = .ok (.getfield 137, 3) := by decide +kernel
theorem dX10_undo_48 : decode cX10_undo 48 = .ok (.imul, 1) := by decide +kernel
theorem dX10_undo_49 : decode cX10_undo 49 = .ok (.iload_n 1, 1) := by decide +kernel
theorem dX10_undo_50 : decode cX10_undo 50 = .ok (.iadd, 1) := by decide +kernel
theorem dX10_undo_51 : decode cX10_undo 51 = .ok (.iaload, 1) := by decide +kernel
theorem dX10_undo_52 : decode cX10_undo 52 = .ok (.iastore, 1) := by decide +kernel
theorem dX10_undo_53 : decode cX10_undo 53 = .ok (.iinc 1 1, 3) := by decide +kernel
theorem dX10_undo_56 : decode cX10_undo 56 = .ok (.goto (-29), 3) := by decide +kernel
theorem dX10_undo_59 : decode cX10_undo 59 = .ok (.aload_n 0, 1) := by decide +kernel
theorem dX10_undo_60 : decode cX10_undo 60 = .ok (.getfield 137, 3) := by decide +kernel
theorem dX10_undo_63 : decode cX10_undo 63 = .ok (.ireturn, 1) := by decide +kernel
theorem dX10_would_0 : decode cX10_would 0 = .ok (.aload_n 0, 1) := by decide +kernel
theorem dX10_would_1 : decode cX10_would 1 = .ok (.iconst 0, 1) := by decide +kernel
theorem dX10_would_2 : decode cX10_would 2 = .ok (.putfield 56, 3) := by decide +kernel
theorem dX10_would_5 : decode cX10_would 5 = .ok (.iload_n 1, 1) := by decide +kernel
theorem dX10_would_6 : decode cX10_would 6 = .ok (.iconst 0, 1) := by decide +kernel
theorem dX10_would_7 : decode cX10_would 7 = .ok (.iconst 3, 1) := by decide +kernel
theorem dX10_would_8 : decode cX10_would 8 = .ok (.invokestatic 60, 3) := by decide +kernel
theorem dX10_would_11 : decode cX10_would 11 = .ok (.ifCond .ne 5, 3) := by decide +kernel
theorem dX10_would_14 : decode cX10_would 14 = .ok (.iconst (-1), 1) := by decide +kernel
theorem dX10_would_15 : decode cX10_would 15 = .ok (.ireturn, 1) := by decide +kernel
theorem dX10_would_16 : decode cX10_would 16 = .ok (.aload_n 0, 1) := by decide +kernel
theorem dX10_would_17 : decode cX10_would 17 = .ok (.invokevirtual 154, 3) := by decide +kernel
theorem dX10_would_20 : decode cX10_would 20 = .ok (.ifCond .eq 23, 3) := by decide +kernel
theorem dX10_would_23 : decode cX10_would 23 = .ok (.aload_n 0, 1) := by decide +kernel
theorem dX10_would_24 : decode cX10_would 24 = .ok (.aload_n 0, 1) := by decide +kernel
theorem dX10_would_25 : decode cX10_would 25 = .ok (.getfield 19, 3) := by decide +kernel
theorem dX10_would_28 : decode cX10_would 28 = .ok (.iconst 0, 1) := by decide +kernel
theorem dX10_would_29 : decode cX10_would 29 = .ok (.iaload, 1) := by decide +kernel
theorem dX10_would_30 : decode cX10_would 30 = .ok (.aload_n 0, 1) := by decide +kernel
theorem dX10_would_31 : decode cX10_would 31 = .ok (.getfield 19, 3) := by decide +kernel
theorem dX10_would_34 : decode cX10_would 34 = .ok (.iconst 1, 1) := by decide +kernel
theorem dX10_would_35 : decode cX10_would 35 = .ok (.iaload, 1) := by decide +kernel
theorem dX10_would_36 : decode cX10_would 36 = .ok (.iload_n 1, 1) := by decide +kernel
theorem dX10_would_37 : decode cX10_would 37 = .ok (.invokevirtual 157, 3) := by decide +kernel
theorem dX10_would_40 : decode cX10_would 40 = .ok (.goto 4, 3) := by decide +kernel
theorem dX10_would_43 : decode cX10_would 43 = .ok (.iconst 3, 1) := by decide +kernel
theorem dX10_would_44 : decode cX10_would 44 = .ok (.istore_n 2, 1) := by decide +kernel
theorem dX10_would_45 : decode cX10_would 45 = .ok (.iload_n 2, 1) := by decide +kernel
theorem dX10_would_46 : decode cX10_would 46 = .ok (.iconst 3, 1) := by decide +kernel
theorem dX10_would_47 : decode cX10_would 47 = .ok (.if_icmp .ne 8, 3) := by decide +kernel
theorem dX10_would_50 : decode cX10_would 50 = .ok (.bipush (-2), 2) := by decide +kernel
theorem dX10_would_52 : decode cX10_would 52 = .ok (.goto 4, 3) := by decide +kernel
theorem dX10_would_55 : decode cX10_would 55 = .ok (.iload_n 2, 1) := by decide +kernel
theorem dX10_would_56 : decode cX10_would 56 = .ok (.ireturn, 1) := by decide +kernel
theorem dX10_spot_0 : decode cX10_spot 0 = .ok (.bipush 17, 2) := by decide +kernel
theorem dX10_spot_2 : decode cX10_spot 2 = .ok (.iload_n 0, 1) := by decide +kernel
theorem dX10_spot_3 : decode cX10_spot 3 = .ok (.imul, 1) := by decide +kernel
theorem dX10_spot_4 : decode cX10_spot 4 = .ok (.iload_n 1, 1) := by decide +kernel
theorem dX10_spot_5 : decode cX10_spot 5 = .ok (.iadd, 1) := by decide +kernel
theorem dX10_spot_6 : decode cX10_spot 6 = .ok (.bipush 8, 2) := by decide +kernel
theorem dX10_spot_8 : decode cX10_spot 8 = .ok (.iadd, 1) := by decide +kernel
theorem dX10_spot_9 : decode cX10_spot 9 = .ok (.ireturn, 1) := by decide +kernel
theorem dX10_winnerBehind_0 : decode cX10_winnerBehind 0 = .ok (.iload_n 1, 1) := by decide +kernel
theorem dX10_winnerBehind_1 : decode cX10_winnerBehind 1 = .ok (.ifCond .ne 28, 3) := by decide +kernel
theorem dX10_winnerBehind_4 : decode cX10_winnerBehind 4 = .ok (.aload_n 0, 1) := by decide +kernel
theorem dX10_winnerBehind_5 : decode cX10_winnerBehind 5 = .ok (.getfield 35, 3) := by decide +kernel
theorem dX10_winnerBehind_8 : decode cX10_winnerBehind 8 = .ok (.iconst 2, 1) := by decide +kernel
theorem dX10_winnerBehind_9 : decode cX10_winnerBehind 9 = .ok (.aload_n 0, 1) := by decide +kernel
theorem dX10_winnerBehind_10 : decode cX10_winnerBehind 10 = .ok (.getfield 144, 3) := by decide +kernel
theorem dX10_winnerBehind_13 : decode cX10_winnerBehind 13 = .ok (.aload_n 0, 1) := by decide +kernel
theorem dX10_winnerBehind_14 : decode cX10_winnerBehind 14 = .ok (.getfield 147, 3) := by decide +kernel
theorem dX10_winnerBehind_17 : decode cX10_winnerBehind 17 = .ok (.invokestatic 164, 3) := by decide +kernel
theorem dX10_winnerBehind_20 : decode cX10_winnerBehind 20 = .ok (.imul, 1) := by decide +kernel
theorem dX10_winnerBehind_21 : decode cX10_winnerBehind 21 = .ok (.iconst 1, 1) := by decide +kernel
theorem dX10_winnerBehind_22 : decode cX10_winnerBehind 22 = .ok (.iadd, 1) := by decide +kernel
theorem dX10_winnerBehind_23 : decode cX10_winnerBehind 23 = .ok (.iload_n 2, 1) := by decide +kernel
theorem dX10_winnerBehind_24 : decode cX10_winnerBehind 24 = .ok (.isub, 1) := by decide +kernel
theorem dX10_winnerBehind_25 : decode cX10_winnerBehind 25 = .ok (.iaload, 1) := by decide +kernel
theorem dX10_winnerBehind_26 : decode cX10_winnerBehind 26 = .ok (.goto 4, 3) := by decide +kernel
theorem dX10_winnerBehind_29 : decode cX10_winnerBehind 29 = .ok (.iload_n 1, 1) := by decide +kernel
theorem dX10_winnerBehind_30 : decode cX10_winnerBehind 30 = .ok (.ireturn, 1) := by decide +kernel
theorem dX10_pushesBehind_0 : decode cX10_pushesBehind 0 = .ok (.iload_n 1, 1) := by decide +kernel
theorem dX10_pushesBehind_1 : decode cX10_pushesBehind 1 = .ok (.ifCond .ne 28, 3) := by decide +kernel
theorem dX10_pushesBehind_4 : decode cX10_pushesBehind 4 = .ok (.aload_n 0, 1) := by decide +kernel
theorem dX10_pushesBehind_5 : decode cX10_pushesBehind 5 = .ok (.getfield 38, 3) := by decide +kernel
theorem dX10_pushesBehind_8 : decode cX10_pushesBehind 8 = .ok (.iconst 2, 1) := by decide +kernel
theorem dX10_pushesBehind_9 : decode cX10_pushesBehind 9 = .ok (.aload_n 0, 1) := by decide +kernel
theorem dX10_pushesBehind_10 : decode cX10_pushesBehind 10 = .ok (.getfield 144, 3) := by decide +kernel
theorem dX10_pushesBehind_13 : decode cX10_pushesBehind 13 = .ok (.aload_n 0, 1) := by decide +kernel
theorem dX10_pushesBehind_14 : decode cX10_pushesBehind 14 = .ok (.getfield 147, 3) := by decide +kernel
theorem dX10_pushesBehind_17 : decode cX10_pushesBehind 17 = .ok (.invokestatic 164, 3) := by decide +kernel
theorem dX10_pushesBehind_20 : decode cX10_pushesBehind 20 = .ok (.imul, 1) := by decide +kernel
theorem dX10_pushesBehind_21 : decode cX10_pushesBehind 21 = .ok (.iconst 1, 1) := by decide +kernel
theorem dX10_pushesBehind_22 : decode cX10_pushesBehind 22 = .ok (.iadd, 1) := by decide +kernel
theorem dX10_pushesBehind_23 : decode cX10_pushesBehind 23 = .ok (.iload_n 2, 1) := by decide +kernel
theorem dX10_pushesBehind_24 : decode cX10_pushesBehind 24 = .ok (.isub, 1) := by decide +kernel
theorem dX10_pushesBehind_25 : decode cX10_pushesBehind 25 = .ok (.iaload, 1) := by decide +kernel
theorem dX10_pushesBehind_26 : decode cX10_pushesBehind 26 = .ok (.goto 4, 3) := by decide +kernel
theorem dX10_pushesBehind_29 : decode cX10_pushesBehind 29 = .ok (.iconst 0, 1) := by decide +kernel
theorem dX10_pushesBehind_30 : decode cX10_pushesBehind 30 = .ok (.ireturn, 1) := by decide +kernel
theorem dX10_isIn_0 : decode cX10_isIn 0 = .ok (.iconst 0, 1) := by decide +kernel
theorem dX10_isIn_1 : decode cX10_isIn 1 = .ok (.istore 5, 2) := by decide +kernel
theorem dX10_isIn_3 : decode cX10_isIn 3 = .ok (.iconst 0, 1) := by decide +kernel
theorem dX10_isIn_4 : decode cX10_isIn 4 = .ok (.istore 6, 2) := by decide +kernel
theorem dX10_isIn_6 : decode cX10_isIn 6 = .ok (.iconst (-1), 1) := by decide +kernel
theorem dX10_isIn_7 : decode cX10_isIn 7 = .ok (.istore 7, 2) := by decide +kernel
theorem dX10_isIn_9 : decode cX10_isIn 9 = .ok (.iconst 2, 1) := by decide +kernel
theorem dX10_isIn_10 : decode cX10_isIn 10 = .ok (.iload_n 1, 1) := by decide +kernel
theorem dX10_isIn_11 : decode cX10_isIn 11 = .ok (.iload_n 2, 1) := by decide +kernel
theorem dX10_isIn_12 : decode cX10_isIn 12 = .ok (.invokestatic 164, 3) := by decide +kernel
theorem dX10_isIn_15 : decode cX10_isIn 15 = .ok (.imul, 1) := by decide +kernel
theorem dX10_isIn_16 : decode cX10_isIn 16 = .ok (.iload_n 3, 1) := by decide +kernel
theorem dX10_isIn_17 : decode cX10_isIn 17 = .ok (.iadd, 1) := by decide +kernel
theorem dX10_isIn_18 : decode cX10_isIn 18 = .ok (.istore 8, 2) := by decide +kernel
theorem dX10_isIn_20 : decode cX10_isIn 20 = .ok (.iconst 0, 1) := by decide +kernel
theorem dX10_isIn_21 : decode cX10_isIn 21 = .ok (.istore 9, 2) := by decide +kernel
theorem dX10_isIn_23 : decode cX10_isIn 23 = .ok (.iload 9, 2) := by decide +kernel
theorem dX10_isIn_25 : decode cX10_isIn 25 = .ok (.iconst 4, 1) := by decide +kernel
theorem dX10_isIn_26 : decode cX10_isIn 26 = .ok (.if_icmp .ge 125, 3) := by decide +kernel
theorem dX10_isIn_29 : decode cX10_isIn 29 = .ok (.aload_n 0, 1) := by decide +kernel
theorem dX10_isIn_30 : decode cX10_isIn 30 = .ok (.iload_n 1, 1) := by decide +kernel
theorem dX10_isIn_31 : decode cX10_isIn 31 = .ok (.iload_n 2, 1) := by decide +kernel
theorem dX10_isIn_32 : decode cX10_isIn 32 = .ok (.iload 9, 2) := by decide +kernel
theorem dX10_isIn_34 : decode cX10_isIn 34 = .ok (.invokevirtual 157, 3) := by decide +kernel
theorem dX10_isIn_37 : decode cX10_isIn 37 = .ok (.istore 10, 2) := by decide +kernel
theorem dX10_isIn_39 : decode cX10_isIn 39 = .ok (.iload 10, 2) := by decide +kernel
theorem dX10_isIn_41 : decode cX10_isIn 41 = .ok (.iconst 3, 1) := by decide +kernel
theorem dX10_isIn_42 : decode cX10_isIn 42 = .ok (.if_icmp .eq 103, 3) := by decide +kernel
theorem dX10_isIn_45 : decode cX10_isIn 45 = .ok (.aload_n 0, 1) := by decide +kernel
theorem dX10_isIn_46 : decode cX10_isIn 46 = .ok (.iload 10, 2) := by decide +kernel
theorem dX10_isIn_48 : decode cX10_isIn 48 = .ok (.iload_n 3, 1) := by decide +kernel
theorem dX10_isIn_49 : decode cX10_isIn 49 = .ok (.invokevirtual 167, 3) := by decide +kernel
theorem dX10_isIn_52 : decode cX10_isIn 52 = .ok (.istore 11, 2) := by decide +kernel
theorem dX10_isIn_54 : decode cX10_isIn 54 = .ok (.aload_n 0, 1) := by decide +kernel
theorem dX10_isIn_55 : decode cX10_isIn 55 = .ok (.iload 10, 2) := by decide +kernel
theorem dX10_isIn_57 : decode cX10_isIn 57 = .ok (.iload_n 3, 1) := by decide +kernel
theorem dX10_isIn_58 : decode cX10_isIn 58 = .ok (.invokevirtual 170, 3) := by decide +kernel
theorem dX10_isIn_61 : decode cX10_isIn 61 = .ok (.istore 12, 2) := by decide +kernel
theorem dX10_isIn_63 : decode cX10_isIn 63 = .ok (.iload 11, 2) := by decide +kernel
theorem dX10_isIn_65 : decode cX10_isIn 65 = .ok (.iload_n 3, 1) := by decide +kernel
theorem dX10_isIn_66 : decode cX10_isIn 66 = .ok (.iconst 1, 1) := by decide +kernel
theorem dX10_isIn_67 : decode cX10_isIn 67 = .ok (.iadd, 1) := by decide +kernel
theorem dX10_isIn_68 : decode cX10_isIn 68 = .ok (.if_icmp .ne 32, 3) := by decide +kernel
theorem dX10_isIn_71 : decode cX10_isIn 71 = .ok (.iload 12, 2) := by decide +kernel
theorem dX10_isIn_73 : decode cX10_isIn 73 = .ok (.iload 4, 2) := by decide +kernel
theorem dX10_isIn_75 : decode cX10_isIn 75 = .ok (.iconst 1, 1) := by decide +kernel
theorem dX10_isIn_76 : decode cX10_isIn 76 = .ok (.isub, 1) := by decide +kernel
theorem dX10_isIn_77 : decode cX10_isIn 77 = .ok (.if_icmp .ne 23, 3) := by decide +kernel
theorem dX10_isIn_80 : decode cX10_isIn 80 = .ok (.aload_n 0, 1) := by decide +kernel
theorem dX10_isIn_81 : decode cX10_isIn 81 = .ok (.getfield 35, 3) := by decide +kernel
theorem dX10_isIn_84 : decode cX10_isIn 84 = .ok (.iload 8, 2) := by decide +kernel
theorem dX10_isIn_86 : decode cX10_isIn 86 = .ok (.iload 11, 2) := by decide +kernel
theorem dX10_isIn_88 : decode cX10_isIn 88 = .ok (.iastore, 1) := by decide +kernel
theorem dX10_isIn_89 : decode cX10_isIn 89 = .ok (.aload_n 0, 1) := by decide +kernel
theorem dX10_isIn_90 : decode cX10_isIn 90 = .ok (.getfield 38, 3) := by decide +kernel
theorem dX10_isIn_93 : decode cX10_isIn 93 = .ok (.iload 8, 2) := by decide +kernel
theorem dX10_isIn_95 : decode cX10_isIn 95 = .ok (.iload 4, 2) := by decide +kernel
theorem dX10_isIn_97 : decode cX10_isIn 97 = .ok (.iastore, 1) := by decide +kernel
theorem dX10_isIn_98 : decode cX10_isIn 98 = .ok (.iconst 1, 1) := by decide +kernel
theorem dX10_isIn_99 : decode cX10_isIn 99 = .ok (.ireturn, 1) := by decide +kernel
theorem dX10_isIn_100 : decode cX10_isIn 100 = .ok (.iinc 5 1, 3) := by decide +kernel
theorem dX10_isIn_103 : decode cX10_isIn 103 = .ok (.iload 6, 2) := by decide +kernel
theorem dX10_isIn_105 : decode cX10_isIn 105 = .ok (.iload 11, 2) := by decide +kernel
theorem dX10_isIn_107 : decode cX10_isIn 107 = .ok (.iconst 2, 1) := by decide +kernel
theorem dX10_isIn_108 : decode cX10_isIn 108 = .ok (.iload_n 3, 1) := by decide +kernel
theorem dX10_isIn_109 : decode cX10_isIn 109 = .ok (.isub, 1) := by decide +kernel
theorem dX10_isIn_110 : decode cX10_isIn 110 = .ok (.if_icmp .ne 7, 3) := by decide +kernel
theorem dX10_isIn_113 : decode cX10_isIn 113 = .ok (.iconst 1, 1) := by decide +kernel
theorem dX10_isIn_114 : decode cX10_isIn 114 = .ok (.goto 4, 3) := by decide +kernel
theorem dX10_isIn_117 : decode cX10_isIn 117 = .ok (.iconst 0, 1) := by decide +kernel
theorem dX10_isIn_118 : decode cX10_isIn 118 = .ok (.iadd, 1) := by decide +kernel
theorem dX10_isIn_119 : decode cX10_isIn 119 = .ok (.istore 6, 2) := by decide +kernel
theorem dX10_isIn_121 : decode cX10_isIn 121 = .ok (.iload 11, 2) := by decide +kernel
theorem dX10_isIn_123 : decode cX10_isIn 123 = .ok (.iconst 2, 1) := by decide +kernel
theorem dX10_isIn_124 : decode cX10_isIn 124 = .ok (.iload_n 3, 1) := by decide +kernel
theorem dX10_isIn_125 : decode cX10_isIn 125 = .ok (.isub, 1) := by decide +kernel
theorem dX10_isIn_126 : decode cX10_isIn 126 = .ok (.if_icmp .ne 15, 3) := by decide +kernel
theorem dX10_isIn_129 : decode cX10_isIn 129 = .ok (.iload 12, 2) := by decide +kernel
theorem dX10_isIn_131 : decode cX10_isIn 131 = .ok (.iload 7, 2) := by decide +kernel
theorem dX10_isIn_133 : decode cX10_isIn 133 = .ok (.if_icmp .le 8, 3) := by decide +kernel
theorem dX10_isIn_136 : decode cX10_isIn 136 = .ok (.iload 12, 2) := by decide +kernel
theorem dX10_isIn_138 : decode cX10_isIn 138 = .ok (.goto 5, 3) := by decide +kernel
theorem dX10_isIn_141 : decode cX10_isIn 141 = .ok (.iload 7, 2) := by decide +kernel
theorem dX10_isIn_143 : decode cX10_isIn 143 = .ok (.istore 7, 2) := by decide +kernel
theorem dX10_isIn_145 : decode cX10_isIn 145 = .ok (.iinc 9 1, 3) := by decide +kernel
theorem dX10_isIn_148 : decode cX10_isIn 148 = .ok (.goto (-125), 3) := by decide +kernel
theorem dX10_isIn_151 : decode cX10_isIn 151 = .ok (.iload 6, 2) := by decide +kernel
theorem dX10_isIn_153 : decode cX10_isIn 153 = .ok (.iload 5, 2) := by decide +kernel
theorem dX10_isIn_155 : decode cX10_isIn 155 = .ok (.if_icmp .ne 33, 3) := by decide +kernel
theorem dX10_isIn_158 : decode cX10_isIn 158 = .ok (.iload 7, 2) := by decide +kernel
theorem dX10_isIn_160 : decode cX10_isIn 160 = .ok (.iload 4, 2) := by decide +kernel
theorem dX10_isIn_162 : decode cX10_isIn 162 = .ok (.iconst 1, 1) := by decide +kernel
theorem dX10_isIn_163 : decode cX10_isIn 163 = .ok (.isub, 1) := by decide +kernel
theorem dX10_isIn_164 : decode cX10_isIn 164 = .ok (.if_icmp .ne 24, 3) := by decide +kernel
theorem dX10_isIn_167 : decode cX10_isIn 167 = .ok (.aload_n 0, 1) := by decide +kernel
theorem dX10_isIn_168 : decode cX10_isIn 168 = .ok (.getfield 35, 3) := by decide +kernel
theorem dX10_isIn_171 : decode cX10_isIn 171 = .ok (.iload 8, 2) := by decide +kernel
theorem dX10_isIn_173 : decode cX10_isIn 173 = .ok (.iconst 2, 1) := by decide +kernel
theorem dX10_isIn_174 : decode cX10_isIn 174 = .ok (.iload_n 3, 1) := by decide +kernel
theorem dX10_isIn_175 : decode cX10_isIn 175 = .ok (.isub, 1) := by decide +kernel
theorem dX10_isIn_176 : decode cX10_isIn 176 = .ok (.iastore, 1) := by decide +kernel
theorem dX10_isIn_177 : decode cX10_isIn 177 = .ok (.aload_n 0, 1) := by decide +kernel
theorem dX10_isIn_178 : decode cX10_isIn 178 = .ok (.getfield 38, 3) := by decide +kernel
theorem dX10_isIn_181 : decode cX10_isIn 181 = .ok (.iload 8, 2) := by decide +kernel
theorem dX10_isIn_183 : decode cX10_isIn 183 = .ok (.iload 4, 2) := by decide +kernel
theorem dX10_isIn_185 : decode cX10_isIn 185 = .ok (.iastore, 1) := by decide +kernel
theorem dX10_isIn_186 : decode cX10_isIn 186 = .ok (.iconst 1, 1) := by decide +kernel
theorem dX10_isIn_187 : decode cX10_isIn 187 = .ok (.ireturn, 1) := by decide +kernel
theorem dX10_isIn_188 : decode cX10_isIn 188 = .ok (.iconst 0, 1) := by decide +kernel
theorem dX10_isIn_189 : decode cX10_isIn 189 = .ok (.ireturn, 1) := by decide +kernel
theorem dX10_rounds_0 : decode cX10_rounds 0 = .ok (.iconst 0, 1) := by decide +kernel
theorem dX10_rounds_1 : decode cX10_rounds 1 = .ok (.istore_n 2, 1) := by decide +kernel
theorem dX10_rounds_2 : decode cX10_rounds 2 = .ok (.iconst 0, 1) := by decide +kernel
theorem dX10_rounds_3 : decode cX10_rounds 3 = .ok (.istore_n 3, 1) := by decide +kernel
theorem dX10_rounds_4 : decode cX10_rounds 4 = .ok (.iload_n 3, 1) := by decide +kernel
theorem dX10_rounds_5 : decode cX10_rounds 5 = .ok (.sipush 680, 3) := by decide +kernel
theorem dX10_rounds_8 : decode cX10_rounds 8 = .ok (.if_icmp .ge 110, 3) := by decide +kernel
theorem dX10_rounds_11 : decode cX10_rounds 11 = .ok (.iload_n 3, 1) := by decide +kernel
theorem dX10_rounds_12 : decode cX10_rounds 12 = .ok (.bipush 34, 2) := by decide +kernel
theorem dX10_rounds_14 : decode cX10_rounds 14 = .ok (.idiv, 1) := by decide +kernel
theorem dX10_rounds_15 : decode cX10_rounds 15 = .ok (.istore 4, 2) := by decide +kernel
theorem dX10_rounds_17 : decode cX10_rounds 17 = .ok (.iload_n 3, 1) := by decide +kernel
theorem dX10_rounds_18 : decode cX10_rounds 18 = .ok (.iconst 2, 1) := by decide +kernel
theorem dX10_rounds_19 : decode cX10_rounds 19 = .ok (.idiv, 1) := by decide +kernel
theorem dX10_rounds_20 : decode cX10_rounds 20 = .ok (.bipush 17, 2) := by decide +kernel
theorem dX10_rounds_22 : decode cX10_rounds 22 = .ok (.irem, 1) := by decide +kernel
theorem dX10_rounds_23 : decode cX10_rounds 23 = .ok (.bipush 8, 2) := by decide +kernel
theorem dX10_rounds_25 : decode cX10_rounds 25 = .ok (.isub, 1) := by decide +kernel
theorem dX10_rounds_26 : decode cX10_rounds 26 = .ok (.istore 5, 2) := by decide +kernel
theorem dX10_rounds_28 : decode cX10_rounds 28 = .ok (.aload_n 0, 1) := by decide +kernel
theorem dX10_rounds_29 : decode cX10_rounds 29 = .ok (.getfield 35, 3) := by decide +kernel
theorem dX10_rounds_32 : decode cX10_rounds 32 = .ok (.iload_n 3, 1) := by decide +kernel
theorem dX10_rounds_33 : decode cX10_rounds 33 = .ok (.iaload, 1) := by decide +kernel
theorem dX10_rounds_34 : decode cX10_rounds 34 = .ok (.ifCond .ne 45, 3) := by decide +kernel
theorem dX10_rounds_37 : decode cX10_rounds 37 = .ok (.aload_n 0, 1) := by decide +kernel
theorem dX10_rounds_38 : decode cX10_rounds 38 = .ok (.iload 4, 2) := by decide +kernel
theorem dX10_rounds_40 : decode cX10_rounds 40 = .ok (.iconst 5, 1) := by decide +kernel
theorem dX10_rounds_41 : decode cX10_rounds 41 = .ok (.irem, 1) := by decide +kernel
theorem dX10_rounds_42 : decode cX10_rounds 42 = .ok (.iload 4, 2) := by decide +kernel
theorem dX10_rounds_44 : decode cX10_rounds 44 = .ok (.iconst 5, 1) := by decide +kernel
theorem dX10_rounds_45 : decode cX10_rounds 45 = .ok (.idiv, 1) := by decide +kernel
theorem dX10_rounds_46 : decode cX10_rounds 46 = .ok (.invokevirtual 140, 3) := by decide +kernel
theorem dX10_rounds_49 : decode cX10_rounds 49 = .ok (.ifCond .eq 30, 3) := by decide +kernel
theorem dX10_rounds_52 : decode cX10_rounds 52 = .ok (.iload 5, 2) := by decide +kernel
theorem dX10_rounds_54 : decode cX10_rounds 54 = .ok (.aload_n 0, 1) := by decide +kernel
theorem dX10_rounds_55 : decode cX10_rounds 55 = .ok (.getfield 13, 3) := by decide +kernel
theorem dX10_rounds_58 : decode cX10_rounds 58 = .ok (.iconst 3, 1) := by decide +kernel
theorem dX10_rounds_59 : decode cX10_rounds 59 = .ok (.iaload, 1) := by decide +kernel
theorem dX10_rounds_60 : decode cX10_rounds 60 = .ok (.if_icmp .ge 19, 3) := by decide +kernel
theorem dX10_rounds_63 : decode cX10_rounds 63 = .ok (.iload 5, 2) := by decide +kernel
theorem dX10_rounds_65 : decode cX10_rounds 65 = .ok (.aload_n 0, 1) := by decide +kernel
theorem dX10_rounds_66 : decode cX10_rounds 66 = .ok (.getfield 13, 3) := by decide +kernel
theorem dX10_rounds_69 : decode cX10_rounds 69 = .ok (.iconst 3, 1) := by decide +kernel
theorem dX10_rounds_70 : decode cX10_rounds 70 = .ok (.iaload, 1) := by decide +kernel
theorem dX10_rounds_71 : decode cX10_rounds 71 = .ok (.ineg, 1) := by decide +kernel
theorem dX10_rounds_72 : decode cX10_rounds 72 = .ok (.if_icmp .le 7, 3) := by decide +kernel
theorem dX10_rounds_75 : decode cX10_rounds 75 = .ok (.iconst 1, 1) := by decide +kernel
theorem dX10_rounds_76 : decode cX10_rounds 76 = .ok (.goto 4, 3) := by decide +kernel
theorem dX10_rounds_79 : decode cX10_rounds 79 = .ok (.iconst 0, 1) := by decide +kernel
theorem dX10_rounds_80 : decode cX10_rounds 80 = .ok (.istore 6, 2) := by decide +kernel
theorem dX10_rounds_82 : decode cX10_rounds 82 = .ok (.iload 6, 2) := by decide +kernel
theorem dX10_rounds_84 : decode cX10_rounds 84 = .ok (.ifCond .eq 18, 3) := by decide +kernel
theorem dX10_rounds_87 : decode cX10_rounds 87 = .ok (.aload_n 0, 1) := by decide +kernel
theorem dX10_rounds_88 : decode cX10_rounds 88 = .ok (.iload 4, 2) := by decide +kernel
theorem dX10_rounds_90 : decode cX10_rounds 90 = .ok (.iload 5, 2) := by decide +kernel
theorem dX10_rounds_92 : decode cX10_rounds 92 = .ok (.iload_n 3, 1) := by decide +kernel
theorem dX10_rounds_93 : decode cX10_rounds 93 = .ok (.iconst 2, 1) := by decide +kernel
theorem dX10_rounds_94 : decode cX10_rounds 94 = .ok (.irem, 1) := by decide +kernel
theorem dX10_rounds_95 : decode cX10_rounds 95 = .ok (.iload_n 1, 1) := by decide +kernel
theorem dX10_rounds_96 : decode cX10_rounds 96 = .ok (.invokevirtual 173, 3) := by decide +kernel
theorem dX10_rounds_99 : decode cX10_rounds 99 = .ok (.ifCond .ne 7, 3) := by decide +kernel
theorem dX10_rounds_102 : decode cX10_rounds 102 = .ok (.iload_n 2, 1) := by decide +kernel
theorem dX10_rounds_103 : decode cX10_rounds 103 = .ok (.ifCond .eq 7, 3) := by decide +kernel
theorem dX10_rounds_106 : decode cX10_rounds 106 = .ok (.iconst 1, 1) := by decide +kernel
theorem dX10_rounds_107 : decode cX10_rounds 107 = .ok (.goto 4, 3) := by decide +kernel
theorem dX10_rounds_110 : decode cX10_rounds 110 = .ok (.iconst 0, 1) := by decide +kernel
theorem dX10_rounds_111 : decode cX10_rounds 111 = .ok (.istore_n 2, 1) := by decide +kernel
theorem dX10_rounds_112 : decode cX10_rounds 112 = .ok (.iinc 3 1, 3) := by decide +kernel
theorem dX10_rounds_115 : decode cX10_rounds 115 = .ok (.goto (-111), 3) := by decide +kernel
theorem dX10_rounds_118 : decode cX10_rounds 118 = .ok (.iload_n 2, 1) := by decide +kernel
theorem dX10_rounds_119 : decode cX10_rounds 119 = .ok (.ireturn, 1) := by decide +kernel
theorem dX10_plays_0 : decode cX10_plays 0 = .ok (.iconst 0, 1) := by decide +kernel
theorem dX10_plays_1 : decode cX10_plays 1 = .ok (.istore_n 1, 1) := by decide +kernel
theorem dX10_plays_2 : decode cX10_plays 2 = .ok (.iload_n 1, 1) := by decide +kernel
theorem dX10_plays_3 : decode cX10_plays 3 = .ok (.sipush 680, 3) := by decide +kernel
theorem dX10_plays_6 : decode cX10_plays 6 = .ok (.if_icmp .ge 23, 3) := by decide +kernel
theorem dX10_plays_9 : decode cX10_plays 9 = .ok (.aload_n 0, 1) := by decide +kernel
theorem dX10_plays_10 : decode cX10_plays 10 = .ok (.getfield 35, 3) := by decide +kernel
theorem dX10_plays_13 : decode cX10_plays 13 = .ok (.iload_n 1, 1) := by decide +kernel
theorem dX10_plays_14 : decode cX10_plays 14 = .ok (.iconst 0, 1) := by decide +kernel
theorem dX10_plays_15 : decode cX10_plays 15 = .ok (.iastore, 1) := by decide +kernel
theorem dX10_plays_16 : decode cX10_plays 16 = .ok (.aload_n 0, 1) := by decide +kernel
theorem dX10_plays_17 : decode cX10_plays 17 = .ok (.getfield 38, 3) := by decide +kernel
theorem dX10_plays_20 : decode cX10_plays 20 = .ok (.iload_n 1, 1) := by decide +kernel
theorem dX10_plays_21 : decode cX10_plays 21 = .ok (.iconst 0, 1) := by decide +kernel
theorem dX10_plays_22 : decode cX10_plays 22 = .ok (.iastore, 1) := by decide +kernel
theorem dX10_plays_23 : decode cX10_plays 23 = .ok (.iinc 1 1, 3) := by decide +kernel
theorem dX10_plays_26 : decode cX10_plays 26 = .ok (.goto (-24), 3) := by decide +kernel
theorem dX10_plays_29 : decode cX10_plays 29 = .ok (.aload_n 0, 1) := by decide +kernel
theorem dX10_plays_30 : decode cX10_plays 30 = .ok (.iconst 0, 1) := by decide +kernel
theorem dX10_plays_31 : decode cX10_plays 31 = .ok (.invokevirtual 177, 3) := by decide +kernel
theorem dX10_plays_34 : decode cX10_plays 34 = .ok (.pop, 1) := by decide +kernel
theorem dX10_plays_35 : decode cX10_plays 35 = .ok (.iconst 1, 1) := by decide +kernel
theorem dX10_plays_36 : decode cX10_plays 36 = .ok (.istore_n 1, 1) := by decide +kernel
theorem dX10_plays_37 : decode cX10_plays 37 = .ok (.aload_n 0, 1) := by decide +kernel
theorem dX10_plays_38 : decode cX10_plays 38 = .ok (.iload_n 1, 1) := by decide +kernel
theorem dX10_plays_39 : decode cX10_plays 39 = .ok (.invokevirtual 177, 3) := by decide +kernel
theorem dX10_plays_42 : decode cX10_plays 42 = .ok (.ifCond .eq 9, 3) := by decide +kernel
theorem dX10_plays_45 : decode cX10_plays 45 = .ok (.iinc 1 1, 3) := by decide +kernel
theorem dX10_plays_48 : decode cX10_plays 48 = .ok (.goto (-11), 3) := by decide +kernel
theorem dX10_plays_51 : decode cX10_plays 51 = .ok (.return_, 1) := by decide +kernel
theorem dX10_here_0 : decode cX10_here 0 = .ok (.iconst 2, 1) := by decide +kernel
theorem dX10_here_1 : decode cX10_here 1 = .ok (.aload_n 0, 1) := by decide +kernel
theorem dX10_here_2 : decode cX10_here 2 = .ok (.getfield 19, 3) := by decide +kernel
theorem dX10_here_5 : decode cX10_here 5 = .ok (.iconst 0, 1) := by decide +kernel
theorem dX10_here_6 : decode cX10_here 6 = .ok (.iaload, 1) := by decide +kernel
theorem dX10_here_7 : decode cX10_here 7 = .ok (.aload_n 0, 1) := by decide +kernel
theorem dX10_here_8 : decode cX10_here 8 = .ok (.getfield 19, 3) := by decide +kernel
theorem dX10_here_11 : decode cX10_here 11 = .ok (.iconst 1, 1) := by decide +kernel
theorem dX10_here_12 : decode cX10_here 12 = .ok (.iaload, 1) := by decide +kernel
theorem dX10_here_13 : decode cX10_here 13 = .ok (.invokestatic 164, 3) := by decide +kernel
theorem dX10_here_16 : decode cX10_here 16 = .ok (.imul, 1) := by decide +kernel
theorem dX10_here_17 : decode cX10_here 17 = .ok (.aload_n 0, 1) := by decide +kernel
theorem dX10_here_18 : decode cX10_here 18 = .ok (.getfield 19, 3) := by decide +kernel
theorem dX10_here_21 : decode cX10_here 21 = .ok (.iconst 2, 1) := by decide +kernel
theorem dX10_here_22 : decode cX10_here 22 = .ok (.iaload, 1) := by decide +kernel
theorem dX10_here_23 : decode cX10_here 23 = .ok (.iadd, 1) := by decide +kernel
theorem dX10_here_24 : decode cX10_here 24 = .ok (.ireturn, 1) := by decide +kernel
theorem dX10_game_0 : decode cX10_game 0 = .ok (.aload_n 0, 1) := by decide +kernel
theorem dX10_game_1 : decode cX10_game 1 = .ok (.iconst 0, 1) := by decide +kernel
theorem dX10_game_2 : decode cX10_game 2 = .ok (.putfield 56, 3) := by decide +kernel
theorem dX10_game_5 : decode cX10_game 5 = .ok (.iload_n 1, 1) := by decide +kernel
theorem dX10_game_6 : decode cX10_game 6 = .ok (.iconst 0, 1) := by decide +kernel
theorem dX10_game_7 : decode cX10_game 7 = .ok (.iconst 1, 1) := by decide +kernel
theorem dX10_game_8 : decode cX10_game 8 = .ok (.invokestatic 60, 3) := by decide +kernel
theorem dX10_game_11 : decode cX10_game 11 = .ok (.ifCond .ne 5, 3) := by decide +kernel
theorem dX10_game_14 : decode cX10_game 14 = .ok (.iconst (-1), 1) := by decide +kernel
theorem dX10_game_15 : decode cX10_game 15 = .ok (.ireturn, 1) := by decide +kernel
theorem dX10_game_16 : decode cX10_game 16 = .ok (.aload_n 0, 1) := by decide +kernel
theorem dX10_game_17 : decode cX10_game 17 = .ok (.invokevirtual 154, 3) := by decide +kernel
theorem dX10_game_20 : decode cX10_game 20 = .ok (.ifCond .ne 6, 3) := by decide +kernel
theorem dX10_game_23 : decode cX10_game 23 = .ok (.bipush (-2), 2) := by decide +kernel
theorem dX10_game_25 : decode cX10_game 25 = .ok (.ireturn, 1) := by decide +kernel
theorem dX10_game_26 : decode cX10_game 26 = .ok (.aload_n 0, 1) := by decide +kernel
theorem dX10_game_27 : decode cX10_game 27 = .ok (.invokevirtual 180, 3) := by decide +kernel
theorem dX10_game_30 : decode cX10_game 30 = .ok (.iload_n 1, 1) := by decide +kernel
theorem dX10_game_31 : decode cX10_game 31 = .ok (.ifCond .ne 15, 3) := by decide +kernel
theorem dX10_game_34 : decode cX10_game 34 = .ok (.aload_n 0, 1) := by decide +kernel
theorem dX10_game_35 : decode cX10_game 35 = .ok (.getfield 35, 3) := by decide +kernel
theorem dX10_game_38 : decode cX10_game 38 = .ok (.aload_n 0, 1) := by decide +kernel
theorem dX10_game_39 : decode cX10_game 39 = .ok (.invokevirtual 183, 3) := by decide +kernel
theorem dX10_game_42 : decode cX10_game 42 = .ok (.iaload, 1) := by decide +kernel
theorem dX10_game_43 : decode cX10_game 43 = .ok (.goto 29, 3) := by decide +kernel
theorem dX10_game_46 : decode cX10_game 46 = .ok (.aload_n 0, 1) := by decide +kernel
theorem dX10_game_47 : decode cX10_game 47 = .ok (.getfield 35, 3) := by decide +kernel
theorem dX10_game_50 : decode cX10_game 50 = .ok (.aload_n 0, 1) := by decide +kernel
theorem dX10_game_51 : decode cX10_game 51 = .ok (.invokevirtual 183, 3) := by decide +kernel
theorem dX10_game_54 : decode cX10_game 54 = .ok (.iaload, 1) := by decide +kernel
theorem dX10_game_55 : decode cX10_game 55 = .ok (.ifCond .ne 8, 3) := by decide +kernel
theorem dX10_game_58 : decode cX10_game 58 = .ok (.bipush (-9), 2) := by decide +kernel
theorem dX10_game_60 : decode cX10_game 60 = .ok (.goto 12, 3) := by decide +kernel
theorem dX10_game_63 : decode cX10_game 63 = .ok (.aload_n 0, 1) := by decide +kernel
theorem dX10_game_64 : decode cX10_game 64 = .ok (.getfield 38, 3) := by decide +kernel
theorem dX10_game_67 : decode cX10_game 67 = .ok (.aload_n 0, 1) := by decide +kernel
theorem dX10_game_68 : decode cX10_game 68 = .ok (.invokevirtual 183, 3) := by decide +kernel
theorem dX10_game_71 : decode cX10_game 71 = .ok (.iaload, 1) := by decide +kernel
theorem dX10_game_72 : decode cX10_game 72 = .ok (.ireturn, 1) := by decide +kernel
theorem dX10_advice_0 : decode cX10_advice 0 = .ok (.aload_n 0, 1) := by decide +kernel
theorem dX10_advice_1 : decode cX10_advice 1 = .ok (.iconst 0, 1) := by decide +kernel
theorem dX10_advice_2 : decode cX10_advice 2 = .ok (.putfield 56, 3) := by decide +kernel
theorem dX10_advice_5 : decode cX10_advice 5 = .ok (.aload_n 0, 1) := by decide +kernel
theorem dX10_advice_6 : decode cX10_advice 6 = .ok (.invokevirtual 154, 3) := by decide +kernel
theorem dX10_advice_9 : decode cX10_advice 9 = .ok (.ifCond .ne 6, 3) := by decide +kernel
theorem dX10_advice_12 : decode cX10_advice 12 = .ok (.bipush (-2), 2) := by decide +kernel
theorem dX10_advice_14 : decode cX10_advice 14 = .ok (.ireturn, 1) := by decide +kernel
theorem dX10_advice_15 : decode cX10_advice 15 = .ok (.aload_n 0, 1) := by decide +kernel
theorem dX10_advice_16 : decode cX10_advice 16 = .ok (.invokevirtual 180, 3) := by decide +kernel
theorem dX10_advice_19 : decode cX10_advice 19 = .ok (.bipush (-9), 2) := by decide +kernel
theorem dX10_advice_21 : decode cX10_advice 21 = .ok (.istore_n 1, 1) := by decide +kernel
theorem dX10_advice_22 : decode cX10_advice 22 = .ok (.aload_n 0, 1) := by decide +kernel
theorem dX10_advice_23 : decode cX10_advice 23 = .ok (.getfield 35, 3) := by decide +kernel
theorem dX10_advice_26 : decode cX10_advice 26 = .ok (.aload_n 0, 1) := by decide +kernel
theorem dX10_advice_27 : decode cX10_advice 27 = .ok (.invokevirtual 183, 3) := by decide +kernel
theorem dX10_advice_30 : decode cX10_advice 30 = .ok (.iaload, 1) := by decide +kernel
theorem dX10_advice_31 : decode cX10_advice 31 = .ok (.istore_n 2, 1) := by decide +kernel
theorem dX10_advice_32 : decode cX10_advice 32 = .ok (.iconst 3, 1) := by decide +kernel
theorem dX10_advice_33 : decode cX10_advice 33 = .ok (.istore_n 3, 1) := by decide +kernel
theorem dX10_advice_34 : decode cX10_advice 34 = .ok (.iload_n 3, 1) := by decide +kernel
theorem dX10_advice_35 : decode cX10_advice 35 = .ok (.ifCond .lt 98, 3) := by decide +kernel
theorem dX10_advice_38 : decode cX10_advice 38 = .ok (.aload_n 0, 1) := by decide +kernel
theorem dX10_advice_39 : decode cX10_advice 39 = .ok (.aload_n 0, 1) := by decide +kernel
theorem dX10_advice_40 : decode cX10_advice 40 = .ok (.getfield 19, 3) := by decide +kernel
theorem dX10_advice_43 : decode cX10_advice 43 = .ok (.iconst 0, 1) := by decide +kernel
theorem dX10_advice_44 : decode cX10_advice 44 = .ok (.iaload, 1) := by decide +kernel
theorem dX10_advice_45 : decode cX10_advice 45 = .ok (.aload_n 0, 1) := by decide +kernel
theorem dX10_advice_46 : decode cX10_advice 46 = .ok (.getfield 19, 3) := by decide +kernel
theorem dX10_advice_49 : decode cX10_advice 49 = .ok (.iconst 1, 1) := by decide +kernel
theorem dX10_advice_50 : decode cX10_advice 50 = .ok (.iaload, 1) := by decide +kernel
theorem dX10_advice_51 : decode cX10_advice 51 = .ok (.iload_n 3, 1) := by decide +kernel
theorem dX10_advice_52 : decode cX10_advice 52 = .ok (.invokevirtual 157, 3) := by decide +kernel
theorem dX10_advice_55 : decode cX10_advice 55 = .ok (.istore 4, 2) := by decide +kernel
theorem dX10_advice_57 : decode cX10_advice 57 = .ok (.iload 4, 2) := by decide +kernel
theorem dX10_advice_59 : decode cX10_advice 59 = .ok (.iconst 3, 1) := by decide +kernel
theorem dX10_advice_60 : decode cX10_advice 60 = .ok (.if_icmp .eq 67, 3) := by decide +kernel
theorem dX10_advice_63 : decode cX10_advice 63 = .ok (.aload_n 0, 1) := by decide +kernel
theorem dX10_advice_64 : decode cX10_advice 64 = .ok (.iload 4, 2) := by decide +kernel
theorem dX10_advice_66 : decode cX10_advice 66 = .ok (.aload_n 0, 1) := by decide +kernel
theorem dX10_advice_67 : decode cX10_advice 67 = .ok (.getfield 19, 3) := by decide +kernel
theorem dX10_advice_70 : decode cX10_advice 70 = .ok (.iconst 2, 1) := by decide +kernel
theorem dX10_advice_71 : decode cX10_advice 71 = .ok (.iaload, 1) := by decide +kernel
theorem dX10_advice_72 : decode cX10_advice 72 = .ok (.invokevirtual 167, 3) := by decide +kernel
theorem dX10_advice_75 : decode cX10_advice 75 = .ok (.iload_n 2, 1) := by decide +kernel
theorem dX10_advice_76 : decode cX10_advice 76 = .ok (.if_icmp .ne 7, 3) := by decide +kernel
theorem dX10_advice_79 : decode cX10_advice 79 = .ok (.iconst 1, 1) := by decide +kernel
theorem dX10_advice_80 : decode cX10_advice 80 = .ok (.goto 4, 3) := by decide +kernel
theorem dX10_advice_83 : decode cX10_advice 83 = .ok (.iconst 0, 1) := by decide +kernel
theorem dX10_advice_84 : decode cX10_advice 84 = .ok (.istore 5, 2) := by decide +kernel
theorem dX10_advice_86 : decode cX10_advice 86 = .ok (.iload 5, 2) := by decide +kernel
theorem dX10_advice_88 : decode cX10_advice 88 = .ok (.ifCond .eq 37, 3) := by decide +kernel
theorem dX10_advice_91 : decode cX10_advice 91 = .ok (.iload_n 2, 1) := by decide +kernel
theorem dX10_advice_92 : decode cX10_advice 92 = .ok (.ifCond .eq 29, 3) := by decide +kernel
theorem dX10_advice_95 : decode cX10_advice 95 = .ok (.aload_n 0, 1) := by decide +kernel
theorem dX10_advice_96 : decode cX10_advice 96 = .ok (.iload 4, 2) := by decide +kernel
theorem dX10_advice_98 : decode cX10_advice 98 = .ok (.aload_n 0, 1) := by decide +kernel
theorem dX10_advice_99 : decode cX10_advice 99 = .ok (.getfield 19, 3) := by decide +kernel
theorem dX10_advice_102 : decode cX10_advice 102 = .ok (.iconst 2, 1) := by decide +kernel
theorem dX10_advice_103 : decode cX10_advice 103 = .ok (.iaload, 1) := by decide +kernel
theorem dX10_advice_104 : decode cX10_advice 104 = .ok (.invokevirtual 170, 3) := by decide +kernel
theorem dX10_advice_107 : decode cX10_advice 107 = .ok (.aload_n 0, 1) := by decide +kernel
theorem dX10_advice_108 : decode cX10_advice 108 = .ok (.getfield 38, 3) := by decide +kernel
theorem dX10_advice_111 : decode cX10_advice 111 = .ok (.aload_n 0, 1) := by decide +kernel
theorem dX10_advice_112 : decode cX10_advice 112 = .ok (.invokevirtual 183, 3) := by decide +kernel
theorem dX10_advice_115 : decode cX10_advice 115 = .ok (.iaload, 1) := by decide +kernel
theorem dX10_advice_116 : decode cX10_advice 116 = .ok (.iconst 1, 1) := by decide +kernel
theorem dX10_advice_117 : decode cX10_advice 117 = .ok (.isub, 1) := by decide +kernel
theorem dX10_advice_118 : decode cX10_advice 118 = .ok (.if_icmp .ne 7, 3) := by decide +kernel
theorem dX10_advice_121 : decode cX10_advice 121 = .ok (.iload_n 3, 1) := by decide +kernel
theorem dX10_advice_122 : decode cX10_advice 122 = .ok (.goto 4, 3) := by decide +kernel
theorem dX10_advice_125 : decode cX10_advice 125 = .ok (.iload_n 1, 1) := by decide +kernel
theorem dX10_advice_126 : decode cX10_advice 126 = .ok (.istore_n 1, 1) := by decide +kernel
theorem dX10_advice_127 : decode cX10_advice 127 = .ok (.iinc 3 (-1), 3) := by decide +kernel
theorem dX10_advice_130 : decode cX10_advice 130 = .ok (.goto (-96), 3) := by decide +kernel
theorem dX10_advice_133 : decode cX10_advice 133 = .ok (.iload_n 1, 1) := by decide +kernel
theorem dX10_advice_134 : decode cX10_advice 134 = .ok (.ireturn, 1) := by decide +kernel
theorem dX10_hurries_0 : decode cX10_hurries 0 = .ok (.iconst 0, 1) := by decide +kernel
theorem dX10_hurries_1 : decode cX10_hurries 1 = .ok (.istore_n 2, 1) := by decide +kernel
theorem dX10_hurries_2 : decode cX10_hurries 2 = .ok (.iload_n 2, 1) := by decide +kernel
theorem dX10_hurries_3 : decode cX10_hurries 3 = .ok (.sipush 340, 3) := by decide +kernel
theorem dX10_hurries_6 : decode cX10_hurries 6 = .ok (.if_icmp .ge 17, 3) := by decide +kernel
theorem dX10_hurries_9 : decode cX10_hurries 9 = .ok (.aload_n 0, 1) := by decide +kernel
theorem dX10_hurries_10 : decode cX10_hurries 10 = .ok (.getfield 41, 3) := by decide +kernel
theorem dX10_hurries_13 : decode cX10_hurries 13 = .ok (.iload_n 2, 1) := by decide +kernel
theorem dX10_hurries_14 : decode cX10_hurries 14 = .ok (.bipush (-9), 2) := by decide +kernel
theorem dX10_hurries_16 : decode cX10_hurries 16 = .ok (.iastore, 1) := by decide +kernel
theorem dX10_hurries_17 : decode cX10_hurries 17 = .ok (.iinc 2 1, 3) := by decide +kernel
theorem dX10_hurries_20 : decode cX10_hurries 20 = .ok (.goto (-18), 3) := by decide +kernel
theorem dX10_hurries_23 : decode cX10_hurries 23 = .ok (.iconst 1, 1) := by decide +kernel
theorem dX10_hurries_24 : decode cX10_hurries 24 = .ok (.istore_n 2, 1) := by decide +kernel
theorem dX10_hurries_25 : decode cX10_hurries 25 = .ok (.iconst 1, 1) := by decide +kernel
theorem dX10_hurries_26 : decode cX10_hurries 26 = .ok (.istore_n 3, 1) := by decide +kernel
theorem dX10_hurries_27 : decode cX10_hurries 27 = .ok (.iload_n 2, 1) := by decide +kernel
theorem dX10_hurries_28 : decode cX10_hurries 28 = .ok (.ifCond .eq 206, 3) := by decide +kernel
theorem dX10_hurries_31 : decode cX10_hurries 31 = .ok (.iconst 0, 1) := by decide +kernel
theorem dX10_hurries_32 : decode cX10_hurries 32 = .ok (.istore_n 2, 1) := by decide +kernel
theorem dX10_hurries_33 : decode cX10_hurries 33 = .ok (.iconst 0, 1) := by decide +kernel
theorem dX10_hurries_34 : decode cX10_hurries 34 = .ok (.istore 4, 2) := by decide +kernel
theorem dX10_hurries_36 : decode cX10_hurries 36 = .ok (.iload 4, 2) := by decide +kernel
theorem dX10_hurries_38 : decode cX10_hurries 38 = .ok (.sipush 340, 3) := by decide +kernel
theorem dX10_hurries_41 : decode cX10_hurries 41 = .ok (.if_icmp .ge 172, 3) := by decide +kernel
theorem dX10_hurries_44 : decode cX10_hurries 44 = .ok (.iload 4, 2) := by decide +kernel
theorem dX10_hurries_46 : decode cX10_hurries 46 = .ok (.bipush 17, 2) := by decide +kernel
theorem dX10_hurries_48 : decode cX10_hurries 48 = .ok (.idiv, 1) := by decide +kernel
theorem dX10_hurries_49 : decode cX10_hurries 49 = .ok (.istore 5, 2) := by decide +kernel
theorem dX10_hurries_51 : decode cX10_hurries 51 = .ok (.iconst 0, 1) := by decide +kernel
theorem dX10_hurries_52 : decode cX10_hurries 52 = .ok (.istore 6, 2) := by decide +kernel
theorem dX10_hurries_54 : decode cX10_hurries 54 = .ok (.iload 6, 2) := by decide +kernel
theorem dX10_hurries_56 : decode cX10_hurries 56 = .ok (.iconst 4, 1) := by decide +kernel
theorem dX10_hurries_57 : decode cX10_hurries 57 = .ok (.if_icmp .ge 150, 3) := by decide +kernel
theorem dX10_hurries_60 : decode cX10_hurries 60 = .ok (.aload_n 0, 1) := by decide +kernel
theorem dX10_hurries_61 : decode cX10_hurries 61 = .ok (.getfield 41, 3) := by decide +kernel
theorem dX10_hurries_64 : decode cX10_hurries 64 = .ok (.iload 4, 2) := by decide +kernel
theorem dX10_hurries_66 : decode cX10_hurries 66 = .ok (.iaload, 1) := by decide +kernel
theorem dX10_hurries_67 : decode cX10_hurries 67 = .ok (.bipush (-9), 2) := by decide +kernel
theorem dX10_hurries_69 : decode cX10_hurries 69 = .ok (.if_icmp .ne 138, 3) := by decide +kernel
theorem dX10_hurries_72 : decode cX10_hurries 72 = .ok (.aload_n 0, 1) := by decide +kernel
theorem dX10_hurries_73 : decode cX10_hurries 73 = .ok (.iload 5, 2) := by decide +kernel
theorem dX10_hurries_75 : decode cX10_hurries 75 = .ok (.iconst 5, 1) := by decide +kernel
theorem dX10_hurries_76 : decode cX10_hurries 76 = .ok (.irem, 1) := by decide +kernel
theorem dX10_hurries_77 : decode cX10_hurries 77 = .ok (.iload 5, 2) := by decide +kernel
theorem dX10_hurries_79 : decode cX10_hurries 79 = .ok (.iconst 5, 1) := by decide +kernel
theorem dX10_hurries_80 : decode cX10_hurries 80 = .ok (.idiv, 1) := by decide +kernel
theorem dX10_hurries_81 : decode cX10_hurries 81 = .ok (.invokevirtual 140, 3) := by decide +kernel
theorem dX10_hurries_84 : decode cX10_hurries 84 = .ok (.ifCond .eq 123, 3) := by decide +kernel
theorem dX10_hurries_87 : decode cX10_hurries 87 = .ok (.aload_n 0, 1) := by decide +kernel
theorem dX10_hurries_88 : decode cX10_hurries 88 = .ok (.iload 5, 2) := by decide +kernel
theorem dX10_hurries_90 : decode cX10_hurries 90 = .ok (.iload 4, 2) := by decide +kernel
theorem dX10_hurries_92 : decode cX10_hurries 92 = .ok (.bipush 17, 2) := by decide +kernel
theorem dX10_hurries_94 : decode cX10_hurries 94 = .ok (.irem, 1) := by decide +kernel
theorem dX10_hurries_95 : decode cX10_hurries 95 = .ok (.bipush 8, 2) := by decide +kernel
theorem dX10_hurries_97 : decode cX10_hurries 97 = .ok (.isub, 1) := by decide +kernel
theorem dX10_hurries_98 : decode cX10_hurries 98 = .ok (.iload 6, 2) := by decide +kernel
theorem dX10_hurries_100 : decode cX10_hurries 100 = .ok (.invokevirtual 157, 3) := by decide +kernel
theorem dX10_hurries_103 : decode cX10_hurries 103 = .ok (.istore 7, 2) := by decide +kernel
theorem dX10_hurries_105 : decode cX10_hurries 105 = .ok (.iload 7, 2) := by decide +kernel
theorem dX10_hurries_107 : decode cX10_hurries 107 = .ok (.iload_n 1, 1) := by decide +kernel
theorem dX10_hurries_108 : decode cX10_hurries 108 = .ok (.if_icmp .ne 16, 3) := by decide +kernel
theorem dX10_hurries_111 : decode cX10_hurries 111 = .ok (.iload_n 3, 1) := by decide +kernel
theorem dX10_hurries_112 : decode cX10_hurries 112 = .ok (.iconst 1, 1) := by decide +kernel
theorem dX10_hurries_113 : decode cX10_hurries 113 = .ok (.if_icmp .ne 7, 3) := by decide +kernel
theorem dX10_hurries_116 : decode cX10_hurries 116 = .ok (.iconst 1, 1) := by decide +kernel
theorem dX10_hurries_117 : decode cX10_hurries 117 = .ok (.goto 44, 3) := by decide +kernel
theorem dX10_hurries_120 : decode cX10_hurries 120 = .ok (.iconst 0, 1) := by decide +kernel
theorem dX10_hurries_121 : decode cX10_hurries 121 = .ok (.goto 40, 3) := by decide +kernel
theorem dX10_hurries_124 : decode cX10_hurries 124 = .ok (.iload 7, 2) := by decide +kernel
theorem dX10_hurries_126 : decode cX10_hurries 126 = .ok (.ifCond .ne 34, 3) := by decide +kernel
theorem dX10_hurries_129 : decode cX10_hurries 129 = .ok (.iload_n 3, 1) := by decide +kernel
theorem dX10_hurries_130 : decode cX10_hurries 130 = .ok (.iconst 1, 1) := by decide +kernel
theorem dX10_hurries_131 : decode cX10_hurries 131 = .ok (.if_icmp .le 29, 3) := by decide +kernel
theorem dX10_hurries_134 : decode cX10_hurries 134 = .ok (.aload_n 0, 1) := by decide +kernel
theorem dX10_hurries_135 : decode cX10_hurries 135 = .ok (.getfield 41, 3) := by decide +kernel
theorem dX10_hurries_138 : decode cX10_hurries 138 = .ok (.aload_n 0, 1) := by decide +kernel
theorem dX10_hurries_139 : decode cX10_hurries 139 = .ok (.getfield 144, 3) := by decide +kernel
theorem dX10_hurries_142 : decode cX10_hurries 142 = .ok (.aload_n 0, 1) := by decide +kernel
theorem dX10_hurries_143 : decode cX10_hurries 143 = .ok (.getfield 147, 3) := by decide +kernel
theorem dX10_hurries_146 : decode cX10_hurries 146 = .ok (.invokestatic 164, 3) := by decide +kernel
theorem dX10_hurries_149 : decode cX10_hurries 149 = .ok (.iaload, 1) := by decide +kernel
theorem dX10_hurries_150 : decode cX10_hurries 150 = .ok (.iload_n 3, 1) := by decide +kernel
theorem dX10_hurries_151 : decode cX10_hurries 151 = .ok (.iconst 1, 1) := by decide +kernel
theorem dX10_hurries_152 : decode cX10_hurries 152 = .ok (.isub, 1) := by decide +kernel
theorem dX10_hurries_153 : decode cX10_hurries 153 = .ok (.if_icmp .ne 7, 3) := by decide +kernel
theorem dX10_hurries_156 : decode cX10_hurries 156 = .ok (.iconst 1, 1) := by decide +kernel
theorem dX10_hurries_157 : decode cX10_hurries 157 = .ok (.goto 4, 3) := by decide +kernel
theorem dX10_hurries_160 : decode cX10_hurries 160 = .ok (.iconst 0, 1) := by decide +kernel
theorem dX10_hurries_161 : decode cX10_hurries 161 = .ok (.istore 8, 2) := by decide +kernel
theorem dX10_hurries_163 : decode cX10_hurries 163 = .ok (.aload_n 0, 1) := by decide +kernel
theorem dX10_hurries_164 : decode cX10_hurries 164 = .ok (.getfield 41, 3) := by decide +kernel
theorem dX10_hurries_167 : decode cX10_hurries 167 = .ok (.iload 4, 2) := by decide +kernel
theorem dX10_hurries_169 : decode cX10_hurries 169 = .ok (.iload 8, 2) := by decide +kernel
theorem dX10_hurries_171 : decode cX10_hurries 171 = .ok (.ifCond .eq 7, 3) := by decide +kernel
theorem dX10_hurries_174 : decode cX10_hurries 174 = .ok (.iload_n 3, 1) := by decide +kernel
theorem dX10_hurries_175 : decode cX10_hurries 175 = .ok (.goto 10, 3) := by decide +kernel
theorem dX10_hurries_178 : decode cX10_hurries 178 = .ok (.aload_n 0, 1) := by decide +kernel
theorem dX10_hurries_179 : decode cX10_hurries 179 = .ok (.getfield 41, 3) := by decide +kernel
theorem dX10_hurries_182 : decode cX10_hurries 182 = .ok (.iload 4, 2) := by decide +kernel
theorem dX10_hurries_184 : decode cX10_hurries 184 = .ok (.iaload, 1) := by decide +kernel
theorem dX10_hurries_185 : decode cX10_hurries 185 = .ok (.iastore, 1) := by decide +kernel
theorem dX10_hurries_186 : decode cX10_hurries 186 = .ok (.iload_n 2, 1) := by decide +kernel
theorem dX10_hurries_187 : decode cX10_hurries 187 = .ok (.ifCond .ne 8, 3) := by decide +kernel
theorem dX10_hurries_190 : decode cX10_hurries 190 = .ok (.iload 8, 2) := by decide +kernel
theorem dX10_hurries_192 : decode cX10_hurries 192 = .ok (.ifCond .eq 7, 3) := by decide +kernel
theorem dX10_hurries_195 : decode cX10_hurries 195 = .ok (.iconst 1, 1) := by decide +kernel
theorem dX10_hurries_196 : decode cX10_hurries 196 = .ok (.goto 4, 3) := by decide +kernel
theorem dX10_hurries_199 : decode cX10_hurries 199 = .ok (.iconst 0, 1) := by decide +kernel
theorem dX10_hurries_200 : decode cX10_hurries 200 = .ok (.istore_n 2, 1) := by decide +kernel
theorem dX10_hurries_201 : decode cX10_hurries 201 = .ok (.iinc 6 1, 3) := by decide +kernel
theorem dX10_hurries_204 : decode cX10_hurries 204 = .ok (.goto (-150), 3) := by decide +kernel
theorem dX10_hurries_207 : decode cX10_hurries 207 = .ok (.iinc 4 1, 3) := by decide +kernel
theorem dX10_hurries_210 : decode cX10_hurries 210 = .ok (.goto (-174), 3) := by decide +kernel
theorem dX10_hurries_213 : decode cX10_hurries 213 = .ok (.iload_n 2, 1) := by decide +kernel
theorem dX10_hurries_214 : decode cX10_hurries 214 = .ok (.ifCond .ne 8, 3) := by decide +kernel
theorem dX10_hurries_217 : decode cX10_hurries 217 = .ok (.iload_n 3, 1) := by decide +kernel
theorem dX10_hurries_218 : decode cX10_hurries 218 = .ok (.iconst 1, 1) := by decide +kernel
theorem dX10_hurries_219 : decode cX10_hurries 219 = .ok (.if_icmp .ne 7, 3) := by decide +kernel
theorem dX10_hurries_222 : decode cX10_hurries 222 = .ok (.iconst 1, 1) := by decide +kernel
theorem dX10_hurries_223 : decode cX10_hurries 223 = .ok (.goto 4, 3) := by decide +kernel
theorem dX10_hurries_226 : decode cX10_hurries 226 = .ok (.iconst 0, 1) := by decide +kernel
theorem dX10_hurries_227 : decode cX10_hurries 227 = .ok (.istore_n 2, 1) := by decide +kernel
theorem dX10_hurries_228 : decode cX10_hurries 228 = .ok (.iinc 3 1, 3) := by decide +kernel
theorem dX10_hurries_231 : decode cX10_hurries 231 = .ok (.goto (-204), 3) := by decide +kernel
theorem dX10_hurries_234 : decode cX10_hurries 234 = .ok (.return_, 1) := by decide +kernel
theorem dX10_soonest_0 : decode cX10_soonest 0 = .ok (.aload_n 0, 1) := by decide +kernel
theorem dX10_soonest_1 : decode cX10_soonest 1 = .ok (.iconst 0, 1) := by decide +kernel
theorem dX10_soonest_2 : decode cX10_soonest 2 = .ok (.putfield 56, 3) := by decide +kernel
theorem dX10_soonest_5 : decode cX10_soonest 5 = .ok (.iload_n 1, 1) := by decide +kernel
theorem dX10_soonest_6 : decode cX10_soonest 6 = .ok (.iconst 1, 1) := by decide +kernel
theorem dX10_soonest_7 : decode cX10_soonest 7 = .ok (.iconst 2, 1) := by decide +kernel
theorem dX10_soonest_8 : decode cX10_soonest 8 = .ok (.invokestatic 60, 3) := by decide +kernel
theorem dX10_soonest_11 : decode cX10_soonest 11 = .ok (.ifCond .eq 8, 3) := by decide +kernel
theorem dX10_soonest_14 : decode cX10_soonest 14 = .ok (.iload_n 2, 1) := by decide +kernel
theorem dX10_soonest_15 : decode cX10_soonest 15 = .ok (.iconst (-1), 1) := by decide +kernel
theorem dX10_soonest_16 : decode cX10_soonest 16 = .ok (.if_icmp .ge 5, 3) := by decide +kernel
theorem dX10_soonest_19 : decode cX10_soonest 19 = .ok (.iconst (-1), 1) := by decide +kernel
theorem dX10_soonest_20 : decode cX10_soonest 20 = .ok (.ireturn, 1) := by decide +kernel
theorem dX10_soonest_21 : decode cX10_soonest 21 = .ok (.aload_n 0, 1) := by decide +kernel
theorem dX10_soonest_22 : decode cX10_soonest 22 = .ok (.invokevirtual 154, 3) := by decide +kernel
theorem dX10_soonest_25 : decode cX10_soonest 25 = .ok (.ifCond .ne 6, 3) := by decide +kernel
theorem dX10_soonest_28 : decode cX10_soonest 28 = .ok (.bipush (-2), 2) := by decide +kernel
theorem dX10_soonest_30 : decode cX10_soonest 30 = .ok (.ireturn, 1) := by decide +kernel
theorem dX10_soonest_31 : decode cX10_soonest 31 = .ok (.aload_n 0, 1) := by decide +kernel
theorem dX10_soonest_32 : decode cX10_soonest 32 = .ok (.iload_n 1, 1) := by decide +kernel
theorem dX10_soonest_33 : decode cX10_soonest 33 = .ok (.invokevirtual 187, 3) := by decide +kernel
theorem dX10_soonest_36 : decode cX10_soonest 36 = .ok (.aload_n 0, 1) := by decide +kernel
theorem dX10_soonest_37 : decode cX10_soonest 37 = .ok (.getfield 19, 3) := by decide +kernel
theorem dX10_soonest_40 : decode cX10_soonest 40 = .ok (.iconst 0, 1) := by decide +kernel
theorem dX10_soonest_41 : decode cX10_soonest 41 = .ok (.iaload, 1) := by decide +kernel
theorem dX10_soonest_42 : decode cX10_soonest 42 = .ok (.istore_n 3, 1) := by decide +kernel
theorem dX10_soonest_43 : decode cX10_soonest 43 = .ok (.aload_n 0, 1) := by decide +kernel
theorem dX10_soonest_44 : decode cX10_soonest 44 = .ok (.getfield 19, 3) := by decide +kernel
theorem dX10_soonest_47 : decode cX10_soonest 47 = .ok (.iconst 1, 1) := by decide +kernel
theorem dX10_soonest_48 : decode cX10_soonest 48 = .ok (.iaload, 1) := by decide +kernel
theorem dX10_soonest_49 : decode cX10_soonest 49 = .ok (.istore 4, 2) := by decide +kernel
theorem dX10_soonest_51 : decode cX10_soonest 51 = .ok (.aload_n 0, 1) := by decide +kernel
theorem dX10_soonest_52 : decode cX10_soonest 52 = .ok (.getfield 41, 3) := by decide +kernel
theorem dX10_soonest_55 : decode cX10_soonest 55 = .ok (.iload_n 3, 1) := by decide +kernel
theorem dX10_soonest_56 : decode cX10_soonest 56 = .ok (.iload 4, 2) := by decide +kernel
theorem dX10_soonest_58 : decode cX10_soonest 58 = .ok (.invokestatic 164, 3) := by decide +kernel
theorem dX10_soonest_61 : decode cX10_soonest 61 = .ok (.iaload, 1) := by decide +kernel
theorem dX10_soonest_62 : decode cX10_soonest 62 = .ok (.istore 5, 2) := by decide +kernel
theorem dX10_soonest_64 : decode cX10_soonest 64 = .ok (.iload 5, 2) := by decide +kernel
theorem dX10_soonest_66 : decode cX10_soonest 66 = .ok (.bipush (-9), 2) := by decide +kernel
theorem dX10_soonest_68 : decode cX10_soonest 68 = .ok (.if_icmp .eq 8, 3) := by decide +kernel
theorem dX10_soonest_71 : decode cX10_soonest 71 = .ok (.iload_n 2, 1) := by decide +kernel
theorem dX10_soonest_72 : decode cX10_soonest 72 = .ok (.iconst (-1), 1) := by decide +kernel
theorem dX10_soonest_73 : decode cX10_soonest 73 = .ok (.if_icmp .ne 6, 3) := by decide +kernel
theorem dX10_soonest_76 : decode cX10_soonest 76 = .ok (.iload 5, 2) := by decide +kernel
theorem dX10_soonest_78 : decode cX10_soonest 78 = .ok (.ireturn, 1) := by decide +kernel
theorem dX10_soonest_79 : decode cX10_soonest 79 = .ok (.iconst 0, 1) := by decide +kernel
theorem dX10_soonest_80 : decode cX10_soonest 80 = .ok (.istore 6, 2) := by decide +kernel
theorem dX10_soonest_82 : decode cX10_soonest 82 = .ok (.iload 5, 2) := by decide +kernel
theorem dX10_soonest_84 : decode cX10_soonest 84 = .ok (.ifCond .le 140, 3) := by decide +kernel
theorem dX10_soonest_87 : decode cX10_soonest 87 = .ok (.bipush (-9), 2) := by decide +kernel
theorem dX10_soonest_89 : decode cX10_soonest 89 = .ok (.istore 7, 2) := by decide +kernel
theorem dX10_soonest_91 : decode cX10_soonest 91 = .ok (.iconst 3, 1) := by decide +kernel
theorem dX10_soonest_92 : decode cX10_soonest 92 = .ok (.istore 8, 2) := by decide +kernel
theorem dX10_soonest_94 : decode cX10_soonest 94 = .ok (.iload 8, 2) := by decide +kernel
theorem dX10_soonest_96 : decode cX10_soonest 96 = .ok (.ifCond .lt 89, 3) := by decide +kernel
theorem dX10_soonest_99 : decode cX10_soonest 99 = .ok (.aload_n 0, 1) := by decide +kernel
theorem dX10_soonest_100 : decode cX10_soonest 100 = .ok (.iload_n 3, 1) := by decide +kernel
theorem dX10_soonest_101 : decode cX10_soonest 101 = .ok (.iload 4, 2) := by decide +kernel
theorem dX10_soonest_103 : decode cX10_soonest 103 = .ok (.iload 8, 2) := by decide +kernel
theorem dX10_soonest_105 : decode cX10_soonest 105 = .ok (.invokevirtual 157, 3) := by decide +kernel
theorem dX10_soonest_108 : decode cX10_soonest 108 = .ok (.istore 9, 2) := by decide +kernel
theorem dX10_soonest_110 : decode cX10_soonest 110 = .ok (.iload 5, 2) := by decide +kernel
theorem dX10_soonest_112 : decode cX10_soonest 112 = .ok (.iconst 1, 1) := by decide +kernel
theorem dX10_soonest_113 : decode cX10_soonest 113 = .ok (.if_icmp .ne 17, 3) := by decide +kernel
theorem dX10_soonest_116 : decode cX10_soonest 116 = .ok (.iload 9, 2) := by decide +kernel
theorem dX10_soonest_118 : decode cX10_soonest 118 = .ok (.iload_n 1, 1) := by decide +kernel
theorem dX10_soonest_119 : decode cX10_soonest 119 = .ok (.if_icmp .ne 7, 3) := by decide +kernel
theorem dX10_soonest_122 : decode cX10_soonest 122 = .ok (.iconst 1, 1) := by decide +kernel
theorem dX10_soonest_123 : decode cX10_soonest 123 = .ok (.goto 40, 3) := by decide +kernel
theorem dX10_soonest_126 : decode cX10_soonest 126 = .ok (.iconst 0, 1) := by decide +kernel
theorem dX10_soonest_127 : decode cX10_soonest 127 = .ok (.goto 36, 3) := by decide +kernel
theorem dX10_soonest_130 : decode cX10_soonest 130 = .ok (.iload 9, 2) := by decide +kernel
theorem dX10_soonest_132 : decode cX10_soonest 132 = .ok (.ifCond .ne 30, 3) := by decide +kernel
theorem dX10_soonest_135 : decode cX10_soonest 135 = .ok (.aload_n 0, 1) := by decide +kernel
theorem dX10_soonest_136 : decode cX10_soonest 136 = .ok (.getfield 41, 3) := by decide +kernel
theorem dX10_soonest_139 : decode cX10_soonest 139 = .ok (.aload_n 0, 1) := by decide +kernel
theorem dX10_soonest_140 : decode cX10_soonest 140 = .ok (.getfield 144, 3) := by decide +kernel
theorem dX10_soonest_143 : decode cX10_soonest 143 = .ok (.aload_n 0, 1) := by decide +kernel
theorem dX10_soonest_144 : decode cX10_soonest 144 = .ok (.getfield 147, 3) := by decide +kernel
theorem dX10_soonest_147 : decode cX10_soonest 147 = .ok (.invokestatic 164, 3) := by decide +kernel
theorem dX10_soonest_150 : decode cX10_soonest 150 = .ok (.iaload, 1) := by decide +kernel
theorem dX10_soonest_151 : decode cX10_soonest 151 = .ok (.iload 5, 2) := by decide +kernel
theorem dX10_soonest_153 : decode cX10_soonest 153 = .ok (.iconst 1, 1) := by decide +kernel
theorem dX10_soonest_154 : decode cX10_soonest 154 = .ok (.isub, 1) := by decide +kernel
theorem dX10_soonest_155 : decode cX10_soonest 155 = .ok (.if_icmp .ne 7, 3) := by decide +kernel
theorem dX10_soonest_158 : decode cX10_soonest 158 = .ok (.iconst 1, 1) := by decide +kernel
theorem dX10_soonest_159 : decode cX10_soonest 159 = .ok (.goto 4, 3) := by decide +kernel
theorem dX10_soonest_162 : decode cX10_soonest 162 = .ok (.iconst 0, 1) := by decide +kernel
theorem dX10_soonest_163 : decode cX10_soonest 163 = .ok (.istore 10, 2) := by decide +kernel
theorem dX10_soonest_165 : decode cX10_soonest 165 = .ok (.iload 10, 2) := by decide +kernel
theorem dX10_soonest_167 : decode cX10_soonest 167 = .ok (.ifCond .eq 8, 3) := by decide +kernel
theorem dX10_soonest_170 : decode cX10_soonest 170 = .ok (.iload 8, 2) := by decide +kernel
theorem dX10_soonest_172 : decode cX10_soonest 172 = .ok (.goto 5, 3) := by decide +kernel
theorem dX10_soonest_175 : decode cX10_soonest 175 = .ok (.iload 7, 2) := by decide +kernel
theorem dX10_soonest_177 : decode cX10_soonest 177 = .ok (.istore 7, 2) := by decide +kernel
theorem dX10_soonest_179 : decode cX10_soonest 179 = .ok (.iinc 8 (-1), 3) := by decide +kernel
theorem dX10_soonest_182 : decode cX10_soonest 182 = .ok (.goto (-88), 3) := by decide +kernel
theorem dX10_soonest_185 : decode cX10_soonest 185 = .ok (.iload 6, 2) := by decide +kernel
theorem dX10_soonest_187 : decode cX10_soonest 187 = .ok (.iload_n 2, 1) := by decide +kernel
theorem dX10_soonest_188 : decode cX10_soonest 188 = .ok (.if_icmp .ne 6, 3) := by decide +kernel
theorem dX10_soonest_191 : decode cX10_soonest 191 = .ok (.iload 7, 2) := by decide +kernel
theorem dX10_soonest_193 : decode cX10_soonest 193 = .ok (.ireturn, 1) := by decide +kernel
theorem dX10_soonest_194 : decode cX10_soonest 194 = .ok (.aload_n 0, 1) := by decide +kernel
theorem dX10_soonest_195 : decode cX10_soonest 195 = .ok (.iload_n 3, 1) := by decide +kernel
theorem dX10_soonest_196 : decode cX10_soonest 196 = .ok (.iload 4, 2) := by decide +kernel
theorem dX10_soonest_198 : decode cX10_soonest 198 = .ok (.iload 7, 2) := by decide +kernel
theorem dX10_soonest_200 : decode cX10_soonest 200 = .ok (.invokevirtual 157, 3) := by decide +kernel
theorem dX10_soonest_203 : decode cX10_soonest 203 = .ok (.pop, 1) := by decide +kernel
theorem dX10_soonest_204 : decode cX10_soonest 204 = .ok (.aload_n 0, 1) := by decide +kernel
theorem dX10_soonest_205 : decode cX10_soonest 205 = .ok (.getfield 144, 3) := by decide +kernel
theorem dX10_soonest_208 : decode cX10_soonest 208 = .ok (.istore_n 3, 1) := by decide +kernel
theorem dX10_soonest_209 : decode cX10_soonest 209 = .ok (.aload_n 0, 1) := by decide +kernel
theorem dX10_soonest_210 : decode cX10_soonest 210 = .ok (.getfield 147, 3) := by decide +kernel
theorem dX10_soonest_213 : decode cX10_soonest 213 = .ok (.istore 4, 2) := by decide +kernel
theorem dX10_soonest_215 : decode cX10_soonest 215 = .ok (.iinc 5 (-1), 3) := by decide +kernel
theorem dX10_soonest_218 : decode cX10_soonest 218 = .ok (.iinc 6 1, 3) := by decide +kernel
theorem dX10_soonest_221 : decode cX10_soonest 221 = .ok (.goto (-139), 3) := by decide +kernel
theorem dX10_soonest_224 : decode cX10_soonest 224 = .ok (.bipush (-5), 2) := by decide +kernel
theorem dX10_soonest_226 : decode cX10_soonest 226 = .ok (.ireturn, 1) := by decide +kernel
theorem dX10_gcd_0 : decode cX10_gcd 0 = .ok (.iload_n 0, 1) := by decide +kernel
theorem dX10_gcd_1 : decode cX10_gcd 1 = .ok (.istore_n 2, 1) := by decide +kernel
theorem dX10_gcd_2 : decode cX10_gcd 2 = .ok (.iload_n 1, 1) := by decide +kernel
theorem dX10_gcd_3 : decode cX10_gcd 3 = .ok (.istore_n 3, 1) := by decide +kernel
theorem dX10_gcd_4 : decode cX10_gcd 4 = .ok (.iload_n 3, 1) := by decide +kernel
theorem dX10_gcd_5 : decode cX10_gcd 5 = .ok (.ifCond .eq 16, 3) := by decide +kernel
theorem dX10_gcd_8 : decode cX10_gcd 8 = .ok (.iload_n 2, 1) := by decide +kernel
theorem dX10_gcd_9 : decode cX10_gcd 9 = .ok (.iload_n 3, 1) := by decide +kernel
theorem dX10_gcd_10 : decode cX10_gcd 10 = .ok (.irem, 1) := by decide +kernel
theorem dX10_gcd_11 : decode cX10_gcd 11 = .ok (.istore 4, 2) := by decide +kernel
theorem dX10_gcd_13 : decode cX10_gcd 13 = .ok (.iload_n 3, 1) := by decide +kernel
theorem dX10_gcd_14 : decode cX10_gcd 14 = .ok (.istore_n 2, 1) := by decide +kernel
theorem dX10_gcd_15 : decode cX10_gcd 15 = .ok (.iload 4, 2) := by decide +kernel
theorem dX10_gcd_17 : decode cX10_gcd 17 = .ok (.istore_n 3, 1) := by decide +kernel
theorem dX10_gcd_18 : decode cX10_gcd 18 = .ok (.goto (-14), 3) := by decide +kernel
theorem dX10_gcd_21 : decode cX10_gcd 21 = .ok (.iload_n 2, 1) := by decide +kernel
theorem dX10_gcd_22 : decode cX10_gcd 22 = .ok (.ireturn, 1) := by decide +kernel
theorem dX10_spreads_0 : decode cX10_spreads 0 = .ok (.iconst 0, 1) := by decide +kernel
theorem dX10_spreads_1 : decode cX10_spreads 1 = .ok (.istore_n 3, 1) := by decide +kernel
theorem dX10_spreads_2 : decode cX10_spreads 2 = .ok (.iconst 0, 1) := by decide +kernel
theorem dX10_spreads_3 : decode cX10_spreads 3 = .ok (.istore 4, 2) := by decide +kernel
theorem dX10_spreads_5 : decode cX10_spreads 5 = .ok (.iconst 0, 1) := by decide +kernel
theorem dX10_spreads_6 : decode cX10_spreads 6 = .ok (.istore 5, 2) := by decide +kernel
theorem dX10_spreads_8 : decode cX10_spreads 8 = .ok (.iload 5, 2) := by decide +kernel
theorem dX10_spreads_10 : decode cX10_spreads 10 = .ok (.iconst 4, 1) := by decide +kernel
theorem dX10_spreads_11 : decode cX10_spreads 11 = .ok (.if_icmp .ge 38, 3) := by decide +kernel
theorem dX10_spreads_14 : decode cX10_spreads 14 = .ok (.iload_n 3, 1) := by decide +kernel
theorem dX10_spreads_15 : decode cX10_spreads 15 = .ok (.aload_n 0, 1) := by decide +kernel
theorem dX10_spreads_16 : decode cX10_spreads 16 = .ok (.iload_n 1, 1) := by decide +kernel
theorem dX10_spreads_17 : decode cX10_spreads 17 = .ok (.bipush 17, 2) := by decide +kernel
theorem dX10_spreads_19 : decode cX10_spreads 19 = .ok (.idiv, 1) := by decide +kernel
theorem dX10_spreads_20 : decode cX10_spreads 20 = .ok (.iload_n 1, 1) := by decide +kernel
theorem dX10_spreads_21 : decode cX10_spreads 21 = .ok (.bipush 17, 2) := by decide +kernel
theorem dX10_spreads_23 : decode cX10_spreads 23 = .ok (.irem, 1) := by decide +kernel
theorem dX10_spreads_24 : decode cX10_spreads 24 = .ok (.bipush 8, 2) := by decide +kernel
theorem dX10_spreads_26 : decode cX10_spreads 26 = .ok (.isub, 1) := by decide +kernel
theorem dX10_spreads_27 : decode cX10_spreads 27 = .ok (.iload 5, 2) := by decide +kernel
theorem dX10_spreads_29 : decode cX10_spreads 29 = .ok (.invokevirtual 157, 3) := by decide +kernel
theorem dX10_spreads_32 : decode cX10_spreads 32 = .ok (.iconst 3, 1) := by decide +kernel
theorem dX10_spreads_33 : decode cX10_spreads 33 = .ok (.if_icmp .ne 7, 3) := by decide +kernel
theorem dX10_spreads_36 : decode cX10_spreads 36 = .ok (.iconst 0, 1) := by decide +kernel
theorem dX10_spreads_37 : decode cX10_spreads 37 = .ok (.goto 4, 3) := by decide +kernel
theorem dX10_spreads_40 : decode cX10_spreads 40 = .ok (.iconst 1, 1) := by decide +kernel
theorem dX10_spreads_41 : decode cX10_spreads 41 = .ok (.iadd, 1) := by decide +kernel
theorem dX10_spreads_42 : decode cX10_spreads 42 = .ok (.istore_n 3, 1) := by decide +kernel
theorem dX10_spreads_43 : decode cX10_spreads 43 = .ok (.iinc 5 1, 3) := by decide +kernel
theorem dX10_spreads_46 : decode cX10_spreads 46 = .ok (.goto (-38), 3) := by decide +kernel
theorem dX10_spreads_49 : decode cX10_spreads 49 = .ok (.iload_n 3, 1) := by decide +kernel
theorem dX10_spreads_50 : decode cX10_spreads 50 = .ok (.ifCond .ne 23, 3) := by decide +kernel
theorem dX10_spreads_53 : decode cX10_spreads 53 = .ok (.aload_n 0, 1) := by decide +kernel
theorem dX10_spreads_54 : decode cX10_spreads 54 = .ok (.getfield 47, 3) := by decide +kernel
theorem dX10_spreads_57 : decode cX10_spreads 57 = .ok (.iload_n 1, 1) := by decide +kernel
theorem dX10_spreads_58 : decode cX10_spreads 58 = .ok (.dup2, 1) := by decide +kernel
theorem dX10_spreads_59 : decode cX10_spreads 59 = .ok (.iaload, 1) := by decide +kernel
theorem dX10_spreads_60 : decode cX10_spreads 60 = .ok (.bipush 12, 2) := by decide +kernel
theorem dX10_spreads_62 : decode cX10_spreads 62 = .ok (.aload_n 0, 1) := by decide +kernel
theorem dX10_spreads_63 : decode cX10_spreads 63 = .ok (.getfield 44, 3) := by decide +kernel
theorem dX10_spreads_66 : decode cX10_spreads 66 = .ok (.iload_n 1, 1) := by decide +kernel
theorem dX10_spreads_67 : decode cX10_spreads 67 = .ok (.iaload, 1) := by decide +kernel
theorem dX10_spreads_68 : decode cX10_spreads 68 = .ok (.imul, 1) := by decide +kernel
theorem dX10_spreads_69 : decode cX10_spreads 69 = .ok (.iadd, 1) := by decide +kernel
theorem dX10_spreads_70 : decode cX10_spreads 70 = .ok (.iastore, 1) := by decide +kernel
theorem dX10_spreads_71 : decode cX10_spreads 71 = .ok (.iconst 0, 1) := by decide +kernel
theorem dX10_spreads_72 : decode cX10_spreads 72 = .ok (.ireturn, 1) := by decide +kernel
theorem dX10_spreads_73 : decode cX10_spreads 73 = .ok (.iconst 0, 1) := by decide +kernel
theorem dX10_spreads_74 : decode cX10_spreads 74 = .ok (.istore 5, 2) := by decide +kernel
theorem dX10_spreads_76 : decode cX10_spreads 76 = .ok (.iload 5, 2) := by decide +kernel
theorem dX10_spreads_78 : decode cX10_spreads 78 = .ok (.iconst 4, 1) := by decide +kernel
theorem dX10_spreads_79 : decode cX10_spreads 79 = .ok (.if_icmp .ge 84, 3) := by decide +kernel
theorem dX10_spreads_82 : decode cX10_spreads 82 = .ok (.aload_n 0, 1) := by decide +kernel
theorem dX10_spreads_83 : decode cX10_spreads 83 = .ok (.iload_n 1, 1) := by decide +kernel
theorem dX10_spreads_84 : decode cX10_spreads 84 = .ok (.bipush 17, 2) := by decide +kernel
theorem dX10_spreads_86 : decode cX10_spreads 86 = .ok (.idiv, 1) := by decide +kernel
theorem dX10_spreads_87 : decode cX10_spreads 87 = .ok (.iload_n 1, 1) := by decide +kernel
theorem dX10_spreads_88 : decode cX10_spreads 88 = .ok (.bipush 17, 2) := by decide +kernel
theorem dX10_spreads_90 : decode cX10_spreads 90 = .ok (.irem, 1) := by decide +kernel
theorem dX10_spreads_91 : decode cX10_spreads 91 = .ok (.bipush 8, 2) := by decide +kernel
theorem dX10_spreads_93 : decode cX10_spreads 93 = .ok (.isub, 1) := by decide +kernel
theorem dX10_spreads_94 : decode cX10_spreads 94 = .ok (.iload 5, 2) := by decide +kernel
theorem dX10_spreads_96 : decode cX10_spreads 96 = .ok (.invokevirtual 157, 3) := by decide +kernel
theorem dX10_spreads_99 : decode cX10_spreads 99 = .ok (.istore 6, 2) := by decide +kernel
theorem dX10_spreads_101 : decode cX10_spreads 101 = .ok (.aload_n 0, 1) := by decide +kernel
theorem dX10_spreads_102 : decode cX10_spreads 102 = .ok (.getfield 44, 3) := by decide +kernel
theorem dX10_spreads_105 : decode cX10_spreads 105 = .ok (.iload_n 1, 1) := by decide +kernel
theorem dX10_spreads_106 : decode cX10_spreads 106 = .ok (.iaload, 1) := by decide +kernel
theorem dX10_spreads_107 : decode cX10_spreads 107 = .ok (.bipush 12, 2) := by decide +kernel
theorem dX10_spreads_109 : decode cX10_spreads 109 = .ok (.iload_n 3, 1) := by decide +kernel
theorem dX10_spreads_110 : decode cX10_spreads 110 = .ok (.idiv, 1) := by decide +kernel
theorem dX10_spreads_111 : decode cX10_spreads 111 = .ok (.imul, 1) := by decide +kernel
theorem dX10_spreads_112 : decode cX10_spreads 112 = .ok (.istore 7, 2) := by decide +kernel
theorem dX10_spreads_114 : decode cX10_spreads 114 = .ok (.iload 6, 2) := by decide +kernel
theorem dX10_spreads_116 : decode cX10_spreads 116 = .ok (.ifCond .ne 24, 3) := by decide +kernel
theorem dX10_spreads_119 : decode cX10_spreads 119 = .ok (.aload_n 0, 1) := by decide +kernel
theorem dX10_spreads_120 : decode cX10_spreads 120 = .ok (.getfield 47, 3) := by decide +kernel
theorem dX10_spreads_123 : decode cX10_spreads 123 = .ok (.aload_n 0, 1) := by decide +kernel
theorem dX10_spreads_124 : decode cX10_spreads 124 = .ok (.getfield 144, 3) := by decide +kernel
theorem dX10_spreads_127 : decode cX10_spreads 127 = .ok (.aload_n 0, 1) := by decide +kernel
theorem dX10_spreads_128 : decode cX10_spreads 128 = .ok (.getfield 147, 3) := by decide +kernel
theorem dX10_spreads_131 : decode cX10_spreads 131 = .ok (.invokestatic 164, 3) := by decide +kernel
theorem dX10_spreads_134 : decode cX10_spreads 134 = .ok (.dup2, 1) := by decide +kernel
theorem dX10_spreads_135 : decode cX10_spreads 135 = .ok (.iaload, 1) := by decide +kernel
theorem dX10_spreads_136 : decode cX10_spreads 136 = .ok (.iload 7, 2) := by decide +kernel
theorem dX10_spreads_138 : decode cX10_spreads 138 = .ok (.iadd, 1) := by decide +kernel
theorem dX10_spreads_139 : decode cX10_spreads 139 = .ok (.iastore, 1) := by decide +kernel
theorem dX10_spreads_140 : decode cX10_spreads 140 = .ok (.iload 4, 2) := by decide +kernel
theorem dX10_spreads_142 : decode cX10_spreads 142 = .ok (.iload 6, 2) := by decide +kernel
theorem dX10_spreads_144 : decode cX10_spreads 144 = .ok (.iload_n 2, 1) := by decide +kernel
theorem dX10_spreads_145 : decode cX10_spreads 145 = .ok (.if_icmp .ne 8, 3) := by decide +kernel
theorem dX10_spreads_148 : decode cX10_spreads 148 = .ok (.iload 7, 2) := by decide +kernel
theorem dX10_spreads_150 : decode cX10_spreads 150 = .ok (.goto 4, 3) := by decide +kernel
theorem dX10_spreads_153 : decode cX10_spreads 153 = .ok (.iconst 0, 1) := by decide +kernel
theorem dX10_spreads_154 : decode cX10_spreads 154 = .ok (.iadd, 1) := by decide +kernel
theorem dX10_spreads_155 : decode cX10_spreads 155 = .ok (.istore 4, 2) := by decide +kernel
theorem dX10_spreads_157 : decode cX10_spreads 157 = .ok (.iinc 5 1, 3) := by decide +kernel
theorem dX10_spreads_160 : decode cX10_spreads 160 = .ok (.goto (-84), 3) := by decide +kernel
theorem dX10_spreads_163 : decode cX10_spreads 163 = .ok (.iload 4, 2) := by decide +kernel
theorem dX10_spreads_165 : decode cX10_spreads 165 = .ok (.ireturn, 1) := by decide +kernel
theorem dX10_odds_0 : decode cX10_odds 0 = .ok (.aload_n 0, 1) := by decide +kernel
theorem dX10_odds_1 : decode cX10_odds 1 = .ok (.iconst 0, 1) := by decide +kernel
theorem dX10_odds_2 : decode cX10_odds 2 = .ok (.putfield 56, 3) := by decide +kernel
theorem dX10_odds_5 : decode cX10_odds 5 = .ok (.iload_n 1, 1) := by decide +kernel
theorem dX10_odds_6 : decode cX10_odds 6 = .ok (.iconst 1, 1) := by decide +kernel
theorem dX10_odds_7 : decode cX10_odds 7 = .ok (.iconst 2, 1) := by decide +kernel
theorem dX10_odds_8 : decode cX10_odds 8 = .ok (.invokestatic 60, 3) := by decide +kernel
theorem dX10_odds_11 : decode cX10_odds 11 = .ok (.ifCond .eq 21, 3) := by decide +kernel
theorem dX10_odds_14 : decode cX10_odds 14 = .ok (.iload_n 2, 1) := by decide +kernel
theorem dX10_odds_15 : decode cX10_odds 15 = .ok (.iconst 0, 1) := by decide +kernel
theorem dX10_odds_16 : decode cX10_odds 16 = .ok (.iconst 4, 1) := by decide +kernel
theorem dX10_odds_17 : decode cX10_odds 17 = .ok (.invokestatic 60, 3) := by decide +kernel
theorem dX10_odds_20 : decode cX10_odds 20 = .ok (.ifCond .eq 12, 3) := by decide +kernel
theorem dX10_odds_23 : decode cX10_odds 23 = .ok (.iload_n 3, 1) := by decide +kernel
theorem dX10_odds_24 : decode cX10_odds 24 = .ok (.iconst 0, 1) := by decide +kernel
theorem dX10_odds_25 : decode cX10_odds 25 = .ok (.iconst 1, 1) := by decide +kernel
theorem dX10_odds_26 : decode cX10_odds 26 = .ok (.invokestatic 60, 3) := by decide +kernel
theorem dX10_odds_29 : decode cX10_odds 29 = .ok (.ifCond .ne 5, 3) := by decide +kernel
theorem dX10_odds_32 : decode cX10_odds 32 = .ok (.iconst (-1), 1) := by decide +kernel
theorem dX10_odds_33 : decode cX10_odds 33 = .ok (.ireturn, 1) := by decide +kernel
theorem dX10_odds_34 : decode cX10_odds 34 = .ok (.aload_n 0, 1) := by decide +kernel
theorem dX10_odds_35 : decode cX10_odds 35 = .ok (.invokevirtual 154, 3) := by decide +kernel
theorem dX10_odds_38 : decode cX10_odds 38 = .ok (.ifCond .ne 6, 3) := by decide +kernel
theorem dX10_odds_41 : decode cX10_odds 41 = .ok (.bipush (-2), 2) := by decide +kernel
theorem dX10_odds_43 : decode cX10_odds 43 = .ok (.ireturn, 1) := by decide +kernel
theorem dX10_odds_44 : decode cX10_odds 44 = .ok (.iconst 0, 1) := by decide +kernel
theorem dX10_odds_45 : decode cX10_odds 45 = .ok (.istore 4, 2) := by decide +kernel
theorem dX10_odds_47 : decode cX10_odds 47 = .ok (.iconst 1, 1) := by decide +kernel
theorem dX10_odds_48 : decode cX10_odds 48 = .ok (.istore 5, 2) := by decide +kernel
theorem dX10_odds_50 : decode cX10_odds 50 = .ok (.iconst 0, 1) := by decide +kernel
theorem dX10_odds_51 : decode cX10_odds 51 = .ok (.istore 6, 2) := by decide +kernel
theorem dX10_odds_53 : decode cX10_odds 53 = .ok (.iload 6, 2) := by decide +kernel
theorem dX10_odds_55 : decode cX10_odds 55 = .ok (.sipush 340, 3) := by decide +kernel
theorem dX10_odds_58 : decode cX10_odds 58 = .ok (.if_icmp .ge 41, 3) := by decide +kernel
theorem dX10_odds_61 : decode cX10_odds 61 = .ok (.aload_n 0, 1) := by decide +kernel
theorem dX10_odds_62 : decode cX10_odds 62 = .ok (.getfield 44, 3) := by decide +kernel
theorem dX10_odds_65 : decode cX10_odds 65 = .ok (.iload 6, 2) := by decide +kernel
theorem dX10_odds_67 : decode cX10_odds 67 = .ok (.iload 6, 2) := by decide +kernel
theorem dX10_odds_69 : decode cX10_odds 69 = .ok (.aload_n 0, 1) := by decide +kernel
theorem dX10_odds_70 : decode cX10_odds 70 = .ok (.getfield 19, 3) := by decide +kernel
theorem dX10_odds_73 : decode cX10_odds 73 = .ok (.iconst 0, 1) := by decide +kernel
theorem dX10_odds_74 : decode cX10_odds 74 = .ok (.iaload, 1) := by decide +kernel
theorem dX10_odds_75 : decode cX10_odds 75 = .ok (.aload_n 0, 1) := by decide +kernel
theorem dX10_odds_76 : decode cX10_odds 76 = .ok (.getfield 19, 3) := by decide +kernel
theorem dX10_odds_79 : decode cX10_odds 79 = .ok (.iconst 1, 1) := by decide +kernel
theorem dX10_odds_80 : decode cX10_odds 80 = .ok (.iaload, 1) := by decide +kernel
theorem dX10_odds_81 : decode cX10_odds 81 = .ok (.invokestatic 164, 3) := by decide +kernel
theorem dX10_odds_84 : decode cX10_odds 84 = .ok (.if_icmp .ne 7, 3) := by decide +kernel
theorem dX10_odds_87 : decode cX10_odds 87 = .ok (.iconst 1, 1) := by decide +kernel
theorem dX10_odds_88 : decode cX10_odds 88 = .ok (.goto 4, 3) := by decide +kernel
theorem dX10_odds_91 : decode cX10_odds 91 = .ok (.iconst 0, 1) := by decide +kernel
theorem dX10_odds_92 : decode cX10_odds 92 = .ok (.iastore, 1) := by decide +kernel
theorem dX10_odds_93 : decode cX10_odds 93 = .ok (.iinc 6 1, 3) := by decide +kernel
theorem dX10_odds_96 : decode cX10_odds 96 = .ok (.goto (-43), 3) := by decide +kernel
theorem dX10_odds_99 : decode cX10_odds 99 = .ok (.iconst 0, 1) := by decide +kernel
theorem dX10_odds_100 : decode cX10_odds 100 = .ok (.istore 6, 2) := by decide +kernel
theorem dX10_odds_102 : decode cX10_odds 102 = .ok (.iload 6, 2) := by decide +kernel
theorem dX10_odds_104 : decode cX10_odds 104 = .ok (.iload_n 2, 1) := by decide +kernel
theorem dX10_odds_105 : decode cX10_odds 105 = .ok (.if_icmp .ge 122, 3) := by decide +kernel
theorem dX10_odds_108 : decode cX10_odds 108 = .ok (.iload 5, 2) := by decide +kernel
theorem dX10_odds_110 : decode cX10_odds 110 = .ok (.bipush 12, 2) := by decide +kernel
theorem dX10_odds_112 : decode cX10_odds 112 = .ok (.imul, 1) := by decide +kernel
theorem dX10_odds_113 : decode cX10_odds 113 = .ok (.istore 5, 2) := by decide +kernel
theorem dX10_odds_115 : decode cX10_odds 115 = .ok (.iload 4, 2) := by decide +kernel
theorem dX10_odds_117 : decode cX10_odds 117 = .ok (.bipush 12, 2) := by decide +kernel
theorem dX10_odds_119 : decode cX10_odds 119 = .ok (.imul, 1) := by decide +kernel
theorem dX10_odds_120 : decode cX10_odds 120 = .ok (.istore 4, 2) := by decide +kernel
theorem dX10_odds_122 : decode cX10_odds 122 = .ok (.iconst 0, 1) := by decide +kernel
theorem dX10_odds_123 : decode cX10_odds 123 = .ok (.istore 7, 2) := by decide +kernel
theorem dX10_odds_125 : decode cX10_odds 125 = .ok (.iload 7, 2) := by decide +kernel
theorem dX10_odds_127 : decode cX10_odds 127 = .ok (.sipush 340, 3) := by decide +kernel
theorem dX10_odds_130 : decode cX10_odds 130 = .ok (.if_icmp .ge 17, 3) := by decide +kernel
theorem dX10_odds_133 : decode cX10_odds 133 = .ok (.aload_n 0, 1) := by decide +kernel
theorem dX10_odds_134 : decode cX10_odds 134 = .ok (.getfield 47, 3) := by decide +kernel
theorem dX10_odds_137 : decode cX10_odds 137 = .ok (.iload 7, 2) := by decide +kernel
theorem dX10_odds_139 : decode cX10_odds 139 = .ok (.iconst 0, 1) := by decide +kernel
theorem dX10_odds_140 : decode cX10_odds 140 = .ok (.iastore, 1) := by decide +kernel
theorem dX10_odds_141 : decode cX10_odds 141 = .ok (.iinc 7 1, 3) := by decide +kernel
theorem dX10_odds_144 : decode cX10_odds 144 = .ok (.goto (-19), 3) := by decide +kernel
theorem dX10_odds_147 : decode cX10_odds 147 = .ok (.iconst 0, 1) := by decide +kernel
theorem dX10_odds_148 : decode cX10_odds 148 = .ok (.istore 7, 2) := by decide +kernel
theorem dX10_odds_150 : decode cX10_odds 150 = .ok (.iload 7, 2) := by decide +kernel
theorem dX10_odds_152 : decode cX10_odds 152 = .ok (.sipush 340, 3) := by decide +kernel
theorem dX10_odds_155 : decode cX10_odds 155 = .ok (.if_icmp .ge 35, 3) := by decide +kernel
theorem dX10_odds_158 : decode cX10_odds 158 = .ok (.iload 4, 2) := by decide +kernel
theorem dX10_odds_160 : decode cX10_odds 160 = .ok (.aload_n 0, 1) := by decide +kernel
theorem dX10_odds_161 : decode cX10_odds 161 = .ok (.getfield 44, 3) := by decide +kernel
theorem dX10_odds_164 : decode cX10_odds 164 = .ok (.iload 7, 2) := by decide +kernel
theorem dX10_odds_166 : decode cX10_odds 166 = .ok (.iaload, 1) := by decide +kernel
theorem dX10_odds_167 : decode cX10_odds 167 = .ok (.ifCond .le 13, 3) := by decide +kernel
theorem dX10_odds_170 : decode cX10_odds 170 = .ok (.aload_n 0, 1) := by decide +kernel
theorem dX10_odds_171 : decode cX10_odds 171 = .ok (.iload 7, 2) := by decide +kernel
theorem dX10_odds_173 : decode cX10_odds 173 = .ok (.iload_n 1, 1) := by decide +kernel
theorem dX10_odds_174 : decode cX10_odds 174 = .ok (.invokevirtual 190, 3) := by decide +kernel
theorem dX10_odds_177 : decode cX10_odds 177 = .ok (.goto 4, 3) := by decide +kernel
theorem dX10_odds_180 : decode cX10_odds 180 = .ok (.iconst 0, 1) := by decide +kernel
theorem dX10_odds_181 : decode cX10_odds 181 = .ok (.iadd, 1) := by decide +kernel
theorem dX10_odds_182 : decode cX10_odds 182 = .ok (.istore 4, 2) := by decide +kernel
theorem dX10_odds_184 : decode cX10_odds 184 = .ok (.iinc 7 1, 3) := by decide +kernel
theorem dX10_odds_187 : decode cX10_odds 187 = .ok (.goto (-37), 3) := by decide +kernel
theorem dX10_odds_190 : decode cX10_odds 190 = .ok (.iconst 0, 1) := by decide +kernel
theorem dX10_odds_191 : decode cX10_odds 191 = .ok (.istore 7, 2) := by decide +kernel
theorem dX10_odds_193 : decode cX10_odds 193 = .ok (.iload 7, 2) := by decide +kernel
theorem dX10_odds_195 : decode cX10_odds 195 = .ok (.sipush 340, 3) := by decide +kernel
theorem dX10_odds_198 : decode cX10_odds 198 = .ok (.if_icmp .ge 23, 3) := by decide +kernel
theorem dX10_odds_201 : decode cX10_odds 201 = .ok (.aload_n 0, 1) := by decide +kernel
theorem dX10_odds_202 : decode cX10_odds 202 = .ok (.getfield 44, 3) := by decide +kernel
theorem dX10_odds_205 : decode cX10_odds 205 = .ok (.iload 7, 2) := by decide +kernel
theorem dX10_odds_207 : decode cX10_odds 207 = .ok (.aload_n 0, 1) := by decide +kernel
theorem dX10_odds_208 : decode cX10_odds 208 = .ok (.getfield 47, 3) := by decide +kernel
theorem dX10_odds_211 : decode cX10_odds 211 = .ok (.iload 7, 2) := by decide +kernel
theorem dX10_odds_213 : decode cX10_odds 213 = .ok (.iaload, 1) := by decide +kernel
theorem dX10_odds_214 : decode cX10_odds 214 = .ok (.iastore, 1) := by decide +kernel
theorem dX10_odds_215 : decode cX10_odds 215 = .ok (.iinc 7 1, 3) := by decide +kernel
theorem dX10_odds_218 : decode cX10_odds 218 = .ok (.goto (-25), 3) := by decide +kernel
theorem dX10_odds_221 : decode cX10_odds 221 = .ok (.iinc 6 1, 3) := by decide +kernel
theorem dX10_odds_224 : decode cX10_odds 224 = .ok (.goto (-122), 3) := by decide +kernel
theorem dX10_odds_227 : decode cX10_odds 227 = .ok (.iload 4, 2) := by decide +kernel
theorem dX10_odds_229 : decode cX10_odds 229 = .ok (.iload 5, 2) := by decide +kernel
theorem dX10_odds_231 : decode cX10_odds 231 = .ok (.invokestatic 193, 3) := by decide +kernel
theorem dX10_odds_234 : decode cX10_odds 234 = .ok (.istore 6, 2) := by decide +kernel
theorem dX10_odds_236 : decode cX10_odds 236 = .ok (.iload_n 3, 1) := by decide +kernel
theorem dX10_odds_237 : decode cX10_odds 237 = .ok (.ifCond .ne 11, 3) := by decide +kernel
theorem dX10_odds_240 : decode cX10_odds 240 = .ok (.iload 4, 2) := by decide +kernel
theorem dX10_odds_242 : decode cX10_odds 242 = .ok (.iload 6, 2) := by decide +kernel
theorem dX10_odds_244 : decode cX10_odds 244 = .ok (.idiv, 1) := by decide +kernel
theorem dX10_odds_245 : decode cX10_odds 245 = .ok (.goto 8, 3) := by decide +kernel
theorem dX10_odds_248 : decode cX10_odds 248 = .ok (.iload 5, 2) := by decide +kernel
theorem dX10_odds_250 : decode cX10_odds 250 = .ok (.iload 6, 2) := by decide +kernel
theorem dX10_odds_252 : decode cX10_odds 252 = .ok (.idiv, 1) := by decide +kernel
theorem dX10_odds_253 : decode cX10_odds 253 = .ok (.ireturn, 1) := by decide +kernel
theorem dX10_decides_0 : decode cX10_decides 0 = .ok (.aload_n 0, 1) := by decide +kernel
theorem dX10_decides_1 : decode cX10_decides 1 = .ok (.iconst 0, 1) := by decide +kernel
theorem dX10_decides_2 : decode cX10_decides 2 = .ok (.putfield 56, 3) := by decide +kernel
theorem dX10_decides_5 : decode cX10_decides 5 = .ok (.aload_n 0, 1) := by decide +kernel
theorem dX10_decides_6 : decode cX10_decides 6 = .ok (.invokevirtual 154, 3) := by decide +kernel
theorem dX10_decides_9 : decode cX10_decides 9 = .ok (.ifCond .ne 6, 3) := by decide +kernel
theorem dX10_decides_12 : decode cX10_decides 12 = .ok (.bipush (-2), 2) := by decide +kernel
theorem dX10_decides_14 : decode cX10_decides 14 = .ok (.ireturn, 1) := by decide +kernel
theorem dX10_decides_15 : decode cX10_decides 15 = .ok (.aload_n 0, 1) := by decide +kernel
theorem dX10_decides_16 : decode cX10_decides 16 = .ok (.invokevirtual 180, 3) := by decide +kernel
theorem dX10_decides_19 : decode cX10_decides 19 = .ok (.aload_n 0, 1) := by decide +kernel
theorem dX10_decides_20 : decode cX10_decides 20 = .ok (.getfield 35, 3) := by decide +kernel
theorem dX10_decides_23 : decode cX10_decides 23 = .ok (.aload_n 0, 1) := by decide +kernel
theorem dX10_decides_24 : decode cX10_decides 24 = .ok (.invokevirtual 183, 3) := by decide +kernel
theorem dX10_decides_27 : decode cX10_decides 27 = .ok (.iaload, 1) := by decide +kernel
theorem dX10_decides_28 : decode cX10_decides 28 = .ok (.istore_n 1, 1) := by decide +kernel
theorem dX10_decides_29 : decode cX10_decides 29 = .ok (.iconst 0, 1) := by decide +kernel
theorem dX10_decides_30 : decode cX10_decides 30 = .ok (.istore_n 2, 1) := by decide +kernel
theorem dX10_decides_31 : decode cX10_decides 31 = .ok (.iconst 0, 1) := by decide +kernel
theorem dX10_decides_32 : decode cX10_decides 32 = .ok (.istore_n 3, 1) := by decide +kernel
theorem dX10_decides_33 : decode cX10_decides 33 = .ok (.iload_n 3, 1) := by decide +kernel
theorem dX10_decides_34 : decode cX10_decides 34 = .ok (.bipush 20, 2) := by decide +kernel
theorem dX10_decides_36 : decode cX10_decides 36 = .ok (.if_icmp .ge 86, 3) := by decide +kernel
theorem dX10_decides_39 : decode cX10_decides 39 = .ok (.aload_n 0, 1) := by decide +kernel
theorem dX10_decides_40 : decode cX10_decides 40 = .ok (.getfield 19, 3) := by decide +kernel
theorem dX10_decides_43 : decode cX10_decides 43 = .ok (.bipush 7, 2) := by decide +kernel
theorem dX10_decides_45 : decode cX10_decides 45 = .ok (.iload_n 3, 1) := by decide +kernel
theorem dX10_decides_46 : decode cX10_decides 46 = .ok (.iadd, 1) := by decide +kernel
theorem dX10_decides_47 : decode cX10_decides 47 = .ok (.iaload, 1) := by decide +kernel
theorem dX10_decides_48 : decode cX10_decides 48 = .ok (.istore 4, 2) := by decide +kernel
theorem dX10_decides_50 : decode cX10_decides 50 = .ok (.iload 4, 2) := by decide +kernel
theorem dX10_decides_52 : decode cX10_decides 52 = .ok (.ifCond .eq 64, 3) := by decide +kernel
theorem dX10_decides_55 : decode cX10_decides 55 = .ok (.aload_n 0, 1) := by decide +kernel
theorem dX10_decides_56 : decode cX10_decides 56 = .ok (.iload_n 3, 1) := by decide +kernel
theorem dX10_decides_57 : decode cX10_decides 57 = .ok (.iconst 5, 1) := by decide +kernel
theorem dX10_decides_58 : decode cX10_decides 58 = .ok (.irem, 1) := by decide +kernel
theorem dX10_decides_59 : decode cX10_decides 59 = .ok (.iload_n 3, 1) := by decide +kernel
theorem dX10_decides_60 : decode cX10_decides 60 = .ok (.iconst 5, 1) := by decide +kernel
theorem dX10_decides_61 : decode cX10_decides 61 = .ok (.idiv, 1) := by decide +kernel
theorem dX10_decides_62 : decode cX10_decides 62 = .ok (.invokevirtual 140, 3) := by decide +kernel
theorem dX10_decides_65 : decode cX10_decides 65 = .ok (.ifCond .eq 51, 3) := by decide +kernel
theorem dX10_decides_68 : decode cX10_decides 68 = .ok (.aload_n 0, 1) := by decide +kernel
theorem dX10_decides_69 : decode cX10_decides 69 = .ok (.getfield 19, 3) := by decide +kernel
theorem dX10_decides_72 : decode cX10_decides 72 = .ok (.bipush 7, 2) := by decide +kernel
theorem dX10_decides_74 : decode cX10_decides 74 = .ok (.iload_n 3, 1) := by decide +kernel
theorem dX10_decides_75 : decode cX10_decides 75 = .ok (.iadd, 1) := by decide +kernel
theorem dX10_decides_76 : decode cX10_decides 76 = .ok (.iconst 0, 1) := by decide +kernel
theorem dX10_decides_77 : decode cX10_decides 77 = .ok (.iastore, 1) := by decide +kernel
theorem dX10_decides_78 : decode cX10_decides 78 = .ok (.aload_n 0, 1) := by decide +kernel
theorem dX10_decides_79 : decode cX10_decides 79 = .ok (.invokevirtual 180, 3) := by decide +kernel
theorem dX10_decides_82 : decode cX10_decides 82 = .ok (.iload_n 2, 1) := by decide +kernel
theorem dX10_decides_83 : decode cX10_decides 83 = .ok (.aload_n 0, 1) := by decide +kernel
theorem dX10_decides_84 : decode cX10_decides 84 = .ok (.getfield 35, 3) := by decide +kernel
theorem dX10_decides_87 : decode cX10_decides 87 = .ok (.aload_n 0, 1) := by decide +kernel
theorem dX10_decides_88 : decode cX10_decides 88 = .ok (.invokevirtual 183, 3) := by decide +kernel
theorem dX10_decides_91 : decode cX10_decides 91 = .ok (.iaload, 1) := by decide +kernel
theorem dX10_decides_92 : decode cX10_decides 92 = .ok (.iload_n 1, 1) := by decide +kernel
theorem dX10_decides_93 : decode cX10_decides 93 = .ok (.if_icmp .ne 7, 3) := by decide +kernel
theorem dX10_decides_96 : decode cX10_decides 96 = .ok (.iconst 0, 1) := by decide +kernel
theorem dX10_decides_97 : decode cX10_decides 97 = .ok (.goto 6, 3) := by decide +kernel
theorem dX10_decides_100 : decode cX10_decides 100 = .ok (.iconst 1, 1) := by decide +kernel
theorem dX10_decides_101 : decode cX10_decides 101 = .ok (.iload_n 3, 1) := by decide +kernel
theorem dX10_decides_102 : decode cX10_decides 102 = .ok (.ishl, 1) := by decide +kernel
theorem dX10_decides_103 : decode cX10_decides 103 = .ok (.ior, 1) := by decide +kernel
theorem dX10_decides_104 : decode cX10_decides 104 = .ok (.istore_n 2, 1) := by decide +kernel
theorem dX10_decides_105 : decode cX10_decides 105 = .ok (.aload_n 0, 1) := by decide +kernel
theorem dX10_decides_106 : decode cX10_decides 106 = .ok (.getfield 19, 3) := by decide +kernel
theorem dX10_decides_109 : decode cX10_decides 109 = .ok (.bipush 7, 2) := by decide +kernel
theorem dX10_decides_111 : decode cX10_decides 111 = .ok (.iload_n 3, 1) := by decide +kernel
theorem dX10_decides_112 : decode cX10_decides 112 = .ok (.iadd, 1) := by decide +kernel
theorem dX10_decides_113 : decode cX10_decides 113 = .ok (.iload 4, 2) := by decide +kernel
theorem dX10_decides_115 : decode cX10_decides 115 = .ok (.iastore, 1) := by decide +kernel
theorem dX10_decides_116 : decode cX10_decides 116 = .ok (.iinc 3 1, 3) := by decide +kernel
theorem dX10_decides_119 : decode cX10_decides 119 = .ok (.goto (-86), 3) := by decide +kernel
theorem dX10_decides_122 : decode cX10_decides 122 = .ok (.iload_n 2, 1) := by decide +kernel
theorem dX10_decides_123 : decode cX10_decides 123 = .ok (.ireturn, 1) := by decide +kernel
theorem dX10_tells_0 : decode cX10_tells 0 = .ok (.aload_n 0, 1) := by decide +kernel
theorem dX10_tells_1 : decode cX10_tells 1 = .ok (.iconst 0, 1) := by decide +kernel
theorem dX10_tells_2 : decode cX10_tells 2 = .ok (.putfield 56, 3) := by decide +kernel
theorem dX10_tells_5 : decode cX10_tells 5 = .ok (.iload_n 1, 1) := by decide +kernel
theorem dX10_tells_6 : decode cX10_tells 6 = .ok (.iconst 0, 1) := by decide +kernel
theorem dX10_tells_7 : decode cX10_tells 7 = .ok (.iconst 3, 1) := by decide +kernel
theorem dX10_tells_8 : decode cX10_tells 8 = .ok (.invokestatic 60, 3) := by decide +kernel
theorem dX10_tells_11 : decode cX10_tells 11 = .ok (.ifCond .ne 5, 3) := by decide +kernel
theorem dX10_tells_14 : decode cX10_tells 14 = .ok (.iconst (-1), 1) := by decide +kernel
theorem dX10_tells_15 : decode cX10_tells 15 = .ok (.ireturn, 1) := by decide +kernel
theorem dX10_tells_16 : decode cX10_tells 16 = .ok (.aload_n 0, 1) := by decide +kernel
theorem dX10_tells_17 : decode cX10_tells 17 = .ok (.getfield 134, 3) := by decide +kernel
theorem dX10_tells_20 : decode cX10_tells 20 = .ok (.bipush 8, 2) := by decide +kernel
theorem dX10_tells_22 : decode cX10_tells 22 = .ok (.if_icmp .ne 6, 3) := by decide +kernel
theorem dX10_tells_25 : decode cX10_tells 25 = .ok (.bipush (-3), 2) := by decide +kernel
theorem dX10_tells_27 : decode cX10_tells 27 = .ok (.ireturn, 1) := by decide +kernel
theorem dX10_tells_28 : decode cX10_tells 28 = .ok (.aload_n 0, 1) := by decide +kernel
theorem dX10_tells_29 : decode cX10_tells 29 = .ok (.getfield 32, 3) := by decide +kernel
theorem dX10_tells_32 : decode cX10_tells 32 = .ok (.aload_n 0, 1) := by decide +kernel
theorem dX10_tells_33 : decode cX10_tells 33 = .ok (.getfield 134, 3) := by decide +kernel
theorem dX10_tells_36 : decode cX10_tells 36 = .ok (.iload_n 1, 1) := by decide +kernel
theorem dX10_tells_37 : decode cX10_tells 37 = .ok (.iastore, 1) := by decide +kernel
theorem dX10_tells_38 : decode cX10_tells 38 = .ok (.aload_n 0, 1) := by decide +kernel
theorem dX10_tells_39 : decode cX10_tells 39 = .ok (.dup, 1) := by decide +kernel
theorem dX10_tells_40 : decode cX10_tells 40 = .ok (.getfield 134, 3) := by decide +kernel
theorem dX10_tells_43 : decode cX10_tells 43 = .ok (.iconst 1, 1) := by decide +kernel
theorem dX10_tells_44 : decode cX10_tells 44 = .ok (.iadd, 1) := by decide +kernel
theorem dX10_tells_45 : decode cX10_tells 45 = .ok (.putfield 134, 3) := by decide +kernel
theorem dX10_tells_48 : decode cX10_tells 48 = .ok (.aload_n 0, 1) := by decide +kernel
theorem dX10_tells_49 : decode cX10_tells 49 = .ok (.getfield 134, 3) := by decide +kernel
theorem dX10_tells_52 : decode cX10_tells 52 = .ok (.ireturn, 1) := by decide +kernel
theorem dX10_forget_0 : decode cX10_forget 0 = .ok (.aload_n 0, 1) := by decide +kernel
theorem dX10_forget_1 : decode cX10_forget 1 = .ok (.iconst 0, 1) := by decide +kernel
theorem dX10_forget_2 : decode cX10_forget 2 = .ok (.putfield 56, 3) := by decide +kernel
theorem dX10_forget_5 : decode cX10_forget 5 = .ok (.aload_n 0, 1) := by decide +kernel
theorem dX10_forget_6 : decode cX10_forget 6 = .ok (.getfield 134, 3) := by decide +kernel
theorem dX10_forget_9 : decode cX10_forget 9 = .ok (.istore_n 1, 1) := by decide +kernel
theorem dX10_forget_10 : decode cX10_forget 10 = .ok (.aload_n 0, 1) := by decide +kernel
theorem dX10_forget_11 : decode cX10_forget 11 = .ok (.iconst 0, 1) := by decide +kernel
theorem dX10_forget_12 : decode cX10_forget 12 = .ok (.putfield 134, 3) := by decide +kernel
theorem dX10_forget_15 : decode cX10_forget 15 = .ok (.iload_n 1, 1) := by decide +kernel
theorem dX10_forget_16 : decode cX10_forget 16 = .ok (.ireturn, 1) := by decide +kernel
theorem dX10_endsSo_0 : decode cX10_endsSo 0 = .ok (.aload_n 0, 1) := by decide +kernel
theorem dX10_endsSo_1 : decode cX10_endsSo 1 = .ok (.getfield 13, 3) := by decide +kernel
theorem dX10_endsSo_4 : decode cX10_endsSo 4 = .ok (.iconst 2, 1) := by decide +kernel
theorem dX10_endsSo_5 : decode cX10_endsSo 5 = .ok (.iaload, 1) := by decide +kernel
theorem dX10_endsSo_6 : decode cX10_endsSo 6 = .ok (.istore_n 3, 1) := by decide +kernel
theorem dX10_endsSo_7 : decode cX10_endsSo 7 = .ok (.iconst 0, 1) := by decide +kernel
theorem dX10_endsSo_8 : decode cX10_endsSo 8 = .ok (.istore 4, 2) := by decide +kernel
theorem dX10_endsSo_10 : decode cX10_endsSo 10 = .ok (.iconst 0, 1) := by decide +kernel
theorem dX10_endsSo_11 : decode cX10_endsSo 11 = .ok (.istore 5, 2) := by decide +kernel
theorem dX10_endsSo_13 : decode cX10_endsSo 13 = .ok (.iconst 0, 1) := by decide +kernel
theorem dX10_endsSo_14 : decode cX10_endsSo 14 = .ok (.istore 6, 2) := by decide +kernel
theorem dX10_endsSo_16 : decode cX10_endsSo 16 = .ok (.iload 6, 2) := by decide +kernel
theorem dX10_endsSo_18 : decode cX10_endsSo 18 = .ok (.aload_n 0, 1) := by decide +kernel
theorem dX10_endsSo_19 : decode cX10_endsSo 19 = .ok (.getfield 134, 3) := by decide +kernel
theorem dX10_endsSo_22 : decode cX10_endsSo 22 = .ok (.if_icmp .ge 46, 3) := by decide +kernel
theorem dX10_endsSo_25 : decode cX10_endsSo 25 = .ok (.iload 5, 2) := by decide +kernel
theorem dX10_endsSo_27 : decode cX10_endsSo 27 = .ok (.ifCond .ne 21, 3) := by decide +kernel
theorem dX10_endsSo_30 : decode cX10_endsSo 30 = .ok (.aload_n 0, 1) := by decide +kernel
theorem dX10_endsSo_31 : decode cX10_endsSo 31 = .ok (.iload_n 3, 1) := by decide +kernel
theorem dX10_endsSo_32 : decode cX10_endsSo 32 = .ok (.iload 4, 2) := by decide +kernel
theorem dX10_endsSo_34 : decode cX10_endsSo 34 = .ok (.aload_n 0, 1) := by decide +kernel
theorem dX10_endsSo_35 : decode cX10_endsSo 35 = .ok (.getfield 32, 3) := by decide +kernel
theorem dX10_endsSo_38 : decode cX10_endsSo 38 = .ok (.iload 6, 2) := by decide +kernel
theorem dX10_endsSo_40 : decode cX10_endsSo 40 = .ok (.iaload, 1) := by decide +kernel
theorem dX10_endsSo_41 : decode cX10_endsSo 41 = .ok (.iload_n 1, 1) := by decide +kernel
theorem dX10_endsSo_42 : decode cX10_endsSo 42 = .ok (.invokevirtual 150, 3) := by decide +kernel
theorem dX10_endsSo_45 : decode cX10_endsSo 45 = .ok (.goto 4, 3) := by decide +kernel
theorem dX10_endsSo_48 : decode cX10_endsSo 48 = .ok (.iconst 3, 1) := by decide +kernel
theorem dX10_endsSo_49 : decode cX10_endsSo 49 = .ok (.istore 5, 2) := by decide +kernel
theorem dX10_endsSo_51 : decode cX10_endsSo 51 = .ok (.aload_n 0, 1) := by decide +kernel
theorem dX10_endsSo_52 : decode cX10_endsSo 52 = .ok (.getfield 144, 3) := by decide +kernel
theorem dX10_endsSo_55 : decode cX10_endsSo 55 = .ok (.istore_n 3, 1) := by decide +kernel
theorem dX10_endsSo_56 : decode cX10_endsSo 56 = .ok (.aload_n 0, 1) := by decide +kernel
theorem dX10_endsSo_57 : decode cX10_endsSo 57 = .ok (.getfield 147, 3) := by decide +kernel
theorem dX10_endsSo_60 : decode cX10_endsSo 60 = .ok (.istore 4, 2) := by decide +kernel
theorem dX10_endsSo_62 : decode cX10_endsSo 62 = .ok (.iinc 6 1, 3) := by decide +kernel
theorem dX10_endsSo_65 : decode cX10_endsSo 65 = .ok (.goto (-49), 3) := by decide +kernel
theorem dX10_endsSo_68 : decode cX10_endsSo 68 = .ok (.iload 5, 2) := by decide +kernel
theorem dX10_endsSo_70 : decode cX10_endsSo 70 = .ok (.iload_n 2, 1) := by decide +kernel
theorem dX10_endsSo_71 : decode cX10_endsSo 71 = .ok (.if_icmp .ne 7, 3) := by decide +kernel
theorem dX10_endsSo_74 : decode cX10_endsSo 74 = .ok (.iconst 1, 1) := by decide +kernel
theorem dX10_endsSo_75 : decode cX10_endsSo 75 = .ok (.goto 4, 3) := by decide +kernel
theorem dX10_endsSo_78 : decode cX10_endsSo 78 = .ok (.iconst 0, 1) := by decide +kernel
theorem dX10_endsSo_79 : decode cX10_endsSo 79 = .ok (.ireturn, 1) := by decide +kernel
theorem dX10_leanings_0 : decode cX10_leanings 0 = .ok (.aload_n 0, 1) := by decide +kernel
theorem dX10_leanings_1 : decode cX10_leanings 1 = .ok (.iconst 0, 1) := by decide +kernel
theorem dX10_leanings_2 : decode cX10_leanings 2 = .ok (.putfield 56, 3) := by decide +kernel
theorem dX10_leanings_5 : decode cX10_leanings 5 = .ok (.iload_n 1, 1) := by decide +kernel
theorem dX10_leanings_6 : decode cX10_leanings 6 = .ok (.iconst 0, 1) := by decide +kernel
theorem dX10_leanings_7 : decode cX10_leanings 7 = .ok (.iconst 2, 1) := by decide +kernel
theorem dX10_leanings_8 : decode cX10_leanings 8 = .ok (.invokestatic 60, 3) := by decide +kernel
theorem dX10_leanings_11 : decode cX10_leanings 11 = .ok (.ifCond .ne 5, 3) := by decide +kernel
theorem dX10_leanings_14 : decode cX10_leanings 14 = .ok (.iconst (-1), 1) := by decide +kernel
theorem dX10_leanings_15 : decode cX10_leanings 15 = .ok (.ireturn, 1) := by decide +kernel
theorem dX10_leanings_16 : decode cX10_leanings 16 = .ok (.aload_n 0, 1) := by decide +kernel
theorem dX10_leanings_17 : decode cX10_leanings 17 = .ok (.invokevirtual 154, 3) := by decide +kernel
theorem dX10_leanings_20 : decode cX10_leanings 20 = .ok (.ifCond .ne 6, 3) := by decide +kernel
theorem dX10_leanings_23 : decode cX10_leanings 23 = .ok (.bipush (-2), 2) := by decide +kernel
theorem dX10_leanings_25 : decode cX10_leanings 25 = .ok (.ireturn, 1) := by decide +kernel
theorem dX10_leanings_26 : decode cX10_leanings 26 = .ok (.iconst 0, 1) := by decide +kernel
theorem dX10_leanings_27 : decode cX10_leanings 27 = .ok (.istore_n 2, 1) := by decide +kernel
theorem dX10_leanings_28 : decode cX10_leanings 28 = .ok (.iconst 0, 1) := by decide +kernel
theorem dX10_leanings_29 : decode cX10_leanings 29 = .ok (.istore_n 3, 1) := by decide +kernel
theorem dX10_leanings_30 : decode cX10_leanings 30 = .ok (.iload_n 3, 1) := by decide +kernel
theorem dX10_leanings_31 : decode cX10_leanings 31 = .ok (.iconst 5, 1) := by decide +kernel
theorem dX10_leanings_32 : decode cX10_leanings 32 = .ok (.if_icmp .ge 30, 3) := by decide +kernel
theorem dX10_leanings_35 : decode cX10_leanings 35 = .ok (.iload_n 2, 1) := by decide +kernel
theorem dX10_leanings_36 : decode cX10_leanings 36 = .ok (.aload_n 0, 1) := by decide +kernel
theorem dX10_leanings_37 : decode cX10_leanings 37 = .ok (.iload_n 3, 1) := by decide +kernel
theorem dX10_leanings_38 : decode cX10_leanings 38 = .ok (.iconst 2, 1) := by decide +kernel
theorem dX10_leanings_39 : decode cX10_leanings 39 = .ok (.isub, 1) := by decide +kernel
theorem dX10_leanings_40 : decode cX10_leanings 40 = .ok (.iload_n 1, 1) := by decide +kernel
theorem dX10_leanings_41 : decode cX10_leanings 41 = .ok (.invokevirtual 196, 3) := by decide +kernel
theorem dX10_leanings_44 : decode cX10_leanings 44 = .ok (.ifCond .eq 9, 3) := by decide +kernel
theorem dX10_leanings_47 : decode cX10_leanings 47 = .ok (.iconst 1, 1) := by decide +kernel
theorem dX10_leanings_48 : decode cX10_leanings 48 = .ok (.iload_n 3, 1) := by decide +kernel
theorem dX10_leanings_49 : decode cX10_leanings 49 = .ok (.ishl, 1) := by decide +kernel
theorem dX10_leanings_50 : decode cX10_leanings 50 = .ok (.goto 4, 3) := by decide +kernel
theorem dX10_leanings_53 : decode cX10_leanings 53 = .ok (.iconst 0, 1) := by decide +kernel
theorem dX10_leanings_54 : decode cX10_leanings 54 = .ok (.ior, 1) := by decide +kernel
theorem dX10_leanings_55 : decode cX10_leanings 55 = .ok (.istore_n 2, 1) := by decide +kernel
theorem dX10_leanings_56 : decode cX10_leanings 56 = .ok (.iinc 3 1, 3) := by decide +kernel
theorem dX10_leanings_59 : decode cX10_leanings 59 = .ok (.goto (-29), 3) := by decide +kernel
theorem dX10_leanings_62 : decode cX10_leanings 62 = .ok (.iload_n 2, 1) := by decide +kernel
theorem dX10_leanings_63 : decode cX10_leanings 63 = .ok (.ireturn, 1) := by decide +kernel
theorem dX10_rate_0 : decode cX10_rate 0 = .ok (.aload_n 0, 1) := by decide +kernel
theorem dX10_rate_1 : decode cX10_rate 1 = .ok (.iconst 0, 1) := by decide +kernel
theorem dX10_rate_2 : decode cX10_rate 2 = .ok (.putfield 56, 3) := by decide +kernel
theorem dX10_rate_5 : decode cX10_rate 5 = .ok (.iload_n 1, 1) := by decide +kernel
theorem dX10_rate_6 : decode cX10_rate 6 = .ok (.iconst 0, 1) := by decide +kernel
theorem dX10_rate_7 : decode cX10_rate 7 = .ok (.iconst 5, 1) := by decide +kernel
theorem dX10_rate_8 : decode cX10_rate 8 = .ok (.invokestatic 60, 3) := by decide +kernel
theorem dX10_rate_11 : decode cX10_rate 11 = .ok (.ifCond .eq 12, 3) := by decide +kernel
theorem dX10_rate_14 : decode cX10_rate 14 = .ok (.aload_n 0, 1) := by decide +kernel
theorem dX10_rate_15 : decode cX10_rate 15 = .ok (.iload_n 2, 1) := by decide +kernel
theorem dX10_rate_16 : decode cX10_rate 16 = .ok (.iload_n 3, 1) := by decide +kernel
theorem dX10_rate_17 : decode cX10_rate 17 = .ok (.invokevirtual 140, 3) := by decide +kernel
theorem dX10_rate_20 : decode cX10_rate 20 = .ok (.ifCond .ne 6, 3) := by decide +kernel
theorem dX10_rate_23 : decode cX10_rate 23 = .ok (.ldc 143, 2) := by decide +kernel
theorem dX10_rate_25 : decode cX10_rate 25 = .ok (.ireturn, 1) := by decide +kernel
theorem dX10_rate_26 : decode cX10_rate 26 = .ok (.aload_n 0, 1) := by decide +kernel
theorem dX10_rate_27 : decode cX10_rate 27 = .ok (.getfield 19, 3) := by decide +kernel
theorem dX10_rate_30 : decode cX10_rate 30 = .ok (.bipush 7, 2) := by decide +kernel
theorem dX10_rate_32 : decode cX10_rate 32 = .ok (.iconst 5, 1) := by decide +kernel
theorem dX10_rate_33 : decode cX10_rate 33 = .ok (.iload_n 3, 1) := by decide +kernel
theorem dX10_rate_34 : decode cX10_rate 34 = .ok (.imul, 1) := by decide +kernel
theorem dX10_rate_35 : decode cX10_rate 35 = .ok (.iadd, 1) := by decide +kernel
theorem dX10_rate_36 : decode cX10_rate 36 = .ok (.iload_n 2, 1) := by decide +kernel
theorem dX10_rate_37 : decode cX10_rate 37 = .ok (.iadd, 1) := by decide +kernel
theorem dX10_rate_38 : decode cX10_rate 38 = .ok (.iaload, 1) := by decide +kernel
theorem dX10_rate_39 : decode cX10_rate 39 = .ok (.istore 4, 2) := by decide +kernel
theorem dX10_rate_41 : decode cX10_rate 41 = .ok (.iload 4, 2) := by decide +kernel
theorem dX10_rate_43 : decode cX10_rate 43 = .ok (.iload_n 2, 1) := by decide +kernel
theorem dX10_rate_44 : decode cX10_rate 44 = .ok (.iadd, 1) := by decide +kernel
theorem dX10_rate_45 : decode cX10_rate 45 = .ok (.istore 5, 2) := by decide +kernel
theorem dX10_rate_47 : decode cX10_rate 47 = .ok (.iload 4, 2) := by decide +kernel
theorem dX10_rate_49 : decode cX10_rate 49 = .ok (.aload_n 0, 1) := by decide +kernel
theorem dX10_rate_50 : decode cX10_rate 50 = .ok (.getfield 19, 3) := by decide +kernel
theorem dX10_rate_53 : decode cX10_rate 53 = .ok (.iconst 1, 1) := by decide +kernel
theorem dX10_rate_54 : decode cX10_rate 54 = .ok (.iaload, 1) := by decide +kernel
theorem dX10_rate_55 : decode cX10_rate 55 = .ok (.isub, 1) := by decide +kernel
theorem dX10_rate_56 : decode cX10_rate 56 = .ok (.istore 6, 2) := by decide +kernel
theorem dX10_rate_58 : decode cX10_rate 58 = .ok (.aload_n 0, 1) := by decide +kernel
theorem dX10_rate_59 : decode cX10_rate 59 = .ok (.dup, 1) := by decide +kernel
theorem dX10_rate_60 : decode cX10_rate 60 = .ok (.getfield 199, 3) := by decide +kernel
theorem dX10_rate_63 : decode cX10_rate 63 = .ok (.iload_n 1, 1) := by decide +kernel
theorem dX10_rate_64 : decode cX10_rate 64 = .ok (.ifCond .ne 7, 3) := by decide +kernel
theorem dX10_rate_67 : decode cX10_rate 67 = .ok (.lconst 1, 1) := by decide +kernel
theorem dX10_rate_68 : decode cX10_rate 68 = .ok (.goto 50, 3) := by decide +kernel
theorem dX10_rate_71 : decode cX10_rate 71 = .ok (.iload_n 1, 1) := by decide +kernel
theorem dX10_rate_72 : decode cX10_rate 72 = .ok (.iconst 1, 1) := by decide +kernel
theorem dX10_rate_73 : decode cX10_rate 73 = .ok (.if_icmp .ne 9, 3) := by decide +kernel
theorem dX10_rate_76 : decode cX10_rate 76 = .ok (.ldc2_w 203, 3) := by decide +kernel
theorem dX10_rate_79 : decode cX10_rate 79 = .ok (.goto 39, 3) := by decide +kernel
theorem dX10_rate_82 : decode cX10_rate 82 = .ok (.iload_n 1, 1) := by decide +kernel
theorem dX10_rate_83 : decode cX10_rate 83 = .ok (.iconst 2, 1) := by decide +kernel
theorem dX10_rate_84 : decode cX10_rate 84 = .ok (.if_icmp .ne 9, 3) := by decide +kernel
theorem dX10_rate_87 : decode cX10_rate 87 = .ok (.ldc2_w 205, 3) := by decide +kernel
theorem dX10_rate_90 : decode cX10_rate 90 = .ok (.goto 28, 3) := by decide +kernel
theorem dX10_rate_93 : decode cX10_rate 93 = .ok (.iload_n 1, 1) := by decide +kernel
theorem dX10_rate_94 : decode cX10_rate 94 = .ok (.iconst 3, 1) := by decide +kernel
theorem dX10_rate_95 : decode cX10_rate 95 = .ok (.if_icmp .ne 9, 3) := by decide +kernel
theorem dX10_rate_98 : decode cX10_rate 98 = .ok (.ldc2_w 207, 3) := by decide +kernel
theorem dX10_rate_101 : decode cX10_rate 101 = .ok (.goto 17, 3) := by decide +kernel
theorem dX10_rate_104 : decode cX10_rate 104 = .ok (.iload_n 1, 1) := by decide +kernel
theorem dX10_rate_105 : decode cX10_rate 105 = .ok (.iconst 4, 1) := by decide +kernel
theorem dX10_rate_106 : decode cX10_rate 106 = .ok (.if_icmp .ne 9, 3) := by decide +kernel
theorem dX10_rate_109 : decode cX10_rate 109 = .ok (.ldc2_w 209, 3) := by decide +kernel
theorem dX10_rate_112 : decode cX10_rate 112 = .ok (.goto 6, 3) := by decide +kernel
theorem dX10_rate_115 : decode cX10_rate 115 = .ok (.ldc2_w 211, 3) := by decide +kernel
theorem dX10_rate_118 : decode cX10_rate 118 = .ok (.ladd, 1) := by decide +kernel
theorem dX10_rate_119 : decode cX10_rate 119 = .ok (.putfield 199, 3) := by decide +kernel
theorem dX10_rate_122 : decode cX10_rate 122 = .ok (.iload_n 1, 1) := by decide +kernel
theorem dX10_rate_123 : decode cX10_rate 123 = .ok (.ifCond .ne 8, 3) := by decide +kernel
theorem dX10_rate_126 : decode cX10_rate 126 = .ok (.iload 4, 2) := by decide +kernel
theorem dX10_rate_128 : decode cX10_rate 128 = .ok (.goto 63, 3) := by decide +kernel
theorem dX10_rate_131 : decode cX10_rate 131 = .ok (.iload_n 1, 1) := by decide +kernel
theorem dX10_rate_132 : decode cX10_rate 132 = .ok (.iconst 1, 1) := by decide +kernel
theorem dX10_rate_133 : decode cX10_rate 133 = .ok (.if_icmp .ne 8, 3) := by decide +kernel
theorem dX10_rate_136 : decode cX10_rate 136 = .ok (.iload 5, 2) := by decide +kernel
theorem dX10_rate_138 : decode cX10_rate 138 = .ok (.goto 53, 3) := by decide +kernel
theorem dX10_rate_141 : decode cX10_rate 141 = .ok (.iload_n 1, 1) := by decide +kernel
theorem dX10_rate_142 : decode cX10_rate 142 = .ok (.iconst 2, 1) := by decide +kernel
theorem dX10_rate_143 : decode cX10_rate 143 = .ok (.if_icmp .ne 8, 3) := by decide +kernel
theorem dX10_rate_146 : decode cX10_rate 146 = .ok (.iload 6, 2) := by decide +kernel
theorem dX10_rate_148 : decode cX10_rate 148 = .ok (.goto 43, 3) := by decide +kernel
theorem dX10_rate_151 : decode cX10_rate 151 = .ok (.iload_n 1, 1) := by decide +kernel
theorem dX10_rate_152 : decode cX10_rate 152 = .ok (.iconst 3, 1) := by decide +kernel
theorem dX10_rate_153 : decode cX10_rate 153 = .ok (.if_icmp .ne 10, 3) := by decide +kernel
theorem dX10_rate_156 : decode cX10_rate 156 = .ok (.iconst 2, 1) := by decide +kernel
theorem dX10_rate_157 : decode cX10_rate 157 = .ok (.iload 5, 2) := by decide +kernel
theorem dX10_rate_159 : decode cX10_rate 159 = .ok (.imul, 1) := by decide +kernel
theorem dX10_rate_160 : decode cX10_rate 160 = .ok (.goto 31, 3) := by decide +kernel
theorem dX10_rate_163 : decode cX10_rate 163 = .ok (.iload_n 1, 1) := by decide +kernel
theorem dX10_rate_164 : decode cX10_rate 164 = .ok (.iconst 4, 1) := by decide +kernel
theorem dX10_rate_165 : decode cX10_rate 165 = .ok (.if_icmp .ne 10, 3) := by decide +kernel
theorem dX10_rate_168 : decode cX10_rate 168 = .ok (.iload 6, 2) := by decide +kernel
theorem dX10_rate_170 : decode cX10_rate 170 = .ok (.iload_n 3, 1) := by decide +kernel
theorem dX10_rate_171 : decode cX10_rate 171 = .ok (.iadd, 1) := by decide +kernel
theorem dX10_rate_172 : decode cX10_rate 172 = .ok (.goto 19, 3) := by decide +kernel
theorem dX10_rate_175 : decode cX10_rate 175 = .ok (.iload 4, 2) := by decide +kernel
theorem dX10_rate_177 : decode cX10_rate 177 = .ok (.aload_n 0, 1) := by decide +kernel
theorem dX10_rate_178 : decode cX10_rate 178 = .ok (.getfield 19, 3) := by decide +kernel
theorem dX10_rate_181 : decode cX10_rate 181 = .ok (.iconst 3, 1) := by decide +kernel
theorem dX10_rate_182 : decode cX10_rate 182 = .ok (.iaload, 1) := by decide +kernel
theorem dX10_rate_183 : decode cX10_rate 183 = .ok (.iadd, 1) := by decide +kernel
theorem dX10_rate_184 : decode cX10_rate 184 = .ok (.aload_n 0, 1) := by decide +kernel
theorem dX10_rate_185 : decode cX10_rate 185 = .ok (.getfield 19, 3) := by decide +kernel
theorem dX10_rate_188 : decode cX10_rate 188 = .ok (.iconst 4, 1) := by decide +kernel
theorem dX10_rate_189 : decode cX10_rate 189 = .ok (.iaload, 1) := by decide +kernel
theorem dX10_rate_190 : decode cX10_rate 190 = .ok (.iadd, 1) := by decide +kernel
theorem dX10_rate_191 : decode cX10_rate 191 = .ok (.ireturn, 1) := by decide +kernel
theorem dX10_keep_0 : decode cX10_keep 0 = .ok (.aload_n 0, 1) := by decide +kernel
theorem dX10_keep_1 : decode cX10_keep 1 = .ok (.iconst 0, 1) := by decide +kernel
theorem dX10_keep_2 : decode cX10_keep 2 = .ok (.putfield 56, 3) := by decide +kernel
theorem dX10_keep_5 : decode cX10_keep 5 = .ok (.iload_n 1, 1) := by decide +kernel
theorem dX10_keep_6 : decode cX10_keep 6 = .ok (.iconst 0, 1) := by decide +kernel
theorem dX10_keep_7 : decode cX10_keep 7 = .ok (.iconst 1, 1) := by decide +kernel
theorem dX10_keep_8 : decode cX10_keep 8 = .ok (.invokestatic 60, 3) := by decide +kernel
theorem dX10_keep_11 : decode cX10_keep 11 = .ok (.ifCond .ne 5, 3) := by decide +kernel
theorem dX10_keep_14 : decode cX10_keep 14 = .ok (.iconst (-1), 1) := by decide +kernel
theorem dX10_keep_15 : decode cX10_keep 15 = .ok (.ireturn, 1) := by decide +kernel
theorem dX10_keep_16 : decode cX10_keep 16 = .ok (.iconst 0, 1) := by decide +kernel
theorem dX10_keep_17 : decode cX10_keep 17 = .ok (.istore_n 2, 1) := by decide +kernel
theorem dX10_keep_18 : decode cX10_keep 18 = .ok (.iload_n 2, 1) := by decide +kernel
theorem dX10_keep_19 : decode cX10_keep 19 = .ok (.bipush 27, 2) := by decide +kernel
theorem dX10_keep_21 : decode cX10_keep 21 = .ok (.if_icmp .ge 26, 3) := by decide +kernel
theorem dX10_keep_24 : decode cX10_keep 24 = .ok (.aload_n 0, 1) := by decide +kernel
theorem dX10_keep_25 : decode cX10_keep 25 = .ok (.getfield 22, 3) := by decide +kernel
theorem dX10_keep_28 : decode cX10_keep 28 = .ok (.bipush 27, 2) := by decide +kernel
theorem dX10_keep_30 : decode cX10_keep 30 = .ok (.iload_n 1, 1) := by decide +kernel
theorem dX10_keep_31 : decode cX10_keep 31 = .ok (.imul, 1) := by decide +kernel
theorem dX10_keep_32 : decode cX10_keep 32 = .ok (.iload_n 2, 1) := by decide +kernel
theorem dX10_keep_33 : decode cX10_keep 33 = .ok (.iadd, 1) := by decide +kernel
theorem dX10_keep_34 : decode cX10_keep 34 = .ok (.aload_n 0, 1) := by decide +kernel
theorem dX10_keep_35 : decode cX10_keep 35 = .ok (.getfield 19, 3) := by decide +kernel
theorem dX10_keep_38 : decode cX10_keep 38 = .ok (.iload_n 2, 1) := by decide +kernel
theorem dX10_keep_39 : decode cX10_keep 39 = .ok (.iaload, 1) := by decide +kernel
theorem dX10_keep_40 : decode cX10_keep 40 = .ok (.iastore, 1) := by decide +kernel
theorem dX10_keep_41 : decode cX10_keep 41 = .ok (.iinc 2 1, 3) := by decide +kernel
theorem dX10_keep_44 : decode cX10_keep 44 = .ok (.goto (-26), 3) := by decide +kernel
theorem dX10_keep_47 : decode cX10_keep 47 = .ok (.aload_n 0, 1) := by decide +kernel
theorem dX10_keep_48 : decode cX10_keep 48 = .ok (.getfield 25, 3) := by decide +kernel
theorem dX10_keep_51 : decode cX10_keep 51 = .ok (.iload_n 1, 1) := by decide +kernel
theorem dX10_keep_52 : decode cX10_keep 52 = .ok (.iconst 1, 1) := by decide +kernel
theorem dX10_keep_53 : decode cX10_keep 53 = .ok (.bastore, 1) := by decide +kernel
theorem dX10_keep_54 : decode cX10_keep 54 = .ok (.aload_n 0, 1) := by decide +kernel
theorem dX10_keep_55 : decode cX10_keep 55 = .ok (.getfield 19, 3) := by decide +kernel
theorem dX10_keep_58 : decode cX10_keep 58 = .ok (.iconst 3, 1) := by decide +kernel
theorem dX10_keep_59 : decode cX10_keep 59 = .ok (.iaload, 1) := by decide +kernel
theorem dX10_keep_60 : decode cX10_keep 60 = .ok (.aload_n 0, 1) := by decide +kernel
theorem dX10_keep_61 : decode cX10_keep 61 = .ok (.getfield 19, 3) := by decide +kernel
theorem dX10_keep_64 : decode cX10_keep 64 = .ok (.iconst 4, 1) := by decide +kernel
theorem dX10_keep_65 : decode cX10_keep 65 = .ok (.iaload, 1) := by decide +kernel
theorem dX10_keep_66 : decode cX10_keep 66 = .ok (.iadd, 1) := by decide +kernel
theorem dX10_keep_67 : decode cX10_keep 67 = .ok (.ireturn, 1) := by decide +kernel
theorem dX10_back_0 : decode cX10_back 0 = .ok (.aload_n 0, 1) := by decide +kernel
theorem dX10_back_1 : decode cX10_back 1 = .ok (.iconst 0, 1) := by decide +kernel
theorem dX10_back_2 : decode cX10_back 2 = .ok (.putfield 56, 3) := by decide +kernel
theorem dX10_back_5 : decode cX10_back 5 = .ok (.iload_n 1, 1) := by decide +kernel
theorem dX10_back_6 : decode cX10_back 6 = .ok (.iconst 0, 1) := by decide +kernel
theorem dX10_back_7 : decode cX10_back 7 = .ok (.iconst 1, 1) := by decide +kernel
theorem dX10_back_8 : decode cX10_back 8 = .ok (.invokestatic 60, 3) := by decide +kernel
theorem dX10_back_11 : decode cX10_back 11 = .ok (.ifCond .ne 5, 3) := by decide +kernel
theorem dX10_back_14 : decode cX10_back 14 = .ok (.iconst (-1), 1) := by decide +kernel
theorem dX10_back_15 : decode cX10_back 15 = .ok (.ireturn, 1) := by decide +kernel
theorem dX10_back_16 : decode cX10_back 16 = .ok (.aload_n 0, 1) := by decide +kernel
theorem dX10_back_17 : decode cX10_back 17 = .ok (.getfield 25, 3) := by decide +kernel
theorem dX10_back_20 : decode cX10_back 20 = .ok (.iload_n 1, 1) := by decide +kernel
theorem dX10_back_21 : decode cX10_back 21 = .ok (.baload, 1) := by decide +kernel
theorem dX10_back_22 : decode cX10_back 22 = .ok (.ifCond .ne 6, 3) := by decide +kernel
theorem dX10_back_25 : decode cX10_back 25 = .ok (.bipush (-2), 2) := by decide +kernel
theorem dX10_back_27 : decode cX10_back 27 = .ok (.ireturn, 1) := by decide +kernel
theorem dX10_back_28 : decode cX10_back 28 = .ok (.iconst 0, 1) := by decide +kernel
theorem dX10_back_29 : decode cX10_back 29 = .ok (.istore_n 2, 1) := by decide +kernel
theorem dX10_back_30 : decode cX10_back 30 = .ok (.iload_n 2, 1) := by decide +kernel
theorem dX10_back_31 : decode cX10_back 31 = .ok (.bipush 27, 2) := by decide +kernel
theorem dX10_back_33 : decode cX10_back 33 = .ok (.if_icmp .ge 26, 3) := by decide +kernel
theorem dX10_back_36 : decode cX10_back 36 = .ok (.aload_n 0, 1) := by decide +kernel
theorem dX10_back_37 : decode cX10_back 37 = .ok (.getfield 19, 3) := by decide +kernel
theorem dX10_back_40 : decode cX10_back 40 = .ok (.iload_n 2, 1) := by decide +kernel
theorem dX10_back_41 : decode cX10_back 41 = .ok (.aload_n 0, 1) := by decide +kernel
theorem dX10_back_42 : decode cX10_back 42 = .ok (.getfield 22, 3) := by decide +kernel
theorem dX10_back_45 : decode cX10_back 45 = .ok (.bipush 27, 2) := by decide +kernel
theorem dX10_back_47 : decode cX10_back 47 = .ok (.iload_n 1, 1) := by decide +kernel
theorem dX10_back_48 : decode cX10_back 48 = .ok (.imul, 1) := by decide +kernel
theorem dX10_back_49 : decode cX10_back 49 = .ok (.iload_n 2, 1) := by decide +kernel
theorem dX10_back_50 : decode cX10_back 50 = .ok (.iadd, 1) := by decide +kernel
theorem dX10_back_51 : decode cX10_back 51 = .ok (.iaload, 1) := by decide +kernel
theorem dX10_back_52 : decode cX10_back 52 = .ok (.iastore, 1) := by decide +kernel
theorem dX10_back_53 : decode cX10_back 53 = .ok (.iinc 2 1, 3) := by decide +kernel
theorem dX10_back_56 : decode cX10_back 56 = .ok (.goto (-26), 3) := by decide +kernel
theorem dX10_back_59 : decode cX10_back 59 = .ok (.aload_n 0, 1) := by decide +kernel
theorem dX10_back_60 : decode cX10_back 60 = .ok (.iconst 0, 1) := by decide +kernel
theorem dX10_back_61 : decode cX10_back 61 = .ok (.putfield 137, 3) := by decide +kernel
theorem dX10_back_64 : decode cX10_back 64 = .ok (.aload_n 0, 1) := by decide +kernel
theorem dX10_back_65 : decode cX10_back 65 = .ok (.getfield 19, 3) := by decide +kernel
theorem dX10_back_68 : decode cX10_back 68 = .ok (.iconst 3, 1) := by decide +kernel
theorem dX10_back_69 : decode cX10_back 69 = .ok (.iaload, 1) := by decide +kernel
theorem dX10_back_70 : decode cX10_back 70 = .ok (.aload_n 0, 1) := by decide +kernel
theorem dX10_back_71 : decode cX10_back 71 = .ok (.getfield 19, 3) := by decide +kernel
theorem dX10_back_74 : decode cX10_back 74 = .ok (.iconst 4, 1) := by decide +kernel
theorem dX10_back_75 : decode cX10_back 75 = .ok (.iaload, 1) := by decide +kernel
theorem dX10_back_76 : decode cX10_back 76 = .ok (.iadd, 1) := by decide +kernel
theorem dX10_back_77 : decode cX10_back 77 = .ok (.ireturn, 1) := by decide +kernel
theorem dX10_count_0 : decode cX10_count 0 = .ok (.aload_n 0, 1) := by decide +kernel
theorem dX10_count_1 : decode cX10_count 1 = .ok (.iconst 0, 1) := by decide +kernel
theorem dX10_count_2 : decode cX10_count 2 = .ok (.putfield 56, 3) := by decide +kernel
theorem dX10_count_5 : decode cX10_count 5 = .ok (.iload_n 1, 1) := by decide +kernel
theorem dX10_count_6 : decode cX10_count 6 = .ok (.iconst 0, 1) := by decide +kernel
theorem dX10_count_7 : decode cX10_count 7 = .ok (.iconst 3, 1) := by decide +kernel
theorem dX10_count_8 : decode cX10_count 8 = .ok (.invokestatic 60, 3) := by decide +kernel
theorem dX10_count_11 : decode cX10_count 11 = .ok (.ifCond .eq 12, 3) := by decide +kernel
theorem dX10_count_14 : decode cX10_count 14 = .ok (.aload_n 0, 1) := by decide +kernel
theorem dX10_count_15 : decode cX10_count 15 = .ok (.getfield 13, 3) := by decide +kernel
theorem dX10_count_18 : decode cX10_count 18 = .ok (.iload_n 1, 1) := by decide +kernel
theorem dX10_count_19 : decode cX10_count 19 = .ok (.iaload, 1) := by decide +kernel
theorem dX10_count_20 : decode cX10_count 20 = .ok (.goto 45, 3) := by decide +kernel
theorem dX10_count_23 : decode cX10_count 23 = .ok (.iload_n 1, 1) := by decide +kernel
theorem dX10_count_24 : decode cX10_count 24 = .ok (.iconst 4, 1) := by decide +kernel
theorem dX10_count_25 : decode cX10_count 25 = .ok (.if_icmp .ne 14, 3) := by decide +kernel
theorem dX10_count_28 : decode cX10_count 28 = .ok (.aload_n 0, 1) := by decide +kernel
theorem dX10_count_29 : decode cX10_count 29 = .ok (.getfield 13, 3) := by decide +kernel
theorem dX10_count_32 : decode cX10_count 32 = .ok (.iconst 4, 1) := by decide +kernel
theorem dX10_count_33 : decode cX10_count 33 = .ok (.iaload, 1) := by decide +kernel
theorem dX10_count_34 : decode cX10_count 34 = .ok (.iconst 2, 1) := by decide +kernel
theorem dX10_count_35 : decode cX10_count 35 = .ok (.iadd, 1) := by decide +kernel
theorem dX10_count_36 : decode cX10_count 36 = .ok (.goto 29, 3) := by decide +kernel
theorem dX10_count_39 : decode cX10_count 39 = .ok (.iload_n 1, 1) := by decide +kernel
theorem dX10_count_40 : decode cX10_count 40 = .ok (.iconst 5, 1) := by decide +kernel
theorem dX10_count_41 : decode cX10_count 41 = .ok (.if_icmp .ne 10, 3) := by decide +kernel
theorem dX10_count_44 : decode cX10_count 44 = .ok (.aload_n 0, 1) := by decide +kernel
theorem dX10_count_45 : decode cX10_count 45 = .ok (.getfield 134, 3) := by decide +kernel
theorem dX10_count_48 : decode cX10_count 48 = .ok (.goto 17, 3) := by decide +kernel
theorem dX10_count_51 : decode cX10_count 51 = .ok (.iload_n 1, 1) := by decide +kernel
theorem dX10_count_52 : decode cX10_count 52 = .ok (.bipush 6, 2) := by decide +kernel
theorem dX10_count_54 : decode cX10_count 54 = .ok (.if_icmp .ne 10, 3) := by decide +kernel
theorem dX10_count_57 : decode cX10_count 57 = .ok (.aload_n 0, 1) := by decide +kernel
theorem dX10_count_58 : decode cX10_count 58 = .ok (.getfield 64, 3) := by decide +kernel
theorem dX10_count_61 : decode cX10_count 61 = .ok (.goto 4, 3) := by decide +kernel
theorem dX10_count_64 : decode cX10_count 64 = .ok (.iconst (-1), 1) := by decide +kernel
theorem dX10_count_65 : decode cX10_count 65 = .ok (.ireturn, 1) := by decide +kernel
theorem dX10_trace_0 : decode cX10_trace 0 = .ok (.aload_n 0, 1) := by decide +kernel
theorem dX10_trace_1 : decode cX10_trace 1 = .ok (.iconst 0, 1) := by decide +kernel
theorem dX10_trace_2 : decode cX10_trace 2 = .ok (.putfield 56, 3) := by decide +kernel
theorem dX10_trace_5 : decode cX10_trace 5 = .ok (.aload_n 0, 1) := by decide +kernel
theorem dX10_trace_6 : decode cX10_trace 6 = .ok (.getfield 199, 3) := by decide +kernel
theorem dX10_trace_9 : decode cX10_trace 9 = .ok (.lreturn, 1) := by decide +kernel
theorem dJ9_max_7cf53_0 : decode cJ9_max_7cf53 0 = .ok (.iload_n 0, 1) := by decide +kernel
theorem dJ9_max_7cf53_1 : decode cJ9_max_7cf53 1 = .ok (.iload_n 1, 1) := by decide +kernel
theorem dJ9_max_7cf53_2 : decode cJ9_max_7cf53 2 = .ok (.if_icmp .lt 7, 3) := by decide +kernel
theorem dJ9_max_7cf53_5 : decode cJ9_max_7cf53 5 = .ok (.iload_n 0, 1) := by decide +kernel
theorem dJ9_max_7cf53_6 : decode cJ9_max_7cf53 6 = .ok (.goto 4, 3) := by decide +kernel
theorem dJ9_max_7cf53_9 : decode cJ9_max_7cf53 9 = .ok (.iload_n 1, 1) := by decide +kernel
theorem dJ9_max_7cf53_10 : decode cJ9_max_7cf53 10 = .ok (.ireturn, 1) := by decide +kernel
theorem dJ9_min_7cf53_0 : decode cJ9_min_7cf53 0 = .ok (.iload_n 0, 1) := by decide +kernel
theorem dJ9_min_7cf53_1 : decode cJ9_min_7cf53 1 = .ok (.iload_n 1, 1) := by decide +kernel
theorem dJ9_min_7cf53_2 : decode cJ9_min_7cf53 2 = .ok (.if_icmp .gt 7, 3) := by decide +kernel
theorem dJ9_min_7cf53_5 : decode cJ9_min_7cf53 5 = .ok (.iload_n 0, 1) := by decide +kernel
theorem dJ9_min_7cf53_6 : decode cJ9_min_7cf53 6 = .ok (.goto 4, 3) := by decide +kernel
theorem dJ9_min_7cf53_9 : decode cJ9_min_7cf53 9 = .ok (.iload_n 1, 1) := by decide +kernel
theorem dJ9_min_7cf53_10 : decode cJ9_min_7cf53 10 = .ok (.ireturn, 1) := by decide +kernel
theorem dJ7_fill_53178_0 : decode cJ7_fill_53178 0 = .ok (.iconst 0, 1) := by decide +kernel
theorem dJ7_fill_53178_1 : decode cJ7_fill_53178 1 = .ok (.istore_n 2, 1) := by decide +kernel
theorem dJ7_fill_53178_2 : decode cJ7_fill_53178 2 = .ok (.aload_n 0, 1) := by decide +kernel
theorem dJ7_fill_53178_3 : decode cJ7_fill_53178 3 = .ok (.arraylength, 1) := by decide +kernel
theorem dJ7_fill_53178_4 : decode cJ7_fill_53178 4 = .ok (.istore_n 3, 1) := by decide +kernel
theorem dJ7_fill_53178_5 : decode cJ7_fill_53178 5 = .ok (.iload_n 2, 1) := by decide +kernel
theorem dJ7_fill_53178_6 : decode cJ7_fill_53178 6 = .ok (.iload_n 3, 1) := by decide +kernel
theorem dJ7_fill_53178_7 : decode cJ7_fill_53178 7 = .ok (.if_icmp .ge 13, 3) := by decide +kernel
theorem dJ7_fill_53178_10 : decode cJ7_fill_53178 10 = .ok (.aload_n 0, 1) := by decide +kernel
theorem dJ7_fill_53178_11 : decode cJ7_fill_53178 11 = .ok (.iload_n 2, 1) := by decide +kernel
theorem dJ7_fill_53178_12 : decode cJ7_fill_53178 12 = .ok (.iload_n 1, 1) := by decide +kernel
theorem dJ7_fill_53178_13 : decode cJ7_fill_53178 13 = .ok (.iastore, 1) := by decide +kernel
theorem dJ7_fill_53178_14 : decode cJ7_fill_53178 14 = .ok (.iinc 2 1, 3) := by decide +kernel
theorem dJ7_fill_53178_17 : decode cJ7_fill_53178 17 = .ok (.goto (-12), 3) := by decide +kernel
theorem dJ7_fill_53178_20 : decode cJ7_fill_53178 20 = .ok (.return_, 1) := by decide +kernel
