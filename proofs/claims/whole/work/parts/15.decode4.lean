theorem dX10_laysRounds_47 : decode (dc DX10_laysRounds) 47 = .ok (.aaload, 1) := by decide +kernel
theorem dX10_laysRounds_48 : decode (dc DX10_laysRounds) 48 = .ok (.iconst 0, 1) := by decide +kernel
theorem dX10_laysRounds_49 : decode (dc DX10_laysRounds) 49 = .ok (.iaload, 1) := by decide +kernel
theorem dX10_laysRounds_50 : decode (dc DX10_laysRounds) 50 = .ok (.if_icmp .ge 94, 3) := by decide +kernel
theorem dX10_laysRounds_53 : decode (dc DX10_laysRounds) 53 = .ok (.iconst 0, 1) := by decide +kernel
theorem dX10_laysRounds_54 : decode (dc DX10_laysRounds) 54 = .ok (.istore_n 3, 1) := by decide +kernel
theorem dX10_laysRounds_55 : decode (dc DX10_laysRounds) 55 = .ok (.iload_n 3, 1) := by decide +kernel
theorem dX10_laysRounds_56 : decode (dc DX10_laysRounds) 56 = .ok (.aload_n 0, 1) := by decide +kernel
theorem dX10_laysRounds_57 : decode (dc DX10_laysRounds) 57 = .ok (.getfield 22, 3) := by decide +kernel
theorem dX10_laysRounds_60 : decode (dc DX10_laysRounds) 60 = .ok (.iconst 0, 1) := by decide +kernel
theorem dX10_laysRounds_61 : decode (dc DX10_laysRounds) 61 = .ok (.aaload, 1) := by decide +kernel
theorem dX10_laysRounds_62 : decode (dc DX10_laysRounds) 62 = .ok (.iconst 1, 1) := by decide +kernel
theorem dX10_laysRounds_63 : decode (dc DX10_laysRounds) 63 = .ok (.iaload, 1) := by decide +kernel
theorem dX10_laysRounds_64 : decode (dc DX10_laysRounds) 64 = .ok (.if_icmp .ge 74, 3) := by decide +kernel
theorem dX10_laysRounds_67 : decode (dc DX10_laysRounds) 67 = .ok (.aload_n 0, 1) := by decide +kernel
theorem dX10_laysRounds_68 : decode (dc DX10_laysRounds) 68 = .ok (.iload_n 2, 1) := by decide +kernel
theorem dX10_laysRounds_69 : decode (dc DX10_laysRounds) 69 = .ok (.iload_n 3, 1) := by decide +kernel
theorem dX10_laysRounds_70 : decode (dc DX10_laysRounds) 70 = .ok (.invokevirtual 285, 3) := by decide +kernel
theorem dX10_laysRounds_73 : decode (dc DX10_laysRounds) 73 = .ok (.ifCond .eq 59, 3) := by decide +kernel
theorem dX10_laysRounds_76 : decode (dc DX10_laysRounds) 76 = .ok (.aload_n 0, 1) := by decide +kernel
theorem dX10_laysRounds_77 : decode (dc DX10_laysRounds) 77 = .ok (.iconst 0, 1) := by decide +kernel
theorem dX10_laysRounds_78 : decode (dc DX10_laysRounds) 78 = .ok (.iload_n 2, 1) := by decide +kernel
theorem dX10_laysRounds_79 : decode (dc DX10_laysRounds) 79 = .ok (.invokevirtual 240, 3) := by decide +kernel
theorem dX10_laysRounds_82 : decode (dc DX10_laysRounds) 82 = .ok (.ifCond .eq 50, 3) := by decide +kernel
theorem dX10_laysRounds_85 : decode (dc DX10_laysRounds) 85 = .ok (.aload_n 0, 1) := by decide +kernel
theorem dX10_laysRounds_86 : decode (dc DX10_laysRounds) 86 = .ok (.iconst 1, 1) := by decide +kernel
theorem dX10_laysRounds_87 : decode (dc DX10_laysRounds) 87 = .ok (.iload_n 3, 1) := by decide +kernel
theorem dX10_laysRounds_88 : decode (dc DX10_laysRounds) 88 = .ok (.invokevirtual 240, 3) := by decide +kernel
theorem dX10_laysRounds_91 : decode (dc DX10_laysRounds) 91 = .ok (.ifCond .ne 6, 3) := by decide +kernel
theorem dX10_laysRounds_94 : decode (dc DX10_laysRounds) 94 = .ok (.goto 38, 3) := by decide +kernel
theorem dX10_laysRounds_97 : decode (dc DX10_laysRounds) 97 = .ok (.aload_n 0, 1) := by decide +kernel
theorem dX10_laysRounds_98 : decode (dc DX10_laysRounds) 98 = .ok (.iconst 0, 1) := by decide +kernel
theorem dX10_laysRounds_99 : decode (dc DX10_laysRounds) 99 = .ok (.iload_n 2, 1) := by decide +kernel
theorem dX10_laysRounds_100 : decode (dc DX10_laysRounds) 100 = .ok (.invokevirtual 347, 3) := by decide +kernel
theorem dX10_laysRounds_103 : decode (dc DX10_laysRounds) 103 = .ok (.istore 4, 2) := by decide +kernel
theorem dX10_laysRounds_105 : decode (dc DX10_laysRounds) 105 = .ok (.aload_n 0, 1) := by decide +kernel
theorem dX10_laysRounds_106 : decode (dc DX10_laysRounds) 106 = .ok (.iconst 1, 1) := by decide +kernel
theorem dX10_laysRounds_107 : decode (dc DX10_laysRounds) 107 = .ok (.iload_n 3, 1) := by decide +kernel
theorem dX10_laysRounds_108 : decode (dc DX10_laysRounds) 108 = .ok (.invokevirtual 347, 3) := by decide +kernel
theorem dX10_laysRounds_111 : decode (dc DX10_laysRounds) 111 = .ok (.istore 5, 2) := by decide +kernel
theorem dX10_laysRounds_113 : decode (dc DX10_laysRounds) 113 = .ok (.aload_n 0, 1) := by decide +kernel
theorem dX10_laysRounds_114 : decode (dc DX10_laysRounds) 114 = .ok (.iload_n 3, 1) := by decide +kernel
theorem dX10_laysRounds_115 : decode (dc DX10_laysRounds) 115 = .ok (.iload 4, 2) := by decide +kernel
theorem dX10_laysRounds_117 : decode (dc DX10_laysRounds) 117 = .ok (.iload 5, 2) := by decide +kernel
theorem dX10_laysRounds_119 : decode (dc DX10_laysRounds) 119 = .ok (.invokevirtual 350, 3) := by decide +kernel
theorem dX10_laysRounds_122 : decode (dc DX10_laysRounds) 122 = .ok (.aload_n 0, 1) := by decide +kernel
theorem dX10_laysRounds_123 : decode (dc DX10_laysRounds) 123 = .ok (.getfield 54, 3) := by decide +kernel
theorem dX10_laysRounds_126 : decode (dc DX10_laysRounds) 126 = .ok (.iload_n 2, 1) := by decide +kernel
theorem dX10_laysRounds_127 : decode (dc DX10_laysRounds) 127 = .ok (.aaload, 1) := by decide +kernel
theorem dX10_laysRounds_128 : decode (dc DX10_laysRounds) 128 = .ok (.iload_n 3, 1) := by decide +kernel
theorem dX10_laysRounds_129 : decode (dc DX10_laysRounds) 129 = .ok (.iload 4, 2) := by decide +kernel
theorem dX10_laysRounds_131 : decode (dc DX10_laysRounds) 131 = .ok (.iastore, 1) := by decide +kernel
theorem dX10_laysRounds_132 : decode (dc DX10_laysRounds) 132 = .ok (.iinc 3 1, 3) := by decide +kernel
theorem dX10_laysRounds_135 : decode (dc DX10_laysRounds) 135 = .ok (.goto (-80), 3) := by decide +kernel
theorem dX10_laysRounds_138 : decode (dc DX10_laysRounds) 138 = .ok (.iinc 2 1, 3) := by decide +kernel
theorem dX10_laysRounds_141 : decode (dc DX10_laysRounds) 141 = .ok (.goto (-100), 3) := by decide +kernel
theorem dX10_laysRounds_144 : decode (dc DX10_laysRounds) 144 = .ok (.iconst 0, 1) := by decide +kernel
theorem dX10_laysRounds_145 : decode (dc DX10_laysRounds) 145 = .ok (.istore_n 2, 1) := by decide +kernel
theorem dX10_laysRounds_146 : decode (dc DX10_laysRounds) 146 = .ok (.iload_n 2, 1) := by decide +kernel
theorem dX10_laysRounds_147 : decode (dc DX10_laysRounds) 147 = .ok (.bipush 12, 2) := by decide +kernel
theorem dX10_laysRounds_149 : decode (dc DX10_laysRounds) 149 = .ok (.if_icmp .ge 38, 3) := by decide +kernel
theorem dX10_laysRounds_152 : decode (dc DX10_laysRounds) 152 = .ok (.iconst 0, 1) := by decide +kernel
theorem dX10_laysRounds_153 : decode (dc DX10_laysRounds) 153 = .ok (.istore_n 3, 1) := by decide +kernel
theorem dX10_laysRounds_154 : decode (dc DX10_laysRounds) 154 = .ok (.iload_n 3, 1) := by decide +kernel
theorem dX10_laysRounds_155 : decode (dc DX10_laysRounds) 155 = .ok (.bipush 12, 2) := by decide +kernel
theorem dX10_laysRounds_157 : decode (dc DX10_laysRounds) 157 = .ok (.if_icmp .ge 24, 3) := by decide +kernel
theorem dX10_laysRounds_160 : decode (dc DX10_laysRounds) 160 = .ok (.iload_n 1, 1) := by decide +kernel
theorem dX10_laysRounds_161 : decode (dc DX10_laysRounds) 161 = .ok (.iconst 1, 1) := by decide +kernel
theorem dX10_laysRounds_162 : decode (dc DX10_laysRounds) 162 = .ok (.aload_n 0, 1) := by decide +kernel
theorem dX10_laysRounds_163 : decode (dc DX10_laysRounds) 163 = .ok (.getfield 54, 3) := by decide +kernel
theorem dX10_laysRounds_166 : decode (dc DX10_laysRounds) 166 = .ok (.iload_n 2, 1) := by decide +kernel
theorem dX10_laysRounds_167 : decode (dc DX10_laysRounds) 167 = .ok (.aaload, 1) := by decide +kernel
theorem dX10_laysRounds_168 : decode (dc DX10_laysRounds) 168 = .ok (.iload_n 3, 1) := by decide +kernel
theorem dX10_laysRounds_169 : decode (dc DX10_laysRounds) 169 = .ok (.iaload, 1) := by decide +kernel
theorem dX10_laysRounds_170 : decode (dc DX10_laysRounds) 170 = .ok (.iadd, 1) := by decide +kernel
theorem dX10_laysRounds_171 : decode (dc DX10_laysRounds) 171 = .ok (.invokestatic 353, 3) := by decide +kernel
theorem dX10_laysRounds_174 : decode (dc DX10_laysRounds) 174 = .ok (.istore_n 1, 1) := by decide +kernel
theorem dX10_laysRounds_175 : decode (dc DX10_laysRounds) 175 = .ok (.iinc 3 1, 3) := by decide +kernel
theorem dX10_laysRounds_178 : decode (dc DX10_laysRounds) 178 = .ok (.goto (-24), 3) := by decide +kernel
theorem dX10_laysRounds_181 : decode (dc DX10_laysRounds) 181 = .ok (.iinc 2 1, 3) := by decide +kernel
theorem dX10_laysRounds_184 : decode (dc DX10_laysRounds) 184 = .ok (.goto (-38), 3) := by decide +kernel
theorem dX10_laysRounds_187 : decode (dc DX10_laysRounds) 187 = .ok (.iload_n 1, 1) := by decide +kernel
theorem dX10_laysRounds_188 : decode (dc DX10_laysRounds) 188 = .ok (.ireturn, 1) := by decide +kernel
theorem dX10_rounds_0 : decode (dc DX10_rounds) 0 = .ok (.aload_n 0, 1) := by decide +kernel
theorem dX10_rounds_1 : decode (dc DX10_rounds) 1 = .ok (.iconst 0, 1) := by decide +kernel
theorem dX10_rounds_2 : decode (dc DX10_rounds) 2 = .ok (.putfield 82, 3) := by decide +kernel
theorem dX10_rounds_5 : decode (dc DX10_rounds) 5 = .ok (.aload_n 0, 1) := by decide +kernel
theorem dX10_rounds_6 : decode (dc DX10_rounds) 6 = .ok (.invokevirtual 356, 3) := by decide +kernel
theorem dX10_rounds_9 : decode (dc DX10_rounds) 9 = .ok (.ireturn, 1) := by decide +kernel
theorem dX10_round_0 : decode (dc DX10_round) 0 = .ok (.aload_n 0, 1) := by decide +kernel
theorem dX10_round_1 : decode (dc DX10_round) 1 = .ok (.iconst 0, 1) := by decide +kernel
theorem dX10_round_2 : decode (dc DX10_round) 2 = .ok (.putfield 82, 3) := by decide +kernel
theorem dX10_round_5 : decode (dc DX10_round) 5 = .ok (.aload_n 0, 1) := by decide +kernel
theorem dX10_round_6 : decode (dc DX10_round) 6 = .ok (.aload_n 0, 1) := by decide +kernel
theorem dX10_round_7 : decode (dc DX10_round) 7 = .ok (.iconst 0, 1) := by decide +kernel
theorem dX10_round_8 : decode (dc DX10_round) 8 = .ok (.iload_n 1, 1) := by decide +kernel
theorem dX10_round_9 : decode (dc DX10_round) 9 = .ok (.invokevirtual 282, 3) := by decide +kernel
theorem dX10_round_12 : decode (dc DX10_round) 12 = .ok (.ifCond .eq 12, 3) := by decide +kernel
theorem dX10_round_15 : decode (dc DX10_round) 15 = .ok (.aload_n 0, 1) := by decide +kernel
theorem dX10_round_16 : decode (dc DX10_round) 16 = .ok (.iconst 1, 1) := by decide +kernel
theorem dX10_round_17 : decode (dc DX10_round) 17 = .ok (.iload_n 2, 1) := by decide +kernel
theorem dX10_round_18 : decode (dc DX10_round) 18 = .ok (.invokevirtual 282, 3) := by decide +kernel
theorem dX10_round_21 : decode (dc DX10_round) 21 = .ok (.ifCond .ne 7, 3) := by decide +kernel
theorem dX10_round_24 : decode (dc DX10_round) 24 = .ok (.iconst 1, 1) := by decide +kernel
theorem dX10_round_25 : decode (dc DX10_round) 25 = .ok (.goto 4, 3) := by decide +kernel
theorem dX10_round_28 : decode (dc DX10_round) 28 = .ok (.iconst 0, 1) := by decide +kernel
theorem dX10_round_29 : decode (dc DX10_round) 29 = .ok (.iconst 1, 1) := by decide +kernel
theorem dX10_round_30 : decode (dc DX10_round) 30 = .ok (.iconst 0, 1) := by decide +kernel
theorem dX10_round_31 : decode (dc DX10_round) 31 = .ok (.invokevirtual 217, 3) := by decide +kernel
theorem dX10_round_34 : decode (dc DX10_round) 34 = .ok (.ifCond .eq 5, 3) := by decide +kernel
theorem dX10_round_37 : decode (dc DX10_round) 37 = .ok (.iconst 0, 1) := by decide +kernel
theorem dX10_round_38 : decode (dc DX10_round) 38 = .ok (.ireturn, 1) := by decide +kernel
theorem dX10_round_39 : decode (dc DX10_round) 39 = .ok (.aload_n 0, 1) := by decide +kernel
theorem dX10_round_40 : decode (dc DX10_round) 40 = .ok (.invokevirtual 356, 3) := by decide +kernel
theorem dX10_round_43 : decode (dc DX10_round) 43 = .ok (.pop, 1) := by decide +kernel
theorem dX10_round_44 : decode (dc DX10_round) 44 = .ok (.aload_n 0, 1) := by decide +kernel
theorem dX10_round_45 : decode (dc DX10_round) 45 = .ok (.getfield 54, 3) := by decide +kernel
theorem dX10_round_48 : decode (dc DX10_round) 48 = .ok (.iload_n 1, 1) := by decide +kernel
theorem dX10_round_49 : decode (dc DX10_round) 49 = .ok (.aaload, 1) := by decide +kernel
theorem dX10_round_50 : decode (dc DX10_round) 50 = .ok (.iload_n 2, 1) := by decide +kernel
theorem dX10_round_51 : decode (dc DX10_round) 51 = .ok (.iaload, 1) := by decide +kernel
theorem dX10_round_52 : decode (dc DX10_round) 52 = .ok (.ireturn, 1) := by decide +kernel
theorem dX10_laysReach_0 : decode (dc DX10_laysReach) 0 = .ok (.aload_n 0, 1) := by decide +kernel
theorem dX10_laysReach_1 : decode (dc DX10_laysReach) 1 = .ok (.iconst 0, 1) := by decide +kernel
theorem dX10_laysReach_2 : decode (dc DX10_laysReach) 2 = .ok (.bipush 17, 2) := by decide +kernel
theorem dX10_laysReach_4 : decode (dc DX10_laysReach) 4 = .ok (.invokevirtual 228, 3) := by decide +kernel
theorem dX10_laysReach_7 : decode (dc DX10_laysReach) 7 = .ok (.aload_n 0, 1) := by decide +kernel
theorem dX10_laysReach_8 : decode (dc DX10_laysReach) 8 = .ok (.bipush 12, 2) := by decide +kernel
theorem dX10_laysReach_10 : decode (dc DX10_laysReach) 10 = .ok (.invokevirtual 267, 3) := by decide +kernel
theorem dX10_laysReach_13 : decode (dc DX10_laysReach) 13 = .ok (.pop, 1) := by decide +kernel
theorem dX10_laysReach_14 : decode (dc DX10_laysReach) 14 = .ok (.aload_n 0, 1) := by decide +kernel
theorem dX10_laysReach_15 : decode (dc DX10_laysReach) 15 = .ok (.getfield 57, 3) := by decide +kernel
theorem dX10_laysReach_18 : decode (dc DX10_laysReach) 18 = .ok (.iconst 0, 1) := by decide +kernel
theorem dX10_laysReach_19 : decode (dc DX10_laysReach) 19 = .ok (.aload_n 0, 1) := by decide +kernel
theorem dX10_laysReach_20 : decode (dc DX10_laysReach) 20 = .ok (.iconst 0, 1) := by decide +kernel
theorem dX10_laysReach_21 : decode (dc DX10_laysReach) 21 = .ok (.invokevirtual 276, 3) := by decide +kernel
theorem dX10_laysReach_24 : decode (dc DX10_laysReach) 24 = .ok (.iastore, 1) := by decide +kernel
theorem dX10_laysReach_25 : decode (dc DX10_laysReach) 25 = .ok (.aload_n 0, 1) := by decide +kernel
theorem dX10_laysReach_26 : decode (dc DX10_laysReach) 26 = .ok (.getfield 57, 3) := by decide +kernel
theorem dX10_laysReach_29 : decode (dc DX10_laysReach) 29 = .ok (.iconst 1, 1) := by decide +kernel
theorem dX10_laysReach_30 : decode (dc DX10_laysReach) 30 = .ok (.iconst 0, 1) := by decide +kernel
theorem dX10_laysReach_31 : decode (dc DX10_laysReach) 31 = .ok (.iastore, 1) := by decide +kernel
theorem dX10_laysReach_32 : decode (dc DX10_laysReach) 32 = .ok (.aload_n 0, 1) := by decide +kernel
theorem dX10_laysReach_33 : decode (dc DX10_laysReach) 33 = .ok (.getfield 60, 3) := by decide +kernel
theorem dX10_laysReach_36 : decode (dc DX10_laysReach) 36 = .ok (.iconst 1, 1) := by decide +kernel
theorem dX10_laysReach_37 : decode (dc DX10_laysReach) 37 = .ok (.aload_n 0, 1) := by decide +kernel
theorem dX10_laysReach_38 : decode (dc DX10_laysReach) 38 = .ok (.iconst 1, 1) := by decide +kernel
theorem dX10_laysReach_39 : decode (dc DX10_laysReach) 39 = .ok (.invokevirtual 276, 3) := by decide +kernel
theorem dX10_laysReach_42 : decode (dc DX10_laysReach) 42 = .ok (.iastore, 1) := by decide +kernel
theorem dX10_laysReach_43 : decode (dc DX10_laysReach) 43 = .ok (.aload_n 0, 1) := by decide +kernel
theorem dX10_laysReach_44 : decode (dc DX10_laysReach) 44 = .ok (.getfield 60, 3) := by decide +kernel
theorem dX10_laysReach_47 : decode (dc DX10_laysReach) 47 = .ok (.iconst 0, 1) := by decide +kernel
theorem dX10_laysReach_48 : decode (dc DX10_laysReach) 48 = .ok (.iconst 0, 1) := by decide +kernel
theorem dX10_laysReach_49 : decode (dc DX10_laysReach) 49 = .ok (.iastore, 1) := by decide +kernel
theorem dX10_laysReach_50 : decode (dc DX10_laysReach) 50 = .ok (.iconst 0, 1) := by decide +kernel
theorem dX10_laysReach_51 : decode (dc DX10_laysReach) 51 = .ok (.istore_n 1, 1) := by decide +kernel
theorem dX10_laysReach_52 : decode (dc DX10_laysReach) 52 = .ok (.iload_n 1, 1) := by decide +kernel
theorem dX10_laysReach_53 : decode (dc DX10_laysReach) 53 = .ok (.bipush 24, 2) := by decide +kernel
theorem dX10_laysReach_55 : decode (dc DX10_laysReach) 55 = .ok (.if_icmp .ge 195, 3) := by decide +kernel
theorem dX10_laysReach_58 : decode (dc DX10_laysReach) 58 = .ok (.iconst 0, 1) := by decide +kernel
theorem dX10_laysReach_59 : decode (dc DX10_laysReach) 59 = .ok (.istore_n 2, 1) := by decide +kernel
theorem dX10_laysReach_60 : decode (dc DX10_laysReach) 60 = .ok (.iload_n 2, 1) := by decide +kernel
theorem dX10_laysReach_61 : decode (dc DX10_laysReach) 61 = .ok (.aload_n 0, 1) := by decide +kernel
theorem dX10_laysReach_62 : decode (dc DX10_laysReach) 62 = .ok (.getfield 22, 3) := by decide +kernel
theorem dX10_laysReach_65 : decode (dc DX10_laysReach) 65 = .ok (.iconst 0, 1) := by decide +kernel
theorem dX10_laysReach_66 : decode (dc DX10_laysReach) 66 = .ok (.aaload, 1) := by decide +kernel
theorem dX10_laysReach_67 : decode (dc DX10_laysReach) 67 = .ok (.iconst 0, 1) := by decide +kernel
theorem dX10_laysReach_68 : decode (dc DX10_laysReach) 68 = .ok (.iaload, 1) := by decide +kernel
theorem dX10_laysReach_69 : decode (dc DX10_laysReach) 69 = .ok (.if_icmp .ge 175, 3) := by decide +kernel
theorem dX10_laysReach_72 : decode (dc DX10_laysReach) 72 = .ok (.aload_n 0, 1) := by decide +kernel
theorem dX10_laysReach_73 : decode (dc DX10_laysReach) 73 = .ok (.getfield 57, 3) := by decide +kernel
theorem dX10_laysReach_76 : decode (dc DX10_laysReach) 76 = .ok (.iconst 0, 1) := by decide +kernel
theorem dX10_laysReach_77 : decode (dc DX10_laysReach) 77 = .ok (.iaload, 1) := by decide +kernel
theorem dX10_laysReach_78 : decode (dc DX10_laysReach) 78 = .ok (.iload_n 2, 1) := by decide +kernel
theorem dX10_laysReach_79 : decode (dc DX10_laysReach) 79 = .ok (.invokestatic 182, 3) := by decide +kernel
theorem dX10_laysReach_82 : decode (dc DX10_laysReach) 82 = .ok (.ifCond .eq 29, 3) := by decide +kernel
theorem dX10_laysReach_85 : decode (dc DX10_laysReach) 85 = .ok (.aload_n 0, 1) := by decide +kernel
theorem dX10_laysReach_86 : decode (dc DX10_laysReach) 86 = .ok (.getfield 57, 3) := by decide +kernel
theorem dX10_laysReach_89 : decode (dc DX10_laysReach) 89 = .ok (.iconst 1, 1) := by decide +kernel
theorem dX10_laysReach_90 : decode (dc DX10_laysReach) 90 = .ok (.dup2, 1) := by decide +kernel
theorem dX10_laysReach_91 : decode (dc DX10_laysReach) 91 = .ok (.iaload, 1) := by decide +kernel
theorem dX10_laysReach_92 : decode (dc DX10_laysReach) 92 = .ok (.aload_n 0, 1) := by decide +kernel
theorem dX10_laysReach_93 : decode (dc DX10_laysReach) 93 = .ok (.getfield 25, 3) := by decide +kernel
theorem dX10_laysReach_96 : decode (dc DX10_laysReach) 96 = .ok (.iconst 0, 1) := by decide +kernel
theorem dX10_laysReach_97 : decode (dc DX10_laysReach) 97 = .ok (.aaload, 1) := by decide +kernel
theorem dX10_laysReach_98 : decode (dc DX10_laysReach) 98 = .ok (.iload_n 2, 1) := by decide +kernel
theorem dX10_laysReach_99 : decode (dc DX10_laysReach) 99 = .ok (.iaload, 1) := by decide +kernel
theorem dX10_laysReach_100 : decode (dc DX10_laysReach) 100 = .ok (.aload_n 0, 1) := by decide +kernel
theorem dX10_laysReach_101 : decode (dc DX10_laysReach) 101 = .ok (.getfield 22, 3) := by decide +kernel
theorem dX10_laysReach_104 : decode (dc DX10_laysReach) 104 = .ok (.iconst 0, 1) := by decide +kernel
theorem dX10_laysReach_105 : decode (dc DX10_laysReach) 105 = .ok (.aaload, 1) := by decide +kernel
theorem dX10_laysReach_106 : decode (dc DX10_laysReach) 106 = .ok (.iconst 4, 1) := by decide +kernel
theorem dX10_laysReach_107 : decode (dc DX10_laysReach) 107 = .ok (.iaload, 1) := by decide +kernel
theorem dX10_laysReach_108 : decode (dc DX10_laysReach) 108 = .ok (.iand, 1) := by decide +kernel
theorem dX10_laysReach_109 : decode (dc DX10_laysReach) 109 = .ok (.ior, 1) := by decide +kernel
theorem dX10_laysReach_110 : decode (dc DX10_laysReach) 110 = .ok (.iastore, 1) := by decide +kernel
theorem dX10_laysReach_111 : decode (dc DX10_laysReach) 111 = .ok (.aload_n 0, 1) := by decide +kernel
theorem dX10_laysReach_112 : decode (dc DX10_laysReach) 112 = .ok (.getfield 28, 3) := by decide +kernel
theorem dX10_laysReach_115 : decode (dc DX10_laysReach) 115 = .ok (.iconst 0, 1) := by decide +kernel
theorem dX10_laysReach_116 : decode (dc DX10_laysReach) 116 = .ok (.aaload, 1) := by decide +kernel
theorem dX10_laysReach_117 : decode (dc DX10_laysReach) 117 = .ok (.iload_n 2, 1) := by decide +kernel
theorem dX10_laysReach_118 : decode (dc DX10_laysReach) 118 = .ok (.iaload, 1) := by decide +kernel
theorem dX10_laysReach_119 : decode (dc DX10_laysReach) 119 = .ok (.iconst (-1), 1) := by decide +kernel
theorem dX10_laysReach_120 : decode (dc DX10_laysReach) 120 = .ok (.if_icmp .eq 35, 3) := by decide +kernel
theorem dX10_laysReach_123 : decode (dc DX10_laysReach) 123 = .ok (.aload_n 0, 1) := by decide +kernel
theorem dX10_laysReach_124 : decode (dc DX10_laysReach) 124 = .ok (.getfield 57, 3) := by decide +kernel
theorem dX10_laysReach_127 : decode (dc DX10_laysReach) 127 = .ok (.iconst 1, 1) := by decide +kernel
theorem dX10_laysReach_128 : decode (dc DX10_laysReach) 128 = .ok (.iaload, 1) := by decide +kernel
theorem dX10_laysReach_129 : decode (dc DX10_laysReach) 129 = .ok (.aload_n 0, 1) := by decide +kernel
theorem dX10_laysReach_130 : decode (dc DX10_laysReach) 130 = .ok (.getfield 28, 3) := by decide +kernel
theorem dX10_laysReach_133 : decode (dc DX10_laysReach) 133 = .ok (.iconst 0, 1) := by decide +kernel
theorem dX10_laysReach_134 : decode (dc DX10_laysReach) 134 = .ok (.aaload, 1) := by decide +kernel
theorem dX10_laysReach_135 : decode (dc DX10_laysReach) 135 = .ok (.iload_n 2, 1) := by decide +kernel
theorem dX10_laysReach_136 : decode (dc DX10_laysReach) 136 = .ok (.iaload, 1) := by decide +kernel
theorem dX10_laysReach_137 : decode (dc DX10_laysReach) 137 = .ok (.invokestatic 182, 3) := by decide +kernel
theorem dX10_laysReach_140 : decode (dc DX10_laysReach) 140 = .ok (.ifCond .eq 15, 3) := by decide +kernel
theorem dX10_laysReach_143 : decode (dc DX10_laysReach) 143 = .ok (.aload_n 0, 1) := by decide +kernel
theorem dX10_laysReach_144 : decode (dc DX10_laysReach) 144 = .ok (.getfield 57, 3) := by decide +kernel
theorem dX10_laysReach_147 : decode (dc DX10_laysReach) 147 = .ok (.iconst 0, 1) := by decide +kernel
theorem dX10_laysReach_148 : decode (dc DX10_laysReach) 148 = .ok (.dup2, 1) := by decide +kernel
theorem dX10_laysReach_149 : decode (dc DX10_laysReach) 149 = .ok (.iaload, 1) := by decide +kernel
theorem dX10_laysReach_150 : decode (dc DX10_laysReach) 150 = .ok (.iconst 1, 1) := by decide +kernel
theorem dX10_laysReach_151 : decode (dc DX10_laysReach) 151 = .ok (.iload_n 2, 1) := by decide +kernel
theorem dX10_laysReach_152 : decode (dc DX10_laysReach) 152 = .ok (.ishl, 1) := by decide +kernel
theorem dX10_laysReach_153 : decode (dc DX10_laysReach) 153 = .ok (.ior, 1) := by decide +kernel
theorem dX10_laysReach_154 : decode (dc DX10_laysReach) 154 = .ok (.iastore, 1) := by decide +kernel
theorem dX10_laysReach_155 : decode (dc DX10_laysReach) 155 = .ok (.aload_n 0, 1) := by decide +kernel
theorem dX10_laysReach_156 : decode (dc DX10_laysReach) 156 = .ok (.iconst 0, 1) := by decide +kernel
theorem dX10_laysReach_157 : decode (dc DX10_laysReach) 157 = .ok (.iload_n 2, 1) := by decide +kernel
theorem dX10_laysReach_158 : decode (dc DX10_laysReach) 158 = .ok (.invokevirtual 240, 3) := by decide +kernel
theorem dX10_laysReach_161 : decode (dc DX10_laysReach) 161 = .ok (.ifCond .eq 33, 3) := by decide +kernel
theorem dX10_laysReach_164 : decode (dc DX10_laysReach) 164 = .ok (.aload_n 0, 1) := by decide +kernel
theorem dX10_laysReach_165 : decode (dc DX10_laysReach) 165 = .ok (.getfield 25, 3) := by decide +kernel
theorem dX10_laysReach_168 : decode (dc DX10_laysReach) 168 = .ok (.iconst 0, 1) := by decide +kernel
theorem dX10_laysReach_169 : decode (dc DX10_laysReach) 169 = .ok (.aaload, 1) := by decide +kernel
theorem dX10_laysReach_170 : decode (dc DX10_laysReach) 170 = .ok (.iload_n 2, 1) := by decide +kernel
theorem dX10_laysReach_171 : decode (dc DX10_laysReach) 171 = .ok (.iaload, 1) := by decide +kernel
theorem dX10_laysReach_172 : decode (dc DX10_laysReach) 172 = .ok (.aload_n 0, 1) := by decide +kernel
theorem dX10_laysReach_173 : decode (dc DX10_laysReach) 173 = .ok (.getfield 60, 3) := by decide +kernel
theorem dX10_laysReach_176 : decode (dc DX10_laysReach) 176 = .ok (.iconst 1, 1) := by decide +kernel
theorem dX10_laysReach_177 : decode (dc DX10_laysReach) 177 = .ok (.iaload, 1) := by decide +kernel
theorem dX10_laysReach_178 : decode (dc DX10_laysReach) 178 = .ok (.iand, 1) := by decide +kernel
theorem dX10_laysReach_179 : decode (dc DX10_laysReach) 179 = .ok (.ifCond .eq 15, 3) := by decide +kernel
theorem dX10_laysReach_182 : decode (dc DX10_laysReach) 182 = .ok (.aload_n 0, 1) := by decide +kernel
theorem dX10_laysReach_183 : decode (dc DX10_laysReach) 183 = .ok (.getfield 60, 3) := by decide +kernel
theorem dX10_laysReach_186 : decode (dc DX10_laysReach) 186 = .ok (.iconst 0, 1) := by decide +kernel
theorem dX10_laysReach_187 : decode (dc DX10_laysReach) 187 = .ok (.dup2, 1) := by decide +kernel
theorem dX10_laysReach_188 : decode (dc DX10_laysReach) 188 = .ok (.iaload, 1) := by decide +kernel
theorem dX10_laysReach_189 : decode (dc DX10_laysReach) 189 = .ok (.iconst 1, 1) := by decide +kernel
theorem dX10_laysReach_190 : decode (dc DX10_laysReach) 190 = .ok (.iload_n 2, 1) := by decide +kernel
theorem dX10_laysReach_191 : decode (dc DX10_laysReach) 191 = .ok (.ishl, 1) := by decide +kernel
theorem dX10_laysReach_192 : decode (dc DX10_laysReach) 192 = .ok (.ior, 1) := by decide +kernel
theorem dX10_laysReach_193 : decode (dc DX10_laysReach) 193 = .ok (.iastore, 1) := by decide +kernel
theorem dX10_laysReach_194 : decode (dc DX10_laysReach) 194 = .ok (.aload_n 0, 1) := by decide +kernel
theorem dX10_laysReach_195 : decode (dc DX10_laysReach) 195 = .ok (.getfield 28, 3) := by decide +kernel
theorem dX10_laysReach_198 : decode (dc DX10_laysReach) 198 = .ok (.iconst 0, 1) := by decide +kernel
theorem dX10_laysReach_199 : decode (dc DX10_laysReach) 199 = .ok (.aaload, 1) := by decide +kernel
theorem dX10_laysReach_200 : decode (dc DX10_laysReach) 200 = .ok (.iload_n 2, 1) := by decide +kernel
theorem dX10_laysReach_201 : decode (dc DX10_laysReach) 201 = .ok (.iaload, 1) := by decide +kernel
theorem dX10_laysReach_202 : decode (dc DX10_laysReach) 202 = .ok (.iconst (-1), 1) := by decide +kernel
theorem dX10_laysReach_203 : decode (dc DX10_laysReach) 203 = .ok (.if_icmp .eq 35, 3) := by decide +kernel
theorem dX10_laysReach_206 : decode (dc DX10_laysReach) 206 = .ok (.aload_n 0, 1) := by decide +kernel
theorem dX10_laysReach_207 : decode (dc DX10_laysReach) 207 = .ok (.getfield 60, 3) := by decide +kernel
theorem dX10_laysReach_210 : decode (dc DX10_laysReach) 210 = .ok (.iconst 0, 1) := by decide +kernel
theorem dX10_laysReach_211 : decode (dc DX10_laysReach) 211 = .ok (.iaload, 1) := by decide +kernel
theorem dX10_laysReach_212 : decode (dc DX10_laysReach) 212 = .ok (.iload_n 2, 1) := by decide +kernel
theorem dX10_laysReach_213 : decode (dc DX10_laysReach) 213 = .ok (.invokestatic 182, 3) := by decide +kernel
theorem dX10_laysReach_216 : decode (dc DX10_laysReach) 216 = .ok (.ifCond .eq 22, 3) := by decide +kernel
theorem dX10_laysReach_219 : decode (dc DX10_laysReach) 219 = .ok (.aload_n 0, 1) := by decide +kernel
theorem dX10_laysReach_220 : decode (dc DX10_laysReach) 220 = .ok (.getfield 60, 3) := by decide +kernel
theorem dX10_laysReach_223 : decode (dc DX10_laysReach) 223 = .ok (.iconst 1, 1) := by decide +kernel
theorem dX10_laysReach_224 : decode (dc DX10_laysReach) 224 = .ok (.dup2, 1) := by decide +kernel
theorem dX10_laysReach_225 : decode (dc DX10_laysReach) 225 = .ok (.iaload, 1) := by decide +kernel
theorem dX10_laysReach_226 : decode (dc DX10_laysReach) 226 = .ok (.iconst 1, 1) := by decide +kernel
theorem dX10_laysReach_227 : decode (dc DX10_laysReach) 227 = .ok (.aload_n 0, 1) := by decide +kernel
theorem dX10_laysReach_228 : decode (dc DX10_laysReach) 228 = .ok (.getfield 28, 3) := by decide +kernel
theorem dX10_laysReach_231 : decode (dc DX10_laysReach) 231 = .ok (.iconst 0, 1) := by decide +kernel
theorem dX10_laysReach_232 : decode (dc DX10_laysReach) 232 = .ok (.aaload, 1) := by decide +kernel
theorem dX10_laysReach_233 : decode (dc DX10_laysReach) 233 = .ok (.iload_n 2, 1) := by decide +kernel
theorem dX10_laysReach_234 : decode (dc DX10_laysReach) 234 = .ok (.iaload, 1) := by decide +kernel
theorem dX10_laysReach_235 : decode (dc DX10_laysReach) 235 = .ok (.ishl, 1) := by decide +kernel
theorem dX10_laysReach_236 : decode (dc DX10_laysReach) 236 = .ok (.ior, 1) := by decide +kernel
theorem dX10_laysReach_237 : decode (dc DX10_laysReach) 237 = .ok (.iastore, 1) := by decide +kernel
theorem dX10_laysReach_238 : decode (dc DX10_laysReach) 238 = .ok (.iinc 2 1, 3) := by decide +kernel
theorem dX10_laysReach_241 : decode (dc DX10_laysReach) 241 = .ok (.goto (-181), 3) := by decide +kernel
theorem dX10_laysReach_244 : decode (dc DX10_laysReach) 244 = .ok (.iinc 1 1, 3) := by decide +kernel
theorem dX10_laysReach_247 : decode (dc DX10_laysReach) 247 = .ok (.goto (-195), 3) := by decide +kernel
theorem dX10_laysReach_250 : decode (dc DX10_laysReach) 250 = .ok (.aload_n 0, 1) := by decide +kernel
theorem dX10_laysReach_251 : decode (dc DX10_laysReach) 251 = .ok (.bipush 17, 2) := by decide +kernel
theorem dX10_laysReach_253 : decode (dc DX10_laysReach) 253 = .ok (.iconst 0, 1) := by decide +kernel
theorem dX10_laysReach_254 : decode (dc DX10_laysReach) 254 = .ok (.invokevirtual 228, 3) := by decide +kernel
theorem dX10_laysReach_257 : decode (dc DX10_laysReach) 257 = .ok (.return_, 1) := by decide +kernel
theorem dX10_reached_0 : decode (dc DX10_reached) 0 = .ok (.aload_n 0, 1) := by decide +kernel
theorem dX10_reached_1 : decode (dc DX10_reached) 1 = .ok (.iconst 0, 1) := by decide +kernel
theorem dX10_reached_2 : decode (dc DX10_reached) 2 = .ok (.putfield 82, 3) := by decide +kernel
theorem dX10_reached_5 : decode (dc DX10_reached) 5 = .ok (.aload_n 0, 1) := by decide +kernel
theorem dX10_reached_6 : decode (dc DX10_reached) 6 = .ok (.iload_n 1, 1) := by decide +kernel
theorem dX10_reached_7 : decode (dc DX10_reached) 7 = .ok (.iconst 0, 1) := by decide +kernel
theorem dX10_reached_8 : decode (dc DX10_reached) 8 = .ok (.iconst 1, 1) := by decide +kernel
theorem dX10_reached_9 : decode (dc DX10_reached) 9 = .ok (.invokestatic 127, 3) := by decide +kernel
theorem dX10_reached_12 : decode (dc DX10_reached) 12 = .ok (.ifCond .ne 7, 3) := by decide +kernel
theorem dX10_reached_15 : decode (dc DX10_reached) 15 = .ok (.iconst 1, 1) := by decide +kernel
theorem dX10_reached_16 : decode (dc DX10_reached) 16 = .ok (.goto 4, 3) := by decide +kernel
theorem dX10_reached_19 : decode (dc DX10_reached) 19 = .ok (.iconst 0, 1) := by decide +kernel
theorem dX10_reached_20 : decode (dc DX10_reached) 20 = .ok (.iconst 1, 1) := by decide +kernel
theorem dX10_reached_21 : decode (dc DX10_reached) 21 = .ok (.iconst 0, 1) := by decide +kernel
theorem dX10_reached_22 : decode (dc DX10_reached) 22 = .ok (.invokevirtual 217, 3) := by decide +kernel
theorem dX10_reached_25 : decode (dc DX10_reached) 25 = .ok (.ifCond .eq 5, 3) := by decide +kernel
theorem dX10_reached_28 : decode (dc DX10_reached) 28 = .ok (.iconst 0, 1) := by decide +kernel
theorem dX10_reached_29 : decode (dc DX10_reached) 29 = .ok (.ireturn, 1) := by decide +kernel
theorem dX10_reached_30 : decode (dc DX10_reached) 30 = .ok (.aload_n 0, 1) := by decide +kernel
theorem dX10_reached_31 : decode (dc DX10_reached) 31 = .ok (.invokevirtual 359, 3) := by decide +kernel
theorem dX10_reached_34 : decode (dc DX10_reached) 34 = .ok (.aload_n 0, 1) := by decide +kernel
theorem dX10_reached_35 : decode (dc DX10_reached) 35 = .ok (.getfield 57, 3) := by decide +kernel
theorem dX10_reached_38 : decode (dc DX10_reached) 38 = .ok (.iload_n 1, 1) := by decide +kernel
theorem dX10_reached_39 : decode (dc DX10_reached) 39 = .ok (.iaload, 1) := by decide +kernel
theorem dX10_reached_40 : decode (dc DX10_reached) 40 = .ok (.ireturn, 1) := by decide +kernel
theorem dX10_cover_0 : decode (dc DX10_cover) 0 = .ok (.aload_n 0, 1) := by decide +kernel
theorem dX10_cover_1 : decode (dc DX10_cover) 1 = .ok (.iconst 0, 1) := by decide +kernel
theorem dX10_cover_2 : decode (dc DX10_cover) 2 = .ok (.putfield 82, 3) := by decide +kernel
theorem dX10_cover_5 : decode (dc DX10_cover) 5 = .ok (.aload_n 0, 1) := by decide +kernel
theorem dX10_cover_6 : decode (dc DX10_cover) 6 = .ok (.iload_n 1, 1) := by decide +kernel
theorem dX10_cover_7 : decode (dc DX10_cover) 7 = .ok (.iconst 0, 1) := by decide +kernel
theorem dX10_cover_8 : decode (dc DX10_cover) 8 = .ok (.iconst 1, 1) := by decide +kernel
theorem dX10_cover_9 : decode (dc DX10_cover) 9 = .ok (.invokestatic 127, 3) := by decide +kernel
theorem dX10_cover_12 : decode (dc DX10_cover) 12 = .ok (.ifCond .ne 7, 3) := by decide +kernel
theorem dX10_cover_15 : decode (dc DX10_cover) 15 = .ok (.iconst 1, 1) := by decide +kernel
theorem dX10_cover_16 : decode (dc DX10_cover) 16 = .ok (.goto 4, 3) := by decide +kernel
theorem dX10_cover_19 : decode (dc DX10_cover) 19 = .ok (.iconst 0, 1) := by decide +kernel
theorem dX10_cover_20 : decode (dc DX10_cover) 20 = .ok (.iconst 1, 1) := by decide +kernel
theorem dX10_cover_21 : decode (dc DX10_cover) 21 = .ok (.iconst 0, 1) := by decide +kernel
theorem dX10_cover_22 : decode (dc DX10_cover) 22 = .ok (.invokevirtual 217, 3) := by decide +kernel
theorem dX10_cover_25 : decode (dc DX10_cover) 25 = .ok (.ifCond .eq 5, 3) := by decide +kernel
theorem dX10_cover_28 : decode (dc DX10_cover) 28 = .ok (.iconst 0, 1) := by decide +kernel
theorem dX10_cover_29 : decode (dc DX10_cover) 29 = .ok (.ireturn, 1) := by decide +kernel
theorem dX10_cover_30 : decode (dc DX10_cover) 30 = .ok (.aload_n 0, 1) := by decide +kernel
theorem dX10_cover_31 : decode (dc DX10_cover) 31 = .ok (.invokevirtual 359, 3) := by decide +kernel
theorem dX10_cover_34 : decode (dc DX10_cover) 34 = .ok (.iload_n 1, 1) := by decide +kernel
theorem dX10_cover_35 : decode (dc DX10_cover) 35 = .ok (.ifCond .ne 23, 3) := by decide +kernel
theorem dX10_cover_38 : decode (dc DX10_cover) 38 = .ok (.aload_n 0, 1) := by decide +kernel
theorem dX10_cover_39 : decode (dc DX10_cover) 39 = .ok (.getfield 22, 3) := by decide +kernel
theorem dX10_cover_42 : decode (dc DX10_cover) 42 = .ok (.iconst 0, 1) := by decide +kernel
theorem dX10_cover_43 : decode (dc DX10_cover) 43 = .ok (.aaload, 1) := by decide +kernel
theorem dX10_cover_44 : decode (dc DX10_cover) 44 = .ok (.iconst 3, 1) := by decide +kernel
theorem dX10_cover_45 : decode (dc DX10_cover) 45 = .ok (.iaload, 1) := by decide +kernel
theorem dX10_cover_46 : decode (dc DX10_cover) 46 = .ok (.aload_n 0, 1) := by decide +kernel
theorem dX10_cover_47 : decode (dc DX10_cover) 47 = .ok (.getfield 57, 3) := by decide +kernel
theorem dX10_cover_50 : decode (dc DX10_cover) 50 = .ok (.iconst 0, 1) := by decide +kernel
theorem dX10_cover_51 : decode (dc DX10_cover) 51 = .ok (.iaload, 1) := by decide +kernel
theorem dX10_cover_52 : decode (dc DX10_cover) 52 = .ok (.iconst (-1), 1) := by decide +kernel
theorem dX10_cover_53 : decode (dc DX10_cover) 53 = .ok (.ixor, 1) := by decide +kernel
theorem dX10_cover_54 : decode (dc DX10_cover) 54 = .ok (.iand, 1) := by decide +kernel
theorem dX10_cover_55 : decode (dc DX10_cover) 55 = .ok (.goto 9, 3) := by decide +kernel
theorem dX10_cover_58 : decode (dc DX10_cover) 58 = .ok (.aload_n 0, 1) := by decide +kernel
theorem dX10_cover_59 : decode (dc DX10_cover) 59 = .ok (.getfield 57, 3) := by decide +kernel
theorem dX10_cover_62 : decode (dc DX10_cover) 62 = .ok (.iconst 1, 1) := by decide +kernel
theorem dX10_cover_63 : decode (dc DX10_cover) 63 = .ok (.iaload, 1) := by decide +kernel
theorem dX10_cover_64 : decode (dc DX10_cover) 64 = .ok (.ireturn, 1) := by decide +kernel
theorem dX10_without_0 : decode (dc DX10_without) 0 = .ok (.iload_n 1, 1) := by decide +kernel
theorem dX10_without_1 : decode (dc DX10_without) 1 = .ok (.ifCond .ne 7, 3) := by decide +kernel
theorem dX10_without_4 : decode (dc DX10_without) 4 = .ok (.iconst 3, 1) := by decide +kernel
theorem dX10_without_5 : decode (dc DX10_without) 5 = .ok (.goto 4, 3) := by decide +kernel
theorem dX10_without_8 : decode (dc DX10_without) 8 = .ok (.iconst 4, 1) := by decide +kernel
theorem dX10_without_9 : decode (dc DX10_without) 9 = .ok (.istore_n 3, 1) := by decide +kernel
theorem dX10_without_10 : decode (dc DX10_without) 10 = .ok (.aload_n 0, 1) := by decide +kernel
theorem dX10_without_11 : decode (dc DX10_without) 11 = .ok (.getfield 22, 3) := by decide +kernel
theorem dX10_without_14 : decode (dc DX10_without) 14 = .ok (.iconst 0, 1) := by decide +kernel
theorem dX10_without_15 : decode (dc DX10_without) 15 = .ok (.aaload, 1) := by decide +kernel
theorem dX10_without_16 : decode (dc DX10_without) 16 = .ok (.iload_n 3, 1) := by decide +kernel
theorem dX10_without_17 : decode (dc DX10_without) 17 = .ok (.iaload, 1) := by decide +kernel
theorem dX10_without_18 : decode (dc DX10_without) 18 = .ok (.istore 4, 2) := by decide +kernel
theorem dX10_without_20 : decode (dc DX10_without) 20 = .ok (.aload_n 0, 1) := by decide +kernel
theorem dX10_without_21 : decode (dc DX10_without) 21 = .ok (.getfield 22, 3) := by decide +kernel
theorem dX10_without_24 : decode (dc DX10_without) 24 = .ok (.iconst 0, 1) := by decide +kernel
theorem dX10_without_25 : decode (dc DX10_without) 25 = .ok (.aaload, 1) := by decide +kernel
theorem dX10_without_26 : decode (dc DX10_without) 26 = .ok (.iload_n 3, 1) := by decide +kernel
theorem dX10_without_27 : decode (dc DX10_without) 27 = .ok (.dup2, 1) := by decide +kernel
theorem dX10_without_28 : decode (dc DX10_without) 28 = .ok (.iaload, 1) := by decide +kernel
theorem dX10_without_29 : decode (dc DX10_without) 29 = .ok (.iconst 1, 1) := by decide +kernel
theorem dX10_without_30 : decode (dc DX10_without) 30 = .ok (.iload_n 2, 1) := by decide +kernel
theorem dX10_without_31 : decode (dc DX10_without) 31 = .ok (.ishl, 1) := by decide +kernel
theorem dX10_without_32 : decode (dc DX10_without) 32 = .ok (.iconst (-1), 1) := by decide +kernel
theorem dX10_without_33 : decode (dc DX10_without) 33 = .ok (.ixor, 1) := by decide +kernel
theorem dX10_without_34 : decode (dc DX10_without) 34 = .ok (.iand, 1) := by decide +kernel
theorem dX10_without_35 : decode (dc DX10_without) 35 = .ok (.iastore, 1) := by decide +kernel
theorem dX10_without_36 : decode (dc DX10_without) 36 = .ok (.aload_n 0, 1) := by decide +kernel
theorem dX10_without_37 : decode (dc DX10_without) 37 = .ok (.invokevirtual 327, 3) := by decide +kernel
theorem dX10_without_40 : decode (dc DX10_without) 40 = .ok (.istore 5, 2) := by decide +kernel
theorem dX10_without_42 : decode (dc DX10_without) 42 = .ok (.aload_n 0, 1) := by decide +kernel
theorem dX10_without_43 : decode (dc DX10_without) 43 = .ok (.getfield 22, 3) := by decide +kernel
theorem dX10_without_46 : decode (dc DX10_without) 46 = .ok (.iconst 0, 1) := by decide +kernel
theorem dX10_without_47 : decode (dc DX10_without) 47 = .ok (.aaload, 1) := by decide +kernel
theorem dX10_without_48 : decode (dc DX10_without) 48 = .ok (.iload_n 3, 1) := by decide +kernel
theorem dX10_without_49 : decode (dc DX10_without) 49 = .ok (.iload 4, 2) := by decide +kernel
theorem dX10_without_51 : decode (dc DX10_without) 51 = .ok (.iastore, 1) := by decide +kernel
theorem dX10_without_52 : decode (dc DX10_without) 52 = .ok (.iload 5, 2) := by decide +kernel
theorem dX10_without_54 : decode (dc DX10_without) 54 = .ok (.ireturn, 1) := by decide +kernel
theorem dX10_partOf_0 : decode (dc DX10_partOf) 0 = .ok (.aload_n 0, 1) := by decide +kernel
theorem dX10_partOf_1 : decode (dc DX10_partOf) 1 = .ok (.iload_n 1, 1) := by decide +kernel
theorem dX10_partOf_2 : decode (dc DX10_partOf) 2 = .ok (.iload_n 2, 1) := by decide +kernel
theorem dX10_partOf_3 : decode (dc DX10_partOf) 3 = .ok (.invokevirtual 240, 3) := by decide +kernel
theorem dX10_partOf_6 : decode (dc DX10_partOf) 6 = .ok (.ifCond .ne 5, 3) := by decide +kernel
theorem dX10_partOf_9 : decode (dc DX10_partOf) 9 = .ok (.iconst 0, 1) := by decide +kernel
theorem dX10_partOf_10 : decode (dc DX10_partOf) 10 = .ok (.ireturn, 1) := by decide +kernel
theorem dX10_partOf_11 : decode (dc DX10_partOf) 11 = .ok (.aload_n 0, 1) := by decide +kernel
theorem dX10_partOf_12 : decode (dc DX10_partOf) 12 = .ok (.invokevirtual 359, 3) := by decide +kernel
theorem dX10_partOf_15 : decode (dc DX10_partOf) 15 = .ok (.aload_n 0, 1) := by decide +kernel
theorem dX10_partOf_16 : decode (dc DX10_partOf) 16 = .ok (.getfield 57, 3) := by decide +kernel
theorem dX10_partOf_19 : decode (dc DX10_partOf) 19 = .ok (.iload_n 1, 1) := by decide +kernel
theorem dX10_partOf_20 : decode (dc DX10_partOf) 20 = .ok (.iaload, 1) := by decide +kernel
theorem dX10_partOf_21 : decode (dc DX10_partOf) 21 = .ok (.iload_n 2, 1) := by decide +kernel
theorem dX10_partOf_22 : decode (dc DX10_partOf) 22 = .ok (.invokestatic 182, 3) := by decide +kernel
theorem dX10_partOf_25 : decode (dc DX10_partOf) 25 = .ok (.ifCond .eq 7, 3) := by decide +kernel
theorem dX10_partOf_28 : decode (dc DX10_partOf) 28 = .ok (.iconst 1, 1) := by decide +kernel
theorem dX10_partOf_29 : decode (dc DX10_partOf) 29 = .ok (.goto 21, 3) := by decide +kernel
theorem dX10_partOf_32 : decode (dc DX10_partOf) 32 = .ok (.aload_n 0, 1) := by decide +kernel
theorem dX10_partOf_33 : decode (dc DX10_partOf) 33 = .ok (.getfield 60, 3) := by decide +kernel
theorem dX10_partOf_36 : decode (dc DX10_partOf) 36 = .ok (.iload_n 1, 1) := by decide +kernel
theorem dX10_partOf_37 : decode (dc DX10_partOf) 37 = .ok (.iaload, 1) := by decide +kernel
theorem dX10_partOf_38 : decode (dc DX10_partOf) 38 = .ok (.iload_n 2, 1) := by decide +kernel
theorem dX10_partOf_39 : decode (dc DX10_partOf) 39 = .ok (.invokestatic 182, 3) := by decide +kernel
theorem dX10_partOf_42 : decode (dc DX10_partOf) 42 = .ok (.ifCond .eq 7, 3) := by decide +kernel
theorem dX10_partOf_45 : decode (dc DX10_partOf) 45 = .ok (.iconst 2, 1) := by decide +kernel
theorem dX10_partOf_46 : decode (dc DX10_partOf) 46 = .ok (.goto 4, 3) := by decide +kernel
theorem dX10_partOf_49 : decode (dc DX10_partOf) 49 = .ok (.iconst 3, 1) := by decide +kernel
theorem dX10_partOf_50 : decode (dc DX10_partOf) 50 = .ok (.ireturn, 1) := by decide +kernel
theorem dX10_of_0 : decode (dc DX10_of) 0 = .ok (.aload_n 0, 1) := by decide +kernel
theorem dX10_of_1 : decode (dc DX10_of) 1 = .ok (.iconst 0, 1) := by decide +kernel
theorem dX10_of_2 : decode (dc DX10_of) 2 = .ok (.putfield 82, 3) := by decide +kernel
theorem dX10_of_5 : decode (dc DX10_of) 5 = .ok (.aload_n 0, 1) := by decide +kernel
theorem dX10_of_6 : decode (dc DX10_of) 6 = .ok (.aload_n 0, 1) := by decide +kernel
theorem dX10_of_7 : decode (dc DX10_of) 7 = .ok (.iload_n 1, 1) := by decide +kernel
theorem dX10_of_8 : decode (dc DX10_of) 8 = .ok (.iload_n 2, 1) := by decide +kernel
theorem dX10_of_9 : decode (dc DX10_of) 9 = .ok (.invokevirtual 282, 3) := by decide +kernel
theorem dX10_of_12 : decode (dc DX10_of) 12 = .ok (.ifCond .ne 7, 3) := by decide +kernel
theorem dX10_of_15 : decode (dc DX10_of) 15 = .ok (.iconst 1, 1) := by decide +kernel
theorem dX10_of_16 : decode (dc DX10_of) 16 = .ok (.goto 4, 3) := by decide +kernel
theorem dX10_of_19 : decode (dc DX10_of) 19 = .ok (.iconst 0, 1) := by decide +kernel
theorem dX10_of_20 : decode (dc DX10_of) 20 = .ok (.iconst 1, 1) := by decide +kernel
theorem dX10_of_21 : decode (dc DX10_of) 21 = .ok (.iconst 0, 1) := by decide +kernel
theorem dX10_of_22 : decode (dc DX10_of) 22 = .ok (.invokevirtual 217, 3) := by decide +kernel
theorem dX10_of_25 : decode (dc DX10_of) 25 = .ok (.ifCond .ne 26, 3) := by decide +kernel
theorem dX10_of_28 : decode (dc DX10_of) 28 = .ok (.aload_n 0, 1) := by decide +kernel
theorem dX10_of_29 : decode (dc DX10_of) 29 = .ok (.iload_n 3, 1) := by decide +kernel
theorem dX10_of_30 : decode (dc DX10_of) 30 = .ok (.iconst 0, 1) := by decide +kernel
theorem dX10_of_31 : decode (dc DX10_of) 31 = .ok (.iconst 2, 1) := by decide +kernel
theorem dX10_of_32 : decode (dc DX10_of) 32 = .ok (.invokestatic 127, 3) := by decide +kernel
theorem dX10_of_35 : decode (dc DX10_of) 35 = .ok (.ifCond .ne 7, 3) := by decide +kernel
theorem dX10_of_38 : decode (dc DX10_of) 38 = .ok (.iconst 1, 1) := by decide +kernel
theorem dX10_of_39 : decode (dc DX10_of) 39 = .ok (.goto 4, 3) := by decide +kernel
theorem dX10_of_42 : decode (dc DX10_of) 42 = .ok (.iconst 0, 1) := by decide +kernel
theorem dX10_of_43 : decode (dc DX10_of) 43 = .ok (.iconst 2, 1) := by decide +kernel
theorem dX10_of_44 : decode (dc DX10_of) 44 = .ok (.iconst 1, 1) := by decide +kernel
theorem dX10_of_45 : decode (dc DX10_of) 45 = .ok (.invokevirtual 217, 3) := by decide +kernel
theorem dX10_of_48 : decode (dc DX10_of) 48 = .ok (.ifCond .eq 5, 3) := by decide +kernel
theorem dX10_of_51 : decode (dc DX10_of) 51 = .ok (.iconst 0, 1) := by decide +kernel
theorem dX10_of_52 : decode (dc DX10_of) 52 = .ok (.ireturn, 1) := by decide +kernel
theorem dX10_of_53 : decode (dc DX10_of) 53 = .ok (.iload_n 3, 1) := by decide +kernel
theorem dX10_of_54 : decode (dc DX10_of) 54 = .ok (.ifCond .ne 24, 3) := by decide +kernel
theorem dX10_of_57 : decode (dc DX10_of) 57 = .ok (.aload_n 0, 1) := by decide +kernel
theorem dX10_of_58 : decode (dc DX10_of) 58 = .ok (.iload_n 1, 1) := by decide +kernel
theorem dX10_of_59 : decode (dc DX10_of) 59 = .ok (.iload_n 2, 1) := by decide +kernel
theorem dX10_of_60 : decode (dc DX10_of) 60 = .ok (.invokevirtual 362, 3) := by decide +kernel
theorem dX10_of_63 : decode (dc DX10_of) 63 = .ok (.aload_n 0, 1) := by decide +kernel
theorem dX10_of_64 : decode (dc DX10_of) 64 = .ok (.invokevirtual 327, 3) := by decide +kernel
theorem dX10_of_67 : decode (dc DX10_of) 67 = .ok (.if_icmp .ge 7, 3) := by decide +kernel
theorem dX10_of_70 : decode (dc DX10_of) 70 = .ok (.iconst 1, 1) := by decide +kernel
theorem dX10_of_71 : decode (dc DX10_of) 71 = .ok (.goto 27, 3) := by decide +kernel
theorem dX10_of_74 : decode (dc DX10_of) 74 = .ok (.iconst 0, 1) := by decide +kernel
theorem dX10_of_75 : decode (dc DX10_of) 75 = .ok (.goto 23, 3) := by decide +kernel
theorem dX10_of_78 : decode (dc DX10_of) 78 = .ok (.iload_n 3, 1) := by decide +kernel
theorem dX10_of_79 : decode (dc DX10_of) 79 = .ok (.iconst 1, 1) := by decide +kernel
theorem dX10_of_80 : decode (dc DX10_of) 80 = .ok (.if_icmp .ne 12, 3) := by decide +kernel
theorem dX10_of_83 : decode (dc DX10_of) 83 = .ok (.aload_n 0, 1) := by decide +kernel
theorem dX10_of_84 : decode (dc DX10_of) 84 = .ok (.iload_n 1, 1) := by decide +kernel
theorem dX10_of_85 : decode (dc DX10_of) 85 = .ok (.iload_n 2, 1) := by decide +kernel
theorem dX10_of_86 : decode (dc DX10_of) 86 = .ok (.invokevirtual 362, 3) := by decide +kernel
theorem dX10_of_89 : decode (dc DX10_of) 89 = .ok (.goto 9, 3) := by decide +kernel
theorem dX10_of_92 : decode (dc DX10_of) 92 = .ok (.aload_n 0, 1) := by decide +kernel
theorem dX10_of_93 : decode (dc DX10_of) 93 = .ok (.iload_n 1, 1) := by decide +kernel
theorem dX10_of_94 : decode (dc DX10_of) 94 = .ok (.iload_n 2, 1) := by decide +kernel
theorem dX10_of_95 : decode (dc DX10_of) 95 = .ok (.invokevirtual 365, 3) := by decide +kernel
theorem dX10_of_98 : decode (dc DX10_of) 98 = .ok (.ireturn, 1) := by decide +kernel
theorem dX10_nuBut_0 : decode (dc DX10_nuBut) 0 = .ok (.aload_n 0, 1) := by decide +kernel
theorem dX10_nuBut_1 : decode (dc DX10_nuBut) 1 = .ok (.getfield 25, 3) := by decide +kernel
theorem dX10_nuBut_4 : decode (dc DX10_nuBut) 4 = .ok (.iconst 0, 1) := by decide +kernel
theorem dX10_nuBut_5 : decode (dc DX10_nuBut) 5 = .ok (.aaload, 1) := by decide +kernel
theorem dX10_nuBut_6 : decode (dc DX10_nuBut) 6 = .ok (.iload_n 1, 1) := by decide +kernel
theorem dX10_nuBut_7 : decode (dc DX10_nuBut) 7 = .ok (.dup2, 1) := by decide +kernel
theorem dX10_nuBut_8 : decode (dc DX10_nuBut) 8 = .ok (.iaload, 1) := by decide +kernel
theorem dX10_nuBut_9 : decode (dc DX10_nuBut) 9 = .ok (.iconst 1, 1) := by decide +kernel
theorem dX10_nuBut_10 : decode (dc DX10_nuBut) 10 = .ok (.iload_n 2, 1) := by decide +kernel
theorem dX10_nuBut_11 : decode (dc DX10_nuBut) 11 = .ok (.ishl, 1) := by decide +kernel
theorem dX10_nuBut_12 : decode (dc DX10_nuBut) 12 = .ok (.iconst (-1), 1) := by decide +kernel
theorem dX10_nuBut_13 : decode (dc DX10_nuBut) 13 = .ok (.ixor, 1) := by decide +kernel
theorem dX10_nuBut_14 : decode (dc DX10_nuBut) 14 = .ok (.iand, 1) := by decide +kernel
theorem dX10_nuBut_15 : decode (dc DX10_nuBut) 15 = .ok (.iastore, 1) := by decide +kernel
theorem dX10_nuBut_16 : decode (dc DX10_nuBut) 16 = .ok (.aload_n 0, 1) := by decide +kernel
theorem dX10_nuBut_17 : decode (dc DX10_nuBut) 17 = .ok (.invokevirtual 327, 3) := by decide +kernel
theorem dX10_nuBut_20 : decode (dc DX10_nuBut) 20 = .ok (.istore_n 3, 1) := by decide +kernel
theorem dX10_nuBut_21 : decode (dc DX10_nuBut) 21 = .ok (.aload_n 0, 1) := by decide +kernel
theorem dX10_nuBut_22 : decode (dc DX10_nuBut) 22 = .ok (.getfield 25, 3) := by decide +kernel
theorem dX10_nuBut_25 : decode (dc DX10_nuBut) 25 = .ok (.iconst 0, 1) := by decide +kernel
theorem dX10_nuBut_26 : decode (dc DX10_nuBut) 26 = .ok (.aaload, 1) := by decide +kernel
theorem dX10_nuBut_27 : decode (dc DX10_nuBut) 27 = .ok (.iload_n 1, 1) := by decide +kernel
theorem dX10_nuBut_28 : decode (dc DX10_nuBut) 28 = .ok (.dup2, 1) := by decide +kernel
theorem dX10_nuBut_29 : decode (dc DX10_nuBut) 29 = .ok (.iaload, 1) := by decide +kernel
theorem dX10_nuBut_30 : decode (dc DX10_nuBut) 30 = .ok (.iconst 1, 1) := by decide +kernel
theorem dX10_nuBut_31 : decode (dc DX10_nuBut) 31 = .ok (.iload_n 2, 1) := by decide +kernel
theorem dX10_nuBut_32 : decode (dc DX10_nuBut) 32 = .ok (.ishl, 1) := by decide +kernel
theorem dX10_nuBut_33 : decode (dc DX10_nuBut) 33 = .ok (.ior, 1) := by decide +kernel
theorem dX10_nuBut_34 : decode (dc DX10_nuBut) 34 = .ok (.iastore, 1) := by decide +kernel
theorem dX10_nuBut_35 : decode (dc DX10_nuBut) 35 = .ok (.iload_n 3, 1) := by decide +kernel
theorem dX10_nuBut_36 : decode (dc DX10_nuBut) 36 = .ok (.ireturn, 1) := by decide +kernel
theorem dX10_fitOf_0 : decode (dc DX10_fitOf) 0 = .ok (.aload_n 0, 1) := by decide +kernel
theorem dX10_fitOf_1 : decode (dc DX10_fitOf) 1 = .ok (.iload_n 1, 1) := by decide +kernel
theorem dX10_fitOf_2 : decode (dc DX10_fitOf) 2 = .ok (.iload_n 2, 1) := by decide +kernel
theorem dX10_fitOf_3 : decode (dc DX10_fitOf) 3 = .ok (.invokevirtual 285, 3) := by decide +kernel
theorem dX10_fitOf_6 : decode (dc DX10_fitOf) 6 = .ok (.ifCond .ne 5, 3) := by decide +kernel
theorem dX10_fitOf_9 : decode (dc DX10_fitOf) 9 = .ok (.iconst 0, 1) := by decide +kernel
theorem dX10_fitOf_10 : decode (dc DX10_fitOf) 10 = .ok (.ireturn, 1) := by decide +kernel
theorem dX10_fitOf_11 : decode (dc DX10_fitOf) 11 = .ok (.aload_n 0, 1) := by decide +kernel
theorem dX10_fitOf_12 : decode (dc DX10_fitOf) 12 = .ok (.iconst 0, 1) := by decide +kernel
theorem dX10_fitOf_13 : decode (dc DX10_fitOf) 13 = .ok (.iload_n 1, 1) := by decide +kernel
theorem dX10_fitOf_14 : decode (dc DX10_fitOf) 14 = .ok (.invokevirtual 240, 3) := by decide +kernel
theorem dX10_fitOf_17 : decode (dc DX10_fitOf) 17 = .ok (.ifCond .eq 12, 3) := by decide +kernel
theorem dX10_fitOf_20 : decode (dc DX10_fitOf) 20 = .ok (.aload_n 0, 1) := by decide +kernel
theorem dX10_fitOf_21 : decode (dc DX10_fitOf) 21 = .ok (.iconst 1, 1) := by decide +kernel
theorem dX10_fitOf_22 : decode (dc DX10_fitOf) 22 = .ok (.iload_n 2, 1) := by decide +kernel
theorem dX10_fitOf_23 : decode (dc DX10_fitOf) 23 = .ok (.invokevirtual 240, 3) := by decide +kernel
theorem dX10_fitOf_26 : decode (dc DX10_fitOf) 26 = .ok (.ifCond .ne 5, 3) := by decide +kernel
theorem dX10_fitOf_29 : decode (dc DX10_fitOf) 29 = .ok (.iconst 1, 1) := by decide +kernel
theorem dX10_fitOf_30 : decode (dc DX10_fitOf) 30 = .ok (.ireturn, 1) := by decide +kernel
theorem dX10_fitOf_31 : decode (dc DX10_fitOf) 31 = .ok (.aload_n 0, 1) := by decide +kernel
theorem dX10_fitOf_32 : decode (dc DX10_fitOf) 32 = .ok (.invokevirtual 327, 3) := by decide +kernel
theorem dX10_fitOf_35 : decode (dc DX10_fitOf) 35 = .ok (.istore_n 3, 1) := by decide +kernel
theorem dX10_fitOf_36 : decode (dc DX10_fitOf) 36 = .ok (.aload_n 0, 1) := by decide +kernel
theorem dX10_fitOf_37 : decode (dc DX10_fitOf) 37 = .ok (.iload_n 1, 1) := by decide +kernel
theorem dX10_fitOf_38 : decode (dc DX10_fitOf) 38 = .ok (.iload_n 2, 1) := by decide +kernel
theorem dX10_fitOf_39 : decode (dc DX10_fitOf) 39 = .ok (.invokevirtual 368, 3) := by decide +kernel
theorem dX10_fitOf_42 : decode (dc DX10_fitOf) 42 = .ok (.iload_n 3, 1) := by decide +kernel
theorem dX10_fitOf_43 : decode (dc DX10_fitOf) 43 = .ok (.if_icmp .ge 5, 3) := by decide +kernel
theorem dX10_fitOf_46 : decode (dc DX10_fitOf) 46 = .ok (.iconst 3, 1) := by decide +kernel
theorem dX10_fitOf_47 : decode (dc DX10_fitOf) 47 = .ok (.ireturn, 1) := by decide +kernel
theorem dX10_fitOf_48 : decode (dc DX10_fitOf) 48 = .ok (.aload_n 0, 1) := by decide +kernel
theorem dX10_fitOf_49 : decode (dc DX10_fitOf) 49 = .ok (.getfield 22, 3) := by decide +kernel
theorem dX10_fitOf_52 : decode (dc DX10_fitOf) 52 = .ok (.iconst 0, 1) := by decide +kernel
theorem dX10_fitOf_53 : decode (dc DX10_fitOf) 53 = .ok (.aaload, 1) := by decide +kernel
theorem dX10_fitOf_54 : decode (dc DX10_fitOf) 54 = .ok (.iconst 3, 1) := by decide +kernel
theorem dX10_fitOf_55 : decode (dc DX10_fitOf) 55 = .ok (.iaload, 1) := by decide +kernel
theorem dX10_fitOf_56 : decode (dc DX10_fitOf) 56 = .ok (.istore 4, 2) := by decide +kernel
theorem dX10_fitOf_58 : decode (dc DX10_fitOf) 58 = .ok (.aload_n 0, 1) := by decide +kernel
theorem dX10_fitOf_59 : decode (dc DX10_fitOf) 59 = .ok (.getfield 22, 3) := by decide +kernel
theorem dX10_fitOf_62 : decode (dc DX10_fitOf) 62 = .ok (.iconst 0, 1) := by decide +kernel
theorem dX10_fitOf_63 : decode (dc DX10_fitOf) 63 = .ok (.aaload, 1) := by decide +kernel
theorem dX10_fitOf_64 : decode (dc DX10_fitOf) 64 = .ok (.iconst 3, 1) := by decide +kernel
theorem dX10_fitOf_65 : decode (dc DX10_fitOf) 65 = .ok (.dup2, 1) := by decide +kernel
theorem dX10_fitOf_66 : decode (dc DX10_fitOf) 66 = .ok (.iaload, 1) := by decide +kernel
theorem dX10_fitOf_67 : decode (dc DX10_fitOf) 67 = .ok (.iconst 1, 1) := by decide +kernel
theorem dX10_fitOf_68 : decode (dc DX10_fitOf) 68 = .ok (.iload_n 1, 1) := by decide +kernel
theorem dX10_fitOf_69 : decode (dc DX10_fitOf) 69 = .ok (.ishl, 1) := by decide +kernel
theorem dX10_fitOf_70 : decode (dc DX10_fitOf) 70 = .ok (.iconst (-1), 1) := by decide +kernel
theorem dX10_fitOf_71 : decode (dc DX10_fitOf) 71 = .ok (.ixor, 1) := by decide +kernel
theorem dX10_fitOf_72 : decode (dc DX10_fitOf) 72 = .ok (.iand, 1) := by decide +kernel
theorem dX10_fitOf_73 : decode (dc DX10_fitOf) 73 = .ok (.iastore, 1) := by decide +kernel
theorem dX10_fitOf_74 : decode (dc DX10_fitOf) 74 = .ok (.aload_n 0, 1) := by decide +kernel
theorem dX10_fitOf_75 : decode (dc DX10_fitOf) 75 = .ok (.iconst 1, 1) := by decide +kernel
theorem dX10_fitOf_76 : decode (dc DX10_fitOf) 76 = .ok (.iload_n 2, 1) := by decide +kernel
theorem dX10_fitOf_77 : decode (dc DX10_fitOf) 77 = .ok (.invokevirtual 362, 3) := by decide +kernel
theorem dX10_fitOf_80 : decode (dc DX10_fitOf) 80 = .ok (.istore 5, 2) := by decide +kernel
theorem dX10_fitOf_82 : decode (dc DX10_fitOf) 82 = .ok (.aload_n 0, 1) := by decide +kernel
theorem dX10_fitOf_83 : decode (dc DX10_fitOf) 83 = .ok (.getfield 22, 3) := by decide +kernel
theorem dX10_fitOf_86 : decode (dc DX10_fitOf) 86 = .ok (.iconst 0, 1) := by decide +kernel
theorem dX10_fitOf_87 : decode (dc DX10_fitOf) 87 = .ok (.aaload, 1) := by decide +kernel
theorem dX10_fitOf_88 : decode (dc DX10_fitOf) 88 = .ok (.iconst 3, 1) := by decide +kernel
theorem dX10_fitOf_89 : decode (dc DX10_fitOf) 89 = .ok (.iload 4, 2) := by decide +kernel
theorem dX10_fitOf_91 : decode (dc DX10_fitOf) 91 = .ok (.iastore, 1) := by decide +kernel
theorem dX10_fitOf_92 : decode (dc DX10_fitOf) 92 = .ok (.iload 5, 2) := by decide +kernel
theorem dX10_fitOf_94 : decode (dc DX10_fitOf) 94 = .ok (.iconst 1, 1) := by decide +kernel
theorem dX10_fitOf_95 : decode (dc DX10_fitOf) 95 = .ok (.iadd, 1) := by decide +kernel
theorem dX10_fitOf_96 : decode (dc DX10_fitOf) 96 = .ok (.iload_n 3, 1) := by decide +kernel
theorem dX10_fitOf_97 : decode (dc DX10_fitOf) 97 = .ok (.if_icmp .ne 7, 3) := by decide +kernel
theorem dX10_fitOf_100 : decode (dc DX10_fitOf) 100 = .ok (.iconst 2, 1) := by decide +kernel
theorem dX10_fitOf_101 : decode (dc DX10_fitOf) 101 = .ok (.goto 4, 3) := by decide +kernel
theorem dX10_fitOf_104 : decode (dc DX10_fitOf) 104 = .ok (.iconst 1, 1) := by decide +kernel
theorem dX10_fitOf_105 : decode (dc DX10_fitOf) 105 = .ok (.ireturn, 1) := by decide +kernel
theorem dX10_fit_0 : decode (dc DX10_fit) 0 = .ok (.aload_n 0, 1) := by decide +kernel
theorem dX10_fit_1 : decode (dc DX10_fit) 1 = .ok (.iconst 0, 1) := by decide +kernel
theorem dX10_fit_2 : decode (dc DX10_fit) 2 = .ok (.putfield 82, 3) := by decide +kernel
theorem dX10_fit_5 : decode (dc DX10_fit) 5 = .ok (.aload_n 0, 1) := by decide +kernel
theorem dX10_fit_6 : decode (dc DX10_fit) 6 = .ok (.aload_n 0, 1) := by decide +kernel
theorem dX10_fit_7 : decode (dc DX10_fit) 7 = .ok (.iconst 0, 1) := by decide +kernel
theorem dX10_fit_8 : decode (dc DX10_fit) 8 = .ok (.iload_n 1, 1) := by decide +kernel
theorem dX10_fit_9 : decode (dc DX10_fit) 9 = .ok (.invokevirtual 282, 3) := by decide +kernel
theorem dX10_fit_12 : decode (dc DX10_fit) 12 = .ok (.ifCond .eq 12, 3) := by decide +kernel
theorem dX10_fit_15 : decode (dc DX10_fit) 15 = .ok (.aload_n 0, 1) := by decide +kernel
theorem dX10_fit_16 : decode (dc DX10_fit) 16 = .ok (.iconst 1, 1) := by decide +kernel
theorem dX10_fit_17 : decode (dc DX10_fit) 17 = .ok (.iload_n 2, 1) := by decide +kernel
theorem dX10_fit_18 : decode (dc DX10_fit) 18 = .ok (.invokevirtual 282, 3) := by decide +kernel
theorem dX10_fit_21 : decode (dc DX10_fit) 21 = .ok (.ifCond .ne 7, 3) := by decide +kernel
theorem dX10_fit_24 : decode (dc DX10_fit) 24 = .ok (.iconst 1, 1) := by decide +kernel
theorem dX10_fit_25 : decode (dc DX10_fit) 25 = .ok (.goto 4, 3) := by decide +kernel
theorem dX10_fit_28 : decode (dc DX10_fit) 28 = .ok (.iconst 0, 1) := by decide +kernel
theorem dX10_fit_29 : decode (dc DX10_fit) 29 = .ok (.iconst 1, 1) := by decide +kernel
theorem dX10_fit_30 : decode (dc DX10_fit) 30 = .ok (.iconst 0, 1) := by decide +kernel
theorem dX10_fit_31 : decode (dc DX10_fit) 31 = .ok (.invokevirtual 217, 3) := by decide +kernel
theorem dX10_fit_34 : decode (dc DX10_fit) 34 = .ok (.ifCond .eq 5, 3) := by decide +kernel
theorem dX10_fit_37 : decode (dc DX10_fit) 37 = .ok (.iconst 0, 1) := by decide +kernel
theorem dX10_fit_38 : decode (dc DX10_fit) 38 = .ok (.ireturn, 1) := by decide +kernel
theorem dX10_fit_39 : decode (dc DX10_fit) 39 = .ok (.aload_n 0, 1) := by decide +kernel
theorem dX10_fit_40 : decode (dc DX10_fit) 40 = .ok (.iload_n 1, 1) := by decide +kernel
theorem dX10_fit_41 : decode (dc DX10_fit) 41 = .ok (.iload_n 2, 1) := by decide +kernel
theorem dX10_fit_42 : decode (dc DX10_fit) 42 = .ok (.invokevirtual 371, 3) := by decide +kernel
theorem dX10_fit_45 : decode (dc DX10_fit) 45 = .ok (.ireturn, 1) := by decide +kernel
theorem dX10_fitMany_0 : decode (dc DX10_fitMany) 0 = .ok (.aload_n 0, 1) := by decide +kernel
theorem dX10_fitMany_1 : decode (dc DX10_fitMany) 1 = .ok (.iconst 0, 1) := by decide +kernel
theorem dX10_fitMany_2 : decode (dc DX10_fitMany) 2 = .ok (.putfield 82, 3) := by decide +kernel
theorem dX10_fitMany_5 : decode (dc DX10_fitMany) 5 = .ok (.aload_n 0, 1) := by decide +kernel
theorem dX10_fitMany_6 : decode (dc DX10_fitMany) 6 = .ok (.iload_n 1, 1) := by decide +kernel
theorem dX10_fitMany_7 : decode (dc DX10_fitMany) 7 = .ok (.iconst 1, 1) := by decide +kernel
theorem dX10_fitMany_8 : decode (dc DX10_fitMany) 8 = .ok (.iconst 3, 1) := by decide +kernel
theorem dX10_fitMany_9 : decode (dc DX10_fitMany) 9 = .ok (.invokestatic 127, 3) := by decide +kernel
theorem dX10_fitMany_12 : decode (dc DX10_fitMany) 12 = .ok (.ifCond .ne 7, 3) := by decide +kernel
theorem dX10_fitMany_15 : decode (dc DX10_fitMany) 15 = .ok (.iconst 1, 1) := by decide +kernel
theorem dX10_fitMany_16 : decode (dc DX10_fitMany) 16 = .ok (.goto 4, 3) := by decide +kernel
theorem dX10_fitMany_19 : decode (dc DX10_fitMany) 19 = .ok (.iconst 0, 1) := by decide +kernel
theorem dX10_fitMany_20 : decode (dc DX10_fitMany) 20 = .ok (.iconst 1, 1) := by decide +kernel
theorem dX10_fitMany_21 : decode (dc DX10_fitMany) 21 = .ok (.iconst 1, 1) := by decide +kernel
theorem dX10_fitMany_22 : decode (dc DX10_fitMany) 22 = .ok (.invokevirtual 217, 3) := by decide +kernel
theorem dX10_fitMany_25 : decode (dc DX10_fitMany) 25 = .ok (.ifCond .eq 5, 3) := by decide +kernel
theorem dX10_fitMany_28 : decode (dc DX10_fitMany) 28 = .ok (.iconst 0, 1) := by decide +kernel
theorem dX10_fitMany_29 : decode (dc DX10_fitMany) 29 = .ok (.ireturn, 1) := by decide +kernel
theorem dX10_fitMany_30 : decode (dc DX10_fitMany) 30 = .ok (.iconst 0, 1) := by decide +kernel
theorem dX10_fitMany_31 : decode (dc DX10_fitMany) 31 = .ok (.istore_n 2, 1) := by decide +kernel
theorem dX10_fitMany_32 : decode (dc DX10_fitMany) 32 = .ok (.iconst 0, 1) := by decide +kernel
theorem dX10_fitMany_33 : decode (dc DX10_fitMany) 33 = .ok (.istore_n 3, 1) := by decide +kernel
theorem dX10_fitMany_34 : decode (dc DX10_fitMany) 34 = .ok (.iload_n 3, 1) := by decide +kernel
theorem dX10_fitMany_35 : decode (dc DX10_fitMany) 35 = .ok (.aload_n 0, 1) := by decide +kernel
theorem dX10_fitMany_36 : decode (dc DX10_fitMany) 36 = .ok (.getfield 22, 3) := by decide +kernel
theorem dX10_fitMany_39 : decode (dc DX10_fitMany) 39 = .ok (.iconst 0, 1) := by decide +kernel
theorem dX10_fitMany_40 : decode (dc DX10_fitMany) 40 = .ok (.aaload, 1) := by decide +kernel
theorem dX10_fitMany_41 : decode (dc DX10_fitMany) 41 = .ok (.iconst 0, 1) := by decide +kernel
theorem dX10_fitMany_42 : decode (dc DX10_fitMany) 42 = .ok (.iaload, 1) := by decide +kernel
theorem dX10_fitMany_43 : decode (dc DX10_fitMany) 43 = .ok (.if_icmp .ge 50, 3) := by decide +kernel
theorem dX10_fitMany_46 : decode (dc DX10_fitMany) 46 = .ok (.iconst 0, 1) := by decide +kernel
theorem dX10_fitMany_47 : decode (dc DX10_fitMany) 47 = .ok (.istore 4, 2) := by decide +kernel
theorem dX10_fitMany_49 : decode (dc DX10_fitMany) 49 = .ok (.iload 4, 2) := by decide +kernel
theorem dX10_fitMany_51 : decode (dc DX10_fitMany) 51 = .ok (.aload_n 0, 1) := by decide +kernel
theorem dX10_fitMany_52 : decode (dc DX10_fitMany) 52 = .ok (.getfield 22, 3) := by decide +kernel
theorem dX10_fitMany_55 : decode (dc DX10_fitMany) 55 = .ok (.iconst 0, 1) := by decide +kernel
theorem dX10_fitMany_56 : decode (dc DX10_fitMany) 56 = .ok (.aaload, 1) := by decide +kernel
theorem dX10_fitMany_57 : decode (dc DX10_fitMany) 57 = .ok (.iconst 1, 1) := by decide +kernel
theorem dX10_fitMany_58 : decode (dc DX10_fitMany) 58 = .ok (.iaload, 1) := by decide +kernel
theorem dX10_fitMany_59 : decode (dc DX10_fitMany) 59 = .ok (.if_icmp .ge 28, 3) := by decide +kernel
theorem dX10_fitMany_62 : decode (dc DX10_fitMany) 62 = .ok (.iload_n 2, 1) := by decide +kernel
theorem dX10_fitMany_63 : decode (dc DX10_fitMany) 63 = .ok (.aload_n 0, 1) := by decide +kernel
theorem dX10_fitMany_64 : decode (dc DX10_fitMany) 64 = .ok (.iload_n 3, 1) := by decide +kernel
theorem dX10_fitMany_65 : decode (dc DX10_fitMany) 65 = .ok (.iload 4, 2) := by decide +kernel
theorem dX10_fitMany_67 : decode (dc DX10_fitMany) 67 = .ok (.invokevirtual 371, 3) := by decide +kernel
theorem dX10_fitMany_70 : decode (dc DX10_fitMany) 70 = .ok (.iload_n 1, 1) := by decide +kernel
theorem dX10_fitMany_71 : decode (dc DX10_fitMany) 71 = .ok (.if_icmp .ne 7, 3) := by decide +kernel
theorem dX10_fitMany_74 : decode (dc DX10_fitMany) 74 = .ok (.iconst 1, 1) := by decide +kernel
theorem dX10_fitMany_75 : decode (dc DX10_fitMany) 75 = .ok (.goto 4, 3) := by decide +kernel
theorem dX10_fitMany_78 : decode (dc DX10_fitMany) 78 = .ok (.iconst 0, 1) := by decide +kernel
theorem dX10_fitMany_79 : decode (dc DX10_fitMany) 79 = .ok (.iadd, 1) := by decide +kernel
theorem dX10_fitMany_80 : decode (dc DX10_fitMany) 80 = .ok (.istore_n 2, 1) := by decide +kernel
theorem dX10_fitMany_81 : decode (dc DX10_fitMany) 81 = .ok (.iinc 4 1, 3) := by decide +kernel
theorem dX10_fitMany_84 : decode (dc DX10_fitMany) 84 = .ok (.goto (-35), 3) := by decide +kernel
theorem dX10_fitMany_87 : decode (dc DX10_fitMany) 87 = .ok (.iinc 3 1, 3) := by decide +kernel
theorem dX10_fitMany_90 : decode (dc DX10_fitMany) 90 = .ok (.goto (-56), 3) := by decide +kernel
theorem dX10_fitMany_93 : decode (dc DX10_fitMany) 93 = .ok (.iload_n 2, 1) := by decide +kernel
theorem dX10_fitMany_94 : decode (dc DX10_fitMany) 94 = .ok (.ireturn, 1) := by decide +kernel
theorem dX10_lack_0 : decode (dc DX10_lack) 0 = .ok (.aload_n 0, 1) := by decide +kernel
theorem dX10_lack_1 : decode (dc DX10_lack) 1 = .ok (.iconst 0, 1) := by decide +kernel
theorem dX10_lack_2 : decode (dc DX10_lack) 2 = .ok (.putfield 82, 3) := by decide +kernel
theorem dX10_lack_5 : decode (dc DX10_lack) 5 = .ok (.aload_n 0, 1) := by decide +kernel
theorem dX10_lack_6 : decode (dc DX10_lack) 6 = .ok (.iload_n 1, 1) := by decide +kernel
theorem dX10_lack_7 : decode (dc DX10_lack) 7 = .ok (.iconst 0, 1) := by decide +kernel
theorem dX10_lack_8 : decode (dc DX10_lack) 8 = .ok (.iconst 1, 1) := by decide +kernel
theorem dX10_lack_9 : decode (dc DX10_lack) 9 = .ok (.aload_n 0, 1) := by decide +kernel
theorem dX10_lack_10 : decode (dc DX10_lack) 10 = .ok (.getfield 22, 3) := by decide +kernel
theorem dX10_lack_13 : decode (dc DX10_lack) 13 = .ok (.iconst 0, 1) := by decide +kernel
theorem dX10_lack_14 : decode (dc DX10_lack) 14 = .ok (.aaload, 1) := by decide +kernel
theorem dX10_lack_15 : decode (dc DX10_lack) 15 = .ok (.iconst 0, 1) := by decide +kernel
theorem dX10_lack_16 : decode (dc DX10_lack) 16 = .ok (.iaload, 1) := by decide +kernel
theorem dX10_lack_17 : decode (dc DX10_lack) 17 = .ok (.ishl, 1) := by decide +kernel
theorem dX10_lack_18 : decode (dc DX10_lack) 18 = .ok (.iconst 1, 1) := by decide +kernel
theorem dX10_lack_19 : decode (dc DX10_lack) 19 = .ok (.isub, 1) := by decide +kernel
theorem dX10_lack_20 : decode (dc DX10_lack) 20 = .ok (.invokestatic 127, 3) := by decide +kernel
theorem dX10_lack_23 : decode (dc DX10_lack) 23 = .ok (.ifCond .ne 7, 3) := by decide +kernel
theorem dX10_lack_26 : decode (dc DX10_lack) 26 = .ok (.iconst 1, 1) := by decide +kernel
theorem dX10_lack_27 : decode (dc DX10_lack) 27 = .ok (.goto 4, 3) := by decide +kernel
theorem dX10_lack_30 : decode (dc DX10_lack) 30 = .ok (.iconst 0, 1) := by decide +kernel
theorem dX10_lack_31 : decode (dc DX10_lack) 31 = .ok (.iconst 1, 1) := by decide +kernel
theorem dX10_lack_32 : decode (dc DX10_lack) 32 = .ok (.iconst 1, 1) := by decide +kernel
theorem dX10_lack_33 : decode (dc DX10_lack) 33 = .ok (.invokevirtual 217, 3) := by decide +kernel
theorem dX10_lack_36 : decode (dc DX10_lack) 36 = .ok (.ifCond .eq 5, 3) := by decide +kernel
theorem dX10_lack_39 : decode (dc DX10_lack) 39 = .ok (.iconst 0, 1) := by decide +kernel
theorem dX10_lack_40 : decode (dc DX10_lack) 40 = .ok (.ireturn, 1) := by decide +kernel
theorem dX10_lack_41 : decode (dc DX10_lack) 41 = .ok (.iconst 0, 1) := by decide +kernel
theorem dX10_lack_42 : decode (dc DX10_lack) 42 = .ok (.istore_n 2, 1) := by decide +kernel
theorem dX10_lack_43 : decode (dc DX10_lack) 43 = .ok (.iload_n 1, 1) := by decide +kernel
theorem dX10_lack_44 : decode (dc DX10_lack) 44 = .ok (.aload_n 0, 1) := by decide +kernel
theorem dX10_lack_45 : decode (dc DX10_lack) 45 = .ok (.getfield 22, 3) := by decide +kernel
theorem dX10_lack_48 : decode (dc DX10_lack) 48 = .ok (.iconst 0, 1) := by decide +kernel
theorem dX10_lack_49 : decode (dc DX10_lack) 49 = .ok (.aaload, 1) := by decide +kernel
theorem dX10_lack_50 : decode (dc DX10_lack) 50 = .ok (.iconst 3, 1) := by decide +kernel
theorem dX10_lack_51 : decode (dc DX10_lack) 51 = .ok (.iaload, 1) := by decide +kernel
theorem dX10_lack_52 : decode (dc DX10_lack) 52 = .ok (.iand, 1) := by decide +kernel
theorem dX10_lack_53 : decode (dc DX10_lack) 53 = .ok (.istore_n 3, 1) := by decide +kernel
theorem dX10_lack_54 : decode (dc DX10_lack) 54 = .ok (.iconst 0, 1) := by decide +kernel
theorem dX10_lack_55 : decode (dc DX10_lack) 55 = .ok (.istore 4, 2) := by decide +kernel
theorem dX10_lack_57 : decode (dc DX10_lack) 57 = .ok (.iload 4, 2) := by decide +kernel
theorem dX10_lack_59 : decode (dc DX10_lack) 59 = .ok (.bipush 12, 2) := by decide +kernel
theorem dX10_lack_61 : decode (dc DX10_lack) 61 = .ok (.if_icmp .ge 43, 3) := by decide +kernel
theorem dX10_lack_64 : decode (dc DX10_lack) 64 = .ok (.iload_n 2, 1) := by decide +kernel
theorem dX10_lack_65 : decode (dc DX10_lack) 65 = .ok (.iload_n 3, 1) := by decide +kernel
theorem dX10_lack_66 : decode (dc DX10_lack) 66 = .ok (.iload 4, 2) := by decide +kernel
theorem dX10_lack_68 : decode (dc DX10_lack) 68 = .ok (.invokestatic 182, 3) := by decide +kernel
theorem dX10_lack_71 : decode (dc DX10_lack) 71 = .ok (.ifCond .eq 24, 3) := by decide +kernel
theorem dX10_lack_74 : decode (dc DX10_lack) 74 = .ok (.aload_n 0, 1) := by decide +kernel
theorem dX10_lack_75 : decode (dc DX10_lack) 75 = .ok (.getfield 25, 3) := by decide +kernel
theorem dX10_lack_78 : decode (dc DX10_lack) 78 = .ok (.iconst 0, 1) := by decide +kernel
theorem dX10_lack_79 : decode (dc DX10_lack) 79 = .ok (.aaload, 1) := by decide +kernel
theorem dX10_lack_80 : decode (dc DX10_lack) 80 = .ok (.iload 4, 2) := by decide +kernel
theorem dX10_lack_82 : decode (dc DX10_lack) 82 = .ok (.iaload, 1) := by decide +kernel
theorem dX10_lack_83 : decode (dc DX10_lack) 83 = .ok (.aload_n 0, 1) := by decide +kernel
theorem dX10_lack_84 : decode (dc DX10_lack) 84 = .ok (.getfield 22, 3) := by decide +kernel
theorem dX10_lack_87 : decode (dc DX10_lack) 87 = .ok (.iconst 0, 1) := by decide +kernel
theorem dX10_lack_88 : decode (dc DX10_lack) 88 = .ok (.aaload, 1) := by decide +kernel
theorem dX10_lack_89 : decode (dc DX10_lack) 89 = .ok (.iconst 4, 1) := by decide +kernel
theorem dX10_lack_90 : decode (dc DX10_lack) 90 = .ok (.iaload, 1) := by decide +kernel
theorem dX10_lack_91 : decode (dc DX10_lack) 91 = .ok (.iand, 1) := by decide +kernel
theorem dX10_lack_92 : decode (dc DX10_lack) 92 = .ok (.goto 4, 3) := by decide +kernel
theorem dX10_lack_95 : decode (dc DX10_lack) 95 = .ok (.iconst 0, 1) := by decide +kernel
theorem dX10_lack_96 : decode (dc DX10_lack) 96 = .ok (.ior, 1) := by decide +kernel
theorem dX10_lack_97 : decode (dc DX10_lack) 97 = .ok (.istore_n 2, 1) := by decide +kernel
theorem dX10_lack_98 : decode (dc DX10_lack) 98 = .ok (.iinc 4 1, 3) := by decide +kernel
theorem dX10_lack_101 : decode (dc DX10_lack) 101 = .ok (.goto (-44), 3) := by decide +kernel
theorem dX10_lack_104 : decode (dc DX10_lack) 104 = .ok (.iload_n 3, 1) := by decide +kernel
theorem dX10_lack_105 : decode (dc DX10_lack) 105 = .ok (.invokestatic 270, 3) := by decide +kernel
theorem dX10_lack_108 : decode (dc DX10_lack) 108 = .ok (.iload_n 2, 1) := by decide +kernel
theorem dX10_lack_109 : decode (dc DX10_lack) 109 = .ok (.invokestatic 270, 3) := by decide +kernel
theorem dX10_lack_112 : decode (dc DX10_lack) 112 = .ok (.isub, 1) := by decide +kernel
theorem dX10_lack_113 : decode (dc DX10_lack) 113 = .ok (.ireturn, 1) := by decide +kernel
theorem dX10_hall_0 : decode (dc DX10_hall) 0 = .ok (.aload_n 0, 1) := by decide +kernel
theorem dX10_hall_1 : decode (dc DX10_hall) 1 = .ok (.iconst 0, 1) := by decide +kernel
theorem dX10_hall_2 : decode (dc DX10_hall) 2 = .ok (.putfield 82, 3) := by decide +kernel
theorem dX10_hall_5 : decode (dc DX10_hall) 5 = .ok (.aload_n 0, 1) := by decide +kernel
theorem dX10_hall_6 : decode (dc DX10_hall) 6 = .ok (.iload_n 1, 1) := by decide +kernel
theorem dX10_hall_7 : decode (dc DX10_hall) 7 = .ok (.iconst 0, 1) := by decide +kernel
theorem dX10_hall_8 : decode (dc DX10_hall) 8 = .ok (.iconst 1, 1) := by decide +kernel
theorem dX10_hall_9 : decode (dc DX10_hall) 9 = .ok (.invokestatic 127, 3) := by decide +kernel
theorem dX10_hall_12 : decode (dc DX10_hall) 12 = .ok (.ifCond .ne 7, 3) := by decide +kernel
theorem dX10_hall_15 : decode (dc DX10_hall) 15 = .ok (.iconst 1, 1) := by decide +kernel
theorem dX10_hall_16 : decode (dc DX10_hall) 16 = .ok (.goto 4, 3) := by decide +kernel
theorem dX10_hall_19 : decode (dc DX10_hall) 19 = .ok (.iconst 0, 1) := by decide +kernel
theorem dX10_hall_20 : decode (dc DX10_hall) 20 = .ok (.iconst 1, 1) := by decide +kernel
theorem dX10_hall_21 : decode (dc DX10_hall) 21 = .ok (.iconst 1, 1) := by decide +kernel
theorem dX10_hall_22 : decode (dc DX10_hall) 22 = .ok (.invokevirtual 217, 3) := by decide +kernel
theorem dX10_hall_25 : decode (dc DX10_hall) 25 = .ok (.ifCond .eq 5, 3) := by decide +kernel
theorem dX10_hall_28 : decode (dc DX10_hall) 28 = .ok (.iconst 0, 1) := by decide +kernel
theorem dX10_hall_29 : decode (dc DX10_hall) 29 = .ok (.ireturn, 1) := by decide +kernel
theorem dX10_hall_30 : decode (dc DX10_hall) 30 = .ok (.aload_n 0, 1) := by decide +kernel
theorem dX10_hall_31 : decode (dc DX10_hall) 31 = .ok (.invokevirtual 359, 3) := by decide +kernel
theorem dX10_hall_34 : decode (dc DX10_hall) 34 = .ok (.iload_n 1, 1) := by decide +kernel
theorem dX10_hall_35 : decode (dc DX10_hall) 35 = .ok (.ifCond .ne 22, 3) := by decide +kernel
theorem dX10_hall_38 : decode (dc DX10_hall) 38 = .ok (.aload_n 0, 1) := by decide +kernel
theorem dX10_hall_39 : decode (dc DX10_hall) 39 = .ok (.getfield 22, 3) := by decide +kernel
theorem dX10_hall_42 : decode (dc DX10_hall) 42 = .ok (.iconst 0, 1) := by decide +kernel
theorem dX10_hall_43 : decode (dc DX10_hall) 43 = .ok (.aaload, 1) := by decide +kernel
theorem dX10_hall_44 : decode (dc DX10_hall) 44 = .ok (.iconst 3, 1) := by decide +kernel
theorem dX10_hall_45 : decode (dc DX10_hall) 45 = .ok (.iaload, 1) := by decide +kernel
theorem dX10_hall_46 : decode (dc DX10_hall) 46 = .ok (.invokestatic 270, 3) := by decide +kernel
theorem dX10_hall_49 : decode (dc DX10_hall) 49 = .ok (.aload_n 0, 1) := by decide +kernel
theorem dX10_hall_50 : decode (dc DX10_hall) 50 = .ok (.invokevirtual 327, 3) := by decide +kernel
theorem dX10_hall_53 : decode (dc DX10_hall) 53 = .ok (.isub, 1) := by decide +kernel
theorem dX10_hall_54 : decode (dc DX10_hall) 54 = .ok (.goto 9, 3) := by decide +kernel
theorem dX10_hall_57 : decode (dc DX10_hall) 57 = .ok (.aload_n 0, 1) := by decide +kernel
theorem dX10_hall_58 : decode (dc DX10_hall) 58 = .ok (.getfield 57, 3) := by decide +kernel
theorem dX10_hall_61 : decode (dc DX10_hall) 61 = .ok (.iconst 0, 1) := by decide +kernel
theorem dX10_hall_62 : decode (dc DX10_hall) 62 = .ok (.iaload, 1) := by decide +kernel
theorem dX10_hall_63 : decode (dc DX10_hall) 63 = .ok (.ireturn, 1) := by decide +kernel
theorem dX10_many_0 : decode (dc DX10_many) 0 = .ok (.aload_n 0, 1) := by decide +kernel
theorem dX10_many_1 : decode (dc DX10_many) 1 = .ok (.iconst 0, 1) := by decide +kernel
theorem dX10_many_2 : decode (dc DX10_many) 2 = .ok (.putfield 82, 3) := by decide +kernel
theorem dX10_many_5 : decode (dc DX10_many) 5 = .ok (.iconst 1, 1) := by decide +kernel
theorem dX10_many_6 : decode (dc DX10_many) 6 = .ok (.aload_n 0, 1) := by decide +kernel
theorem dX10_many_7 : decode (dc DX10_many) 7 = .ok (.getfield 22, 3) := by decide +kernel
theorem dX10_many_10 : decode (dc DX10_many) 10 = .ok (.iconst 0, 1) := by decide +kernel
theorem dX10_many_11 : decode (dc DX10_many) 11 = .ok (.aaload, 1) := by decide +kernel
theorem dX10_many_12 : decode (dc DX10_many) 12 = .ok (.iconst 1, 1) := by decide +kernel
theorem dX10_many_13 : decode (dc DX10_many) 13 = .ok (.iaload, 1) := by decide +kernel
theorem dX10_many_14 : decode (dc DX10_many) 14 = .ok (.ishl, 1) := by decide +kernel
theorem dX10_many_15 : decode (dc DX10_many) 15 = .ok (.istore_n 1, 1) := by decide +kernel
theorem dX10_many_16 : decode (dc DX10_many) 16 = .ok (.aload_n 0, 1) := by decide +kernel
theorem dX10_many_17 : decode (dc DX10_many) 17 = .ok (.invokevirtual 327, 3) := by decide +kernel
theorem dX10_many_20 : decode (dc DX10_many) 20 = .ok (.istore_n 2, 1) := by decide +kernel
theorem dX10_many_21 : decode (dc DX10_many) 21 = .ok (.iconst 0, 1) := by decide +kernel
theorem dX10_many_22 : decode (dc DX10_many) 22 = .ok (.istore_n 3, 1) := by decide +kernel
theorem dX10_many_23 : decode (dc DX10_many) 23 = .ok (.iload_n 3, 1) := by decide +kernel
theorem dX10_many_24 : decode (dc DX10_many) 24 = .ok (.iload_n 1, 1) := by decide +kernel
theorem dX10_many_25 : decode (dc DX10_many) 25 = .ok (.if_icmp .ge 24, 3) := by decide +kernel
theorem dX10_many_28 : decode (dc DX10_many) 28 = .ok (.aload_n 0, 1) := by decide +kernel
theorem dX10_many_29 : decode (dc DX10_many) 29 = .ok (.getfield 63, 3) := by decide +kernel
theorem dX10_many_32 : decode (dc DX10_many) 32 = .ok (.iload_n 3, 1) := by decide +kernel
theorem dX10_many_33 : decode (dc DX10_many) 33 = .ok (.iload_n 3, 1) := by decide +kernel
theorem dX10_many_34 : decode (dc DX10_many) 34 = .ok (.ifCond .ne 7, 3) := by decide +kernel
theorem dX10_many_37 : decode (dc DX10_many) 37 = .ok (.lconst 1, 1) := by decide +kernel
theorem dX10_many_38 : decode (dc DX10_many) 38 = .ok (.goto 4, 3) := by decide +kernel
theorem dX10_many_41 : decode (dc DX10_many) 41 = .ok (.lconst 0, 1) := by decide +kernel
theorem dX10_many_42 : decode (dc DX10_many) 42 = .ok (.lastore, 1) := by decide +kernel
theorem dX10_many_43 : decode (dc DX10_many) 43 = .ok (.iinc 3 1, 3) := by decide +kernel
theorem dX10_many_46 : decode (dc DX10_many) 46 = .ok (.goto (-23), 3) := by decide +kernel
theorem dX10_many_49 : decode (dc DX10_many) 49 = .ok (.iconst 0, 1) := by decide +kernel
theorem dX10_many_50 : decode (dc DX10_many) 50 = .ok (.istore_n 3, 1) := by decide +kernel
theorem dX10_many_51 : decode (dc DX10_many) 51 = .ok (.iload_n 3, 1) := by decide +kernel
theorem dX10_many_52 : decode (dc DX10_many) 52 = .ok (.aload_n 0, 1) := by decide +kernel
theorem dX10_many_53 : decode (dc DX10_many) 53 = .ok (.getfield 22, 3) := by decide +kernel
theorem dX10_many_56 : decode (dc DX10_many) 56 = .ok (.iconst 0, 1) := by decide +kernel
theorem dX10_many_57 : decode (dc DX10_many) 57 = .ok (.aaload, 1) := by decide +kernel
theorem dX10_many_58 : decode (dc DX10_many) 58 = .ok (.iconst 0, 1) := by decide +kernel
theorem dX10_many_59 : decode (dc DX10_many) 59 = .ok (.iaload, 1) := by decide +kernel
theorem dX10_many_60 : decode (dc DX10_many) 60 = .ok (.if_icmp .ge 151, 3) := by decide +kernel
theorem dX10_many_63 : decode (dc DX10_many) 63 = .ok (.aload_n 0, 1) := by decide +kernel
theorem dX10_many_64 : decode (dc DX10_many) 64 = .ok (.iconst 0, 1) := by decide +kernel
theorem dX10_many_65 : decode (dc DX10_many) 65 = .ok (.iload_n 3, 1) := by decide +kernel
theorem dX10_many_66 : decode (dc DX10_many) 66 = .ok (.invokevirtual 240, 3) := by decide +kernel
theorem dX10_many_69 : decode (dc DX10_many) 69 = .ok (.ifCond .ne 6, 3) := by decide +kernel
theorem dX10_many_72 : decode (dc DX10_many) 72 = .ok (.goto 133, 3) := by decide +kernel
theorem dX10_many_75 : decode (dc DX10_many) 75 = .ok (.iconst 0, 1) := by decide +kernel
theorem dX10_many_76 : decode (dc DX10_many) 76 = .ok (.istore 4, 2) := by decide +kernel
theorem dX10_many_78 : decode (dc DX10_many) 78 = .ok (.iload 4, 2) := by decide +kernel
theorem dX10_many_80 : decode (dc DX10_many) 80 = .ok (.iload_n 1, 1) := by decide +kernel
theorem dX10_many_81 : decode (dc DX10_many) 81 = .ok (.if_icmp .ge 95, 3) := by decide +kernel
theorem dX10_many_84 : decode (dc DX10_many) 84 = .ok (.aload_n 0, 1) := by decide +kernel
theorem dX10_many_85 : decode (dc DX10_many) 85 = .ok (.getfield 67, 3) := by decide +kernel
theorem dX10_many_88 : decode (dc DX10_many) 88 = .ok (.iload 4, 2) := by decide +kernel
theorem dX10_many_90 : decode (dc DX10_many) 90 = .ok (.aload_n 0, 1) := by decide +kernel
theorem dX10_many_91 : decode (dc DX10_many) 91 = .ok (.getfield 63, 3) := by decide +kernel
theorem dX10_many_94 : decode (dc DX10_many) 94 = .ok (.iload 4, 2) := by decide +kernel
theorem dX10_many_96 : decode (dc DX10_many) 96 = .ok (.laload, 1) := by decide +kernel
theorem dX10_many_97 : decode (dc DX10_many) 97 = .ok (.lastore, 1) := by decide +kernel
theorem dX10_many_98 : decode (dc DX10_many) 98 = .ok (.iconst 0, 1) := by decide +kernel
theorem dX10_many_99 : decode (dc DX10_many) 99 = .ok (.istore 5, 2) := by decide +kernel
theorem dX10_many_101 : decode (dc DX10_many) 101 = .ok (.iload 5, 2) := by decide +kernel
theorem dX10_many_103 : decode (dc DX10_many) 103 = .ok (.aload_n 0, 1) := by decide +kernel
theorem dX10_many_104 : decode (dc DX10_many) 104 = .ok (.getfield 22, 3) := by decide +kernel
theorem dX10_many_107 : decode (dc DX10_many) 107 = .ok (.iconst 0, 1) := by decide +kernel
theorem dX10_many_108 : decode (dc DX10_many) 108 = .ok (.aaload, 1) := by decide +kernel
theorem dX10_many_109 : decode (dc DX10_many) 109 = .ok (.iconst 1, 1) := by decide +kernel
theorem dX10_many_110 : decode (dc DX10_many) 110 = .ok (.iaload, 1) := by decide +kernel
theorem dX10_many_111 : decode (dc DX10_many) 111 = .ok (.if_icmp .ge 59, 3) := by decide +kernel
theorem dX10_many_114 : decode (dc DX10_many) 114 = .ok (.iload 4, 2) := by decide +kernel
theorem dX10_many_116 : decode (dc DX10_many) 116 = .ok (.aload_n 0, 1) := by decide +kernel
theorem dX10_many_117 : decode (dc DX10_many) 117 = .ok (.getfield 25, 3) := by decide +kernel
theorem dX10_many_120 : decode (dc DX10_many) 120 = .ok (.iconst 0, 1) := by decide +kernel
theorem dX10_many_121 : decode (dc DX10_many) 121 = .ok (.aaload, 1) := by decide +kernel
theorem dX10_many_122 : decode (dc DX10_many) 122 = .ok (.iload_n 3, 1) := by decide +kernel
theorem dX10_many_123 : decode (dc DX10_many) 123 = .ok (.iaload, 1) := by decide +kernel
theorem dX10_many_124 : decode (dc DX10_many) 124 = .ok (.iand, 1) := by decide +kernel
theorem dX10_many_125 : decode (dc DX10_many) 125 = .ok (.aload_n 0, 1) := by decide +kernel
theorem dX10_many_126 : decode (dc DX10_many) 126 = .ok (.getfield 22, 3) := by decide +kernel
theorem dX10_many_129 : decode (dc DX10_many) 129 = .ok (.iconst 0, 1) := by decide +kernel
theorem dX10_many_130 : decode (dc DX10_many) 130 = .ok (.aaload, 1) := by decide +kernel
theorem dX10_many_131 : decode (dc DX10_many) 131 = .ok (.iconst 4, 1) := by decide +kernel
theorem dX10_many_132 : decode (dc DX10_many) 132 = .ok (.iaload, 1) := by decide +kernel
theorem dX10_many_133 : decode (dc DX10_many) 133 = .ok (.iand, 1) := by decide +kernel
theorem dX10_many_134 : decode (dc DX10_many) 134 = .ok (.iload 5, 2) := by decide +kernel
theorem dX10_many_136 : decode (dc DX10_many) 136 = .ok (.invokestatic 182, 3) := by decide +kernel
theorem dX10_many_139 : decode (dc DX10_many) 139 = .ok (.ifCond .eq 25, 3) := by decide +kernel
theorem dX10_many_142 : decode (dc DX10_many) 142 = .ok (.aload_n 0, 1) := by decide +kernel
theorem dX10_many_143 : decode (dc DX10_many) 143 = .ok (.getfield 67, 3) := by decide +kernel
theorem dX10_many_146 : decode (dc DX10_many) 146 = .ok (.iload 4, 2) := by decide +kernel
theorem dX10_many_148 : decode (dc DX10_many) 148 = .ok (.dup2, 1) := by decide +kernel
theorem dX10_many_149 : decode (dc DX10_many) 149 = .ok (.laload, 1) := by decide +kernel
theorem dX10_many_150 : decode (dc DX10_many) 150 = .ok (.aload_n 0, 1) := by decide +kernel
theorem dX10_many_151 : decode (dc DX10_many) 151 = .ok (.getfield 63, 3) := by decide +kernel
theorem dX10_many_154 : decode (dc DX10_many) 154 = .ok (.iload 4, 2) := by decide +kernel
theorem dX10_many_156 : decode (dc DX10_many) 156 = .ok (.iconst 1, 1) := by decide +kernel
theorem dX10_many_157 : decode (dc DX10_many) 157 = .ok (.iload 5, 2) := by decide +kernel
theorem dX10_many_159 : decode (dc DX10_many) 159 = .ok (.ishl, 1) := by decide +kernel
theorem dX10_many_160 : decode (dc DX10_many) 160 = .ok (.ixor, 1) := by decide +kernel
theorem dX10_many_161 : decode (dc DX10_many) 161 = .ok (.laload, 1) := by decide +kernel
theorem dX10_many_162 : decode (dc DX10_many) 162 = .ok (.ladd, 1) := by decide +kernel
theorem dX10_many_163 : decode (dc DX10_many) 163 = .ok (.lastore, 1) := by decide +kernel
theorem dX10_many_164 : decode (dc DX10_many) 164 = .ok (.iinc 5 1, 3) := by decide +kernel
theorem dX10_many_167 : decode (dc DX10_many) 167 = .ok (.goto (-66), 3) := by decide +kernel
theorem dX10_many_170 : decode (dc DX10_many) 170 = .ok (.iinc 4 1, 3) := by decide +kernel
theorem dX10_many_173 : decode (dc DX10_many) 173 = .ok (.goto (-95), 3) := by decide +kernel
theorem dX10_many_176 : decode (dc DX10_many) 176 = .ok (.iconst 0, 1) := by decide +kernel
theorem dX10_many_177 : decode (dc DX10_many) 177 = .ok (.istore 4, 2) := by decide +kernel
theorem dX10_many_179 : decode (dc DX10_many) 179 = .ok (.iload 4, 2) := by decide +kernel
theorem dX10_many_181 : decode (dc DX10_many) 181 = .ok (.iload_n 1, 1) := by decide +kernel
theorem dX10_many_182 : decode (dc DX10_many) 182 = .ok (.if_icmp .ge 23, 3) := by decide +kernel
theorem dX10_many_185 : decode (dc DX10_many) 185 = .ok (.aload_n 0, 1) := by decide +kernel
theorem dX10_many_186 : decode (dc DX10_many) 186 = .ok (.getfield 63, 3) := by decide +kernel
theorem dX10_many_189 : decode (dc DX10_many) 189 = .ok (.iload 4, 2) := by decide +kernel
theorem dX10_many_191 : decode (dc DX10_many) 191 = .ok (.aload_n 0, 1) := by decide +kernel
theorem dX10_many_192 : decode (dc DX10_many) 192 = .ok (.getfield 67, 3) := by decide +kernel
theorem dX10_many_195 : decode (dc DX10_many) 195 = .ok (.iload 4, 2) := by decide +kernel
theorem dX10_many_197 : decode (dc DX10_many) 197 = .ok (.laload, 1) := by decide +kernel
theorem dX10_many_198 : decode (dc DX10_many) 198 = .ok (.lastore, 1) := by decide +kernel
theorem dX10_many_199 : decode (dc DX10_many) 199 = .ok (.iinc 4 1, 3) := by decide +kernel
theorem dX10_many_202 : decode (dc DX10_many) 202 = .ok (.goto (-23), 3) := by decide +kernel
theorem dX10_many_205 : decode (dc DX10_many) 205 = .ok (.iinc 3 1, 3) := by decide +kernel
theorem dX10_many_208 : decode (dc DX10_many) 208 = .ok (.goto (-157), 3) := by decide +kernel
theorem dX10_many_211 : decode (dc DX10_many) 211 = .ok (.lconst 0, 1) := by decide +kernel
theorem dX10_many_212 : decode (dc DX10_many) 212 = .ok (.lstore_n 3, 1) := by decide +kernel
theorem dX10_many_213 : decode (dc DX10_many) 213 = .ok (.iconst 0, 1) := by decide +kernel
theorem dX10_many_214 : decode (dc DX10_many) 214 = .ok (.istore 5, 2) := by decide +kernel
theorem dX10_many_216 : decode (dc DX10_many) 216 = .ok (.iload 5, 2) := by decide +kernel
theorem dX10_many_218 : decode (dc DX10_many) 218 = .ok (.iload_n 1, 1) := by decide +kernel
theorem dX10_many_219 : decode (dc DX10_many) 219 = .ok (.if_icmp .ge 32, 3) := by decide +kernel
theorem dX10_many_222 : decode (dc DX10_many) 222 = .ok (.lload_n 3, 1) := by decide +kernel
theorem dX10_many_223 : decode (dc DX10_many) 223 = .ok (.iload 5, 2) := by decide +kernel
theorem dX10_many_225 : decode (dc DX10_many) 225 = .ok (.invokestatic 270, 3) := by decide +kernel
theorem dX10_many_228 : decode (dc DX10_many) 228 = .ok (.iload_n 2, 1) := by decide +kernel
theorem dX10_many_229 : decode (dc DX10_many) 229 = .ok (.if_icmp .ne 13, 3) := by decide +kernel
theorem dX10_many_232 : decode (dc DX10_many) 232 = .ok (.aload_n 0, 1) := by decide +kernel
theorem dX10_many_233 : decode (dc DX10_many) 233 = .ok (.getfield 63, 3) := by decide +kernel
theorem dX10_many_236 : decode (dc DX10_many) 236 = .ok (.iload 5, 2) := by decide +kernel
theorem dX10_many_238 : decode (dc DX10_many) 238 = .ok (.laload, 1) := by decide +kernel
theorem dX10_many_239 : decode (dc DX10_many) 239 = .ok (.goto 4, 3) := by decide +kernel
theorem dX10_many_242 : decode (dc DX10_many) 242 = .ok (.lconst 0, 1) := by decide +kernel
theorem dX10_many_243 : decode (dc DX10_many) 243 = .ok (.ladd, 1) := by decide +kernel
theorem dX10_many_244 : decode (dc DX10_many) 244 = .ok (.lstore_n 3, 1) := by decide +kernel
theorem dX10_many_245 : decode (dc DX10_many) 245 = .ok (.iinc 5 1, 3) := by decide +kernel
theorem dX10_many_248 : decode (dc DX10_many) 248 = .ok (.goto (-32), 3) := by decide +kernel
theorem dX10_many_251 : decode (dc DX10_many) 251 = .ok (.lload_n 3, 1) := by decide +kernel
theorem dX10_many_252 : decode (dc DX10_many) 252 = .ok (.lreturn, 1) := by decide +kernel
theorem dX10_laysCheap_0 : decode (dc DX10_laysCheap) 0 = .ok (.aload_n 0, 1) := by decide +kernel
theorem dX10_laysCheap_1 : decode (dc DX10_laysCheap) 1 = .ok (.getfield 22, 3) := by decide +kernel
theorem dX10_laysCheap_4 : decode (dc DX10_laysCheap) 4 = .ok (.iconst 0, 1) := by decide +kernel
theorem dX10_laysCheap_5 : decode (dc DX10_laysCheap) 5 = .ok (.aaload, 1) := by decide +kernel
theorem dX10_laysCheap_6 : decode (dc DX10_laysCheap) 6 = .ok (.iconst 0, 1) := by decide +kernel
theorem dX10_laysCheap_7 : decode (dc DX10_laysCheap) 7 = .ok (.iaload, 1) := by decide +kernel
theorem dX10_laysCheap_8 : decode (dc DX10_laysCheap) 8 = .ok (.istore_n 1, 1) := by decide +kernel
theorem dX10_laysCheap_9 : decode (dc DX10_laysCheap) 9 = .ok (.iconst 1, 1) := by decide +kernel
theorem dX10_laysCheap_10 : decode (dc DX10_laysCheap) 10 = .ok (.aload_n 0, 1) := by decide +kernel
theorem dX10_laysCheap_11 : decode (dc DX10_laysCheap) 11 = .ok (.getfield 22, 3) := by decide +kernel
theorem dX10_laysCheap_14 : decode (dc DX10_laysCheap) 14 = .ok (.iconst 0, 1) := by decide +kernel
theorem dX10_laysCheap_15 : decode (dc DX10_laysCheap) 15 = .ok (.aaload, 1) := by decide +kernel
theorem dX10_laysCheap_16 : decode (dc DX10_laysCheap) 16 = .ok (.iconst 1, 1) := by decide +kernel
theorem dX10_laysCheap_17 : decode (dc DX10_laysCheap) 17 = .ok (.iaload, 1) := by decide +kernel
theorem dX10_laysCheap_18 : decode (dc DX10_laysCheap) 18 = .ok (.ishl, 1) := by decide +kernel
theorem dX10_laysCheap_19 : decode (dc DX10_laysCheap) 19 = .ok (.istore_n 2, 1) := by decide +kernel
theorem dX10_laysCheap_20 : decode (dc DX10_laysCheap) 20 = .ok (.aload_n 0, 1) := by decide +kernel
theorem dX10_laysCheap_21 : decode (dc DX10_laysCheap) 21 = .ok (.invokevirtual 327, 3) := by decide +kernel
theorem dX10_laysCheap_24 : decode (dc DX10_laysCheap) 24 = .ok (.istore_n 3, 1) := by decide +kernel
theorem dX10_laysCheap_25 : decode (dc DX10_laysCheap) 25 = .ok (.iconst 0, 1) := by decide +kernel
theorem dX10_laysCheap_26 : decode (dc DX10_laysCheap) 26 = .ok (.istore 4, 2) := by decide +kernel
theorem dX10_laysCheap_28 : decode (dc DX10_laysCheap) 28 = .ok (.iload 4, 2) := by decide +kernel
theorem dX10_laysCheap_30 : decode (dc DX10_laysCheap) 30 = .ok (.iload_n 2, 1) := by decide +kernel
theorem dX10_laysCheap_31 : decode (dc DX10_laysCheap) 31 = .ok (.if_icmp .ge 56, 3) := by decide +kernel
theorem dX10_laysCheap_34 : decode (dc DX10_laysCheap) 34 = .ok (.aload_n 0, 1) := by decide +kernel
theorem dX10_laysCheap_35 : decode (dc DX10_laysCheap) 35 = .ok (.getfield 70, 3) := by decide +kernel
theorem dX10_laysCheap_38 : decode (dc DX10_laysCheap) 38 = .ok (.iload_n 1, 1) := by decide +kernel
theorem dX10_laysCheap_39 : decode (dc DX10_laysCheap) 39 = .ok (.aaload, 1) := by decide +kernel
theorem dX10_laysCheap_40 : decode (dc DX10_laysCheap) 40 = .ok (.iload 4, 2) := by decide +kernel
theorem dX10_laysCheap_42 : decode (dc DX10_laysCheap) 42 = .ok (.iload 4, 2) := by decide +kernel
theorem dX10_laysCheap_44 : decode (dc DX10_laysCheap) 44 = .ok (.invokestatic 270, 3) := by decide +kernel
theorem dX10_laysCheap_47 : decode (dc DX10_laysCheap) 47 = .ok (.iload_n 3, 1) := by decide +kernel
theorem dX10_laysCheap_48 : decode (dc DX10_laysCheap) 48 = .ok (.if_icmp .ne 7, 3) := by decide +kernel
theorem dX10_laysCheap_51 : decode (dc DX10_laysCheap) 51 = .ok (.iconst 0, 1) := by decide +kernel
theorem dX10_laysCheap_52 : decode (dc DX10_laysCheap) 52 = .ok (.goto 5, 3) := by decide +kernel
theorem dX10_laysCheap_55 : decode (dc DX10_laysCheap) 55 = .ok (.ldc 122, 2) := by decide +kernel
theorem dX10_laysCheap_57 : decode (dc DX10_laysCheap) 57 = .ok (.iastore, 1) := by decide +kernel
theorem dX10_laysCheap_58 : decode (dc DX10_laysCheap) 58 = .ok (.aload_n 0, 1) := by decide +kernel
theorem dX10_laysCheap_59 : decode (dc DX10_laysCheap) 59 = .ok (.getfield 75, 3) := by decide +kernel
theorem dX10_laysCheap_62 : decode (dc DX10_laysCheap) 62 = .ok (.iload_n 1, 1) := by decide +kernel
theorem dX10_laysCheap_63 : decode (dc DX10_laysCheap) 63 = .ok (.aaload, 1) := by decide +kernel
theorem dX10_laysCheap_64 : decode (dc DX10_laysCheap) 64 = .ok (.iload 4, 2) := by decide +kernel
theorem dX10_laysCheap_66 : decode (dc DX10_laysCheap) 66 = .ok (.iload 4, 2) := by decide +kernel
theorem dX10_laysCheap_68 : decode (dc DX10_laysCheap) 68 = .ok (.invokestatic 270, 3) := by decide +kernel
theorem dX10_laysCheap_71 : decode (dc DX10_laysCheap) 71 = .ok (.iload_n 3, 1) := by decide +kernel
theorem dX10_laysCheap_72 : decode (dc DX10_laysCheap) 72 = .ok (.if_icmp .ne 7, 3) := by decide +kernel
theorem dX10_laysCheap_75 : decode (dc DX10_laysCheap) 75 = .ok (.lconst 1, 1) := by decide +kernel
theorem dX10_laysCheap_76 : decode (dc DX10_laysCheap) 76 = .ok (.goto 4, 3) := by decide +kernel
theorem dX10_laysCheap_79 : decode (dc DX10_laysCheap) 79 = .ok (.lconst 0, 1) := by decide +kernel
theorem dX10_laysCheap_80 : decode (dc DX10_laysCheap) 80 = .ok (.lastore, 1) := by decide +kernel
theorem dX10_laysCheap_81 : decode (dc DX10_laysCheap) 81 = .ok (.iinc 4 1, 3) := by decide +kernel
theorem dX10_laysCheap_84 : decode (dc DX10_laysCheap) 84 = .ok (.goto (-56), 3) := by decide +kernel
theorem dX10_laysCheap_87 : decode (dc DX10_laysCheap) 87 = .ok (.iload_n 1, 1) := by decide +kernel
theorem dX10_laysCheap_88 : decode (dc DX10_laysCheap) 88 = .ok (.iconst 1, 1) := by decide +kernel
theorem dX10_laysCheap_89 : decode (dc DX10_laysCheap) 89 = .ok (.isub, 1) := by decide +kernel
theorem dX10_laysCheap_90 : decode (dc DX10_laysCheap) 90 = .ok (.istore 4, 2) := by decide +kernel
theorem dX10_laysCheap_92 : decode (dc DX10_laysCheap) 92 = .ok (.iload 4, 2) := by decide +kernel
theorem dX10_laysCheap_94 : decode (dc DX10_laysCheap) 94 = .ok (.ifCond .lt 315, 3) := by decide +kernel
theorem dX10_laysCheap_97 : decode (dc DX10_laysCheap) 97 = .ok (.aload_n 0, 1) := by decide +kernel
theorem dX10_laysCheap_98 : decode (dc DX10_laysCheap) 98 = .ok (.iconst 0, 1) := by decide +kernel
theorem dX10_laysCheap_99 : decode (dc DX10_laysCheap) 99 = .ok (.iload 4, 2) := by decide +kernel
theorem dX10_laysCheap_101 : decode (dc DX10_laysCheap) 101 = .ok (.invokevirtual 240, 3) := by decide +kernel
theorem dX10_laysCheap_104 : decode (dc DX10_laysCheap) 104 = .ok (.ifCond .eq 24, 3) := by decide +kernel
theorem dX10_laysCheap_107 : decode (dc DX10_laysCheap) 107 = .ok (.aload_n 0, 1) := by decide +kernel
theorem dX10_laysCheap_108 : decode (dc DX10_laysCheap) 108 = .ok (.getfield 25, 3) := by decide +kernel
theorem dX10_laysCheap_111 : decode (dc DX10_laysCheap) 111 = .ok (.iconst 0, 1) := by decide +kernel
theorem dX10_laysCheap_112 : decode (dc DX10_laysCheap) 112 = .ok (.aaload, 1) := by decide +kernel
theorem dX10_laysCheap_113 : decode (dc DX10_laysCheap) 113 = .ok (.iload 4, 2) := by decide +kernel
theorem dX10_laysCheap_115 : decode (dc DX10_laysCheap) 115 = .ok (.iaload, 1) := by decide +kernel
theorem dX10_laysCheap_116 : decode (dc DX10_laysCheap) 116 = .ok (.aload_n 0, 1) := by decide +kernel
theorem dX10_laysCheap_117 : decode (dc DX10_laysCheap) 117 = .ok (.getfield 22, 3) := by decide +kernel
theorem dX10_laysCheap_120 : decode (dc DX10_laysCheap) 120 = .ok (.iconst 0, 1) := by decide +kernel
theorem dX10_laysCheap_121 : decode (dc DX10_laysCheap) 121 = .ok (.aaload, 1) := by decide +kernel
theorem dX10_laysCheap_122 : decode (dc DX10_laysCheap) 122 = .ok (.iconst 4, 1) := by decide +kernel
theorem dX10_laysCheap_123 : decode (dc DX10_laysCheap) 123 = .ok (.iaload, 1) := by decide +kernel
theorem dX10_laysCheap_124 : decode (dc DX10_laysCheap) 124 = .ok (.iand, 1) := by decide +kernel
theorem dX10_laysCheap_125 : decode (dc DX10_laysCheap) 125 = .ok (.goto 4, 3) := by decide +kernel
theorem dX10_laysCheap_128 : decode (dc DX10_laysCheap) 128 = .ok (.iconst 0, 1) := by decide +kernel
theorem dX10_laysCheap_129 : decode (dc DX10_laysCheap) 129 = .ok (.istore 5, 2) := by decide +kernel
theorem dX10_laysCheap_131 : decode (dc DX10_laysCheap) 131 = .ok (.iconst 0, 1) := by decide +kernel
theorem dX10_laysCheap_132 : decode (dc DX10_laysCheap) 132 = .ok (.istore 6, 2) := by decide +kernel
theorem dX10_laysCheap_134 : decode (dc DX10_laysCheap) 134 = .ok (.iload 6, 2) := by decide +kernel
theorem dX10_laysCheap_136 : decode (dc DX10_laysCheap) 136 = .ok (.iload_n 2, 1) := by decide +kernel
theorem dX10_laysCheap_137 : decode (dc DX10_laysCheap) 137 = .ok (.if_icmp .ge 266, 3) := by decide +kernel
theorem dX10_laysCheap_140 : decode (dc DX10_laysCheap) 140 = .ok (.aload_n 0, 1) := by decide +kernel
theorem dX10_laysCheap_141 : decode (dc DX10_laysCheap) 141 = .ok (.getfield 70, 3) := by decide +kernel
theorem dX10_laysCheap_144 : decode (dc DX10_laysCheap) 144 = .ok (.iload 4, 2) := by decide +kernel
theorem dX10_laysCheap_146 : decode (dc DX10_laysCheap) 146 = .ok (.iconst 1, 1) := by decide +kernel
theorem dX10_laysCheap_147 : decode (dc DX10_laysCheap) 147 = .ok (.iadd, 1) := by decide +kernel
theorem dX10_laysCheap_148 : decode (dc DX10_laysCheap) 148 = .ok (.aaload, 1) := by decide +kernel
theorem dX10_laysCheap_149 : decode (dc DX10_laysCheap) 149 = .ok (.iload 6, 2) := by decide +kernel
theorem dX10_laysCheap_151 : decode (dc DX10_laysCheap) 151 = .ok (.iaload, 1) := by decide +kernel
theorem dX10_laysCheap_152 : decode (dc DX10_laysCheap) 152 = .ok (.istore 7, 2) := by decide +kernel
theorem dX10_laysCheap_154 : decode (dc DX10_laysCheap) 154 = .ok (.iconst 0, 1) := by decide +kernel
theorem dX10_laysCheap_155 : decode (dc DX10_laysCheap) 155 = .ok (.istore 8, 2) := by decide +kernel
theorem dX10_laysCheap_157 : decode (dc DX10_laysCheap) 157 = .ok (.iload 8, 2) := by decide +kernel
theorem dX10_laysCheap_159 : decode (dc DX10_laysCheap) 159 = .ok (.aload_n 0, 1) := by decide +kernel
theorem dX10_laysCheap_160 : decode (dc DX10_laysCheap) 160 = .ok (.getfield 22, 3) := by decide +kernel
theorem dX10_laysCheap_163 : decode (dc DX10_laysCheap) 163 = .ok (.iconst 0, 1) := by decide +kernel
theorem dX10_laysCheap_164 : decode (dc DX10_laysCheap) 164 = .ok (.aaload, 1) := by decide +kernel
theorem dX10_laysCheap_165 : decode (dc DX10_laysCheap) 165 = .ok (.iconst 1, 1) := by decide +kernel
theorem dX10_laysCheap_166 : decode (dc DX10_laysCheap) 166 = .ok (.iaload, 1) := by decide +kernel
theorem dX10_laysCheap_167 : decode (dc DX10_laysCheap) 167 = .ok (.if_icmp .ge 61, 3) := by decide +kernel
theorem dX10_laysCheap_170 : decode (dc DX10_laysCheap) 170 = .ok (.iload 5, 2) := by decide +kernel
theorem dX10_laysCheap_172 : decode (dc DX10_laysCheap) 172 = .ok (.iload 6, 2) := by decide +kernel
theorem dX10_laysCheap_174 : decode (dc DX10_laysCheap) 174 = .ok (.iconst (-1), 1) := by decide +kernel
theorem dX10_laysCheap_175 : decode (dc DX10_laysCheap) 175 = .ok (.ixor, 1) := by decide +kernel
theorem dX10_laysCheap_176 : decode (dc DX10_laysCheap) 176 = .ok (.iand, 1) := by decide +kernel
theorem dX10_laysCheap_177 : decode (dc DX10_laysCheap) 177 = .ok (.iload 8, 2) := by decide +kernel
theorem dX10_laysCheap_179 : decode (dc DX10_laysCheap) 179 = .ok (.invokestatic 182, 3) := by decide +kernel
theorem dX10_laysCheap_182 : decode (dc DX10_laysCheap) 182 = .ok (.ifCond .eq 40, 3) := by decide +kernel
theorem dX10_laysCheap_185 : decode (dc DX10_laysCheap) 185 = .ok (.iload 7, 2) := by decide +kernel
theorem dX10_laysCheap_187 : decode (dc DX10_laysCheap) 187 = .ok (.aload_n 0, 1) := by decide +kernel
theorem dX10_laysCheap_188 : decode (dc DX10_laysCheap) 188 = .ok (.getfield 36, 3) := by decide +kernel
theorem dX10_laysCheap_191 : decode (dc DX10_laysCheap) 191 = .ok (.iconst 0, 1) := by decide +kernel
theorem dX10_laysCheap_192 : decode (dc DX10_laysCheap) 192 = .ok (.aaload, 1) := by decide +kernel
theorem dX10_laysCheap_193 : decode (dc DX10_laysCheap) 193 = .ok (.iload 4, 2) := by decide +kernel
theorem dX10_laysCheap_195 : decode (dc DX10_laysCheap) 195 = .ok (.aaload, 1) := by decide +kernel
theorem dX10_laysCheap_196 : decode (dc DX10_laysCheap) 196 = .ok (.iload 8, 2) := by decide +kernel
theorem dX10_laysCheap_198 : decode (dc DX10_laysCheap) 198 = .ok (.iaload, 1) := by decide +kernel
theorem dX10_laysCheap_199 : decode (dc DX10_laysCheap) 199 = .ok (.aload_n 0, 1) := by decide +kernel
theorem dX10_laysCheap_200 : decode (dc DX10_laysCheap) 200 = .ok (.getfield 70, 3) := by decide +kernel
theorem dX10_laysCheap_203 : decode (dc DX10_laysCheap) 203 = .ok (.iload 4, 2) := by decide +kernel
theorem dX10_laysCheap_205 : decode (dc DX10_laysCheap) 205 = .ok (.iconst 1, 1) := by decide +kernel
theorem dX10_laysCheap_206 : decode (dc DX10_laysCheap) 206 = .ok (.iadd, 1) := by decide +kernel
theorem dX10_laysCheap_207 : decode (dc DX10_laysCheap) 207 = .ok (.aaload, 1) := by decide +kernel
theorem dX10_laysCheap_208 : decode (dc DX10_laysCheap) 208 = .ok (.iload 6, 2) := by decide +kernel
theorem dX10_laysCheap_210 : decode (dc DX10_laysCheap) 210 = .ok (.iconst 1, 1) := by decide +kernel
theorem dX10_laysCheap_211 : decode (dc DX10_laysCheap) 211 = .ok (.iload 8, 2) := by decide +kernel
theorem dX10_laysCheap_213 : decode (dc DX10_laysCheap) 213 = .ok (.ishl, 1) := by decide +kernel
theorem dX10_laysCheap_214 : decode (dc DX10_laysCheap) 214 = .ok (.ior, 1) := by decide +kernel
theorem dX10_laysCheap_215 : decode (dc DX10_laysCheap) 215 = .ok (.iaload, 1) := by decide +kernel
theorem dX10_laysCheap_216 : decode (dc DX10_laysCheap) 216 = .ok (.iadd, 1) := by decide +kernel
theorem dX10_laysCheap_217 : decode (dc DX10_laysCheap) 217 = .ok (.invokestatic 123, 3) := by decide +kernel
theorem dX10_laysCheap_220 : decode (dc DX10_laysCheap) 220 = .ok (.istore 7, 2) := by decide +kernel
theorem dX10_laysCheap_222 : decode (dc DX10_laysCheap) 222 = .ok (.iinc 8 1, 3) := by decide +kernel
theorem dX10_laysCheap_225 : decode (dc DX10_laysCheap) 225 = .ok (.goto (-68), 3) := by decide +kernel
theorem dX10_laysCheap_228 : decode (dc DX10_laysCheap) 228 = .ok (.aload_n 0, 1) := by decide +kernel
theorem dX10_laysCheap_229 : decode (dc DX10_laysCheap) 229 = .ok (.getfield 70, 3) := by decide +kernel
theorem dX10_laysCheap_232 : decode (dc DX10_laysCheap) 232 = .ok (.iload 4, 2) := by decide +kernel
theorem dX10_laysCheap_234 : decode (dc DX10_laysCheap) 234 = .ok (.iconst 1, 1) := by decide +kernel
theorem dX10_laysCheap_235 : decode (dc DX10_laysCheap) 235 = .ok (.iadd, 1) := by decide +kernel
theorem dX10_laysCheap_236 : decode (dc DX10_laysCheap) 236 = .ok (.aaload, 1) := by decide +kernel
theorem dX10_laysCheap_237 : decode (dc DX10_laysCheap) 237 = .ok (.iload 6, 2) := by decide +kernel
theorem dX10_laysCheap_239 : decode (dc DX10_laysCheap) 239 = .ok (.iaload, 1) := by decide +kernel
theorem dX10_laysCheap_240 : decode (dc DX10_laysCheap) 240 = .ok (.iload 7, 2) := by decide +kernel
theorem dX10_laysCheap_242 : decode (dc DX10_laysCheap) 242 = .ok (.if_icmp .ne 18, 3) := by decide +kernel
theorem dX10_laysCheap_245 : decode (dc DX10_laysCheap) 245 = .ok (.aload_n 0, 1) := by decide +kernel
theorem dX10_laysCheap_246 : decode (dc DX10_laysCheap) 246 = .ok (.getfield 75, 3) := by decide +kernel
theorem dX10_laysCheap_249 : decode (dc DX10_laysCheap) 249 = .ok (.iload 4, 2) := by decide +kernel
theorem dX10_laysCheap_251 : decode (dc DX10_laysCheap) 251 = .ok (.iconst 1, 1) := by decide +kernel
theorem dX10_laysCheap_252 : decode (dc DX10_laysCheap) 252 = .ok (.iadd, 1) := by decide +kernel
theorem dX10_laysCheap_253 : decode (dc DX10_laysCheap) 253 = .ok (.aaload, 1) := by decide +kernel
theorem dX10_laysCheap_254 : decode (dc DX10_laysCheap) 254 = .ok (.iload 6, 2) := by decide +kernel
theorem dX10_laysCheap_256 : decode (dc DX10_laysCheap) 256 = .ok (.laload, 1) := by decide +kernel
theorem dX10_laysCheap_257 : decode (dc DX10_laysCheap) 257 = .ok (.goto 4, 3) := by decide +kernel
theorem dX10_laysCheap_260 : decode (dc DX10_laysCheap) 260 = .ok (.lconst 0, 1) := by decide +kernel
theorem dX10_laysCheap_261 : decode (dc DX10_laysCheap) 261 = .ok (.lstore 8, 2) := by decide +kernel
theorem dX10_laysCheap_263 : decode (dc DX10_laysCheap) 263 = .ok (.iconst 0, 1) := by decide +kernel
theorem dX10_laysCheap_264 : decode (dc DX10_laysCheap) 264 = .ok (.istore 10, 2) := by decide +kernel
theorem dX10_laysCheap_266 : decode (dc DX10_laysCheap) 266 = .ok (.iload 10, 2) := by decide +kernel
theorem dX10_laysCheap_268 : decode (dc DX10_laysCheap) 268 = .ok (.aload_n 0, 1) := by decide +kernel
theorem dX10_laysCheap_269 : decode (dc DX10_laysCheap) 269 = .ok (.getfield 22, 3) := by decide +kernel
theorem dX10_laysCheap_272 : decode (dc DX10_laysCheap) 272 = .ok (.iconst 0, 1) := by decide +kernel
theorem dX10_laysCheap_273 : decode (dc DX10_laysCheap) 273 = .ok (.aaload, 1) := by decide +kernel
theorem dX10_laysCheap_274 : decode (dc DX10_laysCheap) 274 = .ok (.iconst 1, 1) := by decide +kernel
theorem dX10_laysCheap_275 : decode (dc DX10_laysCheap) 275 = .ok (.iaload, 1) := by decide +kernel
theorem dX10_laysCheap_276 : decode (dc DX10_laysCheap) 276 = .ok (.if_icmp .ge 81, 3) := by decide +kernel
theorem dX10_laysCheap_279 : decode (dc DX10_laysCheap) 279 = .ok (.iload 5, 2) := by decide +kernel
theorem dX10_laysCheap_281 : decode (dc DX10_laysCheap) 281 = .ok (.iload 6, 2) := by decide +kernel
theorem dX10_laysCheap_283 : decode (dc DX10_laysCheap) 283 = .ok (.iconst (-1), 1) := by decide +kernel
theorem dX10_laysCheap_284 : decode (dc DX10_laysCheap) 284 = .ok (.ixor, 1) := by decide +kernel
theorem dX10_laysCheap_285 : decode (dc DX10_laysCheap) 285 = .ok (.iand, 1) := by decide +kernel
theorem dX10_laysCheap_286 : decode (dc DX10_laysCheap) 286 = .ok (.iload 10, 2) := by decide +kernel
theorem dX10_laysCheap_288 : decode (dc DX10_laysCheap) 288 = .ok (.invokestatic 182, 3) := by decide +kernel
theorem dX10_laysCheap_291 : decode (dc DX10_laysCheap) 291 = .ok (.ifCond .eq 60, 3) := by decide +kernel
theorem dX10_laysCheap_294 : decode (dc DX10_laysCheap) 294 = .ok (.aload_n 0, 1) := by decide +kernel
theorem dX10_laysCheap_295 : decode (dc DX10_laysCheap) 295 = .ok (.getfield 36, 3) := by decide +kernel
theorem dX10_laysCheap_298 : decode (dc DX10_laysCheap) 298 = .ok (.iconst 0, 1) := by decide +kernel
theorem dX10_laysCheap_299 : decode (dc DX10_laysCheap) 299 = .ok (.aaload, 1) := by decide +kernel
theorem dX10_laysCheap_300 : decode (dc DX10_laysCheap) 300 = .ok (.iload 4, 2) := by decide +kernel
theorem dX10_laysCheap_302 : decode (dc DX10_laysCheap) 302 = .ok (.aaload, 1) := by decide +kernel
theorem dX10_laysCheap_303 : decode (dc DX10_laysCheap) 303 = .ok (.iload 10, 2) := by decide +kernel
theorem dX10_laysCheap_305 : decode (dc DX10_laysCheap) 305 = .ok (.iaload, 1) := by decide +kernel
theorem dX10_laysCheap_306 : decode (dc DX10_laysCheap) 306 = .ok (.aload_n 0, 1) := by decide +kernel
theorem dX10_laysCheap_307 : decode (dc DX10_laysCheap) 307 = .ok (.getfield 70, 3) := by decide +kernel
theorem dX10_laysCheap_310 : decode (dc DX10_laysCheap) 310 = .ok (.iload 4, 2) := by decide +kernel
theorem dX10_laysCheap_312 : decode (dc DX10_laysCheap) 312 = .ok (.iconst 1, 1) := by decide +kernel
theorem dX10_laysCheap_313 : decode (dc DX10_laysCheap) 313 = .ok (.iadd, 1) := by decide +kernel
theorem dX10_laysCheap_314 : decode (dc DX10_laysCheap) 314 = .ok (.aaload, 1) := by decide +kernel
theorem dX10_laysCheap_315 : decode (dc DX10_laysCheap) 315 = .ok (.iload 6, 2) := by decide +kernel
theorem dX10_laysCheap_317 : decode (dc DX10_laysCheap) 317 = .ok (.iconst 1, 1) := by decide +kernel
theorem dX10_laysCheap_318 : decode (dc DX10_laysCheap) 318 = .ok (.iload 10, 2) := by decide +kernel
theorem dX10_laysCheap_320 : decode (dc DX10_laysCheap) 320 = .ok (.ishl, 1) := by decide +kernel
theorem dX10_laysCheap_321 : decode (dc DX10_laysCheap) 321 = .ok (.ior, 1) := by decide +kernel
theorem dX10_laysCheap_322 : decode (dc DX10_laysCheap) 322 = .ok (.iaload, 1) := by decide +kernel
theorem dX10_laysCheap_323 : decode (dc DX10_laysCheap) 323 = .ok (.iadd, 1) := by decide +kernel
theorem dX10_laysCheap_324 : decode (dc DX10_laysCheap) 324 = .ok (.iload 7, 2) := by decide +kernel
theorem dX10_laysCheap_326 : decode (dc DX10_laysCheap) 326 = .ok (.if_icmp .ne 25, 3) := by decide +kernel
theorem dX10_laysCheap_329 : decode (dc DX10_laysCheap) 329 = .ok (.lload 8, 2) := by decide +kernel
theorem dX10_laysCheap_331 : decode (dc DX10_laysCheap) 331 = .ok (.aload_n 0, 1) := by decide +kernel
theorem dX10_laysCheap_332 : decode (dc DX10_laysCheap) 332 = .ok (.getfield 75, 3) := by decide +kernel
theorem dX10_laysCheap_335 : decode (dc DX10_laysCheap) 335 = .ok (.iload 4, 2) := by decide +kernel
theorem dX10_laysCheap_337 : decode (dc DX10_laysCheap) 337 = .ok (.iconst 1, 1) := by decide +kernel
theorem dX10_laysCheap_338 : decode (dc DX10_laysCheap) 338 = .ok (.iadd, 1) := by decide +kernel
theorem dX10_laysCheap_339 : decode (dc DX10_laysCheap) 339 = .ok (.aaload, 1) := by decide +kernel
theorem dX10_laysCheap_340 : decode (dc DX10_laysCheap) 340 = .ok (.iload 6, 2) := by decide +kernel
theorem dX10_laysCheap_342 : decode (dc DX10_laysCheap) 342 = .ok (.iconst 1, 1) := by decide +kernel
theorem dX10_laysCheap_343 : decode (dc DX10_laysCheap) 343 = .ok (.iload 10, 2) := by decide +kernel
theorem dX10_laysCheap_345 : decode (dc DX10_laysCheap) 345 = .ok (.ishl, 1) := by decide +kernel
theorem dX10_laysCheap_346 : decode (dc DX10_laysCheap) 346 = .ok (.ior, 1) := by decide +kernel
theorem dX10_laysCheap_347 : decode (dc DX10_laysCheap) 347 = .ok (.laload, 1) := by decide +kernel
theorem dX10_laysCheap_348 : decode (dc DX10_laysCheap) 348 = .ok (.ladd, 1) := by decide +kernel
theorem dX10_laysCheap_349 : decode (dc DX10_laysCheap) 349 = .ok (.lstore 8, 2) := by decide +kernel
theorem dX10_laysCheap_351 : decode (dc DX10_laysCheap) 351 = .ok (.iinc 10 1, 3) := by decide +kernel
theorem dX10_laysCheap_354 : decode (dc DX10_laysCheap) 354 = .ok (.goto (-88), 3) := by decide +kernel
theorem dX10_laysCheap_357 : decode (dc DX10_laysCheap) 357 = .ok (.aload_n 0, 1) := by decide +kernel
theorem dX10_laysCheap_358 : decode (dc DX10_laysCheap) 358 = .ok (.getfield 70, 3) := by decide +kernel
theorem dX10_laysCheap_361 : decode (dc DX10_laysCheap) 361 = .ok (.iload 4, 2) := by decide +kernel
theorem dX10_laysCheap_363 : decode (dc DX10_laysCheap) 363 = .ok (.aaload, 1) := by decide +kernel
theorem dX10_laysCheap_364 : decode (dc DX10_laysCheap) 364 = .ok (.iload 6, 2) := by decide +kernel
theorem dX10_laysCheap_366 : decode (dc DX10_laysCheap) 366 = .ok (.iload 7, 2) := by decide +kernel
theorem dX10_laysCheap_368 : decode (dc DX10_laysCheap) 368 = .ok (.ldc 122, 2) := by decide +kernel
theorem dX10_laysCheap_370 : decode (dc DX10_laysCheap) 370 = .ok (.invokestatic 123, 3) := by decide +kernel
theorem dX10_laysCheap_373 : decode (dc DX10_laysCheap) 373 = .ok (.iastore, 1) := by decide +kernel
theorem dX10_laysCheap_374 : decode (dc DX10_laysCheap) 374 = .ok (.aload_n 0, 1) := by decide +kernel
theorem dX10_laysCheap_375 : decode (dc DX10_laysCheap) 375 = .ok (.getfield 75, 3) := by decide +kernel
theorem dX10_laysCheap_378 : decode (dc DX10_laysCheap) 378 = .ok (.iload 4, 2) := by decide +kernel
theorem dX10_laysCheap_380 : decode (dc DX10_laysCheap) 380 = .ok (.aaload, 1) := by decide +kernel
theorem dX10_laysCheap_381 : decode (dc DX10_laysCheap) 381 = .ok (.iload 6, 2) := by decide +kernel
theorem dX10_laysCheap_383 : decode (dc DX10_laysCheap) 383 = .ok (.iload 7, 2) := by decide +kernel
theorem dX10_laysCheap_385 : decode (dc DX10_laysCheap) 385 = .ok (.ldc 122, 2) := by decide +kernel
theorem dX10_laysCheap_387 : decode (dc DX10_laysCheap) 387 = .ok (.if_icmp .lt 7, 3) := by decide +kernel
theorem dX10_laysCheap_390 : decode (dc DX10_laysCheap) 390 = .ok (.lconst 0, 1) := by decide +kernel
theorem dX10_laysCheap_391 : decode (dc DX10_laysCheap) 391 = .ok (.goto 5, 3) := by decide +kernel
theorem dX10_laysCheap_394 : decode (dc DX10_laysCheap) 394 = .ok (.lload 8, 2) := by decide +kernel
theorem dX10_laysCheap_396 : decode (dc DX10_laysCheap) 396 = .ok (.lastore, 1) := by decide +kernel
theorem dX10_laysCheap_397 : decode (dc DX10_laysCheap) 397 = .ok (.iinc 6 1, 3) := by decide +kernel
theorem dX10_laysCheap_400 : decode (dc DX10_laysCheap) 400 = .ok (.goto (-266), 3) := by decide +kernel
theorem dX10_laysCheap_403 : decode (dc DX10_laysCheap) 403 = .ok (.iinc 4 (-1), 3) := by decide +kernel
theorem dX10_laysCheap_406 : decode (dc DX10_laysCheap) 406 = .ok (.goto (-314), 3) := by decide +kernel
theorem dX10_laysCheap_409 : decode (dc DX10_laysCheap) 409 = .ok (.return_, 1) := by decide +kernel
theorem dX10_cheap_0 : decode (dc DX10_cheap) 0 = .ok (.aload_n 0, 1) := by decide +kernel
theorem dX10_cheap_1 : decode (dc DX10_cheap) 1 = .ok (.iconst 0, 1) := by decide +kernel
theorem dX10_cheap_2 : decode (dc DX10_cheap) 2 = .ok (.putfield 82, 3) := by decide +kernel
theorem dX10_cheap_5 : decode (dc DX10_cheap) 5 = .ok (.aload_n 0, 1) := by decide +kernel
theorem dX10_cheap_6 : decode (dc DX10_cheap) 6 = .ok (.iload_n 1, 1) := by decide +kernel
theorem dX10_cheap_7 : decode (dc DX10_cheap) 7 = .ok (.iconst 0, 1) := by decide +kernel
theorem dX10_cheap_8 : decode (dc DX10_cheap) 8 = .ok (.iconst 1, 1) := by decide +kernel
theorem dX10_cheap_9 : decode (dc DX10_cheap) 9 = .ok (.invokestatic 127, 3) := by decide +kernel
theorem dX10_cheap_12 : decode (dc DX10_cheap) 12 = .ok (.ifCond .ne 7, 3) := by decide +kernel
theorem dX10_cheap_15 : decode (dc DX10_cheap) 15 = .ok (.iconst 1, 1) := by decide +kernel
theorem dX10_cheap_16 : decode (dc DX10_cheap) 16 = .ok (.goto 4, 3) := by decide +kernel
theorem dX10_cheap_19 : decode (dc DX10_cheap) 19 = .ok (.iconst 0, 1) := by decide +kernel
theorem dX10_cheap_20 : decode (dc DX10_cheap) 20 = .ok (.iconst 1, 1) := by decide +kernel
theorem dX10_cheap_21 : decode (dc DX10_cheap) 21 = .ok (.iconst 1, 1) := by decide +kernel
theorem dX10_cheap_22 : decode (dc DX10_cheap) 22 = .ok (.invokevirtual 217, 3) := by decide +kernel
theorem dX10_cheap_25 : decode (dc DX10_cheap) 25 = .ok (.ifCond .eq 5, 3) := by decide +kernel
theorem dX10_cheap_28 : decode (dc DX10_cheap) 28 = .ok (.iconst 0, 1) := by decide +kernel
theorem dX10_cheap_29 : decode (dc DX10_cheap) 29 = .ok (.ireturn, 1) := by decide +kernel
theorem dX10_cheap_30 : decode (dc DX10_cheap) 30 = .ok (.aload_n 0, 1) := by decide +kernel
theorem dX10_cheap_31 : decode (dc DX10_cheap) 31 = .ok (.invokevirtual 374, 3) := by decide +kernel
theorem dX10_cheap_34 : decode (dc DX10_cheap) 34 = .ok (.aload_n 0, 1) := by decide +kernel
theorem dX10_cheap_35 : decode (dc DX10_cheap) 35 = .ok (.getfield 75, 3) := by decide +kernel
theorem dX10_cheap_38 : decode (dc DX10_cheap) 38 = .ok (.iconst 0, 1) := by decide +kernel
theorem dX10_cheap_39 : decode (dc DX10_cheap) 39 = .ok (.aaload, 1) := by decide +kernel
theorem dX10_cheap_40 : decode (dc DX10_cheap) 40 = .ok (.iconst 0, 1) := by decide +kernel
theorem dX10_cheap_41 : decode (dc DX10_cheap) 41 = .ok (.laload, 1) := by decide +kernel
theorem dX10_cheap_42 : decode (dc DX10_cheap) 42 = .ok (.lstore_n 2, 1) := by decide +kernel
theorem dX10_cheap_43 : decode (dc DX10_cheap) 43 = .ok (.iload_n 1, 1) := by decide +kernel
theorem dX10_cheap_44 : decode (dc DX10_cheap) 44 = .ok (.ifCond .ne 14, 3) := by decide +kernel
theorem dX10_cheap_47 : decode (dc DX10_cheap) 47 = .ok (.aload_n 0, 1) := by decide +kernel
theorem dX10_cheap_48 : decode (dc DX10_cheap) 48 = .ok (.getfield 70, 3) := by decide +kernel
theorem dX10_cheap_51 : decode (dc DX10_cheap) 51 = .ok (.iconst 0, 1) := by decide +kernel
theorem dX10_cheap_52 : decode (dc DX10_cheap) 52 = .ok (.aaload, 1) := by decide +kernel
theorem dX10_cheap_53 : decode (dc DX10_cheap) 53 = .ok (.iconst 0, 1) := by decide +kernel
theorem dX10_cheap_54 : decode (dc DX10_cheap) 54 = .ok (.iaload, 1) := by decide +kernel
theorem dX10_cheap_55 : decode (dc DX10_cheap) 55 = .ok (.goto 19, 3) := by decide +kernel
theorem dX10_cheap_58 : decode (dc DX10_cheap) 58 = .ok (.lload_n 2, 1) := by decide +kernel
theorem dX10_cheap_59 : decode (dc DX10_cheap) 59 = .ok (.ldc2_w 377, 3) := by decide +kernel
theorem dX10_cheap_62 : decode (dc DX10_cheap) 62 = .ok (.lcmp, 1) := by decide +kernel
theorem dX10_cheap_63 : decode (dc DX10_cheap) 63 = .ok (.ifCond .le 9, 3) := by decide +kernel
theorem dX10_cheap_66 : decode (dc DX10_cheap) 66 = .ok (.ldc2_w 377, 3) := by decide +kernel
theorem dX10_cheap_69 : decode (dc DX10_cheap) 69 = .ok (.goto 4, 3) := by decide +kernel
theorem dX10_cheap_72 : decode (dc DX10_cheap) 72 = .ok (.lload_n 2, 1) := by decide +kernel
theorem dX10_cheap_73 : decode (dc DX10_cheap) 73 = .ok (.l2i, 1) := by decide +kernel
theorem dX10_cheap_74 : decode (dc DX10_cheap) 74 = .ok (.ireturn, 1) := by decide +kernel
theorem dX10_cheapest_0 : decode (dc DX10_cheapest) 0 = .ok (.aload_n 0, 1) := by decide +kernel
theorem dX10_cheapest_1 : decode (dc DX10_cheapest) 1 = .ok (.iconst 0, 1) := by decide +kernel
theorem dX10_cheapest_2 : decode (dc DX10_cheapest) 2 = .ok (.putfield 82, 3) := by decide +kernel
theorem dX10_cheapest_5 : decode (dc DX10_cheapest) 5 = .ok (.aload_n 0, 1) := by decide +kernel
theorem dX10_cheapest_6 : decode (dc DX10_cheapest) 6 = .ok (.aload_n 0, 1) := by decide +kernel
theorem dX10_cheapest_7 : decode (dc DX10_cheapest) 7 = .ok (.iconst 0, 1) := by decide +kernel
theorem dX10_cheapest_8 : decode (dc DX10_cheapest) 8 = .ok (.iload_n 1, 1) := by decide +kernel
theorem dX10_cheapest_9 : decode (dc DX10_cheapest) 9 = .ok (.invokevirtual 282, 3) := by decide +kernel
theorem dX10_cheapest_12 : decode (dc DX10_cheapest) 12 = .ok (.ifCond .ne 7, 3) := by decide +kernel
theorem dX10_cheapest_15 : decode (dc DX10_cheapest) 15 = .ok (.iconst 1, 1) := by decide +kernel
theorem dX10_cheapest_16 : decode (dc DX10_cheapest) 16 = .ok (.goto 4, 3) := by decide +kernel
theorem dX10_cheapest_19 : decode (dc DX10_cheapest) 19 = .ok (.iconst 0, 1) := by decide +kernel
theorem dX10_cheapest_20 : decode (dc DX10_cheapest) 20 = .ok (.iconst 1, 1) := by decide +kernel
theorem dX10_cheapest_21 : decode (dc DX10_cheapest) 21 = .ok (.iconst 0, 1) := by decide +kernel
theorem dX10_cheapest_22 : decode (dc DX10_cheapest) 22 = .ok (.invokevirtual 217, 3) := by decide +kernel
theorem dX10_cheapest_25 : decode (dc DX10_cheapest) 25 = .ok (.ifCond .eq 5, 3) := by decide +kernel
theorem dX10_cheapest_28 : decode (dc DX10_cheapest) 28 = .ok (.iconst 0, 1) := by decide +kernel
theorem dX10_cheapest_29 : decode (dc DX10_cheapest) 29 = .ok (.ireturn, 1) := by decide +kernel
theorem dX10_cheapest_30 : decode (dc DX10_cheapest) 30 = .ok (.aload_n 0, 1) := by decide +kernel
theorem dX10_cheapest_31 : decode (dc DX10_cheapest) 31 = .ok (.invokevirtual 374, 3) := by decide +kernel
theorem dX10_cheapest_34 : decode (dc DX10_cheapest) 34 = .ok (.iconst 0, 1) := by decide +kernel
theorem dX10_cheapest_35 : decode (dc DX10_cheapest) 35 = .ok (.istore_n 2, 1) := by decide +kernel
theorem dX10_cheapest_36 : decode (dc DX10_cheapest) 36 = .ok (.iconst (-1), 1) := by decide +kernel
theorem dX10_cheapest_37 : decode (dc DX10_cheapest) 37 = .ok (.istore_n 3, 1) := by decide +kernel
theorem dX10_cheapest_38 : decode (dc DX10_cheapest) 38 = .ok (.iconst 0, 1) := by decide +kernel
theorem dX10_cheapest_39 : decode (dc DX10_cheapest) 39 = .ok (.istore 4, 2) := by decide +kernel
theorem dX10_cheapest_41 : decode (dc DX10_cheapest) 41 = .ok (.iload 4, 2) := by decide +kernel
theorem dX10_cheapest_43 : decode (dc DX10_cheapest) 43 = .ok (.iload_n 1, 1) := by decide +kernel
theorem dX10_cheapest_44 : decode (dc DX10_cheapest) 44 = .ok (.if_icmp .gt 141, 3) := by decide +kernel
theorem dX10_cheapest_47 : decode (dc DX10_cheapest) 47 = .ok (.aload_n 0, 1) := by decide +kernel
theorem dX10_cheapest_48 : decode (dc DX10_cheapest) 48 = .ok (.iconst 0, 1) := by decide +kernel
theorem dX10_cheapest_49 : decode (dc DX10_cheapest) 49 = .ok (.iload 4, 2) := by decide +kernel
theorem dX10_cheapest_51 : decode (dc DX10_cheapest) 51 = .ok (.invokevirtual 240, 3) := by decide +kernel
theorem dX10_cheapest_54 : decode (dc DX10_cheapest) 54 = .ok (.ifCond .eq 28, 3) := by decide +kernel
theorem dX10_cheapest_57 : decode (dc DX10_cheapest) 57 = .ok (.aload_n 0, 1) := by decide +kernel
theorem dX10_cheapest_58 : decode (dc DX10_cheapest) 58 = .ok (.getfield 25, 3) := by decide +kernel
theorem dX10_cheapest_61 : decode (dc DX10_cheapest) 61 = .ok (.iconst 0, 1) := by decide +kernel
theorem dX10_cheapest_62 : decode (dc DX10_cheapest) 62 = .ok (.aaload, 1) := by decide +kernel
theorem dX10_cheapest_63 : decode (dc DX10_cheapest) 63 = .ok (.iload 4, 2) := by decide +kernel
theorem dX10_cheapest_65 : decode (dc DX10_cheapest) 65 = .ok (.iaload, 1) := by decide +kernel
theorem dX10_cheapest_66 : decode (dc DX10_cheapest) 66 = .ok (.aload_n 0, 1) := by decide +kernel
theorem dX10_cheapest_67 : decode (dc DX10_cheapest) 67 = .ok (.getfield 22, 3) := by decide +kernel
theorem dX10_cheapest_70 : decode (dc DX10_cheapest) 70 = .ok (.iconst 0, 1) := by decide +kernel
theorem dX10_cheapest_71 : decode (dc DX10_cheapest) 71 = .ok (.aaload, 1) := by decide +kernel
theorem dX10_cheapest_72 : decode (dc DX10_cheapest) 72 = .ok (.iconst 4, 1) := by decide +kernel
theorem dX10_cheapest_73 : decode (dc DX10_cheapest) 73 = .ok (.iaload, 1) := by decide +kernel
theorem dX10_cheapest_74 : decode (dc DX10_cheapest) 74 = .ok (.iand, 1) := by decide +kernel
theorem dX10_cheapest_75 : decode (dc DX10_cheapest) 75 = .ok (.iload_n 2, 1) := by decide +kernel
theorem dX10_cheapest_76 : decode (dc DX10_cheapest) 76 = .ok (.iconst (-1), 1) := by decide +kernel
theorem dX10_cheapest_77 : decode (dc DX10_cheapest) 77 = .ok (.ixor, 1) := by decide +kernel
theorem dX10_cheapest_78 : decode (dc DX10_cheapest) 78 = .ok (.iand, 1) := by decide +kernel
theorem dX10_cheapest_79 : decode (dc DX10_cheapest) 79 = .ok (.goto 4, 3) := by decide +kernel
theorem dX10_cheapest_82 : decode (dc DX10_cheapest) 82 = .ok (.iconst 0, 1) := by decide +kernel
theorem dX10_cheapest_83 : decode (dc DX10_cheapest) 83 = .ok (.istore 5, 2) := by decide +kernel
theorem dX10_cheapest_85 : decode (dc DX10_cheapest) 85 = .ok (.iconst (-1), 1) := by decide +kernel
theorem dX10_cheapest_86 : decode (dc DX10_cheapest) 86 = .ok (.istore_n 3, 1) := by decide +kernel
theorem dX10_cheapest_87 : decode (dc DX10_cheapest) 87 = .ok (.aload_n 0, 1) := by decide +kernel
theorem dX10_cheapest_88 : decode (dc DX10_cheapest) 88 = .ok (.getfield 22, 3) := by decide +kernel
theorem dX10_cheapest_91 : decode (dc DX10_cheapest) 91 = .ok (.iconst 0, 1) := by decide +kernel
theorem dX10_cheapest_92 : decode (dc DX10_cheapest) 92 = .ok (.aaload, 1) := by decide +kernel
theorem dX10_cheapest_93 : decode (dc DX10_cheapest) 93 = .ok (.iconst 1, 1) := by decide +kernel
theorem dX10_cheapest_94 : decode (dc DX10_cheapest) 94 = .ok (.iaload, 1) := by decide +kernel
theorem dX10_cheapest_95 : decode (dc DX10_cheapest) 95 = .ok (.iconst 1, 1) := by decide +kernel
theorem dX10_cheapest_96 : decode (dc DX10_cheapest) 96 = .ok (.isub, 1) := by decide +kernel
theorem dX10_cheapest_97 : decode (dc DX10_cheapest) 97 = .ok (.istore 6, 2) := by decide +kernel
theorem dX10_cheapest_99 : decode (dc DX10_cheapest) 99 = .ok (.iload 6, 2) := by decide +kernel
theorem dX10_cheapest_101 : decode (dc DX10_cheapest) 101 = .ok (.ifCond .lt 63, 3) := by decide +kernel
theorem dX10_cheapest_104 : decode (dc DX10_cheapest) 104 = .ok (.iload 5, 2) := by decide +kernel
theorem dX10_cheapest_106 : decode (dc DX10_cheapest) 106 = .ok (.iload 6, 2) := by decide +kernel
theorem dX10_cheapest_108 : decode (dc DX10_cheapest) 108 = .ok (.invokestatic 182, 3) := by decide +kernel
theorem dX10_cheapest_111 : decode (dc DX10_cheapest) 111 = .ok (.ifCond .eq 47, 3) := by decide +kernel
theorem dX10_cheapest_114 : decode (dc DX10_cheapest) 114 = .ok (.aload_n 0, 1) := by decide +kernel
theorem dX10_cheapest_115 : decode (dc DX10_cheapest) 115 = .ok (.getfield 36, 3) := by decide +kernel
theorem dX10_cheapest_118 : decode (dc DX10_cheapest) 118 = .ok (.iconst 0, 1) := by decide +kernel
theorem dX10_cheapest_119 : decode (dc DX10_cheapest) 119 = .ok (.aaload, 1) := by decide +kernel
theorem dX10_cheapest_120 : decode (dc DX10_cheapest) 120 = .ok (.iload 4, 2) := by decide +kernel
theorem dX10_cheapest_122 : decode (dc DX10_cheapest) 122 = .ok (.aaload, 1) := by decide +kernel
theorem dX10_cheapest_123 : decode (dc DX10_cheapest) 123 = .ok (.iload 6, 2) := by decide +kernel
theorem dX10_cheapest_125 : decode (dc DX10_cheapest) 125 = .ok (.iaload, 1) := by decide +kernel
theorem dX10_cheapest_126 : decode (dc DX10_cheapest) 126 = .ok (.aload_n 0, 1) := by decide +kernel
theorem dX10_cheapest_127 : decode (dc DX10_cheapest) 127 = .ok (.getfield 70, 3) := by decide +kernel
theorem dX10_cheapest_130 : decode (dc DX10_cheapest) 130 = .ok (.iload 4, 2) := by decide +kernel
theorem dX10_cheapest_132 : decode (dc DX10_cheapest) 132 = .ok (.iconst 1, 1) := by decide +kernel
theorem dX10_cheapest_133 : decode (dc DX10_cheapest) 133 = .ok (.iadd, 1) := by decide +kernel
theorem dX10_cheapest_134 : decode (dc DX10_cheapest) 134 = .ok (.aaload, 1) := by decide +kernel
theorem dX10_cheapest_135 : decode (dc DX10_cheapest) 135 = .ok (.iload_n 2, 1) := by decide +kernel
theorem dX10_cheapest_136 : decode (dc DX10_cheapest) 136 = .ok (.iconst 1, 1) := by decide +kernel
theorem dX10_cheapest_137 : decode (dc DX10_cheapest) 137 = .ok (.iload 6, 2) := by decide +kernel
theorem dX10_cheapest_139 : decode (dc DX10_cheapest) 139 = .ok (.ishl, 1) := by decide +kernel
theorem dX10_cheapest_140 : decode (dc DX10_cheapest) 140 = .ok (.ior, 1) := by decide +kernel
theorem dX10_cheapest_141 : decode (dc DX10_cheapest) 141 = .ok (.iaload, 1) := by decide +kernel
theorem dX10_cheapest_142 : decode (dc DX10_cheapest) 142 = .ok (.iadd, 1) := by decide +kernel
theorem dX10_cheapest_143 : decode (dc DX10_cheapest) 143 = .ok (.aload_n 0, 1) := by decide +kernel
theorem dX10_cheapest_144 : decode (dc DX10_cheapest) 144 = .ok (.getfield 70, 3) := by decide +kernel
theorem dX10_cheapest_147 : decode (dc DX10_cheapest) 147 = .ok (.iload 4, 2) := by decide +kernel
theorem dX10_cheapest_149 : decode (dc DX10_cheapest) 149 = .ok (.aaload, 1) := by decide +kernel
theorem dX10_cheapest_150 : decode (dc DX10_cheapest) 150 = .ok (.iload_n 2, 1) := by decide +kernel
theorem dX10_cheapest_151 : decode (dc DX10_cheapest) 151 = .ok (.iaload, 1) := by decide +kernel
theorem dX10_cheapest_152 : decode (dc DX10_cheapest) 152 = .ok (.if_icmp .ne 6, 3) := by decide +kernel
theorem dX10_cheapest_155 : decode (dc DX10_cheapest) 155 = .ok (.iload 6, 2) := by decide +kernel
theorem dX10_cheapest_157 : decode (dc DX10_cheapest) 157 = .ok (.istore_n 3, 1) := by decide +kernel
theorem dX10_cheapest_158 : decode (dc DX10_cheapest) 158 = .ok (.iinc 6 (-1), 3) := by decide +kernel
theorem dX10_cheapest_161 : decode (dc DX10_cheapest) 161 = .ok (.goto (-62), 3) := by decide +kernel
theorem dX10_cheapest_164 : decode (dc DX10_cheapest) 164 = .ok (.iload_n 2, 1) := by decide +kernel
theorem dX10_cheapest_165 : decode (dc DX10_cheapest) 165 = .ok (.iload_n 3, 1) := by decide +kernel
theorem dX10_cheapest_166 : decode (dc DX10_cheapest) 166 = .ok (.iconst (-1), 1) := by decide +kernel
theorem dX10_cheapest_167 : decode (dc DX10_cheapest) 167 = .ok (.if_icmp .ne 7, 3) := by decide +kernel
theorem dX10_cheapest_170 : decode (dc DX10_cheapest) 170 = .ok (.iconst 0, 1) := by decide +kernel
theorem dX10_cheapest_171 : decode (dc DX10_cheapest) 171 = .ok (.goto 6, 3) := by decide +kernel
theorem dX10_cheapest_174 : decode (dc DX10_cheapest) 174 = .ok (.iconst 1, 1) := by decide +kernel
theorem dX10_cheapest_175 : decode (dc DX10_cheapest) 175 = .ok (.iload_n 3, 1) := by decide +kernel
theorem dX10_cheapest_176 : decode (dc DX10_cheapest) 176 = .ok (.ishl, 1) := by decide +kernel
theorem dX10_cheapest_177 : decode (dc DX10_cheapest) 177 = .ok (.ior, 1) := by decide +kernel
theorem dX10_cheapest_178 : decode (dc DX10_cheapest) 178 = .ok (.istore_n 2, 1) := by decide +kernel
theorem dX10_cheapest_179 : decode (dc DX10_cheapest) 179 = .ok (.iinc 4 1, 3) := by decide +kernel
theorem dX10_cheapest_182 : decode (dc DX10_cheapest) 182 = .ok (.goto (-141), 3) := by decide +kernel
theorem dX10_cheapest_185 : decode (dc DX10_cheapest) 185 = .ok (.iload_n 3, 1) := by decide +kernel
theorem dX10_cheapest_186 : decode (dc DX10_cheapest) 186 = .ok (.ireturn, 1) := by decide +kernel
theorem dX10_narrow_0 : decode (dc DX10_narrow) 0 = .ok (.aload_n 0, 1) := by decide +kernel
theorem dX10_narrow_1 : decode (dc DX10_narrow) 1 = .ok (.iconst 0, 1) := by decide +kernel
theorem dX10_narrow_2 : decode (dc DX10_narrow) 2 = .ok (.putfield 82, 3) := by decide +kernel
theorem dX10_narrow_5 : decode (dc DX10_narrow) 5 = .ok (.aload_n 0, 1) := by decide +kernel
theorem dX10_narrow_6 : decode (dc DX10_narrow) 6 = .ok (.invokevirtual 327, 3) := by decide +kernel
theorem dX10_narrow_9 : decode (dc DX10_narrow) 9 = .ok (.istore_n 1, 1) := by decide +kernel
theorem dX10_narrow_10 : decode (dc DX10_narrow) 10 = .ok (.iload_n 1, 1) := by decide +kernel
theorem dX10_narrow_11 : decode (dc DX10_narrow) 11 = .ok (.ifCond .ne 5, 3) := by decide +kernel
theorem dX10_narrow_14 : decode (dc DX10_narrow) 14 = .ok (.iconst (-1), 1) := by decide +kernel
theorem dX10_narrow_15 : decode (dc DX10_narrow) 15 = .ok (.ireturn, 1) := by decide +kernel
theorem dX10_narrow_16 : decode (dc DX10_narrow) 16 = .ok (.aload_n 0, 1) := by decide +kernel
theorem dX10_narrow_17 : decode (dc DX10_narrow) 17 = .ok (.iconst 0, 1) := by decide +kernel
theorem dX10_narrow_18 : decode (dc DX10_narrow) 18 = .ok (.bipush 17, 2) := by decide +kernel
theorem dX10_narrow_20 : decode (dc DX10_narrow) 20 = .ok (.invokevirtual 228, 3) := by decide +kernel
theorem dX10_narrow_23 : decode (dc DX10_narrow) 23 = .ok (.iconst (-1), 1) := by decide +kernel
theorem dX10_narrow_24 : decode (dc DX10_narrow) 24 = .ok (.istore_n 2, 1) := by decide +kernel
theorem dX10_narrow_25 : decode (dc DX10_narrow) 25 = .ok (.iconst 0, 1) := by decide +kernel
theorem dX10_narrow_26 : decode (dc DX10_narrow) 26 = .ok (.istore_n 3, 1) := by decide +kernel
theorem dX10_narrow_27 : decode (dc DX10_narrow) 27 = .ok (.iload_n 3, 1) := by decide +kernel
theorem dX10_narrow_28 : decode (dc DX10_narrow) 28 = .ok (.iload_n 1, 1) := by decide +kernel
theorem dX10_narrow_29 : decode (dc DX10_narrow) 29 = .ok (.if_icmp .ge 110, 3) := by decide +kernel
theorem dX10_narrow_32 : decode (dc DX10_narrow) 32 = .ok (.iinc 2 1, 3) := by decide +kernel
theorem dX10_narrow_35 : decode (dc DX10_narrow) 35 = .ok (.iconst 0, 1) := by decide +kernel
theorem dX10_narrow_36 : decode (dc DX10_narrow) 36 = .ok (.istore 4, 2) := by decide +kernel
theorem dX10_narrow_38 : decode (dc DX10_narrow) 38 = .ok (.iload 4, 2) := by decide +kernel
theorem dX10_narrow_40 : decode (dc DX10_narrow) 40 = .ok (.bipush 12, 2) := by decide +kernel
theorem dX10_narrow_42 : decode (dc DX10_narrow) 42 = .ok (.if_icmp .ge 89, 3) := by decide +kernel
theorem dX10_narrow_45 : decode (dc DX10_narrow) 45 = .ok (.aload_n 0, 1) := by decide +kernel
theorem dX10_narrow_46 : decode (dc DX10_narrow) 46 = .ok (.getfield 25, 3) := by decide +kernel
theorem dX10_narrow_49 : decode (dc DX10_narrow) 49 = .ok (.iconst 0, 1) := by decide +kernel
theorem dX10_narrow_50 : decode (dc DX10_narrow) 50 = .ok (.aaload, 1) := by decide +kernel
theorem dX10_narrow_51 : decode (dc DX10_narrow) 51 = .ok (.iload 4, 2) := by decide +kernel
theorem dX10_narrow_53 : decode (dc DX10_narrow) 53 = .ok (.iconst 0, 1) := by decide +kernel
theorem dX10_narrow_54 : decode (dc DX10_narrow) 54 = .ok (.iastore, 1) := by decide +kernel
theorem dX10_narrow_55 : decode (dc DX10_narrow) 55 = .ok (.iconst 0, 1) := by decide +kernel
theorem dX10_narrow_56 : decode (dc DX10_narrow) 56 = .ok (.istore 5, 2) := by decide +kernel
theorem dX10_narrow_58 : decode (dc DX10_narrow) 58 = .ok (.iload 5, 2) := by decide +kernel
theorem dX10_narrow_60 : decode (dc DX10_narrow) 60 = .ok (.bipush 12, 2) := by decide +kernel
theorem dX10_narrow_62 : decode (dc DX10_narrow) 62 = .ok (.if_icmp .ge 63, 3) := by decide +kernel
theorem dX10_narrow_65 : decode (dc DX10_narrow) 65 = .ok (.aload_n 0, 1) := by decide +kernel
theorem dX10_narrow_66 : decode (dc DX10_narrow) 66 = .ok (.getfield 25, 3) := by decide +kernel
theorem dX10_narrow_69 : decode (dc DX10_narrow) 69 = .ok (.iconst 0, 1) := by decide +kernel
theorem dX10_narrow_70 : decode (dc DX10_narrow) 70 = .ok (.aaload, 1) := by decide +kernel
theorem dX10_narrow_71 : decode (dc DX10_narrow) 71 = .ok (.iload 4, 2) := by decide +kernel
theorem dX10_narrow_73 : decode (dc DX10_narrow) 73 = .ok (.dup2, 1) := by decide +kernel
theorem dX10_narrow_74 : decode (dc DX10_narrow) 74 = .ok (.iaload, 1) := by decide +kernel
theorem dX10_narrow_75 : decode (dc DX10_narrow) 75 = .ok (.aload_n 0, 1) := by decide +kernel
theorem dX10_narrow_76 : decode (dc DX10_narrow) 76 = .ok (.getfield 25, 3) := by decide +kernel
theorem dX10_narrow_79 : decode (dc DX10_narrow) 79 = .ok (.bipush 17, 2) := by decide +kernel
theorem dX10_narrow_81 : decode (dc DX10_narrow) 81 = .ok (.aaload, 1) := by decide +kernel
theorem dX10_narrow_82 : decode (dc DX10_narrow) 82 = .ok (.iload 4, 2) := by decide +kernel
theorem dX10_narrow_84 : decode (dc DX10_narrow) 84 = .ok (.iaload, 1) := by decide +kernel
theorem dX10_narrow_85 : decode (dc DX10_narrow) 85 = .ok (.iload 5, 2) := by decide +kernel
theorem dX10_narrow_87 : decode (dc DX10_narrow) 87 = .ok (.invokestatic 182, 3) := by decide +kernel
theorem dX10_narrow_90 : decode (dc DX10_narrow) 90 = .ok (.ifCond .eq 26, 3) := by decide +kernel
theorem dX10_narrow_93 : decode (dc DX10_narrow) 93 = .ok (.aload_n 0, 1) := by decide +kernel
theorem dX10_narrow_94 : decode (dc DX10_narrow) 94 = .ok (.getfield 36, 3) := by decide +kernel
theorem dX10_narrow_97 : decode (dc DX10_narrow) 97 = .ok (.iconst 0, 1) := by decide +kernel
theorem dX10_narrow_98 : decode (dc DX10_narrow) 98 = .ok (.aaload, 1) := by decide +kernel
theorem dX10_narrow_99 : decode (dc DX10_narrow) 99 = .ok (.iload 4, 2) := by decide +kernel
theorem dX10_narrow_101 : decode (dc DX10_narrow) 101 = .ok (.aaload, 1) := by decide +kernel
theorem dX10_narrow_102 : decode (dc DX10_narrow) 102 = .ok (.iload 5, 2) := by decide +kernel
theorem dX10_narrow_104 : decode (dc DX10_narrow) 104 = .ok (.iaload, 1) := by decide +kernel
theorem dX10_narrow_105 : decode (dc DX10_narrow) 105 = .ok (.iload_n 2, 1) := by decide +kernel
theorem dX10_narrow_106 : decode (dc DX10_narrow) 106 = .ok (.if_icmp .gt 10, 3) := by decide +kernel
theorem dX10_narrow_109 : decode (dc DX10_narrow) 109 = .ok (.iconst 1, 1) := by decide +kernel
theorem dX10_narrow_110 : decode (dc DX10_narrow) 110 = .ok (.iload 5, 2) := by decide +kernel
theorem dX10_narrow_112 : decode (dc DX10_narrow) 112 = .ok (.ishl, 1) := by decide +kernel
theorem dX10_narrow_113 : decode (dc DX10_narrow) 113 = .ok (.goto 4, 3) := by decide +kernel
theorem dX10_narrow_116 : decode (dc DX10_narrow) 116 = .ok (.iconst 0, 1) := by decide +kernel
theorem dX10_narrow_117 : decode (dc DX10_narrow) 117 = .ok (.ior, 1) := by decide +kernel
theorem dX10_narrow_118 : decode (dc DX10_narrow) 118 = .ok (.iastore, 1) := by decide +kernel
theorem dX10_narrow_119 : decode (dc DX10_narrow) 119 = .ok (.iinc 5 1, 3) := by decide +kernel
theorem dX10_narrow_122 : decode (dc DX10_narrow) 122 = .ok (.goto (-64), 3) := by decide +kernel
theorem dX10_narrow_125 : decode (dc DX10_narrow) 125 = .ok (.iinc 4 1, 3) := by decide +kernel
theorem dX10_narrow_128 : decode (dc DX10_narrow) 128 = .ok (.goto (-90), 3) := by decide +kernel
theorem dX10_narrow_131 : decode (dc DX10_narrow) 131 = .ok (.aload_n 0, 1) := by decide +kernel
theorem dX10_narrow_132 : decode (dc DX10_narrow) 132 = .ok (.invokevirtual 327, 3) := by decide +kernel
theorem dX10_narrow_135 : decode (dc DX10_narrow) 135 = .ok (.istore_n 3, 1) := by decide +kernel
theorem dX10_narrow_136 : decode (dc DX10_narrow) 136 = .ok (.goto (-109), 3) := by decide +kernel
theorem dX10_narrow_139 : decode (dc DX10_narrow) 139 = .ok (.aload_n 0, 1) := by decide +kernel
theorem dX10_narrow_140 : decode (dc DX10_narrow) 140 = .ok (.bipush 17, 2) := by decide +kernel
theorem dX10_narrow_142 : decode (dc DX10_narrow) 142 = .ok (.iconst 0, 1) := by decide +kernel
theorem dX10_narrow_143 : decode (dc DX10_narrow) 143 = .ok (.invokevirtual 228, 3) := by decide +kernel
theorem dX10_narrow_146 : decode (dc DX10_narrow) 146 = .ok (.iload_n 2, 1) := by decide +kernel
theorem dX10_narrow_147 : decode (dc DX10_narrow) 147 = .ok (.ireturn, 1) := by decide +kernel
theorem dX10_more__0 : decode (dc DX10_more_) 0 = .ok (.aload_n 0, 1) := by decide +kernel
theorem dX10_more__1 : decode (dc DX10_more_) 1 = .ok (.iconst 0, 1) := by decide +kernel
theorem dX10_more__2 : decode (dc DX10_more_) 2 = .ok (.putfield 82, 3) := by decide +kernel
theorem dX10_more__5 : decode (dc DX10_more_) 5 = .ok (.aload_n 0, 1) := by decide +kernel
theorem dX10_more__6 : decode (dc DX10_more_) 6 = .ok (.iload_n 1, 1) := by decide +kernel
theorem dX10_more__7 : decode (dc DX10_more_) 7 = .ok (.iconst 0, 1) := by decide +kernel
theorem dX10_more__8 : decode (dc DX10_more_) 8 = .ok (.iconst 1, 1) := by decide +kernel
theorem dX10_more__9 : decode (dc DX10_more_) 9 = .ok (.invokestatic 127, 3) := by decide +kernel
theorem dX10_more__12 : decode (dc DX10_more_) 12 = .ok (.ifCond .ne 7, 3) := by decide +kernel
theorem dX10_more__15 : decode (dc DX10_more_) 15 = .ok (.iconst 1, 1) := by decide +kernel
theorem dX10_more__16 : decode (dc DX10_more_) 16 = .ok (.goto 4, 3) := by decide +kernel
theorem dX10_more__19 : decode (dc DX10_more_) 19 = .ok (.iconst 0, 1) := by decide +kernel
theorem dX10_more__20 : decode (dc DX10_more_) 20 = .ok (.iconst 1, 1) := by decide +kernel
theorem dX10_more__21 : decode (dc DX10_more_) 21 = .ok (.iconst 1, 1) := by decide +kernel
theorem dX10_more__22 : decode (dc DX10_more_) 22 = .ok (.invokevirtual 217, 3) := by decide +kernel
theorem dX10_more__25 : decode (dc DX10_more_) 25 = .ok (.ifCond .eq 5, 3) := by decide +kernel
theorem dX10_more__28 : decode (dc DX10_more_) 28 = .ok (.iconst 0, 1) := by decide +kernel
theorem dX10_more__29 : decode (dc DX10_more_) 29 = .ok (.ireturn, 1) := by decide +kernel
theorem dX10_more__30 : decode (dc DX10_more_) 30 = .ok (.iconst 0, 1) := by decide +kernel
theorem dX10_more__31 : decode (dc DX10_more_) 31 = .ok (.istore_n 2, 1) := by decide +kernel
theorem dX10_more__32 : decode (dc DX10_more_) 32 = .ok (.iconst (-1), 1) := by decide +kernel
theorem dX10_more__33 : decode (dc DX10_more_) 33 = .ok (.istore_n 3, 1) := by decide +kernel
theorem dX10_more__34 : decode (dc DX10_more_) 34 = .ok (.aload_n 0, 1) := by decide +kernel
theorem dX10_more__35 : decode (dc DX10_more_) 35 = .ok (.invokevirtual 327, 3) := by decide +kernel
theorem dX10_more__38 : decode (dc DX10_more_) 38 = .ok (.istore 4, 2) := by decide +kernel
theorem dX10_more__40 : decode (dc DX10_more_) 40 = .ok (.iconst 0, 1) := by decide +kernel
theorem dX10_more__41 : decode (dc DX10_more_) 41 = .ok (.istore 5, 2) := by decide +kernel
theorem dX10_more__43 : decode (dc DX10_more_) 43 = .ok (.iload 5, 2) := by decide +kernel
theorem dX10_more__45 : decode (dc DX10_more_) 45 = .ok (.aload_n 0, 1) := by decide +kernel
theorem dX10_more__46 : decode (dc DX10_more_) 46 = .ok (.getfield 22, 3) := by decide +kernel
theorem dX10_more__49 : decode (dc DX10_more_) 49 = .ok (.iconst 0, 1) := by decide +kernel
theorem dX10_more__50 : decode (dc DX10_more_) 50 = .ok (.aaload, 1) := by decide +kernel
theorem dX10_more__51 : decode (dc DX10_more_) 51 = .ok (.iconst 0, 1) := by decide +kernel
theorem dX10_more__52 : decode (dc DX10_more_) 52 = .ok (.iaload, 1) := by decide +kernel
theorem dX10_more__53 : decode (dc DX10_more_) 53 = .ok (.if_icmp .ge 144, 3) := by decide +kernel
theorem dX10_more__56 : decode (dc DX10_more_) 56 = .ok (.iconst 0, 1) := by decide +kernel
theorem dX10_more__57 : decode (dc DX10_more_) 57 = .ok (.istore 6, 2) := by decide +kernel
theorem dX10_more__59 : decode (dc DX10_more_) 59 = .ok (.iload 6, 2) := by decide +kernel
theorem dX10_more__61 : decode (dc DX10_more_) 61 = .ok (.aload_n 0, 1) := by decide +kernel
theorem dX10_more__62 : decode (dc DX10_more_) 62 = .ok (.getfield 22, 3) := by decide +kernel
theorem dX10_more__65 : decode (dc DX10_more_) 65 = .ok (.iconst 0, 1) := by decide +kernel
theorem dX10_more__66 : decode (dc DX10_more_) 66 = .ok (.aaload, 1) := by decide +kernel
theorem dX10_more__67 : decode (dc DX10_more_) 67 = .ok (.iconst 1, 1) := by decide +kernel
theorem dX10_more__68 : decode (dc DX10_more_) 68 = .ok (.iaload, 1) := by decide +kernel
theorem dX10_more__69 : decode (dc DX10_more_) 69 = .ok (.if_icmp .ge 122, 3) := by decide +kernel
theorem dX10_more__72 : decode (dc DX10_more_) 72 = .ok (.aload_n 0, 1) := by decide +kernel
theorem dX10_more__73 : decode (dc DX10_more_) 73 = .ok (.iload 5, 2) := by decide +kernel
theorem dX10_more__75 : decode (dc DX10_more_) 75 = .ok (.iload 6, 2) := by decide +kernel
theorem dX10_more__77 : decode (dc DX10_more_) 77 = .ok (.invokevirtual 285, 3) := by decide +kernel
theorem dX10_more__80 : decode (dc DX10_more_) 80 = .ok (.ifCond .ne 105, 3) := by decide +kernel
theorem dX10_more__83 : decode (dc DX10_more_) 83 = .ok (.aload_n 0, 1) := by decide +kernel
theorem dX10_more__84 : decode (dc DX10_more_) 84 = .ok (.iconst 0, 1) := by decide +kernel
theorem dX10_more__85 : decode (dc DX10_more_) 85 = .ok (.iload 5, 2) := by decide +kernel
theorem dX10_more__87 : decode (dc DX10_more_) 87 = .ok (.invokevirtual 240, 3) := by decide +kernel
theorem dX10_more__90 : decode (dc DX10_more_) 90 = .ok (.ifCond .eq 95, 3) := by decide +kernel
theorem dX10_more__93 : decode (dc DX10_more_) 93 = .ok (.aload_n 0, 1) := by decide +kernel
theorem dX10_more__94 : decode (dc DX10_more_) 94 = .ok (.iconst 1, 1) := by decide +kernel
theorem dX10_more__95 : decode (dc DX10_more_) 95 = .ok (.iload 6, 2) := by decide +kernel
theorem dX10_more__97 : decode (dc DX10_more_) 97 = .ok (.invokevirtual 240, 3) := by decide +kernel
theorem dX10_more__100 : decode (dc DX10_more_) 100 = .ok (.ifCond .ne 6, 3) := by decide +kernel
theorem dX10_more__103 : decode (dc DX10_more_) 103 = .ok (.goto 82, 3) := by decide +kernel
theorem dX10_more__106 : decode (dc DX10_more_) 106 = .ok (.aload_n 0, 1) := by decide +kernel
theorem dX10_more__107 : decode (dc DX10_more_) 107 = .ok (.getfield 25, 3) := by decide +kernel
theorem dX10_more__110 : decode (dc DX10_more_) 110 = .ok (.iconst 0, 1) := by decide +kernel
theorem dX10_more__111 : decode (dc DX10_more_) 111 = .ok (.aaload, 1) := by decide +kernel
theorem dX10_more__112 : decode (dc DX10_more_) 112 = .ok (.iload 5, 2) := by decide +kernel
theorem dX10_more__114 : decode (dc DX10_more_) 114 = .ok (.dup2, 1) := by decide +kernel
theorem dX10_more__115 : decode (dc DX10_more_) 115 = .ok (.iaload, 1) := by decide +kernel
theorem dX10_more__116 : decode (dc DX10_more_) 116 = .ok (.iconst 1, 1) := by decide +kernel
theorem dX10_more__117 : decode (dc DX10_more_) 117 = .ok (.iload 6, 2) := by decide +kernel
theorem dX10_more__119 : decode (dc DX10_more_) 119 = .ok (.ishl, 1) := by decide +kernel
theorem dX10_more__120 : decode (dc DX10_more_) 120 = .ok (.ior, 1) := by decide +kernel
theorem dX10_more__121 : decode (dc DX10_more_) 121 = .ok (.iastore, 1) := by decide +kernel
theorem dX10_more__122 : decode (dc DX10_more_) 122 = .ok (.aload_n 0, 1) := by decide +kernel
theorem dX10_more__123 : decode (dc DX10_more_) 123 = .ok (.invokevirtual 327, 3) := by decide +kernel
theorem dX10_more__126 : decode (dc DX10_more_) 126 = .ok (.iload 4, 2) := by decide +kernel
theorem dX10_more__128 : decode (dc DX10_more_) 128 = .ok (.if_icmp .le 7, 3) := by decide +kernel
theorem dX10_more__131 : decode (dc DX10_more_) 131 = .ok (.iconst 1, 1) := by decide +kernel
theorem dX10_more__132 : decode (dc DX10_more_) 132 = .ok (.goto 4, 3) := by decide +kernel
theorem dX10_more__135 : decode (dc DX10_more_) 135 = .ok (.iconst 0, 1) := by decide +kernel
theorem dX10_more__136 : decode (dc DX10_more_) 136 = .ok (.istore 7, 2) := by decide +kernel
theorem dX10_more__138 : decode (dc DX10_more_) 138 = .ok (.aload_n 0, 1) := by decide +kernel
theorem dX10_more__139 : decode (dc DX10_more_) 139 = .ok (.getfield 25, 3) := by decide +kernel
theorem dX10_more__142 : decode (dc DX10_more_) 142 = .ok (.iconst 0, 1) := by decide +kernel
theorem dX10_more__143 : decode (dc DX10_more_) 143 = .ok (.aaload, 1) := by decide +kernel
theorem dX10_more__144 : decode (dc DX10_more_) 144 = .ok (.iload 5, 2) := by decide +kernel
theorem dX10_more__146 : decode (dc DX10_more_) 146 = .ok (.dup2, 1) := by decide +kernel
theorem dX10_more__147 : decode (dc DX10_more_) 147 = .ok (.iaload, 1) := by decide +kernel
theorem dX10_more__148 : decode (dc DX10_more_) 148 = .ok (.iconst 1, 1) := by decide +kernel
theorem dX10_more__149 : decode (dc DX10_more_) 149 = .ok (.iload 6, 2) := by decide +kernel
theorem dX10_more__151 : decode (dc DX10_more_) 151 = .ok (.ishl, 1) := by decide +kernel
theorem dX10_more__152 : decode (dc DX10_more_) 152 = .ok (.iconst (-1), 1) := by decide +kernel
theorem dX10_more__153 : decode (dc DX10_more_) 153 = .ok (.ixor, 1) := by decide +kernel
theorem dX10_more__154 : decode (dc DX10_more_) 154 = .ok (.iand, 1) := by decide +kernel
theorem dX10_more__155 : decode (dc DX10_more_) 155 = .ok (.iastore, 1) := by decide +kernel
theorem dX10_more__156 : decode (dc DX10_more_) 156 = .ok (.iload 7, 2) := by decide +kernel
theorem dX10_more__158 : decode (dc DX10_more_) 158 = .ok (.ifCond .ne 6, 3) := by decide +kernel
theorem dX10_more__161 : decode (dc DX10_more_) 161 = .ok (.goto 24, 3) := by decide +kernel
theorem dX10_more__164 : decode (dc DX10_more_) 164 = .ok (.iload_n 3, 1) := by decide +kernel
theorem dX10_more__165 : decode (dc DX10_more_) 165 = .ok (.iconst (-1), 1) := by decide +kernel
theorem dX10_more__166 : decode (dc DX10_more_) 166 = .ok (.if_icmp .ne 14, 3) := by decide +kernel
theorem dX10_more__169 : decode (dc DX10_more_) 169 = .ok (.bipush 100, 2) := by decide +kernel
theorem dX10_more__171 : decode (dc DX10_more_) 171 = .ok (.iload 5, 2) := by decide +kernel
theorem dX10_more__173 : decode (dc DX10_more_) 173 = .ok (.imul, 1) := by decide +kernel
theorem dX10_more__174 : decode (dc DX10_more_) 174 = .ok (.iload 6, 2) := by decide +kernel
theorem dX10_more__176 : decode (dc DX10_more_) 176 = .ok (.iadd, 1) := by decide +kernel
theorem dX10_more__177 : decode (dc DX10_more_) 177 = .ok (.goto 4, 3) := by decide +kernel
theorem dX10_more__180 : decode (dc DX10_more_) 180 = .ok (.iload_n 3, 1) := by decide +kernel
theorem dX10_more__181 : decode (dc DX10_more_) 181 = .ok (.istore_n 3, 1) := by decide +kernel
theorem dX10_more__182 : decode (dc DX10_more_) 182 = .ok (.iinc 2 1, 3) := by decide +kernel
theorem dX10_more__185 : decode (dc DX10_more_) 185 = .ok (.iinc 6 1, 3) := by decide +kernel
theorem dX10_more__188 : decode (dc DX10_more_) 188 = .ok (.goto (-129), 3) := by decide +kernel
theorem dX10_more__191 : decode (dc DX10_more_) 191 = .ok (.iinc 5 1, 3) := by decide +kernel
theorem dX10_more__194 : decode (dc DX10_more_) 194 = .ok (.goto (-151), 3) := by decide +kernel
theorem dX10_more__197 : decode (dc DX10_more_) 197 = .ok (.iload_n 1, 1) := by decide +kernel
theorem dX10_more__198 : decode (dc DX10_more_) 198 = .ok (.ifCond .ne 7, 3) := by decide +kernel
theorem dX10_more__201 : decode (dc DX10_more_) 201 = .ok (.iload_n 2, 1) := by decide +kernel
theorem dX10_more__202 : decode (dc DX10_more_) 202 = .ok (.goto 4, 3) := by decide +kernel
theorem dX10_more__205 : decode (dc DX10_more_) 205 = .ok (.iload_n 3, 1) := by decide +kernel
theorem dX10_more__206 : decode (dc DX10_more_) 206 = .ok (.ireturn, 1) := by decide +kernel
theorem dX10_firstBut_0 {l : Nat} : decode (dc (DX10_firstBut l)) 0 = .ok (.iload_n 1, 1) := (show decode cX10_firstBut 0 = .ok (.iload_n 1, 1) from by decide +kernel)
theorem dX10_firstBut_1 {l : Nat} : decode (dc (DX10_firstBut l)) 1 = .ok (.istore 4, 2) := (show decode cX10_firstBut 1 = .ok (.istore 4, 2) from by decide +kernel)
theorem dX10_firstBut_3 {l : Nat} : decode (dc (DX10_firstBut l)) 3 = .ok (.iload 4, 2) := (show decode cX10_firstBut 3 = .ok (.iload 4, 2) from by decide +kernel)
theorem dX10_firstBut_5 {l : Nat} : decode (dc (DX10_firstBut l)) 5 = .ok (.sipush 144, 3) := (show decode cX10_firstBut 5 = .ok (.sipush 144, 3) from by decide +kernel)
theorem dX10_firstBut_8 {l : Nat} : decode (dc (DX10_firstBut l)) 8 = .ok (.if_icmp .ge 120, 3) := (show decode cX10_firstBut 8 = .ok (.if_icmp .ge 120, 3) from by decide +kernel)
theorem dX10_firstBut_11 {l : Nat} : decode (dc (DX10_firstBut l)) 11 = .ok (.iload 4, 2) := (show decode cX10_firstBut 11 = .ok (.iload 4, 2) from by decide +kernel)
theorem dX10_firstBut_13 {l : Nat} : decode (dc (DX10_firstBut l)) 13 = .ok (.bipush 12, 2) := (show decode cX10_firstBut 13 = .ok (.bipush 12, 2) from by decide +kernel)
theorem dX10_firstBut_15 {l : Nat} : decode (dc (DX10_firstBut l)) 15 = .ok (.idiv, 1) := (show decode cX10_firstBut 15 = .ok (.idiv, 1) from by decide +kernel)
theorem dX10_firstBut_16 {l : Nat} : decode (dc (DX10_firstBut l)) 16 = .ok (.istore 5, 2) := (show decode cX10_firstBut 16 = .ok (.istore 5, 2) from by decide +kernel)
theorem dX10_firstBut_18 {l : Nat} : decode (dc (DX10_firstBut l)) 18 = .ok (.iload 4, 2) := (show decode cX10_firstBut 18 = .ok (.iload 4, 2) from by decide +kernel)
theorem dX10_firstBut_20 {l : Nat} : decode (dc (DX10_firstBut l)) 20 = .ok (.bipush 12, 2) := (show decode cX10_firstBut 20 = .ok (.bipush 12, 2) from by decide +kernel)
theorem dX10_firstBut_22 {l : Nat} : decode (dc (DX10_firstBut l)) 22 = .ok (.irem, 1) := (show decode cX10_firstBut 22 = .ok (.irem, 1) from by decide +kernel)
theorem dX10_firstBut_23 {l : Nat} : decode (dc (DX10_firstBut l)) 23 = .ok (.istore 6, 2) := (show decode cX10_firstBut 23 = .ok (.istore 6, 2) from by decide +kernel)
theorem dX10_firstBut_25 {l : Nat} : decode (dc (DX10_firstBut l)) 25 = .ok (.aload_n 0, 1) := (show decode cX10_firstBut 25 = .ok (.aload_n 0, 1) from by decide +kernel)
theorem dX10_firstBut_26 {l : Nat} : decode (dc (DX10_firstBut l)) 26 = .ok (.iload 5, 2) := (show decode cX10_firstBut 26 = .ok (.iload 5, 2) from by decide +kernel)
theorem dX10_firstBut_28 {l : Nat} : decode (dc (DX10_firstBut l)) 28 = .ok (.iload 6, 2) := (show decode cX10_firstBut 28 = .ok (.iload 6, 2) from by decide +kernel)
theorem dX10_firstBut_30 {l : Nat} : decode (dc (DX10_firstBut l)) 30 = .ok (.invokevirtual 285, 3) := (show decode cX10_firstBut 30 = .ok (.invokevirtual 285, 3) from by decide +kernel)
theorem dX10_firstBut_33 {l : Nat} : decode (dc (DX10_firstBut l)) 33 = .ok (.ifCond .ne 6, 3) := (show decode cX10_firstBut 33 = .ok (.ifCond .ne 6, 3) from by decide +kernel)
theorem dX10_firstBut_36 {l : Nat} : decode (dc (DX10_firstBut l)) 36 = .ok (.goto 86, 3) := (show decode cX10_firstBut 36 = .ok (.goto 86, 3) from by decide +kernel)
theorem dX10_firstBut_39 {l : Nat} : decode (dc (DX10_firstBut l)) 39 = .ok (.aload_n 0, 1) := (show decode cX10_firstBut 39 = .ok (.aload_n 0, 1) from by decide +kernel)
theorem dX10_firstBut_40 {l : Nat} : decode (dc (DX10_firstBut l)) 40 = .ok (.getfield 25, 3) := (show decode cX10_firstBut 40 = .ok (.getfield 25, 3) from by decide +kernel)
theorem dX10_firstBut_43 {l : Nat} : decode (dc (DX10_firstBut l)) 43 = .ok (.iconst 0, 1) := (show decode cX10_firstBut 43 = .ok (.iconst 0, 1) from by decide +kernel)
theorem dX10_firstBut_44 {l : Nat} : decode (dc (DX10_firstBut l)) 44 = .ok (.aaload, 1) := (show decode cX10_firstBut 44 = .ok (.aaload, 1) from by decide +kernel)
theorem dX10_firstBut_45 {l : Nat} : decode (dc (DX10_firstBut l)) 45 = .ok (.iload 5, 2) := (show decode cX10_firstBut 45 = .ok (.iload 5, 2) from by decide +kernel)
theorem dX10_firstBut_47 {l : Nat} : decode (dc (DX10_firstBut l)) 47 = .ok (.dup2, 1) := (show decode cX10_firstBut 47 = .ok (.dup2, 1) from by decide +kernel)
theorem dX10_firstBut_48 {l : Nat} : decode (dc (DX10_firstBut l)) 48 = .ok (.iaload, 1) := (show decode cX10_firstBut 48 = .ok (.iaload, 1) from by decide +kernel)
theorem dX10_firstBut_49 {l : Nat} : decode (dc (DX10_firstBut l)) 49 = .ok (.iconst 1, 1) := (show decode cX10_firstBut 49 = .ok (.iconst 1, 1) from by decide +kernel)
theorem dX10_firstBut_50 {l : Nat} : decode (dc (DX10_firstBut l)) 50 = .ok (.iload 6, 2) := (show decode cX10_firstBut 50 = .ok (.iload 6, 2) from by decide +kernel)
theorem dX10_firstBut_52 {l : Nat} : decode (dc (DX10_firstBut l)) 52 = .ok (.ishl, 1) := (show decode cX10_firstBut 52 = .ok (.ishl, 1) from by decide +kernel)
theorem dX10_firstBut_53 {l : Nat} : decode (dc (DX10_firstBut l)) 53 = .ok (.iconst (-1), 1) := (show decode cX10_firstBut 53 = .ok (.iconst (-1), 1) from by decide +kernel)
theorem dX10_firstBut_54 {l : Nat} : decode (dc (DX10_firstBut l)) 54 = .ok (.ixor, 1) := (show decode cX10_firstBut 54 = .ok (.ixor, 1) from by decide +kernel)
theorem dX10_firstBut_55 {l : Nat} : decode (dc (DX10_firstBut l)) 55 = .ok (.iand, 1) := (show decode cX10_firstBut 55 = .ok (.iand, 1) from by decide +kernel)
theorem dX10_firstBut_56 {l : Nat} : decode (dc (DX10_firstBut l)) 56 = .ok (.iastore, 1) := (show decode cX10_firstBut 56 = .ok (.iastore, 1) from by decide +kernel)
theorem dX10_firstBut_57 {l : Nat} : decode (dc (DX10_firstBut l)) 57 = .ok (.iload_n 3, 1) := (show decode cX10_firstBut 57 = .ok (.iload_n 3, 1) from by decide +kernel)
theorem dX10_firstBut_58 {l : Nat} : decode (dc (DX10_firstBut l)) 58 = .ok (.ifCond .eq 25, 3) := (show decode cX10_firstBut 58 = .ok (.ifCond .eq 25, 3) from by decide +kernel)
theorem dX10_firstBut_61 {l : Nat} : decode (dc (DX10_firstBut l)) 61 = .ok (.aload_n 0, 1) := (show decode cX10_firstBut 61 = .ok (.aload_n 0, 1) from by decide +kernel)
theorem dX10_firstBut_62 {l : Nat} : decode (dc (DX10_firstBut l)) 62 = .ok (.iload 4, 2) := (show decode cX10_firstBut 62 = .ok (.iload 4, 2) from by decide +kernel)
theorem dX10_firstBut_64 {l : Nat} : decode (dc (DX10_firstBut l)) 64 = .ok (.iconst 1, 1) := (show decode cX10_firstBut 64 = .ok (.iconst 1, 1) from by decide +kernel)
theorem dX10_firstBut_65 {l : Nat} : decode (dc (DX10_firstBut l)) 65 = .ok (.iadd, 1) := (show decode cX10_firstBut 65 = .ok (.iadd, 1) from by decide +kernel)
theorem dX10_firstBut_66 {l : Nat} : decode (dc (DX10_firstBut l)) 66 = .ok (.iload_n 2, 1) := (show decode cX10_firstBut 66 = .ok (.iload_n 2, 1) from by decide +kernel)
theorem dX10_firstBut_67 {l : Nat} : decode (dc (DX10_firstBut l)) 67 = .ok (.iconst 0, 1) := (show decode cX10_firstBut 67 = .ok (.iconst 0, 1) from by decide +kernel)
theorem dX10_firstBut_68 {l : Nat} : decode (dc (DX10_firstBut l)) 68 = .ok (.invokevirtual 379, 3) := (show decode cX10_firstBut 68 = .ok (.invokevirtual 379, 3) from by decide +kernel)
theorem dX10_firstBut_71 {l : Nat} : decode (dc (DX10_firstBut l)) 71 = .ok (.iconst (-1), 1) := (show decode cX10_firstBut 71 = .ok (.iconst (-1), 1) from by decide +kernel)
theorem dX10_firstBut_72 {l : Nat} : decode (dc (DX10_firstBut l)) 72 = .ok (.if_icmp .eq 7, 3) := (show decode cX10_firstBut 72 = .ok (.if_icmp .eq 7, 3) from by decide +kernel)
theorem dX10_firstBut_75 {l : Nat} : decode (dc (DX10_firstBut l)) 75 = .ok (.iconst 1, 1) := (show decode cX10_firstBut 75 = .ok (.iconst 1, 1) from by decide +kernel)
theorem dX10_firstBut_76 {l : Nat} : decode (dc (DX10_firstBut l)) 76 = .ok (.goto 20, 3) := (show decode cX10_firstBut 76 = .ok (.goto 20, 3) from by decide +kernel)
theorem dX10_firstBut_79 {l : Nat} : decode (dc (DX10_firstBut l)) 79 = .ok (.iconst 0, 1) := (show decode cX10_firstBut 79 = .ok (.iconst 0, 1) from by decide +kernel)
theorem dX10_firstBut_80 {l : Nat} : decode (dc (DX10_firstBut l)) 80 = .ok (.goto 16, 3) := (show decode cX10_firstBut 80 = .ok (.goto 16, 3) from by decide +kernel)
theorem dX10_firstBut_83 {l : Nat} : decode (dc (DX10_firstBut l)) 83 = .ok (.aload_n 0, 1) := (show decode cX10_firstBut 83 = .ok (.aload_n 0, 1) from by decide +kernel)
theorem dX10_firstBut_84 {l : Nat} : decode (dc (DX10_firstBut l)) 84 = .ok (.invokevirtual 327, 3) := (show decode cX10_firstBut 84 = .ok (.invokevirtual 327, 3) from by decide +kernel)
theorem dX10_firstBut_87 {l : Nat} : decode (dc (DX10_firstBut l)) 87 = .ok (.iload_n 2, 1) := (show decode cX10_firstBut 87 = .ok (.iload_n 2, 1) from by decide +kernel)
theorem dX10_firstBut_88 {l : Nat} : decode (dc (DX10_firstBut l)) 88 = .ok (.if_icmp .ge 7, 3) := (show decode cX10_firstBut 88 = .ok (.if_icmp .ge 7, 3) from by decide +kernel)
theorem dX10_firstBut_91 {l : Nat} : decode (dc (DX10_firstBut l)) 91 = .ok (.iconst 1, 1) := (show decode cX10_firstBut 91 = .ok (.iconst 1, 1) from by decide +kernel)
theorem dX10_firstBut_92 {l : Nat} : decode (dc (DX10_firstBut l)) 92 = .ok (.goto 4, 3) := (show decode cX10_firstBut 92 = .ok (.goto 4, 3) from by decide +kernel)
theorem dX10_firstBut_95 {l : Nat} : decode (dc (DX10_firstBut l)) 95 = .ok (.iconst 0, 1) := (show decode cX10_firstBut 95 = .ok (.iconst 0, 1) from by decide +kernel)
theorem dX10_firstBut_96 {l : Nat} : decode (dc (DX10_firstBut l)) 96 = .ok (.istore 7, 2) := (show decode cX10_firstBut 96 = .ok (.istore 7, 2) from by decide +kernel)
theorem dX10_firstBut_98 {l : Nat} : decode (dc (DX10_firstBut l)) 98 = .ok (.aload_n 0, 1) := (show decode cX10_firstBut 98 = .ok (.aload_n 0, 1) from by decide +kernel)
theorem dX10_firstBut_99 {l : Nat} : decode (dc (DX10_firstBut l)) 99 = .ok (.getfield 25, 3) := (show decode cX10_firstBut 99 = .ok (.getfield 25, 3) from by decide +kernel)
theorem dX10_firstBut_102 {l : Nat} : decode (dc (DX10_firstBut l)) 102 = .ok (.iconst 0, 1) := (show decode cX10_firstBut 102 = .ok (.iconst 0, 1) from by decide +kernel)
theorem dX10_firstBut_103 {l : Nat} : decode (dc (DX10_firstBut l)) 103 = .ok (.aaload, 1) := (show decode cX10_firstBut 103 = .ok (.aaload, 1) from by decide +kernel)
theorem dX10_firstBut_104 {l : Nat} : decode (dc (DX10_firstBut l)) 104 = .ok (.iload 5, 2) := (show decode cX10_firstBut 104 = .ok (.iload 5, 2) from by decide +kernel)
theorem dX10_firstBut_106 {l : Nat} : decode (dc (DX10_firstBut l)) 106 = .ok (.dup2, 1) := (show decode cX10_firstBut 106 = .ok (.dup2, 1) from by decide +kernel)
theorem dX10_firstBut_107 {l : Nat} : decode (dc (DX10_firstBut l)) 107 = .ok (.iaload, 1) := (show decode cX10_firstBut 107 = .ok (.iaload, 1) from by decide +kernel)
theorem dX10_firstBut_108 {l : Nat} : decode (dc (DX10_firstBut l)) 108 = .ok (.iconst 1, 1) := (show decode cX10_firstBut 108 = .ok (.iconst 1, 1) from by decide +kernel)
theorem dX10_firstBut_109 {l : Nat} : decode (dc (DX10_firstBut l)) 109 = .ok (.iload 6, 2) := (show decode cX10_firstBut 109 = .ok (.iload 6, 2) from by decide +kernel)
theorem dX10_firstBut_111 {l : Nat} : decode (dc (DX10_firstBut l)) 111 = .ok (.ishl, 1) := (show decode cX10_firstBut 111 = .ok (.ishl, 1) from by decide +kernel)
theorem dX10_firstBut_112 {l : Nat} : decode (dc (DX10_firstBut l)) 112 = .ok (.ior, 1) := (show decode cX10_firstBut 112 = .ok (.ior, 1) from by decide +kernel)
theorem dX10_firstBut_113 {l : Nat} : decode (dc (DX10_firstBut l)) 113 = .ok (.iastore, 1) := (show decode cX10_firstBut 113 = .ok (.iastore, 1) from by decide +kernel)
theorem dX10_firstBut_114 {l : Nat} : decode (dc (DX10_firstBut l)) 114 = .ok (.iload 7, 2) := (show decode cX10_firstBut 114 = .ok (.iload 7, 2) from by decide +kernel)
theorem dX10_firstBut_116 {l : Nat} : decode (dc (DX10_firstBut l)) 116 = .ok (.ifCond .eq 6, 3) := (show decode cX10_firstBut 116 = .ok (.ifCond .eq 6, 3) from by decide +kernel)
theorem dX10_firstBut_119 {l : Nat} : decode (dc (DX10_firstBut l)) 119 = .ok (.iload 4, 2) := (show decode cX10_firstBut 119 = .ok (.iload 4, 2) from by decide +kernel)
theorem dX10_firstBut_121 {l : Nat} : decode (dc (DX10_firstBut l)) 121 = .ok (.ireturn, 1) := (show decode cX10_firstBut 121 = .ok (.ireturn, 1) from by decide +kernel)
theorem dX10_firstBut_122 {l : Nat} : decode (dc (DX10_firstBut l)) 122 = .ok (.iinc 4 1, 3) := (show decode cX10_firstBut 122 = .ok (.iinc 4 1, 3) from by decide +kernel)
theorem dX10_firstBut_125 {l : Nat} : decode (dc (DX10_firstBut l)) 125 = .ok (.goto (-122), 3) := (show decode cX10_firstBut 125 = .ok (.goto (-122), 3) from by decide +kernel)
theorem dX10_firstBut_128 {l : Nat} : decode (dc (DX10_firstBut l)) 128 = .ok (.iconst (-1), 1) := (show decode cX10_firstBut 128 = .ok (.iconst (-1), 1) from by decide +kernel)
theorem dX10_firstBut_129 {l : Nat} : decode (dc (DX10_firstBut l)) 129 = .ok (.ireturn, 1) := (show decode cX10_firstBut 129 = .ok (.ireturn, 1) from by decide +kernel)
theorem dX10_fewest_0 : decode (dc DX10_fewest) 0 = .ok (.aload_n 0, 1) := by decide +kernel
theorem dX10_fewest_1 : decode (dc DX10_fewest) 1 = .ok (.iconst 0, 1) := by decide +kernel
theorem dX10_fewest_2 : decode (dc DX10_fewest) 2 = .ok (.putfield 82, 3) := by decide +kernel
theorem dX10_fewest_5 : decode (dc DX10_fewest) 5 = .ok (.aload_n 0, 1) := by decide +kernel
theorem dX10_fewest_6 : decode (dc DX10_fewest) 6 = .ok (.iload_n 1, 1) := by decide +kernel
theorem dX10_fewest_7 : decode (dc DX10_fewest) 7 = .ok (.iconst 0, 1) := by decide +kernel
theorem dX10_fewest_8 : decode (dc DX10_fewest) 8 = .ok (.iconst 1, 1) := by decide +kernel
theorem dX10_fewest_9 : decode (dc DX10_fewest) 9 = .ok (.invokestatic 127, 3) := by decide +kernel
theorem dX10_fewest_12 : decode (dc DX10_fewest) 12 = .ok (.ifCond .ne 7, 3) := by decide +kernel
theorem dX10_fewest_15 : decode (dc DX10_fewest) 15 = .ok (.iconst 1, 1) := by decide +kernel
theorem dX10_fewest_16 : decode (dc DX10_fewest) 16 = .ok (.goto 4, 3) := by decide +kernel
theorem dX10_fewest_19 : decode (dc DX10_fewest) 19 = .ok (.iconst 0, 1) := by decide +kernel
theorem dX10_fewest_20 : decode (dc DX10_fewest) 20 = .ok (.iconst 1, 1) := by decide +kernel
theorem dX10_fewest_21 : decode (dc DX10_fewest) 21 = .ok (.iconst 1, 1) := by decide +kernel
theorem dX10_fewest_22 : decode (dc DX10_fewest) 22 = .ok (.invokevirtual 217, 3) := by decide +kernel
theorem dX10_fewest_25 : decode (dc DX10_fewest) 25 = .ok (.ifCond .eq 5, 3) := by decide +kernel
theorem dX10_fewest_28 : decode (dc DX10_fewest) 28 = .ok (.iconst 0, 1) := by decide +kernel
theorem dX10_fewest_29 : decode (dc DX10_fewest) 29 = .ok (.ireturn, 1) := by decide +kernel
theorem dX10_fewest_30 : decode (dc DX10_fewest) 30 = .ok (.aload_n 0, 1) := by decide +kernel
theorem dX10_fewest_31 : decode (dc DX10_fewest) 31 = .ok (.invokevirtual 327, 3) := by decide +kernel
theorem dX10_fewest_34 : decode (dc DX10_fewest) 34 = .ok (.istore_n 2, 1) := by decide +kernel
theorem dX10_fewest_35 : decode (dc DX10_fewest) 35 = .ok (.iload_n 2, 1) := by decide +kernel
theorem dX10_fewest_36 : decode (dc DX10_fewest) 36 = .ok (.ifCond .ne 7, 3) := by decide +kernel
theorem dX10_fewest_39 : decode (dc DX10_fewest) 39 = .ok (.iconst (-1), 1) := by decide +kernel
theorem dX10_fewest_40 : decode (dc DX10_fewest) 40 = .ok (.goto 10, 3) := by decide +kernel
theorem dX10_fewest_43 : decode (dc DX10_fewest) 43 = .ok (.aload_n 0, 1) := by decide +kernel
theorem dX10_fewest_44 : decode (dc DX10_fewest) 44 = .ok (.iconst 0, 1) := by decide +kernel
theorem dX10_fewest_45 : decode (dc DX10_fewest) 45 = .ok (.iload_n 2, 1) := by decide +kernel
theorem dX10_fewest_46 : decode (dc DX10_fewest) 46 = .ok (.iconst 0, 1) := by decide +kernel
theorem dX10_fewest_47 : decode (dc DX10_fewest) 47 = .ok (.invokevirtual 379, 3) := by decide +kernel
theorem dX10_fewest_50 : decode (dc DX10_fewest) 50 = .ok (.istore_n 3, 1) := by decide +kernel
theorem dX10_fewest_51 : decode (dc DX10_fewest) 51 = .ok (.iconst 1, 1) := by decide +kernel
theorem dX10_fewest_52 : decode (dc DX10_fewest) 52 = .ok (.istore 4, 2) := by decide +kernel
theorem dX10_fewest_54 : decode (dc DX10_fewest) 54 = .ok (.iload_n 3, 1) := by decide +kernel
theorem dX10_fewest_55 : decode (dc DX10_fewest) 55 = .ok (.iconst (-1), 1) := by decide +kernel
theorem dX10_fewest_56 : decode (dc DX10_fewest) 56 = .ok (.if_icmp .ne 18, 3) := by decide +kernel
theorem dX10_fewest_59 : decode (dc DX10_fewest) 59 = .ok (.iload_n 2, 1) := by decide +kernel
theorem dX10_fewest_60 : decode (dc DX10_fewest) 60 = .ok (.ifCond .le 14, 3) := by decide +kernel
theorem dX10_fewest_63 : decode (dc DX10_fewest) 63 = .ok (.iconst 2, 1) := by decide +kernel
theorem dX10_fewest_64 : decode (dc DX10_fewest) 64 = .ok (.istore 4, 2) := by decide +kernel
theorem dX10_fewest_66 : decode (dc DX10_fewest) 66 = .ok (.aload_n 0, 1) := by decide +kernel
theorem dX10_fewest_67 : decode (dc DX10_fewest) 67 = .ok (.iconst 0, 1) := by decide +kernel
theorem dX10_fewest_68 : decode (dc DX10_fewest) 68 = .ok (.iload_n 2, 1) := by decide +kernel
theorem dX10_fewest_69 : decode (dc DX10_fewest) 69 = .ok (.iconst 1, 1) := by decide +kernel
theorem dX10_fewest_70 : decode (dc DX10_fewest) 70 = .ok (.invokevirtual 379, 3) := by decide +kernel
theorem dX10_fewest_73 : decode (dc DX10_fewest) 73 = .ok (.istore_n 3, 1) := by decide +kernel
theorem dX10_fewest_74 : decode (dc DX10_fewest) 74 = .ok (.iload_n 3, 1) := by decide +kernel
theorem dX10_fewest_75 : decode (dc DX10_fewest) 75 = .ok (.iconst (-1), 1) := by decide +kernel
theorem dX10_fewest_76 : decode (dc DX10_fewest) 76 = .ok (.if_icmp .ne 7, 3) := by decide +kernel
theorem dX10_fewest_79 : decode (dc DX10_fewest) 79 = .ok (.iconst (-1), 1) := by decide +kernel
theorem dX10_fewest_80 : decode (dc DX10_fewest) 80 = .ok (.goto 24, 3) := by decide +kernel
theorem dX10_fewest_83 : decode (dc DX10_fewest) 83 = .ok (.iload_n 1, 1) := by decide +kernel
theorem dX10_fewest_84 : decode (dc DX10_fewest) 84 = .ok (.ifCond .ne 8, 3) := by decide +kernel
theorem dX10_fewest_87 : decode (dc DX10_fewest) 87 = .ok (.iload 4, 2) := by decide +kernel
theorem dX10_fewest_89 : decode (dc DX10_fewest) 89 = .ok (.goto 15, 3) := by decide +kernel
theorem dX10_fewest_92 : decode (dc DX10_fewest) 92 = .ok (.bipush 100, 2) := by decide +kernel
theorem dX10_fewest_94 : decode (dc DX10_fewest) 94 = .ok (.iload_n 3, 1) := by decide +kernel
theorem dX10_fewest_95 : decode (dc DX10_fewest) 95 = .ok (.bipush 12, 2) := by decide +kernel
theorem dX10_fewest_97 : decode (dc DX10_fewest) 97 = .ok (.idiv, 1) := by decide +kernel
theorem dX10_fewest_98 : decode (dc DX10_fewest) 98 = .ok (.imul, 1) := by decide +kernel
theorem dX10_fewest_99 : decode (dc DX10_fewest) 99 = .ok (.iload_n 3, 1) := by decide +kernel
theorem dX10_fewest_100 : decode (dc DX10_fewest) 100 = .ok (.bipush 12, 2) := by decide +kernel
theorem dX10_fewest_102 : decode (dc DX10_fewest) 102 = .ok (.irem, 1) := by decide +kernel
theorem dX10_fewest_103 : decode (dc DX10_fewest) 103 = .ok (.iadd, 1) := by decide +kernel
theorem dX10_fewest_104 : decode (dc DX10_fewest) 104 = .ok (.ireturn, 1) := by decide +kernel
theorem dX10_remembers_0 : decode (dc DX10_remembers) 0 = .ok (.aload_n 0, 1) := by decide +kernel
theorem dX10_remembers_1 : decode (dc DX10_remembers) 1 = .ok (.getfield 231, 3) := by decide +kernel
theorem dX10_remembers_4 : decode (dc DX10_remembers) 4 = .ok (.bipush 15, 2) := by decide +kernel
theorem dX10_remembers_6 : decode (dc DX10_remembers) 6 = .ok (.if_icmp .ne 37, 3) := by decide +kernel
theorem dX10_remembers_9 : decode (dc DX10_remembers) 9 = .ok (.iconst 1, 1) := by decide +kernel
theorem dX10_remembers_10 : decode (dc DX10_remembers) 10 = .ok (.istore_n 1, 1) := by decide +kernel
theorem dX10_remembers_11 : decode (dc DX10_remembers) 11 = .ok (.iload_n 1, 1) := by decide +kernel
theorem dX10_remembers_12 : decode (dc DX10_remembers) 12 = .ok (.bipush 15, 2) := by decide +kernel
theorem dX10_remembers_14 : decode (dc DX10_remembers) 14 = .ok (.if_icmp .ge 19, 3) := by decide +kernel
theorem dX10_remembers_17 : decode (dc DX10_remembers) 17 = .ok (.aload_n 0, 1) := by decide +kernel
theorem dX10_remembers_18 : decode (dc DX10_remembers) 18 = .ok (.iconst 2, 1) := by decide +kernel
theorem dX10_remembers_19 : decode (dc DX10_remembers) 19 = .ok (.iload_n 1, 1) := by decide +kernel
theorem dX10_remembers_20 : decode (dc DX10_remembers) 20 = .ok (.iadd, 1) := by decide +kernel
theorem dX10_remembers_21 : decode (dc DX10_remembers) 21 = .ok (.iconst 1, 1) := by decide +kernel
theorem dX10_remembers_22 : decode (dc DX10_remembers) 22 = .ok (.iload_n 1, 1) := by decide +kernel
theorem dX10_remembers_23 : decode (dc DX10_remembers) 23 = .ok (.iadd, 1) := by decide +kernel
theorem dX10_remembers_24 : decode (dc DX10_remembers) 24 = .ok (.invokevirtual 228, 3) := by decide +kernel
theorem dX10_remembers_27 : decode (dc DX10_remembers) 27 = .ok (.iinc 1 1, 3) := by decide +kernel
theorem dX10_remembers_30 : decode (dc DX10_remembers) 30 = .ok (.goto (-19), 3) := by decide +kernel
theorem dX10_remembers_33 : decode (dc DX10_remembers) 33 = .ok (.aload_n 0, 1) := by decide +kernel
theorem dX10_remembers_34 : decode (dc DX10_remembers) 34 = .ok (.dup, 1) := by decide +kernel
theorem dX10_remembers_35 : decode (dc DX10_remembers) 35 = .ok (.getfield 231, 3) := by decide +kernel
theorem dX10_remembers_38 : decode (dc DX10_remembers) 38 = .ok (.iconst 1, 1) := by decide +kernel
theorem dX10_remembers_39 : decode (dc DX10_remembers) 39 = .ok (.isub, 1) := by decide +kernel
theorem dX10_remembers_40 : decode (dc DX10_remembers) 40 = .ok (.putfield 231, 3) := by decide +kernel
theorem dX10_remembers_43 : decode (dc DX10_remembers) 43 = .ok (.aload_n 0, 1) := by decide +kernel
theorem dX10_remembers_44 : decode (dc DX10_remembers) 44 = .ok (.iconst 0, 1) := by decide +kernel
theorem dX10_remembers_45 : decode (dc DX10_remembers) 45 = .ok (.iconst 2, 1) := by decide +kernel
theorem dX10_remembers_46 : decode (dc DX10_remembers) 46 = .ok (.aload_n 0, 1) := by decide +kernel
theorem dX10_remembers_47 : decode (dc DX10_remembers) 47 = .ok (.getfield 231, 3) := by decide +kernel
theorem dX10_remembers_50 : decode (dc DX10_remembers) 50 = .ok (.iadd, 1) := by decide +kernel
theorem dX10_remembers_51 : decode (dc DX10_remembers) 51 = .ok (.invokevirtual 228, 3) := by decide +kernel
theorem dX10_remembers_54 : decode (dc DX10_remembers) 54 = .ok (.aload_n 0, 1) := by decide +kernel
theorem dX10_remembers_55 : decode (dc DX10_remembers) 55 = .ok (.dup, 1) := by decide +kernel
theorem dX10_remembers_56 : decode (dc DX10_remembers) 56 = .ok (.getfield 231, 3) := by decide +kernel
theorem dX10_remembers_59 : decode (dc DX10_remembers) 59 = .ok (.iconst 1, 1) := by decide +kernel
theorem dX10_remembers_60 : decode (dc DX10_remembers) 60 = .ok (.iadd, 1) := by decide +kernel
theorem dX10_remembers_61 : decode (dc DX10_remembers) 61 = .ok (.putfield 231, 3) := by decide +kernel
theorem dX10_remembers_64 : decode (dc DX10_remembers) 64 = .ok (.return_, 1) := by decide +kernel
theorem dX10_add_0 : decode (dc DX10_add) 0 = .ok (.aload_n 0, 1) := by decide +kernel
theorem dX10_add_1 : decode (dc DX10_add) 1 = .ok (.iconst 0, 1) := by decide +kernel
theorem dX10_add_2 : decode (dc DX10_add) 2 = .ok (.putfield 82, 3) := by decide +kernel
theorem dX10_add_5 : decode (dc DX10_add) 5 = .ok (.aload_n 0, 1) := by decide +kernel
theorem dX10_add_6 : decode (dc DX10_add) 6 = .ok (.aload_n 0, 1) := by decide +kernel
theorem dX10_add_7 : decode (dc DX10_add) 7 = .ok (.iconst 0, 1) := by decide +kernel
theorem dX10_add_8 : decode (dc DX10_add) 8 = .ok (.iload_n 1, 1) := by decide +kernel
theorem dX10_add_9 : decode (dc DX10_add) 9 = .ok (.invokevirtual 282, 3) := by decide +kernel
theorem dX10_add_12 : decode (dc DX10_add) 12 = .ok (.ifCond .eq 12, 3) := by decide +kernel
theorem dX10_add_15 : decode (dc DX10_add) 15 = .ok (.aload_n 0, 1) := by decide +kernel
theorem dX10_add_16 : decode (dc DX10_add) 16 = .ok (.iconst 1, 1) := by decide +kernel
theorem dX10_add_17 : decode (dc DX10_add) 17 = .ok (.iload_n 2, 1) := by decide +kernel
theorem dX10_add_18 : decode (dc DX10_add) 18 = .ok (.invokevirtual 282, 3) := by decide +kernel
theorem dX10_add_21 : decode (dc DX10_add) 21 = .ok (.ifCond .ne 7, 3) := by decide +kernel
theorem dX10_add_24 : decode (dc DX10_add) 24 = .ok (.iconst 1, 1) := by decide +kernel
theorem dX10_add_25 : decode (dc DX10_add) 25 = .ok (.goto 4, 3) := by decide +kernel
theorem dX10_add_28 : decode (dc DX10_add) 28 = .ok (.iconst 0, 1) := by decide +kernel
theorem dX10_add_29 : decode (dc DX10_add) 29 = .ok (.iconst 1, 1) := by decide +kernel
theorem dX10_add_30 : decode (dc DX10_add) 30 = .ok (.iconst 0, 1) := by decide +kernel
theorem dX10_add_31 : decode (dc DX10_add) 31 = .ok (.invokevirtual 217, 3) := by decide +kernel
theorem dX10_add_34 : decode (dc DX10_add) 34 = .ok (.ifCond .ne 27, 3) := by decide +kernel
theorem dX10_add_37 : decode (dc DX10_add) 37 = .ok (.aload_n 0, 1) := by decide +kernel
theorem dX10_add_38 : decode (dc DX10_add) 38 = .ok (.iload_n 3, 1) := by decide +kernel
theorem dX10_add_39 : decode (dc DX10_add) 39 = .ok (.iconst 0, 1) := by decide +kernel
theorem dX10_add_40 : decode (dc DX10_add) 40 = .ok (.bipush 99, 2) := by decide +kernel
theorem dX10_add_42 : decode (dc DX10_add) 42 = .ok (.invokestatic 127, 3) := by decide +kernel
theorem dX10_add_45 : decode (dc DX10_add) 45 = .ok (.ifCond .ne 7, 3) := by decide +kernel
theorem dX10_add_48 : decode (dc DX10_add) 48 = .ok (.iconst 1, 1) := by decide +kernel
theorem dX10_add_49 : decode (dc DX10_add) 49 = .ok (.goto 4, 3) := by decide +kernel
theorem dX10_add_52 : decode (dc DX10_add) 52 = .ok (.iconst 0, 1) := by decide +kernel
theorem dX10_add_53 : decode (dc DX10_add) 53 = .ok (.iconst 2, 1) := by decide +kernel
theorem dX10_add_54 : decode (dc DX10_add) 54 = .ok (.iconst 1, 1) := by decide +kernel
theorem dX10_add_55 : decode (dc DX10_add) 55 = .ok (.invokevirtual 217, 3) := by decide +kernel
theorem dX10_add_58 : decode (dc DX10_add) 58 = .ok (.ifCond .eq 5, 3) := by decide +kernel
theorem dX10_add_61 : decode (dc DX10_add) 61 = .ok (.iconst 0, 1) := by decide +kernel
theorem dX10_add_62 : decode (dc DX10_add) 62 = .ok (.ireturn, 1) := by decide +kernel
theorem dX10_add_63 : decode (dc DX10_add) 63 = .ok (.aload_n 0, 1) := by decide +kernel
theorem dX10_add_64 : decode (dc DX10_add) 64 = .ok (.invokevirtual 383, 3) := by decide +kernel
theorem dX10_add_67 : decode (dc DX10_add) 67 = .ok (.aload_n 0, 1) := by decide +kernel
theorem dX10_add_68 : decode (dc DX10_add) 68 = .ok (.iload_n 1, 1) := by decide +kernel
theorem dX10_add_69 : decode (dc DX10_add) 69 = .ok (.iload_n 2, 1) := by decide +kernel
theorem dX10_add_70 : decode (dc DX10_add) 70 = .ok (.invokevirtual 285, 3) := by decide +kernel
theorem dX10_add_73 : decode (dc DX10_add) 73 = .ok (.ifCond .eq 16, 3) := by decide +kernel
theorem dX10_add_76 : decode (dc DX10_add) 76 = .ok (.aload_n 0, 1) := by decide +kernel
theorem dX10_add_77 : decode (dc DX10_add) 77 = .ok (.getfield 36, 3) := by decide +kernel
theorem dX10_add_80 : decode (dc DX10_add) 80 = .ok (.iconst 0, 1) := by decide +kernel
theorem dX10_add_81 : decode (dc DX10_add) 81 = .ok (.aaload, 1) := by decide +kernel
theorem dX10_add_82 : decode (dc DX10_add) 82 = .ok (.iload_n 1, 1) := by decide +kernel
theorem dX10_add_83 : decode (dc DX10_add) 83 = .ok (.aaload, 1) := by decide +kernel
theorem dX10_add_84 : decode (dc DX10_add) 84 = .ok (.iload_n 2, 1) := by decide +kernel
theorem dX10_add_85 : decode (dc DX10_add) 85 = .ok (.iaload, 1) := by decide +kernel
theorem dX10_add_86 : decode (dc DX10_add) 86 = .ok (.goto 4, 3) := by decide +kernel
theorem dX10_add_89 : decode (dc DX10_add) 89 = .ok (.iconst (-1), 1) := by decide +kernel
theorem dX10_add_90 : decode (dc DX10_add) 90 = .ok (.istore 4, 2) := by decide +kernel
theorem dX10_add_92 : decode (dc DX10_add) 92 = .ok (.aload_n 0, 1) := by decide +kernel
theorem dX10_add_93 : decode (dc DX10_add) 93 = .ok (.getfield 25, 3) := by decide +kernel
theorem dX10_add_96 : decode (dc DX10_add) 96 = .ok (.iconst 0, 1) := by decide +kernel
theorem dX10_add_97 : decode (dc DX10_add) 97 = .ok (.aaload, 1) := by decide +kernel
theorem dX10_add_98 : decode (dc DX10_add) 98 = .ok (.iload_n 1, 1) := by decide +kernel
theorem dX10_add_99 : decode (dc DX10_add) 99 = .ok (.dup2, 1) := by decide +kernel
theorem dX10_add_100 : decode (dc DX10_add) 100 = .ok (.iaload, 1) := by decide +kernel
theorem dX10_add_101 : decode (dc DX10_add) 101 = .ok (.iconst 1, 1) := by decide +kernel
theorem dX10_add_102 : decode (dc DX10_add) 102 = .ok (.iload_n 2, 1) := by decide +kernel
theorem dX10_add_103 : decode (dc DX10_add) 103 = .ok (.ishl, 1) := by decide +kernel
theorem dX10_add_104 : decode (dc DX10_add) 104 = .ok (.ior, 1) := by decide +kernel
theorem dX10_add_105 : decode (dc DX10_add) 105 = .ok (.iastore, 1) := by decide +kernel
theorem dX10_add_106 : decode (dc DX10_add) 106 = .ok (.aload_n 0, 1) := by decide +kernel
theorem dX10_add_107 : decode (dc DX10_add) 107 = .ok (.getfield 36, 3) := by decide +kernel
theorem dX10_add_110 : decode (dc DX10_add) 110 = .ok (.iconst 0, 1) := by decide +kernel
theorem dX10_add_111 : decode (dc DX10_add) 111 = .ok (.aaload, 1) := by decide +kernel
theorem dX10_add_112 : decode (dc DX10_add) 112 = .ok (.iload_n 1, 1) := by decide +kernel
theorem dX10_add_113 : decode (dc DX10_add) 113 = .ok (.aaload, 1) := by decide +kernel
theorem dX10_add_114 : decode (dc DX10_add) 114 = .ok (.iload_n 2, 1) := by decide +kernel
theorem dX10_add_115 : decode (dc DX10_add) 115 = .ok (.iload_n 3, 1) := by decide +kernel
theorem dX10_add_116 : decode (dc DX10_add) 116 = .ok (.iastore, 1) := by decide +kernel
theorem dX10_add_117 : decode (dc DX10_add) 117 = .ok (.aload_n 0, 1) := by decide +kernel
theorem dX10_add_118 : decode (dc DX10_add) 118 = .ok (.invokevirtual 234, 3) := by decide +kernel
theorem dX10_add_121 : decode (dc DX10_add) 121 = .ok (.iload 4, 2) := by decide +kernel
theorem dX10_add_123 : decode (dc DX10_add) 123 = .ok (.ireturn, 1) := by decide +kernel
theorem dX10_drop_0 : decode (dc DX10_drop) 0 = .ok (.aload_n 0, 1) := by decide +kernel
theorem dX10_drop_1 : decode (dc DX10_drop) 1 = .ok (.iconst 0, 1) := by decide +kernel
theorem dX10_drop_2 : decode (dc DX10_drop) 2 = .ok (.putfield 82, 3) := by decide +kernel
theorem dX10_drop_5 : decode (dc DX10_drop) 5 = .ok (.aload_n 0, 1) := by decide +kernel
theorem dX10_drop_6 : decode (dc DX10_drop) 6 = .ok (.aload_n 0, 1) := by decide +kernel
theorem dX10_drop_7 : decode (dc DX10_drop) 7 = .ok (.iconst 0, 1) := by decide +kernel
theorem dX10_drop_8 : decode (dc DX10_drop) 8 = .ok (.iload_n 1, 1) := by decide +kernel
theorem dX10_drop_9 : decode (dc DX10_drop) 9 = .ok (.invokevirtual 282, 3) := by decide +kernel
theorem dX10_drop_12 : decode (dc DX10_drop) 12 = .ok (.ifCond .eq 12, 3) := by decide +kernel
theorem dX10_drop_15 : decode (dc DX10_drop) 15 = .ok (.aload_n 0, 1) := by decide +kernel
theorem dX10_drop_16 : decode (dc DX10_drop) 16 = .ok (.iconst 1, 1) := by decide +kernel
theorem dX10_drop_17 : decode (dc DX10_drop) 17 = .ok (.iload_n 2, 1) := by decide +kernel
theorem dX10_drop_18 : decode (dc DX10_drop) 18 = .ok (.invokevirtual 282, 3) := by decide +kernel
theorem dX10_drop_21 : decode (dc DX10_drop) 21 = .ok (.ifCond .ne 7, 3) := by decide +kernel
theorem dX10_drop_24 : decode (dc DX10_drop) 24 = .ok (.iconst 1, 1) := by decide +kernel
theorem dX10_drop_25 : decode (dc DX10_drop) 25 = .ok (.goto 4, 3) := by decide +kernel
theorem dX10_drop_28 : decode (dc DX10_drop) 28 = .ok (.iconst 0, 1) := by decide +kernel
theorem dX10_drop_29 : decode (dc DX10_drop) 29 = .ok (.iconst 1, 1) := by decide +kernel
theorem dX10_drop_30 : decode (dc DX10_drop) 30 = .ok (.iconst 0, 1) := by decide +kernel
theorem dX10_drop_31 : decode (dc DX10_drop) 31 = .ok (.invokevirtual 217, 3) := by decide +kernel
theorem dX10_drop_34 : decode (dc DX10_drop) 34 = .ok (.ifCond .ne 26, 3) := by decide +kernel
theorem dX10_drop_37 : decode (dc DX10_drop) 37 = .ok (.aload_n 0, 1) := by decide +kernel
theorem dX10_drop_38 : decode (dc DX10_drop) 38 = .ok (.aload_n 0, 1) := by decide +kernel
theorem dX10_drop_39 : decode (dc DX10_drop) 39 = .ok (.iload_n 1, 1) := by decide +kernel
theorem dX10_drop_40 : decode (dc DX10_drop) 40 = .ok (.iload_n 2, 1) := by decide +kernel
theorem dX10_drop_41 : decode (dc DX10_drop) 41 = .ok (.invokevirtual 285, 3) := by decide +kernel
theorem dX10_drop_44 : decode (dc DX10_drop) 44 = .ok (.ifCond .ne 7, 3) := by decide +kernel
theorem dX10_drop_47 : decode (dc DX10_drop) 47 = .ok (.iconst 1, 1) := by decide +kernel
theorem dX10_drop_48 : decode (dc DX10_drop) 48 = .ok (.goto 4, 3) := by decide +kernel
theorem dX10_drop_51 : decode (dc DX10_drop) 51 = .ok (.iconst 0, 1) := by decide +kernel
theorem dX10_drop_52 : decode (dc DX10_drop) 52 = .ok (.iconst 2, 1) := by decide +kernel
theorem dX10_drop_53 : decode (dc DX10_drop) 53 = .ok (.iconst 1, 1) := by decide +kernel
theorem dX10_drop_54 : decode (dc DX10_drop) 54 = .ok (.invokevirtual 217, 3) := by decide +kernel
theorem dX10_drop_57 : decode (dc DX10_drop) 57 = .ok (.ifCond .eq 5, 3) := by decide +kernel
theorem dX10_drop_60 : decode (dc DX10_drop) 60 = .ok (.iconst 0, 1) := by decide +kernel
theorem dX10_drop_61 : decode (dc DX10_drop) 61 = .ok (.ireturn, 1) := by decide +kernel
theorem dX10_drop_62 : decode (dc DX10_drop) 62 = .ok (.aload_n 0, 1) := by decide +kernel
theorem dX10_drop_63 : decode (dc DX10_drop) 63 = .ok (.invokevirtual 383, 3) := by decide +kernel
theorem dX10_drop_66 : decode (dc DX10_drop) 66 = .ok (.aload_n 0, 1) := by decide +kernel
theorem dX10_drop_67 : decode (dc DX10_drop) 67 = .ok (.getfield 36, 3) := by decide +kernel
theorem dX10_drop_70 : decode (dc DX10_drop) 70 = .ok (.iconst 0, 1) := by decide +kernel
theorem dX10_drop_71 : decode (dc DX10_drop) 71 = .ok (.aaload, 1) := by decide +kernel
theorem dX10_drop_72 : decode (dc DX10_drop) 72 = .ok (.iload_n 1, 1) := by decide +kernel
theorem dX10_drop_73 : decode (dc DX10_drop) 73 = .ok (.aaload, 1) := by decide +kernel
theorem dX10_drop_74 : decode (dc DX10_drop) 74 = .ok (.iload_n 2, 1) := by decide +kernel
theorem dX10_drop_75 : decode (dc DX10_drop) 75 = .ok (.iaload, 1) := by decide +kernel
theorem dX10_drop_76 : decode (dc DX10_drop) 76 = .ok (.istore_n 3, 1) := by decide +kernel
theorem dX10_drop_77 : decode (dc DX10_drop) 77 = .ok (.aload_n 0, 1) := by decide +kernel
theorem dX10_drop_78 : decode (dc DX10_drop) 78 = .ok (.getfield 25, 3) := by decide +kernel
theorem dX10_drop_81 : decode (dc DX10_drop) 81 = .ok (.iconst 0, 1) := by decide +kernel
theorem dX10_drop_82 : decode (dc DX10_drop) 82 = .ok (.aaload, 1) := by decide +kernel
theorem dX10_drop_83 : decode (dc DX10_drop) 83 = .ok (.iload_n 1, 1) := by decide +kernel
theorem dX10_drop_84 : decode (dc DX10_drop) 84 = .ok (.dup2, 1) := by decide +kernel
theorem dX10_drop_85 : decode (dc DX10_drop) 85 = .ok (.iaload, 1) := by decide +kernel
theorem dX10_drop_86 : decode (dc DX10_drop) 86 = .ok (.iconst 1, 1) := by decide +kernel
theorem dX10_drop_87 : decode (dc DX10_drop) 87 = .ok (.iload_n 2, 1) := by decide +kernel
theorem dX10_drop_88 : decode (dc DX10_drop) 88 = .ok (.ishl, 1) := by decide +kernel
theorem dX10_drop_89 : decode (dc DX10_drop) 89 = .ok (.iconst (-1), 1) := by decide +kernel
theorem dX10_drop_90 : decode (dc DX10_drop) 90 = .ok (.ixor, 1) := by decide +kernel
theorem dX10_drop_91 : decode (dc DX10_drop) 91 = .ok (.iand, 1) := by decide +kernel
theorem dX10_drop_92 : decode (dc DX10_drop) 92 = .ok (.iastore, 1) := by decide +kernel
theorem dX10_drop_93 : decode (dc DX10_drop) 93 = .ok (.aload_n 0, 1) := by decide +kernel
theorem dX10_drop_94 : decode (dc DX10_drop) 94 = .ok (.getfield 28, 3) := by decide +kernel
theorem dX10_drop_97 : decode (dc DX10_drop) 97 = .ok (.iconst 0, 1) := by decide +kernel
theorem dX10_drop_98 : decode (dc DX10_drop) 98 = .ok (.aaload, 1) := by decide +kernel
theorem dX10_drop_99 : decode (dc DX10_drop) 99 = .ok (.iload_n 1, 1) := by decide +kernel
theorem dX10_drop_100 : decode (dc DX10_drop) 100 = .ok (.iaload, 1) := by decide +kernel
theorem dX10_drop_101 : decode (dc DX10_drop) 101 = .ok (.iload_n 2, 1) := by decide +kernel
theorem dX10_drop_102 : decode (dc DX10_drop) 102 = .ok (.if_icmp .ne 12, 3) := by decide +kernel
theorem dX10_drop_105 : decode (dc DX10_drop) 105 = .ok (.aload_n 0, 1) := by decide +kernel
theorem dX10_drop_106 : decode (dc DX10_drop) 106 = .ok (.getfield 28, 3) := by decide +kernel
theorem dX10_drop_109 : decode (dc DX10_drop) 109 = .ok (.iconst 0, 1) := by decide +kernel
theorem dX10_drop_110 : decode (dc DX10_drop) 110 = .ok (.aaload, 1) := by decide +kernel
theorem dX10_drop_111 : decode (dc DX10_drop) 111 = .ok (.iload_n 1, 1) := by decide +kernel
theorem dX10_drop_112 : decode (dc DX10_drop) 112 = .ok (.iconst (-1), 1) := by decide +kernel
theorem dX10_drop_113 : decode (dc DX10_drop) 113 = .ok (.iastore, 1) := by decide +kernel
theorem dX10_drop_114 : decode (dc DX10_drop) 114 = .ok (.aload_n 0, 1) := by decide +kernel
theorem dX10_drop_115 : decode (dc DX10_drop) 115 = .ok (.invokevirtual 234, 3) := by decide +kernel
theorem dX10_drop_118 : decode (dc DX10_drop) 118 = .ok (.iload_n 3, 1) := by decide +kernel
theorem dX10_drop_119 : decode (dc DX10_drop) 119 = .ok (.ireturn, 1) := by decide +kernel
theorem dX10_parts_0 : decode (dc DX10_parts) 0 = .ok (.iload_n 1, 1) := by decide +kernel
theorem dX10_parts_1 : decode (dc DX10_parts) 1 = .ok (.ifCond .ne 7, 3) := by decide +kernel
theorem dX10_parts_4 : decode (dc DX10_parts) 4 = .ok (.iload_n 2, 1) := by decide +kernel
theorem dX10_parts_5 : decode (dc DX10_parts) 5 = .ok (.goto 9, 3) := by decide +kernel
theorem dX10_parts_8 : decode (dc DX10_parts) 8 = .ok (.aload_n 0, 1) := by decide +kernel
theorem dX10_parts_9 : decode (dc DX10_parts) 9 = .ok (.iconst 1, 1) := by decide +kernel
theorem dX10_parts_10 : decode (dc DX10_parts) 10 = .ok (.iload_n 2, 1) := by decide +kernel
theorem dX10_parts_11 : decode (dc DX10_parts) 11 = .ok (.invokevirtual 243, 3) := by decide +kernel
theorem dX10_parts_14 : decode (dc DX10_parts) 14 = .ok (.istore_n 3, 1) := by decide +kernel
theorem dX10_parts_15 : decode (dc DX10_parts) 15 = .ok (.iload_n 3, 1) := by decide +kernel
theorem dX10_parts_16 : decode (dc DX10_parts) 16 = .ok (.iconst (-1), 1) := by decide +kernel
theorem dX10_parts_17 : decode (dc DX10_parts) 17 = .ok (.if_icmp .eq 12, 3) := by decide +kernel
theorem dX10_parts_20 : decode (dc DX10_parts) 20 = .ok (.aload_n 0, 1) := by decide +kernel
theorem dX10_parts_21 : decode (dc DX10_parts) 21 = .ok (.getfield 28, 3) := by decide +kernel
theorem dX10_parts_24 : decode (dc DX10_parts) 24 = .ok (.iconst 0, 1) := by decide +kernel
theorem dX10_parts_25 : decode (dc DX10_parts) 25 = .ok (.aaload, 1) := by decide +kernel
theorem dX10_parts_26 : decode (dc DX10_parts) 26 = .ok (.iload_n 3, 1) := by decide +kernel
theorem dX10_parts_27 : decode (dc DX10_parts) 27 = .ok (.iconst (-1), 1) := by decide +kernel
theorem dX10_parts_28 : decode (dc DX10_parts) 28 = .ok (.iastore, 1) := by decide +kernel
theorem dX10_parts_29 : decode (dc DX10_parts) 29 = .ok (.return_, 1) := by decide +kernel
theorem dX10_is_0 : decode (dc DX10_is) 0 = .ok (.aload_n 0, 1) := by decide +kernel
theorem dX10_is_1 : decode (dc DX10_is) 1 = .ok (.iconst 0, 1) := by decide +kernel
theorem dX10_is_2 : decode (dc DX10_is) 2 = .ok (.putfield 82, 3) := by decide +kernel
theorem dX10_is_5 : decode (dc DX10_is) 5 = .ok (.aload_n 0, 1) := by decide +kernel
theorem dX10_is_6 : decode (dc DX10_is) 6 = .ok (.aload_n 0, 1) := by decide +kernel
theorem dX10_is_7 : decode (dc DX10_is) 7 = .ok (.iload_n 1, 1) := by decide +kernel
theorem dX10_is_8 : decode (dc DX10_is) 8 = .ok (.iload_n 2, 1) := by decide +kernel
theorem dX10_is_9 : decode (dc DX10_is) 9 = .ok (.invokevirtual 282, 3) := by decide +kernel
theorem dX10_is_12 : decode (dc DX10_is) 12 = .ok (.ifCond .ne 7, 3) := by decide +kernel
theorem dX10_is_15 : decode (dc DX10_is) 15 = .ok (.iconst 1, 1) := by decide +kernel
theorem dX10_is_16 : decode (dc DX10_is) 16 = .ok (.goto 4, 3) := by decide +kernel
theorem dX10_is_19 : decode (dc DX10_is) 19 = .ok (.iconst 0, 1) := by decide +kernel
theorem dX10_is_20 : decode (dc DX10_is) 20 = .ok (.iconst 1, 1) := by decide +kernel
theorem dX10_is_21 : decode (dc DX10_is) 21 = .ok (.iconst 0, 1) := by decide +kernel
theorem dX10_is_22 : decode (dc DX10_is) 22 = .ok (.invokevirtual 217, 3) := by decide +kernel
theorem dX10_is_25 : decode (dc DX10_is) 25 = .ok (.ifCond .ne 45, 3) := by decide +kernel
theorem dX10_is_28 : decode (dc DX10_is) 28 = .ok (.aload_n 0, 1) := by decide +kernel
theorem dX10_is_29 : decode (dc DX10_is) 29 = .ok (.iload_n 3, 1) := by decide +kernel
theorem dX10_is_30 : decode (dc DX10_is) 30 = .ok (.iconst 0, 1) := by decide +kernel
theorem dX10_is_31 : decode (dc DX10_is) 31 = .ok (.iconst 1, 1) := by decide +kernel
theorem dX10_is_32 : decode (dc DX10_is) 32 = .ok (.invokestatic 127, 3) := by decide +kernel
theorem dX10_is_35 : decode (dc DX10_is) 35 = .ok (.ifCond .eq 22, 3) := by decide +kernel
theorem dX10_is_38 : decode (dc DX10_is) 38 = .ok (.aload_n 0, 1) := by decide +kernel
theorem dX10_is_39 : decode (dc DX10_is) 39 = .ok (.iload_n 1, 1) := by decide +kernel
theorem dX10_is_40 : decode (dc DX10_is) 40 = .ok (.iload_n 2, 1) := by decide +kernel
theorem dX10_is_41 : decode (dc DX10_is) 41 = .ok (.invokevirtual 240, 3) := by decide +kernel
theorem dX10_is_44 : decode (dc DX10_is) 44 = .ok (.iload_n 3, 1) := by decide +kernel
theorem dX10_is_45 : decode (dc DX10_is) 45 = .ok (.iconst 1, 1) := by decide +kernel
theorem dX10_is_46 : decode (dc DX10_is) 46 = .ok (.if_icmp .ne 7, 3) := by decide +kernel
theorem dX10_is_49 : decode (dc DX10_is) 49 = .ok (.iconst 1, 1) := by decide +kernel
theorem dX10_is_50 : decode (dc DX10_is) 50 = .ok (.goto 4, 3) := by decide +kernel
theorem dX10_is_53 : decode (dc DX10_is) 53 = .ok (.iconst 0, 1) := by decide +kernel
theorem dX10_is_54 : decode (dc DX10_is) 54 = .ok (.if_icmp .ne 7, 3) := by decide +kernel
theorem dX10_is_57 : decode (dc DX10_is) 57 = .ok (.iconst 1, 1) := by decide +kernel
theorem dX10_is_58 : decode (dc DX10_is) 58 = .ok (.goto 4, 3) := by decide +kernel
theorem dX10_is_61 : decode (dc DX10_is) 61 = .ok (.iconst 0, 1) := by decide +kernel
theorem dX10_is_62 : decode (dc DX10_is) 62 = .ok (.iconst 2, 1) := by decide +kernel
theorem dX10_is_63 : decode (dc DX10_is) 63 = .ok (.iconst 1, 1) := by decide +kernel
theorem dX10_is_64 : decode (dc DX10_is) 64 = .ok (.invokevirtual 217, 3) := by decide +kernel
theorem dX10_is_67 : decode (dc DX10_is) 67 = .ok (.ifCond .eq 5, 3) := by decide +kernel
theorem dX10_is_70 : decode (dc DX10_is) 70 = .ok (.iconst 0, 1) := by decide +kernel
theorem dX10_is_71 : decode (dc DX10_is) 71 = .ok (.ireturn, 1) := by decide +kernel
theorem dX10_is_72 : decode (dc DX10_is) 72 = .ok (.aload_n 0, 1) := by decide +kernel
theorem dX10_is_73 : decode (dc DX10_is) 73 = .ok (.invokevirtual 383, 3) := by decide +kernel
theorem dX10_is_76 : decode (dc DX10_is) 76 = .ok (.aload_n 0, 1) := by decide +kernel
theorem dX10_is_77 : decode (dc DX10_is) 77 = .ok (.iload_n 1, 1) := by decide +kernel
theorem dX10_is_78 : decode (dc DX10_is) 78 = .ok (.iload_n 2, 1) := by decide +kernel
theorem dX10_is_79 : decode (dc DX10_is) 79 = .ok (.invokevirtual 243, 3) := by decide +kernel
theorem dX10_is_82 : decode (dc DX10_is) 82 = .ok (.istore 4, 2) := by decide +kernel
theorem dX10_is_84 : decode (dc DX10_is) 84 = .ok (.aload_n 0, 1) := by decide +kernel
theorem dX10_is_85 : decode (dc DX10_is) 85 = .ok (.iload_n 1, 1) := by decide +kernel
theorem dX10_is_86 : decode (dc DX10_is) 86 = .ok (.iload_n 2, 1) := by decide +kernel
theorem dX10_is_87 : decode (dc DX10_is) 87 = .ok (.invokevirtual 386, 3) := by decide +kernel
theorem dX10_is_90 : decode (dc DX10_is) 90 = .ok (.aload_n 0, 1) := by decide +kernel
theorem dX10_is_91 : decode (dc DX10_is) 91 = .ok (.getfield 22, 3) := by decide +kernel
theorem dX10_is_94 : decode (dc DX10_is) 94 = .ok (.iconst 0, 1) := by decide +kernel
theorem dX10_is_95 : decode (dc DX10_is) 95 = .ok (.aaload, 1) := by decide +kernel
theorem dX10_is_96 : decode (dc DX10_is) 96 = .ok (.iload_n 1, 1) := by decide +kernel
theorem dX10_is_97 : decode (dc DX10_is) 97 = .ok (.ifCond .ne 7, 3) := by decide +kernel
theorem dX10_is_100 : decode (dc DX10_is) 100 = .ok (.iconst 3, 1) := by decide +kernel
theorem dX10_is_101 : decode (dc DX10_is) 101 = .ok (.goto 4, 3) := by decide +kernel
theorem dX10_is_104 : decode (dc DX10_is) 104 = .ok (.iconst 4, 1) := by decide +kernel
theorem dX10_is_105 : decode (dc DX10_is) 105 = .ok (.dup2, 1) := by decide +kernel
theorem dX10_is_106 : decode (dc DX10_is) 106 = .ok (.iaload, 1) := by decide +kernel
theorem dX10_is_107 : decode (dc DX10_is) 107 = .ok (.iconst 1, 1) := by decide +kernel
theorem dX10_is_108 : decode (dc DX10_is) 108 = .ok (.iload_n 2, 1) := by decide +kernel
theorem dX10_is_109 : decode (dc DX10_is) 109 = .ok (.ishl, 1) := by decide +kernel
theorem dX10_is_110 : decode (dc DX10_is) 110 = .ok (.ixor, 1) := by decide +kernel
theorem dX10_is_111 : decode (dc DX10_is) 111 = .ok (.iastore, 1) := by decide +kernel
theorem dX10_is_112 : decode (dc DX10_is) 112 = .ok (.aload_n 0, 1) := by decide +kernel
theorem dX10_is_113 : decode (dc DX10_is) 113 = .ok (.invokevirtual 234, 3) := by decide +kernel
theorem dX10_is_116 : decode (dc DX10_is) 116 = .ok (.iload 4, 2) := by decide +kernel
theorem dX10_is_118 : decode (dc DX10_is) 118 = .ok (.ireturn, 1) := by decide +kernel
theorem dX10_pair_0 : decode (dc DX10_pair) 0 = .ok (.aload_n 0, 1) := by decide +kernel
theorem dX10_pair_1 : decode (dc DX10_pair) 1 = .ok (.iconst 0, 1) := by decide +kernel
theorem dX10_pair_2 : decode (dc DX10_pair) 2 = .ok (.putfield 82, 3) := by decide +kernel
theorem dX10_pair_5 : decode (dc DX10_pair) 5 = .ok (.aload_n 0, 1) := by decide +kernel
theorem dX10_pair_6 : decode (dc DX10_pair) 6 = .ok (.aload_n 0, 1) := by decide +kernel
theorem dX10_pair_7 : decode (dc DX10_pair) 7 = .ok (.iconst 0, 1) := by decide +kernel
theorem dX10_pair_8 : decode (dc DX10_pair) 8 = .ok (.iload_n 1, 1) := by decide +kernel
theorem dX10_pair_9 : decode (dc DX10_pair) 9 = .ok (.invokevirtual 282, 3) := by decide +kernel
theorem dX10_pair_12 : decode (dc DX10_pair) 12 = .ok (.ifCond .eq 12, 3) := by decide +kernel
theorem dX10_pair_15 : decode (dc DX10_pair) 15 = .ok (.aload_n 0, 1) := by decide +kernel
theorem dX10_pair_16 : decode (dc DX10_pair) 16 = .ok (.iconst 1, 1) := by decide +kernel
theorem dX10_pair_17 : decode (dc DX10_pair) 17 = .ok (.iload_n 2, 1) := by decide +kernel
theorem dX10_pair_18 : decode (dc DX10_pair) 18 = .ok (.invokevirtual 282, 3) := by decide +kernel
theorem dX10_pair_21 : decode (dc DX10_pair) 21 = .ok (.ifCond .ne 7, 3) := by decide +kernel
theorem dX10_pair_24 : decode (dc DX10_pair) 24 = .ok (.iconst 1, 1) := by decide +kernel
theorem dX10_pair_25 : decode (dc DX10_pair) 25 = .ok (.goto 4, 3) := by decide +kernel
theorem dX10_pair_28 : decode (dc DX10_pair) 28 = .ok (.iconst 0, 1) := by decide +kernel
theorem dX10_pair_29 : decode (dc DX10_pair) 29 = .ok (.iconst 1, 1) := by decide +kernel
theorem dX10_pair_30 : decode (dc DX10_pair) 30 = .ok (.iconst 0, 1) := by decide +kernel
theorem dX10_pair_31 : decode (dc DX10_pair) 31 = .ok (.invokevirtual 217, 3) := by decide +kernel
theorem dX10_pair_34 : decode (dc DX10_pair) 34 = .ok (.ifCond .ne 56, 3) := by decide +kernel
theorem dX10_pair_37 : decode (dc DX10_pair) 37 = .ok (.aload_n 0, 1) := by decide +kernel
theorem dX10_pair_38 : decode (dc DX10_pair) 38 = .ok (.aload_n 0, 1) := by decide +kernel
theorem dX10_pair_39 : decode (dc DX10_pair) 39 = .ok (.iload_n 1, 1) := by decide +kernel
theorem dX10_pair_40 : decode (dc DX10_pair) 40 = .ok (.iload_n 2, 1) := by decide +kernel
theorem dX10_pair_41 : decode (dc DX10_pair) 41 = .ok (.invokevirtual 285, 3) := by decide +kernel
theorem dX10_pair_44 : decode (dc DX10_pair) 44 = .ok (.ifCond .eq 33, 3) := by decide +kernel
theorem dX10_pair_47 : decode (dc DX10_pair) 47 = .ok (.aload_n 0, 1) := by decide +kernel
theorem dX10_pair_48 : decode (dc DX10_pair) 48 = .ok (.iconst 0, 1) := by decide +kernel
theorem dX10_pair_49 : decode (dc DX10_pair) 49 = .ok (.iload_n 1, 1) := by decide +kernel
theorem dX10_pair_50 : decode (dc DX10_pair) 50 = .ok (.invokevirtual 240, 3) := by decide +kernel
theorem dX10_pair_53 : decode (dc DX10_pair) 53 = .ok (.ifCond .eq 24, 3) := by decide +kernel
theorem dX10_pair_56 : decode (dc DX10_pair) 56 = .ok (.aload_n 0, 1) := by decide +kernel
theorem dX10_pair_57 : decode (dc DX10_pair) 57 = .ok (.iconst 1, 1) := by decide +kernel
theorem dX10_pair_58 : decode (dc DX10_pair) 58 = .ok (.iload_n 2, 1) := by decide +kernel
theorem dX10_pair_59 : decode (dc DX10_pair) 59 = .ok (.invokevirtual 240, 3) := by decide +kernel
theorem dX10_pair_62 : decode (dc DX10_pair) 62 = .ok (.ifCond .eq 15, 3) := by decide +kernel
theorem dX10_pair_65 : decode (dc DX10_pair) 65 = .ok (.aload_n 0, 1) := by decide +kernel
theorem dX10_pair_66 : decode (dc DX10_pair) 66 = .ok (.getfield 28, 3) := by decide +kernel
theorem dX10_pair_69 : decode (dc DX10_pair) 69 = .ok (.iconst 0, 1) := by decide +kernel
theorem dX10_pair_70 : decode (dc DX10_pair) 70 = .ok (.aaload, 1) := by decide +kernel
theorem dX10_pair_71 : decode (dc DX10_pair) 71 = .ok (.iload_n 1, 1) := by decide +kernel
theorem dX10_pair_72 : decode (dc DX10_pair) 72 = .ok (.iaload, 1) := by decide +kernel
theorem dX10_pair_73 : decode (dc DX10_pair) 73 = .ok (.iload_n 2, 1) := by decide +kernel
theorem dX10_pair_74 : decode (dc DX10_pair) 74 = .ok (.if_icmp .ne 7, 3) := by decide +kernel
theorem dX10_pair_77 : decode (dc DX10_pair) 77 = .ok (.iconst 1, 1) := by decide +kernel
theorem dX10_pair_78 : decode (dc DX10_pair) 78 = .ok (.goto 4, 3) := by decide +kernel
theorem dX10_pair_81 : decode (dc DX10_pair) 81 = .ok (.iconst 0, 1) := by decide +kernel
theorem dX10_pair_82 : decode (dc DX10_pair) 82 = .ok (.iconst 2, 1) := by decide +kernel
theorem dX10_pair_83 : decode (dc DX10_pair) 83 = .ok (.iconst 1, 1) := by decide +kernel
theorem dX10_pair_84 : decode (dc DX10_pair) 84 = .ok (.invokevirtual 217, 3) := by decide +kernel
theorem dX10_pair_87 : decode (dc DX10_pair) 87 = .ok (.ifCond .eq 5, 3) := by decide +kernel
theorem dX10_pair_90 : decode (dc DX10_pair) 90 = .ok (.iconst 0, 1) := by decide +kernel
theorem dX10_pair_91 : decode (dc DX10_pair) 91 = .ok (.ireturn, 1) := by decide +kernel
theorem dX10_pair_92 : decode (dc DX10_pair) 92 = .ok (.aload_n 0, 1) := by decide +kernel
theorem dX10_pair_93 : decode (dc DX10_pair) 93 = .ok (.invokevirtual 383, 3) := by decide +kernel
theorem dX10_pair_96 : decode (dc DX10_pair) 96 = .ok (.aload_n 0, 1) := by decide +kernel
theorem dX10_pair_97 : decode (dc DX10_pair) 97 = .ok (.iconst 0, 1) := by decide +kernel
theorem dX10_pair_98 : decode (dc DX10_pair) 98 = .ok (.iload_n 1, 1) := by decide +kernel
theorem dX10_pair_99 : decode (dc DX10_pair) 99 = .ok (.invokevirtual 386, 3) := by decide +kernel
theorem dX10_pair_102 : decode (dc DX10_pair) 102 = .ok (.aload_n 0, 1) := by decide +kernel
theorem dX10_pair_103 : decode (dc DX10_pair) 103 = .ok (.iconst 1, 1) := by decide +kernel
theorem dX10_pair_104 : decode (dc DX10_pair) 104 = .ok (.iload_n 2, 1) := by decide +kernel
theorem dX10_pair_105 : decode (dc DX10_pair) 105 = .ok (.invokevirtual 386, 3) := by decide +kernel
theorem dX10_pair_108 : decode (dc DX10_pair) 108 = .ok (.aload_n 0, 1) := by decide +kernel
theorem dX10_pair_109 : decode (dc DX10_pair) 109 = .ok (.getfield 28, 3) := by decide +kernel
theorem dX10_pair_112 : decode (dc DX10_pair) 112 = .ok (.iconst 0, 1) := by decide +kernel
theorem dX10_pair_113 : decode (dc DX10_pair) 113 = .ok (.aaload, 1) := by decide +kernel
theorem dX10_pair_114 : decode (dc DX10_pair) 114 = .ok (.iload_n 1, 1) := by decide +kernel
theorem dX10_pair_115 : decode (dc DX10_pair) 115 = .ok (.iload_n 2, 1) := by decide +kernel
theorem dX10_pair_116 : decode (dc DX10_pair) 116 = .ok (.iastore, 1) := by decide +kernel
theorem dX10_pair_117 : decode (dc DX10_pair) 117 = .ok (.aload_n 0, 1) := by decide +kernel
theorem dX10_pair_118 : decode (dc DX10_pair) 118 = .ok (.invokevirtual 237, 3) := by decide +kernel
theorem dX10_pair_121 : decode (dc DX10_pair) 121 = .ok (.istore_n 3, 1) := by decide +kernel
theorem dX10_pair_122 : decode (dc DX10_pair) 122 = .ok (.aload_n 0, 1) := by decide +kernel
theorem dX10_pair_123 : decode (dc DX10_pair) 123 = .ok (.invokevirtual 234, 3) := by decide +kernel
theorem dX10_pair_126 : decode (dc DX10_pair) 126 = .ok (.iload_n 3, 1) := by decide +kernel
theorem dX10_pair_127 : decode (dc DX10_pair) 127 = .ok (.ireturn, 1) := by decide +kernel
theorem dX10_part_0 : decode (dc DX10_part) 0 = .ok (.aload_n 0, 1) := by decide +kernel
theorem dX10_part_1 : decode (dc DX10_part) 1 = .ok (.iconst 0, 1) := by decide +kernel
theorem dX10_part_2 : decode (dc DX10_part) 2 = .ok (.putfield 82, 3) := by decide +kernel
theorem dX10_part_5 : decode (dc DX10_part) 5 = .ok (.aload_n 0, 1) := by decide +kernel
theorem dX10_part_6 : decode (dc DX10_part) 6 = .ok (.aload_n 0, 1) := by decide +kernel
theorem dX10_part_7 : decode (dc DX10_part) 7 = .ok (.iconst 0, 1) := by decide +kernel
theorem dX10_part_8 : decode (dc DX10_part) 8 = .ok (.iload_n 1, 1) := by decide +kernel
theorem dX10_part_9 : decode (dc DX10_part) 9 = .ok (.invokevirtual 282, 3) := by decide +kernel
theorem dX10_part_12 : decode (dc DX10_part) 12 = .ok (.ifCond .ne 7, 3) := by decide +kernel
theorem dX10_part_15 : decode (dc DX10_part) 15 = .ok (.iconst 1, 1) := by decide +kernel
theorem dX10_part_16 : decode (dc DX10_part) 16 = .ok (.goto 4, 3) := by decide +kernel
theorem dX10_part_19 : decode (dc DX10_part) 19 = .ok (.iconst 0, 1) := by decide +kernel
theorem dX10_part_20 : decode (dc DX10_part) 20 = .ok (.iconst 1, 1) := by decide +kernel
theorem dX10_part_21 : decode (dc DX10_part) 21 = .ok (.iconst 0, 1) := by decide +kernel
theorem dX10_part_22 : decode (dc DX10_part) 22 = .ok (.invokevirtual 217, 3) := by decide +kernel
theorem dX10_part_25 : decode (dc DX10_part) 25 = .ok (.ifCond .ne 29, 3) := by decide +kernel
theorem dX10_part_28 : decode (dc DX10_part) 28 = .ok (.aload_n 0, 1) := by decide +kernel
theorem dX10_part_29 : decode (dc DX10_part) 29 = .ok (.aload_n 0, 1) := by decide +kernel
theorem dX10_part_30 : decode (dc DX10_part) 30 = .ok (.getfield 28, 3) := by decide +kernel
theorem dX10_part_33 : decode (dc DX10_part) 33 = .ok (.iconst 0, 1) := by decide +kernel
theorem dX10_part_34 : decode (dc DX10_part) 34 = .ok (.aaload, 1) := by decide +kernel
theorem dX10_part_35 : decode (dc DX10_part) 35 = .ok (.iload_n 1, 1) := by decide +kernel
theorem dX10_part_36 : decode (dc DX10_part) 36 = .ok (.iaload, 1) := by decide +kernel
theorem dX10_part_37 : decode (dc DX10_part) 37 = .ok (.iconst (-1), 1) := by decide +kernel
theorem dX10_part_38 : decode (dc DX10_part) 38 = .ok (.if_icmp .ne 7, 3) := by decide +kernel
theorem dX10_part_41 : decode (dc DX10_part) 41 = .ok (.iconst 1, 1) := by decide +kernel
theorem dX10_part_42 : decode (dc DX10_part) 42 = .ok (.goto 4, 3) := by decide +kernel
theorem dX10_part_45 : decode (dc DX10_part) 45 = .ok (.iconst 0, 1) := by decide +kernel
theorem dX10_part_46 : decode (dc DX10_part) 46 = .ok (.iconst 2, 1) := by decide +kernel
theorem dX10_part_47 : decode (dc DX10_part) 47 = .ok (.iconst 1, 1) := by decide +kernel
theorem dX10_part_48 : decode (dc DX10_part) 48 = .ok (.invokevirtual 217, 3) := by decide +kernel
theorem dX10_part_51 : decode (dc DX10_part) 51 = .ok (.ifCond .eq 5, 3) := by decide +kernel
theorem dX10_part_54 : decode (dc DX10_part) 54 = .ok (.iconst 0, 1) := by decide +kernel
theorem dX10_part_55 : decode (dc DX10_part) 55 = .ok (.ireturn, 1) := by decide +kernel
theorem dX10_part_56 : decode (dc DX10_part) 56 = .ok (.aload_n 0, 1) := by decide +kernel
theorem dX10_part_57 : decode (dc DX10_part) 57 = .ok (.invokevirtual 383, 3) := by decide +kernel
theorem dX10_part_60 : decode (dc DX10_part) 60 = .ok (.aload_n 0, 1) := by decide +kernel
theorem dX10_part_61 : decode (dc DX10_part) 61 = .ok (.getfield 28, 3) := by decide +kernel
theorem dX10_part_64 : decode (dc DX10_part) 64 = .ok (.iconst 0, 1) := by decide +kernel
theorem dX10_part_65 : decode (dc DX10_part) 65 = .ok (.aaload, 1) := by decide +kernel
theorem dX10_part_66 : decode (dc DX10_part) 66 = .ok (.iload_n 1, 1) := by decide +kernel
theorem dX10_part_67 : decode (dc DX10_part) 67 = .ok (.iaload, 1) := by decide +kernel
theorem dX10_part_68 : decode (dc DX10_part) 68 = .ok (.istore_n 2, 1) := by decide +kernel
theorem dX10_part_69 : decode (dc DX10_part) 69 = .ok (.aload_n 0, 1) := by decide +kernel
theorem dX10_part_70 : decode (dc DX10_part) 70 = .ok (.getfield 28, 3) := by decide +kernel
theorem dX10_part_73 : decode (dc DX10_part) 73 = .ok (.iconst 0, 1) := by decide +kernel
theorem dX10_part_74 : decode (dc DX10_part) 74 = .ok (.aaload, 1) := by decide +kernel
theorem dX10_part_75 : decode (dc DX10_part) 75 = .ok (.iload_n 1, 1) := by decide +kernel
theorem dX10_part_76 : decode (dc DX10_part) 76 = .ok (.iconst (-1), 1) := by decide +kernel
theorem dX10_part_77 : decode (dc DX10_part) 77 = .ok (.iastore, 1) := by decide +kernel
theorem dX10_part_78 : decode (dc DX10_part) 78 = .ok (.aload_n 0, 1) := by decide +kernel
theorem dX10_part_79 : decode (dc DX10_part) 79 = .ok (.invokevirtual 234, 3) := by decide +kernel
theorem dX10_part_82 : decode (dc DX10_part) 82 = .ok (.iload_n 2, 1) := by decide +kernel
theorem dX10_part_83 : decode (dc DX10_part) 83 = .ok (.ireturn, 1) := by decide +kernel
theorem dX10_keep_0 : decode (dc DX10_keep) 0 = .ok (.aload_n 0, 1) := by decide +kernel
theorem dX10_keep_1 : decode (dc DX10_keep) 1 = .ok (.iconst 0, 1) := by decide +kernel
theorem dX10_keep_2 : decode (dc DX10_keep) 2 = .ok (.putfield 82, 3) := by decide +kernel
theorem dX10_keep_5 : decode (dc DX10_keep) 5 = .ok (.aload_n 0, 1) := by decide +kernel
theorem dX10_keep_6 : decode (dc DX10_keep) 6 = .ok (.iload_n 1, 1) := by decide +kernel
theorem dX10_keep_7 : decode (dc DX10_keep) 7 = .ok (.iconst 0, 1) := by decide +kernel
theorem dX10_keep_8 : decode (dc DX10_keep) 8 = .ok (.iconst 1, 1) := by decide +kernel
theorem dX10_keep_9 : decode (dc DX10_keep) 9 = .ok (.invokestatic 127, 3) := by decide +kernel
theorem dX10_keep_12 : decode (dc DX10_keep) 12 = .ok (.ifCond .ne 7, 3) := by decide +kernel
theorem dX10_keep_15 : decode (dc DX10_keep) 15 = .ok (.iconst 1, 1) := by decide +kernel
theorem dX10_keep_16 : decode (dc DX10_keep) 16 = .ok (.goto 4, 3) := by decide +kernel
theorem dX10_keep_19 : decode (dc DX10_keep) 19 = .ok (.iconst 0, 1) := by decide +kernel
theorem dX10_keep_20 : decode (dc DX10_keep) 20 = .ok (.iconst 1, 1) := by decide +kernel
theorem dX10_keep_21 : decode (dc DX10_keep) 21 = .ok (.iconst 1, 1) := by decide +kernel
theorem dX10_keep_22 : decode (dc DX10_keep) 22 = .ok (.invokevirtual 217, 3) := by decide +kernel
theorem dX10_keep_25 : decode (dc DX10_keep) 25 = .ok (.ifCond .eq 5, 3) := by decide +kernel
theorem dX10_keep_28 : decode (dc DX10_keep) 28 = .ok (.iconst 0, 1) := by decide +kernel
theorem dX10_keep_29 : decode (dc DX10_keep) 29 = .ok (.ireturn, 1) := by decide +kernel
theorem dX10_keep_30 : decode (dc DX10_keep) 30 = .ok (.aload_n 0, 1) := by decide +kernel
theorem dX10_keep_31 : decode (dc DX10_keep) 31 = .ok (.invokevirtual 383, 3) := by decide +kernel
theorem dX10_keep_34 : decode (dc DX10_keep) 34 = .ok (.aload_n 0, 1) := by decide +kernel
theorem dX10_keep_35 : decode (dc DX10_keep) 35 = .ok (.getfield 22, 3) := by decide +kernel
theorem dX10_keep_38 : decode (dc DX10_keep) 38 = .ok (.iconst 0, 1) := by decide +kernel
theorem dX10_keep_39 : decode (dc DX10_keep) 39 = .ok (.aaload, 1) := by decide +kernel
theorem dX10_keep_40 : decode (dc DX10_keep) 40 = .ok (.iconst 2, 1) := by decide +kernel
theorem dX10_keep_41 : decode (dc DX10_keep) 41 = .ok (.iaload, 1) := by decide +kernel
theorem dX10_keep_42 : decode (dc DX10_keep) 42 = .ok (.istore_n 2, 1) := by decide +kernel
theorem dX10_keep_43 : decode (dc DX10_keep) 43 = .ok (.aload_n 0, 1) := by decide +kernel
theorem dX10_keep_44 : decode (dc DX10_keep) 44 = .ok (.getfield 22, 3) := by decide +kernel
theorem dX10_keep_47 : decode (dc DX10_keep) 47 = .ok (.iconst 0, 1) := by decide +kernel
theorem dX10_keep_48 : decode (dc DX10_keep) 48 = .ok (.aaload, 1) := by decide +kernel
theorem dX10_keep_49 : decode (dc DX10_keep) 49 = .ok (.iconst 2, 1) := by decide +kernel
theorem dX10_keep_50 : decode (dc DX10_keep) 50 = .ok (.iload_n 1, 1) := by decide +kernel
theorem dX10_keep_51 : decode (dc DX10_keep) 51 = .ok (.iastore, 1) := by decide +kernel
theorem dX10_keep_52 : decode (dc DX10_keep) 52 = .ok (.aload_n 0, 1) := by decide +kernel
theorem dX10_keep_53 : decode (dc DX10_keep) 53 = .ok (.invokevirtual 234, 3) := by decide +kernel
theorem dX10_keep_56 : decode (dc DX10_keep) 56 = .ok (.iload_n 2, 1) := by decide +kernel
theorem dX10_keep_57 : decode (dc DX10_keep) 57 = .ok (.ireturn, 1) := by decide +kernel
theorem dX10_weight_0 : decode (dc DX10_weight) 0 = .ok (.aload_n 0, 1) := by decide +kernel
theorem dX10_weight_1 : decode (dc DX10_weight) 1 = .ok (.iconst 0, 1) := by decide +kernel
theorem dX10_weight_2 : decode (dc DX10_weight) 2 = .ok (.putfield 82, 3) := by decide +kernel
theorem dX10_weight_5 : decode (dc DX10_weight) 5 = .ok (.aload_n 0, 1) := by decide +kernel
theorem dX10_weight_6 : decode (dc DX10_weight) 6 = .ok (.aload_n 0, 1) := by decide +kernel
theorem dX10_weight_7 : decode (dc DX10_weight) 7 = .ok (.iconst 0, 1) := by decide +kernel
theorem dX10_weight_8 : decode (dc DX10_weight) 8 = .ok (.iload_n 1, 1) := by decide +kernel
theorem dX10_weight_9 : decode (dc DX10_weight) 9 = .ok (.invokevirtual 282, 3) := by decide +kernel
theorem dX10_weight_12 : decode (dc DX10_weight) 12 = .ok (.ifCond .ne 7, 3) := by decide +kernel
theorem dX10_weight_15 : decode (dc DX10_weight) 15 = .ok (.iconst 1, 1) := by decide +kernel
theorem dX10_weight_16 : decode (dc DX10_weight) 16 = .ok (.goto 4, 3) := by decide +kernel
theorem dX10_weight_19 : decode (dc DX10_weight) 19 = .ok (.iconst 0, 1) := by decide +kernel
theorem dX10_weight_20 : decode (dc DX10_weight) 20 = .ok (.iconst 1, 1) := by decide +kernel
theorem dX10_weight_21 : decode (dc DX10_weight) 21 = .ok (.iconst 0, 1) := by decide +kernel
theorem dX10_weight_22 : decode (dc DX10_weight) 22 = .ok (.invokevirtual 217, 3) := by decide +kernel
theorem dX10_weight_25 : decode (dc DX10_weight) 25 = .ok (.ifCond .ne 27, 3) := by decide +kernel
theorem dX10_weight_28 : decode (dc DX10_weight) 28 = .ok (.aload_n 0, 1) := by decide +kernel
theorem dX10_weight_29 : decode (dc DX10_weight) 29 = .ok (.iload_n 2, 1) := by decide +kernel
theorem dX10_weight_30 : decode (dc DX10_weight) 30 = .ok (.iconst 0, 1) := by decide +kernel
theorem dX10_weight_31 : decode (dc DX10_weight) 31 = .ok (.bipush 99, 2) := by decide +kernel
theorem dX10_weight_33 : decode (dc DX10_weight) 33 = .ok (.invokestatic 127, 3) := by decide +kernel
theorem dX10_weight_36 : decode (dc DX10_weight) 36 = .ok (.ifCond .ne 7, 3) := by decide +kernel
theorem dX10_weight_39 : decode (dc DX10_weight) 39 = .ok (.iconst 1, 1) := by decide +kernel
theorem dX10_weight_40 : decode (dc DX10_weight) 40 = .ok (.goto 4, 3) := by decide +kernel
theorem dX10_weight_43 : decode (dc DX10_weight) 43 = .ok (.iconst 0, 1) := by decide +kernel
theorem dX10_weight_44 : decode (dc DX10_weight) 44 = .ok (.iconst 2, 1) := by decide +kernel
theorem dX10_weight_45 : decode (dc DX10_weight) 45 = .ok (.iconst 1, 1) := by decide +kernel
theorem dX10_weight_46 : decode (dc DX10_weight) 46 = .ok (.invokevirtual 217, 3) := by decide +kernel
theorem dX10_weight_49 : decode (dc DX10_weight) 49 = .ok (.ifCond .eq 5, 3) := by decide +kernel
theorem dX10_weight_52 : decode (dc DX10_weight) 52 = .ok (.iconst 0, 1) := by decide +kernel
theorem dX10_weight_53 : decode (dc DX10_weight) 53 = .ok (.ireturn, 1) := by decide +kernel
theorem dX10_weight_54 : decode (dc DX10_weight) 54 = .ok (.aload_n 0, 1) := by decide +kernel
theorem dX10_weight_55 : decode (dc DX10_weight) 55 = .ok (.invokevirtual 383, 3) := by decide +kernel
theorem dX10_weight_58 : decode (dc DX10_weight) 58 = .ok (.aload_n 0, 1) := by decide +kernel
theorem dX10_weight_59 : decode (dc DX10_weight) 59 = .ok (.getfield 31, 3) := by decide +kernel
theorem dX10_weight_62 : decode (dc DX10_weight) 62 = .ok (.iconst 0, 1) := by decide +kernel
theorem dX10_weight_63 : decode (dc DX10_weight) 63 = .ok (.aaload, 1) := by decide +kernel
theorem dX10_weight_64 : decode (dc DX10_weight) 64 = .ok (.iload_n 1, 1) := by decide +kernel
theorem dX10_weight_65 : decode (dc DX10_weight) 65 = .ok (.iaload, 1) := by decide +kernel
theorem dX10_weight_66 : decode (dc DX10_weight) 66 = .ok (.istore_n 3, 1) := by decide +kernel
theorem dX10_weight_67 : decode (dc DX10_weight) 67 = .ok (.aload_n 0, 1) := by decide +kernel
theorem dX10_weight_68 : decode (dc DX10_weight) 68 = .ok (.getfield 31, 3) := by decide +kernel
theorem dX10_weight_71 : decode (dc DX10_weight) 71 = .ok (.iconst 0, 1) := by decide +kernel
theorem dX10_weight_72 : decode (dc DX10_weight) 72 = .ok (.aaload, 1) := by decide +kernel
theorem dX10_weight_73 : decode (dc DX10_weight) 73 = .ok (.iload_n 1, 1) := by decide +kernel
theorem dX10_weight_74 : decode (dc DX10_weight) 74 = .ok (.iload_n 2, 1) := by decide +kernel
theorem dX10_weight_75 : decode (dc DX10_weight) 75 = .ok (.iastore, 1) := by decide +kernel
theorem dX10_weight_76 : decode (dc DX10_weight) 76 = .ok (.aload_n 0, 1) := by decide +kernel
theorem dX10_weight_77 : decode (dc DX10_weight) 77 = .ok (.invokevirtual 234, 3) := by decide +kernel
theorem dX10_weight_80 : decode (dc DX10_weight) 80 = .ok (.iload_n 3, 1) := by decide +kernel
theorem dX10_weight_81 : decode (dc DX10_weight) 81 = .ok (.ireturn, 1) := by decide +kernel
theorem dX10_gain_0 : decode (dc DX10_gain) 0 = .ok (.aload_n 0, 1) := by decide +kernel
theorem dX10_gain_1 : decode (dc DX10_gain) 1 = .ok (.getfield 28, 3) := by decide +kernel
theorem dX10_gain_4 : decode (dc DX10_gain) 4 = .ok (.iconst 0, 1) := by decide +kernel
theorem dX10_gain_5 : decode (dc DX10_gain) 5 = .ok (.aaload, 1) := by decide +kernel
theorem dX10_gain_6 : decode (dc DX10_gain) 6 = .ok (.iload_n 1, 1) := by decide +kernel
theorem dX10_gain_7 : decode (dc DX10_gain) 7 = .ok (.iaload, 1) := by decide +kernel
theorem dX10_gain_8 : decode (dc DX10_gain) 8 = .ok (.istore_n 3, 1) := by decide +kernel
theorem dX10_gain_9 : decode (dc DX10_gain) 9 = .ok (.aload_n 0, 1) := by decide +kernel
theorem dX10_gain_10 : decode (dc DX10_gain) 10 = .ok (.getfield 28, 3) := by decide +kernel
theorem dX10_gain_13 : decode (dc DX10_gain) 13 = .ok (.iconst 0, 1) := by decide +kernel
theorem dX10_gain_14 : decode (dc DX10_gain) 14 = .ok (.aaload, 1) := by decide +kernel
theorem dX10_gain_15 : decode (dc DX10_gain) 15 = .ok (.iload_n 2, 1) := by decide +kernel
theorem dX10_gain_16 : decode (dc DX10_gain) 16 = .ok (.iaload, 1) := by decide +kernel
theorem dX10_gain_17 : decode (dc DX10_gain) 17 = .ok (.istore 4, 2) := by decide +kernel
theorem dX10_gain_19 : decode (dc DX10_gain) 19 = .ok (.iload_n 3, 1) := by decide +kernel
theorem dX10_gain_20 : decode (dc DX10_gain) 20 = .ok (.iconst (-1), 1) := by decide +kernel
theorem dX10_gain_21 : decode (dc DX10_gain) 21 = .ok (.if_icmp .eq 28, 3) := by decide +kernel
theorem dX10_gain_24 : decode (dc DX10_gain) 24 = .ok (.iload 4, 2) := by decide +kernel
theorem dX10_gain_26 : decode (dc DX10_gain) 26 = .ok (.iconst (-1), 1) := by decide +kernel
theorem dX10_gain_27 : decode (dc DX10_gain) 27 = .ok (.if_icmp .eq 22, 3) := by decide +kernel
theorem dX10_gain_30 : decode (dc DX10_gain) 30 = .ok (.aload_n 0, 1) := by decide +kernel
theorem dX10_gain_31 : decode (dc DX10_gain) 31 = .ok (.iload_n 1, 1) := by decide +kernel
theorem dX10_gain_32 : decode (dc DX10_gain) 32 = .ok (.iload 4, 2) := by decide +kernel
theorem dX10_gain_34 : decode (dc DX10_gain) 34 = .ok (.invokevirtual 285, 3) := by decide +kernel
theorem dX10_gain_37 : decode (dc DX10_gain) 37 = .ok (.ifCond .eq 12, 3) := by decide +kernel
theorem dX10_gain_40 : decode (dc DX10_gain) 40 = .ok (.aload_n 0, 1) := by decide +kernel
theorem dX10_gain_41 : decode (dc DX10_gain) 41 = .ok (.iload_n 2, 1) := by decide +kernel
theorem dX10_gain_42 : decode (dc DX10_gain) 42 = .ok (.iload_n 3, 1) := by decide +kernel
theorem dX10_gain_43 : decode (dc DX10_gain) 43 = .ok (.invokevirtual 285, 3) := by decide +kernel
theorem dX10_gain_46 : decode (dc DX10_gain) 46 = .ok (.ifCond .ne 5, 3) := by decide +kernel
theorem dX10_gain_49 : decode (dc DX10_gain) 49 = .ok (.iconst 0, 1) := by decide +kernel
theorem dX10_gain_50 : decode (dc DX10_gain) 50 = .ok (.ireturn, 1) := by decide +kernel
theorem dX10_gain_51 : decode (dc DX10_gain) 51 = .ok (.aload_n 0, 1) := by decide +kernel
theorem dX10_gain_52 : decode (dc DX10_gain) 52 = .ok (.getfield 36, 3) := by decide +kernel
theorem dX10_gain_55 : decode (dc DX10_gain) 55 = .ok (.iconst 0, 1) := by decide +kernel
theorem dX10_gain_56 : decode (dc DX10_gain) 56 = .ok (.aaload, 1) := by decide +kernel
theorem dX10_gain_57 : decode (dc DX10_gain) 57 = .ok (.iload_n 1, 1) := by decide +kernel
theorem dX10_gain_58 : decode (dc DX10_gain) 58 = .ok (.aaload, 1) := by decide +kernel
theorem dX10_gain_59 : decode (dc DX10_gain) 59 = .ok (.iload_n 3, 1) := by decide +kernel
theorem dX10_gain_60 : decode (dc DX10_gain) 60 = .ok (.iaload, 1) := by decide +kernel
theorem dX10_gain_61 : decode (dc DX10_gain) 61 = .ok (.aload_n 0, 1) := by decide +kernel
theorem dX10_gain_62 : decode (dc DX10_gain) 62 = .ok (.getfield 36, 3) := by decide +kernel
theorem dX10_gain_65 : decode (dc DX10_gain) 65 = .ok (.iconst 0, 1) := by decide +kernel
theorem dX10_gain_66 : decode (dc DX10_gain) 66 = .ok (.aaload, 1) := by decide +kernel
theorem dX10_gain_67 : decode (dc DX10_gain) 67 = .ok (.iload_n 2, 1) := by decide +kernel
theorem dX10_gain_68 : decode (dc DX10_gain) 68 = .ok (.aaload, 1) := by decide +kernel
theorem dX10_gain_69 : decode (dc DX10_gain) 69 = .ok (.iload 4, 2) := by decide +kernel
theorem dX10_gain_71 : decode (dc DX10_gain) 71 = .ok (.iaload, 1) := by decide +kernel
theorem dX10_gain_72 : decode (dc DX10_gain) 72 = .ok (.iadd, 1) := by decide +kernel
theorem dX10_gain_73 : decode (dc DX10_gain) 73 = .ok (.aload_n 0, 1) := by decide +kernel
theorem dX10_gain_74 : decode (dc DX10_gain) 74 = .ok (.getfield 36, 3) := by decide +kernel
theorem dX10_gain_77 : decode (dc DX10_gain) 77 = .ok (.iconst 0, 1) := by decide +kernel
theorem dX10_gain_78 : decode (dc DX10_gain) 78 = .ok (.aaload, 1) := by decide +kernel
theorem dX10_gain_79 : decode (dc DX10_gain) 79 = .ok (.iload_n 1, 1) := by decide +kernel
theorem dX10_gain_80 : decode (dc DX10_gain) 80 = .ok (.aaload, 1) := by decide +kernel
theorem dX10_gain_81 : decode (dc DX10_gain) 81 = .ok (.iload 4, 2) := by decide +kernel
theorem dX10_gain_83 : decode (dc DX10_gain) 83 = .ok (.iaload, 1) := by decide +kernel
theorem dX10_gain_84 : decode (dc DX10_gain) 84 = .ok (.isub, 1) := by decide +kernel
theorem dX10_gain_85 : decode (dc DX10_gain) 85 = .ok (.aload_n 0, 1) := by decide +kernel
theorem dX10_gain_86 : decode (dc DX10_gain) 86 = .ok (.getfield 36, 3) := by decide +kernel
theorem dX10_gain_89 : decode (dc DX10_gain) 89 = .ok (.iconst 0, 1) := by decide +kernel
theorem dX10_gain_90 : decode (dc DX10_gain) 90 = .ok (.aaload, 1) := by decide +kernel
theorem dX10_gain_91 : decode (dc DX10_gain) 91 = .ok (.iload_n 2, 1) := by decide +kernel
theorem dX10_gain_92 : decode (dc DX10_gain) 92 = .ok (.aaload, 1) := by decide +kernel
theorem dX10_gain_93 : decode (dc DX10_gain) 93 = .ok (.iload_n 3, 1) := by decide +kernel
theorem dX10_gain_94 : decode (dc DX10_gain) 94 = .ok (.iaload, 1) := by decide +kernel
theorem dX10_gain_95 : decode (dc DX10_gain) 95 = .ok (.isub, 1) := by decide +kernel
theorem dX10_gain_96 : decode (dc DX10_gain) 96 = .ok (.ireturn, 1) := by decide +kernel
theorem dX10_trade_0 : decode (dc DX10_trade) 0 = .ok (.aload_n 0, 1) := by decide +kernel
theorem dX10_trade_1 : decode (dc DX10_trade) 1 = .ok (.iconst 0, 1) := by decide +kernel
theorem dX10_trade_2 : decode (dc DX10_trade) 2 = .ok (.putfield 82, 3) := by decide +kernel
theorem dX10_trade_5 : decode (dc DX10_trade) 5 = .ok (.iconst 0, 1) := by decide +kernel
theorem dX10_trade_6 : decode (dc DX10_trade) 6 = .ok (.istore_n 1, 1) := by decide +kernel
theorem dX10_trade_7 : decode (dc DX10_trade) 7 = .ok (.iconst (-1), 1) := by decide +kernel
theorem dX10_trade_8 : decode (dc DX10_trade) 8 = .ok (.istore_n 2, 1) := by decide +kernel
theorem dX10_trade_9 : decode (dc DX10_trade) 9 = .ok (.iconst (-1), 1) := by decide +kernel
theorem dX10_trade_10 : decode (dc DX10_trade) 10 = .ok (.istore_n 3, 1) := by decide +kernel
theorem dX10_trade_11 : decode (dc DX10_trade) 11 = .ok (.iconst 0, 1) := by decide +kernel
theorem dX10_trade_12 : decode (dc DX10_trade) 12 = .ok (.istore 4, 2) := by decide +kernel
theorem dX10_trade_14 : decode (dc DX10_trade) 14 = .ok (.iload 4, 2) := by decide +kernel
theorem dX10_trade_16 : decode (dc DX10_trade) 16 = .ok (.aload_n 0, 1) := by decide +kernel
theorem dX10_trade_17 : decode (dc DX10_trade) 17 = .ok (.getfield 22, 3) := by decide +kernel
theorem dX10_trade_20 : decode (dc DX10_trade) 20 = .ok (.iconst 0, 1) := by decide +kernel
theorem dX10_trade_21 : decode (dc DX10_trade) 21 = .ok (.aaload, 1) := by decide +kernel
theorem dX10_trade_22 : decode (dc DX10_trade) 22 = .ok (.iconst 0, 1) := by decide +kernel
theorem dX10_trade_23 : decode (dc DX10_trade) 23 = .ok (.iaload, 1) := by decide +kernel
theorem dX10_trade_24 : decode (dc DX10_trade) 24 = .ok (.if_icmp .ge 64, 3) := by decide +kernel
theorem dX10_trade_27 : decode (dc DX10_trade) 27 = .ok (.iload 4, 2) := by decide +kernel
theorem dX10_trade_29 : decode (dc DX10_trade) 29 = .ok (.iconst 1, 1) := by decide +kernel
theorem dX10_trade_30 : decode (dc DX10_trade) 30 = .ok (.iadd, 1) := by decide +kernel
theorem dX10_trade_31 : decode (dc DX10_trade) 31 = .ok (.istore 5, 2) := by decide +kernel
theorem dX10_trade_33 : decode (dc DX10_trade) 33 = .ok (.iload 5, 2) := by decide +kernel
theorem dX10_trade_35 : decode (dc DX10_trade) 35 = .ok (.aload_n 0, 1) := by decide +kernel
theorem dX10_trade_36 : decode (dc DX10_trade) 36 = .ok (.getfield 22, 3) := by decide +kernel
theorem dX10_trade_39 : decode (dc DX10_trade) 39 = .ok (.iconst 0, 1) := by decide +kernel
theorem dX10_trade_40 : decode (dc DX10_trade) 40 = .ok (.aaload, 1) := by decide +kernel
theorem dX10_trade_41 : decode (dc DX10_trade) 41 = .ok (.iconst 0, 1) := by decide +kernel
theorem dX10_trade_42 : decode (dc DX10_trade) 42 = .ok (.iaload, 1) := by decide +kernel
theorem dX10_trade_43 : decode (dc DX10_trade) 43 = .ok (.if_icmp .ge 39, 3) := by decide +kernel
theorem dX10_trade_46 : decode (dc DX10_trade) 46 = .ok (.aload_n 0, 1) := by decide +kernel
theorem dX10_trade_47 : decode (dc DX10_trade) 47 = .ok (.iload 4, 2) := by decide +kernel
theorem dX10_trade_49 : decode (dc DX10_trade) 49 = .ok (.iload 5, 2) := by decide +kernel
theorem dX10_trade_51 : decode (dc DX10_trade) 51 = .ok (.invokevirtual 389, 3) := by decide +kernel
theorem dX10_trade_54 : decode (dc DX10_trade) 54 = .ok (.iload_n 1, 1) := by decide +kernel
theorem dX10_trade_55 : decode (dc DX10_trade) 55 = .ok (.if_icmp .gt 6, 3) := by decide +kernel
theorem dX10_trade_58 : decode (dc DX10_trade) 58 = .ok (.goto 18, 3) := by decide +kernel
theorem dX10_trade_61 : decode (dc DX10_trade) 61 = .ok (.aload_n 0, 1) := by decide +kernel
theorem dX10_trade_62 : decode (dc DX10_trade) 62 = .ok (.iload 4, 2) := by decide +kernel
theorem dX10_trade_64 : decode (dc DX10_trade) 64 = .ok (.iload 5, 2) := by decide +kernel
theorem dX10_trade_66 : decode (dc DX10_trade) 66 = .ok (.invokevirtual 389, 3) := by decide +kernel
theorem dX10_trade_69 : decode (dc DX10_trade) 69 = .ok (.istore_n 1, 1) := by decide +kernel
theorem dX10_trade_70 : decode (dc DX10_trade) 70 = .ok (.iload 4, 2) := by decide +kernel
theorem dX10_trade_72 : decode (dc DX10_trade) 72 = .ok (.istore_n 2, 1) := by decide +kernel
theorem dX10_trade_73 : decode (dc DX10_trade) 73 = .ok (.iload 5, 2) := by decide +kernel
theorem dX10_trade_75 : decode (dc DX10_trade) 75 = .ok (.istore_n 3, 1) := by decide +kernel
theorem dX10_trade_76 : decode (dc DX10_trade) 76 = .ok (.iinc 5 1, 3) := by decide +kernel
theorem dX10_trade_79 : decode (dc DX10_trade) 79 = .ok (.goto (-46), 3) := by decide +kernel
theorem dX10_trade_82 : decode (dc DX10_trade) 82 = .ok (.iinc 4 1, 3) := by decide +kernel
theorem dX10_trade_85 : decode (dc DX10_trade) 85 = .ok (.goto (-71), 3) := by decide +kernel
theorem dX10_trade_88 : decode (dc DX10_trade) 88 = .ok (.iload_n 1, 1) := by decide +kernel
theorem dX10_trade_89 : decode (dc DX10_trade) 89 = .ok (.ifCond .ne 5, 3) := by decide +kernel
theorem dX10_trade_92 : decode (dc DX10_trade) 92 = .ok (.iconst 0, 1) := by decide +kernel
theorem dX10_trade_93 : decode (dc DX10_trade) 93 = .ok (.ireturn, 1) := by decide +kernel
theorem dX10_trade_94 : decode (dc DX10_trade) 94 = .ok (.aload_n 0, 1) := by decide +kernel
theorem dX10_trade_95 : decode (dc DX10_trade) 95 = .ok (.invokevirtual 383, 3) := by decide +kernel
theorem dX10_trade_98 : decode (dc DX10_trade) 98 = .ok (.aload_n 0, 1) := by decide +kernel
theorem dX10_trade_99 : decode (dc DX10_trade) 99 = .ok (.getfield 28, 3) := by decide +kernel
theorem dX10_trade_102 : decode (dc DX10_trade) 102 = .ok (.iconst 0, 1) := by decide +kernel
theorem dX10_trade_103 : decode (dc DX10_trade) 103 = .ok (.aaload, 1) := by decide +kernel
theorem dX10_trade_104 : decode (dc DX10_trade) 104 = .ok (.iload_n 2, 1) := by decide +kernel
theorem dX10_trade_105 : decode (dc DX10_trade) 105 = .ok (.iaload, 1) := by decide +kernel
theorem dX10_trade_106 : decode (dc DX10_trade) 106 = .ok (.istore 4, 2) := by decide +kernel
theorem dX10_trade_108 : decode (dc DX10_trade) 108 = .ok (.aload_n 0, 1) := by decide +kernel
theorem dX10_trade_109 : decode (dc DX10_trade) 109 = .ok (.getfield 28, 3) := by decide +kernel
theorem dX10_trade_112 : decode (dc DX10_trade) 112 = .ok (.iconst 0, 1) := by decide +kernel
theorem dX10_trade_113 : decode (dc DX10_trade) 113 = .ok (.aaload, 1) := by decide +kernel
theorem dX10_trade_114 : decode (dc DX10_trade) 114 = .ok (.iload_n 2, 1) := by decide +kernel
theorem dX10_trade_115 : decode (dc DX10_trade) 115 = .ok (.aload_n 0, 1) := by decide +kernel
theorem dX10_trade_116 : decode (dc DX10_trade) 116 = .ok (.getfield 28, 3) := by decide +kernel
theorem dX10_trade_119 : decode (dc DX10_trade) 119 = .ok (.iconst 0, 1) := by decide +kernel
theorem dX10_trade_120 : decode (dc DX10_trade) 120 = .ok (.aaload, 1) := by decide +kernel
theorem dX10_trade_121 : decode (dc DX10_trade) 121 = .ok (.iload_n 3, 1) := by decide +kernel
theorem dX10_trade_122 : decode (dc DX10_trade) 122 = .ok (.iaload, 1) := by decide +kernel
theorem dX10_trade_123 : decode (dc DX10_trade) 123 = .ok (.iastore, 1) := by decide +kernel
theorem dX10_trade_124 : decode (dc DX10_trade) 124 = .ok (.aload_n 0, 1) := by decide +kernel
theorem dX10_trade_125 : decode (dc DX10_trade) 125 = .ok (.getfield 28, 3) := by decide +kernel
theorem dX10_trade_128 : decode (dc DX10_trade) 128 = .ok (.iconst 0, 1) := by decide +kernel
theorem dX10_trade_129 : decode (dc DX10_trade) 129 = .ok (.aaload, 1) := by decide +kernel
theorem dX10_trade_130 : decode (dc DX10_trade) 130 = .ok (.iload_n 3, 1) := by decide +kernel
theorem dX10_trade_131 : decode (dc DX10_trade) 131 = .ok (.iload 4, 2) := by decide +kernel
theorem dX10_trade_133 : decode (dc DX10_trade) 133 = .ok (.iastore, 1) := by decide +kernel
theorem dX10_trade_134 : decode (dc DX10_trade) 134 = .ok (.iload_n 1, 1) := by decide +kernel
theorem dX10_trade_135 : decode (dc DX10_trade) 135 = .ok (.ireturn, 1) := by decide +kernel
theorem dX10_settle_0 : decode (dc DX10_settle) 0 = .ok (.aload_n 0, 1) := by decide +kernel
theorem dX10_settle_1 : decode (dc DX10_settle) 1 = .ok (.iconst 0, 1) := by decide +kernel
theorem dX10_settle_2 : decode (dc DX10_settle) 2 = .ok (.putfield 82, 3) := by decide +kernel
theorem dX10_settle_5 : decode (dc DX10_settle) 5 = .ok (.aload_n 0, 1) := by decide +kernel
theorem dX10_settle_6 : decode (dc DX10_settle) 6 = .ok (.iload_n 1, 1) := by decide +kernel
theorem dX10_settle_7 : decode (dc DX10_settle) 7 = .ok (.iconst 1, 1) := by decide +kernel
theorem dX10_settle_8 : decode (dc DX10_settle) 8 = .ok (.bipush 12, 2) := by decide +kernel
theorem dX10_settle_10 : decode (dc DX10_settle) 10 = .ok (.invokestatic 127, 3) := by decide +kernel
theorem dX10_settle_13 : decode (dc DX10_settle) 13 = .ok (.ifCond .ne 7, 3) := by decide +kernel
theorem dX10_settle_16 : decode (dc DX10_settle) 16 = .ok (.iconst 1, 1) := by decide +kernel
theorem dX10_settle_17 : decode (dc DX10_settle) 17 = .ok (.goto 4, 3) := by decide +kernel
theorem dX10_settle_20 : decode (dc DX10_settle) 20 = .ok (.iconst 0, 1) := by decide +kernel
theorem dX10_settle_21 : decode (dc DX10_settle) 21 = .ok (.iconst 1, 1) := by decide +kernel
theorem dX10_settle_22 : decode (dc DX10_settle) 22 = .ok (.iconst 1, 1) := by decide +kernel
theorem dX10_settle_23 : decode (dc DX10_settle) 23 = .ok (.invokevirtual 217, 3) := by decide +kernel
theorem dX10_settle_26 : decode (dc DX10_settle) 26 = .ok (.ifCond .eq 5, 3) := by decide +kernel
theorem dX10_settle_29 : decode (dc DX10_settle) 29 = .ok (.iconst 0, 1) := by decide +kernel
theorem dX10_settle_30 : decode (dc DX10_settle) 30 = .ok (.ireturn, 1) := by decide +kernel
theorem dX10_settle_31 : decode (dc DX10_settle) 31 = .ok (.aload_n 0, 1) := by decide +kernel
theorem dX10_settle_32 : decode (dc DX10_settle) 32 = .ok (.invokevirtual 261, 3) := by decide +kernel
theorem dX10_settle_35 : decode (dc DX10_settle) 35 = .ok (.ifCond .ne 5, 3) := by decide +kernel
theorem dX10_settle_38 : decode (dc DX10_settle) 38 = .ok (.iconst 0, 1) := by decide +kernel
theorem dX10_settle_39 : decode (dc DX10_settle) 39 = .ok (.ireturn, 1) := by decide +kernel
theorem dX10_settle_40 : decode (dc DX10_settle) 40 = .ok (.aload_n 0, 1) := by decide +kernel
theorem dX10_settle_41 : decode (dc DX10_settle) 41 = .ok (.invokevirtual 383, 3) := by decide +kernel
theorem dX10_settle_44 : decode (dc DX10_settle) 44 = .ok (.aload_n 0, 1) := by decide +kernel
theorem dX10_settle_45 : decode (dc DX10_settle) 45 = .ok (.iload_n 1, 1) := by decide +kernel
theorem dX10_settle_46 : decode (dc DX10_settle) 46 = .ok (.invokevirtual 267, 3) := by decide +kernel
theorem dX10_settle_49 : decode (dc DX10_settle) 49 = .ok (.ireturn, 1) := by decide +kernel
theorem dX10_undo_0 : decode (dc DX10_undo) 0 = .ok (.aload_n 0, 1) := by decide +kernel
theorem dX10_undo_1 : decode (dc DX10_undo) 1 = .ok (.iconst 0, 1) := by decide +kernel
theorem dX10_undo_2 : decode (dc DX10_undo) 2 = .ok (.putfield 82, 3) := by decide +kernel
theorem dX10_undo_5 : decode (dc DX10_undo) 5 = .ok (.aload_n 0, 1) := by decide +kernel
theorem dX10_undo_6 : decode (dc DX10_undo) 6 = .ok (.getfield 231, 3) := by decide +kernel
theorem dX10_undo_9 : decode (dc DX10_undo) 9 = .ok (.ifCond .ne 5, 3) := by decide +kernel
theorem dX10_undo_12 : decode (dc DX10_undo) 12 = .ok (.iconst (-1), 1) := by decide +kernel
theorem dX10_undo_13 : decode (dc DX10_undo) 13 = .ok (.ireturn, 1) := by decide +kernel
theorem dX10_undo_14 : decode (dc DX10_undo) 14 = .ok (.aload_n 0, 1) := by decide +kernel
theorem dX10_undo_15 : decode (dc DX10_undo) 15 = .ok (.dup, 1) := by decide +kernel
theorem dX10_undo_16 : decode (dc DX10_undo) 16 = .ok (.getfield 231, 3) := by decide +kernel
theorem dX10_undo_19 : decode (dc DX10_undo) 19 = .ok (.iconst 1, 1) := by decide +kernel
theorem dX10_undo_20 : decode (dc DX10_undo) 20 = .ok (.isub, 1) := by decide +kernel
theorem dX10_undo_21 : decode (dc DX10_undo) 21 = .ok (.putfield 231, 3) := by decide +kernel
theorem dX10_undo_24 : decode (dc DX10_undo) 24 = .ok (.aload_n 0, 1) := by decide +kernel
theorem dX10_undo_25 : decode (dc DX10_undo) 25 = .ok (.iconst 2, 1) := by decide +kernel
theorem dX10_undo_26 : decode (dc DX10_undo) 26 = .ok (.aload_n 0, 1) := by decide +kernel
theorem dX10_undo_27 : decode (dc DX10_undo) 27 = .ok (.getfield 231, 3) := by decide +kernel
theorem dX10_undo_30 : decode (dc DX10_undo) 30 = .ok (.iadd, 1) := by decide +kernel
theorem dX10_undo_31 : decode (dc DX10_undo) 31 = .ok (.iconst 0, 1) := by decide +kernel
theorem dX10_undo_32 : decode (dc DX10_undo) 32 = .ok (.invokevirtual 228, 3) := by decide +kernel
theorem dX10_undo_35 : decode (dc DX10_undo) 35 = .ok (.aload_n 0, 1) := by decide +kernel
theorem dX10_undo_36 : decode (dc DX10_undo) 36 = .ok (.getfield 231, 3) := by decide +kernel
theorem dX10_undo_39 : decode (dc DX10_undo) 39 = .ok (.ireturn, 1) := by decide +kernel
theorem dX10_print_0 : decode (dc DX10_print) 0 = .ok (.aload_n 0, 1) := by decide +kernel
theorem dX10_print_1 : decode (dc DX10_print) 1 = .ok (.iconst 0, 1) := by decide +kernel
theorem dX10_print_2 : decode (dc DX10_print) 2 = .ok (.putfield 82, 3) := by decide +kernel
theorem dX10_print_5 : decode (dc DX10_print) 5 = .ok (.lconst 0, 1) := by decide +kernel
theorem dX10_print_6 : decode (dc DX10_print) 6 = .ok (.lstore_n 1, 1) := by decide +kernel
theorem dX10_print_7 : decode (dc DX10_print) 7 = .ok (.iconst 0, 1) := by decide +kernel
theorem dX10_print_8 : decode (dc DX10_print) 8 = .ok (.istore_n 3, 1) := by decide +kernel
theorem dX10_print_9 : decode (dc DX10_print) 9 = .ok (.iload_n 3, 1) := by decide +kernel
theorem dX10_print_10 : decode (dc DX10_print) 10 = .ok (.aload_n 0, 1) := by decide +kernel
theorem dX10_print_11 : decode (dc DX10_print) 11 = .ok (.getfield 22, 3) := by decide +kernel
theorem dX10_print_14 : decode (dc DX10_print) 14 = .ok (.iconst 0, 1) := by decide +kernel
theorem dX10_print_15 : decode (dc DX10_print) 15 = .ok (.aaload, 1) := by decide +kernel
theorem dX10_print_16 : decode (dc DX10_print) 16 = .ok (.iconst 0, 1) := by decide +kernel
theorem dX10_print_17 : decode (dc DX10_print) 17 = .ok (.iaload, 1) := by decide +kernel
theorem dX10_print_18 : decode (dc DX10_print) 18 = .ok (.if_icmp .ge 27, 3) := by decide +kernel
theorem dX10_print_21 : decode (dc DX10_print) 21 = .ok (.ldc2_w 392, 3) := by decide +kernel
theorem dX10_print_24 : decode (dc DX10_print) 24 = .ok (.lload_n 1, 1) := by decide +kernel
theorem dX10_print_25 : decode (dc DX10_print) 25 = .ok (.lmul, 1) := by decide +kernel
theorem dX10_print_26 : decode (dc DX10_print) 26 = .ok (.aload_n 0, 1) := by decide +kernel
theorem dX10_print_27 : decode (dc DX10_print) 27 = .ok (.getfield 28, 3) := by decide +kernel
theorem dX10_print_30 : decode (dc DX10_print) 30 = .ok (.iconst 0, 1) := by decide +kernel
theorem dX10_print_31 : decode (dc DX10_print) 31 = .ok (.aaload, 1) := by decide +kernel
theorem dX10_print_32 : decode (dc DX10_print) 32 = .ok (.iload_n 3, 1) := by decide +kernel
theorem dX10_print_33 : decode (dc DX10_print) 33 = .ok (.iaload, 1) := by decide +kernel
theorem dX10_print_34 : decode (dc DX10_print) 34 = .ok (.i2l, 1) := by decide +kernel
theorem dX10_print_35 : decode (dc DX10_print) 35 = .ok (.ladd, 1) := by decide +kernel
theorem dX10_print_36 : decode (dc DX10_print) 36 = .ok (.lconst 1, 1) := by decide +kernel
theorem dX10_print_37 : decode (dc DX10_print) 37 = .ok (.ladd, 1) := by decide +kernel
theorem dX10_print_38 : decode (dc DX10_print) 38 = .ok (.lstore_n 1, 1) := by decide +kernel
theorem dX10_print_39 : decode (dc DX10_print) 39 = .ok (.iinc 3 1, 3) := by decide +kernel
theorem dX10_print_42 : decode (dc DX10_print) 42 = .ok (.goto (-33), 3) := by decide +kernel
theorem dX10_print_45 : decode (dc DX10_print) 45 = .ok (.lload_n 1, 1) := by decide +kernel
theorem dX10_print_46 : decode (dc DX10_print) 46 = .ok (.lreturn, 1) := by decide +kernel
theorem dX10_status_0 : decode (dc DX10_status) 0 = .ok (.aload_n 0, 1) := by decide +kernel
theorem dX10_status_1 : decode (dc DX10_status) 1 = .ok (.iconst 0, 1) := by decide +kernel
theorem dX10_status_2 : decode (dc DX10_status) 2 = .ok (.putfield 82, 3) := by decide +kernel
theorem dX10_status_5 : decode (dc DX10_status) 5 = .ok (.iload_n 1, 1) := by decide +kernel
theorem dX10_status_6 : decode (dc DX10_status) 6 = .ok (.iconst 0, 1) := by decide +kernel
theorem dX10_status_7 : decode (dc DX10_status) 7 = .ok (.iconst 1, 1) := by decide +kernel
theorem dX10_status_8 : decode (dc DX10_status) 8 = .ok (.invokestatic 127, 3) := by decide +kernel
theorem dX10_status_11 : decode (dc DX10_status) 11 = .ok (.ifCond .eq 12, 3) := by decide +kernel
theorem dX10_status_14 : decode (dc DX10_status) 14 = .ok (.aload_n 0, 1) := by decide +kernel
theorem dX10_status_15 : decode (dc DX10_status) 15 = .ok (.getfield 9, 3) := by decide +kernel
theorem dX10_status_18 : decode (dc DX10_status) 18 = .ok (.iload_n 1, 1) := by decide +kernel
theorem dX10_status_19 : decode (dc DX10_status) 19 = .ok (.iaload, 1) := by decide +kernel
theorem dX10_status_20 : decode (dc DX10_status) 20 = .ok (.goto 4, 3) := by decide +kernel
theorem dX10_status_23 : decode (dc DX10_status) 23 = .ok (.iconst (-1), 1) := by decide +kernel
theorem dX10_status_24 : decode (dc DX10_status) 24 = .ok (.ireturn, 1) := by decide +kernel
theorem dX9_demand_0 : decode (dc DX9_demand) 0 = .ok (.iload_n 1, 1) := by decide +kernel
theorem dX9_demand_1 : decode (dc DX9_demand) 1 = .ok (.ifCond .ne 24, 3) := by decide +kernel
theorem dX9_demand_4 : decode (dc DX9_demand) 4 = .ok (.aload_n 0, 1) := by decide +kernel
theorem dX9_demand_5 : decode (dc DX9_demand) 5 = .ok (.dup, 1) := by decide +kernel
theorem dX9_demand_6 : decode (dc DX9_demand) 6 = .ok (.getfield 76, 3) := by decide +kernel
theorem dX9_demand_9 : decode (dc DX9_demand) 9 = .ok (.iconst 1, 1) := by decide +kernel
theorem dX9_demand_10 : decode (dc DX9_demand) 10 = .ok (.iadd, 1) := by decide +kernel
theorem dX9_demand_11 : decode (dc DX9_demand) 11 = .ok (.putfield 76, 3) := by decide +kernel
theorem dX9_demand_14 : decode (dc DX9_demand) 14 = .ok (.new 340, 3) := by decide +kernel
theorem dX9_demand_17 : decode (dc DX9_demand) 17 = .ok (.dup, 1) := by decide +kernel
theorem dX9_demand_18 : decode (dc DX9_demand) 18 = .ok (.ldc_w 342, 3) := by decide +kernel
theorem dX9_demand_21 : decode (dc DX9_demand) 21 = .ok (.invokespecial 344, 3) := by decide +kernel
theorem dX9_demand_24 : decode (dc DX9_demand) 24 = .ok (.athrow, 1) := by decide +kernel
theorem dX9_demand_25 : decode (dc DX9_demand) 25 = .ok (.return_, 1) := by decide +kernel
theorem dX9_demandPlace_0 : decode (dc DX9_demandPlace) 0 = .ok (.iload_n 1, 1) := by decide +kernel
theorem dX9_demandPlace_1 : decode (dc DX9_demandPlace) 1 = .ok (.ifCond .ne 24, 3) := by decide +kernel
theorem dX9_demandPlace_4 : decode (dc DX9_demandPlace) 4 = .ok (.aload_n 0, 1) := by decide +kernel
theorem dX9_demandPlace_5 : decode (dc DX9_demandPlace) 5 = .ok (.dup, 1) := by decide +kernel
theorem dX9_demandPlace_6 : decode (dc DX9_demandPlace) 6 = .ok (.getfield 72, 3) := by decide +kernel
theorem dX9_demandPlace_9 : decode (dc DX9_demandPlace) 9 = .ok (.iconst 1, 1) := by decide +kernel
theorem dX9_demandPlace_10 : decode (dc DX9_demandPlace) 10 = .ok (.iadd, 1) := by decide +kernel
theorem dX9_demandPlace_11 : decode (dc DX9_demandPlace) 11 = .ok (.putfield 72, 3) := by decide +kernel
theorem dX9_demandPlace_14 : decode (dc DX9_demandPlace) 14 = .ok (.new 347, 3) := by decide +kernel
theorem dX9_demandPlace_17 : decode (dc DX9_demandPlace) 17 = .ok (.dup, 1) := by decide +kernel
theorem dX9_demandPlace_18 : decode (dc DX9_demandPlace) 18 = .ok (.ldc_w 349, 3) := by decide +kernel
theorem dX9_demandPlace_21 : decode (dc DX9_demandPlace) 21 = .ok (.invokespecial 351, 3) := by decide +kernel
theorem dX9_demandPlace_24 : decode (dc DX9_demandPlace) 24 = .ok (.athrow, 1) := by decide +kernel
theorem dX9_demandPlace_25 : decode (dc DX9_demandPlace) 25 = .ok (.return_, 1) := by decide +kernel
