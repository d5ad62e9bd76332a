theorem dL_put_56 : decode (dc DL_put) 56 = .ok (.isub, 1) := by decide +kernel
theorem dL_put_57 : decode (dc DL_put) 57 = .ok (.ishl, 1) := by decide +kernel
theorem dL_put_58 : decode (dc DL_put) 58 = .ok (.ior, 1) := by decide +kernel
theorem dL_put_59 : decode (dc DL_put) 59 = .ok (.iastore, 1) := by decide +kernel
theorem dL_put_60 : decode (dc DL_put) 60 = .ok (.aload_n 1, 1) := by decide +kernel
theorem dL_put_61 : decode (dc DL_put) 61 = .ok (.iconst 0, 1) := by decide +kernel
theorem dL_put_62 : decode (dc DL_put) 62 = .ok (.dup2, 1) := by decide +kernel
theorem dL_put_63 : decode (dc DL_put) 63 = .ok (.iaload, 1) := by decide +kernel
theorem dL_put_64 : decode (dc DL_put) 64 = .ok (.iconst 1, 1) := by decide +kernel
theorem dL_put_65 : decode (dc DL_put) 65 = .ok (.iadd, 1) := by decide +kernel
theorem dL_put_66 : decode (dc DL_put) 66 = .ok (.iastore, 1) := by decide +kernel
theorem dL_put_67 : decode (dc DL_put) 67 = .ok (.aload_n 1, 1) := by decide +kernel
theorem dL_put_68 : decode (dc DL_put) 68 = .ok (.iconst 0, 1) := by decide +kernel
theorem dL_put_69 : decode (dc DL_put) 69 = .ok (.iaload, 1) := by decide +kernel
theorem dL_put_70 : decode (dc DL_put) 70 = .ok (.bipush 20, 2) := by decide +kernel
theorem dL_put_72 : decode (dc DL_put) 72 = .ok (.irem, 1) := by decide +kernel
theorem dL_put_73 : decode (dc DL_put) 73 = .ok (.ifCond .ne 8, 3) := by decide +kernel
theorem dL_put_76 : decode (dc DL_put) 76 = .ok (.aload_n 0, 1) := by decide +kernel
theorem dL_put_77 : decode (dc DL_put) 77 = .ok (.aload_n 1, 1) := by decide +kernel
theorem dL_put_78 : decode (dc DL_put) 78 = .ok (.invokestatic 9, 3) := by decide +kernel
theorem dL_put_81 : decode (dc DL_put) 81 = .ok (.iinc 4 (-1), 3) := by decide +kernel
theorem dL_put_84 : decode (dc DL_put) 84 = .ok (.goto (-80), 3) := by decide +kernel
theorem dL_put_87 : decode (dc DL_put) 87 = .ok (.return_, 1) := by decide +kernel
theorem dL_texts_0 : decode (dc DL_texts) 0 = .ok (.aload_n 1, 1) := by decide +kernel
theorem dL_texts_1 : decode (dc DL_texts) 1 = .ok (.iconst 0, 1) := by decide +kernel
theorem dL_texts_2 : decode (dc DL_texts) 2 = .ok (.iaload, 1) := by decide +kernel
theorem dL_texts_3 : decode (dc DL_texts) 3 = .ok (.istore_n 2, 1) := by decide +kernel
theorem dL_texts_4 : decode (dc DL_texts) 4 = .ok (.iload_n 2, 1) := by decide +kernel
theorem dL_texts_5 : decode (dc DL_texts) 5 = .ok (.bipush 20, 2) := by decide +kernel
theorem dL_texts_7 : decode (dc DL_texts) 7 = .ok (.irem, 1) := by decide +kernel
theorem dL_texts_8 : decode (dc DL_texts) 8 = .ok (.ifCond .le 8, 3) := by decide +kernel
theorem dL_texts_11 : decode (dc DL_texts) 11 = .ok (.aload_n 0, 1) := by decide +kernel
theorem dL_texts_12 : decode (dc DL_texts) 12 = .ok (.aload_n 1, 1) := by decide +kernel
theorem dL_texts_13 : decode (dc DL_texts) 13 = .ok (.invokestatic 9, 3) := by decide +kernel
theorem dL_texts_16 : decode (dc DL_texts) 16 = .ok (.aload_n 1, 1) := by decide +kernel
theorem dL_texts_17 : decode (dc DL_texts) 17 = .ok (.iconst 0, 1) := by decide +kernel
theorem dL_texts_18 : decode (dc DL_texts) 18 = .ok (.iconst 0, 1) := by decide +kernel
theorem dL_texts_19 : decode (dc DL_texts) 19 = .ok (.iastore, 1) := by decide +kernel
theorem dL_texts_20 : decode (dc DL_texts) 20 = .ok (.aload_n 0, 1) := by decide +kernel
theorem dL_texts_21 : decode (dc DL_texts) 21 = .ok (.iload_n 2, 1) := by decide +kernel
theorem dL_texts_22 : decode (dc DL_texts) 22 = .ok (.invokestatic 20, 3) := by decide +kernel
theorem dL_texts_25 : decode (dc DL_texts) 25 = .ok (.ireturn, 1) := by decide +kernel
theorem dL_digits_0 : decode (dc DL_digits) 0 = .ok (.iconst 1, 1) := by decide +kernel
theorem dL_digits_1 : decode (dc DL_digits) 1 = .ok (.istore_n 3, 1) := by decide +kernel
theorem dL_digits_2 : decode (dc DL_digits) 2 = .ok (.iload_n 3, 1) := by decide +kernel
theorem dL_digits_3 : decode (dc DL_digits) 3 = .ok (.iload_n 2, 1) := by decide +kernel
theorem dL_digits_4 : decode (dc DL_digits) 4 = .ok (.bipush 10, 2) := by decide +kernel
theorem dL_digits_6 : decode (dc DL_digits) 6 = .ok (.idiv, 1) := by decide +kernel
theorem dL_digits_7 : decode (dc DL_digits) 7 = .ok (.if_icmp .gt 11, 3) := by decide +kernel
theorem dL_digits_10 : decode (dc DL_digits) 10 = .ok (.iload_n 3, 1) := by decide +kernel
theorem dL_digits_11 : decode (dc DL_digits) 11 = .ok (.bipush 10, 2) := by decide +kernel
theorem dL_digits_13 : decode (dc DL_digits) 13 = .ok (.imul, 1) := by decide +kernel
theorem dL_digits_14 : decode (dc DL_digits) 14 = .ok (.istore_n 3, 1) := by decide +kernel
theorem dL_digits_15 : decode (dc DL_digits) 15 = .ok (.goto (-13), 3) := by decide +kernel
theorem dL_digits_18 : decode (dc DL_digits) 18 = .ok (.iload_n 3, 1) := by decide +kernel
theorem dL_digits_19 : decode (dc DL_digits) 19 = .ok (.ifCond .le 27, 3) := by decide +kernel
theorem dL_digits_22 : decode (dc DL_digits) 22 = .ok (.aload_n 0, 1) := by decide +kernel
theorem dL_digits_23 : decode (dc DL_digits) 23 = .ok (.aload_n 1, 1) := by decide +kernel
theorem dL_digits_24 : decode (dc DL_digits) 24 = .ok (.ldc2_w 24, 3) := by decide +kernel
theorem dL_digits_27 : decode (dc DL_digits) 27 = .ok (.iload_n 2, 1) := by decide +kernel
theorem dL_digits_28 : decode (dc DL_digits) 28 = .ok (.iload_n 3, 1) := by decide +kernel
theorem dL_digits_29 : decode (dc DL_digits) 29 = .ok (.idiv, 1) := by decide +kernel
theorem dL_digits_30 : decode (dc DL_digits) 30 = .ok (.bipush 10, 2) := by decide +kernel
theorem dL_digits_32 : decode (dc DL_digits) 32 = .ok (.irem, 1) := by decide +kernel
theorem dL_digits_33 : decode (dc DL_digits) 33 = .ok (.i2l, 1) := by decide +kernel
theorem dL_digits_34 : decode (dc DL_digits) 34 = .ok (.ladd, 1) := by decide +kernel
theorem dL_digits_35 : decode (dc DL_digits) 35 = .ok (.invokestatic 26, 3) := by decide +kernel
theorem dL_digits_38 : decode (dc DL_digits) 38 = .ok (.iload_n 3, 1) := by decide +kernel
theorem dL_digits_39 : decode (dc DL_digits) 39 = .ok (.bipush 10, 2) := by decide +kernel
theorem dL_digits_41 : decode (dc DL_digits) 41 = .ok (.idiv, 1) := by decide +kernel
theorem dL_digits_42 : decode (dc DL_digits) 42 = .ok (.istore_n 3, 1) := by decide +kernel
theorem dL_digits_43 : decode (dc DL_digits) 43 = .ok (.goto (-25), 3) := by decide +kernel
theorem dL_digits_46 : decode (dc DL_digits) 46 = .ok (.return_, 1) := by decide +kernel
theorem dL_tell_0 : decode (dc DL_tell) 0 = .ok (.iconst 0, 1) := by decide +kernel
theorem dL_tell_1 : decode (dc DL_tell) 1 = .ok (.istore_n 3, 1) := by decide +kernel
theorem dL_tell_2 : decode (dc DL_tell) 2 = .ok (.iload_n 3, 1) := by decide +kernel
theorem dL_tell_3 : decode (dc DL_tell) 3 = .ok (.aload_n 2, 1) := by decide +kernel
theorem dL_tell_4 : decode (dc DL_tell) 4 = .ok (.invokevirtual 128, 3) := by decide +kernel
theorem dL_tell_7 : decode (dc DL_tell) 7 = .ok (.if_icmp .ge 20, 3) := by decide +kernel
theorem dL_tell_10 : decode (dc DL_tell) 10 = .ok (.aload_n 0, 1) := by decide +kernel
theorem dL_tell_11 : decode (dc DL_tell) 11 = .ok (.aload_n 1, 1) := by decide +kernel
theorem dL_tell_12 : decode (dc DL_tell) 12 = .ok (.aload_n 2, 1) := by decide +kernel
theorem dL_tell_13 : decode (dc DL_tell) 13 = .ok (.iload_n 3, 1) := by decide +kernel
theorem dL_tell_14 : decode (dc DL_tell) 14 = .ok (.invokevirtual 134, 3) := by decide +kernel
theorem dL_tell_17 : decode (dc DL_tell) 17 = .ok (.i2l, 1) := by decide +kernel
theorem dL_tell_18 : decode (dc DL_tell) 18 = .ok (.invokestatic 26, 3) := by decide +kernel
theorem dL_tell_21 : decode (dc DL_tell) 21 = .ok (.iinc 3 1, 3) := by decide +kernel
theorem dL_tell_24 : decode (dc DL_tell) 24 = .ok (.goto (-22), 3) := by decide +kernel
theorem dL_tell_27 : decode (dc DL_tell) 27 = .ok (.return_, 1) := by decide +kernel
theorem dL_book_0 : decode (dc DL_book) 0 = .ok (.aload_n 2, 1) := by decide +kernel
theorem dL_book_1 : decode (dc DL_book) 1 = .ok (.iload 4, 2) := by decide +kernel
theorem dL_book_3 : decode (dc DL_book) 3 = .ok (.putfield 138, 3) := by decide +kernel
theorem dL_book_6 : decode (dc DL_book) 6 = .ok (.aload_n 2, 1) := by decide +kernel
theorem dL_book_7 : decode (dc DL_book) 7 = .ok (.iload 5, 2) := by decide +kernel
theorem dL_book_9 : decode (dc DL_book) 9 = .ok (.putfield 144, 3) := by decide +kernel
theorem dL_book_12 : decode (dc DL_book) 12 = .ok (.aload_n 2, 1) := by decide +kernel
theorem dL_book_13 : decode (dc DL_book) 13 = .ok (.iconst 1, 1) := by decide +kernel
theorem dL_book_14 : decode (dc DL_book) 14 = .ok (.iload 4, 2) := by decide +kernel
theorem dL_book_16 : decode (dc DL_book) 16 = .ok (.ishl, 1) := by decide +kernel
theorem dL_book_17 : decode (dc DL_book) 17 = .ok (.iconst 1, 1) := by decide +kernel
theorem dL_book_18 : decode (dc DL_book) 18 = .ok (.isub, 1) := by decide +kernel
theorem dL_book_19 : decode (dc DL_book) 19 = .ok (.putfield 147, 3) := by decide +kernel
theorem dL_book_22 : decode (dc DL_book) 22 = .ok (.aload_n 2, 1) := by decide +kernel
theorem dL_book_23 : decode (dc DL_book) 23 = .ok (.iconst 1, 1) := by decide +kernel
theorem dL_book_24 : decode (dc DL_book) 24 = .ok (.iload 5, 2) := by decide +kernel
theorem dL_book_26 : decode (dc DL_book) 26 = .ok (.ishl, 1) := by decide +kernel
theorem dL_book_27 : decode (dc DL_book) 27 = .ok (.iconst 1, 1) := by decide +kernel
theorem dL_book_28 : decode (dc DL_book) 28 = .ok (.isub, 1) := by decide +kernel
theorem dL_book_29 : decode (dc DL_book) 29 = .ok (.putfield 150, 3) := by decide +kernel
theorem dL_book_32 : decode (dc DL_book) 32 = .ok (.aload_n 2, 1) := by decide +kernel
theorem dL_book_33 : decode (dc DL_book) 33 = .ok (.iload_n 3, 1) := by decide +kernel
theorem dL_book_34 : decode (dc DL_book) 34 = .ok (.iconst 1, 1) := by decide +kernel
theorem dL_book_35 : decode (dc DL_book) 35 = .ok (.iand, 1) := by decide +kernel
theorem dL_book_36 : decode (dc DL_book) 36 = .ok (.ifCond .ne 7, 3) := by decide +kernel
theorem dL_book_39 : decode (dc DL_book) 39 = .ok (.iconst 1, 1) := by decide +kernel
theorem dL_book_40 : decode (dc DL_book) 40 = .ok (.goto 4, 3) := by decide +kernel
theorem dL_book_43 : decode (dc DL_book) 43 = .ok (.iconst 0, 1) := by decide +kernel
theorem dL_book_44 : decode (dc DL_book) 44 = .ok (.putfield 153, 3) := by decide +kernel
theorem dL_book_47 : decode (dc DL_book) 47 = .ok (.aload_n 0, 1) := by decide +kernel
theorem dL_book_48 : decode (dc DL_book) 48 = .ok (.aload_n 1, 1) := by decide +kernel
theorem dL_book_49 : decode (dc DL_book) 49 = .ok (.ldc 157, 2) := by decide +kernel
theorem dL_book_51 : decode (dc DL_book) 51 = .ok (.invokestatic 159, 3) := by decide +kernel
theorem dL_book_54 : decode (dc DL_book) 54 = .ok (.aload_n 0, 1) := by decide +kernel
theorem dL_book_55 : decode (dc DL_book) 55 = .ok (.aload_n 1, 1) := by decide +kernel
theorem dL_book_56 : decode (dc DL_book) 56 = .ok (.iload 4, 2) := by decide +kernel
theorem dL_book_58 : decode (dc DL_book) 58 = .ok (.invokestatic 163, 3) := by decide +kernel
theorem dL_book_61 : decode (dc DL_book) 61 = .ok (.aload_n 0, 1) := by decide +kernel
theorem dL_book_62 : decode (dc DL_book) 62 = .ok (.aload_n 1, 1) := by decide +kernel
theorem dL_book_63 : decode (dc DL_book) 63 = .ok (.ldc 167, 2) := by decide +kernel
theorem dL_book_65 : decode (dc DL_book) 65 = .ok (.invokestatic 159, 3) := by decide +kernel
theorem dL_book_68 : decode (dc DL_book) 68 = .ok (.aload_n 0, 1) := by decide +kernel
theorem dL_book_69 : decode (dc DL_book) 69 = .ok (.aload_n 1, 1) := by decide +kernel
theorem dL_book_70 : decode (dc DL_book) 70 = .ok (.iload 5, 2) := by decide +kernel
theorem dL_book_72 : decode (dc DL_book) 72 = .ok (.invokestatic 163, 3) := by decide +kernel
theorem dL_book_75 : decode (dc DL_book) 75 = .ok (.aload_n 0, 1) := by decide +kernel
theorem dL_book_76 : decode (dc DL_book) 76 = .ok (.aload_n 1, 1) := by decide +kernel
theorem dL_book_77 : decode (dc DL_book) 77 = .ok (.ldc 169, 2) := by decide +kernel
theorem dL_book_79 : decode (dc DL_book) 79 = .ok (.invokestatic 159, 3) := by decide +kernel
theorem dL_book_82 : decode (dc DL_book) 82 = .ok (.iconst 0, 1) := by decide +kernel
theorem dL_book_83 : decode (dc DL_book) 83 = .ok (.istore 6, 2) := by decide +kernel
theorem dL_book_85 : decode (dc DL_book) 85 = .ok (.iload 6, 2) := by decide +kernel
theorem dL_book_87 : decode (dc DL_book) 87 = .ok (.iload 4, 2) := by decide +kernel
theorem dL_book_89 : decode (dc DL_book) 89 = .ok (.if_icmp .ge 163, 3) := by decide +kernel
theorem dL_book_92 : decode (dc DL_book) 92 = .ok (.iconst 0, 1) := by decide +kernel
theorem dL_book_93 : decode (dc DL_book) 93 = .ok (.istore 7, 2) := by decide +kernel
theorem dL_book_95 : decode (dc DL_book) 95 = .ok (.iload 7, 2) := by decide +kernel
theorem dL_book_97 : decode (dc DL_book) 97 = .ok (.iload 5, 2) := by decide +kernel
theorem dL_book_99 : decode (dc DL_book) 99 = .ok (.if_icmp .ge 147, 3) := by decide +kernel
theorem dL_book_102 : decode (dc DL_book) 102 = .ok (.iload_n 3, 1) := by decide +kernel
theorem dL_book_103 : decode (dc DL_book) 103 = .ok (.iconst 2, 1) := by decide +kernel
theorem dL_book_104 : decode (dc DL_book) 104 = .ok (.iload 6, 2) := by decide +kernel
theorem dL_book_106 : decode (dc DL_book) 106 = .ok (.imul, 1) := by decide +kernel
theorem dL_book_107 : decode (dc DL_book) 107 = .ok (.iconst 3, 1) := by decide +kernel
theorem dL_book_108 : decode (dc DL_book) 108 = .ok (.iadd, 1) := by decide +kernel
theorem dL_book_109 : decode (dc DL_book) 109 = .ok (.imul, 1) := by decide +kernel
theorem dL_book_110 : decode (dc DL_book) 110 = .ok (.bipush 11, 2) := by decide +kernel
theorem dL_book_112 : decode (dc DL_book) 112 = .ok (.iload 7, 2) := by decide +kernel
theorem dL_book_114 : decode (dc DL_book) 114 = .ok (.imul, 1) := by decide +kernel
theorem dL_book_115 : decode (dc DL_book) 115 = .ok (.iadd, 1) := by decide +kernel
theorem dL_book_116 : decode (dc DL_book) 116 = .ok (.iconst 5, 1) := by decide +kernel
theorem dL_book_117 : decode (dc DL_book) 117 = .ok (.iload 6, 2) := by decide +kernel
theorem dL_book_119 : decode (dc DL_book) 119 = .ok (.imul, 1) := by decide +kernel
theorem dL_book_120 : decode (dc DL_book) 120 = .ok (.iload 7, 2) := by decide +kernel
theorem dL_book_122 : decode (dc DL_book) 122 = .ok (.imul, 1) := by decide +kernel
theorem dL_book_123 : decode (dc DL_book) 123 = .ok (.iadd, 1) := by decide +kernel
theorem dL_book_124 : decode (dc DL_book) 124 = .ok (.istore 8, 2) := by decide +kernel
theorem dL_book_126 : decode (dc DL_book) 126 = .ok (.iload 8, 2) := by decide +kernel
theorem dL_book_128 : decode (dc DL_book) 128 = .ok (.iconst 3, 1) := by decide +kernel
theorem dL_book_129 : decode (dc DL_book) 129 = .ok (.ishr, 1) := by decide +kernel
theorem dL_book_130 : decode (dc DL_book) 130 = .ok (.iconst 3, 1) := by decide +kernel
theorem dL_book_131 : decode (dc DL_book) 131 = .ok (.iand, 1) := by decide +kernel
theorem dL_book_132 : decode (dc DL_book) 132 = .ok (.iconst 1, 1) := by decide +kernel
theorem dL_book_133 : decode (dc DL_book) 133 = .ok (.if_icmp .le 6, 3) := by decide +kernel
theorem dL_book_136 : decode (dc DL_book) 136 = .ok (.goto 104, 3) := by decide +kernel
theorem dL_book_139 : decode (dc DL_book) 139 = .ok (.aload_n 2, 1) := by decide +kernel
theorem dL_book_140 : decode (dc DL_book) 140 = .ok (.getfield 171, 3) := by decide +kernel
theorem dL_book_143 : decode (dc DL_book) 143 = .ok (.iload 6, 2) := by decide +kernel
theorem dL_book_145 : decode (dc DL_book) 145 = .ok (.aaload, 1) := by decide +kernel
theorem dL_book_146 : decode (dc DL_book) 146 = .ok (.iload 7, 2) := by decide +kernel
theorem dL_book_148 : decode (dc DL_book) 148 = .ok (.iload 8, 2) := by decide +kernel
theorem dL_book_150 : decode (dc DL_book) 150 = .ok (.iconst 5, 1) := by decide +kernel
theorem dL_book_151 : decode (dc DL_book) 151 = .ok (.ishr, 1) := by decide +kernel
theorem dL_book_152 : decode (dc DL_book) 152 = .ok (.iconst 1, 1) := by decide +kernel
theorem dL_book_153 : decode (dc DL_book) 153 = .ok (.iand, 1) := by decide +kernel
theorem dL_book_154 : decode (dc DL_book) 154 = .ok (.ifCond .ne 7, 3) := by decide +kernel
theorem dL_book_157 : decode (dc DL_book) 157 = .ok (.iconst 0, 1) := by decide +kernel
theorem dL_book_158 : decode (dc DL_book) 158 = .ok (.goto 11, 3) := by decide +kernel
theorem dL_book_161 : decode (dc DL_book) 161 = .ok (.iload 8, 2) := by decide +kernel
theorem dL_book_163 : decode (dc DL_book) 163 = .ok (.bipush 6, 2) := by decide +kernel
theorem dL_book_165 : decode (dc DL_book) 165 = .ok (.ishr, 1) := by decide +kernel
theorem dL_book_166 : decode (dc DL_book) 166 = .ok (.bipush 15, 2) := by decide +kernel
theorem dL_book_168 : decode (dc DL_book) 168 = .ok (.iand, 1) := by decide +kernel
theorem dL_book_169 : decode (dc DL_book) 169 = .ok (.iastore, 1) := by decide +kernel
theorem dL_book_170 : decode (dc DL_book) 170 = .ok (.aload_n 0, 1) := by decide +kernel
theorem dL_book_171 : decode (dc DL_book) 171 = .ok (.aload_n 1, 1) := by decide +kernel
theorem dL_book_172 : decode (dc DL_book) 172 = .ok (.ldc 174, 2) := by decide +kernel
theorem dL_book_174 : decode (dc DL_book) 174 = .ok (.invokestatic 159, 3) := by decide +kernel
theorem dL_book_177 : decode (dc DL_book) 177 = .ok (.aload_n 0, 1) := by decide +kernel
theorem dL_book_178 : decode (dc DL_book) 178 = .ok (.aload_n 1, 1) := by decide +kernel
theorem dL_book_179 : decode (dc DL_book) 179 = .ok (.iload 6, 2) := by decide +kernel
theorem dL_book_181 : decode (dc DL_book) 181 = .ok (.invokestatic 163, 3) := by decide +kernel
theorem dL_book_184 : decode (dc DL_book) 184 = .ok (.aload_n 0, 1) := by decide +kernel
theorem dL_book_185 : decode (dc DL_book) 185 = .ok (.aload_n 1, 1) := by decide +kernel
theorem dL_book_186 : decode (dc DL_book) 186 = .ok (.ldc 176, 2) := by decide +kernel
theorem dL_book_188 : decode (dc DL_book) 188 = .ok (.invokestatic 159, 3) := by decide +kernel
theorem dL_book_191 : decode (dc DL_book) 191 = .ok (.aload_n 0, 1) := by decide +kernel
theorem dL_book_192 : decode (dc DL_book) 192 = .ok (.aload_n 1, 1) := by decide +kernel
theorem dL_book_193 : decode (dc DL_book) 193 = .ok (.iload 7, 2) := by decide +kernel
theorem dL_book_195 : decode (dc DL_book) 195 = .ok (.invokestatic 163, 3) := by decide +kernel
theorem dL_book_198 : decode (dc DL_book) 198 = .ok (.aload_n 2, 1) := by decide +kernel
theorem dL_book_199 : decode (dc DL_book) 199 = .ok (.getfield 171, 3) := by decide +kernel
theorem dL_book_202 : decode (dc DL_book) 202 = .ok (.iload 6, 2) := by decide +kernel
theorem dL_book_204 : decode (dc DL_book) 204 = .ok (.aaload, 1) := by decide +kernel
theorem dL_book_205 : decode (dc DL_book) 205 = .ok (.iload 7, 2) := by decide +kernel
theorem dL_book_207 : decode (dc DL_book) 207 = .ok (.iaload, 1) := by decide +kernel
theorem dL_book_208 : decode (dc DL_book) 208 = .ok (.ifCond .le 25, 3) := by decide +kernel
theorem dL_book_211 : decode (dc DL_book) 211 = .ok (.aload_n 0, 1) := by decide +kernel
theorem dL_book_212 : decode (dc DL_book) 212 = .ok (.aload_n 1, 1) := by decide +kernel
theorem dL_book_213 : decode (dc DL_book) 213 = .ok (.ldc 176, 2) := by decide +kernel
theorem dL_book_215 : decode (dc DL_book) 215 = .ok (.invokestatic 159, 3) := by decide +kernel
theorem dL_book_218 : decode (dc DL_book) 218 = .ok (.aload_n 0, 1) := by decide +kernel
theorem dL_book_219 : decode (dc DL_book) 219 = .ok (.aload_n 1, 1) := by decide +kernel
theorem dL_book_220 : decode (dc DL_book) 220 = .ok (.aload_n 2, 1) := by decide +kernel
theorem dL_book_221 : decode (dc DL_book) 221 = .ok (.getfield 171, 3) := by decide +kernel
theorem dL_book_224 : decode (dc DL_book) 224 = .ok (.iload 6, 2) := by decide +kernel
theorem dL_book_226 : decode (dc DL_book) 226 = .ok (.aaload, 1) := by decide +kernel
theorem dL_book_227 : decode (dc DL_book) 227 = .ok (.iload 7, 2) := by decide +kernel
theorem dL_book_229 : decode (dc DL_book) 229 = .ok (.iaload, 1) := by decide +kernel
theorem dL_book_230 : decode (dc DL_book) 230 = .ok (.invokestatic 163, 3) := by decide +kernel
theorem dL_book_233 : decode (dc DL_book) 233 = .ok (.aload_n 0, 1) := by decide +kernel
theorem dL_book_234 : decode (dc DL_book) 234 = .ok (.aload_n 1, 1) := by decide +kernel
theorem dL_book_235 : decode (dc DL_book) 235 = .ok (.ldc 178, 2) := by decide +kernel
theorem dL_book_237 : decode (dc DL_book) 237 = .ok (.invokestatic 159, 3) := by decide +kernel
theorem dL_book_240 : decode (dc DL_book) 240 = .ok (.iinc 7 1, 3) := by decide +kernel
theorem dL_book_243 : decode (dc DL_book) 243 = .ok (.goto (-148), 3) := by decide +kernel
theorem dL_book_246 : decode (dc DL_book) 246 = .ok (.iinc 6 1, 3) := by decide +kernel
theorem dL_book_249 : decode (dc DL_book) 249 = .ok (.goto (-164), 3) := by decide +kernel
theorem dL_book_252 : decode (dc DL_book) 252 = .ok (.iload_n 3, 1) := by decide +kernel
theorem dL_book_253 : decode (dc DL_book) 253 = .ok (.iconst 4, 1) := by decide +kernel
theorem dL_book_254 : decode (dc DL_book) 254 = .ok (.ishr, 1) := by decide +kernel
theorem dL_book_255 : decode (dc DL_book) 255 = .ok (.iconst 3, 1) := by decide +kernel
theorem dL_book_256 : decode (dc DL_book) 256 = .ok (.iand, 1) := by decide +kernel
theorem dL_book_257 : decode (dc DL_book) 257 = .ok (.ifCond .ne 52, 3) := by decide +kernel
theorem dL_book_260 : decode (dc DL_book) 260 = .ok (.iload_n 3, 1) := by decide +kernel
theorem dL_book_261 : decode (dc DL_book) 261 = .ok (.bipush 6, 2) := by decide +kernel
theorem dL_book_263 : decode (dc DL_book) 263 = .ok (.ishr, 1) := by decide +kernel
theorem dL_book_264 : decode (dc DL_book) 264 = .ok (.sipush 255, 3) := by decide +kernel
theorem dL_book_267 : decode (dc DL_book) 267 = .ok (.iand, 1) := by decide +kernel
theorem dL_book_268 : decode (dc DL_book) 268 = .ok (.iload 4, 2) := by decide +kernel
theorem dL_book_270 : decode (dc DL_book) 270 = .ok (.irem, 1) := by decide +kernel
theorem dL_book_271 : decode (dc DL_book) 271 = .ok (.istore 6, 2) := by decide +kernel
theorem dL_book_273 : decode (dc DL_book) 273 = .ok (.aload_n 2, 1) := by decide +kernel
theorem dL_book_274 : decode (dc DL_book) 274 = .ok (.dup, 1) := by decide +kernel
theorem dL_book_275 : decode (dc DL_book) 275 = .ok (.getfield 147, 3) := by decide +kernel
theorem dL_book_278 : decode (dc DL_book) 278 = .ok (.iconst 1, 1) := by decide +kernel
theorem dL_book_279 : decode (dc DL_book) 279 = .ok (.iload 6, 2) := by decide +kernel
theorem dL_book_281 : decode (dc DL_book) 281 = .ok (.ishl, 1) := by decide +kernel
theorem dL_book_282 : decode (dc DL_book) 282 = .ok (.iconst (-1), 1) := by decide +kernel
theorem dL_book_283 : decode (dc DL_book) 283 = .ok (.ixor, 1) := by decide +kernel
theorem dL_book_284 : decode (dc DL_book) 284 = .ok (.iand, 1) := by decide +kernel
theorem dL_book_285 : decode (dc DL_book) 285 = .ok (.putfield 147, 3) := by decide +kernel
theorem dL_book_288 : decode (dc DL_book) 288 = .ok (.aload_n 0, 1) := by decide +kernel
theorem dL_book_289 : decode (dc DL_book) 289 = .ok (.aload_n 1, 1) := by decide +kernel
theorem dL_book_290 : decode (dc DL_book) 290 = .ok (.ldc 180, 2) := by decide +kernel
theorem dL_book_292 : decode (dc DL_book) 292 = .ok (.invokestatic 159, 3) := by decide +kernel
theorem dL_book_295 : decode (dc DL_book) 295 = .ok (.aload_n 0, 1) := by decide +kernel
theorem dL_book_296 : decode (dc DL_book) 296 = .ok (.aload_n 1, 1) := by decide +kernel
theorem dL_book_297 : decode (dc DL_book) 297 = .ok (.iload 6, 2) := by decide +kernel
theorem dL_book_299 : decode (dc DL_book) 299 = .ok (.invokestatic 163, 3) := by decide +kernel
theorem dL_book_302 : decode (dc DL_book) 302 = .ok (.aload_n 0, 1) := by decide +kernel
theorem dL_book_303 : decode (dc DL_book) 303 = .ok (.aload_n 1, 1) := by decide +kernel
theorem dL_book_304 : decode (dc DL_book) 304 = .ok (.ldc 178, 2) := by decide +kernel
theorem dL_book_306 : decode (dc DL_book) 306 = .ok (.invokestatic 159, 3) := by decide +kernel
theorem dL_book_309 : decode (dc DL_book) 309 = .ok (.iconst 0, 1) := by decide +kernel
theorem dL_book_310 : decode (dc DL_book) 310 = .ok (.istore 6, 2) := by decide +kernel
theorem dL_book_312 : decode (dc DL_book) 312 = .ok (.iload 6, 2) := by decide +kernel
theorem dL_book_314 : decode (dc DL_book) 314 = .ok (.iload 4, 2) := by decide +kernel
theorem dL_book_316 : decode (dc DL_book) 316 = .ok (.if_icmp .ge 100, 3) := by decide +kernel
theorem dL_book_319 : decode (dc DL_book) 319 = .ok (.iload_n 3, 1) := by decide +kernel
theorem dL_book_320 : decode (dc DL_book) 320 = .ok (.bipush 7, 2) := by decide +kernel
theorem dL_book_322 : decode (dc DL_book) 322 = .ok (.ishr, 1) := by decide +kernel
theorem dL_book_323 : decode (dc DL_book) 323 = .ok (.iconst 1, 1) := by decide +kernel
theorem dL_book_324 : decode (dc DL_book) 324 = .ok (.iand, 1) := by decide +kernel
theorem dL_book_325 : decode (dc DL_book) 325 = .ok (.ifCond .ne 91, 3) := by decide +kernel
theorem dL_book_328 : decode (dc DL_book) 328 = .ok (.iload_n 3, 1) := by decide +kernel
theorem dL_book_329 : decode (dc DL_book) 329 = .ok (.iload 6, 2) := by decide +kernel
theorem dL_book_331 : decode (dc DL_book) 331 = .ok (.iconst 2, 1) := by decide +kernel
theorem dL_book_332 : decode (dc DL_book) 332 = .ok (.iadd, 1) := by decide +kernel
theorem dL_book_333 : decode (dc DL_book) 333 = .ok (.ishr, 1) := by decide +kernel
theorem dL_book_334 : decode (dc DL_book) 334 = .ok (.sipush 255, 3) := by decide +kernel
theorem dL_book_337 : decode (dc DL_book) 337 = .ok (.iand, 1) := by decide +kernel
theorem dL_book_338 : decode (dc DL_book) 338 = .ok (.iload 5, 2) := by decide +kernel
theorem dL_book_340 : decode (dc DL_book) 340 = .ok (.irem, 1) := by decide +kernel
theorem dL_book_341 : decode (dc DL_book) 341 = .ok (.istore 7, 2) := by decide +kernel
theorem dL_book_343 : decode (dc DL_book) 343 = .ok (.aload_n 2, 1) := by decide +kernel
theorem dL_book_344 : decode (dc DL_book) 344 = .ok (.iload 6, 2) := by decide +kernel
theorem dL_book_346 : decode (dc DL_book) 346 = .ok (.iload 7, 2) := by decide +kernel
theorem dL_book_348 : decode (dc DL_book) 348 = .ok (.invokevirtual 182, 3) := by decide +kernel
theorem dL_book_351 : decode (dc DL_book) 351 = .ok (.ifCond .eq 59, 3) := by decide +kernel
theorem dL_book_354 : decode (dc DL_book) 354 = .ok (.aload_n 2, 1) := by decide +kernel
theorem dL_book_355 : decode (dc DL_book) 355 = .ok (.iload 7, 2) := by decide +kernel
theorem dL_book_357 : decode (dc DL_book) 357 = .ok (.invokevirtual 186, 3) := by decide +kernel
theorem dL_book_360 : decode (dc DL_book) 360 = .ok (.ifCond .lt 6, 3) := by decide +kernel
theorem dL_book_363 : decode (dc DL_book) 363 = .ok (.goto 47, 3) := by decide +kernel
theorem dL_book_366 : decode (dc DL_book) 366 = .ok (.aload_n 2, 1) := by decide +kernel
theorem dL_book_367 : decode (dc DL_book) 367 = .ok (.getfield 189, 3) := by decide +kernel
theorem dL_book_370 : decode (dc DL_book) 370 = .ok (.iload 6, 2) := by decide +kernel
theorem dL_book_372 : decode (dc DL_book) 372 = .ok (.iload 7, 2) := by decide +kernel
theorem dL_book_374 : decode (dc DL_book) 374 = .ok (.iastore, 1) := by decide +kernel
theorem dL_book_375 : decode (dc DL_book) 375 = .ok (.aload_n 0, 1) := by decide +kernel
theorem dL_book_376 : decode (dc DL_book) 376 = .ok (.aload_n 1, 1) := by decide +kernel
theorem dL_book_377 : decode (dc DL_book) 377 = .ok (.ldc 193, 2) := by decide +kernel
theorem dL_book_379 : decode (dc DL_book) 379 = .ok (.invokestatic 159, 3) := by decide +kernel
theorem dL_book_382 : decode (dc DL_book) 382 = .ok (.aload_n 0, 1) := by decide +kernel
theorem dL_book_383 : decode (dc DL_book) 383 = .ok (.aload_n 1, 1) := by decide +kernel
theorem dL_book_384 : decode (dc DL_book) 384 = .ok (.iload 6, 2) := by decide +kernel
theorem dL_book_386 : decode (dc DL_book) 386 = .ok (.invokestatic 163, 3) := by decide +kernel
theorem dL_book_389 : decode (dc DL_book) 389 = .ok (.aload_n 0, 1) := by decide +kernel
theorem dL_book_390 : decode (dc DL_book) 390 = .ok (.aload_n 1, 1) := by decide +kernel
theorem dL_book_391 : decode (dc DL_book) 391 = .ok (.ldc 176, 2) := by decide +kernel
theorem dL_book_393 : decode (dc DL_book) 393 = .ok (.invokestatic 159, 3) := by decide +kernel
theorem dL_book_396 : decode (dc DL_book) 396 = .ok (.aload_n 0, 1) := by decide +kernel
theorem dL_book_397 : decode (dc DL_book) 397 = .ok (.aload_n 1, 1) := by decide +kernel
theorem dL_book_398 : decode (dc DL_book) 398 = .ok (.iload 7, 2) := by decide +kernel
theorem dL_book_400 : decode (dc DL_book) 400 = .ok (.invokestatic 163, 3) := by decide +kernel
theorem dL_book_403 : decode (dc DL_book) 403 = .ok (.aload_n 0, 1) := by decide +kernel
theorem dL_book_404 : decode (dc DL_book) 404 = .ok (.aload_n 1, 1) := by decide +kernel
theorem dL_book_405 : decode (dc DL_book) 405 = .ok (.ldc 178, 2) := by decide +kernel
theorem dL_book_407 : decode (dc DL_book) 407 = .ok (.invokestatic 159, 3) := by decide +kernel
theorem dL_book_410 : decode (dc DL_book) 410 = .ok (.iinc 6 1, 3) := by decide +kernel
theorem dL_book_413 : decode (dc DL_book) 413 = .ok (.goto (-101), 3) := by decide +kernel
theorem dL_book_416 : decode (dc DL_book) 416 = .ok (.iload_n 3, 1) := by decide +kernel
theorem dL_book_417 : decode (dc DL_book) 417 = .ok (.bipush 9, 2) := by decide +kernel
theorem dL_book_419 : decode (dc DL_book) 419 = .ok (.ishr, 1) := by decide +kernel
theorem dL_book_420 : decode (dc DL_book) 420 = .ok (.iconst 1, 1) := by decide +kernel
theorem dL_book_421 : decode (dc DL_book) 421 = .ok (.iand, 1) := by decide +kernel
theorem dL_book_422 : decode (dc DL_book) 422 = .ok (.ifCond .ne 70, 3) := by decide +kernel
theorem dL_book_425 : decode (dc DL_book) 425 = .ok (.iload_n 3, 1) := by decide +kernel
theorem dL_book_426 : decode (dc DL_book) 426 = .ok (.bipush 10, 2) := by decide +kernel
theorem dL_book_428 : decode (dc DL_book) 428 = .ok (.ishr, 1) := by decide +kernel
theorem dL_book_429 : decode (dc DL_book) 429 = .ok (.sipush 255, 3) := by decide +kernel
theorem dL_book_432 : decode (dc DL_book) 432 = .ok (.iand, 1) := by decide +kernel
theorem dL_book_433 : decode (dc DL_book) 433 = .ok (.iload 4, 2) := by decide +kernel
theorem dL_book_435 : decode (dc DL_book) 435 = .ok (.irem, 1) := by decide +kernel
theorem dL_book_436 : decode (dc DL_book) 436 = .ok (.istore 6, 2) := by decide +kernel
theorem dL_book_438 : decode (dc DL_book) 438 = .ok (.aload_n 2, 1) := by decide +kernel
theorem dL_book_439 : decode (dc DL_book) 439 = .ok (.getfield 195, 3) := by decide +kernel
theorem dL_book_442 : decode (dc DL_book) 442 = .ok (.iload 6, 2) := by decide +kernel
theorem dL_book_444 : decode (dc DL_book) 444 = .ok (.iload_n 3, 1) := by decide +kernel
theorem dL_book_445 : decode (dc DL_book) 445 = .ok (.bipush 8, 2) := by decide +kernel
theorem dL_book_447 : decode (dc DL_book) 447 = .ok (.ishr, 1) := by decide +kernel
theorem dL_book_448 : decode (dc DL_book) 448 = .ok (.bipush 63, 2) := by decide +kernel
theorem dL_book_450 : decode (dc DL_book) 450 = .ok (.iand, 1) := by decide +kernel
theorem dL_book_451 : decode (dc DL_book) 451 = .ok (.iastore, 1) := by decide +kernel
theorem dL_book_452 : decode (dc DL_book) 452 = .ok (.aload_n 0, 1) := by decide +kernel
theorem dL_book_453 : decode (dc DL_book) 453 = .ok (.aload_n 1, 1) := by decide +kernel
theorem dL_book_454 : decode (dc DL_book) 454 = .ok (.ldc 197, 2) := by decide +kernel
theorem dL_book_456 : decode (dc DL_book) 456 = .ok (.invokestatic 159, 3) := by decide +kernel
theorem dL_book_459 : decode (dc DL_book) 459 = .ok (.aload_n 0, 1) := by decide +kernel
theorem dL_book_460 : decode (dc DL_book) 460 = .ok (.aload_n 1, 1) := by decide +kernel
theorem dL_book_461 : decode (dc DL_book) 461 = .ok (.iload 6, 2) := by decide +kernel
theorem dL_book_463 : decode (dc DL_book) 463 = .ok (.invokestatic 163, 3) := by decide +kernel
theorem dL_book_466 : decode (dc DL_book) 466 = .ok (.aload_n 0, 1) := by decide +kernel
theorem dL_book_467 : decode (dc DL_book) 467 = .ok (.aload_n 1, 1) := by decide +kernel
theorem dL_book_468 : decode (dc DL_book) 468 = .ok (.ldc 176, 2) := by decide +kernel
theorem dL_book_470 : decode (dc DL_book) 470 = .ok (.invokestatic 159, 3) := by decide +kernel
theorem dL_book_473 : decode (dc DL_book) 473 = .ok (.aload_n 0, 1) := by decide +kernel
theorem dL_book_474 : decode (dc DL_book) 474 = .ok (.aload_n 1, 1) := by decide +kernel
theorem dL_book_475 : decode (dc DL_book) 475 = .ok (.aload_n 2, 1) := by decide +kernel
theorem dL_book_476 : decode (dc DL_book) 476 = .ok (.getfield 195, 3) := by decide +kernel
theorem dL_book_479 : decode (dc DL_book) 479 = .ok (.iload 6, 2) := by decide +kernel
theorem dL_book_481 : decode (dc DL_book) 481 = .ok (.iaload, 1) := by decide +kernel
theorem dL_book_482 : decode (dc DL_book) 482 = .ok (.invokestatic 163, 3) := by decide +kernel
theorem dL_book_485 : decode (dc DL_book) 485 = .ok (.aload_n 0, 1) := by decide +kernel
theorem dL_book_486 : decode (dc DL_book) 486 = .ok (.aload_n 1, 1) := by decide +kernel
theorem dL_book_487 : decode (dc DL_book) 487 = .ok (.ldc 178, 2) := by decide +kernel
theorem dL_book_489 : decode (dc DL_book) 489 = .ok (.invokestatic 159, 3) := by decide +kernel
theorem dL_book_492 : decode (dc DL_book) 492 = .ok (.aload_n 2, 1) := by decide +kernel
theorem dL_book_493 : decode (dc DL_book) 493 = .ok (.getfield 153, 3) := by decide +kernel
theorem dL_book_496 : decode (dc DL_book) 496 = .ok (.ifCond .ne 13, 3) := by decide +kernel
theorem dL_book_499 : decode (dc DL_book) 499 = .ok (.aload_n 0, 1) := by decide +kernel
theorem dL_book_500 : decode (dc DL_book) 500 = .ok (.aload_n 1, 1) := by decide +kernel
theorem dL_book_501 : decode (dc DL_book) 501 = .ok (.ldc 199, 2) := by decide +kernel
theorem dL_book_503 : decode (dc DL_book) 503 = .ok (.invokestatic 159, 3) := by decide +kernel
theorem dL_book_506 : decode (dc DL_book) 506 = .ok (.goto 10, 3) := by decide +kernel
theorem dL_book_509 : decode (dc DL_book) 509 = .ok (.aload_n 2, 1) := by decide +kernel
theorem dL_book_510 : decode (dc DL_book) 510 = .ok (.bipush 99, 2) := by decide +kernel
theorem dL_book_512 : decode (dc DL_book) 512 = .ok (.invokevirtual 201, 3) := by decide +kernel
theorem dL_book_515 : decode (dc DL_book) 515 = .ok (.pop, 1) := by decide +kernel
theorem dL_book_516 : decode (dc DL_book) 516 = .ok (.aload_n 0, 1) := by decide +kernel
theorem dL_book_517 : decode (dc DL_book) 517 = .ok (.aload_n 1, 1) := by decide +kernel
theorem dL_book_518 : decode (dc DL_book) 518 = .ok (.invokestatic 204, 3) := by decide +kernel
theorem dL_book_521 : decode (dc DL_book) 521 = .ok (.aload_n 2, 1) := by decide +kernel
theorem dL_book_522 : decode (dc DL_book) 522 = .ok (.invokevirtual 208, 3) := by decide +kernel
theorem dL_book_525 : decode (dc DL_book) 525 = .ok (.if_icmp .ne 7, 3) := by decide +kernel
theorem dL_book_528 : decode (dc DL_book) 528 = .ok (.iconst 1, 1) := by decide +kernel
theorem dL_book_529 : decode (dc DL_book) 529 = .ok (.goto 4, 3) := by decide +kernel
theorem dL_book_532 : decode (dc DL_book) 532 = .ok (.iconst 0, 1) := by decide +kernel
theorem dL_book_533 : decode (dc DL_book) 533 = .ok (.ireturn, 1) := by decide +kernel
theorem dL_isBook_0 : decode (dc DL_isBook) 0 = .ok (.aload_n 1, 1) := by decide +kernel
theorem dL_isBook_1 : decode (dc DL_isBook) 1 = .ok (.iconst 0, 1) := by decide +kernel
theorem dL_isBook_2 : decode (dc DL_isBook) 2 = .ok (.iconst 0, 1) := by decide +kernel
theorem dL_isBook_3 : decode (dc DL_isBook) 3 = .ok (.invokevirtual 211, 3) := by decide +kernel
theorem dL_isBook_6 : decode (dc DL_isBook) 6 = .ok (.istore_n 2, 1) := by decide +kernel
theorem dL_isBook_7 : decode (dc DL_isBook) 7 = .ok (.aload_n 1, 1) := by decide +kernel
theorem dL_isBook_8 : decode (dc DL_isBook) 8 = .ok (.invokevirtual 214, 3) := by decide +kernel
theorem dL_isBook_11 : decode (dc DL_isBook) 11 = .ok (.astore_n 3, 1) := by decide +kernel
theorem dL_isBook_12 : decode (dc DL_isBook) 12 = .ok (.iconst 0, 1) := by decide +kernel
theorem dL_isBook_13 : decode (dc DL_isBook) 13 = .ok (.istore 4, 2) := by decide +kernel
theorem dL_isBook_15 : decode (dc DL_isBook) 15 = .ok (.iconst 0, 1) := by decide +kernel
theorem dL_isBook_16 : decode (dc DL_isBook) 16 = .ok (.istore 5, 2) := by decide +kernel
theorem dL_isBook_18 : decode (dc DL_isBook) 18 = .ok (.iconst 0, 1) := by decide +kernel
theorem dL_isBook_19 : decode (dc DL_isBook) 19 = .ok (.istore 6, 2) := by decide +kernel
theorem dL_isBook_21 : decode (dc DL_isBook) 21 = .ok (.iconst 0, 1) := by decide +kernel
theorem dL_isBook_22 : decode (dc DL_isBook) 22 = .ok (.istore 7, 2) := by decide +kernel
theorem dL_isBook_24 : decode (dc DL_isBook) 24 = .ok (.iconst 4, 1) := by decide +kernel
theorem dL_isBook_25 : decode (dc DL_isBook) 25 = .ok (.newarray .int, 2) := by decide +kernel
theorem dL_isBook_27 : decode (dc DL_isBook) 27 = .ok (.astore 8, 2) := by decide +kernel
theorem dL_isBook_29 : decode (dc DL_isBook) 29 = .ok (.iconst 0, 1) := by decide +kernel
theorem dL_isBook_30 : decode (dc DL_isBook) 30 = .ok (.istore 9, 2) := by decide +kernel
theorem dL_isBook_32 : decode (dc DL_isBook) 32 = .ok (.iload 9, 2) := by decide +kernel
theorem dL_isBook_34 : decode (dc DL_isBook) 34 = .ok (.aload_n 1, 1) := by decide +kernel
theorem dL_isBook_35 : decode (dc DL_isBook) 35 = .ok (.getfield 138, 3) := by decide +kernel
theorem dL_isBook_38 : decode (dc DL_isBook) 38 = .ok (.if_icmp .ge 488, 3) := by decide +kernel
theorem dL_isBook_41 : decode (dc DL_isBook) 41 = .ok (.aload_n 1, 1) := by decide +kernel
theorem dL_isBook_42 : decode (dc DL_isBook) 42 = .ok (.getfield 147, 3) := by decide +kernel
theorem dL_isBook_45 : decode (dc DL_isBook) 45 = .ok (.iload 9, 2) := by decide +kernel
theorem dL_isBook_47 : decode (dc DL_isBook) 47 = .ok (.ishr, 1) := by decide +kernel
theorem dL_isBook_48 : decode (dc DL_isBook) 48 = .ok (.iconst 1, 1) := by decide +kernel
theorem dL_isBook_49 : decode (dc DL_isBook) 49 = .ok (.iand, 1) := by decide +kernel
theorem dL_isBook_50 : decode (dc DL_isBook) 50 = .ok (.iconst 1, 1) := by decide +kernel
theorem dL_isBook_51 : decode (dc DL_isBook) 51 = .ok (.if_icmp .ne 22, 3) := by decide +kernel
theorem dL_isBook_54 : decode (dc DL_isBook) 54 = .ok (.aload_n 1, 1) := by decide +kernel
theorem dL_isBook_55 : decode (dc DL_isBook) 55 = .ok (.getfield 189, 3) := by decide +kernel
theorem dL_isBook_58 : decode (dc DL_isBook) 58 = .ok (.iload 9, 2) := by decide +kernel
theorem dL_isBook_60 : decode (dc DL_isBook) 60 = .ok (.iaload, 1) := by decide +kernel
theorem dL_isBook_61 : decode (dc DL_isBook) 61 = .ok (.ifCond .ge 12, 3) := by decide +kernel
theorem dL_isBook_64 : decode (dc DL_isBook) 64 = .ok (.iload 4, 2) := by decide +kernel
theorem dL_isBook_66 : decode (dc DL_isBook) 66 = .ok (.iconst 1, 1) := by decide +kernel
theorem dL_isBook_67 : decode (dc DL_isBook) 67 = .ok (.iload 9, 2) := by decide +kernel
theorem dL_isBook_69 : decode (dc DL_isBook) 69 = .ok (.ishl, 1) := by decide +kernel
theorem dL_isBook_70 : decode (dc DL_isBook) 70 = .ok (.ior, 1) := by decide +kernel
theorem dL_isBook_71 : decode (dc DL_isBook) 71 = .ok (.istore 4, 2) := by decide +kernel
theorem dL_isBook_73 : decode (dc DL_isBook) 73 = .ok (.aload_n 1, 1) := by decide +kernel
theorem dL_isBook_74 : decode (dc DL_isBook) 74 = .ok (.getfield 189, 3) := by decide +kernel
theorem dL_isBook_77 : decode (dc DL_isBook) 77 = .ok (.iload 9, 2) := by decide +kernel
theorem dL_isBook_79 : decode (dc DL_isBook) 79 = .ok (.iaload, 1) := by decide +kernel
theorem dL_isBook_80 : decode (dc DL_isBook) 80 = .ok (.ifCond .lt 23, 3) := by decide +kernel
theorem dL_isBook_83 : decode (dc DL_isBook) 83 = .ok (.iload 7, 2) := by decide +kernel
theorem dL_isBook_85 : decode (dc DL_isBook) 85 = .ok (.aload_n 1, 1) := by decide +kernel
theorem dL_isBook_86 : decode (dc DL_isBook) 86 = .ok (.getfield 171, 3) := by decide +kernel
theorem dL_isBook_89 : decode (dc DL_isBook) 89 = .ok (.iload 9, 2) := by decide +kernel
theorem dL_isBook_91 : decode (dc DL_isBook) 91 = .ok (.aaload, 1) := by decide +kernel
theorem dL_isBook_92 : decode (dc DL_isBook) 92 = .ok (.aload_n 1, 1) := by decide +kernel
theorem dL_isBook_93 : decode (dc DL_isBook) 93 = .ok (.getfield 189, 3) := by decide +kernel
theorem dL_isBook_96 : decode (dc DL_isBook) 96 = .ok (.iload 9, 2) := by decide +kernel
theorem dL_isBook_98 : decode (dc DL_isBook) 98 = .ok (.iaload, 1) := by decide +kernel
theorem dL_isBook_99 : decode (dc DL_isBook) 99 = .ok (.iaload, 1) := by decide +kernel
theorem dL_isBook_100 : decode (dc DL_isBook) 100 = .ok (.iadd, 1) := by decide +kernel
theorem dL_isBook_101 : decode (dc DL_isBook) 101 = .ok (.istore 7, 2) := by decide +kernel
theorem dL_isBook_103 : decode (dc DL_isBook) 103 = .ok (.iconst 0, 1) := by decide +kernel
theorem dL_isBook_104 : decode (dc DL_isBook) 104 = .ok (.istore 10, 2) := by decide +kernel
theorem dL_isBook_106 : decode (dc DL_isBook) 106 = .ok (.aload_n 1, 1) := by decide +kernel
theorem dL_isBook_107 : decode (dc DL_isBook) 107 = .ok (.iload 9, 2) := by decide +kernel
theorem dL_isBook_109 : decode (dc DL_isBook) 109 = .ok (.invokevirtual 217, 3) := by decide +kernel
theorem dL_isBook_112 : decode (dc DL_isBook) 112 = .ok (.astore 11, 2) := by decide +kernel
theorem dL_isBook_114 : decode (dc DL_isBook) 114 = .ok (.aload_n 0, 1) := by decide +kernel
theorem dL_isBook_115 : decode (dc DL_isBook) 115 = .ok (.iconst 0, 1) := by decide +kernel
theorem dL_isBook_116 : decode (dc DL_isBook) 116 = .ok (.iload 9, 2) := by decide +kernel
theorem dL_isBook_118 : decode (dc DL_isBook) 118 = .ok (.invokestatic 221, 3) := by decide +kernel
theorem dL_isBook_121 : decode (dc DL_isBook) 121 = .ok (.aload_n 1, 1) := by decide +kernel
theorem dL_isBook_122 : decode (dc DL_isBook) 122 = .ok (.getfield 189, 3) := by decide +kernel
theorem dL_isBook_125 : decode (dc DL_isBook) 125 = .ok (.iload 9, 2) := by decide +kernel
theorem dL_isBook_127 : decode (dc DL_isBook) 127 = .ok (.iaload, 1) := by decide +kernel
theorem dL_isBook_128 : decode (dc DL_isBook) 128 = .ok (.if_icmp .ne 45, 3) := by decide +kernel
theorem dL_isBook_131 : decode (dc DL_isBook) 131 = .ok (.aload_n 0, 1) := by decide +kernel
theorem dL_isBook_132 : decode (dc DL_isBook) 132 = .ok (.iload 9, 2) := by decide +kernel
theorem dL_isBook_134 : decode (dc DL_isBook) 134 = .ok (.iconst 0, 1) := by decide +kernel
theorem dL_isBook_135 : decode (dc DL_isBook) 135 = .ok (.invokestatic 224, 3) := by decide +kernel
theorem dL_isBook_138 : decode (dc DL_isBook) 138 = .ok (.aload 11, 2) := by decide +kernel
theorem dL_isBook_140 : decode (dc DL_isBook) 140 = .ok (.ifnonnull 7, 3) := by decide +kernel
theorem dL_isBook_143 : decode (dc DL_isBook) 143 = .ok (.iconst 0, 1) := by decide +kernel
theorem dL_isBook_144 : decode (dc DL_isBook) 144 = .ok (.goto 4, 3) := by decide +kernel
theorem dL_isBook_147 : decode (dc DL_isBook) 147 = .ok (.iconst 1, 1) := by decide +kernel
theorem dL_isBook_148 : decode (dc DL_isBook) 148 = .ok (.if_icmp .ne 25, 3) := by decide +kernel
theorem dL_isBook_151 : decode (dc DL_isBook) 151 = .ok (.aload_n 0, 1) := by decide +kernel
theorem dL_isBook_152 : decode (dc DL_isBook) 152 = .ok (.iload 9, 2) := by decide +kernel
theorem dL_isBook_154 : decode (dc DL_isBook) 154 = .ok (.iconst 1, 1) := by decide +kernel
theorem dL_isBook_155 : decode (dc DL_isBook) 155 = .ok (.invokestatic 224, 3) := by decide +kernel
theorem dL_isBook_158 : decode (dc DL_isBook) 158 = .ok (.aload 11, 2) := by decide +kernel
theorem dL_isBook_160 : decode (dc DL_isBook) 160 = .ok (.ifnonnull 7, 3) := by decide +kernel
theorem dL_isBook_163 : decode (dc DL_isBook) 163 = .ok (.iconst 0, 1) := by decide +kernel
theorem dL_isBook_164 : decode (dc DL_isBook) 164 = .ok (.goto 6, 3) := by decide +kernel
theorem dL_isBook_167 : decode (dc DL_isBook) 167 = .ok (.aload 11, 2) := by decide +kernel
theorem dL_isBook_169 : decode (dc DL_isBook) 169 = .ok (.arraylength, 1) := by decide +kernel
theorem dL_isBook_170 : decode (dc DL_isBook) 170 = .ok (.if_icmp .eq 5, 3) := by decide +kernel
theorem dL_isBook_173 : decode (dc DL_isBook) 173 = .ok (.iconst 0, 1) := by decide +kernel
theorem dL_isBook_174 : decode (dc DL_isBook) 174 = .ok (.ireturn, 1) := by decide +kernel
theorem dL_isBook_175 : decode (dc DL_isBook) 175 = .ok (.aload_n 1, 1) := by decide +kernel
theorem dL_isBook_176 : decode (dc DL_isBook) 176 = .ok (.invokevirtual 226, 3) := by decide +kernel
theorem dL_isBook_179 : decode (dc DL_isBook) 179 = .ok (.astore 12, 2) := by decide +kernel
theorem dL_isBook_181 : decode (dc DL_isBook) 181 = .ok (.aload 12, 2) := by decide +kernel
theorem dL_isBook_183 : decode (dc DL_isBook) 183 = .ok (.dup, 1) := by decide +kernel
theorem dL_isBook_184 : decode (dc DL_isBook) 184 = .ok (.getfield 147, 3) := by decide +kernel
theorem dL_isBook_187 : decode (dc DL_isBook) 187 = .ok (.iconst 1, 1) := by decide +kernel
theorem dL_isBook_188 : decode (dc DL_isBook) 188 = .ok (.iload 9, 2) := by decide +kernel
theorem dL_isBook_190 : decode (dc DL_isBook) 190 = .ok (.ishl, 1) := by decide +kernel
theorem dL_isBook_191 : decode (dc DL_isBook) 191 = .ok (.iconst (-1), 1) := by decide +kernel
theorem dL_isBook_192 : decode (dc DL_isBook) 192 = .ok (.ixor, 1) := by decide +kernel
theorem dL_isBook_193 : decode (dc DL_isBook) 193 = .ok (.iand, 1) := by decide +kernel
theorem dL_isBook_194 : decode (dc DL_isBook) 194 = .ok (.putfield 147, 3) := by decide +kernel
theorem dL_isBook_197 : decode (dc DL_isBook) 197 = .ok (.aload 12, 2) := by decide +kernel
theorem dL_isBook_199 : decode (dc DL_isBook) 199 = .ok (.iconst 0, 1) := by decide +kernel
theorem dL_isBook_200 : decode (dc DL_isBook) 200 = .ok (.iconst 0, 1) := by decide +kernel
theorem dL_isBook_201 : decode (dc DL_isBook) 201 = .ok (.invokevirtual 211, 3) := by decide +kernel
theorem dL_isBook_204 : decode (dc DL_isBook) 204 = .ok (.istore 13, 2) := by decide +kernel
theorem dL_isBook_206 : decode (dc DL_isBook) 206 = .ok (.aload_n 1, 1) := by decide +kernel
theorem dL_isBook_207 : decode (dc DL_isBook) 207 = .ok (.getfield 147, 3) := by decide +kernel
theorem dL_isBook_210 : decode (dc DL_isBook) 210 = .ok (.iload 9, 2) := by decide +kernel
theorem dL_isBook_212 : decode (dc DL_isBook) 212 = .ok (.ishr, 1) := by decide +kernel
theorem dL_isBook_213 : decode (dc DL_isBook) 213 = .ok (.iconst 1, 1) := by decide +kernel
theorem dL_isBook_214 : decode (dc DL_isBook) 214 = .ok (.iand, 1) := by decide +kernel
theorem dL_isBook_215 : decode (dc DL_isBook) 215 = .ok (.ifCond .ne 7, 3) := by decide +kernel
theorem dL_isBook_218 : decode (dc DL_isBook) 218 = .ok (.iconst 0, 1) := by decide +kernel
theorem dL_isBook_219 : decode (dc DL_isBook) 219 = .ok (.goto 36, 3) := by decide +kernel
theorem dL_isBook_222 : decode (dc DL_isBook) 222 = .ok (.aload_n 3, 1) := by decide +kernel
theorem dL_isBook_223 : decode (dc DL_isBook) 223 = .ok (.iconst 0, 1) := by decide +kernel
theorem dL_isBook_224 : decode (dc DL_isBook) 224 = .ok (.iaload, 1) := by decide +kernel
theorem dL_isBook_225 : decode (dc DL_isBook) 225 = .ok (.iload 9, 2) := by decide +kernel
theorem dL_isBook_227 : decode (dc DL_isBook) 227 = .ok (.ishr, 1) := by decide +kernel
theorem dL_isBook_228 : decode (dc DL_isBook) 228 = .ok (.iconst 1, 1) := by decide +kernel
theorem dL_isBook_229 : decode (dc DL_isBook) 229 = .ok (.iand, 1) := by decide +kernel
theorem dL_isBook_230 : decode (dc DL_isBook) 230 = .ok (.iconst 1, 1) := by decide +kernel
theorem dL_isBook_231 : decode (dc DL_isBook) 231 = .ok (.if_icmp .ne 7, 3) := by decide +kernel
theorem dL_isBook_234 : decode (dc DL_isBook) 234 = .ok (.iconst 1, 1) := by decide +kernel
theorem dL_isBook_235 : decode (dc DL_isBook) 235 = .ok (.goto 20, 3) := by decide +kernel
theorem dL_isBook_238 : decode (dc DL_isBook) 238 = .ok (.aload_n 3, 1) := by decide +kernel
theorem dL_isBook_239 : decode (dc DL_isBook) 239 = .ok (.iconst 2, 1) := by decide +kernel
theorem dL_isBook_240 : decode (dc DL_isBook) 240 = .ok (.iaload, 1) := by decide +kernel
theorem dL_isBook_241 : decode (dc DL_isBook) 241 = .ok (.iload 9, 2) := by decide +kernel
theorem dL_isBook_243 : decode (dc DL_isBook) 243 = .ok (.ishr, 1) := by decide +kernel
theorem dL_isBook_244 : decode (dc DL_isBook) 244 = .ok (.iconst 1, 1) := by decide +kernel
theorem dL_isBook_245 : decode (dc DL_isBook) 245 = .ok (.iand, 1) := by decide +kernel
theorem dL_isBook_246 : decode (dc DL_isBook) 246 = .ok (.iconst 1, 1) := by decide +kernel
theorem dL_isBook_247 : decode (dc DL_isBook) 247 = .ok (.if_icmp .ne 7, 3) := by decide +kernel
theorem dL_isBook_250 : decode (dc DL_isBook) 250 = .ok (.iconst 2, 1) := by decide +kernel
theorem dL_isBook_251 : decode (dc DL_isBook) 251 = .ok (.goto 4, 3) := by decide +kernel
theorem dL_isBook_254 : decode (dc DL_isBook) 254 = .ok (.iconst 3, 1) := by decide +kernel
theorem dL_isBook_255 : decode (dc DL_isBook) 255 = .ok (.istore 14, 2) := by decide +kernel
theorem dL_isBook_257 : decode (dc DL_isBook) 257 = .ok (.aload_n 0, 1) := by decide +kernel
theorem dL_isBook_258 : decode (dc DL_isBook) 258 = .ok (.iconst 0, 1) := by decide +kernel
theorem dL_isBook_259 : decode (dc DL_isBook) 259 = .ok (.iload 9, 2) := by decide +kernel
theorem dL_isBook_261 : decode (dc DL_isBook) 261 = .ok (.iconst 0, 1) := by decide +kernel
theorem dL_isBook_262 : decode (dc DL_isBook) 262 = .ok (.invokestatic 230, 3) := by decide +kernel
theorem dL_isBook_265 : decode (dc DL_isBook) 265 = .ok (.iload 13, 2) := by decide +kernel
theorem dL_isBook_267 : decode (dc DL_isBook) 267 = .ok (.iload_n 2, 1) := by decide +kernel
theorem dL_isBook_268 : decode (dc DL_isBook) 268 = .ok (.if_icmp .ge 7, 3) := by decide +kernel
theorem dL_isBook_271 : decode (dc DL_isBook) 271 = .ok (.iconst 1, 1) := by decide +kernel
theorem dL_isBook_272 : decode (dc DL_isBook) 272 = .ok (.goto 4, 3) := by decide +kernel
theorem dL_isBook_275 : decode (dc DL_isBook) 275 = .ok (.iconst 0, 1) := by decide +kernel
theorem dL_isBook_276 : decode (dc DL_isBook) 276 = .ok (.if_icmp .ne 29, 3) := by decide +kernel
theorem dL_isBook_279 : decode (dc DL_isBook) 279 = .ok (.aload_n 0, 1) := by decide +kernel
theorem dL_isBook_280 : decode (dc DL_isBook) 280 = .ok (.iconst 0, 1) := by decide +kernel
theorem dL_isBook_281 : decode (dc DL_isBook) 281 = .ok (.iload 9, 2) := by decide +kernel
theorem dL_isBook_283 : decode (dc DL_isBook) 283 = .ok (.iconst 1, 1) := by decide +kernel
theorem dL_isBook_284 : decode (dc DL_isBook) 284 = .ok (.invokestatic 230, 3) := by decide +kernel
theorem dL_isBook_287 : decode (dc DL_isBook) 287 = .ok (.iload 13, 2) := by decide +kernel
theorem dL_isBook_289 : decode (dc DL_isBook) 289 = .ok (.if_icmp .ne 16, 3) := by decide +kernel
theorem dL_isBook_292 : decode (dc DL_isBook) 292 = .ok (.aload_n 0, 1) := by decide +kernel
theorem dL_isBook_293 : decode (dc DL_isBook) 293 = .ok (.iconst 0, 1) := by decide +kernel
theorem dL_isBook_294 : decode (dc DL_isBook) 294 = .ok (.iload 9, 2) := by decide +kernel
theorem dL_isBook_296 : decode (dc DL_isBook) 296 = .ok (.iconst 2, 1) := by decide +kernel
theorem dL_isBook_297 : decode (dc DL_isBook) 297 = .ok (.invokestatic 230, 3) := by decide +kernel
theorem dL_isBook_300 : decode (dc DL_isBook) 300 = .ok (.iload 14, 2) := by decide +kernel
theorem dL_isBook_302 : decode (dc DL_isBook) 302 = .ok (.if_icmp .eq 5, 3) := by decide +kernel
theorem dL_isBook_305 : decode (dc DL_isBook) 305 = .ok (.iconst 0, 1) := by decide +kernel
theorem dL_isBook_306 : decode (dc DL_isBook) 306 = .ok (.ireturn, 1) := by decide +kernel
theorem dL_isBook_307 : decode (dc DL_isBook) 307 = .ok (.iconst 0, 1) := by decide +kernel
theorem dL_isBook_308 : decode (dc DL_isBook) 308 = .ok (.istore 15, 2) := by decide +kernel
theorem dL_isBook_310 : decode (dc DL_isBook) 310 = .ok (.iload 15, 2) := by decide +kernel
theorem dL_isBook_312 : decode (dc DL_isBook) 312 = .ok (.aload_n 1, 1) := by decide +kernel
theorem dL_isBook_313 : decode (dc DL_isBook) 313 = .ok (.getfield 144, 3) := by decide +kernel
theorem dL_isBook_316 : decode (dc DL_isBook) 316 = .ok (.if_icmp .ge 190, 3) := by decide +kernel
theorem dL_isBook_319 : decode (dc DL_isBook) 319 = .ok (.aload_n 0, 1) := by decide +kernel
theorem dL_isBook_320 : decode (dc DL_isBook) 320 = .ok (.iload 9, 2) := by decide +kernel
theorem dL_isBook_322 : decode (dc DL_isBook) 322 = .ok (.iload 15, 2) := by decide +kernel
theorem dL_isBook_324 : decode (dc DL_isBook) 324 = .ok (.invokestatic 233, 3) := by decide +kernel
theorem dL_isBook_327 : decode (dc DL_isBook) 327 = .ok (.aload_n 1, 1) := by decide +kernel
theorem dL_isBook_328 : decode (dc DL_isBook) 328 = .ok (.getfield 171, 3) := by decide +kernel
theorem dL_isBook_331 : decode (dc DL_isBook) 331 = .ok (.iload 9, 2) := by decide +kernel
theorem dL_isBook_333 : decode (dc DL_isBook) 333 = .ok (.aaload, 1) := by decide +kernel
theorem dL_isBook_334 : decode (dc DL_isBook) 334 = .ok (.iload 15, 2) := by decide +kernel
theorem dL_isBook_336 : decode (dc DL_isBook) 336 = .ok (.iaload, 1) := by decide +kernel
theorem dL_isBook_337 : decode (dc DL_isBook) 337 = .ok (.if_icmp .eq 5, 3) := by decide +kernel
theorem dL_isBook_340 : decode (dc DL_isBook) 340 = .ok (.iconst 0, 1) := by decide +kernel
theorem dL_isBook_341 : decode (dc DL_isBook) 341 = .ok (.ireturn, 1) := by decide +kernel
theorem dL_isBook_342 : decode (dc DL_isBook) 342 = .ok (.iconst 0, 1) := by decide +kernel
theorem dL_isBook_343 : decode (dc DL_isBook) 343 = .ok (.istore 16, 2) := by decide +kernel
theorem dL_isBook_345 : decode (dc DL_isBook) 345 = .ok (.aload_n 1, 1) := by decide +kernel
theorem dL_isBook_346 : decode (dc DL_isBook) 346 = .ok (.getfield 171, 3) := by decide +kernel
theorem dL_isBook_349 : decode (dc DL_isBook) 349 = .ok (.iload 9, 2) := by decide +kernel
theorem dL_isBook_351 : decode (dc DL_isBook) 351 = .ok (.aaload, 1) := by decide +kernel
theorem dL_isBook_352 : decode (dc DL_isBook) 352 = .ok (.iload 15, 2) := by decide +kernel
theorem dL_isBook_354 : decode (dc DL_isBook) 354 = .ok (.iaload, 1) := by decide +kernel
theorem dL_isBook_355 : decode (dc DL_isBook) 355 = .ok (.ifCond .lt 121, 3) := by decide +kernel
theorem dL_isBook_358 : decode (dc DL_isBook) 358 = .ok (.iinc 6 1, 3) := by decide +kernel
theorem dL_isBook_361 : decode (dc DL_isBook) 361 = .ok (.iload 10, 2) := by decide +kernel
theorem dL_isBook_363 : decode (dc DL_isBook) 363 = .ok (.iconst 1, 1) := by decide +kernel
theorem dL_isBook_364 : decode (dc DL_isBook) 364 = .ok (.iload 15, 2) := by decide +kernel
theorem dL_isBook_366 : decode (dc DL_isBook) 366 = .ok (.ishl, 1) := by decide +kernel
theorem dL_isBook_367 : decode (dc DL_isBook) 367 = .ok (.ior, 1) := by decide +kernel
theorem dL_isBook_368 : decode (dc DL_isBook) 368 = .ok (.istore 10, 2) := by decide +kernel
theorem dL_isBook_370 : decode (dc DL_isBook) 370 = .ok (.aload_n 1, 1) := by decide +kernel
theorem dL_isBook_371 : decode (dc DL_isBook) 371 = .ok (.invokevirtual 226, 3) := by decide +kernel
theorem dL_isBook_374 : decode (dc DL_isBook) 374 = .ok (.astore 17, 2) := by decide +kernel
theorem dL_isBook_376 : decode (dc DL_isBook) 376 = .ok (.aload 17, 2) := by decide +kernel
theorem dL_isBook_378 : decode (dc DL_isBook) 378 = .ok (.getfield 171, 3) := by decide +kernel
theorem dL_isBook_381 : decode (dc DL_isBook) 381 = .ok (.iload 9, 2) := by decide +kernel
theorem dL_isBook_383 : decode (dc DL_isBook) 383 = .ok (.aaload, 1) := by decide +kernel
theorem dL_isBook_384 : decode (dc DL_isBook) 384 = .ok (.iload 15, 2) := by decide +kernel
theorem dL_isBook_386 : decode (dc DL_isBook) 386 = .ok (.iconst (-1), 1) := by decide +kernel
theorem dL_isBook_387 : decode (dc DL_isBook) 387 = .ok (.iastore, 1) := by decide +kernel
theorem dL_isBook_388 : decode (dc DL_isBook) 388 = .ok (.aload_n 1, 1) := by decide +kernel
theorem dL_isBook_389 : decode (dc DL_isBook) 389 = .ok (.invokevirtual 226, 3) := by decide +kernel
theorem dL_isBook_392 : decode (dc DL_isBook) 392 = .ok (.astore 18, 2) := by decide +kernel
theorem dL_isBook_394 : decode (dc DL_isBook) 394 = .ok (.aload 18, 2) := by decide +kernel
theorem dL_isBook_396 : decode (dc DL_isBook) 396 = .ok (.dup, 1) := by decide +kernel
theorem dL_isBook_397 : decode (dc DL_isBook) 397 = .ok (.getfield 147, 3) := by decide +kernel
theorem dL_isBook_400 : decode (dc DL_isBook) 400 = .ok (.iconst 1, 1) := by decide +kernel
theorem dL_isBook_401 : decode (dc DL_isBook) 401 = .ok (.iload 9, 2) := by decide +kernel
theorem dL_isBook_403 : decode (dc DL_isBook) 403 = .ok (.ishl, 1) := by decide +kernel
theorem dL_isBook_404 : decode (dc DL_isBook) 404 = .ok (.iconst (-1), 1) := by decide +kernel
theorem dL_isBook_405 : decode (dc DL_isBook) 405 = .ok (.ixor, 1) := by decide +kernel
theorem dL_isBook_406 : decode (dc DL_isBook) 406 = .ok (.iand, 1) := by decide +kernel
theorem dL_isBook_407 : decode (dc DL_isBook) 407 = .ok (.putfield 147, 3) := by decide +kernel
theorem dL_isBook_410 : decode (dc DL_isBook) 410 = .ok (.aload 18, 2) := by decide +kernel
theorem dL_isBook_412 : decode (dc DL_isBook) 412 = .ok (.dup, 1) := by decide +kernel
theorem dL_isBook_413 : decode (dc DL_isBook) 413 = .ok (.getfield 150, 3) := by decide +kernel
theorem dL_isBook_416 : decode (dc DL_isBook) 416 = .ok (.iconst 1, 1) := by decide +kernel
theorem dL_isBook_417 : decode (dc DL_isBook) 417 = .ok (.iload 15, 2) := by decide +kernel
theorem dL_isBook_419 : decode (dc DL_isBook) 419 = .ok (.ishl, 1) := by decide +kernel
theorem dL_isBook_420 : decode (dc DL_isBook) 420 = .ok (.iconst (-1), 1) := by decide +kernel
theorem dL_isBook_421 : decode (dc DL_isBook) 421 = .ok (.ixor, 1) := by decide +kernel
theorem dL_isBook_422 : decode (dc DL_isBook) 422 = .ok (.iand, 1) := by decide +kernel
theorem dL_isBook_423 : decode (dc DL_isBook) 423 = .ok (.putfield 150, 3) := by decide +kernel
theorem dL_isBook_426 : decode (dc DL_isBook) 426 = .ok (.aload_n 1, 1) := by decide +kernel
theorem dL_isBook_427 : decode (dc DL_isBook) 427 = .ok (.iload 9, 2) := by decide +kernel
theorem dL_isBook_429 : decode (dc DL_isBook) 429 = .ok (.iload 15, 2) := by decide +kernel
theorem dL_isBook_431 : decode (dc DL_isBook) 431 = .ok (.invokevirtual 182, 3) := by decide +kernel
theorem dL_isBook_434 : decode (dc DL_isBook) 434 = .ok (.ifCond .ne 7, 3) := by decide +kernel
theorem dL_isBook_437 : decode (dc DL_isBook) 437 = .ok (.iconst 1, 1) := by decide +kernel
theorem dL_isBook_438 : decode (dc DL_isBook) 438 = .ok (.goto 36, 3) := by decide +kernel
theorem dL_isBook_441 : decode (dc DL_isBook) 441 = .ok (.aload 17, 2) := by decide +kernel
theorem dL_isBook_443 : decode (dc DL_isBook) 443 = .ok (.iconst 0, 1) := by decide +kernel
theorem dL_isBook_444 : decode (dc DL_isBook) 444 = .ok (.iconst 0, 1) := by decide +kernel
theorem dL_isBook_445 : decode (dc DL_isBook) 445 = .ok (.invokevirtual 211, 3) := by decide +kernel
theorem dL_isBook_448 : decode (dc DL_isBook) 448 = .ok (.iload_n 2, 1) := by decide +kernel
theorem dL_isBook_449 : decode (dc DL_isBook) 449 = .ok (.if_icmp .ge 7, 3) := by decide +kernel
theorem dL_isBook_452 : decode (dc DL_isBook) 452 = .ok (.iconst 3, 1) := by decide +kernel
theorem dL_isBook_453 : decode (dc DL_isBook) 453 = .ok (.goto 21, 3) := by decide +kernel
theorem dL_isBook_456 : decode (dc DL_isBook) 456 = .ok (.aload 18, 2) := by decide +kernel
theorem dL_isBook_458 : decode (dc DL_isBook) 458 = .ok (.iconst 0, 1) := by decide +kernel
theorem dL_isBook_459 : decode (dc DL_isBook) 459 = .ok (.iconst 0, 1) := by decide +kernel
theorem dL_isBook_460 : decode (dc DL_isBook) 460 = .ok (.invokevirtual 211, 3) := by decide +kernel
theorem dL_isBook_463 : decode (dc DL_isBook) 463 = .ok (.iconst 1, 1) := by decide +kernel
theorem dL_isBook_464 : decode (dc DL_isBook) 464 = .ok (.iadd, 1) := by decide +kernel
theorem dL_isBook_465 : decode (dc DL_isBook) 465 = .ok (.iload_n 2, 1) := by decide +kernel
theorem dL_isBook_466 : decode (dc DL_isBook) 466 = .ok (.if_icmp .ne 7, 3) := by decide +kernel
theorem dL_isBook_469 : decode (dc DL_isBook) 469 = .ok (.iconst 2, 1) := by decide +kernel
theorem dL_isBook_470 : decode (dc DL_isBook) 470 = .ok (.goto 4, 3) := by decide +kernel
theorem dL_isBook_473 : decode (dc DL_isBook) 473 = .ok (.iconst 1, 1) := by decide +kernel
theorem dL_isBook_474 : decode (dc DL_isBook) 474 = .ok (.istore 16, 2) := by decide +kernel
theorem dL_isBook_476 : decode (dc DL_isBook) 476 = .ok (.aload_n 0, 1) := by decide +kernel
theorem dL_isBook_477 : decode (dc DL_isBook) 477 = .ok (.iload 9, 2) := by decide +kernel
theorem dL_isBook_479 : decode (dc DL_isBook) 479 = .ok (.iload 15, 2) := by decide +kernel
theorem dL_isBook_481 : decode (dc DL_isBook) 481 = .ok (.invokestatic 235, 3) := by decide +kernel
theorem dL_isBook_484 : decode (dc DL_isBook) 484 = .ok (.iload 16, 2) := by decide +kernel
theorem dL_isBook_486 : decode (dc DL_isBook) 486 = .ok (.if_icmp .eq 5, 3) := by decide +kernel
theorem dL_isBook_489 : decode (dc DL_isBook) 489 = .ok (.iconst 0, 1) := by decide +kernel
theorem dL_isBook_490 : decode (dc DL_isBook) 490 = .ok (.ireturn, 1) := by decide +kernel
theorem dL_isBook_491 : decode (dc DL_isBook) 491 = .ok (.aload 8, 2) := by decide +kernel
theorem dL_isBook_493 : decode (dc DL_isBook) 493 = .ok (.iload 16, 2) := by decide +kernel
theorem dL_isBook_495 : decode (dc DL_isBook) 495 = .ok (.dup2, 1) := by decide +kernel
theorem dL_isBook_496 : decode (dc DL_isBook) 496 = .ok (.iaload, 1) := by decide +kernel
theorem dL_isBook_497 : decode (dc DL_isBook) 497 = .ok (.iconst 1, 1) := by decide +kernel
theorem dL_isBook_498 : decode (dc DL_isBook) 498 = .ok (.iadd, 1) := by decide +kernel
theorem dL_isBook_499 : decode (dc DL_isBook) 499 = .ok (.iastore, 1) := by decide +kernel
theorem dL_isBook_500 : decode (dc DL_isBook) 500 = .ok (.iinc 15 1, 3) := by decide +kernel
theorem dL_isBook_503 : decode (dc DL_isBook) 503 = .ok (.goto (-193), 3) := by decide +kernel
theorem dL_isBook_506 : decode (dc DL_isBook) 506 = .ok (.aload_n 0, 1) := by decide +kernel
theorem dL_isBook_507 : decode (dc DL_isBook) 507 = .ok (.iconst 0, 1) := by decide +kernel
theorem dL_isBook_508 : decode (dc DL_isBook) 508 = .ok (.iload 9, 2) := by decide +kernel
theorem dL_isBook_510 : decode (dc DL_isBook) 510 = .ok (.invokestatic 237, 3) := by decide +kernel
theorem dL_isBook_513 : decode (dc DL_isBook) 513 = .ok (.iload 10, 2) := by decide +kernel
theorem dL_isBook_515 : decode (dc DL_isBook) 515 = .ok (.if_icmp .eq 5, 3) := by decide +kernel
theorem dL_isBook_518 : decode (dc DL_isBook) 518 = .ok (.iconst 0, 1) := by decide +kernel
theorem dL_isBook_519 : decode (dc DL_isBook) 519 = .ok (.ireturn, 1) := by decide +kernel
theorem dL_isBook_520 : decode (dc DL_isBook) 520 = .ok (.iinc 9 1, 3) := by decide +kernel
theorem dL_isBook_523 : decode (dc DL_isBook) 523 = .ok (.goto (-491), 3) := by decide +kernel
theorem dL_isBook_526 : decode (dc DL_isBook) 526 = .ok (.iconst 0, 1) := by decide +kernel
theorem dL_isBook_527 : decode (dc DL_isBook) 527 = .ok (.istore 9, 2) := by decide +kernel
theorem dL_isBook_529 : decode (dc DL_isBook) 529 = .ok (.iload 9, 2) := by decide +kernel
theorem dL_isBook_531 : decode (dc DL_isBook) 531 = .ok (.aload_n 1, 1) := by decide +kernel
theorem dL_isBook_532 : decode (dc DL_isBook) 532 = .ok (.getfield 144, 3) := by decide +kernel
theorem dL_isBook_535 : decode (dc DL_isBook) 535 = .ok (.if_icmp .ge 188, 3) := by decide +kernel
theorem dL_isBook_538 : decode (dc DL_isBook) 538 = .ok (.aload_n 1, 1) := by decide +kernel
theorem dL_isBook_539 : decode (dc DL_isBook) 539 = .ok (.getfield 150, 3) := by decide +kernel
theorem dL_isBook_542 : decode (dc DL_isBook) 542 = .ok (.iload 9, 2) := by decide +kernel
theorem dL_isBook_544 : decode (dc DL_isBook) 544 = .ok (.ishr, 1) := by decide +kernel
theorem dL_isBook_545 : decode (dc DL_isBook) 545 = .ok (.iconst 1, 1) := by decide +kernel
theorem dL_isBook_546 : decode (dc DL_isBook) 546 = .ok (.iand, 1) := by decide +kernel
theorem dL_isBook_547 : decode (dc DL_isBook) 547 = .ok (.iconst 1, 1) := by decide +kernel
theorem dL_isBook_548 : decode (dc DL_isBook) 548 = .ok (.if_icmp .ne 21, 3) := by decide +kernel
theorem dL_isBook_551 : decode (dc DL_isBook) 551 = .ok (.aload_n 1, 1) := by decide +kernel
theorem dL_isBook_552 : decode (dc DL_isBook) 552 = .ok (.iload 9, 2) := by decide +kernel
theorem dL_isBook_554 : decode (dc DL_isBook) 554 = .ok (.invokevirtual 186, 3) := by decide +kernel
theorem dL_isBook_557 : decode (dc DL_isBook) 557 = .ok (.ifCond .ge 12, 3) := by decide +kernel
theorem dL_isBook_560 : decode (dc DL_isBook) 560 = .ok (.iload 5, 2) := by decide +kernel
theorem dL_isBook_562 : decode (dc DL_isBook) 562 = .ok (.iconst 1, 1) := by decide +kernel
theorem dL_isBook_563 : decode (dc DL_isBook) 563 = .ok (.iload 9, 2) := by decide +kernel
theorem dL_isBook_565 : decode (dc DL_isBook) 565 = .ok (.ishl, 1) := by decide +kernel
theorem dL_isBook_566 : decode (dc DL_isBook) 566 = .ok (.ior, 1) := by decide +kernel
theorem dL_isBook_567 : decode (dc DL_isBook) 567 = .ok (.istore 5, 2) := by decide +kernel
theorem dL_isBook_569 : decode (dc DL_isBook) 569 = .ok (.aload_n 1, 1) := by decide +kernel
theorem dL_isBook_570 : decode (dc DL_isBook) 570 = .ok (.invokevirtual 226, 3) := by decide +kernel
theorem dL_isBook_573 : decode (dc DL_isBook) 573 = .ok (.astore 10, 2) := by decide +kernel
theorem dL_isBook_575 : decode (dc DL_isBook) 575 = .ok (.aload 10, 2) := by decide +kernel
theorem dL_isBook_577 : decode (dc DL_isBook) 577 = .ok (.dup, 1) := by decide +kernel
theorem dL_isBook_578 : decode (dc DL_isBook) 578 = .ok (.getfield 150, 3) := by decide +kernel
theorem dL_isBook_581 : decode (dc DL_isBook) 581 = .ok (.iconst 1, 1) := by decide +kernel
theorem dL_isBook_582 : decode (dc DL_isBook) 582 = .ok (.iload 9, 2) := by decide +kernel
theorem dL_isBook_584 : decode (dc DL_isBook) 584 = .ok (.ishl, 1) := by decide +kernel
theorem dL_isBook_585 : decode (dc DL_isBook) 585 = .ok (.iconst (-1), 1) := by decide +kernel
theorem dL_isBook_586 : decode (dc DL_isBook) 586 = .ok (.ixor, 1) := by decide +kernel
theorem dL_isBook_587 : decode (dc DL_isBook) 587 = .ok (.iand, 1) := by decide +kernel
theorem dL_isBook_588 : decode (dc DL_isBook) 588 = .ok (.putfield 150, 3) := by decide +kernel
theorem dL_isBook_591 : decode (dc DL_isBook) 591 = .ok (.aload 10, 2) := by decide +kernel
theorem dL_isBook_593 : decode (dc DL_isBook) 593 = .ok (.iconst 0, 1) := by decide +kernel
theorem dL_isBook_594 : decode (dc DL_isBook) 594 = .ok (.iconst 0, 1) := by decide +kernel
theorem dL_isBook_595 : decode (dc DL_isBook) 595 = .ok (.invokevirtual 211, 3) := by decide +kernel
theorem dL_isBook_598 : decode (dc DL_isBook) 598 = .ok (.istore 11, 2) := by decide +kernel
theorem dL_isBook_600 : decode (dc DL_isBook) 600 = .ok (.aload_n 1, 1) := by decide +kernel
theorem dL_isBook_601 : decode (dc DL_isBook) 601 = .ok (.getfield 150, 3) := by decide +kernel
theorem dL_isBook_604 : decode (dc DL_isBook) 604 = .ok (.iload 9, 2) := by decide +kernel
theorem dL_isBook_606 : decode (dc DL_isBook) 606 = .ok (.ishr, 1) := by decide +kernel
theorem dL_isBook_607 : decode (dc DL_isBook) 607 = .ok (.iconst 1, 1) := by decide +kernel
theorem dL_isBook_608 : decode (dc DL_isBook) 608 = .ok (.iand, 1) := by decide +kernel
theorem dL_isBook_609 : decode (dc DL_isBook) 609 = .ok (.ifCond .ne 7, 3) := by decide +kernel
theorem dL_isBook_612 : decode (dc DL_isBook) 612 = .ok (.iconst 0, 1) := by decide +kernel
theorem dL_isBook_613 : decode (dc DL_isBook) 613 = .ok (.goto 36, 3) := by decide +kernel
theorem dL_isBook_616 : decode (dc DL_isBook) 616 = .ok (.aload_n 3, 1) := by decide +kernel
theorem dL_isBook_617 : decode (dc DL_isBook) 617 = .ok (.iconst 1, 1) := by decide +kernel
theorem dL_isBook_618 : decode (dc DL_isBook) 618 = .ok (.iaload, 1) := by decide +kernel
theorem dL_isBook_619 : decode (dc DL_isBook) 619 = .ok (.iload 9, 2) := by decide +kernel
theorem dL_isBook_621 : decode (dc DL_isBook) 621 = .ok (.ishr, 1) := by decide +kernel
theorem dL_isBook_622 : decode (dc DL_isBook) 622 = .ok (.iconst 1, 1) := by decide +kernel
theorem dL_isBook_623 : decode (dc DL_isBook) 623 = .ok (.iand, 1) := by decide +kernel
theorem dL_isBook_624 : decode (dc DL_isBook) 624 = .ok (.iconst 1, 1) := by decide +kernel
theorem dL_isBook_625 : decode (dc DL_isBook) 625 = .ok (.if_icmp .ne 7, 3) := by decide +kernel
theorem dL_isBook_628 : decode (dc DL_isBook) 628 = .ok (.iconst 1, 1) := by decide +kernel
theorem dL_isBook_629 : decode (dc DL_isBook) 629 = .ok (.goto 20, 3) := by decide +kernel
theorem dL_isBook_632 : decode (dc DL_isBook) 632 = .ok (.aload_n 3, 1) := by decide +kernel
theorem dL_isBook_633 : decode (dc DL_isBook) 633 = .ok (.iconst 3, 1) := by decide +kernel
theorem dL_isBook_634 : decode (dc DL_isBook) 634 = .ok (.iaload, 1) := by decide +kernel
theorem dL_isBook_635 : decode (dc DL_isBook) 635 = .ok (.iload 9, 2) := by decide +kernel
theorem dL_isBook_637 : decode (dc DL_isBook) 637 = .ok (.ishr, 1) := by decide +kernel
theorem dL_isBook_638 : decode (dc DL_isBook) 638 = .ok (.iconst 1, 1) := by decide +kernel
theorem dL_isBook_639 : decode (dc DL_isBook) 639 = .ok (.iand, 1) := by decide +kernel
theorem dL_isBook_640 : decode (dc DL_isBook) 640 = .ok (.iconst 1, 1) := by decide +kernel
theorem dL_isBook_641 : decode (dc DL_isBook) 641 = .ok (.if_icmp .ne 7, 3) := by decide +kernel
theorem dL_isBook_644 : decode (dc DL_isBook) 644 = .ok (.iconst 2, 1) := by decide +kernel
theorem dL_isBook_645 : decode (dc DL_isBook) 645 = .ok (.goto 4, 3) := by decide +kernel
theorem dL_isBook_648 : decode (dc DL_isBook) 648 = .ok (.iconst 3, 1) := by decide +kernel
theorem dL_isBook_649 : decode (dc DL_isBook) 649 = .ok (.istore 12, 2) := by decide +kernel
theorem dL_isBook_651 : decode (dc DL_isBook) 651 = .ok (.aload_n 0, 1) := by decide +kernel
theorem dL_isBook_652 : decode (dc DL_isBook) 652 = .ok (.iconst 1, 1) := by decide +kernel
theorem dL_isBook_653 : decode (dc DL_isBook) 653 = .ok (.iload 9, 2) := by decide +kernel
theorem dL_isBook_655 : decode (dc DL_isBook) 655 = .ok (.invokestatic 221, 3) := by decide +kernel
theorem dL_isBook_658 : decode (dc DL_isBook) 658 = .ok (.aload_n 1, 1) := by decide +kernel
theorem dL_isBook_659 : decode (dc DL_isBook) 659 = .ok (.iload 9, 2) := by decide +kernel
theorem dL_isBook_661 : decode (dc DL_isBook) 661 = .ok (.invokevirtual 186, 3) := by decide +kernel
theorem dL_isBook_664 : decode (dc DL_isBook) 664 = .ok (.if_icmp .ne 51, 3) := by decide +kernel
theorem dL_isBook_667 : decode (dc DL_isBook) 667 = .ok (.aload_n 0, 1) := by decide +kernel
theorem dL_isBook_668 : decode (dc DL_isBook) 668 = .ok (.iconst 1, 1) := by decide +kernel
theorem dL_isBook_669 : decode (dc DL_isBook) 669 = .ok (.iload 9, 2) := by decide +kernel
theorem dL_isBook_671 : decode (dc DL_isBook) 671 = .ok (.iconst 0, 1) := by decide +kernel
theorem dL_isBook_672 : decode (dc DL_isBook) 672 = .ok (.invokestatic 230, 3) := by decide +kernel
theorem dL_isBook_675 : decode (dc DL_isBook) 675 = .ok (.iload 11, 2) := by decide +kernel
theorem dL_isBook_677 : decode (dc DL_isBook) 677 = .ok (.iload_n 2, 1) := by decide +kernel
theorem dL_isBook_678 : decode (dc DL_isBook) 678 = .ok (.if_icmp .ge 7, 3) := by decide +kernel
theorem dL_isBook_681 : decode (dc DL_isBook) 681 = .ok (.iconst 1, 1) := by decide +kernel
theorem dL_isBook_682 : decode (dc DL_isBook) 682 = .ok (.goto 4, 3) := by decide +kernel
theorem dL_isBook_685 : decode (dc DL_isBook) 685 = .ok (.iconst 0, 1) := by decide +kernel
theorem dL_isBook_686 : decode (dc DL_isBook) 686 = .ok (.if_icmp .ne 29, 3) := by decide +kernel
theorem dL_isBook_689 : decode (dc DL_isBook) 689 = .ok (.aload_n 0, 1) := by decide +kernel
theorem dL_isBook_690 : decode (dc DL_isBook) 690 = .ok (.iconst 1, 1) := by decide +kernel
theorem dL_isBook_691 : decode (dc DL_isBook) 691 = .ok (.iload 9, 2) := by decide +kernel
theorem dL_isBook_693 : decode (dc DL_isBook) 693 = .ok (.iconst 1, 1) := by decide +kernel
theorem dL_isBook_694 : decode (dc DL_isBook) 694 = .ok (.invokestatic 230, 3) := by decide +kernel
theorem dL_isBook_697 : decode (dc DL_isBook) 697 = .ok (.iload 11, 2) := by decide +kernel
theorem dL_isBook_699 : decode (dc DL_isBook) 699 = .ok (.if_icmp .ne 16, 3) := by decide +kernel
theorem dL_isBook_702 : decode (dc DL_isBook) 702 = .ok (.aload_n 0, 1) := by decide +kernel
theorem dL_isBook_703 : decode (dc DL_isBook) 703 = .ok (.iconst 1, 1) := by decide +kernel
theorem dL_isBook_704 : decode (dc DL_isBook) 704 = .ok (.iload 9, 2) := by decide +kernel
theorem dL_isBook_706 : decode (dc DL_isBook) 706 = .ok (.iconst 2, 1) := by decide +kernel
theorem dL_isBook_707 : decode (dc DL_isBook) 707 = .ok (.invokestatic 230, 3) := by decide +kernel
theorem dL_isBook_710 : decode (dc DL_isBook) 710 = .ok (.iload 12, 2) := by decide +kernel
theorem dL_isBook_712 : decode (dc DL_isBook) 712 = .ok (.if_icmp .eq 5, 3) := by decide +kernel
theorem dL_isBook_715 : decode (dc DL_isBook) 715 = .ok (.iconst 0, 1) := by decide +kernel
theorem dL_isBook_716 : decode (dc DL_isBook) 716 = .ok (.ireturn, 1) := by decide +kernel
theorem dL_isBook_717 : decode (dc DL_isBook) 717 = .ok (.iinc 9 1, 3) := by decide +kernel
theorem dL_isBook_720 : decode (dc DL_isBook) 720 = .ok (.goto (-191), 3) := by decide +kernel
theorem dL_isBook_723 : decode (dc DL_isBook) 723 = .ok (.aload_n 1, 1) := by decide +kernel
theorem dL_isBook_724 : decode (dc DL_isBook) 724 = .ok (.invokevirtual 239, 3) := by decide +kernel
theorem dL_isBook_727 : decode (dc DL_isBook) 727 = .ok (.astore 9, 2) := by decide +kernel
theorem dL_isBook_729 : decode (dc DL_isBook) 729 = .ok (.aload 9, 2) := by decide +kernel
theorem dL_isBook_731 : decode (dc DL_isBook) 731 = .ok (.ifnonnull 7, 3) := by decide +kernel
theorem dL_isBook_734 : decode (dc DL_isBook) 734 = .ok (.iconst 0, 1) := by decide +kernel
theorem dL_isBook_735 : decode (dc DL_isBook) 735 = .ok (.goto 6, 3) := by decide +kernel
theorem dL_isBook_738 : decode (dc DL_isBook) 738 = .ok (.aload 9, 2) := by decide +kernel
theorem dL_isBook_740 : decode (dc DL_isBook) 740 = .ok (.arraylength, 1) := by decide +kernel
theorem dL_isBook_741 : decode (dc DL_isBook) 741 = .ok (.istore 10, 2) := by decide +kernel
theorem dL_isBook_743 : decode (dc DL_isBook) 743 = .ok (.aload_n 0, 1) := by decide +kernel
theorem dL_isBook_744 : decode (dc DL_isBook) 744 = .ok (.invokevirtual 242, 3) := by decide +kernel
theorem dL_isBook_747 : decode (dc DL_isBook) 747 = .ok (.iload 10, 2) := by decide +kernel
theorem dL_isBook_749 : decode (dc DL_isBook) 749 = .ok (.if_icmp .ne 14, 3) := by decide +kernel
theorem dL_isBook_752 : decode (dc DL_isBook) 752 = .ok (.aload_n 0, 1) := by decide +kernel
theorem dL_isBook_753 : decode (dc DL_isBook) 753 = .ok (.iload 10, 2) := by decide +kernel
theorem dL_isBook_755 : decode (dc DL_isBook) 755 = .ok (.invokestatic 244, 3) := by decide +kernel
theorem dL_isBook_758 : decode (dc DL_isBook) 758 = .ok (.ldc 45, 2) := by decide +kernel
theorem dL_isBook_760 : decode (dc DL_isBook) 760 = .ok (.if_icmp .eq 5, 3) := by decide +kernel
theorem dL_isBook_763 : decode (dc DL_isBook) 763 = .ok (.iconst 0, 1) := by decide +kernel
theorem dL_isBook_764 : decode (dc DL_isBook) 764 = .ok (.ireturn, 1) := by decide +kernel
theorem dL_isBook_765 : decode (dc DL_isBook) 765 = .ok (.iconst 0, 1) := by decide +kernel
theorem dL_isBook_766 : decode (dc DL_isBook) 766 = .ok (.istore 11, 2) := by decide +kernel
theorem dL_isBook_768 : decode (dc DL_isBook) 768 = .ok (.iload 11, 2) := by decide +kernel
theorem dL_isBook_770 : decode (dc DL_isBook) 770 = .ok (.iload 10, 2) := by decide +kernel
theorem dL_isBook_772 : decode (dc DL_isBook) 772 = .ok (.if_icmp .ge 25, 3) := by decide +kernel
theorem dL_isBook_775 : decode (dc DL_isBook) 775 = .ok (.aload_n 0, 1) := by decide +kernel
theorem dL_isBook_776 : decode (dc DL_isBook) 776 = .ok (.iload 11, 2) := by decide +kernel
theorem dL_isBook_778 : decode (dc DL_isBook) 778 = .ok (.invokestatic 244, 3) := by decide +kernel
theorem dL_isBook_781 : decode (dc DL_isBook) 781 = .ok (.aload 9, 2) := by decide +kernel
theorem dL_isBook_783 : decode (dc DL_isBook) 783 = .ok (.iload 11, 2) := by decide +kernel
theorem dL_isBook_785 : decode (dc DL_isBook) 785 = .ok (.iaload, 1) := by decide +kernel
theorem dL_isBook_786 : decode (dc DL_isBook) 786 = .ok (.if_icmp .eq 5, 3) := by decide +kernel
theorem dL_isBook_789 : decode (dc DL_isBook) 789 = .ok (.iconst 0, 1) := by decide +kernel
theorem dL_isBook_790 : decode (dc DL_isBook) 790 = .ok (.ireturn, 1) := by decide +kernel
theorem dL_isBook_791 : decode (dc DL_isBook) 791 = .ok (.iinc 11 1, 3) := by decide +kernel
theorem dL_isBook_794 : decode (dc DL_isBook) 794 = .ok (.goto (-26), 3) := by decide +kernel
theorem dL_isBook_797 : decode (dc DL_isBook) 797 = .ok (.aload_n 1, 1) := by decide +kernel
theorem dL_isBook_798 : decode (dc DL_isBook) 798 = .ok (.iconst 0, 1) := by decide +kernel
theorem dL_isBook_799 : decode (dc DL_isBook) 799 = .ok (.iconst 0, 1) := by decide +kernel
theorem dL_isBook_800 : decode (dc DL_isBook) 800 = .ok (.iload_n 2, 1) := by decide +kernel
theorem dL_isBook_801 : decode (dc DL_isBook) 801 = .ok (.invokevirtual 246, 3) := by decide +kernel
theorem dL_isBook_804 : decode (dc DL_isBook) 804 = .ok (.astore 11, 2) := by decide +kernel
theorem dL_isBook_806 : decode (dc DL_isBook) 806 = .ok (.aload_n 1, 1) := by decide +kernel
theorem dL_isBook_807 : decode (dc DL_isBook) 807 = .ok (.getfield 147, 3) := by decide +kernel
theorem dL_isBook_810 : decode (dc DL_isBook) 810 = .ok (.invokestatic 250, 3) := by decide +kernel
theorem dL_isBook_813 : decode (dc DL_isBook) 813 = .ok (.istore 12, 2) := by decide +kernel
theorem dL_isBook_815 : decode (dc DL_isBook) 815 = .ok (.aload_n 0, 1) := by decide +kernel
theorem dL_isBook_816 : decode (dc DL_isBook) 816 = .ok (.iconst 0, 1) := by decide +kernel
theorem dL_isBook_817 : decode (dc DL_isBook) 817 = .ok (.invokestatic 255, 3) := by decide +kernel
theorem dL_isBook_820 : decode (dc DL_isBook) 820 = .ok (.aload_n 1, 1) := by decide +kernel
theorem dL_isBook_821 : decode (dc DL_isBook) 821 = .ok (.getfield 138, 3) := by decide +kernel
theorem dL_isBook_824 : decode (dc DL_isBook) 824 = .ok (.if_icmp .ne 277, 3) := by decide +kernel
theorem dL_isBook_827 : decode (dc DL_isBook) 827 = .ok (.aload_n 0, 1) := by decide +kernel
theorem dL_isBook_828 : decode (dc DL_isBook) 828 = .ok (.iconst 1, 1) := by decide +kernel
theorem dL_isBook_829 : decode (dc DL_isBook) 829 = .ok (.invokestatic 255, 3) := by decide +kernel
theorem dL_isBook_832 : decode (dc DL_isBook) 832 = .ok (.aload_n 1, 1) := by decide +kernel
theorem dL_isBook_833 : decode (dc DL_isBook) 833 = .ok (.getfield 144, 3) := by decide +kernel
theorem dL_isBook_836 : decode (dc DL_isBook) 836 = .ok (.if_icmp .ne 265, 3) := by decide +kernel
theorem dL_isBook_839 : decode (dc DL_isBook) 839 = .ok (.aload_n 0, 1) := by decide +kernel
theorem dL_isBook_840 : decode (dc DL_isBook) 840 = .ok (.iconst 2, 1) := by decide +kernel
theorem dL_isBook_841 : decode (dc DL_isBook) 841 = .ok (.invokestatic 255, 3) := by decide +kernel
theorem dL_isBook_844 : decode (dc DL_isBook) 844 = .ok (.iload 6, 2) := by decide +kernel
theorem dL_isBook_846 : decode (dc DL_isBook) 846 = .ok (.if_icmp .ne 255, 3) := by decide +kernel
theorem dL_isBook_849 : decode (dc DL_isBook) 849 = .ok (.aload_n 0, 1) := by decide +kernel
theorem dL_isBook_850 : decode (dc DL_isBook) 850 = .ok (.iconst 3, 1) := by decide +kernel
theorem dL_isBook_851 : decode (dc DL_isBook) 851 = .ok (.invokestatic 255, 3) := by decide +kernel
theorem dL_isBook_854 : decode (dc DL_isBook) 854 = .ok (.aload_n 1, 1) := by decide +kernel
theorem dL_isBook_855 : decode (dc DL_isBook) 855 = .ok (.invokevirtual 208, 3) := by decide +kernel
theorem dL_isBook_858 : decode (dc DL_isBook) 858 = .ok (.if_icmp .ne 243, 3) := by decide +kernel
theorem dL_isBook_861 : decode (dc DL_isBook) 861 = .ok (.aload_n 0, 1) := by decide +kernel
theorem dL_isBook_862 : decode (dc DL_isBook) 862 = .ok (.iconst 4, 1) := by decide +kernel
theorem dL_isBook_863 : decode (dc DL_isBook) 863 = .ok (.invokestatic 255, 3) := by decide +kernel
theorem dL_isBook_866 : decode (dc DL_isBook) 866 = .ok (.aload_n 1, 1) := by decide +kernel
theorem dL_isBook_867 : decode (dc DL_isBook) 867 = .ok (.getfield 153, 3) := by decide +kernel
theorem dL_isBook_870 : decode (dc DL_isBook) 870 = .ok (.ifCond .eq 7, 3) := by decide +kernel
theorem dL_isBook_873 : decode (dc DL_isBook) 873 = .ok (.iconst 1, 1) := by decide +kernel
theorem dL_isBook_874 : decode (dc DL_isBook) 874 = .ok (.goto 4, 3) := by decide +kernel
theorem dL_isBook_877 : decode (dc DL_isBook) 877 = .ok (.iconst 0, 1) := by decide +kernel
theorem dL_isBook_878 : decode (dc DL_isBook) 878 = .ok (.if_icmp .ne 223, 3) := by decide +kernel
theorem dL_isBook_881 : decode (dc DL_isBook) 881 = .ok (.aload_n 0, 1) := by decide +kernel
theorem dL_isBook_882 : decode (dc DL_isBook) 882 = .ok (.iconst 5, 1) := by decide +kernel
theorem dL_isBook_883 : decode (dc DL_isBook) 883 = .ok (.invokestatic 255, 3) := by decide +kernel
theorem dL_isBook_886 : decode (dc DL_isBook) 886 = .ok (.aload_n 1, 1) := by decide +kernel
theorem dL_isBook_887 : decode (dc DL_isBook) 887 = .ok (.getfield 147, 3) := by decide +kernel
theorem dL_isBook_890 : decode (dc DL_isBook) 890 = .ok (.if_icmp .ne 211, 3) := by decide +kernel
theorem dL_isBook_893 : decode (dc DL_isBook) 893 = .ok (.aload_n 0, 1) := by decide +kernel
theorem dL_isBook_894 : decode (dc DL_isBook) 894 = .ok (.bipush 6, 2) := by decide +kernel
theorem dL_isBook_896 : decode (dc DL_isBook) 896 = .ok (.invokestatic 255, 3) := by decide +kernel
theorem dL_isBook_899 : decode (dc DL_isBook) 899 = .ok (.aload_n 1, 1) := by decide +kernel
theorem dL_isBook_900 : decode (dc DL_isBook) 900 = .ok (.getfield 150, 3) := by decide +kernel
theorem dL_isBook_903 : decode (dc DL_isBook) 903 = .ok (.if_icmp .ne 198, 3) := by decide +kernel
theorem dL_isBook_906 : decode (dc DL_isBook) 906 = .ok (.aload_n 0, 1) := by decide +kernel
theorem dL_isBook_907 : decode (dc DL_isBook) 907 = .ok (.bipush 7, 2) := by decide +kernel
theorem dL_isBook_909 : decode (dc DL_isBook) 909 = .ok (.invokestatic 255, 3) := by decide +kernel
theorem dL_isBook_912 : decode (dc DL_isBook) 912 = .ok (.iload 4, 2) := by decide +kernel
theorem dL_isBook_914 : decode (dc DL_isBook) 914 = .ok (.if_icmp .ne 187, 3) := by decide +kernel
theorem dL_isBook_917 : decode (dc DL_isBook) 917 = .ok (.aload_n 0, 1) := by decide +kernel
theorem dL_isBook_918 : decode (dc DL_isBook) 918 = .ok (.bipush 8, 2) := by decide +kernel
theorem dL_isBook_920 : decode (dc DL_isBook) 920 = .ok (.invokestatic 255, 3) := by decide +kernel
theorem dL_isBook_923 : decode (dc DL_isBook) 923 = .ok (.iload 5, 2) := by decide +kernel
theorem dL_isBook_925 : decode (dc DL_isBook) 925 = .ok (.if_icmp .ne 176, 3) := by decide +kernel
theorem dL_isBook_928 : decode (dc DL_isBook) 928 = .ok (.aload_n 0, 1) := by decide +kernel
theorem dL_isBook_929 : decode (dc DL_isBook) 929 = .ok (.bipush 9, 2) := by decide +kernel
theorem dL_isBook_931 : decode (dc DL_isBook) 931 = .ok (.invokestatic 255, 3) := by decide +kernel
theorem dL_isBook_934 : decode (dc DL_isBook) 934 = .ok (.iload 7, 2) := by decide +kernel
theorem dL_isBook_936 : decode (dc DL_isBook) 936 = .ok (.if_icmp .ne 165, 3) := by decide +kernel
theorem dL_isBook_939 : decode (dc DL_isBook) 939 = .ok (.aload_n 0, 1) := by decide +kernel
theorem dL_isBook_940 : decode (dc DL_isBook) 940 = .ok (.invokevirtual 257, 3) := by decide +kernel
theorem dL_isBook_943 : decode (dc DL_isBook) 943 = .ok (.iload_n 2, 1) := by decide +kernel
theorem dL_isBook_944 : decode (dc DL_isBook) 944 = .ok (.if_icmp .ne 157, 3) := by decide +kernel
theorem dL_isBook_947 : decode (dc DL_isBook) 947 = .ok (.aload_n 0, 1) := by decide +kernel
theorem dL_isBook_948 : decode (dc DL_isBook) 948 = .ok (.iconst 0, 1) := by decide +kernel
theorem dL_isBook_949 : decode (dc DL_isBook) 949 = .ok (.invokestatic 259, 3) := by decide +kernel
theorem dL_isBook_952 : decode (dc DL_isBook) 952 = .ok (.aload_n 3, 1) := by decide +kernel
theorem dL_isBook_953 : decode (dc DL_isBook) 953 = .ok (.iconst 0, 1) := by decide +kernel
theorem dL_isBook_954 : decode (dc DL_isBook) 954 = .ok (.iaload, 1) := by decide +kernel
theorem dL_isBook_955 : decode (dc DL_isBook) 955 = .ok (.if_icmp .ne 146, 3) := by decide +kernel
theorem dL_isBook_958 : decode (dc DL_isBook) 958 = .ok (.aload_n 0, 1) := by decide +kernel
theorem dL_isBook_959 : decode (dc DL_isBook) 959 = .ok (.iconst 1, 1) := by decide +kernel
theorem dL_isBook_960 : decode (dc DL_isBook) 960 = .ok (.invokestatic 259, 3) := by decide +kernel
theorem dL_isBook_963 : decode (dc DL_isBook) 963 = .ok (.aload_n 3, 1) := by decide +kernel
theorem dL_isBook_964 : decode (dc DL_isBook) 964 = .ok (.iconst 1, 1) := by decide +kernel
theorem dL_isBook_965 : decode (dc DL_isBook) 965 = .ok (.iaload, 1) := by decide +kernel
theorem dL_isBook_966 : decode (dc DL_isBook) 966 = .ok (.if_icmp .ne 135, 3) := by decide +kernel
theorem dL_isBook_969 : decode (dc DL_isBook) 969 = .ok (.aload_n 0, 1) := by decide +kernel
theorem dL_isBook_970 : decode (dc DL_isBook) 970 = .ok (.iconst 0, 1) := by decide +kernel
theorem dL_isBook_971 : decode (dc DL_isBook) 971 = .ok (.invokestatic 261, 3) := by decide +kernel
theorem dL_isBook_974 : decode (dc DL_isBook) 974 = .ok (.aload_n 1, 1) := by decide +kernel
theorem dL_isBook_975 : decode (dc DL_isBook) 975 = .ok (.getfield 147, 3) := by decide +kernel
theorem dL_isBook_978 : decode (dc DL_isBook) 978 = .ok (.aload_n 3, 1) := by decide +kernel
theorem dL_isBook_979 : decode (dc DL_isBook) 979 = .ok (.iconst 0, 1) := by decide +kernel
theorem dL_isBook_980 : decode (dc DL_isBook) 980 = .ok (.iaload, 1) := by decide +kernel
theorem dL_isBook_981 : decode (dc DL_isBook) 981 = .ok (.iconst (-1), 1) := by decide +kernel
theorem dL_isBook_982 : decode (dc DL_isBook) 982 = .ok (.ixor, 1) := by decide +kernel
theorem dL_isBook_983 : decode (dc DL_isBook) 983 = .ok (.iand, 1) := by decide +kernel
theorem dL_isBook_984 : decode (dc DL_isBook) 984 = .ok (.if_icmp .ne 117, 3) := by decide +kernel
theorem dL_isBook_987 : decode (dc DL_isBook) 987 = .ok (.aload_n 0, 1) := by decide +kernel
theorem dL_isBook_988 : decode (dc DL_isBook) 988 = .ok (.iconst 1, 1) := by decide +kernel
theorem dL_isBook_989 : decode (dc DL_isBook) 989 = .ok (.invokestatic 261, 3) := by decide +kernel
theorem dL_isBook_992 : decode (dc DL_isBook) 992 = .ok (.aload_n 3, 1) := by decide +kernel
theorem dL_isBook_993 : decode (dc DL_isBook) 993 = .ok (.iconst 1, 1) := by decide +kernel
theorem dL_isBook_994 : decode (dc DL_isBook) 994 = .ok (.iaload, 1) := by decide +kernel
theorem dL_isBook_995 : decode (dc DL_isBook) 995 = .ok (.if_icmp .ne 106, 3) := by decide +kernel
theorem dL_isBook_998 : decode (dc DL_isBook) 998 = .ok (.aload_n 0, 1) := by decide +kernel
theorem dL_isBook_999 : decode (dc DL_isBook) 999 = .ok (.iconst 0, 1) := by decide +kernel
theorem dL_isBook_1000 : decode (dc DL_isBook) 1000 = .ok (.invokestatic 263, 3) := by decide +kernel
theorem dL_isBook_1003 : decode (dc DL_isBook) 1003 = .ok (.iload 12, 2) := by decide +kernel
theorem dL_isBook_1005 : decode (dc DL_isBook) 1005 = .ok (.iload_n 2, 1) := by decide +kernel
theorem dL_isBook_1006 : decode (dc DL_isBook) 1006 = .ok (.isub, 1) := by decide +kernel
theorem dL_isBook_1007 : decode (dc DL_isBook) 1007 = .ok (.if_icmp .ne 94, 3) := by decide +kernel
theorem dL_isBook_1010 : decode (dc DL_isBook) 1010 = .ok (.aload_n 0, 1) := by decide +kernel
theorem dL_isBook_1011 : decode (dc DL_isBook) 1011 = .ok (.iconst 1, 1) := by decide +kernel
theorem dL_isBook_1012 : decode (dc DL_isBook) 1012 = .ok (.invokestatic 263, 3) := by decide +kernel
theorem dL_isBook_1015 : decode (dc DL_isBook) 1015 = .ok (.aload_n 3, 1) := by decide +kernel
theorem dL_isBook_1016 : decode (dc DL_isBook) 1016 = .ok (.iconst 0, 1) := by decide +kernel
theorem dL_isBook_1017 : decode (dc DL_isBook) 1017 = .ok (.iaload, 1) := by decide +kernel
theorem dL_isBook_1018 : decode (dc DL_isBook) 1018 = .ok (.if_icmp .ne 83, 3) := by decide +kernel
theorem dL_isBook_1021 : decode (dc DL_isBook) 1021 = .ok (.aload_n 0, 1) := by decide +kernel
theorem dL_isBook_1022 : decode (dc DL_isBook) 1022 = .ok (.iconst 1, 1) := by decide +kernel
theorem dL_isBook_1023 : decode (dc DL_isBook) 1023 = .ok (.invokestatic 265, 3) := by decide +kernel
theorem dL_isBook_1026 : decode (dc DL_isBook) 1026 = .ok (.aload 8, 2) := by decide +kernel
theorem dL_isBook_1028 : decode (dc DL_isBook) 1028 = .ok (.iconst 1, 1) := by decide +kernel
theorem dL_isBook_1029 : decode (dc DL_isBook) 1029 = .ok (.iaload, 1) := by decide +kernel
theorem dL_isBook_1030 : decode (dc DL_isBook) 1030 = .ok (.if_icmp .ne 71, 3) := by decide +kernel
theorem dL_isBook_1033 : decode (dc DL_isBook) 1033 = .ok (.aload_n 0, 1) := by decide +kernel
theorem dL_isBook_1034 : decode (dc DL_isBook) 1034 = .ok (.iconst 2, 1) := by decide +kernel
theorem dL_isBook_1035 : decode (dc DL_isBook) 1035 = .ok (.invokestatic 265, 3) := by decide +kernel
theorem dL_isBook_1038 : decode (dc DL_isBook) 1038 = .ok (.aload 8, 2) := by decide +kernel
theorem dL_isBook_1040 : decode (dc DL_isBook) 1040 = .ok (.iconst 2, 1) := by decide +kernel
theorem dL_isBook_1041 : decode (dc DL_isBook) 1041 = .ok (.iaload, 1) := by decide +kernel
theorem dL_isBook_1042 : decode (dc DL_isBook) 1042 = .ok (.if_icmp .ne 59, 3) := by decide +kernel
theorem dL_isBook_1045 : decode (dc DL_isBook) 1045 = .ok (.aload_n 0, 1) := by decide +kernel
theorem dL_isBook_1046 : decode (dc DL_isBook) 1046 = .ok (.iconst 3, 1) := by decide +kernel
theorem dL_isBook_1047 : decode (dc DL_isBook) 1047 = .ok (.invokestatic 265, 3) := by decide +kernel
theorem dL_isBook_1050 : decode (dc DL_isBook) 1050 = .ok (.aload 8, 2) := by decide +kernel
theorem dL_isBook_1052 : decode (dc DL_isBook) 1052 = .ok (.iconst 3, 1) := by decide +kernel
theorem dL_isBook_1053 : decode (dc DL_isBook) 1053 = .ok (.iaload, 1) := by decide +kernel
theorem dL_isBook_1054 : decode (dc DL_isBook) 1054 = .ok (.if_icmp .ne 47, 3) := by decide +kernel
theorem dL_isBook_1057 : decode (dc DL_isBook) 1057 = .ok (.aload_n 0, 1) := by decide +kernel
theorem dL_isBook_1058 : decode (dc DL_isBook) 1058 = .ok (.invokevirtual 267, 3) := by decide +kernel
theorem dL_isBook_1061 : decode (dc DL_isBook) 1061 = .ok (.aload 11, 2) := by decide +kernel
theorem dL_isBook_1063 : decode (dc DL_isBook) 1063 = .ok (.iconst 0, 1) := by decide +kernel
theorem dL_isBook_1064 : decode (dc DL_isBook) 1064 = .ok (.laload, 1) := by decide +kernel
theorem dL_isBook_1065 : decode (dc DL_isBook) 1065 = .ok (.lcmp, 1) := by decide +kernel
theorem dL_isBook_1066 : decode (dc DL_isBook) 1066 = .ok (.ifCond .ne 35, 3) := by decide +kernel
theorem dL_isBook_1069 : decode (dc DL_isBook) 1069 = .ok (.aload_n 0, 1) := by decide +kernel
theorem dL_isBook_1070 : decode (dc DL_isBook) 1070 = .ok (.iconst 0, 1) := by decide +kernel
theorem dL_isBook_1071 : decode (dc DL_isBook) 1071 = .ok (.invokestatic 271, 3) := by decide +kernel
theorem dL_isBook_1074 : decode (dc DL_isBook) 1074 = .ok (.i2l, 1) := by decide +kernel
theorem dL_isBook_1075 : decode (dc DL_isBook) 1075 = .ok (.aload 11, 2) := by decide +kernel
theorem dL_isBook_1077 : decode (dc DL_isBook) 1077 = .ok (.iconst 1, 1) := by decide +kernel
theorem dL_isBook_1078 : decode (dc DL_isBook) 1078 = .ok (.laload, 1) := by decide +kernel
theorem dL_isBook_1079 : decode (dc DL_isBook) 1079 = .ok (.lcmp, 1) := by decide +kernel
theorem dL_isBook_1080 : decode (dc DL_isBook) 1080 = .ok (.ifCond .ne 21, 3) := by decide +kernel
theorem dL_isBook_1083 : decode (dc DL_isBook) 1083 = .ok (.aload_n 0, 1) := by decide +kernel
theorem dL_isBook_1084 : decode (dc DL_isBook) 1084 = .ok (.iconst 1, 1) := by decide +kernel
theorem dL_isBook_1085 : decode (dc DL_isBook) 1085 = .ok (.invokestatic 271, 3) := by decide +kernel
theorem dL_isBook_1088 : decode (dc DL_isBook) 1088 = .ok (.i2l, 1) := by decide +kernel
theorem dL_isBook_1089 : decode (dc DL_isBook) 1089 = .ok (.aload 11, 2) := by decide +kernel
theorem dL_isBook_1091 : decode (dc DL_isBook) 1091 = .ok (.iconst 2, 1) := by decide +kernel
theorem dL_isBook_1092 : decode (dc DL_isBook) 1092 = .ok (.laload, 1) := by decide +kernel
theorem dL_isBook_1093 : decode (dc DL_isBook) 1093 = .ok (.lcmp, 1) := by decide +kernel
theorem dL_isBook_1094 : decode (dc DL_isBook) 1094 = .ok (.ifCond .ne 7, 3) := by decide +kernel
theorem dL_isBook_1097 : decode (dc DL_isBook) 1097 = .ok (.iconst 1, 1) := by decide +kernel
theorem dL_isBook_1098 : decode (dc DL_isBook) 1098 = .ok (.goto 4, 3) := by decide +kernel
theorem dL_isBook_1101 : decode (dc DL_isBook) 1101 = .ok (.iconst 0, 1) := by decide +kernel
theorem dL_isBook_1102 : decode (dc DL_isBook) 1102 = .ok (.ireturn, 1) := by decide +kernel
theorem dL_isChosen_0 : decode (dc DL_isChosen) 0 = .ok (.aload_n 1, 1) := by decide +kernel
theorem dL_isChosen_1 : decode (dc DL_isChosen) 1 = .ok (.invokevirtual 273, 3) := by decide +kernel
theorem dL_isChosen_4 : decode (dc DL_isChosen) 4 = .ok (.istore_n 2, 1) := by decide +kernel
theorem dL_isChosen_5 : decode (dc DL_isChosen) 5 = .ok (.iconst 0, 1) := by decide +kernel
theorem dL_isChosen_6 : decode (dc DL_isChosen) 6 = .ok (.istore_n 3, 1) := by decide +kernel
theorem dL_isChosen_7 : decode (dc DL_isChosen) 7 = .ok (.iconst 0, 1) := by decide +kernel
theorem dL_isChosen_8 : decode (dc DL_isChosen) 8 = .ok (.istore 4, 2) := by decide +kernel
theorem dL_isChosen_10 : decode (dc DL_isChosen) 10 = .ok (.iconst 0, 1) := by decide +kernel
theorem dL_isChosen_11 : decode (dc DL_isChosen) 11 = .ok (.istore 5, 2) := by decide +kernel
theorem dL_isChosen_13 : decode (dc DL_isChosen) 13 = .ok (.iload 5, 2) := by decide +kernel
theorem dL_isChosen_15 : decode (dc DL_isChosen) 15 = .ok (.aload_n 1, 1) := by decide +kernel
theorem dL_isChosen_16 : decode (dc DL_isChosen) 16 = .ok (.getfield 138, 3) := by decide +kernel
theorem dL_isChosen_19 : decode (dc DL_isChosen) 19 = .ok (.if_icmp .ge 29, 3) := by decide +kernel
theorem dL_isChosen_22 : decode (dc DL_isChosen) 22 = .ok (.iload_n 2, 1) := by decide +kernel
theorem dL_isChosen_23 : decode (dc DL_isChosen) 23 = .ok (.iload 5, 2) := by decide +kernel
theorem dL_isChosen_25 : decode (dc DL_isChosen) 25 = .ok (.ishr, 1) := by decide +kernel
theorem dL_isChosen_26 : decode (dc DL_isChosen) 26 = .ok (.iconst 1, 1) := by decide +kernel
theorem dL_isChosen_27 : decode (dc DL_isChosen) 27 = .ok (.iand, 1) := by decide +kernel
theorem dL_isChosen_28 : decode (dc DL_isChosen) 28 = .ok (.iconst 1, 1) := by decide +kernel
theorem dL_isChosen_29 : decode (dc DL_isChosen) 29 = .ok (.if_icmp .ne 13, 3) := by decide +kernel
theorem dL_isChosen_32 : decode (dc DL_isChosen) 32 = .ok (.iload_n 3, 1) := by decide +kernel
theorem dL_isChosen_33 : decode (dc DL_isChosen) 33 = .ok (.aload_n 1, 1) := by decide +kernel
theorem dL_isChosen_34 : decode (dc DL_isChosen) 34 = .ok (.getfield 195, 3) := by decide +kernel
theorem dL_isChosen_37 : decode (dc DL_isChosen) 37 = .ok (.iload 5, 2) := by decide +kernel
theorem dL_isChosen_39 : decode (dc DL_isChosen) 39 = .ok (.iaload, 1) := by decide +kernel
theorem dL_isChosen_40 : decode (dc DL_isChosen) 40 = .ok (.iadd, 1) := by decide +kernel
theorem dL_isChosen_41 : decode (dc DL_isChosen) 41 = .ok (.istore_n 3, 1) := by decide +kernel
theorem dL_isChosen_42 : decode (dc DL_isChosen) 42 = .ok (.iinc 5 1, 3) := by decide +kernel
theorem dL_isChosen_45 : decode (dc DL_isChosen) 45 = .ok (.goto (-32), 3) := by decide +kernel
theorem dL_isChosen_48 : decode (dc DL_isChosen) 48 = .ok (.iconst 0, 1) := by decide +kernel
theorem dL_isChosen_49 : decode (dc DL_isChosen) 49 = .ok (.istore 5, 2) := by decide +kernel
theorem dL_isChosen_51 : decode (dc DL_isChosen) 51 = .ok (.iload 5, 2) := by decide +kernel
theorem dL_isChosen_53 : decode (dc DL_isChosen) 53 = .ok (.iconst 1, 1) := by decide +kernel
theorem dL_isChosen_54 : decode (dc DL_isChosen) 54 = .ok (.aload_n 1, 1) := by decide +kernel
theorem dL_isChosen_55 : decode (dc DL_isChosen) 55 = .ok (.getfield 138, 3) := by decide +kernel
theorem dL_isChosen_58 : decode (dc DL_isChosen) 58 = .ok (.ishl, 1) := by decide +kernel
theorem dL_isChosen_59 : decode (dc DL_isChosen) 59 = .ok (.if_icmp .ge 101, 3) := by decide +kernel
theorem dL_isChosen_62 : decode (dc DL_isChosen) 62 = .ok (.aload_n 1, 1) := by decide +kernel
theorem dL_isChosen_63 : decode (dc DL_isChosen) 63 = .ok (.invokevirtual 226, 3) := by decide +kernel
theorem dL_isChosen_66 : decode (dc DL_isChosen) 66 = .ok (.astore 6, 2) := by decide +kernel
theorem dL_isChosen_68 : decode (dc DL_isChosen) 68 = .ok (.aload 6, 2) := by decide +kernel
theorem dL_isChosen_70 : decode (dc DL_isChosen) 70 = .ok (.iload 5, 2) := by decide +kernel
theorem dL_isChosen_72 : decode (dc DL_isChosen) 72 = .ok (.aload_n 1, 1) := by decide +kernel
theorem dL_isChosen_73 : decode (dc DL_isChosen) 73 = .ok (.getfield 147, 3) := by decide +kernel
theorem dL_isChosen_76 : decode (dc DL_isChosen) 76 = .ok (.iand, 1) := by decide +kernel
theorem dL_isChosen_77 : decode (dc DL_isChosen) 77 = .ok (.putfield 147, 3) := by decide +kernel
theorem dL_isChosen_80 : decode (dc DL_isChosen) 80 = .ok (.iconst 0, 1) := by decide +kernel
theorem dL_isChosen_81 : decode (dc DL_isChosen) 81 = .ok (.istore 7, 2) := by decide +kernel
theorem dL_isChosen_83 : decode (dc DL_isChosen) 83 = .ok (.iconst 0, 1) := by decide +kernel
theorem dL_isChosen_84 : decode (dc DL_isChosen) 84 = .ok (.istore 8, 2) := by decide +kernel
theorem dL_isChosen_86 : decode (dc DL_isChosen) 86 = .ok (.iload 8, 2) := by decide +kernel
theorem dL_isChosen_88 : decode (dc DL_isChosen) 88 = .ok (.aload_n 1, 1) := by decide +kernel
theorem dL_isChosen_89 : decode (dc DL_isChosen) 89 = .ok (.getfield 138, 3) := by decide +kernel
theorem dL_isChosen_92 : decode (dc DL_isChosen) 92 = .ok (.if_icmp .ge 35, 3) := by decide +kernel
theorem dL_isChosen_95 : decode (dc DL_isChosen) 95 = .ok (.aload 6, 2) := by decide +kernel
theorem dL_isChosen_97 : decode (dc DL_isChosen) 97 = .ok (.getfield 147, 3) := by decide +kernel
theorem dL_isChosen_100 : decode (dc DL_isChosen) 100 = .ok (.iload 8, 2) := by decide +kernel
theorem dL_isChosen_102 : decode (dc DL_isChosen) 102 = .ok (.ishr, 1) := by decide +kernel
theorem dL_isChosen_103 : decode (dc DL_isChosen) 103 = .ok (.iconst 1, 1) := by decide +kernel
theorem dL_isChosen_104 : decode (dc DL_isChosen) 104 = .ok (.iand, 1) := by decide +kernel
theorem dL_isChosen_105 : decode (dc DL_isChosen) 105 = .ok (.iconst 1, 1) := by decide +kernel
theorem dL_isChosen_106 : decode (dc DL_isChosen) 106 = .ok (.if_icmp .ne 15, 3) := by decide +kernel
theorem dL_isChosen_109 : decode (dc DL_isChosen) 109 = .ok (.iload 7, 2) := by decide +kernel
theorem dL_isChosen_111 : decode (dc DL_isChosen) 111 = .ok (.aload_n 1, 1) := by decide +kernel
theorem dL_isChosen_112 : decode (dc DL_isChosen) 112 = .ok (.getfield 195, 3) := by decide +kernel
theorem dL_isChosen_115 : decode (dc DL_isChosen) 115 = .ok (.iload 8, 2) := by decide +kernel
theorem dL_isChosen_117 : decode (dc DL_isChosen) 117 = .ok (.iaload, 1) := by decide +kernel
theorem dL_isChosen_118 : decode (dc DL_isChosen) 118 = .ok (.iadd, 1) := by decide +kernel
theorem dL_isChosen_119 : decode (dc DL_isChosen) 119 = .ok (.istore 7, 2) := by decide +kernel
theorem dL_isChosen_121 : decode (dc DL_isChosen) 121 = .ok (.iinc 8 1, 3) := by decide +kernel
theorem dL_isChosen_124 : decode (dc DL_isChosen) 124 = .ok (.goto (-38), 3) := by decide +kernel
theorem dL_isChosen_127 : decode (dc DL_isChosen) 127 = .ok (.aload 6, 2) := by decide +kernel
theorem dL_isChosen_129 : decode (dc DL_isChosen) 129 = .ok (.iconst 0, 1) := by decide +kernel
theorem dL_isChosen_130 : decode (dc DL_isChosen) 130 = .ok (.iconst 0, 1) := by decide +kernel
theorem dL_isChosen_131 : decode (dc DL_isChosen) 131 = .ok (.invokevirtual 211, 3) := by decide +kernel
theorem dL_isChosen_134 : decode (dc DL_isChosen) 134 = .ok (.aload 6, 2) := by decide +kernel
theorem dL_isChosen_136 : decode (dc DL_isChosen) 136 = .ok (.getfield 147, 3) := by decide +kernel
theorem dL_isChosen_139 : decode (dc DL_isChosen) 139 = .ok (.invokestatic 250, 3) := by decide +kernel
theorem dL_isChosen_142 : decode (dc DL_isChosen) 142 = .ok (.if_icmp .ne 12, 3) := by decide +kernel
theorem dL_isChosen_145 : decode (dc DL_isChosen) 145 = .ok (.iload 4, 2) := by decide +kernel
theorem dL_isChosen_147 : decode (dc DL_isChosen) 147 = .ok (.iload 7, 2) := by decide +kernel
theorem dL_isChosen_149 : decode (dc DL_isChosen) 149 = .ok (.invokestatic 275, 3) := by decide +kernel
theorem dL_isChosen_152 : decode (dc DL_isChosen) 152 = .ok (.istore 4, 2) := by decide +kernel
theorem dL_isChosen_154 : decode (dc DL_isChosen) 154 = .ok (.iinc 5 1, 3) := by decide +kernel
theorem dL_isChosen_157 : decode (dc DL_isChosen) 157 = .ok (.goto (-106), 3) := by decide +kernel
theorem dL_isChosen_160 : decode (dc DL_isChosen) 160 = .ok (.aload_n 0, 1) := by decide +kernel
theorem dL_isChosen_161 : decode (dc DL_isChosen) 161 = .ok (.iconst 0, 1) := by decide +kernel
theorem dL_isChosen_162 : decode (dc DL_isChosen) 162 = .ok (.invokestatic 280, 3) := by decide +kernel
theorem dL_isChosen_165 : decode (dc DL_isChosen) 165 = .ok (.iload_n 2, 1) := by decide +kernel
theorem dL_isChosen_166 : decode (dc DL_isChosen) 166 = .ok (.if_icmp .ne 18, 3) := by decide +kernel
theorem dL_isChosen_169 : decode (dc DL_isChosen) 169 = .ok (.aload_n 0, 1) := by decide +kernel
theorem dL_isChosen_170 : decode (dc DL_isChosen) 170 = .ok (.iconst 1, 1) := by decide +kernel
theorem dL_isChosen_171 : decode (dc DL_isChosen) 171 = .ok (.invokestatic 280, 3) := by decide +kernel
theorem dL_isChosen_174 : decode (dc DL_isChosen) 174 = .ok (.iload_n 3, 1) := by decide +kernel
theorem dL_isChosen_175 : decode (dc DL_isChosen) 175 = .ok (.if_icmp .ne 9, 3) := by decide +kernel
theorem dL_isChosen_178 : decode (dc DL_isChosen) 178 = .ok (.iload 4, 2) := by decide +kernel
theorem dL_isChosen_180 : decode (dc DL_isChosen) 180 = .ok (.iload_n 3, 1) := by decide +kernel
theorem dL_isChosen_181 : decode (dc DL_isChosen) 181 = .ok (.if_icmp .eq 5, 3) := by decide +kernel
theorem dL_isChosen_184 : decode (dc DL_isChosen) 184 = .ok (.iconst 0, 1) := by decide +kernel
theorem dL_isChosen_185 : decode (dc DL_isChosen) 185 = .ok (.ireturn, 1) := by decide +kernel
theorem dL_isChosen_186 : decode (dc DL_isChosen) 186 = .ok (.iconst 0, 1) := by decide +kernel
theorem dL_isChosen_187 : decode (dc DL_isChosen) 187 = .ok (.istore 5, 2) := by decide +kernel
theorem dL_isChosen_189 : decode (dc DL_isChosen) 189 = .ok (.aload_n 1, 1) := by decide +kernel
theorem dL_isChosen_190 : decode (dc DL_isChosen) 190 = .ok (.getfield 144, 3) := by decide +kernel
theorem dL_isChosen_193 : decode (dc DL_isChosen) 193 = .ok (.newarray .int, 2) := by decide +kernel
theorem dL_isChosen_195 : decode (dc DL_isChosen) 195 = .ok (.astore 6, 2) := by decide +kernel
theorem dL_isChosen_197 : decode (dc DL_isChosen) 197 = .ok (.aload_n 1, 1) := by decide +kernel
theorem dL_isChosen_198 : decode (dc DL_isChosen) 198 = .ok (.getfield 144, 3) := by decide +kernel
theorem dL_isChosen_201 : decode (dc DL_isChosen) 201 = .ok (.newarray .int, 2) := by decide +kernel
theorem dL_isChosen_203 : decode (dc DL_isChosen) 203 = .ok (.astore 7, 2) := by decide +kernel
theorem dL_isChosen_205 : decode (dc DL_isChosen) 205 = .ok (.iconst 0, 1) := by decide +kernel
theorem dL_isChosen_206 : decode (dc DL_isChosen) 206 = .ok (.istore 8, 2) := by decide +kernel
theorem dL_isChosen_208 : decode (dc DL_isChosen) 208 = .ok (.iload 8, 2) := by decide +kernel
theorem dL_isChosen_210 : decode (dc DL_isChosen) 210 = .ok (.aload_n 1, 1) := by decide +kernel
theorem dL_isChosen_211 : decode (dc DL_isChosen) 211 = .ok (.getfield 138, 3) := by decide +kernel
theorem dL_isChosen_214 : decode (dc DL_isChosen) 214 = .ok (.if_icmp .ge 166, 3) := by decide +kernel
theorem dL_isChosen_217 : decode (dc DL_isChosen) 217 = .ok (.iconst 0, 1) := by decide +kernel
theorem dL_isChosen_218 : decode (dc DL_isChosen) 218 = .ok (.istore 9, 2) := by decide +kernel
theorem dL_isChosen_220 : decode (dc DL_isChosen) 220 = .ok (.iconst 0, 1) := by decide +kernel
theorem dL_isChosen_221 : decode (dc DL_isChosen) 221 = .ok (.istore 10, 2) := by decide +kernel
theorem dL_isChosen_223 : decode (dc DL_isChosen) 223 = .ok (.iconst 0, 1) := by decide +kernel
theorem dL_isChosen_224 : decode (dc DL_isChosen) 224 = .ok (.istore 11, 2) := by decide +kernel
theorem dL_isChosen_226 : decode (dc DL_isChosen) 226 = .ok (.iload 11, 2) := by decide +kernel
theorem dL_isChosen_228 : decode (dc DL_isChosen) 228 = .ok (.aload_n 1, 1) := by decide +kernel
theorem dL_isChosen_229 : decode (dc DL_isChosen) 229 = .ok (.getfield 144, 3) := by decide +kernel
theorem dL_isChosen_232 : decode (dc DL_isChosen) 232 = .ok (.if_icmp .ge 133, 3) := by decide +kernel
theorem dL_isChosen_235 : decode (dc DL_isChosen) 235 = .ok (.aload_n 0, 1) := by decide +kernel
theorem dL_isChosen_236 : decode (dc DL_isChosen) 236 = .ok (.iload 8, 2) := by decide +kernel
theorem dL_isChosen_238 : decode (dc DL_isChosen) 238 = .ok (.iload 11, 2) := by decide +kernel
theorem dL_isChosen_240 : decode (dc DL_isChosen) 240 = .ok (.invokestatic 282, 3) := by decide +kernel
theorem dL_isChosen_243 : decode (dc DL_isChosen) 243 = .ok (.istore 12, 2) := by decide +kernel
theorem dL_isChosen_245 : decode (dc DL_isChosen) 245 = .ok (.iload 12, 2) := by decide +kernel
theorem dL_isChosen_247 : decode (dc DL_isChosen) 247 = .ok (.ifCond .lt 7, 3) := by decide +kernel
theorem dL_isChosen_250 : decode (dc DL_isChosen) 250 = .ok (.iconst 1, 1) := by decide +kernel
theorem dL_isChosen_251 : decode (dc DL_isChosen) 251 = .ok (.goto 4, 3) := by decide +kernel
theorem dL_isChosen_254 : decode (dc DL_isChosen) 254 = .ok (.iconst 0, 1) := by decide +kernel
theorem dL_isChosen_255 : decode (dc DL_isChosen) 255 = .ok (.aload_n 1, 1) := by decide +kernel
theorem dL_isChosen_256 : decode (dc DL_isChosen) 256 = .ok (.iload 8, 2) := by decide +kernel
theorem dL_isChosen_258 : decode (dc DL_isChosen) 258 = .ok (.iload 11, 2) := by decide +kernel
theorem dL_isChosen_260 : decode (dc DL_isChosen) 260 = .ok (.invokevirtual 182, 3) := by decide +kernel
theorem dL_isChosen_263 : decode (dc DL_isChosen) 263 = .ok (.if_icmp .eq 5, 3) := by decide +kernel
theorem dL_isChosen_266 : decode (dc DL_isChosen) 266 = .ok (.iconst 0, 1) := by decide +kernel
theorem dL_isChosen_267 : decode (dc DL_isChosen) 267 = .ok (.ireturn, 1) := by decide +kernel
theorem dL_isChosen_268 : decode (dc DL_isChosen) 268 = .ok (.iload 12, 2) := by decide +kernel
theorem dL_isChosen_270 : decode (dc DL_isChosen) 270 = .ok (.ifCond .ge 6, 3) := by decide +kernel
theorem dL_isChosen_273 : decode (dc DL_isChosen) 273 = .ok (.goto 86, 3) := by decide +kernel
theorem dL_isChosen_276 : decode (dc DL_isChosen) 276 = .ok (.iload 10, 2) := by decide +kernel
theorem dL_isChosen_278 : decode (dc DL_isChosen) 278 = .ok (.iload 12, 2) := by decide +kernel
theorem dL_isChosen_280 : decode (dc DL_isChosen) 280 = .ok (.ishr, 1) := by decide +kernel
theorem dL_isChosen_281 : decode (dc DL_isChosen) 281 = .ok (.iconst 1, 1) := by decide +kernel
theorem dL_isChosen_282 : decode (dc DL_isChosen) 282 = .ok (.iand, 1) := by decide +kernel
theorem dL_isChosen_283 : decode (dc DL_isChosen) 283 = .ok (.iconst 1, 1) := by decide +kernel
theorem dL_isChosen_284 : decode (dc DL_isChosen) 284 = .ok (.if_icmp .eq 17, 3) := by decide +kernel
theorem dL_isChosen_287 : decode (dc DL_isChosen) 287 = .ok (.aload 7, 2) := by decide +kernel
theorem dL_isChosen_289 : decode (dc DL_isChosen) 289 = .ok (.iload 11, 2) := by decide +kernel
theorem dL_isChosen_291 : decode (dc DL_isChosen) 291 = .ok (.iaload, 1) := by decide +kernel
theorem dL_isChosen_292 : decode (dc DL_isChosen) 292 = .ok (.iload 12, 2) := by decide +kernel
theorem dL_isChosen_294 : decode (dc DL_isChosen) 294 = .ok (.ishr, 1) := by decide +kernel
theorem dL_isChosen_295 : decode (dc DL_isChosen) 295 = .ok (.iconst 1, 1) := by decide +kernel
theorem dL_isChosen_296 : decode (dc DL_isChosen) 296 = .ok (.iand, 1) := by decide +kernel
theorem dL_isChosen_297 : decode (dc DL_isChosen) 297 = .ok (.iconst 1, 1) := by decide +kernel
theorem dL_isChosen_298 : decode (dc DL_isChosen) 298 = .ok (.if_icmp .ne 5, 3) := by decide +kernel
theorem dL_isChosen_301 : decode (dc DL_isChosen) 301 = .ok (.iconst 0, 1) := by decide +kernel
theorem dL_isChosen_302 : decode (dc DL_isChosen) 302 = .ok (.ireturn, 1) := by decide +kernel
theorem dL_isChosen_303 : decode (dc DL_isChosen) 303 = .ok (.iload 10, 2) := by decide +kernel
theorem dL_isChosen_305 : decode (dc DL_isChosen) 305 = .ok (.iconst 1, 1) := by decide +kernel
theorem dL_isChosen_306 : decode (dc DL_isChosen) 306 = .ok (.iload 12, 2) := by decide +kernel
theorem dL_isChosen_308 : decode (dc DL_isChosen) 308 = .ok (.ishl, 1) := by decide +kernel
theorem dL_isChosen_309 : decode (dc DL_isChosen) 309 = .ok (.ior, 1) := by decide +kernel
theorem dL_isChosen_310 : decode (dc DL_isChosen) 310 = .ok (.istore 10, 2) := by decide +kernel
theorem dL_isChosen_312 : decode (dc DL_isChosen) 312 = .ok (.aload 7, 2) := by decide +kernel
theorem dL_isChosen_314 : decode (dc DL_isChosen) 314 = .ok (.iload 11, 2) := by decide +kernel
theorem dL_isChosen_316 : decode (dc DL_isChosen) 316 = .ok (.dup2, 1) := by decide +kernel
theorem dL_isChosen_317 : decode (dc DL_isChosen) 317 = .ok (.iaload, 1) := by decide +kernel
theorem dL_isChosen_318 : decode (dc DL_isChosen) 318 = .ok (.iconst 1, 1) := by decide +kernel
theorem dL_isChosen_319 : decode (dc DL_isChosen) 319 = .ok (.iload 12, 2) := by decide +kernel
theorem dL_isChosen_321 : decode (dc DL_isChosen) 321 = .ok (.ishl, 1) := by decide +kernel
theorem dL_isChosen_322 : decode (dc DL_isChosen) 322 = .ok (.ior, 1) := by decide +kernel
theorem dL_isChosen_323 : decode (dc DL_isChosen) 323 = .ok (.iastore, 1) := by decide +kernel
theorem dL_isChosen_324 : decode (dc DL_isChosen) 324 = .ok (.iinc 9 1, 3) := by decide +kernel
theorem dL_isChosen_327 : decode (dc DL_isChosen) 327 = .ok (.aload 6, 2) := by decide +kernel
theorem dL_isChosen_329 : decode (dc DL_isChosen) 329 = .ok (.iload 11, 2) := by decide +kernel
theorem dL_isChosen_331 : decode (dc DL_isChosen) 331 = .ok (.dup2, 1) := by decide +kernel
theorem dL_isChosen_332 : decode (dc DL_isChosen) 332 = .ok (.iaload, 1) := by decide +kernel
theorem dL_isChosen_333 : decode (dc DL_isChosen) 333 = .ok (.iconst 1, 1) := by decide +kernel
theorem dL_isChosen_334 : decode (dc DL_isChosen) 334 = .ok (.iadd, 1) := by decide +kernel
theorem dL_isChosen_335 : decode (dc DL_isChosen) 335 = .ok (.iastore, 1) := by decide +kernel
theorem dL_isChosen_336 : decode (dc DL_isChosen) 336 = .ok (.iload 5, 2) := by decide +kernel
theorem dL_isChosen_338 : decode (dc DL_isChosen) 338 = .ok (.aload 6, 2) := by decide +kernel
theorem dL_isChosen_340 : decode (dc DL_isChosen) 340 = .ok (.iload 11, 2) := by decide +kernel
theorem dL_isChosen_342 : decode (dc DL_isChosen) 342 = .ok (.iaload, 1) := by decide +kernel
theorem dL_isChosen_343 : decode (dc DL_isChosen) 343 = .ok (.invokestatic 275, 3) := by decide +kernel
theorem dL_isChosen_346 : decode (dc DL_isChosen) 346 = .ok (.istore 5, 2) := by decide +kernel
theorem dL_isChosen_348 : decode (dc DL_isChosen) 348 = .ok (.iload 12, 2) := by decide +kernel
theorem dL_isChosen_350 : decode (dc DL_isChosen) 350 = .ok (.aload_n 0, 1) := by decide +kernel
theorem dL_isChosen_351 : decode (dc DL_isChosen) 351 = .ok (.invokevirtual 284, 3) := by decide +kernel
theorem dL_isChosen_354 : decode (dc DL_isChosen) 354 = .ok (.if_icmp .lt 5, 3) := by decide +kernel
theorem dL_isChosen_357 : decode (dc DL_isChosen) 357 = .ok (.iconst 0, 1) := by decide +kernel
theorem dL_isChosen_358 : decode (dc DL_isChosen) 358 = .ok (.ireturn, 1) := by decide +kernel
theorem dL_isChosen_359 : decode (dc DL_isChosen) 359 = .ok (.iinc 11 1, 3) := by decide +kernel
theorem dL_isChosen_362 : decode (dc DL_isChosen) 362 = .ok (.goto (-136), 3) := by decide +kernel
theorem dL_isChosen_365 : decode (dc DL_isChosen) 365 = .ok (.iload 5, 2) := by decide +kernel
theorem dL_isChosen_367 : decode (dc DL_isChosen) 367 = .ok (.iload 9, 2) := by decide +kernel
theorem dL_isChosen_369 : decode (dc DL_isChosen) 369 = .ok (.invokestatic 275, 3) := by decide +kernel
theorem dL_isChosen_372 : decode (dc DL_isChosen) 372 = .ok (.istore 5, 2) := by decide +kernel
theorem dL_isChosen_374 : decode (dc DL_isChosen) 374 = .ok (.iinc 8 1, 3) := by decide +kernel
theorem dL_isChosen_377 : decode (dc DL_isChosen) 377 = .ok (.goto (-169), 3) := by decide +kernel
theorem dL_isChosen_380 : decode (dc DL_isChosen) 380 = .ok (.aload_n 0, 1) := by decide +kernel
theorem dL_isChosen_381 : decode (dc DL_isChosen) 381 = .ok (.invokevirtual 284, 3) := by decide +kernel
theorem dL_isChosen_384 : decode (dc DL_isChosen) 384 = .ok (.iload 5, 2) := by decide +kernel
theorem dL_isChosen_386 : decode (dc DL_isChosen) 386 = .ok (.if_icmp .ne 7, 3) := by decide +kernel
theorem dL_isChosen_389 : decode (dc DL_isChosen) 389 = .ok (.iconst 1, 1) := by decide +kernel
theorem dL_isChosen_390 : decode (dc DL_isChosen) 390 = .ok (.goto 4, 3) := by decide +kernel
theorem dL_isChosen_393 : decode (dc DL_isChosen) 393 = .ok (.iconst 0, 1) := by decide +kernel
theorem dL_isChosen_394 : decode (dc DL_isChosen) 394 = .ok (.ireturn, 1) := by decide +kernel
theorem dL_law_0 : decode (dc DL_law) 0 = .ok (.new 16, 3) := by decide +kernel
theorem dL_law_3 : decode (dc DL_law) 3 = .ok (.dup, 1) := by decide +kernel
theorem dL_law_4 : decode (dc DL_law) 4 = .ok (.invokespecial 287, 3) := by decide +kernel
theorem dL_law_7 : decode (dc DL_law) 7 = .ok (.astore_n 1, 1) := by decide +kernel
theorem dL_law_8 : decode (dc DL_law) 8 = .ok (.bipush 8, 2) := by decide +kernel
theorem dL_law_10 : decode (dc DL_law) 10 = .ok (.newarray .int, 2) := by decide +kernel
theorem dL_law_12 : decode (dc DL_law) 12 = .ok (.astore_n 2, 1) := by decide +kernel
theorem dL_law_13 : decode (dc DL_law) 13 = .ok (.new 139, 3) := by decide +kernel
theorem dL_law_16 : decode (dc DL_law) 16 = .ok (.dup, 1) := by decide +kernel
theorem dL_law_17 : decode (dc DL_law) 17 = .ok (.invokespecial 288, 3) := by decide +kernel
theorem dL_law_20 : decode (dc DL_law) 20 = .ok (.astore_n 3, 1) := by decide +kernel
theorem dL_law_21 : decode (dc DL_law) 21 = .ok (.bipush 40, 2) := by decide +kernel
theorem dL_law_23 : decode (dc DL_law) 23 = .ok (.anewarray 139, 3) := by decide +kernel
theorem dL_law_26 : decode (dc DL_law) 26 = .ok (.astore 4, 2) := by decide +kernel
theorem dL_law_28 : decode (dc DL_law) 28 = .ok (.iconst 0, 1) := by decide +kernel
theorem dL_law_29 : decode (dc DL_law) 29 = .ok (.istore 5, 2) := by decide +kernel
theorem dL_law_31 : decode (dc DL_law) 31 = .ok (.iconst 1, 1) := by decide +kernel
theorem dL_law_32 : decode (dc DL_law) 32 = .ok (.istore 6, 2) := by decide +kernel
theorem dL_law_34 : decode (dc DL_law) 34 = .ok (.iconst 0, 1) := by decide +kernel
theorem dL_law_35 : decode (dc DL_law) 35 = .ok (.istore 7, 2) := by decide +kernel
theorem dL_law_37 : decode (dc DL_law) 37 = .ok (.iload 7, 2) := by decide +kernel
theorem dL_law_39 : decode (dc DL_law) 39 = .ok (.aload_n 0, 1) := by decide +kernel
theorem dL_law_40 : decode (dc DL_law) 40 = .ok (.arraylength, 1) := by decide +kernel
theorem dL_law_41 : decode (dc DL_law) 41 = .ok (.if_icmp .ge 1069, 3) := by decide +kernel
theorem dL_law_44 : decode (dc DL_law) 44 = .ok (.iload 7, 2) := by decide +kernel
theorem dL_law_46 : decode (dc DL_law) 46 = .ok (.bipush 12, 2) := by decide +kernel
theorem dL_law_48 : decode (dc DL_law) 48 = .ok (.if_icmp .ge 1062, 3) := by decide +kernel
theorem dL_law_51 : decode (dc DL_law) 51 = .ok (.iload 6, 2) := by decide +kernel
theorem dL_law_53 : decode (dc DL_law) 53 = .ok (.ifCond .eq 1057, 3) := by decide +kernel
theorem dL_law_56 : decode (dc DL_law) 56 = .ok (.aload_n 0, 1) := by decide +kernel
theorem dL_law_57 : decode (dc DL_law) 57 = .ok (.iload 7, 2) := by decide +kernel
theorem dL_law_59 : decode (dc DL_law) 59 = .ok (.iaload, 1) := by decide +kernel
theorem dL_law_60 : decode (dc DL_law) 60 = .ok (.iconst 3, 1) := by decide +kernel
theorem dL_law_61 : decode (dc DL_law) 61 = .ok (.ishr, 1) := by decide +kernel
theorem dL_law_62 : decode (dc DL_law) 62 = .ok (.istore 8, 2) := by decide +kernel
theorem dL_law_64 : decode (dc DL_law) 64 = .ok (.iload 7, 2) := by decide +kernel
theorem dL_law_66 : decode (dc DL_law) 66 = .ok (.ifCond .ne 7, 3) := by decide +kernel
theorem dL_law_69 : decode (dc DL_law) 69 = .ok (.iconst 0, 1) := by decide +kernel
theorem dL_law_70 : decode (dc DL_law) 70 = .ok (.goto 10, 3) := by decide +kernel
theorem dL_law_73 : decode (dc DL_law) 73 = .ok (.aload_n 0, 1) := by decide +kernel
theorem dL_law_74 : decode (dc DL_law) 74 = .ok (.iload 7, 2) := by decide +kernel
theorem dL_law_76 : decode (dc DL_law) 76 = .ok (.iaload, 1) := by decide +kernel
theorem dL_law_77 : decode (dc DL_law) 77 = .ok (.bipush 7, 2) := by decide +kernel
theorem dL_law_79 : decode (dc DL_law) 79 = .ok (.iand, 1) := by decide +kernel
theorem dL_law_80 : decode (dc DL_law) 80 = .ok (.istore 9, 2) := by decide +kernel
theorem dL_law_82 : decode (dc DL_law) 82 = .ok (.iload 8, 2) := by decide +kernel
theorem dL_law_84 : decode (dc DL_law) 84 = .ok (.sipush 255, 3) := by decide +kernel
theorem dL_law_87 : decode (dc DL_law) 87 = .ok (.iand, 1) := by decide +kernel
theorem dL_law_88 : decode (dc DL_law) 88 = .ok (.aload_n 3, 1) := by decide +kernel
theorem dL_law_89 : decode (dc DL_law) 89 = .ok (.getfield 138, 3) := by decide +kernel
theorem dL_law_92 : decode (dc DL_law) 92 = .ok (.irem, 1) := by decide +kernel
theorem dL_law_93 : decode (dc DL_law) 93 = .ok (.istore 10, 2) := by decide +kernel
theorem dL_law_95 : decode (dc DL_law) 95 = .ok (.iload 8, 2) := by decide +kernel
theorem dL_law_97 : decode (dc DL_law) 97 = .ok (.iconst 3, 1) := by decide +kernel
theorem dL_law_98 : decode (dc DL_law) 98 = .ok (.ishr, 1) := by decide +kernel
theorem dL_law_99 : decode (dc DL_law) 99 = .ok (.sipush 255, 3) := by decide +kernel
theorem dL_law_102 : decode (dc DL_law) 102 = .ok (.iand, 1) := by decide +kernel
theorem dL_law_103 : decode (dc DL_law) 103 = .ok (.aload_n 3, 1) := by decide +kernel
theorem dL_law_104 : decode (dc DL_law) 104 = .ok (.getfield 144, 3) := by decide +kernel
theorem dL_law_107 : decode (dc DL_law) 107 = .ok (.irem, 1) := by decide +kernel
theorem dL_law_108 : decode (dc DL_law) 108 = .ok (.istore 11, 2) := by decide +kernel
theorem dL_law_110 : decode (dc DL_law) 110 = .ok (.aload_n 3, 1) := by decide +kernel
theorem dL_law_111 : decode (dc DL_law) 111 = .ok (.invokevirtual 226, 3) := by decide +kernel
theorem dL_law_114 : decode (dc DL_law) 114 = .ok (.astore 12, 2) := by decide +kernel
theorem dL_law_116 : decode (dc DL_law) 116 = .ok (.iconst 1, 1) := by decide +kernel
theorem dL_law_117 : decode (dc DL_law) 117 = .ok (.istore 13, 2) := by decide +kernel
theorem dL_law_119 : decode (dc DL_law) 119 = .ok (.iconst 0, 1) := by decide +kernel
theorem dL_law_120 : decode (dc DL_law) 120 = .ok (.istore 14, 2) := by decide +kernel
theorem dL_law_122 : decode (dc DL_law) 122 = .ok (.iload 9, 2) := by decide +kernel
theorem dL_law_124 : decode (dc DL_law) 124 = .ok (.ifCond .ne 54, 3) := by decide +kernel
theorem dL_law_127 : decode (dc DL_law) 127 = .ok (.new 139, 3) := by decide +kernel
theorem dL_law_130 : decode (dc DL_law) 130 = .ok (.dup, 1) := by decide +kernel
theorem dL_law_131 : decode (dc DL_law) 131 = .ok (.invokespecial 288, 3) := by decide +kernel
theorem dL_law_134 : decode (dc DL_law) 134 = .ok (.astore_n 3, 1) := by decide +kernel
theorem dL_law_135 : decode (dc DL_law) 135 = .ok (.aload_n 1, 1) := by decide +kernel
theorem dL_law_136 : decode (dc DL_law) 136 = .ok (.aload_n 2, 1) := by decide +kernel
theorem dL_law_137 : decode (dc DL_law) 137 = .ok (.aload_n 3, 1) := by decide +kernel
theorem dL_law_138 : decode (dc DL_law) 138 = .ok (.iload 8, 2) := by decide +kernel
theorem dL_law_140 : decode (dc DL_law) 140 = .ok (.iconst 2, 1) := by decide +kernel
theorem dL_law_141 : decode (dc DL_law) 141 = .ok (.iload 8, 2) := by decide +kernel
theorem dL_law_143 : decode (dc DL_law) 143 = .ok (.iconst 2, 1) := by decide +kernel
theorem dL_law_144 : decode (dc DL_law) 144 = .ok (.ishr, 1) := by decide +kernel
theorem dL_law_145 : decode (dc DL_law) 145 = .ok (.sipush 255, 3) := by decide +kernel
theorem dL_law_148 : decode (dc DL_law) 148 = .ok (.iand, 1) := by decide +kernel
theorem dL_law_149 : decode (dc DL_law) 149 = .ok (.iconst 3, 1) := by decide +kernel
theorem dL_law_150 : decode (dc DL_law) 150 = .ok (.irem, 1) := by decide +kernel
theorem dL_law_151 : decode (dc DL_law) 151 = .ok (.iadd, 1) := by decide +kernel
theorem dL_law_152 : decode (dc DL_law) 152 = .ok (.iconst 2, 1) := by decide +kernel
theorem dL_law_153 : decode (dc DL_law) 153 = .ok (.iload 8, 2) := by decide +kernel
theorem dL_law_155 : decode (dc DL_law) 155 = .ok (.iconst 5, 1) := by decide +kernel
theorem dL_law_156 : decode (dc DL_law) 156 = .ok (.ishr, 1) := by decide +kernel
theorem dL_law_157 : decode (dc DL_law) 157 = .ok (.sipush 255, 3) := by decide +kernel
theorem dL_law_160 : decode (dc DL_law) 160 = .ok (.iand, 1) := by decide +kernel
theorem dL_law_161 : decode (dc DL_law) 161 = .ok (.iconst 3, 1) := by decide +kernel
theorem dL_law_162 : decode (dc DL_law) 162 = .ok (.irem, 1) := by decide +kernel
theorem dL_law_163 : decode (dc DL_law) 163 = .ok (.iadd, 1) := by decide +kernel
theorem dL_law_164 : decode (dc DL_law) 164 = .ok (.invokestatic 289, 3) := by decide +kernel
theorem dL_law_167 : decode (dc DL_law) 167 = .ok (.istore 6, 2) := by decide +kernel
theorem dL_law_169 : decode (dc DL_law) 169 = .ok (.iconst 0, 1) := by decide +kernel
theorem dL_law_170 : decode (dc DL_law) 170 = .ok (.istore 5, 2) := by decide +kernel
theorem dL_law_172 : decode (dc DL_law) 172 = .ok (.iconst 0, 1) := by decide +kernel
theorem dL_law_173 : decode (dc DL_law) 173 = .ok (.istore 13, 2) := by decide +kernel
theorem dL_law_175 : decode (dc DL_law) 175 = .ok (.goto 842, 3) := by decide +kernel
theorem dL_law_178 : decode (dc DL_law) 178 = .ok (.iload 9, 2) := by decide +kernel
theorem dL_law_180 : decode (dc DL_law) 180 = .ok (.iconst 1, 1) := by decide +kernel
theorem dL_law_181 : decode (dc DL_law) 181 = .ok (.if_icmp .ne 62, 3) := by decide +kernel
theorem dL_law_184 : decode (dc DL_law) 184 = .ok (.iload 8, 2) := by decide +kernel
theorem dL_law_186 : decode (dc DL_law) 186 = .ok (.bipush 11, 2) := by decide +kernel
theorem dL_law_188 : decode (dc DL_law) 188 = .ok (.ishr, 1) := by decide +kernel
theorem dL_law_189 : decode (dc DL_law) 189 = .ok (.iconst 3, 1) := by decide +kernel
theorem dL_law_190 : decode (dc DL_law) 190 = .ok (.iand, 1) := by decide +kernel
theorem dL_law_191 : decode (dc DL_law) 191 = .ok (.ifCond .ne 52, 3) := by decide +kernel
theorem dL_law_194 : decode (dc DL_law) 194 = .ok (.aload_n 1, 1) := by decide +kernel
theorem dL_law_195 : decode (dc DL_law) 195 = .ok (.iload 10, 2) := by decide +kernel
theorem dL_law_197 : decode (dc DL_law) 197 = .ok (.iload 8, 2) := by decide +kernel
theorem dL_law_199 : decode (dc DL_law) 199 = .ok (.bipush 6, 2) := by decide +kernel
theorem dL_law_201 : decode (dc DL_law) 201 = .ok (.ishr, 1) := by decide +kernel
theorem dL_law_202 : decode (dc DL_law) 202 = .ok (.bipush 31, 2) := by decide +kernel
theorem dL_law_204 : decode (dc DL_law) 204 = .ok (.iand, 1) := by decide +kernel
theorem dL_law_205 : decode (dc DL_law) 205 = .ok (.invokestatic 293, 3) := by decide +kernel
theorem dL_law_208 : decode (dc DL_law) 208 = .ok (.aload_n 3, 1) := by decide +kernel
theorem dL_law_209 : decode (dc DL_law) 209 = .ok (.getfield 195, 3) := by decide +kernel
theorem dL_law_212 : decode (dc DL_law) 212 = .ok (.iload 10, 2) := by decide +kernel
theorem dL_law_214 : decode (dc DL_law) 214 = .ok (.iaload, 1) := by decide +kernel
theorem dL_law_215 : decode (dc DL_law) 215 = .ok (.if_icmp .ne 7, 3) := by decide +kernel
theorem dL_law_218 : decode (dc DL_law) 218 = .ok (.iconst 1, 1) := by decide +kernel
theorem dL_law_219 : decode (dc DL_law) 219 = .ok (.goto 4, 3) := by decide +kernel
theorem dL_law_222 : decode (dc DL_law) 222 = .ok (.iconst 0, 1) := by decide +kernel
theorem dL_law_223 : decode (dc DL_law) 223 = .ok (.istore 6, 2) := by decide +kernel
theorem dL_law_225 : decode (dc DL_law) 225 = .ok (.aload_n 3, 1) := by decide +kernel
theorem dL_law_226 : decode (dc DL_law) 226 = .ok (.getfield 195, 3) := by decide +kernel
theorem dL_law_229 : decode (dc DL_law) 229 = .ok (.iload 10, 2) := by decide +kernel
theorem dL_law_231 : decode (dc DL_law) 231 = .ok (.iload 8, 2) := by decide +kernel
theorem dL_law_233 : decode (dc DL_law) 233 = .ok (.bipush 6, 2) := by decide +kernel
theorem dL_law_235 : decode (dc DL_law) 235 = .ok (.ishr, 1) := by decide +kernel
theorem dL_law_236 : decode (dc DL_law) 236 = .ok (.bipush 31, 2) := by decide +kernel
theorem dL_law_238 : decode (dc DL_law) 238 = .ok (.iand, 1) := by decide +kernel
theorem dL_law_239 : decode (dc DL_law) 239 = .ok (.iastore, 1) := by decide +kernel
theorem dL_law_240 : decode (dc DL_law) 240 = .ok (.goto 777, 3) := by decide +kernel
theorem dL_law_243 : decode (dc DL_law) 243 = .ok (.iload 9, 2) := by decide +kernel
theorem dL_law_245 : decode (dc DL_law) 245 = .ok (.iconst 5, 1) := by decide +kernel
theorem dL_law_246 : decode (dc DL_law) 246 = .ok (.if_icmp .ne 53, 3) := by decide +kernel
theorem dL_law_249 : decode (dc DL_law) 249 = .ok (.iload 8, 2) := by decide +kernel
theorem dL_law_251 : decode (dc DL_law) 251 = .ok (.bipush 11, 2) := by decide +kernel
theorem dL_law_253 : decode (dc DL_law) 253 = .ok (.ishr, 1) := by decide +kernel
theorem dL_law_254 : decode (dc DL_law) 254 = .ok (.iconst 1, 1) := by decide +kernel
theorem dL_law_255 : decode (dc DL_law) 255 = .ok (.iand, 1) := by decide +kernel
theorem dL_law_256 : decode (dc DL_law) 256 = .ok (.ifCond .ne 43, 3) := by decide +kernel
theorem dL_law_259 : decode (dc DL_law) 259 = .ok (.aload_n 3, 1) := by decide +kernel
theorem dL_law_260 : decode (dc DL_law) 260 = .ok (.invokevirtual 295, 3) := by decide +kernel
theorem dL_law_263 : decode (dc DL_law) 263 = .ok (.istore 15, 2) := by decide +kernel
theorem dL_law_265 : decode (dc DL_law) 265 = .ok (.aload_n 1, 1) := by decide +kernel
theorem dL_law_266 : decode (dc DL_law) 266 = .ok (.invokevirtual 298, 3) := by decide +kernel
theorem dL_law_269 : decode (dc DL_law) 269 = .ok (.iload 15, 2) := by decide +kernel
theorem dL_law_271 : decode (dc DL_law) 271 = .ok (.if_icmp .ne 7, 3) := by decide +kernel
theorem dL_law_274 : decode (dc DL_law) 274 = .ok (.iconst 1, 1) := by decide +kernel
theorem dL_law_275 : decode (dc DL_law) 275 = .ok (.goto 4, 3) := by decide +kernel
theorem dL_law_278 : decode (dc DL_law) 278 = .ok (.iconst 0, 1) := by decide +kernel
theorem dL_law_279 : decode (dc DL_law) 279 = .ok (.istore 6, 2) := by decide +kernel
theorem dL_law_281 : decode (dc DL_law) 281 = .ok (.iload 15, 2) := by decide +kernel
theorem dL_law_283 : decode (dc DL_law) 283 = .ok (.ifCond .le 7, 3) := by decide +kernel
theorem dL_law_286 : decode (dc DL_law) 286 = .ok (.iconst 1, 1) := by decide +kernel
theorem dL_law_287 : decode (dc DL_law) 287 = .ok (.goto 4, 3) := by decide +kernel
theorem dL_law_290 : decode (dc DL_law) 290 = .ok (.iconst 0, 1) := by decide +kernel
theorem dL_law_291 : decode (dc DL_law) 291 = .ok (.istore 13, 2) := by decide +kernel
theorem dL_law_293 : decode (dc DL_law) 293 = .ok (.iconst 1, 1) := by decide +kernel
theorem dL_law_294 : decode (dc DL_law) 294 = .ok (.istore 14, 2) := by decide +kernel
theorem dL_law_296 : decode (dc DL_law) 296 = .ok (.goto 721, 3) := by decide +kernel
theorem dL_law_299 : decode (dc DL_law) 299 = .ok (.iload 9, 2) := by decide +kernel
theorem dL_law_301 : decode (dc DL_law) 301 = .ok (.iconst 1, 1) := by decide +kernel
theorem dL_law_302 : decode (dc DL_law) 302 = .ok (.if_icmp .ne 58, 3) := by decide +kernel
theorem dL_law_305 : decode (dc DL_law) 305 = .ok (.iload 8, 2) := by decide +kernel
theorem dL_law_307 : decode (dc DL_law) 307 = .ok (.bipush 6, 2) := by decide +kernel
theorem dL_law_309 : decode (dc DL_law) 309 = .ok (.ishr, 1) := by decide +kernel
theorem dL_law_310 : decode (dc DL_law) 310 = .ok (.bipush 31, 2) := by decide +kernel
theorem dL_law_312 : decode (dc DL_law) 312 = .ok (.iand, 1) := by decide +kernel
theorem dL_law_313 : decode (dc DL_law) 313 = .ok (.istore 15, 2) := by decide +kernel
theorem dL_law_315 : decode (dc DL_law) 315 = .ok (.aload_n 1, 1) := by decide +kernel
theorem dL_law_316 : decode (dc DL_law) 316 = .ok (.iload 10, 2) := by decide +kernel
theorem dL_law_318 : decode (dc DL_law) 318 = .ok (.iload 11, 2) := by decide +kernel
theorem dL_law_320 : decode (dc DL_law) 320 = .ok (.iload 15, 2) := by decide +kernel
theorem dL_law_322 : decode (dc DL_law) 322 = .ok (.invokestatic 301, 3) := by decide +kernel
theorem dL_law_325 : decode (dc DL_law) 325 = .ok (.aload_n 3, 1) := by decide +kernel
theorem dL_law_326 : decode (dc DL_law) 326 = .ok (.getfield 171, 3) := by decide +kernel
theorem dL_law_329 : decode (dc DL_law) 329 = .ok (.iload 10, 2) := by decide +kernel
theorem dL_law_331 : decode (dc DL_law) 331 = .ok (.aaload, 1) := by decide +kernel
theorem dL_law_332 : decode (dc DL_law) 332 = .ok (.iload 11, 2) := by decide +kernel
theorem dL_law_334 : decode (dc DL_law) 334 = .ok (.iaload, 1) := by decide +kernel
theorem dL_law_335 : decode (dc DL_law) 335 = .ok (.if_icmp .ne 7, 3) := by decide +kernel
theorem dL_law_338 : decode (dc DL_law) 338 = .ok (.iconst 1, 1) := by decide +kernel
theorem dL_law_339 : decode (dc DL_law) 339 = .ok (.goto 4, 3) := by decide +kernel
theorem dL_law_342 : decode (dc DL_law) 342 = .ok (.iconst 0, 1) := by decide +kernel
theorem dL_law_343 : decode (dc DL_law) 343 = .ok (.istore 6, 2) := by decide +kernel
theorem dL_law_345 : decode (dc DL_law) 345 = .ok (.aload_n 3, 1) := by decide +kernel
theorem dL_law_346 : decode (dc DL_law) 346 = .ok (.getfield 171, 3) := by decide +kernel
theorem dL_law_349 : decode (dc DL_law) 349 = .ok (.iload 10, 2) := by decide +kernel
theorem dL_law_351 : decode (dc DL_law) 351 = .ok (.aaload, 1) := by decide +kernel
theorem dL_law_352 : decode (dc DL_law) 352 = .ok (.iload 11, 2) := by decide +kernel
theorem dL_law_354 : decode (dc DL_law) 354 = .ok (.iload 15, 2) := by decide +kernel
theorem dL_law_356 : decode (dc DL_law) 356 = .ok (.iastore, 1) := by decide +kernel
theorem dL_law_357 : decode (dc DL_law) 357 = .ok (.goto 660, 3) := by decide +kernel
theorem dL_law_360 : decode (dc DL_law) 360 = .ok (.iload 9, 2) := by decide +kernel
theorem dL_law_362 : decode (dc DL_law) 362 = .ok (.iconst 2, 1) := by decide +kernel
theorem dL_law_363 : decode (dc DL_law) 363 = .ok (.if_icmp .ne 95, 3) := by decide +kernel
theorem dL_law_366 : decode (dc DL_law) 366 = .ok (.aload_n 3, 1) := by decide +kernel
theorem dL_law_367 : decode (dc DL_law) 367 = .ok (.getfield 171, 3) := by decide +kernel
theorem dL_law_370 : decode (dc DL_law) 370 = .ok (.iload 10, 2) := by decide +kernel
theorem dL_law_372 : decode (dc DL_law) 372 = .ok (.aaload, 1) := by decide +kernel
theorem dL_law_373 : decode (dc DL_law) 373 = .ok (.iload 11, 2) := by decide +kernel
theorem dL_law_375 : decode (dc DL_law) 375 = .ok (.iaload, 1) := by decide +kernel
theorem dL_law_376 : decode (dc DL_law) 376 = .ok (.ifCond .lt 7, 3) := by decide +kernel
theorem dL_law_379 : decode (dc DL_law) 379 = .ok (.iconst 1, 1) := by decide +kernel
theorem dL_law_380 : decode (dc DL_law) 380 = .ok (.goto 4, 3) := by decide +kernel
theorem dL_law_383 : decode (dc DL_law) 383 = .ok (.iconst 0, 1) := by decide +kernel
theorem dL_law_384 : decode (dc DL_law) 384 = .ok (.istore 13, 2) := by decide +kernel
theorem dL_law_386 : decode (dc DL_law) 386 = .ok (.aload_n 1, 1) := by decide +kernel
theorem dL_law_387 : decode (dc DL_law) 387 = .ok (.iload 10, 2) := by decide +kernel
theorem dL_law_389 : decode (dc DL_law) 389 = .ok (.iload 11, 2) := by decide +kernel
theorem dL_law_391 : decode (dc DL_law) 391 = .ok (.invokestatic 303, 3) := by decide +kernel
theorem dL_law_394 : decode (dc DL_law) 394 = .ok (.iload 13, 2) := by decide +kernel
theorem dL_law_396 : decode (dc DL_law) 396 = .ok (.ifCond .eq 16, 3) := by decide +kernel
theorem dL_law_399 : decode (dc DL_law) 399 = .ok (.aload_n 3, 1) := by decide +kernel
theorem dL_law_400 : decode (dc DL_law) 400 = .ok (.getfield 171, 3) := by decide +kernel
theorem dL_law_403 : decode (dc DL_law) 403 = .ok (.iload 10, 2) := by decide +kernel
theorem dL_law_405 : decode (dc DL_law) 405 = .ok (.aaload, 1) := by decide +kernel
theorem dL_law_406 : decode (dc DL_law) 406 = .ok (.iload 11, 2) := by decide +kernel
theorem dL_law_408 : decode (dc DL_law) 408 = .ok (.iaload, 1) := by decide +kernel
theorem dL_law_409 : decode (dc DL_law) 409 = .ok (.goto 5, 3) := by decide +kernel
theorem dL_law_412 : decode (dc DL_law) 412 = .ok (.ldc 35, 2) := by decide +kernel
theorem dL_law_414 : decode (dc DL_law) 414 = .ok (.if_icmp .ne 7, 3) := by decide +kernel
theorem dL_law_417 : decode (dc DL_law) 417 = .ok (.iconst 1, 1) := by decide +kernel
theorem dL_law_418 : decode (dc DL_law) 418 = .ok (.goto 4, 3) := by decide +kernel
theorem dL_law_421 : decode (dc DL_law) 421 = .ok (.iconst 0, 1) := by decide +kernel
theorem dL_law_422 : decode (dc DL_law) 422 = .ok (.istore 6, 2) := by decide +kernel
theorem dL_law_424 : decode (dc DL_law) 424 = .ok (.aload_n 3, 1) := by decide +kernel
theorem dL_law_425 : decode (dc DL_law) 425 = .ok (.getfield 171, 3) := by decide +kernel
theorem dL_law_428 : decode (dc DL_law) 428 = .ok (.iload 10, 2) := by decide +kernel
theorem dL_law_430 : decode (dc DL_law) 430 = .ok (.aaload, 1) := by decide +kernel
theorem dL_law_431 : decode (dc DL_law) 431 = .ok (.iload 11, 2) := by decide +kernel
theorem dL_law_433 : decode (dc DL_law) 433 = .ok (.iconst (-1), 1) := by decide +kernel
theorem dL_law_434 : decode (dc DL_law) 434 = .ok (.iastore, 1) := by decide +kernel
theorem dL_law_435 : decode (dc DL_law) 435 = .ok (.aload_n 3, 1) := by decide +kernel
theorem dL_law_436 : decode (dc DL_law) 436 = .ok (.getfield 189, 3) := by decide +kernel
theorem dL_law_439 : decode (dc DL_law) 439 = .ok (.iload 10, 2) := by decide +kernel
theorem dL_law_441 : decode (dc DL_law) 441 = .ok (.iaload, 1) := by decide +kernel
theorem dL_law_442 : decode (dc DL_law) 442 = .ok (.iload 11, 2) := by decide +kernel
theorem dL_law_444 : decode (dc DL_law) 444 = .ok (.if_icmp .ne 573, 3) := by decide +kernel
theorem dL_law_447 : decode (dc DL_law) 447 = .ok (.aload_n 3, 1) := by decide +kernel
theorem dL_law_448 : decode (dc DL_law) 448 = .ok (.getfield 189, 3) := by decide +kernel
theorem dL_law_451 : decode (dc DL_law) 451 = .ok (.iload 10, 2) := by decide +kernel
theorem dL_law_453 : decode (dc DL_law) 453 = .ok (.iconst (-1), 1) := by decide +kernel
theorem dL_law_454 : decode (dc DL_law) 454 = .ok (.iastore, 1) := by decide +kernel
theorem dL_law_455 : decode (dc DL_law) 455 = .ok (.goto 562, 3) := by decide +kernel
theorem dL_law_458 : decode (dc DL_law) 458 = .ok (.iload 9, 2) := by decide +kernel
theorem dL_law_460 : decode (dc DL_law) 460 = .ok (.iconst 3, 1) := by decide +kernel
theorem dL_law_461 : decode (dc DL_law) 461 = .ok (.if_icmp .ne 220, 3) := by decide +kernel
theorem dL_law_464 : decode (dc DL_law) 464 = .ok (.iload 8, 2) := by decide +kernel
theorem dL_law_466 : decode (dc DL_law) 466 = .ok (.bipush 8, 2) := by decide +kernel
theorem dL_law_468 : decode (dc DL_law) 468 = .ok (.ishr, 1) := by decide +kernel
theorem dL_law_469 : decode (dc DL_law) 469 = .ok (.iconst 1, 1) := by decide +kernel
theorem dL_law_470 : decode (dc DL_law) 470 = .ok (.iand, 1) := by decide +kernel
theorem dL_law_471 : decode (dc DL_law) 471 = .ok (.istore 15, 2) := by decide +kernel
theorem dL_law_473 : decode (dc DL_law) 473 = .ok (.iload 8, 2) := by decide +kernel
theorem dL_law_475 : decode (dc DL_law) 475 = .ok (.bipush 9, 2) := by decide +kernel
theorem dL_law_477 : decode (dc DL_law) 477 = .ok (.ishr, 1) := by decide +kernel
theorem dL_law_478 : decode (dc DL_law) 478 = .ok (.iconst 1, 1) := by decide +kernel
theorem dL_law_479 : decode (dc DL_law) 479 = .ok (.iand, 1) := by decide +kernel
theorem dL_law_480 : decode (dc DL_law) 480 = .ok (.ifCond .ne 7, 3) := by decide +kernel
theorem dL_law_483 : decode (dc DL_law) 483 = .ok (.iconst 1, 1) := by decide +kernel
theorem dL_law_484 : decode (dc DL_law) 484 = .ok (.goto 4, 3) := by decide +kernel
theorem dL_law_487 : decode (dc DL_law) 487 = .ok (.iconst 0, 1) := by decide +kernel
theorem dL_law_488 : decode (dc DL_law) 488 = .ok (.istore 16, 2) := by decide +kernel
theorem dL_law_490 : decode (dc DL_law) 490 = .ok (.iload 16, 2) := by decide +kernel
theorem dL_law_492 : decode (dc DL_law) 492 = .ok (.ifCond .eq 8, 3) := by decide +kernel
theorem dL_law_495 : decode (dc DL_law) 495 = .ok (.iload 10, 2) := by decide +kernel
theorem dL_law_497 : decode (dc DL_law) 497 = .ok (.goto 5, 3) := by decide +kernel
theorem dL_law_500 : decode (dc DL_law) 500 = .ok (.iload 11, 2) := by decide +kernel
theorem dL_law_502 : decode (dc DL_law) 502 = .ok (.istore 17, 2) := by decide +kernel
theorem dL_law_504 : decode (dc DL_law) 504 = .ok (.iload 16, 2) := by decide +kernel
theorem dL_law_506 : decode (dc DL_law) 506 = .ok (.ifCond .eq 13, 3) := by decide +kernel
theorem dL_law_509 : decode (dc DL_law) 509 = .ok (.aload_n 3, 1) := by decide +kernel
theorem dL_law_510 : decode (dc DL_law) 510 = .ok (.getfield 189, 3) := by decide +kernel
theorem dL_law_513 : decode (dc DL_law) 513 = .ok (.iload 10, 2) := by decide +kernel
theorem dL_law_515 : decode (dc DL_law) 515 = .ok (.iaload, 1) := by decide +kernel
theorem dL_law_516 : decode (dc DL_law) 516 = .ok (.goto 9, 3) := by decide +kernel
theorem dL_law_519 : decode (dc DL_law) 519 = .ok (.aload_n 3, 1) := by decide +kernel
theorem dL_law_520 : decode (dc DL_law) 520 = .ok (.iload 11, 2) := by decide +kernel
theorem dL_law_522 : decode (dc DL_law) 522 = .ok (.invokevirtual 186, 3) := by decide +kernel
theorem dL_law_525 : decode (dc DL_law) 525 = .ok (.istore 18, 2) := by decide +kernel
theorem dL_law_527 : decode (dc DL_law) 527 = .ok (.iload 16, 2) := by decide +kernel
theorem dL_law_529 : decode (dc DL_law) 529 = .ok (.ifCond .eq 10, 3) := by decide +kernel
theorem dL_law_532 : decode (dc DL_law) 532 = .ok (.aload_n 3, 1) := by decide +kernel
theorem dL_law_533 : decode (dc DL_law) 533 = .ok (.getfield 147, 3) := by decide +kernel
theorem dL_law_536 : decode (dc DL_law) 536 = .ok (.goto 7, 3) := by decide +kernel
theorem dL_law_539 : decode (dc DL_law) 539 = .ok (.aload_n 3, 1) := by decide +kernel
theorem dL_law_540 : decode (dc DL_law) 540 = .ok (.getfield 150, 3) := by decide +kernel
theorem dL_law_543 : decode (dc DL_law) 543 = .ok (.iload 17, 2) := by decide +kernel
theorem dL_law_545 : decode (dc DL_law) 545 = .ok (.ishr, 1) := by decide +kernel
theorem dL_law_546 : decode (dc DL_law) 546 = .ok (.iconst 1, 1) := by decide +kernel
theorem dL_law_547 : decode (dc DL_law) 547 = .ok (.iand, 1) := by decide +kernel
theorem dL_law_548 : decode (dc DL_law) 548 = .ok (.iload 15, 2) := by decide +kernel
theorem dL_law_550 : decode (dc DL_law) 550 = .ok (.if_icmp .eq 7, 3) := by decide +kernel
theorem dL_law_553 : decode (dc DL_law) 553 = .ok (.iconst 1, 1) := by decide +kernel
theorem dL_law_554 : decode (dc DL_law) 554 = .ok (.goto 4, 3) := by decide +kernel
theorem dL_law_557 : decode (dc DL_law) 557 = .ok (.iconst 0, 1) := by decide +kernel
theorem dL_law_558 : decode (dc DL_law) 558 = .ok (.istore 13, 2) := by decide +kernel
theorem dL_law_560 : decode (dc DL_law) 560 = .ok (.aload_n 1, 1) := by decide +kernel
theorem dL_law_561 : decode (dc DL_law) 561 = .ok (.iload 16, 2) := by decide +kernel
theorem dL_law_563 : decode (dc DL_law) 563 = .ok (.ifCond .eq 7, 3) := by decide +kernel
theorem dL_law_566 : decode (dc DL_law) 566 = .ok (.iconst 0, 1) := by decide +kernel
theorem dL_law_567 : decode (dc DL_law) 567 = .ok (.goto 4, 3) := by decide +kernel
theorem dL_law_570 : decode (dc DL_law) 570 = .ok (.iconst 1, 1) := by decide +kernel
theorem dL_law_571 : decode (dc DL_law) 571 = .ok (.iload 17, 2) := by decide +kernel
theorem dL_law_573 : decode (dc DL_law) 573 = .ok (.iload 15, 2) := by decide +kernel
theorem dL_law_575 : decode (dc DL_law) 575 = .ok (.invokestatic 305, 3) := by decide +kernel
theorem dL_law_578 : decode (dc DL_law) 578 = .ok (.iload 13, 2) := by decide +kernel
theorem dL_law_580 : decode (dc DL_law) 580 = .ok (.ifCond .eq 18, 3) := by decide +kernel
theorem dL_law_583 : decode (dc DL_law) 583 = .ok (.iload 15, 2) := by decide +kernel
theorem dL_law_585 : decode (dc DL_law) 585 = .ok (.iconst 1, 1) := by decide +kernel
theorem dL_law_586 : decode (dc DL_law) 586 = .ok (.if_icmp .ne 7, 3) := by decide +kernel
theorem dL_law_589 : decode (dc DL_law) 589 = .ok (.iconst (-1), 1) := by decide +kernel
theorem dL_law_590 : decode (dc DL_law) 590 = .ok (.goto 10, 3) := by decide +kernel
theorem dL_law_593 : decode (dc DL_law) 593 = .ok (.iload 18, 2) := by decide +kernel
theorem dL_law_595 : decode (dc DL_law) 595 = .ok (.goto 5, 3) := by decide +kernel
theorem dL_law_598 : decode (dc DL_law) 598 = .ok (.ldc 35, 2) := by decide +kernel
theorem dL_law_600 : decode (dc DL_law) 600 = .ok (.if_icmp .ne 7, 3) := by decide +kernel
theorem dL_law_603 : decode (dc DL_law) 603 = .ok (.iconst 1, 1) := by decide +kernel
theorem dL_law_604 : decode (dc DL_law) 604 = .ok (.goto 4, 3) := by decide +kernel
theorem dL_law_607 : decode (dc DL_law) 607 = .ok (.iconst 0, 1) := by decide +kernel
theorem dL_law_608 : decode (dc DL_law) 608 = .ok (.istore 6, 2) := by decide +kernel
theorem dL_law_610 : decode (dc DL_law) 610 = .ok (.iload 13, 2) := by decide +kernel
theorem dL_law_612 : decode (dc DL_law) 612 = .ok (.ifCond .eq 66, 3) := by decide +kernel
theorem dL_law_615 : decode (dc DL_law) 615 = .ok (.iload 16, 2) := by decide +kernel
theorem dL_law_617 : decode (dc DL_law) 617 = .ok (.ifCond .eq 19, 3) := by decide +kernel
theorem dL_law_620 : decode (dc DL_law) 620 = .ok (.aload_n 3, 1) := by decide +kernel
theorem dL_law_621 : decode (dc DL_law) 621 = .ok (.dup, 1) := by decide +kernel
theorem dL_law_622 : decode (dc DL_law) 622 = .ok (.getfield 147, 3) := by decide +kernel
theorem dL_law_625 : decode (dc DL_law) 625 = .ok (.iconst 1, 1) := by decide +kernel
theorem dL_law_626 : decode (dc DL_law) 626 = .ok (.iload 17, 2) := by decide +kernel
theorem dL_law_628 : decode (dc DL_law) 628 = .ok (.ishl, 1) := by decide +kernel
theorem dL_law_629 : decode (dc DL_law) 629 = .ok (.ixor, 1) := by decide +kernel
theorem dL_law_630 : decode (dc DL_law) 630 = .ok (.putfield 147, 3) := by decide +kernel
theorem dL_law_633 : decode (dc DL_law) 633 = .ok (.goto 16, 3) := by decide +kernel
theorem dL_law_636 : decode (dc DL_law) 636 = .ok (.aload_n 3, 1) := by decide +kernel
theorem dL_law_637 : decode (dc DL_law) 637 = .ok (.dup, 1) := by decide +kernel
theorem dL_law_638 : decode (dc DL_law) 638 = .ok (.getfield 150, 3) := by decide +kernel
theorem dL_law_641 : decode (dc DL_law) 641 = .ok (.iconst 1, 1) := by decide +kernel
theorem dL_law_642 : decode (dc DL_law) 642 = .ok (.iload 17, 2) := by decide +kernel
theorem dL_law_644 : decode (dc DL_law) 644 = .ok (.ishl, 1) := by decide +kernel
theorem dL_law_645 : decode (dc DL_law) 645 = .ok (.ixor, 1) := by decide +kernel
theorem dL_law_646 : decode (dc DL_law) 646 = .ok (.putfield 150, 3) := by decide +kernel
theorem dL_law_649 : decode (dc DL_law) 649 = .ok (.iload 16, 2) := by decide +kernel
theorem dL_law_651 : decode (dc DL_law) 651 = .ok (.ifCond .eq 14, 3) := by decide +kernel
theorem dL_law_654 : decode (dc DL_law) 654 = .ok (.aload_n 3, 1) := by decide +kernel
theorem dL_law_655 : decode (dc DL_law) 655 = .ok (.getfield 189, 3) := by decide +kernel
theorem dL_law_658 : decode (dc DL_law) 658 = .ok (.iload 10, 2) := by decide +kernel
theorem dL_law_660 : decode (dc DL_law) 660 = .ok (.iconst (-1), 1) := by decide +kernel
theorem dL_law_661 : decode (dc DL_law) 661 = .ok (.iastore, 1) := by decide +kernel
theorem dL_law_662 : decode (dc DL_law) 662 = .ok (.goto 16, 3) := by decide +kernel
theorem dL_law_665 : decode (dc DL_law) 665 = .ok (.iload 18, 2) := by decide +kernel
theorem dL_law_667 : decode (dc DL_law) 667 = .ok (.ifCond .lt 11, 3) := by decide +kernel
theorem dL_law_670 : decode (dc DL_law) 670 = .ok (.aload_n 3, 1) := by decide +kernel
theorem dL_law_671 : decode (dc DL_law) 671 = .ok (.getfield 189, 3) := by decide +kernel
theorem dL_law_674 : decode (dc DL_law) 674 = .ok (.iload 18, 2) := by decide +kernel
theorem dL_law_676 : decode (dc DL_law) 676 = .ok (.iconst (-1), 1) := by decide +kernel
theorem dL_law_677 : decode (dc DL_law) 677 = .ok (.iastore, 1) := by decide +kernel
theorem dL_law_678 : decode (dc DL_law) 678 = .ok (.goto 339, 3) := by decide +kernel
theorem dL_law_681 : decode (dc DL_law) 681 = .ok (.iload 9, 2) := by decide +kernel
theorem dL_law_683 : decode (dc DL_law) 683 = .ok (.iconst 4, 1) := by decide +kernel
theorem dL_law_684 : decode (dc DL_law) 684 = .ok (.if_icmp .ne 103, 3) := by decide +kernel
theorem dL_law_687 : decode (dc DL_law) 687 = .ok (.aload_n 3, 1) := by decide +kernel
theorem dL_law_688 : decode (dc DL_law) 688 = .ok (.iload 10, 2) := by decide +kernel
theorem dL_law_690 : decode (dc DL_law) 690 = .ok (.iload 11, 2) := by decide +kernel
theorem dL_law_692 : decode (dc DL_law) 692 = .ok (.invokevirtual 182, 3) := by decide +kernel
theorem dL_law_695 : decode (dc DL_law) 695 = .ok (.ifCond .eq 19, 3) := by decide +kernel
theorem dL_law_698 : decode (dc DL_law) 698 = .ok (.aload_n 3, 1) := by decide +kernel
theorem dL_law_699 : decode (dc DL_law) 699 = .ok (.getfield 189, 3) := by decide +kernel
theorem dL_law_702 : decode (dc DL_law) 702 = .ok (.iload 10, 2) := by decide +kernel
theorem dL_law_704 : decode (dc DL_law) 704 = .ok (.iaload, 1) := by decide +kernel
theorem dL_law_705 : decode (dc DL_law) 705 = .ok (.iload 11, 2) := by decide +kernel
theorem dL_law_707 : decode (dc DL_law) 707 = .ok (.if_icmp .eq 7, 3) := by decide +kernel
theorem dL_law_710 : decode (dc DL_law) 710 = .ok (.iconst 1, 1) := by decide +kernel
theorem dL_law_711 : decode (dc DL_law) 711 = .ok (.goto 4, 3) := by decide +kernel
theorem dL_law_714 : decode (dc DL_law) 714 = .ok (.iconst 0, 1) := by decide +kernel
theorem dL_law_715 : decode (dc DL_law) 715 = .ok (.istore 13, 2) := by decide +kernel
theorem dL_law_717 : decode (dc DL_law) 717 = .ok (.aload_n 3, 1) := by decide +kernel
theorem dL_law_718 : decode (dc DL_law) 718 = .ok (.iload 11, 2) := by decide +kernel
theorem dL_law_720 : decode (dc DL_law) 720 = .ok (.invokevirtual 186, 3) := by decide +kernel
theorem dL_law_723 : decode (dc DL_law) 723 = .ok (.istore 15, 2) := by decide +kernel
theorem dL_law_725 : decode (dc DL_law) 725 = .ok (.iload 13, 2) := by decide +kernel
theorem dL_law_727 : decode (dc DL_law) 727 = .ok (.ifCond .eq 25, 3) := by decide +kernel
theorem dL_law_730 : decode (dc DL_law) 730 = .ok (.iload 15, 2) := by decide +kernel
theorem dL_law_732 : decode (dc DL_law) 732 = .ok (.ifCond .lt 11, 3) := by decide +kernel
theorem dL_law_735 : decode (dc DL_law) 735 = .ok (.aload_n 3, 1) := by decide +kernel
theorem dL_law_736 : decode (dc DL_law) 736 = .ok (.getfield 189, 3) := by decide +kernel
theorem dL_law_739 : decode (dc DL_law) 739 = .ok (.iload 15, 2) := by decide +kernel
theorem dL_law_741 : decode (dc DL_law) 741 = .ok (.iconst (-1), 1) := by decide +kernel
theorem dL_law_742 : decode (dc DL_law) 742 = .ok (.iastore, 1) := by decide +kernel
theorem dL_law_743 : decode (dc DL_law) 743 = .ok (.aload_n 3, 1) := by decide +kernel
theorem dL_law_744 : decode (dc DL_law) 744 = .ok (.getfield 189, 3) := by decide +kernel
theorem dL_law_747 : decode (dc DL_law) 747 = .ok (.iload 10, 2) := by decide +kernel
theorem dL_law_749 : decode (dc DL_law) 749 = .ok (.iload 11, 2) := by decide +kernel
theorem dL_law_751 : decode (dc DL_law) 751 = .ok (.iastore, 1) := by decide +kernel
theorem dL_law_752 : decode (dc DL_law) 752 = .ok (.aload_n 1, 1) := by decide +kernel
theorem dL_law_753 : decode (dc DL_law) 753 = .ok (.iload 10, 2) := by decide +kernel
theorem dL_law_755 : decode (dc DL_law) 755 = .ok (.iload 11, 2) := by decide +kernel
theorem dL_law_757 : decode (dc DL_law) 757 = .ok (.invokestatic 307, 3) := by decide +kernel
theorem dL_law_760 : decode (dc DL_law) 760 = .ok (.iload 13, 2) := by decide +kernel
theorem dL_law_762 : decode (dc DL_law) 762 = .ok (.ifCond .eq 10, 3) := by decide +kernel
theorem dL_law_765 : decode (dc DL_law) 765 = .ok (.aload_n 3, 1) := by decide +kernel
theorem dL_law_766 : decode (dc DL_law) 766 = .ok (.invokevirtual 208, 3) := by decide +kernel
theorem dL_law_769 : decode (dc DL_law) 769 = .ok (.goto 5, 3) := by decide +kernel
theorem dL_law_772 : decode (dc DL_law) 772 = .ok (.ldc 35, 2) := by decide +kernel
theorem dL_law_774 : decode (dc DL_law) 774 = .ok (.if_icmp .ne 7, 3) := by decide +kernel
theorem dL_law_777 : decode (dc DL_law) 777 = .ok (.iconst 1, 1) := by decide +kernel
theorem dL_law_778 : decode (dc DL_law) 778 = .ok (.goto 4, 3) := by decide +kernel
theorem dL_law_781 : decode (dc DL_law) 781 = .ok (.iconst 0, 1) := by decide +kernel
theorem dL_law_782 : decode (dc DL_law) 782 = .ok (.istore 6, 2) := by decide +kernel
theorem dL_law_784 : decode (dc DL_law) 784 = .ok (.goto 233, 3) := by decide +kernel
theorem dL_law_787 : decode (dc DL_law) 787 = .ok (.iload 9, 2) := by decide +kernel
theorem dL_law_789 : decode (dc DL_law) 789 = .ok (.iconst 5, 1) := by decide +kernel
theorem dL_law_790 : decode (dc DL_law) 790 = .ok (.if_icmp .ne 64, 3) := by decide +kernel
theorem dL_law_793 : decode (dc DL_law) 793 = .ok (.aload_n 3, 1) := by decide +kernel
theorem dL_law_794 : decode (dc DL_law) 794 = .ok (.getfield 189, 3) := by decide +kernel
theorem dL_law_797 : decode (dc DL_law) 797 = .ok (.iload 10, 2) := by decide +kernel
theorem dL_law_799 : decode (dc DL_law) 799 = .ok (.iaload, 1) := by decide +kernel
theorem dL_law_800 : decode (dc DL_law) 800 = .ok (.ifCond .lt 7, 3) := by decide +kernel
theorem dL_law_803 : decode (dc DL_law) 803 = .ok (.iconst 1, 1) := by decide +kernel
theorem dL_law_804 : decode (dc DL_law) 804 = .ok (.goto 4, 3) := by decide +kernel
theorem dL_law_807 : decode (dc DL_law) 807 = .ok (.iconst 0, 1) := by decide +kernel
theorem dL_law_808 : decode (dc DL_law) 808 = .ok (.istore 13, 2) := by decide +kernel
theorem dL_law_810 : decode (dc DL_law) 810 = .ok (.aload_n 1, 1) := by decide +kernel
theorem dL_law_811 : decode (dc DL_law) 811 = .ok (.iload 10, 2) := by decide +kernel
theorem dL_law_813 : decode (dc DL_law) 813 = .ok (.invokestatic 309, 3) := by decide +kernel
theorem dL_law_816 : decode (dc DL_law) 816 = .ok (.iload 13, 2) := by decide +kernel
theorem dL_law_818 : decode (dc DL_law) 818 = .ok (.ifCond .eq 13, 3) := by decide +kernel
theorem dL_law_821 : decode (dc DL_law) 821 = .ok (.aload_n 3, 1) := by decide +kernel
theorem dL_law_822 : decode (dc DL_law) 822 = .ok (.getfield 189, 3) := by decide +kernel
theorem dL_law_825 : decode (dc DL_law) 825 = .ok (.iload 10, 2) := by decide +kernel
theorem dL_law_827 : decode (dc DL_law) 827 = .ok (.iaload, 1) := by decide +kernel
theorem dL_law_828 : decode (dc DL_law) 828 = .ok (.goto 5, 3) := by decide +kernel
theorem dL_law_831 : decode (dc DL_law) 831 = .ok (.ldc 35, 2) := by decide +kernel
theorem dL_law_833 : decode (dc DL_law) 833 = .ok (.if_icmp .ne 7, 3) := by decide +kernel
theorem dL_law_836 : decode (dc DL_law) 836 = .ok (.iconst 1, 1) := by decide +kernel
theorem dL_law_837 : decode (dc DL_law) 837 = .ok (.goto 4, 3) := by decide +kernel
theorem dL_law_840 : decode (dc DL_law) 840 = .ok (.iconst 0, 1) := by decide +kernel
theorem dL_law_841 : decode (dc DL_law) 841 = .ok (.istore 6, 2) := by decide +kernel
theorem dL_law_843 : decode (dc DL_law) 843 = .ok (.aload_n 3, 1) := by decide +kernel
theorem dL_law_844 : decode (dc DL_law) 844 = .ok (.getfield 189, 3) := by decide +kernel
theorem dL_law_847 : decode (dc DL_law) 847 = .ok (.iload 10, 2) := by decide +kernel
theorem dL_law_849 : decode (dc DL_law) 849 = .ok (.iconst (-1), 1) := by decide +kernel
theorem dL_law_850 : decode (dc DL_law) 850 = .ok (.iastore, 1) := by decide +kernel
theorem dL_law_851 : decode (dc DL_law) 851 = .ok (.goto 166, 3) := by decide +kernel
theorem dL_law_854 : decode (dc DL_law) 854 = .ok (.iload 9, 2) := by decide +kernel
theorem dL_law_856 : decode (dc DL_law) 856 = .ok (.bipush 6, 2) := by decide +kernel
theorem dL_law_858 : decode (dc DL_law) 858 = .ok (.if_icmp .ne 115, 3) := by decide +kernel
theorem dL_law_861 : decode (dc DL_law) 861 = .ok (.iload 8, 2) := by decide +kernel
theorem dL_law_863 : decode (dc DL_law) 863 = .ok (.iconst 1, 1) := by decide +kernel
theorem dL_law_864 : decode (dc DL_law) 864 = .ok (.iand, 1) := by decide +kernel
theorem dL_law_865 : decode (dc DL_law) 865 = .ok (.ifCond .ne 57, 3) := by decide +kernel
theorem dL_law_868 : decode (dc DL_law) 868 = .ok (.aload_n 1, 1) := by decide +kernel
theorem dL_law_869 : decode (dc DL_law) 869 = .ok (.iload 8, 2) := by decide +kernel
theorem dL_law_871 : decode (dc DL_law) 871 = .ok (.iconst 1, 1) := by decide +kernel
theorem dL_law_872 : decode (dc DL_law) 872 = .ok (.ishr, 1) := by decide +kernel
theorem dL_law_873 : decode (dc DL_law) 873 = .ok (.iconst 1, 1) := by decide +kernel
theorem dL_law_874 : decode (dc DL_law) 874 = .ok (.iand, 1) := by decide +kernel
theorem dL_law_875 : decode (dc DL_law) 875 = .ok (.invokestatic 311, 3) := by decide +kernel
theorem dL_law_878 : decode (dc DL_law) 878 = .ok (.aload_n 3, 1) := by decide +kernel
theorem dL_law_879 : decode (dc DL_law) 879 = .ok (.getfield 153, 3) := by decide +kernel
theorem dL_law_882 : decode (dc DL_law) 882 = .ok (.ifCond .eq 7, 3) := by decide +kernel
theorem dL_law_885 : decode (dc DL_law) 885 = .ok (.iconst 1, 1) := by decide +kernel
theorem dL_law_886 : decode (dc DL_law) 886 = .ok (.goto 4, 3) := by decide +kernel
theorem dL_law_889 : decode (dc DL_law) 889 = .ok (.iconst 0, 1) := by decide +kernel
theorem dL_law_890 : decode (dc DL_law) 890 = .ok (.if_icmp .ne 7, 3) := by decide +kernel
theorem dL_law_893 : decode (dc DL_law) 893 = .ok (.iconst 1, 1) := by decide +kernel
theorem dL_law_894 : decode (dc DL_law) 894 = .ok (.goto 4, 3) := by decide +kernel
theorem dL_law_897 : decode (dc DL_law) 897 = .ok (.iconst 0, 1) := by decide +kernel
theorem dL_law_898 : decode (dc DL_law) 898 = .ok (.istore 6, 2) := by decide +kernel
theorem dL_law_900 : decode (dc DL_law) 900 = .ok (.aload_n 3, 1) := by decide +kernel
theorem dL_law_901 : decode (dc DL_law) 901 = .ok (.iload 8, 2) := by decide +kernel
theorem dL_law_903 : decode (dc DL_law) 903 = .ok (.iconst 1, 1) := by decide +kernel
theorem dL_law_904 : decode (dc DL_law) 904 = .ok (.ishr, 1) := by decide +kernel
theorem dL_law_905 : decode (dc DL_law) 905 = .ok (.iconst 1, 1) := by decide +kernel
theorem dL_law_906 : decode (dc DL_law) 906 = .ok (.iand, 1) := by decide +kernel
theorem dL_law_907 : decode (dc DL_law) 907 = .ok (.iconst 1, 1) := by decide +kernel
theorem dL_law_908 : decode (dc DL_law) 908 = .ok (.if_icmp .ne 7, 3) := by decide +kernel
theorem dL_law_911 : decode (dc DL_law) 911 = .ok (.iconst 1, 1) := by decide +kernel
theorem dL_law_912 : decode (dc DL_law) 912 = .ok (.goto 4, 3) := by decide +kernel
theorem dL_law_915 : decode (dc DL_law) 915 = .ok (.iconst 0, 1) := by decide +kernel
theorem dL_law_916 : decode (dc DL_law) 916 = .ok (.putfield 153, 3) := by decide +kernel
theorem dL_law_919 : decode (dc DL_law) 919 = .ok (.goto 98, 3) := by decide +kernel
theorem dL_law_922 : decode (dc DL_law) 922 = .ok (.iconst 1, 1) := by decide +kernel
theorem dL_law_923 : decode (dc DL_law) 923 = .ok (.iload 8, 2) := by decide +kernel
theorem dL_law_925 : decode (dc DL_law) 925 = .ok (.iconst 1, 1) := by decide +kernel
theorem dL_law_926 : decode (dc DL_law) 926 = .ok (.ishr, 1) := by decide +kernel
theorem dL_law_927 : decode (dc DL_law) 927 = .ok (.iconst 3, 1) := by decide +kernel
theorem dL_law_928 : decode (dc DL_law) 928 = .ok (.iand, 1) := by decide +kernel
theorem dL_law_929 : decode (dc DL_law) 929 = .ok (.iadd, 1) := by decide +kernel
theorem dL_law_930 : decode (dc DL_law) 930 = .ok (.istore 15, 2) := by decide +kernel
theorem dL_law_932 : decode (dc DL_law) 932 = .ok (.aload_n 3, 1) := by decide +kernel
theorem dL_law_933 : decode (dc DL_law) 933 = .ok (.iload 15, 2) := by decide +kernel
theorem dL_law_935 : decode (dc DL_law) 935 = .ok (.invokevirtual 201, 3) := by decide +kernel
theorem dL_law_938 : decode (dc DL_law) 938 = .ok (.istore 16, 2) := by decide +kernel
theorem dL_law_940 : decode (dc DL_law) 940 = .ok (.aload_n 1, 1) := by decide +kernel
theorem dL_law_941 : decode (dc DL_law) 941 = .ok (.iload 15, 2) := by decide +kernel
theorem dL_law_943 : decode (dc DL_law) 943 = .ok (.invokestatic 313, 3) := by decide +kernel
theorem dL_law_946 : decode (dc DL_law) 946 = .ok (.iload 16, 2) := by decide +kernel
theorem dL_law_948 : decode (dc DL_law) 948 = .ok (.if_icmp .ne 7, 3) := by decide +kernel
theorem dL_law_951 : decode (dc DL_law) 951 = .ok (.iconst 1, 1) := by decide +kernel
theorem dL_law_952 : decode (dc DL_law) 952 = .ok (.goto 4, 3) := by decide +kernel
theorem dL_law_955 : decode (dc DL_law) 955 = .ok (.iconst 0, 1) := by decide +kernel
theorem dL_law_956 : decode (dc DL_law) 956 = .ok (.istore 6, 2) := by decide +kernel
theorem dL_law_958 : decode (dc DL_law) 958 = .ok (.iload 16, 2) := by decide +kernel
theorem dL_law_960 : decode (dc DL_law) 960 = .ok (.ifCond .le 7, 3) := by decide +kernel
theorem dL_law_963 : decode (dc DL_law) 963 = .ok (.iconst 1, 1) := by decide +kernel
theorem dL_law_964 : decode (dc DL_law) 964 = .ok (.goto 4, 3) := by decide +kernel
theorem dL_law_967 : decode (dc DL_law) 967 = .ok (.iconst 0, 1) := by decide +kernel
theorem dL_law_968 : decode (dc DL_law) 968 = .ok (.istore 13, 2) := by decide +kernel
theorem dL_law_970 : decode (dc DL_law) 970 = .ok (.goto 47, 3) := by decide +kernel
theorem dL_law_973 : decode (dc DL_law) 973 = .ok (.aload_n 1, 1) := by decide +kernel
theorem dL_law_974 : decode (dc DL_law) 974 = .ok (.invokevirtual 315, 3) := by decide +kernel
theorem dL_law_977 : decode (dc DL_law) 977 = .ok (.iload 5, 2) := by decide +kernel
theorem dL_law_979 : decode (dc DL_law) 979 = .ok (.ifCond .ne 7, 3) := by decide +kernel
theorem dL_law_982 : decode (dc DL_law) 982 = .ok (.iconst (-1), 1) := by decide +kernel
theorem dL_law_983 : decode (dc DL_law) 983 = .ok (.goto 7, 3) := by decide +kernel
theorem dL_law_986 : decode (dc DL_law) 986 = .ok (.iload 5, 2) := by decide +kernel
theorem dL_law_988 : decode (dc DL_law) 988 = .ok (.iconst 1, 1) := by decide +kernel
theorem dL_law_989 : decode (dc DL_law) 989 = .ok (.isub, 1) := by decide +kernel
theorem dL_law_990 : decode (dc DL_law) 990 = .ok (.if_icmp .ne 7, 3) := by decide +kernel
theorem dL_law_993 : decode (dc DL_law) 993 = .ok (.iconst 1, 1) := by decide +kernel
theorem dL_law_994 : decode (dc DL_law) 994 = .ok (.goto 4, 3) := by decide +kernel
theorem dL_law_997 : decode (dc DL_law) 997 = .ok (.iconst 0, 1) := by decide +kernel
theorem dL_law_998 : decode (dc DL_law) 998 = .ok (.istore 6, 2) := by decide +kernel
theorem dL_law_1000 : decode (dc DL_law) 1000 = .ok (.iconst 0, 1) := by decide +kernel
theorem dL_law_1001 : decode (dc DL_law) 1001 = .ok (.istore 13, 2) := by decide +kernel
theorem dL_law_1003 : decode (dc DL_law) 1003 = .ok (.iload 5, 2) := by decide +kernel
theorem dL_law_1005 : decode (dc DL_law) 1005 = .ok (.ifCond .le 12, 3) := by decide +kernel
theorem dL_law_1008 : decode (dc DL_law) 1008 = .ok (.iinc 5 (-1), 3) := by decide +kernel
theorem dL_law_1011 : decode (dc DL_law) 1011 = .ok (.aload 4, 2) := by decide +kernel
theorem dL_law_1013 : decode (dc DL_law) 1013 = .ok (.iload 5, 2) := by decide +kernel
theorem dL_law_1015 : decode (dc DL_law) 1015 = .ok (.aaload, 1) := by decide +kernel
theorem dL_law_1016 : decode (dc DL_law) 1016 = .ok (.astore_n 3, 1) := by decide +kernel
theorem dL_law_1017 : decode (dc DL_law) 1017 = .ok (.iload 13, 2) := by decide +kernel
theorem dL_law_1019 : decode (dc DL_law) 1019 = .ok (.ifCond .eq 46, 3) := by decide +kernel
theorem dL_law_1022 : decode (dc DL_law) 1022 = .ok (.aload 4, 2) := by decide +kernel
theorem dL_law_1024 : decode (dc DL_law) 1024 = .ok (.iload 5, 2) := by decide +kernel
theorem dL_law_1026 : decode (dc DL_law) 1026 = .ok (.aload 12, 2) := by decide +kernel
theorem dL_law_1028 : decode (dc DL_law) 1028 = .ok (.aastore, 1) := by decide +kernel
theorem dL_law_1029 : decode (dc DL_law) 1029 = .ok (.iinc 5 1, 3) := by decide +kernel
theorem dL_law_1032 : decode (dc DL_law) 1032 = .ok (.aload_n 3, 1) := by decide +kernel
theorem dL_law_1033 : decode (dc DL_law) 1033 = .ok (.getfield 153, 3) := by decide +kernel
theorem dL_law_1036 : decode (dc DL_law) 1036 = .ok (.ifCond .eq 29, 3) := by decide +kernel
theorem dL_law_1039 : decode (dc DL_law) 1039 = .ok (.iload 14, 2) := by decide +kernel
theorem dL_law_1041 : decode (dc DL_law) 1041 = .ok (.ifCond .ne 24, 3) := by decide +kernel
theorem dL_law_1044 : decode (dc DL_law) 1044 = .ok (.iload 9, 2) := by decide +kernel
theorem dL_law_1046 : decode (dc DL_law) 1046 = .ok (.bipush 6, 2) := by decide +kernel
theorem dL_law_1048 : decode (dc DL_law) 1048 = .ok (.if_icmp .ne 10, 3) := by decide +kernel
theorem dL_law_1051 : decode (dc DL_law) 1051 = .ok (.iload 8, 2) := by decide +kernel
theorem dL_law_1053 : decode (dc DL_law) 1053 = .ok (.iconst 1, 1) := by decide +kernel
theorem dL_law_1054 : decode (dc DL_law) 1054 = .ok (.iand, 1) := by decide +kernel
theorem dL_law_1055 : decode (dc DL_law) 1055 = .ok (.ifCond .ne 10, 3) := by decide +kernel
theorem dL_law_1058 : decode (dc DL_law) 1058 = .ok (.aload_n 3, 1) := by decide +kernel
theorem dL_law_1059 : decode (dc DL_law) 1059 = .ok (.bipush 99, 2) := by decide +kernel
theorem dL_law_1061 : decode (dc DL_law) 1061 = .ok (.invokevirtual 201, 3) := by decide +kernel
theorem dL_law_1064 : decode (dc DL_law) 1064 = .ok (.pop, 1) := by decide +kernel
theorem dL_law_1065 : decode (dc DL_law) 1065 = .ok (.iload 6, 2) := by decide +kernel
theorem dL_law_1067 : decode (dc DL_law) 1067 = .ok (.ifCond .eq 34, 3) := by decide +kernel
theorem dL_law_1070 : decode (dc DL_law) 1070 = .ok (.aload_n 1, 1) := by decide +kernel
theorem dL_law_1071 : decode (dc DL_law) 1071 = .ok (.bipush 10, 2) := by decide +kernel
theorem dL_law_1073 : decode (dc DL_law) 1073 = .ok (.invokestatic 255, 3) := by decide +kernel
theorem dL_law_1076 : decode (dc DL_law) 1076 = .ok (.iload 5, 2) := by decide +kernel
theorem dL_law_1078 : decode (dc DL_law) 1078 = .ok (.if_icmp .ne 23, 3) := by decide +kernel
theorem dL_law_1081 : decode (dc DL_law) 1081 = .ok (.aload_n 1, 1) := by decide +kernel
theorem dL_law_1082 : decode (dc DL_law) 1082 = .ok (.aload_n 3, 1) := by decide +kernel
theorem dL_law_1083 : decode (dc DL_law) 1083 = .ok (.invokestatic 318, 3) := by decide +kernel
theorem dL_law_1086 : decode (dc DL_law) 1086 = .ok (.ifCond .eq 15, 3) := by decide +kernel
theorem dL_law_1089 : decode (dc DL_law) 1089 = .ok (.aload_n 1, 1) := by decide +kernel
theorem dL_law_1090 : decode (dc DL_law) 1090 = .ok (.aload_n 3, 1) := by decide +kernel
theorem dL_law_1091 : decode (dc DL_law) 1091 = .ok (.invokestatic 322, 3) := by decide +kernel
theorem dL_law_1094 : decode (dc DL_law) 1094 = .ok (.ifCond .eq 7, 3) := by decide +kernel
theorem dL_law_1097 : decode (dc DL_law) 1097 = .ok (.iconst 1, 1) := by decide +kernel
theorem dL_law_1098 : decode (dc DL_law) 1098 = .ok (.goto 4, 3) := by decide +kernel
theorem dL_law_1101 : decode (dc DL_law) 1101 = .ok (.iconst 0, 1) := by decide +kernel
theorem dL_law_1102 : decode (dc DL_law) 1102 = .ok (.istore 6, 2) := by decide +kernel
theorem dL_law_1104 : decode (dc DL_law) 1104 = .ok (.iinc 7 1, 3) := by decide +kernel
theorem dL_law_1107 : decode (dc DL_law) 1107 = .ok (.goto (-1070), 3) := by decide +kernel
theorem dL_law_1110 : decode (dc DL_law) 1110 = .ok (.iload 6, 2) := by decide +kernel
theorem dL_law_1112 : decode (dc DL_law) 1112 = .ok (.ifCond .eq 311, 3) := by decide +kernel
theorem dL_law_1115 : decode (dc DL_law) 1115 = .ok (.aload_n 1, 1) := by decide +kernel
theorem dL_law_1116 : decode (dc DL_law) 1116 = .ok (.bipush 12, 2) := by decide +kernel
theorem dL_law_1118 : decode (dc DL_law) 1118 = .ok (.invokestatic 255, 3) := by decide +kernel
theorem dL_law_1121 : decode (dc DL_law) 1121 = .ok (.ldc 35, 2) := by decide +kernel
theorem dL_law_1123 : decode (dc DL_law) 1123 = .ok (.if_icmp .ne 300, 3) := by decide +kernel
theorem dL_law_1126 : decode (dc DL_law) 1126 = .ok (.aload_n 1, 1) := by decide +kernel
theorem dL_law_1127 : decode (dc DL_law) 1127 = .ok (.iconst 1, 1) := by decide +kernel
theorem dL_law_1128 : decode (dc DL_law) 1128 = .ok (.invokestatic 20, 3) := by decide +kernel
theorem dL_law_1131 : decode (dc DL_law) 1131 = .ok (.ldc 35, 2) := by decide +kernel
theorem dL_law_1133 : decode (dc DL_law) 1133 = .ok (.if_icmp .ne 290, 3) := by decide +kernel
theorem dL_law_1136 : decode (dc DL_law) 1136 = .ok (.aload_n 1, 1) := by decide +kernel
theorem dL_law_1137 : decode (dc DL_law) 1137 = .ok (.iconst 2, 1) := by decide +kernel
theorem dL_law_1138 : decode (dc DL_law) 1138 = .ok (.iconst 0, 1) := by decide +kernel
theorem dL_law_1139 : decode (dc DL_law) 1139 = .ok (.invokestatic 221, 3) := by decide +kernel
theorem dL_law_1142 : decode (dc DL_law) 1142 = .ok (.ldc 45, 2) := by decide +kernel
theorem dL_law_1144 : decode (dc DL_law) 1144 = .ok (.if_icmp .ne 279, 3) := by decide +kernel
theorem dL_law_1147 : decode (dc DL_law) 1147 = .ok (.aload_n 1, 1) := by decide +kernel
theorem dL_law_1148 : decode (dc DL_law) 1148 = .ok (.iconst 0, 1) := by decide +kernel
theorem dL_law_1149 : decode (dc DL_law) 1149 = .ok (.aload_n 3, 1) := by decide +kernel
theorem dL_law_1150 : decode (dc DL_law) 1150 = .ok (.getfield 138, 3) := by decide +kernel
theorem dL_law_1153 : decode (dc DL_law) 1153 = .ok (.invokestatic 221, 3) := by decide +kernel
theorem dL_law_1156 : decode (dc DL_law) 1156 = .ok (.ldc 45, 2) := by decide +kernel
theorem dL_law_1158 : decode (dc DL_law) 1158 = .ok (.if_icmp .ne 265, 3) := by decide +kernel
theorem dL_law_1161 : decode (dc DL_law) 1161 = .ok (.aload_n 1, 1) := by decide +kernel
theorem dL_law_1162 : decode (dc DL_law) 1162 = .ok (.iconst 0, 1) := by decide +kernel
theorem dL_law_1163 : decode (dc DL_law) 1163 = .ok (.aload_n 3, 1) := by decide +kernel
theorem dL_law_1164 : decode (dc DL_law) 1164 = .ok (.getfield 144, 3) := by decide +kernel
theorem dL_law_1167 : decode (dc DL_law) 1167 = .ok (.invokestatic 233, 3) := by decide +kernel
theorem dL_law_1170 : decode (dc DL_law) 1170 = .ok (.ldc 45, 2) := by decide +kernel
theorem dL_law_1172 : decode (dc DL_law) 1172 = .ok (.if_icmp .ne 251, 3) := by decide +kernel
theorem dL_law_1175 : decode (dc DL_law) 1175 = .ok (.aload_n 1, 1) := by decide +kernel
theorem dL_law_1176 : decode (dc DL_law) 1176 = .ok (.iconst 0, 1) := by decide +kernel
theorem dL_law_1177 : decode (dc DL_law) 1177 = .ok (.iconst 2, 1) := by decide +kernel
theorem dL_law_1178 : decode (dc DL_law) 1178 = .ok (.invokestatic 224, 3) := by decide +kernel
theorem dL_law_1181 : decode (dc DL_law) 1181 = .ok (.ldc 35, 2) := by decide +kernel
theorem dL_law_1183 : decode (dc DL_law) 1183 = .ok (.if_icmp .ne 240, 3) := by decide +kernel
theorem dL_law_1186 : decode (dc DL_law) 1186 = .ok (.aload_n 1, 1) := by decide +kernel
theorem dL_law_1187 : decode (dc DL_law) 1187 = .ok (.iconst 4, 1) := by decide +kernel
theorem dL_law_1188 : decode (dc DL_law) 1188 = .ok (.invokestatic 325, 3) := by decide +kernel
theorem dL_law_1191 : decode (dc DL_law) 1191 = .ok (.ldc 35, 2) := by decide +kernel
theorem dL_law_1193 : decode (dc DL_law) 1193 = .ok (.if_icmp .ne 230, 3) := by decide +kernel
theorem dL_law_1196 : decode (dc DL_law) 1196 = .ok (.aload_n 1, 1) := by decide +kernel
theorem dL_law_1197 : decode (dc DL_law) 1197 = .ok (.iconst (-1), 1) := by decide +kernel
theorem dL_law_1198 : decode (dc DL_law) 1198 = .ok (.invokestatic 327, 3) := by decide +kernel
theorem dL_law_1201 : decode (dc DL_law) 1201 = .ok (.ldc 45, 2) := by decide +kernel
theorem dL_law_1203 : decode (dc DL_law) 1203 = .ok (.if_icmp .ne 220, 3) := by decide +kernel
theorem dL_law_1206 : decode (dc DL_law) 1206 = .ok (.aload_n 1, 1) := by decide +kernel
theorem dL_law_1207 : decode (dc DL_law) 1207 = .ok (.iconst 2, 1) := by decide +kernel
theorem dL_law_1208 : decode (dc DL_law) 1208 = .ok (.invokestatic 259, 3) := by decide +kernel
theorem dL_law_1211 : decode (dc DL_law) 1211 = .ok (.ldc 45, 2) := by decide +kernel
theorem dL_law_1213 : decode (dc DL_law) 1213 = .ok (.if_icmp .ne 210, 3) := by decide +kernel
theorem dL_law_1216 : decode (dc DL_law) 1216 = .ok (.aload_n 1, 1) := by decide +kernel
theorem dL_law_1217 : decode (dc DL_law) 1217 = .ok (.iconst (-1), 1) := by decide +kernel
theorem dL_law_1218 : decode (dc DL_law) 1218 = .ok (.invokestatic 261, 3) := by decide +kernel
theorem dL_law_1221 : decode (dc DL_law) 1221 = .ok (.ldc 45, 2) := by decide +kernel
theorem dL_law_1223 : decode (dc DL_law) 1223 = .ok (.if_icmp .ne 200, 3) := by decide +kernel
theorem dL_law_1226 : decode (dc DL_law) 1226 = .ok (.aload_n 1, 1) := by decide +kernel
theorem dL_law_1227 : decode (dc DL_law) 1227 = .ok (.iconst 0, 1) := by decide +kernel
theorem dL_law_1228 : decode (dc DL_law) 1228 = .ok (.iconst 0, 1) := by decide +kernel
theorem dL_law_1229 : decode (dc DL_law) 1229 = .ok (.iconst 3, 1) := by decide +kernel
theorem dL_law_1230 : decode (dc DL_law) 1230 = .ok (.invokestatic 230, 3) := by decide +kernel
theorem dL_law_1233 : decode (dc DL_law) 1233 = .ok (.ldc 35, 2) := by decide +kernel
theorem dL_law_1235 : decode (dc DL_law) 1235 = .ok (.if_icmp .ne 188, 3) := by decide +kernel
theorem dL_law_1238 : decode (dc DL_law) 1238 = .ok (.aload_n 1, 1) := by decide +kernel
theorem dL_law_1239 : decode (dc DL_law) 1239 = .ok (.iconst 0, 1) := by decide +kernel
theorem dL_law_1240 : decode (dc DL_law) 1240 = .ok (.invokestatic 265, 3) := by decide +kernel
theorem dL_law_1243 : decode (dc DL_law) 1243 = .ok (.ldc 35, 2) := by decide +kernel
theorem dL_law_1245 : decode (dc DL_law) 1245 = .ok (.if_icmp .ne 178, 3) := by decide +kernel
theorem dL_law_1248 : decode (dc DL_law) 1248 = .ok (.aload_n 1, 1) := by decide +kernel
theorem dL_law_1249 : decode (dc DL_law) 1249 = .ok (.iconst (-1), 1) := by decide +kernel
theorem dL_law_1250 : decode (dc DL_law) 1250 = .ok (.invokestatic 329, 3) := by decide +kernel
theorem dL_law_1253 : decode (dc DL_law) 1253 = .ok (.ldc 35, 2) := by decide +kernel
theorem dL_law_1255 : decode (dc DL_law) 1255 = .ok (.if_icmp .ne 168, 3) := by decide +kernel
theorem dL_law_1258 : decode (dc DL_law) 1258 = .ok (.aload_n 1, 1) := by decide +kernel
theorem dL_law_1259 : decode (dc DL_law) 1259 = .ok (.iconst 1, 1) := by decide +kernel
theorem dL_law_1260 : decode (dc DL_law) 1260 = .ok (.aload_n 3, 1) := by decide +kernel
theorem dL_law_1261 : decode (dc DL_law) 1261 = .ok (.getfield 138, 3) := by decide +kernel
theorem dL_law_1264 : decode (dc DL_law) 1264 = .ok (.ishl, 1) := by decide +kernel
theorem dL_law_1265 : decode (dc DL_law) 1265 = .ok (.invokestatic 329, 3) := by decide +kernel
theorem dL_law_1268 : decode (dc DL_law) 1268 = .ok (.ldc 35, 2) := by decide +kernel
theorem dL_law_1270 : decode (dc DL_law) 1270 = .ok (.if_icmp .ne 153, 3) := by decide +kernel
theorem dL_law_1273 : decode (dc DL_law) 1273 = .ok (.aload_n 1, 1) := by decide +kernel
theorem dL_law_1274 : decode (dc DL_law) 1274 = .ok (.iconst 2, 1) := by decide +kernel
theorem dL_law_1275 : decode (dc DL_law) 1275 = .ok (.invokestatic 263, 3) := by decide +kernel
theorem dL_law_1278 : decode (dc DL_law) 1278 = .ok (.ldc 35, 2) := by decide +kernel
theorem dL_law_1280 : decode (dc DL_law) 1280 = .ok (.if_icmp .ne 143, 3) := by decide +kernel
theorem dL_law_1283 : decode (dc DL_law) 1283 = .ok (.aload_n 1, 1) := by decide +kernel
theorem dL_law_1284 : decode (dc DL_law) 1284 = .ok (.iconst 2, 1) := by decide +kernel
theorem dL_law_1285 : decode (dc DL_law) 1285 = .ok (.invokestatic 271, 3) := by decide +kernel
theorem dL_law_1288 : decode (dc DL_law) 1288 = .ok (.ldc 35, 2) := by decide +kernel
theorem dL_law_1290 : decode (dc DL_law) 1290 = .ok (.if_icmp .ne 133, 3) := by decide +kernel
theorem dL_law_1293 : decode (dc DL_law) 1293 = .ok (.aload_n 1, 1) := by decide +kernel
theorem dL_law_1294 : decode (dc DL_law) 1294 = .ok (.iconst 2, 1) := by decide +kernel
theorem dL_law_1295 : decode (dc DL_law) 1295 = .ok (.invokestatic 331, 3) := by decide +kernel
theorem dL_law_1298 : decode (dc DL_law) 1298 = .ok (.ldc 35, 2) := by decide +kernel
theorem dL_law_1300 : decode (dc DL_law) 1300 = .ok (.if_icmp .ne 123, 3) := by decide +kernel
theorem dL_law_1303 : decode (dc DL_law) 1303 = .ok (.aload_n 1, 1) := by decide +kernel
theorem dL_law_1304 : decode (dc DL_law) 1304 = .ok (.iconst 2, 1) := by decide +kernel
theorem dL_law_1305 : decode (dc DL_law) 1305 = .ok (.invokestatic 333, 3) := by decide +kernel
theorem dL_law_1308 : decode (dc DL_law) 1308 = .ok (.ldc 35, 2) := by decide +kernel
theorem dL_law_1310 : decode (dc DL_law) 1310 = .ok (.if_icmp .ne 113, 3) := by decide +kernel
theorem dL_law_1313 : decode (dc DL_law) 1313 = .ok (.aload_n 1, 1) := by decide +kernel
theorem dL_law_1314 : decode (dc DL_law) 1314 = .ok (.iconst 0, 1) := by decide +kernel
theorem dL_law_1315 : decode (dc DL_law) 1315 = .ok (.iconst 0, 1) := by decide +kernel
theorem dL_law_1316 : decode (dc DL_law) 1316 = .ok (.bipush 100, 2) := by decide +kernel
theorem dL_law_1318 : decode (dc DL_law) 1318 = .ok (.invokestatic 301, 3) := by decide +kernel
theorem dL_law_1321 : decode (dc DL_law) 1321 = .ok (.ldc 35, 2) := by decide +kernel
theorem dL_law_1323 : decode (dc DL_law) 1323 = .ok (.if_icmp .ne 100, 3) := by decide +kernel
theorem dL_law_1326 : decode (dc DL_law) 1326 = .ok (.aload_n 1, 1) := by decide +kernel
theorem dL_law_1327 : decode (dc DL_law) 1327 = .ok (.iconst 0, 1) := by decide +kernel
theorem dL_law_1328 : decode (dc DL_law) 1328 = .ok (.iconst 0, 1) := by decide +kernel
theorem dL_law_1329 : decode (dc DL_law) 1329 = .ok (.iconst 2, 1) := by decide +kernel
theorem dL_law_1330 : decode (dc DL_law) 1330 = .ok (.invokestatic 305, 3) := by decide +kernel
theorem dL_law_1333 : decode (dc DL_law) 1333 = .ok (.ldc 35, 2) := by decide +kernel
theorem dL_law_1335 : decode (dc DL_law) 1335 = .ok (.if_icmp .ne 88, 3) := by decide +kernel
theorem dL_law_1338 : decode (dc DL_law) 1338 = .ok (.aload_n 1, 1) := by decide +kernel
theorem dL_law_1339 : decode (dc DL_law) 1339 = .ok (.iconst 2, 1) := by decide +kernel
theorem dL_law_1340 : decode (dc DL_law) 1340 = .ok (.invokestatic 311, 3) := by decide +kernel
theorem dL_law_1343 : decode (dc DL_law) 1343 = .ok (.ldc 35, 2) := by decide +kernel
theorem dL_law_1345 : decode (dc DL_law) 1345 = .ok (.if_icmp .ne 78, 3) := by decide +kernel
theorem dL_law_1348 : decode (dc DL_law) 1348 = .ok (.aload_n 1, 1) := by decide +kernel
theorem dL_law_1349 : decode (dc DL_law) 1349 = .ok (.iconst 0, 1) := by decide +kernel
theorem dL_law_1350 : decode (dc DL_law) 1350 = .ok (.invokestatic 313, 3) := by decide +kernel
theorem dL_law_1353 : decode (dc DL_law) 1353 = .ok (.ldc 35, 2) := by decide +kernel
theorem dL_law_1355 : decode (dc DL_law) 1355 = .ok (.if_icmp .ne 68, 3) := by decide +kernel
theorem dL_law_1358 : decode (dc DL_law) 1358 = .ok (.aload_n 1, 1) := by decide +kernel
theorem dL_law_1359 : decode (dc DL_law) 1359 = .ok (.bipush 13, 2) := by decide +kernel
theorem dL_law_1361 : decode (dc DL_law) 1361 = .ok (.invokestatic 313, 3) := by decide +kernel
theorem dL_law_1364 : decode (dc DL_law) 1364 = .ok (.ldc 35, 2) := by decide +kernel
theorem dL_law_1366 : decode (dc DL_law) 1366 = .ok (.if_icmp .ne 57, 3) := by decide +kernel
theorem dL_law_1369 : decode (dc DL_law) 1369 = .ok (.aload_n 1, 1) := by decide +kernel
theorem dL_law_1370 : decode (dc DL_law) 1370 = .ok (.iconst 2, 1) := by decide +kernel
theorem dL_law_1371 : decode (dc DL_law) 1371 = .ok (.invokestatic 280, 3) := by decide +kernel
theorem dL_law_1374 : decode (dc DL_law) 1374 = .ok (.ldc 35, 2) := by decide +kernel
theorem dL_law_1376 : decode (dc DL_law) 1376 = .ok (.if_icmp .ne 47, 3) := by decide +kernel
theorem dL_law_1379 : decode (dc DL_law) 1379 = .ok (.aload_n 1, 1) := by decide +kernel
theorem dL_law_1380 : decode (dc DL_law) 1380 = .ok (.iconst 0, 1) := by decide +kernel
theorem dL_law_1381 : decode (dc DL_law) 1381 = .ok (.bipush 100, 2) := by decide +kernel
theorem dL_law_1383 : decode (dc DL_law) 1383 = .ok (.invokestatic 293, 3) := by decide +kernel
theorem dL_law_1386 : decode (dc DL_law) 1386 = .ok (.ldc 35, 2) := by decide +kernel
theorem dL_law_1388 : decode (dc DL_law) 1388 = .ok (.if_icmp .ne 35, 3) := by decide +kernel
theorem dL_law_1391 : decode (dc DL_law) 1391 = .ok (.aload_n 1, 1) := by decide +kernel
theorem dL_law_1392 : decode (dc DL_law) 1392 = .ok (.aload_n 3, 1) := by decide +kernel
theorem dL_law_1393 : decode (dc DL_law) 1393 = .ok (.getfield 138, 3) := by decide +kernel
theorem dL_law_1396 : decode (dc DL_law) 1396 = .ok (.iconst 0, 1) := by decide +kernel
theorem dL_law_1397 : decode (dc DL_law) 1397 = .ok (.invokestatic 293, 3) := by decide +kernel
theorem dL_law_1400 : decode (dc DL_law) 1400 = .ok (.ldc 45, 2) := by decide +kernel
theorem dL_law_1402 : decode (dc DL_law) 1402 = .ok (.if_icmp .ne 21, 3) := by decide +kernel
theorem dL_law_1405 : decode (dc DL_law) 1405 = .ok (.aload_n 1, 1) := by decide +kernel
theorem dL_law_1406 : decode (dc DL_law) 1406 = .ok (.iconst 0, 1) := by decide +kernel
theorem dL_law_1407 : decode (dc DL_law) 1407 = .ok (.aload_n 3, 1) := by decide +kernel
theorem dL_law_1408 : decode (dc DL_law) 1408 = .ok (.getfield 144, 3) := by decide +kernel
theorem dL_law_1411 : decode (dc DL_law) 1411 = .ok (.invokestatic 282, 3) := by decide +kernel
theorem dL_law_1414 : decode (dc DL_law) 1414 = .ok (.ldc 45, 2) := by decide +kernel
theorem dL_law_1416 : decode (dc DL_law) 1416 = .ok (.if_icmp .ne 7, 3) := by decide +kernel
theorem dL_law_1419 : decode (dc DL_law) 1419 = .ok (.iconst 1, 1) := by decide +kernel
theorem dL_law_1420 : decode (dc DL_law) 1420 = .ok (.goto 4, 3) := by decide +kernel
theorem dL_law_1423 : decode (dc DL_law) 1423 = .ok (.iconst 0, 1) := by decide +kernel
theorem dL_law_1424 : decode (dc DL_law) 1424 = .ok (.ireturn, 1) := by decide +kernel
theorem dX9_demand_0 : decode (dc DX9_demand) 0 = .ok (.iload_n 1, 1) := by decide +kernel
theorem dX9_demand_1 : decode (dc DX9_demand) 1 = .ok (.ifCond .ne 24, 3) := by decide +kernel
theorem dX9_demand_4 : decode (dc DX9_demand) 4 = .ok (.aload_n 0, 1) := by decide +kernel
theorem dX9_demand_5 : decode (dc DX9_demand) 5 = .ok (.dup, 1) := by decide +kernel
theorem dX9_demand_6 : decode (dc DX9_demand) 6 = .ok (.getfield 76, 3) := by decide +kernel
theorem dX9_demand_9 : decode (dc DX9_demand) 9 = .ok (.iconst 1, 1) := by decide +kernel
theorem dX9_demand_10 : decode (dc DX9_demand) 10 = .ok (.iadd, 1) := by decide +kernel
theorem dX9_demand_11 : decode (dc DX9_demand) 11 = .ok (.putfield 76, 3) := by decide +kernel
theorem dX9_demand_14 : decode (dc DX9_demand) 14 = .ok (.new 340, 3) := by decide +kernel
theorem dX9_demand_17 : decode (dc DX9_demand) 17 = .ok (.dup, 1) := by decide +kernel
theorem dX9_demand_18 : decode (dc DX9_demand) 18 = .ok (.ldc_w 342, 3) := by decide +kernel
theorem dX9_demand_21 : decode (dc DX9_demand) 21 = .ok (.invokespecial 344, 3) := by decide +kernel
theorem dX9_demand_24 : decode (dc DX9_demand) 24 = .ok (.athrow, 1) := by decide +kernel
theorem dX9_demand_25 : decode (dc DX9_demand) 25 = .ok (.return_, 1) := by decide +kernel
theorem dX9_demandPlace_0 : decode (dc DX9_demandPlace) 0 = .ok (.iload_n 1, 1) := by decide +kernel
theorem dX9_demandPlace_1 : decode (dc DX9_demandPlace) 1 = .ok (.ifCond .ne 24, 3) := by decide +kernel
theorem dX9_demandPlace_4 : decode (dc DX9_demandPlace) 4 = .ok (.aload_n 0, 1) := by decide +kernel
theorem dX9_demandPlace_5 : decode (dc DX9_demandPlace) 5 = .ok (.dup, 1) := by decide +kernel
theorem dX9_demandPlace_6 : decode (dc DX9_demandPlace) 6 = .ok (.getfield 72, 3) := by decide +kernel
theorem dX9_demandPlace_9 : decode (dc DX9_demandPlace) 9 = .ok (.iconst 1, 1) := by decide +kernel
theorem dX9_demandPlace_10 : decode (dc DX9_demandPlace) 10 = .ok (.iadd, 1) := by decide +kernel
theorem dX9_demandPlace_11 : decode (dc DX9_demandPlace) 11 = .ok (.putfield 72, 3) := by decide +kernel
theorem dX9_demandPlace_14 : decode (dc DX9_demandPlace) 14 = .ok (.new 347, 3) := by decide +kernel
theorem dX9_demandPlace_17 : decode (dc DX9_demandPlace) 17 = .ok (.dup, 1) := by decide +kernel
theorem dX9_demandPlace_18 : decode (dc DX9_demandPlace) 18 = .ok (.ldc_w 349, 3) := by decide +kernel
theorem dX9_demandPlace_21 : decode (dc DX9_demandPlace) 21 = .ok (.invokespecial 351, 3) := by decide +kernel
theorem dX9_demandPlace_24 : decode (dc DX9_demandPlace) 24 = .ok (.athrow, 1) := by decide +kernel
theorem dX9_demandPlace_25 : decode (dc DX9_demandPlace) 25 = .ok (.return_, 1) := by decide +kernel
