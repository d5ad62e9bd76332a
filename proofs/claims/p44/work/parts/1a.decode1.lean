theorem dX3_clear_0 : decode (dc DX3_clear) 0 = .ok (.iconst 0, 1) := by decide +kernel
theorem dX3_clear_1 : decode (dc DX3_clear) 1 = .ok (.istore_n 1, 1) := by decide +kernel
theorem dX3_clear_2 : decode (dc DX3_clear) 2 = .ok (.iload_n 1, 1) := by decide +kernel
theorem dX3_clear_3 : decode (dc DX3_clear) 3 = .ok (.bipush 12, 2) := by decide +kernel
theorem dX3_clear_5 : decode (dc DX3_clear) 5 = .ok (.if_icmp .ge 23, 3) := by decide +kernel
theorem dX3_clear_8 : decode (dc DX3_clear) 8 = .ok (.aload_n 0, 1) := by decide +kernel
theorem dX3_clear_9 : decode (dc DX3_clear) 9 = .ok (.getfield 9, 3) := by decide +kernel
theorem dX3_clear_12 : decode (dc DX3_clear) 12 = .ok (.iload_n 1, 1) := by decide +kernel
theorem dX3_clear_13 : decode (dc DX3_clear) 13 = .ok (.iconst (-1), 1) := by decide +kernel
theorem dX3_clear_14 : decode (dc DX3_clear) 14 = .ok (.iastore, 1) := by decide +kernel
theorem dX3_clear_15 : decode (dc DX3_clear) 15 = .ok (.aload_n 0, 1) := by decide +kernel
theorem dX3_clear_16 : decode (dc DX3_clear) 16 = .ok (.getfield 15, 3) := by decide +kernel
theorem dX3_clear_19 : decode (dc DX3_clear) 19 = .ok (.iload_n 1, 1) := by decide +kernel
theorem dX3_clear_20 : decode (dc DX3_clear) 20 = .ok (.iconst (-1), 1) := by decide +kernel
theorem dX3_clear_21 : decode (dc DX3_clear) 21 = .ok (.iastore, 1) := by decide +kernel
theorem dX3_clear_22 : decode (dc DX3_clear) 22 = .ok (.iinc 1 1, 3) := by decide +kernel
theorem dX3_clear_25 : decode (dc DX3_clear) 25 = .ok (.goto (-23), 3) := by decide +kernel
theorem dX3_clear_28 : decode (dc DX3_clear) 28 = .ok (.return_, 1) := by decide +kernel
theorem dX9_bit_0 : decode (dc DX9_bit) 0 = .ok (.iconst 1, 1) := by decide +kernel
theorem dX9_bit_1 : decode (dc DX9_bit) 1 = .ok (.iload_n 0, 1) := by decide +kernel
theorem dX9_bit_2 : decode (dc DX9_bit) 2 = .ok (.ishl, 1) := by decide +kernel
theorem dX9_bit_3 : decode (dc DX9_bit) 3 = .ok (.ireturn, 1) := by decide +kernel
theorem dX0_begin_0 : decode (dc DX0_begin) 0 = .ok (.aload_n 0, 1) := by decide +kernel
theorem dX0_begin_1 : decode (dc DX0_begin) 1 = .ok (.iload_n 1, 1) := by decide +kernel
theorem dX0_begin_2 : decode (dc DX0_begin) 2 = .ok (.putfield 35, 3) := by decide +kernel
theorem dX0_begin_5 : decode (dc DX0_begin) 5 = .ok (.aload_n 0, 1) := by decide +kernel
theorem dX0_begin_6 : decode (dc DX0_begin) 6 = .ok (.iload_n 2, 1) := by decide +kernel
theorem dX0_begin_7 : decode (dc DX0_begin) 7 = .ok (.putfield 39, 3) := by decide +kernel
theorem dX0_begin_10 : decode (dc DX0_begin) 10 = .ok (.aload_n 0, 1) := by decide +kernel
theorem dX0_begin_11 : decode (dc DX0_begin) 11 = .ok (.iload_n 1, 1) := by decide +kernel
theorem dX0_begin_12 : decode (dc DX0_begin) 12 = .ok (.invokestatic 42, 3) := by decide +kernel
theorem dX0_begin_15 : decode (dc DX0_begin) 15 = .ok (.iconst 1, 1) := by decide +kernel
theorem dX0_begin_16 : decode (dc DX0_begin) 16 = .ok (.isub, 1) := by decide +kernel
theorem dX0_begin_17 : decode (dc DX0_begin) 17 = .ok (.putfield 46, 3) := by decide +kernel
theorem dX0_begin_20 : decode (dc DX0_begin) 20 = .ok (.aload_n 0, 1) := by decide +kernel
theorem dX0_begin_21 : decode (dc DX0_begin) 21 = .ok (.iload_n 2, 1) := by decide +kernel
theorem dX0_begin_22 : decode (dc DX0_begin) 22 = .ok (.invokestatic 42, 3) := by decide +kernel
theorem dX0_begin_25 : decode (dc DX0_begin) 25 = .ok (.iconst 1, 1) := by decide +kernel
theorem dX0_begin_26 : decode (dc DX0_begin) 26 = .ok (.isub, 1) := by decide +kernel
theorem dX0_begin_27 : decode (dc DX0_begin) 27 = .ok (.putfield 49, 3) := by decide +kernel
theorem dX0_begin_30 : decode (dc DX0_begin) 30 = .ok (.aload_n 0, 1) := by decide +kernel
theorem dX0_begin_31 : decode (dc DX0_begin) 31 = .ok (.iconst 1, 1) := by decide +kernel
theorem dX0_begin_32 : decode (dc DX0_begin) 32 = .ok (.putfield 52, 3) := by decide +kernel
theorem dX0_begin_35 : decode (dc DX0_begin) 35 = .ok (.iconst 0, 1) := by decide +kernel
theorem dX0_begin_36 : decode (dc DX0_begin) 36 = .ok (.istore_n 3, 1) := by decide +kernel
theorem dX0_begin_37 : decode (dc DX0_begin) 37 = .ok (.iload_n 3, 1) := by decide +kernel
theorem dX0_begin_38 : decode (dc DX0_begin) 38 = .ok (.bipush 12, 2) := by decide +kernel
theorem dX0_begin_40 : decode (dc DX0_begin) 40 = .ok (.if_icmp .ge 30, 3) := by decide +kernel
theorem dX0_begin_43 : decode (dc DX0_begin) 43 = .ok (.aload_n 0, 1) := by decide +kernel
theorem dX0_begin_44 : decode (dc DX0_begin) 44 = .ok (.getfield 9, 3) := by decide +kernel
theorem dX0_begin_47 : decode (dc DX0_begin) 47 = .ok (.iload_n 3, 1) := by decide +kernel
theorem dX0_begin_48 : decode (dc DX0_begin) 48 = .ok (.iconst 1, 1) := by decide +kernel
theorem dX0_begin_49 : decode (dc DX0_begin) 49 = .ok (.iastore, 1) := by decide +kernel
theorem dX0_begin_50 : decode (dc DX0_begin) 50 = .ok (.aload_n 0, 1) := by decide +kernel
theorem dX0_begin_51 : decode (dc DX0_begin) 51 = .ok (.getfield 15, 3) := by decide +kernel
theorem dX0_begin_54 : decode (dc DX0_begin) 54 = .ok (.iload_n 3, 1) := by decide +kernel
theorem dX0_begin_55 : decode (dc DX0_begin) 55 = .ok (.iconst 0, 1) := by decide +kernel
theorem dX0_begin_56 : decode (dc DX0_begin) 56 = .ok (.iastore, 1) := by decide +kernel
theorem dX0_begin_57 : decode (dc DX0_begin) 57 = .ok (.aload_n 0, 1) := by decide +kernel
theorem dX0_begin_58 : decode (dc DX0_begin) 58 = .ok (.getfield 18, 3) := by decide +kernel
theorem dX0_begin_61 : decode (dc DX0_begin) 61 = .ok (.iload_n 3, 1) := by decide +kernel
theorem dX0_begin_62 : decode (dc DX0_begin) 62 = .ok (.iconst 0, 1) := by decide +kernel
theorem dX0_begin_63 : decode (dc DX0_begin) 63 = .ok (.iastore, 1) := by decide +kernel
theorem dX0_begin_64 : decode (dc DX0_begin) 64 = .ok (.iinc 3 1, 3) := by decide +kernel
theorem dX0_begin_67 : decode (dc DX0_begin) 67 = .ok (.goto (-30), 3) := by decide +kernel
theorem dX0_begin_70 : decode (dc DX0_begin) 70 = .ok (.iconst 0, 1) := by decide +kernel
theorem dX0_begin_71 : decode (dc DX0_begin) 71 = .ok (.istore_n 3, 1) := by decide +kernel
theorem dX0_begin_72 : decode (dc DX0_begin) 72 = .ok (.iload_n 3, 1) := by decide +kernel
theorem dX0_begin_73 : decode (dc DX0_begin) 73 = .ok (.sipush 144, 3) := by decide +kernel
theorem dX0_begin_76 : decode (dc DX0_begin) 76 = .ok (.if_icmp .ge 16, 3) := by decide +kernel
theorem dX0_begin_79 : decode (dc DX0_begin) 79 = .ok (.aload_n 0, 1) := by decide +kernel
theorem dX0_begin_80 : decode (dc DX0_begin) 80 = .ok (.getfield 21, 3) := by decide +kernel
theorem dX0_begin_83 : decode (dc DX0_begin) 83 = .ok (.iload_n 3, 1) := by decide +kernel
theorem dX0_begin_84 : decode (dc DX0_begin) 84 = .ok (.iconst (-1), 1) := by decide +kernel
theorem dX0_begin_85 : decode (dc DX0_begin) 85 = .ok (.iastore, 1) := by decide +kernel
theorem dX0_begin_86 : decode (dc DX0_begin) 86 = .ok (.iinc 3 1, 3) := by decide +kernel
theorem dX0_begin_89 : decode (dc DX0_begin) 89 = .ok (.goto (-17), 3) := by decide +kernel
theorem dX0_begin_92 : decode (dc DX0_begin) 92 = .ok (.aload_n 0, 1) := by decide +kernel
theorem dX0_begin_93 : decode (dc DX0_begin) 93 = .ok (.getfield 27, 3) := by decide +kernel
theorem dX0_begin_96 : decode (dc DX0_begin) 96 = .ok (.invokevirtual 55, 3) := by decide +kernel
theorem dX0_begin_99 : decode (dc DX0_begin) 99 = .ok (.return_, 1) := by decide +kernel
theorem dX3_init_0 : decode (dc DX3_init) 0 = .ok (.aload_n 0, 1) := by decide +kernel
theorem dX3_init_1 : decode (dc DX3_init) 1 = .ok (.invokespecial 3, 3) := by decide +kernel
theorem dX3_init_4 : decode (dc DX3_init) 4 = .ok (.aload_n 0, 1) := by decide +kernel
theorem dX3_init_5 : decode (dc DX3_init) 5 = .ok (.bipush 12, 2) := by decide +kernel
theorem dX3_init_7 : decode (dc DX3_init) 7 = .ok (.newarray .int, 2) := by decide +kernel
theorem dX3_init_9 : decode (dc DX3_init) 9 = .ok (.putfield 9, 3) := by decide +kernel
theorem dX3_init_12 : decode (dc DX3_init) 12 = .ok (.aload_n 0, 1) := by decide +kernel
theorem dX3_init_13 : decode (dc DX3_init) 13 = .ok (.bipush 12, 2) := by decide +kernel
theorem dX3_init_15 : decode (dc DX3_init) 15 = .ok (.newarray .int, 2) := by decide +kernel
theorem dX3_init_17 : decode (dc DX3_init) 17 = .ok (.putfield 15, 3) := by decide +kernel
theorem dX3_init_20 : decode (dc DX3_init) 20 = .ok (.aload_n 0, 1) := by decide +kernel
theorem dX3_init_21 : decode (dc DX3_init) 21 = .ok (.invokevirtual 18, 3) := by decide +kernel
theorem dX3_init_24 : decode (dc DX3_init) 24 = .ok (.return_, 1) := by decide +kernel
theorem dX0_init_0 : decode (dc DX0_init) 0 = .ok (.aload_n 0, 1) := by decide +kernel
theorem dX0_init_1 : decode (dc DX0_init) 1 = .ok (.invokespecial 3, 3) := by decide +kernel
theorem dX0_init_4 : decode (dc DX0_init) 4 = .ok (.aload_n 0, 1) := by decide +kernel
theorem dX0_init_5 : decode (dc DX0_init) 5 = .ok (.bipush 12, 2) := by decide +kernel
theorem dX0_init_7 : decode (dc DX0_init) 7 = .ok (.newarray .int, 2) := by decide +kernel
theorem dX0_init_9 : decode (dc DX0_init) 9 = .ok (.putfield 9, 3) := by decide +kernel
theorem dX0_init_12 : decode (dc DX0_init) 12 = .ok (.aload_n 0, 1) := by decide +kernel
theorem dX0_init_13 : decode (dc DX0_init) 13 = .ok (.bipush 12, 2) := by decide +kernel
theorem dX0_init_15 : decode (dc DX0_init) 15 = .ok (.newarray .int, 2) := by decide +kernel
theorem dX0_init_17 : decode (dc DX0_init) 17 = .ok (.putfield 15, 3) := by decide +kernel
theorem dX0_init_20 : decode (dc DX0_init) 20 = .ok (.aload_n 0, 1) := by decide +kernel
theorem dX0_init_21 : decode (dc DX0_init) 21 = .ok (.bipush 12, 2) := by decide +kernel
theorem dX0_init_23 : decode (dc DX0_init) 23 = .ok (.newarray .int, 2) := by decide +kernel
theorem dX0_init_25 : decode (dc DX0_init) 25 = .ok (.putfield 18, 3) := by decide +kernel
theorem dX0_init_28 : decode (dc DX0_init) 28 = .ok (.aload_n 0, 1) := by decide +kernel
theorem dX0_init_29 : decode (dc DX0_init) 29 = .ok (.sipush 144, 3) := by decide +kernel
theorem dX0_init_32 : decode (dc DX0_init) 32 = .ok (.newarray .int, 2) := by decide +kernel
theorem dX0_init_34 : decode (dc DX0_init) 34 = .ok (.putfield 21, 3) := by decide +kernel
theorem dX0_init_37 : decode (dc DX0_init) 37 = .ok (.aload_n 0, 1) := by decide +kernel
theorem dX0_init_38 : decode (dc DX0_init) 38 = .ok (.new 24, 3) := by decide +kernel
theorem dX0_init_41 : decode (dc DX0_init) 41 = .ok (.dup, 1) := by decide +kernel
theorem dX0_init_42 : decode (dc DX0_init) 42 = .ok (.invokespecial 26, 3) := by decide +kernel
theorem dX0_init_45 : decode (dc DX0_init) 45 = .ok (.putfield 27, 3) := by decide +kernel
theorem dX0_init_48 : decode (dc DX0_init) 48 = .ok (.aload_n 0, 1) := by decide +kernel
theorem dX0_init_49 : decode (dc DX0_init) 49 = .ok (.iconst 1, 1) := by decide +kernel
theorem dX0_init_50 : decode (dc DX0_init) 50 = .ok (.iconst 1, 1) := by decide +kernel
theorem dX0_init_51 : decode (dc DX0_init) 51 = .ok (.invokevirtual 31, 3) := by decide +kernel
theorem dX0_init_54 : decode (dc DX0_init) 54 = .ok (.return_, 1) := by decide +kernel
theorem dX3_copy_0 : decode (dc DX3_copy) 0 = .ok (.iconst 0, 1) := by decide +kernel
theorem dX3_copy_1 : decode (dc DX3_copy) 1 = .ok (.istore_n 2, 1) := by decide +kernel
theorem dX3_copy_2 : decode (dc DX3_copy) 2 = .ok (.iload_n 2, 1) := by decide +kernel
theorem dX3_copy_3 : decode (dc DX3_copy) 3 = .ok (.bipush 12, 2) := by decide +kernel
theorem dX3_copy_5 : decode (dc DX3_copy) 5 = .ok (.if_icmp .ge 33, 3) := by decide +kernel
theorem dX3_copy_8 : decode (dc DX3_copy) 8 = .ok (.aload_n 0, 1) := by decide +kernel
theorem dX3_copy_9 : decode (dc DX3_copy) 9 = .ok (.getfield 9, 3) := by decide +kernel
theorem dX3_copy_12 : decode (dc DX3_copy) 12 = .ok (.iload_n 2, 1) := by decide +kernel
theorem dX3_copy_13 : decode (dc DX3_copy) 13 = .ok (.aload_n 1, 1) := by decide +kernel
theorem dX3_copy_14 : decode (dc DX3_copy) 14 = .ok (.getfield 9, 3) := by decide +kernel
theorem dX3_copy_17 : decode (dc DX3_copy) 17 = .ok (.iload_n 2, 1) := by decide +kernel
theorem dX3_copy_18 : decode (dc DX3_copy) 18 = .ok (.iaload, 1) := by decide +kernel
theorem dX3_copy_19 : decode (dc DX3_copy) 19 = .ok (.iastore, 1) := by decide +kernel
theorem dX3_copy_20 : decode (dc DX3_copy) 20 = .ok (.aload_n 0, 1) := by decide +kernel
theorem dX3_copy_21 : decode (dc DX3_copy) 21 = .ok (.getfield 15, 3) := by decide +kernel
theorem dX3_copy_24 : decode (dc DX3_copy) 24 = .ok (.iload_n 2, 1) := by decide +kernel
theorem dX3_copy_25 : decode (dc DX3_copy) 25 = .ok (.aload_n 1, 1) := by decide +kernel
theorem dX3_copy_26 : decode (dc DX3_copy) 26 = .ok (.getfield 15, 3) := by decide +kernel
theorem dX3_copy_29 : decode (dc DX3_copy) 29 = .ok (.iload_n 2, 1) := by decide +kernel
theorem dX3_copy_30 : decode (dc DX3_copy) 30 = .ok (.iaload, 1) := by decide +kernel
theorem dX3_copy_31 : decode (dc DX3_copy) 31 = .ok (.iastore, 1) := by decide +kernel
theorem dX3_copy_32 : decode (dc DX3_copy) 32 = .ok (.iinc 2 1, 3) := by decide +kernel
theorem dX3_copy_35 : decode (dc DX3_copy) 35 = .ok (.goto (-33), 3) := by decide +kernel
theorem dX3_copy_38 : decode (dc DX3_copy) 38 = .ok (.return_, 1) := by decide +kernel
theorem dX0_copy_0 : decode (dc DX0_copy) 0 = .ok (.aload_n 0, 1) := by decide +kernel
theorem dX0_copy_1 : decode (dc DX0_copy) 1 = .ok (.aload_n 1, 1) := by decide +kernel
theorem dX0_copy_2 : decode (dc DX0_copy) 2 = .ok (.getfield 35, 3) := by decide +kernel
theorem dX0_copy_5 : decode (dc DX0_copy) 5 = .ok (.putfield 35, 3) := by decide +kernel
theorem dX0_copy_8 : decode (dc DX0_copy) 8 = .ok (.aload_n 0, 1) := by decide +kernel
theorem dX0_copy_9 : decode (dc DX0_copy) 9 = .ok (.aload_n 1, 1) := by decide +kernel
theorem dX0_copy_10 : decode (dc DX0_copy) 10 = .ok (.getfield 39, 3) := by decide +kernel
theorem dX0_copy_13 : decode (dc DX0_copy) 13 = .ok (.putfield 39, 3) := by decide +kernel
theorem dX0_copy_16 : decode (dc DX0_copy) 16 = .ok (.aload_n 0, 1) := by decide +kernel
theorem dX0_copy_17 : decode (dc DX0_copy) 17 = .ok (.aload_n 1, 1) := by decide +kernel
theorem dX0_copy_18 : decode (dc DX0_copy) 18 = .ok (.getfield 46, 3) := by decide +kernel
theorem dX0_copy_21 : decode (dc DX0_copy) 21 = .ok (.putfield 46, 3) := by decide +kernel
theorem dX0_copy_24 : decode (dc DX0_copy) 24 = .ok (.aload_n 0, 1) := by decide +kernel
theorem dX0_copy_25 : decode (dc DX0_copy) 25 = .ok (.aload_n 1, 1) := by decide +kernel
theorem dX0_copy_26 : decode (dc DX0_copy) 26 = .ok (.getfield 49, 3) := by decide +kernel
theorem dX0_copy_29 : decode (dc DX0_copy) 29 = .ok (.putfield 49, 3) := by decide +kernel
theorem dX0_copy_32 : decode (dc DX0_copy) 32 = .ok (.aload_n 0, 1) := by decide +kernel
theorem dX0_copy_33 : decode (dc DX0_copy) 33 = .ok (.aload_n 1, 1) := by decide +kernel
theorem dX0_copy_34 : decode (dc DX0_copy) 34 = .ok (.getfield 52, 3) := by decide +kernel
theorem dX0_copy_37 : decode (dc DX0_copy) 37 = .ok (.putfield 52, 3) := by decide +kernel
theorem dX0_copy_40 : decode (dc DX0_copy) 40 = .ok (.iconst 0, 1) := by decide +kernel
theorem dX0_copy_41 : decode (dc DX0_copy) 41 = .ok (.istore_n 2, 1) := by decide +kernel
theorem dX0_copy_42 : decode (dc DX0_copy) 42 = .ok (.iload_n 2, 1) := by decide +kernel
theorem dX0_copy_43 : decode (dc DX0_copy) 43 = .ok (.bipush 12, 2) := by decide +kernel
theorem dX0_copy_45 : decode (dc DX0_copy) 45 = .ok (.if_icmp .ge 45, 3) := by decide +kernel
theorem dX0_copy_48 : decode (dc DX0_copy) 48 = .ok (.aload_n 0, 1) := by decide +kernel
theorem dX0_copy_49 : decode (dc DX0_copy) 49 = .ok (.getfield 9, 3) := by decide +kernel
theorem dX0_copy_52 : decode (dc DX0_copy) 52 = .ok (.iload_n 2, 1) := by decide +kernel
theorem dX0_copy_53 : decode (dc DX0_copy) 53 = .ok (.aload_n 1, 1) := by decide +kernel
theorem dX0_copy_54 : decode (dc DX0_copy) 54 = .ok (.getfield 9, 3) := by decide +kernel
theorem dX0_copy_57 : decode (dc DX0_copy) 57 = .ok (.iload_n 2, 1) := by decide +kernel
theorem dX0_copy_58 : decode (dc DX0_copy) 58 = .ok (.iaload, 1) := by decide +kernel
theorem dX0_copy_59 : decode (dc DX0_copy) 59 = .ok (.iastore, 1) := by decide +kernel
theorem dX0_copy_60 : decode (dc DX0_copy) 60 = .ok (.aload_n 0, 1) := by decide +kernel
theorem dX0_copy_61 : decode (dc DX0_copy) 61 = .ok (.getfield 15, 3) := by decide +kernel
theorem dX0_copy_64 : decode (dc DX0_copy) 64 = .ok (.iload_n 2, 1) := by decide +kernel
theorem dX0_copy_65 : decode (dc DX0_copy) 65 = .ok (.aload_n 1, 1) := by decide +kernel
theorem dX0_copy_66 : decode (dc DX0_copy) 66 = .ok (.getfield 15, 3) := by decide +kernel
theorem dX0_copy_69 : decode (dc DX0_copy) 69 = .ok (.iload_n 2, 1) := by decide +kernel
theorem dX0_copy_70 : decode (dc DX0_copy) 70 = .ok (.iaload, 1) := by decide +kernel
theorem dX0_copy_71 : decode (dc DX0_copy) 71 = .ok (.iastore, 1) := by decide +kernel
theorem dX0_copy_72 : decode (dc DX0_copy) 72 = .ok (.aload_n 0, 1) := by decide +kernel
theorem dX0_copy_73 : decode (dc DX0_copy) 73 = .ok (.getfield 18, 3) := by decide +kernel
theorem dX0_copy_76 : decode (dc DX0_copy) 76 = .ok (.iload_n 2, 1) := by decide +kernel
theorem dX0_copy_77 : decode (dc DX0_copy) 77 = .ok (.aload_n 1, 1) := by decide +kernel
theorem dX0_copy_78 : decode (dc DX0_copy) 78 = .ok (.getfield 18, 3) := by decide +kernel
theorem dX0_copy_81 : decode (dc DX0_copy) 81 = .ok (.iload_n 2, 1) := by decide +kernel
theorem dX0_copy_82 : decode (dc DX0_copy) 82 = .ok (.iaload, 1) := by decide +kernel
theorem dX0_copy_83 : decode (dc DX0_copy) 83 = .ok (.iastore, 1) := by decide +kernel
theorem dX0_copy_84 : decode (dc DX0_copy) 84 = .ok (.iinc 2 1, 3) := by decide +kernel
theorem dX0_copy_87 : decode (dc DX0_copy) 87 = .ok (.goto (-45), 3) := by decide +kernel
theorem dX0_copy_90 : decode (dc DX0_copy) 90 = .ok (.aload_n 1, 1) := by decide +kernel
theorem dX0_copy_91 : decode (dc DX0_copy) 91 = .ok (.getfield 21, 3) := by decide +kernel
theorem dX0_copy_94 : decode (dc DX0_copy) 94 = .ok (.iconst 0, 1) := by decide +kernel
theorem dX0_copy_95 : decode (dc DX0_copy) 95 = .ok (.aload_n 0, 1) := by decide +kernel
theorem dX0_copy_96 : decode (dc DX0_copy) 96 = .ok (.getfield 21, 3) := by decide +kernel
theorem dX0_copy_99 : decode (dc DX0_copy) 99 = .ok (.iconst 0, 1) := by decide +kernel
theorem dX0_copy_100 : decode (dc DX0_copy) 100 = .ok (.sipush 144, 3) := by decide +kernel
theorem dX0_copy_103 : decode (dc DX0_copy) 103 = .ok (.invokestatic 58, 3) := by decide +kernel
theorem dX0_copy_106 : decode (dc DX0_copy) 106 = .ok (.aload_n 0, 1) := by decide +kernel
theorem dX0_copy_107 : decode (dc DX0_copy) 107 = .ok (.getfield 27, 3) := by decide +kernel
theorem dX0_copy_110 : decode (dc DX0_copy) 110 = .ok (.aload_n 1, 1) := by decide +kernel
theorem dX0_copy_111 : decode (dc DX0_copy) 111 = .ok (.getfield 27, 3) := by decide +kernel
theorem dX0_copy_114 : decode (dc DX0_copy) 114 = .ok (.invokevirtual 64, 3) := by decide +kernel
theorem dX0_copy_117 : decode (dc DX0_copy) 117 = .ok (.return_, 1) := by decide +kernel
theorem dX0_knows_0 : decode (dc DX0_knows) 0 = .ok (.iload_n 2, 1) := by decide +kernel
theorem dX0_knows_1 : decode (dc DX0_knows) 1 = .ok (.ifCond .lt 32, 3) := by decide +kernel
theorem dX0_knows_4 : decode (dc DX0_knows) 4 = .ok (.iload_n 1, 1) := by decide +kernel
theorem dX0_knows_5 : decode (dc DX0_knows) 5 = .ok (.ifCond .ne 11, 3) := by decide +kernel
theorem dX0_knows_8 : decode (dc DX0_knows) 8 = .ok (.iload_n 2, 1) := by decide +kernel
theorem dX0_knows_9 : decode (dc DX0_knows) 9 = .ok (.aload_n 0, 1) := by decide +kernel
theorem dX0_knows_10 : decode (dc DX0_knows) 10 = .ok (.getfield 35, 3) := by decide +kernel
theorem dX0_knows_13 : decode (dc DX0_knows) 13 = .ok (.if_icmp .lt 16, 3) := by decide +kernel
theorem dX0_knows_16 : decode (dc DX0_knows) 16 = .ok (.iload_n 1, 1) := by decide +kernel
theorem dX0_knows_17 : decode (dc DX0_knows) 17 = .ok (.iconst 1, 1) := by decide +kernel
theorem dX0_knows_18 : decode (dc DX0_knows) 18 = .ok (.if_icmp .ne 15, 3) := by decide +kernel
theorem dX0_knows_21 : decode (dc DX0_knows) 21 = .ok (.iload_n 2, 1) := by decide +kernel
theorem dX0_knows_22 : decode (dc DX0_knows) 22 = .ok (.aload_n 0, 1) := by decide +kernel
theorem dX0_knows_23 : decode (dc DX0_knows) 23 = .ok (.getfield 39, 3) := by decide +kernel
theorem dX0_knows_26 : decode (dc DX0_knows) 26 = .ok (.if_icmp .ge 7, 3) := by decide +kernel
theorem dX0_knows_29 : decode (dc DX0_knows) 29 = .ok (.iconst 1, 1) := by decide +kernel
theorem dX0_knows_30 : decode (dc DX0_knows) 30 = .ok (.goto 4, 3) := by decide +kernel
theorem dX0_knows_33 : decode (dc DX0_knows) 33 = .ok (.iconst 0, 1) := by decide +kernel
theorem dX0_knows_34 : decode (dc DX0_knows) 34 = .ok (.ireturn, 1) := by decide +kernel
theorem dX0_knowsBoth_0 : decode (dc DX0_knowsBoth) 0 = .ok (.aload_n 0, 1) := by decide +kernel
theorem dX0_knowsBoth_1 : decode (dc DX0_knowsBoth) 1 = .ok (.iconst 0, 1) := by decide +kernel
theorem dX0_knowsBoth_2 : decode (dc DX0_knowsBoth) 2 = .ok (.iload_n 1, 1) := by decide +kernel
theorem dX0_knowsBoth_3 : decode (dc DX0_knowsBoth) 3 = .ok (.invokevirtual 68, 3) := by decide +kernel
theorem dX0_knowsBoth_6 : decode (dc DX0_knowsBoth) 6 = .ok (.ifCond .eq 16, 3) := by decide +kernel
theorem dX0_knowsBoth_9 : decode (dc DX0_knowsBoth) 9 = .ok (.aload_n 0, 1) := by decide +kernel
theorem dX0_knowsBoth_10 : decode (dc DX0_knowsBoth) 10 = .ok (.iconst 1, 1) := by decide +kernel
theorem dX0_knowsBoth_11 : decode (dc DX0_knowsBoth) 11 = .ok (.iload_n 2, 1) := by decide +kernel
theorem dX0_knowsBoth_12 : decode (dc DX0_knowsBoth) 12 = .ok (.invokevirtual 68, 3) := by decide +kernel
theorem dX0_knowsBoth_15 : decode (dc DX0_knowsBoth) 15 = .ok (.ifCond .eq 7, 3) := by decide +kernel
theorem dX0_knowsBoth_18 : decode (dc DX0_knowsBoth) 18 = .ok (.iconst 1, 1) := by decide +kernel
theorem dX0_knowsBoth_19 : decode (dc DX0_knowsBoth) 19 = .ok (.goto 4, 3) := by decide +kernel
theorem dX0_knowsBoth_22 : decode (dc DX0_knowsBoth) 22 = .ok (.iconst 0, 1) := by decide +kernel
theorem dX0_knowsBoth_23 : decode (dc DX0_knowsBoth) 23 = .ok (.ireturn, 1) := by decide +kernel
theorem dX9_has_0 : decode (dc DX9_has) 0 = .ok (.iload_n 0, 1) := by decide +kernel
theorem dX9_has_1 : decode (dc DX9_has) 1 = .ok (.iload_n 1, 1) := by decide +kernel
theorem dX9_has_2 : decode (dc DX9_has) 2 = .ok (.ishr, 1) := by decide +kernel
theorem dX9_has_3 : decode (dc DX9_has) 3 = .ok (.iconst 1, 1) := by decide +kernel
theorem dX9_has_4 : decode (dc DX9_has) 4 = .ok (.iand, 1) := by decide +kernel
theorem dX9_has_5 : decode (dc DX9_has) 5 = .ok (.ifCond .eq 7, 3) := by decide +kernel
theorem dX9_has_8 : decode (dc DX9_has) 8 = .ok (.iconst 1, 1) := by decide +kernel
theorem dX9_has_9 : decode (dc DX9_has) 9 = .ok (.goto 4, 3) := by decide +kernel
theorem dX9_has_12 : decode (dc DX9_has) 12 = .ok (.iconst 0, 1) := by decide +kernel
theorem dX9_has_13 : decode (dc DX9_has) 13 = .ok (.ireturn, 1) := by decide +kernel
theorem dX0_isThere_0 : decode (dc DX0_isThere) 0 = .ok (.aload_n 0, 1) := by decide +kernel
theorem dX0_isThere_1 : decode (dc DX0_isThere) 1 = .ok (.iload_n 1, 1) := by decide +kernel
theorem dX0_isThere_2 : decode (dc DX0_isThere) 2 = .ok (.iload_n 2, 1) := by decide +kernel
theorem dX0_isThere_3 : decode (dc DX0_isThere) 3 = .ok (.invokevirtual 68, 3) := by decide +kernel
theorem dX0_isThere_6 : decode (dc DX0_isThere) 6 = .ok (.ifCond .eq 29, 3) := by decide +kernel
theorem dX0_isThere_9 : decode (dc DX0_isThere) 9 = .ok (.iload_n 1, 1) := by decide +kernel
theorem dX0_isThere_10 : decode (dc DX0_isThere) 10 = .ok (.ifCond .ne 10, 3) := by decide +kernel
theorem dX0_isThere_13 : decode (dc DX0_isThere) 13 = .ok (.aload_n 0, 1) := by decide +kernel
theorem dX0_isThere_14 : decode (dc DX0_isThere) 14 = .ok (.getfield 46, 3) := by decide +kernel
theorem dX0_isThere_17 : decode (dc DX0_isThere) 17 = .ok (.goto 7, 3) := by decide +kernel
theorem dX0_isThere_20 : decode (dc DX0_isThere) 20 = .ok (.aload_n 0, 1) := by decide +kernel
theorem dX0_isThere_21 : decode (dc DX0_isThere) 21 = .ok (.getfield 49, 3) := by decide +kernel
theorem dX0_isThere_24 : decode (dc DX0_isThere) 24 = .ok (.iload_n 2, 1) := by decide +kernel
theorem dX0_isThere_25 : decode (dc DX0_isThere) 25 = .ok (.invokestatic 72, 3) := by decide +kernel
theorem dX0_isThere_28 : decode (dc DX0_isThere) 28 = .ok (.ifCond .eq 7, 3) := by decide +kernel
theorem dX0_isThere_31 : decode (dc DX0_isThere) 31 = .ok (.iconst 1, 1) := by decide +kernel
theorem dX0_isThere_32 : decode (dc DX0_isThere) 32 = .ok (.goto 4, 3) := by decide +kernel
theorem dX0_isThere_35 : decode (dc DX0_isThere) 35 = .ok (.iconst 0, 1) := by decide +kernel
theorem dX0_isThere_36 : decode (dc DX0_isThere) 36 = .ok (.ireturn, 1) := by decide +kernel
theorem dX3_taskOf_0 : decode (dc DX3_taskOf) 0 = .ok (.iload_n 1, 1) := by decide +kernel
theorem dX3_taskOf_1 : decode (dc DX3_taskOf) 1 = .ok (.ifCond .lt 18, 3) := by decide +kernel
theorem dX3_taskOf_4 : decode (dc DX3_taskOf) 4 = .ok (.iload_n 1, 1) := by decide +kernel
theorem dX3_taskOf_5 : decode (dc DX3_taskOf) 5 = .ok (.bipush 12, 2) := by decide +kernel
theorem dX3_taskOf_7 : decode (dc DX3_taskOf) 7 = .ok (.if_icmp .ge 12, 3) := by decide +kernel
theorem dX3_taskOf_10 : decode (dc DX3_taskOf) 10 = .ok (.aload_n 0, 1) := by decide +kernel
theorem dX3_taskOf_11 : decode (dc DX3_taskOf) 11 = .ok (.getfield 9, 3) := by decide +kernel
theorem dX3_taskOf_14 : decode (dc DX3_taskOf) 14 = .ok (.iload_n 1, 1) := by decide +kernel
theorem dX3_taskOf_15 : decode (dc DX3_taskOf) 15 = .ok (.iaload, 1) := by decide +kernel
theorem dX3_taskOf_16 : decode (dc DX3_taskOf) 16 = .ok (.goto 4, 3) := by decide +kernel
theorem dX3_taskOf_19 : decode (dc DX3_taskOf) 19 = .ok (.iconst (-1), 1) := by decide +kernel
theorem dX3_taskOf_20 : decode (dc DX3_taskOf) 20 = .ok (.ireturn, 1) := by decide +kernel
theorem dX3_workerOf_0 : decode (dc DX3_workerOf) 0 = .ok (.iload_n 1, 1) := by decide +kernel
theorem dX3_workerOf_1 : decode (dc DX3_workerOf) 1 = .ok (.ifCond .lt 18, 3) := by decide +kernel
theorem dX3_workerOf_4 : decode (dc DX3_workerOf) 4 = .ok (.iload_n 1, 1) := by decide +kernel
theorem dX3_workerOf_5 : decode (dc DX3_workerOf) 5 = .ok (.bipush 12, 2) := by decide +kernel
theorem dX3_workerOf_7 : decode (dc DX3_workerOf) 7 = .ok (.if_icmp .ge 12, 3) := by decide +kernel
theorem dX3_workerOf_10 : decode (dc DX3_workerOf) 10 = .ok (.aload_n 0, 1) := by decide +kernel
theorem dX3_workerOf_11 : decode (dc DX3_workerOf) 11 = .ok (.getfield 15, 3) := by decide +kernel
theorem dX3_workerOf_14 : decode (dc DX3_workerOf) 14 = .ok (.iload_n 1, 1) := by decide +kernel
theorem dX3_workerOf_15 : decode (dc DX3_workerOf) 15 = .ok (.iaload, 1) := by decide +kernel
theorem dX3_workerOf_16 : decode (dc DX3_workerOf) 16 = .ok (.goto 4, 3) := by decide +kernel
theorem dX3_workerOf_19 : decode (dc DX3_workerOf) 19 = .ok (.iconst (-1), 1) := by decide +kernel
theorem dX3_workerOf_20 : decode (dc DX3_workerOf) 20 = .ok (.ireturn, 1) := by decide +kernel
theorem dX0_partnerOf_0 : decode (dc DX0_partnerOf) 0 = .ok (.iload_n 1, 1) := by decide +kernel
theorem dX0_partnerOf_1 : decode (dc DX0_partnerOf) 1 = .ok (.ifCond .ne 14, 3) := by decide +kernel
theorem dX0_partnerOf_4 : decode (dc DX0_partnerOf) 4 = .ok (.aload_n 0, 1) := by decide +kernel
theorem dX0_partnerOf_5 : decode (dc DX0_partnerOf) 5 = .ok (.getfield 27, 3) := by decide +kernel
theorem dX0_partnerOf_8 : decode (dc DX0_partnerOf) 8 = .ok (.iload_n 2, 1) := by decide +kernel
theorem dX0_partnerOf_9 : decode (dc DX0_partnerOf) 9 = .ok (.invokevirtual 75, 3) := by decide +kernel
theorem dX0_partnerOf_12 : decode (dc DX0_partnerOf) 12 = .ok (.goto 11, 3) := by decide +kernel
theorem dX0_partnerOf_15 : decode (dc DX0_partnerOf) 15 = .ok (.aload_n 0, 1) := by decide +kernel
theorem dX0_partnerOf_16 : decode (dc DX0_partnerOf) 16 = .ok (.getfield 27, 3) := by decide +kernel
theorem dX0_partnerOf_19 : decode (dc DX0_partnerOf) 19 = .ok (.iload_n 2, 1) := by decide +kernel
theorem dX0_partnerOf_20 : decode (dc DX0_partnerOf) 20 = .ok (.invokevirtual 78, 3) := by decide +kernel
theorem dX0_partnerOf_23 : decode (dc DX0_partnerOf) 23 = .ok (.ireturn, 1) := by decide +kernel
theorem dX0_isFree_0 : decode (dc DX0_isFree) 0 = .ok (.aload_n 0, 1) := by decide +kernel
theorem dX0_isFree_1 : decode (dc DX0_isFree) 1 = .ok (.iload_n 1, 1) := by decide +kernel
theorem dX0_isFree_2 : decode (dc DX0_isFree) 2 = .ok (.iload_n 2, 1) := by decide +kernel
theorem dX0_isFree_3 : decode (dc DX0_isFree) 3 = .ok (.invokevirtual 81, 3) := by decide +kernel
theorem dX0_isFree_6 : decode (dc DX0_isFree) 6 = .ok (.ifCond .eq 17, 3) := by decide +kernel
theorem dX0_isFree_9 : decode (dc DX0_isFree) 9 = .ok (.aload_n 0, 1) := by decide +kernel
theorem dX0_isFree_10 : decode (dc DX0_isFree) 10 = .ok (.iload_n 1, 1) := by decide +kernel
theorem dX0_isFree_11 : decode (dc DX0_isFree) 11 = .ok (.iload_n 2, 1) := by decide +kernel
theorem dX0_isFree_12 : decode (dc DX0_isFree) 12 = .ok (.invokevirtual 84, 3) := by decide +kernel
theorem dX0_isFree_15 : decode (dc DX0_isFree) 15 = .ok (.iconst (-1), 1) := by decide +kernel
theorem dX0_isFree_16 : decode (dc DX0_isFree) 16 = .ok (.if_icmp .ne 7, 3) := by decide +kernel
theorem dX0_isFree_19 : decode (dc DX0_isFree) 19 = .ok (.iconst 1, 1) := by decide +kernel
theorem dX0_isFree_20 : decode (dc DX0_isFree) 20 = .ok (.goto 4, 3) := by decide +kernel
theorem dX0_isFree_23 : decode (dc DX0_isFree) 23 = .ok (.iconst 0, 1) := by decide +kernel
theorem dX0_isFree_24 : decode (dc DX0_isFree) 24 = .ok (.ireturn, 1) := by decide +kernel
theorem dX9_inLimit_0 : decode (dc DX9_inLimit) 0 = .ok (.iload_n 0, 1) := by decide +kernel
theorem dX9_inLimit_1 : decode (dc DX9_inLimit) 1 = .ok (.ifCond .lt 13, 3) := by decide +kernel
theorem dX9_inLimit_4 : decode (dc DX9_inLimit) 4 = .ok (.iload_n 0, 1) := by decide +kernel
theorem dX9_inLimit_5 : decode (dc DX9_inLimit) 5 = .ok (.bipush 12, 2) := by decide +kernel
theorem dX9_inLimit_7 : decode (dc DX9_inLimit) 7 = .ok (.if_icmp .ge 7, 3) := by decide +kernel
theorem dX9_inLimit_10 : decode (dc DX9_inLimit) 10 = .ok (.iconst 1, 1) := by decide +kernel
theorem dX9_inLimit_11 : decode (dc DX9_inLimit) 11 = .ok (.goto 4, 3) := by decide +kernel
theorem dX9_inLimit_14 : decode (dc DX9_inLimit) 14 = .ok (.iconst 0, 1) := by decide +kernel
theorem dX9_inLimit_15 : decode (dc DX9_inLimit) 15 = .ok (.ireturn, 1) := by decide +kernel
theorem dX0_costOf_0 : decode (dc DX0_costOf) 0 = .ok (.iload_n 1, 1) := by decide +kernel
theorem dX0_costOf_1 : decode (dc DX0_costOf) 1 = .ok (.invokestatic 88, 3) := by decide +kernel
theorem dX0_costOf_4 : decode (dc DX0_costOf) 4 = .ok (.ifCond .eq 24, 3) := by decide +kernel
theorem dX0_costOf_7 : decode (dc DX0_costOf) 7 = .ok (.iload_n 2, 1) := by decide +kernel
theorem dX0_costOf_8 : decode (dc DX0_costOf) 8 = .ok (.invokestatic 88, 3) := by decide +kernel
theorem dX0_costOf_11 : decode (dc DX0_costOf) 11 = .ok (.ifCond .eq 17, 3) := by decide +kernel
theorem dX0_costOf_14 : decode (dc DX0_costOf) 14 = .ok (.aload_n 0, 1) := by decide +kernel
theorem dX0_costOf_15 : decode (dc DX0_costOf) 15 = .ok (.getfield 21, 3) := by decide +kernel
theorem dX0_costOf_18 : decode (dc DX0_costOf) 18 = .ok (.iload_n 1, 1) := by decide +kernel
theorem dX0_costOf_19 : decode (dc DX0_costOf) 19 = .ok (.bipush 12, 2) := by decide +kernel
theorem dX0_costOf_21 : decode (dc DX0_costOf) 21 = .ok (.imul, 1) := by decide +kernel
theorem dX0_costOf_22 : decode (dc DX0_costOf) 22 = .ok (.iload_n 2, 1) := by decide +kernel
theorem dX0_costOf_23 : decode (dc DX0_costOf) 23 = .ok (.iadd, 1) := by decide +kernel
theorem dX0_costOf_24 : decode (dc DX0_costOf) 24 = .ok (.iaload, 1) := by decide +kernel
theorem dX0_costOf_25 : decode (dc DX0_costOf) 25 = .ok (.goto 4, 3) := by decide +kernel
theorem dX0_costOf_28 : decode (dc DX0_costOf) 28 = .ok (.iconst (-1), 1) := by decide +kernel
theorem dX0_costOf_29 : decode (dc DX0_costOf) 29 = .ok (.ireturn, 1) := by decide +kernel
theorem dX0_isFit_0 : decode (dc DX0_isFit) 0 = .ok (.aload_n 0, 1) := by decide +kernel
theorem dX0_isFit_1 : decode (dc DX0_isFit) 1 = .ok (.iload_n 1, 1) := by decide +kernel
theorem dX0_isFit_2 : decode (dc DX0_isFit) 2 = .ok (.iload_n 2, 1) := by decide +kernel
theorem dX0_isFit_3 : decode (dc DX0_isFit) 3 = .ok (.invokevirtual 92, 3) := by decide +kernel
theorem dX0_isFit_6 : decode (dc DX0_isFit) 6 = .ok (.iconst (-1), 1) := by decide +kernel
theorem dX0_isFit_7 : decode (dc DX0_isFit) 7 = .ok (.if_icmp .eq 7, 3) := by decide +kernel
theorem dX0_isFit_10 : decode (dc DX0_isFit) 10 = .ok (.iconst 1, 1) := by decide +kernel
theorem dX0_isFit_11 : decode (dc DX0_isFit) 11 = .ok (.goto 4, 3) := by decide +kernel
theorem dX0_isFit_14 : decode (dc DX0_isFit) 14 = .ok (.iconst 0, 1) := by decide +kernel
theorem dX0_isFit_15 : decode (dc DX0_isFit) 15 = .ok (.ireturn, 1) := by decide +kernel
theorem dX0_tasksFor_0 : decode (dc DX0_tasksFor) 0 = .ok (.iload_n 1, 1) := by decide +kernel
theorem dX0_tasksFor_1 : decode (dc DX0_tasksFor) 1 = .ok (.invokestatic 88, 3) := by decide +kernel
theorem dX0_tasksFor_4 : decode (dc DX0_tasksFor) 4 = .ok (.ifCond .eq 12, 3) := by decide +kernel
theorem dX0_tasksFor_7 : decode (dc DX0_tasksFor) 7 = .ok (.aload_n 0, 1) := by decide +kernel
theorem dX0_tasksFor_8 : decode (dc DX0_tasksFor) 8 = .ok (.getfield 15, 3) := by decide +kernel
theorem dX0_tasksFor_11 : decode (dc DX0_tasksFor) 11 = .ok (.iload_n 1, 1) := by decide +kernel
theorem dX0_tasksFor_12 : decode (dc DX0_tasksFor) 12 = .ok (.iaload, 1) := by decide +kernel
theorem dX0_tasksFor_13 : decode (dc DX0_tasksFor) 13 = .ok (.goto 4, 3) := by decide +kernel
theorem dX0_tasksFor_16 : decode (dc DX0_tasksFor) 16 = .ok (.iconst 0, 1) := by decide +kernel
theorem dX0_tasksFor_17 : decode (dc DX0_tasksFor) 17 = .ok (.ireturn, 1) := by decide +kernel
theorem dX0_workersFor_0 : decode (dc DX0_workersFor) 0 = .ok (.iload_n 1, 1) := by decide +kernel
theorem dX0_workersFor_1 : decode (dc DX0_workersFor) 1 = .ok (.invokestatic 88, 3) := by decide +kernel
theorem dX0_workersFor_4 : decode (dc DX0_workersFor) 4 = .ok (.ifCond .eq 12, 3) := by decide +kernel
theorem dX0_workersFor_7 : decode (dc DX0_workersFor) 7 = .ok (.aload_n 0, 1) := by decide +kernel
theorem dX0_workersFor_8 : decode (dc DX0_workersFor) 8 = .ok (.getfield 18, 3) := by decide +kernel
theorem dX0_workersFor_11 : decode (dc DX0_workersFor) 11 = .ok (.iload_n 1, 1) := by decide +kernel
theorem dX0_workersFor_12 : decode (dc DX0_workersFor) 12 = .ok (.iaload, 1) := by decide +kernel
theorem dX0_workersFor_13 : decode (dc DX0_workersFor) 13 = .ok (.goto 4, 3) := by decide +kernel
theorem dX0_workersFor_16 : decode (dc DX0_workersFor) 16 = .ok (.iconst 0, 1) := by decide +kernel
theorem dX0_workersFor_17 : decode (dc DX0_workersFor) 17 = .ok (.ireturn, 1) := by decide +kernel
theorem dX0_setFit_0 : decode (dc DX0_setFit) 0 = .ok (.iload_n 1, 1) := by decide +kernel
theorem dX0_setFit_1 : decode (dc DX0_setFit) 1 = .ok (.invokestatic 88, 3) := by decide +kernel
theorem dX0_setFit_4 : decode (dc DX0_setFit) 4 = .ok (.ifCond .eq 48, 3) := by decide +kernel
theorem dX0_setFit_7 : decode (dc DX0_setFit) 7 = .ok (.iload_n 2, 1) := by decide +kernel
theorem dX0_setFit_8 : decode (dc DX0_setFit) 8 = .ok (.invokestatic 88, 3) := by decide +kernel
theorem dX0_setFit_11 : decode (dc DX0_setFit) 11 = .ok (.ifCond .eq 41, 3) := by decide +kernel
theorem dX0_setFit_14 : decode (dc DX0_setFit) 14 = .ok (.aload_n 0, 1) := by decide +kernel
theorem dX0_setFit_15 : decode (dc DX0_setFit) 15 = .ok (.getfield 21, 3) := by decide +kernel
theorem dX0_setFit_18 : decode (dc DX0_setFit) 18 = .ok (.iload_n 1, 1) := by decide +kernel
theorem dX0_setFit_19 : decode (dc DX0_setFit) 19 = .ok (.bipush 12, 2) := by decide +kernel
theorem dX0_setFit_21 : decode (dc DX0_setFit) 21 = .ok (.imul, 1) := by decide +kernel
theorem dX0_setFit_22 : decode (dc DX0_setFit) 22 = .ok (.iload_n 2, 1) := by decide +kernel
theorem dX0_setFit_23 : decode (dc DX0_setFit) 23 = .ok (.iadd, 1) := by decide +kernel
theorem dX0_setFit_24 : decode (dc DX0_setFit) 24 = .ok (.iload_n 3, 1) := by decide +kernel
theorem dX0_setFit_25 : decode (dc DX0_setFit) 25 = .ok (.iastore, 1) := by decide +kernel
theorem dX0_setFit_26 : decode (dc DX0_setFit) 26 = .ok (.aload_n 0, 1) := by decide +kernel
theorem dX0_setFit_27 : decode (dc DX0_setFit) 27 = .ok (.getfield 15, 3) := by decide +kernel
theorem dX0_setFit_30 : decode (dc DX0_setFit) 30 = .ok (.iload_n 1, 1) := by decide +kernel
theorem dX0_setFit_31 : decode (dc DX0_setFit) 31 = .ok (.dup2, 1) := by decide +kernel
theorem dX0_setFit_32 : decode (dc DX0_setFit) 32 = .ok (.iaload, 1) := by decide +kernel
theorem dX0_setFit_33 : decode (dc DX0_setFit) 33 = .ok (.iload_n 2, 1) := by decide +kernel
theorem dX0_setFit_34 : decode (dc DX0_setFit) 34 = .ok (.invokestatic 42, 3) := by decide +kernel
theorem dX0_setFit_37 : decode (dc DX0_setFit) 37 = .ok (.ior, 1) := by decide +kernel
theorem dX0_setFit_38 : decode (dc DX0_setFit) 38 = .ok (.iastore, 1) := by decide +kernel
theorem dX0_setFit_39 : decode (dc DX0_setFit) 39 = .ok (.aload_n 0, 1) := by decide +kernel
theorem dX0_setFit_40 : decode (dc DX0_setFit) 40 = .ok (.getfield 18, 3) := by decide +kernel
theorem dX0_setFit_43 : decode (dc DX0_setFit) 43 = .ok (.iload_n 2, 1) := by decide +kernel
theorem dX0_setFit_44 : decode (dc DX0_setFit) 44 = .ok (.dup2, 1) := by decide +kernel
theorem dX0_setFit_45 : decode (dc DX0_setFit) 45 = .ok (.iaload, 1) := by decide +kernel
theorem dX0_setFit_46 : decode (dc DX0_setFit) 46 = .ok (.iload_n 1, 1) := by decide +kernel
theorem dX0_setFit_47 : decode (dc DX0_setFit) 47 = .ok (.invokestatic 42, 3) := by decide +kernel
theorem dX0_setFit_50 : decode (dc DX0_setFit) 50 = .ok (.ior, 1) := by decide +kernel
theorem dX0_setFit_51 : decode (dc DX0_setFit) 51 = .ok (.iastore, 1) := by decide +kernel
theorem dX0_setFit_52 : decode (dc DX0_setFit) 52 = .ok (.return_, 1) := by decide +kernel
theorem dX3_loosenWorker_0 : decode (dc DX3_loosenWorker) 0 = .ok (.aload_n 0, 1) := by decide +kernel
theorem dX3_loosenWorker_1 : decode (dc DX3_loosenWorker) 1 = .ok (.iload_n 1, 1) := by decide +kernel
theorem dX3_loosenWorker_2 : decode (dc DX3_loosenWorker) 2 = .ok (.invokevirtual 25, 3) := by decide +kernel
theorem dX3_loosenWorker_5 : decode (dc DX3_loosenWorker) 5 = .ok (.istore_n 2, 1) := by decide +kernel
theorem dX3_loosenWorker_6 : decode (dc DX3_loosenWorker) 6 = .ok (.iload_n 1, 1) := by decide +kernel
theorem dX3_loosenWorker_7 : decode (dc DX3_loosenWorker) 7 = .ok (.invokestatic 21, 3) := by decide +kernel
theorem dX3_loosenWorker_10 : decode (dc DX3_loosenWorker) 10 = .ok (.ifCond .eq 24, 3) := by decide +kernel
theorem dX3_loosenWorker_13 : decode (dc DX3_loosenWorker) 13 = .ok (.iload_n 2, 1) := by decide +kernel
theorem dX3_loosenWorker_14 : decode (dc DX3_loosenWorker) 14 = .ok (.invokestatic 21, 3) := by decide +kernel
theorem dX3_loosenWorker_17 : decode (dc DX3_loosenWorker) 17 = .ok (.ifCond .eq 17, 3) := by decide +kernel
theorem dX3_loosenWorker_20 : decode (dc DX3_loosenWorker) 20 = .ok (.aload_n 0, 1) := by decide +kernel
theorem dX3_loosenWorker_21 : decode (dc DX3_loosenWorker) 21 = .ok (.getfield 9, 3) := by decide +kernel
theorem dX3_loosenWorker_24 : decode (dc DX3_loosenWorker) 24 = .ok (.iload_n 1, 1) := by decide +kernel
theorem dX3_loosenWorker_25 : decode (dc DX3_loosenWorker) 25 = .ok (.iconst (-1), 1) := by decide +kernel
theorem dX3_loosenWorker_26 : decode (dc DX3_loosenWorker) 26 = .ok (.iastore, 1) := by decide +kernel
theorem dX3_loosenWorker_27 : decode (dc DX3_loosenWorker) 27 = .ok (.aload_n 0, 1) := by decide +kernel
theorem dX3_loosenWorker_28 : decode (dc DX3_loosenWorker) 28 = .ok (.getfield 15, 3) := by decide +kernel
theorem dX3_loosenWorker_31 : decode (dc DX3_loosenWorker) 31 = .ok (.iload_n 2, 1) := by decide +kernel
theorem dX3_loosenWorker_32 : decode (dc DX3_loosenWorker) 32 = .ok (.iconst (-1), 1) := by decide +kernel
theorem dX3_loosenWorker_33 : decode (dc DX3_loosenWorker) 33 = .ok (.iastore, 1) := by decide +kernel
theorem dX3_loosenWorker_34 : decode (dc DX3_loosenWorker) 34 = .ok (.return_, 1) := by decide +kernel
theorem dX0_removeFit_0 : decode (dc DX0_removeFit) 0 = .ok (.iload_n 1, 1) := by decide +kernel
theorem dX0_removeFit_1 : decode (dc DX0_removeFit) 1 = .ok (.invokestatic 88, 3) := by decide +kernel
theorem dX0_removeFit_4 : decode (dc DX0_removeFit) 4 = .ok (.ifCond .eq 72, 3) := by decide +kernel
theorem dX0_removeFit_7 : decode (dc DX0_removeFit) 7 = .ok (.iload_n 2, 1) := by decide +kernel
theorem dX0_removeFit_8 : decode (dc DX0_removeFit) 8 = .ok (.invokestatic 88, 3) := by decide +kernel
theorem dX0_removeFit_11 : decode (dc DX0_removeFit) 11 = .ok (.ifCond .eq 65, 3) := by decide +kernel
theorem dX0_removeFit_14 : decode (dc DX0_removeFit) 14 = .ok (.aload_n 0, 1) := by decide +kernel
theorem dX0_removeFit_15 : decode (dc DX0_removeFit) 15 = .ok (.getfield 21, 3) := by decide +kernel
theorem dX0_removeFit_18 : decode (dc DX0_removeFit) 18 = .ok (.iload_n 1, 1) := by decide +kernel
theorem dX0_removeFit_19 : decode (dc DX0_removeFit) 19 = .ok (.bipush 12, 2) := by decide +kernel
theorem dX0_removeFit_21 : decode (dc DX0_removeFit) 21 = .ok (.imul, 1) := by decide +kernel
theorem dX0_removeFit_22 : decode (dc DX0_removeFit) 22 = .ok (.iload_n 2, 1) := by decide +kernel
theorem dX0_removeFit_23 : decode (dc DX0_removeFit) 23 = .ok (.iadd, 1) := by decide +kernel
theorem dX0_removeFit_24 : decode (dc DX0_removeFit) 24 = .ok (.iconst (-1), 1) := by decide +kernel
theorem dX0_removeFit_25 : decode (dc DX0_removeFit) 25 = .ok (.iastore, 1) := by decide +kernel
theorem dX0_removeFit_26 : decode (dc DX0_removeFit) 26 = .ok (.aload_n 0, 1) := by decide +kernel
theorem dX0_removeFit_27 : decode (dc DX0_removeFit) 27 = .ok (.getfield 15, 3) := by decide +kernel
theorem dX0_removeFit_30 : decode (dc DX0_removeFit) 30 = .ok (.iload_n 1, 1) := by decide +kernel
theorem dX0_removeFit_31 : decode (dc DX0_removeFit) 31 = .ok (.dup2, 1) := by decide +kernel
theorem dX0_removeFit_32 : decode (dc DX0_removeFit) 32 = .ok (.iaload, 1) := by decide +kernel
theorem dX0_removeFit_33 : decode (dc DX0_removeFit) 33 = .ok (.iload_n 2, 1) := by decide +kernel
theorem dX0_removeFit_34 : decode (dc DX0_removeFit) 34 = .ok (.invokestatic 42, 3) := by decide +kernel
theorem dX0_removeFit_37 : decode (dc DX0_removeFit) 37 = .ok (.iconst (-1), 1) := by decide +kernel
theorem dX0_removeFit_38 : decode (dc DX0_removeFit) 38 = .ok (.ixor, 1) := by decide +kernel
theorem dX0_removeFit_39 : decode (dc DX0_removeFit) 39 = .ok (.iand, 1) := by decide +kernel
theorem dX0_removeFit_40 : decode (dc DX0_removeFit) 40 = .ok (.iastore, 1) := by decide +kernel
theorem dX0_removeFit_41 : decode (dc DX0_removeFit) 41 = .ok (.aload_n 0, 1) := by decide +kernel
theorem dX0_removeFit_42 : decode (dc DX0_removeFit) 42 = .ok (.getfield 18, 3) := by decide +kernel
theorem dX0_removeFit_45 : decode (dc DX0_removeFit) 45 = .ok (.iload_n 2, 1) := by decide +kernel
theorem dX0_removeFit_46 : decode (dc DX0_removeFit) 46 = .ok (.dup2, 1) := by decide +kernel
theorem dX0_removeFit_47 : decode (dc DX0_removeFit) 47 = .ok (.iaload, 1) := by decide +kernel
theorem dX0_removeFit_48 : decode (dc DX0_removeFit) 48 = .ok (.iload_n 1, 1) := by decide +kernel
theorem dX0_removeFit_49 : decode (dc DX0_removeFit) 49 = .ok (.invokestatic 42, 3) := by decide +kernel
theorem dX0_removeFit_52 : decode (dc DX0_removeFit) 52 = .ok (.iconst (-1), 1) := by decide +kernel
theorem dX0_removeFit_53 : decode (dc DX0_removeFit) 53 = .ok (.ixor, 1) := by decide +kernel
theorem dX0_removeFit_54 : decode (dc DX0_removeFit) 54 = .ok (.iand, 1) := by decide +kernel
theorem dX0_removeFit_55 : decode (dc DX0_removeFit) 55 = .ok (.iastore, 1) := by decide +kernel
theorem dX0_removeFit_56 : decode (dc DX0_removeFit) 56 = .ok (.aload_n 0, 1) := by decide +kernel
theorem dX0_removeFit_57 : decode (dc DX0_removeFit) 57 = .ok (.getfield 27, 3) := by decide +kernel
theorem dX0_removeFit_60 : decode (dc DX0_removeFit) 60 = .ok (.iload_n 1, 1) := by decide +kernel
theorem dX0_removeFit_61 : decode (dc DX0_removeFit) 61 = .ok (.invokevirtual 75, 3) := by decide +kernel
theorem dX0_removeFit_64 : decode (dc DX0_removeFit) 64 = .ok (.iload_n 2, 1) := by decide +kernel
theorem dX0_removeFit_65 : decode (dc DX0_removeFit) 65 = .ok (.if_icmp .ne 11, 3) := by decide +kernel
theorem dX0_removeFit_68 : decode (dc DX0_removeFit) 68 = .ok (.aload_n 0, 1) := by decide +kernel
theorem dX0_removeFit_69 : decode (dc DX0_removeFit) 69 = .ok (.getfield 27, 3) := by decide +kernel
theorem dX0_removeFit_72 : decode (dc DX0_removeFit) 72 = .ok (.iload_n 1, 1) := by decide +kernel
theorem dX0_removeFit_73 : decode (dc DX0_removeFit) 73 = .ok (.invokevirtual 95, 3) := by decide +kernel
theorem dX0_removeFit_76 : decode (dc DX0_removeFit) 76 = .ok (.return_, 1) := by decide +kernel
theorem dX3_loosenTask_0 : decode (dc DX3_loosenTask) 0 = .ok (.aload_n 0, 1) := by decide +kernel
theorem dX3_loosenTask_1 : decode (dc DX3_loosenTask) 1 = .ok (.aload_n 0, 1) := by decide +kernel
theorem dX3_loosenTask_2 : decode (dc DX3_loosenTask) 2 = .ok (.iload_n 1, 1) := by decide +kernel
theorem dX3_loosenTask_3 : decode (dc DX3_loosenTask) 3 = .ok (.invokevirtual 29, 3) := by decide +kernel
theorem dX3_loosenTask_6 : decode (dc DX3_loosenTask) 6 = .ok (.invokevirtual 32, 3) := by decide +kernel
theorem dX3_loosenTask_9 : decode (dc DX3_loosenTask) 9 = .ok (.return_, 1) := by decide +kernel
theorem dX0_setThere_0 : decode (dc DX0_setThere) 0 = .ok (.iload_n 1, 1) := by decide +kernel
theorem dX0_setThere_1 : decode (dc DX0_setThere) 1 = .ok (.ifCond .ne 45, 3) := by decide +kernel
theorem dX0_setThere_4 : decode (dc DX0_setThere) 4 = .ok (.aload_n 0, 1) := by decide +kernel
theorem dX0_setThere_5 : decode (dc DX0_setThere) 5 = .ok (.iload_n 3, 1) := by decide +kernel
theorem dX0_setThere_6 : decode (dc DX0_setThere) 6 = .ok (.ifCond .eq 15, 3) := by decide +kernel
theorem dX0_setThere_9 : decode (dc DX0_setThere) 9 = .ok (.aload_n 0, 1) := by decide +kernel
theorem dX0_setThere_10 : decode (dc DX0_setThere) 10 = .ok (.getfield 46, 3) := by decide +kernel
theorem dX0_setThere_13 : decode (dc DX0_setThere) 13 = .ok (.iload_n 2, 1) := by decide +kernel
theorem dX0_setThere_14 : decode (dc DX0_setThere) 14 = .ok (.invokestatic 42, 3) := by decide +kernel
theorem dX0_setThere_17 : decode (dc DX0_setThere) 17 = .ok (.ior, 1) := by decide +kernel
theorem dX0_setThere_18 : decode (dc DX0_setThere) 18 = .ok (.goto 14, 3) := by decide +kernel
theorem dX0_setThere_21 : decode (dc DX0_setThere) 21 = .ok (.aload_n 0, 1) := by decide +kernel
theorem dX0_setThere_22 : decode (dc DX0_setThere) 22 = .ok (.getfield 46, 3) := by decide +kernel
theorem dX0_setThere_25 : decode (dc DX0_setThere) 25 = .ok (.iload_n 2, 1) := by decide +kernel
theorem dX0_setThere_26 : decode (dc DX0_setThere) 26 = .ok (.invokestatic 42, 3) := by decide +kernel
theorem dX0_setThere_29 : decode (dc DX0_setThere) 29 = .ok (.iconst (-1), 1) := by decide +kernel
theorem dX0_setThere_30 : decode (dc DX0_setThere) 30 = .ok (.ixor, 1) := by decide +kernel
theorem dX0_setThere_31 : decode (dc DX0_setThere) 31 = .ok (.iand, 1) := by decide +kernel
theorem dX0_setThere_32 : decode (dc DX0_setThere) 32 = .ok (.putfield 46, 3) := by decide +kernel
theorem dX0_setThere_35 : decode (dc DX0_setThere) 35 = .ok (.aload_n 0, 1) := by decide +kernel
theorem dX0_setThere_36 : decode (dc DX0_setThere) 36 = .ok (.getfield 27, 3) := by decide +kernel
theorem dX0_setThere_39 : decode (dc DX0_setThere) 39 = .ok (.iload_n 2, 1) := by decide +kernel
theorem dX0_setThere_40 : decode (dc DX0_setThere) 40 = .ok (.invokevirtual 95, 3) := by decide +kernel
theorem dX0_setThere_43 : decode (dc DX0_setThere) 43 = .ok (.goto 42, 3) := by decide +kernel
theorem dX0_setThere_46 : decode (dc DX0_setThere) 46 = .ok (.aload_n 0, 1) := by decide +kernel
theorem dX0_setThere_47 : decode (dc DX0_setThere) 47 = .ok (.iload_n 3, 1) := by decide +kernel
theorem dX0_setThere_48 : decode (dc DX0_setThere) 48 = .ok (.ifCond .eq 15, 3) := by decide +kernel
theorem dX0_setThere_51 : decode (dc DX0_setThere) 51 = .ok (.aload_n 0, 1) := by decide +kernel
theorem dX0_setThere_52 : decode (dc DX0_setThere) 52 = .ok (.getfield 49, 3) := by decide +kernel
theorem dX0_setThere_55 : decode (dc DX0_setThere) 55 = .ok (.iload_n 2, 1) := by decide +kernel
theorem dX0_setThere_56 : decode (dc DX0_setThere) 56 = .ok (.invokestatic 42, 3) := by decide +kernel
theorem dX0_setThere_59 : decode (dc DX0_setThere) 59 = .ok (.ior, 1) := by decide +kernel
theorem dX0_setThere_60 : decode (dc DX0_setThere) 60 = .ok (.goto 14, 3) := by decide +kernel
theorem dX0_setThere_63 : decode (dc DX0_setThere) 63 = .ok (.aload_n 0, 1) := by decide +kernel
theorem dX0_setThere_64 : decode (dc DX0_setThere) 64 = .ok (.getfield 49, 3) := by decide +kernel
theorem dX0_setThere_67 : decode (dc DX0_setThere) 67 = .ok (.iload_n 2, 1) := by decide +kernel
theorem dX0_setThere_68 : decode (dc DX0_setThere) 68 = .ok (.invokestatic 42, 3) := by decide +kernel
theorem dX0_setThere_71 : decode (dc DX0_setThere) 71 = .ok (.iconst (-1), 1) := by decide +kernel
theorem dX0_setThere_72 : decode (dc DX0_setThere) 72 = .ok (.ixor, 1) := by decide +kernel
theorem dX0_setThere_73 : decode (dc DX0_setThere) 73 = .ok (.iand, 1) := by decide +kernel
theorem dX0_setThere_74 : decode (dc DX0_setThere) 74 = .ok (.putfield 49, 3) := by decide +kernel
theorem dX0_setThere_77 : decode (dc DX0_setThere) 77 = .ok (.aload_n 0, 1) := by decide +kernel
theorem dX0_setThere_78 : decode (dc DX0_setThere) 78 = .ok (.getfield 27, 3) := by decide +kernel
theorem dX0_setThere_81 : decode (dc DX0_setThere) 81 = .ok (.iload_n 2, 1) := by decide +kernel
theorem dX0_setThere_82 : decode (dc DX0_setThere) 82 = .ok (.invokevirtual 99, 3) := by decide +kernel
theorem dX0_setThere_85 : decode (dc DX0_setThere) 85 = .ok (.return_, 1) := by decide +kernel
theorem dX0_weightOf_0 : decode (dc DX0_weightOf) 0 = .ok (.iload_n 1, 1) := by decide +kernel
theorem dX0_weightOf_1 : decode (dc DX0_weightOf) 1 = .ok (.invokestatic 88, 3) := by decide +kernel
theorem dX0_weightOf_4 : decode (dc DX0_weightOf) 4 = .ok (.ifCond .eq 12, 3) := by decide +kernel
theorem dX0_weightOf_7 : decode (dc DX0_weightOf) 7 = .ok (.aload_n 0, 1) := by decide +kernel
theorem dX0_weightOf_8 : decode (dc DX0_weightOf) 8 = .ok (.getfield 9, 3) := by decide +kernel
theorem dX0_weightOf_11 : decode (dc DX0_weightOf) 11 = .ok (.iload_n 1, 1) := by decide +kernel
theorem dX0_weightOf_12 : decode (dc DX0_weightOf) 12 = .ok (.iaload, 1) := by decide +kernel
theorem dX0_weightOf_13 : decode (dc DX0_weightOf) 13 = .ok (.goto 4, 3) := by decide +kernel
theorem dX0_weightOf_16 : decode (dc DX0_weightOf) 16 = .ok (.iconst 0, 1) := by decide +kernel
theorem dX0_weightOf_17 : decode (dc DX0_weightOf) 17 = .ok (.ireturn, 1) := by decide +kernel
theorem dX0_setWeight_0 : decode (dc DX0_setWeight) 0 = .ok (.iload_n 1, 1) := by decide +kernel
theorem dX0_setWeight_1 : decode (dc DX0_setWeight) 1 = .ok (.invokestatic 88, 3) := by decide +kernel
theorem dX0_setWeight_4 : decode (dc DX0_setWeight) 4 = .ok (.ifCond .eq 10, 3) := by decide +kernel
theorem dX0_setWeight_7 : decode (dc DX0_setWeight) 7 = .ok (.aload_n 0, 1) := by decide +kernel
theorem dX0_setWeight_8 : decode (dc DX0_setWeight) 8 = .ok (.getfield 9, 3) := by decide +kernel
theorem dX0_setWeight_11 : decode (dc DX0_setWeight) 11 = .ok (.iload_n 1, 1) := by decide +kernel
theorem dX0_setWeight_12 : decode (dc DX0_setWeight) 12 = .ok (.iload_n 2, 1) := by decide +kernel
theorem dX0_setWeight_13 : decode (dc DX0_setWeight) 13 = .ok (.iastore, 1) := by decide +kernel
theorem dX0_setWeight_14 : decode (dc DX0_setWeight) 14 = .ok (.return_, 1) := by decide +kernel
theorem dX0_heaviest_0 : decode (dc DX0_heaviest) 0 = .ok (.iconst (-1), 1) := by decide +kernel
theorem dX0_heaviest_1 : decode (dc DX0_heaviest) 1 = .ok (.istore_n 2, 1) := by decide +kernel
theorem dX0_heaviest_2 : decode (dc DX0_heaviest) 2 = .ok (.iconst 0, 1) := by decide +kernel
theorem dX0_heaviest_3 : decode (dc DX0_heaviest) 3 = .ok (.istore_n 3, 1) := by decide +kernel
theorem dX0_heaviest_4 : decode (dc DX0_heaviest) 4 = .ok (.iload_n 3, 1) := by decide +kernel
theorem dX0_heaviest_5 : decode (dc DX0_heaviest) 5 = .ok (.aload_n 0, 1) := by decide +kernel
theorem dX0_heaviest_6 : decode (dc DX0_heaviest) 6 = .ok (.getfield 35, 3) := by decide +kernel
theorem dX0_heaviest_9 : decode (dc DX0_heaviest) 9 = .ok (.if_icmp .ge 37, 3) := by decide +kernel
theorem dX0_heaviest_12 : decode (dc DX0_heaviest) 12 = .ok (.iload_n 1, 1) := by decide +kernel
theorem dX0_heaviest_13 : decode (dc DX0_heaviest) 13 = .ok (.iload_n 3, 1) := by decide +kernel
theorem dX0_heaviest_14 : decode (dc DX0_heaviest) 14 = .ok (.invokestatic 72, 3) := by decide +kernel
theorem dX0_heaviest_17 : decode (dc DX0_heaviest) 17 = .ok (.ifCond .eq 23, 3) := by decide +kernel
theorem dX0_heaviest_20 : decode (dc DX0_heaviest) 20 = .ok (.iload_n 2, 1) := by decide +kernel
theorem dX0_heaviest_21 : decode (dc DX0_heaviest) 21 = .ok (.iconst (-1), 1) := by decide +kernel
theorem dX0_heaviest_22 : decode (dc DX0_heaviest) 22 = .ok (.if_icmp .eq 16, 3) := by decide +kernel
theorem dX0_heaviest_25 : decode (dc DX0_heaviest) 25 = .ok (.aload_n 0, 1) := by decide +kernel
theorem dX0_heaviest_26 : decode (dc DX0_heaviest) 26 = .ok (.iload_n 3, 1) := by decide +kernel
theorem dX0_heaviest_27 : decode (dc DX0_heaviest) 27 = .ok (.invokevirtual 102, 3) := by decide +kernel
theorem dX0_heaviest_30 : decode (dc DX0_heaviest) 30 = .ok (.aload_n 0, 1) := by decide +kernel
theorem dX0_heaviest_31 : decode (dc DX0_heaviest) 31 = .ok (.iload_n 2, 1) := by decide +kernel
theorem dX0_heaviest_32 : decode (dc DX0_heaviest) 32 = .ok (.invokevirtual 102, 3) := by decide +kernel
theorem dX0_heaviest_35 : decode (dc DX0_heaviest) 35 = .ok (.if_icmp .le 5, 3) := by decide +kernel
theorem dX0_heaviest_38 : decode (dc DX0_heaviest) 38 = .ok (.iload_n 3, 1) := by decide +kernel
theorem dX0_heaviest_39 : decode (dc DX0_heaviest) 39 = .ok (.istore_n 2, 1) := by decide +kernel
theorem dX0_heaviest_40 : decode (dc DX0_heaviest) 40 = .ok (.iinc 3 1, 3) := by decide +kernel
theorem dX0_heaviest_43 : decode (dc DX0_heaviest) 43 = .ok (.goto (-39), 3) := by decide +kernel
theorem dX0_heaviest_46 : decode (dc DX0_heaviest) 46 = .ok (.iload_n 2, 1) := by decide +kernel
theorem dX0_heaviest_47 : decode (dc DX0_heaviest) 47 = .ok (.iconst (-1), 1) := by decide +kernel
theorem dX0_heaviest_48 : decode (dc DX0_heaviest) 48 = .ok (.if_icmp .ne 7, 3) := by decide +kernel
theorem dX0_heaviest_51 : decode (dc DX0_heaviest) 51 = .ok (.iconst 0, 1) := by decide +kernel
theorem dX0_heaviest_52 : decode (dc DX0_heaviest) 52 = .ok (.goto 4, 3) := by decide +kernel
theorem dX0_heaviest_55 : decode (dc DX0_heaviest) 55 = .ok (.iload_n 2, 1) := by decide +kernel
theorem dX0_heaviest_56 : decode (dc DX0_heaviest) 56 = .ok (.ireturn, 1) := by decide +kernel
theorem dJ6_bitCount_0f7a4_0 : decode (dc DJ6_bitCount_0f7a4) 0 = .ok (.iload_n 0, 1) := by decide +kernel
theorem dJ6_bitCount_0f7a4_1 : decode (dc DJ6_bitCount_0f7a4) 1 = .ok (.iload_n 0, 1) := by decide +kernel
theorem dJ6_bitCount_0f7a4_2 : decode (dc DJ6_bitCount_0f7a4) 2 = .ok (.iconst 1, 1) := by decide +kernel
theorem dJ6_bitCount_0f7a4_3 : decode (dc DJ6_bitCount_0f7a4) 3 = .ok (.iushr, 1) := by decide +kernel
theorem dJ6_bitCount_0f7a4_4 : decode (dc DJ6_bitCount_0f7a4) 4 = .ok (.ldc_w 265, 3) := by decide +kernel
theorem dJ6_bitCount_0f7a4_7 : decode (dc DJ6_bitCount_0f7a4) 7 = .ok (.iand, 1) := by decide +kernel
theorem dJ6_bitCount_0f7a4_8 : decode (dc DJ6_bitCount_0f7a4) 8 = .ok (.isub, 1) := by decide +kernel
theorem dJ6_bitCount_0f7a4_9 : decode (dc DJ6_bitCount_0f7a4) 9 = .ok (.istore_n 0, 1) := by decide +kernel
theorem dJ6_bitCount_0f7a4_10 : decode (dc DJ6_bitCount_0f7a4) 10 = .ok (.iload_n 0, 1) := by decide +kernel
theorem dJ6_bitCount_0f7a4_11 : decode (dc DJ6_bitCount_0f7a4) 11 = .ok (.ldc_w 266, 3) := by decide +kernel
theorem dJ6_bitCount_0f7a4_14 : decode (dc DJ6_bitCount_0f7a4) 14 = .ok (.iand, 1) := by decide +kernel
theorem dJ6_bitCount_0f7a4_15 : decode (dc DJ6_bitCount_0f7a4) 15 = .ok (.iload_n 0, 1) := by decide +kernel
theorem dJ6_bitCount_0f7a4_16 : decode (dc DJ6_bitCount_0f7a4) 16 = .ok (.iconst 2, 1) := by decide +kernel
theorem dJ6_bitCount_0f7a4_17 : decode (dc DJ6_bitCount_0f7a4) 17 = .ok (.iushr, 1) := by decide +kernel
theorem dJ6_bitCount_0f7a4_18 : decode (dc DJ6_bitCount_0f7a4) 18 = .ok (.ldc_w 266, 3) := by decide +kernel
theorem dJ6_bitCount_0f7a4_21 : decode (dc DJ6_bitCount_0f7a4) 21 = .ok (.iand, 1) := by decide +kernel
theorem dJ6_bitCount_0f7a4_22 : decode (dc DJ6_bitCount_0f7a4) 22 = .ok (.iadd, 1) := by decide +kernel
theorem dJ6_bitCount_0f7a4_23 : decode (dc DJ6_bitCount_0f7a4) 23 = .ok (.istore_n 0, 1) := by decide +kernel
theorem dJ6_bitCount_0f7a4_24 : decode (dc DJ6_bitCount_0f7a4) 24 = .ok (.iload_n 0, 1) := by decide +kernel
theorem dJ6_bitCount_0f7a4_25 : decode (dc DJ6_bitCount_0f7a4) 25 = .ok (.iload_n 0, 1) := by decide +kernel
theorem dJ6_bitCount_0f7a4_26 : decode (dc DJ6_bitCount_0f7a4) 26 = .ok (.iconst 4, 1) := by decide +kernel
theorem dJ6_bitCount_0f7a4_27 : decode (dc DJ6_bitCount_0f7a4) 27 = .ok (.iushr, 1) := by decide +kernel
theorem dJ6_bitCount_0f7a4_28 : decode (dc DJ6_bitCount_0f7a4) 28 = .ok (.iadd, 1) := by decide +kernel
theorem dJ6_bitCount_0f7a4_29 : decode (dc DJ6_bitCount_0f7a4) 29 = .ok (.ldc_w 267, 3) := by decide +kernel
theorem dJ6_bitCount_0f7a4_32 : decode (dc DJ6_bitCount_0f7a4) 32 = .ok (.iand, 1) := by decide +kernel
theorem dJ6_bitCount_0f7a4_33 : decode (dc DJ6_bitCount_0f7a4) 33 = .ok (.istore_n 0, 1) := by decide +kernel
theorem dJ6_bitCount_0f7a4_34 : decode (dc DJ6_bitCount_0f7a4) 34 = .ok (.iload_n 0, 1) := by decide +kernel
theorem dJ6_bitCount_0f7a4_35 : decode (dc DJ6_bitCount_0f7a4) 35 = .ok (.iload_n 0, 1) := by decide +kernel
theorem dJ6_bitCount_0f7a4_36 : decode (dc DJ6_bitCount_0f7a4) 36 = .ok (.bipush 8, 2) := by decide +kernel
theorem dJ6_bitCount_0f7a4_38 : decode (dc DJ6_bitCount_0f7a4) 38 = .ok (.iushr, 1) := by decide +kernel
theorem dJ6_bitCount_0f7a4_39 : decode (dc DJ6_bitCount_0f7a4) 39 = .ok (.iadd, 1) := by decide +kernel
theorem dJ6_bitCount_0f7a4_40 : decode (dc DJ6_bitCount_0f7a4) 40 = .ok (.istore_n 0, 1) := by decide +kernel
theorem dJ6_bitCount_0f7a4_41 : decode (dc DJ6_bitCount_0f7a4) 41 = .ok (.iload_n 0, 1) := by decide +kernel
theorem dJ6_bitCount_0f7a4_42 : decode (dc DJ6_bitCount_0f7a4) 42 = .ok (.iload_n 0, 1) := by decide +kernel
theorem dJ6_bitCount_0f7a4_43 : decode (dc DJ6_bitCount_0f7a4) 43 = .ok (.bipush 16, 2) := by decide +kernel
theorem dJ6_bitCount_0f7a4_45 : decode (dc DJ6_bitCount_0f7a4) 45 = .ok (.iushr, 1) := by decide +kernel
theorem dJ6_bitCount_0f7a4_46 : decode (dc DJ6_bitCount_0f7a4) 46 = .ok (.iadd, 1) := by decide +kernel
theorem dJ6_bitCount_0f7a4_47 : decode (dc DJ6_bitCount_0f7a4) 47 = .ok (.istore_n 0, 1) := by decide +kernel
theorem dJ6_bitCount_0f7a4_48 : decode (dc DJ6_bitCount_0f7a4) 48 = .ok (.iload_n 0, 1) := by decide +kernel
theorem dJ6_bitCount_0f7a4_49 : decode (dc DJ6_bitCount_0f7a4) 49 = .ok (.bipush 63, 2) := by decide +kernel
theorem dJ6_bitCount_0f7a4_51 : decode (dc DJ6_bitCount_0f7a4) 51 = .ok (.iand, 1) := by decide +kernel
theorem dJ6_bitCount_0f7a4_52 : decode (dc DJ6_bitCount_0f7a4) 52 = .ok (.ireturn, 1) := by decide +kernel
theorem dX0_fitCount_0 : decode (dc DX0_fitCount) 0 = .ok (.iconst 0, 1) := by decide +kernel
theorem dX0_fitCount_1 : decode (dc DX0_fitCount) 1 = .ok (.istore_n 1, 1) := by decide +kernel
theorem dX0_fitCount_2 : decode (dc DX0_fitCount) 2 = .ok (.iconst 0, 1) := by decide +kernel
theorem dX0_fitCount_3 : decode (dc DX0_fitCount) 3 = .ok (.istore_n 2, 1) := by decide +kernel
theorem dX0_fitCount_4 : decode (dc DX0_fitCount) 4 = .ok (.iload_n 2, 1) := by decide +kernel
theorem dX0_fitCount_5 : decode (dc DX0_fitCount) 5 = .ok (.bipush 12, 2) := by decide +kernel
theorem dX0_fitCount_7 : decode (dc DX0_fitCount) 7 = .ok (.if_icmp .ge 21, 3) := by decide +kernel
theorem dX0_fitCount_10 : decode (dc DX0_fitCount) 10 = .ok (.iload_n 1, 1) := by decide +kernel
theorem dX0_fitCount_11 : decode (dc DX0_fitCount) 11 = .ok (.aload_n 0, 1) := by decide +kernel
theorem dX0_fitCount_12 : decode (dc DX0_fitCount) 12 = .ok (.getfield 15, 3) := by decide +kernel
theorem dX0_fitCount_15 : decode (dc DX0_fitCount) 15 = .ok (.iload_n 2, 1) := by decide +kernel
theorem dX0_fitCount_16 : decode (dc DX0_fitCount) 16 = .ok (.iaload, 1) := by decide +kernel
theorem dX0_fitCount_17 : decode (dc DX0_fitCount) 17 = .ok (.invokestatic 105, 3) := by decide +kernel
theorem dX0_fitCount_20 : decode (dc DX0_fitCount) 20 = .ok (.iadd, 1) := by decide +kernel
theorem dX0_fitCount_21 : decode (dc DX0_fitCount) 21 = .ok (.istore_n 1, 1) := by decide +kernel
theorem dX0_fitCount_22 : decode (dc DX0_fitCount) 22 = .ok (.iinc 2 1, 3) := by decide +kernel
theorem dX0_fitCount_25 : decode (dc DX0_fitCount) 25 = .ok (.goto (-21), 3) := by decide +kernel
theorem dX0_fitCount_28 : decode (dc DX0_fitCount) 28 = .ok (.iload_n 1, 1) := by decide +kernel
theorem dX0_fitCount_29 : decode (dc DX0_fitCount) 29 = .ok (.ireturn, 1) := by decide +kernel
theorem dX0_pairCost_0 : decode (dc DX0_pairCost) 0 = .ok (.iconst 0, 1) := by decide +kernel
theorem dX0_pairCost_1 : decode (dc DX0_pairCost) 1 = .ok (.istore_n 1, 1) := by decide +kernel
theorem dX0_pairCost_2 : decode (dc DX0_pairCost) 2 = .ok (.iconst 0, 1) := by decide +kernel
theorem dX0_pairCost_3 : decode (dc DX0_pairCost) 3 = .ok (.istore_n 2, 1) := by decide +kernel
theorem dX0_pairCost_4 : decode (dc DX0_pairCost) 4 = .ok (.iload_n 2, 1) := by decide +kernel
theorem dX0_pairCost_5 : decode (dc DX0_pairCost) 5 = .ok (.aload_n 0, 1) := by decide +kernel
theorem dX0_pairCost_6 : decode (dc DX0_pairCost) 6 = .ok (.getfield 35, 3) := by decide +kernel
theorem dX0_pairCost_9 : decode (dc DX0_pairCost) 9 = .ok (.if_icmp .ge 32, 3) := by decide +kernel
theorem dX0_pairCost_12 : decode (dc DX0_pairCost) 12 = .ok (.aload_n 0, 1) := by decide +kernel
theorem dX0_pairCost_13 : decode (dc DX0_pairCost) 13 = .ok (.getfield 27, 3) := by decide +kernel
theorem dX0_pairCost_16 : decode (dc DX0_pairCost) 16 = .ok (.iload_n 2, 1) := by decide +kernel
theorem dX0_pairCost_17 : decode (dc DX0_pairCost) 17 = .ok (.invokevirtual 75, 3) := by decide +kernel
theorem dX0_pairCost_20 : decode (dc DX0_pairCost) 20 = .ok (.istore_n 3, 1) := by decide +kernel
theorem dX0_pairCost_21 : decode (dc DX0_pairCost) 21 = .ok (.iload_n 3, 1) := by decide +kernel
theorem dX0_pairCost_22 : decode (dc DX0_pairCost) 22 = .ok (.iconst (-1), 1) := by decide +kernel
theorem dX0_pairCost_23 : decode (dc DX0_pairCost) 23 = .ok (.if_icmp .eq 12, 3) := by decide +kernel
theorem dX0_pairCost_26 : decode (dc DX0_pairCost) 26 = .ok (.iload_n 1, 1) := by decide +kernel
theorem dX0_pairCost_27 : decode (dc DX0_pairCost) 27 = .ok (.aload_n 0, 1) := by decide +kernel
theorem dX0_pairCost_28 : decode (dc DX0_pairCost) 28 = .ok (.iload_n 2, 1) := by decide +kernel
theorem dX0_pairCost_29 : decode (dc DX0_pairCost) 29 = .ok (.iload_n 3, 1) := by decide +kernel
theorem dX0_pairCost_30 : decode (dc DX0_pairCost) 30 = .ok (.invokevirtual 92, 3) := by decide +kernel
theorem dX0_pairCost_33 : decode (dc DX0_pairCost) 33 = .ok (.iadd, 1) := by decide +kernel
theorem dX0_pairCost_34 : decode (dc DX0_pairCost) 34 = .ok (.istore_n 1, 1) := by decide +kernel
theorem dX0_pairCost_35 : decode (dc DX0_pairCost) 35 = .ok (.iinc 2 1, 3) := by decide +kernel
theorem dX0_pairCost_38 : decode (dc DX0_pairCost) 38 = .ok (.goto (-34), 3) := by decide +kernel
theorem dX0_pairCost_41 : decode (dc DX0_pairCost) 41 = .ok (.iload_n 1, 1) := by decide +kernel
theorem dX0_pairCost_42 : decode (dc DX0_pairCost) 42 = .ok (.ireturn, 1) := by decide +kernel
theorem dX0_tradeGain_0 : decode (dc DX0_tradeGain) 0 = .ok (.aload_n 0, 1) := by decide +kernel
theorem dX0_tradeGain_1 : decode (dc DX0_tradeGain) 1 = .ok (.getfield 27, 3) := by decide +kernel
theorem dX0_tradeGain_4 : decode (dc DX0_tradeGain) 4 = .ok (.iload_n 1, 1) := by decide +kernel
theorem dX0_tradeGain_5 : decode (dc DX0_tradeGain) 5 = .ok (.invokevirtual 75, 3) := by decide +kernel
theorem dX0_tradeGain_8 : decode (dc DX0_tradeGain) 8 = .ok (.istore_n 3, 1) := by decide +kernel
theorem dX0_tradeGain_9 : decode (dc DX0_tradeGain) 9 = .ok (.aload_n 0, 1) := by decide +kernel
theorem dX0_tradeGain_10 : decode (dc DX0_tradeGain) 10 = .ok (.getfield 27, 3) := by decide +kernel
theorem dX0_tradeGain_13 : decode (dc DX0_tradeGain) 13 = .ok (.iload_n 2, 1) := by decide +kernel
theorem dX0_tradeGain_14 : decode (dc DX0_tradeGain) 14 = .ok (.invokevirtual 75, 3) := by decide +kernel
theorem dX0_tradeGain_17 : decode (dc DX0_tradeGain) 17 = .ok (.istore 4, 2) := by decide +kernel
theorem dX0_tradeGain_19 : decode (dc DX0_tradeGain) 19 = .ok (.aload_n 0, 1) := by decide +kernel
theorem dX0_tradeGain_20 : decode (dc DX0_tradeGain) 20 = .ok (.iload_n 1, 1) := by decide +kernel
theorem dX0_tradeGain_21 : decode (dc DX0_tradeGain) 21 = .ok (.iload 4, 2) := by decide +kernel
theorem dX0_tradeGain_23 : decode (dc DX0_tradeGain) 23 = .ok (.invokevirtual 110, 3) := by decide +kernel
theorem dX0_tradeGain_26 : decode (dc DX0_tradeGain) 26 = .ok (.ifCond .eq 12, 3) := by decide +kernel
theorem dX0_tradeGain_29 : decode (dc DX0_tradeGain) 29 = .ok (.aload_n 0, 1) := by decide +kernel
theorem dX0_tradeGain_30 : decode (dc DX0_tradeGain) 30 = .ok (.iload_n 2, 1) := by decide +kernel
theorem dX0_tradeGain_31 : decode (dc DX0_tradeGain) 31 = .ok (.iload_n 3, 1) := by decide +kernel
theorem dX0_tradeGain_32 : decode (dc DX0_tradeGain) 32 = .ok (.invokevirtual 110, 3) := by decide +kernel
theorem dX0_tradeGain_35 : decode (dc DX0_tradeGain) 35 = .ok (.ifCond .ne 5, 3) := by decide +kernel
theorem dX0_tradeGain_38 : decode (dc DX0_tradeGain) 38 = .ok (.iconst 0, 1) := by decide +kernel
theorem dX0_tradeGain_39 : decode (dc DX0_tradeGain) 39 = .ok (.ireturn, 1) := by decide +kernel
theorem dX0_tradeGain_40 : decode (dc DX0_tradeGain) 40 = .ok (.aload_n 0, 1) := by decide +kernel
theorem dX0_tradeGain_41 : decode (dc DX0_tradeGain) 41 = .ok (.iload_n 1, 1) := by decide +kernel
theorem dX0_tradeGain_42 : decode (dc DX0_tradeGain) 42 = .ok (.iload_n 3, 1) := by decide +kernel
theorem dX0_tradeGain_43 : decode (dc DX0_tradeGain) 43 = .ok (.invokevirtual 92, 3) := by decide +kernel
theorem dX0_tradeGain_46 : decode (dc DX0_tradeGain) 46 = .ok (.aload_n 0, 1) := by decide +kernel
theorem dX0_tradeGain_47 : decode (dc DX0_tradeGain) 47 = .ok (.iload_n 2, 1) := by decide +kernel
theorem dX0_tradeGain_48 : decode (dc DX0_tradeGain) 48 = .ok (.iload 4, 2) := by decide +kernel
theorem dX0_tradeGain_50 : decode (dc DX0_tradeGain) 50 = .ok (.invokevirtual 92, 3) := by decide +kernel
theorem dX0_tradeGain_53 : decode (dc DX0_tradeGain) 53 = .ok (.iadd, 1) := by decide +kernel
theorem dX0_tradeGain_54 : decode (dc DX0_tradeGain) 54 = .ok (.aload_n 0, 1) := by decide +kernel
theorem dX0_tradeGain_55 : decode (dc DX0_tradeGain) 55 = .ok (.iload_n 1, 1) := by decide +kernel
theorem dX0_tradeGain_56 : decode (dc DX0_tradeGain) 56 = .ok (.iload 4, 2) := by decide +kernel
theorem dX0_tradeGain_58 : decode (dc DX0_tradeGain) 58 = .ok (.invokevirtual 92, 3) := by decide +kernel
theorem dX0_tradeGain_61 : decode (dc DX0_tradeGain) 61 = .ok (.isub, 1) := by decide +kernel
theorem dX0_tradeGain_62 : decode (dc DX0_tradeGain) 62 = .ok (.aload_n 0, 1) := by decide +kernel
theorem dX0_tradeGain_63 : decode (dc DX0_tradeGain) 63 = .ok (.iload_n 2, 1) := by decide +kernel
theorem dX0_tradeGain_64 : decode (dc DX0_tradeGain) 64 = .ok (.iload_n 3, 1) := by decide +kernel
theorem dX0_tradeGain_65 : decode (dc DX0_tradeGain) 65 = .ok (.invokevirtual 92, 3) := by decide +kernel
theorem dX0_tradeGain_68 : decode (dc DX0_tradeGain) 68 = .ok (.isub, 1) := by decide +kernel
theorem dX0_tradeGain_69 : decode (dc DX0_tradeGain) 69 = .ok (.ireturn, 1) := by decide +kernel
theorem dX1_init_0 : decode (dc DX1_init) 0 = .ok (.aload_n 0, 1) := by decide +kernel
theorem dX1_init_1 : decode (dc DX1_init) 1 = .ok (.invokespecial 3, 3) := by decide +kernel
theorem dX1_init_4 : decode (dc DX1_init) 4 = .ok (.aload_n 0, 1) := by decide +kernel
theorem dX1_init_5 : decode (dc DX1_init) 5 = .ok (.sipush 144, 3) := by decide +kernel
theorem dX1_init_8 : decode (dc DX1_init) 8 = .ok (.newarray .int, 2) := by decide +kernel
theorem dX1_init_10 : decode (dc DX1_init) 10 = .ok (.putfield 9, 3) := by decide +kernel
theorem dX1_init_13 : decode (dc DX1_init) 13 = .ok (.aload_n 0, 1) := by decide +kernel
theorem dX1_init_14 : decode (dc DX1_init) 14 = .ok (.sipush 144, 3) := by decide +kernel
theorem dX1_init_17 : decode (dc DX1_init) 17 = .ok (.newarray .int, 2) := by decide +kernel
theorem dX1_init_19 : decode (dc DX1_init) 19 = .ok (.putfield 15, 3) := by decide +kernel
theorem dX1_init_22 : decode (dc DX1_init) 22 = .ok (.aload_n 0, 1) := by decide +kernel
theorem dX1_init_23 : decode (dc DX1_init) 23 = .ok (.sipush 144, 3) := by decide +kernel
theorem dX1_init_26 : decode (dc DX1_init) 26 = .ok (.newarray .int, 2) := by decide +kernel
theorem dX1_init_28 : decode (dc DX1_init) 28 = .ok (.putfield 18, 3) := by decide +kernel
theorem dX1_init_31 : decode (dc DX1_init) 31 = .ok (.aload_n 0, 1) := by decide +kernel
theorem dX1_init_32 : decode (dc DX1_init) 32 = .ok (.bipush 24, 2) := by decide +kernel
theorem dX1_init_34 : decode (dc DX1_init) 34 = .ok (.newarray .int, 2) := by decide +kernel
theorem dX1_init_36 : decode (dc DX1_init) 36 = .ok (.putfield 21, 3) := by decide +kernel
theorem dX1_init_39 : decode (dc DX1_init) 39 = .ok (.aload_n 0, 1) := by decide +kernel
theorem dX1_init_40 : decode (dc DX1_init) 40 = .ok (.bipush 24, 2) := by decide +kernel
theorem dX1_init_42 : decode (dc DX1_init) 42 = .ok (.newarray .int, 2) := by decide +kernel
theorem dX1_init_44 : decode (dc DX1_init) 44 = .ok (.putfield 24, 3) := by decide +kernel
theorem dX1_init_47 : decode (dc DX1_init) 47 = .ok (.aload_n 0, 1) := by decide +kernel
theorem dX1_init_48 : decode (dc DX1_init) 48 = .ok (.iconst 0, 1) := by decide +kernel
theorem dX1_init_49 : decode (dc DX1_init) 49 = .ok (.putfield 27, 3) := by decide +kernel
theorem dX1_init_52 : decode (dc DX1_init) 52 = .ok (.return_, 1) := by decide +kernel
theorem dX1_cellOf_0 : decode (dc DX1_cellOf) 0 = .ok (.iload_n 1, 1) := by decide +kernel
theorem dX1_cellOf_1 : decode (dc DX1_cellOf) 1 = .ok (.invokestatic 54, 3) := by decide +kernel
theorem dX1_cellOf_4 : decode (dc DX1_cellOf) 4 = .ok (.ifCond .eq 21, 3) := by decide +kernel
theorem dX1_cellOf_7 : decode (dc DX1_cellOf) 7 = .ok (.iload_n 2, 1) := by decide +kernel
theorem dX1_cellOf_8 : decode (dc DX1_cellOf) 8 = .ok (.invokestatic 54, 3) := by decide +kernel
theorem dX1_cellOf_11 : decode (dc DX1_cellOf) 11 = .ok (.ifCond .eq 14, 3) := by decide +kernel
theorem dX1_cellOf_14 : decode (dc DX1_cellOf) 14 = .ok (.aload_n 0, 1) := by decide +kernel
theorem dX1_cellOf_15 : decode (dc DX1_cellOf) 15 = .ok (.iload_n 1, 1) := by decide +kernel
theorem dX1_cellOf_16 : decode (dc DX1_cellOf) 16 = .ok (.bipush 12, 2) := by decide +kernel
theorem dX1_cellOf_18 : decode (dc DX1_cellOf) 18 = .ok (.imul, 1) := by decide +kernel
theorem dX1_cellOf_19 : decode (dc DX1_cellOf) 19 = .ok (.iload_n 2, 1) := by decide +kernel
theorem dX1_cellOf_20 : decode (dc DX1_cellOf) 20 = .ok (.iadd, 1) := by decide +kernel
theorem dX1_cellOf_21 : decode (dc DX1_cellOf) 21 = .ok (.iaload, 1) := by decide +kernel
theorem dX1_cellOf_22 : decode (dc DX1_cellOf) 22 = .ok (.goto 4, 3) := by decide +kernel
theorem dX1_cellOf_25 : decode (dc DX1_cellOf) 25 = .ok (.iconst (-1), 1) := by decide +kernel
theorem dX1_cellOf_26 : decode (dc DX1_cellOf) 26 = .ok (.ireturn, 1) := by decide +kernel
theorem dX1_setCell_0 : decode (dc DX1_setCell) 0 = .ok (.iload_n 1, 1) := by decide +kernel
theorem dX1_setCell_1 : decode (dc DX1_setCell) 1 = .ok (.invokestatic 54, 3) := by decide +kernel
theorem dX1_setCell_4 : decode (dc DX1_setCell) 4 = .ok (.ifCond .eq 19, 3) := by decide +kernel
theorem dX1_setCell_7 : decode (dc DX1_setCell) 7 = .ok (.iload_n 2, 1) := by decide +kernel
theorem dX1_setCell_8 : decode (dc DX1_setCell) 8 = .ok (.invokestatic 54, 3) := by decide +kernel
theorem dX1_setCell_11 : decode (dc DX1_setCell) 11 = .ok (.ifCond .eq 12, 3) := by decide +kernel
theorem dX1_setCell_14 : decode (dc DX1_setCell) 14 = .ok (.aload_n 0, 1) := by decide +kernel
theorem dX1_setCell_15 : decode (dc DX1_setCell) 15 = .ok (.iload_n 1, 1) := by decide +kernel
theorem dX1_setCell_16 : decode (dc DX1_setCell) 16 = .ok (.bipush 12, 2) := by decide +kernel
theorem dX1_setCell_18 : decode (dc DX1_setCell) 18 = .ok (.imul, 1) := by decide +kernel
theorem dX1_setCell_19 : decode (dc DX1_setCell) 19 = .ok (.iload_n 2, 1) := by decide +kernel
theorem dX1_setCell_20 : decode (dc DX1_setCell) 20 = .ok (.iadd, 1) := by decide +kernel
theorem dX1_setCell_21 : decode (dc DX1_setCell) 21 = .ok (.iload_n 3, 1) := by decide +kernel
theorem dX1_setCell_22 : decode (dc DX1_setCell) 22 = .ok (.iastore, 1) := by decide +kernel
theorem dX1_setCell_23 : decode (dc DX1_setCell) 23 = .ok (.return_, 1) := by decide +kernel
theorem dX1_clear_0 : decode (dc DX1_clear) 0 = .ok (.aload_n 0, 1) := by decide +kernel
theorem dX1_clear_1 : decode (dc DX1_clear) 1 = .ok (.getfield 9, 3) := by decide +kernel
theorem dX1_clear_4 : decode (dc DX1_clear) 4 = .ok (.iload_n 1, 1) := by decide +kernel
theorem dX1_clear_5 : decode (dc DX1_clear) 5 = .ok (.iload_n 3, 1) := by decide +kernel
theorem dX1_clear_6 : decode (dc DX1_clear) 6 = .ok (.iconst (-1), 1) := by decide +kernel
theorem dX1_clear_7 : decode (dc DX1_clear) 7 = .ok (.invokestatic 69, 3) := by decide +kernel
theorem dX1_clear_10 : decode (dc DX1_clear) 10 = .ok (.aload_n 0, 1) := by decide +kernel
theorem dX1_clear_11 : decode (dc DX1_clear) 11 = .ok (.getfield 15, 3) := by decide +kernel
theorem dX1_clear_14 : decode (dc DX1_clear) 14 = .ok (.iload_n 2, 1) := by decide +kernel
theorem dX1_clear_15 : decode (dc DX1_clear) 15 = .ok (.iload_n 3, 1) := by decide +kernel
theorem dX1_clear_16 : decode (dc DX1_clear) 16 = .ok (.iconst (-1), 1) := by decide +kernel
theorem dX1_clear_17 : decode (dc DX1_clear) 17 = .ok (.invokestatic 69, 3) := by decide +kernel
theorem dX1_clear_20 : decode (dc DX1_clear) 20 = .ok (.return_, 1) := by decide +kernel
theorem dX1_followChain_0 : decode (dc DX1_followChain) 0 = .ok (.iconst 0, 1) := by decide +kernel
theorem dX1_followChain_1 : decode (dc DX1_followChain) 1 = .ok (.istore 4, 2) := by decide +kernel
theorem dX1_followChain_3 : decode (dc DX1_followChain) 3 = .ok (.iload_n 1, 1) := by decide +kernel
theorem dX1_followChain_4 : decode (dc DX1_followChain) 4 = .ok (.istore 5, 2) := by decide +kernel
theorem dX1_followChain_6 : decode (dc DX1_followChain) 6 = .ok (.aload_n 0, 1) := by decide +kernel
theorem dX1_followChain_7 : decode (dc DX1_followChain) 7 = .ok (.getfield 15, 3) := by decide +kernel
theorem dX1_followChain_10 : decode (dc DX1_followChain) 10 = .ok (.iload 5, 2) := by decide +kernel
theorem dX1_followChain_12 : decode (dc DX1_followChain) 12 = .ok (.iload_n 2, 1) := by decide +kernel
theorem dX1_followChain_13 : decode (dc DX1_followChain) 13 = .ok (.invokestatic 50, 3) := by decide +kernel
theorem dX1_followChain_16 : decode (dc DX1_followChain) 16 = .ok (.istore 6, 2) := by decide +kernel
theorem dX1_followChain_18 : decode (dc DX1_followChain) 18 = .ok (.iconst 0, 1) := by decide +kernel
theorem dX1_followChain_19 : decode (dc DX1_followChain) 19 = .ok (.istore 7, 2) := by decide +kernel
theorem dX1_followChain_21 : decode (dc DX1_followChain) 21 = .ok (.iload 7, 2) := by decide +kernel
theorem dX1_followChain_23 : decode (dc DX1_followChain) 23 = .ok (.bipush 24, 2) := by decide +kernel
theorem dX1_followChain_25 : decode (dc DX1_followChain) 25 = .ok (.if_icmp .ge 76, 3) := by decide +kernel
theorem dX1_followChain_28 : decode (dc DX1_followChain) 28 = .ok (.iload 5, 2) := by decide +kernel
theorem dX1_followChain_30 : decode (dc DX1_followChain) 30 = .ok (.iconst (-1), 1) := by decide +kernel
theorem dX1_followChain_31 : decode (dc DX1_followChain) 31 = .ok (.if_icmp .eq 70, 3) := by decide +kernel
theorem dX1_followChain_34 : decode (dc DX1_followChain) 34 = .ok (.iload 6, 2) := by decide +kernel
theorem dX1_followChain_36 : decode (dc DX1_followChain) 36 = .ok (.iconst (-1), 1) := by decide +kernel
theorem dX1_followChain_37 : decode (dc DX1_followChain) 37 = .ok (.if_icmp .eq 64, 3) := by decide +kernel
theorem dX1_followChain_40 : decode (dc DX1_followChain) 40 = .ok (.aload_n 0, 1) := by decide +kernel
theorem dX1_followChain_41 : decode (dc DX1_followChain) 41 = .ok (.getfield 21, 3) := by decide +kernel
theorem dX1_followChain_44 : decode (dc DX1_followChain) 44 = .ok (.iload 7, 2) := by decide +kernel
theorem dX1_followChain_46 : decode (dc DX1_followChain) 46 = .ok (.iload 6, 2) := by decide +kernel
theorem dX1_followChain_48 : decode (dc DX1_followChain) 48 = .ok (.iastore, 1) := by decide +kernel
theorem dX1_followChain_49 : decode (dc DX1_followChain) 49 = .ok (.aload_n 0, 1) := by decide +kernel
theorem dX1_followChain_50 : decode (dc DX1_followChain) 50 = .ok (.getfield 24, 3) := by decide +kernel
theorem dX1_followChain_53 : decode (dc DX1_followChain) 53 = .ok (.iload 7, 2) := by decide +kernel
theorem dX1_followChain_55 : decode (dc DX1_followChain) 55 = .ok (.iload 5, 2) := by decide +kernel
theorem dX1_followChain_57 : decode (dc DX1_followChain) 57 = .ok (.iastore, 1) := by decide +kernel
theorem dX1_followChain_58 : decode (dc DX1_followChain) 58 = .ok (.iinc 4 1, 3) := by decide +kernel
theorem dX1_followChain_61 : decode (dc DX1_followChain) 61 = .ok (.iload 7, 2) := by decide +kernel
theorem dX1_followChain_63 : decode (dc DX1_followChain) 63 = .ok (.iconst 2, 1) := by decide +kernel
theorem dX1_followChain_64 : decode (dc DX1_followChain) 64 = .ok (.irem, 1) := by decide +kernel
theorem dX1_followChain_65 : decode (dc DX1_followChain) 65 = .ok (.ifCond .ne 18, 3) := by decide +kernel
theorem dX1_followChain_68 : decode (dc DX1_followChain) 68 = .ok (.aload_n 0, 1) := by decide +kernel
theorem dX1_followChain_69 : decode (dc DX1_followChain) 69 = .ok (.getfield 9, 3) := by decide +kernel
theorem dX1_followChain_72 : decode (dc DX1_followChain) 72 = .ok (.iload 6, 2) := by decide +kernel
theorem dX1_followChain_74 : decode (dc DX1_followChain) 74 = .ok (.iload_n 3, 1) := by decide +kernel
theorem dX1_followChain_75 : decode (dc DX1_followChain) 75 = .ok (.invokestatic 50, 3) := by decide +kernel
theorem dX1_followChain_78 : decode (dc DX1_followChain) 78 = .ok (.istore 5, 2) := by decide +kernel
theorem dX1_followChain_80 : decode (dc DX1_followChain) 80 = .ok (.goto 15, 3) := by decide +kernel
theorem dX1_followChain_83 : decode (dc DX1_followChain) 83 = .ok (.aload_n 0, 1) := by decide +kernel
theorem dX1_followChain_84 : decode (dc DX1_followChain) 84 = .ok (.getfield 15, 3) := by decide +kernel
theorem dX1_followChain_87 : decode (dc DX1_followChain) 87 = .ok (.iload 5, 2) := by decide +kernel
theorem dX1_followChain_89 : decode (dc DX1_followChain) 89 = .ok (.iload_n 2, 1) := by decide +kernel
theorem dX1_followChain_90 : decode (dc DX1_followChain) 90 = .ok (.invokestatic 50, 3) := by decide +kernel
theorem dX1_followChain_93 : decode (dc DX1_followChain) 93 = .ok (.istore 6, 2) := by decide +kernel
theorem dX1_followChain_95 : decode (dc DX1_followChain) 95 = .ok (.iinc 7 1, 3) := by decide +kernel
theorem dX1_followChain_98 : decode (dc DX1_followChain) 98 = .ok (.goto (-77), 3) := by decide +kernel
theorem dX1_followChain_101 : decode (dc DX1_followChain) 101 = .ok (.iload 4, 2) := by decide +kernel
theorem dX1_followChain_103 : decode (dc DX1_followChain) 103 = .ok (.ireturn, 1) := by decide +kernel
theorem dJ9_max_7cf53_0 : decode (dc DJ9_max_7cf53) 0 = .ok (.iload_n 0, 1) := by decide +kernel
theorem dJ9_max_7cf53_1 : decode (dc DJ9_max_7cf53) 1 = .ok (.iload_n 1, 1) := by decide +kernel
theorem dJ9_max_7cf53_2 : decode (dc DJ9_max_7cf53) 2 = .ok (.if_icmp .lt 7, 3) := by decide +kernel
theorem dJ9_max_7cf53_5 : decode (dc DJ9_max_7cf53) 5 = .ok (.iload_n 0, 1) := by decide +kernel
theorem dJ9_max_7cf53_6 : decode (dc DJ9_max_7cf53) 6 = .ok (.goto 4, 3) := by decide +kernel
theorem dJ9_max_7cf53_9 : decode (dc DJ9_max_7cf53) 9 = .ok (.iload_n 1, 1) := by decide +kernel
theorem dJ9_max_7cf53_10 : decode (dc DJ9_max_7cf53) 10 = .ok (.ireturn, 1) := by decide +kernel
theorem dX1_put_0 : decode (dc DX1_put) 0 = .ok (.aload_n 0, 1) := by decide +kernel
theorem dX1_put_1 : decode (dc DX1_put) 1 = .ok (.getfield 9, 3) := by decide +kernel
theorem dX1_put_4 : decode (dc DX1_put) 4 = .ok (.iload_n 1, 1) := by decide +kernel
theorem dX1_put_5 : decode (dc DX1_put) 5 = .ok (.iload_n 3, 1) := by decide +kernel
theorem dX1_put_6 : decode (dc DX1_put) 6 = .ok (.iload_n 2, 1) := by decide +kernel
theorem dX1_put_7 : decode (dc DX1_put) 7 = .ok (.invokestatic 69, 3) := by decide +kernel
theorem dX1_put_10 : decode (dc DX1_put) 10 = .ok (.aload_n 0, 1) := by decide +kernel
theorem dX1_put_11 : decode (dc DX1_put) 11 = .ok (.getfield 15, 3) := by decide +kernel
theorem dX1_put_14 : decode (dc DX1_put) 14 = .ok (.iload_n 2, 1) := by decide +kernel
theorem dX1_put_15 : decode (dc DX1_put) 15 = .ok (.iload_n 3, 1) := by decide +kernel
theorem dX1_put_16 : decode (dc DX1_put) 16 = .ok (.iload_n 1, 1) := by decide +kernel
theorem dX1_put_17 : decode (dc DX1_put) 17 = .ok (.invokestatic 69, 3) := by decide +kernel
theorem dX1_put_20 : decode (dc DX1_put) 20 = .ok (.aload_n 0, 1) := by decide +kernel
theorem dX1_put_21 : decode (dc DX1_put) 21 = .ok (.getfield 18, 3) := by decide +kernel
theorem dX1_put_24 : decode (dc DX1_put) 24 = .ok (.iload_n 1, 1) := by decide +kernel
theorem dX1_put_25 : decode (dc DX1_put) 25 = .ok (.iload_n 2, 1) := by decide +kernel
theorem dX1_put_26 : decode (dc DX1_put) 26 = .ok (.iload_n 3, 1) := by decide +kernel
theorem dX1_put_27 : decode (dc DX1_put) 27 = .ok (.invokestatic 69, 3) := by decide +kernel
theorem dX1_put_30 : decode (dc DX1_put) 30 = .ok (.aload_n 0, 1) := by decide +kernel
theorem dX1_put_31 : decode (dc DX1_put) 31 = .ok (.aload_n 0, 1) := by decide +kernel
theorem dX1_put_32 : decode (dc DX1_put) 32 = .ok (.getfield 27, 3) := by decide +kernel
theorem dX1_put_35 : decode (dc DX1_put) 35 = .ok (.iload_n 3, 1) := by decide +kernel
theorem dX1_put_36 : decode (dc DX1_put) 36 = .ok (.iconst 1, 1) := by decide +kernel
theorem dX1_put_37 : decode (dc DX1_put) 37 = .ok (.iadd, 1) := by decide +kernel
theorem dX1_put_38 : decode (dc DX1_put) 38 = .ok (.invokestatic 73, 3) := by decide +kernel
theorem dX1_put_41 : decode (dc DX1_put) 41 = .ok (.putfield 27, 3) := by decide +kernel
theorem dX1_put_44 : decode (dc DX1_put) 44 = .ok (.return_, 1) := by decide +kernel
theorem dX1_change_0 : decode (dc DX1_change) 0 = .ok (.aload_n 0, 1) := by decide +kernel
theorem dX1_change_1 : decode (dc DX1_change) 1 = .ok (.iload_n 1, 1) := by decide +kernel
theorem dX1_change_2 : decode (dc DX1_change) 2 = .ok (.iload_n 2, 1) := by decide +kernel
theorem dX1_change_3 : decode (dc DX1_change) 3 = .ok (.iload_n 3, 1) := by decide +kernel
theorem dX1_change_4 : decode (dc DX1_change) 4 = .ok (.invokevirtual 79, 3) := by decide +kernel
theorem dX1_change_7 : decode (dc DX1_change) 7 = .ok (.istore 4, 2) := by decide +kernel
theorem dX1_change_9 : decode (dc DX1_change) 9 = .ok (.iconst 0, 1) := by decide +kernel
theorem dX1_change_10 : decode (dc DX1_change) 10 = .ok (.istore 5, 2) := by decide +kernel
theorem dX1_change_12 : decode (dc DX1_change) 12 = .ok (.iload 5, 2) := by decide +kernel
theorem dX1_change_14 : decode (dc DX1_change) 14 = .ok (.iload 4, 2) := by decide +kernel
theorem dX1_change_16 : decode (dc DX1_change) 16 = .ok (.if_icmp .ge 46, 3) := by decide +kernel
theorem dX1_change_19 : decode (dc DX1_change) 19 = .ok (.iload 5, 2) := by decide +kernel
theorem dX1_change_21 : decode (dc DX1_change) 21 = .ok (.bipush 24, 2) := by decide +kernel
theorem dX1_change_23 : decode (dc DX1_change) 23 = .ok (.if_icmp .ge 39, 3) := by decide +kernel
theorem dX1_change_26 : decode (dc DX1_change) 26 = .ok (.aload_n 0, 1) := by decide +kernel
theorem dX1_change_27 : decode (dc DX1_change) 27 = .ok (.aload_n 0, 1) := by decide +kernel
theorem dX1_change_28 : decode (dc DX1_change) 28 = .ok (.getfield 21, 3) := by decide +kernel
theorem dX1_change_31 : decode (dc DX1_change) 31 = .ok (.iload 5, 2) := by decide +kernel
theorem dX1_change_33 : decode (dc DX1_change) 33 = .ok (.iaload, 1) := by decide +kernel
theorem dX1_change_34 : decode (dc DX1_change) 34 = .ok (.aload_n 0, 1) := by decide +kernel
theorem dX1_change_35 : decode (dc DX1_change) 35 = .ok (.getfield 24, 3) := by decide +kernel
theorem dX1_change_38 : decode (dc DX1_change) 38 = .ok (.iload 5, 2) := by decide +kernel
theorem dX1_change_40 : decode (dc DX1_change) 40 = .ok (.iaload, 1) := by decide +kernel
theorem dX1_change_41 : decode (dc DX1_change) 41 = .ok (.iload 5, 2) := by decide +kernel
theorem dX1_change_43 : decode (dc DX1_change) 43 = .ok (.iconst 2, 1) := by decide +kernel
theorem dX1_change_44 : decode (dc DX1_change) 44 = .ok (.irem, 1) := by decide +kernel
theorem dX1_change_45 : decode (dc DX1_change) 45 = .ok (.ifCond .ne 7, 3) := by decide +kernel
theorem dX1_change_48 : decode (dc DX1_change) 48 = .ok (.iload_n 2, 1) := by decide +kernel
theorem dX1_change_49 : decode (dc DX1_change) 49 = .ok (.goto 4, 3) := by decide +kernel
theorem dX1_change_52 : decode (dc DX1_change) 52 = .ok (.iload_n 3, 1) := by decide +kernel
theorem dX1_change_53 : decode (dc DX1_change) 53 = .ok (.invokevirtual 83, 3) := by decide +kernel
theorem dX1_change_56 : decode (dc DX1_change) 56 = .ok (.iinc 5 1, 3) := by decide +kernel
theorem dX1_change_59 : decode (dc DX1_change) 59 = .ok (.goto (-47), 3) := by decide +kernel
theorem dX1_change_62 : decode (dc DX1_change) 62 = .ok (.iconst 0, 1) := by decide +kernel
theorem dX1_change_63 : decode (dc DX1_change) 63 = .ok (.istore 5, 2) := by decide +kernel
theorem dX1_change_65 : decode (dc DX1_change) 65 = .ok (.iload 5, 2) := by decide +kernel
theorem dX1_change_67 : decode (dc DX1_change) 67 = .ok (.iload 4, 2) := by decide +kernel
theorem dX1_change_69 : decode (dc DX1_change) 69 = .ok (.if_icmp .ge 46, 3) := by decide +kernel
theorem dX1_change_72 : decode (dc DX1_change) 72 = .ok (.iload 5, 2) := by decide +kernel
theorem dX1_change_74 : decode (dc DX1_change) 74 = .ok (.bipush 24, 2) := by decide +kernel
theorem dX1_change_76 : decode (dc DX1_change) 76 = .ok (.if_icmp .ge 39, 3) := by decide +kernel
theorem dX1_change_79 : decode (dc DX1_change) 79 = .ok (.aload_n 0, 1) := by decide +kernel
theorem dX1_change_80 : decode (dc DX1_change) 80 = .ok (.aload_n 0, 1) := by decide +kernel
theorem dX1_change_81 : decode (dc DX1_change) 81 = .ok (.getfield 21, 3) := by decide +kernel
theorem dX1_change_84 : decode (dc DX1_change) 84 = .ok (.iload 5, 2) := by decide +kernel
theorem dX1_change_86 : decode (dc DX1_change) 86 = .ok (.iaload, 1) := by decide +kernel
theorem dX1_change_87 : decode (dc DX1_change) 87 = .ok (.aload_n 0, 1) := by decide +kernel
theorem dX1_change_88 : decode (dc DX1_change) 88 = .ok (.getfield 24, 3) := by decide +kernel
theorem dX1_change_91 : decode (dc DX1_change) 91 = .ok (.iload 5, 2) := by decide +kernel
theorem dX1_change_93 : decode (dc DX1_change) 93 = .ok (.iaload, 1) := by decide +kernel
theorem dX1_change_94 : decode (dc DX1_change) 94 = .ok (.iload 5, 2) := by decide +kernel
theorem dX1_change_96 : decode (dc DX1_change) 96 = .ok (.iconst 2, 1) := by decide +kernel
theorem dX1_change_97 : decode (dc DX1_change) 97 = .ok (.irem, 1) := by decide +kernel
theorem dX1_change_98 : decode (dc DX1_change) 98 = .ok (.ifCond .ne 7, 3) := by decide +kernel
theorem dX1_change_101 : decode (dc DX1_change) 101 = .ok (.iload_n 3, 1) := by decide +kernel
theorem dX1_change_102 : decode (dc DX1_change) 102 = .ok (.goto 4, 3) := by decide +kernel
theorem dX1_change_105 : decode (dc DX1_change) 105 = .ok (.iload_n 2, 1) := by decide +kernel
theorem dX1_change_106 : decode (dc DX1_change) 106 = .ok (.invokevirtual 66, 3) := by decide +kernel
theorem dX1_change_109 : decode (dc DX1_change) 109 = .ok (.iinc 5 1, 3) := by decide +kernel
theorem dX1_change_112 : decode (dc DX1_change) 112 = .ok (.goto (-47), 3) := by decide +kernel
theorem dX1_change_115 : decode (dc DX1_change) 115 = .ok (.return_, 1) := by decide +kernel
theorem dX1_leastLeft_0 : decode (dc DX1_leastLeft) 0 = .ok (.iconst 0, 1) := by decide +kernel
theorem dX1_leastLeft_1 : decode (dc DX1_leastLeft) 1 = .ok (.istore_n 2, 1) := by decide +kernel
theorem dX1_leastLeft_2 : decode (dc DX1_leastLeft) 2 = .ok (.iload_n 2, 1) := by decide +kernel
theorem dX1_leastLeft_3 : decode (dc DX1_leastLeft) 3 = .ok (.bipush 12, 2) := by decide +kernel
theorem dX1_leastLeft_5 : decode (dc DX1_leastLeft) 5 = .ok (.if_icmp .ge 21, 3) := by decide +kernel
theorem dX1_leastLeft_8 : decode (dc DX1_leastLeft) 8 = .ok (.aload_n 0, 1) := by decide +kernel
theorem dX1_leastLeft_9 : decode (dc DX1_leastLeft) 9 = .ok (.iload_n 1, 1) := by decide +kernel
theorem dX1_leastLeft_10 : decode (dc DX1_leastLeft) 10 = .ok (.iload_n 2, 1) := by decide +kernel
theorem dX1_leastLeft_11 : decode (dc DX1_leastLeft) 11 = .ok (.invokestatic 50, 3) := by decide +kernel
theorem dX1_leastLeft_14 : decode (dc DX1_leastLeft) 14 = .ok (.iconst (-1), 1) := by decide +kernel
theorem dX1_leastLeft_15 : decode (dc DX1_leastLeft) 15 = .ok (.if_icmp .ne 5, 3) := by decide +kernel
theorem dX1_leastLeft_18 : decode (dc DX1_leastLeft) 18 = .ok (.iload_n 2, 1) := by decide +kernel
theorem dX1_leastLeft_19 : decode (dc DX1_leastLeft) 19 = .ok (.ireturn, 1) := by decide +kernel
theorem dX1_leastLeft_20 : decode (dc DX1_leastLeft) 20 = .ok (.iinc 2 1, 3) := by decide +kernel
theorem dX1_leastLeft_23 : decode (dc DX1_leastLeft) 23 = .ok (.goto (-21), 3) := by decide +kernel
theorem dX1_leastLeft_26 : decode (dc DX1_leastLeft) 26 = .ok (.iconst (-1), 1) := by decide +kernel
theorem dX1_leastLeft_27 : decode (dc DX1_leastLeft) 27 = .ok (.ireturn, 1) := by decide +kernel
theorem dX1_give_0 : decode (dc DX1_give) 0 = .ok (.aload_n 0, 1) := by decide +kernel
theorem dX1_give_1 : decode (dc DX1_give) 1 = .ok (.getfield 9, 3) := by decide +kernel
theorem dX1_give_4 : decode (dc DX1_give) 4 = .ok (.iload_n 1, 1) := by decide +kernel
theorem dX1_give_5 : decode (dc DX1_give) 5 = .ok (.invokestatic 58, 3) := by decide +kernel
theorem dX1_give_8 : decode (dc DX1_give) 8 = .ok (.istore_n 3, 1) := by decide +kernel
theorem dX1_give_9 : decode (dc DX1_give) 9 = .ok (.aload_n 0, 1) := by decide +kernel
theorem dX1_give_10 : decode (dc DX1_give) 10 = .ok (.getfield 15, 3) := by decide +kernel
theorem dX1_give_13 : decode (dc DX1_give) 13 = .ok (.iload_n 2, 1) := by decide +kernel
theorem dX1_give_14 : decode (dc DX1_give) 14 = .ok (.invokestatic 58, 3) := by decide +kernel
theorem dX1_give_17 : decode (dc DX1_give) 17 = .ok (.istore 4, 2) := by decide +kernel
theorem dX1_give_19 : decode (dc DX1_give) 19 = .ok (.aload_n 0, 1) := by decide +kernel
theorem dX1_give_20 : decode (dc DX1_give) 20 = .ok (.getfield 15, 3) := by decide +kernel
theorem dX1_give_23 : decode (dc DX1_give) 23 = .ok (.iload_n 2, 1) := by decide +kernel
theorem dX1_give_24 : decode (dc DX1_give) 24 = .ok (.iload_n 3, 1) := by decide +kernel
theorem dX1_give_25 : decode (dc DX1_give) 25 = .ok (.invokestatic 50, 3) := by decide +kernel
theorem dX1_give_28 : decode (dc DX1_give) 28 = .ok (.iconst (-1), 1) := by decide +kernel
theorem dX1_give_29 : decode (dc DX1_give) 29 = .ok (.if_icmp .eq 11, 3) := by decide +kernel
theorem dX1_give_32 : decode (dc DX1_give) 32 = .ok (.aload_n 0, 1) := by decide +kernel
theorem dX1_give_33 : decode (dc DX1_give) 33 = .ok (.iload_n 2, 1) := by decide +kernel
theorem dX1_give_34 : decode (dc DX1_give) 34 = .ok (.iload_n 3, 1) := by decide +kernel
theorem dX1_give_35 : decode (dc DX1_give) 35 = .ok (.iload 4, 2) := by decide +kernel
theorem dX1_give_37 : decode (dc DX1_give) 37 = .ok (.invokevirtual 62, 3) := by decide +kernel
theorem dX1_give_40 : decode (dc DX1_give) 40 = .ok (.aload_n 0, 1) := by decide +kernel
theorem dX1_give_41 : decode (dc DX1_give) 41 = .ok (.iload_n 1, 1) := by decide +kernel
theorem dX1_give_42 : decode (dc DX1_give) 42 = .ok (.iload_n 2, 1) := by decide +kernel
theorem dX1_give_43 : decode (dc DX1_give) 43 = .ok (.iload_n 3, 1) := by decide +kernel
theorem dX1_give_44 : decode (dc DX1_give) 44 = .ok (.invokevirtual 66, 3) := by decide +kernel
theorem dX1_give_47 : decode (dc DX1_give) 47 = .ok (.return_, 1) := by decide +kernel
theorem dX1_fill_0 : decode (dc DX1_fill) 0 = .ok (.iconst 0, 1) := by decide +kernel
theorem dX1_fill_1 : decode (dc DX1_fill) 1 = .ok (.istore_n 2, 1) := by decide +kernel
theorem dX1_fill_2 : decode (dc DX1_fill) 2 = .ok (.iload_n 2, 1) := by decide +kernel
theorem dX1_fill_3 : decode (dc DX1_fill) 3 = .ok (.sipush 144, 3) := by decide +kernel
theorem dX1_fill_6 : decode (dc DX1_fill) 6 = .ok (.if_icmp .ge 30, 3) := by decide +kernel
theorem dX1_fill_9 : decode (dc DX1_fill) 9 = .ok (.aload_n 0, 1) := by decide +kernel
theorem dX1_fill_10 : decode (dc DX1_fill) 10 = .ok (.getfield 9, 3) := by decide +kernel
theorem dX1_fill_13 : decode (dc DX1_fill) 13 = .ok (.iload_n 2, 1) := by decide +kernel
theorem dX1_fill_14 : decode (dc DX1_fill) 14 = .ok (.iconst (-1), 1) := by decide +kernel
theorem dX1_fill_15 : decode (dc DX1_fill) 15 = .ok (.iastore, 1) := by decide +kernel
theorem dX1_fill_16 : decode (dc DX1_fill) 16 = .ok (.aload_n 0, 1) := by decide +kernel
theorem dX1_fill_17 : decode (dc DX1_fill) 17 = .ok (.getfield 15, 3) := by decide +kernel
theorem dX1_fill_20 : decode (dc DX1_fill) 20 = .ok (.iload_n 2, 1) := by decide +kernel
theorem dX1_fill_21 : decode (dc DX1_fill) 21 = .ok (.iconst (-1), 1) := by decide +kernel
theorem dX1_fill_22 : decode (dc DX1_fill) 22 = .ok (.iastore, 1) := by decide +kernel
theorem dX1_fill_23 : decode (dc DX1_fill) 23 = .ok (.aload_n 0, 1) := by decide +kernel
theorem dX1_fill_24 : decode (dc DX1_fill) 24 = .ok (.getfield 18, 3) := by decide +kernel
theorem dX1_fill_27 : decode (dc DX1_fill) 27 = .ok (.iload_n 2, 1) := by decide +kernel
theorem dX1_fill_28 : decode (dc DX1_fill) 28 = .ok (.iconst (-1), 1) := by decide +kernel
theorem dX1_fill_29 : decode (dc DX1_fill) 29 = .ok (.iastore, 1) := by decide +kernel
theorem dX1_fill_30 : decode (dc DX1_fill) 30 = .ok (.iinc 2 1, 3) := by decide +kernel
theorem dX1_fill_33 : decode (dc DX1_fill) 33 = .ok (.goto (-31), 3) := by decide +kernel
theorem dX1_fill_36 : decode (dc DX1_fill) 36 = .ok (.aload_n 0, 1) := by decide +kernel
theorem dX1_fill_37 : decode (dc DX1_fill) 37 = .ok (.iconst 0, 1) := by decide +kernel
theorem dX1_fill_38 : decode (dc DX1_fill) 38 = .ok (.putfield 27, 3) := by decide +kernel
theorem dX1_fill_41 : decode (dc DX1_fill) 41 = .ok (.iconst 0, 1) := by decide +kernel
theorem dX1_fill_42 : decode (dc DX1_fill) 42 = .ok (.istore_n 2, 1) := by decide +kernel
theorem dX1_fill_43 : decode (dc DX1_fill) 43 = .ok (.iload_n 2, 1) := by decide +kernel
theorem dX1_fill_44 : decode (dc DX1_fill) 44 = .ok (.aload_n 1, 1) := by decide +kernel
theorem dX1_fill_45 : decode (dc DX1_fill) 45 = .ok (.getfield 31, 3) := by decide +kernel
theorem dX1_fill_48 : decode (dc DX1_fill) 48 = .ok (.if_icmp .ge 58, 3) := by decide +kernel
theorem dX1_fill_51 : decode (dc DX1_fill) 51 = .ok (.iconst 0, 1) := by decide +kernel
theorem dX1_fill_52 : decode (dc DX1_fill) 52 = .ok (.istore_n 3, 1) := by decide +kernel
theorem dX1_fill_53 : decode (dc DX1_fill) 53 = .ok (.iload_n 3, 1) := by decide +kernel
theorem dX1_fill_54 : decode (dc DX1_fill) 54 = .ok (.aload_n 1, 1) := by decide +kernel
theorem dX1_fill_55 : decode (dc DX1_fill) 55 = .ok (.getfield 36, 3) := by decide +kernel
theorem dX1_fill_58 : decode (dc DX1_fill) 58 = .ok (.if_icmp .ge 42, 3) := by decide +kernel
theorem dX1_fill_61 : decode (dc DX1_fill) 61 = .ok (.aload_n 1, 1) := by decide +kernel
theorem dX1_fill_62 : decode (dc DX1_fill) 62 = .ok (.iload_n 2, 1) := by decide +kernel
theorem dX1_fill_63 : decode (dc DX1_fill) 63 = .ok (.iload_n 3, 1) := by decide +kernel
theorem dX1_fill_64 : decode (dc DX1_fill) 64 = .ok (.invokevirtual 39, 3) := by decide +kernel
theorem dX1_fill_67 : decode (dc DX1_fill) 67 = .ok (.ifCond .eq 27, 3) := by decide +kernel
theorem dX1_fill_70 : decode (dc DX1_fill) 70 = .ok (.aload_n 1, 1) := by decide +kernel
theorem dX1_fill_71 : decode (dc DX1_fill) 71 = .ok (.iconst 0, 1) := by decide +kernel
theorem dX1_fill_72 : decode (dc DX1_fill) 72 = .ok (.iload_n 2, 1) := by decide +kernel
theorem dX1_fill_73 : decode (dc DX1_fill) 73 = .ok (.invokevirtual 43, 3) := by decide +kernel
theorem dX1_fill_76 : decode (dc DX1_fill) 76 = .ok (.ifCond .eq 18, 3) := by decide +kernel
theorem dX1_fill_79 : decode (dc DX1_fill) 79 = .ok (.aload_n 1, 1) := by decide +kernel
theorem dX1_fill_80 : decode (dc DX1_fill) 80 = .ok (.iconst 1, 1) := by decide +kernel
theorem dX1_fill_81 : decode (dc DX1_fill) 81 = .ok (.iload_n 3, 1) := by decide +kernel
theorem dX1_fill_82 : decode (dc DX1_fill) 82 = .ok (.invokevirtual 43, 3) := by decide +kernel
theorem dX1_fill_85 : decode (dc DX1_fill) 85 = .ok (.ifCond .eq 9, 3) := by decide +kernel
theorem dX1_fill_88 : decode (dc DX1_fill) 88 = .ok (.aload_n 0, 1) := by decide +kernel
theorem dX1_fill_89 : decode (dc DX1_fill) 89 = .ok (.iload_n 2, 1) := by decide +kernel
theorem dX1_fill_90 : decode (dc DX1_fill) 90 = .ok (.iload_n 3, 1) := by decide +kernel
theorem dX1_fill_91 : decode (dc DX1_fill) 91 = .ok (.invokevirtual 46, 3) := by decide +kernel
theorem dX1_fill_94 : decode (dc DX1_fill) 94 = .ok (.iinc 3 1, 3) := by decide +kernel
theorem dX1_fill_97 : decode (dc DX1_fill) 97 = .ok (.goto (-44), 3) := by decide +kernel
theorem dX1_fill_100 : decode (dc DX1_fill) 100 = .ok (.iinc 2 1, 3) := by decide +kernel
theorem dX1_fill_103 : decode (dc DX1_fill) 103 = .ok (.goto (-60), 3) := by decide +kernel
theorem dX1_fill_106 : decode (dc DX1_fill) 106 = .ok (.return_, 1) := by decide +kernel
theorem dX1_roundOf_0 : decode (dc DX1_roundOf) 0 = .ok (.aload_n 0, 1) := by decide +kernel
theorem dX1_roundOf_1 : decode (dc DX1_roundOf) 1 = .ok (.getfield 18, 3) := by decide +kernel
theorem dX1_roundOf_4 : decode (dc DX1_roundOf) 4 = .ok (.iload_n 1, 1) := by decide +kernel
theorem dX1_roundOf_5 : decode (dc DX1_roundOf) 5 = .ok (.iload_n 2, 1) := by decide +kernel
theorem dX1_roundOf_6 : decode (dc DX1_roundOf) 6 = .ok (.invokestatic 50, 3) := by decide +kernel
theorem dX1_roundOf_9 : decode (dc DX1_roundOf) 9 = .ok (.ireturn, 1) := by decide +kernel
theorem dX2_init_0 : decode (dc DX2_init) 0 = .ok (.aload_n 0, 1) := by decide +kernel
theorem dX2_init_1 : decode (dc DX2_init) 1 = .ok (.invokespecial 3, 3) := by decide +kernel
theorem dX2_init_4 : decode (dc DX2_init) 4 = .ok (.aload_n 0, 1) := by decide +kernel
theorem dX2_init_5 : decode (dc DX2_init) 5 = .ok (.bipush 15, 2) := by decide +kernel
theorem dX2_init_7 : decode (dc DX2_init) 7 = .ok (.anewarray 9, 3) := by decide +kernel
theorem dX2_init_10 : decode (dc DX2_init) 10 = .ok (.putfield 11, 3) := by decide +kernel
theorem dX2_init_13 : decode (dc DX2_init) 13 = .ok (.aload_n 0, 1) := by decide +kernel
theorem dX2_init_14 : decode (dc DX2_init) 14 = .ok (.iconst 0, 1) := by decide +kernel
theorem dX2_init_15 : decode (dc DX2_init) 15 = .ok (.putfield 17, 3) := by decide +kernel
theorem dX2_init_18 : decode (dc DX2_init) 18 = .ok (.aload_n 0, 1) := by decide +kernel
theorem dX2_init_19 : decode (dc DX2_init) 19 = .ok (.iconst 0, 1) := by decide +kernel
theorem dX2_init_20 : decode (dc DX2_init) 20 = .ok (.putfield 21, 3) := by decide +kernel
theorem dX2_init_23 : decode (dc DX2_init) 23 = .ok (.iconst 0, 1) := by decide +kernel
theorem dX2_init_24 : decode (dc DX2_init) 24 = .ok (.istore_n 1, 1) := by decide +kernel
theorem dX2_init_25 : decode (dc DX2_init) 25 = .ok (.iload_n 1, 1) := by decide +kernel
theorem dX2_init_26 : decode (dc DX2_init) 26 = .ok (.bipush 15, 2) := by decide +kernel
theorem dX2_init_28 : decode (dc DX2_init) 28 = .ok (.if_icmp .ge 22, 3) := by decide +kernel
theorem dX2_init_31 : decode (dc DX2_init) 31 = .ok (.aload_n 0, 1) := by decide +kernel
theorem dX2_init_32 : decode (dc DX2_init) 32 = .ok (.getfield 11, 3) := by decide +kernel
theorem dX2_init_35 : decode (dc DX2_init) 35 = .ok (.iload_n 1, 1) := by decide +kernel
theorem dX2_init_36 : decode (dc DX2_init) 36 = .ok (.new 9, 3) := by decide +kernel
theorem dX2_init_39 : decode (dc DX2_init) 39 = .ok (.dup, 1) := by decide +kernel
theorem dX2_init_40 : decode (dc DX2_init) 40 = .ok (.invokespecial 24, 3) := by decide +kernel
theorem dX2_init_43 : decode (dc DX2_init) 43 = .ok (.aastore, 1) := by decide +kernel
theorem dX2_init_44 : decode (dc DX2_init) 44 = .ok (.iinc 1 1, 3) := by decide +kernel
theorem dX2_init_47 : decode (dc DX2_init) 47 = .ok (.goto (-22), 3) := by decide +kernel
theorem dX2_init_50 : decode (dc DX2_init) 50 = .ok (.return_, 1) := by decide +kernel
theorem dX2_bookAt_0 : decode (dc DX2_bookAt) 0 = .ok (.iload_n 1, 1) := by decide +kernel
theorem dX2_bookAt_1 : decode (dc DX2_bookAt) 1 = .ok (.ifCond .lt 18, 3) := by decide +kernel
theorem dX2_bookAt_4 : decode (dc DX2_bookAt) 4 = .ok (.iload_n 1, 1) := by decide +kernel
theorem dX2_bookAt_5 : decode (dc DX2_bookAt) 5 = .ok (.bipush 15, 2) := by decide +kernel
theorem dX2_bookAt_7 : decode (dc DX2_bookAt) 7 = .ok (.if_icmp .ge 12, 3) := by decide +kernel
theorem dX2_bookAt_10 : decode (dc DX2_bookAt) 10 = .ok (.aload_n 0, 1) := by decide +kernel
theorem dX2_bookAt_11 : decode (dc DX2_bookAt) 11 = .ok (.getfield 11, 3) := by decide +kernel
theorem dX2_bookAt_14 : decode (dc DX2_bookAt) 14 = .ok (.iload_n 1, 1) := by decide +kernel
theorem dX2_bookAt_15 : decode (dc DX2_bookAt) 15 = .ok (.aaload, 1) := by decide +kernel
theorem dX2_bookAt_16 : decode (dc DX2_bookAt) 16 = .ok (.goto 4, 3) := by decide +kernel
theorem dX2_bookAt_19 : decode (dc DX2_bookAt) 19 = .ok (.aconst_null, 1) := by decide +kernel
theorem dX2_bookAt_20 : decode (dc DX2_bookAt) 20 = .ok (.areturn, 1) := by decide +kernel
theorem dX2_save_0 : decode (dc DX2_save) 0 = .ok (.aload_n 0, 1) := by decide +kernel
theorem dX2_save_1 : decode (dc DX2_save) 1 = .ok (.aload_n 0, 1) := by decide +kernel
theorem dX2_save_2 : decode (dc DX2_save) 2 = .ok (.getfield 17, 3) := by decide +kernel
theorem dX2_save_5 : decode (dc DX2_save) 5 = .ok (.invokevirtual 25, 3) := by decide +kernel
theorem dX2_save_8 : decode (dc DX2_save) 8 = .ok (.astore_n 2, 1) := by decide +kernel
theorem dX2_save_9 : decode (dc DX2_save) 9 = .ok (.aload_n 2, 1) := by decide +kernel
theorem dX2_save_10 : decode (dc DX2_save) 10 = .ok (.ifnull 57, 3) := by decide +kernel
theorem dX2_save_13 : decode (dc DX2_save) 13 = .ok (.aload_n 2, 1) := by decide +kernel
theorem dX2_save_14 : decode (dc DX2_save) 14 = .ok (.aload_n 1, 1) := by decide +kernel
theorem dX2_save_15 : decode (dc DX2_save) 15 = .ok (.invokevirtual 29, 3) := by decide +kernel
theorem dX2_save_18 : decode (dc DX2_save) 18 = .ok (.aload_n 0, 1) := by decide +kernel
theorem dX2_save_19 : decode (dc DX2_save) 19 = .ok (.aload_n 0, 1) := by decide +kernel
theorem dX2_save_20 : decode (dc DX2_save) 20 = .ok (.getfield 17, 3) := by decide +kernel
theorem dX2_save_23 : decode (dc DX2_save) 23 = .ok (.iconst 1, 1) := by decide +kernel
theorem dX2_save_24 : decode (dc DX2_save) 24 = .ok (.iadd, 1) := by decide +kernel
theorem dX2_save_25 : decode (dc DX2_save) 25 = .ok (.bipush 15, 2) := by decide +kernel
theorem dX2_save_27 : decode (dc DX2_save) 27 = .ok (.if_icmp .ge 12, 3) := by decide +kernel
theorem dX2_save_30 : decode (dc DX2_save) 30 = .ok (.aload_n 0, 1) := by decide +kernel
theorem dX2_save_31 : decode (dc DX2_save) 31 = .ok (.getfield 17, 3) := by decide +kernel
theorem dX2_save_34 : decode (dc DX2_save) 34 = .ok (.iconst 1, 1) := by decide +kernel
theorem dX2_save_35 : decode (dc DX2_save) 35 = .ok (.iadd, 1) := by decide +kernel
theorem dX2_save_36 : decode (dc DX2_save) 36 = .ok (.goto 4, 3) := by decide +kernel
theorem dX2_save_39 : decode (dc DX2_save) 39 = .ok (.iconst 0, 1) := by decide +kernel
theorem dX2_save_40 : decode (dc DX2_save) 40 = .ok (.putfield 17, 3) := by decide +kernel
theorem dX2_save_43 : decode (dc DX2_save) 43 = .ok (.aload_n 0, 1) := by decide +kernel
theorem dX2_save_44 : decode (dc DX2_save) 44 = .ok (.aload_n 0, 1) := by decide +kernel
theorem dX2_save_45 : decode (dc DX2_save) 45 = .ok (.getfield 21, 3) := by decide +kernel
theorem dX2_save_48 : decode (dc DX2_save) 48 = .ok (.bipush 15, 2) := by decide +kernel
theorem dX2_save_50 : decode (dc DX2_save) 50 = .ok (.if_icmp .ge 12, 3) := by decide +kernel
theorem dX2_save_53 : decode (dc DX2_save) 53 = .ok (.aload_n 0, 1) := by decide +kernel
theorem dX2_save_54 : decode (dc DX2_save) 54 = .ok (.getfield 21, 3) := by decide +kernel
theorem dX2_save_57 : decode (dc DX2_save) 57 = .ok (.iconst 1, 1) := by decide +kernel
theorem dX2_save_58 : decode (dc DX2_save) 58 = .ok (.iadd, 1) := by decide +kernel
theorem dX2_save_59 : decode (dc DX2_save) 59 = .ok (.goto 5, 3) := by decide +kernel
theorem dX2_save_62 : decode (dc DX2_save) 62 = .ok (.bipush 15, 2) := by decide +kernel
theorem dX2_save_64 : decode (dc DX2_save) 64 = .ok (.putfield 21, 3) := by decide +kernel
theorem dX2_save_67 : decode (dc DX2_save) 67 = .ok (.return_, 1) := by decide +kernel
theorem dX2_takeBack_0 : decode (dc DX2_takeBack) 0 = .ok (.aload_n 0, 1) := by decide +kernel
theorem dX2_takeBack_1 : decode (dc DX2_takeBack) 1 = .ok (.getfield 17, 3) := by decide +kernel
theorem dX2_takeBack_4 : decode (dc DX2_takeBack) 4 = .ok (.ifCond .le 12, 3) := by decide +kernel
theorem dX2_takeBack_7 : decode (dc DX2_takeBack) 7 = .ok (.aload_n 0, 1) := by decide +kernel
theorem dX2_takeBack_8 : decode (dc DX2_takeBack) 8 = .ok (.getfield 17, 3) := by decide +kernel
theorem dX2_takeBack_11 : decode (dc DX2_takeBack) 11 = .ok (.iconst 1, 1) := by decide +kernel
theorem dX2_takeBack_12 : decode (dc DX2_takeBack) 12 = .ok (.isub, 1) := by decide +kernel
theorem dX2_takeBack_13 : decode (dc DX2_takeBack) 13 = .ok (.goto 5, 3) := by decide +kernel
theorem dX2_takeBack_16 : decode (dc DX2_takeBack) 16 = .ok (.bipush 14, 2) := by decide +kernel
theorem dX2_takeBack_18 : decode (dc DX2_takeBack) 18 = .ok (.istore_n 2, 1) := by decide +kernel
theorem dX2_takeBack_19 : decode (dc DX2_takeBack) 19 = .ok (.aload_n 0, 1) := by decide +kernel
theorem dX2_takeBack_20 : decode (dc DX2_takeBack) 20 = .ok (.iload_n 2, 1) := by decide +kernel
theorem dX2_takeBack_21 : decode (dc DX2_takeBack) 21 = .ok (.invokevirtual 25, 3) := by decide +kernel
theorem dX2_takeBack_24 : decode (dc DX2_takeBack) 24 = .ok (.astore_n 3, 1) := by decide +kernel
theorem dX2_takeBack_25 : decode (dc DX2_takeBack) 25 = .ok (.aload_n 0, 1) := by decide +kernel
theorem dX2_takeBack_26 : decode (dc DX2_takeBack) 26 = .ok (.getfield 21, 3) := by decide +kernel
theorem dX2_takeBack_29 : decode (dc DX2_takeBack) 29 = .ok (.ifCond .eq 7, 3) := by decide +kernel
theorem dX2_takeBack_32 : decode (dc DX2_takeBack) 32 = .ok (.aload_n 3, 1) := by decide +kernel
theorem dX2_takeBack_33 : decode (dc DX2_takeBack) 33 = .ok (.ifnonnull 5, 3) := by decide +kernel
theorem dX2_takeBack_36 : decode (dc DX2_takeBack) 36 = .ok (.iconst 0, 1) := by decide +kernel
theorem dX2_takeBack_37 : decode (dc DX2_takeBack) 37 = .ok (.ireturn, 1) := by decide +kernel
theorem dX2_takeBack_38 : decode (dc DX2_takeBack) 38 = .ok (.aload_n 1, 1) := by decide +kernel
theorem dX2_takeBack_39 : decode (dc DX2_takeBack) 39 = .ok (.aload_n 3, 1) := by decide +kernel
theorem dX2_takeBack_40 : decode (dc DX2_takeBack) 40 = .ok (.invokevirtual 29, 3) := by decide +kernel
theorem dX2_takeBack_43 : decode (dc DX2_takeBack) 43 = .ok (.aload_n 0, 1) := by decide +kernel
theorem dX2_takeBack_44 : decode (dc DX2_takeBack) 44 = .ok (.iload_n 2, 1) := by decide +kernel
theorem dX2_takeBack_45 : decode (dc DX2_takeBack) 45 = .ok (.putfield 17, 3) := by decide +kernel
theorem dX2_takeBack_48 : decode (dc DX2_takeBack) 48 = .ok (.aload_n 0, 1) := by decide +kernel
theorem dX2_takeBack_49 : decode (dc DX2_takeBack) 49 = .ok (.dup, 1) := by decide +kernel
theorem dX2_takeBack_50 : decode (dc DX2_takeBack) 50 = .ok (.getfield 21, 3) := by decide +kernel
theorem dX2_takeBack_53 : decode (dc DX2_takeBack) 53 = .ok (.iconst 1, 1) := by decide +kernel
theorem dX2_takeBack_54 : decode (dc DX2_takeBack) 54 = .ok (.isub, 1) := by decide +kernel
theorem dX2_takeBack_55 : decode (dc DX2_takeBack) 55 = .ok (.putfield 21, 3) := by decide +kernel
theorem dX2_takeBack_58 : decode (dc DX2_takeBack) 58 = .ok (.iconst 1, 1) := by decide +kernel
theorem dX2_takeBack_59 : decode (dc DX2_takeBack) 59 = .ok (.ireturn, 1) := by decide +kernel
theorem dX3_join_0 : decode (dc DX3_join) 0 = .ok (.iload_n 1, 1) := by decide +kernel
theorem dX3_join_1 : decode (dc DX3_join) 1 = .ok (.invokestatic 21, 3) := by decide +kernel
theorem dX3_join_4 : decode (dc DX3_join) 4 = .ok (.ifCond .eq 10, 3) := by decide +kernel
theorem dX3_join_7 : decode (dc DX3_join) 7 = .ok (.iload_n 2, 1) := by decide +kernel
theorem dX3_join_8 : decode (dc DX3_join) 8 = .ok (.invokestatic 21, 3) := by decide +kernel
theorem dX3_join_11 : decode (dc DX3_join) 11 = .ok (.ifCond .ne 4, 3) := by decide +kernel
theorem dX3_join_14 : decode (dc DX3_join) 14 = .ok (.return_, 1) := by decide +kernel
theorem dX3_join_15 : decode (dc DX3_join) 15 = .ok (.aload_n 0, 1) := by decide +kernel
theorem dX3_join_16 : decode (dc DX3_join) 16 = .ok (.getfield 9, 3) := by decide +kernel
theorem dX3_join_19 : decode (dc DX3_join) 19 = .ok (.iload_n 1, 1) := by decide +kernel
theorem dX3_join_20 : decode (dc DX3_join) 20 = .ok (.iaload, 1) := by decide +kernel
theorem dX3_join_21 : decode (dc DX3_join) 21 = .ok (.istore_n 3, 1) := by decide +kernel
theorem dX3_join_22 : decode (dc DX3_join) 22 = .ok (.aload_n 0, 1) := by decide +kernel
theorem dX3_join_23 : decode (dc DX3_join) 23 = .ok (.getfield 15, 3) := by decide +kernel
theorem dX3_join_26 : decode (dc DX3_join) 26 = .ok (.iload_n 2, 1) := by decide +kernel
theorem dX3_join_27 : decode (dc DX3_join) 27 = .ok (.iaload, 1) := by decide +kernel
theorem dX3_join_28 : decode (dc DX3_join) 28 = .ok (.istore 4, 2) := by decide +kernel
theorem dX3_join_30 : decode (dc DX3_join) 30 = .ok (.iload_n 3, 1) := by decide +kernel
theorem dX3_join_31 : decode (dc DX3_join) 31 = .ok (.invokestatic 21, 3) := by decide +kernel
theorem dX3_join_34 : decode (dc DX3_join) 34 = .ok (.ifCond .eq 10, 3) := by decide +kernel
theorem dX3_join_37 : decode (dc DX3_join) 37 = .ok (.aload_n 0, 1) := by decide +kernel
theorem dX3_join_38 : decode (dc DX3_join) 38 = .ok (.getfield 15, 3) := by decide +kernel
theorem dX3_join_41 : decode (dc DX3_join) 41 = .ok (.iload_n 3, 1) := by decide +kernel
theorem dX3_join_42 : decode (dc DX3_join) 42 = .ok (.iconst (-1), 1) := by decide +kernel
theorem dX3_join_43 : decode (dc DX3_join) 43 = .ok (.iastore, 1) := by decide +kernel
theorem dX3_join_44 : decode (dc DX3_join) 44 = .ok (.iload 4, 2) := by decide +kernel
theorem dX3_join_46 : decode (dc DX3_join) 46 = .ok (.invokestatic 21, 3) := by decide +kernel
theorem dX3_join_49 : decode (dc DX3_join) 49 = .ok (.ifCond .eq 11, 3) := by decide +kernel
theorem dX3_join_52 : decode (dc DX3_join) 52 = .ok (.aload_n 0, 1) := by decide +kernel
theorem dX3_join_53 : decode (dc DX3_join) 53 = .ok (.getfield 9, 3) := by decide +kernel
theorem dX3_join_56 : decode (dc DX3_join) 56 = .ok (.iload 4, 2) := by decide +kernel
theorem dX3_join_58 : decode (dc DX3_join) 58 = .ok (.iconst (-1), 1) := by decide +kernel
theorem dX3_join_59 : decode (dc DX3_join) 59 = .ok (.iastore, 1) := by decide +kernel
theorem dX3_join_60 : decode (dc DX3_join) 60 = .ok (.aload_n 0, 1) := by decide +kernel
theorem dX3_join_61 : decode (dc DX3_join) 61 = .ok (.getfield 9, 3) := by decide +kernel
theorem dX3_join_64 : decode (dc DX3_join) 64 = .ok (.iload_n 1, 1) := by decide +kernel
theorem dX3_join_65 : decode (dc DX3_join) 65 = .ok (.iload_n 2, 1) := by decide +kernel
theorem dX3_join_66 : decode (dc DX3_join) 66 = .ok (.iastore, 1) := by decide +kernel
theorem dX3_join_67 : decode (dc DX3_join) 67 = .ok (.aload_n 0, 1) := by decide +kernel
theorem dX3_join_68 : decode (dc DX3_join) 68 = .ok (.getfield 15, 3) := by decide +kernel
theorem dX3_join_71 : decode (dc DX3_join) 71 = .ok (.iload_n 2, 1) := by decide +kernel
theorem dX3_join_72 : decode (dc DX3_join) 72 = .ok (.iload_n 1, 1) := by decide +kernel
theorem dX3_join_73 : decode (dc DX3_join) 73 = .ok (.iastore, 1) := by decide +kernel
theorem dX3_join_74 : decode (dc DX3_join) 74 = .ok (.return_, 1) := by decide +kernel
theorem dX3_swap_0 : decode (dc DX3_swap) 0 = .ok (.aload_n 0, 1) := by decide +kernel
theorem dX3_swap_1 : decode (dc DX3_swap) 1 = .ok (.iload_n 1, 1) := by decide +kernel
theorem dX3_swap_2 : decode (dc DX3_swap) 2 = .ok (.invokevirtual 25, 3) := by decide +kernel
theorem dX3_swap_5 : decode (dc DX3_swap) 5 = .ok (.istore_n 3, 1) := by decide +kernel
theorem dX3_swap_6 : decode (dc DX3_swap) 6 = .ok (.aload_n 0, 1) := by decide +kernel
theorem dX3_swap_7 : decode (dc DX3_swap) 7 = .ok (.iload_n 2, 1) := by decide +kernel
theorem dX3_swap_8 : decode (dc DX3_swap) 8 = .ok (.invokevirtual 25, 3) := by decide +kernel
theorem dX3_swap_11 : decode (dc DX3_swap) 11 = .ok (.istore 4, 2) := by decide +kernel
theorem dX3_swap_13 : decode (dc DX3_swap) 13 = .ok (.aload_n 0, 1) := by decide +kernel
theorem dX3_swap_14 : decode (dc DX3_swap) 14 = .ok (.iload_n 1, 1) := by decide +kernel
theorem dX3_swap_15 : decode (dc DX3_swap) 15 = .ok (.iload 4, 2) := by decide +kernel
theorem dX3_swap_17 : decode (dc DX3_swap) 17 = .ok (.invokevirtual 36, 3) := by decide +kernel
theorem dX3_swap_20 : decode (dc DX3_swap) 20 = .ok (.aload_n 0, 1) := by decide +kernel
theorem dX3_swap_21 : decode (dc DX3_swap) 21 = .ok (.iload_n 2, 1) := by decide +kernel
theorem dX3_swap_22 : decode (dc DX3_swap) 22 = .ok (.iload_n 3, 1) := by decide +kernel
theorem dX3_swap_23 : decode (dc DX3_swap) 23 = .ok (.invokevirtual 36, 3) := by decide +kernel
theorem dX3_swap_26 : decode (dc DX3_swap) 26 = .ok (.return_, 1) := by decide +kernel
theorem dX3_workersIn_0 : decode (dc DX3_workersIn) 0 = .ok (.iconst 0, 1) := by decide +kernel
theorem dX3_workersIn_1 : decode (dc DX3_workersIn) 1 = .ok (.istore_n 1, 1) := by decide +kernel
theorem dX3_workersIn_2 : decode (dc DX3_workersIn) 2 = .ok (.iconst 0, 1) := by decide +kernel
theorem dX3_workersIn_3 : decode (dc DX3_workersIn) 3 = .ok (.istore_n 2, 1) := by decide +kernel
theorem dX3_workersIn_4 : decode (dc DX3_workersIn) 4 = .ok (.iload_n 2, 1) := by decide +kernel
theorem dX3_workersIn_5 : decode (dc DX3_workersIn) 5 = .ok (.bipush 12, 2) := by decide +kernel
theorem dX3_workersIn_7 : decode (dc DX3_workersIn) 7 = .ok (.if_icmp .ge 26, 3) := by decide +kernel
theorem dX3_workersIn_10 : decode (dc DX3_workersIn) 10 = .ok (.aload_n 0, 1) := by decide +kernel
theorem dX3_workersIn_11 : decode (dc DX3_workersIn) 11 = .ok (.getfield 9, 3) := by decide +kernel
theorem dX3_workersIn_14 : decode (dc DX3_workersIn) 14 = .ok (.iload_n 2, 1) := by decide +kernel
theorem dX3_workersIn_15 : decode (dc DX3_workersIn) 15 = .ok (.iaload, 1) := by decide +kernel
theorem dX3_workersIn_16 : decode (dc DX3_workersIn) 16 = .ok (.iconst (-1), 1) := by decide +kernel
theorem dX3_workersIn_17 : decode (dc DX3_workersIn) 17 = .ok (.if_icmp .eq 10, 3) := by decide +kernel
theorem dX3_workersIn_20 : decode (dc DX3_workersIn) 20 = .ok (.iload_n 1, 1) := by decide +kernel
theorem dX3_workersIn_21 : decode (dc DX3_workersIn) 21 = .ok (.iload_n 2, 1) := by decide +kernel
theorem dX3_workersIn_22 : decode (dc DX3_workersIn) 22 = .ok (.invokestatic 40, 3) := by decide +kernel
theorem dX3_workersIn_25 : decode (dc DX3_workersIn) 25 = .ok (.ior, 1) := by decide +kernel
theorem dX3_workersIn_26 : decode (dc DX3_workersIn) 26 = .ok (.istore_n 1, 1) := by decide +kernel
theorem dX3_workersIn_27 : decode (dc DX3_workersIn) 27 = .ok (.iinc 2 1, 3) := by decide +kernel
theorem dX3_workersIn_30 : decode (dc DX3_workersIn) 30 = .ok (.goto (-26), 3) := by decide +kernel
theorem dX3_workersIn_33 : decode (dc DX3_workersIn) 33 = .ok (.iload_n 1, 1) := by decide +kernel
theorem dX3_workersIn_34 : decode (dc DX3_workersIn) 34 = .ok (.ireturn, 1) := by decide +kernel
theorem dX3_tasksIn_0 : decode (dc DX3_tasksIn) 0 = .ok (.iconst 0, 1) := by decide +kernel
theorem dX3_tasksIn_1 : decode (dc DX3_tasksIn) 1 = .ok (.istore_n 1, 1) := by decide +kernel
theorem dX3_tasksIn_2 : decode (dc DX3_tasksIn) 2 = .ok (.iconst 0, 1) := by decide +kernel
theorem dX3_tasksIn_3 : decode (dc DX3_tasksIn) 3 = .ok (.istore_n 2, 1) := by decide +kernel
theorem dX3_tasksIn_4 : decode (dc DX3_tasksIn) 4 = .ok (.iload_n 2, 1) := by decide +kernel
theorem dX3_tasksIn_5 : decode (dc DX3_tasksIn) 5 = .ok (.bipush 12, 2) := by decide +kernel
theorem dX3_tasksIn_7 : decode (dc DX3_tasksIn) 7 = .ok (.if_icmp .ge 26, 3) := by decide +kernel
theorem dX3_tasksIn_10 : decode (dc DX3_tasksIn) 10 = .ok (.aload_n 0, 1) := by decide +kernel
theorem dX3_tasksIn_11 : decode (dc DX3_tasksIn) 11 = .ok (.getfield 15, 3) := by decide +kernel
theorem dX3_tasksIn_14 : decode (dc DX3_tasksIn) 14 = .ok (.iload_n 2, 1) := by decide +kernel
theorem dX3_tasksIn_15 : decode (dc DX3_tasksIn) 15 = .ok (.iaload, 1) := by decide +kernel
theorem dX3_tasksIn_16 : decode (dc DX3_tasksIn) 16 = .ok (.iconst (-1), 1) := by decide +kernel
theorem dX3_tasksIn_17 : decode (dc DX3_tasksIn) 17 = .ok (.if_icmp .eq 10, 3) := by decide +kernel
theorem dX3_tasksIn_20 : decode (dc DX3_tasksIn) 20 = .ok (.iload_n 1, 1) := by decide +kernel
theorem dX3_tasksIn_21 : decode (dc DX3_tasksIn) 21 = .ok (.iload_n 2, 1) := by decide +kernel
theorem dX3_tasksIn_22 : decode (dc DX3_tasksIn) 22 = .ok (.invokestatic 40, 3) := by decide +kernel
theorem dX3_tasksIn_25 : decode (dc DX3_tasksIn) 25 = .ok (.ior, 1) := by decide +kernel
theorem dX3_tasksIn_26 : decode (dc DX3_tasksIn) 26 = .ok (.istore_n 1, 1) := by decide +kernel
theorem dX3_tasksIn_27 : decode (dc DX3_tasksIn) 27 = .ok (.iinc 2 1, 3) := by decide +kernel
theorem dX3_tasksIn_30 : decode (dc DX3_tasksIn) 30 = .ok (.goto (-26), 3) := by decide +kernel
theorem dX3_tasksIn_33 : decode (dc DX3_tasksIn) 33 = .ok (.iload_n 1, 1) := by decide +kernel
theorem dX3_tasksIn_34 : decode (dc DX3_tasksIn) 34 = .ok (.ireturn, 1) := by decide +kernel
theorem dX3_size_0 : decode (dc DX3_size) 0 = .ok (.aload_n 0, 1) := by decide +kernel
theorem dX3_size_1 : decode (dc DX3_size) 1 = .ok (.invokevirtual 43, 3) := by decide +kernel
theorem dX3_size_4 : decode (dc DX3_size) 4 = .ok (.invokestatic 47, 3) := by decide +kernel
theorem dX3_size_7 : decode (dc DX3_size) 7 = .ok (.ireturn, 1) := by decide +kernel
theorem dX4_init_0 : decode (dc DX4_init) 0 = .ok (.aload_n 0, 1) := by decide +kernel
theorem dX4_init_1 : decode (dc DX4_init) 1 = .ok (.invokespecial 3, 3) := by decide +kernel
theorem dX4_init_4 : decode (dc DX4_init) 4 = .ok (.aload_n 0, 1) := by decide +kernel
theorem dX4_init_5 : decode (dc DX4_init) 5 = .ok (.bipush 12, 2) := by decide +kernel
theorem dX4_init_7 : decode (dc DX4_init) 7 = .ok (.newarray .int, 2) := by decide +kernel
theorem dX4_init_9 : decode (dc DX4_init) 9 = .ok (.putfield 9, 3) := by decide +kernel
theorem dX4_init_12 : decode (dc DX4_init) 12 = .ok (.aload_n 0, 1) := by decide +kernel
theorem dX4_init_13 : decode (dc DX4_init) 13 = .ok (.bipush 12, 2) := by decide +kernel
theorem dX4_init_15 : decode (dc DX4_init) 15 = .ok (.newarray .int, 2) := by decide +kernel
theorem dX4_init_17 : decode (dc DX4_init) 17 = .ok (.putfield 15, 3) := by decide +kernel
theorem dX4_init_20 : decode (dc DX4_init) 20 = .ok (.aload_n 0, 1) := by decide +kernel
theorem dX4_init_21 : decode (dc DX4_init) 21 = .ok (.bipush 12, 2) := by decide +kernel
theorem dX4_init_23 : decode (dc DX4_init) 23 = .ok (.newarray .int, 2) := by decide +kernel
theorem dX4_init_25 : decode (dc DX4_init) 25 = .ok (.putfield 18, 3) := by decide +kernel
theorem dX4_init_28 : decode (dc DX4_init) 28 = .ok (.aload_n 0, 1) := by decide +kernel
theorem dX4_init_29 : decode (dc DX4_init) 29 = .ok (.bipush 12, 2) := by decide +kernel
theorem dX4_init_31 : decode (dc DX4_init) 31 = .ok (.newarray .int, 2) := by decide +kernel
theorem dX4_init_33 : decode (dc DX4_init) 33 = .ok (.putfield 21, 3) := by decide +kernel
theorem dX4_init_36 : decode (dc DX4_init) 36 = .ok (.aload_n 0, 1) := by decide +kernel
theorem dX4_init_37 : decode (dc DX4_init) 37 = .ok (.iconst 0, 1) := by decide +kernel
theorem dX4_init_38 : decode (dc DX4_init) 38 = .ok (.putfield 24, 3) := by decide +kernel
theorem dX4_init_41 : decode (dc DX4_init) 41 = .ok (.aload_n 0, 1) := by decide +kernel
theorem dX4_init_42 : decode (dc DX4_init) 42 = .ok (.iconst 0, 1) := by decide +kernel
theorem dX4_init_43 : decode (dc DX4_init) 43 = .ok (.putfield 28, 3) := by decide +kernel
theorem dX4_init_46 : decode (dc DX4_init) 46 = .ok (.aload_n 0, 1) := by decide +kernel
theorem dX4_init_47 : decode (dc DX4_init) 47 = .ok (.iconst 0, 1) := by decide +kernel
theorem dX4_init_48 : decode (dc DX4_init) 48 = .ok (.putfield 31, 3) := by decide +kernel
theorem dX4_init_51 : decode (dc DX4_init) 51 = .ok (.aload_n 0, 1) := by decide +kernel
theorem dX4_init_52 : decode (dc DX4_init) 52 = .ok (.iconst 0, 1) := by decide +kernel
theorem dX4_init_53 : decode (dc DX4_init) 53 = .ok (.putfield 34, 3) := by decide +kernel
theorem dX4_init_56 : decode (dc DX4_init) 56 = .ok (.aload_n 0, 1) := by decide +kernel
theorem dX4_init_57 : decode (dc DX4_init) 57 = .ok (.iconst 0, 1) := by decide +kernel
theorem dX4_init_58 : decode (dc DX4_init) 58 = .ok (.putfield 37, 3) := by decide +kernel
theorem dX4_init_61 : decode (dc DX4_init) 61 = .ok (.return_, 1) := by decide +kernel
theorem dX4_layerOfWorker_0 : decode (dc DX4_layerOfWorker) 0 = .ok (.iload_n 1, 1) := by decide +kernel
theorem dX4_layerOfWorker_1 : decode (dc DX4_layerOfWorker) 1 = .ok (.invokestatic 66, 3) := by decide +kernel
theorem dX4_layerOfWorker_4 : decode (dc DX4_layerOfWorker) 4 = .ok (.ifCond .eq 12, 3) := by decide +kernel
theorem dX4_layerOfWorker_7 : decode (dc DX4_layerOfWorker) 7 = .ok (.aload_n 0, 1) := by decide +kernel
theorem dX4_layerOfWorker_8 : decode (dc DX4_layerOfWorker) 8 = .ok (.getfield 9, 3) := by decide +kernel
theorem dX4_layerOfWorker_11 : decode (dc DX4_layerOfWorker) 11 = .ok (.iload_n 1, 1) := by decide +kernel
theorem dX4_layerOfWorker_12 : decode (dc DX4_layerOfWorker) 12 = .ok (.iaload, 1) := by decide +kernel
theorem dX4_layerOfWorker_13 : decode (dc DX4_layerOfWorker) 13 = .ok (.goto 4, 3) := by decide +kernel
theorem dX4_layerOfWorker_16 : decode (dc DX4_layerOfWorker) 16 = .ok (.iconst (-1), 1) := by decide +kernel
theorem dX4_layerOfWorker_17 : decode (dc DX4_layerOfWorker) 17 = .ok (.ireturn, 1) := by decide +kernel
theorem dX7_row_0 : decode (dc DX7_row) 0 = .ok (.iload_n 1, 1) := by decide +kernel
theorem dX7_row_1 : decode (dc DX7_row) 1 = .ok (.invokestatic 72, 3) := by decide +kernel
theorem dX7_row_4 : decode (dc DX7_row) 4 = .ok (.ifCond .eq 12, 3) := by decide +kernel
theorem dX7_row_7 : decode (dc DX7_row) 7 = .ok (.aload_n 0, 1) := by decide +kernel
theorem dX7_row_8 : decode (dc DX7_row) 8 = .ok (.getfield 18, 3) := by decide +kernel
theorem dX7_row_11 : decode (dc DX7_row) 11 = .ok (.iload_n 1, 1) := by decide +kernel
theorem dX7_row_12 : decode (dc DX7_row) 12 = .ok (.iaload, 1) := by decide +kernel
theorem dX7_row_13 : decode (dc DX7_row) 13 = .ok (.goto 4, 3) := by decide +kernel
theorem dX7_row_16 : decode (dc DX7_row) 16 = .ok (.iconst 0, 1) := by decide +kernel
theorem dX7_row_17 : decode (dc DX7_row) 17 = .ok (.ireturn, 1) := by decide +kernel
theorem dX4_nextTasks_0 : decode (dc DX4_nextTasks) 0 = .ok (.iconst 0, 1) := by decide +kernel
theorem dX4_nextTasks_1 : decode (dc DX4_nextTasks) 1 = .ok (.istore_n 3, 1) := by decide +kernel
theorem dX4_nextTasks_2 : decode (dc DX4_nextTasks) 2 = .ok (.iconst 0, 1) := by decide +kernel
theorem dX4_nextTasks_3 : decode (dc DX4_nextTasks) 3 = .ok (.istore 4, 2) := by decide +kernel
theorem dX4_nextTasks_5 : decode (dc DX4_nextTasks) 5 = .ok (.iload 4, 2) := by decide +kernel
theorem dX4_nextTasks_7 : decode (dc DX4_nextTasks) 7 = .ok (.bipush 12, 2) := by decide +kernel
theorem dX4_nextTasks_9 : decode (dc DX4_nextTasks) 9 = .ok (.if_icmp .ge 29, 3) := by decide +kernel
theorem dX4_nextTasks_12 : decode (dc DX4_nextTasks) 12 = .ok (.aload_n 0, 1) := by decide +kernel
theorem dX4_nextTasks_13 : decode (dc DX4_nextTasks) 13 = .ok (.getfield 9, 3) := by decide +kernel
theorem dX4_nextTasks_16 : decode (dc DX4_nextTasks) 16 = .ok (.iload 4, 2) := by decide +kernel
theorem dX4_nextTasks_18 : decode (dc DX4_nextTasks) 18 = .ok (.iaload, 1) := by decide +kernel
theorem dX4_nextTasks_19 : decode (dc DX4_nextTasks) 19 = .ok (.iload_n 2, 1) := by decide +kernel
theorem dX4_nextTasks_20 : decode (dc DX4_nextTasks) 20 = .ok (.if_icmp .ne 12, 3) := by decide +kernel
theorem dX4_nextTasks_23 : decode (dc DX4_nextTasks) 23 = .ok (.iload_n 3, 1) := by decide +kernel
theorem dX4_nextTasks_24 : decode (dc DX4_nextTasks) 24 = .ok (.aload_n 1, 1) := by decide +kernel
theorem dX4_nextTasks_25 : decode (dc DX4_nextTasks) 25 = .ok (.iload 4, 2) := by decide +kernel
theorem dX4_nextTasks_27 : decode (dc DX4_nextTasks) 27 = .ok (.invokevirtual 91, 3) := by decide +kernel
theorem dX4_nextTasks_30 : decode (dc DX4_nextTasks) 30 = .ok (.ior, 1) := by decide +kernel
theorem dX4_nextTasks_31 : decode (dc DX4_nextTasks) 31 = .ok (.istore_n 3, 1) := by decide +kernel
theorem dX4_nextTasks_32 : decode (dc DX4_nextTasks) 32 = .ok (.iinc 4 1, 3) := by decide +kernel
theorem dX4_nextTasks_35 : decode (dc DX4_nextTasks) 35 = .ok (.goto (-30), 3) := by decide +kernel
theorem dX4_nextTasks_38 : decode (dc DX4_nextTasks) 38 = .ok (.iconst 0, 1) := by decide +kernel
theorem dX4_nextTasks_39 : decode (dc DX4_nextTasks) 39 = .ok (.istore 4, 2) := by decide +kernel
theorem dX4_nextTasks_41 : decode (dc DX4_nextTasks) 41 = .ok (.iconst 0, 1) := by decide +kernel
theorem dX4_nextTasks_42 : decode (dc DX4_nextTasks) 42 = .ok (.istore 5, 2) := by decide +kernel
theorem dX4_nextTasks_44 : decode (dc DX4_nextTasks) 44 = .ok (.iload 5, 2) := by decide +kernel
theorem dX4_nextTasks_46 : decode (dc DX4_nextTasks) 46 = .ok (.bipush 12, 2) := by decide +kernel
theorem dX4_nextTasks_48 : decode (dc DX4_nextTasks) 48 = .ok (.if_icmp .ge 49, 3) := by decide +kernel
theorem dX4_nextTasks_51 : decode (dc DX4_nextTasks) 51 = .ok (.iload_n 3, 1) := by decide +kernel
theorem dX4_nextTasks_52 : decode (dc DX4_nextTasks) 52 = .ok (.iload 5, 2) := by decide +kernel
theorem dX4_nextTasks_54 : decode (dc DX4_nextTasks) 54 = .ok (.invokestatic 77, 3) := by decide +kernel
theorem dX4_nextTasks_57 : decode (dc DX4_nextTasks) 57 = .ok (.ifCond .eq 34, 3) := by decide +kernel
theorem dX4_nextTasks_60 : decode (dc DX4_nextTasks) 60 = .ok (.aload_n 0, 1) := by decide +kernel
theorem dX4_nextTasks_61 : decode (dc DX4_nextTasks) 61 = .ok (.getfield 15, 3) := by decide +kernel
theorem dX4_nextTasks_64 : decode (dc DX4_nextTasks) 64 = .ok (.iload 5, 2) := by decide +kernel
theorem dX4_nextTasks_66 : decode (dc DX4_nextTasks) 66 = .ok (.iaload, 1) := by decide +kernel
theorem dX4_nextTasks_67 : decode (dc DX4_nextTasks) 67 = .ok (.iconst (-1), 1) := by decide +kernel
theorem dX4_nextTasks_68 : decode (dc DX4_nextTasks) 68 = .ok (.if_icmp .ne 23, 3) := by decide +kernel
theorem dX4_nextTasks_71 : decode (dc DX4_nextTasks) 71 = .ok (.aload_n 0, 1) := by decide +kernel
theorem dX4_nextTasks_72 : decode (dc DX4_nextTasks) 72 = .ok (.getfield 15, 3) := by decide +kernel
theorem dX4_nextTasks_75 : decode (dc DX4_nextTasks) 75 = .ok (.iload 5, 2) := by decide +kernel
theorem dX4_nextTasks_77 : decode (dc DX4_nextTasks) 77 = .ok (.iload_n 2, 1) := by decide +kernel
theorem dX4_nextTasks_78 : decode (dc DX4_nextTasks) 78 = .ok (.iconst 1, 1) := by decide +kernel
theorem dX4_nextTasks_79 : decode (dc DX4_nextTasks) 79 = .ok (.iadd, 1) := by decide +kernel
theorem dX4_nextTasks_80 : decode (dc DX4_nextTasks) 80 = .ok (.iastore, 1) := by decide +kernel
theorem dX4_nextTasks_81 : decode (dc DX4_nextTasks) 81 = .ok (.iload 4, 2) := by decide +kernel
theorem dX4_nextTasks_83 : decode (dc DX4_nextTasks) 83 = .ok (.iload 5, 2) := by decide +kernel
theorem dX4_nextTasks_85 : decode (dc DX4_nextTasks) 85 = .ok (.invokestatic 94, 3) := by decide +kernel
theorem dX4_nextTasks_88 : decode (dc DX4_nextTasks) 88 = .ok (.ior, 1) := by decide +kernel
theorem dX4_nextTasks_89 : decode (dc DX4_nextTasks) 89 = .ok (.istore 4, 2) := by decide +kernel
theorem dX4_nextTasks_91 : decode (dc DX4_nextTasks) 91 = .ok (.iinc 5 1, 3) := by decide +kernel
theorem dX4_nextTasks_94 : decode (dc DX4_nextTasks) 94 = .ok (.goto (-50), 3) := by decide +kernel
theorem dX4_nextTasks_97 : decode (dc DX4_nextTasks) 97 = .ok (.iload 4, 2) := by decide +kernel
theorem dX4_nextTasks_99 : decode (dc DX4_nextTasks) 99 = .ok (.ireturn, 1) := by decide +kernel
theorem dX4_makeLayers_0 : decode (dc DX4_makeLayers) 0 = .ok (.aload_n 1, 1) := by decide +kernel
theorem dX4_makeLayers_1 : decode (dc DX4_makeLayers) 1 = .ok (.getfield 70, 3) := by decide +kernel
theorem dX4_makeLayers_4 : decode (dc DX4_makeLayers) 4 = .ok (.aload_n 1, 1) := by decide +kernel
theorem dX4_makeLayers_5 : decode (dc DX4_makeLayers) 5 = .ok (.getfield 40, 3) := by decide +kernel
theorem dX4_makeLayers_8 : decode (dc DX4_makeLayers) 8 = .ok (.invokevirtual 73, 3) := by decide +kernel
theorem dX4_makeLayers_11 : decode (dc DX4_makeLayers) 11 = .ok (.iconst (-1), 1) := by decide +kernel
theorem dX4_makeLayers_12 : decode (dc DX4_makeLayers) 12 = .ok (.ixor, 1) := by decide +kernel
theorem dX4_makeLayers_13 : decode (dc DX4_makeLayers) 13 = .ok (.iand, 1) := by decide +kernel
theorem dX4_makeLayers_14 : decode (dc DX4_makeLayers) 14 = .ok (.istore_n 2, 1) := by decide +kernel
theorem dX4_makeLayers_15 : decode (dc DX4_makeLayers) 15 = .ok (.iconst 0, 1) := by decide +kernel
theorem dX4_makeLayers_16 : decode (dc DX4_makeLayers) 16 = .ok (.istore_n 3, 1) := by decide +kernel
theorem dX4_makeLayers_17 : decode (dc DX4_makeLayers) 17 = .ok (.iload_n 3, 1) := by decide +kernel
theorem dX4_makeLayers_18 : decode (dc DX4_makeLayers) 18 = .ok (.bipush 12, 2) := by decide +kernel
theorem dX4_makeLayers_20 : decode (dc DX4_makeLayers) 20 = .ok (.if_icmp .ge 35, 3) := by decide +kernel
theorem dX4_makeLayers_23 : decode (dc DX4_makeLayers) 23 = .ok (.aload_n 0, 1) := by decide +kernel
theorem dX4_makeLayers_24 : decode (dc DX4_makeLayers) 24 = .ok (.getfield 9, 3) := by decide +kernel
theorem dX4_makeLayers_27 : decode (dc DX4_makeLayers) 27 = .ok (.iload_n 3, 1) := by decide +kernel
theorem dX4_makeLayers_28 : decode (dc DX4_makeLayers) 28 = .ok (.iload_n 2, 1) := by decide +kernel
theorem dX4_makeLayers_29 : decode (dc DX4_makeLayers) 29 = .ok (.iload_n 3, 1) := by decide +kernel
theorem dX4_makeLayers_30 : decode (dc DX4_makeLayers) 30 = .ok (.invokestatic 77, 3) := by decide +kernel
theorem dX4_makeLayers_33 : decode (dc DX4_makeLayers) 33 = .ok (.ifCond .eq 7, 3) := by decide +kernel
theorem dX4_makeLayers_36 : decode (dc DX4_makeLayers) 36 = .ok (.iconst 0, 1) := by decide +kernel
theorem dX4_makeLayers_37 : decode (dc DX4_makeLayers) 37 = .ok (.goto 4, 3) := by decide +kernel
theorem dX4_makeLayers_40 : decode (dc DX4_makeLayers) 40 = .ok (.iconst (-1), 1) := by decide +kernel
theorem dX4_makeLayers_41 : decode (dc DX4_makeLayers) 41 = .ok (.iastore, 1) := by decide +kernel
theorem dX4_makeLayers_42 : decode (dc DX4_makeLayers) 42 = .ok (.aload_n 0, 1) := by decide +kernel
theorem dX4_makeLayers_43 : decode (dc DX4_makeLayers) 43 = .ok (.getfield 15, 3) := by decide +kernel
theorem dX4_makeLayers_46 : decode (dc DX4_makeLayers) 46 = .ok (.iload_n 3, 1) := by decide +kernel
theorem dX4_makeLayers_47 : decode (dc DX4_makeLayers) 47 = .ok (.iconst (-1), 1) := by decide +kernel
theorem dX4_makeLayers_48 : decode (dc DX4_makeLayers) 48 = .ok (.iastore, 1) := by decide +kernel
theorem dX4_makeLayers_49 : decode (dc DX4_makeLayers) 49 = .ok (.iinc 3 1, 3) := by decide +kernel
theorem dX4_makeLayers_52 : decode (dc DX4_makeLayers) 52 = .ok (.goto (-35), 3) := by decide +kernel
theorem dX4_makeLayers_55 : decode (dc DX4_makeLayers) 55 = .ok (.iconst 0, 1) := by decide +kernel
theorem dX4_makeLayers_56 : decode (dc DX4_makeLayers) 56 = .ok (.istore_n 3, 1) := by decide +kernel
theorem dX4_makeLayers_57 : decode (dc DX4_makeLayers) 57 = .ok (.iload_n 3, 1) := by decide +kernel
theorem dX4_makeLayers_58 : decode (dc DX4_makeLayers) 58 = .ok (.bipush 24, 2) := by decide +kernel
theorem dX4_makeLayers_60 : decode (dc DX4_makeLayers) 60 = .ok (.if_icmp .ge 94, 3) := by decide +kernel
theorem dX4_makeLayers_63 : decode (dc DX4_makeLayers) 63 = .ok (.aload_n 0, 1) := by decide +kernel
theorem dX4_makeLayers_64 : decode (dc DX4_makeLayers) 64 = .ok (.aload_n 1, 1) := by decide +kernel
theorem dX4_makeLayers_65 : decode (dc DX4_makeLayers) 65 = .ok (.iload_n 3, 1) := by decide +kernel
theorem dX4_makeLayers_66 : decode (dc DX4_makeLayers) 66 = .ok (.invokevirtual 81, 3) := by decide +kernel
theorem dX4_makeLayers_69 : decode (dc DX4_makeLayers) 69 = .ok (.istore 4, 2) := by decide +kernel
theorem dX4_makeLayers_71 : decode (dc DX4_makeLayers) 71 = .ok (.iload 4, 2) := by decide +kernel
theorem dX4_makeLayers_73 : decode (dc DX4_makeLayers) 73 = .ok (.ifCond .ne 5, 3) := by decide +kernel
theorem dX4_makeLayers_76 : decode (dc DX4_makeLayers) 76 = .ok (.iconst 0, 1) := by decide +kernel
theorem dX4_makeLayers_77 : decode (dc DX4_makeLayers) 77 = .ok (.ireturn, 1) := by decide +kernel
theorem dX4_makeLayers_78 : decode (dc DX4_makeLayers) 78 = .ok (.iload 4, 2) := by decide +kernel
theorem dX4_makeLayers_80 : decode (dc DX4_makeLayers) 80 = .ok (.aload_n 1, 1) := by decide +kernel
theorem dX4_makeLayers_81 : decode (dc DX4_makeLayers) 81 = .ok (.getfield 40, 3) := by decide +kernel
theorem dX4_makeLayers_84 : decode (dc DX4_makeLayers) 84 = .ok (.invokevirtual 85, 3) := by decide +kernel
theorem dX4_makeLayers_87 : decode (dc DX4_makeLayers) 87 = .ok (.iconst (-1), 1) := by decide +kernel
theorem dX4_makeLayers_88 : decode (dc DX4_makeLayers) 88 = .ok (.ixor, 1) := by decide +kernel
theorem dX4_makeLayers_89 : decode (dc DX4_makeLayers) 89 = .ok (.iand, 1) := by decide +kernel
theorem dX4_makeLayers_90 : decode (dc DX4_makeLayers) 90 = .ok (.ifCond .eq 5, 3) := by decide +kernel
theorem dX4_makeLayers_93 : decode (dc DX4_makeLayers) 93 = .ok (.iconst 1, 1) := by decide +kernel
theorem dX4_makeLayers_94 : decode (dc DX4_makeLayers) 94 = .ok (.ireturn, 1) := by decide +kernel
theorem dX4_makeLayers_95 : decode (dc DX4_makeLayers) 95 = .ok (.iconst 0, 1) := by decide +kernel
theorem dX4_makeLayers_96 : decode (dc DX4_makeLayers) 96 = .ok (.istore 5, 2) := by decide +kernel
theorem dX4_makeLayers_98 : decode (dc DX4_makeLayers) 98 = .ok (.iload 5, 2) := by decide +kernel
theorem dX4_makeLayers_100 : decode (dc DX4_makeLayers) 100 = .ok (.bipush 12, 2) := by decide +kernel
theorem dX4_makeLayers_102 : decode (dc DX4_makeLayers) 102 = .ok (.if_icmp .ge 46, 3) := by decide +kernel
theorem dX4_makeLayers_105 : decode (dc DX4_makeLayers) 105 = .ok (.aload_n 1, 1) := by decide +kernel
theorem dX4_makeLayers_106 : decode (dc DX4_makeLayers) 106 = .ok (.getfield 40, 3) := by decide +kernel
theorem dX4_makeLayers_109 : decode (dc DX4_makeLayers) 109 = .ok (.iload 5, 2) := by decide +kernel
theorem dX4_makeLayers_111 : decode (dc DX4_makeLayers) 111 = .ok (.invokevirtual 88, 3) := by decide +kernel
theorem dX4_makeLayers_114 : decode (dc DX4_makeLayers) 114 = .ok (.istore 6, 2) := by decide +kernel
theorem dX4_makeLayers_116 : decode (dc DX4_makeLayers) 116 = .ok (.iload 6, 2) := by decide +kernel
theorem dX4_makeLayers_118 : decode (dc DX4_makeLayers) 118 = .ok (.iconst (-1), 1) := by decide +kernel
theorem dX4_makeLayers_119 : decode (dc DX4_makeLayers) 119 = .ok (.if_icmp .eq 23, 3) := by decide +kernel
theorem dX4_makeLayers_122 : decode (dc DX4_makeLayers) 122 = .ok (.iload 4, 2) := by decide +kernel
theorem dX4_makeLayers_124 : decode (dc DX4_makeLayers) 124 = .ok (.iload 6, 2) := by decide +kernel
theorem dX4_makeLayers_126 : decode (dc DX4_makeLayers) 126 = .ok (.invokestatic 77, 3) := by decide +kernel
theorem dX4_makeLayers_129 : decode (dc DX4_makeLayers) 129 = .ok (.ifCond .eq 13, 3) := by decide +kernel
theorem dX4_makeLayers_132 : decode (dc DX4_makeLayers) 132 = .ok (.aload_n 0, 1) := by decide +kernel
theorem dX4_makeLayers_133 : decode (dc DX4_makeLayers) 133 = .ok (.getfield 9, 3) := by decide +kernel
theorem dX4_makeLayers_136 : decode (dc DX4_makeLayers) 136 = .ok (.iload 5, 2) := by decide +kernel
theorem dX4_makeLayers_138 : decode (dc DX4_makeLayers) 138 = .ok (.iload_n 3, 1) := by decide +kernel
theorem dX4_makeLayers_139 : decode (dc DX4_makeLayers) 139 = .ok (.iconst 2, 1) := by decide +kernel
theorem dX4_makeLayers_140 : decode (dc DX4_makeLayers) 140 = .ok (.iadd, 1) := by decide +kernel
theorem dX4_makeLayers_141 : decode (dc DX4_makeLayers) 141 = .ok (.iastore, 1) := by decide +kernel
theorem dX4_makeLayers_142 : decode (dc DX4_makeLayers) 142 = .ok (.iinc 5 1, 3) := by decide +kernel
theorem dX4_makeLayers_145 : decode (dc DX4_makeLayers) 145 = .ok (.goto (-47), 3) := by decide +kernel
theorem dX4_makeLayers_148 : decode (dc DX4_makeLayers) 148 = .ok (.iinc 3 2, 3) := by decide +kernel
theorem dX4_makeLayers_151 : decode (dc DX4_makeLayers) 151 = .ok (.goto (-94), 3) := by decide +kernel
theorem dX4_makeLayers_154 : decode (dc DX4_makeLayers) 154 = .ok (.iconst 0, 1) := by decide +kernel
theorem dX4_makeLayers_155 : decode (dc DX4_makeLayers) 155 = .ok (.ireturn, 1) := by decide +kernel
theorem dX4_follow_0 : decode (dc DX4_follow) 0 = .ok (.iconst 0, 1) := by decide +kernel
theorem dX4_follow_1 : decode (dc DX4_follow) 1 = .ok (.istore_n 3, 1) := by decide +kernel
theorem dX4_follow_2 : decode (dc DX4_follow) 2 = .ok (.iload_n 3, 1) := by decide +kernel
theorem dX4_follow_3 : decode (dc DX4_follow) 3 = .ok (.iload_n 2, 1) := by decide +kernel
theorem dX4_follow_4 : decode (dc DX4_follow) 4 = .ok (.if_icmp .gt 34, 3) := by decide +kernel
theorem dX4_follow_7 : decode (dc DX4_follow) 7 = .ok (.iload_n 3, 1) := by decide +kernel
theorem dX4_follow_8 : decode (dc DX4_follow) 8 = .ok (.bipush 12, 2) := by decide +kernel
theorem dX4_follow_10 : decode (dc DX4_follow) 10 = .ok (.if_icmp .ge 28, 3) := by decide +kernel
theorem dX4_follow_13 : decode (dc DX4_follow) 13 = .ok (.aload_n 1, 1) := by decide +kernel
theorem dX4_follow_14 : decode (dc DX4_follow) 14 = .ok (.getfield 40, 3) := by decide +kernel
theorem dX4_follow_17 : decode (dc DX4_follow) 17 = .ok (.aload_n 0, 1) := by decide +kernel
theorem dX4_follow_18 : decode (dc DX4_follow) 18 = .ok (.getfield 18, 3) := by decide +kernel
theorem dX4_follow_21 : decode (dc DX4_follow) 21 = .ok (.iload_n 3, 1) := by decide +kernel
theorem dX4_follow_22 : decode (dc DX4_follow) 22 = .ok (.iaload, 1) := by decide +kernel
theorem dX4_follow_23 : decode (dc DX4_follow) 23 = .ok (.aload_n 0, 1) := by decide +kernel
theorem dX4_follow_24 : decode (dc DX4_follow) 24 = .ok (.getfield 21, 3) := by decide +kernel
theorem dX4_follow_27 : decode (dc DX4_follow) 27 = .ok (.iload_n 3, 1) := by decide +kernel
theorem dX4_follow_28 : decode (dc DX4_follow) 28 = .ok (.iaload, 1) := by decide +kernel
theorem dX4_follow_29 : decode (dc DX4_follow) 29 = .ok (.invokevirtual 110, 3) := by decide +kernel
theorem dX4_follow_32 : decode (dc DX4_follow) 32 = .ok (.iinc 3 1, 3) := by decide +kernel
theorem dX4_follow_35 : decode (dc DX4_follow) 35 = .ok (.goto (-33), 3) := by decide +kernel
theorem dX4_follow_38 : decode (dc DX4_follow) 38 = .ok (.aload_n 0, 1) := by decide +kernel
theorem dX4_follow_39 : decode (dc DX4_follow) 39 = .ok (.iconst 2, 1) := by decide +kernel
theorem dX4_follow_40 : decode (dc DX4_follow) 40 = .ok (.iload_n 2, 1) := by decide +kernel
theorem dX4_follow_41 : decode (dc DX4_follow) 41 = .ok (.iconst 1, 1) := by decide +kernel
theorem dX4_follow_42 : decode (dc DX4_follow) 42 = .ok (.iadd, 1) := by decide +kernel
theorem dX4_follow_43 : decode (dc DX4_follow) 43 = .ok (.imul, 1) := by decide +kernel
theorem dX4_follow_44 : decode (dc DX4_follow) 44 = .ok (.putfield 37, 3) := by decide +kernel
theorem dX4_follow_47 : decode (dc DX4_follow) 47 = .ok (.return_, 1) := by decide +kernel
theorem dX4_layerOfTask_0 : decode (dc DX4_layerOfTask) 0 = .ok (.iload_n 1, 1) := by decide +kernel
theorem dX4_layerOfTask_1 : decode (dc DX4_layerOfTask) 1 = .ok (.invokestatic 66, 3) := by decide +kernel
theorem dX4_layerOfTask_4 : decode (dc DX4_layerOfTask) 4 = .ok (.ifCond .eq 12, 3) := by decide +kernel
theorem dX4_layerOfTask_7 : decode (dc DX4_layerOfTask) 7 = .ok (.aload_n 0, 1) := by decide +kernel
theorem dX4_layerOfTask_8 : decode (dc DX4_layerOfTask) 8 = .ok (.getfield 15, 3) := by decide +kernel
theorem dX4_layerOfTask_11 : decode (dc DX4_layerOfTask) 11 = .ok (.iload_n 1, 1) := by decide +kernel
theorem dX4_layerOfTask_12 : decode (dc DX4_layerOfTask) 12 = .ok (.iaload, 1) := by decide +kernel
theorem dX4_layerOfTask_13 : decode (dc DX4_layerOfTask) 13 = .ok (.goto 4, 3) := by decide +kernel
theorem dX4_layerOfTask_16 : decode (dc DX4_layerOfTask) 16 = .ok (.iconst (-1), 1) := by decide +kernel
theorem dX4_layerOfTask_17 : decode (dc DX4_layerOfTask) 17 = .ok (.ireturn, 1) := by decide +kernel
theorem dX4_nextTask_0 : decode (dc DX4_nextTask) 0 = .ok (.aload_n 1, 1) := by decide +kernel
theorem dX4_nextTask_1 : decode (dc DX4_nextTask) 1 = .ok (.iload_n 2, 1) := by decide +kernel
theorem dX4_nextTask_2 : decode (dc DX4_nextTask) 2 = .ok (.invokevirtual 91, 3) := by decide +kernel
theorem dX4_nextTask_5 : decode (dc DX4_nextTask) 5 = .ok (.aload_n 0, 1) := by decide +kernel
theorem dX4_nextTask_6 : decode (dc DX4_nextTask) 6 = .ok (.getfield 24, 3) := by decide +kernel
theorem dX4_nextTask_9 : decode (dc DX4_nextTask) 9 = .ok (.iconst (-1), 1) := by decide +kernel
theorem dX4_nextTask_10 : decode (dc DX4_nextTask) 10 = .ok (.ixor, 1) := by decide +kernel
theorem dX4_nextTask_11 : decode (dc DX4_nextTask) 11 = .ok (.iand, 1) := by decide +kernel
theorem dX4_nextTask_12 : decode (dc DX4_nextTask) 12 = .ok (.istore_n 3, 1) := by decide +kernel
theorem dX4_nextTask_13 : decode (dc DX4_nextTask) 13 = .ok (.iconst 0, 1) := by decide +kernel
theorem dX4_nextTask_14 : decode (dc DX4_nextTask) 14 = .ok (.istore 4, 2) := by decide +kernel
theorem dX4_nextTask_16 : decode (dc DX4_nextTask) 16 = .ok (.iload 4, 2) := by decide +kernel
theorem dX4_nextTask_18 : decode (dc DX4_nextTask) 18 = .ok (.bipush 12, 2) := by decide +kernel
theorem dX4_nextTask_20 : decode (dc DX4_nextTask) 20 = .ok (.if_icmp .ge 41, 3) := by decide +kernel
theorem dX4_nextTask_23 : decode (dc DX4_nextTask) 23 = .ok (.iload_n 3, 1) := by decide +kernel
theorem dX4_nextTask_24 : decode (dc DX4_nextTask) 24 = .ok (.ifCond .eq 37, 3) := by decide +kernel
theorem dX4_nextTask_27 : decode (dc DX4_nextTask) 27 = .ok (.iload_n 3, 1) := by decide +kernel
theorem dX4_nextTask_28 : decode (dc DX4_nextTask) 28 = .ok (.iload 4, 2) := by decide +kernel
theorem dX4_nextTask_30 : decode (dc DX4_nextTask) 30 = .ok (.invokestatic 77, 3) := by decide +kernel
theorem dX4_nextTask_33 : decode (dc DX4_nextTask) 33 = .ok (.ifCond .eq 22, 3) := by decide +kernel
theorem dX4_nextTask_36 : decode (dc DX4_nextTask) 36 = .ok (.aload_n 0, 1) := by decide +kernel
theorem dX4_nextTask_37 : decode (dc DX4_nextTask) 37 = .ok (.iload 4, 2) := by decide +kernel
theorem dX4_nextTask_39 : decode (dc DX4_nextTask) 39 = .ok (.invokevirtual 107, 3) := by decide +kernel
theorem dX4_nextTask_42 : decode (dc DX4_nextTask) 42 = .ok (.aload_n 0, 1) := by decide +kernel
theorem dX4_nextTask_43 : decode (dc DX4_nextTask) 43 = .ok (.iload_n 2, 1) := by decide +kernel
theorem dX4_nextTask_44 : decode (dc DX4_nextTask) 44 = .ok (.invokevirtual 58, 3) := by decide +kernel
theorem dX4_nextTask_47 : decode (dc DX4_nextTask) 47 = .ok (.iconst 1, 1) := by decide +kernel
theorem dX4_nextTask_48 : decode (dc DX4_nextTask) 48 = .ok (.iadd, 1) := by decide +kernel
theorem dX4_nextTask_49 : decode (dc DX4_nextTask) 49 = .ok (.if_icmp .ne 6, 3) := by decide +kernel
theorem dX4_nextTask_52 : decode (dc DX4_nextTask) 52 = .ok (.iload 4, 2) := by decide +kernel
theorem dX4_nextTask_54 : decode (dc DX4_nextTask) 54 = .ok (.ireturn, 1) := by decide +kernel
theorem dX4_nextTask_55 : decode (dc DX4_nextTask) 55 = .ok (.iinc 4 1, 3) := by decide +kernel
theorem dX4_nextTask_58 : decode (dc DX4_nextTask) 58 = .ok (.goto (-42), 3) := by decide +kernel
theorem dX4_nextTask_61 : decode (dc DX4_nextTask) 61 = .ok (.iconst (-1), 1) := by decide +kernel
theorem dX4_nextTask_62 : decode (dc DX4_nextTask) 62 = .ok (.ireturn, 1) := by decide +kernel
theorem dX4_seek_0 : decode (dc DX4_seek) 0 = .ok (.iconst 0, 1) := by decide +kernel
theorem dX4_seek_1 : decode (dc DX4_seek) 1 = .ok (.istore_n 3, 1) := by decide +kernel
theorem dX4_seek_2 : decode (dc DX4_seek) 2 = .ok (.aload_n 0, 1) := by decide +kernel
theorem dX4_seek_3 : decode (dc DX4_seek) 3 = .ok (.getfield 18, 3) := by decide +kernel
theorem dX4_seek_6 : decode (dc DX4_seek) 6 = .ok (.iconst 0, 1) := by decide +kernel
theorem dX4_seek_7 : decode (dc DX4_seek) 7 = .ok (.iload_n 2, 1) := by decide +kernel
theorem dX4_seek_8 : decode (dc DX4_seek) 8 = .ok (.iastore, 1) := by decide +kernel
theorem dX4_seek_9 : decode (dc DX4_seek) 9 = .ok (.iconst 0, 1) := by decide +kernel
theorem dX4_seek_10 : decode (dc DX4_seek) 10 = .ok (.istore 4, 2) := by decide +kernel
theorem dX4_seek_12 : decode (dc DX4_seek) 12 = .ok (.iload 4, 2) := by decide +kernel
theorem dX4_seek_14 : decode (dc DX4_seek) 14 = .ok (.bipush 100, 2) := by decide +kernel
theorem dX4_seek_16 : decode (dc DX4_seek) 16 = .ok (.if_icmp .ge 127, 3) := by decide +kernel
theorem dX4_seek_19 : decode (dc DX4_seek) 19 = .ok (.iload_n 3, 1) := by decide +kernel
theorem dX4_seek_20 : decode (dc DX4_seek) 20 = .ok (.ifCond .lt 123, 3) := by decide +kernel
theorem dX4_seek_23 : decode (dc DX4_seek) 23 = .ok (.iload_n 3, 1) := by decide +kernel
theorem dX4_seek_24 : decode (dc DX4_seek) 24 = .ok (.bipush 12, 2) := by decide +kernel
theorem dX4_seek_26 : decode (dc DX4_seek) 26 = .ok (.if_icmp .ge 117, 3) := by decide +kernel
theorem dX4_seek_29 : decode (dc DX4_seek) 29 = .ok (.aload_n 0, 1) := by decide +kernel
theorem dX4_seek_30 : decode (dc DX4_seek) 30 = .ok (.aload_n 1, 1) := by decide +kernel
theorem dX4_seek_31 : decode (dc DX4_seek) 31 = .ok (.aload_n 0, 1) := by decide +kernel
theorem dX4_seek_32 : decode (dc DX4_seek) 32 = .ok (.getfield 18, 3) := by decide +kernel
theorem dX4_seek_35 : decode (dc DX4_seek) 35 = .ok (.iload_n 3, 1) := by decide +kernel
theorem dX4_seek_36 : decode (dc DX4_seek) 36 = .ok (.iaload, 1) := by decide +kernel
theorem dX4_seek_37 : decode (dc DX4_seek) 37 = .ok (.invokevirtual 97, 3) := by decide +kernel
theorem dX4_seek_40 : decode (dc DX4_seek) 40 = .ok (.istore 5, 2) := by decide +kernel
theorem dX4_seek_42 : decode (dc DX4_seek) 42 = .ok (.iload 5, 2) := by decide +kernel
theorem dX4_seek_44 : decode (dc DX4_seek) 44 = .ok (.iconst (-1), 1) := by decide +kernel
theorem dX4_seek_45 : decode (dc DX4_seek) 45 = .ok (.if_icmp .ne 9, 3) := by decide +kernel
theorem dX4_seek_48 : decode (dc DX4_seek) 48 = .ok (.iinc 3 (-1), 3) := by decide +kernel
theorem dX4_seek_51 : decode (dc DX4_seek) 51 = .ok (.goto 86, 3) := by decide +kernel
theorem dX4_seek_54 : decode (dc DX4_seek) 54 = .ok (.aload_n 0, 1) := by decide +kernel
theorem dX4_seek_55 : decode (dc DX4_seek) 55 = .ok (.dup, 1) := by decide +kernel
theorem dX4_seek_56 : decode (dc DX4_seek) 56 = .ok (.getfield 24, 3) := by decide +kernel
theorem dX4_seek_59 : decode (dc DX4_seek) 59 = .ok (.iload 5, 2) := by decide +kernel
theorem dX4_seek_61 : decode (dc DX4_seek) 61 = .ok (.invokestatic 94, 3) := by decide +kernel
theorem dX4_seek_64 : decode (dc DX4_seek) 64 = .ok (.ior, 1) := by decide +kernel
theorem dX4_seek_65 : decode (dc DX4_seek) 65 = .ok (.putfield 24, 3) := by decide +kernel
theorem dX4_seek_68 : decode (dc DX4_seek) 68 = .ok (.aload_n 0, 1) := by decide +kernel
theorem dX4_seek_69 : decode (dc DX4_seek) 69 = .ok (.getfield 21, 3) := by decide +kernel
theorem dX4_seek_72 : decode (dc DX4_seek) 72 = .ok (.iload_n 3, 1) := by decide +kernel
theorem dX4_seek_73 : decode (dc DX4_seek) 73 = .ok (.iload 5, 2) := by decide +kernel
theorem dX4_seek_75 : decode (dc DX4_seek) 75 = .ok (.iastore, 1) := by decide +kernel
theorem dX4_seek_76 : decode (dc DX4_seek) 76 = .ok (.aload_n 1, 1) := by decide +kernel
theorem dX4_seek_77 : decode (dc DX4_seek) 77 = .ok (.getfield 40, 3) := by decide +kernel
theorem dX4_seek_80 : decode (dc DX4_seek) 80 = .ok (.iload 5, 2) := by decide +kernel
theorem dX4_seek_82 : decode (dc DX4_seek) 82 = .ok (.invokevirtual 100, 3) := by decide +kernel
theorem dX4_seek_85 : decode (dc DX4_seek) 85 = .ok (.istore 6, 2) := by decide +kernel
theorem dX4_seek_87 : decode (dc DX4_seek) 87 = .ok (.iload 6, 2) := by decide +kernel
theorem dX4_seek_89 : decode (dc DX4_seek) 89 = .ok (.iconst (-1), 1) := by decide +kernel
theorem dX4_seek_90 : decode (dc DX4_seek) 90 = .ok (.if_icmp .ne 11, 3) := by decide +kernel
theorem dX4_seek_93 : decode (dc DX4_seek) 93 = .ok (.aload_n 0, 1) := by decide +kernel
theorem dX4_seek_94 : decode (dc DX4_seek) 94 = .ok (.aload_n 1, 1) := by decide +kernel
theorem dX4_seek_95 : decode (dc DX4_seek) 95 = .ok (.iload_n 3, 1) := by decide +kernel
theorem dX4_seek_96 : decode (dc DX4_seek) 96 = .ok (.invokevirtual 103, 3) := by decide +kernel
theorem dX4_seek_99 : decode (dc DX4_seek) 99 = .ok (.iconst 1, 1) := by decide +kernel
theorem dX4_seek_100 : decode (dc DX4_seek) 100 = .ok (.ireturn, 1) := by decide +kernel
theorem dX4_seek_101 : decode (dc DX4_seek) 101 = .ok (.aload_n 0, 1) := by decide +kernel
theorem dX4_seek_102 : decode (dc DX4_seek) 102 = .ok (.iload 6, 2) := by decide +kernel
theorem dX4_seek_104 : decode (dc DX4_seek) 104 = .ok (.invokevirtual 58, 3) := by decide +kernel
theorem dX4_seek_107 : decode (dc DX4_seek) 107 = .ok (.aload_n 0, 1) := by decide +kernel
theorem dX4_seek_108 : decode (dc DX4_seek) 108 = .ok (.iload 5, 2) := by decide +kernel
theorem dX4_seek_110 : decode (dc DX4_seek) 110 = .ok (.invokevirtual 107, 3) := by decide +kernel
theorem dX4_seek_113 : decode (dc DX4_seek) 113 = .ok (.iconst 1, 1) := by decide +kernel
theorem dX4_seek_114 : decode (dc DX4_seek) 114 = .ok (.iadd, 1) := by decide +kernel
theorem dX4_seek_115 : decode (dc DX4_seek) 115 = .ok (.if_icmp .ne 22, 3) := by decide +kernel
theorem dX4_seek_118 : decode (dc DX4_seek) 118 = .ok (.iload_n 3, 1) := by decide +kernel
theorem dX4_seek_119 : decode (dc DX4_seek) 119 = .ok (.iconst 1, 1) := by decide +kernel
theorem dX4_seek_120 : decode (dc DX4_seek) 120 = .ok (.iadd, 1) := by decide +kernel
theorem dX4_seek_121 : decode (dc DX4_seek) 121 = .ok (.bipush 12, 2) := by decide +kernel
theorem dX4_seek_123 : decode (dc DX4_seek) 123 = .ok (.if_icmp .ge 14, 3) := by decide +kernel
theorem dX4_seek_126 : decode (dc DX4_seek) 126 = .ok (.iinc 3 1, 3) := by decide +kernel
theorem dX4_seek_129 : decode (dc DX4_seek) 129 = .ok (.aload_n 0, 1) := by decide +kernel
theorem dX4_seek_130 : decode (dc DX4_seek) 130 = .ok (.getfield 18, 3) := by decide +kernel
theorem dX4_seek_133 : decode (dc DX4_seek) 133 = .ok (.iload_n 3, 1) := by decide +kernel
theorem dX4_seek_134 : decode (dc DX4_seek) 134 = .ok (.iload 6, 2) := by decide +kernel
theorem dX4_seek_136 : decode (dc DX4_seek) 136 = .ok (.iastore, 1) := by decide +kernel
theorem dX4_seek_137 : decode (dc DX4_seek) 137 = .ok (.iinc 4 1, 3) := by decide +kernel
theorem dX4_seek_140 : decode (dc DX4_seek) 140 = .ok (.goto (-128), 3) := by decide +kernel
theorem dX4_seek_143 : decode (dc DX4_seek) 143 = .ok (.iconst 0, 1) := by decide +kernel
theorem dX4_seek_144 : decode (dc DX4_seek) 144 = .ok (.ireturn, 1) := by decide +kernel
theorem dX4_run_0 : decode (dc DX4_run) 0 = .ok (.aload_n 1, 1) := by decide +kernel
theorem dX4_run_1 : decode (dc DX4_run) 1 = .ok (.getfield 40, 3) := by decide +kernel
theorem dX4_run_4 : decode (dc DX4_run) 4 = .ok (.invokevirtual 46, 3) := by decide +kernel
theorem dX4_run_7 : decode (dc DX4_run) 7 = .ok (.aload_n 0, 1) := by decide +kernel
theorem dX4_run_8 : decode (dc DX4_run) 8 = .ok (.iconst 0, 1) := by decide +kernel
theorem dX4_run_9 : decode (dc DX4_run) 9 = .ok (.putfield 28, 3) := by decide +kernel
theorem dX4_run_12 : decode (dc DX4_run) 12 = .ok (.aload_n 0, 1) := by decide +kernel
theorem dX4_run_13 : decode (dc DX4_run) 13 = .ok (.iconst 0, 1) := by decide +kernel
theorem dX4_run_14 : decode (dc DX4_run) 14 = .ok (.putfield 31, 3) := by decide +kernel
theorem dX4_run_17 : decode (dc DX4_run) 17 = .ok (.aload_n 0, 1) := by decide +kernel
theorem dX4_run_18 : decode (dc DX4_run) 18 = .ok (.iconst 0, 1) := by decide +kernel
theorem dX4_run_19 : decode (dc DX4_run) 19 = .ok (.putfield 34, 3) := by decide +kernel
theorem dX4_run_22 : decode (dc DX4_run) 22 = .ok (.aload_n 0, 1) := by decide +kernel
theorem dX4_run_23 : decode (dc DX4_run) 23 = .ok (.iconst 0, 1) := by decide +kernel
theorem dX4_run_24 : decode (dc DX4_run) 24 = .ok (.putfield 37, 3) := by decide +kernel
theorem dX4_run_27 : decode (dc DX4_run) 27 = .ok (.iconst 0, 1) := by decide +kernel
theorem dX4_run_28 : decode (dc DX4_run) 28 = .ok (.istore_n 2, 1) := by decide +kernel
theorem dX4_run_29 : decode (dc DX4_run) 29 = .ok (.iload_n 2, 1) := by decide +kernel
theorem dX4_run_30 : decode (dc DX4_run) 30 = .ok (.bipush 12, 2) := by decide +kernel
theorem dX4_run_32 : decode (dc DX4_run) 32 = .ok (.if_icmp .gt 94, 3) := by decide +kernel
theorem dX4_run_35 : decode (dc DX4_run) 35 = .ok (.aload_n 0, 1) := by decide +kernel
theorem dX4_run_36 : decode (dc DX4_run) 36 = .ok (.aload_n 1, 1) := by decide +kernel
theorem dX4_run_37 : decode (dc DX4_run) 37 = .ok (.invokevirtual 51, 3) := by decide +kernel
theorem dX4_run_40 : decode (dc DX4_run) 40 = .ok (.ifCond .eq 86, 3) := by decide +kernel
theorem dX4_run_43 : decode (dc DX4_run) 43 = .ok (.aload_n 0, 1) := by decide +kernel
theorem dX4_run_44 : decode (dc DX4_run) 44 = .ok (.dup, 1) := by decide +kernel
theorem dX4_run_45 : decode (dc DX4_run) 45 = .ok (.getfield 28, 3) := by decide +kernel
theorem dX4_run_48 : decode (dc DX4_run) 48 = .ok (.iconst 1, 1) := by decide +kernel
theorem dX4_run_49 : decode (dc DX4_run) 49 = .ok (.iadd, 1) := by decide +kernel
theorem dX4_run_50 : decode (dc DX4_run) 50 = .ok (.putfield 28, 3) := by decide +kernel
theorem dX4_run_53 : decode (dc DX4_run) 53 = .ok (.aload_n 0, 1) := by decide +kernel
theorem dX4_run_54 : decode (dc DX4_run) 54 = .ok (.iconst 0, 1) := by decide +kernel
theorem dX4_run_55 : decode (dc DX4_run) 55 = .ok (.putfield 24, 3) := by decide +kernel
theorem dX4_run_58 : decode (dc DX4_run) 58 = .ok (.iconst 0, 1) := by decide +kernel
theorem dX4_run_59 : decode (dc DX4_run) 59 = .ok (.istore_n 3, 1) := by decide +kernel
theorem dX4_run_60 : decode (dc DX4_run) 60 = .ok (.iload_n 3, 1) := by decide +kernel
theorem dX4_run_61 : decode (dc DX4_run) 61 = .ok (.aload_n 1, 1) := by decide +kernel
theorem dX4_run_62 : decode (dc DX4_run) 62 = .ok (.getfield 55, 3) := by decide +kernel
theorem dX4_run_65 : decode (dc DX4_run) 65 = .ok (.if_icmp .ge 36, 3) := by decide +kernel
theorem dX4_run_68 : decode (dc DX4_run) 68 = .ok (.aload_n 0, 1) := by decide +kernel
theorem dX4_run_69 : decode (dc DX4_run) 69 = .ok (.iload_n 3, 1) := by decide +kernel
theorem dX4_run_70 : decode (dc DX4_run) 70 = .ok (.invokevirtual 58, 3) := by decide +kernel
theorem dX4_run_73 : decode (dc DX4_run) 73 = .ok (.ifCond .ne 22, 3) := by decide +kernel
theorem dX4_run_76 : decode (dc DX4_run) 76 = .ok (.aload_n 0, 1) := by decide +kernel
theorem dX4_run_77 : decode (dc DX4_run) 77 = .ok (.aload_n 1, 1) := by decide +kernel
theorem dX4_run_78 : decode (dc DX4_run) 78 = .ok (.iload_n 3, 1) := by decide +kernel
theorem dX4_run_79 : decode (dc DX4_run) 79 = .ok (.invokevirtual 62, 3) := by decide +kernel
theorem dX4_run_82 : decode (dc DX4_run) 82 = .ok (.ifCond .eq 13, 3) := by decide +kernel
theorem dX4_run_85 : decode (dc DX4_run) 85 = .ok (.aload_n 0, 1) := by decide +kernel
theorem dX4_run_86 : decode (dc DX4_run) 86 = .ok (.dup, 1) := by decide +kernel
theorem dX4_run_87 : decode (dc DX4_run) 87 = .ok (.getfield 31, 3) := by decide +kernel
theorem dX4_run_90 : decode (dc DX4_run) 90 = .ok (.iconst 1, 1) := by decide +kernel
theorem dX4_run_91 : decode (dc DX4_run) 91 = .ok (.iadd, 1) := by decide +kernel
theorem dX4_run_92 : decode (dc DX4_run) 92 = .ok (.putfield 31, 3) := by decide +kernel
theorem dX4_run_95 : decode (dc DX4_run) 95 = .ok (.iinc 3 1, 3) := by decide +kernel
theorem dX4_run_98 : decode (dc DX4_run) 98 = .ok (.goto (-38), 3) := by decide +kernel
theorem dX4_run_101 : decode (dc DX4_run) 101 = .ok (.aload_n 0, 1) := by decide +kernel
theorem dX4_run_102 : decode (dc DX4_run) 102 = .ok (.iload_n 2, 1) := by decide +kernel
theorem dX4_run_103 : decode (dc DX4_run) 103 = .ok (.ifCond .ne 10, 3) := by decide +kernel
theorem dX4_run_106 : decode (dc DX4_run) 106 = .ok (.aload_n 0, 1) := by decide +kernel
theorem dX4_run_107 : decode (dc DX4_run) 107 = .ok (.getfield 31, 3) := by decide +kernel
theorem dX4_run_110 : decode (dc DX4_run) 110 = .ok (.goto 7, 3) := by decide +kernel
theorem dX4_run_113 : decode (dc DX4_run) 113 = .ok (.aload_n 0, 1) := by decide +kernel
theorem dX4_run_114 : decode (dc DX4_run) 114 = .ok (.getfield 34, 3) := by decide +kernel
theorem dX4_run_117 : decode (dc DX4_run) 117 = .ok (.putfield 34, 3) := by decide +kernel
theorem dX4_run_120 : decode (dc DX4_run) 120 = .ok (.iinc 2 1, 3) := by decide +kernel
theorem dX4_run_123 : decode (dc DX4_run) 123 = .ok (.goto (-94), 3) := by decide +kernel
theorem dX4_run_126 : decode (dc DX4_run) 126 = .ok (.return_, 1) := by decide +kernel
theorem dX5_init_0 : decode (dc DX5_init) 0 = .ok (.aload_n 0, 1) := by decide +kernel
theorem dX5_init_1 : decode (dc DX5_init) 1 = .ok (.invokespecial 3, 3) := by decide +kernel
theorem dX5_init_4 : decode (dc DX5_init) 4 = .ok (.aload_n 0, 1) := by decide +kernel
theorem dX5_init_5 : decode (dc DX5_init) 5 = .ok (.iconst 0, 1) := by decide +kernel
theorem dX5_init_6 : decode (dc DX5_init) 6 = .ok (.putfield 9, 3) := by decide +kernel
theorem dX5_init_9 : decode (dc DX5_init) 9 = .ok (.aload_n 0, 1) := by decide +kernel
theorem dX5_init_10 : decode (dc DX5_init) 10 = .ok (.iconst 0, 1) := by decide +kernel
theorem dX5_init_11 : decode (dc DX5_init) 11 = .ok (.putfield 15, 3) := by decide +kernel
theorem dX5_init_14 : decode (dc DX5_init) 14 = .ok (.aload_n 0, 1) := by decide +kernel
theorem dX5_init_15 : decode (dc DX5_init) 15 = .ok (.iconst 0, 1) := by decide +kernel
theorem dX5_init_16 : decode (dc DX5_init) 16 = .ok (.putfield 18, 3) := by decide +kernel
theorem dX5_init_19 : decode (dc DX5_init) 19 = .ok (.aload_n 0, 1) := by decide +kernel
theorem dX5_init_20 : decode (dc DX5_init) 20 = .ok (.iconst 0, 1) := by decide +kernel
theorem dX5_init_21 : decode (dc DX5_init) 21 = .ok (.putfield 21, 3) := by decide +kernel
theorem dX5_init_24 : decode (dc DX5_init) 24 = .ok (.aload_n 0, 1) := by decide +kernel
theorem dX5_init_25 : decode (dc DX5_init) 25 = .ok (.bipush 12, 2) := by decide +kernel
theorem dX5_init_27 : decode (dc DX5_init) 27 = .ok (.newarray .int, 2) := by decide +kernel
theorem dX5_init_29 : decode (dc DX5_init) 29 = .ok (.putfield 24, 3) := by decide +kernel
theorem dX5_init_32 : decode (dc DX5_init) 32 = .ok (.return_, 1) := by decide +kernel
theorem dX5_lookBack_0 : decode (dc DX5_lookBack) 0 = .ok (.iconst 0, 1) := by decide +kernel
theorem dX5_lookBack_1 : decode (dc DX5_lookBack) 1 = .ok (.istore_n 2, 1) := by decide +kernel
theorem dX5_lookBack_2 : decode (dc DX5_lookBack) 2 = .ok (.iload_n 2, 1) := by decide +kernel
theorem dX5_lookBack_3 : decode (dc DX5_lookBack) 3 = .ok (.bipush 12, 2) := by decide +kernel
theorem dX5_lookBack_5 : decode (dc DX5_lookBack) 5 = .ok (.if_icmp .ge 62, 3) := by decide +kernel
theorem dX5_lookBack_8 : decode (dc DX5_lookBack) 8 = .ok (.aload_n 1, 1) := by decide +kernel
theorem dX5_lookBack_9 : decode (dc DX5_lookBack) 9 = .ok (.iload_n 2, 1) := by decide +kernel
theorem dX5_lookBack_10 : decode (dc DX5_lookBack) 10 = .ok (.invokevirtual 60, 3) := by decide +kernel
theorem dX5_lookBack_13 : decode (dc DX5_lookBack) 13 = .ok (.aload_n 0, 1) := by decide +kernel
theorem dX5_lookBack_14 : decode (dc DX5_lookBack) 14 = .ok (.getfield 21, 3) := by decide +kernel
theorem dX5_lookBack_17 : decode (dc DX5_lookBack) 17 = .ok (.iand, 1) := by decide +kernel
theorem dX5_lookBack_18 : decode (dc DX5_lookBack) 18 = .ok (.ifCond .eq 43, 3) := by decide +kernel
theorem dX5_lookBack_21 : decode (dc DX5_lookBack) 21 = .ok (.aload_n 0, 1) := by decide +kernel
theorem dX5_lookBack_22 : decode (dc DX5_lookBack) 22 = .ok (.dup, 1) := by decide +kernel
theorem dX5_lookBack_23 : decode (dc DX5_lookBack) 23 = .ok (.getfield 18, 3) := by decide +kernel
theorem dX5_lookBack_26 : decode (dc DX5_lookBack) 26 = .ok (.iload_n 2, 1) := by decide +kernel
theorem dX5_lookBack_27 : decode (dc DX5_lookBack) 27 = .ok (.invokestatic 67, 3) := by decide +kernel
theorem dX5_lookBack_30 : decode (dc DX5_lookBack) 30 = .ok (.ior, 1) := by decide +kernel
theorem dX5_lookBack_31 : decode (dc DX5_lookBack) 31 = .ok (.putfield 18, 3) := by decide +kernel
theorem dX5_lookBack_34 : decode (dc DX5_lookBack) 34 = .ok (.aload_n 1, 1) := by decide +kernel
theorem dX5_lookBack_35 : decode (dc DX5_lookBack) 35 = .ok (.getfield 33, 3) := by decide +kernel
theorem dX5_lookBack_38 : decode (dc DX5_lookBack) 38 = .ok (.iload_n 2, 1) := by decide +kernel
theorem dX5_lookBack_39 : decode (dc DX5_lookBack) 39 = .ok (.invokevirtual 64, 3) := by decide +kernel
theorem dX5_lookBack_42 : decode (dc DX5_lookBack) 42 = .ok (.istore_n 3, 1) := by decide +kernel
theorem dX5_lookBack_43 : decode (dc DX5_lookBack) 43 = .ok (.iload_n 3, 1) := by decide +kernel
theorem dX5_lookBack_44 : decode (dc DX5_lookBack) 44 = .ok (.iconst (-1), 1) := by decide +kernel
theorem dX5_lookBack_45 : decode (dc DX5_lookBack) 45 = .ok (.if_icmp .eq 16, 3) := by decide +kernel
theorem dX5_lookBack_48 : decode (dc DX5_lookBack) 48 = .ok (.aload_n 0, 1) := by decide +kernel
theorem dX5_lookBack_49 : decode (dc DX5_lookBack) 49 = .ok (.dup, 1) := by decide +kernel
theorem dX5_lookBack_50 : decode (dc DX5_lookBack) 50 = .ok (.getfield 21, 3) := by decide +kernel
theorem dX5_lookBack_53 : decode (dc DX5_lookBack) 53 = .ok (.iload_n 3, 1) := by decide +kernel
theorem dX5_lookBack_54 : decode (dc DX5_lookBack) 54 = .ok (.invokestatic 67, 3) := by decide +kernel
theorem dX5_lookBack_57 : decode (dc DX5_lookBack) 57 = .ok (.ior, 1) := by decide +kernel
theorem dX5_lookBack_58 : decode (dc DX5_lookBack) 58 = .ok (.putfield 21, 3) := by decide +kernel
theorem dX5_lookBack_61 : decode (dc DX5_lookBack) 61 = .ok (.iinc 2 1, 3) := by decide +kernel
theorem dX5_lookBack_64 : decode (dc DX5_lookBack) 64 = .ok (.goto (-62), 3) := by decide +kernel
theorem dX5_lookBack_67 : decode (dc DX5_lookBack) 67 = .ok (.return_, 1) := by decide +kernel
theorem dX5_lookOn_0 : decode (dc DX5_lookOn) 0 = .ok (.iconst 0, 1) := by decide +kernel
theorem dX5_lookOn_1 : decode (dc DX5_lookOn) 1 = .ok (.istore_n 2, 1) := by decide +kernel
theorem dX5_lookOn_2 : decode (dc DX5_lookOn) 2 = .ok (.iload_n 2, 1) := by decide +kernel
theorem dX5_lookOn_3 : decode (dc DX5_lookOn) 3 = .ok (.bipush 12, 2) := by decide +kernel
theorem dX5_lookOn_5 : decode (dc DX5_lookOn) 5 = .ok (.if_icmp .ge 34, 3) := by decide +kernel
theorem dX5_lookOn_8 : decode (dc DX5_lookOn) 8 = .ok (.aload_n 0, 1) := by decide +kernel
theorem dX5_lookOn_9 : decode (dc DX5_lookOn) 9 = .ok (.getfield 9, 3) := by decide +kernel
theorem dX5_lookOn_12 : decode (dc DX5_lookOn) 12 = .ok (.iload_n 2, 1) := by decide +kernel
theorem dX5_lookOn_13 : decode (dc DX5_lookOn) 13 = .ok (.invokestatic 56, 3) := by decide +kernel
theorem dX5_lookOn_16 : decode (dc DX5_lookOn) 16 = .ok (.ifCond .eq 17, 3) := by decide +kernel
theorem dX5_lookOn_19 : decode (dc DX5_lookOn) 19 = .ok (.aload_n 0, 1) := by decide +kernel
theorem dX5_lookOn_20 : decode (dc DX5_lookOn) 20 = .ok (.dup, 1) := by decide +kernel
theorem dX5_lookOn_21 : decode (dc DX5_lookOn) 21 = .ok (.getfield 15, 3) := by decide +kernel
theorem dX5_lookOn_24 : decode (dc DX5_lookOn) 24 = .ok (.aload_n 1, 1) := by decide +kernel
theorem dX5_lookOn_25 : decode (dc DX5_lookOn) 25 = .ok (.iload_n 2, 1) := by decide +kernel
theorem dX5_lookOn_26 : decode (dc DX5_lookOn) 26 = .ok (.invokevirtual 60, 3) := by decide +kernel
theorem dX5_lookOn_29 : decode (dc DX5_lookOn) 29 = .ok (.ior, 1) := by decide +kernel
theorem dX5_lookOn_30 : decode (dc DX5_lookOn) 30 = .ok (.putfield 15, 3) := by decide +kernel
theorem dX5_lookOn_33 : decode (dc DX5_lookOn) 33 = .ok (.iinc 2 1, 3) := by decide +kernel
theorem dX5_lookOn_36 : decode (dc DX5_lookOn) 36 = .ok (.goto (-34), 3) := by decide +kernel
theorem dX5_lookOn_39 : decode (dc DX5_lookOn) 39 = .ok (.iconst 0, 1) := by decide +kernel
theorem dX5_lookOn_40 : decode (dc DX5_lookOn) 40 = .ok (.istore_n 2, 1) := by decide +kernel
theorem dX5_lookOn_41 : decode (dc DX5_lookOn) 41 = .ok (.iload_n 2, 1) := by decide +kernel
theorem dX5_lookOn_42 : decode (dc DX5_lookOn) 42 = .ok (.bipush 12, 2) := by decide +kernel
theorem dX5_lookOn_44 : decode (dc DX5_lookOn) 44 = .ok (.if_icmp .ge 47, 3) := by decide +kernel
theorem dX5_lookOn_47 : decode (dc DX5_lookOn) 47 = .ok (.aload_n 1, 1) := by decide +kernel
theorem dX5_lookOn_48 : decode (dc DX5_lookOn) 48 = .ok (.getfield 33, 3) := by decide +kernel
theorem dX5_lookOn_51 : decode (dc DX5_lookOn) 51 = .ok (.iload_n 2, 1) := by decide +kernel
theorem dX5_lookOn_52 : decode (dc DX5_lookOn) 52 = .ok (.invokevirtual 64, 3) := by decide +kernel
theorem dX5_lookOn_55 : decode (dc DX5_lookOn) 55 = .ok (.istore_n 3, 1) := by decide +kernel
theorem dX5_lookOn_56 : decode (dc DX5_lookOn) 56 = .ok (.iload_n 3, 1) := by decide +kernel
theorem dX5_lookOn_57 : decode (dc DX5_lookOn) 57 = .ok (.iconst (-1), 1) := by decide +kernel
theorem dX5_lookOn_58 : decode (dc DX5_lookOn) 58 = .ok (.if_icmp .eq 27, 3) := by decide +kernel
theorem dX5_lookOn_61 : decode (dc DX5_lookOn) 61 = .ok (.aload_n 0, 1) := by decide +kernel
theorem dX5_lookOn_62 : decode (dc DX5_lookOn) 62 = .ok (.getfield 15, 3) := by decide +kernel
theorem dX5_lookOn_65 : decode (dc DX5_lookOn) 65 = .ok (.iload_n 3, 1) := by decide +kernel
theorem dX5_lookOn_66 : decode (dc DX5_lookOn) 66 = .ok (.invokestatic 56, 3) := by decide +kernel
theorem dX5_lookOn_69 : decode (dc DX5_lookOn) 69 = .ok (.ifCond .eq 16, 3) := by decide +kernel
theorem dX5_lookOn_72 : decode (dc DX5_lookOn) 72 = .ok (.aload_n 0, 1) := by decide +kernel
theorem dX5_lookOn_73 : decode (dc DX5_lookOn) 73 = .ok (.dup, 1) := by decide +kernel
theorem dX5_lookOn_74 : decode (dc DX5_lookOn) 74 = .ok (.getfield 9, 3) := by decide +kernel
theorem dX5_lookOn_77 : decode (dc DX5_lookOn) 77 = .ok (.iload_n 2, 1) := by decide +kernel
theorem dX5_lookOn_78 : decode (dc DX5_lookOn) 78 = .ok (.invokestatic 67, 3) := by decide +kernel
theorem dX5_lookOn_81 : decode (dc DX5_lookOn) 81 = .ok (.ior, 1) := by decide +kernel
theorem dX5_lookOn_82 : decode (dc DX5_lookOn) 82 = .ok (.putfield 9, 3) := by decide +kernel
theorem dX5_lookOn_85 : decode (dc DX5_lookOn) 85 = .ok (.iinc 2 1, 3) := by decide +kernel
theorem dX5_lookOn_88 : decode (dc DX5_lookOn) 88 = .ok (.goto (-47), 3) := by decide +kernel
theorem dX5_lookOn_91 : decode (dc DX5_lookOn) 91 = .ok (.return_, 1) := by decide +kernel
theorem dX5_look_0 : decode (dc DX5_look) 0 = .ok (.aload_n 0, 1) := by decide +kernel
theorem dX5_look_1 : decode (dc DX5_look) 1 = .ok (.aload_n 1, 1) := by decide +kernel
theorem dX5_look_2 : decode (dc DX5_look) 2 = .ok (.getfield 28, 3) := by decide +kernel
theorem dX5_look_5 : decode (dc DX5_look) 5 = .ok (.aload_n 1, 1) := by decide +kernel
theorem dX5_look_6 : decode (dc DX5_look) 6 = .ok (.getfield 33, 3) := by decide +kernel
theorem dX5_look_9 : decode (dc DX5_look) 9 = .ok (.invokevirtual 37, 3) := by decide +kernel
theorem dX5_look_12 : decode (dc DX5_look) 12 = .ok (.iconst (-1), 1) := by decide +kernel
theorem dX5_look_13 : decode (dc DX5_look) 13 = .ok (.ixor, 1) := by decide +kernel
theorem dX5_look_14 : decode (dc DX5_look) 14 = .ok (.iand, 1) := by decide +kernel
theorem dX5_look_15 : decode (dc DX5_look) 15 = .ok (.putfield 9, 3) := by decide +kernel
theorem dX5_look_18 : decode (dc DX5_look) 18 = .ok (.aload_n 0, 1) := by decide +kernel
theorem dX5_look_19 : decode (dc DX5_look) 19 = .ok (.iconst 0, 1) := by decide +kernel
theorem dX5_look_20 : decode (dc DX5_look) 20 = .ok (.putfield 15, 3) := by decide +kernel
theorem dX5_look_23 : decode (dc DX5_look) 23 = .ok (.iconst 0, 1) := by decide +kernel
theorem dX5_look_24 : decode (dc DX5_look) 24 = .ok (.istore_n 2, 1) := by decide +kernel
theorem dX5_look_25 : decode (dc DX5_look) 25 = .ok (.iload_n 2, 1) := by decide +kernel
theorem dX5_look_26 : decode (dc DX5_look) 26 = .ok (.bipush 12, 2) := by decide +kernel
theorem dX5_look_28 : decode (dc DX5_look) 28 = .ok (.if_icmp .ge 30, 3) := by decide +kernel
theorem dX5_look_31 : decode (dc DX5_look) 31 = .ok (.aload_n 0, 1) := by decide +kernel
theorem dX5_look_32 : decode (dc DX5_look) 32 = .ok (.getfield 9, 3) := by decide +kernel
theorem dX5_look_35 : decode (dc DX5_look) 35 = .ok (.istore_n 3, 1) := by decide +kernel
theorem dX5_look_36 : decode (dc DX5_look) 36 = .ok (.aload_n 0, 1) := by decide +kernel
theorem dX5_look_37 : decode (dc DX5_look) 37 = .ok (.aload_n 1, 1) := by decide +kernel
theorem dX5_look_38 : decode (dc DX5_look) 38 = .ok (.invokevirtual 43, 3) := by decide +kernel
theorem dX5_look_41 : decode (dc DX5_look) 41 = .ok (.aload_n 0, 1) := by decide +kernel
theorem dX5_look_42 : decode (dc DX5_look) 42 = .ok (.getfield 9, 3) := by decide +kernel
theorem dX5_look_45 : decode (dc DX5_look) 45 = .ok (.iload_n 3, 1) := by decide +kernel
theorem dX5_look_46 : decode (dc DX5_look) 46 = .ok (.if_icmp .ne 6, 3) := by decide +kernel
theorem dX5_look_49 : decode (dc DX5_look) 49 = .ok (.goto 9, 3) := by decide +kernel
theorem dX5_look_52 : decode (dc DX5_look) 52 = .ok (.iinc 2 1, 3) := by decide +kernel
theorem dX5_look_55 : decode (dc DX5_look) 55 = .ok (.goto (-30), 3) := by decide +kernel
theorem dX5_look_58 : decode (dc DX5_look) 58 = .ok (.aload_n 0, 1) := by decide +kernel
theorem dX5_look_59 : decode (dc DX5_look) 59 = .ok (.aload_n 1, 1) := by decide +kernel
theorem dX5_look_60 : decode (dc DX5_look) 60 = .ok (.getfield 47, 3) := by decide +kernel
theorem dX5_look_63 : decode (dc DX5_look) 63 = .ok (.aload_n 1, 1) := by decide +kernel
theorem dX5_look_64 : decode (dc DX5_look) 64 = .ok (.getfield 33, 3) := by decide +kernel
theorem dX5_look_67 : decode (dc DX5_look) 67 = .ok (.invokevirtual 50, 3) := by decide +kernel
theorem dX5_look_70 : decode (dc DX5_look) 70 = .ok (.iconst (-1), 1) := by decide +kernel
theorem dX5_look_71 : decode (dc DX5_look) 71 = .ok (.ixor, 1) := by decide +kernel
theorem dX5_look_72 : decode (dc DX5_look) 72 = .ok (.iand, 1) := by decide +kernel
theorem dX5_look_73 : decode (dc DX5_look) 73 = .ok (.putfield 21, 3) := by decide +kernel
theorem dX5_look_76 : decode (dc DX5_look) 76 = .ok (.aload_n 0, 1) := by decide +kernel
theorem dX5_look_77 : decode (dc DX5_look) 77 = .ok (.iconst 0, 1) := by decide +kernel
theorem dX5_look_78 : decode (dc DX5_look) 78 = .ok (.putfield 18, 3) := by decide +kernel
theorem dX5_look_81 : decode (dc DX5_look) 81 = .ok (.iconst 0, 1) := by decide +kernel
theorem dX5_look_82 : decode (dc DX5_look) 82 = .ok (.istore_n 2, 1) := by decide +kernel
theorem dX5_look_83 : decode (dc DX5_look) 83 = .ok (.iload_n 2, 1) := by decide +kernel
theorem dX5_look_84 : decode (dc DX5_look) 84 = .ok (.bipush 12, 2) := by decide +kernel
theorem dX5_look_86 : decode (dc DX5_look) 86 = .ok (.if_icmp .ge 30, 3) := by decide +kernel
theorem dX5_look_89 : decode (dc DX5_look) 89 = .ok (.aload_n 0, 1) := by decide +kernel
theorem dX5_look_90 : decode (dc DX5_look) 90 = .ok (.getfield 21, 3) := by decide +kernel
theorem dX5_look_93 : decode (dc DX5_look) 93 = .ok (.istore_n 3, 1) := by decide +kernel
theorem dX5_look_94 : decode (dc DX5_look) 94 = .ok (.aload_n 0, 1) := by decide +kernel
theorem dX5_look_95 : decode (dc DX5_look) 95 = .ok (.aload_n 1, 1) := by decide +kernel
theorem dX5_look_96 : decode (dc DX5_look) 96 = .ok (.invokevirtual 53, 3) := by decide +kernel
theorem dX5_look_99 : decode (dc DX5_look) 99 = .ok (.aload_n 0, 1) := by decide +kernel
theorem dX5_look_100 : decode (dc DX5_look) 100 = .ok (.getfield 21, 3) := by decide +kernel
theorem dX5_look_103 : decode (dc DX5_look) 103 = .ok (.iload_n 3, 1) := by decide +kernel
theorem dX5_look_104 : decode (dc DX5_look) 104 = .ok (.if_icmp .ne 6, 3) := by decide +kernel
theorem dX5_look_107 : decode (dc DX5_look) 107 = .ok (.goto 9, 3) := by decide +kernel
theorem dX5_look_110 : decode (dc DX5_look) 110 = .ok (.iinc 2 1, 3) := by decide +kernel
theorem dX5_look_113 : decode (dc DX5_look) 113 = .ok (.goto (-30), 3) := by decide +kernel
theorem dX5_look_116 : decode (dc DX5_look) 116 = .ok (.return_, 1) := by decide +kernel
theorem dX5_close_0 : decode (dc DX5_close) 0 = .ok (.iconst 0, 1) := by decide +kernel
theorem dX5_close_1 : decode (dc DX5_close) 1 = .ok (.istore_n 2, 1) := by decide +kernel
theorem dX5_close_2 : decode (dc DX5_close) 2 = .ok (.iload_n 2, 1) := by decide +kernel
theorem dX5_close_3 : decode (dc DX5_close) 3 = .ok (.bipush 12, 2) := by decide +kernel
theorem dX5_close_5 : decode (dc DX5_close) 5 = .ok (.if_icmp .ge 114, 3) := by decide +kernel
theorem dX5_close_8 : decode (dc DX5_close) 8 = .ok (.aload_n 1, 1) := by decide +kernel
theorem dX5_close_9 : decode (dc DX5_close) 9 = .ok (.getfield 33, 3) := by decide +kernel
theorem dX5_close_12 : decode (dc DX5_close) 12 = .ok (.iload_n 2, 1) := by decide +kernel
theorem dX5_close_13 : decode (dc DX5_close) 13 = .ok (.invokevirtual 64, 3) := by decide +kernel
theorem dX5_close_16 : decode (dc DX5_close) 16 = .ok (.istore_n 3, 1) := by decide +kernel
theorem dX5_close_17 : decode (dc DX5_close) 17 = .ok (.iload_n 3, 1) := by decide +kernel
theorem dX5_close_18 : decode (dc DX5_close) 18 = .ok (.iconst (-1), 1) := by decide +kernel
theorem dX5_close_19 : decode (dc DX5_close) 19 = .ok (.if_icmp .ne 11, 3) := by decide +kernel
theorem dX5_close_22 : decode (dc DX5_close) 22 = .ok (.aload_n 1, 1) := by decide +kernel
theorem dX5_close_23 : decode (dc DX5_close) 23 = .ok (.iload_n 2, 1) := by decide +kernel
theorem dX5_close_24 : decode (dc DX5_close) 24 = .ok (.invokevirtual 60, 3) := by decide +kernel
theorem dX5_close_27 : decode (dc DX5_close) 27 = .ok (.goto 15, 3) := by decide +kernel
theorem dX5_close_30 : decode (dc DX5_close) 30 = .ok (.aload_n 1, 1) := by decide +kernel
theorem dX5_close_31 : decode (dc DX5_close) 31 = .ok (.iload_n 2, 1) := by decide +kernel
theorem dX5_close_32 : decode (dc DX5_close) 32 = .ok (.invokevirtual 60, 3) := by decide +kernel
theorem dX5_close_35 : decode (dc DX5_close) 35 = .ok (.iload_n 3, 1) := by decide +kernel
theorem dX5_close_36 : decode (dc DX5_close) 36 = .ok (.invokestatic 67, 3) := by decide +kernel
theorem dX5_close_39 : decode (dc DX5_close) 39 = .ok (.iconst (-1), 1) := by decide +kernel
theorem dX5_close_40 : decode (dc DX5_close) 40 = .ok (.ixor, 1) := by decide +kernel
theorem dX5_close_41 : decode (dc DX5_close) 41 = .ok (.iand, 1) := by decide +kernel
theorem dX5_close_42 : decode (dc DX5_close) 42 = .ok (.istore 4, 2) := by decide +kernel
theorem dX5_close_44 : decode (dc DX5_close) 44 = .ok (.aload_n 0, 1) := by decide +kernel
theorem dX5_close_45 : decode (dc DX5_close) 45 = .ok (.getfield 24, 3) := by decide +kernel
theorem dX5_close_48 : decode (dc DX5_close) 48 = .ok (.iload_n 2, 1) := by decide +kernel
theorem dX5_close_49 : decode (dc DX5_close) 49 = .ok (.iconst 0, 1) := by decide +kernel
theorem dX5_close_50 : decode (dc DX5_close) 50 = .ok (.iastore, 1) := by decide +kernel
theorem dX5_close_51 : decode (dc DX5_close) 51 = .ok (.iconst 0, 1) := by decide +kernel
theorem dX5_close_52 : decode (dc DX5_close) 52 = .ok (.istore 5, 2) := by decide +kernel
theorem dX5_close_54 : decode (dc DX5_close) 54 = .ok (.iload 5, 2) := by decide +kernel
theorem dX5_close_56 : decode (dc DX5_close) 56 = .ok (.bipush 12, 2) := by decide +kernel
theorem dX5_close_58 : decode (dc DX5_close) 58 = .ok (.if_icmp .ge 55, 3) := by decide +kernel
theorem dX5_close_61 : decode (dc DX5_close) 61 = .ok (.iload 4, 2) := by decide +kernel
theorem dX5_close_63 : decode (dc DX5_close) 63 = .ok (.ifCond .eq 50, 3) := by decide +kernel
theorem dX5_close_66 : decode (dc DX5_close) 66 = .ok (.aload_n 1, 1) := by decide +kernel
theorem dX5_close_67 : decode (dc DX5_close) 67 = .ok (.getfield 33, 3) := by decide +kernel
theorem dX5_close_70 : decode (dc DX5_close) 70 = .ok (.iload 5, 2) := by decide +kernel
theorem dX5_close_72 : decode (dc DX5_close) 72 = .ok (.invokevirtual 70, 3) := by decide +kernel
theorem dX5_close_75 : decode (dc DX5_close) 75 = .ok (.istore 6, 2) := by decide +kernel
theorem dX5_close_77 : decode (dc DX5_close) 77 = .ok (.iload 4, 2) := by decide +kernel
theorem dX5_close_79 : decode (dc DX5_close) 79 = .ok (.iload 5, 2) := by decide +kernel
theorem dX5_close_81 : decode (dc DX5_close) 81 = .ok (.invokestatic 56, 3) := by decide +kernel
theorem dX5_close_84 : decode (dc DX5_close) 84 = .ok (.ifCond .eq 23, 3) := by decide +kernel
theorem dX5_close_87 : decode (dc DX5_close) 87 = .ok (.iload 6, 2) := by decide +kernel
theorem dX5_close_89 : decode (dc DX5_close) 89 = .ok (.iconst (-1), 1) := by decide +kernel
theorem dX5_close_90 : decode (dc DX5_close) 90 = .ok (.if_icmp .eq 17, 3) := by decide +kernel
theorem dX5_close_93 : decode (dc DX5_close) 93 = .ok (.aload_n 0, 1) := by decide +kernel
theorem dX5_close_94 : decode (dc DX5_close) 94 = .ok (.getfield 24, 3) := by decide +kernel
theorem dX5_close_97 : decode (dc DX5_close) 97 = .ok (.iload_n 2, 1) := by decide +kernel
theorem dX5_close_98 : decode (dc DX5_close) 98 = .ok (.dup2, 1) := by decide +kernel
theorem dX5_close_99 : decode (dc DX5_close) 99 = .ok (.iaload, 1) := by decide +kernel
theorem dX5_close_100 : decode (dc DX5_close) 100 = .ok (.iload 6, 2) := by decide +kernel
theorem dX5_close_102 : decode (dc DX5_close) 102 = .ok (.invokestatic 67, 3) := by decide +kernel
theorem dX5_close_105 : decode (dc DX5_close) 105 = .ok (.ior, 1) := by decide +kernel
theorem dX5_close_106 : decode (dc DX5_close) 106 = .ok (.iastore, 1) := by decide +kernel
theorem dX5_close_107 : decode (dc DX5_close) 107 = .ok (.iinc 5 1, 3) := by decide +kernel
theorem dX5_close_110 : decode (dc DX5_close) 110 = .ok (.goto (-56), 3) := by decide +kernel
theorem dX5_close_113 : decode (dc DX5_close) 113 = .ok (.iinc 2 1, 3) := by decide +kernel
theorem dX5_close_116 : decode (dc DX5_close) 116 = .ok (.goto (-114), 3) := by decide +kernel
theorem dX5_close_119 : decode (dc DX5_close) 119 = .ok (.iconst 0, 1) := by decide +kernel
theorem dX5_close_120 : decode (dc DX5_close) 120 = .ok (.istore_n 2, 1) := by decide +kernel
theorem dX5_close_121 : decode (dc DX5_close) 121 = .ok (.iload_n 2, 1) := by decide +kernel
theorem dX5_close_122 : decode (dc DX5_close) 122 = .ok (.bipush 12, 2) := by decide +kernel
theorem dX5_close_124 : decode (dc DX5_close) 124 = .ok (.if_icmp .ge 51, 3) := by decide +kernel
theorem dX5_close_127 : decode (dc DX5_close) 127 = .ok (.iconst 0, 1) := by decide +kernel
theorem dX5_close_128 : decode (dc DX5_close) 128 = .ok (.istore_n 3, 1) := by decide +kernel
theorem dX5_close_129 : decode (dc DX5_close) 129 = .ok (.iload_n 3, 1) := by decide +kernel
theorem dX5_close_130 : decode (dc DX5_close) 130 = .ok (.bipush 12, 2) := by decide +kernel
theorem dX5_close_132 : decode (dc DX5_close) 132 = .ok (.if_icmp .ge 37, 3) := by decide +kernel
theorem dX5_close_135 : decode (dc DX5_close) 135 = .ok (.aload_n 0, 1) := by decide +kernel
theorem dX5_close_136 : decode (dc DX5_close) 136 = .ok (.getfield 24, 3) := by decide +kernel
theorem dX5_close_139 : decode (dc DX5_close) 139 = .ok (.iload_n 3, 1) := by decide +kernel
theorem dX5_close_140 : decode (dc DX5_close) 140 = .ok (.iaload, 1) := by decide +kernel
theorem dX5_close_141 : decode (dc DX5_close) 141 = .ok (.iload_n 2, 1) := by decide +kernel
theorem dX5_close_142 : decode (dc DX5_close) 142 = .ok (.invokestatic 56, 3) := by decide +kernel
theorem dX5_close_145 : decode (dc DX5_close) 145 = .ok (.ifCond .eq 18, 3) := by decide +kernel
theorem dX5_close_148 : decode (dc DX5_close) 148 = .ok (.aload_n 0, 1) := by decide +kernel
theorem dX5_close_149 : decode (dc DX5_close) 149 = .ok (.getfield 24, 3) := by decide +kernel
theorem dX5_close_152 : decode (dc DX5_close) 152 = .ok (.iload_n 3, 1) := by decide +kernel
theorem dX5_close_153 : decode (dc DX5_close) 153 = .ok (.dup2, 1) := by decide +kernel
theorem dX5_close_154 : decode (dc DX5_close) 154 = .ok (.iaload, 1) := by decide +kernel
theorem dX5_close_155 : decode (dc DX5_close) 155 = .ok (.aload_n 0, 1) := by decide +kernel
theorem dX5_close_156 : decode (dc DX5_close) 156 = .ok (.getfield 24, 3) := by decide +kernel
theorem dX5_close_159 : decode (dc DX5_close) 159 = .ok (.iload_n 2, 1) := by decide +kernel
theorem dX5_close_160 : decode (dc DX5_close) 160 = .ok (.iaload, 1) := by decide +kernel
theorem dX5_close_161 : decode (dc DX5_close) 161 = .ok (.ior, 1) := by decide +kernel
theorem dX5_close_162 : decode (dc DX5_close) 162 = .ok (.iastore, 1) := by decide +kernel
theorem dX5_close_163 : decode (dc DX5_close) 163 = .ok (.iinc 3 1, 3) := by decide +kernel
theorem dX5_close_166 : decode (dc DX5_close) 166 = .ok (.goto (-37), 3) := by decide +kernel
theorem dX5_close_169 : decode (dc DX5_close) 169 = .ok (.iinc 2 1, 3) := by decide +kernel
theorem dX5_close_172 : decode (dc DX5_close) 172 = .ok (.goto (-51), 3) := by decide +kernel
theorem dX5_close_175 : decode (dc DX5_close) 175 = .ok (.return_, 1) := by decide +kernel
theorem dX5_comesTo_0 : decode (dc DX5_comesTo) 0 = .ok (.iload_n 1, 1) := by decide +kernel
theorem dX5_comesTo_1 : decode (dc DX5_comesTo) 1 = .ok (.invokestatic 73, 3) := by decide +kernel
theorem dX5_comesTo_4 : decode (dc DX5_comesTo) 4 = .ok (.ifCond .eq 27, 3) := by decide +kernel
theorem dX5_comesTo_7 : decode (dc DX5_comesTo) 7 = .ok (.iload_n 2, 1) := by decide +kernel
theorem dX5_comesTo_8 : decode (dc DX5_comesTo) 8 = .ok (.invokestatic 73, 3) := by decide +kernel
theorem dX5_comesTo_11 : decode (dc DX5_comesTo) 11 = .ok (.ifCond .eq 20, 3) := by decide +kernel
theorem dX5_comesTo_14 : decode (dc DX5_comesTo) 14 = .ok (.aload_n 0, 1) := by decide +kernel
theorem dX5_comesTo_15 : decode (dc DX5_comesTo) 15 = .ok (.getfield 24, 3) := by decide +kernel
theorem dX5_comesTo_18 : decode (dc DX5_comesTo) 18 = .ok (.iload_n 1, 1) := by decide +kernel
theorem dX5_comesTo_19 : decode (dc DX5_comesTo) 19 = .ok (.iaload, 1) := by decide +kernel
theorem dX5_comesTo_20 : decode (dc DX5_comesTo) 20 = .ok (.iload_n 2, 1) := by decide +kernel
theorem dX5_comesTo_21 : decode (dc DX5_comesTo) 21 = .ok (.invokestatic 56, 3) := by decide +kernel
theorem dX5_comesTo_24 : decode (dc DX5_comesTo) 24 = .ok (.ifCond .eq 7, 3) := by decide +kernel
theorem dX5_comesTo_27 : decode (dc DX5_comesTo) 27 = .ok (.iconst 1, 1) := by decide +kernel
theorem dX5_comesTo_28 : decode (dc DX5_comesTo) 28 = .ok (.goto 4, 3) := by decide +kernel
theorem dX5_comesTo_31 : decode (dc DX5_comesTo) 31 = .ok (.iconst 0, 1) := by decide +kernel
theorem dX5_comesTo_32 : decode (dc DX5_comesTo) 32 = .ok (.ireturn, 1) := by decide +kernel
theorem dX5_kindOf_0 : decode (dc DX5_kindOf) 0 = .ok (.aload_n 0, 1) := by decide +kernel
theorem dX5_kindOf_1 : decode (dc DX5_kindOf) 1 = .ok (.getfield 9, 3) := by decide +kernel
theorem dX5_kindOf_4 : decode (dc DX5_kindOf) 4 = .ok (.iload_n 2, 1) := by decide +kernel
theorem dX5_kindOf_5 : decode (dc DX5_kindOf) 5 = .ok (.invokestatic 56, 3) := by decide +kernel
theorem dX5_kindOf_8 : decode (dc DX5_kindOf) 8 = .ok (.ifCond .ne 14, 3) := by decide +kernel
theorem dX5_kindOf_11 : decode (dc DX5_kindOf) 11 = .ok (.aload_n 0, 1) := by decide +kernel
theorem dX5_kindOf_12 : decode (dc DX5_kindOf) 12 = .ok (.getfield 21, 3) := by decide +kernel
theorem dX5_kindOf_15 : decode (dc DX5_kindOf) 15 = .ok (.iload_n 3, 1) := by decide +kernel
theorem dX5_kindOf_16 : decode (dc DX5_kindOf) 16 = .ok (.invokestatic 56, 3) := by decide +kernel
theorem dX5_kindOf_19 : decode (dc DX5_kindOf) 19 = .ok (.ifCond .eq 5, 3) := by decide +kernel
theorem dX5_kindOf_22 : decode (dc DX5_kindOf) 22 = .ok (.iconst 2, 1) := by decide +kernel
theorem dX5_kindOf_23 : decode (dc DX5_kindOf) 23 = .ok (.ireturn, 1) := by decide +kernel
theorem dX5_kindOf_24 : decode (dc DX5_kindOf) 24 = .ok (.aload_n 0, 1) := by decide +kernel
theorem dX5_kindOf_25 : decode (dc DX5_kindOf) 25 = .ok (.aload_n 1, 1) := by decide +kernel
theorem dX5_kindOf_26 : decode (dc DX5_kindOf) 26 = .ok (.getfield 33, 3) := by decide +kernel
theorem dX5_kindOf_29 : decode (dc DX5_kindOf) 29 = .ok (.iload_n 3, 1) := by decide +kernel
theorem dX5_kindOf_30 : decode (dc DX5_kindOf) 30 = .ok (.invokevirtual 70, 3) := by decide +kernel
theorem dX5_kindOf_33 : decode (dc DX5_kindOf) 33 = .ok (.iload_n 2, 1) := by decide +kernel
theorem dX5_kindOf_34 : decode (dc DX5_kindOf) 34 = .ok (.invokevirtual 77, 3) := by decide +kernel
theorem dX5_kindOf_37 : decode (dc DX5_kindOf) 37 = .ok (.istore 4, 2) := by decide +kernel
theorem dX5_kindOf_39 : decode (dc DX5_kindOf) 39 = .ok (.aload_n 1, 1) := by decide +kernel
theorem dX5_kindOf_40 : decode (dc DX5_kindOf) 40 = .ok (.getfield 33, 3) := by decide +kernel
theorem dX5_kindOf_43 : decode (dc DX5_kindOf) 43 = .ok (.iload_n 2, 1) := by decide +kernel
theorem dX5_kindOf_44 : decode (dc DX5_kindOf) 44 = .ok (.invokevirtual 64, 3) := by decide +kernel
theorem dX5_kindOf_47 : decode (dc DX5_kindOf) 47 = .ok (.iload_n 3, 1) := by decide +kernel
theorem dX5_kindOf_48 : decode (dc DX5_kindOf) 48 = .ok (.if_icmp .ne 14, 3) := by decide +kernel
theorem dX5_kindOf_51 : decode (dc DX5_kindOf) 51 = .ok (.iload 4, 2) := by decide +kernel
theorem dX5_kindOf_53 : decode (dc DX5_kindOf) 53 = .ok (.ifCond .eq 7, 3) := by decide +kernel
theorem dX5_kindOf_56 : decode (dc DX5_kindOf) 56 = .ok (.iconst 2, 1) := by decide +kernel
theorem dX5_kindOf_57 : decode (dc DX5_kindOf) 57 = .ok (.goto 4, 3) := by decide +kernel
theorem dX5_kindOf_60 : decode (dc DX5_kindOf) 60 = .ok (.iconst 3, 1) := by decide +kernel
theorem dX5_kindOf_61 : decode (dc DX5_kindOf) 61 = .ok (.ireturn, 1) := by decide +kernel
theorem dX5_kindOf_62 : decode (dc DX5_kindOf) 62 = .ok (.iload 4, 2) := by decide +kernel
theorem dX5_kindOf_64 : decode (dc DX5_kindOf) 64 = .ok (.ifCond .eq 7, 3) := by decide +kernel
theorem dX5_kindOf_67 : decode (dc DX5_kindOf) 67 = .ok (.iconst 2, 1) := by decide +kernel
theorem dX5_kindOf_68 : decode (dc DX5_kindOf) 68 = .ok (.goto 4, 3) := by decide +kernel
theorem dX5_kindOf_71 : decode (dc DX5_kindOf) 71 = .ok (.iconst 1, 1) := by decide +kernel
theorem dX5_kindOf_72 : decode (dc DX5_kindOf) 72 = .ok (.ireturn, 1) := by decide +kernel
theorem dX6_init_0 : decode (dc DX6_init) 0 = .ok (.aload_n 0, 1) := by decide +kernel
theorem dX6_init_1 : decode (dc DX6_init) 1 = .ok (.invokespecial 3, 3) := by decide +kernel
theorem dX6_init_4 : decode (dc DX6_init) 4 = .ok (.aload_n 0, 1) := by decide +kernel
theorem dX6_init_5 : decode (dc DX6_init) 5 = .ok (.sipush 300, 3) := by decide +kernel
theorem dX6_init_8 : decode (dc DX6_init) 8 = .ok (.newarray .int, 2) := by decide +kernel
theorem dX6_init_10 : decode (dc DX6_init) 10 = .ok (.putfield 9, 3) := by decide +kernel
theorem dX6_init_13 : decode (dc DX6_init) 13 = .ok (.aload_n 0, 1) := by decide +kernel
theorem dX6_init_14 : decode (dc DX6_init) 14 = .ok (.iconst 0, 1) := by decide +kernel
theorem dX6_init_15 : decode (dc DX6_init) 15 = .ok (.putfield 15, 3) := by decide +kernel
theorem dX6_init_18 : decode (dc DX6_init) 18 = .ok (.aload_n 0, 1) := by decide +kernel
theorem dX6_init_19 : decode (dc DX6_init) 19 = .ok (.iconst (-1), 1) := by decide +kernel
