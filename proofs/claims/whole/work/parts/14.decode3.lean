theorem dX10_in_10 : decode (dc DX10_in) 10 = .ok (.iconst 1, 1) := by decide +kernel
theorem dX10_in_11 : decode (dc DX10_in) 11 = .ok (.goto 4, 3) := by decide +kernel
theorem dX10_in_14 : decode (dc DX10_in) 14 = .ok (.iconst 0, 1) := by decide +kernel
theorem dX10_in_15 : decode (dc DX10_in) 15 = .ok (.ireturn, 1) := by decide +kernel
theorem dX10_less_0 : decode (dc DX10_less) 0 = .ok (.iload_n 0, 1) := by decide +kernel
theorem dX10_less_1 : decode (dc DX10_less) 1 = .ok (.iload_n 1, 1) := by decide +kernel
theorem dX10_less_2 : decode (dc DX10_less) 2 = .ok (.if_icmp .ge 7, 3) := by decide +kernel
theorem dX10_less_5 : decode (dc DX10_less) 5 = .ok (.iload_n 0, 1) := by decide +kernel
theorem dX10_less_6 : decode (dc DX10_less) 6 = .ok (.goto 4, 3) := by decide +kernel
theorem dX10_less_9 : decode (dc DX10_less) 9 = .ok (.iload_n 1, 1) := by decide +kernel
theorem dX10_less_10 : decode (dc DX10_less) 10 = .ok (.ireturn, 1) := by decide +kernel
theorem dX10_more_0 : decode (dc DX10_more) 0 = .ok (.iload_n 0, 1) := by decide +kernel
theorem dX10_more_1 : decode (dc DX10_more) 1 = .ok (.iload_n 1, 1) := by decide +kernel
theorem dX10_more_2 : decode (dc DX10_more) 2 = .ok (.if_icmp .le 7, 3) := by decide +kernel
theorem dX10_more_5 : decode (dc DX10_more) 5 = .ok (.iload_n 0, 1) := by decide +kernel
theorem dX10_more_6 : decode (dc DX10_more) 6 = .ok (.goto 4, 3) := by decide +kernel
theorem dX10_more_9 : decode (dc DX10_more) 9 = .ok (.iload_n 1, 1) := by decide +kernel
theorem dX10_more_10 : decode (dc DX10_more) 10 = .ok (.ireturn, 1) := by decide +kernel
theorem dX10_has_0 : decode (dc DX10_has) 0 = .ok (.iload_n 0, 1) := by decide +kernel
theorem dX10_has_1 : decode (dc DX10_has) 1 = .ok (.iload_n 1, 1) := by decide +kernel
theorem dX10_has_2 : decode (dc DX10_has) 2 = .ok (.ishr, 1) := by decide +kernel
theorem dX10_has_3 : decode (dc DX10_has) 3 = .ok (.iconst 1, 1) := by decide +kernel
theorem dX10_has_4 : decode (dc DX10_has) 4 = .ok (.iand, 1) := by decide +kernel
theorem dX10_has_5 : decode (dc DX10_has) 5 = .ok (.iconst 1, 1) := by decide +kernel
theorem dX10_has_6 : decode (dc DX10_has) 6 = .ok (.if_icmp .ne 7, 3) := by decide +kernel
theorem dX10_has_9 : decode (dc DX10_has) 9 = .ok (.iconst 1, 1) := by decide +kernel
theorem dX10_has_10 : decode (dc DX10_has) 10 = .ok (.goto 4, 3) := by decide +kernel
theorem dX10_has_13 : decode (dc DX10_has) 13 = .ok (.iconst 0, 1) := by decide +kernel
theorem dX10_has_14 : decode (dc DX10_has) 14 = .ok (.ireturn, 1) := by decide +kernel
theorem dX10_ones_0 : decode (dc DX10_ones) 0 = .ok (.iconst 0, 1) := by decide +kernel
theorem dX10_ones_1 : decode (dc DX10_ones) 1 = .ok (.istore_n 1, 1) := by decide +kernel
theorem dX10_ones_2 : decode (dc DX10_ones) 2 = .ok (.iload_n 0, 1) := by decide +kernel
theorem dX10_ones_3 : decode (dc DX10_ones) 3 = .ok (.istore_n 2, 1) := by decide +kernel
theorem dX10_ones_4 : decode (dc DX10_ones) 4 = .ok (.iload_n 2, 1) := by decide +kernel
theorem dX10_ones_5 : decode (dc DX10_ones) 5 = .ok (.ifCond .eq 15, 3) := by decide +kernel
theorem dX10_ones_8 : decode (dc DX10_ones) 8 = .ok (.iinc 1 1, 3) := by decide +kernel
theorem dX10_ones_11 : decode (dc DX10_ones) 11 = .ok (.iload_n 2, 1) := by decide +kernel
theorem dX10_ones_12 : decode (dc DX10_ones) 12 = .ok (.iload_n 2, 1) := by decide +kernel
theorem dX10_ones_13 : decode (dc DX10_ones) 13 = .ok (.iconst 1, 1) := by decide +kernel
theorem dX10_ones_14 : decode (dc DX10_ones) 14 = .ok (.isub, 1) := by decide +kernel
theorem dX10_ones_15 : decode (dc DX10_ones) 15 = .ok (.iand, 1) := by decide +kernel
theorem dX10_ones_16 : decode (dc DX10_ones) 16 = .ok (.istore_n 2, 1) := by decide +kernel
theorem dX10_ones_17 : decode (dc DX10_ones) 17 = .ok (.goto (-13), 3) := by decide +kernel
theorem dX10_ones_20 : decode (dc DX10_ones) 20 = .ok (.iload_n 1, 1) := by decide +kernel
theorem dX10_ones_21 : decode (dc DX10_ones) 21 = .ok (.ireturn, 1) := by decide +kernel
theorem dX10_begins_0 : decode (dc DX10_begins) 0 = .ok (.aload_n 0, 1) := by decide +kernel
theorem dX10_begins_1 : decode (dc DX10_begins) 1 = .ok (.getfield 22, 3) := by decide +kernel
theorem dX10_begins_4 : decode (dc DX10_begins) 4 = .ok (.iload_n 1, 1) := by decide +kernel
theorem dX10_begins_5 : decode (dc DX10_begins) 5 = .ok (.aaload, 1) := by decide +kernel
theorem dX10_begins_6 : decode (dc DX10_begins) 6 = .ok (.iconst 0, 1) := by decide +kernel
theorem dX10_begins_7 : decode (dc DX10_begins) 7 = .ok (.iload_n 2, 1) := by decide +kernel
theorem dX10_begins_8 : decode (dc DX10_begins) 8 = .ok (.iastore, 1) := by decide +kernel
theorem dX10_begins_9 : decode (dc DX10_begins) 9 = .ok (.aload_n 0, 1) := by decide +kernel
theorem dX10_begins_10 : decode (dc DX10_begins) 10 = .ok (.getfield 22, 3) := by decide +kernel
theorem dX10_begins_13 : decode (dc DX10_begins) 13 = .ok (.iload_n 1, 1) := by decide +kernel
theorem dX10_begins_14 : decode (dc DX10_begins) 14 = .ok (.aaload, 1) := by decide +kernel
theorem dX10_begins_15 : decode (dc DX10_begins) 15 = .ok (.iconst 1, 1) := by decide +kernel
theorem dX10_begins_16 : decode (dc DX10_begins) 16 = .ok (.iload_n 3, 1) := by decide +kernel
theorem dX10_begins_17 : decode (dc DX10_begins) 17 = .ok (.iastore, 1) := by decide +kernel
theorem dX10_begins_18 : decode (dc DX10_begins) 18 = .ok (.aload_n 0, 1) := by decide +kernel
theorem dX10_begins_19 : decode (dc DX10_begins) 19 = .ok (.getfield 22, 3) := by decide +kernel
theorem dX10_begins_22 : decode (dc DX10_begins) 22 = .ok (.iload_n 1, 1) := by decide +kernel
theorem dX10_begins_23 : decode (dc DX10_begins) 23 = .ok (.aaload, 1) := by decide +kernel
theorem dX10_begins_24 : decode (dc DX10_begins) 24 = .ok (.iconst 2, 1) := by decide +kernel
theorem dX10_begins_25 : decode (dc DX10_begins) 25 = .ok (.iconst 1, 1) := by decide +kernel
theorem dX10_begins_26 : decode (dc DX10_begins) 26 = .ok (.iastore, 1) := by decide +kernel
theorem dX10_begins_27 : decode (dc DX10_begins) 27 = .ok (.aload_n 0, 1) := by decide +kernel
theorem dX10_begins_28 : decode (dc DX10_begins) 28 = .ok (.getfield 22, 3) := by decide +kernel
theorem dX10_begins_31 : decode (dc DX10_begins) 31 = .ok (.iload_n 1, 1) := by decide +kernel
theorem dX10_begins_32 : decode (dc DX10_begins) 32 = .ok (.aaload, 1) := by decide +kernel
theorem dX10_begins_33 : decode (dc DX10_begins) 33 = .ok (.iconst 3, 1) := by decide +kernel
theorem dX10_begins_34 : decode (dc DX10_begins) 34 = .ok (.iconst 1, 1) := by decide +kernel
theorem dX10_begins_35 : decode (dc DX10_begins) 35 = .ok (.iload_n 2, 1) := by decide +kernel
theorem dX10_begins_36 : decode (dc DX10_begins) 36 = .ok (.ishl, 1) := by decide +kernel
theorem dX10_begins_37 : decode (dc DX10_begins) 37 = .ok (.iconst 1, 1) := by decide +kernel
theorem dX10_begins_38 : decode (dc DX10_begins) 38 = .ok (.isub, 1) := by decide +kernel
theorem dX10_begins_39 : decode (dc DX10_begins) 39 = .ok (.iastore, 1) := by decide +kernel
theorem dX10_begins_40 : decode (dc DX10_begins) 40 = .ok (.aload_n 0, 1) := by decide +kernel
theorem dX10_begins_41 : decode (dc DX10_begins) 41 = .ok (.getfield 22, 3) := by decide +kernel
theorem dX10_begins_44 : decode (dc DX10_begins) 44 = .ok (.iload_n 1, 1) := by decide +kernel
theorem dX10_begins_45 : decode (dc DX10_begins) 45 = .ok (.aaload, 1) := by decide +kernel
theorem dX10_begins_46 : decode (dc DX10_begins) 46 = .ok (.iconst 4, 1) := by decide +kernel
theorem dX10_begins_47 : decode (dc DX10_begins) 47 = .ok (.iconst 1, 1) := by decide +kernel
theorem dX10_begins_48 : decode (dc DX10_begins) 48 = .ok (.iload_n 3, 1) := by decide +kernel
theorem dX10_begins_49 : decode (dc DX10_begins) 49 = .ok (.ishl, 1) := by decide +kernel
theorem dX10_begins_50 : decode (dc DX10_begins) 50 = .ok (.iconst 1, 1) := by decide +kernel
theorem dX10_begins_51 : decode (dc DX10_begins) 51 = .ok (.isub, 1) := by decide +kernel
theorem dX10_begins_52 : decode (dc DX10_begins) 52 = .ok (.iastore, 1) := by decide +kernel
theorem dX10_begins_53 : decode (dc DX10_begins) 53 = .ok (.iconst 0, 1) := by decide +kernel
theorem dX10_begins_54 : decode (dc DX10_begins) 54 = .ok (.istore 4, 2) := by decide +kernel
theorem dX10_begins_56 : decode (dc DX10_begins) 56 = .ok (.iload 4, 2) := by decide +kernel
theorem dX10_begins_58 : decode (dc DX10_begins) 58 = .ok (.bipush 12, 2) := by decide +kernel
theorem dX10_begins_60 : decode (dc DX10_begins) 60 = .ok (.if_icmp .ge 68, 3) := by decide +kernel
theorem dX10_begins_63 : decode (dc DX10_begins) 63 = .ok (.aload_n 0, 1) := by decide +kernel
theorem dX10_begins_64 : decode (dc DX10_begins) 64 = .ok (.getfield 25, 3) := by decide +kernel
theorem dX10_begins_67 : decode (dc DX10_begins) 67 = .ok (.iload_n 1, 1) := by decide +kernel
theorem dX10_begins_68 : decode (dc DX10_begins) 68 = .ok (.aaload, 1) := by decide +kernel
theorem dX10_begins_69 : decode (dc DX10_begins) 69 = .ok (.iload 4, 2) := by decide +kernel
theorem dX10_begins_71 : decode (dc DX10_begins) 71 = .ok (.iconst 0, 1) := by decide +kernel
theorem dX10_begins_72 : decode (dc DX10_begins) 72 = .ok (.iastore, 1) := by decide +kernel
theorem dX10_begins_73 : decode (dc DX10_begins) 73 = .ok (.aload_n 0, 1) := by decide +kernel
theorem dX10_begins_74 : decode (dc DX10_begins) 74 = .ok (.getfield 28, 3) := by decide +kernel
theorem dX10_begins_77 : decode (dc DX10_begins) 77 = .ok (.iload_n 1, 1) := by decide +kernel
theorem dX10_begins_78 : decode (dc DX10_begins) 78 = .ok (.aaload, 1) := by decide +kernel
theorem dX10_begins_79 : decode (dc DX10_begins) 79 = .ok (.iload 4, 2) := by decide +kernel
theorem dX10_begins_81 : decode (dc DX10_begins) 81 = .ok (.iconst (-1), 1) := by decide +kernel
theorem dX10_begins_82 : decode (dc DX10_begins) 82 = .ok (.iastore, 1) := by decide +kernel
theorem dX10_begins_83 : decode (dc DX10_begins) 83 = .ok (.aload_n 0, 1) := by decide +kernel
theorem dX10_begins_84 : decode (dc DX10_begins) 84 = .ok (.getfield 31, 3) := by decide +kernel
theorem dX10_begins_87 : decode (dc DX10_begins) 87 = .ok (.iload_n 1, 1) := by decide +kernel
theorem dX10_begins_88 : decode (dc DX10_begins) 88 = .ok (.aaload, 1) := by decide +kernel
theorem dX10_begins_89 : decode (dc DX10_begins) 89 = .ok (.iload 4, 2) := by decide +kernel
theorem dX10_begins_91 : decode (dc DX10_begins) 91 = .ok (.iconst 1, 1) := by decide +kernel
theorem dX10_begins_92 : decode (dc DX10_begins) 92 = .ok (.iastore, 1) := by decide +kernel
theorem dX10_begins_93 : decode (dc DX10_begins) 93 = .ok (.iconst 0, 1) := by decide +kernel
theorem dX10_begins_94 : decode (dc DX10_begins) 94 = .ok (.istore 5, 2) := by decide +kernel
theorem dX10_begins_96 : decode (dc DX10_begins) 96 = .ok (.iload 5, 2) := by decide +kernel
theorem dX10_begins_98 : decode (dc DX10_begins) 98 = .ok (.bipush 12, 2) := by decide +kernel
theorem dX10_begins_100 : decode (dc DX10_begins) 100 = .ok (.if_icmp .ge 22, 3) := by decide +kernel
theorem dX10_begins_103 : decode (dc DX10_begins) 103 = .ok (.aload_n 0, 1) := by decide +kernel
theorem dX10_begins_104 : decode (dc DX10_begins) 104 = .ok (.getfield 36, 3) := by decide +kernel
theorem dX10_begins_107 : decode (dc DX10_begins) 107 = .ok (.iload_n 1, 1) := by decide +kernel
theorem dX10_begins_108 : decode (dc DX10_begins) 108 = .ok (.aaload, 1) := by decide +kernel
theorem dX10_begins_109 : decode (dc DX10_begins) 109 = .ok (.iload 4, 2) := by decide +kernel
theorem dX10_begins_111 : decode (dc DX10_begins) 111 = .ok (.aaload, 1) := by decide +kernel
theorem dX10_begins_112 : decode (dc DX10_begins) 112 = .ok (.iload 5, 2) := by decide +kernel
theorem dX10_begins_114 : decode (dc DX10_begins) 114 = .ok (.iconst 0, 1) := by decide +kernel
theorem dX10_begins_115 : decode (dc DX10_begins) 115 = .ok (.iastore, 1) := by decide +kernel
theorem dX10_begins_116 : decode (dc DX10_begins) 116 = .ok (.iinc 5 1, 3) := by decide +kernel
theorem dX10_begins_119 : decode (dc DX10_begins) 119 = .ok (.goto (-23), 3) := by decide +kernel
theorem dX10_begins_122 : decode (dc DX10_begins) 122 = .ok (.iinc 4 1, 3) := by decide +kernel
theorem dX10_begins_125 : decode (dc DX10_begins) 125 = .ok (.goto (-69), 3) := by decide +kernel
theorem dX10_begins_128 : decode (dc DX10_begins) 128 = .ok (.return_, 1) := by decide +kernel
theorem dX10_copies_0 : decode (dc DX10_copies) 0 = .ok (.iconst 0, 1) := by decide +kernel
theorem dX10_copies_1 : decode (dc DX10_copies) 1 = .ok (.istore_n 3, 1) := by decide +kernel
theorem dX10_copies_2 : decode (dc DX10_copies) 2 = .ok (.iload_n 3, 1) := by decide +kernel
theorem dX10_copies_3 : decode (dc DX10_copies) 3 = .ok (.iconst 5, 1) := by decide +kernel
theorem dX10_copies_4 : decode (dc DX10_copies) 4 = .ok (.if_icmp .ge 25, 3) := by decide +kernel
theorem dX10_copies_7 : decode (dc DX10_copies) 7 = .ok (.aload_n 0, 1) := by decide +kernel
theorem dX10_copies_8 : decode (dc DX10_copies) 8 = .ok (.getfield 22, 3) := by decide +kernel
theorem dX10_copies_11 : decode (dc DX10_copies) 11 = .ok (.iload_n 2, 1) := by decide +kernel
theorem dX10_copies_12 : decode (dc DX10_copies) 12 = .ok (.aaload, 1) := by decide +kernel
theorem dX10_copies_13 : decode (dc DX10_copies) 13 = .ok (.iload_n 3, 1) := by decide +kernel
theorem dX10_copies_14 : decode (dc DX10_copies) 14 = .ok (.aload_n 0, 1) := by decide +kernel
theorem dX10_copies_15 : decode (dc DX10_copies) 15 = .ok (.getfield 22, 3) := by decide +kernel
theorem dX10_copies_18 : decode (dc DX10_copies) 18 = .ok (.iload_n 1, 1) := by decide +kernel
theorem dX10_copies_19 : decode (dc DX10_copies) 19 = .ok (.aaload, 1) := by decide +kernel
theorem dX10_copies_20 : decode (dc DX10_copies) 20 = .ok (.iload_n 3, 1) := by decide +kernel
theorem dX10_copies_21 : decode (dc DX10_copies) 21 = .ok (.iaload, 1) := by decide +kernel
theorem dX10_copies_22 : decode (dc DX10_copies) 22 = .ok (.iastore, 1) := by decide +kernel
theorem dX10_copies_23 : decode (dc DX10_copies) 23 = .ok (.iinc 3 1, 3) := by decide +kernel
theorem dX10_copies_26 : decode (dc DX10_copies) 26 = .ok (.goto (-24), 3) := by decide +kernel
theorem dX10_copies_29 : decode (dc DX10_copies) 29 = .ok (.iconst 0, 1) := by decide +kernel
theorem dX10_copies_30 : decode (dc DX10_copies) 30 = .ok (.istore_n 3, 1) := by decide +kernel
theorem dX10_copies_31 : decode (dc DX10_copies) 31 = .ok (.iload_n 3, 1) := by decide +kernel
theorem dX10_copies_32 : decode (dc DX10_copies) 32 = .ok (.bipush 12, 2) := by decide +kernel
theorem dX10_copies_34 : decode (dc DX10_copies) 34 = .ok (.if_icmp .ge 95, 3) := by decide +kernel
theorem dX10_copies_37 : decode (dc DX10_copies) 37 = .ok (.aload_n 0, 1) := by decide +kernel
theorem dX10_copies_38 : decode (dc DX10_copies) 38 = .ok (.getfield 25, 3) := by decide +kernel
theorem dX10_copies_41 : decode (dc DX10_copies) 41 = .ok (.iload_n 2, 1) := by decide +kernel
theorem dX10_copies_42 : decode (dc DX10_copies) 42 = .ok (.aaload, 1) := by decide +kernel
theorem dX10_copies_43 : decode (dc DX10_copies) 43 = .ok (.iload_n 3, 1) := by decide +kernel
theorem dX10_copies_44 : decode (dc DX10_copies) 44 = .ok (.aload_n 0, 1) := by decide +kernel
theorem dX10_copies_45 : decode (dc DX10_copies) 45 = .ok (.getfield 25, 3) := by decide +kernel
theorem dX10_copies_48 : decode (dc DX10_copies) 48 = .ok (.iload_n 1, 1) := by decide +kernel
theorem dX10_copies_49 : decode (dc DX10_copies) 49 = .ok (.aaload, 1) := by decide +kernel
theorem dX10_copies_50 : decode (dc DX10_copies) 50 = .ok (.iload_n 3, 1) := by decide +kernel
theorem dX10_copies_51 : decode (dc DX10_copies) 51 = .ok (.iaload, 1) := by decide +kernel
theorem dX10_copies_52 : decode (dc DX10_copies) 52 = .ok (.iastore, 1) := by decide +kernel
theorem dX10_copies_53 : decode (dc DX10_copies) 53 = .ok (.aload_n 0, 1) := by decide +kernel
theorem dX10_copies_54 : decode (dc DX10_copies) 54 = .ok (.getfield 28, 3) := by decide +kernel
theorem dX10_copies_57 : decode (dc DX10_copies) 57 = .ok (.iload_n 2, 1) := by decide +kernel
theorem dX10_copies_58 : decode (dc DX10_copies) 58 = .ok (.aaload, 1) := by decide +kernel
theorem dX10_copies_59 : decode (dc DX10_copies) 59 = .ok (.iload_n 3, 1) := by decide +kernel
theorem dX10_copies_60 : decode (dc DX10_copies) 60 = .ok (.aload_n 0, 1) := by decide +kernel
theorem dX10_copies_61 : decode (dc DX10_copies) 61 = .ok (.getfield 28, 3) := by decide +kernel
theorem dX10_copies_64 : decode (dc DX10_copies) 64 = .ok (.iload_n 1, 1) := by decide +kernel
theorem dX10_copies_65 : decode (dc DX10_copies) 65 = .ok (.aaload, 1) := by decide +kernel
theorem dX10_copies_66 : decode (dc DX10_copies) 66 = .ok (.iload_n 3, 1) := by decide +kernel
theorem dX10_copies_67 : decode (dc DX10_copies) 67 = .ok (.iaload, 1) := by decide +kernel
theorem dX10_copies_68 : decode (dc DX10_copies) 68 = .ok (.iastore, 1) := by decide +kernel
theorem dX10_copies_69 : decode (dc DX10_copies) 69 = .ok (.aload_n 0, 1) := by decide +kernel
theorem dX10_copies_70 : decode (dc DX10_copies) 70 = .ok (.getfield 31, 3) := by decide +kernel
theorem dX10_copies_73 : decode (dc DX10_copies) 73 = .ok (.iload_n 2, 1) := by decide +kernel
theorem dX10_copies_74 : decode (dc DX10_copies) 74 = .ok (.aaload, 1) := by decide +kernel
theorem dX10_copies_75 : decode (dc DX10_copies) 75 = .ok (.iload_n 3, 1) := by decide +kernel
theorem dX10_copies_76 : decode (dc DX10_copies) 76 = .ok (.aload_n 0, 1) := by decide +kernel
theorem dX10_copies_77 : decode (dc DX10_copies) 77 = .ok (.getfield 31, 3) := by decide +kernel
theorem dX10_copies_80 : decode (dc DX10_copies) 80 = .ok (.iload_n 1, 1) := by decide +kernel
theorem dX10_copies_81 : decode (dc DX10_copies) 81 = .ok (.aaload, 1) := by decide +kernel
theorem dX10_copies_82 : decode (dc DX10_copies) 82 = .ok (.iload_n 3, 1) := by decide +kernel
theorem dX10_copies_83 : decode (dc DX10_copies) 83 = .ok (.iaload, 1) := by decide +kernel
theorem dX10_copies_84 : decode (dc DX10_copies) 84 = .ok (.iastore, 1) := by decide +kernel
theorem dX10_copies_85 : decode (dc DX10_copies) 85 = .ok (.iconst 0, 1) := by decide +kernel
theorem dX10_copies_86 : decode (dc DX10_copies) 86 = .ok (.istore 4, 2) := by decide +kernel
theorem dX10_copies_88 : decode (dc DX10_copies) 88 = .ok (.iload 4, 2) := by decide +kernel
theorem dX10_copies_90 : decode (dc DX10_copies) 90 = .ok (.bipush 12, 2) := by decide +kernel
theorem dX10_copies_92 : decode (dc DX10_copies) 92 = .ok (.if_icmp .ge 31, 3) := by decide +kernel
theorem dX10_copies_95 : decode (dc DX10_copies) 95 = .ok (.aload_n 0, 1) := by decide +kernel
theorem dX10_copies_96 : decode (dc DX10_copies) 96 = .ok (.getfield 36, 3) := by decide +kernel
theorem dX10_copies_99 : decode (dc DX10_copies) 99 = .ok (.iload_n 2, 1) := by decide +kernel
theorem dX10_copies_100 : decode (dc DX10_copies) 100 = .ok (.aaload, 1) := by decide +kernel
theorem dX10_copies_101 : decode (dc DX10_copies) 101 = .ok (.iload_n 3, 1) := by decide +kernel
theorem dX10_copies_102 : decode (dc DX10_copies) 102 = .ok (.aaload, 1) := by decide +kernel
theorem dX10_copies_103 : decode (dc DX10_copies) 103 = .ok (.iload 4, 2) := by decide +kernel
theorem dX10_copies_105 : decode (dc DX10_copies) 105 = .ok (.aload_n 0, 1) := by decide +kernel
theorem dX10_copies_106 : decode (dc DX10_copies) 106 = .ok (.getfield 36, 3) := by decide +kernel
theorem dX10_copies_109 : decode (dc DX10_copies) 109 = .ok (.iload_n 1, 1) := by decide +kernel
theorem dX10_copies_110 : decode (dc DX10_copies) 110 = .ok (.aaload, 1) := by decide +kernel
theorem dX10_copies_111 : decode (dc DX10_copies) 111 = .ok (.iload_n 3, 1) := by decide +kernel
theorem dX10_copies_112 : decode (dc DX10_copies) 112 = .ok (.aaload, 1) := by decide +kernel
theorem dX10_copies_113 : decode (dc DX10_copies) 113 = .ok (.iload 4, 2) := by decide +kernel
theorem dX10_copies_115 : decode (dc DX10_copies) 115 = .ok (.iaload, 1) := by decide +kernel
theorem dX10_copies_116 : decode (dc DX10_copies) 116 = .ok (.iastore, 1) := by decide +kernel
theorem dX10_copies_117 : decode (dc DX10_copies) 117 = .ok (.iinc 4 1, 3) := by decide +kernel
theorem dX10_copies_120 : decode (dc DX10_copies) 120 = .ok (.goto (-32), 3) := by decide +kernel
theorem dX10_copies_123 : decode (dc DX10_copies) 123 = .ok (.iinc 3 1, 3) := by decide +kernel
theorem dX10_copies_126 : decode (dc DX10_copies) 126 = .ok (.goto (-95), 3) := by decide +kernel
theorem dX10_copies_129 : decode (dc DX10_copies) 129 = .ok (.return_, 1) := by decide +kernel
theorem dX10_feed_0 : decode (dc DX10_feed) 0 = .ok (.aload_n 0, 1) := by decide +kernel
theorem dX10_feed_1 : decode (dc DX10_feed) 1 = .ok (.iconst 0, 1) := by decide +kernel
theorem dX10_feed_2 : decode (dc DX10_feed) 2 = .ok (.putfield 82, 3) := by decide +kernel
theorem dX10_feed_5 : decode (dc DX10_feed) 5 = .ok (.aload_n 0, 1) := by decide +kernel
theorem dX10_feed_6 : decode (dc DX10_feed) 6 = .ok (.getfield 85, 3) := by decide +kernel
theorem dX10_feed_9 : decode (dc DX10_feed) 9 = .ok (.bipush 20, 2) := by decide +kernel
theorem dX10_feed_11 : decode (dc DX10_feed) 11 = .ok (.iadd, 1) := by decide +kernel
theorem dX10_feed_12 : decode (dc DX10_feed) 12 = .ok (.sipush 300, 3) := by decide +kernel
theorem dX10_feed_15 : decode (dc DX10_feed) 15 = .ok (.if_icmp .le 5, 3) := by decide +kernel
theorem dX10_feed_18 : decode (dc DX10_feed) 18 = .ok (.iconst (-1), 1) := by decide +kernel
theorem dX10_feed_19 : decode (dc DX10_feed) 19 = .ok (.ireturn, 1) := by decide +kernel
theorem dX10_feed_20 : decode (dc DX10_feed) 20 = .ok (.iconst 0, 1) := by decide +kernel
theorem dX10_feed_21 : decode (dc DX10_feed) 21 = .ok (.istore 6, 2) := by decide +kernel
theorem dX10_feed_23 : decode (dc DX10_feed) 23 = .ok (.iload 6, 2) := by decide +kernel
theorem dX10_feed_25 : decode (dc DX10_feed) 25 = .ok (.bipush 20, 2) := by decide +kernel
theorem dX10_feed_27 : decode (dc DX10_feed) 27 = .ok (.if_icmp .ge 93, 3) := by decide +kernel
theorem dX10_feed_30 : decode (dc DX10_feed) 30 = .ok (.iload 6, 2) := by decide +kernel
theorem dX10_feed_32 : decode (dc DX10_feed) 32 = .ok (.iconst 4, 1) := by decide +kernel
theorem dX10_feed_33 : decode (dc DX10_feed) 33 = .ok (.if_icmp .ge 7, 3) := by decide +kernel
theorem dX10_feed_36 : decode (dc DX10_feed) 36 = .ok (.iload_n 1, 1) := by decide +kernel
theorem dX10_feed_37 : decode (dc DX10_feed) 37 = .ok (.goto 39, 3) := by decide +kernel
theorem dX10_feed_40 : decode (dc DX10_feed) 40 = .ok (.iload 6, 2) := by decide +kernel
theorem dX10_feed_42 : decode (dc DX10_feed) 42 = .ok (.bipush 8, 2) := by decide +kernel
theorem dX10_feed_44 : decode (dc DX10_feed) 44 = .ok (.if_icmp .ge 7, 3) := by decide +kernel
theorem dX10_feed_47 : decode (dc DX10_feed) 47 = .ok (.iload_n 2, 1) := by decide +kernel
theorem dX10_feed_48 : decode (dc DX10_feed) 48 = .ok (.goto 28, 3) := by decide +kernel
theorem dX10_feed_51 : decode (dc DX10_feed) 51 = .ok (.iload 6, 2) := by decide +kernel
theorem dX10_feed_53 : decode (dc DX10_feed) 53 = .ok (.bipush 12, 2) := by decide +kernel
theorem dX10_feed_55 : decode (dc DX10_feed) 55 = .ok (.if_icmp .ge 7, 3) := by decide +kernel
theorem dX10_feed_58 : decode (dc DX10_feed) 58 = .ok (.iload_n 3, 1) := by decide +kernel
theorem dX10_feed_59 : decode (dc DX10_feed) 59 = .ok (.goto 17, 3) := by decide +kernel
theorem dX10_feed_62 : decode (dc DX10_feed) 62 = .ok (.iload 6, 2) := by decide +kernel
theorem dX10_feed_64 : decode (dc DX10_feed) 64 = .ok (.bipush 16, 2) := by decide +kernel
theorem dX10_feed_66 : decode (dc DX10_feed) 66 = .ok (.if_icmp .ge 8, 3) := by decide +kernel
theorem dX10_feed_69 : decode (dc DX10_feed) 69 = .ok (.iload 4, 2) := by decide +kernel
theorem dX10_feed_71 : decode (dc DX10_feed) 71 = .ok (.goto 5, 3) := by decide +kernel
theorem dX10_feed_74 : decode (dc DX10_feed) 74 = .ok (.iload 5, 2) := by decide +kernel
theorem dX10_feed_76 : decode (dc DX10_feed) 76 = .ok (.istore 7, 2) := by decide +kernel
theorem dX10_feed_78 : decode (dc DX10_feed) 78 = .ok (.aload_n 0, 1) := by decide +kernel
theorem dX10_feed_79 : decode (dc DX10_feed) 79 = .ok (.getfield 17, 3) := by decide +kernel
theorem dX10_feed_82 : decode (dc DX10_feed) 82 = .ok (.aload_n 0, 1) := by decide +kernel
theorem dX10_feed_83 : decode (dc DX10_feed) 83 = .ok (.getfield 85, 3) := by decide +kernel
theorem dX10_feed_86 : decode (dc DX10_feed) 86 = .ok (.iload 7, 2) := by decide +kernel
theorem dX10_feed_88 : decode (dc DX10_feed) 88 = .ok (.bipush 24, 2) := by decide +kernel
theorem dX10_feed_90 : decode (dc DX10_feed) 90 = .ok (.bipush 8, 2) := by decide +kernel
theorem dX10_feed_92 : decode (dc DX10_feed) 92 = .ok (.iload 6, 2) := by decide +kernel
theorem dX10_feed_94 : decode (dc DX10_feed) 94 = .ok (.iconst 4, 1) := by decide +kernel
theorem dX10_feed_95 : decode (dc DX10_feed) 95 = .ok (.irem, 1) := by decide +kernel
theorem dX10_feed_96 : decode (dc DX10_feed) 96 = .ok (.imul, 1) := by decide +kernel
theorem dX10_feed_97 : decode (dc DX10_feed) 97 = .ok (.isub, 1) := by decide +kernel
theorem dX10_feed_98 : decode (dc DX10_feed) 98 = .ok (.ishr, 1) := by decide +kernel
theorem dX10_feed_99 : decode (dc DX10_feed) 99 = .ok (.sipush 255, 3) := by decide +kernel
theorem dX10_feed_102 : decode (dc DX10_feed) 102 = .ok (.iand, 1) := by decide +kernel
theorem dX10_feed_103 : decode (dc DX10_feed) 103 = .ok (.iastore, 1) := by decide +kernel
theorem dX10_feed_104 : decode (dc DX10_feed) 104 = .ok (.aload_n 0, 1) := by decide +kernel
theorem dX10_feed_105 : decode (dc DX10_feed) 105 = .ok (.dup, 1) := by decide +kernel
theorem dX10_feed_106 : decode (dc DX10_feed) 106 = .ok (.getfield 85, 3) := by decide +kernel
theorem dX10_feed_109 : decode (dc DX10_feed) 109 = .ok (.iconst 1, 1) := by decide +kernel
theorem dX10_feed_110 : decode (dc DX10_feed) 110 = .ok (.iadd, 1) := by decide +kernel
theorem dX10_feed_111 : decode (dc DX10_feed) 111 = .ok (.putfield 85, 3) := by decide +kernel
theorem dX10_feed_114 : decode (dc DX10_feed) 114 = .ok (.iinc 6 1, 3) := by decide +kernel
theorem dX10_feed_117 : decode (dc DX10_feed) 117 = .ok (.goto (-94), 3) := by decide +kernel
theorem dX10_feed_120 : decode (dc DX10_feed) 120 = .ok (.aload_n 0, 1) := by decide +kernel
theorem dX10_feed_121 : decode (dc DX10_feed) 121 = .ok (.getfield 85, 3) := by decide +kernel
theorem dX10_feed_124 : decode (dc DX10_feed) 124 = .ok (.ireturn, 1) := by decide +kernel
theorem dX10_byteAt_0 : decode (dc DX10_byteAt) 0 = .ok (.iload_n 1, 1) := by decide +kernel
theorem dX10_byteAt_1 : decode (dc DX10_byteAt) 1 = .ok (.aload_n 0, 1) := by decide +kernel
theorem dX10_byteAt_2 : decode (dc DX10_byteAt) 2 = .ok (.getfield 88, 3) := by decide +kernel
theorem dX10_byteAt_5 : decode (dc DX10_byteAt) 5 = .ok (.if_icmp .lt 7, 3) := by decide +kernel
theorem dX10_byteAt_8 : decode (dc DX10_byteAt) 8 = .ok (.iconst (-1), 1) := by decide +kernel
theorem dX10_byteAt_9 : decode (dc DX10_byteAt) 9 = .ok (.goto 9, 3) := by decide +kernel
theorem dX10_byteAt_12 : decode (dc DX10_byteAt) 12 = .ok (.aload_n 0, 1) := by decide +kernel
theorem dX10_byteAt_13 : decode (dc DX10_byteAt) 13 = .ok (.getfield 17, 3) := by decide +kernel
theorem dX10_byteAt_16 : decode (dc DX10_byteAt) 16 = .ok (.iload_n 1, 1) := by decide +kernel
theorem dX10_byteAt_17 : decode (dc DX10_byteAt) 17 = .ok (.iaload, 1) := by decide +kernel
theorem dX10_byteAt_18 : decode (dc DX10_byteAt) 18 = .ok (.ireturn, 1) := by decide +kernel
theorem dX10_here_0 : decode (dc DX10_here) 0 = .ok (.aload_n 0, 1) := by decide +kernel
theorem dX10_here_1 : decode (dc DX10_here) 1 = .ok (.aload_n 0, 1) := by decide +kernel
theorem dX10_here_2 : decode (dc DX10_here) 2 = .ok (.getfield 91, 3) := by decide +kernel
theorem dX10_here_5 : decode (dc DX10_here) 5 = .ok (.invokevirtual 94, 3) := by decide +kernel
theorem dX10_here_8 : decode (dc DX10_here) 8 = .ok (.bipush 32, 2) := by decide +kernel
theorem dX10_here_10 : decode (dc DX10_here) 10 = .ok (.if_icmp .ne 16, 3) := by decide +kernel
theorem dX10_here_13 : decode (dc DX10_here) 13 = .ok (.aload_n 0, 1) := by decide +kernel
theorem dX10_here_14 : decode (dc DX10_here) 14 = .ok (.dup, 1) := by decide +kernel
theorem dX10_here_15 : decode (dc DX10_here) 15 = .ok (.getfield 91, 3) := by decide +kernel
theorem dX10_here_18 : decode (dc DX10_here) 18 = .ok (.iconst 1, 1) := by decide +kernel
theorem dX10_here_19 : decode (dc DX10_here) 19 = .ok (.iadd, 1) := by decide +kernel
theorem dX10_here_20 : decode (dc DX10_here) 20 = .ok (.putfield 91, 3) := by decide +kernel
theorem dX10_here_23 : decode (dc DX10_here) 23 = .ok (.goto (-23), 3) := by decide +kernel
theorem dX10_here_26 : decode (dc DX10_here) 26 = .ok (.aload_n 0, 1) := by decide +kernel
theorem dX10_here_27 : decode (dc DX10_here) 27 = .ok (.aload_n 0, 1) := by decide +kernel
theorem dX10_here_28 : decode (dc DX10_here) 28 = .ok (.getfield 91, 3) := by decide +kernel
theorem dX10_here_31 : decode (dc DX10_here) 31 = .ok (.invokevirtual 94, 3) := by decide +kernel
theorem dX10_here_34 : decode (dc DX10_here) 34 = .ok (.ireturn, 1) := by decide +kernel
theorem dX10_fine_0 : decode (dc DX10_fine) 0 = .ok (.aload_n 0, 1) := by decide +kernel
theorem dX10_fine_1 : decode (dc DX10_fine) 1 = .ok (.getfield 98, 3) := by decide +kernel
theorem dX10_fine_4 : decode (dc DX10_fine) 4 = .ok (.ifCond .ne 7, 3) := by decide +kernel
theorem dX10_fine_7 : decode (dc DX10_fine) 7 = .ok (.iconst 1, 1) := by decide +kernel
theorem dX10_fine_8 : decode (dc DX10_fine) 8 = .ok (.goto 4, 3) := by decide +kernel
theorem dX10_fine_11 : decode (dc DX10_fine) 11 = .ok (.iconst 0, 1) := by decide +kernel
theorem dX10_fine_12 : decode (dc DX10_fine) 12 = .ok (.ireturn, 1) := by decide +kernel
theorem dX10_wrong_0 : decode (dc DX10_wrong) 0 = .ok (.aload_n 0, 1) := by decide +kernel
theorem dX10_wrong_1 : decode (dc DX10_wrong) 1 = .ok (.getfield 98, 3) := by decide +kernel
theorem dX10_wrong_4 : decode (dc DX10_wrong) 4 = .ok (.ifCond .ne 13, 3) := by decide +kernel
theorem dX10_wrong_7 : decode (dc DX10_wrong) 7 = .ok (.aload_n 0, 1) := by decide +kernel
theorem dX10_wrong_8 : decode (dc DX10_wrong) 8 = .ok (.iload_n 1, 1) := by decide +kernel
theorem dX10_wrong_9 : decode (dc DX10_wrong) 9 = .ok (.putfield 98, 3) := by decide +kernel
theorem dX10_wrong_12 : decode (dc DX10_wrong) 12 = .ok (.aload_n 0, 1) := by decide +kernel
theorem dX10_wrong_13 : decode (dc DX10_wrong) 13 = .ok (.iload_n 2, 1) := by decide +kernel
theorem dX10_wrong_14 : decode (dc DX10_wrong) 14 = .ok (.putfield 101, 3) := by decide +kernel
theorem dX10_wrong_17 : decode (dc DX10_wrong) 17 = .ok (.return_, 1) := by decide +kernel
theorem dX10_isDigit_0 : decode (dc DX10_isDigit) 0 = .ok (.iload_n 0, 1) := by decide +kernel
theorem dX10_isDigit_1 : decode (dc DX10_isDigit) 1 = .ok (.bipush 48, 2) := by decide +kernel
theorem dX10_isDigit_3 : decode (dc DX10_isDigit) 3 = .ok (.if_icmp .lt 13, 3) := by decide +kernel
theorem dX10_isDigit_6 : decode (dc DX10_isDigit) 6 = .ok (.iload_n 0, 1) := by decide +kernel
theorem dX10_isDigit_7 : decode (dc DX10_isDigit) 7 = .ok (.bipush 57, 2) := by decide +kernel
theorem dX10_isDigit_9 : decode (dc DX10_isDigit) 9 = .ok (.if_icmp .gt 7, 3) := by decide +kernel
theorem dX10_isDigit_12 : decode (dc DX10_isDigit) 12 = .ok (.iconst 1, 1) := by decide +kernel
theorem dX10_isDigit_13 : decode (dc DX10_isDigit) 13 = .ok (.goto 4, 3) := by decide +kernel
theorem dX10_isDigit_16 : decode (dc DX10_isDigit) 16 = .ok (.iconst 0, 1) := by decide +kernel
theorem dX10_isDigit_17 : decode (dc DX10_isDigit) 17 = .ok (.ireturn, 1) := by decide +kernel
theorem dX10_isSmall_0 : decode (dc DX10_isSmall) 0 = .ok (.iload_n 0, 1) := by decide +kernel
theorem dX10_isSmall_1 : decode (dc DX10_isSmall) 1 = .ok (.bipush 97, 2) := by decide +kernel
theorem dX10_isSmall_3 : decode (dc DX10_isSmall) 3 = .ok (.if_icmp .lt 13, 3) := by decide +kernel
theorem dX10_isSmall_6 : decode (dc DX10_isSmall) 6 = .ok (.iload_n 0, 1) := by decide +kernel
theorem dX10_isSmall_7 : decode (dc DX10_isSmall) 7 = .ok (.bipush 122, 2) := by decide +kernel
theorem dX10_isSmall_9 : decode (dc DX10_isSmall) 9 = .ok (.if_icmp .gt 7, 3) := by decide +kernel
theorem dX10_isSmall_12 : decode (dc DX10_isSmall) 12 = .ok (.iconst 1, 1) := by decide +kernel
theorem dX10_isSmall_13 : decode (dc DX10_isSmall) 13 = .ok (.goto 4, 3) := by decide +kernel
theorem dX10_isSmall_16 : decode (dc DX10_isSmall) 16 = .ok (.iconst 0, 1) := by decide +kernel
theorem dX10_isSmall_17 : decode (dc DX10_isSmall) 17 = .ok (.ireturn, 1) := by decide +kernel
theorem dX10_number_0 : decode (dc DX10_number) 0 = .ok (.aload_n 0, 1) := by decide +kernel
theorem dX10_number_1 : decode (dc DX10_number) 1 = .ok (.invokevirtual 104, 3) := by decide +kernel
theorem dX10_number_4 : decode (dc DX10_number) 4 = .ok (.ifCond .ne 5, 3) := by decide +kernel
theorem dX10_number_7 : decode (dc DX10_number) 7 = .ok (.iload_n 1, 1) := by decide +kernel
theorem dX10_number_8 : decode (dc DX10_number) 8 = .ok (.ireturn, 1) := by decide +kernel
theorem dX10_number_9 : decode (dc DX10_number) 9 = .ok (.aload_n 0, 1) := by decide +kernel
theorem dX10_number_10 : decode (dc DX10_number) 10 = .ok (.invokevirtual 108, 3) := by decide +kernel
theorem dX10_number_13 : decode (dc DX10_number) 13 = .ok (.invokestatic 112, 3) := by decide +kernel
theorem dX10_number_16 : decode (dc DX10_number) 16 = .ok (.ifCond .ne 12, 3) := by decide +kernel
theorem dX10_number_19 : decode (dc DX10_number) 19 = .ok (.aload_n 0, 1) := by decide +kernel
theorem dX10_number_20 : decode (dc DX10_number) 20 = .ok (.iconst 1, 1) := by decide +kernel
theorem dX10_number_21 : decode (dc DX10_number) 21 = .ok (.aload_n 0, 1) := by decide +kernel
theorem dX10_number_22 : decode (dc DX10_number) 22 = .ok (.getfield 91, 3) := by decide +kernel
theorem dX10_number_25 : decode (dc DX10_number) 25 = .ok (.invokevirtual 116, 3) := by decide +kernel
theorem dX10_number_28 : decode (dc DX10_number) 28 = .ok (.aload_n 0, 1) := by decide +kernel
theorem dX10_number_29 : decode (dc DX10_number) 29 = .ok (.aload_n 0, 1) := by decide +kernel
theorem dX10_number_30 : decode (dc DX10_number) 30 = .ok (.getfield 91, 3) := by decide +kernel
theorem dX10_number_33 : decode (dc DX10_number) 33 = .ok (.putfield 120, 3) := by decide +kernel
theorem dX10_number_36 : decode (dc DX10_number) 36 = .ok (.iconst 0, 1) := by decide +kernel
theorem dX10_number_37 : decode (dc DX10_number) 37 = .ok (.istore_n 3, 1) := by decide +kernel
theorem dX10_number_38 : decode (dc DX10_number) 38 = .ok (.aload_n 0, 1) := by decide +kernel
theorem dX10_number_39 : decode (dc DX10_number) 39 = .ok (.aload_n 0, 1) := by decide +kernel
theorem dX10_number_40 : decode (dc DX10_number) 40 = .ok (.getfield 91, 3) := by decide +kernel
theorem dX10_number_43 : decode (dc DX10_number) 43 = .ok (.invokevirtual 94, 3) := by decide +kernel
theorem dX10_number_46 : decode (dc DX10_number) 46 = .ok (.invokestatic 112, 3) := by decide +kernel
theorem dX10_number_49 : decode (dc DX10_number) 49 = .ok (.ifCond .eq 38, 3) := by decide +kernel
theorem dX10_number_52 : decode (dc DX10_number) 52 = .ok (.ldc 122, 2) := by decide +kernel
theorem dX10_number_54 : decode (dc DX10_number) 54 = .ok (.bipush 10, 2) := by decide +kernel
theorem dX10_number_56 : decode (dc DX10_number) 56 = .ok (.iload_n 3, 1) := by decide +kernel
theorem dX10_number_57 : decode (dc DX10_number) 57 = .ok (.imul, 1) := by decide +kernel
theorem dX10_number_58 : decode (dc DX10_number) 58 = .ok (.aload_n 0, 1) := by decide +kernel
theorem dX10_number_59 : decode (dc DX10_number) 59 = .ok (.aload_n 0, 1) := by decide +kernel
theorem dX10_number_60 : decode (dc DX10_number) 60 = .ok (.getfield 91, 3) := by decide +kernel
theorem dX10_number_63 : decode (dc DX10_number) 63 = .ok (.invokevirtual 94, 3) := by decide +kernel
theorem dX10_number_66 : decode (dc DX10_number) 66 = .ok (.iadd, 1) := by decide +kernel
theorem dX10_number_67 : decode (dc DX10_number) 67 = .ok (.bipush 48, 2) := by decide +kernel
theorem dX10_number_69 : decode (dc DX10_number) 69 = .ok (.isub, 1) := by decide +kernel
theorem dX10_number_70 : decode (dc DX10_number) 70 = .ok (.invokestatic 123, 3) := by decide +kernel
theorem dX10_number_73 : decode (dc DX10_number) 73 = .ok (.istore_n 3, 1) := by decide +kernel
theorem dX10_number_74 : decode (dc DX10_number) 74 = .ok (.aload_n 0, 1) := by decide +kernel
theorem dX10_number_75 : decode (dc DX10_number) 75 = .ok (.dup, 1) := by decide +kernel
theorem dX10_number_76 : decode (dc DX10_number) 76 = .ok (.getfield 91, 3) := by decide +kernel
theorem dX10_number_79 : decode (dc DX10_number) 79 = .ok (.iconst 1, 1) := by decide +kernel
theorem dX10_number_80 : decode (dc DX10_number) 80 = .ok (.iadd, 1) := by decide +kernel
theorem dX10_number_81 : decode (dc DX10_number) 81 = .ok (.putfield 91, 3) := by decide +kernel
theorem dX10_number_84 : decode (dc DX10_number) 84 = .ok (.goto (-46), 3) := by decide +kernel
theorem dX10_number_87 : decode (dc DX10_number) 87 = .ok (.iload_n 3, 1) := by decide +kernel
theorem dX10_number_88 : decode (dc DX10_number) 88 = .ok (.iload_n 1, 1) := by decide +kernel
theorem dX10_number_89 : decode (dc DX10_number) 89 = .ok (.iload_n 2, 1) := by decide +kernel
theorem dX10_number_90 : decode (dc DX10_number) 90 = .ok (.invokestatic 127, 3) := by decide +kernel
theorem dX10_number_93 : decode (dc DX10_number) 93 = .ok (.ifCond .ne 12, 3) := by decide +kernel
theorem dX10_number_96 : decode (dc DX10_number) 96 = .ok (.aload_n 0, 1) := by decide +kernel
theorem dX10_number_97 : decode (dc DX10_number) 97 = .ok (.iconst 2, 1) := by decide +kernel
theorem dX10_number_98 : decode (dc DX10_number) 98 = .ok (.aload_n 0, 1) := by decide +kernel
theorem dX10_number_99 : decode (dc DX10_number) 99 = .ok (.getfield 120, 3) := by decide +kernel
theorem dX10_number_102 : decode (dc DX10_number) 102 = .ok (.invokevirtual 116, 3) := by decide +kernel
theorem dX10_number_105 : decode (dc DX10_number) 105 = .ok (.aload_n 0, 1) := by decide +kernel
theorem dX10_number_106 : decode (dc DX10_number) 106 = .ok (.invokevirtual 104, 3) := by decide +kernel
theorem dX10_number_109 : decode (dc DX10_number) 109 = .ok (.ifCond .eq 7, 3) := by decide +kernel
theorem dX10_number_112 : decode (dc DX10_number) 112 = .ok (.iload_n 3, 1) := by decide +kernel
theorem dX10_number_113 : decode (dc DX10_number) 113 = .ok (.goto 4, 3) := by decide +kernel
theorem dX10_number_116 : decode (dc DX10_number) 116 = .ok (.iload_n 1, 1) := by decide +kernel
theorem dX10_number_117 : decode (dc DX10_number) 117 = .ok (.ireturn, 1) := by decide +kernel
theorem dX10_coded_0 : decode (dc DX10_coded) 0 = .ok (.lconst 0, 1) := by decide +kernel
theorem dX10_coded_1 : decode (dc DX10_coded) 1 = .ok (.lstore_n 1, 1) := by decide +kernel
theorem dX10_coded_2 : decode (dc DX10_coded) 2 = .ok (.iconst 0, 1) := by decide +kernel
theorem dX10_coded_3 : decode (dc DX10_coded) 3 = .ok (.istore_n 3, 1) := by decide +kernel
theorem dX10_coded_4 : decode (dc DX10_coded) 4 = .ok (.iload_n 3, 1) := by decide +kernel
theorem dX10_coded_5 : decode (dc DX10_coded) 5 = .ok (.aload_n 0, 1) := by decide +kernel
theorem dX10_coded_6 : decode (dc DX10_coded) 6 = .ok (.invokevirtual 131, 3) := by decide +kernel
theorem dX10_coded_9 : decode (dc DX10_coded) 9 = .ok (.if_icmp .ge 28, 3) := by decide +kernel
theorem dX10_coded_12 : decode (dc DX10_coded) 12 = .ok (.ldc2_w 136, 3) := by decide +kernel
theorem dX10_coded_15 : decode (dc DX10_coded) 15 = .ok (.lload_n 1, 1) := by decide +kernel
theorem dX10_coded_16 : decode (dc DX10_coded) 16 = .ok (.lmul, 1) := by decide +kernel
theorem dX10_coded_17 : decode (dc DX10_coded) 17 = .ok (.aload_n 0, 1) := by decide +kernel
theorem dX10_coded_18 : decode (dc DX10_coded) 18 = .ok (.iload_n 3, 1) := by decide +kernel
theorem dX10_coded_19 : decode (dc DX10_coded) 19 = .ok (.invokevirtual 138, 3) := by decide +kernel
theorem dX10_coded_22 : decode (dc DX10_coded) 22 = .ok (.i2l, 1) := by decide +kernel
theorem dX10_coded_23 : decode (dc DX10_coded) 23 = .ok (.ladd, 1) := by decide +kernel
theorem dX10_coded_24 : decode (dc DX10_coded) 24 = .ok (.ldc2_w 142, 3) := by decide +kernel
theorem dX10_coded_27 : decode (dc DX10_coded) 27 = .ok (.lsub, 1) := by decide +kernel
theorem dX10_coded_28 : decode (dc DX10_coded) 28 = .ok (.lconst 1, 1) := by decide +kernel
theorem dX10_coded_29 : decode (dc DX10_coded) 29 = .ok (.ladd, 1) := by decide +kernel
theorem dX10_coded_30 : decode (dc DX10_coded) 30 = .ok (.lstore_n 1, 1) := by decide +kernel
theorem dX10_coded_31 : decode (dc DX10_coded) 31 = .ok (.iinc 3 1, 3) := by decide +kernel
theorem dX10_coded_34 : decode (dc DX10_coded) 34 = .ok (.goto (-30), 3) := by decide +kernel
theorem dX10_coded_37 : decode (dc DX10_coded) 37 = .ok (.lload_n 1, 1) := by decide +kernel
theorem dX10_coded_38 : decode (dc DX10_coded) 38 = .ok (.lreturn, 1) := by decide +kernel
theorem dX10_wordHere_0 : decode (dc DX10_wordHere) 0 = .ok (.aload_n 0, 1) := by decide +kernel
theorem dX10_wordHere_1 : decode (dc DX10_wordHere) 1 = .ok (.invokevirtual 108, 3) := by decide +kernel
theorem dX10_wordHere_4 : decode (dc DX10_wordHere) 4 = .ok (.pop, 1) := by decide +kernel
theorem dX10_wordHere_5 : decode (dc DX10_wordHere) 5 = .ok (.lconst 0, 1) := by decide +kernel
theorem dX10_wordHere_6 : decode (dc DX10_wordHere) 6 = .ok (.lstore_n 1, 1) := by decide +kernel
theorem dX10_wordHere_7 : decode (dc DX10_wordHere) 7 = .ok (.iconst 0, 1) := by decide +kernel
theorem dX10_wordHere_8 : decode (dc DX10_wordHere) 8 = .ok (.istore_n 3, 1) := by decide +kernel
theorem dX10_wordHere_9 : decode (dc DX10_wordHere) 9 = .ok (.aload_n 0, 1) := by decide +kernel
theorem dX10_wordHere_10 : decode (dc DX10_wordHere) 10 = .ok (.aload_n 0, 1) := by decide +kernel
theorem dX10_wordHere_11 : decode (dc DX10_wordHere) 11 = .ok (.getfield 91, 3) := by decide +kernel
theorem dX10_wordHere_14 : decode (dc DX10_wordHere) 14 = .ok (.iload_n 3, 1) := by decide +kernel
theorem dX10_wordHere_15 : decode (dc DX10_wordHere) 15 = .ok (.iadd, 1) := by decide +kernel
theorem dX10_wordHere_16 : decode (dc DX10_wordHere) 16 = .ok (.invokevirtual 94, 3) := by decide +kernel
theorem dX10_wordHere_19 : decode (dc DX10_wordHere) 19 = .ok (.invokestatic 144, 3) := by decide +kernel
theorem dX10_wordHere_22 : decode (dc DX10_wordHere) 22 = .ok (.ifCond .eq 40, 3) := by decide +kernel
theorem dX10_wordHere_25 : decode (dc DX10_wordHere) 25 = .ok (.ldc2_w 136, 3) := by decide +kernel
theorem dX10_wordHere_28 : decode (dc DX10_wordHere) 28 = .ok (.lload_n 1, 1) := by decide +kernel
theorem dX10_wordHere_29 : decode (dc DX10_wordHere) 29 = .ok (.lmul, 1) := by decide +kernel
theorem dX10_wordHere_30 : decode (dc DX10_wordHere) 30 = .ok (.aload_n 0, 1) := by decide +kernel
theorem dX10_wordHere_31 : decode (dc DX10_wordHere) 31 = .ok (.aload_n 0, 1) := by decide +kernel
theorem dX10_wordHere_32 : decode (dc DX10_wordHere) 32 = .ok (.getfield 91, 3) := by decide +kernel
theorem dX10_wordHere_35 : decode (dc DX10_wordHere) 35 = .ok (.iload_n 3, 1) := by decide +kernel
theorem dX10_wordHere_36 : decode (dc DX10_wordHere) 36 = .ok (.iadd, 1) := by decide +kernel
theorem dX10_wordHere_37 : decode (dc DX10_wordHere) 37 = .ok (.invokevirtual 94, 3) := by decide +kernel
theorem dX10_wordHere_40 : decode (dc DX10_wordHere) 40 = .ok (.i2l, 1) := by decide +kernel
theorem dX10_wordHere_41 : decode (dc DX10_wordHere) 41 = .ok (.ladd, 1) := by decide +kernel
theorem dX10_wordHere_42 : decode (dc DX10_wordHere) 42 = .ok (.ldc2_w 142, 3) := by decide +kernel
theorem dX10_wordHere_45 : decode (dc DX10_wordHere) 45 = .ok (.lsub, 1) := by decide +kernel
theorem dX10_wordHere_46 : decode (dc DX10_wordHere) 46 = .ok (.lconst 1, 1) := by decide +kernel
theorem dX10_wordHere_47 : decode (dc DX10_wordHere) 47 = .ok (.ladd, 1) := by decide +kernel
theorem dX10_wordHere_48 : decode (dc DX10_wordHere) 48 = .ok (.lstore_n 1, 1) := by decide +kernel
theorem dX10_wordHere_49 : decode (dc DX10_wordHere) 49 = .ok (.iinc 3 1, 3) := by decide +kernel
theorem dX10_wordHere_52 : decode (dc DX10_wordHere) 52 = .ok (.iload_n 3, 1) := by decide +kernel
theorem dX10_wordHere_53 : decode (dc DX10_wordHere) 53 = .ok (.bipush 7, 2) := by decide +kernel
theorem dX10_wordHere_55 : decode (dc DX10_wordHere) 55 = .ok (.if_icmp .le (-46), 3) := by decide +kernel
theorem dX10_wordHere_58 : decode (dc DX10_wordHere) 58 = .ok (.ldc2_w 147, 3) := by decide +kernel
theorem dX10_wordHere_61 : decode (dc DX10_wordHere) 61 = .ok (.lreturn, 1) := by decide +kernel
theorem dX10_wordHere_62 : decode (dc DX10_wordHere) 62 = .ok (.iload_n 3, 1) := by decide +kernel
theorem dX10_wordHere_63 : decode (dc DX10_wordHere) 63 = .ok (.ifCond .ne 9, 3) := by decide +kernel
theorem dX10_wordHere_66 : decode (dc DX10_wordHere) 66 = .ok (.ldc2_w 147, 3) := by decide +kernel
theorem dX10_wordHere_69 : decode (dc DX10_wordHere) 69 = .ok (.goto 4, 3) := by decide +kernel
theorem dX10_wordHere_72 : decode (dc DX10_wordHere) 72 = .ok (.lload_n 1, 1) := by decide +kernel
theorem dX10_wordHere_73 : decode (dc DX10_wordHere) 73 = .ok (.lreturn, 1) := by decide +kernel
theorem dX10_takes_0 : decode (dc DX10_takes) 0 = .ok (.aload_n 0, 1) := by decide +kernel
theorem dX10_takes_1 : decode (dc DX10_takes) 1 = .ok (.invokevirtual 104, 3) := by decide +kernel
theorem dX10_takes_4 : decode (dc DX10_takes) 4 = .ok (.ifCond .eq 15, 3) := by decide +kernel
theorem dX10_takes_7 : decode (dc DX10_takes) 7 = .ok (.aload_n 0, 1) := by decide +kernel
theorem dX10_takes_8 : decode (dc DX10_takes) 8 = .ok (.invokevirtual 149, 3) := by decide +kernel
theorem dX10_takes_11 : decode (dc DX10_takes) 11 = .ok (.aload_n 1, 1) := by decide +kernel
theorem dX10_takes_12 : decode (dc DX10_takes) 12 = .ok (.invokestatic 153, 3) := by decide +kernel
theorem dX10_takes_15 : decode (dc DX10_takes) 15 = .ok (.lcmp, 1) := by decide +kernel
theorem dX10_takes_16 : decode (dc DX10_takes) 16 = .ok (.ifCond .eq 5, 3) := by decide +kernel
theorem dX10_takes_19 : decode (dc DX10_takes) 19 = .ok (.iconst 0, 1) := by decide +kernel
theorem dX10_takes_20 : decode (dc DX10_takes) 20 = .ok (.ireturn, 1) := by decide +kernel
theorem dX10_takes_21 : decode (dc DX10_takes) 21 = .ok (.aload_n 0, 1) := by decide +kernel
theorem dX10_takes_22 : decode (dc DX10_takes) 22 = .ok (.dup, 1) := by decide +kernel
theorem dX10_takes_23 : decode (dc DX10_takes) 23 = .ok (.getfield 91, 3) := by decide +kernel
theorem dX10_takes_26 : decode (dc DX10_takes) 26 = .ok (.aload_n 1, 1) := by decide +kernel
theorem dX10_takes_27 : decode (dc DX10_takes) 27 = .ok (.invokevirtual 131, 3) := by decide +kernel
theorem dX10_takes_30 : decode (dc DX10_takes) 30 = .ok (.iadd, 1) := by decide +kernel
theorem dX10_takes_31 : decode (dc DX10_takes) 31 = .ok (.putfield 91, 3) := by decide +kernel
theorem dX10_takes_34 : decode (dc DX10_takes) 34 = .ok (.iconst 1, 1) := by decide +kernel
theorem dX10_takes_35 : decode (dc DX10_takes) 35 = .ok (.ireturn, 1) := by decide +kernel
theorem dX10_must_0 : decode (dc DX10_must) 0 = .ok (.aload_n 0, 1) := by decide +kernel
theorem dX10_must_1 : decode (dc DX10_must) 1 = .ok (.invokevirtual 104, 3) := by decide +kernel
theorem dX10_must_4 : decode (dc DX10_must) 4 = .ok (.ifCond .eq 20, 3) := by decide +kernel
theorem dX10_must_7 : decode (dc DX10_must) 7 = .ok (.aload_n 0, 1) := by decide +kernel
theorem dX10_must_8 : decode (dc DX10_must) 8 = .ok (.aload_n 1, 1) := by decide +kernel
theorem dX10_must_9 : decode (dc DX10_must) 9 = .ok (.invokevirtual 157, 3) := by decide +kernel
theorem dX10_must_12 : decode (dc DX10_must) 12 = .ok (.ifCond .ne 12, 3) := by decide +kernel
theorem dX10_must_15 : decode (dc DX10_must) 15 = .ok (.aload_n 0, 1) := by decide +kernel
theorem dX10_must_16 : decode (dc DX10_must) 16 = .ok (.iconst 1, 1) := by decide +kernel
theorem dX10_must_17 : decode (dc DX10_must) 17 = .ok (.aload_n 0, 1) := by decide +kernel
theorem dX10_must_18 : decode (dc DX10_must) 18 = .ok (.getfield 91, 3) := by decide +kernel
theorem dX10_must_21 : decode (dc DX10_must) 21 = .ok (.invokevirtual 116, 3) := by decide +kernel
theorem dX10_must_24 : decode (dc DX10_must) 24 = .ok (.return_, 1) := by decide +kernel
theorem dX10_ends_0 : decode (dc DX10_ends) 0 = .ok (.aload_n 0, 1) := by decide +kernel
theorem dX10_ends_1 : decode (dc DX10_ends) 1 = .ok (.invokevirtual 104, 3) := by decide +kernel
theorem dX10_ends_4 : decode (dc DX10_ends) 4 = .ok (.ifCond .ne 4, 3) := by decide +kernel
theorem dX10_ends_7 : decode (dc DX10_ends) 7 = .ok (.return_, 1) := by decide +kernel
theorem dX10_ends_8 : decode (dc DX10_ends) 8 = .ok (.aload_n 0, 1) := by decide +kernel
theorem dX10_ends_9 : decode (dc DX10_ends) 9 = .ok (.invokevirtual 108, 3) := by decide +kernel
theorem dX10_ends_12 : decode (dc DX10_ends) 12 = .ok (.bipush 59, 2) := by decide +kernel
theorem dX10_ends_14 : decode (dc DX10_ends) 14 = .ok (.if_icmp .ne 16, 3) := by decide +kernel
theorem dX10_ends_17 : decode (dc DX10_ends) 17 = .ok (.aload_n 0, 1) := by decide +kernel
theorem dX10_ends_18 : decode (dc DX10_ends) 18 = .ok (.dup, 1) := by decide +kernel
theorem dX10_ends_19 : decode (dc DX10_ends) 19 = .ok (.getfield 91, 3) := by decide +kernel
theorem dX10_ends_22 : decode (dc DX10_ends) 22 = .ok (.iconst 1, 1) := by decide +kernel
theorem dX10_ends_23 : decode (dc DX10_ends) 23 = .ok (.iadd, 1) := by decide +kernel
theorem dX10_ends_24 : decode (dc DX10_ends) 24 = .ok (.putfield 91, 3) := by decide +kernel
theorem dX10_ends_27 : decode (dc DX10_ends) 27 = .ok (.goto 12, 3) := by decide +kernel
theorem dX10_ends_30 : decode (dc DX10_ends) 30 = .ok (.aload_n 0, 1) := by decide +kernel
theorem dX10_ends_31 : decode (dc DX10_ends) 31 = .ok (.iconst 1, 1) := by decide +kernel
theorem dX10_ends_32 : decode (dc DX10_ends) 32 = .ok (.aload_n 0, 1) := by decide +kernel
theorem dX10_ends_33 : decode (dc DX10_ends) 33 = .ok (.getfield 91, 3) := by decide +kernel
theorem dX10_ends_36 : decode (dc DX10_ends) 36 = .ok (.invokevirtual 116, 3) := by decide +kernel
theorem dX10_ends_39 : decode (dc DX10_ends) 39 = .ok (.return_, 1) := by decide +kernel
theorem dX10_workerHere_0 : decode (dc DX10_workerHere) 0 = .ok (.aload_n 0, 1) := by decide +kernel
theorem dX10_workerHere_1 : decode (dc DX10_workerHere) 1 = .ok (.iconst 0, 1) := by decide +kernel
theorem dX10_workerHere_2 : decode (dc DX10_workerHere) 2 = .ok (.aload_n 0, 1) := by decide +kernel
theorem dX10_workerHere_3 : decode (dc DX10_workerHere) 3 = .ok (.getfield 22, 3) := by decide +kernel
theorem dX10_workerHere_6 : decode (dc DX10_workerHere) 6 = .ok (.iconst 1, 1) := by decide +kernel
theorem dX10_workerHere_7 : decode (dc DX10_workerHere) 7 = .ok (.aaload, 1) := by decide +kernel
theorem dX10_workerHere_8 : decode (dc DX10_workerHere) 8 = .ok (.iconst 0, 1) := by decide +kernel
theorem dX10_workerHere_9 : decode (dc DX10_workerHere) 9 = .ok (.iaload, 1) := by decide +kernel
theorem dX10_workerHere_10 : decode (dc DX10_workerHere) 10 = .ok (.iconst 1, 1) := by decide +kernel
theorem dX10_workerHere_11 : decode (dc DX10_workerHere) 11 = .ok (.isub, 1) := by decide +kernel
theorem dX10_workerHere_12 : decode (dc DX10_workerHere) 12 = .ok (.invokevirtual 161, 3) := by decide +kernel
theorem dX10_workerHere_15 : decode (dc DX10_workerHere) 15 = .ok (.ireturn, 1) := by decide +kernel
theorem dX10_taskHere_0 : decode (dc DX10_taskHere) 0 = .ok (.aload_n 0, 1) := by decide +kernel
theorem dX10_taskHere_1 : decode (dc DX10_taskHere) 1 = .ok (.iconst 0, 1) := by decide +kernel
theorem dX10_taskHere_2 : decode (dc DX10_taskHere) 2 = .ok (.aload_n 0, 1) := by decide +kernel
theorem dX10_taskHere_3 : decode (dc DX10_taskHere) 3 = .ok (.getfield 22, 3) := by decide +kernel
theorem dX10_taskHere_6 : decode (dc DX10_taskHere) 6 = .ok (.iconst 1, 1) := by decide +kernel
theorem dX10_taskHere_7 : decode (dc DX10_taskHere) 7 = .ok (.aaload, 1) := by decide +kernel
theorem dX10_taskHere_8 : decode (dc DX10_taskHere) 8 = .ok (.iconst 1, 1) := by decide +kernel
theorem dX10_taskHere_9 : decode (dc DX10_taskHere) 9 = .ok (.iaload, 1) := by decide +kernel
theorem dX10_taskHere_10 : decode (dc DX10_taskHere) 10 = .ok (.iconst 1, 1) := by decide +kernel
theorem dX10_taskHere_11 : decode (dc DX10_taskHere) 11 = .ok (.isub, 1) := by decide +kernel
theorem dX10_taskHere_12 : decode (dc DX10_taskHere) 12 = .ok (.invokevirtual 161, 3) := by decide +kernel
theorem dX10_taskHere_15 : decode (dc DX10_taskHere) 15 = .ok (.ireturn, 1) := by decide +kernel
theorem dX10_ownerOf_0 : decode (dc DX10_ownerOf) 0 = .ok (.iconst 0, 1) := by decide +kernel
theorem dX10_ownerOf_1 : decode (dc DX10_ownerOf) 1 = .ok (.istore_n 2, 1) := by decide +kernel
theorem dX10_ownerOf_2 : decode (dc DX10_ownerOf) 2 = .ok (.iload_n 2, 1) := by decide +kernel
theorem dX10_ownerOf_3 : decode (dc DX10_ownerOf) 3 = .ok (.bipush 12, 2) := by decide +kernel
theorem dX10_ownerOf_5 : decode (dc DX10_ownerOf) 5 = .ok (.if_icmp .ge 18, 3) := by decide +kernel
theorem dX10_ownerOf_8 : decode (dc DX10_ownerOf) 8 = .ok (.aload_n 0, 1) := by decide +kernel
theorem dX10_ownerOf_9 : decode (dc DX10_ownerOf) 9 = .ok (.iload_n 2, 1) := by decide +kernel
theorem dX10_ownerOf_10 : decode (dc DX10_ownerOf) 10 = .ok (.iaload, 1) := by decide +kernel
theorem dX10_ownerOf_11 : decode (dc DX10_ownerOf) 11 = .ok (.iload_n 1, 1) := by decide +kernel
theorem dX10_ownerOf_12 : decode (dc DX10_ownerOf) 12 = .ok (.if_icmp .ne 5, 3) := by decide +kernel
theorem dX10_ownerOf_15 : decode (dc DX10_ownerOf) 15 = .ok (.iload_n 2, 1) := by decide +kernel
theorem dX10_ownerOf_16 : decode (dc DX10_ownerOf) 16 = .ok (.ireturn, 1) := by decide +kernel
theorem dX10_ownerOf_17 : decode (dc DX10_ownerOf) 17 = .ok (.iinc 2 1, 3) := by decide +kernel
theorem dX10_ownerOf_20 : decode (dc DX10_ownerOf) 20 = .ok (.goto (-18), 3) := by decide +kernel
theorem dX10_ownerOf_23 : decode (dc DX10_ownerOf) 23 = .ok (.iconst (-1), 1) := by decide +kernel
theorem dX10_ownerOf_24 : decode (dc DX10_ownerOf) 24 = .ok (.ireturn, 1) := by decide +kernel
theorem dX10_readsFit_0 : decode (dc DX10_readsFit) 0 = .ok (.aload_n 0, 1) := by decide +kernel
theorem dX10_readsFit_1 : decode (dc DX10_readsFit) 1 = .ok (.invokevirtual 164, 3) := by decide +kernel
theorem dX10_readsFit_4 : decode (dc DX10_readsFit) 4 = .ok (.istore_n 1, 1) := by decide +kernel
theorem dX10_readsFit_5 : decode (dc DX10_readsFit) 5 = .ok (.aload_n 0, 1) := by decide +kernel
theorem dX10_readsFit_6 : decode (dc DX10_readsFit) 6 = .ok (.invokevirtual 167, 3) := by decide +kernel
theorem dX10_readsFit_9 : decode (dc DX10_readsFit) 9 = .ok (.istore_n 2, 1) := by decide +kernel
theorem dX10_readsFit_10 : decode (dc DX10_readsFit) 10 = .ok (.aload_n 0, 1) := by decide +kernel
theorem dX10_readsFit_11 : decode (dc DX10_readsFit) 11 = .ok (.invokevirtual 104, 3) := by decide +kernel
theorem dX10_readsFit_14 : decode (dc DX10_readsFit) 14 = .ok (.ifCond .eq 23, 3) := by decide +kernel
theorem dX10_readsFit_17 : decode (dc DX10_readsFit) 17 = .ok (.aload_n 0, 1) := by decide +kernel
theorem dX10_readsFit_18 : decode (dc DX10_readsFit) 18 = .ok (.invokevirtual 108, 3) := by decide +kernel
theorem dX10_readsFit_21 : decode (dc DX10_readsFit) 21 = .ok (.invokestatic 112, 3) := by decide +kernel
theorem dX10_readsFit_24 : decode (dc DX10_readsFit) 24 = .ok (.ifCond .eq 13, 3) := by decide +kernel
theorem dX10_readsFit_27 : decode (dc DX10_readsFit) 27 = .ok (.aload_n 0, 1) := by decide +kernel
theorem dX10_readsFit_28 : decode (dc DX10_readsFit) 28 = .ok (.iconst 0, 1) := by decide +kernel
theorem dX10_readsFit_29 : decode (dc DX10_readsFit) 29 = .ok (.bipush 99, 2) := by decide +kernel
theorem dX10_readsFit_31 : decode (dc DX10_readsFit) 31 = .ok (.invokevirtual 161, 3) := by decide +kernel
theorem dX10_readsFit_34 : decode (dc DX10_readsFit) 34 = .ok (.goto 4, 3) := by decide +kernel
theorem dX10_readsFit_37 : decode (dc DX10_readsFit) 37 = .ok (.iconst 0, 1) := by decide +kernel
theorem dX10_readsFit_38 : decode (dc DX10_readsFit) 38 = .ok (.istore_n 3, 1) := by decide +kernel
theorem dX10_readsFit_39 : decode (dc DX10_readsFit) 39 = .ok (.aload_n 0, 1) := by decide +kernel
theorem dX10_readsFit_40 : decode (dc DX10_readsFit) 40 = .ok (.invokevirtual 104, 3) := by decide +kernel
theorem dX10_readsFit_43 : decode (dc DX10_readsFit) 43 = .ok (.ifCond .ne 4, 3) := by decide +kernel
theorem dX10_readsFit_46 : decode (dc DX10_readsFit) 46 = .ok (.return_, 1) := by decide +kernel
theorem dX10_readsFit_47 : decode (dc DX10_readsFit) 47 = .ok (.aload_n 0, 1) := by decide +kernel
theorem dX10_readsFit_48 : decode (dc DX10_readsFit) 48 = .ok (.getfield 25, 3) := by decide +kernel
theorem dX10_readsFit_51 : decode (dc DX10_readsFit) 51 = .ok (.iconst 1, 1) := by decide +kernel
theorem dX10_readsFit_52 : decode (dc DX10_readsFit) 52 = .ok (.aaload, 1) := by decide +kernel
theorem dX10_readsFit_53 : decode (dc DX10_readsFit) 53 = .ok (.iload_n 1, 1) := by decide +kernel
theorem dX10_readsFit_54 : decode (dc DX10_readsFit) 54 = .ok (.dup2, 1) := by decide +kernel
theorem dX10_readsFit_55 : decode (dc DX10_readsFit) 55 = .ok (.iaload, 1) := by decide +kernel
theorem dX10_readsFit_56 : decode (dc DX10_readsFit) 56 = .ok (.iconst 1, 1) := by decide +kernel
theorem dX10_readsFit_57 : decode (dc DX10_readsFit) 57 = .ok (.iload_n 2, 1) := by decide +kernel
theorem dX10_readsFit_58 : decode (dc DX10_readsFit) 58 = .ok (.ishl, 1) := by decide +kernel
theorem dX10_readsFit_59 : decode (dc DX10_readsFit) 59 = .ok (.ior, 1) := by decide +kernel
theorem dX10_readsFit_60 : decode (dc DX10_readsFit) 60 = .ok (.iastore, 1) := by decide +kernel
theorem dX10_readsFit_61 : decode (dc DX10_readsFit) 61 = .ok (.aload_n 0, 1) := by decide +kernel
theorem dX10_readsFit_62 : decode (dc DX10_readsFit) 62 = .ok (.getfield 36, 3) := by decide +kernel
theorem dX10_readsFit_65 : decode (dc DX10_readsFit) 65 = .ok (.iconst 1, 1) := by decide +kernel
theorem dX10_readsFit_66 : decode (dc DX10_readsFit) 66 = .ok (.aaload, 1) := by decide +kernel
theorem dX10_readsFit_67 : decode (dc DX10_readsFit) 67 = .ok (.iload_n 1, 1) := by decide +kernel
theorem dX10_readsFit_68 : decode (dc DX10_readsFit) 68 = .ok (.aaload, 1) := by decide +kernel
theorem dX10_readsFit_69 : decode (dc DX10_readsFit) 69 = .ok (.iload_n 2, 1) := by decide +kernel
theorem dX10_readsFit_70 : decode (dc DX10_readsFit) 70 = .ok (.iload_n 3, 1) := by decide +kernel
theorem dX10_readsFit_71 : decode (dc DX10_readsFit) 71 = .ok (.iastore, 1) := by decide +kernel
theorem dX10_readsFit_72 : decode (dc DX10_readsFit) 72 = .ok (.return_, 1) := by decide +kernel
theorem dX10_readsAway_0 : decode (dc DX10_readsAway) 0 = .ok (.aload_n 0, 1) := by decide +kernel
theorem dX10_readsAway_1 : decode (dc DX10_readsAway) 1 = .ok (.ldc 170, 2) := by decide +kernel
theorem dX10_readsAway_3 : decode (dc DX10_readsAway) 3 = .ok (.invokevirtual 157, 3) := by decide +kernel
theorem dX10_readsAway_6 : decode (dc DX10_readsAway) 6 = .ok (.istore_n 1, 1) := by decide +kernel
theorem dX10_readsAway_7 : decode (dc DX10_readsAway) 7 = .ok (.iload_n 1, 1) := by decide +kernel
theorem dX10_readsAway_8 : decode (dc DX10_readsAway) 8 = .ok (.ifCond .ne 9, 3) := by decide +kernel
theorem dX10_readsAway_11 : decode (dc DX10_readsAway) 11 = .ok (.aload_n 0, 1) := by decide +kernel
theorem dX10_readsAway_12 : decode (dc DX10_readsAway) 12 = .ok (.ldc 172, 2) := by decide +kernel
theorem dX10_readsAway_14 : decode (dc DX10_readsAway) 14 = .ok (.invokevirtual 174, 3) := by decide +kernel
theorem dX10_readsAway_17 : decode (dc DX10_readsAway) 17 = .ok (.iload_n 1, 1) := by decide +kernel
theorem dX10_readsAway_18 : decode (dc DX10_readsAway) 18 = .ok (.ifCond .eq 10, 3) := by decide +kernel
theorem dX10_readsAway_21 : decode (dc DX10_readsAway) 21 = .ok (.aload_n 0, 1) := by decide +kernel
theorem dX10_readsAway_22 : decode (dc DX10_readsAway) 22 = .ok (.invokevirtual 164, 3) := by decide +kernel
theorem dX10_readsAway_25 : decode (dc DX10_readsAway) 25 = .ok (.goto 7, 3) := by decide +kernel
theorem dX10_readsAway_28 : decode (dc DX10_readsAway) 28 = .ok (.aload_n 0, 1) := by decide +kernel
theorem dX10_readsAway_29 : decode (dc DX10_readsAway) 29 = .ok (.invokevirtual 167, 3) := by decide +kernel
theorem dX10_readsAway_32 : decode (dc DX10_readsAway) 32 = .ok (.istore_n 2, 1) := by decide +kernel
theorem dX10_readsAway_33 : decode (dc DX10_readsAway) 33 = .ok (.aload_n 0, 1) := by decide +kernel
theorem dX10_readsAway_34 : decode (dc DX10_readsAway) 34 = .ok (.invokevirtual 104, 3) := by decide +kernel
theorem dX10_readsAway_37 : decode (dc DX10_readsAway) 37 = .ok (.ifCond .ne 4, 3) := by decide +kernel
theorem dX10_readsAway_40 : decode (dc DX10_readsAway) 40 = .ok (.return_, 1) := by decide +kernel
theorem dX10_readsAway_41 : decode (dc DX10_readsAway) 41 = .ok (.iload_n 1, 1) := by decide +kernel
theorem dX10_readsAway_42 : decode (dc DX10_readsAway) 42 = .ok (.ifCond .eq 7, 3) := by decide +kernel
theorem dX10_readsAway_45 : decode (dc DX10_readsAway) 45 = .ok (.iconst 3, 1) := by decide +kernel
theorem dX10_readsAway_46 : decode (dc DX10_readsAway) 46 = .ok (.goto 4, 3) := by decide +kernel
theorem dX10_readsAway_49 : decode (dc DX10_readsAway) 49 = .ok (.iconst 4, 1) := by decide +kernel
theorem dX10_readsAway_50 : decode (dc DX10_readsAway) 50 = .ok (.istore_n 3, 1) := by decide +kernel
theorem dX10_readsAway_51 : decode (dc DX10_readsAway) 51 = .ok (.iload_n 1, 1) := by decide +kernel
theorem dX10_readsAway_52 : decode (dc DX10_readsAway) 52 = .ok (.ifCond .eq 23, 3) := by decide +kernel
theorem dX10_readsAway_55 : decode (dc DX10_readsAway) 55 = .ok (.aload_n 0, 1) := by decide +kernel
theorem dX10_readsAway_56 : decode (dc DX10_readsAway) 56 = .ok (.getfield 28, 3) := by decide +kernel
theorem dX10_readsAway_59 : decode (dc DX10_readsAway) 59 = .ok (.iconst 1, 1) := by decide +kernel
theorem dX10_readsAway_60 : decode (dc DX10_readsAway) 60 = .ok (.aaload, 1) := by decide +kernel
theorem dX10_readsAway_61 : decode (dc DX10_readsAway) 61 = .ok (.iload_n 2, 1) := by decide +kernel
theorem dX10_readsAway_62 : decode (dc DX10_readsAway) 62 = .ok (.iaload, 1) := by decide +kernel
theorem dX10_readsAway_63 : decode (dc DX10_readsAway) 63 = .ok (.iconst (-1), 1) := by decide +kernel
theorem dX10_readsAway_64 : decode (dc DX10_readsAway) 64 = .ok (.if_icmp .eq 7, 3) := by decide +kernel
theorem dX10_readsAway_67 : decode (dc DX10_readsAway) 67 = .ok (.iconst 1, 1) := by decide +kernel
theorem dX10_readsAway_68 : decode (dc DX10_readsAway) 68 = .ok (.goto 26, 3) := by decide +kernel
theorem dX10_readsAway_71 : decode (dc DX10_readsAway) 71 = .ok (.iconst 0, 1) := by decide +kernel
theorem dX10_readsAway_72 : decode (dc DX10_readsAway) 72 = .ok (.goto 22, 3) := by decide +kernel
theorem dX10_readsAway_75 : decode (dc DX10_readsAway) 75 = .ok (.aload_n 0, 1) := by decide +kernel
theorem dX10_readsAway_76 : decode (dc DX10_readsAway) 76 = .ok (.getfield 28, 3) := by decide +kernel
theorem dX10_readsAway_79 : decode (dc DX10_readsAway) 79 = .ok (.iconst 1, 1) := by decide +kernel
theorem dX10_readsAway_80 : decode (dc DX10_readsAway) 80 = .ok (.aaload, 1) := by decide +kernel
theorem dX10_readsAway_81 : decode (dc DX10_readsAway) 81 = .ok (.iload_n 2, 1) := by decide +kernel
theorem dX10_readsAway_82 : decode (dc DX10_readsAway) 82 = .ok (.invokestatic 178, 3) := by decide +kernel
theorem dX10_readsAway_85 : decode (dc DX10_readsAway) 85 = .ok (.iconst (-1), 1) := by decide +kernel
theorem dX10_readsAway_86 : decode (dc DX10_readsAway) 86 = .ok (.if_icmp .eq 7, 3) := by decide +kernel
theorem dX10_readsAway_89 : decode (dc DX10_readsAway) 89 = .ok (.iconst 1, 1) := by decide +kernel
theorem dX10_readsAway_90 : decode (dc DX10_readsAway) 90 = .ok (.goto 4, 3) := by decide +kernel
theorem dX10_readsAway_93 : decode (dc DX10_readsAway) 93 = .ok (.iconst 0, 1) := by decide +kernel
theorem dX10_readsAway_94 : decode (dc DX10_readsAway) 94 = .ok (.istore 4, 2) := by decide +kernel
theorem dX10_readsAway_96 : decode (dc DX10_readsAway) 96 = .ok (.aload_n 0, 1) := by decide +kernel
theorem dX10_readsAway_97 : decode (dc DX10_readsAway) 97 = .ok (.getfield 22, 3) := by decide +kernel
theorem dX10_readsAway_100 : decode (dc DX10_readsAway) 100 = .ok (.iconst 1, 1) := by decide +kernel
theorem dX10_readsAway_101 : decode (dc DX10_readsAway) 101 = .ok (.aaload, 1) := by decide +kernel
theorem dX10_readsAway_102 : decode (dc DX10_readsAway) 102 = .ok (.iload_n 3, 1) := by decide +kernel
theorem dX10_readsAway_103 : decode (dc DX10_readsAway) 103 = .ok (.iaload, 1) := by decide +kernel
theorem dX10_readsAway_104 : decode (dc DX10_readsAway) 104 = .ok (.iload_n 2, 1) := by decide +kernel
theorem dX10_readsAway_105 : decode (dc DX10_readsAway) 105 = .ok (.invokestatic 182, 3) := by decide +kernel
theorem dX10_readsAway_108 : decode (dc DX10_readsAway) 108 = .ok (.ifCond .eq 8, 3) := by decide +kernel
theorem dX10_readsAway_111 : decode (dc DX10_readsAway) 111 = .ok (.iload 4, 2) := by decide +kernel
theorem dX10_readsAway_113 : decode (dc DX10_readsAway) 113 = .ok (.ifCond .eq 12, 3) := by decide +kernel
theorem dX10_readsAway_116 : decode (dc DX10_readsAway) 116 = .ok (.aload_n 0, 1) := by decide +kernel
theorem dX10_readsAway_117 : decode (dc DX10_readsAway) 117 = .ok (.iconst 5, 1) := by decide +kernel
theorem dX10_readsAway_118 : decode (dc DX10_readsAway) 118 = .ok (.aload_n 0, 1) := by decide +kernel
theorem dX10_readsAway_119 : decode (dc DX10_readsAway) 119 = .ok (.getfield 120, 3) := by decide +kernel
theorem dX10_readsAway_122 : decode (dc DX10_readsAway) 122 = .ok (.invokevirtual 116, 3) := by decide +kernel
theorem dX10_readsAway_125 : decode (dc DX10_readsAway) 125 = .ok (.aload_n 0, 1) := by decide +kernel
theorem dX10_readsAway_126 : decode (dc DX10_readsAway) 126 = .ok (.getfield 22, 3) := by decide +kernel
theorem dX10_readsAway_129 : decode (dc DX10_readsAway) 129 = .ok (.iconst 1, 1) := by decide +kernel
theorem dX10_readsAway_130 : decode (dc DX10_readsAway) 130 = .ok (.aaload, 1) := by decide +kernel
theorem dX10_readsAway_131 : decode (dc DX10_readsAway) 131 = .ok (.iload_n 3, 1) := by decide +kernel
theorem dX10_readsAway_132 : decode (dc DX10_readsAway) 132 = .ok (.dup2, 1) := by decide +kernel
theorem dX10_readsAway_133 : decode (dc DX10_readsAway) 133 = .ok (.iaload, 1) := by decide +kernel
theorem dX10_readsAway_134 : decode (dc DX10_readsAway) 134 = .ok (.iconst 1, 1) := by decide +kernel
theorem dX10_readsAway_135 : decode (dc DX10_readsAway) 135 = .ok (.iload_n 2, 1) := by decide +kernel
theorem dX10_readsAway_136 : decode (dc DX10_readsAway) 136 = .ok (.ishl, 1) := by decide +kernel
theorem dX10_readsAway_137 : decode (dc DX10_readsAway) 137 = .ok (.iconst (-1), 1) := by decide +kernel
theorem dX10_readsAway_138 : decode (dc DX10_readsAway) 138 = .ok (.ixor, 1) := by decide +kernel
theorem dX10_readsAway_139 : decode (dc DX10_readsAway) 139 = .ok (.iand, 1) := by decide +kernel
theorem dX10_readsAway_140 : decode (dc DX10_readsAway) 140 = .ok (.iastore, 1) := by decide +kernel
theorem dX10_readsAway_141 : decode (dc DX10_readsAway) 141 = .ok (.return_, 1) := by decide +kernel
theorem dX10_readsPair_0 : decode (dc DX10_readsPair) 0 = .ok (.aload_n 0, 1) := by decide +kernel
theorem dX10_readsPair_1 : decode (dc DX10_readsPair) 1 = .ok (.invokevirtual 164, 3) := by decide +kernel
theorem dX10_readsPair_4 : decode (dc DX10_readsPair) 4 = .ok (.istore_n 1, 1) := by decide +kernel
theorem dX10_readsPair_5 : decode (dc DX10_readsPair) 5 = .ok (.aload_n 0, 1) := by decide +kernel
theorem dX10_readsPair_6 : decode (dc DX10_readsPair) 6 = .ok (.getfield 120, 3) := by decide +kernel
theorem dX10_readsPair_9 : decode (dc DX10_readsPair) 9 = .ok (.istore_n 2, 1) := by decide +kernel
theorem dX10_readsPair_10 : decode (dc DX10_readsPair) 10 = .ok (.aload_n 0, 1) := by decide +kernel
theorem dX10_readsPair_11 : decode (dc DX10_readsPair) 11 = .ok (.invokevirtual 104, 3) := by decide +kernel
theorem dX10_readsPair_14 : decode (dc DX10_readsPair) 14 = .ok (.ifCond .eq 36, 3) := by decide +kernel
theorem dX10_readsPair_17 : decode (dc DX10_readsPair) 17 = .ok (.aload_n 0, 1) := by decide +kernel
theorem dX10_readsPair_18 : decode (dc DX10_readsPair) 18 = .ok (.getfield 22, 3) := by decide +kernel
theorem dX10_readsPair_21 : decode (dc DX10_readsPair) 21 = .ok (.iconst 1, 1) := by decide +kernel
theorem dX10_readsPair_22 : decode (dc DX10_readsPair) 22 = .ok (.aaload, 1) := by decide +kernel
theorem dX10_readsPair_23 : decode (dc DX10_readsPair) 23 = .ok (.iconst 3, 1) := by decide +kernel
theorem dX10_readsPair_24 : decode (dc DX10_readsPair) 24 = .ok (.iaload, 1) := by decide +kernel
theorem dX10_readsPair_25 : decode (dc DX10_readsPair) 25 = .ok (.iload_n 1, 1) := by decide +kernel
theorem dX10_readsPair_26 : decode (dc DX10_readsPair) 26 = .ok (.invokestatic 182, 3) := by decide +kernel
theorem dX10_readsPair_29 : decode (dc DX10_readsPair) 29 = .ok (.ifCond .eq 15, 3) := by decide +kernel
theorem dX10_readsPair_32 : decode (dc DX10_readsPair) 32 = .ok (.aload_n 0, 1) := by decide +kernel
theorem dX10_readsPair_33 : decode (dc DX10_readsPair) 33 = .ok (.getfield 28, 3) := by decide +kernel
theorem dX10_readsPair_36 : decode (dc DX10_readsPair) 36 = .ok (.iconst 1, 1) := by decide +kernel
theorem dX10_readsPair_37 : decode (dc DX10_readsPair) 37 = .ok (.aaload, 1) := by decide +kernel
theorem dX10_readsPair_38 : decode (dc DX10_readsPair) 38 = .ok (.iload_n 1, 1) := by decide +kernel
theorem dX10_readsPair_39 : decode (dc DX10_readsPair) 39 = .ok (.iaload, 1) := by decide +kernel
theorem dX10_readsPair_40 : decode (dc DX10_readsPair) 40 = .ok (.iconst (-1), 1) := by decide +kernel
theorem dX10_readsPair_41 : decode (dc DX10_readsPair) 41 = .ok (.if_icmp .eq 9, 3) := by decide +kernel
theorem dX10_readsPair_44 : decode (dc DX10_readsPair) 44 = .ok (.aload_n 0, 1) := by decide +kernel
theorem dX10_readsPair_45 : decode (dc DX10_readsPair) 45 = .ok (.iconst 4, 1) := by decide +kernel
theorem dX10_readsPair_46 : decode (dc DX10_readsPair) 46 = .ok (.iload_n 2, 1) := by decide +kernel
theorem dX10_readsPair_47 : decode (dc DX10_readsPair) 47 = .ok (.invokevirtual 116, 3) := by decide +kernel
theorem dX10_readsPair_50 : decode (dc DX10_readsPair) 50 = .ok (.aload_n 0, 1) := by decide +kernel
theorem dX10_readsPair_51 : decode (dc DX10_readsPair) 51 = .ok (.invokevirtual 167, 3) := by decide +kernel
theorem dX10_readsPair_54 : decode (dc DX10_readsPair) 54 = .ok (.istore_n 3, 1) := by decide +kernel
theorem dX10_readsPair_55 : decode (dc DX10_readsPair) 55 = .ok (.aload_n 0, 1) := by decide +kernel
theorem dX10_readsPair_56 : decode (dc DX10_readsPair) 56 = .ok (.invokevirtual 104, 3) := by decide +kernel
theorem dX10_readsPair_59 : decode (dc DX10_readsPair) 59 = .ok (.ifCond .ne 4, 3) := by decide +kernel
theorem dX10_readsPair_62 : decode (dc DX10_readsPair) 62 = .ok (.return_, 1) := by decide +kernel
theorem dX10_readsPair_63 : decode (dc DX10_readsPair) 63 = .ok (.aload_n 0, 1) := by decide +kernel
theorem dX10_readsPair_64 : decode (dc DX10_readsPair) 64 = .ok (.getfield 25, 3) := by decide +kernel
theorem dX10_readsPair_67 : decode (dc DX10_readsPair) 67 = .ok (.iconst 1, 1) := by decide +kernel
theorem dX10_readsPair_68 : decode (dc DX10_readsPair) 68 = .ok (.aaload, 1) := by decide +kernel
theorem dX10_readsPair_69 : decode (dc DX10_readsPair) 69 = .ok (.iload_n 1, 1) := by decide +kernel
theorem dX10_readsPair_70 : decode (dc DX10_readsPair) 70 = .ok (.iaload, 1) := by decide +kernel
theorem dX10_readsPair_71 : decode (dc DX10_readsPair) 71 = .ok (.iload_n 3, 1) := by decide +kernel
theorem dX10_readsPair_72 : decode (dc DX10_readsPair) 72 = .ok (.invokestatic 182, 3) := by decide +kernel
theorem dX10_readsPair_75 : decode (dc DX10_readsPair) 75 = .ok (.ifCond .eq 32, 3) := by decide +kernel
theorem dX10_readsPair_78 : decode (dc DX10_readsPair) 78 = .ok (.aload_n 0, 1) := by decide +kernel
theorem dX10_readsPair_79 : decode (dc DX10_readsPair) 79 = .ok (.getfield 22, 3) := by decide +kernel
theorem dX10_readsPair_82 : decode (dc DX10_readsPair) 82 = .ok (.iconst 1, 1) := by decide +kernel
theorem dX10_readsPair_83 : decode (dc DX10_readsPair) 83 = .ok (.aaload, 1) := by decide +kernel
theorem dX10_readsPair_84 : decode (dc DX10_readsPair) 84 = .ok (.iconst 4, 1) := by decide +kernel
theorem dX10_readsPair_85 : decode (dc DX10_readsPair) 85 = .ok (.iaload, 1) := by decide +kernel
theorem dX10_readsPair_86 : decode (dc DX10_readsPair) 86 = .ok (.iload_n 3, 1) := by decide +kernel
theorem dX10_readsPair_87 : decode (dc DX10_readsPair) 87 = .ok (.invokestatic 182, 3) := by decide +kernel
theorem dX10_readsPair_90 : decode (dc DX10_readsPair) 90 = .ok (.ifCond .eq 17, 3) := by decide +kernel
theorem dX10_readsPair_93 : decode (dc DX10_readsPair) 93 = .ok (.aload_n 0, 1) := by decide +kernel
theorem dX10_readsPair_94 : decode (dc DX10_readsPair) 94 = .ok (.getfield 28, 3) := by decide +kernel
theorem dX10_readsPair_97 : decode (dc DX10_readsPair) 97 = .ok (.iconst 1, 1) := by decide +kernel
theorem dX10_readsPair_98 : decode (dc DX10_readsPair) 98 = .ok (.aaload, 1) := by decide +kernel
theorem dX10_readsPair_99 : decode (dc DX10_readsPair) 99 = .ok (.iload_n 3, 1) := by decide +kernel
theorem dX10_readsPair_100 : decode (dc DX10_readsPair) 100 = .ok (.invokestatic 178, 3) := by decide +kernel
theorem dX10_readsPair_103 : decode (dc DX10_readsPair) 103 = .ok (.iconst (-1), 1) := by decide +kernel
theorem dX10_readsPair_104 : decode (dc DX10_readsPair) 104 = .ok (.if_icmp .eq 9, 3) := by decide +kernel
theorem dX10_readsPair_107 : decode (dc DX10_readsPair) 107 = .ok (.aload_n 0, 1) := by decide +kernel
theorem dX10_readsPair_108 : decode (dc DX10_readsPair) 108 = .ok (.iconst 4, 1) := by decide +kernel
theorem dX10_readsPair_109 : decode (dc DX10_readsPair) 109 = .ok (.iload_n 2, 1) := by decide +kernel
theorem dX10_readsPair_110 : decode (dc DX10_readsPair) 110 = .ok (.invokevirtual 116, 3) := by decide +kernel
theorem dX10_readsPair_113 : decode (dc DX10_readsPair) 113 = .ok (.aload_n 0, 1) := by decide +kernel
theorem dX10_readsPair_114 : decode (dc DX10_readsPair) 114 = .ok (.getfield 28, 3) := by decide +kernel
theorem dX10_readsPair_117 : decode (dc DX10_readsPair) 117 = .ok (.iconst 1, 1) := by decide +kernel
theorem dX10_readsPair_118 : decode (dc DX10_readsPair) 118 = .ok (.aaload, 1) := by decide +kernel
theorem dX10_readsPair_119 : decode (dc DX10_readsPair) 119 = .ok (.iload_n 1, 1) := by decide +kernel
theorem dX10_readsPair_120 : decode (dc DX10_readsPair) 120 = .ok (.iload_n 3, 1) := by decide +kernel
theorem dX10_readsPair_121 : decode (dc DX10_readsPair) 121 = .ok (.iastore, 1) := by decide +kernel
theorem dX10_readsPair_122 : decode (dc DX10_readsPair) 122 = .ok (.return_, 1) := by decide +kernel
theorem dX10_readsWeight_0 : decode (dc DX10_readsWeight) 0 = .ok (.aload_n 0, 1) := by decide +kernel
theorem dX10_readsWeight_1 : decode (dc DX10_readsWeight) 1 = .ok (.invokevirtual 164, 3) := by decide +kernel
theorem dX10_readsWeight_4 : decode (dc DX10_readsWeight) 4 = .ok (.istore_n 1, 1) := by decide +kernel
theorem dX10_readsWeight_5 : decode (dc DX10_readsWeight) 5 = .ok (.aload_n 0, 1) := by decide +kernel
theorem dX10_readsWeight_6 : decode (dc DX10_readsWeight) 6 = .ok (.iconst 0, 1) := by decide +kernel
theorem dX10_readsWeight_7 : decode (dc DX10_readsWeight) 7 = .ok (.bipush 99, 2) := by decide +kernel
theorem dX10_readsWeight_9 : decode (dc DX10_readsWeight) 9 = .ok (.invokevirtual 161, 3) := by decide +kernel
theorem dX10_readsWeight_12 : decode (dc DX10_readsWeight) 12 = .ok (.istore_n 2, 1) := by decide +kernel
theorem dX10_readsWeight_13 : decode (dc DX10_readsWeight) 13 = .ok (.aload_n 0, 1) := by decide +kernel
theorem dX10_readsWeight_14 : decode (dc DX10_readsWeight) 14 = .ok (.invokevirtual 104, 3) := by decide +kernel
theorem dX10_readsWeight_17 : decode (dc DX10_readsWeight) 17 = .ok (.ifCond .eq 12, 3) := by decide +kernel
theorem dX10_readsWeight_20 : decode (dc DX10_readsWeight) 20 = .ok (.aload_n 0, 1) := by decide +kernel
theorem dX10_readsWeight_21 : decode (dc DX10_readsWeight) 21 = .ok (.getfield 31, 3) := by decide +kernel
theorem dX10_readsWeight_24 : decode (dc DX10_readsWeight) 24 = .ok (.iconst 1, 1) := by decide +kernel
theorem dX10_readsWeight_25 : decode (dc DX10_readsWeight) 25 = .ok (.aaload, 1) := by decide +kernel
theorem dX10_readsWeight_26 : decode (dc DX10_readsWeight) 26 = .ok (.iload_n 1, 1) := by decide +kernel
theorem dX10_readsWeight_27 : decode (dc DX10_readsWeight) 27 = .ok (.iload_n 2, 1) := by decide +kernel
theorem dX10_readsWeight_28 : decode (dc DX10_readsWeight) 28 = .ok (.iastore, 1) := by decide +kernel
theorem dX10_readsWeight_29 : decode (dc DX10_readsWeight) 29 = .ok (.return_, 1) := by decide +kernel
theorem dX10_readsKeep_0 : decode (dc DX10_readsKeep) 0 = .ok (.aload_n 0, 1) := by decide +kernel
theorem dX10_readsKeep_1 : decode (dc DX10_readsKeep) 1 = .ok (.getfield 186, 3) := by decide +kernel
theorem dX10_readsKeep_4 : decode (dc DX10_readsKeep) 4 = .ok (.ifCond .eq 9, 3) := by decide +kernel
theorem dX10_readsKeep_7 : decode (dc DX10_readsKeep) 7 = .ok (.aload_n 0, 1) := by decide +kernel
theorem dX10_readsKeep_8 : decode (dc DX10_readsKeep) 8 = .ok (.iconst 3, 1) := by decide +kernel
theorem dX10_readsKeep_9 : decode (dc DX10_readsKeep) 9 = .ok (.iload_n 1, 1) := by decide +kernel
theorem dX10_readsKeep_10 : decode (dc DX10_readsKeep) 10 = .ok (.invokevirtual 116, 3) := by decide +kernel
theorem dX10_readsKeep_13 : decode (dc DX10_readsKeep) 13 = .ok (.aload_n 0, 1) := by decide +kernel
theorem dX10_readsKeep_14 : decode (dc DX10_readsKeep) 14 = .ok (.iconst 1, 1) := by decide +kernel
theorem dX10_readsKeep_15 : decode (dc DX10_readsKeep) 15 = .ok (.putfield 186, 3) := by decide +kernel
theorem dX10_readsKeep_18 : decode (dc DX10_readsKeep) 18 = .ok (.aload_n 0, 1) := by decide +kernel
theorem dX10_readsKeep_19 : decode (dc DX10_readsKeep) 19 = .ok (.getfield 22, 3) := by decide +kernel
theorem dX10_readsKeep_22 : decode (dc DX10_readsKeep) 22 = .ok (.iconst 1, 1) := by decide +kernel
theorem dX10_readsKeep_23 : decode (dc DX10_readsKeep) 23 = .ok (.aaload, 1) := by decide +kernel
theorem dX10_readsKeep_24 : decode (dc DX10_readsKeep) 24 = .ok (.iconst 2, 1) := by decide +kernel
theorem dX10_readsKeep_25 : decode (dc DX10_readsKeep) 25 = .ok (.aload_n 0, 1) := by decide +kernel
theorem dX10_readsKeep_26 : decode (dc DX10_readsKeep) 26 = .ok (.iconst 0, 1) := by decide +kernel
theorem dX10_readsKeep_27 : decode (dc DX10_readsKeep) 27 = .ok (.iconst 1, 1) := by decide +kernel
theorem dX10_readsKeep_28 : decode (dc DX10_readsKeep) 28 = .ok (.invokevirtual 161, 3) := by decide +kernel
theorem dX10_readsKeep_31 : decode (dc DX10_readsKeep) 31 = .ok (.iastore, 1) := by decide +kernel
theorem dX10_readsKeep_32 : decode (dc DX10_readsKeep) 32 = .ok (.return_, 1) := by decide +kernel
theorem dX10_readsLine_0 : decode (dc DX10_readsLine) 0 = .ok (.aload_n 0, 1) := by decide +kernel
theorem dX10_readsLine_1 : decode (dc DX10_readsLine) 1 = .ok (.invokevirtual 108, 3) := by decide +kernel
theorem dX10_readsLine_4 : decode (dc DX10_readsLine) 4 = .ok (.pop, 1) := by decide +kernel
theorem dX10_readsLine_5 : decode (dc DX10_readsLine) 5 = .ok (.aload_n 0, 1) := by decide +kernel
theorem dX10_readsLine_6 : decode (dc DX10_readsLine) 6 = .ok (.getfield 91, 3) := by decide +kernel
theorem dX10_readsLine_9 : decode (dc DX10_readsLine) 9 = .ok (.istore_n 1, 1) := by decide +kernel
theorem dX10_readsLine_10 : decode (dc DX10_readsLine) 10 = .ok (.aload_n 0, 1) := by decide +kernel
theorem dX10_readsLine_11 : decode (dc DX10_readsLine) 11 = .ok (.ldc 190, 2) := by decide +kernel
theorem dX10_readsLine_13 : decode (dc DX10_readsLine) 13 = .ok (.invokevirtual 157, 3) := by decide +kernel
theorem dX10_readsLine_16 : decode (dc DX10_readsLine) 16 = .ok (.ifCond .eq 10, 3) := by decide +kernel
theorem dX10_readsLine_19 : decode (dc DX10_readsLine) 19 = .ok (.aload_n 0, 1) := by decide +kernel
theorem dX10_readsLine_20 : decode (dc DX10_readsLine) 20 = .ok (.invokevirtual 191, 3) := by decide +kernel
theorem dX10_readsLine_23 : decode (dc DX10_readsLine) 23 = .ok (.goto 77, 3) := by decide +kernel
theorem dX10_readsLine_26 : decode (dc DX10_readsLine) 26 = .ok (.aload_n 0, 1) := by decide +kernel
theorem dX10_readsLine_27 : decode (dc DX10_readsLine) 27 = .ok (.ldc 194, 2) := by decide +kernel
theorem dX10_readsLine_29 : decode (dc DX10_readsLine) 29 = .ok (.invokevirtual 157, 3) := by decide +kernel
theorem dX10_readsLine_32 : decode (dc DX10_readsLine) 32 = .ok (.ifCond .eq 10, 3) := by decide +kernel
theorem dX10_readsLine_35 : decode (dc DX10_readsLine) 35 = .ok (.aload_n 0, 1) := by decide +kernel
theorem dX10_readsLine_36 : decode (dc DX10_readsLine) 36 = .ok (.invokevirtual 196, 3) := by decide +kernel
theorem dX10_readsLine_39 : decode (dc DX10_readsLine) 39 = .ok (.goto 61, 3) := by decide +kernel
theorem dX10_readsLine_42 : decode (dc DX10_readsLine) 42 = .ok (.aload_n 0, 1) := by decide +kernel
theorem dX10_readsLine_43 : decode (dc DX10_readsLine) 43 = .ok (.ldc 199, 2) := by decide +kernel
theorem dX10_readsLine_45 : decode (dc DX10_readsLine) 45 = .ok (.invokevirtual 157, 3) := by decide +kernel
theorem dX10_readsLine_48 : decode (dc DX10_readsLine) 48 = .ok (.ifCond .eq 10, 3) := by decide +kernel
theorem dX10_readsLine_51 : decode (dc DX10_readsLine) 51 = .ok (.aload_n 0, 1) := by decide +kernel
theorem dX10_readsLine_52 : decode (dc DX10_readsLine) 52 = .ok (.invokevirtual 201, 3) := by decide +kernel
theorem dX10_readsLine_55 : decode (dc DX10_readsLine) 55 = .ok (.goto 45, 3) := by decide +kernel
theorem dX10_readsLine_58 : decode (dc DX10_readsLine) 58 = .ok (.aload_n 0, 1) := by decide +kernel
theorem dX10_readsLine_59 : decode (dc DX10_readsLine) 59 = .ok (.ldc 204, 2) := by decide +kernel
theorem dX10_readsLine_61 : decode (dc DX10_readsLine) 61 = .ok (.invokevirtual 157, 3) := by decide +kernel
theorem dX10_readsLine_64 : decode (dc DX10_readsLine) 64 = .ok (.ifCond .eq 10, 3) := by decide +kernel
theorem dX10_readsLine_67 : decode (dc DX10_readsLine) 67 = .ok (.aload_n 0, 1) := by decide +kernel
theorem dX10_readsLine_68 : decode (dc DX10_readsLine) 68 = .ok (.invokevirtual 205, 3) := by decide +kernel
theorem dX10_readsLine_71 : decode (dc DX10_readsLine) 71 = .ok (.goto 29, 3) := by decide +kernel
theorem dX10_readsLine_74 : decode (dc DX10_readsLine) 74 = .ok (.aload_n 0, 1) := by decide +kernel
theorem dX10_readsLine_75 : decode (dc DX10_readsLine) 75 = .ok (.ldc 208, 2) := by decide +kernel
theorem dX10_readsLine_77 : decode (dc DX10_readsLine) 77 = .ok (.invokevirtual 157, 3) := by decide +kernel
theorem dX10_readsLine_80 : decode (dc DX10_readsLine) 80 = .ok (.ifCond .eq 11, 3) := by decide +kernel
theorem dX10_readsLine_83 : decode (dc DX10_readsLine) 83 = .ok (.aload_n 0, 1) := by decide +kernel
theorem dX10_readsLine_84 : decode (dc DX10_readsLine) 84 = .ok (.iload_n 1, 1) := by decide +kernel
theorem dX10_readsLine_85 : decode (dc DX10_readsLine) 85 = .ok (.invokevirtual 210, 3) := by decide +kernel
theorem dX10_readsLine_88 : decode (dc DX10_readsLine) 88 = .ok (.goto 12, 3) := by decide +kernel
theorem dX10_readsLine_91 : decode (dc DX10_readsLine) 91 = .ok (.aload_n 0, 1) := by decide +kernel
theorem dX10_readsLine_92 : decode (dc DX10_readsLine) 92 = .ok (.iconst 1, 1) := by decide +kernel
theorem dX10_readsLine_93 : decode (dc DX10_readsLine) 93 = .ok (.aload_n 0, 1) := by decide +kernel
theorem dX10_readsLine_94 : decode (dc DX10_readsLine) 94 = .ok (.getfield 91, 3) := by decide +kernel
theorem dX10_readsLine_97 : decode (dc DX10_readsLine) 97 = .ok (.invokevirtual 116, 3) := by decide +kernel
theorem dX10_readsLine_100 : decode (dc DX10_readsLine) 100 = .ok (.aload_n 0, 1) := by decide +kernel
theorem dX10_readsLine_101 : decode (dc DX10_readsLine) 101 = .ok (.invokevirtual 214, 3) := by decide +kernel
theorem dX10_readsLine_104 : decode (dc DX10_readsLine) 104 = .ok (.return_, 1) := by decide +kernel
theorem dX10_doesWay_0 : decode (dc DX10_doesWay) 0 = .ok (.iconst 0, 1) := by decide +kernel
theorem dX10_doesWay_1 : decode (dc DX10_doesWay) 1 = .ok (.istore_n 1, 1) := by decide +kernel
theorem dX10_doesWay_2 : decode (dc DX10_doesWay) 2 = .ok (.iload_n 1, 1) := by decide +kernel
theorem dX10_doesWay_3 : decode (dc DX10_doesWay) 3 = .ok (.aload_n 0, 1) := by decide +kernel
theorem dX10_doesWay_4 : decode (dc DX10_doesWay) 4 = .ok (.getfield 249, 3) := by decide +kernel
theorem dX10_doesWay_7 : decode (dc DX10_doesWay) 7 = .ok (.if_icmp .ge 30, 3) := by decide +kernel
theorem dX10_doesWay_10 : decode (dc DX10_doesWay) 10 = .ok (.aload_n 0, 1) := by decide +kernel
theorem dX10_doesWay_11 : decode (dc DX10_doesWay) 11 = .ok (.getfield 28, 3) := by decide +kernel
theorem dX10_doesWay_14 : decode (dc DX10_doesWay) 14 = .ok (.iconst 0, 1) := by decide +kernel
theorem dX10_doesWay_15 : decode (dc DX10_doesWay) 15 = .ok (.aaload, 1) := by decide +kernel
theorem dX10_doesWay_16 : decode (dc DX10_doesWay) 16 = .ok (.aload_n 0, 1) := by decide +kernel
theorem dX10_doesWay_17 : decode (dc DX10_doesWay) 17 = .ok (.getfield 42, 3) := by decide +kernel
theorem dX10_doesWay_20 : decode (dc DX10_doesWay) 20 = .ok (.iload_n 1, 1) := by decide +kernel
theorem dX10_doesWay_21 : decode (dc DX10_doesWay) 21 = .ok (.iaload, 1) := by decide +kernel
theorem dX10_doesWay_22 : decode (dc DX10_doesWay) 22 = .ok (.aload_n 0, 1) := by decide +kernel
theorem dX10_doesWay_23 : decode (dc DX10_doesWay) 23 = .ok (.getfield 42, 3) := by decide +kernel
theorem dX10_doesWay_26 : decode (dc DX10_doesWay) 26 = .ok (.iload_n 1, 1) := by decide +kernel
theorem dX10_doesWay_27 : decode (dc DX10_doesWay) 27 = .ok (.iconst 1, 1) := by decide +kernel
theorem dX10_doesWay_28 : decode (dc DX10_doesWay) 28 = .ok (.iadd, 1) := by decide +kernel
theorem dX10_doesWay_29 : decode (dc DX10_doesWay) 29 = .ok (.iaload, 1) := by decide +kernel
theorem dX10_doesWay_30 : decode (dc DX10_doesWay) 30 = .ok (.iastore, 1) := by decide +kernel
theorem dX10_doesWay_31 : decode (dc DX10_doesWay) 31 = .ok (.iinc 1 2, 3) := by decide +kernel
theorem dX10_doesWay_34 : decode (dc DX10_doesWay) 34 = .ok (.goto (-32), 3) := by decide +kernel
theorem dX10_doesWay_37 : decode (dc DX10_doesWay) 37 = .ok (.return_, 1) := by decide +kernel
theorem dX10_isThere_0 : decode (dc DX10_isThere) 0 = .ok (.aload_n 0, 1) := by decide +kernel
theorem dX10_isThere_1 : decode (dc DX10_isThere) 1 = .ok (.getfield 22, 3) := by decide +kernel
theorem dX10_isThere_4 : decode (dc DX10_isThere) 4 = .ok (.iconst 0, 1) := by decide +kernel
theorem dX10_isThere_5 : decode (dc DX10_isThere) 5 = .ok (.aaload, 1) := by decide +kernel
theorem dX10_isThere_6 : decode (dc DX10_isThere) 6 = .ok (.iload_n 1, 1) := by decide +kernel
theorem dX10_isThere_7 : decode (dc DX10_isThere) 7 = .ok (.ifCond .ne 7, 3) := by decide +kernel
theorem dX10_isThere_10 : decode (dc DX10_isThere) 10 = .ok (.iconst 3, 1) := by decide +kernel
theorem dX10_isThere_11 : decode (dc DX10_isThere) 11 = .ok (.goto 4, 3) := by decide +kernel
theorem dX10_isThere_14 : decode (dc DX10_isThere) 14 = .ok (.iconst 4, 1) := by decide +kernel
theorem dX10_isThere_15 : decode (dc DX10_isThere) 15 = .ok (.iaload, 1) := by decide +kernel
theorem dX10_isThere_16 : decode (dc DX10_isThere) 16 = .ok (.iload_n 2, 1) := by decide +kernel
theorem dX10_isThere_17 : decode (dc DX10_isThere) 17 = .ok (.invokestatic 182, 3) := by decide +kernel
theorem dX10_isThere_20 : decode (dc DX10_isThere) 20 = .ok (.ireturn, 1) := by decide +kernel
theorem dX10_partnerOf_0 : decode (dc DX10_partnerOf) 0 = .ok (.iload_n 1, 1) := by decide +kernel
theorem dX10_partnerOf_1 : decode (dc DX10_partnerOf) 1 = .ok (.ifCond .ne 14, 3) := by decide +kernel
theorem dX10_partnerOf_4 : decode (dc DX10_partnerOf) 4 = .ok (.aload_n 0, 1) := by decide +kernel
theorem dX10_partnerOf_5 : decode (dc DX10_partnerOf) 5 = .ok (.getfield 28, 3) := by decide +kernel
theorem dX10_partnerOf_8 : decode (dc DX10_partnerOf) 8 = .ok (.iconst 0, 1) := by decide +kernel
theorem dX10_partnerOf_9 : decode (dc DX10_partnerOf) 9 = .ok (.aaload, 1) := by decide +kernel
theorem dX10_partnerOf_10 : decode (dc DX10_partnerOf) 10 = .ok (.iload_n 2, 1) := by decide +kernel
theorem dX10_partnerOf_11 : decode (dc DX10_partnerOf) 11 = .ok (.iaload, 1) := by decide +kernel
theorem dX10_partnerOf_12 : decode (dc DX10_partnerOf) 12 = .ok (.goto 13, 3) := by decide +kernel
theorem dX10_partnerOf_15 : decode (dc DX10_partnerOf) 15 = .ok (.aload_n 0, 1) := by decide +kernel
theorem dX10_partnerOf_16 : decode (dc DX10_partnerOf) 16 = .ok (.getfield 28, 3) := by decide +kernel
theorem dX10_partnerOf_19 : decode (dc DX10_partnerOf) 19 = .ok (.iconst 0, 1) := by decide +kernel
theorem dX10_partnerOf_20 : decode (dc DX10_partnerOf) 20 = .ok (.aaload, 1) := by decide +kernel
theorem dX10_partnerOf_21 : decode (dc DX10_partnerOf) 21 = .ok (.iload_n 2, 1) := by decide +kernel
theorem dX10_partnerOf_22 : decode (dc DX10_partnerOf) 22 = .ok (.invokestatic 178, 3) := by decide +kernel
theorem dX10_partnerOf_25 : decode (dc DX10_partnerOf) 25 = .ok (.ireturn, 1) := by decide +kernel
theorem dX10_isFree_0 : decode (dc DX10_isFree) 0 = .ok (.aload_n 0, 1) := by decide +kernel
theorem dX10_isFree_1 : decode (dc DX10_isFree) 1 = .ok (.iload_n 1, 1) := by decide +kernel
theorem dX10_isFree_2 : decode (dc DX10_isFree) 2 = .ok (.iload_n 2, 1) := by decide +kernel
theorem dX10_isFree_3 : decode (dc DX10_isFree) 3 = .ok (.invokevirtual 240, 3) := by decide +kernel
theorem dX10_isFree_6 : decode (dc DX10_isFree) 6 = .ok (.ifCond .eq 17, 3) := by decide +kernel
theorem dX10_isFree_9 : decode (dc DX10_isFree) 9 = .ok (.aload_n 0, 1) := by decide +kernel
theorem dX10_isFree_10 : decode (dc DX10_isFree) 10 = .ok (.iload_n 1, 1) := by decide +kernel
theorem dX10_isFree_11 : decode (dc DX10_isFree) 11 = .ok (.iload_n 2, 1) := by decide +kernel
theorem dX10_isFree_12 : decode (dc DX10_isFree) 12 = .ok (.invokevirtual 243, 3) := by decide +kernel
theorem dX10_isFree_15 : decode (dc DX10_isFree) 15 = .ok (.iconst (-1), 1) := by decide +kernel
theorem dX10_isFree_16 : decode (dc DX10_isFree) 16 = .ok (.if_icmp .ne 7, 3) := by decide +kernel
theorem dX10_isFree_19 : decode (dc DX10_isFree) 19 = .ok (.iconst 1, 1) := by decide +kernel
theorem dX10_isFree_20 : decode (dc DX10_isFree) 20 = .ok (.goto 4, 3) := by decide +kernel
theorem dX10_isFree_23 : decode (dc DX10_isFree) 23 = .ok (.iconst 0, 1) := by decide +kernel
theorem dX10_isFree_24 : decode (dc DX10_isFree) 24 = .ok (.ireturn, 1) := by decide +kernel
theorem dX10_openTo_0 : decode (dc DX10_openTo) 0 = .ok (.aload_n 0, 1) := by decide +kernel
theorem dX10_openTo_1 : decode (dc DX10_openTo) 1 = .ok (.getfield 25, 3) := by decide +kernel
theorem dX10_openTo_4 : decode (dc DX10_openTo) 4 = .ok (.iconst 0, 1) := by decide +kernel
theorem dX10_openTo_5 : decode (dc DX10_openTo) 5 = .ok (.aaload, 1) := by decide +kernel
theorem dX10_openTo_6 : decode (dc DX10_openTo) 6 = .ok (.iload_n 1, 1) := by decide +kernel
theorem dX10_openTo_7 : decode (dc DX10_openTo) 7 = .ok (.iaload, 1) := by decide +kernel
theorem dX10_openTo_8 : decode (dc DX10_openTo) 8 = .ok (.aload_n 0, 1) := by decide +kernel
theorem dX10_openTo_9 : decode (dc DX10_openTo) 9 = .ok (.getfield 22, 3) := by decide +kernel
theorem dX10_openTo_12 : decode (dc DX10_openTo) 12 = .ok (.iconst 0, 1) := by decide +kernel
theorem dX10_openTo_13 : decode (dc DX10_openTo) 13 = .ok (.aaload, 1) := by decide +kernel
theorem dX10_openTo_14 : decode (dc DX10_openTo) 14 = .ok (.iconst 4, 1) := by decide +kernel
theorem dX10_openTo_15 : decode (dc DX10_openTo) 15 = .ok (.iaload, 1) := by decide +kernel
theorem dX10_openTo_16 : decode (dc DX10_openTo) 16 = .ok (.iand, 1) := by decide +kernel
theorem dX10_openTo_17 : decode (dc DX10_openTo) 17 = .ok (.aload_n 0, 1) := by decide +kernel
theorem dX10_openTo_18 : decode (dc DX10_openTo) 18 = .ok (.getfield 28, 3) := by decide +kernel
theorem dX10_openTo_21 : decode (dc DX10_openTo) 21 = .ok (.iconst 0, 1) := by decide +kernel
theorem dX10_openTo_22 : decode (dc DX10_openTo) 22 = .ok (.aaload, 1) := by decide +kernel
theorem dX10_openTo_23 : decode (dc DX10_openTo) 23 = .ok (.iload_n 1, 1) := by decide +kernel
theorem dX10_openTo_24 : decode (dc DX10_openTo) 24 = .ok (.iaload, 1) := by decide +kernel
theorem dX10_openTo_25 : decode (dc DX10_openTo) 25 = .ok (.iconst (-1), 1) := by decide +kernel
theorem dX10_openTo_26 : decode (dc DX10_openTo) 26 = .ok (.if_icmp .ne 7, 3) := by decide +kernel
theorem dX10_openTo_29 : decode (dc DX10_openTo) 29 = .ok (.iconst (-1), 1) := by decide +kernel
theorem dX10_openTo_30 : decode (dc DX10_openTo) 30 = .ok (.goto 15, 3) := by decide +kernel
theorem dX10_openTo_33 : decode (dc DX10_openTo) 33 = .ok (.iconst 1, 1) := by decide +kernel
theorem dX10_openTo_34 : decode (dc DX10_openTo) 34 = .ok (.aload_n 0, 1) := by decide +kernel
theorem dX10_openTo_35 : decode (dc DX10_openTo) 35 = .ok (.getfield 28, 3) := by decide +kernel
theorem dX10_openTo_38 : decode (dc DX10_openTo) 38 = .ok (.iconst 0, 1) := by decide +kernel
theorem dX10_openTo_39 : decode (dc DX10_openTo) 39 = .ok (.aaload, 1) := by decide +kernel
theorem dX10_openTo_40 : decode (dc DX10_openTo) 40 = .ok (.iload_n 1, 1) := by decide +kernel
theorem dX10_openTo_41 : decode (dc DX10_openTo) 41 = .ok (.iaload, 1) := by decide +kernel
theorem dX10_openTo_42 : decode (dc DX10_openTo) 42 = .ok (.ishl, 1) := by decide +kernel
theorem dX10_openTo_43 : decode (dc DX10_openTo) 43 = .ok (.iconst (-1), 1) := by decide +kernel
theorem dX10_openTo_44 : decode (dc DX10_openTo) 44 = .ok (.ixor, 1) := by decide +kernel
theorem dX10_openTo_45 : decode (dc DX10_openTo) 45 = .ok (.iand, 1) := by decide +kernel
theorem dX10_openTo_46 : decode (dc DX10_openTo) 46 = .ok (.ireturn, 1) := by decide +kernel
theorem dX10_laysFar_0 : decode (dc DX10_laysFar) 0 = .ok (.iconst 0, 1) := by decide +kernel
theorem dX10_laysFar_1 : decode (dc DX10_laysFar) 1 = .ok (.istore_n 1, 1) := by decide +kernel
theorem dX10_laysFar_2 : decode (dc DX10_laysFar) 2 = .ok (.iload_n 1, 1) := by decide +kernel
theorem dX10_laysFar_3 : decode (dc DX10_laysFar) 3 = .ok (.bipush 12, 2) := by decide +kernel
theorem dX10_laysFar_5 : decode (dc DX10_laysFar) 5 = .ok (.if_icmp .ge 17, 3) := by decide +kernel
theorem dX10_laysFar_8 : decode (dc DX10_laysFar) 8 = .ok (.aload_n 0, 1) := by decide +kernel
theorem dX10_laysFar_9 : decode (dc DX10_laysFar) 9 = .ok (.getfield 39, 3) := by decide +kernel
theorem dX10_laysFar_12 : decode (dc DX10_laysFar) 12 = .ok (.iload_n 1, 1) := by decide +kernel
theorem dX10_laysFar_13 : decode (dc DX10_laysFar) 13 = .ok (.ldc 122, 2) := by decide +kernel
theorem dX10_laysFar_15 : decode (dc DX10_laysFar) 15 = .ok (.iastore, 1) := by decide +kernel
theorem dX10_laysFar_16 : decode (dc DX10_laysFar) 16 = .ok (.iinc 1 1, 3) := by decide +kernel
theorem dX10_laysFar_19 : decode (dc DX10_laysFar) 19 = .ok (.goto (-17), 3) := by decide +kernel
theorem dX10_laysFar_22 : decode (dc DX10_laysFar) 22 = .ok (.iconst 1, 1) := by decide +kernel
theorem dX10_laysFar_23 : decode (dc DX10_laysFar) 23 = .ok (.istore_n 1, 1) := by decide +kernel
theorem dX10_laysFar_24 : decode (dc DX10_laysFar) 24 = .ok (.iload_n 1, 1) := by decide +kernel
theorem dX10_laysFar_25 : decode (dc DX10_laysFar) 25 = .ok (.ifCond .eq 128, 3) := by decide +kernel
theorem dX10_laysFar_28 : decode (dc DX10_laysFar) 28 = .ok (.iconst 0, 1) := by decide +kernel
theorem dX10_laysFar_29 : decode (dc DX10_laysFar) 29 = .ok (.istore_n 1, 1) := by decide +kernel
theorem dX10_laysFar_30 : decode (dc DX10_laysFar) 30 = .ok (.iconst 0, 1) := by decide +kernel
theorem dX10_laysFar_31 : decode (dc DX10_laysFar) 31 = .ok (.istore_n 2, 1) := by decide +kernel
theorem dX10_laysFar_32 : decode (dc DX10_laysFar) 32 = .ok (.iload_n 2, 1) := by decide +kernel
theorem dX10_laysFar_33 : decode (dc DX10_laysFar) 33 = .ok (.aload_n 0, 1) := by decide +kernel
theorem dX10_laysFar_34 : decode (dc DX10_laysFar) 34 = .ok (.getfield 22, 3) := by decide +kernel
theorem dX10_laysFar_37 : decode (dc DX10_laysFar) 37 = .ok (.iconst 0, 1) := by decide +kernel
theorem dX10_laysFar_38 : decode (dc DX10_laysFar) 38 = .ok (.aaload, 1) := by decide +kernel
theorem dX10_laysFar_39 : decode (dc DX10_laysFar) 39 = .ok (.iconst 0, 1) := by decide +kernel
theorem dX10_laysFar_40 : decode (dc DX10_laysFar) 40 = .ok (.iaload, 1) := by decide +kernel
theorem dX10_laysFar_41 : decode (dc DX10_laysFar) 41 = .ok (.if_icmp .ge 109, 3) := by decide +kernel
theorem dX10_laysFar_44 : decode (dc DX10_laysFar) 44 = .ok (.aload_n 0, 1) := by decide +kernel
theorem dX10_laysFar_45 : decode (dc DX10_laysFar) 45 = .ok (.iconst 0, 1) := by decide +kernel
theorem dX10_laysFar_46 : decode (dc DX10_laysFar) 46 = .ok (.iload_n 2, 1) := by decide +kernel
theorem dX10_laysFar_47 : decode (dc DX10_laysFar) 47 = .ok (.invokevirtual 240, 3) := by decide +kernel
theorem dX10_laysFar_50 : decode (dc DX10_laysFar) 50 = .ok (.ifCond .ne 6, 3) := by decide +kernel
theorem dX10_laysFar_53 : decode (dc DX10_laysFar) 53 = .ok (.goto 91, 3) := by decide +kernel
theorem dX10_laysFar_56 : decode (dc DX10_laysFar) 56 = .ok (.iconst 0, 1) := by decide +kernel
theorem dX10_laysFar_57 : decode (dc DX10_laysFar) 57 = .ok (.istore_n 3, 1) := by decide +kernel
theorem dX10_laysFar_58 : decode (dc DX10_laysFar) 58 = .ok (.iload_n 3, 1) := by decide +kernel
theorem dX10_laysFar_59 : decode (dc DX10_laysFar) 59 = .ok (.aload_n 0, 1) := by decide +kernel
theorem dX10_laysFar_60 : decode (dc DX10_laysFar) 60 = .ok (.getfield 22, 3) := by decide +kernel
theorem dX10_laysFar_63 : decode (dc DX10_laysFar) 63 = .ok (.iconst 0, 1) := by decide +kernel
theorem dX10_laysFar_64 : decode (dc DX10_laysFar) 64 = .ok (.aaload, 1) := by decide +kernel
theorem dX10_laysFar_65 : decode (dc DX10_laysFar) 65 = .ok (.iconst 1, 1) := by decide +kernel
theorem dX10_laysFar_66 : decode (dc DX10_laysFar) 66 = .ok (.iaload, 1) := by decide +kernel
theorem dX10_laysFar_67 : decode (dc DX10_laysFar) 67 = .ok (.if_icmp .ge 77, 3) := by decide +kernel
theorem dX10_laysFar_70 : decode (dc DX10_laysFar) 70 = .ok (.aload_n 0, 1) := by decide +kernel
theorem dX10_laysFar_71 : decode (dc DX10_laysFar) 71 = .ok (.iload_n 2, 1) := by decide +kernel
theorem dX10_laysFar_72 : decode (dc DX10_laysFar) 72 = .ok (.invokevirtual 246, 3) := by decide +kernel
theorem dX10_laysFar_75 : decode (dc DX10_laysFar) 75 = .ok (.iload_n 3, 1) := by decide +kernel
theorem dX10_laysFar_76 : decode (dc DX10_laysFar) 76 = .ok (.invokestatic 182, 3) := by decide +kernel
theorem dX10_laysFar_79 : decode (dc DX10_laysFar) 79 = .ok (.ifCond .ne 6, 3) := by decide +kernel
theorem dX10_laysFar_82 : decode (dc DX10_laysFar) 82 = .ok (.goto 56, 3) := by decide +kernel
theorem dX10_laysFar_85 : decode (dc DX10_laysFar) 85 = .ok (.aload_n 0, 1) := by decide +kernel
theorem dX10_laysFar_86 : decode (dc DX10_laysFar) 86 = .ok (.iconst 1, 1) := by decide +kernel
theorem dX10_laysFar_87 : decode (dc DX10_laysFar) 87 = .ok (.iload_n 3, 1) := by decide +kernel
theorem dX10_laysFar_88 : decode (dc DX10_laysFar) 88 = .ok (.invokevirtual 243, 3) := by decide +kernel
theorem dX10_laysFar_91 : decode (dc DX10_laysFar) 91 = .ok (.istore 4, 2) := by decide +kernel
theorem dX10_laysFar_93 : decode (dc DX10_laysFar) 93 = .ok (.iload 4, 2) := by decide +kernel
theorem dX10_laysFar_95 : decode (dc DX10_laysFar) 95 = .ok (.iconst (-1), 1) := by decide +kernel
theorem dX10_laysFar_96 : decode (dc DX10_laysFar) 96 = .ok (.if_icmp .ne 7, 3) := by decide +kernel
theorem dX10_laysFar_99 : decode (dc DX10_laysFar) 99 = .ok (.iconst 1, 1) := by decide +kernel
theorem dX10_laysFar_100 : decode (dc DX10_laysFar) 100 = .ok (.goto 12, 3) := by decide +kernel
theorem dX10_laysFar_103 : decode (dc DX10_laysFar) 103 = .ok (.aload_n 0, 1) := by decide +kernel
theorem dX10_laysFar_104 : decode (dc DX10_laysFar) 104 = .ok (.getfield 39, 3) := by decide +kernel
theorem dX10_laysFar_107 : decode (dc DX10_laysFar) 107 = .ok (.iload 4, 2) := by decide +kernel
theorem dX10_laysFar_109 : decode (dc DX10_laysFar) 109 = .ok (.iaload, 1) := by decide +kernel
theorem dX10_laysFar_110 : decode (dc DX10_laysFar) 110 = .ok (.iconst 2, 1) := by decide +kernel
theorem dX10_laysFar_111 : decode (dc DX10_laysFar) 111 = .ok (.iadd, 1) := by decide +kernel
theorem dX10_laysFar_112 : decode (dc DX10_laysFar) 112 = .ok (.istore 5, 2) := by decide +kernel
theorem dX10_laysFar_114 : decode (dc DX10_laysFar) 114 = .ok (.iload 5, 2) := by decide +kernel
theorem dX10_laysFar_116 : decode (dc DX10_laysFar) 116 = .ok (.aload_n 0, 1) := by decide +kernel
theorem dX10_laysFar_117 : decode (dc DX10_laysFar) 117 = .ok (.getfield 39, 3) := by decide +kernel
theorem dX10_laysFar_120 : decode (dc DX10_laysFar) 120 = .ok (.iload_n 2, 1) := by decide +kernel
theorem dX10_laysFar_121 : decode (dc DX10_laysFar) 121 = .ok (.iaload, 1) := by decide +kernel
theorem dX10_laysFar_122 : decode (dc DX10_laysFar) 122 = .ok (.if_icmp .lt 6, 3) := by decide +kernel
theorem dX10_laysFar_125 : decode (dc DX10_laysFar) 125 = .ok (.goto 13, 3) := by decide +kernel
theorem dX10_laysFar_128 : decode (dc DX10_laysFar) 128 = .ok (.aload_n 0, 1) := by decide +kernel
theorem dX10_laysFar_129 : decode (dc DX10_laysFar) 129 = .ok (.getfield 39, 3) := by decide +kernel
theorem dX10_laysFar_132 : decode (dc DX10_laysFar) 132 = .ok (.iload_n 2, 1) := by decide +kernel
theorem dX10_laysFar_133 : decode (dc DX10_laysFar) 133 = .ok (.iload 5, 2) := by decide +kernel
theorem dX10_laysFar_135 : decode (dc DX10_laysFar) 135 = .ok (.iastore, 1) := by decide +kernel
theorem dX10_laysFar_136 : decode (dc DX10_laysFar) 136 = .ok (.iconst 1, 1) := by decide +kernel
theorem dX10_laysFar_137 : decode (dc DX10_laysFar) 137 = .ok (.istore_n 1, 1) := by decide +kernel
theorem dX10_laysFar_138 : decode (dc DX10_laysFar) 138 = .ok (.iinc 3 1, 3) := by decide +kernel
theorem dX10_laysFar_141 : decode (dc DX10_laysFar) 141 = .ok (.goto (-83), 3) := by decide +kernel
theorem dX10_laysFar_144 : decode (dc DX10_laysFar) 144 = .ok (.iinc 2 1, 3) := by decide +kernel
theorem dX10_laysFar_147 : decode (dc DX10_laysFar) 147 = .ok (.goto (-115), 3) := by decide +kernel
theorem dX10_laysFar_150 : decode (dc DX10_laysFar) 150 = .ok (.goto (-126), 3) := by decide +kernel
theorem dX10_laysFar_153 : decode (dc DX10_laysFar) 153 = .ok (.return_, 1) := by decide +kernel
theorem dX10_laysWay_0 : decode (dc DX10_laysWay) 0 = .ok (.aload_n 0, 1) := by decide +kernel
theorem dX10_laysWay_1 : decode (dc DX10_laysWay) 1 = .ok (.iconst 0, 1) := by decide +kernel
theorem dX10_laysWay_2 : decode (dc DX10_laysWay) 2 = .ok (.putfield 249, 3) := by decide +kernel
theorem dX10_laysWay_5 : decode (dc DX10_laysWay) 5 = .ok (.iload_n 1, 1) := by decide +kernel
theorem dX10_laysWay_6 : decode (dc DX10_laysWay) 6 = .ok (.istore_n 2, 1) := by decide +kernel
theorem dX10_laysWay_7 : decode (dc DX10_laysWay) 7 = .ok (.iload_n 2, 1) := by decide +kernel
theorem dX10_laysWay_8 : decode (dc DX10_laysWay) 8 = .ok (.iconst (-1), 1) := by decide +kernel
theorem dX10_laysWay_9 : decode (dc DX10_laysWay) 9 = .ok (.if_icmp .eq 101, 3) := by decide +kernel
theorem dX10_laysWay_12 : decode (dc DX10_laysWay) 12 = .ok (.iconst 0, 1) := by decide +kernel
theorem dX10_laysWay_13 : decode (dc DX10_laysWay) 13 = .ok (.istore_n 3, 1) := by decide +kernel
theorem dX10_laysWay_14 : decode (dc DX10_laysWay) 14 = .ok (.aload_n 0, 1) := by decide +kernel
theorem dX10_laysWay_15 : decode (dc DX10_laysWay) 15 = .ok (.iload_n 2, 1) := by decide +kernel
theorem dX10_laysWay_16 : decode (dc DX10_laysWay) 16 = .ok (.invokevirtual 246, 3) := by decide +kernel
theorem dX10_laysWay_19 : decode (dc DX10_laysWay) 19 = .ok (.iload_n 3, 1) := by decide +kernel
theorem dX10_laysWay_20 : decode (dc DX10_laysWay) 20 = .ok (.invokestatic 182, 3) := by decide +kernel
theorem dX10_laysWay_23 : decode (dc DX10_laysWay) 23 = .ok (.ifCond .eq 39, 3) := by decide +kernel
theorem dX10_laysWay_26 : decode (dc DX10_laysWay) 26 = .ok (.aload_n 0, 1) := by decide +kernel
theorem dX10_laysWay_27 : decode (dc DX10_laysWay) 27 = .ok (.iconst 1, 1) := by decide +kernel
theorem dX10_laysWay_28 : decode (dc DX10_laysWay) 28 = .ok (.iload_n 3, 1) := by decide +kernel
theorem dX10_laysWay_29 : decode (dc DX10_laysWay) 29 = .ok (.invokevirtual 243, 3) := by decide +kernel
theorem dX10_laysWay_32 : decode (dc DX10_laysWay) 32 = .ok (.iconst (-1), 1) := by decide +kernel
theorem dX10_laysWay_33 : decode (dc DX10_laysWay) 33 = .ok (.if_icmp .ne 7, 3) := by decide +kernel
theorem dX10_laysWay_36 : decode (dc DX10_laysWay) 36 = .ok (.iconst 1, 1) := by decide +kernel
theorem dX10_laysWay_37 : decode (dc DX10_laysWay) 37 = .ok (.goto 16, 3) := by decide +kernel
theorem dX10_laysWay_40 : decode (dc DX10_laysWay) 40 = .ok (.aload_n 0, 1) := by decide +kernel
theorem dX10_laysWay_41 : decode (dc DX10_laysWay) 41 = .ok (.getfield 39, 3) := by decide +kernel
theorem dX10_laysWay_44 : decode (dc DX10_laysWay) 44 = .ok (.aload_n 0, 1) := by decide +kernel
theorem dX10_laysWay_45 : decode (dc DX10_laysWay) 45 = .ok (.iconst 1, 1) := by decide +kernel
theorem dX10_laysWay_46 : decode (dc DX10_laysWay) 46 = .ok (.iload_n 3, 1) := by decide +kernel
theorem dX10_laysWay_47 : decode (dc DX10_laysWay) 47 = .ok (.invokevirtual 243, 3) := by decide +kernel
theorem dX10_laysWay_50 : decode (dc DX10_laysWay) 50 = .ok (.iaload, 1) := by decide +kernel
theorem dX10_laysWay_51 : decode (dc DX10_laysWay) 51 = .ok (.iconst 2, 1) := by decide +kernel
theorem dX10_laysWay_52 : decode (dc DX10_laysWay) 52 = .ok (.iadd, 1) := by decide +kernel
theorem dX10_laysWay_53 : decode (dc DX10_laysWay) 53 = .ok (.aload_n 0, 1) := by decide +kernel
theorem dX10_laysWay_54 : decode (dc DX10_laysWay) 54 = .ok (.getfield 39, 3) := by decide +kernel
theorem dX10_laysWay_57 : decode (dc DX10_laysWay) 57 = .ok (.iload_n 2, 1) := by decide +kernel
theorem dX10_laysWay_58 : decode (dc DX10_laysWay) 58 = .ok (.iaload, 1) := by decide +kernel
theorem dX10_laysWay_59 : decode (dc DX10_laysWay) 59 = .ok (.if_icmp .eq 9, 3) := by decide +kernel
theorem dX10_laysWay_62 : decode (dc DX10_laysWay) 62 = .ok (.iinc 3 1, 3) := by decide +kernel
theorem dX10_laysWay_65 : decode (dc DX10_laysWay) 65 = .ok (.goto (-51), 3) := by decide +kernel
theorem dX10_laysWay_68 : decode (dc DX10_laysWay) 68 = .ok (.aload_n 0, 1) := by decide +kernel
theorem dX10_laysWay_69 : decode (dc DX10_laysWay) 69 = .ok (.getfield 42, 3) := by decide +kernel
theorem dX10_laysWay_72 : decode (dc DX10_laysWay) 72 = .ok (.aload_n 0, 1) := by decide +kernel
theorem dX10_laysWay_73 : decode (dc DX10_laysWay) 73 = .ok (.getfield 249, 3) := by decide +kernel
theorem dX10_laysWay_76 : decode (dc DX10_laysWay) 76 = .ok (.iload_n 2, 1) := by decide +kernel
theorem dX10_laysWay_77 : decode (dc DX10_laysWay) 77 = .ok (.iastore, 1) := by decide +kernel
theorem dX10_laysWay_78 : decode (dc DX10_laysWay) 78 = .ok (.aload_n 0, 1) := by decide +kernel
theorem dX10_laysWay_79 : decode (dc DX10_laysWay) 79 = .ok (.getfield 42, 3) := by decide +kernel
theorem dX10_laysWay_82 : decode (dc DX10_laysWay) 82 = .ok (.aload_n 0, 1) := by decide +kernel
theorem dX10_laysWay_83 : decode (dc DX10_laysWay) 83 = .ok (.getfield 249, 3) := by decide +kernel
theorem dX10_laysWay_86 : decode (dc DX10_laysWay) 86 = .ok (.iconst 1, 1) := by decide +kernel
theorem dX10_laysWay_87 : decode (dc DX10_laysWay) 87 = .ok (.iadd, 1) := by decide +kernel
theorem dX10_laysWay_88 : decode (dc DX10_laysWay) 88 = .ok (.iload_n 3, 1) := by decide +kernel
theorem dX10_laysWay_89 : decode (dc DX10_laysWay) 89 = .ok (.iastore, 1) := by decide +kernel
theorem dX10_laysWay_90 : decode (dc DX10_laysWay) 90 = .ok (.aload_n 0, 1) := by decide +kernel
theorem dX10_laysWay_91 : decode (dc DX10_laysWay) 91 = .ok (.dup, 1) := by decide +kernel
theorem dX10_laysWay_92 : decode (dc DX10_laysWay) 92 = .ok (.getfield 249, 3) := by decide +kernel
theorem dX10_laysWay_95 : decode (dc DX10_laysWay) 95 = .ok (.iconst 2, 1) := by decide +kernel
theorem dX10_laysWay_96 : decode (dc DX10_laysWay) 96 = .ok (.iadd, 1) := by decide +kernel
theorem dX10_laysWay_97 : decode (dc DX10_laysWay) 97 = .ok (.putfield 249, 3) := by decide +kernel
theorem dX10_laysWay_100 : decode (dc DX10_laysWay) 100 = .ok (.aload_n 0, 1) := by decide +kernel
theorem dX10_laysWay_101 : decode (dc DX10_laysWay) 101 = .ok (.iconst 1, 1) := by decide +kernel
theorem dX10_laysWay_102 : decode (dc DX10_laysWay) 102 = .ok (.iload_n 3, 1) := by decide +kernel
theorem dX10_laysWay_103 : decode (dc DX10_laysWay) 103 = .ok (.invokevirtual 243, 3) := by decide +kernel
theorem dX10_laysWay_106 : decode (dc DX10_laysWay) 106 = .ok (.istore_n 2, 1) := by decide +kernel
theorem dX10_laysWay_107 : decode (dc DX10_laysWay) 107 = .ok (.goto (-100), 3) := by decide +kernel
theorem dX10_laysWay_110 : decode (dc DX10_laysWay) 110 = .ok (.return_, 1) := by decide +kernel
theorem dX10_hasWay_0 : decode (dc DX10_hasWay) 0 = .ok (.aload_n 0, 1) := by decide +kernel
theorem dX10_hasWay_1 : decode (dc DX10_hasWay) 1 = .ok (.invokevirtual 252, 3) := by decide +kernel
theorem dX10_hasWay_4 : decode (dc DX10_hasWay) 4 = .ok (.aload_n 0, 1) := by decide +kernel
theorem dX10_hasWay_5 : decode (dc DX10_hasWay) 5 = .ok (.iconst 0, 1) := by decide +kernel
theorem dX10_hasWay_6 : decode (dc DX10_hasWay) 6 = .ok (.putfield 249, 3) := by decide +kernel
theorem dX10_hasWay_9 : decode (dc DX10_hasWay) 9 = .ok (.iconst 0, 1) := by decide +kernel
theorem dX10_hasWay_10 : decode (dc DX10_hasWay) 10 = .ok (.istore_n 1, 1) := by decide +kernel
theorem dX10_hasWay_11 : decode (dc DX10_hasWay) 11 = .ok (.iload_n 1, 1) := by decide +kernel
theorem dX10_hasWay_12 : decode (dc DX10_hasWay) 12 = .ok (.aload_n 0, 1) := by decide +kernel
theorem dX10_hasWay_13 : decode (dc DX10_hasWay) 13 = .ok (.getfield 22, 3) := by decide +kernel
theorem dX10_hasWay_16 : decode (dc DX10_hasWay) 16 = .ok (.iconst 0, 1) := by decide +kernel
theorem dX10_hasWay_17 : decode (dc DX10_hasWay) 17 = .ok (.aaload, 1) := by decide +kernel
theorem dX10_hasWay_18 : decode (dc DX10_hasWay) 18 = .ok (.iconst 0, 1) := by decide +kernel
theorem dX10_hasWay_19 : decode (dc DX10_hasWay) 19 = .ok (.iaload, 1) := by decide +kernel
theorem dX10_hasWay_20 : decode (dc DX10_hasWay) 20 = .ok (.if_icmp .ge 39, 3) := by decide +kernel
theorem dX10_hasWay_23 : decode (dc DX10_hasWay) 23 = .ok (.aload_n 0, 1) := by decide +kernel
theorem dX10_hasWay_24 : decode (dc DX10_hasWay) 24 = .ok (.iconst 0, 1) := by decide +kernel
theorem dX10_hasWay_25 : decode (dc DX10_hasWay) 25 = .ok (.iload_n 1, 1) := by decide +kernel
theorem dX10_hasWay_26 : decode (dc DX10_hasWay) 26 = .ok (.invokevirtual 255, 3) := by decide +kernel
theorem dX10_hasWay_29 : decode (dc DX10_hasWay) 29 = .ok (.ifCond .eq 24, 3) := by decide +kernel
theorem dX10_hasWay_32 : decode (dc DX10_hasWay) 32 = .ok (.aload_n 0, 1) := by decide +kernel
theorem dX10_hasWay_33 : decode (dc DX10_hasWay) 33 = .ok (.getfield 39, 3) := by decide +kernel
theorem dX10_hasWay_36 : decode (dc DX10_hasWay) 36 = .ok (.iload_n 1, 1) := by decide +kernel
theorem dX10_hasWay_37 : decode (dc DX10_hasWay) 37 = .ok (.iaload, 1) := by decide +kernel
theorem dX10_hasWay_38 : decode (dc DX10_hasWay) 38 = .ok (.ldc 122, 2) := by decide +kernel
theorem dX10_hasWay_40 : decode (dc DX10_hasWay) 40 = .ok (.if_icmp .lt 6, 3) := by decide +kernel
theorem dX10_hasWay_43 : decode (dc DX10_hasWay) 43 = .ok (.goto 10, 3) := by decide +kernel
theorem dX10_hasWay_46 : decode (dc DX10_hasWay) 46 = .ok (.aload_n 0, 1) := by decide +kernel
theorem dX10_hasWay_47 : decode (dc DX10_hasWay) 47 = .ok (.iload_n 1, 1) := by decide +kernel
theorem dX10_hasWay_48 : decode (dc DX10_hasWay) 48 = .ok (.invokevirtual 258, 3) := by decide +kernel
theorem dX10_hasWay_51 : decode (dc DX10_hasWay) 51 = .ok (.iconst 1, 1) := by decide +kernel
theorem dX10_hasWay_52 : decode (dc DX10_hasWay) 52 = .ok (.ireturn, 1) := by decide +kernel
theorem dX10_hasWay_53 : decode (dc DX10_hasWay) 53 = .ok (.iinc 1 1, 3) := by decide +kernel
theorem dX10_hasWay_56 : decode (dc DX10_hasWay) 56 = .ok (.goto (-45), 3) := by decide +kernel
theorem dX10_hasWay_59 : decode (dc DX10_hasWay) 59 = .ok (.iconst 0, 1) := by decide +kernel
theorem dX10_hasWay_60 : decode (dc DX10_hasWay) 60 = .ok (.ireturn, 1) := by decide +kernel
theorem dX10_settles_0 : decode (dc DX10_settles) 0 = .ok (.iconst 0, 1) := by decide +kernel
theorem dX10_settles_1 : decode (dc DX10_settles) 1 = .ok (.istore_n 2, 1) := by decide +kernel
theorem dX10_settles_2 : decode (dc DX10_settles) 2 = .ok (.iload_n 2, 1) := by decide +kernel
theorem dX10_settles_3 : decode (dc DX10_settles) 3 = .ok (.iload_n 1, 1) := by decide +kernel
theorem dX10_settles_4 : decode (dc DX10_settles) 4 = .ok (.if_icmp .ge 20, 3) := by decide +kernel
theorem dX10_settles_7 : decode (dc DX10_settles) 7 = .ok (.aload_n 0, 1) := by decide +kernel
theorem dX10_settles_8 : decode (dc DX10_settles) 8 = .ok (.invokevirtual 261, 3) := by decide +kernel
theorem dX10_settles_11 : decode (dc DX10_settles) 11 = .ok (.ifCond .eq 13, 3) := by decide +kernel
theorem dX10_settles_14 : decode (dc DX10_settles) 14 = .ok (.aload_n 0, 1) := by decide +kernel
theorem dX10_settles_15 : decode (dc DX10_settles) 15 = .ok (.invokevirtual 264, 3) := by decide +kernel
theorem dX10_settles_18 : decode (dc DX10_settles) 18 = .ok (.iinc 2 1, 3) := by decide +kernel
theorem dX10_settles_21 : decode (dc DX10_settles) 21 = .ok (.goto (-19), 3) := by decide +kernel
theorem dX10_settles_24 : decode (dc DX10_settles) 24 = .ok (.iload_n 2, 1) := by decide +kernel
theorem dX10_settles_25 : decode (dc DX10_settles) 25 = .ok (.ireturn, 1) := by decide +kernel
theorem dX10_keeps_0 : decode (dc DX10_keeps) 0 = .ok (.aload_n 0, 1) := by decide +kernel
theorem dX10_keeps_1 : decode (dc DX10_keeps) 1 = .ok (.getfield 22, 3) := by decide +kernel
theorem dX10_keeps_4 : decode (dc DX10_keeps) 4 = .ok (.iconst 0, 1) := by decide +kernel
theorem dX10_keeps_5 : decode (dc DX10_keeps) 5 = .ok (.aaload, 1) := by decide +kernel
theorem dX10_keeps_6 : decode (dc DX10_keeps) 6 = .ok (.iconst 2, 1) := by decide +kernel
theorem dX10_keeps_7 : decode (dc DX10_keeps) 7 = .ok (.iaload, 1) := by decide +kernel
theorem dX10_keeps_8 : decode (dc DX10_keeps) 8 = .ok (.iconst 1, 1) := by decide +kernel
theorem dX10_keeps_9 : decode (dc DX10_keeps) 9 = .ok (.if_icmp .ne 10, 3) := by decide +kernel
theorem dX10_keeps_12 : decode (dc DX10_keeps) 12 = .ok (.aload_n 0, 1) := by decide +kernel
theorem dX10_keeps_13 : decode (dc DX10_keeps) 13 = .ok (.bipush 12, 2) := by decide +kernel
theorem dX10_keeps_15 : decode (dc DX10_keeps) 15 = .ok (.invokevirtual 267, 3) := by decide +kernel
theorem dX10_keeps_18 : decode (dc DX10_keeps) 18 = .ok (.pop, 1) := by decide +kernel
theorem dX10_keeps_19 : decode (dc DX10_keeps) 19 = .ok (.return_, 1) := by decide +kernel
theorem dX10_pairs_0 : decode (dc DX10_pairs) 0 = .ok (.iconst 0, 1) := by decide +kernel
theorem dX10_pairs_1 : decode (dc DX10_pairs) 1 = .ok (.istore_n 1, 1) := by decide +kernel
theorem dX10_pairs_2 : decode (dc DX10_pairs) 2 = .ok (.iconst 0, 1) := by decide +kernel
theorem dX10_pairs_3 : decode (dc DX10_pairs) 3 = .ok (.istore_n 2, 1) := by decide +kernel
theorem dX10_pairs_4 : decode (dc DX10_pairs) 4 = .ok (.iload_n 2, 1) := by decide +kernel
theorem dX10_pairs_5 : decode (dc DX10_pairs) 5 = .ok (.bipush 12, 2) := by decide +kernel
theorem dX10_pairs_7 : decode (dc DX10_pairs) 7 = .ok (.if_icmp .ge 29, 3) := by decide +kernel
theorem dX10_pairs_10 : decode (dc DX10_pairs) 10 = .ok (.iload_n 1, 1) := by decide +kernel
theorem dX10_pairs_11 : decode (dc DX10_pairs) 11 = .ok (.aload_n 0, 1) := by decide +kernel
theorem dX10_pairs_12 : decode (dc DX10_pairs) 12 = .ok (.getfield 28, 3) := by decide +kernel
theorem dX10_pairs_15 : decode (dc DX10_pairs) 15 = .ok (.iconst 0, 1) := by decide +kernel
theorem dX10_pairs_16 : decode (dc DX10_pairs) 16 = .ok (.aaload, 1) := by decide +kernel
theorem dX10_pairs_17 : decode (dc DX10_pairs) 17 = .ok (.iload_n 2, 1) := by decide +kernel
theorem dX10_pairs_18 : decode (dc DX10_pairs) 18 = .ok (.iaload, 1) := by decide +kernel
theorem dX10_pairs_19 : decode (dc DX10_pairs) 19 = .ok (.iconst (-1), 1) := by decide +kernel
theorem dX10_pairs_20 : decode (dc DX10_pairs) 20 = .ok (.if_icmp .eq 7, 3) := by decide +kernel
theorem dX10_pairs_23 : decode (dc DX10_pairs) 23 = .ok (.iconst 1, 1) := by decide +kernel
theorem dX10_pairs_24 : decode (dc DX10_pairs) 24 = .ok (.goto 4, 3) := by decide +kernel
theorem dX10_pairs_27 : decode (dc DX10_pairs) 27 = .ok (.iconst 0, 1) := by decide +kernel
theorem dX10_pairs_28 : decode (dc DX10_pairs) 28 = .ok (.iadd, 1) := by decide +kernel
theorem dX10_pairs_29 : decode (dc DX10_pairs) 29 = .ok (.istore_n 1, 1) := by decide +kernel
theorem dX10_pairs_30 : decode (dc DX10_pairs) 30 = .ok (.iinc 2 1, 3) := by decide +kernel
theorem dX10_pairs_33 : decode (dc DX10_pairs) 33 = .ok (.goto (-29), 3) := by decide +kernel
theorem dX10_pairs_36 : decode (dc DX10_pairs) 36 = .ok (.iload_n 1, 1) := by decide +kernel
theorem dX10_pairs_37 : decode (dc DX10_pairs) 37 = .ok (.ireturn, 1) := by decide +kernel
theorem dX10_text_0 : decode (dc DX10_text) 0 = .ok (.aload_n 0, 1) := by decide +kernel
theorem dX10_text_1 : decode (dc DX10_text) 1 = .ok (.iconst 0, 1) := by decide +kernel
theorem dX10_text_2 : decode (dc DX10_text) 2 = .ok (.putfield 82, 3) := by decide +kernel
theorem dX10_text_5 : decode (dc DX10_text) 5 = .ok (.aload_n 0, 1) := by decide +kernel
theorem dX10_text_6 : decode (dc DX10_text) 6 = .ok (.iload_n 1, 1) := by decide +kernel
theorem dX10_text_7 : decode (dc DX10_text) 7 = .ok (.iconst 0, 1) := by decide +kernel
theorem dX10_text_8 : decode (dc DX10_text) 8 = .ok (.aload_n 0, 1) := by decide +kernel
theorem dX10_text_9 : decode (dc DX10_text) 9 = .ok (.getfield 85, 3) := by decide +kernel
theorem dX10_text_12 : decode (dc DX10_text) 12 = .ok (.invokestatic 127, 3) := by decide +kernel
theorem dX10_text_15 : decode (dc DX10_text) 15 = .ok (.ifCond .ne 7, 3) := by decide +kernel
theorem dX10_text_18 : decode (dc DX10_text) 18 = .ok (.iconst 1, 1) := by decide +kernel
theorem dX10_text_19 : decode (dc DX10_text) 19 = .ok (.goto 4, 3) := by decide +kernel
theorem dX10_text_22 : decode (dc DX10_text) 22 = .ok (.iconst 0, 1) := by decide +kernel
theorem dX10_text_23 : decode (dc DX10_text) 23 = .ok (.iconst 1, 1) := by decide +kernel
theorem dX10_text_24 : decode (dc DX10_text) 24 = .ok (.iconst 1, 1) := by decide +kernel
theorem dX10_text_25 : decode (dc DX10_text) 25 = .ok (.invokevirtual 217, 3) := by decide +kernel
theorem dX10_text_28 : decode (dc DX10_text) 28 = .ok (.ifCond .eq 5, 3) := by decide +kernel
theorem dX10_text_31 : decode (dc DX10_text) 31 = .ok (.iconst 0, 1) := by decide +kernel
theorem dX10_text_32 : decode (dc DX10_text) 32 = .ok (.ireturn, 1) := by decide +kernel
theorem dX10_text_33 : decode (dc DX10_text) 33 = .ok (.aload_n 0, 1) := by decide +kernel
theorem dX10_text_34 : decode (dc DX10_text) 34 = .ok (.iconst 0, 1) := by decide +kernel
theorem dX10_text_35 : decode (dc DX10_text) 35 = .ok (.putfield 85, 3) := by decide +kernel
theorem dX10_text_38 : decode (dc DX10_text) 38 = .ok (.aload_n 0, 1) := by decide +kernel
theorem dX10_text_39 : decode (dc DX10_text) 39 = .ok (.iload_n 1, 1) := by decide +kernel
theorem dX10_text_40 : decode (dc DX10_text) 40 = .ok (.putfield 88, 3) := by decide +kernel
theorem dX10_text_43 : decode (dc DX10_text) 43 = .ok (.aload_n 0, 1) := by decide +kernel
theorem dX10_text_44 : decode (dc DX10_text) 44 = .ok (.iconst 0, 1) := by decide +kernel
theorem dX10_text_45 : decode (dc DX10_text) 45 = .ok (.putfield 91, 3) := by decide +kernel
theorem dX10_text_48 : decode (dc DX10_text) 48 = .ok (.aload_n 0, 1) := by decide +kernel
theorem dX10_text_49 : decode (dc DX10_text) 49 = .ok (.iconst 0, 1) := by decide +kernel
theorem dX10_text_50 : decode (dc DX10_text) 50 = .ok (.putfield 98, 3) := by decide +kernel
theorem dX10_text_53 : decode (dc DX10_text) 53 = .ok (.aload_n 0, 1) := by decide +kernel
theorem dX10_text_54 : decode (dc DX10_text) 54 = .ok (.iconst (-1), 1) := by decide +kernel
theorem dX10_text_55 : decode (dc DX10_text) 55 = .ok (.putfield 101, 3) := by decide +kernel
theorem dX10_text_58 : decode (dc DX10_text) 58 = .ok (.aload_n 0, 1) := by decide +kernel
theorem dX10_text_59 : decode (dc DX10_text) 59 = .ok (.iconst 0, 1) := by decide +kernel
theorem dX10_text_60 : decode (dc DX10_text) 60 = .ok (.putfield 186, 3) := by decide +kernel
theorem dX10_text_63 : decode (dc DX10_text) 63 = .ok (.aload_n 0, 1) := by decide +kernel
theorem dX10_text_64 : decode (dc DX10_text) 64 = .ok (.ldc 221, 2) := by decide +kernel
theorem dX10_text_66 : decode (dc DX10_text) 66 = .ok (.invokevirtual 174, 3) := by decide +kernel
theorem dX10_text_69 : decode (dc DX10_text) 69 = .ok (.aload_n 0, 1) := by decide +kernel
theorem dX10_text_70 : decode (dc DX10_text) 70 = .ok (.iconst 1, 1) := by decide +kernel
theorem dX10_text_71 : decode (dc DX10_text) 71 = .ok (.bipush 12, 2) := by decide +kernel
theorem dX10_text_73 : decode (dc DX10_text) 73 = .ok (.invokevirtual 161, 3) := by decide +kernel
theorem dX10_text_76 : decode (dc DX10_text) 76 = .ok (.istore_n 2, 1) := by decide +kernel
theorem dX10_text_77 : decode (dc DX10_text) 77 = .ok (.aload_n 0, 1) := by decide +kernel
theorem dX10_text_78 : decode (dc DX10_text) 78 = .ok (.invokevirtual 214, 3) := by decide +kernel
theorem dX10_text_81 : decode (dc DX10_text) 81 = .ok (.aload_n 0, 1) := by decide +kernel
theorem dX10_text_82 : decode (dc DX10_text) 82 = .ok (.ldc 223, 2) := by decide +kernel
theorem dX10_text_84 : decode (dc DX10_text) 84 = .ok (.invokevirtual 174, 3) := by decide +kernel
theorem dX10_text_87 : decode (dc DX10_text) 87 = .ok (.aload_n 0, 1) := by decide +kernel
theorem dX10_text_88 : decode (dc DX10_text) 88 = .ok (.iconst 1, 1) := by decide +kernel
theorem dX10_text_89 : decode (dc DX10_text) 89 = .ok (.iload_n 2, 1) := by decide +kernel
theorem dX10_text_90 : decode (dc DX10_text) 90 = .ok (.aload_n 0, 1) := by decide +kernel
theorem dX10_text_91 : decode (dc DX10_text) 91 = .ok (.iconst 1, 1) := by decide +kernel
theorem dX10_text_92 : decode (dc DX10_text) 92 = .ok (.bipush 12, 2) := by decide +kernel
theorem dX10_text_94 : decode (dc DX10_text) 94 = .ok (.invokevirtual 161, 3) := by decide +kernel
theorem dX10_text_97 : decode (dc DX10_text) 97 = .ok (.invokevirtual 78, 3) := by decide +kernel
theorem dX10_text_100 : decode (dc DX10_text) 100 = .ok (.aload_n 0, 1) := by decide +kernel
theorem dX10_text_101 : decode (dc DX10_text) 101 = .ok (.invokevirtual 214, 3) := by decide +kernel
theorem dX10_text_104 : decode (dc DX10_text) 104 = .ok (.aload_n 0, 1) := by decide +kernel
theorem dX10_text_105 : decode (dc DX10_text) 105 = .ok (.invokevirtual 104, 3) := by decide +kernel
theorem dX10_text_108 : decode (dc DX10_text) 108 = .ok (.ifCond .eq 18, 3) := by decide +kernel
theorem dX10_text_111 : decode (dc DX10_text) 111 = .ok (.aload_n 0, 1) := by decide +kernel
theorem dX10_text_112 : decode (dc DX10_text) 112 = .ok (.invokevirtual 108, 3) := by decide +kernel
theorem dX10_text_115 : decode (dc DX10_text) 115 = .ok (.iconst (-1), 1) := by decide +kernel
theorem dX10_text_116 : decode (dc DX10_text) 116 = .ok (.if_icmp .eq 10, 3) := by decide +kernel
theorem dX10_text_119 : decode (dc DX10_text) 119 = .ok (.aload_n 0, 1) := by decide +kernel
theorem dX10_text_120 : decode (dc DX10_text) 120 = .ok (.invokevirtual 225, 3) := by decide +kernel
theorem dX10_text_123 : decode (dc DX10_text) 123 = .ok (.goto (-19), 3) := by decide +kernel
theorem dX10_text_126 : decode (dc DX10_text) 126 = .ok (.aload_n 0, 1) := by decide +kernel
theorem dX10_text_127 : decode (dc DX10_text) 127 = .ok (.aload_n 0, 1) := by decide +kernel
theorem dX10_text_128 : decode (dc DX10_text) 128 = .ok (.getfield 101, 3) := by decide +kernel
theorem dX10_text_131 : decode (dc DX10_text) 131 = .ok (.putfield 13, 3) := by decide +kernel
theorem dX10_text_134 : decode (dc DX10_text) 134 = .ok (.aload_n 0, 1) := by decide +kernel
theorem dX10_text_135 : decode (dc DX10_text) 135 = .ok (.invokevirtual 104, 3) := by decide +kernel
theorem dX10_text_138 : decode (dc DX10_text) 138 = .ok (.ifCond .ne 11, 3) := by decide +kernel
theorem dX10_text_141 : decode (dc DX10_text) 141 = .ok (.aload_n 0, 1) := by decide +kernel
theorem dX10_text_142 : decode (dc DX10_text) 142 = .ok (.getfield 98, 3) := by decide +kernel
theorem dX10_text_145 : decode (dc DX10_text) 145 = .ok (.bipush 10, 2) := by decide +kernel
theorem dX10_text_147 : decode (dc DX10_text) 147 = .ok (.isub, 1) := by decide +kernel
theorem dX10_text_148 : decode (dc DX10_text) 148 = .ok (.ireturn, 1) := by decide +kernel
theorem dX10_text_149 : decode (dc DX10_text) 149 = .ok (.aload_n 0, 1) := by decide +kernel
theorem dX10_text_150 : decode (dc DX10_text) 150 = .ok (.iconst 1, 1) := by decide +kernel
theorem dX10_text_151 : decode (dc DX10_text) 151 = .ok (.iconst 0, 1) := by decide +kernel
theorem dX10_text_152 : decode (dc DX10_text) 152 = .ok (.invokevirtual 228, 3) := by decide +kernel
theorem dX10_text_155 : decode (dc DX10_text) 155 = .ok (.aload_n 0, 1) := by decide +kernel
theorem dX10_text_156 : decode (dc DX10_text) 156 = .ok (.iconst 0, 1) := by decide +kernel
theorem dX10_text_157 : decode (dc DX10_text) 157 = .ok (.putfield 231, 3) := by decide +kernel
theorem dX10_text_160 : decode (dc DX10_text) 160 = .ok (.aload_n 0, 1) := by decide +kernel
theorem dX10_text_161 : decode (dc DX10_text) 161 = .ok (.invokevirtual 234, 3) := by decide +kernel
theorem dX10_text_164 : decode (dc DX10_text) 164 = .ok (.aload_n 0, 1) := by decide +kernel
theorem dX10_text_165 : decode (dc DX10_text) 165 = .ok (.invokevirtual 237, 3) := by decide +kernel
theorem dX10_text_168 : decode (dc DX10_text) 168 = .ok (.ireturn, 1) := by decide +kernel
theorem dX10_fault_0 : decode (dc DX10_fault) 0 = .ok (.aload_n 0, 1) := by decide +kernel
theorem dX10_fault_1 : decode (dc DX10_fault) 1 = .ok (.iconst 0, 1) := by decide +kernel
theorem dX10_fault_2 : decode (dc DX10_fault) 2 = .ok (.putfield 82, 3) := by decide +kernel
theorem dX10_fault_5 : decode (dc DX10_fault) 5 = .ok (.aload_n 0, 1) := by decide +kernel
theorem dX10_fault_6 : decode (dc DX10_fault) 6 = .ok (.getfield 13, 3) := by decide +kernel
theorem dX10_fault_9 : decode (dc DX10_fault) 9 = .ok (.ireturn, 1) := by decide +kernel
theorem dX10_freeOf_0 : decode (dc DX10_freeOf) 0 = .ok (.iconst 0, 1) := by decide +kernel
theorem dX10_freeOf_1 : decode (dc DX10_freeOf) 1 = .ok (.istore_n 2, 1) := by decide +kernel
theorem dX10_freeOf_2 : decode (dc DX10_freeOf) 2 = .ok (.iconst 0, 1) := by decide +kernel
theorem dX10_freeOf_3 : decode (dc DX10_freeOf) 3 = .ok (.istore_n 3, 1) := by decide +kernel
theorem dX10_freeOf_4 : decode (dc DX10_freeOf) 4 = .ok (.iload_n 3, 1) := by decide +kernel
theorem dX10_freeOf_5 : decode (dc DX10_freeOf) 5 = .ok (.aload_n 0, 1) := by decide +kernel
theorem dX10_freeOf_6 : decode (dc DX10_freeOf) 6 = .ok (.getfield 22, 3) := by decide +kernel
theorem dX10_freeOf_9 : decode (dc DX10_freeOf) 9 = .ok (.iconst 0, 1) := by decide +kernel
theorem dX10_freeOf_10 : decode (dc DX10_freeOf) 10 = .ok (.aaload, 1) := by decide +kernel
theorem dX10_freeOf_11 : decode (dc DX10_freeOf) 11 = .ok (.iload_n 1, 1) := by decide +kernel
theorem dX10_freeOf_12 : decode (dc DX10_freeOf) 12 = .ok (.iaload, 1) := by decide +kernel
theorem dX10_freeOf_13 : decode (dc DX10_freeOf) 13 = .ok (.if_icmp .ge 28, 3) := by decide +kernel
theorem dX10_freeOf_16 : decode (dc DX10_freeOf) 16 = .ok (.iload_n 2, 1) := by decide +kernel
theorem dX10_freeOf_17 : decode (dc DX10_freeOf) 17 = .ok (.aload_n 0, 1) := by decide +kernel
theorem dX10_freeOf_18 : decode (dc DX10_freeOf) 18 = .ok (.iload_n 1, 1) := by decide +kernel
theorem dX10_freeOf_19 : decode (dc DX10_freeOf) 19 = .ok (.iload_n 3, 1) := by decide +kernel
theorem dX10_freeOf_20 : decode (dc DX10_freeOf) 20 = .ok (.invokevirtual 255, 3) := by decide +kernel
theorem dX10_freeOf_23 : decode (dc DX10_freeOf) 23 = .ok (.ifCond .eq 9, 3) := by decide +kernel
theorem dX10_freeOf_26 : decode (dc DX10_freeOf) 26 = .ok (.iconst 1, 1) := by decide +kernel
theorem dX10_freeOf_27 : decode (dc DX10_freeOf) 27 = .ok (.iload_n 3, 1) := by decide +kernel
theorem dX10_freeOf_28 : decode (dc DX10_freeOf) 28 = .ok (.ishl, 1) := by decide +kernel
theorem dX10_freeOf_29 : decode (dc DX10_freeOf) 29 = .ok (.goto 4, 3) := by decide +kernel
theorem dX10_freeOf_32 : decode (dc DX10_freeOf) 32 = .ok (.iconst 0, 1) := by decide +kernel
theorem dX10_freeOf_33 : decode (dc DX10_freeOf) 33 = .ok (.ior, 1) := by decide +kernel
theorem dX10_freeOf_34 : decode (dc DX10_freeOf) 34 = .ok (.istore_n 2, 1) := by decide +kernel
theorem dX10_freeOf_35 : decode (dc DX10_freeOf) 35 = .ok (.iinc 3 1, 3) := by decide +kernel
theorem dX10_freeOf_38 : decode (dc DX10_freeOf) 38 = .ok (.goto (-34), 3) := by decide +kernel
theorem dX10_freeOf_41 : decode (dc DX10_freeOf) 41 = .ok (.iload_n 2, 1) := by decide +kernel
theorem dX10_freeOf_42 : decode (dc DX10_freeOf) 42 = .ok (.ireturn, 1) := by decide +kernel
theorem dX10_fitsInAll_0 : decode (dc DX10_fitsInAll) 0 = .ok (.iconst 0, 1) := by decide +kernel
theorem dX10_fitsInAll_1 : decode (dc DX10_fitsInAll) 1 = .ok (.istore_n 1, 1) := by decide +kernel
theorem dX10_fitsInAll_2 : decode (dc DX10_fitsInAll) 2 = .ok (.iconst 0, 1) := by decide +kernel
theorem dX10_fitsInAll_3 : decode (dc DX10_fitsInAll) 3 = .ok (.istore_n 2, 1) := by decide +kernel
theorem dX10_fitsInAll_4 : decode (dc DX10_fitsInAll) 4 = .ok (.iload_n 2, 1) := by decide +kernel
theorem dX10_fitsInAll_5 : decode (dc DX10_fitsInAll) 5 = .ok (.bipush 12, 2) := by decide +kernel
theorem dX10_fitsInAll_7 : decode (dc DX10_fitsInAll) 7 = .ok (.if_icmp .ge 23, 3) := by decide +kernel
theorem dX10_fitsInAll_10 : decode (dc DX10_fitsInAll) 10 = .ok (.iload_n 1, 1) := by decide +kernel
theorem dX10_fitsInAll_11 : decode (dc DX10_fitsInAll) 11 = .ok (.aload_n 0, 1) := by decide +kernel
theorem dX10_fitsInAll_12 : decode (dc DX10_fitsInAll) 12 = .ok (.getfield 25, 3) := by decide +kernel
theorem dX10_fitsInAll_15 : decode (dc DX10_fitsInAll) 15 = .ok (.iconst 0, 1) := by decide +kernel
theorem dX10_fitsInAll_16 : decode (dc DX10_fitsInAll) 16 = .ok (.aaload, 1) := by decide +kernel
theorem dX10_fitsInAll_17 : decode (dc DX10_fitsInAll) 17 = .ok (.iload_n 2, 1) := by decide +kernel
theorem dX10_fitsInAll_18 : decode (dc DX10_fitsInAll) 18 = .ok (.iaload, 1) := by decide +kernel
theorem dX10_fitsInAll_19 : decode (dc DX10_fitsInAll) 19 = .ok (.invokestatic 270, 3) := by decide +kernel
theorem dX10_fitsInAll_22 : decode (dc DX10_fitsInAll) 22 = .ok (.iadd, 1) := by decide +kernel
theorem dX10_fitsInAll_23 : decode (dc DX10_fitsInAll) 23 = .ok (.istore_n 1, 1) := by decide +kernel
theorem dX10_fitsInAll_24 : decode (dc DX10_fitsInAll) 24 = .ok (.iinc 2 1, 3) := by decide +kernel
theorem dX10_fitsInAll_27 : decode (dc DX10_fitsInAll) 27 = .ok (.goto (-23), 3) := by decide +kernel
theorem dX10_fitsInAll_30 : decode (dc DX10_fitsInAll) 30 = .ok (.iload_n 1, 1) := by decide +kernel
theorem dX10_fitsInAll_31 : decode (dc DX10_fitsInAll) 31 = .ok (.ireturn, 1) := by decide +kernel
theorem dX10_costNow_0 : decode (dc DX10_costNow) 0 = .ok (.iconst 0, 1) := by decide +kernel
theorem dX10_costNow_1 : decode (dc DX10_costNow) 1 = .ok (.istore_n 1, 1) := by decide +kernel
theorem dX10_costNow_2 : decode (dc DX10_costNow) 2 = .ok (.iconst 0, 1) := by decide +kernel
theorem dX10_costNow_3 : decode (dc DX10_costNow) 3 = .ok (.istore_n 2, 1) := by decide +kernel
theorem dX10_costNow_4 : decode (dc DX10_costNow) 4 = .ok (.iload_n 2, 1) := by decide +kernel
theorem dX10_costNow_5 : decode (dc DX10_costNow) 5 = .ok (.bipush 12, 2) := by decide +kernel
theorem dX10_costNow_7 : decode (dc DX10_costNow) 7 = .ok (.if_icmp .ge 45, 3) := by decide +kernel
theorem dX10_costNow_10 : decode (dc DX10_costNow) 10 = .ok (.iload_n 1, 1) := by decide +kernel
theorem dX10_costNow_11 : decode (dc DX10_costNow) 11 = .ok (.aload_n 0, 1) := by decide +kernel
theorem dX10_costNow_12 : decode (dc DX10_costNow) 12 = .ok (.getfield 28, 3) := by decide +kernel
theorem dX10_costNow_15 : decode (dc DX10_costNow) 15 = .ok (.iconst 0, 1) := by decide +kernel
theorem dX10_costNow_16 : decode (dc DX10_costNow) 16 = .ok (.aaload, 1) := by decide +kernel
theorem dX10_costNow_17 : decode (dc DX10_costNow) 17 = .ok (.iload_n 2, 1) := by decide +kernel
theorem dX10_costNow_18 : decode (dc DX10_costNow) 18 = .ok (.iaload, 1) := by decide +kernel
theorem dX10_costNow_19 : decode (dc DX10_costNow) 19 = .ok (.iconst (-1), 1) := by decide +kernel
theorem dX10_costNow_20 : decode (dc DX10_costNow) 20 = .ok (.if_icmp .eq 23, 3) := by decide +kernel
theorem dX10_costNow_23 : decode (dc DX10_costNow) 23 = .ok (.aload_n 0, 1) := by decide +kernel
theorem dX10_costNow_24 : decode (dc DX10_costNow) 24 = .ok (.getfield 36, 3) := by decide +kernel
theorem dX10_costNow_27 : decode (dc DX10_costNow) 27 = .ok (.iconst 0, 1) := by decide +kernel
theorem dX10_costNow_28 : decode (dc DX10_costNow) 28 = .ok (.aaload, 1) := by decide +kernel
theorem dX10_costNow_29 : decode (dc DX10_costNow) 29 = .ok (.iload_n 2, 1) := by decide +kernel
theorem dX10_costNow_30 : decode (dc DX10_costNow) 30 = .ok (.aaload, 1) := by decide +kernel
theorem dX10_costNow_31 : decode (dc DX10_costNow) 31 = .ok (.aload_n 0, 1) := by decide +kernel
theorem dX10_costNow_32 : decode (dc DX10_costNow) 32 = .ok (.getfield 28, 3) := by decide +kernel
theorem dX10_costNow_35 : decode (dc DX10_costNow) 35 = .ok (.iconst 0, 1) := by decide +kernel
theorem dX10_costNow_36 : decode (dc DX10_costNow) 36 = .ok (.aaload, 1) := by decide +kernel
theorem dX10_costNow_37 : decode (dc DX10_costNow) 37 = .ok (.iload_n 2, 1) := by decide +kernel
theorem dX10_costNow_38 : decode (dc DX10_costNow) 38 = .ok (.iaload, 1) := by decide +kernel
theorem dX10_costNow_39 : decode (dc DX10_costNow) 39 = .ok (.iaload, 1) := by decide +kernel
theorem dX10_costNow_40 : decode (dc DX10_costNow) 40 = .ok (.goto 4, 3) := by decide +kernel
theorem dX10_costNow_43 : decode (dc DX10_costNow) 43 = .ok (.iconst 0, 1) := by decide +kernel
theorem dX10_costNow_44 : decode (dc DX10_costNow) 44 = .ok (.iadd, 1) := by decide +kernel
theorem dX10_costNow_45 : decode (dc DX10_costNow) 45 = .ok (.istore_n 1, 1) := by decide +kernel
theorem dX10_costNow_46 : decode (dc DX10_costNow) 46 = .ok (.iinc 2 1, 3) := by decide +kernel
theorem dX10_costNow_49 : decode (dc DX10_costNow) 49 = .ok (.goto (-45), 3) := by decide +kernel
theorem dX10_costNow_52 : decode (dc DX10_costNow) 52 = .ok (.iload_n 1, 1) := by decide +kernel
theorem dX10_costNow_53 : decode (dc DX10_costNow) 53 = .ok (.ireturn, 1) := by decide +kernel
theorem dX10_told_0 : decode (dc DX10_told) 0 = .ok (.aload_n 0, 1) := by decide +kernel
theorem dX10_told_1 : decode (dc DX10_told) 1 = .ok (.iconst 0, 1) := by decide +kernel
theorem dX10_told_2 : decode (dc DX10_told) 2 = .ok (.putfield 82, 3) := by decide +kernel
theorem dX10_told_5 : decode (dc DX10_told) 5 = .ok (.aload_n 0, 1) := by decide +kernel
theorem dX10_told_6 : decode (dc DX10_told) 6 = .ok (.iload_n 1, 1) := by decide +kernel
theorem dX10_told_7 : decode (dc DX10_told) 7 = .ok (.iconst 0, 1) := by decide +kernel
theorem dX10_told_8 : decode (dc DX10_told) 8 = .ok (.bipush 11, 2) := by decide +kernel
theorem dX10_told_10 : decode (dc DX10_told) 10 = .ok (.invokestatic 127, 3) := by decide +kernel
theorem dX10_told_13 : decode (dc DX10_told) 13 = .ok (.ifCond .ne 7, 3) := by decide +kernel
theorem dX10_told_16 : decode (dc DX10_told) 16 = .ok (.iconst 1, 1) := by decide +kernel
theorem dX10_told_17 : decode (dc DX10_told) 17 = .ok (.goto 4, 3) := by decide +kernel
theorem dX10_told_20 : decode (dc DX10_told) 20 = .ok (.iconst 0, 1) := by decide +kernel
theorem dX10_told_21 : decode (dc DX10_told) 21 = .ok (.iconst 1, 1) := by decide +kernel
theorem dX10_told_22 : decode (dc DX10_told) 22 = .ok (.iconst 1, 1) := by decide +kernel
theorem dX10_told_23 : decode (dc DX10_told) 23 = .ok (.invokevirtual 217, 3) := by decide +kernel
theorem dX10_told_26 : decode (dc DX10_told) 26 = .ok (.ifCond .eq 5, 3) := by decide +kernel
theorem dX10_told_29 : decode (dc DX10_told) 29 = .ok (.iconst 0, 1) := by decide +kernel
theorem dX10_told_30 : decode (dc DX10_told) 30 = .ok (.ireturn, 1) := by decide +kernel
theorem dX10_told_31 : decode (dc DX10_told) 31 = .ok (.iload_n 1, 1) := by decide +kernel
theorem dX10_told_32 : decode (dc DX10_told) 32 = .ok (.tableswitch 118 0 10 #[60, 60, 69, 74, 79, 88, 88, 99, 99, 108, 113], 60) := by decide +kernel
theorem dX10_told_92 : decode (dc DX10_told) 92 = .ok (.aload_n 0, 1) := by decide +kernel
theorem dX10_told_93 : decode (dc DX10_told) 93 = .ok (.getfield 22, 3) := by decide +kernel
theorem dX10_told_96 : decode (dc DX10_told) 96 = .ok (.iconst 0, 1) := by decide +kernel
theorem dX10_told_97 : decode (dc DX10_told) 97 = .ok (.aaload, 1) := by decide +kernel
theorem dX10_told_98 : decode (dc DX10_told) 98 = .ok (.iload_n 1, 1) := by decide +kernel
theorem dX10_told_99 : decode (dc DX10_told) 99 = .ok (.iaload, 1) := by decide +kernel
theorem dX10_told_100 : decode (dc DX10_told) 100 = .ok (.ireturn, 1) := by decide +kernel
theorem dX10_told_101 : decode (dc DX10_told) 101 = .ok (.aload_n 0, 1) := by decide +kernel
theorem dX10_told_102 : decode (dc DX10_told) 102 = .ok (.invokevirtual 273, 3) := by decide +kernel
theorem dX10_told_105 : decode (dc DX10_told) 105 = .ok (.ireturn, 1) := by decide +kernel
theorem dX10_told_106 : decode (dc DX10_told) 106 = .ok (.aload_n 0, 1) := by decide +kernel
theorem dX10_told_107 : decode (dc DX10_told) 107 = .ok (.invokevirtual 237, 3) := by decide +kernel
theorem dX10_told_110 : decode (dc DX10_told) 110 = .ok (.ireturn, 1) := by decide +kernel
theorem dX10_told_111 : decode (dc DX10_told) 111 = .ok (.aload_n 0, 1) := by decide +kernel
theorem dX10_told_112 : decode (dc DX10_told) 112 = .ok (.getfield 22, 3) := by decide +kernel
theorem dX10_told_115 : decode (dc DX10_told) 115 = .ok (.iconst 0, 1) := by decide +kernel
theorem dX10_told_116 : decode (dc DX10_told) 116 = .ok (.aaload, 1) := by decide +kernel
theorem dX10_told_117 : decode (dc DX10_told) 117 = .ok (.iconst 2, 1) := by decide +kernel
theorem dX10_told_118 : decode (dc DX10_told) 118 = .ok (.iaload, 1) := by decide +kernel
theorem dX10_told_119 : decode (dc DX10_told) 119 = .ok (.ireturn, 1) := by decide +kernel
theorem dX10_told_120 : decode (dc DX10_told) 120 = .ok (.aload_n 0, 1) := by decide +kernel
theorem dX10_told_121 : decode (dc DX10_told) 121 = .ok (.getfield 22, 3) := by decide +kernel
theorem dX10_told_124 : decode (dc DX10_told) 124 = .ok (.iconst 0, 1) := by decide +kernel
theorem dX10_told_125 : decode (dc DX10_told) 125 = .ok (.aaload, 1) := by decide +kernel
theorem dX10_told_126 : decode (dc DX10_told) 126 = .ok (.iload_n 1, 1) := by decide +kernel
theorem dX10_told_127 : decode (dc DX10_told) 127 = .ok (.iconst 2, 1) := by decide +kernel
theorem dX10_told_128 : decode (dc DX10_told) 128 = .ok (.isub, 1) := by decide +kernel
theorem dX10_told_129 : decode (dc DX10_told) 129 = .ok (.iaload, 1) := by decide +kernel
theorem dX10_told_130 : decode (dc DX10_told) 130 = .ok (.ireturn, 1) := by decide +kernel
theorem dX10_told_131 : decode (dc DX10_told) 131 = .ok (.aload_n 0, 1) := by decide +kernel
theorem dX10_told_132 : decode (dc DX10_told) 132 = .ok (.iload_n 1, 1) := by decide +kernel
theorem dX10_told_133 : decode (dc DX10_told) 133 = .ok (.bipush 7, 2) := by decide +kernel
theorem dX10_told_135 : decode (dc DX10_told) 135 = .ok (.isub, 1) := by decide +kernel
theorem dX10_told_136 : decode (dc DX10_told) 136 = .ok (.invokevirtual 276, 3) := by decide +kernel
theorem dX10_told_139 : decode (dc DX10_told) 139 = .ok (.ireturn, 1) := by decide +kernel
theorem dX10_told_140 : decode (dc DX10_told) 140 = .ok (.aload_n 0, 1) := by decide +kernel
theorem dX10_told_141 : decode (dc DX10_told) 141 = .ok (.invokevirtual 279, 3) := by decide +kernel
theorem dX10_told_144 : decode (dc DX10_told) 144 = .ok (.ireturn, 1) := by decide +kernel
theorem dX10_told_145 : decode (dc DX10_told) 145 = .ok (.aload_n 0, 1) := by decide +kernel
theorem dX10_told_146 : decode (dc DX10_told) 146 = .ok (.getfield 231, 3) := by decide +kernel
theorem dX10_told_149 : decode (dc DX10_told) 149 = .ok (.ireturn, 1) := by decide +kernel
theorem dX10_told_150 : decode (dc DX10_told) 150 = .ok (.aload_n 0, 1) := by decide +kernel
theorem dX10_told_151 : decode (dc DX10_told) 151 = .ok (.getfield 85, 3) := by decide +kernel
theorem dX10_told_154 : decode (dc DX10_told) 154 = .ok (.ireturn, 1) := by decide +kernel
theorem dX10_isOne_0 : decode (dc DX10_isOne) 0 = .ok (.iload_n 1, 1) := by decide +kernel
theorem dX10_isOne_1 : decode (dc DX10_isOne) 1 = .ok (.iconst 0, 1) := by decide +kernel
theorem dX10_isOne_2 : decode (dc DX10_isOne) 2 = .ok (.iconst 1, 1) := by decide +kernel
theorem dX10_isOne_3 : decode (dc DX10_isOne) 3 = .ok (.invokestatic 127, 3) := by decide +kernel
theorem dX10_isOne_6 : decode (dc DX10_isOne) 6 = .ok (.ifCond .eq 25, 3) := by decide +kernel
theorem dX10_isOne_9 : decode (dc DX10_isOne) 9 = .ok (.iload_n 2, 1) := by decide +kernel
theorem dX10_isOne_10 : decode (dc DX10_isOne) 10 = .ok (.iconst 0, 1) := by decide +kernel
theorem dX10_isOne_11 : decode (dc DX10_isOne) 11 = .ok (.aload_n 0, 1) := by decide +kernel
theorem dX10_isOne_12 : decode (dc DX10_isOne) 12 = .ok (.getfield 22, 3) := by decide +kernel
theorem dX10_isOne_15 : decode (dc DX10_isOne) 15 = .ok (.iconst 0, 1) := by decide +kernel
theorem dX10_isOne_16 : decode (dc DX10_isOne) 16 = .ok (.aaload, 1) := by decide +kernel
theorem dX10_isOne_17 : decode (dc DX10_isOne) 17 = .ok (.iload_n 1, 1) := by decide +kernel
theorem dX10_isOne_18 : decode (dc DX10_isOne) 18 = .ok (.iaload, 1) := by decide +kernel
theorem dX10_isOne_19 : decode (dc DX10_isOne) 19 = .ok (.iconst 1, 1) := by decide +kernel
theorem dX10_isOne_20 : decode (dc DX10_isOne) 20 = .ok (.isub, 1) := by decide +kernel
theorem dX10_isOne_21 : decode (dc DX10_isOne) 21 = .ok (.invokestatic 127, 3) := by decide +kernel
theorem dX10_isOne_24 : decode (dc DX10_isOne) 24 = .ok (.ifCond .eq 7, 3) := by decide +kernel
theorem dX10_isOne_27 : decode (dc DX10_isOne) 27 = .ok (.iconst 1, 1) := by decide +kernel
theorem dX10_isOne_28 : decode (dc DX10_isOne) 28 = .ok (.goto 4, 3) := by decide +kernel
theorem dX10_isOne_31 : decode (dc DX10_isOne) 31 = .ok (.iconst 0, 1) := by decide +kernel
theorem dX10_isOne_32 : decode (dc DX10_isOne) 32 = .ok (.ireturn, 1) := by decide +kernel
theorem dX10_partner_0 : decode (dc DX10_partner) 0 = .ok (.aload_n 0, 1) := by decide +kernel
theorem dX10_partner_1 : decode (dc DX10_partner) 1 = .ok (.iconst 0, 1) := by decide +kernel
theorem dX10_partner_2 : decode (dc DX10_partner) 2 = .ok (.putfield 82, 3) := by decide +kernel
theorem dX10_partner_5 : decode (dc DX10_partner) 5 = .ok (.aload_n 0, 1) := by decide +kernel
theorem dX10_partner_6 : decode (dc DX10_partner) 6 = .ok (.aload_n 0, 1) := by decide +kernel
theorem dX10_partner_7 : decode (dc DX10_partner) 7 = .ok (.iload_n 1, 1) := by decide +kernel
theorem dX10_partner_8 : decode (dc DX10_partner) 8 = .ok (.iload_n 2, 1) := by decide +kernel
theorem dX10_partner_9 : decode (dc DX10_partner) 9 = .ok (.invokevirtual 282, 3) := by decide +kernel
theorem dX10_partner_12 : decode (dc DX10_partner) 12 = .ok (.ifCond .ne 7, 3) := by decide +kernel
theorem dX10_partner_15 : decode (dc DX10_partner) 15 = .ok (.iconst 1, 1) := by decide +kernel
theorem dX10_partner_16 : decode (dc DX10_partner) 16 = .ok (.goto 4, 3) := by decide +kernel
theorem dX10_partner_19 : decode (dc DX10_partner) 19 = .ok (.iconst 0, 1) := by decide +kernel
theorem dX10_partner_20 : decode (dc DX10_partner) 20 = .ok (.iconst 1, 1) := by decide +kernel
theorem dX10_partner_21 : decode (dc DX10_partner) 21 = .ok (.iconst 0, 1) := by decide +kernel
theorem dX10_partner_22 : decode (dc DX10_partner) 22 = .ok (.invokevirtual 217, 3) := by decide +kernel
theorem dX10_partner_25 : decode (dc DX10_partner) 25 = .ok (.ifCond .eq 5, 3) := by decide +kernel
theorem dX10_partner_28 : decode (dc DX10_partner) 28 = .ok (.iconst 0, 1) := by decide +kernel
theorem dX10_partner_29 : decode (dc DX10_partner) 29 = .ok (.ireturn, 1) := by decide +kernel
theorem dX10_partner_30 : decode (dc DX10_partner) 30 = .ok (.aload_n 0, 1) := by decide +kernel
theorem dX10_partner_31 : decode (dc DX10_partner) 31 = .ok (.iload_n 1, 1) := by decide +kernel
theorem dX10_partner_32 : decode (dc DX10_partner) 32 = .ok (.iload_n 2, 1) := by decide +kernel
theorem dX10_partner_33 : decode (dc DX10_partner) 33 = .ok (.invokevirtual 243, 3) := by decide +kernel
theorem dX10_partner_36 : decode (dc DX10_partner) 36 = .ok (.ireturn, 1) := by decide +kernel
theorem dX10_isFit_0 : decode (dc DX10_isFit) 0 = .ok (.aload_n 0, 1) := by decide +kernel
theorem dX10_isFit_1 : decode (dc DX10_isFit) 1 = .ok (.getfield 25, 3) := by decide +kernel
theorem dX10_isFit_4 : decode (dc DX10_isFit) 4 = .ok (.iconst 0, 1) := by decide +kernel
theorem dX10_isFit_5 : decode (dc DX10_isFit) 5 = .ok (.aaload, 1) := by decide +kernel
theorem dX10_isFit_6 : decode (dc DX10_isFit) 6 = .ok (.iload_n 1, 1) := by decide +kernel
theorem dX10_isFit_7 : decode (dc DX10_isFit) 7 = .ok (.iaload, 1) := by decide +kernel
theorem dX10_isFit_8 : decode (dc DX10_isFit) 8 = .ok (.iload_n 2, 1) := by decide +kernel
theorem dX10_isFit_9 : decode (dc DX10_isFit) 9 = .ok (.invokestatic 182, 3) := by decide +kernel
theorem dX10_isFit_12 : decode (dc DX10_isFit) 12 = .ok (.ireturn, 1) := by decide +kernel
theorem dX10_cost_0 : decode (dc DX10_cost) 0 = .ok (.aload_n 0, 1) := by decide +kernel
theorem dX10_cost_1 : decode (dc DX10_cost) 1 = .ok (.iconst 0, 1) := by decide +kernel
theorem dX10_cost_2 : decode (dc DX10_cost) 2 = .ok (.putfield 82, 3) := by decide +kernel
theorem dX10_cost_5 : decode (dc DX10_cost) 5 = .ok (.aload_n 0, 1) := by decide +kernel
theorem dX10_cost_6 : decode (dc DX10_cost) 6 = .ok (.aload_n 0, 1) := by decide +kernel
theorem dX10_cost_7 : decode (dc DX10_cost) 7 = .ok (.iconst 0, 1) := by decide +kernel
theorem dX10_cost_8 : decode (dc DX10_cost) 8 = .ok (.iload_n 1, 1) := by decide +kernel
theorem dX10_cost_9 : decode (dc DX10_cost) 9 = .ok (.invokevirtual 282, 3) := by decide +kernel
theorem dX10_cost_12 : decode (dc DX10_cost) 12 = .ok (.ifCond .eq 12, 3) := by decide +kernel
theorem dX10_cost_15 : decode (dc DX10_cost) 15 = .ok (.aload_n 0, 1) := by decide +kernel
theorem dX10_cost_16 : decode (dc DX10_cost) 16 = .ok (.iconst 1, 1) := by decide +kernel
theorem dX10_cost_17 : decode (dc DX10_cost) 17 = .ok (.iload_n 2, 1) := by decide +kernel
theorem dX10_cost_18 : decode (dc DX10_cost) 18 = .ok (.invokevirtual 282, 3) := by decide +kernel
theorem dX10_cost_21 : decode (dc DX10_cost) 21 = .ok (.ifCond .ne 7, 3) := by decide +kernel
theorem dX10_cost_24 : decode (dc DX10_cost) 24 = .ok (.iconst 1, 1) := by decide +kernel
theorem dX10_cost_25 : decode (dc DX10_cost) 25 = .ok (.goto 4, 3) := by decide +kernel
theorem dX10_cost_28 : decode (dc DX10_cost) 28 = .ok (.iconst 0, 1) := by decide +kernel
theorem dX10_cost_29 : decode (dc DX10_cost) 29 = .ok (.iconst 1, 1) := by decide +kernel
theorem dX10_cost_30 : decode (dc DX10_cost) 30 = .ok (.iconst 0, 1) := by decide +kernel
theorem dX10_cost_31 : decode (dc DX10_cost) 31 = .ok (.invokevirtual 217, 3) := by decide +kernel
theorem dX10_cost_34 : decode (dc DX10_cost) 34 = .ok (.ifCond .eq 5, 3) := by decide +kernel
theorem dX10_cost_37 : decode (dc DX10_cost) 37 = .ok (.iconst 0, 1) := by decide +kernel
theorem dX10_cost_38 : decode (dc DX10_cost) 38 = .ok (.ireturn, 1) := by decide +kernel
theorem dX10_cost_39 : decode (dc DX10_cost) 39 = .ok (.aload_n 0, 1) := by decide +kernel
theorem dX10_cost_40 : decode (dc DX10_cost) 40 = .ok (.iload_n 1, 1) := by decide +kernel
theorem dX10_cost_41 : decode (dc DX10_cost) 41 = .ok (.iload_n 2, 1) := by decide +kernel
theorem dX10_cost_42 : decode (dc DX10_cost) 42 = .ok (.invokevirtual 285, 3) := by decide +kernel
theorem dX10_cost_45 : decode (dc DX10_cost) 45 = .ok (.ifCond .eq 16, 3) := by decide +kernel
theorem dX10_cost_48 : decode (dc DX10_cost) 48 = .ok (.aload_n 0, 1) := by decide +kernel
theorem dX10_cost_49 : decode (dc DX10_cost) 49 = .ok (.getfield 36, 3) := by decide +kernel
theorem dX10_cost_52 : decode (dc DX10_cost) 52 = .ok (.iconst 0, 1) := by decide +kernel
theorem dX10_cost_53 : decode (dc DX10_cost) 53 = .ok (.aaload, 1) := by decide +kernel
theorem dX10_cost_54 : decode (dc DX10_cost) 54 = .ok (.iload_n 1, 1) := by decide +kernel
theorem dX10_cost_55 : decode (dc DX10_cost) 55 = .ok (.aaload, 1) := by decide +kernel
theorem dX10_cost_56 : decode (dc DX10_cost) 56 = .ok (.iload_n 2, 1) := by decide +kernel
theorem dX10_cost_57 : decode (dc DX10_cost) 57 = .ok (.iaload, 1) := by decide +kernel
theorem dX10_cost_58 : decode (dc DX10_cost) 58 = .ok (.goto 4, 3) := by decide +kernel
theorem dX10_cost_61 : decode (dc DX10_cost) 61 = .ok (.iconst (-1), 1) := by decide +kernel
theorem dX10_cost_62 : decode (dc DX10_cost) 62 = .ok (.ireturn, 1) := by decide +kernel
theorem dX10_fitsOf_0 : decode (dc DX10_fitsOf) 0 = .ok (.iload_n 1, 1) := by decide +kernel
theorem dX10_fitsOf_1 : decode (dc DX10_fitsOf) 1 = .ok (.ifCond .ne 12, 3) := by decide +kernel
theorem dX10_fitsOf_4 : decode (dc DX10_fitsOf) 4 = .ok (.aload_n 0, 1) := by decide +kernel
theorem dX10_fitsOf_5 : decode (dc DX10_fitsOf) 5 = .ok (.getfield 25, 3) := by decide +kernel
theorem dX10_fitsOf_8 : decode (dc DX10_fitsOf) 8 = .ok (.iconst 0, 1) := by decide +kernel
theorem dX10_fitsOf_9 : decode (dc DX10_fitsOf) 9 = .ok (.aaload, 1) := by decide +kernel
theorem dX10_fitsOf_10 : decode (dc DX10_fitsOf) 10 = .ok (.iload_n 2, 1) := by decide +kernel
theorem dX10_fitsOf_11 : decode (dc DX10_fitsOf) 11 = .ok (.iaload, 1) := by decide +kernel
theorem dX10_fitsOf_12 : decode (dc DX10_fitsOf) 12 = .ok (.ireturn, 1) := by decide +kernel
theorem dX10_fitsOf_13 : decode (dc DX10_fitsOf) 13 = .ok (.iconst 0, 1) := by decide +kernel
theorem dX10_fitsOf_14 : decode (dc DX10_fitsOf) 14 = .ok (.istore_n 3, 1) := by decide +kernel
theorem dX10_fitsOf_15 : decode (dc DX10_fitsOf) 15 = .ok (.iconst 0, 1) := by decide +kernel
theorem dX10_fitsOf_16 : decode (dc DX10_fitsOf) 16 = .ok (.istore 4, 2) := by decide +kernel
theorem dX10_fitsOf_18 : decode (dc DX10_fitsOf) 18 = .ok (.iload 4, 2) := by decide +kernel
theorem dX10_fitsOf_20 : decode (dc DX10_fitsOf) 20 = .ok (.bipush 12, 2) := by decide +kernel
theorem dX10_fitsOf_22 : decode (dc DX10_fitsOf) 22 = .ok (.if_icmp .ge 30, 3) := by decide +kernel
theorem dX10_fitsOf_25 : decode (dc DX10_fitsOf) 25 = .ok (.iload_n 3, 1) := by decide +kernel
theorem dX10_fitsOf_26 : decode (dc DX10_fitsOf) 26 = .ok (.aload_n 0, 1) := by decide +kernel
theorem dX10_fitsOf_27 : decode (dc DX10_fitsOf) 27 = .ok (.iload 4, 2) := by decide +kernel
theorem dX10_fitsOf_29 : decode (dc DX10_fitsOf) 29 = .ok (.iload_n 2, 1) := by decide +kernel
theorem dX10_fitsOf_30 : decode (dc DX10_fitsOf) 30 = .ok (.invokevirtual 285, 3) := by decide +kernel
theorem dX10_fitsOf_33 : decode (dc DX10_fitsOf) 33 = .ok (.ifCond .eq 10, 3) := by decide +kernel
theorem dX10_fitsOf_36 : decode (dc DX10_fitsOf) 36 = .ok (.iconst 1, 1) := by decide +kernel
theorem dX10_fitsOf_37 : decode (dc DX10_fitsOf) 37 = .ok (.iload 4, 2) := by decide +kernel
theorem dX10_fitsOf_39 : decode (dc DX10_fitsOf) 39 = .ok (.ishl, 1) := by decide +kernel
theorem dX10_fitsOf_40 : decode (dc DX10_fitsOf) 40 = .ok (.goto 4, 3) := by decide +kernel
theorem dX10_fitsOf_43 : decode (dc DX10_fitsOf) 43 = .ok (.iconst 0, 1) := by decide +kernel
theorem dX10_fitsOf_44 : decode (dc DX10_fitsOf) 44 = .ok (.ior, 1) := by decide +kernel
theorem dX10_fitsOf_45 : decode (dc DX10_fitsOf) 45 = .ok (.istore_n 3, 1) := by decide +kernel
theorem dX10_fitsOf_46 : decode (dc DX10_fitsOf) 46 = .ok (.iinc 4 1, 3) := by decide +kernel
theorem dX10_fitsOf_49 : decode (dc DX10_fitsOf) 49 = .ok (.goto (-31), 3) := by decide +kernel
theorem dX10_fitsOf_52 : decode (dc DX10_fitsOf) 52 = .ok (.iload_n 3, 1) := by decide +kernel
theorem dX10_fitsOf_53 : decode (dc DX10_fitsOf) 53 = .ok (.ireturn, 1) := by decide +kernel
theorem dX10_fits_0 : decode (dc DX10_fits) 0 = .ok (.aload_n 0, 1) := by decide +kernel
theorem dX10_fits_1 : decode (dc DX10_fits) 1 = .ok (.iconst 0, 1) := by decide +kernel
theorem dX10_fits_2 : decode (dc DX10_fits) 2 = .ok (.putfield 82, 3) := by decide +kernel
theorem dX10_fits_5 : decode (dc DX10_fits) 5 = .ok (.aload_n 0, 1) := by decide +kernel
theorem dX10_fits_6 : decode (dc DX10_fits) 6 = .ok (.aload_n 0, 1) := by decide +kernel
theorem dX10_fits_7 : decode (dc DX10_fits) 7 = .ok (.iload_n 1, 1) := by decide +kernel
theorem dX10_fits_8 : decode (dc DX10_fits) 8 = .ok (.iload_n 2, 1) := by decide +kernel
theorem dX10_fits_9 : decode (dc DX10_fits) 9 = .ok (.invokevirtual 282, 3) := by decide +kernel
theorem dX10_fits_12 : decode (dc DX10_fits) 12 = .ok (.ifCond .ne 7, 3) := by decide +kernel
theorem dX10_fits_15 : decode (dc DX10_fits) 15 = .ok (.iconst 1, 1) := by decide +kernel
theorem dX10_fits_16 : decode (dc DX10_fits) 16 = .ok (.goto 4, 3) := by decide +kernel
theorem dX10_fits_19 : decode (dc DX10_fits) 19 = .ok (.iconst 0, 1) := by decide +kernel
theorem dX10_fits_20 : decode (dc DX10_fits) 20 = .ok (.iconst 1, 1) := by decide +kernel
theorem dX10_fits_21 : decode (dc DX10_fits) 21 = .ok (.iconst 0, 1) := by decide +kernel
theorem dX10_fits_22 : decode (dc DX10_fits) 22 = .ok (.invokevirtual 217, 3) := by decide +kernel
theorem dX10_fits_25 : decode (dc DX10_fits) 25 = .ok (.ifCond .eq 5, 3) := by decide +kernel
theorem dX10_fits_28 : decode (dc DX10_fits) 28 = .ok (.iconst 0, 1) := by decide +kernel
theorem dX10_fits_29 : decode (dc DX10_fits) 29 = .ok (.ireturn, 1) := by decide +kernel
theorem dX10_fits_30 : decode (dc DX10_fits) 30 = .ok (.aload_n 0, 1) := by decide +kernel
theorem dX10_fits_31 : decode (dc DX10_fits) 31 = .ok (.iload_n 1, 1) := by decide +kernel
theorem dX10_fits_32 : decode (dc DX10_fits) 32 = .ok (.iload_n 2, 1) := by decide +kernel
theorem dX10_fits_33 : decode (dc DX10_fits) 33 = .ok (.invokevirtual 288, 3) := by decide +kernel
theorem dX10_fits_36 : decode (dc DX10_fits) 36 = .ok (.ireturn, 1) := by decide +kernel
theorem dX10_way_0 : decode (dc DX10_way) 0 = .ok (.aload_n 0, 1) := by decide +kernel
theorem dX10_way_1 : decode (dc DX10_way) 1 = .ok (.iconst 0, 1) := by decide +kernel
theorem dX10_way_2 : decode (dc DX10_way) 2 = .ok (.putfield 82, 3) := by decide +kernel
theorem dX10_way_5 : decode (dc DX10_way) 5 = .ok (.aload_n 0, 1) := by decide +kernel
theorem dX10_way_6 : decode (dc DX10_way) 6 = .ok (.invokevirtual 261, 3) := by decide +kernel
theorem dX10_way_9 : decode (dc DX10_way) 9 = .ok (.pop, 1) := by decide +kernel
theorem dX10_way_10 : decode (dc DX10_way) 10 = .ok (.aload_n 0, 1) := by decide +kernel
theorem dX10_way_11 : decode (dc DX10_way) 11 = .ok (.getfield 249, 3) := by decide +kernel
theorem dX10_way_14 : decode (dc DX10_way) 14 = .ok (.ireturn, 1) := by decide +kernel
theorem dX10_wayAt_0 : decode (dc DX10_wayAt) 0 = .ok (.aload_n 0, 1) := by decide +kernel
theorem dX10_wayAt_1 : decode (dc DX10_wayAt) 1 = .ok (.iconst 0, 1) := by decide +kernel
theorem dX10_wayAt_2 : decode (dc DX10_wayAt) 2 = .ok (.putfield 82, 3) := by decide +kernel
theorem dX10_wayAt_5 : decode (dc DX10_wayAt) 5 = .ok (.aload_n 0, 1) := by decide +kernel
theorem dX10_wayAt_6 : decode (dc DX10_wayAt) 6 = .ok (.invokevirtual 261, 3) := by decide +kernel
theorem dX10_wayAt_9 : decode (dc DX10_wayAt) 9 = .ok (.pop, 1) := by decide +kernel
theorem dX10_wayAt_10 : decode (dc DX10_wayAt) 10 = .ok (.aload_n 0, 1) := by decide +kernel
theorem dX10_wayAt_11 : decode (dc DX10_wayAt) 11 = .ok (.iload_n 1, 1) := by decide +kernel
theorem dX10_wayAt_12 : decode (dc DX10_wayAt) 12 = .ok (.iconst 0, 1) := by decide +kernel
theorem dX10_wayAt_13 : decode (dc DX10_wayAt) 13 = .ok (.aload_n 0, 1) := by decide +kernel
theorem dX10_wayAt_14 : decode (dc DX10_wayAt) 14 = .ok (.getfield 249, 3) := by decide +kernel
theorem dX10_wayAt_17 : decode (dc DX10_wayAt) 17 = .ok (.iconst 1, 1) := by decide +kernel
theorem dX10_wayAt_18 : decode (dc DX10_wayAt) 18 = .ok (.isub, 1) := by decide +kernel
theorem dX10_wayAt_19 : decode (dc DX10_wayAt) 19 = .ok (.invokestatic 127, 3) := by decide +kernel
theorem dX10_wayAt_22 : decode (dc DX10_wayAt) 22 = .ok (.ifCond .ne 7, 3) := by decide +kernel
theorem dX10_wayAt_25 : decode (dc DX10_wayAt) 25 = .ok (.iconst 1, 1) := by decide +kernel
theorem dX10_wayAt_26 : decode (dc DX10_wayAt) 26 = .ok (.goto 4, 3) := by decide +kernel
theorem dX10_wayAt_29 : decode (dc DX10_wayAt) 29 = .ok (.iconst 0, 1) := by decide +kernel
theorem dX10_wayAt_30 : decode (dc DX10_wayAt) 30 = .ok (.iconst 1, 1) := by decide +kernel
theorem dX10_wayAt_31 : decode (dc DX10_wayAt) 31 = .ok (.iconst 0, 1) := by decide +kernel
theorem dX10_wayAt_32 : decode (dc DX10_wayAt) 32 = .ok (.invokevirtual 217, 3) := by decide +kernel
theorem dX10_wayAt_35 : decode (dc DX10_wayAt) 35 = .ok (.ifCond .eq 5, 3) := by decide +kernel
theorem dX10_wayAt_38 : decode (dc DX10_wayAt) 38 = .ok (.iconst 0, 1) := by decide +kernel
theorem dX10_wayAt_39 : decode (dc DX10_wayAt) 39 = .ok (.ireturn, 1) := by decide +kernel
theorem dX10_wayAt_40 : decode (dc DX10_wayAt) 40 = .ok (.aload_n 0, 1) := by decide +kernel
theorem dX10_wayAt_41 : decode (dc DX10_wayAt) 41 = .ok (.getfield 42, 3) := by decide +kernel
theorem dX10_wayAt_44 : decode (dc DX10_wayAt) 44 = .ok (.iload_n 1, 1) := by decide +kernel
theorem dX10_wayAt_45 : decode (dc DX10_wayAt) 45 = .ok (.iaload, 1) := by decide +kernel
theorem dX10_wayAt_46 : decode (dc DX10_wayAt) 46 = .ok (.ireturn, 1) := by decide +kernel
theorem dX10_wayFrom_0 : decode (dc DX10_wayFrom) 0 = .ok (.aload_n 0, 1) := by decide +kernel
theorem dX10_wayFrom_1 : decode (dc DX10_wayFrom) 1 = .ok (.iconst 0, 1) := by decide +kernel
theorem dX10_wayFrom_2 : decode (dc DX10_wayFrom) 2 = .ok (.putfield 82, 3) := by decide +kernel
theorem dX10_wayFrom_5 : decode (dc DX10_wayFrom) 5 = .ok (.aload_n 0, 1) := by decide +kernel
theorem dX10_wayFrom_6 : decode (dc DX10_wayFrom) 6 = .ok (.aload_n 0, 1) := by decide +kernel
theorem dX10_wayFrom_7 : decode (dc DX10_wayFrom) 7 = .ok (.iconst 0, 1) := by decide +kernel
theorem dX10_wayFrom_8 : decode (dc DX10_wayFrom) 8 = .ok (.iload_n 1, 1) := by decide +kernel
theorem dX10_wayFrom_9 : decode (dc DX10_wayFrom) 9 = .ok (.invokevirtual 282, 3) := by decide +kernel
theorem dX10_wayFrom_12 : decode (dc DX10_wayFrom) 12 = .ok (.ifCond .ne 7, 3) := by decide +kernel
theorem dX10_wayFrom_15 : decode (dc DX10_wayFrom) 15 = .ok (.iconst 1, 1) := by decide +kernel
theorem dX10_wayFrom_16 : decode (dc DX10_wayFrom) 16 = .ok (.goto 4, 3) := by decide +kernel
theorem dX10_wayFrom_19 : decode (dc DX10_wayFrom) 19 = .ok (.iconst 0, 1) := by decide +kernel
theorem dX10_wayFrom_20 : decode (dc DX10_wayFrom) 20 = .ok (.iconst 1, 1) := by decide +kernel
theorem dX10_wayFrom_21 : decode (dc DX10_wayFrom) 21 = .ok (.iconst 0, 1) := by decide +kernel
theorem dX10_wayFrom_22 : decode (dc DX10_wayFrom) 22 = .ok (.invokevirtual 217, 3) := by decide +kernel
theorem dX10_wayFrom_25 : decode (dc DX10_wayFrom) 25 = .ok (.ifCond .ne 26, 3) := by decide +kernel
theorem dX10_wayFrom_28 : decode (dc DX10_wayFrom) 28 = .ok (.aload_n 0, 1) := by decide +kernel
theorem dX10_wayFrom_29 : decode (dc DX10_wayFrom) 29 = .ok (.iload_n 2, 1) := by decide +kernel
theorem dX10_wayFrom_30 : decode (dc DX10_wayFrom) 30 = .ok (.iconst 0, 1) := by decide +kernel
theorem dX10_wayFrom_31 : decode (dc DX10_wayFrom) 31 = .ok (.iconst 1, 1) := by decide +kernel
theorem dX10_wayFrom_32 : decode (dc DX10_wayFrom) 32 = .ok (.invokestatic 127, 3) := by decide +kernel
theorem dX10_wayFrom_35 : decode (dc DX10_wayFrom) 35 = .ok (.ifCond .ne 7, 3) := by decide +kernel
theorem dX10_wayFrom_38 : decode (dc DX10_wayFrom) 38 = .ok (.iconst 1, 1) := by decide +kernel
theorem dX10_wayFrom_39 : decode (dc DX10_wayFrom) 39 = .ok (.goto 4, 3) := by decide +kernel
theorem dX10_wayFrom_42 : decode (dc DX10_wayFrom) 42 = .ok (.iconst 0, 1) := by decide +kernel
theorem dX10_wayFrom_43 : decode (dc DX10_wayFrom) 43 = .ok (.iconst 2, 1) := by decide +kernel
theorem dX10_wayFrom_44 : decode (dc DX10_wayFrom) 44 = .ok (.iconst 1, 1) := by decide +kernel
theorem dX10_wayFrom_45 : decode (dc DX10_wayFrom) 45 = .ok (.invokevirtual 217, 3) := by decide +kernel
theorem dX10_wayFrom_48 : decode (dc DX10_wayFrom) 48 = .ok (.ifCond .eq 5, 3) := by decide +kernel
theorem dX10_wayFrom_51 : decode (dc DX10_wayFrom) 51 = .ok (.iconst 0, 1) := by decide +kernel
theorem dX10_wayFrom_52 : decode (dc DX10_wayFrom) 52 = .ok (.ireturn, 1) := by decide +kernel
theorem dX10_wayFrom_53 : decode (dc DX10_wayFrom) 53 = .ok (.aload_n 0, 1) := by decide +kernel
theorem dX10_wayFrom_54 : decode (dc DX10_wayFrom) 54 = .ok (.invokevirtual 252, 3) := by decide +kernel
theorem dX10_wayFrom_57 : decode (dc DX10_wayFrom) 57 = .ok (.aload_n 0, 1) := by decide +kernel
theorem dX10_wayFrom_58 : decode (dc DX10_wayFrom) 58 = .ok (.iconst 0, 1) := by decide +kernel
theorem dX10_wayFrom_59 : decode (dc DX10_wayFrom) 59 = .ok (.iload_n 1, 1) := by decide +kernel
theorem dX10_wayFrom_60 : decode (dc DX10_wayFrom) 60 = .ok (.invokevirtual 255, 3) := by decide +kernel
theorem dX10_wayFrom_63 : decode (dc DX10_wayFrom) 63 = .ok (.ifCond .eq 18, 3) := by decide +kernel
theorem dX10_wayFrom_66 : decode (dc DX10_wayFrom) 66 = .ok (.aload_n 0, 1) := by decide +kernel
theorem dX10_wayFrom_67 : decode (dc DX10_wayFrom) 67 = .ok (.getfield 39, 3) := by decide +kernel
theorem dX10_wayFrom_70 : decode (dc DX10_wayFrom) 70 = .ok (.iload_n 1, 1) := by decide +kernel
theorem dX10_wayFrom_71 : decode (dc DX10_wayFrom) 71 = .ok (.iaload, 1) := by decide +kernel
theorem dX10_wayFrom_72 : decode (dc DX10_wayFrom) 72 = .ok (.ldc 122, 2) := by decide +kernel
theorem dX10_wayFrom_74 : decode (dc DX10_wayFrom) 74 = .ok (.if_icmp .ge 7, 3) := by decide +kernel
theorem dX10_wayFrom_77 : decode (dc DX10_wayFrom) 77 = .ok (.iconst 1, 1) := by decide +kernel
theorem dX10_wayFrom_78 : decode (dc DX10_wayFrom) 78 = .ok (.goto 4, 3) := by decide +kernel
theorem dX10_wayFrom_81 : decode (dc DX10_wayFrom) 81 = .ok (.iconst 0, 1) := by decide +kernel
theorem dX10_wayFrom_82 : decode (dc DX10_wayFrom) 82 = .ok (.istore_n 3, 1) := by decide +kernel
theorem dX10_wayFrom_83 : decode (dc DX10_wayFrom) 83 = .ok (.iload_n 3, 1) := by decide +kernel
theorem dX10_wayFrom_84 : decode (dc DX10_wayFrom) 84 = .ok (.ifCond .ne 7, 3) := by decide +kernel
theorem dX10_wayFrom_87 : decode (dc DX10_wayFrom) 87 = .ok (.iconst 0, 1) := by decide +kernel
theorem dX10_wayFrom_88 : decode (dc DX10_wayFrom) 88 = .ok (.goto 19, 3) := by decide +kernel
theorem dX10_wayFrom_91 : decode (dc DX10_wayFrom) 91 = .ok (.iload_n 2, 1) := by decide +kernel
theorem dX10_wayFrom_92 : decode (dc DX10_wayFrom) 92 = .ok (.ifCond .ne 7, 3) := by decide +kernel
theorem dX10_wayFrom_95 : decode (dc DX10_wayFrom) 95 = .ok (.iconst 1, 1) := by decide +kernel
theorem dX10_wayFrom_96 : decode (dc DX10_wayFrom) 96 = .ok (.goto 11, 3) := by decide +kernel
theorem dX10_wayFrom_99 : decode (dc DX10_wayFrom) 99 = .ok (.aload_n 0, 1) := by decide +kernel
theorem dX10_wayFrom_100 : decode (dc DX10_wayFrom) 100 = .ok (.getfield 39, 3) := by decide +kernel
theorem dX10_wayFrom_103 : decode (dc DX10_wayFrom) 103 = .ok (.iload_n 1, 1) := by decide +kernel
theorem dX10_wayFrom_104 : decode (dc DX10_wayFrom) 104 = .ok (.iaload, 1) := by decide +kernel
theorem dX10_wayFrom_105 : decode (dc DX10_wayFrom) 105 = .ok (.iconst 1, 1) := by decide +kernel
theorem dX10_wayFrom_106 : decode (dc DX10_wayFrom) 106 = .ok (.iadd, 1) := by decide +kernel
theorem dX10_wayFrom_107 : decode (dc DX10_wayFrom) 107 = .ok (.ireturn, 1) := by decide +kernel
theorem dX10_laysLayers_0 : decode (dc DX10_laysLayers) 0 = .ok (.iconst 0, 1) := by decide +kernel
theorem dX10_laysLayers_1 : decode (dc DX10_laysLayers) 1 = .ok (.istore_n 1, 1) := by decide +kernel
theorem dX10_laysLayers_2 : decode (dc DX10_laysLayers) 2 = .ok (.iload_n 1, 1) := by decide +kernel
theorem dX10_laysLayers_3 : decode (dc DX10_laysLayers) 3 = .ok (.bipush 12, 2) := by decide +kernel
theorem dX10_laysLayers_5 : decode (dc DX10_laysLayers) 5 = .ok (.if_icmp .ge 23, 3) := by decide +kernel
theorem dX10_laysLayers_8 : decode (dc DX10_laysLayers) 8 = .ok (.aload_n 0, 1) := by decide +kernel
theorem dX10_laysLayers_9 : decode (dc DX10_laysLayers) 9 = .ok (.getfield 45, 3) := by decide +kernel
theorem dX10_laysLayers_12 : decode (dc DX10_laysLayers) 12 = .ok (.iload_n 1, 1) := by decide +kernel
theorem dX10_laysLayers_13 : decode (dc DX10_laysLayers) 13 = .ok (.iconst (-1), 1) := by decide +kernel
theorem dX10_laysLayers_14 : decode (dc DX10_laysLayers) 14 = .ok (.iastore, 1) := by decide +kernel
theorem dX10_laysLayers_15 : decode (dc DX10_laysLayers) 15 = .ok (.aload_n 0, 1) := by decide +kernel
theorem dX10_laysLayers_16 : decode (dc DX10_laysLayers) 16 = .ok (.getfield 48, 3) := by decide +kernel
theorem dX10_laysLayers_19 : decode (dc DX10_laysLayers) 19 = .ok (.iload_n 1, 1) := by decide +kernel
theorem dX10_laysLayers_20 : decode (dc DX10_laysLayers) 20 = .ok (.iconst (-1), 1) := by decide +kernel
theorem dX10_laysLayers_21 : decode (dc DX10_laysLayers) 21 = .ok (.iastore, 1) := by decide +kernel
theorem dX10_laysLayers_22 : decode (dc DX10_laysLayers) 22 = .ok (.iinc 1 1, 3) := by decide +kernel
theorem dX10_laysLayers_25 : decode (dc DX10_laysLayers) 25 = .ok (.goto (-23), 3) := by decide +kernel
theorem dX10_laysLayers_28 : decode (dc DX10_laysLayers) 28 = .ok (.iconst 0, 1) := by decide +kernel
theorem dX10_laysLayers_29 : decode (dc DX10_laysLayers) 29 = .ok (.istore_n 1, 1) := by decide +kernel
theorem dX10_laysLayers_30 : decode (dc DX10_laysLayers) 30 = .ok (.iload_n 1, 1) := by decide +kernel
theorem dX10_laysLayers_31 : decode (dc DX10_laysLayers) 31 = .ok (.aload_n 0, 1) := by decide +kernel
theorem dX10_laysLayers_32 : decode (dc DX10_laysLayers) 32 = .ok (.getfield 22, 3) := by decide +kernel
theorem dX10_laysLayers_35 : decode (dc DX10_laysLayers) 35 = .ok (.iconst 0, 1) := by decide +kernel
theorem dX10_laysLayers_36 : decode (dc DX10_laysLayers) 36 = .ok (.aaload, 1) := by decide +kernel
theorem dX10_laysLayers_37 : decode (dc DX10_laysLayers) 37 = .ok (.iconst 0, 1) := by decide +kernel
theorem dX10_laysLayers_38 : decode (dc DX10_laysLayers) 38 = .ok (.iaload, 1) := by decide +kernel
theorem dX10_laysLayers_39 : decode (dc DX10_laysLayers) 39 = .ok (.if_icmp .ge 25, 3) := by decide +kernel
theorem dX10_laysLayers_42 : decode (dc DX10_laysLayers) 42 = .ok (.aload_n 0, 1) := by decide +kernel
theorem dX10_laysLayers_43 : decode (dc DX10_laysLayers) 43 = .ok (.iconst 0, 1) := by decide +kernel
theorem dX10_laysLayers_44 : decode (dc DX10_laysLayers) 44 = .ok (.iload_n 1, 1) := by decide +kernel
theorem dX10_laysLayers_45 : decode (dc DX10_laysLayers) 45 = .ok (.invokevirtual 255, 3) := by decide +kernel
theorem dX10_laysLayers_48 : decode (dc DX10_laysLayers) 48 = .ok (.ifCond .eq 10, 3) := by decide +kernel
theorem dX10_laysLayers_51 : decode (dc DX10_laysLayers) 51 = .ok (.aload_n 0, 1) := by decide +kernel
theorem dX10_laysLayers_52 : decode (dc DX10_laysLayers) 52 = .ok (.getfield 45, 3) := by decide +kernel
theorem dX10_laysLayers_55 : decode (dc DX10_laysLayers) 55 = .ok (.iload_n 1, 1) := by decide +kernel
theorem dX10_laysLayers_56 : decode (dc DX10_laysLayers) 56 = .ok (.iconst 0, 1) := by decide +kernel
theorem dX10_laysLayers_57 : decode (dc DX10_laysLayers) 57 = .ok (.iastore, 1) := by decide +kernel
theorem dX10_laysLayers_58 : decode (dc DX10_laysLayers) 58 = .ok (.iinc 1 1, 3) := by decide +kernel
theorem dX10_laysLayers_61 : decode (dc DX10_laysLayers) 61 = .ok (.goto (-31), 3) := by decide +kernel
theorem dX10_laysLayers_64 : decode (dc DX10_laysLayers) 64 = .ok (.iconst 0, 1) := by decide +kernel
theorem dX10_laysLayers_65 : decode (dc DX10_laysLayers) 65 = .ok (.istore_n 1, 1) := by decide +kernel
theorem dX10_laysLayers_66 : decode (dc DX10_laysLayers) 66 = .ok (.iload_n 1, 1) := by decide +kernel
theorem dX10_laysLayers_67 : decode (dc DX10_laysLayers) 67 = .ok (.bipush 24, 2) := by decide +kernel
theorem dX10_laysLayers_69 : decode (dc DX10_laysLayers) 69 = .ok (.if_icmp .gt 174, 3) := by decide +kernel
theorem dX10_laysLayers_72 : decode (dc DX10_laysLayers) 72 = .ok (.iconst 0, 1) := by decide +kernel
theorem dX10_laysLayers_73 : decode (dc DX10_laysLayers) 73 = .ok (.istore_n 2, 1) := by decide +kernel
theorem dX10_laysLayers_74 : decode (dc DX10_laysLayers) 74 = .ok (.iconst 0, 1) := by decide +kernel
theorem dX10_laysLayers_75 : decode (dc DX10_laysLayers) 75 = .ok (.istore_n 3, 1) := by decide +kernel
theorem dX10_laysLayers_76 : decode (dc DX10_laysLayers) 76 = .ok (.iload_n 3, 1) := by decide +kernel
theorem dX10_laysLayers_77 : decode (dc DX10_laysLayers) 77 = .ok (.aload_n 0, 1) := by decide +kernel
theorem dX10_laysLayers_78 : decode (dc DX10_laysLayers) 78 = .ok (.getfield 22, 3) := by decide +kernel
theorem dX10_laysLayers_81 : decode (dc DX10_laysLayers) 81 = .ok (.iconst 0, 1) := by decide +kernel
theorem dX10_laysLayers_82 : decode (dc DX10_laysLayers) 82 = .ok (.aaload, 1) := by decide +kernel
theorem dX10_laysLayers_83 : decode (dc DX10_laysLayers) 83 = .ok (.iconst 0, 1) := by decide +kernel
theorem dX10_laysLayers_84 : decode (dc DX10_laysLayers) 84 = .ok (.iaload, 1) := by decide +kernel
theorem dX10_laysLayers_85 : decode (dc DX10_laysLayers) 85 = .ok (.if_icmp .ge 100, 3) := by decide +kernel
theorem dX10_laysLayers_88 : decode (dc DX10_laysLayers) 88 = .ok (.aload_n 0, 1) := by decide +kernel
theorem dX10_laysLayers_89 : decode (dc DX10_laysLayers) 89 = .ok (.getfield 45, 3) := by decide +kernel
theorem dX10_laysLayers_92 : decode (dc DX10_laysLayers) 92 = .ok (.iload_n 3, 1) := by decide +kernel
theorem dX10_laysLayers_93 : decode (dc DX10_laysLayers) 93 = .ok (.iaload, 1) := by decide +kernel
theorem dX10_laysLayers_94 : decode (dc DX10_laysLayers) 94 = .ok (.iload_n 1, 1) := by decide +kernel
theorem dX10_laysLayers_95 : decode (dc DX10_laysLayers) 95 = .ok (.if_icmp .eq 6, 3) := by decide +kernel
theorem dX10_laysLayers_98 : decode (dc DX10_laysLayers) 98 = .ok (.goto 81, 3) := by decide +kernel
theorem dX10_laysLayers_101 : decode (dc DX10_laysLayers) 101 = .ok (.iconst 0, 1) := by decide +kernel
theorem dX10_laysLayers_102 : decode (dc DX10_laysLayers) 102 = .ok (.istore 4, 2) := by decide +kernel
theorem dX10_laysLayers_104 : decode (dc DX10_laysLayers) 104 = .ok (.iload 4, 2) := by decide +kernel
theorem dX10_laysLayers_106 : decode (dc DX10_laysLayers) 106 = .ok (.aload_n 0, 1) := by decide +kernel
theorem dX10_laysLayers_107 : decode (dc DX10_laysLayers) 107 = .ok (.getfield 22, 3) := by decide +kernel
theorem dX10_laysLayers_110 : decode (dc DX10_laysLayers) 110 = .ok (.iconst 0, 1) := by decide +kernel
theorem dX10_laysLayers_111 : decode (dc DX10_laysLayers) 111 = .ok (.aaload, 1) := by decide +kernel
theorem dX10_laysLayers_112 : decode (dc DX10_laysLayers) 112 = .ok (.iconst 1, 1) := by decide +kernel
theorem dX10_laysLayers_113 : decode (dc DX10_laysLayers) 113 = .ok (.iaload, 1) := by decide +kernel
theorem dX10_laysLayers_114 : decode (dc DX10_laysLayers) 114 = .ok (.if_icmp .ge 65, 3) := by decide +kernel
theorem dX10_laysLayers_117 : decode (dc DX10_laysLayers) 117 = .ok (.aload_n 0, 1) := by decide +kernel
theorem dX10_laysLayers_118 : decode (dc DX10_laysLayers) 118 = .ok (.iload_n 3, 1) := by decide +kernel
theorem dX10_laysLayers_119 : decode (dc DX10_laysLayers) 119 = .ok (.invokevirtual 246, 3) := by decide +kernel
theorem dX10_laysLayers_122 : decode (dc DX10_laysLayers) 122 = .ok (.iload 4, 2) := by decide +kernel
theorem dX10_laysLayers_124 : decode (dc DX10_laysLayers) 124 = .ok (.invokestatic 182, 3) := by decide +kernel
theorem dX10_laysLayers_127 : decode (dc DX10_laysLayers) 127 = .ok (.ifCond .eq 46, 3) := by decide +kernel
theorem dX10_laysLayers_130 : decode (dc DX10_laysLayers) 130 = .ok (.aload_n 0, 1) := by decide +kernel
theorem dX10_laysLayers_131 : decode (dc DX10_laysLayers) 131 = .ok (.getfield 48, 3) := by decide +kernel
theorem dX10_laysLayers_134 : decode (dc DX10_laysLayers) 134 = .ok (.iload 4, 2) := by decide +kernel
theorem dX10_laysLayers_136 : decode (dc DX10_laysLayers) 136 = .ok (.iaload, 1) := by decide +kernel
theorem dX10_laysLayers_137 : decode (dc DX10_laysLayers) 137 = .ok (.iconst (-1), 1) := by decide +kernel
theorem dX10_laysLayers_138 : decode (dc DX10_laysLayers) 138 = .ok (.if_icmp .eq 6, 3) := by decide +kernel
theorem dX10_laysLayers_141 : decode (dc DX10_laysLayers) 141 = .ok (.goto 32, 3) := by decide +kernel
theorem dX10_laysLayers_144 : decode (dc DX10_laysLayers) 144 = .ok (.aload_n 0, 1) := by decide +kernel
theorem dX10_laysLayers_145 : decode (dc DX10_laysLayers) 145 = .ok (.getfield 48, 3) := by decide +kernel
theorem dX10_laysLayers_148 : decode (dc DX10_laysLayers) 148 = .ok (.iload 4, 2) := by decide +kernel
theorem dX10_laysLayers_150 : decode (dc DX10_laysLayers) 150 = .ok (.iload_n 1, 1) := by decide +kernel
theorem dX10_laysLayers_151 : decode (dc DX10_laysLayers) 151 = .ok (.iconst 1, 1) := by decide +kernel
theorem dX10_laysLayers_152 : decode (dc DX10_laysLayers) 152 = .ok (.iadd, 1) := by decide +kernel
theorem dX10_laysLayers_153 : decode (dc DX10_laysLayers) 153 = .ok (.iastore, 1) := by decide +kernel
theorem dX10_laysLayers_154 : decode (dc DX10_laysLayers) 154 = .ok (.iload_n 2, 1) := by decide +kernel
theorem dX10_laysLayers_155 : decode (dc DX10_laysLayers) 155 = .ok (.aload_n 0, 1) := by decide +kernel
theorem dX10_laysLayers_156 : decode (dc DX10_laysLayers) 156 = .ok (.iconst 1, 1) := by decide +kernel
theorem dX10_laysLayers_157 : decode (dc DX10_laysLayers) 157 = .ok (.iload 4, 2) := by decide +kernel
theorem dX10_laysLayers_159 : decode (dc DX10_laysLayers) 159 = .ok (.invokevirtual 243, 3) := by decide +kernel
theorem dX10_laysLayers_162 : decode (dc DX10_laysLayers) 162 = .ok (.iconst (-1), 1) := by decide +kernel
theorem dX10_laysLayers_163 : decode (dc DX10_laysLayers) 163 = .ok (.if_icmp .ne 7, 3) := by decide +kernel
theorem dX10_laysLayers_166 : decode (dc DX10_laysLayers) 166 = .ok (.iconst 1, 1) := by decide +kernel
theorem dX10_laysLayers_167 : decode (dc DX10_laysLayers) 167 = .ok (.goto 4, 3) := by decide +kernel
theorem dX10_laysLayers_170 : decode (dc DX10_laysLayers) 170 = .ok (.iconst 0, 1) := by decide +kernel
theorem dX10_laysLayers_171 : decode (dc DX10_laysLayers) 171 = .ok (.ior, 1) := by decide +kernel
theorem dX10_laysLayers_172 : decode (dc DX10_laysLayers) 172 = .ok (.istore_n 2, 1) := by decide +kernel
theorem dX10_laysLayers_173 : decode (dc DX10_laysLayers) 173 = .ok (.iinc 4 1, 3) := by decide +kernel
theorem dX10_laysLayers_176 : decode (dc DX10_laysLayers) 176 = .ok (.goto (-72), 3) := by decide +kernel
theorem dX10_laysLayers_179 : decode (dc DX10_laysLayers) 179 = .ok (.iinc 3 1, 3) := by decide +kernel
theorem dX10_laysLayers_182 : decode (dc DX10_laysLayers) 182 = .ok (.goto (-106), 3) := by decide +kernel
theorem dX10_laysLayers_185 : decode (dc DX10_laysLayers) 185 = .ok (.iload_n 2, 1) := by decide +kernel
theorem dX10_laysLayers_186 : decode (dc DX10_laysLayers) 186 = .ok (.ifCond .eq 5, 3) := by decide +kernel
theorem dX10_laysLayers_189 : decode (dc DX10_laysLayers) 189 = .ok (.iconst 1, 1) := by decide +kernel
theorem dX10_laysLayers_190 : decode (dc DX10_laysLayers) 190 = .ok (.ireturn, 1) := by decide +kernel
theorem dX10_laysLayers_191 : decode (dc DX10_laysLayers) 191 = .ok (.iconst 0, 1) := by decide +kernel
theorem dX10_laysLayers_192 : decode (dc DX10_laysLayers) 192 = .ok (.istore_n 3, 1) := by decide +kernel
theorem dX10_laysLayers_193 : decode (dc DX10_laysLayers) 193 = .ok (.iload_n 3, 1) := by decide +kernel
theorem dX10_laysLayers_194 : decode (dc DX10_laysLayers) 194 = .ok (.aload_n 0, 1) := by decide +kernel
theorem dX10_laysLayers_195 : decode (dc DX10_laysLayers) 195 = .ok (.getfield 22, 3) := by decide +kernel
theorem dX10_laysLayers_198 : decode (dc DX10_laysLayers) 198 = .ok (.iconst 0, 1) := by decide +kernel
theorem dX10_laysLayers_199 : decode (dc DX10_laysLayers) 199 = .ok (.aaload, 1) := by decide +kernel
theorem dX10_laysLayers_200 : decode (dc DX10_laysLayers) 200 = .ok (.iconst 1, 1) := by decide +kernel
theorem dX10_laysLayers_201 : decode (dc DX10_laysLayers) 201 = .ok (.iaload, 1) := by decide +kernel
theorem dX10_laysLayers_202 : decode (dc DX10_laysLayers) 202 = .ok (.if_icmp .ge 35, 3) := by decide +kernel
theorem dX10_laysLayers_205 : decode (dc DX10_laysLayers) 205 = .ok (.aload_n 0, 1) := by decide +kernel
theorem dX10_laysLayers_206 : decode (dc DX10_laysLayers) 206 = .ok (.getfield 48, 3) := by decide +kernel
theorem dX10_laysLayers_209 : decode (dc DX10_laysLayers) 209 = .ok (.iload_n 3, 1) := by decide +kernel
theorem dX10_laysLayers_210 : decode (dc DX10_laysLayers) 210 = .ok (.iaload, 1) := by decide +kernel
theorem dX10_laysLayers_211 : decode (dc DX10_laysLayers) 211 = .ok (.iload_n 1, 1) := by decide +kernel
theorem dX10_laysLayers_212 : decode (dc DX10_laysLayers) 212 = .ok (.iconst 1, 1) := by decide +kernel
theorem dX10_laysLayers_213 : decode (dc DX10_laysLayers) 213 = .ok (.iadd, 1) := by decide +kernel
theorem dX10_laysLayers_214 : decode (dc DX10_laysLayers) 214 = .ok (.if_icmp .ne 17, 3) := by decide +kernel
theorem dX10_laysLayers_217 : decode (dc DX10_laysLayers) 217 = .ok (.aload_n 0, 1) := by decide +kernel
theorem dX10_laysLayers_218 : decode (dc DX10_laysLayers) 218 = .ok (.getfield 45, 3) := by decide +kernel
theorem dX10_laysLayers_221 : decode (dc DX10_laysLayers) 221 = .ok (.aload_n 0, 1) := by decide +kernel
theorem dX10_laysLayers_222 : decode (dc DX10_laysLayers) 222 = .ok (.iconst 1, 1) := by decide +kernel
theorem dX10_laysLayers_223 : decode (dc DX10_laysLayers) 223 = .ok (.iload_n 3, 1) := by decide +kernel
theorem dX10_laysLayers_224 : decode (dc DX10_laysLayers) 224 = .ok (.invokevirtual 243, 3) := by decide +kernel
theorem dX10_laysLayers_227 : decode (dc DX10_laysLayers) 227 = .ok (.iload_n 1, 1) := by decide +kernel
theorem dX10_laysLayers_228 : decode (dc DX10_laysLayers) 228 = .ok (.iconst 2, 1) := by decide +kernel
theorem dX10_laysLayers_229 : decode (dc DX10_laysLayers) 229 = .ok (.iadd, 1) := by decide +kernel
theorem dX10_laysLayers_230 : decode (dc DX10_laysLayers) 230 = .ok (.iastore, 1) := by decide +kernel
theorem dX10_laysLayers_231 : decode (dc DX10_laysLayers) 231 = .ok (.iinc 3 1, 3) := by decide +kernel
theorem dX10_laysLayers_234 : decode (dc DX10_laysLayers) 234 = .ok (.goto (-41), 3) := by decide +kernel
theorem dX10_laysLayers_237 : decode (dc DX10_laysLayers) 237 = .ok (.iinc 1 2, 3) := by decide +kernel
theorem dX10_laysLayers_240 : decode (dc DX10_laysLayers) 240 = .ok (.goto (-174), 3) := by decide +kernel
theorem dX10_laysLayers_243 : decode (dc DX10_laysLayers) 243 = .ok (.iconst 0, 1) := by decide +kernel
theorem dX10_laysLayers_244 : decode (dc DX10_laysLayers) 244 = .ok (.ireturn, 1) := by decide +kernel
theorem dX10_seeks_0 {l : Nat} : decode (dc (DX10_seeks l)) 0 = .ok (.aload_n 0, 1) := (show decode cX10_seeks 0 = .ok (.aload_n 0, 1) from by decide +kernel)
theorem dX10_seeks_1 {l : Nat} : decode (dc (DX10_seeks l)) 1 = .ok (.dup, 1) := (show decode cX10_seeks 1 = .ok (.dup, 1) from by decide +kernel)
theorem dX10_seeks_2 {l : Nat} : decode (dc (DX10_seeks l)) 2 = .ok (.getfield 291, 3) := (show decode cX10_seeks 2 = .ok (.getfield 291, 3) from by decide +kernel)
theorem dX10_seeks_5 {l : Nat} : decode (dc (DX10_seeks l)) 5 = .ok (.iconst 1, 1) := (show decode cX10_seeks 5 = .ok (.iconst 1, 1) from by decide +kernel)
theorem dX10_seeks_6 {l : Nat} : decode (dc (DX10_seeks l)) 6 = .ok (.iload_n 1, 1) := (show decode cX10_seeks 6 = .ok (.iload_n 1, 1) from by decide +kernel)
theorem dX10_seeks_7 {l : Nat} : decode (dc (DX10_seeks l)) 7 = .ok (.ishl, 1) := (show decode cX10_seeks 7 = .ok (.ishl, 1) from by decide +kernel)
theorem dX10_seeks_8 {l : Nat} : decode (dc (DX10_seeks l)) 8 = .ok (.ior, 1) := (show decode cX10_seeks 8 = .ok (.ior, 1) from by decide +kernel)
theorem dX10_seeks_9 {l : Nat} : decode (dc (DX10_seeks l)) 9 = .ok (.putfield 291, 3) := (show decode cX10_seeks 9 = .ok (.putfield 291, 3) from by decide +kernel)
theorem dX10_seeks_12 {l : Nat} : decode (dc (DX10_seeks l)) 12 = .ok (.iconst 0, 1) := (show decode cX10_seeks 12 = .ok (.iconst 0, 1) from by decide +kernel)
theorem dX10_seeks_13 {l : Nat} : decode (dc (DX10_seeks l)) 13 = .ok (.istore_n 2, 1) := (show decode cX10_seeks 13 = .ok (.istore_n 2, 1) from by decide +kernel)
theorem dX10_seeks_14 {l : Nat} : decode (dc (DX10_seeks l)) 14 = .ok (.iload_n 2, 1) := (show decode cX10_seeks 14 = .ok (.iload_n 2, 1) from by decide +kernel)
theorem dX10_seeks_15 {l : Nat} : decode (dc (DX10_seeks l)) 15 = .ok (.aload_n 0, 1) := (show decode cX10_seeks 15 = .ok (.aload_n 0, 1) from by decide +kernel)
theorem dX10_seeks_16 {l : Nat} : decode (dc (DX10_seeks l)) 16 = .ok (.getfield 22, 3) := (show decode cX10_seeks 16 = .ok (.getfield 22, 3) from by decide +kernel)
theorem dX10_seeks_19 {l : Nat} : decode (dc (DX10_seeks l)) 19 = .ok (.iconst 0, 1) := (show decode cX10_seeks 19 = .ok (.iconst 0, 1) from by decide +kernel)
theorem dX10_seeks_20 {l : Nat} : decode (dc (DX10_seeks l)) 20 = .ok (.aaload, 1) := (show decode cX10_seeks 20 = .ok (.aaload, 1) from by decide +kernel)
theorem dX10_seeks_21 {l : Nat} : decode (dc (DX10_seeks l)) 21 = .ok (.iconst 1, 1) := (show decode cX10_seeks 21 = .ok (.iconst 1, 1) from by decide +kernel)
theorem dX10_seeks_22 {l : Nat} : decode (dc (DX10_seeks l)) 22 = .ok (.iaload, 1) := (show decode cX10_seeks 22 = .ok (.iaload, 1) from by decide +kernel)
theorem dX10_seeks_23 {l : Nat} : decode (dc (DX10_seeks l)) 23 = .ok (.if_icmp .ge 141, 3) := (show decode cX10_seeks 23 = .ok (.if_icmp .ge 141, 3) from by decide +kernel)
theorem dX10_seeks_26 {l : Nat} : decode (dc (DX10_seeks l)) 26 = .ok (.aload_n 0, 1) := (show decode cX10_seeks 26 = .ok (.aload_n 0, 1) from by decide +kernel)
theorem dX10_seeks_27 {l : Nat} : decode (dc (DX10_seeks l)) 27 = .ok (.iload_n 1, 1) := (show decode cX10_seeks 27 = .ok (.iload_n 1, 1) from by decide +kernel)
theorem dX10_seeks_28 {l : Nat} : decode (dc (DX10_seeks l)) 28 = .ok (.invokevirtual 246, 3) := (show decode cX10_seeks 28 = .ok (.invokevirtual 246, 3) from by decide +kernel)
theorem dX10_seeks_31 {l : Nat} : decode (dc (DX10_seeks l)) 31 = .ok (.iload_n 2, 1) := (show decode cX10_seeks 31 = .ok (.iload_n 2, 1) from by decide +kernel)
theorem dX10_seeks_32 {l : Nat} : decode (dc (DX10_seeks l)) 32 = .ok (.invokestatic 182, 3) := (show decode cX10_seeks 32 = .ok (.invokestatic 182, 3) from by decide +kernel)
theorem dX10_seeks_35 {l : Nat} : decode (dc (DX10_seeks l)) 35 = .ok (.ifCond .eq 123, 3) := (show decode cX10_seeks 35 = .ok (.ifCond .eq 123, 3) from by decide +kernel)
theorem dX10_seeks_38 {l : Nat} : decode (dc (DX10_seeks l)) 38 = .ok (.aload_n 0, 1) := (show decode cX10_seeks 38 = .ok (.aload_n 0, 1) from by decide +kernel)
theorem dX10_seeks_39 {l : Nat} : decode (dc (DX10_seeks l)) 39 = .ok (.getfield 294, 3) := (show decode cX10_seeks 39 = .ok (.getfield 294, 3) from by decide +kernel)
theorem dX10_seeks_42 {l : Nat} : decode (dc (DX10_seeks l)) 42 = .ok (.iload_n 2, 1) := (show decode cX10_seeks 42 = .ok (.iload_n 2, 1) from by decide +kernel)
theorem dX10_seeks_43 {l : Nat} : decode (dc (DX10_seeks l)) 43 = .ok (.invokestatic 182, 3) := (show decode cX10_seeks 43 = .ok (.invokestatic 182, 3) from by decide +kernel)
theorem dX10_seeks_46 {l : Nat} : decode (dc (DX10_seeks l)) 46 = .ok (.ifCond .ne 112, 3) := (show decode cX10_seeks 46 = .ok (.ifCond .ne 112, 3) from by decide +kernel)
theorem dX10_seeks_49 {l : Nat} : decode (dc (DX10_seeks l)) 49 = .ok (.aload_n 0, 1) := (show decode cX10_seeks 49 = .ok (.aload_n 0, 1) from by decide +kernel)
theorem dX10_seeks_50 {l : Nat} : decode (dc (DX10_seeks l)) 50 = .ok (.getfield 48, 3) := (show decode cX10_seeks 50 = .ok (.getfield 48, 3) from by decide +kernel)
theorem dX10_seeks_53 {l : Nat} : decode (dc (DX10_seeks l)) 53 = .ok (.iload_n 2, 1) := (show decode cX10_seeks 53 = .ok (.iload_n 2, 1) from by decide +kernel)
theorem dX10_seeks_54 {l : Nat} : decode (dc (DX10_seeks l)) 54 = .ok (.iaload, 1) := (show decode cX10_seeks 54 = .ok (.iaload, 1) from by decide +kernel)
theorem dX10_seeks_55 {l : Nat} : decode (dc (DX10_seeks l)) 55 = .ok (.aload_n 0, 1) := (show decode cX10_seeks 55 = .ok (.aload_n 0, 1) from by decide +kernel)
theorem dX10_seeks_56 {l : Nat} : decode (dc (DX10_seeks l)) 56 = .ok (.getfield 45, 3) := (show decode cX10_seeks 56 = .ok (.getfield 45, 3) from by decide +kernel)
theorem dX10_seeks_59 {l : Nat} : decode (dc (DX10_seeks l)) 59 = .ok (.iload_n 1, 1) := (show decode cX10_seeks 59 = .ok (.iload_n 1, 1) from by decide +kernel)
theorem dX10_seeks_60 {l : Nat} : decode (dc (DX10_seeks l)) 60 = .ok (.iaload, 1) := (show decode cX10_seeks 60 = .ok (.iaload, 1) from by decide +kernel)
theorem dX10_seeks_61 {l : Nat} : decode (dc (DX10_seeks l)) 61 = .ok (.iconst 1, 1) := (show decode cX10_seeks 61 = .ok (.iconst 1, 1) from by decide +kernel)
theorem dX10_seeks_62 {l : Nat} : decode (dc (DX10_seeks l)) 62 = .ok (.iadd, 1) := (show decode cX10_seeks 62 = .ok (.iadd, 1) from by decide +kernel)
theorem dX10_seeks_63 {l : Nat} : decode (dc (DX10_seeks l)) 63 = .ok (.if_icmp .eq 6, 3) := (show decode cX10_seeks 63 = .ok (.if_icmp .eq 6, 3) from by decide +kernel)
theorem dX10_seeks_66 {l : Nat} : decode (dc (DX10_seeks l)) 66 = .ok (.goto 92, 3) := (show decode cX10_seeks 66 = .ok (.goto 92, 3) from by decide +kernel)
theorem dX10_seeks_69 {l : Nat} : decode (dc (DX10_seeks l)) 69 = .ok (.aload_n 0, 1) := (show decode cX10_seeks 69 = .ok (.aload_n 0, 1) from by decide +kernel)
theorem dX10_seeks_70 {l : Nat} : decode (dc (DX10_seeks l)) 70 = .ok (.dup, 1) := (show decode cX10_seeks 70 = .ok (.dup, 1) from by decide +kernel)
theorem dX10_seeks_71 {l : Nat} : decode (dc (DX10_seeks l)) 71 = .ok (.getfield 294, 3) := (show decode cX10_seeks 71 = .ok (.getfield 294, 3) from by decide +kernel)
theorem dX10_seeks_74 {l : Nat} : decode (dc (DX10_seeks l)) 74 = .ok (.iconst 1, 1) := (show decode cX10_seeks 74 = .ok (.iconst 1, 1) from by decide +kernel)
theorem dX10_seeks_75 {l : Nat} : decode (dc (DX10_seeks l)) 75 = .ok (.iload_n 2, 1) := (show decode cX10_seeks 75 = .ok (.iload_n 2, 1) from by decide +kernel)
theorem dX10_seeks_76 {l : Nat} : decode (dc (DX10_seeks l)) 76 = .ok (.ishl, 1) := (show decode cX10_seeks 76 = .ok (.ishl, 1) from by decide +kernel)
theorem dX10_seeks_77 {l : Nat} : decode (dc (DX10_seeks l)) 77 = .ok (.ior, 1) := (show decode cX10_seeks 77 = .ok (.ior, 1) from by decide +kernel)
theorem dX10_seeks_78 {l : Nat} : decode (dc (DX10_seeks l)) 78 = .ok (.putfield 294, 3) := (show decode cX10_seeks 78 = .ok (.putfield 294, 3) from by decide +kernel)
theorem dX10_seeks_81 {l : Nat} : decode (dc (DX10_seeks l)) 81 = .ok (.aload_n 0, 1) := (show decode cX10_seeks 81 = .ok (.aload_n 0, 1) from by decide +kernel)
theorem dX10_seeks_82 {l : Nat} : decode (dc (DX10_seeks l)) 82 = .ok (.iconst 1, 1) := (show decode cX10_seeks 82 = .ok (.iconst 1, 1) from by decide +kernel)
theorem dX10_seeks_83 {l : Nat} : decode (dc (DX10_seeks l)) 83 = .ok (.iload_n 2, 1) := (show decode cX10_seeks 83 = .ok (.iload_n 2, 1) from by decide +kernel)
theorem dX10_seeks_84 {l : Nat} : decode (dc (DX10_seeks l)) 84 = .ok (.invokevirtual 243, 3) := (show decode cX10_seeks 84 = .ok (.invokevirtual 243, 3) from by decide +kernel)
theorem dX10_seeks_87 {l : Nat} : decode (dc (DX10_seeks l)) 87 = .ok (.istore_n 3, 1) := (show decode cX10_seeks 87 = .ok (.istore_n 3, 1) from by decide +kernel)
theorem dX10_seeks_88 {l : Nat} : decode (dc (DX10_seeks l)) 88 = .ok (.iconst 0, 1) := (show decode cX10_seeks 88 = .ok (.iconst 0, 1) from by decide +kernel)
theorem dX10_seeks_89 {l : Nat} : decode (dc (DX10_seeks l)) 89 = .ok (.istore 4, 2) := (show decode cX10_seeks 89 = .ok (.istore 4, 2) from by decide +kernel)
theorem dX10_seeks_91 {l : Nat} : decode (dc (DX10_seeks l)) 91 = .ok (.iload_n 3, 1) := (show decode cX10_seeks 91 = .ok (.iload_n 3, 1) from by decide +kernel)
theorem dX10_seeks_92 {l : Nat} : decode (dc (DX10_seeks l)) 92 = .ok (.iconst (-1), 1) := (show decode cX10_seeks 92 = .ok (.iconst (-1), 1) from by decide +kernel)
theorem dX10_seeks_93 {l : Nat} : decode (dc (DX10_seeks l)) 93 = .ok (.if_icmp .eq 42, 3) := (show decode cX10_seeks 93 = .ok (.if_icmp .eq 42, 3) from by decide +kernel)
theorem dX10_seeks_96 {l : Nat} : decode (dc (DX10_seeks l)) 96 = .ok (.aload_n 0, 1) := (show decode cX10_seeks 96 = .ok (.aload_n 0, 1) from by decide +kernel)
theorem dX10_seeks_97 {l : Nat} : decode (dc (DX10_seeks l)) 97 = .ok (.getfield 45, 3) := (show decode cX10_seeks 97 = .ok (.getfield 45, 3) from by decide +kernel)
theorem dX10_seeks_100 {l : Nat} : decode (dc (DX10_seeks l)) 100 = .ok (.iload_n 3, 1) := (show decode cX10_seeks 100 = .ok (.iload_n 3, 1) from by decide +kernel)
theorem dX10_seeks_101 {l : Nat} : decode (dc (DX10_seeks l)) 101 = .ok (.iaload, 1) := (show decode cX10_seeks 101 = .ok (.iaload, 1) from by decide +kernel)
theorem dX10_seeks_102 {l : Nat} : decode (dc (DX10_seeks l)) 102 = .ok (.aload_n 0, 1) := (show decode cX10_seeks 102 = .ok (.aload_n 0, 1) from by decide +kernel)
theorem dX10_seeks_103 {l : Nat} : decode (dc (DX10_seeks l)) 103 = .ok (.getfield 45, 3) := (show decode cX10_seeks 103 = .ok (.getfield 45, 3) from by decide +kernel)
theorem dX10_seeks_106 {l : Nat} : decode (dc (DX10_seeks l)) 106 = .ok (.iload_n 1, 1) := (show decode cX10_seeks 106 = .ok (.iload_n 1, 1) from by decide +kernel)
theorem dX10_seeks_107 {l : Nat} : decode (dc (DX10_seeks l)) 107 = .ok (.iaload, 1) := (show decode cX10_seeks 107 = .ok (.iaload, 1) from by decide +kernel)
theorem dX10_seeks_108 {l : Nat} : decode (dc (DX10_seeks l)) 108 = .ok (.iconst 2, 1) := (show decode cX10_seeks 108 = .ok (.iconst 2, 1) from by decide +kernel)
theorem dX10_seeks_109 {l : Nat} : decode (dc (DX10_seeks l)) 109 = .ok (.iadd, 1) := (show decode cX10_seeks 109 = .ok (.iadd, 1) from by decide +kernel)
theorem dX10_seeks_110 {l : Nat} : decode (dc (DX10_seeks l)) 110 = .ok (.if_icmp .ne 22, 3) := (show decode cX10_seeks 110 = .ok (.if_icmp .ne 22, 3) from by decide +kernel)
theorem dX10_seeks_113 {l : Nat} : decode (dc (DX10_seeks l)) 113 = .ok (.aload_n 0, 1) := (show decode cX10_seeks 113 = .ok (.aload_n 0, 1) from by decide +kernel)
theorem dX10_seeks_114 {l : Nat} : decode (dc (DX10_seeks l)) 114 = .ok (.getfield 291, 3) := (show decode cX10_seeks 114 = .ok (.getfield 291, 3) from by decide +kernel)
theorem dX10_seeks_117 {l : Nat} : decode (dc (DX10_seeks l)) 117 = .ok (.iload_n 3, 1) := (show decode cX10_seeks 117 = .ok (.iload_n 3, 1) from by decide +kernel)
theorem dX10_seeks_118 {l : Nat} : decode (dc (DX10_seeks l)) 118 = .ok (.invokestatic 182, 3) := (show decode cX10_seeks 118 = .ok (.invokestatic 182, 3) from by decide +kernel)
theorem dX10_seeks_121 {l : Nat} : decode (dc (DX10_seeks l)) 121 = .ok (.ifCond .ne 11, 3) := (show decode cX10_seeks 121 = .ok (.ifCond .ne 11, 3) from by decide +kernel)
theorem dX10_seeks_124 {l : Nat} : decode (dc (DX10_seeks l)) 124 = .ok (.aload_n 0, 1) := (show decode cX10_seeks 124 = .ok (.aload_n 0, 1) from by decide +kernel)
theorem dX10_seeks_125 {l : Nat} : decode (dc (DX10_seeks l)) 125 = .ok (.iload_n 3, 1) := (show decode cX10_seeks 125 = .ok (.iload_n 3, 1) from by decide +kernel)
theorem dX10_seeks_126 {l : Nat} : decode (dc (DX10_seeks l)) 126 = .ok (.invokevirtual 297, 3) := (show decode cX10_seeks 126 = .ok (.invokevirtual 297, 3) from by decide +kernel)
theorem dX10_seeks_129 {l : Nat} : decode (dc (DX10_seeks l)) 129 = .ok (.goto 4, 3) := (show decode cX10_seeks 129 = .ok (.goto 4, 3) from by decide +kernel)
theorem dX10_seeks_132 {l : Nat} : decode (dc (DX10_seeks l)) 132 = .ok (.iconst (-1), 1) := (show decode cX10_seeks 132 = .ok (.iconst (-1), 1) from by decide +kernel)
theorem dX10_seeks_133 {l : Nat} : decode (dc (DX10_seeks l)) 133 = .ok (.istore 4, 2) := (show decode cX10_seeks 133 = .ok (.istore 4, 2) from by decide +kernel)
theorem dX10_seeks_135 {l : Nat} : decode (dc (DX10_seeks l)) 135 = .ok (.iload 4, 2) := (show decode cX10_seeks 135 = .ok (.iload 4, 2) from by decide +kernel)
theorem dX10_seeks_137 {l : Nat} : decode (dc (DX10_seeks l)) 137 = .ok (.iconst (-1), 1) := (show decode cX10_seeks 137 = .ok (.iconst (-1), 1) from by decide +kernel)
theorem dX10_seeks_138 {l : Nat} : decode (dc (DX10_seeks l)) 138 = .ok (.if_icmp .ne 6, 3) := (show decode cX10_seeks 138 = .ok (.if_icmp .ne 6, 3) from by decide +kernel)
theorem dX10_seeks_141 {l : Nat} : decode (dc (DX10_seeks l)) 141 = .ok (.goto 17, 3) := (show decode cX10_seeks 141 = .ok (.goto 17, 3) from by decide +kernel)
theorem dX10_seeks_144 {l : Nat} : decode (dc (DX10_seeks l)) 144 = .ok (.aload_n 0, 1) := (show decode cX10_seeks 144 = .ok (.aload_n 0, 1) from by decide +kernel)
theorem dX10_seeks_145 {l : Nat} : decode (dc (DX10_seeks l)) 145 = .ok (.getfield 28, 3) := (show decode cX10_seeks 145 = .ok (.getfield 28, 3) from by decide +kernel)
theorem dX10_seeks_148 {l : Nat} : decode (dc (DX10_seeks l)) 148 = .ok (.iconst 0, 1) := (show decode cX10_seeks 148 = .ok (.iconst 0, 1) from by decide +kernel)
theorem dX10_seeks_149 {l : Nat} : decode (dc (DX10_seeks l)) 149 = .ok (.aaload, 1) := (show decode cX10_seeks 149 = .ok (.aaload, 1) from by decide +kernel)
theorem dX10_seeks_150 {l : Nat} : decode (dc (DX10_seeks l)) 150 = .ok (.iload_n 1, 1) := (show decode cX10_seeks 150 = .ok (.iload_n 1, 1) from by decide +kernel)
theorem dX10_seeks_151 {l : Nat} : decode (dc (DX10_seeks l)) 151 = .ok (.iload_n 2, 1) := (show decode cX10_seeks 151 = .ok (.iload_n 2, 1) from by decide +kernel)
theorem dX10_seeks_152 {l : Nat} : decode (dc (DX10_seeks l)) 152 = .ok (.iastore, 1) := (show decode cX10_seeks 152 = .ok (.iastore, 1) from by decide +kernel)
theorem dX10_seeks_153 {l : Nat} : decode (dc (DX10_seeks l)) 153 = .ok (.iload 4, 2) := (show decode cX10_seeks 153 = .ok (.iload 4, 2) from by decide +kernel)
theorem dX10_seeks_155 {l : Nat} : decode (dc (DX10_seeks l)) 155 = .ok (.iconst 2, 1) := (show decode cX10_seeks 155 = .ok (.iconst 2, 1) from by decide +kernel)
theorem dX10_seeks_156 {l : Nat} : decode (dc (DX10_seeks l)) 156 = .ok (.iadd, 1) := (show decode cX10_seeks 156 = .ok (.iadd, 1) from by decide +kernel)
theorem dX10_seeks_157 {l : Nat} : decode (dc (DX10_seeks l)) 157 = .ok (.ireturn, 1) := (show decode cX10_seeks 157 = .ok (.ireturn, 1) from by decide +kernel)
theorem dX10_seeks_158 {l : Nat} : decode (dc (DX10_seeks l)) 158 = .ok (.iinc 2 1, 3) := (show decode cX10_seeks 158 = .ok (.iinc 2 1, 3) from by decide +kernel)
theorem dX10_seeks_161 {l : Nat} : decode (dc (DX10_seeks l)) 161 = .ok (.goto (-147), 3) := (show decode cX10_seeks 161 = .ok (.goto (-147), 3) from by decide +kernel)
theorem dX10_seeks_164 {l : Nat} : decode (dc (DX10_seeks l)) 164 = .ok (.iconst (-1), 1) := (show decode cX10_seeks 164 = .ok (.iconst (-1), 1) from by decide +kernel)
theorem dX10_seeks_165 {l : Nat} : decode (dc (DX10_seeks l)) 165 = .ok (.ireturn, 1) := (show decode cX10_seeks 165 = .ok (.ireturn, 1) from by decide +kernel)
theorem dX10_onePhase_0 : decode (dc DX10_onePhase) 0 = .ok (.aload_n 0, 1) := by decide +kernel
theorem dX10_onePhase_1 : decode (dc DX10_onePhase) 1 = .ok (.iconst 0, 1) := by decide +kernel
theorem dX10_onePhase_2 : decode (dc DX10_onePhase) 2 = .ok (.putfield 291, 3) := by decide +kernel
theorem dX10_onePhase_5 : decode (dc DX10_onePhase) 5 = .ok (.aload_n 0, 1) := by decide +kernel
theorem dX10_onePhase_6 : decode (dc DX10_onePhase) 6 = .ok (.iconst 0, 1) := by decide +kernel
theorem dX10_onePhase_7 : decode (dc DX10_onePhase) 7 = .ok (.putfield 294, 3) := by decide +kernel
theorem dX10_onePhase_10 : decode (dc DX10_onePhase) 10 = .ok (.aload_n 0, 1) := by decide +kernel
theorem dX10_onePhase_11 : decode (dc DX10_onePhase) 11 = .ok (.dup, 1) := by decide +kernel
theorem dX10_onePhase_12 : decode (dc DX10_onePhase) 12 = .ok (.getfield 300, 3) := by decide +kernel
theorem dX10_onePhase_15 : decode (dc DX10_onePhase) 15 = .ok (.iconst 1, 1) := by decide +kernel
theorem dX10_onePhase_16 : decode (dc DX10_onePhase) 16 = .ok (.iadd, 1) := by decide +kernel
theorem dX10_onePhase_17 : decode (dc DX10_onePhase) 17 = .ok (.putfield 300, 3) := by decide +kernel
theorem dX10_onePhase_20 : decode (dc DX10_onePhase) 20 = .ok (.iconst 0, 1) := by decide +kernel
theorem dX10_onePhase_21 : decode (dc DX10_onePhase) 21 = .ok (.istore_n 1, 1) := by decide +kernel
theorem dX10_onePhase_22 : decode (dc DX10_onePhase) 22 = .ok (.iload_n 1, 1) := by decide +kernel
theorem dX10_onePhase_23 : decode (dc DX10_onePhase) 23 = .ok (.aload_n 0, 1) := by decide +kernel
theorem dX10_onePhase_24 : decode (dc DX10_onePhase) 24 = .ok (.getfield 22, 3) := by decide +kernel
theorem dX10_onePhase_27 : decode (dc DX10_onePhase) 27 = .ok (.iconst 0, 1) := by decide +kernel
theorem dX10_onePhase_28 : decode (dc DX10_onePhase) 28 = .ok (.aaload, 1) := by decide +kernel
theorem dX10_onePhase_29 : decode (dc DX10_onePhase) 29 = .ok (.iconst 0, 1) := by decide +kernel
theorem dX10_onePhase_30 : decode (dc DX10_onePhase) 30 = .ok (.iaload, 1) := by decide +kernel
theorem dX10_onePhase_31 : decode (dc DX10_onePhase) 31 = .ok (.if_icmp .ge 83, 3) := by decide +kernel
theorem dX10_onePhase_34 : decode (dc DX10_onePhase) 34 = .ok (.aload_n 0, 1) := by decide +kernel
theorem dX10_onePhase_35 : decode (dc DX10_onePhase) 35 = .ok (.iconst 0, 1) := by decide +kernel
theorem dX10_onePhase_36 : decode (dc DX10_onePhase) 36 = .ok (.iload_n 1, 1) := by decide +kernel
theorem dX10_onePhase_37 : decode (dc DX10_onePhase) 37 = .ok (.invokevirtual 255, 3) := by decide +kernel
theorem dX10_onePhase_40 : decode (dc DX10_onePhase) 40 = .ok (.ifCond .eq 68, 3) := by decide +kernel
theorem dX10_onePhase_43 : decode (dc DX10_onePhase) 43 = .ok (.aload_n 0, 1) := by decide +kernel
theorem dX10_onePhase_44 : decode (dc DX10_onePhase) 44 = .ok (.getfield 291, 3) := by decide +kernel
theorem dX10_onePhase_47 : decode (dc DX10_onePhase) 47 = .ok (.iload_n 1, 1) := by decide +kernel
theorem dX10_onePhase_48 : decode (dc DX10_onePhase) 48 = .ok (.invokestatic 182, 3) := by decide +kernel
theorem dX10_onePhase_51 : decode (dc DX10_onePhase) 51 = .ok (.ifCond .eq 6, 3) := by decide +kernel
theorem dX10_onePhase_54 : decode (dc DX10_onePhase) 54 = .ok (.goto 54, 3) := by decide +kernel
theorem dX10_onePhase_57 : decode (dc DX10_onePhase) 57 = .ok (.aload_n 0, 1) := by decide +kernel
theorem dX10_onePhase_58 : decode (dc DX10_onePhase) 58 = .ok (.iload_n 1, 1) := by decide +kernel
theorem dX10_onePhase_59 : decode (dc DX10_onePhase) 59 = .ok (.invokevirtual 297, 3) := by decide +kernel
theorem dX10_onePhase_62 : decode (dc DX10_onePhase) 62 = .ok (.istore_n 2, 1) := by decide +kernel
theorem dX10_onePhase_63 : decode (dc DX10_onePhase) 63 = .ok (.iload_n 2, 1) := by decide +kernel
theorem dX10_onePhase_64 : decode (dc DX10_onePhase) 64 = .ok (.iconst (-1), 1) := by decide +kernel
theorem dX10_onePhase_65 : decode (dc DX10_onePhase) 65 = .ok (.if_icmp .ne 6, 3) := by decide +kernel
theorem dX10_onePhase_68 : decode (dc DX10_onePhase) 68 = .ok (.goto 40, 3) := by decide +kernel
theorem dX10_onePhase_71 : decode (dc DX10_onePhase) 71 = .ok (.aload_n 0, 1) := by decide +kernel
theorem dX10_onePhase_72 : decode (dc DX10_onePhase) 72 = .ok (.dup, 1) := by decide +kernel
theorem dX10_onePhase_73 : decode (dc DX10_onePhase) 73 = .ok (.getfield 303, 3) := by decide +kernel
theorem dX10_onePhase_76 : decode (dc DX10_onePhase) 76 = .ok (.iconst 1, 1) := by decide +kernel
theorem dX10_onePhase_77 : decode (dc DX10_onePhase) 77 = .ok (.iadd, 1) := by decide +kernel
theorem dX10_onePhase_78 : decode (dc DX10_onePhase) 78 = .ok (.putfield 303, 3) := by decide +kernel
theorem dX10_onePhase_81 : decode (dc DX10_onePhase) 81 = .ok (.aload_n 0, 1) := by decide +kernel
theorem dX10_onePhase_82 : decode (dc DX10_onePhase) 82 = .ok (.dup, 1) := by decide +kernel
theorem dX10_onePhase_83 : decode (dc DX10_onePhase) 83 = .ok (.getfield 306, 3) := by decide +kernel
theorem dX10_onePhase_86 : decode (dc DX10_onePhase) 86 = .ok (.aload_n 0, 1) := by decide +kernel
theorem dX10_onePhase_87 : decode (dc DX10_onePhase) 87 = .ok (.getfield 300, 3) := by decide +kernel
theorem dX10_onePhase_90 : decode (dc DX10_onePhase) 90 = .ok (.iconst 1, 1) := by decide +kernel
theorem dX10_onePhase_91 : decode (dc DX10_onePhase) 91 = .ok (.if_icmp .ne 7, 3) := by decide +kernel
theorem dX10_onePhase_94 : decode (dc DX10_onePhase) 94 = .ok (.iconst 1, 1) := by decide +kernel
theorem dX10_onePhase_95 : decode (dc DX10_onePhase) 95 = .ok (.goto 4, 3) := by decide +kernel
theorem dX10_onePhase_98 : decode (dc DX10_onePhase) 98 = .ok (.iconst 0, 1) := by decide +kernel
theorem dX10_onePhase_99 : decode (dc DX10_onePhase) 99 = .ok (.iadd, 1) := by decide +kernel
theorem dX10_onePhase_100 : decode (dc DX10_onePhase) 100 = .ok (.putfield 306, 3) := by decide +kernel
theorem dX10_onePhase_103 : decode (dc DX10_onePhase) 103 = .ok (.aload_n 0, 1) := by decide +kernel
theorem dX10_onePhase_104 : decode (dc DX10_onePhase) 104 = .ok (.iload_n 2, 1) := by decide +kernel
theorem dX10_onePhase_105 : decode (dc DX10_onePhase) 105 = .ok (.putfield 309, 3) := by decide +kernel
theorem dX10_onePhase_108 : decode (dc DX10_onePhase) 108 = .ok (.iinc 1 1, 3) := by decide +kernel
theorem dX10_onePhase_111 : decode (dc DX10_onePhase) 111 = .ok (.goto (-89), 3) := by decide +kernel
theorem dX10_onePhase_114 : decode (dc DX10_onePhase) 114 = .ok (.return_, 1) := by decide +kernel
theorem dX10_thinks_0 : decode (dc DX10_thinks) 0 = .ok (.aload_n 0, 1) := by decide +kernel
theorem dX10_thinks_1 : decode (dc DX10_thinks) 1 = .ok (.iconst 0, 1) := by decide +kernel
theorem dX10_thinks_2 : decode (dc DX10_thinks) 2 = .ok (.bipush 17, 2) := by decide +kernel
theorem dX10_thinks_4 : decode (dc DX10_thinks) 4 = .ok (.invokevirtual 228, 3) := by decide +kernel
theorem dX10_thinks_7 : decode (dc DX10_thinks) 7 = .ok (.iconst 0, 1) := by decide +kernel
theorem dX10_thinks_8 : decode (dc DX10_thinks) 8 = .ok (.istore_n 1, 1) := by decide +kernel
theorem dX10_thinks_9 : decode (dc DX10_thinks) 9 = .ok (.iload_n 1, 1) := by decide +kernel
theorem dX10_thinks_10 : decode (dc DX10_thinks) 10 = .ok (.bipush 12, 2) := by decide +kernel
theorem dX10_thinks_12 : decode (dc DX10_thinks) 12 = .ok (.if_icmp .ge 18, 3) := by decide +kernel
theorem dX10_thinks_15 : decode (dc DX10_thinks) 15 = .ok (.aload_n 0, 1) := by decide +kernel
theorem dX10_thinks_16 : decode (dc DX10_thinks) 16 = .ok (.getfield 28, 3) := by decide +kernel
theorem dX10_thinks_19 : decode (dc DX10_thinks) 19 = .ok (.iconst 0, 1) := by decide +kernel
theorem dX10_thinks_20 : decode (dc DX10_thinks) 20 = .ok (.aaload, 1) := by decide +kernel
theorem dX10_thinks_21 : decode (dc DX10_thinks) 21 = .ok (.iload_n 1, 1) := by decide +kernel
theorem dX10_thinks_22 : decode (dc DX10_thinks) 22 = .ok (.iconst (-1), 1) := by decide +kernel
theorem dX10_thinks_23 : decode (dc DX10_thinks) 23 = .ok (.iastore, 1) := by decide +kernel
theorem dX10_thinks_24 : decode (dc DX10_thinks) 24 = .ok (.iinc 1 1, 3) := by decide +kernel
theorem dX10_thinks_27 : decode (dc DX10_thinks) 27 = .ok (.goto (-18), 3) := by decide +kernel
theorem dX10_thinks_30 : decode (dc DX10_thinks) 30 = .ok (.aload_n 0, 1) := by decide +kernel
theorem dX10_thinks_31 : decode (dc DX10_thinks) 31 = .ok (.iconst 0, 1) := by decide +kernel
theorem dX10_thinks_32 : decode (dc DX10_thinks) 32 = .ok (.putfield 300, 3) := by decide +kernel
theorem dX10_thinks_35 : decode (dc DX10_thinks) 35 = .ok (.aload_n 0, 1) := by decide +kernel
theorem dX10_thinks_36 : decode (dc DX10_thinks) 36 = .ok (.iconst 0, 1) := by decide +kernel
theorem dX10_thinks_37 : decode (dc DX10_thinks) 37 = .ok (.putfield 303, 3) := by decide +kernel
theorem dX10_thinks_40 : decode (dc DX10_thinks) 40 = .ok (.aload_n 0, 1) := by decide +kernel
theorem dX10_thinks_41 : decode (dc DX10_thinks) 41 = .ok (.iconst 0, 1) := by decide +kernel
theorem dX10_thinks_42 : decode (dc DX10_thinks) 42 = .ok (.putfield 306, 3) := by decide +kernel
theorem dX10_thinks_45 : decode (dc DX10_thinks) 45 = .ok (.aload_n 0, 1) := by decide +kernel
theorem dX10_thinks_46 : decode (dc DX10_thinks) 46 = .ok (.iconst 0, 1) := by decide +kernel
theorem dX10_thinks_47 : decode (dc DX10_thinks) 47 = .ok (.putfield 309, 3) := by decide +kernel
theorem dX10_thinks_50 : decode (dc DX10_thinks) 50 = .ok (.aload_n 0, 1) := by decide +kernel
theorem dX10_thinks_51 : decode (dc DX10_thinks) 51 = .ok (.invokevirtual 312, 3) := by decide +kernel
theorem dX10_thinks_54 : decode (dc DX10_thinks) 54 = .ok (.ifCond .eq 10, 3) := by decide +kernel
theorem dX10_thinks_57 : decode (dc DX10_thinks) 57 = .ok (.aload_n 0, 1) := by decide +kernel
theorem dX10_thinks_58 : decode (dc DX10_thinks) 58 = .ok (.invokevirtual 315, 3) := by decide +kernel
theorem dX10_thinks_61 : decode (dc DX10_thinks) 61 = .ok (.goto (-11), 3) := by decide +kernel
theorem dX10_thinks_64 : decode (dc DX10_thinks) 64 = .ok (.return_, 1) := by decide +kernel
theorem dX10_phases_0 : decode (dc DX10_phases) 0 = .ok (.aload_n 0, 1) := by decide +kernel
theorem dX10_phases_1 : decode (dc DX10_phases) 1 = .ok (.iconst 0, 1) := by decide +kernel
theorem dX10_phases_2 : decode (dc DX10_phases) 2 = .ok (.putfield 82, 3) := by decide +kernel
theorem dX10_phases_5 : decode (dc DX10_phases) 5 = .ok (.aload_n 0, 1) := by decide +kernel
theorem dX10_phases_6 : decode (dc DX10_phases) 6 = .ok (.iload_n 1, 1) := by decide +kernel
theorem dX10_phases_7 : decode (dc DX10_phases) 7 = .ok (.iconst 0, 1) := by decide +kernel
theorem dX10_phases_8 : decode (dc DX10_phases) 8 = .ok (.iconst 3, 1) := by decide +kernel
theorem dX10_phases_9 : decode (dc DX10_phases) 9 = .ok (.invokestatic 127, 3) := by decide +kernel
theorem dX10_phases_12 : decode (dc DX10_phases) 12 = .ok (.ifCond .ne 7, 3) := by decide +kernel
theorem dX10_phases_15 : decode (dc DX10_phases) 15 = .ok (.iconst 1, 1) := by decide +kernel
theorem dX10_phases_16 : decode (dc DX10_phases) 16 = .ok (.goto 4, 3) := by decide +kernel
theorem dX10_phases_19 : decode (dc DX10_phases) 19 = .ok (.iconst 0, 1) := by decide +kernel
theorem dX10_phases_20 : decode (dc DX10_phases) 20 = .ok (.iconst 1, 1) := by decide +kernel
theorem dX10_phases_21 : decode (dc DX10_phases) 21 = .ok (.iconst 1, 1) := by decide +kernel
theorem dX10_phases_22 : decode (dc DX10_phases) 22 = .ok (.invokevirtual 217, 3) := by decide +kernel
theorem dX10_phases_25 : decode (dc DX10_phases) 25 = .ok (.ifCond .eq 5, 3) := by decide +kernel
theorem dX10_phases_28 : decode (dc DX10_phases) 28 = .ok (.iconst 0, 1) := by decide +kernel
theorem dX10_phases_29 : decode (dc DX10_phases) 29 = .ok (.ireturn, 1) := by decide +kernel
theorem dX10_phases_30 : decode (dc DX10_phases) 30 = .ok (.aload_n 0, 1) := by decide +kernel
theorem dX10_phases_31 : decode (dc DX10_phases) 31 = .ok (.invokevirtual 318, 3) := by decide +kernel
theorem dX10_phases_34 : decode (dc DX10_phases) 34 = .ok (.aload_n 0, 1) := by decide +kernel
theorem dX10_phases_35 : decode (dc DX10_phases) 35 = .ok (.bipush 17, 2) := by decide +kernel
theorem dX10_phases_37 : decode (dc DX10_phases) 37 = .ok (.iconst 0, 1) := by decide +kernel
theorem dX10_phases_38 : decode (dc DX10_phases) 38 = .ok (.invokevirtual 228, 3) := by decide +kernel
theorem dX10_phases_41 : decode (dc DX10_phases) 41 = .ok (.iload_n 1, 1) := by decide +kernel
theorem dX10_phases_42 : decode (dc DX10_phases) 42 = .ok (.ifCond .ne 10, 3) := by decide +kernel
theorem dX10_phases_45 : decode (dc DX10_phases) 45 = .ok (.aload_n 0, 1) := by decide +kernel
theorem dX10_phases_46 : decode (dc DX10_phases) 46 = .ok (.getfield 300, 3) := by decide +kernel
theorem dX10_phases_49 : decode (dc DX10_phases) 49 = .ok (.goto 31, 3) := by decide +kernel
theorem dX10_phases_52 : decode (dc DX10_phases) 52 = .ok (.iload_n 1, 1) := by decide +kernel
theorem dX10_phases_53 : decode (dc DX10_phases) 53 = .ok (.iconst 1, 1) := by decide +kernel
theorem dX10_phases_54 : decode (dc DX10_phases) 54 = .ok (.if_icmp .ne 10, 3) := by decide +kernel
theorem dX10_phases_57 : decode (dc DX10_phases) 57 = .ok (.aload_n 0, 1) := by decide +kernel
theorem dX10_phases_58 : decode (dc DX10_phases) 58 = .ok (.getfield 303, 3) := by decide +kernel
theorem dX10_phases_61 : decode (dc DX10_phases) 61 = .ok (.goto 19, 3) := by decide +kernel
theorem dX10_phases_64 : decode (dc DX10_phases) 64 = .ok (.iload_n 1, 1) := by decide +kernel
theorem dX10_phases_65 : decode (dc DX10_phases) 65 = .ok (.iconst 2, 1) := by decide +kernel
theorem dX10_phases_66 : decode (dc DX10_phases) 66 = .ok (.if_icmp .ne 10, 3) := by decide +kernel
theorem dX10_phases_69 : decode (dc DX10_phases) 69 = .ok (.aload_n 0, 1) := by decide +kernel
theorem dX10_phases_70 : decode (dc DX10_phases) 70 = .ok (.getfield 306, 3) := by decide +kernel
theorem dX10_phases_73 : decode (dc DX10_phases) 73 = .ok (.goto 7, 3) := by decide +kernel
theorem dX10_phases_76 : decode (dc DX10_phases) 76 = .ok (.aload_n 0, 1) := by decide +kernel
theorem dX10_phases_77 : decode (dc DX10_phases) 77 = .ok (.getfield 309, 3) := by decide +kernel
theorem dX10_phases_80 : decode (dc DX10_phases) 80 = .ok (.ireturn, 1) := by decide +kernel
theorem dX10_phased_0 : decode (dc DX10_phased) 0 = .ok (.aload_n 0, 1) := by decide +kernel
theorem dX10_phased_1 : decode (dc DX10_phased) 1 = .ok (.iconst 0, 1) := by decide +kernel
theorem dX10_phased_2 : decode (dc DX10_phased) 2 = .ok (.putfield 82, 3) := by decide +kernel
theorem dX10_phased_5 : decode (dc DX10_phased) 5 = .ok (.aload_n 0, 1) := by decide +kernel
theorem dX10_phased_6 : decode (dc DX10_phased) 6 = .ok (.aload_n 0, 1) := by decide +kernel
theorem dX10_phased_7 : decode (dc DX10_phased) 7 = .ok (.iconst 0, 1) := by decide +kernel
theorem dX10_phased_8 : decode (dc DX10_phased) 8 = .ok (.iload_n 1, 1) := by decide +kernel
theorem dX10_phased_9 : decode (dc DX10_phased) 9 = .ok (.invokevirtual 282, 3) := by decide +kernel
theorem dX10_phased_12 : decode (dc DX10_phased) 12 = .ok (.ifCond .ne 7, 3) := by decide +kernel
theorem dX10_phased_15 : decode (dc DX10_phased) 15 = .ok (.iconst 1, 1) := by decide +kernel
theorem dX10_phased_16 : decode (dc DX10_phased) 16 = .ok (.goto 4, 3) := by decide +kernel
theorem dX10_phased_19 : decode (dc DX10_phased) 19 = .ok (.iconst 0, 1) := by decide +kernel
theorem dX10_phased_20 : decode (dc DX10_phased) 20 = .ok (.iconst 1, 1) := by decide +kernel
theorem dX10_phased_21 : decode (dc DX10_phased) 21 = .ok (.iconst 0, 1) := by decide +kernel
theorem dX10_phased_22 : decode (dc DX10_phased) 22 = .ok (.invokevirtual 217, 3) := by decide +kernel
theorem dX10_phased_25 : decode (dc DX10_phased) 25 = .ok (.ifCond .eq 5, 3) := by decide +kernel
theorem dX10_phased_28 : decode (dc DX10_phased) 28 = .ok (.iconst 0, 1) := by decide +kernel
theorem dX10_phased_29 : decode (dc DX10_phased) 29 = .ok (.ireturn, 1) := by decide +kernel
theorem dX10_phased_30 : decode (dc DX10_phased) 30 = .ok (.aload_n 0, 1) := by decide +kernel
theorem dX10_phased_31 : decode (dc DX10_phased) 31 = .ok (.invokevirtual 318, 3) := by decide +kernel
theorem dX10_phased_34 : decode (dc DX10_phased) 34 = .ok (.aload_n 0, 1) := by decide +kernel
theorem dX10_phased_35 : decode (dc DX10_phased) 35 = .ok (.getfield 28, 3) := by decide +kernel
theorem dX10_phased_38 : decode (dc DX10_phased) 38 = .ok (.iconst 0, 1) := by decide +kernel
theorem dX10_phased_39 : decode (dc DX10_phased) 39 = .ok (.aaload, 1) := by decide +kernel
theorem dX10_phased_40 : decode (dc DX10_phased) 40 = .ok (.iload_n 1, 1) := by decide +kernel
theorem dX10_phased_41 : decode (dc DX10_phased) 41 = .ok (.iaload, 1) := by decide +kernel
theorem dX10_phased_42 : decode (dc DX10_phased) 42 = .ok (.istore_n 2, 1) := by decide +kernel
theorem dX10_phased_43 : decode (dc DX10_phased) 43 = .ok (.aload_n 0, 1) := by decide +kernel
theorem dX10_phased_44 : decode (dc DX10_phased) 44 = .ok (.bipush 17, 2) := by decide +kernel
theorem dX10_phased_46 : decode (dc DX10_phased) 46 = .ok (.iconst 0, 1) := by decide +kernel
theorem dX10_phased_47 : decode (dc DX10_phased) 47 = .ok (.invokevirtual 228, 3) := by decide +kernel
theorem dX10_phased_50 : decode (dc DX10_phased) 50 = .ok (.iload_n 2, 1) := by decide +kernel
theorem dX10_phased_51 : decode (dc DX10_phased) 51 = .ok (.ireturn, 1) := by decide +kernel
theorem dX10_moves_0 {l : Nat} : decode (dc (DX10_moves l)) 0 = .ok (.iconst 0, 1) := (show decode cX10_moves 0 = .ok (.iconst 0, 1) from by decide +kernel)
theorem dX10_moves_1 {l : Nat} : decode (dc (DX10_moves l)) 1 = .ok (.istore_n 2, 1) := (show decode cX10_moves 1 = .ok (.istore_n 2, 1) from by decide +kernel)
theorem dX10_moves_2 {l : Nat} : decode (dc (DX10_moves l)) 2 = .ok (.iload_n 2, 1) := (show decode cX10_moves 2 = .ok (.iload_n 2, 1) from by decide +kernel)
theorem dX10_moves_3 {l : Nat} : decode (dc (DX10_moves l)) 3 = .ok (.bipush 12, 2) := (show decode cX10_moves 3 = .ok (.bipush 12, 2) from by decide +kernel)
theorem dX10_moves_5 {l : Nat} : decode (dc (DX10_moves l)) 5 = .ok (.if_icmp .ge 94, 3) := (show decode cX10_moves 5 = .ok (.if_icmp .ge 94, 3) from by decide +kernel)
theorem dX10_moves_8 {l : Nat} : decode (dc (DX10_moves l)) 8 = .ok (.aload_n 0, 1) := (show decode cX10_moves 8 = .ok (.aload_n 0, 1) from by decide +kernel)
theorem dX10_moves_9 {l : Nat} : decode (dc (DX10_moves l)) 9 = .ok (.getfield 25, 3) := (show decode cX10_moves 9 = .ok (.getfield 25, 3) from by decide +kernel)
theorem dX10_moves_12 {l : Nat} : decode (dc (DX10_moves l)) 12 = .ok (.iconst 0, 1) := (show decode cX10_moves 12 = .ok (.iconst 0, 1) from by decide +kernel)
theorem dX10_moves_13 {l : Nat} : decode (dc (DX10_moves l)) 13 = .ok (.aaload, 1) := (show decode cX10_moves 13 = .ok (.aaload, 1) from by decide +kernel)
theorem dX10_moves_14 {l : Nat} : decode (dc (DX10_moves l)) 14 = .ok (.iload_n 1, 1) := (show decode cX10_moves 14 = .ok (.iload_n 1, 1) from by decide +kernel)
theorem dX10_moves_15 {l : Nat} : decode (dc (DX10_moves l)) 15 = .ok (.iaload, 1) := (show decode cX10_moves 15 = .ok (.iaload, 1) from by decide +kernel)
theorem dX10_moves_16 {l : Nat} : decode (dc (DX10_moves l)) 16 = .ok (.aload_n 0, 1) := (show decode cX10_moves 16 = .ok (.aload_n 0, 1) from by decide +kernel)
theorem dX10_moves_17 {l : Nat} : decode (dc (DX10_moves l)) 17 = .ok (.getfield 22, 3) := (show decode cX10_moves 17 = .ok (.getfield 22, 3) from by decide +kernel)
theorem dX10_moves_20 {l : Nat} : decode (dc (DX10_moves l)) 20 = .ok (.iconst 0, 1) := (show decode cX10_moves 20 = .ok (.iconst 0, 1) from by decide +kernel)
theorem dX10_moves_21 {l : Nat} : decode (dc (DX10_moves l)) 21 = .ok (.aaload, 1) := (show decode cX10_moves 21 = .ok (.aaload, 1) from by decide +kernel)
theorem dX10_moves_22 {l : Nat} : decode (dc (DX10_moves l)) 22 = .ok (.iconst 4, 1) := (show decode cX10_moves 22 = .ok (.iconst 4, 1) from by decide +kernel)
theorem dX10_moves_23 {l : Nat} : decode (dc (DX10_moves l)) 23 = .ok (.iaload, 1) := (show decode cX10_moves 23 = .ok (.iaload, 1) from by decide +kernel)
theorem dX10_moves_24 {l : Nat} : decode (dc (DX10_moves l)) 24 = .ok (.iand, 1) := (show decode cX10_moves 24 = .ok (.iand, 1) from by decide +kernel)
theorem dX10_moves_25 {l : Nat} : decode (dc (DX10_moves l)) 25 = .ok (.iload_n 2, 1) := (show decode cX10_moves 25 = .ok (.iload_n 2, 1) from by decide +kernel)
theorem dX10_moves_26 {l : Nat} : decode (dc (DX10_moves l)) 26 = .ok (.invokestatic 182, 3) := (show decode cX10_moves 26 = .ok (.invokestatic 182, 3) from by decide +kernel)
theorem dX10_moves_29 {l : Nat} : decode (dc (DX10_moves l)) 29 = .ok (.ifCond .eq 64, 3) := (show decode cX10_moves 29 = .ok (.ifCond .eq 64, 3) from by decide +kernel)
theorem dX10_moves_32 {l : Nat} : decode (dc (DX10_moves l)) 32 = .ok (.aload_n 0, 1) := (show decode cX10_moves 32 = .ok (.aload_n 0, 1) from by decide +kernel)
theorem dX10_moves_33 {l : Nat} : decode (dc (DX10_moves l)) 33 = .ok (.getfield 321, 3) := (show decode cX10_moves 33 = .ok (.getfield 321, 3) from by decide +kernel)
theorem dX10_moves_36 {l : Nat} : decode (dc (DX10_moves l)) 36 = .ok (.iload_n 2, 1) := (show decode cX10_moves 36 = .ok (.iload_n 2, 1) from by decide +kernel)
theorem dX10_moves_37 {l : Nat} : decode (dc (DX10_moves l)) 37 = .ok (.invokestatic 182, 3) := (show decode cX10_moves 37 = .ok (.invokestatic 182, 3) from by decide +kernel)
theorem dX10_moves_40 {l : Nat} : decode (dc (DX10_moves l)) 40 = .ok (.ifCond .eq 6, 3) := (show decode cX10_moves 40 = .ok (.ifCond .eq 6, 3) from by decide +kernel)
theorem dX10_moves_43 {l : Nat} : decode (dc (DX10_moves l)) 43 = .ok (.goto 50, 3) := (show decode cX10_moves 43 = .ok (.goto 50, 3) from by decide +kernel)
theorem dX10_moves_46 {l : Nat} : decode (dc (DX10_moves l)) 46 = .ok (.aload_n 0, 1) := (show decode cX10_moves 46 = .ok (.aload_n 0, 1) from by decide +kernel)
theorem dX10_moves_47 {l : Nat} : decode (dc (DX10_moves l)) 47 = .ok (.dup, 1) := (show decode cX10_moves 47 = .ok (.dup, 1) from by decide +kernel)
theorem dX10_moves_48 {l : Nat} : decode (dc (DX10_moves l)) 48 = .ok (.getfield 321, 3) := (show decode cX10_moves 48 = .ok (.getfield 321, 3) from by decide +kernel)
theorem dX10_moves_51 {l : Nat} : decode (dc (DX10_moves l)) 51 = .ok (.iconst 1, 1) := (show decode cX10_moves 51 = .ok (.iconst 1, 1) from by decide +kernel)
theorem dX10_moves_52 {l : Nat} : decode (dc (DX10_moves l)) 52 = .ok (.iload_n 2, 1) := (show decode cX10_moves 52 = .ok (.iload_n 2, 1) from by decide +kernel)
theorem dX10_moves_53 {l : Nat} : decode (dc (DX10_moves l)) 53 = .ok (.ishl, 1) := (show decode cX10_moves 53 = .ok (.ishl, 1) from by decide +kernel)
theorem dX10_moves_54 {l : Nat} : decode (dc (DX10_moves l)) 54 = .ok (.ior, 1) := (show decode cX10_moves 54 = .ok (.ior, 1) from by decide +kernel)
theorem dX10_moves_55 {l : Nat} : decode (dc (DX10_moves l)) 55 = .ok (.putfield 321, 3) := (show decode cX10_moves 55 = .ok (.putfield 321, 3) from by decide +kernel)
theorem dX10_moves_58 {l : Nat} : decode (dc (DX10_moves l)) 58 = .ok (.aload_n 0, 1) := (show decode cX10_moves 58 = .ok (.aload_n 0, 1) from by decide +kernel)
theorem dX10_moves_59 {l : Nat} : decode (dc (DX10_moves l)) 59 = .ok (.getfield 51, 3) := (show decode cX10_moves 59 = .ok (.getfield 51, 3) from by decide +kernel)
theorem dX10_moves_62 {l : Nat} : decode (dc (DX10_moves l)) 62 = .ok (.iload_n 2, 1) := (show decode cX10_moves 62 = .ok (.iload_n 2, 1) from by decide +kernel)
theorem dX10_moves_63 {l : Nat} : decode (dc (DX10_moves l)) 63 = .ok (.iaload, 1) := (show decode cX10_moves 63 = .ok (.iaload, 1) from by decide +kernel)
theorem dX10_moves_64 {l : Nat} : decode (dc (DX10_moves l)) 64 = .ok (.iconst (-1), 1) := (show decode cX10_moves 64 = .ok (.iconst (-1), 1) from by decide +kernel)
theorem dX10_moves_65 {l : Nat} : decode (dc (DX10_moves l)) 65 = .ok (.if_icmp .eq 19, 3) := (show decode cX10_moves 65 = .ok (.if_icmp .eq 19, 3) from by decide +kernel)
theorem dX10_moves_68 {l : Nat} : decode (dc (DX10_moves l)) 68 = .ok (.aload_n 0, 1) := (show decode cX10_moves 68 = .ok (.aload_n 0, 1) from by decide +kernel)
theorem dX10_moves_69 {l : Nat} : decode (dc (DX10_moves l)) 69 = .ok (.aload_n 0, 1) := (show decode cX10_moves 69 = .ok (.aload_n 0, 1) from by decide +kernel)
theorem dX10_moves_70 {l : Nat} : decode (dc (DX10_moves l)) 70 = .ok (.getfield 51, 3) := (show decode cX10_moves 70 = .ok (.getfield 51, 3) from by decide +kernel)
theorem dX10_moves_73 {l : Nat} : decode (dc (DX10_moves l)) 73 = .ok (.iload_n 2, 1) := (show decode cX10_moves 73 = .ok (.iload_n 2, 1) from by decide +kernel)
theorem dX10_moves_74 {l : Nat} : decode (dc (DX10_moves l)) 74 = .ok (.iaload, 1) := (show decode cX10_moves 74 = .ok (.iaload, 1) from by decide +kernel)
theorem dX10_moves_75 {l : Nat} : decode (dc (DX10_moves l)) 75 = .ok (.invokevirtual 324, 3) := (show decode cX10_moves 75 = .ok (.invokevirtual 324, 3) from by decide +kernel)
theorem dX10_moves_78 {l : Nat} : decode (dc (DX10_moves l)) 78 = .ok (.ifCond .ne 6, 3) := (show decode cX10_moves 78 = .ok (.ifCond .ne 6, 3) from by decide +kernel)
theorem dX10_moves_81 {l : Nat} : decode (dc (DX10_moves l)) 81 = .ok (.goto 12, 3) := (show decode cX10_moves 81 = .ok (.goto 12, 3) from by decide +kernel)
theorem dX10_moves_84 {l : Nat} : decode (dc (DX10_moves l)) 84 = .ok (.aload_n 0, 1) := (show decode cX10_moves 84 = .ok (.aload_n 0, 1) from by decide +kernel)
theorem dX10_moves_85 {l : Nat} : decode (dc (DX10_moves l)) 85 = .ok (.getfield 51, 3) := (show decode cX10_moves 85 = .ok (.getfield 51, 3) from by decide +kernel)
theorem dX10_moves_88 {l : Nat} : decode (dc (DX10_moves l)) 88 = .ok (.iload_n 2, 1) := (show decode cX10_moves 88 = .ok (.iload_n 2, 1) from by decide +kernel)
theorem dX10_moves_89 {l : Nat} : decode (dc (DX10_moves l)) 89 = .ok (.iload_n 1, 1) := (show decode cX10_moves 89 = .ok (.iload_n 1, 1) from by decide +kernel)
theorem dX10_moves_90 {l : Nat} : decode (dc (DX10_moves l)) 90 = .ok (.iastore, 1) := (show decode cX10_moves 90 = .ok (.iastore, 1) from by decide +kernel)
theorem dX10_moves_91 {l : Nat} : decode (dc (DX10_moves l)) 91 = .ok (.iconst 1, 1) := (show decode cX10_moves 91 = .ok (.iconst 1, 1) from by decide +kernel)
theorem dX10_moves_92 {l : Nat} : decode (dc (DX10_moves l)) 92 = .ok (.ireturn, 1) := (show decode cX10_moves 92 = .ok (.ireturn, 1) from by decide +kernel)
theorem dX10_moves_93 {l : Nat} : decode (dc (DX10_moves l)) 93 = .ok (.iinc 2 1, 3) := (show decode cX10_moves 93 = .ok (.iinc 2 1, 3) from by decide +kernel)
theorem dX10_moves_96 {l : Nat} : decode (dc (DX10_moves l)) 96 = .ok (.goto (-94), 3) := (show decode cX10_moves 96 = .ok (.goto (-94), 3) from by decide +kernel)
theorem dX10_moves_99 {l : Nat} : decode (dc (DX10_moves l)) 99 = .ok (.iconst 0, 1) := (show decode cX10_moves 99 = .ok (.iconst 0, 1) from by decide +kernel)
theorem dX10_moves_100 {l : Nat} : decode (dc (DX10_moves l)) 100 = .ok (.ireturn, 1) := (show decode cX10_moves 100 = .ok (.ireturn, 1) from by decide +kernel)
theorem dX10_nu_0 : decode (dc DX10_nu) 0 = .ok (.iconst 0, 1) := by decide +kernel
theorem dX10_nu_1 : decode (dc DX10_nu) 1 = .ok (.istore_n 1, 1) := by decide +kernel
theorem dX10_nu_2 : decode (dc DX10_nu) 2 = .ok (.iconst 0, 1) := by decide +kernel
theorem dX10_nu_3 : decode (dc DX10_nu) 3 = .ok (.istore_n 2, 1) := by decide +kernel
theorem dX10_nu_4 : decode (dc DX10_nu) 4 = .ok (.iload_n 2, 1) := by decide +kernel
theorem dX10_nu_5 : decode (dc DX10_nu) 5 = .ok (.bipush 12, 2) := by decide +kernel
theorem dX10_nu_7 : decode (dc DX10_nu) 7 = .ok (.if_icmp .ge 16, 3) := by decide +kernel
theorem dX10_nu_10 : decode (dc DX10_nu) 10 = .ok (.aload_n 0, 1) := by decide +kernel
theorem dX10_nu_11 : decode (dc DX10_nu) 11 = .ok (.getfield 51, 3) := by decide +kernel
theorem dX10_nu_14 : decode (dc DX10_nu) 14 = .ok (.iload_n 2, 1) := by decide +kernel
theorem dX10_nu_15 : decode (dc DX10_nu) 15 = .ok (.iconst (-1), 1) := by decide +kernel
theorem dX10_nu_16 : decode (dc DX10_nu) 16 = .ok (.iastore, 1) := by decide +kernel
theorem dX10_nu_17 : decode (dc DX10_nu) 17 = .ok (.iinc 2 1, 3) := by decide +kernel
theorem dX10_nu_20 : decode (dc DX10_nu) 20 = .ok (.goto (-16), 3) := by decide +kernel
theorem dX10_nu_23 : decode (dc DX10_nu) 23 = .ok (.iconst 0, 1) := by decide +kernel
theorem dX10_nu_24 : decode (dc DX10_nu) 24 = .ok (.istore_n 2, 1) := by decide +kernel
theorem dX10_nu_25 : decode (dc DX10_nu) 25 = .ok (.iload_n 2, 1) := by decide +kernel
theorem dX10_nu_26 : decode (dc DX10_nu) 26 = .ok (.bipush 12, 2) := by decide +kernel
theorem dX10_nu_28 : decode (dc DX10_nu) 28 = .ok (.if_icmp .ge 45, 3) := by decide +kernel
theorem dX10_nu_31 : decode (dc DX10_nu) 31 = .ok (.aload_n 0, 1) := by decide +kernel
theorem dX10_nu_32 : decode (dc DX10_nu) 32 = .ok (.iconst 0, 1) := by decide +kernel
theorem dX10_nu_33 : decode (dc DX10_nu) 33 = .ok (.putfield 321, 3) := by decide +kernel
theorem dX10_nu_36 : decode (dc DX10_nu) 36 = .ok (.iload_n 1, 1) := by decide +kernel
theorem dX10_nu_37 : decode (dc DX10_nu) 37 = .ok (.aload_n 0, 1) := by decide +kernel
theorem dX10_nu_38 : decode (dc DX10_nu) 38 = .ok (.getfield 22, 3) := by decide +kernel
theorem dX10_nu_41 : decode (dc DX10_nu) 41 = .ok (.iconst 0, 1) := by decide +kernel
theorem dX10_nu_42 : decode (dc DX10_nu) 42 = .ok (.aaload, 1) := by decide +kernel
theorem dX10_nu_43 : decode (dc DX10_nu) 43 = .ok (.iconst 3, 1) := by decide +kernel
theorem dX10_nu_44 : decode (dc DX10_nu) 44 = .ok (.iaload, 1) := by decide +kernel
theorem dX10_nu_45 : decode (dc DX10_nu) 45 = .ok (.iload_n 2, 1) := by decide +kernel
theorem dX10_nu_46 : decode (dc DX10_nu) 46 = .ok (.invokestatic 182, 3) := by decide +kernel
theorem dX10_nu_49 : decode (dc DX10_nu) 49 = .ok (.ifCond .eq 15, 3) := by decide +kernel
theorem dX10_nu_52 : decode (dc DX10_nu) 52 = .ok (.aload_n 0, 1) := by decide +kernel
theorem dX10_nu_53 : decode (dc DX10_nu) 53 = .ok (.iload_n 2, 1) := by decide +kernel
theorem dX10_nu_54 : decode (dc DX10_nu) 54 = .ok (.invokevirtual 324, 3) := by decide +kernel
theorem dX10_nu_57 : decode (dc DX10_nu) 57 = .ok (.ifCond .eq 7, 3) := by decide +kernel
theorem dX10_nu_60 : decode (dc DX10_nu) 60 = .ok (.iconst 1, 1) := by decide +kernel
theorem dX10_nu_61 : decode (dc DX10_nu) 61 = .ok (.goto 4, 3) := by decide +kernel
theorem dX10_nu_64 : decode (dc DX10_nu) 64 = .ok (.iconst 0, 1) := by decide +kernel
theorem dX10_nu_65 : decode (dc DX10_nu) 65 = .ok (.iadd, 1) := by decide +kernel
theorem dX10_nu_66 : decode (dc DX10_nu) 66 = .ok (.istore_n 1, 1) := by decide +kernel
theorem dX10_nu_67 : decode (dc DX10_nu) 67 = .ok (.iinc 2 1, 3) := by decide +kernel
theorem dX10_nu_70 : decode (dc DX10_nu) 70 = .ok (.goto (-45), 3) := by decide +kernel
theorem dX10_nu_73 : decode (dc DX10_nu) 73 = .ok (.iload_n 1, 1) := by decide +kernel
theorem dX10_nu_74 : decode (dc DX10_nu) 74 = .ok (.ireturn, 1) := by decide +kernel
theorem dX10_most_0 : decode (dc DX10_most) 0 = .ok (.aload_n 0, 1) := by decide +kernel
theorem dX10_most_1 : decode (dc DX10_most) 1 = .ok (.iconst 0, 1) := by decide +kernel
theorem dX10_most_2 : decode (dc DX10_most) 2 = .ok (.putfield 82, 3) := by decide +kernel
theorem dX10_most_5 : decode (dc DX10_most) 5 = .ok (.aload_n 0, 1) := by decide +kernel
theorem dX10_most_6 : decode (dc DX10_most) 6 = .ok (.invokevirtual 327, 3) := by decide +kernel
theorem dX10_most_9 : decode (dc DX10_most) 9 = .ok (.ireturn, 1) := by decide +kernel
theorem dX10_chooses_0 : decode (dc DX10_chooses) 0 = .ok (.aload_n 0, 1) := by decide +kernel
theorem dX10_chooses_1 : decode (dc DX10_chooses) 1 = .ok (.iconst 0, 1) := by decide +kernel
theorem dX10_chooses_2 : decode (dc DX10_chooses) 2 = .ok (.putfield 330, 3) := by decide +kernel
theorem dX10_chooses_5 : decode (dc DX10_chooses) 5 = .ok (.aload_n 0, 1) := by decide +kernel
theorem dX10_chooses_6 : decode (dc DX10_chooses) 6 = .ok (.iconst 0, 1) := by decide +kernel
theorem dX10_chooses_7 : decode (dc DX10_chooses) 7 = .ok (.putfield 333, 3) := by decide +kernel
theorem dX10_chooses_10 : decode (dc DX10_chooses) 10 = .ok (.iconst 0, 1) := by decide +kernel
theorem dX10_chooses_11 : decode (dc DX10_chooses) 11 = .ok (.istore_n 1, 1) := by decide +kernel
theorem dX10_chooses_12 : decode (dc DX10_chooses) 12 = .ok (.iload_n 1, 1) := by decide +kernel
theorem dX10_chooses_13 : decode (dc DX10_chooses) 13 = .ok (.bipush 12, 2) := by decide +kernel
theorem dX10_chooses_15 : decode (dc DX10_chooses) 15 = .ok (.if_icmp .ge 16, 3) := by decide +kernel
theorem dX10_chooses_18 : decode (dc DX10_chooses) 18 = .ok (.aload_n 0, 1) := by decide +kernel
theorem dX10_chooses_19 : decode (dc DX10_chooses) 19 = .ok (.getfield 51, 3) := by decide +kernel
theorem dX10_chooses_22 : decode (dc DX10_chooses) 22 = .ok (.iload_n 1, 1) := by decide +kernel
theorem dX10_chooses_23 : decode (dc DX10_chooses) 23 = .ok (.iconst (-1), 1) := by decide +kernel
theorem dX10_chooses_24 : decode (dc DX10_chooses) 24 = .ok (.iastore, 1) := by decide +kernel
theorem dX10_chooses_25 : decode (dc DX10_chooses) 25 = .ok (.iinc 1 1, 3) := by decide +kernel
theorem dX10_chooses_28 : decode (dc DX10_chooses) 28 = .ok (.goto (-16), 3) := by decide +kernel
theorem dX10_chooses_31 : decode (dc DX10_chooses) 31 = .ok (.bipush 99, 2) := by decide +kernel
theorem dX10_chooses_33 : decode (dc DX10_chooses) 33 = .ok (.istore_n 1, 1) := by decide +kernel
theorem dX10_chooses_34 : decode (dc DX10_chooses) 34 = .ok (.iload_n 1, 1) := by decide +kernel
theorem dX10_chooses_35 : decode (dc DX10_chooses) 35 = .ok (.ifCond .lt 91, 3) := by decide +kernel
theorem dX10_chooses_38 : decode (dc DX10_chooses) 38 = .ok (.iconst 0, 1) := by decide +kernel
theorem dX10_chooses_39 : decode (dc DX10_chooses) 39 = .ok (.istore_n 2, 1) := by decide +kernel
theorem dX10_chooses_40 : decode (dc DX10_chooses) 40 = .ok (.iload_n 2, 1) := by decide +kernel
theorem dX10_chooses_41 : decode (dc DX10_chooses) 41 = .ok (.aload_n 0, 1) := by decide +kernel
theorem dX10_chooses_42 : decode (dc DX10_chooses) 42 = .ok (.getfield 22, 3) := by decide +kernel
theorem dX10_chooses_45 : decode (dc DX10_chooses) 45 = .ok (.iconst 0, 1) := by decide +kernel
theorem dX10_chooses_46 : decode (dc DX10_chooses) 46 = .ok (.aaload, 1) := by decide +kernel
theorem dX10_chooses_47 : decode (dc DX10_chooses) 47 = .ok (.iconst 0, 1) := by decide +kernel
theorem dX10_chooses_48 : decode (dc DX10_chooses) 48 = .ok (.iaload, 1) := by decide +kernel
theorem dX10_chooses_49 : decode (dc DX10_chooses) 49 = .ok (.if_icmp .ge 71, 3) := by decide +kernel
theorem dX10_chooses_52 : decode (dc DX10_chooses) 52 = .ok (.aload_n 0, 1) := by decide +kernel
theorem dX10_chooses_53 : decode (dc DX10_chooses) 53 = .ok (.iconst 0, 1) := by decide +kernel
theorem dX10_chooses_54 : decode (dc DX10_chooses) 54 = .ok (.iload_n 2, 1) := by decide +kernel
theorem dX10_chooses_55 : decode (dc DX10_chooses) 55 = .ok (.invokevirtual 240, 3) := by decide +kernel
theorem dX10_chooses_58 : decode (dc DX10_chooses) 58 = .ok (.ifCond .eq 56, 3) := by decide +kernel
theorem dX10_chooses_61 : decode (dc DX10_chooses) 61 = .ok (.aload_n 0, 1) := by decide +kernel
theorem dX10_chooses_62 : decode (dc DX10_chooses) 62 = .ok (.getfield 31, 3) := by decide +kernel
theorem dX10_chooses_65 : decode (dc DX10_chooses) 65 = .ok (.iconst 0, 1) := by decide +kernel
theorem dX10_chooses_66 : decode (dc DX10_chooses) 66 = .ok (.aaload, 1) := by decide +kernel
theorem dX10_chooses_67 : decode (dc DX10_chooses) 67 = .ok (.iload_n 2, 1) := by decide +kernel
theorem dX10_chooses_68 : decode (dc DX10_chooses) 68 = .ok (.iaload, 1) := by decide +kernel
theorem dX10_chooses_69 : decode (dc DX10_chooses) 69 = .ok (.iload_n 1, 1) := by decide +kernel
theorem dX10_chooses_70 : decode (dc DX10_chooses) 70 = .ok (.if_icmp .eq 6, 3) := by decide +kernel
theorem dX10_chooses_73 : decode (dc DX10_chooses) 73 = .ok (.goto 41, 3) := by decide +kernel
theorem dX10_chooses_76 : decode (dc DX10_chooses) 76 = .ok (.aload_n 0, 1) := by decide +kernel
theorem dX10_chooses_77 : decode (dc DX10_chooses) 77 = .ok (.iconst 0, 1) := by decide +kernel
theorem dX10_chooses_78 : decode (dc DX10_chooses) 78 = .ok (.putfield 321, 3) := by decide +kernel
theorem dX10_chooses_81 : decode (dc DX10_chooses) 81 = .ok (.aload_n 0, 1) := by decide +kernel
theorem dX10_chooses_82 : decode (dc DX10_chooses) 82 = .ok (.iload_n 2, 1) := by decide +kernel
theorem dX10_chooses_83 : decode (dc DX10_chooses) 83 = .ok (.invokevirtual 324, 3) := by decide +kernel
theorem dX10_chooses_86 : decode (dc DX10_chooses) 86 = .ok (.ifCond .ne 6, 3) := by decide +kernel
theorem dX10_chooses_89 : decode (dc DX10_chooses) 89 = .ok (.goto 25, 3) := by decide +kernel
theorem dX10_chooses_92 : decode (dc DX10_chooses) 92 = .ok (.aload_n 0, 1) := by decide +kernel
theorem dX10_chooses_93 : decode (dc DX10_chooses) 93 = .ok (.dup, 1) := by decide +kernel
theorem dX10_chooses_94 : decode (dc DX10_chooses) 94 = .ok (.getfield 330, 3) := by decide +kernel
theorem dX10_chooses_97 : decode (dc DX10_chooses) 97 = .ok (.iconst 1, 1) := by decide +kernel
theorem dX10_chooses_98 : decode (dc DX10_chooses) 98 = .ok (.iload_n 2, 1) := by decide +kernel
theorem dX10_chooses_99 : decode (dc DX10_chooses) 99 = .ok (.ishl, 1) := by decide +kernel
theorem dX10_chooses_100 : decode (dc DX10_chooses) 100 = .ok (.ior, 1) := by decide +kernel
theorem dX10_chooses_101 : decode (dc DX10_chooses) 101 = .ok (.putfield 330, 3) := by decide +kernel
theorem dX10_chooses_104 : decode (dc DX10_chooses) 104 = .ok (.aload_n 0, 1) := by decide +kernel
theorem dX10_chooses_105 : decode (dc DX10_chooses) 105 = .ok (.dup, 1) := by decide +kernel
theorem dX10_chooses_106 : decode (dc DX10_chooses) 106 = .ok (.getfield 333, 3) := by decide +kernel
theorem dX10_chooses_109 : decode (dc DX10_chooses) 109 = .ok (.iload_n 1, 1) := by decide +kernel
theorem dX10_chooses_110 : decode (dc DX10_chooses) 110 = .ok (.iadd, 1) := by decide +kernel
theorem dX10_chooses_111 : decode (dc DX10_chooses) 111 = .ok (.putfield 333, 3) := by decide +kernel
theorem dX10_chooses_114 : decode (dc DX10_chooses) 114 = .ok (.iinc 2 1, 3) := by decide +kernel
theorem dX10_chooses_117 : decode (dc DX10_chooses) 117 = .ok (.goto (-77), 3) := by decide +kernel
theorem dX10_chooses_120 : decode (dc DX10_chooses) 120 = .ok (.iinc 1 (-1), 3) := by decide +kernel
theorem dX10_chooses_123 : decode (dc DX10_chooses) 123 = .ok (.goto (-89), 3) := by decide +kernel
theorem dX10_chooses_126 : decode (dc DX10_chooses) 126 = .ok (.return_, 1) := by decide +kernel
theorem dX10_chosen_0 : decode (dc DX10_chosen) 0 = .ok (.aload_n 0, 1) := by decide +kernel
theorem dX10_chosen_1 : decode (dc DX10_chosen) 1 = .ok (.iconst 0, 1) := by decide +kernel
theorem dX10_chosen_2 : decode (dc DX10_chosen) 2 = .ok (.putfield 82, 3) := by decide +kernel
theorem dX10_chosen_5 : decode (dc DX10_chosen) 5 = .ok (.aload_n 0, 1) := by decide +kernel
theorem dX10_chosen_6 : decode (dc DX10_chosen) 6 = .ok (.iload_n 1, 1) := by decide +kernel
theorem dX10_chosen_7 : decode (dc DX10_chosen) 7 = .ok (.iconst 0, 1) := by decide +kernel
theorem dX10_chosen_8 : decode (dc DX10_chosen) 8 = .ok (.iconst 1, 1) := by decide +kernel
theorem dX10_chosen_9 : decode (dc DX10_chosen) 9 = .ok (.invokestatic 127, 3) := by decide +kernel
theorem dX10_chosen_12 : decode (dc DX10_chosen) 12 = .ok (.ifCond .ne 7, 3) := by decide +kernel
theorem dX10_chosen_15 : decode (dc DX10_chosen) 15 = .ok (.iconst 1, 1) := by decide +kernel
theorem dX10_chosen_16 : decode (dc DX10_chosen) 16 = .ok (.goto 4, 3) := by decide +kernel
theorem dX10_chosen_19 : decode (dc DX10_chosen) 19 = .ok (.iconst 0, 1) := by decide +kernel
theorem dX10_chosen_20 : decode (dc DX10_chosen) 20 = .ok (.iconst 1, 1) := by decide +kernel
theorem dX10_chosen_21 : decode (dc DX10_chosen) 21 = .ok (.iconst 1, 1) := by decide +kernel
theorem dX10_chosen_22 : decode (dc DX10_chosen) 22 = .ok (.invokevirtual 217, 3) := by decide +kernel
theorem dX10_chosen_25 : decode (dc DX10_chosen) 25 = .ok (.ifCond .eq 5, 3) := by decide +kernel
theorem dX10_chosen_28 : decode (dc DX10_chosen) 28 = .ok (.iconst 0, 1) := by decide +kernel
theorem dX10_chosen_29 : decode (dc DX10_chosen) 29 = .ok (.ireturn, 1) := by decide +kernel
theorem dX10_chosen_30 : decode (dc DX10_chosen) 30 = .ok (.aload_n 0, 1) := by decide +kernel
theorem dX10_chosen_31 : decode (dc DX10_chosen) 31 = .ok (.invokevirtual 336, 3) := by decide +kernel
theorem dX10_chosen_34 : decode (dc DX10_chosen) 34 = .ok (.iload_n 1, 1) := by decide +kernel
theorem dX10_chosen_35 : decode (dc DX10_chosen) 35 = .ok (.ifCond .ne 10, 3) := by decide +kernel
theorem dX10_chosen_38 : decode (dc DX10_chosen) 38 = .ok (.aload_n 0, 1) := by decide +kernel
theorem dX10_chosen_39 : decode (dc DX10_chosen) 39 = .ok (.getfield 330, 3) := by decide +kernel
theorem dX10_chosen_42 : decode (dc DX10_chosen) 42 = .ok (.goto 7, 3) := by decide +kernel
theorem dX10_chosen_45 : decode (dc DX10_chosen) 45 = .ok (.aload_n 0, 1) := by decide +kernel
theorem dX10_chosen_46 : decode (dc DX10_chosen) 46 = .ok (.getfield 333, 3) := by decide +kernel
theorem dX10_chosen_49 : decode (dc DX10_chosen) 49 = .ok (.ireturn, 1) := by decide +kernel
theorem dX10_withRound_0 : decode (dc DX10_withRound) 0 = .ok (.iconst 0, 1) := by decide +kernel
theorem dX10_withRound_1 : decode (dc DX10_withRound) 1 = .ok (.istore 4, 2) := by decide +kernel
theorem dX10_withRound_3 : decode (dc DX10_withRound) 3 = .ok (.iload 4, 2) := by decide +kernel
theorem dX10_withRound_5 : decode (dc DX10_withRound) 5 = .ok (.bipush 12, 2) := by decide +kernel
theorem dX10_withRound_7 : decode (dc DX10_withRound) 7 = .ok (.if_icmp .ge 41, 3) := by decide +kernel
theorem dX10_withRound_10 : decode (dc DX10_withRound) 10 = .ok (.iload_n 1, 1) := by decide +kernel
theorem dX10_withRound_11 : decode (dc DX10_withRound) 11 = .ok (.ifCond .ne 15, 3) := by decide +kernel
theorem dX10_withRound_14 : decode (dc DX10_withRound) 14 = .ok (.aload_n 0, 1) := by decide +kernel
theorem dX10_withRound_15 : decode (dc DX10_withRound) 15 = .ok (.getfield 54, 3) := by decide +kernel
theorem dX10_withRound_18 : decode (dc DX10_withRound) 18 = .ok (.iload_n 2, 1) := by decide +kernel
theorem dX10_withRound_19 : decode (dc DX10_withRound) 19 = .ok (.aaload, 1) := by decide +kernel
theorem dX10_withRound_20 : decode (dc DX10_withRound) 20 = .ok (.iload 4, 2) := by decide +kernel
theorem dX10_withRound_22 : decode (dc DX10_withRound) 22 = .ok (.iaload, 1) := by decide +kernel
theorem dX10_withRound_23 : decode (dc DX10_withRound) 23 = .ok (.goto 12, 3) := by decide +kernel
theorem dX10_withRound_26 : decode (dc DX10_withRound) 26 = .ok (.aload_n 0, 1) := by decide +kernel
theorem dX10_withRound_27 : decode (dc DX10_withRound) 27 = .ok (.getfield 54, 3) := by decide +kernel
theorem dX10_withRound_30 : decode (dc DX10_withRound) 30 = .ok (.iload 4, 2) := by decide +kernel
theorem dX10_withRound_32 : decode (dc DX10_withRound) 32 = .ok (.aaload, 1) := by decide +kernel
theorem dX10_withRound_33 : decode (dc DX10_withRound) 33 = .ok (.iload_n 2, 1) := by decide +kernel
theorem dX10_withRound_34 : decode (dc DX10_withRound) 34 = .ok (.iaload, 1) := by decide +kernel
theorem dX10_withRound_35 : decode (dc DX10_withRound) 35 = .ok (.iload_n 3, 1) := by decide +kernel
theorem dX10_withRound_36 : decode (dc DX10_withRound) 36 = .ok (.if_icmp .ne 6, 3) := by decide +kernel
theorem dX10_withRound_39 : decode (dc DX10_withRound) 39 = .ok (.iload 4, 2) := by decide +kernel
theorem dX10_withRound_41 : decode (dc DX10_withRound) 41 = .ok (.ireturn, 1) := by decide +kernel
theorem dX10_withRound_42 : decode (dc DX10_withRound) 42 = .ok (.iinc 4 1, 3) := by decide +kernel
theorem dX10_withRound_45 : decode (dc DX10_withRound) 45 = .ok (.goto (-42), 3) := by decide +kernel
theorem dX10_withRound_48 : decode (dc DX10_withRound) 48 = .ok (.iconst (-1), 1) := by decide +kernel
theorem dX10_withRound_49 : decode (dc DX10_withRound) 49 = .ok (.ireturn, 1) := by decide +kernel
theorem dX10_leastRound_0 : decode (dc DX10_leastRound) 0 = .ok (.iconst 0, 1) := by decide +kernel
theorem dX10_leastRound_1 : decode (dc DX10_leastRound) 1 = .ok (.istore_n 3, 1) := by decide +kernel
theorem dX10_leastRound_2 : decode (dc DX10_leastRound) 2 = .ok (.aload_n 0, 1) := by decide +kernel
theorem dX10_leastRound_3 : decode (dc DX10_leastRound) 3 = .ok (.iload_n 1, 1) := by decide +kernel
theorem dX10_leastRound_4 : decode (dc DX10_leastRound) 4 = .ok (.iload_n 2, 1) := by decide +kernel
theorem dX10_leastRound_5 : decode (dc DX10_leastRound) 5 = .ok (.iload_n 3, 1) := by decide +kernel
theorem dX10_leastRound_6 : decode (dc DX10_leastRound) 6 = .ok (.invokevirtual 339, 3) := by decide +kernel
theorem dX10_leastRound_9 : decode (dc DX10_leastRound) 9 = .ok (.iconst (-1), 1) := by decide +kernel
theorem dX10_leastRound_10 : decode (dc DX10_leastRound) 10 = .ok (.if_icmp .eq 9, 3) := by decide +kernel
theorem dX10_leastRound_13 : decode (dc DX10_leastRound) 13 = .ok (.iinc 3 1, 3) := by decide +kernel
theorem dX10_leastRound_16 : decode (dc DX10_leastRound) 16 = .ok (.goto (-14), 3) := by decide +kernel
theorem dX10_leastRound_19 : decode (dc DX10_leastRound) 19 = .ok (.iload_n 3, 1) := by decide +kernel
theorem dX10_leastRound_20 : decode (dc DX10_leastRound) 20 = .ok (.ireturn, 1) := by decide +kernel
theorem dX10_changesFrom_0 {l : Nat} : decode (dc (DX10_changesFrom l)) 0 = .ok (.aload_n 0, 1) := (show decode cX10_changesFrom 0 = .ok (.aload_n 0, 1) from by decide +kernel)
theorem dX10_changesFrom_1 {l : Nat} : decode (dc (DX10_changesFrom l)) 1 = .ok (.iconst 1, 1) := (show decode cX10_changesFrom 1 = .ok (.iconst 1, 1) from by decide +kernel)
theorem dX10_changesFrom_2 {l : Nat} : decode (dc (DX10_changesFrom l)) 2 = .ok (.iload_n 1, 1) := (show decode cX10_changesFrom 2 = .ok (.iload_n 1, 1) from by decide +kernel)
theorem dX10_changesFrom_3 {l : Nat} : decode (dc (DX10_changesFrom l)) 3 = .ok (.isub, 1) := (show decode cX10_changesFrom 3 = .ok (.isub, 1) from by decide +kernel)
theorem dX10_changesFrom_4 {l : Nat} : decode (dc (DX10_changesFrom l)) 4 = .ok (.iload 5, 2) := (show decode cX10_changesFrom 4 = .ok (.iload 5, 2) from by decide +kernel)
theorem dX10_changesFrom_6 {l : Nat} : decode (dc (DX10_changesFrom l)) 6 = .ok (.iload 4, 2) := (show decode cX10_changesFrom 6 = .ok (.iload 4, 2) from by decide +kernel)
theorem dX10_changesFrom_8 {l : Nat} : decode (dc (DX10_changesFrom l)) 8 = .ok (.invokevirtual 339, 3) := (show decode cX10_changesFrom 8 = .ok (.invokevirtual 339, 3) from by decide +kernel)
theorem dX10_changesFrom_11 {l : Nat} : decode (dc (DX10_changesFrom l)) 11 = .ok (.istore 6, 2) := (show decode cX10_changesFrom 11 = .ok (.istore 6, 2) from by decide +kernel)
theorem dX10_changesFrom_13 {l : Nat} : decode (dc (DX10_changesFrom l)) 13 = .ok (.iload 6, 2) := (show decode cX10_changesFrom 13 = .ok (.iload 6, 2) from by decide +kernel)
theorem dX10_changesFrom_15 {l : Nat} : decode (dc (DX10_changesFrom l)) 15 = .ok (.iconst (-1), 1) := (show decode cX10_changesFrom 15 = .ok (.iconst (-1), 1) from by decide +kernel)
theorem dX10_changesFrom_16 {l : Nat} : decode (dc (DX10_changesFrom l)) 16 = .ok (.if_icmp .eq 17, 3) := (show decode cX10_changesFrom 16 = .ok (.if_icmp .eq 17, 3) from by decide +kernel)
theorem dX10_changesFrom_19 {l : Nat} : decode (dc (DX10_changesFrom l)) 19 = .ok (.aload_n 0, 1) := (show decode cX10_changesFrom 19 = .ok (.aload_n 0, 1) from by decide +kernel)
theorem dX10_changesFrom_20 {l : Nat} : decode (dc (DX10_changesFrom l)) 20 = .ok (.iconst 1, 1) := (show decode cX10_changesFrom 20 = .ok (.iconst 1, 1) from by decide +kernel)
theorem dX10_changesFrom_21 {l : Nat} : decode (dc (DX10_changesFrom l)) 21 = .ok (.iload_n 1, 1) := (show decode cX10_changesFrom 21 = .ok (.iload_n 1, 1) from by decide +kernel)
theorem dX10_changesFrom_22 {l : Nat} : decode (dc (DX10_changesFrom l)) 22 = .ok (.isub, 1) := (show decode cX10_changesFrom 22 = .ok (.isub, 1) from by decide +kernel)
theorem dX10_changesFrom_23 {l : Nat} : decode (dc (DX10_changesFrom l)) 23 = .ok (.iload 5, 2) := (show decode cX10_changesFrom 23 = .ok (.iload 5, 2) from by decide +kernel)
theorem dX10_changesFrom_25 {l : Nat} : decode (dc (DX10_changesFrom l)) 25 = .ok (.iload 4, 2) := (show decode cX10_changesFrom 25 = .ok (.iload 4, 2) from by decide +kernel)
theorem dX10_changesFrom_27 {l : Nat} : decode (dc (DX10_changesFrom l)) 27 = .ok (.iload_n 3, 1) := (show decode cX10_changesFrom 27 = .ok (.iload_n 3, 1) from by decide +kernel)
theorem dX10_changesFrom_28 {l : Nat} : decode (dc (DX10_changesFrom l)) 28 = .ok (.iload 6, 2) := (show decode cX10_changesFrom 28 = .ok (.iload 6, 2) from by decide +kernel)
theorem dX10_changesFrom_30 {l : Nat} : decode (dc (DX10_changesFrom l)) 30 = .ok (.invokevirtual 343, 3) := (show decode cX10_changesFrom 30 = .ok (.invokevirtual 343, 3) from by decide +kernel)
theorem dX10_changesFrom_33 {l : Nat} : decode (dc (DX10_changesFrom l)) 33 = .ok (.iload_n 1, 1) := (show decode cX10_changesFrom 33 = .ok (.iload_n 1, 1) from by decide +kernel)
theorem dX10_changesFrom_34 {l : Nat} : decode (dc (DX10_changesFrom l)) 34 = .ok (.ifCond .ne 17, 3) := (show decode cX10_changesFrom 34 = .ok (.ifCond .ne 17, 3) from by decide +kernel)
theorem dX10_changesFrom_37 {l : Nat} : decode (dc (DX10_changesFrom l)) 37 = .ok (.aload_n 0, 1) := (show decode cX10_changesFrom 37 = .ok (.aload_n 0, 1) from by decide +kernel)
theorem dX10_changesFrom_38 {l : Nat} : decode (dc (DX10_changesFrom l)) 38 = .ok (.getfield 54, 3) := (show decode cX10_changesFrom 38 = .ok (.getfield 54, 3) from by decide +kernel)
theorem dX10_changesFrom_41 {l : Nat} : decode (dc (DX10_changesFrom l)) 41 = .ok (.iload_n 2, 1) := (show decode cX10_changesFrom 41 = .ok (.iload_n 2, 1) from by decide +kernel)
theorem dX10_changesFrom_42 {l : Nat} : decode (dc (DX10_changesFrom l)) 42 = .ok (.aaload, 1) := (show decode cX10_changesFrom 42 = .ok (.aaload, 1) from by decide +kernel)
theorem dX10_changesFrom_43 {l : Nat} : decode (dc (DX10_changesFrom l)) 43 = .ok (.iload 5, 2) := (show decode cX10_changesFrom 43 = .ok (.iload 5, 2) from by decide +kernel)
theorem dX10_changesFrom_45 {l : Nat} : decode (dc (DX10_changesFrom l)) 45 = .ok (.iload 4, 2) := (show decode cX10_changesFrom 45 = .ok (.iload 4, 2) from by decide +kernel)
theorem dX10_changesFrom_47 {l : Nat} : decode (dc (DX10_changesFrom l)) 47 = .ok (.iastore, 1) := (show decode cX10_changesFrom 47 = .ok (.iastore, 1) from by decide +kernel)
theorem dX10_changesFrom_48 {l : Nat} : decode (dc (DX10_changesFrom l)) 48 = .ok (.goto 14, 3) := (show decode cX10_changesFrom 48 = .ok (.goto 14, 3) from by decide +kernel)
theorem dX10_changesFrom_51 {l : Nat} : decode (dc (DX10_changesFrom l)) 51 = .ok (.aload_n 0, 1) := (show decode cX10_changesFrom 51 = .ok (.aload_n 0, 1) from by decide +kernel)
theorem dX10_changesFrom_52 {l : Nat} : decode (dc (DX10_changesFrom l)) 52 = .ok (.getfield 54, 3) := (show decode cX10_changesFrom 52 = .ok (.getfield 54, 3) from by decide +kernel)
theorem dX10_changesFrom_55 {l : Nat} : decode (dc (DX10_changesFrom l)) 55 = .ok (.iload 5, 2) := (show decode cX10_changesFrom 55 = .ok (.iload 5, 2) from by decide +kernel)
theorem dX10_changesFrom_57 {l : Nat} : decode (dc (DX10_changesFrom l)) 57 = .ok (.aaload, 1) := (show decode cX10_changesFrom 57 = .ok (.aaload, 1) from by decide +kernel)
theorem dX10_changesFrom_58 {l : Nat} : decode (dc (DX10_changesFrom l)) 58 = .ok (.iload_n 2, 1) := (show decode cX10_changesFrom 58 = .ok (.iload_n 2, 1) from by decide +kernel)
theorem dX10_changesFrom_59 {l : Nat} : decode (dc (DX10_changesFrom l)) 59 = .ok (.iload 4, 2) := (show decode cX10_changesFrom 59 = .ok (.iload 4, 2) from by decide +kernel)
theorem dX10_changesFrom_61 {l : Nat} : decode (dc (DX10_changesFrom l)) 61 = .ok (.iastore, 1) := (show decode cX10_changesFrom 61 = .ok (.iastore, 1) from by decide +kernel)
theorem dX10_changesFrom_62 {l : Nat} : decode (dc (DX10_changesFrom l)) 62 = .ok (.return_, 1) := (show decode cX10_changesFrom 62 = .ok (.return_, 1) from by decide +kernel)
theorem dX10_changes_0 : decode (dc DX10_changes) 0 = .ok (.aload_n 0, 1) := by decide +kernel
theorem dX10_changes_1 : decode (dc DX10_changes) 1 = .ok (.iconst 1, 1) := by decide +kernel
theorem dX10_changes_2 : decode (dc DX10_changes) 2 = .ok (.iload_n 1, 1) := by decide +kernel
theorem dX10_changes_3 : decode (dc DX10_changes) 3 = .ok (.iload_n 2, 1) := by decide +kernel
theorem dX10_changes_4 : decode (dc DX10_changes) 4 = .ok (.invokevirtual 339, 3) := by decide +kernel
theorem dX10_changes_7 : decode (dc DX10_changes) 7 = .ok (.istore 4, 2) := by decide +kernel
theorem dX10_changes_9 : decode (dc DX10_changes) 9 = .ok (.iload 4, 2) := by decide +kernel
theorem dX10_changes_11 : decode (dc DX10_changes) 11 = .ok (.iconst (-1), 1) := by decide +kernel
theorem dX10_changes_12 : decode (dc DX10_changes) 12 = .ok (.if_icmp .eq 13, 3) := by decide +kernel
theorem dX10_changes_15 : decode (dc DX10_changes) 15 = .ok (.aload_n 0, 1) := by decide +kernel
theorem dX10_changes_16 : decode (dc DX10_changes) 16 = .ok (.iconst 1, 1) := by decide +kernel
theorem dX10_changes_17 : decode (dc DX10_changes) 17 = .ok (.iload_n 1, 1) := by decide +kernel
theorem dX10_changes_18 : decode (dc DX10_changes) 18 = .ok (.iload_n 2, 1) := by decide +kernel
theorem dX10_changes_19 : decode (dc DX10_changes) 19 = .ok (.iload_n 3, 1) := by decide +kernel
theorem dX10_changes_20 : decode (dc DX10_changes) 20 = .ok (.iload 4, 2) := by decide +kernel
theorem dX10_changes_22 : decode (dc DX10_changes) 22 = .ok (.invokevirtual 343, 3) := by decide +kernel
theorem dX10_changes_25 : decode (dc DX10_changes) 25 = .ok (.return_, 1) := by decide +kernel
theorem dX10_laysRounds_0 : decode (dc DX10_laysRounds) 0 = .ok (.iconst 0, 1) := by decide +kernel
theorem dX10_laysRounds_1 : decode (dc DX10_laysRounds) 1 = .ok (.istore_n 1, 1) := by decide +kernel
theorem dX10_laysRounds_2 : decode (dc DX10_laysRounds) 2 = .ok (.iconst 0, 1) := by decide +kernel
theorem dX10_laysRounds_3 : decode (dc DX10_laysRounds) 3 = .ok (.istore_n 2, 1) := by decide +kernel
theorem dX10_laysRounds_4 : decode (dc DX10_laysRounds) 4 = .ok (.iload_n 2, 1) := by decide +kernel
theorem dX10_laysRounds_5 : decode (dc DX10_laysRounds) 5 = .ok (.bipush 12, 2) := by decide +kernel
theorem dX10_laysRounds_7 : decode (dc DX10_laysRounds) 7 = .ok (.if_icmp .ge 32, 3) := by decide +kernel
theorem dX10_laysRounds_10 : decode (dc DX10_laysRounds) 10 = .ok (.iconst 0, 1) := by decide +kernel
theorem dX10_laysRounds_11 : decode (dc DX10_laysRounds) 11 = .ok (.istore_n 3, 1) := by decide +kernel
theorem dX10_laysRounds_12 : decode (dc DX10_laysRounds) 12 = .ok (.iload_n 3, 1) := by decide +kernel
theorem dX10_laysRounds_13 : decode (dc DX10_laysRounds) 13 = .ok (.bipush 12, 2) := by decide +kernel
theorem dX10_laysRounds_15 : decode (dc DX10_laysRounds) 15 = .ok (.if_icmp .ge 18, 3) := by decide +kernel
theorem dX10_laysRounds_18 : decode (dc DX10_laysRounds) 18 = .ok (.aload_n 0, 1) := by decide +kernel
theorem dX10_laysRounds_19 : decode (dc DX10_laysRounds) 19 = .ok (.getfield 54, 3) := by decide +kernel
theorem dX10_laysRounds_22 : decode (dc DX10_laysRounds) 22 = .ok (.iload_n 2, 1) := by decide +kernel
theorem dX10_laysRounds_23 : decode (dc DX10_laysRounds) 23 = .ok (.aaload, 1) := by decide +kernel
theorem dX10_laysRounds_24 : decode (dc DX10_laysRounds) 24 = .ok (.iload_n 3, 1) := by decide +kernel
theorem dX10_laysRounds_25 : decode (dc DX10_laysRounds) 25 = .ok (.iconst (-1), 1) := by decide +kernel
theorem dX10_laysRounds_26 : decode (dc DX10_laysRounds) 26 = .ok (.iastore, 1) := by decide +kernel
theorem dX10_laysRounds_27 : decode (dc DX10_laysRounds) 27 = .ok (.iinc 3 1, 3) := by decide +kernel
theorem dX10_laysRounds_30 : decode (dc DX10_laysRounds) 30 = .ok (.goto (-18), 3) := by decide +kernel
theorem dX10_laysRounds_33 : decode (dc DX10_laysRounds) 33 = .ok (.iinc 2 1, 3) := by decide +kernel
theorem dX10_laysRounds_36 : decode (dc DX10_laysRounds) 36 = .ok (.goto (-32), 3) := by decide +kernel
theorem dX10_laysRounds_39 : decode (dc DX10_laysRounds) 39 = .ok (.iconst 0, 1) := by decide +kernel
theorem dX10_laysRounds_40 : decode (dc DX10_laysRounds) 40 = .ok (.istore_n 2, 1) := by decide +kernel
theorem dX10_laysRounds_41 : decode (dc DX10_laysRounds) 41 = .ok (.iload_n 2, 1) := by decide +kernel
theorem dX10_laysRounds_42 : decode (dc DX10_laysRounds) 42 = .ok (.aload_n 0, 1) := by decide +kernel
theorem dX10_laysRounds_43 : decode (dc DX10_laysRounds) 43 = .ok (.getfield 22, 3) := by decide +kernel
theorem dX10_laysRounds_46 : decode (dc DX10_laysRounds) 46 = .ok (.iconst 0, 1) := by decide +kernel
