theorem dX9_partOf_12 : decode (dc DX9_partOf) 12 = .ok (.iconst 0, 1) := by decide +kernel
theorem dX9_partOf_13 : decode (dc DX9_partOf) 13 = .ok (.ireturn, 1) := by decide +kernel
theorem dX9_partOf_14 : decode (dc DX9_partOf) 14 = .ok (.aload_n 0, 1) := by decide +kernel
theorem dX9_partOf_15 : decode (dc DX9_partOf) 15 = .ok (.invokevirtual 201, 3) := by decide +kernel
theorem dX9_partOf_18 : decode (dc DX9_partOf) 18 = .ok (.pop, 1) := by decide +kernel
theorem dX9_partOf_19 : decode (dc DX9_partOf) 19 = .ok (.aload_n 0, 1) := by decide +kernel
theorem dX9_partOf_20 : decode (dc DX9_partOf) 20 = .ok (.getfield 43, 3) := by decide +kernel
theorem dX9_partOf_23 : decode (dc DX9_partOf) 23 = .ok (.aload_n 0, 1) := by decide +kernel
theorem dX9_partOf_24 : decode (dc DX9_partOf) 24 = .ok (.getfield 36, 3) := by decide +kernel
theorem dX9_partOf_27 : decode (dc DX9_partOf) 27 = .ok (.invokevirtual 204, 3) := by decide +kernel
theorem dX9_partOf_30 : decode (dc DX9_partOf) 30 = .ok (.iload_n 1, 1) := by decide +kernel
theorem dX9_partOf_31 : decode (dc DX9_partOf) 31 = .ok (.ifCond .ne 13, 3) := by decide +kernel
theorem dX9_partOf_34 : decode (dc DX9_partOf) 34 = .ok (.aload_n 0, 1) := by decide +kernel
theorem dX9_partOf_35 : decode (dc DX9_partOf) 35 = .ok (.getfield 43, 3) := by decide +kernel
theorem dX9_partOf_38 : decode (dc DX9_partOf) 38 = .ok (.getfield 208, 3) := by decide +kernel
theorem dX9_partOf_41 : decode (dc DX9_partOf) 41 = .ok (.goto 10, 3) := by decide +kernel
theorem dX9_partOf_44 : decode (dc DX9_partOf) 44 = .ok (.aload_n 0, 1) := by decide +kernel
theorem dX9_partOf_45 : decode (dc DX9_partOf) 45 = .ok (.getfield 43, 3) := by decide +kernel
theorem dX9_partOf_48 : decode (dc DX9_partOf) 48 = .ok (.getfield 209, 3) := by decide +kernel
theorem dX9_partOf_51 : decode (dc DX9_partOf) 51 = .ok (.iload_n 2, 1) := by decide +kernel
theorem dX9_partOf_52 : decode (dc DX9_partOf) 52 = .ok (.invokestatic 226, 3) := by decide +kernel
theorem dX9_partOf_55 : decode (dc DX9_partOf) 55 = .ok (.ifCond .eq 5, 3) := by decide +kernel
theorem dX9_partOf_58 : decode (dc DX9_partOf) 58 = .ok (.iconst 1, 1) := by decide +kernel
theorem dX9_partOf_59 : decode (dc DX9_partOf) 59 = .ok (.ireturn, 1) := by decide +kernel
theorem dX9_partOf_60 : decode (dc DX9_partOf) 60 = .ok (.iload_n 1, 1) := by decide +kernel
theorem dX9_partOf_61 : decode (dc DX9_partOf) 61 = .ok (.ifCond .ne 13, 3) := by decide +kernel
theorem dX9_partOf_64 : decode (dc DX9_partOf) 64 = .ok (.aload_n 0, 1) := by decide +kernel
theorem dX9_partOf_65 : decode (dc DX9_partOf) 65 = .ok (.getfield 43, 3) := by decide +kernel
theorem dX9_partOf_68 : decode (dc DX9_partOf) 68 = .ok (.getfield 361, 3) := by decide +kernel
theorem dX9_partOf_71 : decode (dc DX9_partOf) 71 = .ok (.goto 10, 3) := by decide +kernel
theorem dX9_partOf_74 : decode (dc DX9_partOf) 74 = .ok (.aload_n 0, 1) := by decide +kernel
theorem dX9_partOf_75 : decode (dc DX9_partOf) 75 = .ok (.getfield 43, 3) := by decide +kernel
theorem dX9_partOf_78 : decode (dc DX9_partOf) 78 = .ok (.getfield 364, 3) := by decide +kernel
theorem dX9_partOf_81 : decode (dc DX9_partOf) 81 = .ok (.iload_n 2, 1) := by decide +kernel
theorem dX9_partOf_82 : decode (dc DX9_partOf) 82 = .ok (.invokestatic 226, 3) := by decide +kernel
theorem dX9_partOf_85 : decode (dc DX9_partOf) 85 = .ok (.ifCond .eq 7, 3) := by decide +kernel
theorem dX9_partOf_88 : decode (dc DX9_partOf) 88 = .ok (.iconst 2, 1) := by decide +kernel
theorem dX9_partOf_89 : decode (dc DX9_partOf) 89 = .ok (.goto 4, 3) := by decide +kernel
theorem dX9_partOf_92 : decode (dc DX9_partOf) 92 = .ok (.iconst 3, 1) := by decide +kernel
theorem dX9_partOf_93 : decode (dc DX9_partOf) 93 = .ok (.ireturn, 1) := by decide +kernel
theorem dX9_of_0 : decode (dc DX9_of) 0 = .ok (.aload_n 0, 1) := by decide +kernel
theorem dX9_of_1 : decode (dc DX9_of) 1 = .ok (.aload_n 0, 1) := by decide +kernel
theorem dX9_of_2 : decode (dc DX9_of) 2 = .ok (.getfield 12, 3) := by decide +kernel
theorem dX9_of_5 : decode (dc DX9_of) 5 = .ok (.iload_n 1, 1) := by decide +kernel
theorem dX9_of_6 : decode (dc DX9_of) 6 = .ok (.iload_n 2, 1) := by decide +kernel
theorem dX9_of_7 : decode (dc DX9_of) 7 = .ok (.invokevirtual 146, 3) := by decide +kernel
theorem dX9_of_10 : decode (dc DX9_of) 10 = .ok (.invokevirtual 150, 3) := by decide +kernel
theorem dX9_of_13 : decode (dc DX9_of) 13 = .ok (.aload_n 0, 1) := by decide +kernel
theorem dX9_of_14 : decode (dc DX9_of) 14 = .ok (.iload_n 3, 1) := by decide +kernel
theorem dX9_of_15 : decode (dc DX9_of) 15 = .ok (.ifCond .lt 12, 3) := by decide +kernel
theorem dX9_of_18 : decode (dc DX9_of) 18 = .ok (.iload_n 3, 1) := by decide +kernel
theorem dX9_of_19 : decode (dc DX9_of) 19 = .ok (.iconst 2, 1) := by decide +kernel
theorem dX9_of_20 : decode (dc DX9_of) 20 = .ok (.if_icmp .gt 7, 3) := by decide +kernel
theorem dX9_of_23 : decode (dc DX9_of) 23 = .ok (.iconst 1, 1) := by decide +kernel
theorem dX9_of_24 : decode (dc DX9_of) 24 = .ok (.goto 4, 3) := by decide +kernel
theorem dX9_of_27 : decode (dc DX9_of) 27 = .ok (.iconst 0, 1) := by decide +kernel
theorem dX9_of_28 : decode (dc DX9_of) 28 = .ok (.invokevirtual 90, 3) := by decide +kernel
theorem dX9_of_31 : decode (dc DX9_of) 31 = .ok (.iload_n 3, 1) := by decide +kernel
theorem dX9_of_32 : decode (dc DX9_of) 32 = .ok (.iconst 2, 1) := by decide +kernel
theorem dX9_of_33 : decode (dc DX9_of) 33 = .ok (.if_icmp .ne 10, 3) := by decide +kernel
theorem dX9_of_36 : decode (dc DX9_of) 36 = .ok (.aload_n 0, 1) := by decide +kernel
theorem dX9_of_37 : decode (dc DX9_of) 37 = .ok (.iload_n 1, 1) := by decide +kernel
theorem dX9_of_38 : decode (dc DX9_of) 38 = .ok (.iload_n 2, 1) := by decide +kernel
theorem dX9_of_39 : decode (dc DX9_of) 39 = .ok (.invokevirtual 210, 3) := by decide +kernel
theorem dX9_of_42 : decode (dc DX9_of) 42 = .ok (.ireturn, 1) := by decide +kernel
theorem dX9_of_43 : decode (dc DX9_of) 43 = .ok (.aload_n 0, 1) := by decide +kernel
theorem dX9_of_44 : decode (dc DX9_of) 44 = .ok (.getfield 36, 3) := by decide +kernel
theorem dX9_of_47 : decode (dc DX9_of) 47 = .ok (.aload_n 0, 1) := by decide +kernel
theorem dX9_of_48 : decode (dc DX9_of) 48 = .ok (.getfield 12, 3) := by decide +kernel
theorem dX9_of_51 : decode (dc DX9_of) 51 = .ok (.invokevirtual 170, 3) := by decide +kernel
theorem dX9_of_54 : decode (dc DX9_of) 54 = .ok (.aload_n 0, 1) := by decide +kernel
theorem dX9_of_55 : decode (dc DX9_of) 55 = .ok (.getfield 36, 3) := by decide +kernel
theorem dX9_of_58 : decode (dc DX9_of) 58 = .ok (.iload_n 1, 1) := by decide +kernel
theorem dX9_of_59 : decode (dc DX9_of) 59 = .ok (.iload_n 2, 1) := by decide +kernel
theorem dX9_of_60 : decode (dc DX9_of) 60 = .ok (.invokevirtual 213, 3) := by decide +kernel
theorem dX9_of_63 : decode (dc DX9_of) 63 = .ok (.aload_n 0, 1) := by decide +kernel
theorem dX9_of_64 : decode (dc DX9_of) 64 = .ok (.getfield 36, 3) := by decide +kernel
theorem dX9_of_67 : decode (dc DX9_of) 67 = .ok (.bipush 12, 2) := by decide +kernel
theorem dX9_of_69 : decode (dc DX9_of) 69 = .ok (.invokevirtual 217, 3) := by decide +kernel
theorem dX9_of_72 : decode (dc DX9_of) 72 = .ok (.pop, 1) := by decide +kernel
theorem dX9_of_73 : decode (dc DX9_of) 73 = .ok (.aload_n 0, 1) := by decide +kernel
theorem dX9_of_74 : decode (dc DX9_of) 74 = .ok (.getfield 36, 3) := by decide +kernel
theorem dX9_of_77 : decode (dc DX9_of) 77 = .ok (.getfield 197, 3) := by decide +kernel
theorem dX9_of_80 : decode (dc DX9_of) 80 = .ok (.invokevirtual 110, 3) := by decide +kernel
theorem dX9_of_83 : decode (dc DX9_of) 83 = .ok (.istore 4, 2) := by decide +kernel
theorem dX9_of_85 : decode (dc DX9_of) 85 = .ok (.iload_n 3, 1) := by decide +kernel
theorem dX9_of_86 : decode (dc DX9_of) 86 = .ok (.iconst 1, 1) := by decide +kernel
theorem dX9_of_87 : decode (dc DX9_of) 87 = .ok (.if_icmp .ne 6, 3) := by decide +kernel
theorem dX9_of_90 : decode (dc DX9_of) 90 = .ok (.iload 4, 2) := by decide +kernel
theorem dX9_of_92 : decode (dc DX9_of) 92 = .ok (.ireturn, 1) := by decide +kernel
theorem dX9_of_93 : decode (dc DX9_of) 93 = .ok (.iload 4, 2) := by decide +kernel
theorem dX9_of_95 : decode (dc DX9_of) 95 = .ok (.aload_n 0, 1) := by decide +kernel
theorem dX9_of_96 : decode (dc DX9_of) 96 = .ok (.invokevirtual 201, 3) := by decide +kernel
theorem dX9_of_99 : decode (dc DX9_of) 99 = .ok (.if_icmp .ge 7, 3) := by decide +kernel
theorem dX9_of_102 : decode (dc DX9_of) 102 = .ok (.iconst 1, 1) := by decide +kernel
theorem dX9_of_103 : decode (dc DX9_of) 103 = .ok (.goto 4, 3) := by decide +kernel
theorem dX9_of_106 : decode (dc DX9_of) 106 = .ok (.iconst 0, 1) := by decide +kernel
theorem dX9_of_107 : decode (dc DX9_of) 107 = .ok (.ireturn, 1) := by decide +kernel
theorem dX9_kindOf_0 : decode (dc DX9_kindOf) 0 = .ok (.aload_n 0, 1) := by decide +kernel
theorem dX9_kindOf_1 : decode (dc DX9_kindOf) 1 = .ok (.getfield 12, 3) := by decide +kernel
theorem dX9_kindOf_4 : decode (dc DX9_kindOf) 4 = .ok (.iload_n 1, 1) := by decide +kernel
theorem dX9_kindOf_5 : decode (dc DX9_kindOf) 5 = .ok (.iload_n 2, 1) := by decide +kernel
theorem dX9_kindOf_6 : decode (dc DX9_kindOf) 6 = .ok (.invokevirtual 303, 3) := by decide +kernel
theorem dX9_kindOf_9 : decode (dc DX9_kindOf) 9 = .ok (.ifCond .ne 5, 3) := by decide +kernel
theorem dX9_kindOf_12 : decode (dc DX9_kindOf) 12 = .ok (.iconst 0, 1) := by decide +kernel
theorem dX9_kindOf_13 : decode (dc DX9_kindOf) 13 = .ok (.ireturn, 1) := by decide +kernel
theorem dX9_kindOf_14 : decode (dc DX9_kindOf) 14 = .ok (.aload_n 0, 1) := by decide +kernel
theorem dX9_kindOf_15 : decode (dc DX9_kindOf) 15 = .ok (.getfield 36, 3) := by decide +kernel
theorem dX9_kindOf_18 : decode (dc DX9_kindOf) 18 = .ok (.iload_n 1, 1) := by decide +kernel
theorem dX9_kindOf_19 : decode (dc DX9_kindOf) 19 = .ok (.iload_n 2, 1) := by decide +kernel
theorem dX9_kindOf_20 : decode (dc DX9_kindOf) 20 = .ok (.invokevirtual 367, 3) := by decide +kernel
theorem dX9_kindOf_23 : decode (dc DX9_kindOf) 23 = .ok (.ifCond .eq 19, 3) := by decide +kernel
theorem dX9_kindOf_26 : decode (dc DX9_kindOf) 26 = .ok (.aload_n 0, 1) := by decide +kernel
theorem dX9_kindOf_27 : decode (dc DX9_kindOf) 27 = .ok (.getfield 43, 3) := by decide +kernel
theorem dX9_kindOf_30 : decode (dc DX9_kindOf) 30 = .ok (.aload_n 0, 1) := by decide +kernel
theorem dX9_kindOf_31 : decode (dc DX9_kindOf) 31 = .ok (.getfield 36, 3) := by decide +kernel
theorem dX9_kindOf_34 : decode (dc DX9_kindOf) 34 = .ok (.iload_n 1, 1) := by decide +kernel
theorem dX9_kindOf_35 : decode (dc DX9_kindOf) 35 = .ok (.iload_n 2, 1) := by decide +kernel
theorem dX9_kindOf_36 : decode (dc DX9_kindOf) 36 = .ok (.invokevirtual 370, 3) := by decide +kernel
theorem dX9_kindOf_39 : decode (dc DX9_kindOf) 39 = .ok (.goto 4, 3) := by decide +kernel
theorem dX9_kindOf_42 : decode (dc DX9_kindOf) 42 = .ok (.iconst 1, 1) := by decide +kernel
theorem dX9_kindOf_43 : decode (dc DX9_kindOf) 43 = .ok (.ireturn, 1) := by decide +kernel
theorem dX9_fit_0 : decode (dc DX9_fit) 0 = .ok (.aload_n 0, 1) := by decide +kernel
theorem dX9_fit_1 : decode (dc DX9_fit) 1 = .ok (.aload_n 0, 1) := by decide +kernel
theorem dX9_fit_2 : decode (dc DX9_fit) 2 = .ok (.getfield 12, 3) := by decide +kernel
theorem dX9_fit_5 : decode (dc DX9_fit) 5 = .ok (.iload_n 1, 1) := by decide +kernel
theorem dX9_fit_6 : decode (dc DX9_fit) 6 = .ok (.iload_n 2, 1) := by decide +kernel
theorem dX9_fit_7 : decode (dc DX9_fit) 7 = .ok (.invokevirtual 157, 3) := by decide +kernel
theorem dX9_fit_10 : decode (dc DX9_fit) 10 = .ok (.invokevirtual 150, 3) := by decide +kernel
theorem dX9_fit_13 : decode (dc DX9_fit) 13 = .ok (.aload_n 0, 1) := by decide +kernel
theorem dX9_fit_14 : decode (dc DX9_fit) 14 = .ok (.invokevirtual 201, 3) := by decide +kernel
theorem dX9_fit_17 : decode (dc DX9_fit) 17 = .ok (.pop, 1) := by decide +kernel
theorem dX9_fit_18 : decode (dc DX9_fit) 18 = .ok (.aload_n 0, 1) := by decide +kernel
theorem dX9_fit_19 : decode (dc DX9_fit) 19 = .ok (.getfield 43, 3) := by decide +kernel
theorem dX9_fit_22 : decode (dc DX9_fit) 22 = .ok (.aload_n 0, 1) := by decide +kernel
theorem dX9_fit_23 : decode (dc DX9_fit) 23 = .ok (.getfield 36, 3) := by decide +kernel
theorem dX9_fit_26 : decode (dc DX9_fit) 26 = .ok (.invokevirtual 204, 3) := by decide +kernel
theorem dX9_fit_29 : decode (dc DX9_fit) 29 = .ok (.aload_n 0, 1) := by decide +kernel
theorem dX9_fit_30 : decode (dc DX9_fit) 30 = .ok (.getfield 43, 3) := by decide +kernel
theorem dX9_fit_33 : decode (dc DX9_fit) 33 = .ok (.aload_n 0, 1) := by decide +kernel
theorem dX9_fit_34 : decode (dc DX9_fit) 34 = .ok (.getfield 36, 3) := by decide +kernel
theorem dX9_fit_37 : decode (dc DX9_fit) 37 = .ok (.invokevirtual 220, 3) := by decide +kernel
theorem dX9_fit_40 : decode (dc DX9_fit) 40 = .ok (.aload_n 0, 1) := by decide +kernel
theorem dX9_fit_41 : decode (dc DX9_fit) 41 = .ok (.iload_n 1, 1) := by decide +kernel
theorem dX9_fit_42 : decode (dc DX9_fit) 42 = .ok (.iload_n 2, 1) := by decide +kernel
theorem dX9_fit_43 : decode (dc DX9_fit) 43 = .ok (.invokevirtual 223, 3) := by decide +kernel
theorem dX9_fit_46 : decode (dc DX9_fit) 46 = .ok (.ireturn, 1) := by decide +kernel
theorem dX9_fitMany_0 : decode (dc DX9_fitMany) 0 = .ok (.aload_n 0, 1) := by decide +kernel
theorem dX9_fitMany_1 : decode (dc DX9_fitMany) 1 = .ok (.iload_n 1, 1) := by decide +kernel
theorem dX9_fitMany_2 : decode (dc DX9_fitMany) 2 = .ok (.iconst 1, 1) := by decide +kernel
theorem dX9_fitMany_3 : decode (dc DX9_fitMany) 3 = .ok (.if_icmp .lt 12, 3) := by decide +kernel
theorem dX9_fitMany_6 : decode (dc DX9_fitMany) 6 = .ok (.iload_n 1, 1) := by decide +kernel
theorem dX9_fitMany_7 : decode (dc DX9_fitMany) 7 = .ok (.iconst 3, 1) := by decide +kernel
theorem dX9_fitMany_8 : decode (dc DX9_fitMany) 8 = .ok (.if_icmp .gt 7, 3) := by decide +kernel
theorem dX9_fitMany_11 : decode (dc DX9_fitMany) 11 = .ok (.iconst 1, 1) := by decide +kernel
theorem dX9_fitMany_12 : decode (dc DX9_fitMany) 12 = .ok (.goto 4, 3) := by decide +kernel
theorem dX9_fitMany_15 : decode (dc DX9_fitMany) 15 = .ok (.iconst 0, 1) := by decide +kernel
theorem dX9_fitMany_16 : decode (dc DX9_fitMany) 16 = .ok (.invokevirtual 90, 3) := by decide +kernel
theorem dX9_fitMany_19 : decode (dc DX9_fitMany) 19 = .ok (.aload_n 0, 1) := by decide +kernel
theorem dX9_fitMany_20 : decode (dc DX9_fitMany) 20 = .ok (.invokevirtual 201, 3) := by decide +kernel
theorem dX9_fitMany_23 : decode (dc DX9_fitMany) 23 = .ok (.pop, 1) := by decide +kernel
theorem dX9_fitMany_24 : decode (dc DX9_fitMany) 24 = .ok (.aload_n 0, 1) := by decide +kernel
theorem dX9_fitMany_25 : decode (dc DX9_fitMany) 25 = .ok (.getfield 43, 3) := by decide +kernel
theorem dX9_fitMany_28 : decode (dc DX9_fitMany) 28 = .ok (.aload_n 0, 1) := by decide +kernel
theorem dX9_fitMany_29 : decode (dc DX9_fitMany) 29 = .ok (.getfield 36, 3) := by decide +kernel
theorem dX9_fitMany_32 : decode (dc DX9_fitMany) 32 = .ok (.invokevirtual 204, 3) := by decide +kernel
theorem dX9_fitMany_35 : decode (dc DX9_fitMany) 35 = .ok (.aload_n 0, 1) := by decide +kernel
theorem dX9_fitMany_36 : decode (dc DX9_fitMany) 36 = .ok (.getfield 43, 3) := by decide +kernel
theorem dX9_fitMany_39 : decode (dc DX9_fitMany) 39 = .ok (.aload_n 0, 1) := by decide +kernel
theorem dX9_fitMany_40 : decode (dc DX9_fitMany) 40 = .ok (.getfield 36, 3) := by decide +kernel
theorem dX9_fitMany_43 : decode (dc DX9_fitMany) 43 = .ok (.invokevirtual 220, 3) := by decide +kernel
theorem dX9_fitMany_46 : decode (dc DX9_fitMany) 46 = .ok (.iconst 0, 1) := by decide +kernel
theorem dX9_fitMany_47 : decode (dc DX9_fitMany) 47 = .ok (.istore_n 2, 1) := by decide +kernel
theorem dX9_fitMany_48 : decode (dc DX9_fitMany) 48 = .ok (.iconst 0, 1) := by decide +kernel
theorem dX9_fitMany_49 : decode (dc DX9_fitMany) 49 = .ok (.istore_n 3, 1) := by decide +kernel
theorem dX9_fitMany_50 : decode (dc DX9_fitMany) 50 = .ok (.iload_n 3, 1) := by decide +kernel
theorem dX9_fitMany_51 : decode (dc DX9_fitMany) 51 = .ok (.aload_n 0, 1) := by decide +kernel
theorem dX9_fitMany_52 : decode (dc DX9_fitMany) 52 = .ok (.getfield 12, 3) := by decide +kernel
theorem dX9_fitMany_55 : decode (dc DX9_fitMany) 55 = .ok (.getfield 119, 3) := by decide +kernel
theorem dX9_fitMany_58 : decode (dc DX9_fitMany) 58 = .ok (.if_icmp .ge 44, 3) := by decide +kernel
theorem dX9_fitMany_61 : decode (dc DX9_fitMany) 61 = .ok (.iconst 0, 1) := by decide +kernel
theorem dX9_fitMany_62 : decode (dc DX9_fitMany) 62 = .ok (.istore 4, 2) := by decide +kernel
theorem dX9_fitMany_64 : decode (dc DX9_fitMany) 64 = .ok (.iload 4, 2) := by decide +kernel
theorem dX9_fitMany_66 : decode (dc DX9_fitMany) 66 = .ok (.aload_n 0, 1) := by decide +kernel
theorem dX9_fitMany_67 : decode (dc DX9_fitMany) 67 = .ok (.getfield 12, 3) := by decide +kernel
theorem dX9_fitMany_70 : decode (dc DX9_fitMany) 70 = .ok (.getfield 122, 3) := by decide +kernel
theorem dX9_fitMany_73 : decode (dc DX9_fitMany) 73 = .ok (.if_icmp .ge 23, 3) := by decide +kernel
theorem dX9_fitMany_76 : decode (dc DX9_fitMany) 76 = .ok (.aload_n 0, 1) := by decide +kernel
theorem dX9_fitMany_77 : decode (dc DX9_fitMany) 77 = .ok (.iload_n 3, 1) := by decide +kernel
theorem dX9_fitMany_78 : decode (dc DX9_fitMany) 78 = .ok (.iload 4, 2) := by decide +kernel
theorem dX9_fitMany_80 : decode (dc DX9_fitMany) 80 = .ok (.invokevirtual 223, 3) := by decide +kernel
theorem dX9_fitMany_83 : decode (dc DX9_fitMany) 83 = .ok (.iload_n 1, 1) := by decide +kernel
theorem dX9_fitMany_84 : decode (dc DX9_fitMany) 84 = .ok (.if_icmp .ne 6, 3) := by decide +kernel
theorem dX9_fitMany_87 : decode (dc DX9_fitMany) 87 = .ok (.iinc 2 1, 3) := by decide +kernel
theorem dX9_fitMany_90 : decode (dc DX9_fitMany) 90 = .ok (.iinc 4 1, 3) := by decide +kernel
theorem dX9_fitMany_93 : decode (dc DX9_fitMany) 93 = .ok (.goto (-29), 3) := by decide +kernel
theorem dX9_fitMany_96 : decode (dc DX9_fitMany) 96 = .ok (.iinc 3 1, 3) := by decide +kernel
theorem dX9_fitMany_99 : decode (dc DX9_fitMany) 99 = .ok (.goto (-49), 3) := by decide +kernel
theorem dX9_fitMany_102 : decode (dc DX9_fitMany) 102 = .ok (.iload_n 2, 1) := by decide +kernel
theorem dX9_fitMany_103 : decode (dc DX9_fitMany) 103 = .ok (.ireturn, 1) := by decide +kernel
theorem dX9_lack_0 : decode (dc DX9_lack) 0 = .ok (.aload_n 0, 1) := by decide +kernel
theorem dX9_lack_1 : decode (dc DX9_lack) 1 = .ok (.iload_n 1, 1) := by decide +kernel
theorem dX9_lack_2 : decode (dc DX9_lack) 2 = .ok (.ifCond .lt 20, 3) := by decide +kernel
theorem dX9_lack_5 : decode (dc DX9_lack) 5 = .ok (.iload_n 1, 1) := by decide +kernel
theorem dX9_lack_6 : decode (dc DX9_lack) 6 = .ok (.iconst 1, 1) := by decide +kernel
theorem dX9_lack_7 : decode (dc DX9_lack) 7 = .ok (.aload_n 0, 1) := by decide +kernel
theorem dX9_lack_8 : decode (dc DX9_lack) 8 = .ok (.getfield 12, 3) := by decide +kernel
theorem dX9_lack_11 : decode (dc DX9_lack) 11 = .ok (.getfield 119, 3) := by decide +kernel
theorem dX9_lack_14 : decode (dc DX9_lack) 14 = .ok (.ishl, 1) := by decide +kernel
theorem dX9_lack_15 : decode (dc DX9_lack) 15 = .ok (.if_icmp .ge 7, 3) := by decide +kernel
theorem dX9_lack_18 : decode (dc DX9_lack) 18 = .ok (.iconst 1, 1) := by decide +kernel
theorem dX9_lack_19 : decode (dc DX9_lack) 19 = .ok (.goto 4, 3) := by decide +kernel
theorem dX9_lack_22 : decode (dc DX9_lack) 22 = .ok (.iconst 0, 1) := by decide +kernel
theorem dX9_lack_23 : decode (dc DX9_lack) 23 = .ok (.invokevirtual 90, 3) := by decide +kernel
theorem dX9_lack_26 : decode (dc DX9_lack) 26 = .ok (.iload_n 1, 1) := by decide +kernel
theorem dX9_lack_27 : decode (dc DX9_lack) 27 = .ok (.aload_n 0, 1) := by decide +kernel
theorem dX9_lack_28 : decode (dc DX9_lack) 28 = .ok (.getfield 12, 3) := by decide +kernel
theorem dX9_lack_31 : decode (dc DX9_lack) 31 = .ok (.getfield 131, 3) := by decide +kernel
theorem dX9_lack_34 : decode (dc DX9_lack) 34 = .ok (.iand, 1) := by decide +kernel
theorem dX9_lack_35 : decode (dc DX9_lack) 35 = .ok (.istore_n 2, 1) := by decide +kernel
theorem dX9_lack_36 : decode (dc DX9_lack) 36 = .ok (.iconst 0, 1) := by decide +kernel
theorem dX9_lack_37 : decode (dc DX9_lack) 37 = .ok (.istore_n 3, 1) := by decide +kernel
theorem dX9_lack_38 : decode (dc DX9_lack) 38 = .ok (.iconst 0, 1) := by decide +kernel
theorem dX9_lack_39 : decode (dc DX9_lack) 39 = .ok (.istore 4, 2) := by decide +kernel
theorem dX9_lack_41 : decode (dc DX9_lack) 41 = .ok (.iload 4, 2) := by decide +kernel
theorem dX9_lack_43 : decode (dc DX9_lack) 43 = .ok (.aload_n 0, 1) := by decide +kernel
theorem dX9_lack_44 : decode (dc DX9_lack) 44 = .ok (.getfield 12, 3) := by decide +kernel
theorem dX9_lack_47 : decode (dc DX9_lack) 47 = .ok (.getfield 119, 3) := by decide +kernel
theorem dX9_lack_50 : decode (dc DX9_lack) 50 = .ok (.if_icmp .ge 38, 3) := by decide +kernel
theorem dX9_lack_53 : decode (dc DX9_lack) 53 = .ok (.iload_n 2, 1) := by decide +kernel
theorem dX9_lack_54 : decode (dc DX9_lack) 54 = .ok (.iload 4, 2) := by decide +kernel
theorem dX9_lack_56 : decode (dc DX9_lack) 56 = .ok (.invokestatic 226, 3) := by decide +kernel
theorem dX9_lack_59 : decode (dc DX9_lack) 59 = .ok (.ifCond .eq 23, 3) := by decide +kernel
theorem dX9_lack_62 : decode (dc DX9_lack) 62 = .ok (.iload_n 3, 1) := by decide +kernel
theorem dX9_lack_63 : decode (dc DX9_lack) 63 = .ok (.aload_n 0, 1) := by decide +kernel
theorem dX9_lack_64 : decode (dc DX9_lack) 64 = .ok (.getfield 12, 3) := by decide +kernel
theorem dX9_lack_67 : decode (dc DX9_lack) 67 = .ok (.iload 4, 2) := by decide +kernel
theorem dX9_lack_69 : decode (dc DX9_lack) 69 = .ok (.invokevirtual 163, 3) := by decide +kernel
theorem dX9_lack_72 : decode (dc DX9_lack) 72 = .ok (.aload_n 0, 1) := by decide +kernel
theorem dX9_lack_73 : decode (dc DX9_lack) 73 = .ok (.getfield 12, 3) := by decide +kernel
theorem dX9_lack_76 : decode (dc DX9_lack) 76 = .ok (.getfield 134, 3) := by decide +kernel
theorem dX9_lack_79 : decode (dc DX9_lack) 79 = .ok (.iand, 1) := by decide +kernel
theorem dX9_lack_80 : decode (dc DX9_lack) 80 = .ok (.ior, 1) := by decide +kernel
theorem dX9_lack_81 : decode (dc DX9_lack) 81 = .ok (.istore_n 3, 1) := by decide +kernel
theorem dX9_lack_82 : decode (dc DX9_lack) 82 = .ok (.iinc 4 1, 3) := by decide +kernel
theorem dX9_lack_85 : decode (dc DX9_lack) 85 = .ok (.goto (-44), 3) := by decide +kernel
theorem dX9_lack_88 : decode (dc DX9_lack) 88 = .ok (.iload_n 2, 1) := by decide +kernel
theorem dX9_lack_89 : decode (dc DX9_lack) 89 = .ok (.invokestatic 229, 3) := by decide +kernel
theorem dX9_lack_92 : decode (dc DX9_lack) 92 = .ok (.iload_n 3, 1) := by decide +kernel
theorem dX9_lack_93 : decode (dc DX9_lack) 93 = .ok (.invokestatic 229, 3) := by decide +kernel
theorem dX9_lack_96 : decode (dc DX9_lack) 96 = .ok (.isub, 1) := by decide +kernel
theorem dX9_lack_97 : decode (dc DX9_lack) 97 = .ok (.ireturn, 1) := by decide +kernel
theorem dX9_hall_0 : decode (dc DX9_hall) 0 = .ok (.aload_n 0, 1) := by decide +kernel
theorem dX9_hall_1 : decode (dc DX9_hall) 1 = .ok (.iload_n 1, 1) := by decide +kernel
theorem dX9_hall_2 : decode (dc DX9_hall) 2 = .ok (.ifCond .eq 8, 3) := by decide +kernel
theorem dX9_hall_5 : decode (dc DX9_hall) 5 = .ok (.iload_n 1, 1) := by decide +kernel
theorem dX9_hall_6 : decode (dc DX9_hall) 6 = .ok (.iconst 1, 1) := by decide +kernel
theorem dX9_hall_7 : decode (dc DX9_hall) 7 = .ok (.if_icmp .ne 7, 3) := by decide +kernel
theorem dX9_hall_10 : decode (dc DX9_hall) 10 = .ok (.iconst 1, 1) := by decide +kernel
theorem dX9_hall_11 : decode (dc DX9_hall) 11 = .ok (.goto 4, 3) := by decide +kernel
theorem dX9_hall_14 : decode (dc DX9_hall) 14 = .ok (.iconst 0, 1) := by decide +kernel
theorem dX9_hall_15 : decode (dc DX9_hall) 15 = .ok (.invokevirtual 90, 3) := by decide +kernel
theorem dX9_hall_18 : decode (dc DX9_hall) 18 = .ok (.aload_n 0, 1) := by decide +kernel
theorem dX9_hall_19 : decode (dc DX9_hall) 19 = .ok (.invokevirtual 201, 3) := by decide +kernel
theorem dX9_hall_22 : decode (dc DX9_hall) 22 = .ok (.istore_n 2, 1) := by decide +kernel
theorem dX9_hall_23 : decode (dc DX9_hall) 23 = .ok (.iload_n 1, 1) := by decide +kernel
theorem dX9_hall_24 : decode (dc DX9_hall) 24 = .ok (.ifCond .ne 16, 3) := by decide +kernel
theorem dX9_hall_27 : decode (dc DX9_hall) 27 = .ok (.aload_n 0, 1) := by decide +kernel
theorem dX9_hall_28 : decode (dc DX9_hall) 28 = .ok (.getfield 12, 3) := by decide +kernel
theorem dX9_hall_31 : decode (dc DX9_hall) 31 = .ok (.getfield 131, 3) := by decide +kernel
theorem dX9_hall_34 : decode (dc DX9_hall) 34 = .ok (.invokestatic 229, 3) := by decide +kernel
theorem dX9_hall_37 : decode (dc DX9_hall) 37 = .ok (.iload_n 2, 1) := by decide +kernel
theorem dX9_hall_38 : decode (dc DX9_hall) 38 = .ok (.isub, 1) := by decide +kernel
theorem dX9_hall_39 : decode (dc DX9_hall) 39 = .ok (.ireturn, 1) := by decide +kernel
theorem dX9_hall_40 : decode (dc DX9_hall) 40 = .ok (.aload_n 0, 1) := by decide +kernel
theorem dX9_hall_41 : decode (dc DX9_hall) 41 = .ok (.getfield 43, 3) := by decide +kernel
theorem dX9_hall_44 : decode (dc DX9_hall) 44 = .ok (.aload_n 0, 1) := by decide +kernel
theorem dX9_hall_45 : decode (dc DX9_hall) 45 = .ok (.getfield 36, 3) := by decide +kernel
theorem dX9_hall_48 : decode (dc DX9_hall) 48 = .ok (.invokevirtual 204, 3) := by decide +kernel
theorem dX9_hall_51 : decode (dc DX9_hall) 51 = .ok (.aload_n 0, 1) := by decide +kernel
theorem dX9_hall_52 : decode (dc DX9_hall) 52 = .ok (.getfield 43, 3) := by decide +kernel
theorem dX9_hall_55 : decode (dc DX9_hall) 55 = .ok (.getfield 208, 3) := by decide +kernel
theorem dX9_hall_58 : decode (dc DX9_hall) 58 = .ok (.ireturn, 1) := by decide +kernel
theorem dX9_runTally_0 : decode (dc DX9_runTally) 0 = .ok (.aload_n 0, 1) := by decide +kernel
theorem dX9_runTally_1 : decode (dc DX9_runTally) 1 = .ok (.getfield 68, 3) := by decide +kernel
theorem dX9_runTally_4 : decode (dc DX9_runTally) 4 = .ok (.ifCond .ne 29, 3) := by decide +kernel
theorem dX9_runTally_7 : decode (dc DX9_runTally) 7 = .ok (.aload_n 0, 1) := by decide +kernel
theorem dX9_runTally_8 : decode (dc DX9_runTally) 8 = .ok (.invokevirtual 201, 3) := by decide +kernel
theorem dX9_runTally_11 : decode (dc DX9_runTally) 11 = .ok (.istore_n 1, 1) := by decide +kernel
theorem dX9_runTally_12 : decode (dc DX9_runTally) 12 = .ok (.aload_n 0, 1) := by decide +kernel
theorem dX9_runTally_13 : decode (dc DX9_runTally) 13 = .ok (.getfield 57, 3) := by decide +kernel
theorem dX9_runTally_16 : decode (dc DX9_runTally) 16 = .ok (.aload_n 0, 1) := by decide +kernel
theorem dX9_runTally_17 : decode (dc DX9_runTally) 17 = .ok (.getfield 12, 3) := by decide +kernel
theorem dX9_runTally_20 : decode (dc DX9_runTally) 20 = .ok (.aload_n 0, 1) := by decide +kernel
theorem dX9_runTally_21 : decode (dc DX9_runTally) 21 = .ok (.getfield 36, 3) := by decide +kernel
theorem dX9_runTally_24 : decode (dc DX9_runTally) 24 = .ok (.iload_n 1, 1) := by decide +kernel
theorem dX9_runTally_25 : decode (dc DX9_runTally) 25 = .ok (.invokevirtual 358, 3) := by decide +kernel
theorem dX9_runTally_28 : decode (dc DX9_runTally) 28 = .ok (.aload_n 0, 1) := by decide +kernel
theorem dX9_runTally_29 : decode (dc DX9_runTally) 29 = .ok (.iconst 1, 1) := by decide +kernel
theorem dX9_runTally_30 : decode (dc DX9_runTally) 30 = .ok (.putfield 68, 3) := by decide +kernel
theorem dX9_runTally_33 : decode (dc DX9_runTally) 33 = .ok (.return_, 1) := by decide +kernel
theorem dX9_many_0 : decode (dc DX9_many) 0 = .ok (.aload_n 0, 1) := by decide +kernel
theorem dX9_many_1 : decode (dc DX9_many) 1 = .ok (.invokevirtual 234, 3) := by decide +kernel
theorem dX9_many_4 : decode (dc DX9_many) 4 = .ok (.aload_n 0, 1) := by decide +kernel
theorem dX9_many_5 : decode (dc DX9_many) 5 = .ok (.getfield 57, 3) := by decide +kernel
theorem dX9_many_8 : decode (dc DX9_many) 8 = .ok (.getfield 237, 3) := by decide +kernel
theorem dX9_many_11 : decode (dc DX9_many) 11 = .ok (.lreturn, 1) := by decide +kernel
theorem dX9_cheap_0 : decode (dc DX9_cheap) 0 = .ok (.aload_n 0, 1) := by decide +kernel
theorem dX9_cheap_1 : decode (dc DX9_cheap) 1 = .ok (.iload_n 1, 1) := by decide +kernel
theorem dX9_cheap_2 : decode (dc DX9_cheap) 2 = .ok (.ifCond .eq 8, 3) := by decide +kernel
theorem dX9_cheap_5 : decode (dc DX9_cheap) 5 = .ok (.iload_n 1, 1) := by decide +kernel
theorem dX9_cheap_6 : decode (dc DX9_cheap) 6 = .ok (.iconst 1, 1) := by decide +kernel
theorem dX9_cheap_7 : decode (dc DX9_cheap) 7 = .ok (.if_icmp .ne 7, 3) := by decide +kernel
theorem dX9_cheap_10 : decode (dc DX9_cheap) 10 = .ok (.iconst 1, 1) := by decide +kernel
theorem dX9_cheap_11 : decode (dc DX9_cheap) 11 = .ok (.goto 4, 3) := by decide +kernel
theorem dX9_cheap_14 : decode (dc DX9_cheap) 14 = .ok (.iconst 0, 1) := by decide +kernel
theorem dX9_cheap_15 : decode (dc DX9_cheap) 15 = .ok (.invokevirtual 90, 3) := by decide +kernel
theorem dX9_cheap_18 : decode (dc DX9_cheap) 18 = .ok (.aload_n 0, 1) := by decide +kernel
theorem dX9_cheap_19 : decode (dc DX9_cheap) 19 = .ok (.invokevirtual 234, 3) := by decide +kernel
theorem dX9_cheap_22 : decode (dc DX9_cheap) 22 = .ok (.iload_n 1, 1) := by decide +kernel
theorem dX9_cheap_23 : decode (dc DX9_cheap) 23 = .ok (.ifCond .ne 13, 3) := by decide +kernel
theorem dX9_cheap_26 : decode (dc DX9_cheap) 26 = .ok (.aload_n 0, 1) := by decide +kernel
theorem dX9_cheap_27 : decode (dc DX9_cheap) 27 = .ok (.getfield 57, 3) := by decide +kernel
theorem dX9_cheap_30 : decode (dc DX9_cheap) 30 = .ok (.getfield 241, 3) := by decide +kernel
theorem dX9_cheap_33 : decode (dc DX9_cheap) 33 = .ok (.goto 17, 3) := by decide +kernel
theorem dX9_cheap_36 : decode (dc DX9_cheap) 36 = .ok (.ldc2_w 244, 3) := by decide +kernel
theorem dX9_cheap_39 : decode (dc DX9_cheap) 39 = .ok (.aload_n 0, 1) := by decide +kernel
theorem dX9_cheap_40 : decode (dc DX9_cheap) 40 = .ok (.getfield 57, 3) := by decide +kernel
theorem dX9_cheap_43 : decode (dc DX9_cheap) 43 = .ok (.getfield 246, 3) := by decide +kernel
theorem dX9_cheap_46 : decode (dc DX9_cheap) 46 = .ok (.invokestatic 249, 3) := by decide +kernel
theorem dX9_cheap_49 : decode (dc DX9_cheap) 49 = .ok (.l2i, 1) := by decide +kernel
theorem dX9_cheap_50 : decode (dc DX9_cheap) 50 = .ok (.ireturn, 1) := by decide +kernel
theorem dX9_wouldGrow_0 : decode (dc DX9_wouldGrow) 0 = .ok (.aload_n 0, 1) := by decide +kernel
theorem dX9_wouldGrow_1 : decode (dc DX9_wouldGrow) 1 = .ok (.getfield 12, 3) := by decide +kernel
theorem dX9_wouldGrow_4 : decode (dc DX9_wouldGrow) 4 = .ok (.iload_n 1, 1) := by decide +kernel
theorem dX9_wouldGrow_5 : decode (dc DX9_wouldGrow) 5 = .ok (.iload_n 2, 1) := by decide +kernel
theorem dX9_wouldGrow_6 : decode (dc DX9_wouldGrow) 6 = .ok (.invokevirtual 303, 3) := by decide +kernel
theorem dX9_wouldGrow_9 : decode (dc DX9_wouldGrow) 9 = .ok (.ifCond .ne 35, 3) := by decide +kernel
theorem dX9_wouldGrow_12 : decode (dc DX9_wouldGrow) 12 = .ok (.aload_n 0, 1) := by decide +kernel
theorem dX9_wouldGrow_13 : decode (dc DX9_wouldGrow) 13 = .ok (.getfield 43, 3) := by decide +kernel
theorem dX9_wouldGrow_16 : decode (dc DX9_wouldGrow) 16 = .ok (.getfield 208, 3) := by decide +kernel
theorem dX9_wouldGrow_19 : decode (dc DX9_wouldGrow) 19 = .ok (.iload_n 1, 1) := by decide +kernel
theorem dX9_wouldGrow_20 : decode (dc DX9_wouldGrow) 20 = .ok (.invokestatic 226, 3) := by decide +kernel
theorem dX9_wouldGrow_23 : decode (dc DX9_wouldGrow) 23 = .ok (.ifCond .eq 21, 3) := by decide +kernel
theorem dX9_wouldGrow_26 : decode (dc DX9_wouldGrow) 26 = .ok (.aload_n 0, 1) := by decide +kernel
theorem dX9_wouldGrow_27 : decode (dc DX9_wouldGrow) 27 = .ok (.getfield 43, 3) := by decide +kernel
theorem dX9_wouldGrow_30 : decode (dc DX9_wouldGrow) 30 = .ok (.getfield 364, 3) := by decide +kernel
theorem dX9_wouldGrow_33 : decode (dc DX9_wouldGrow) 33 = .ok (.iload_n 2, 1) := by decide +kernel
theorem dX9_wouldGrow_34 : decode (dc DX9_wouldGrow) 34 = .ok (.invokestatic 226, 3) := by decide +kernel
theorem dX9_wouldGrow_37 : decode (dc DX9_wouldGrow) 37 = .ok (.ifCond .eq 7, 3) := by decide +kernel
theorem dX9_wouldGrow_40 : decode (dc DX9_wouldGrow) 40 = .ok (.iconst 1, 1) := by decide +kernel
theorem dX9_wouldGrow_41 : decode (dc DX9_wouldGrow) 41 = .ok (.goto 4, 3) := by decide +kernel
theorem dX9_wouldGrow_44 : decode (dc DX9_wouldGrow) 44 = .ok (.iconst 0, 1) := by decide +kernel
theorem dX9_wouldGrow_45 : decode (dc DX9_wouldGrow) 45 = .ok (.ireturn, 1) := by decide +kernel
theorem dX9_more_0 : decode (dc DX9_more) 0 = .ok (.aload_n 0, 1) := by decide +kernel
theorem dX9_more_1 : decode (dc DX9_more) 1 = .ok (.iload_n 1, 1) := by decide +kernel
theorem dX9_more_2 : decode (dc DX9_more) 2 = .ok (.ifCond .eq 8, 3) := by decide +kernel
theorem dX9_more_5 : decode (dc DX9_more) 5 = .ok (.iload_n 1, 1) := by decide +kernel
theorem dX9_more_6 : decode (dc DX9_more) 6 = .ok (.iconst 1, 1) := by decide +kernel
theorem dX9_more_7 : decode (dc DX9_more) 7 = .ok (.if_icmp .ne 7, 3) := by decide +kernel
theorem dX9_more_10 : decode (dc DX9_more) 10 = .ok (.iconst 1, 1) := by decide +kernel
theorem dX9_more_11 : decode (dc DX9_more) 11 = .ok (.goto 4, 3) := by decide +kernel
theorem dX9_more_14 : decode (dc DX9_more) 14 = .ok (.iconst 0, 1) := by decide +kernel
theorem dX9_more_15 : decode (dc DX9_more) 15 = .ok (.invokevirtual 90, 3) := by decide +kernel
theorem dX9_more_18 : decode (dc DX9_more) 18 = .ok (.aload_n 0, 1) := by decide +kernel
theorem dX9_more_19 : decode (dc DX9_more) 19 = .ok (.invokevirtual 201, 3) := by decide +kernel
theorem dX9_more_22 : decode (dc DX9_more) 22 = .ok (.pop, 1) := by decide +kernel
theorem dX9_more_23 : decode (dc DX9_more) 23 = .ok (.aload_n 0, 1) := by decide +kernel
theorem dX9_more_24 : decode (dc DX9_more) 24 = .ok (.getfield 43, 3) := by decide +kernel
theorem dX9_more_27 : decode (dc DX9_more) 27 = .ok (.aload_n 0, 1) := by decide +kernel
theorem dX9_more_28 : decode (dc DX9_more) 28 = .ok (.getfield 36, 3) := by decide +kernel
theorem dX9_more_31 : decode (dc DX9_more) 31 = .ok (.invokevirtual 204, 3) := by decide +kernel
theorem dX9_more_34 : decode (dc DX9_more) 34 = .ok (.iconst 0, 1) := by decide +kernel
theorem dX9_more_35 : decode (dc DX9_more) 35 = .ok (.istore_n 2, 1) := by decide +kernel
theorem dX9_more_36 : decode (dc DX9_more) 36 = .ok (.iconst (-1), 1) := by decide +kernel
theorem dX9_more_37 : decode (dc DX9_more) 37 = .ok (.istore_n 3, 1) := by decide +kernel
theorem dX9_more_38 : decode (dc DX9_more) 38 = .ok (.iconst 0, 1) := by decide +kernel
theorem dX9_more_39 : decode (dc DX9_more) 39 = .ok (.istore 4, 2) := by decide +kernel
theorem dX9_more_41 : decode (dc DX9_more) 41 = .ok (.iload 4, 2) := by decide +kernel
theorem dX9_more_43 : decode (dc DX9_more) 43 = .ok (.aload_n 0, 1) := by decide +kernel
theorem dX9_more_44 : decode (dc DX9_more) 44 = .ok (.getfield 12, 3) := by decide +kernel
theorem dX9_more_47 : decode (dc DX9_more) 47 = .ok (.getfield 119, 3) := by decide +kernel
theorem dX9_more_50 : decode (dc DX9_more) 50 = .ok (.if_icmp .ge 62, 3) := by decide +kernel
theorem dX9_more_53 : decode (dc DX9_more) 53 = .ok (.iconst 0, 1) := by decide +kernel
theorem dX9_more_54 : decode (dc DX9_more) 54 = .ok (.istore 5, 2) := by decide +kernel
theorem dX9_more_56 : decode (dc DX9_more) 56 = .ok (.iload 5, 2) := by decide +kernel
theorem dX9_more_58 : decode (dc DX9_more) 58 = .ok (.aload_n 0, 1) := by decide +kernel
theorem dX9_more_59 : decode (dc DX9_more) 59 = .ok (.getfield 12, 3) := by decide +kernel
theorem dX9_more_62 : decode (dc DX9_more) 62 = .ok (.getfield 122, 3) := by decide +kernel
theorem dX9_more_65 : decode (dc DX9_more) 65 = .ok (.if_icmp .ge 41, 3) := by decide +kernel
theorem dX9_more_68 : decode (dc DX9_more) 68 = .ok (.aload_n 0, 1) := by decide +kernel
theorem dX9_more_69 : decode (dc DX9_more) 69 = .ok (.iload 4, 2) := by decide +kernel
theorem dX9_more_71 : decode (dc DX9_more) 71 = .ok (.iload 5, 2) := by decide +kernel
theorem dX9_more_73 : decode (dc DX9_more) 73 = .ok (.invokevirtual 263, 3) := by decide +kernel
theorem dX9_more_76 : decode (dc DX9_more) 76 = .ok (.ifCond .eq 24, 3) := by decide +kernel
theorem dX9_more_79 : decode (dc DX9_more) 79 = .ok (.iinc 2 1, 3) := by decide +kernel
theorem dX9_more_82 : decode (dc DX9_more) 82 = .ok (.iload_n 3, 1) := by decide +kernel
theorem dX9_more_83 : decode (dc DX9_more) 83 = .ok (.iconst (-1), 1) := by decide +kernel
theorem dX9_more_84 : decode (dc DX9_more) 84 = .ok (.if_icmp .ne 14, 3) := by decide +kernel
theorem dX9_more_87 : decode (dc DX9_more) 87 = .ok (.bipush 100, 2) := by decide +kernel
theorem dX9_more_89 : decode (dc DX9_more) 89 = .ok (.iload 4, 2) := by decide +kernel
theorem dX9_more_91 : decode (dc DX9_more) 91 = .ok (.imul, 1) := by decide +kernel
theorem dX9_more_92 : decode (dc DX9_more) 92 = .ok (.iload 5, 2) := by decide +kernel
theorem dX9_more_94 : decode (dc DX9_more) 94 = .ok (.iadd, 1) := by decide +kernel
theorem dX9_more_95 : decode (dc DX9_more) 95 = .ok (.goto 4, 3) := by decide +kernel
theorem dX9_more_98 : decode (dc DX9_more) 98 = .ok (.iload_n 3, 1) := by decide +kernel
theorem dX9_more_99 : decode (dc DX9_more) 99 = .ok (.istore_n 3, 1) := by decide +kernel
theorem dX9_more_100 : decode (dc DX9_more) 100 = .ok (.iinc 5 1, 3) := by decide +kernel
theorem dX9_more_103 : decode (dc DX9_more) 103 = .ok (.goto (-47), 3) := by decide +kernel
theorem dX9_more_106 : decode (dc DX9_more) 106 = .ok (.iinc 4 1, 3) := by decide +kernel
theorem dX9_more_109 : decode (dc DX9_more) 109 = .ok (.goto (-68), 3) := by decide +kernel
theorem dX9_more_112 : decode (dc DX9_more) 112 = .ok (.iload_n 1, 1) := by decide +kernel
theorem dX9_more_113 : decode (dc DX9_more) 113 = .ok (.ifCond .ne 7, 3) := by decide +kernel
theorem dX9_more_116 : decode (dc DX9_more) 116 = .ok (.iload_n 2, 1) := by decide +kernel
theorem dX9_more_117 : decode (dc DX9_more) 117 = .ok (.goto 4, 3) := by decide +kernel
theorem dX9_more_120 : decode (dc DX9_more) 120 = .ok (.iload_n 3, 1) := by decide +kernel
theorem dX9_more_121 : decode (dc DX9_more) 121 = .ok (.ireturn, 1) := by decide +kernel
theorem dX9_firstAlways_0 : decode (dc DX9_firstAlways) 0 = .ok (.aload_n 0, 1) := by decide +kernel
theorem dX9_firstAlways_1 : decode (dc DX9_firstAlways) 1 = .ok (.getfield 43, 3) := by decide +kernel
theorem dX9_firstAlways_4 : decode (dc DX9_firstAlways) 4 = .ok (.aload_n 0, 1) := by decide +kernel
theorem dX9_firstAlways_5 : decode (dc DX9_firstAlways) 5 = .ok (.getfield 36, 3) := by decide +kernel
theorem dX9_firstAlways_8 : decode (dc DX9_firstAlways) 8 = .ok (.invokevirtual 204, 3) := by decide +kernel
theorem dX9_firstAlways_11 : decode (dc DX9_firstAlways) 11 = .ok (.aload_n 0, 1) := by decide +kernel
theorem dX9_firstAlways_12 : decode (dc DX9_firstAlways) 12 = .ok (.getfield 43, 3) := by decide +kernel
theorem dX9_firstAlways_15 : decode (dc DX9_firstAlways) 15 = .ok (.aload_n 0, 1) := by decide +kernel
theorem dX9_firstAlways_16 : decode (dc DX9_firstAlways) 16 = .ok (.getfield 36, 3) := by decide +kernel
theorem dX9_firstAlways_19 : decode (dc DX9_firstAlways) 19 = .ok (.invokevirtual 220, 3) := by decide +kernel
theorem dX9_firstAlways_22 : decode (dc DX9_firstAlways) 22 = .ok (.iconst 0, 1) := by decide +kernel
theorem dX9_firstAlways_23 : decode (dc DX9_firstAlways) 23 = .ok (.istore_n 1, 1) := by decide +kernel
theorem dX9_firstAlways_24 : decode (dc DX9_firstAlways) 24 = .ok (.iload_n 1, 1) := by decide +kernel
theorem dX9_firstAlways_25 : decode (dc DX9_firstAlways) 25 = .ok (.aload_n 0, 1) := by decide +kernel
theorem dX9_firstAlways_26 : decode (dc DX9_firstAlways) 26 = .ok (.getfield 12, 3) := by decide +kernel
theorem dX9_firstAlways_29 : decode (dc DX9_firstAlways) 29 = .ok (.getfield 119, 3) := by decide +kernel
theorem dX9_firstAlways_32 : decode (dc DX9_firstAlways) 32 = .ok (.if_icmp .ge 50, 3) := by decide +kernel
theorem dX9_firstAlways_35 : decode (dc DX9_firstAlways) 35 = .ok (.aload_n 0, 1) := by decide +kernel
theorem dX9_firstAlways_36 : decode (dc DX9_firstAlways) 36 = .ok (.getfield 36, 3) := by decide +kernel
theorem dX9_firstAlways_39 : decode (dc DX9_firstAlways) 39 = .ok (.getfield 197, 3) := by decide +kernel
theorem dX9_firstAlways_42 : decode (dc DX9_firstAlways) 42 = .ok (.iload_n 1, 1) := by decide +kernel
theorem dX9_firstAlways_43 : decode (dc DX9_firstAlways) 43 = .ok (.invokevirtual 198, 3) := by decide +kernel
theorem dX9_firstAlways_46 : decode (dc DX9_firstAlways) 46 = .ok (.istore_n 2, 1) := by decide +kernel
theorem dX9_firstAlways_47 : decode (dc DX9_firstAlways) 47 = .ok (.iload_n 2, 1) := by decide +kernel
theorem dX9_firstAlways_48 : decode (dc DX9_firstAlways) 48 = .ok (.iconst (-1), 1) := by decide +kernel
theorem dX9_firstAlways_49 : decode (dc DX9_firstAlways) 49 = .ok (.if_icmp .eq 27, 3) := by decide +kernel
theorem dX9_firstAlways_52 : decode (dc DX9_firstAlways) 52 = .ok (.aload_n 0, 1) := by decide +kernel
theorem dX9_firstAlways_53 : decode (dc DX9_firstAlways) 53 = .ok (.getfield 43, 3) := by decide +kernel
theorem dX9_firstAlways_56 : decode (dc DX9_firstAlways) 56 = .ok (.aload_n 0, 1) := by decide +kernel
theorem dX9_firstAlways_57 : decode (dc DX9_firstAlways) 57 = .ok (.getfield 36, 3) := by decide +kernel
theorem dX9_firstAlways_60 : decode (dc DX9_firstAlways) 60 = .ok (.iload_n 1, 1) := by decide +kernel
theorem dX9_firstAlways_61 : decode (dc DX9_firstAlways) 61 = .ok (.iload_n 2, 1) := by decide +kernel
theorem dX9_firstAlways_62 : decode (dc DX9_firstAlways) 62 = .ok (.invokevirtual 370, 3) := by decide +kernel
theorem dX9_firstAlways_65 : decode (dc DX9_firstAlways) 65 = .ok (.iconst 3, 1) := by decide +kernel
theorem dX9_firstAlways_66 : decode (dc DX9_firstAlways) 66 = .ok (.if_icmp .ne 10, 3) := by decide +kernel
theorem dX9_firstAlways_69 : decode (dc DX9_firstAlways) 69 = .ok (.bipush 100, 2) := by decide +kernel
theorem dX9_firstAlways_71 : decode (dc DX9_firstAlways) 71 = .ok (.iload_n 1, 1) := by decide +kernel
theorem dX9_firstAlways_72 : decode (dc DX9_firstAlways) 72 = .ok (.imul, 1) := by decide +kernel
theorem dX9_firstAlways_73 : decode (dc DX9_firstAlways) 73 = .ok (.iload_n 2, 1) := by decide +kernel
theorem dX9_firstAlways_74 : decode (dc DX9_firstAlways) 74 = .ok (.iadd, 1) := by decide +kernel
theorem dX9_firstAlways_75 : decode (dc DX9_firstAlways) 75 = .ok (.ireturn, 1) := by decide +kernel
theorem dX9_firstAlways_76 : decode (dc DX9_firstAlways) 76 = .ok (.iinc 1 1, 3) := by decide +kernel
theorem dX9_firstAlways_79 : decode (dc DX9_firstAlways) 79 = .ok (.goto (-55), 3) := by decide +kernel
theorem dX9_firstAlways_82 : decode (dc DX9_firstAlways) 82 = .ok (.iconst (-1), 1) := by decide +kernel
theorem dX9_firstAlways_83 : decode (dc DX9_firstAlways) 83 = .ok (.ireturn, 1) := by decide +kernel
theorem dX9_firstOfTwo_0 : decode (dc DX9_firstOfTwo) 0 = .ok (.iconst 0, 1) := by decide +kernel
theorem dX9_firstOfTwo_1 : decode (dc DX9_firstOfTwo) 1 = .ok (.istore_n 1, 1) := by decide +kernel
theorem dX9_firstOfTwo_2 : decode (dc DX9_firstOfTwo) 2 = .ok (.iload_n 1, 1) := by decide +kernel
theorem dX9_firstOfTwo_3 : decode (dc DX9_firstOfTwo) 3 = .ok (.aload_n 0, 1) := by decide +kernel
theorem dX9_firstOfTwo_4 : decode (dc DX9_firstOfTwo) 4 = .ok (.getfield 12, 3) := by decide +kernel
theorem dX9_firstOfTwo_7 : decode (dc DX9_firstOfTwo) 7 = .ok (.getfield 119, 3) := by decide +kernel
theorem dX9_firstOfTwo_10 : decode (dc DX9_firstOfTwo) 10 = .ok (.if_icmp .ge 93, 3) := by decide +kernel
theorem dX9_firstOfTwo_13 : decode (dc DX9_firstOfTwo) 13 = .ok (.iconst 0, 1) := by decide +kernel
theorem dX9_firstOfTwo_14 : decode (dc DX9_firstOfTwo) 14 = .ok (.istore_n 2, 1) := by decide +kernel
theorem dX9_firstOfTwo_15 : decode (dc DX9_firstOfTwo) 15 = .ok (.iload_n 2, 1) := by decide +kernel
theorem dX9_firstOfTwo_16 : decode (dc DX9_firstOfTwo) 16 = .ok (.aload_n 0, 1) := by decide +kernel
theorem dX9_firstOfTwo_17 : decode (dc DX9_firstOfTwo) 17 = .ok (.getfield 12, 3) := by decide +kernel
theorem dX9_firstOfTwo_20 : decode (dc DX9_firstOfTwo) 20 = .ok (.getfield 122, 3) := by decide +kernel
theorem dX9_firstOfTwo_23 : decode (dc DX9_firstOfTwo) 23 = .ok (.if_icmp .ge 74, 3) := by decide +kernel
theorem dX9_firstOfTwo_26 : decode (dc DX9_firstOfTwo) 26 = .ok (.aload_n 0, 1) := by decide +kernel
theorem dX9_firstOfTwo_27 : decode (dc DX9_firstOfTwo) 27 = .ok (.getfield 36, 3) := by decide +kernel
theorem dX9_firstOfTwo_30 : decode (dc DX9_firstOfTwo) 30 = .ok (.iload_n 1, 1) := by decide +kernel
theorem dX9_firstOfTwo_31 : decode (dc DX9_firstOfTwo) 31 = .ok (.iload_n 2, 1) := by decide +kernel
theorem dX9_firstOfTwo_32 : decode (dc DX9_firstOfTwo) 32 = .ok (.invokevirtual 367, 3) := by decide +kernel
theorem dX9_firstOfTwo_35 : decode (dc DX9_firstOfTwo) 35 = .ok (.ifCond .eq 56, 3) := by decide +kernel
theorem dX9_firstOfTwo_38 : decode (dc DX9_firstOfTwo) 38 = .ok (.aload_n 0, 1) := by decide +kernel
theorem dX9_firstOfTwo_39 : decode (dc DX9_firstOfTwo) 39 = .ok (.getfield 36, 3) := by decide +kernel
theorem dX9_firstOfTwo_42 : decode (dc DX9_firstOfTwo) 42 = .ok (.iload_n 1, 1) := by decide +kernel
theorem dX9_firstOfTwo_43 : decode (dc DX9_firstOfTwo) 43 = .ok (.iload_n 2, 1) := by decide +kernel
theorem dX9_firstOfTwo_44 : decode (dc DX9_firstOfTwo) 44 = .ok (.invokevirtual 373, 3) := by decide +kernel
theorem dX9_firstOfTwo_47 : decode (dc DX9_firstOfTwo) 47 = .ok (.aload_n 0, 1) := by decide +kernel
theorem dX9_firstOfTwo_48 : decode (dc DX9_firstOfTwo) 48 = .ok (.getfield 36, 3) := by decide +kernel
theorem dX9_firstOfTwo_51 : decode (dc DX9_firstOfTwo) 51 = .ok (.bipush 12, 2) := by decide +kernel
theorem dX9_firstOfTwo_53 : decode (dc DX9_firstOfTwo) 53 = .ok (.invokevirtual 217, 3) := by decide +kernel
theorem dX9_firstOfTwo_56 : decode (dc DX9_firstOfTwo) 56 = .ok (.pop, 1) := by decide +kernel
theorem dX9_firstOfTwo_57 : decode (dc DX9_firstOfTwo) 57 = .ok (.aload_n 0, 1) := by decide +kernel
theorem dX9_firstOfTwo_58 : decode (dc DX9_firstOfTwo) 58 = .ok (.invokevirtual 266, 3) := by decide +kernel
theorem dX9_firstOfTwo_61 : decode (dc DX9_firstOfTwo) 61 = .ok (.iconst (-1), 1) := by decide +kernel
theorem dX9_firstOfTwo_62 : decode (dc DX9_firstOfTwo) 62 = .ok (.if_icmp .eq 7, 3) := by decide +kernel
theorem dX9_firstOfTwo_65 : decode (dc DX9_firstOfTwo) 65 = .ok (.iconst 1, 1) := by decide +kernel
theorem dX9_firstOfTwo_66 : decode (dc DX9_firstOfTwo) 66 = .ok (.goto 4, 3) := by decide +kernel
theorem dX9_firstOfTwo_69 : decode (dc DX9_firstOfTwo) 69 = .ok (.iconst 0, 1) := by decide +kernel
theorem dX9_firstOfTwo_70 : decode (dc DX9_firstOfTwo) 70 = .ok (.istore_n 3, 1) := by decide +kernel
theorem dX9_firstOfTwo_71 : decode (dc DX9_firstOfTwo) 71 = .ok (.aload_n 0, 1) := by decide +kernel
theorem dX9_firstOfTwo_72 : decode (dc DX9_firstOfTwo) 72 = .ok (.getfield 36, 3) := by decide +kernel
theorem dX9_firstOfTwo_75 : decode (dc DX9_firstOfTwo) 75 = .ok (.iload_n 1, 1) := by decide +kernel
theorem dX9_firstOfTwo_76 : decode (dc DX9_firstOfTwo) 76 = .ok (.iload_n 2, 1) := by decide +kernel
theorem dX9_firstOfTwo_77 : decode (dc DX9_firstOfTwo) 77 = .ok (.invokevirtual 376, 3) := by decide +kernel
theorem dX9_firstOfTwo_80 : decode (dc DX9_firstOfTwo) 80 = .ok (.iload_n 3, 1) := by decide +kernel
theorem dX9_firstOfTwo_81 : decode (dc DX9_firstOfTwo) 81 = .ok (.ifCond .eq 10, 3) := by decide +kernel
theorem dX9_firstOfTwo_84 : decode (dc DX9_firstOfTwo) 84 = .ok (.bipush 100, 2) := by decide +kernel
theorem dX9_firstOfTwo_86 : decode (dc DX9_firstOfTwo) 86 = .ok (.iload_n 1, 1) := by decide +kernel
theorem dX9_firstOfTwo_87 : decode (dc DX9_firstOfTwo) 87 = .ok (.imul, 1) := by decide +kernel
theorem dX9_firstOfTwo_88 : decode (dc DX9_firstOfTwo) 88 = .ok (.iload_n 2, 1) := by decide +kernel
theorem dX9_firstOfTwo_89 : decode (dc DX9_firstOfTwo) 89 = .ok (.iadd, 1) := by decide +kernel
theorem dX9_firstOfTwo_90 : decode (dc DX9_firstOfTwo) 90 = .ok (.ireturn, 1) := by decide +kernel
theorem dX9_firstOfTwo_91 : decode (dc DX9_firstOfTwo) 91 = .ok (.iinc 2 1, 3) := by decide +kernel
theorem dX9_firstOfTwo_94 : decode (dc DX9_firstOfTwo) 94 = .ok (.goto (-79), 3) := by decide +kernel
theorem dX9_firstOfTwo_97 : decode (dc DX9_firstOfTwo) 97 = .ok (.iinc 1 1, 3) := by decide +kernel
theorem dX9_firstOfTwo_100 : decode (dc DX9_firstOfTwo) 100 = .ok (.goto (-98), 3) := by decide +kernel
theorem dX9_firstOfTwo_103 : decode (dc DX9_firstOfTwo) 103 = .ok (.iconst (-1), 1) := by decide +kernel
theorem dX9_firstOfTwo_104 : decode (dc DX9_firstOfTwo) 104 = .ok (.ireturn, 1) := by decide +kernel
theorem dX9_fewest_0 : decode (dc DX9_fewest) 0 = .ok (.aload_n 0, 1) := by decide +kernel
theorem dX9_fewest_1 : decode (dc DX9_fewest) 1 = .ok (.iload_n 1, 1) := by decide +kernel
theorem dX9_fewest_2 : decode (dc DX9_fewest) 2 = .ok (.ifCond .eq 8, 3) := by decide +kernel
theorem dX9_fewest_5 : decode (dc DX9_fewest) 5 = .ok (.iload_n 1, 1) := by decide +kernel
theorem dX9_fewest_6 : decode (dc DX9_fewest) 6 = .ok (.iconst 1, 1) := by decide +kernel
theorem dX9_fewest_7 : decode (dc DX9_fewest) 7 = .ok (.if_icmp .ne 7, 3) := by decide +kernel
theorem dX9_fewest_10 : decode (dc DX9_fewest) 10 = .ok (.iconst 1, 1) := by decide +kernel
theorem dX9_fewest_11 : decode (dc DX9_fewest) 11 = .ok (.goto 4, 3) := by decide +kernel
theorem dX9_fewest_14 : decode (dc DX9_fewest) 14 = .ok (.iconst 0, 1) := by decide +kernel
theorem dX9_fewest_15 : decode (dc DX9_fewest) 15 = .ok (.invokevirtual 90, 3) := by decide +kernel
theorem dX9_fewest_18 : decode (dc DX9_fewest) 18 = .ok (.aload_n 0, 1) := by decide +kernel
theorem dX9_fewest_19 : decode (dc DX9_fewest) 19 = .ok (.invokevirtual 201, 3) := by decide +kernel
theorem dX9_fewest_22 : decode (dc DX9_fewest) 22 = .ok (.ifCond .ne 5, 3) := by decide +kernel
theorem dX9_fewest_25 : decode (dc DX9_fewest) 25 = .ok (.iconst (-1), 1) := by decide +kernel
theorem dX9_fewest_26 : decode (dc DX9_fewest) 26 = .ok (.ireturn, 1) := by decide +kernel
theorem dX9_fewest_27 : decode (dc DX9_fewest) 27 = .ok (.aload_n 0, 1) := by decide +kernel
theorem dX9_fewest_28 : decode (dc DX9_fewest) 28 = .ok (.invokevirtual 266, 3) := by decide +kernel
theorem dX9_fewest_31 : decode (dc DX9_fewest) 31 = .ok (.istore_n 2, 1) := by decide +kernel
theorem dX9_fewest_32 : decode (dc DX9_fewest) 32 = .ok (.iload_n 2, 1) := by decide +kernel
theorem dX9_fewest_33 : decode (dc DX9_fewest) 33 = .ok (.iconst (-1), 1) := by decide +kernel
theorem dX9_fewest_34 : decode (dc DX9_fewest) 34 = .ok (.if_icmp .eq 13, 3) := by decide +kernel
theorem dX9_fewest_37 : decode (dc DX9_fewest) 37 = .ok (.iload_n 1, 1) := by decide +kernel
theorem dX9_fewest_38 : decode (dc DX9_fewest) 38 = .ok (.ifCond .ne 7, 3) := by decide +kernel
theorem dX9_fewest_41 : decode (dc DX9_fewest) 41 = .ok (.iconst 1, 1) := by decide +kernel
theorem dX9_fewest_42 : decode (dc DX9_fewest) 42 = .ok (.goto 4, 3) := by decide +kernel
theorem dX9_fewest_45 : decode (dc DX9_fewest) 45 = .ok (.iload_n 2, 1) := by decide +kernel
theorem dX9_fewest_46 : decode (dc DX9_fewest) 46 = .ok (.ireturn, 1) := by decide +kernel
theorem dX9_fewest_47 : decode (dc DX9_fewest) 47 = .ok (.aload_n 0, 1) := by decide +kernel
theorem dX9_fewest_48 : decode (dc DX9_fewest) 48 = .ok (.invokevirtual 269, 3) := by decide +kernel
theorem dX9_fewest_51 : decode (dc DX9_fewest) 51 = .ok (.istore_n 3, 1) := by decide +kernel
theorem dX9_fewest_52 : decode (dc DX9_fewest) 52 = .ok (.iload_n 3, 1) := by decide +kernel
theorem dX9_fewest_53 : decode (dc DX9_fewest) 53 = .ok (.iconst (-1), 1) := by decide +kernel
theorem dX9_fewest_54 : decode (dc DX9_fewest) 54 = .ok (.if_icmp .eq 13, 3) := by decide +kernel
theorem dX9_fewest_57 : decode (dc DX9_fewest) 57 = .ok (.iload_n 1, 1) := by decide +kernel
theorem dX9_fewest_58 : decode (dc DX9_fewest) 58 = .ok (.ifCond .ne 7, 3) := by decide +kernel
theorem dX9_fewest_61 : decode (dc DX9_fewest) 61 = .ok (.iconst 2, 1) := by decide +kernel
theorem dX9_fewest_62 : decode (dc DX9_fewest) 62 = .ok (.goto 4, 3) := by decide +kernel
theorem dX9_fewest_65 : decode (dc DX9_fewest) 65 = .ok (.iload_n 3, 1) := by decide +kernel
theorem dX9_fewest_66 : decode (dc DX9_fewest) 66 = .ok (.ireturn, 1) := by decide +kernel
theorem dX9_fewest_67 : decode (dc DX9_fewest) 67 = .ok (.iconst (-1), 1) := by decide +kernel
theorem dX9_fewest_68 : decode (dc DX9_fewest) 68 = .ok (.ireturn, 1) := by decide +kernel
theorem dX9_chosen_0 : decode (dc DX9_chosen) 0 = .ok (.aload_n 0, 1) := by decide +kernel
theorem dX9_chosen_1 : decode (dc DX9_chosen) 1 = .ok (.iload_n 1, 1) := by decide +kernel
theorem dX9_chosen_2 : decode (dc DX9_chosen) 2 = .ok (.ifCond .eq 8, 3) := by decide +kernel
theorem dX9_chosen_5 : decode (dc DX9_chosen) 5 = .ok (.iload_n 1, 1) := by decide +kernel
theorem dX9_chosen_6 : decode (dc DX9_chosen) 6 = .ok (.iconst 1, 1) := by decide +kernel
theorem dX9_chosen_7 : decode (dc DX9_chosen) 7 = .ok (.if_icmp .ne 7, 3) := by decide +kernel
theorem dX9_chosen_10 : decode (dc DX9_chosen) 10 = .ok (.iconst 1, 1) := by decide +kernel
theorem dX9_chosen_11 : decode (dc DX9_chosen) 11 = .ok (.goto 4, 3) := by decide +kernel
theorem dX9_chosen_14 : decode (dc DX9_chosen) 14 = .ok (.iconst 0, 1) := by decide +kernel
theorem dX9_chosen_15 : decode (dc DX9_chosen) 15 = .ok (.invokevirtual 90, 3) := by decide +kernel
theorem dX9_chosen_18 : decode (dc DX9_chosen) 18 = .ok (.aload_n 0, 1) := by decide +kernel
theorem dX9_chosen_19 : decode (dc DX9_chosen) 19 = .ok (.getfield 36, 3) := by decide +kernel
theorem dX9_chosen_22 : decode (dc DX9_chosen) 22 = .ok (.aload_n 0, 1) := by decide +kernel
theorem dX9_chosen_23 : decode (dc DX9_chosen) 23 = .ok (.getfield 12, 3) := by decide +kernel
theorem dX9_chosen_26 : decode (dc DX9_chosen) 26 = .ok (.invokevirtual 170, 3) := by decide +kernel
theorem dX9_chosen_29 : decode (dc DX9_chosen) 29 = .ok (.aload_n 0, 1) := by decide +kernel
theorem dX9_chosen_30 : decode (dc DX9_chosen) 30 = .ok (.getfield 36, 3) := by decide +kernel
theorem dX9_chosen_33 : decode (dc DX9_chosen) 33 = .ok (.getfield 197, 3) := by decide +kernel
theorem dX9_chosen_36 : decode (dc DX9_chosen) 36 = .ok (.invokevirtual 272, 3) := by decide +kernel
theorem dX9_chosen_39 : decode (dc DX9_chosen) 39 = .ok (.aload_n 0, 1) := by decide +kernel
theorem dX9_chosen_40 : decode (dc DX9_chosen) 40 = .ok (.getfield 12, 3) := by decide +kernel
theorem dX9_chosen_43 : decode (dc DX9_chosen) 43 = .ok (.getfield 131, 3) := by decide +kernel
theorem dX9_chosen_46 : decode (dc DX9_chosen) 46 = .ok (.istore_n 2, 1) := by decide +kernel
theorem dX9_chosen_47 : decode (dc DX9_chosen) 47 = .ok (.iconst 0, 1) := by decide +kernel
theorem dX9_chosen_48 : decode (dc DX9_chosen) 48 = .ok (.istore_n 3, 1) := by decide +kernel
theorem dX9_chosen_49 : decode (dc DX9_chosen) 49 = .ok (.iconst 0, 1) := by decide +kernel
theorem dX9_chosen_50 : decode (dc DX9_chosen) 50 = .ok (.istore 4, 2) := by decide +kernel
theorem dX9_chosen_52 : decode (dc DX9_chosen) 52 = .ok (.iconst 0, 1) := by decide +kernel
theorem dX9_chosen_53 : decode (dc DX9_chosen) 53 = .ok (.istore 5, 2) := by decide +kernel
theorem dX9_chosen_55 : decode (dc DX9_chosen) 55 = .ok (.iload 5, 2) := by decide +kernel
theorem dX9_chosen_57 : decode (dc DX9_chosen) 57 = .ok (.bipush 12, 2) := by decide +kernel
theorem dX9_chosen_59 : decode (dc DX9_chosen) 59 = .ok (.if_icmp .ge 74, 3) := by decide +kernel
theorem dX9_chosen_62 : decode (dc DX9_chosen) 62 = .ok (.iload_n 2, 1) := by decide +kernel
theorem dX9_chosen_63 : decode (dc DX9_chosen) 63 = .ok (.ifCond .eq 70, 3) := by decide +kernel
theorem dX9_chosen_66 : decode (dc DX9_chosen) 66 = .ok (.aload_n 0, 1) := by decide +kernel
theorem dX9_chosen_67 : decode (dc DX9_chosen) 67 = .ok (.getfield 12, 3) := by decide +kernel
theorem dX9_chosen_70 : decode (dc DX9_chosen) 70 = .ok (.iload_n 2, 1) := by decide +kernel
theorem dX9_chosen_71 : decode (dc DX9_chosen) 71 = .ok (.invokevirtual 275, 3) := by decide +kernel
theorem dX9_chosen_74 : decode (dc DX9_chosen) 74 = .ok (.istore 6, 2) := by decide +kernel
theorem dX9_chosen_76 : decode (dc DX9_chosen) 76 = .ok (.iload_n 2, 1) := by decide +kernel
theorem dX9_chosen_77 : decode (dc DX9_chosen) 77 = .ok (.iload 6, 2) := by decide +kernel
theorem dX9_chosen_79 : decode (dc DX9_chosen) 79 = .ok (.invokestatic 278, 3) := by decide +kernel
theorem dX9_chosen_82 : decode (dc DX9_chosen) 82 = .ok (.iconst (-1), 1) := by decide +kernel
theorem dX9_chosen_83 : decode (dc DX9_chosen) 83 = .ok (.ixor, 1) := by decide +kernel
theorem dX9_chosen_84 : decode (dc DX9_chosen) 84 = .ok (.iand, 1) := by decide +kernel
theorem dX9_chosen_85 : decode (dc DX9_chosen) 85 = .ok (.istore_n 2, 1) := by decide +kernel
theorem dX9_chosen_86 : decode (dc DX9_chosen) 86 = .ok (.aload_n 0, 1) := by decide +kernel
theorem dX9_chosen_87 : decode (dc DX9_chosen) 87 = .ok (.getfield 36, 3) := by decide +kernel
theorem dX9_chosen_90 : decode (dc DX9_chosen) 90 = .ok (.iload 6, 2) := by decide +kernel
theorem dX9_chosen_92 : decode (dc DX9_chosen) 92 = .ok (.invokevirtual 179, 3) := by decide +kernel
theorem dX9_chosen_95 : decode (dc DX9_chosen) 95 = .ok (.ifCond .le 32, 3) := by decide +kernel
theorem dX9_chosen_98 : decode (dc DX9_chosen) 98 = .ok (.aload_n 0, 1) := by decide +kernel
theorem dX9_chosen_99 : decode (dc DX9_chosen) 99 = .ok (.getfield 36, 3) := by decide +kernel
theorem dX9_chosen_102 : decode (dc DX9_chosen) 102 = .ok (.invokevirtual 281, 3) := by decide +kernel
theorem dX9_chosen_105 : decode (dc DX9_chosen) 105 = .ok (.iload_n 3, 1) := by decide +kernel
theorem dX9_chosen_106 : decode (dc DX9_chosen) 106 = .ok (.iload 6, 2) := by decide +kernel
theorem dX9_chosen_108 : decode (dc DX9_chosen) 108 = .ok (.invokestatic 278, 3) := by decide +kernel
theorem dX9_chosen_111 : decode (dc DX9_chosen) 111 = .ok (.ior, 1) := by decide +kernel
theorem dX9_chosen_112 : decode (dc DX9_chosen) 112 = .ok (.istore_n 3, 1) := by decide +kernel
theorem dX9_chosen_113 : decode (dc DX9_chosen) 113 = .ok (.iload 4, 2) := by decide +kernel
theorem dX9_chosen_115 : decode (dc DX9_chosen) 115 = .ok (.aload_n 0, 1) := by decide +kernel
theorem dX9_chosen_116 : decode (dc DX9_chosen) 116 = .ok (.getfield 12, 3) := by decide +kernel
theorem dX9_chosen_119 : decode (dc DX9_chosen) 119 = .ok (.iload 6, 2) := by decide +kernel
theorem dX9_chosen_121 : decode (dc DX9_chosen) 121 = .ok (.invokevirtual 284, 3) := by decide +kernel
theorem dX9_chosen_124 : decode (dc DX9_chosen) 124 = .ok (.iadd, 1) := by decide +kernel
theorem dX9_chosen_125 : decode (dc DX9_chosen) 125 = .ok (.istore 4, 2) := by decide +kernel
theorem dX9_chosen_127 : decode (dc DX9_chosen) 127 = .ok (.iinc 5 1, 3) := by decide +kernel
theorem dX9_chosen_130 : decode (dc DX9_chosen) 130 = .ok (.goto (-75), 3) := by decide +kernel
theorem dX9_chosen_133 : decode (dc DX9_chosen) 133 = .ok (.iload_n 1, 1) := by decide +kernel
theorem dX9_chosen_134 : decode (dc DX9_chosen) 134 = .ok (.ifCond .ne 7, 3) := by decide +kernel
theorem dX9_chosen_137 : decode (dc DX9_chosen) 137 = .ok (.iload_n 3, 1) := by decide +kernel
theorem dX9_chosen_138 : decode (dc DX9_chosen) 138 = .ok (.goto 5, 3) := by decide +kernel
theorem dX9_chosen_141 : decode (dc DX9_chosen) 141 = .ok (.iload 4, 2) := by decide +kernel
theorem dX9_chosen_143 : decode (dc DX9_chosen) 143 = .ok (.ireturn, 1) := by decide +kernel
theorem dX9_rounds_0 : decode (dc DX9_rounds) 0 = .ok (.aload_n 0, 1) := by decide +kernel
theorem dX9_rounds_1 : decode (dc DX9_rounds) 1 = .ok (.getfield 64, 3) := by decide +kernel
theorem dX9_rounds_4 : decode (dc DX9_rounds) 4 = .ok (.aload_n 0, 1) := by decide +kernel
theorem dX9_rounds_5 : decode (dc DX9_rounds) 5 = .ok (.getfield 12, 3) := by decide +kernel
theorem dX9_rounds_8 : decode (dc DX9_rounds) 8 = .ok (.invokevirtual 287, 3) := by decide +kernel
theorem dX9_rounds_11 : decode (dc DX9_rounds) 11 = .ok (.aload_n 0, 1) := by decide +kernel
theorem dX9_rounds_12 : decode (dc DX9_rounds) 12 = .ok (.getfield 64, 3) := by decide +kernel
theorem dX9_rounds_15 : decode (dc DX9_rounds) 15 = .ok (.getfield 290, 3) := by decide +kernel
theorem dX9_rounds_18 : decode (dc DX9_rounds) 18 = .ok (.ireturn, 1) := by decide +kernel
theorem dX9_round_0 : decode (dc DX9_round) 0 = .ok (.aload_n 0, 1) := by decide +kernel
theorem dX9_round_1 : decode (dc DX9_round) 1 = .ok (.aload_n 0, 1) := by decide +kernel
theorem dX9_round_2 : decode (dc DX9_round) 2 = .ok (.getfield 12, 3) := by decide +kernel
theorem dX9_round_5 : decode (dc DX9_round) 5 = .ok (.iload_n 1, 1) := by decide +kernel
theorem dX9_round_6 : decode (dc DX9_round) 6 = .ok (.iload_n 2, 1) := by decide +kernel
theorem dX9_round_7 : decode (dc DX9_round) 7 = .ok (.invokevirtual 157, 3) := by decide +kernel
theorem dX9_round_10 : decode (dc DX9_round) 10 = .ok (.invokevirtual 150, 3) := by decide +kernel
theorem dX9_round_13 : decode (dc DX9_round) 13 = .ok (.aload_n 0, 1) := by decide +kernel
theorem dX9_round_14 : decode (dc DX9_round) 14 = .ok (.getfield 64, 3) := by decide +kernel
theorem dX9_round_17 : decode (dc DX9_round) 17 = .ok (.aload_n 0, 1) := by decide +kernel
theorem dX9_round_18 : decode (dc DX9_round) 18 = .ok (.getfield 12, 3) := by decide +kernel
theorem dX9_round_21 : decode (dc DX9_round) 21 = .ok (.invokevirtual 287, 3) := by decide +kernel
theorem dX9_round_24 : decode (dc DX9_round) 24 = .ok (.aload_n 0, 1) := by decide +kernel
theorem dX9_round_25 : decode (dc DX9_round) 25 = .ok (.getfield 64, 3) := by decide +kernel
theorem dX9_round_28 : decode (dc DX9_round) 28 = .ok (.iload_n 1, 1) := by decide +kernel
theorem dX9_round_29 : decode (dc DX9_round) 29 = .ok (.iload_n 2, 1) := by decide +kernel
theorem dX9_round_30 : decode (dc DX9_round) 30 = .ok (.invokevirtual 293, 3) := by decide +kernel
theorem dX9_round_33 : decode (dc DX9_round) 33 = .ok (.ireturn, 1) := by decide +kernel
theorem dX9_beginAct_0 : decode (dc DX9_beginAct) 0 = .ok (.aload_n 0, 1) := by decide +kernel
theorem dX9_beginAct_1 : decode (dc DX9_beginAct) 1 = .ok (.getfield 22, 3) := by decide +kernel
theorem dX9_beginAct_4 : decode (dc DX9_beginAct) 4 = .ok (.aload_n 0, 1) := by decide +kernel
theorem dX9_beginAct_5 : decode (dc DX9_beginAct) 5 = .ok (.getfield 12, 3) := by decide +kernel
theorem dX9_beginAct_8 : decode (dc DX9_beginAct) 8 = .ok (.invokevirtual 352, 3) := by decide +kernel
theorem dX9_beginAct_11 : decode (dc DX9_beginAct) 11 = .ok (.aload_n 0, 1) := by decide +kernel
theorem dX9_beginAct_12 : decode (dc DX9_beginAct) 12 = .ok (.iconst 0, 1) := by decide +kernel
theorem dX9_beginAct_13 : decode (dc DX9_beginAct) 13 = .ok (.putfield 68, 3) := by decide +kernel
theorem dX9_beginAct_16 : decode (dc DX9_beginAct) 16 = .ok (.return_, 1) := by decide +kernel
theorem dX9_add_0 : decode (dc DX9_add) 0 = .ok (.aload_n 0, 1) := by decide +kernel
theorem dX9_add_1 : decode (dc DX9_add) 1 = .ok (.aload_n 0, 1) := by decide +kernel
theorem dX9_add_2 : decode (dc DX9_add) 2 = .ok (.getfield 12, 3) := by decide +kernel
theorem dX9_add_5 : decode (dc DX9_add) 5 = .ok (.iload_n 1, 1) := by decide +kernel
theorem dX9_add_6 : decode (dc DX9_add) 6 = .ok (.iload_n 2, 1) := by decide +kernel
theorem dX9_add_7 : decode (dc DX9_add) 7 = .ok (.invokevirtual 157, 3) := by decide +kernel
theorem dX9_add_10 : decode (dc DX9_add) 10 = .ok (.invokevirtual 150, 3) := by decide +kernel
theorem dX9_add_13 : decode (dc DX9_add) 13 = .ok (.aload_n 0, 1) := by decide +kernel
theorem dX9_add_14 : decode (dc DX9_add) 14 = .ok (.iload_n 3, 1) := by decide +kernel
theorem dX9_add_15 : decode (dc DX9_add) 15 = .ok (.ifCond .lt 13, 3) := by decide +kernel
theorem dX9_add_18 : decode (dc DX9_add) 18 = .ok (.iload_n 3, 1) := by decide +kernel
theorem dX9_add_19 : decode (dc DX9_add) 19 = .ok (.bipush 99, 2) := by decide +kernel
theorem dX9_add_21 : decode (dc DX9_add) 21 = .ok (.if_icmp .gt 7, 3) := by decide +kernel
theorem dX9_add_24 : decode (dc DX9_add) 24 = .ok (.iconst 1, 1) := by decide +kernel
theorem dX9_add_25 : decode (dc DX9_add) 25 = .ok (.goto 4, 3) := by decide +kernel
theorem dX9_add_28 : decode (dc DX9_add) 28 = .ok (.iconst 0, 1) := by decide +kernel
theorem dX9_add_29 : decode (dc DX9_add) 29 = .ok (.invokevirtual 90, 3) := by decide +kernel
theorem dX9_add_32 : decode (dc DX9_add) 32 = .ok (.aload_n 0, 1) := by decide +kernel
theorem dX9_add_33 : decode (dc DX9_add) 33 = .ok (.invokevirtual 296, 3) := by decide +kernel
theorem dX9_add_36 : decode (dc DX9_add) 36 = .ok (.aload_n 0, 1) := by decide +kernel
theorem dX9_add_37 : decode (dc DX9_add) 37 = .ok (.getfield 12, 3) := by decide +kernel
theorem dX9_add_40 : decode (dc DX9_add) 40 = .ok (.iload_n 1, 1) := by decide +kernel
theorem dX9_add_41 : decode (dc DX9_add) 41 = .ok (.iload_n 2, 1) := by decide +kernel
theorem dX9_add_42 : decode (dc DX9_add) 42 = .ok (.invokevirtual 160, 3) := by decide +kernel
theorem dX9_add_45 : decode (dc DX9_add) 45 = .ok (.istore 4, 2) := by decide +kernel
theorem dX9_add_47 : decode (dc DX9_add) 47 = .ok (.aload_n 0, 1) := by decide +kernel
theorem dX9_add_48 : decode (dc DX9_add) 48 = .ok (.getfield 12, 3) := by decide +kernel
theorem dX9_add_51 : decode (dc DX9_add) 51 = .ok (.iload_n 1, 1) := by decide +kernel
theorem dX9_add_52 : decode (dc DX9_add) 52 = .ok (.iload_n 2, 1) := by decide +kernel
theorem dX9_add_53 : decode (dc DX9_add) 53 = .ok (.iload_n 3, 1) := by decide +kernel
theorem dX9_add_54 : decode (dc DX9_add) 54 = .ok (.invokevirtual 299, 3) := by decide +kernel
theorem dX9_add_57 : decode (dc DX9_add) 57 = .ok (.aload_n 0, 1) := by decide +kernel
theorem dX9_add_58 : decode (dc DX9_add) 58 = .ok (.invokevirtual 103, 3) := by decide +kernel
theorem dX9_add_61 : decode (dc DX9_add) 61 = .ok (.iload 4, 2) := by decide +kernel
theorem dX9_add_63 : decode (dc DX9_add) 63 = .ok (.ireturn, 1) := by decide +kernel
theorem dX9_drop_0 : decode (dc DX9_drop) 0 = .ok (.aload_n 0, 1) := by decide +kernel
theorem dX9_drop_1 : decode (dc DX9_drop) 1 = .ok (.aload_n 0, 1) := by decide +kernel
theorem dX9_drop_2 : decode (dc DX9_drop) 2 = .ok (.getfield 12, 3) := by decide +kernel
theorem dX9_drop_5 : decode (dc DX9_drop) 5 = .ok (.iload_n 1, 1) := by decide +kernel
theorem dX9_drop_6 : decode (dc DX9_drop) 6 = .ok (.iload_n 2, 1) := by decide +kernel
theorem dX9_drop_7 : decode (dc DX9_drop) 7 = .ok (.invokevirtual 157, 3) := by decide +kernel
theorem dX9_drop_10 : decode (dc DX9_drop) 10 = .ok (.invokevirtual 150, 3) := by decide +kernel
theorem dX9_drop_13 : decode (dc DX9_drop) 13 = .ok (.aload_n 0, 1) := by decide +kernel
theorem dX9_drop_14 : decode (dc DX9_drop) 14 = .ok (.aload_n 0, 1) := by decide +kernel
theorem dX9_drop_15 : decode (dc DX9_drop) 15 = .ok (.getfield 12, 3) := by decide +kernel
theorem dX9_drop_18 : decode (dc DX9_drop) 18 = .ok (.iload_n 1, 1) := by decide +kernel
theorem dX9_drop_19 : decode (dc DX9_drop) 19 = .ok (.iload_n 2, 1) := by decide +kernel
theorem dX9_drop_20 : decode (dc DX9_drop) 20 = .ok (.invokevirtual 303, 3) := by decide +kernel
theorem dX9_drop_23 : decode (dc DX9_drop) 23 = .ok (.invokevirtual 90, 3) := by decide +kernel
theorem dX9_drop_26 : decode (dc DX9_drop) 26 = .ok (.aload_n 0, 1) := by decide +kernel
theorem dX9_drop_27 : decode (dc DX9_drop) 27 = .ok (.invokevirtual 296, 3) := by decide +kernel
theorem dX9_drop_30 : decode (dc DX9_drop) 30 = .ok (.aload_n 0, 1) := by decide +kernel
theorem dX9_drop_31 : decode (dc DX9_drop) 31 = .ok (.getfield 12, 3) := by decide +kernel
theorem dX9_drop_34 : decode (dc DX9_drop) 34 = .ok (.iload_n 1, 1) := by decide +kernel
theorem dX9_drop_35 : decode (dc DX9_drop) 35 = .ok (.iload_n 2, 1) := by decide +kernel
theorem dX9_drop_36 : decode (dc DX9_drop) 36 = .ok (.invokevirtual 160, 3) := by decide +kernel
theorem dX9_drop_39 : decode (dc DX9_drop) 39 = .ok (.istore_n 3, 1) := by decide +kernel
theorem dX9_drop_40 : decode (dc DX9_drop) 40 = .ok (.aload_n 0, 1) := by decide +kernel
theorem dX9_drop_41 : decode (dc DX9_drop) 41 = .ok (.getfield 12, 3) := by decide +kernel
theorem dX9_drop_44 : decode (dc DX9_drop) 44 = .ok (.iload_n 1, 1) := by decide +kernel
theorem dX9_drop_45 : decode (dc DX9_drop) 45 = .ok (.iload_n 2, 1) := by decide +kernel
theorem dX9_drop_46 : decode (dc DX9_drop) 46 = .ok (.invokevirtual 306, 3) := by decide +kernel
theorem dX9_drop_49 : decode (dc DX9_drop) 49 = .ok (.aload_n 0, 1) := by decide +kernel
theorem dX9_drop_50 : decode (dc DX9_drop) 50 = .ok (.invokevirtual 103, 3) := by decide +kernel
theorem dX9_drop_53 : decode (dc DX9_drop) 53 = .ok (.iload_n 3, 1) := by decide +kernel
theorem dX9_drop_54 : decode (dc DX9_drop) 54 = .ok (.ireturn, 1) := by decide +kernel
theorem dX9_is_0 : decode (dc DX9_is) 0 = .ok (.aload_n 0, 1) := by decide +kernel
theorem dX9_is_1 : decode (dc DX9_is) 1 = .ok (.aload_n 0, 1) := by decide +kernel
theorem dX9_is_2 : decode (dc DX9_is) 2 = .ok (.getfield 12, 3) := by decide +kernel
theorem dX9_is_5 : decode (dc DX9_is) 5 = .ok (.iload_n 1, 1) := by decide +kernel
theorem dX9_is_6 : decode (dc DX9_is) 6 = .ok (.iload_n 2, 1) := by decide +kernel
theorem dX9_is_7 : decode (dc DX9_is) 7 = .ok (.invokevirtual 146, 3) := by decide +kernel
theorem dX9_is_10 : decode (dc DX9_is) 10 = .ok (.invokevirtual 150, 3) := by decide +kernel
theorem dX9_is_13 : decode (dc DX9_is) 13 = .ok (.aload_n 0, 1) := by decide +kernel
theorem dX9_is_14 : decode (dc DX9_is) 14 = .ok (.iload_n 3, 1) := by decide +kernel
theorem dX9_is_15 : decode (dc DX9_is) 15 = .ok (.ifCond .eq 8, 3) := by decide +kernel
theorem dX9_is_18 : decode (dc DX9_is) 18 = .ok (.iload_n 3, 1) := by decide +kernel
theorem dX9_is_19 : decode (dc DX9_is) 19 = .ok (.iconst 1, 1) := by decide +kernel
theorem dX9_is_20 : decode (dc DX9_is) 20 = .ok (.if_icmp .ne 7, 3) := by decide +kernel
theorem dX9_is_23 : decode (dc DX9_is) 23 = .ok (.iconst 1, 1) := by decide +kernel
theorem dX9_is_24 : decode (dc DX9_is) 24 = .ok (.goto 4, 3) := by decide +kernel
theorem dX9_is_27 : decode (dc DX9_is) 27 = .ok (.iconst 0, 1) := by decide +kernel
theorem dX9_is_28 : decode (dc DX9_is) 28 = .ok (.invokevirtual 90, 3) := by decide +kernel
theorem dX9_is_31 : decode (dc DX9_is) 31 = .ok (.aload_n 0, 1) := by decide +kernel
theorem dX9_is_32 : decode (dc DX9_is) 32 = .ok (.aload_n 0, 1) := by decide +kernel
theorem dX9_is_33 : decode (dc DX9_is) 33 = .ok (.getfield 12, 3) := by decide +kernel
theorem dX9_is_36 : decode (dc DX9_is) 36 = .ok (.iload_n 1, 1) := by decide +kernel
theorem dX9_is_37 : decode (dc DX9_is) 37 = .ok (.iload_n 2, 1) := by decide +kernel
theorem dX9_is_38 : decode (dc DX9_is) 38 = .ok (.invokevirtual 309, 3) := by decide +kernel
theorem dX9_is_41 : decode (dc DX9_is) 41 = .ok (.iload_n 3, 1) := by decide +kernel
theorem dX9_is_42 : decode (dc DX9_is) 42 = .ok (.iconst 1, 1) := by decide +kernel
theorem dX9_is_43 : decode (dc DX9_is) 43 = .ok (.if_icmp .ne 7, 3) := by decide +kernel
theorem dX9_is_46 : decode (dc DX9_is) 46 = .ok (.iconst 1, 1) := by decide +kernel
theorem dX9_is_47 : decode (dc DX9_is) 47 = .ok (.goto 4, 3) := by decide +kernel
theorem dX9_is_50 : decode (dc DX9_is) 50 = .ok (.iconst 0, 1) := by decide +kernel
theorem dX9_is_51 : decode (dc DX9_is) 51 = .ok (.if_icmp .eq 7, 3) := by decide +kernel
theorem dX9_is_54 : decode (dc DX9_is) 54 = .ok (.iconst 1, 1) := by decide +kernel
theorem dX9_is_55 : decode (dc DX9_is) 55 = .ok (.goto 4, 3) := by decide +kernel
theorem dX9_is_58 : decode (dc DX9_is) 58 = .ok (.iconst 0, 1) := by decide +kernel
theorem dX9_is_59 : decode (dc DX9_is) 59 = .ok (.invokevirtual 90, 3) := by decide +kernel
theorem dX9_is_62 : decode (dc DX9_is) 62 = .ok (.aload_n 0, 1) := by decide +kernel
theorem dX9_is_63 : decode (dc DX9_is) 63 = .ok (.invokevirtual 296, 3) := by decide +kernel
theorem dX9_is_66 : decode (dc DX9_is) 66 = .ok (.aload_n 0, 1) := by decide +kernel
theorem dX9_is_67 : decode (dc DX9_is) 67 = .ok (.getfield 12, 3) := by decide +kernel
theorem dX9_is_70 : decode (dc DX9_is) 70 = .ok (.iload_n 1, 1) := by decide +kernel
theorem dX9_is_71 : decode (dc DX9_is) 71 = .ok (.iload_n 2, 1) := by decide +kernel
theorem dX9_is_72 : decode (dc DX9_is) 72 = .ok (.invokevirtual 153, 3) := by decide +kernel
theorem dX9_is_75 : decode (dc DX9_is) 75 = .ok (.istore 4, 2) := by decide +kernel
theorem dX9_is_77 : decode (dc DX9_is) 77 = .ok (.aload_n 0, 1) := by decide +kernel
theorem dX9_is_78 : decode (dc DX9_is) 78 = .ok (.getfield 12, 3) := by decide +kernel
theorem dX9_is_81 : decode (dc DX9_is) 81 = .ok (.iload_n 1, 1) := by decide +kernel
theorem dX9_is_82 : decode (dc DX9_is) 82 = .ok (.iload_n 2, 1) := by decide +kernel
theorem dX9_is_83 : decode (dc DX9_is) 83 = .ok (.iload_n 3, 1) := by decide +kernel
theorem dX9_is_84 : decode (dc DX9_is) 84 = .ok (.iconst 1, 1) := by decide +kernel
theorem dX9_is_85 : decode (dc DX9_is) 85 = .ok (.if_icmp .ne 7, 3) := by decide +kernel
theorem dX9_is_88 : decode (dc DX9_is) 88 = .ok (.iconst 1, 1) := by decide +kernel
theorem dX9_is_89 : decode (dc DX9_is) 89 = .ok (.goto 4, 3) := by decide +kernel
theorem dX9_is_92 : decode (dc DX9_is) 92 = .ok (.iconst 0, 1) := by decide +kernel
theorem dX9_is_93 : decode (dc DX9_is) 93 = .ok (.invokevirtual 312, 3) := by decide +kernel
theorem dX9_is_96 : decode (dc DX9_is) 96 = .ok (.aload_n 0, 1) := by decide +kernel
theorem dX9_is_97 : decode (dc DX9_is) 97 = .ok (.invokevirtual 103, 3) := by decide +kernel
theorem dX9_is_100 : decode (dc DX9_is) 100 = .ok (.iload 4, 2) := by decide +kernel
theorem dX9_is_102 : decode (dc DX9_is) 102 = .ok (.ireturn, 1) := by decide +kernel
theorem dX9_pair_0 : decode (dc DX9_pair) 0 = .ok (.aload_n 0, 1) := by decide +kernel
theorem dX9_pair_1 : decode (dc DX9_pair) 1 = .ok (.aload_n 0, 1) := by decide +kernel
theorem dX9_pair_2 : decode (dc DX9_pair) 2 = .ok (.getfield 12, 3) := by decide +kernel
theorem dX9_pair_5 : decode (dc DX9_pair) 5 = .ok (.iload_n 1, 1) := by decide +kernel
theorem dX9_pair_6 : decode (dc DX9_pair) 6 = .ok (.iload_n 2, 1) := by decide +kernel
theorem dX9_pair_7 : decode (dc DX9_pair) 7 = .ok (.invokevirtual 157, 3) := by decide +kernel
theorem dX9_pair_10 : decode (dc DX9_pair) 10 = .ok (.invokevirtual 150, 3) := by decide +kernel
theorem dX9_pair_13 : decode (dc DX9_pair) 13 = .ok (.aload_n 0, 1) := by decide +kernel
theorem dX9_pair_14 : decode (dc DX9_pair) 14 = .ok (.aload_n 0, 1) := by decide +kernel
theorem dX9_pair_15 : decode (dc DX9_pair) 15 = .ok (.getfield 12, 3) := by decide +kernel
theorem dX9_pair_18 : decode (dc DX9_pair) 18 = .ok (.iload_n 1, 1) := by decide +kernel
theorem dX9_pair_19 : decode (dc DX9_pair) 19 = .ok (.iload_n 2, 1) := by decide +kernel
theorem dX9_pair_20 : decode (dc DX9_pair) 20 = .ok (.invokevirtual 303, 3) := by decide +kernel
theorem dX9_pair_23 : decode (dc DX9_pair) 23 = .ok (.ifCond .eq 31, 3) := by decide +kernel
theorem dX9_pair_26 : decode (dc DX9_pair) 26 = .ok (.aload_n 0, 1) := by decide +kernel
theorem dX9_pair_27 : decode (dc DX9_pair) 27 = .ok (.getfield 12, 3) := by decide +kernel
theorem dX9_pair_30 : decode (dc DX9_pair) 30 = .ok (.iconst 0, 1) := by decide +kernel
theorem dX9_pair_31 : decode (dc DX9_pair) 31 = .ok (.iload_n 1, 1) := by decide +kernel
theorem dX9_pair_32 : decode (dc DX9_pair) 32 = .ok (.invokevirtual 309, 3) := by decide +kernel
theorem dX9_pair_35 : decode (dc DX9_pair) 35 = .ok (.ifCond .eq 19, 3) := by decide +kernel
theorem dX9_pair_38 : decode (dc DX9_pair) 38 = .ok (.aload_n 0, 1) := by decide +kernel
theorem dX9_pair_39 : decode (dc DX9_pair) 39 = .ok (.getfield 12, 3) := by decide +kernel
theorem dX9_pair_42 : decode (dc DX9_pair) 42 = .ok (.iconst 1, 1) := by decide +kernel
theorem dX9_pair_43 : decode (dc DX9_pair) 43 = .ok (.iload_n 2, 1) := by decide +kernel
theorem dX9_pair_44 : decode (dc DX9_pair) 44 = .ok (.invokevirtual 309, 3) := by decide +kernel
theorem dX9_pair_47 : decode (dc DX9_pair) 47 = .ok (.ifCond .eq 7, 3) := by decide +kernel
theorem dX9_pair_50 : decode (dc DX9_pair) 50 = .ok (.iconst 1, 1) := by decide +kernel
theorem dX9_pair_51 : decode (dc DX9_pair) 51 = .ok (.goto 4, 3) := by decide +kernel
theorem dX9_pair_54 : decode (dc DX9_pair) 54 = .ok (.iconst 0, 1) := by decide +kernel
theorem dX9_pair_55 : decode (dc DX9_pair) 55 = .ok (.invokevirtual 90, 3) := by decide +kernel
theorem dX9_pair_58 : decode (dc DX9_pair) 58 = .ok (.aload_n 0, 1) := by decide +kernel
theorem dX9_pair_59 : decode (dc DX9_pair) 59 = .ok (.aload_n 0, 1) := by decide +kernel
theorem dX9_pair_60 : decode (dc DX9_pair) 60 = .ok (.getfield 12, 3) := by decide +kernel
theorem dX9_pair_63 : decode (dc DX9_pair) 63 = .ok (.getfield 106, 3) := by decide +kernel
theorem dX9_pair_66 : decode (dc DX9_pair) 66 = .ok (.iload_n 1, 1) := by decide +kernel
theorem dX9_pair_67 : decode (dc DX9_pair) 67 = .ok (.invokevirtual 198, 3) := by decide +kernel
theorem dX9_pair_70 : decode (dc DX9_pair) 70 = .ok (.iload_n 2, 1) := by decide +kernel
theorem dX9_pair_71 : decode (dc DX9_pair) 71 = .ok (.if_icmp .eq 7, 3) := by decide +kernel
theorem dX9_pair_74 : decode (dc DX9_pair) 74 = .ok (.iconst 1, 1) := by decide +kernel
theorem dX9_pair_75 : decode (dc DX9_pair) 75 = .ok (.goto 4, 3) := by decide +kernel
theorem dX9_pair_78 : decode (dc DX9_pair) 78 = .ok (.iconst 0, 1) := by decide +kernel
theorem dX9_pair_79 : decode (dc DX9_pair) 79 = .ok (.invokevirtual 90, 3) := by decide +kernel
theorem dX9_pair_82 : decode (dc DX9_pair) 82 = .ok (.aload_n 0, 1) := by decide +kernel
theorem dX9_pair_83 : decode (dc DX9_pair) 83 = .ok (.invokevirtual 296, 3) := by decide +kernel
theorem dX9_pair_86 : decode (dc DX9_pair) 86 = .ok (.aload_n 0, 1) := by decide +kernel
theorem dX9_pair_87 : decode (dc DX9_pair) 87 = .ok (.getfield 12, 3) := by decide +kernel
theorem dX9_pair_90 : decode (dc DX9_pair) 90 = .ok (.getfield 106, 3) := by decide +kernel
theorem dX9_pair_93 : decode (dc DX9_pair) 93 = .ok (.iload_n 1, 1) := by decide +kernel
theorem dX9_pair_94 : decode (dc DX9_pair) 94 = .ok (.iload_n 2, 1) := by decide +kernel
theorem dX9_pair_95 : decode (dc DX9_pair) 95 = .ok (.invokevirtual 316, 3) := by decide +kernel
theorem dX9_pair_98 : decode (dc DX9_pair) 98 = .ok (.aload_n 0, 1) := by decide +kernel
theorem dX9_pair_99 : decode (dc DX9_pair) 99 = .ok (.getfield 12, 3) := by decide +kernel
theorem dX9_pair_102 : decode (dc DX9_pair) 102 = .ok (.getfield 106, 3) := by decide +kernel
theorem dX9_pair_105 : decode (dc DX9_pair) 105 = .ok (.invokevirtual 110, 3) := by decide +kernel
theorem dX9_pair_108 : decode (dc DX9_pair) 108 = .ok (.istore_n 3, 1) := by decide +kernel
theorem dX9_pair_109 : decode (dc DX9_pair) 109 = .ok (.aload_n 0, 1) := by decide +kernel
theorem dX9_pair_110 : decode (dc DX9_pair) 110 = .ok (.invokevirtual 103, 3) := by decide +kernel
theorem dX9_pair_113 : decode (dc DX9_pair) 113 = .ok (.iload_n 3, 1) := by decide +kernel
theorem dX9_pair_114 : decode (dc DX9_pair) 114 = .ok (.ireturn, 1) := by decide +kernel
theorem dX9_part_0 : decode (dc DX9_part) 0 = .ok (.aload_n 0, 1) := by decide +kernel
theorem dX9_part_1 : decode (dc DX9_part) 1 = .ok (.aload_n 0, 1) := by decide +kernel
theorem dX9_part_2 : decode (dc DX9_part) 2 = .ok (.getfield 12, 3) := by decide +kernel
theorem dX9_part_5 : decode (dc DX9_part) 5 = .ok (.iconst 0, 1) := by decide +kernel
theorem dX9_part_6 : decode (dc DX9_part) 6 = .ok (.iload_n 1, 1) := by decide +kernel
theorem dX9_part_7 : decode (dc DX9_part) 7 = .ok (.invokevirtual 146, 3) := by decide +kernel
theorem dX9_part_10 : decode (dc DX9_part) 10 = .ok (.invokevirtual 150, 3) := by decide +kernel
theorem dX9_part_13 : decode (dc DX9_part) 13 = .ok (.aload_n 0, 1) := by decide +kernel
theorem dX9_part_14 : decode (dc DX9_part) 14 = .ok (.getfield 12, 3) := by decide +kernel
theorem dX9_part_17 : decode (dc DX9_part) 17 = .ok (.getfield 106, 3) := by decide +kernel
theorem dX9_part_20 : decode (dc DX9_part) 20 = .ok (.iload_n 1, 1) := by decide +kernel
theorem dX9_part_21 : decode (dc DX9_part) 21 = .ok (.invokevirtual 198, 3) := by decide +kernel
theorem dX9_part_24 : decode (dc DX9_part) 24 = .ok (.istore_n 2, 1) := by decide +kernel
theorem dX9_part_25 : decode (dc DX9_part) 25 = .ok (.aload_n 0, 1) := by decide +kernel
theorem dX9_part_26 : decode (dc DX9_part) 26 = .ok (.iload_n 2, 1) := by decide +kernel
theorem dX9_part_27 : decode (dc DX9_part) 27 = .ok (.iconst (-1), 1) := by decide +kernel
theorem dX9_part_28 : decode (dc DX9_part) 28 = .ok (.if_icmp .eq 7, 3) := by decide +kernel
theorem dX9_part_31 : decode (dc DX9_part) 31 = .ok (.iconst 1, 1) := by decide +kernel
theorem dX9_part_32 : decode (dc DX9_part) 32 = .ok (.goto 4, 3) := by decide +kernel
theorem dX9_part_35 : decode (dc DX9_part) 35 = .ok (.iconst 0, 1) := by decide +kernel
theorem dX9_part_36 : decode (dc DX9_part) 36 = .ok (.invokevirtual 90, 3) := by decide +kernel
theorem dX9_part_39 : decode (dc DX9_part) 39 = .ok (.aload_n 0, 1) := by decide +kernel
theorem dX9_part_40 : decode (dc DX9_part) 40 = .ok (.invokevirtual 296, 3) := by decide +kernel
theorem dX9_part_43 : decode (dc DX9_part) 43 = .ok (.aload_n 0, 1) := by decide +kernel
theorem dX9_part_44 : decode (dc DX9_part) 44 = .ok (.getfield 12, 3) := by decide +kernel
theorem dX9_part_47 : decode (dc DX9_part) 47 = .ok (.getfield 106, 3) := by decide +kernel
theorem dX9_part_50 : decode (dc DX9_part) 50 = .ok (.iload_n 1, 1) := by decide +kernel
theorem dX9_part_51 : decode (dc DX9_part) 51 = .ok (.invokevirtual 319, 3) := by decide +kernel
theorem dX9_part_54 : decode (dc DX9_part) 54 = .ok (.aload_n 0, 1) := by decide +kernel
theorem dX9_part_55 : decode (dc DX9_part) 55 = .ok (.invokevirtual 103, 3) := by decide +kernel
theorem dX9_part_58 : decode (dc DX9_part) 58 = .ok (.iload_n 2, 1) := by decide +kernel
theorem dX9_part_59 : decode (dc DX9_part) 59 = .ok (.ireturn, 1) := by decide +kernel
theorem dX9_weight_0 : decode (dc DX9_weight) 0 = .ok (.aload_n 0, 1) := by decide +kernel
theorem dX9_weight_1 : decode (dc DX9_weight) 1 = .ok (.aload_n 0, 1) := by decide +kernel
theorem dX9_weight_2 : decode (dc DX9_weight) 2 = .ok (.getfield 12, 3) := by decide +kernel
theorem dX9_weight_5 : decode (dc DX9_weight) 5 = .ok (.iconst 0, 1) := by decide +kernel
theorem dX9_weight_6 : decode (dc DX9_weight) 6 = .ok (.iload_n 1, 1) := by decide +kernel
theorem dX9_weight_7 : decode (dc DX9_weight) 7 = .ok (.invokevirtual 146, 3) := by decide +kernel
theorem dX9_weight_10 : decode (dc DX9_weight) 10 = .ok (.invokevirtual 150, 3) := by decide +kernel
theorem dX9_weight_13 : decode (dc DX9_weight) 13 = .ok (.aload_n 0, 1) := by decide +kernel
theorem dX9_weight_14 : decode (dc DX9_weight) 14 = .ok (.iload_n 2, 1) := by decide +kernel
theorem dX9_weight_15 : decode (dc DX9_weight) 15 = .ok (.ifCond .lt 13, 3) := by decide +kernel
theorem dX9_weight_18 : decode (dc DX9_weight) 18 = .ok (.iload_n 2, 1) := by decide +kernel
theorem dX9_weight_19 : decode (dc DX9_weight) 19 = .ok (.bipush 99, 2) := by decide +kernel
theorem dX9_weight_21 : decode (dc DX9_weight) 21 = .ok (.if_icmp .gt 7, 3) := by decide +kernel
theorem dX9_weight_24 : decode (dc DX9_weight) 24 = .ok (.iconst 1, 1) := by decide +kernel
theorem dX9_weight_25 : decode (dc DX9_weight) 25 = .ok (.goto 4, 3) := by decide +kernel
theorem dX9_weight_28 : decode (dc DX9_weight) 28 = .ok (.iconst 0, 1) := by decide +kernel
theorem dX9_weight_29 : decode (dc DX9_weight) 29 = .ok (.invokevirtual 90, 3) := by decide +kernel
theorem dX9_weight_32 : decode (dc DX9_weight) 32 = .ok (.aload_n 0, 1) := by decide +kernel
theorem dX9_weight_33 : decode (dc DX9_weight) 33 = .ok (.invokevirtual 296, 3) := by decide +kernel
theorem dX9_weight_36 : decode (dc DX9_weight) 36 = .ok (.aload_n 0, 1) := by decide +kernel
theorem dX9_weight_37 : decode (dc DX9_weight) 37 = .ok (.getfield 12, 3) := by decide +kernel
theorem dX9_weight_40 : decode (dc DX9_weight) 40 = .ok (.iload_n 1, 1) := by decide +kernel
theorem dX9_weight_41 : decode (dc DX9_weight) 41 = .ok (.invokevirtual 284, 3) := by decide +kernel
theorem dX9_weight_44 : decode (dc DX9_weight) 44 = .ok (.istore_n 3, 1) := by decide +kernel
theorem dX9_weight_45 : decode (dc DX9_weight) 45 = .ok (.aload_n 0, 1) := by decide +kernel
theorem dX9_weight_46 : decode (dc DX9_weight) 46 = .ok (.getfield 12, 3) := by decide +kernel
theorem dX9_weight_49 : decode (dc DX9_weight) 49 = .ok (.iload_n 1, 1) := by decide +kernel
theorem dX9_weight_50 : decode (dc DX9_weight) 50 = .ok (.iload_n 2, 1) := by decide +kernel
theorem dX9_weight_51 : decode (dc DX9_weight) 51 = .ok (.invokevirtual 322, 3) := by decide +kernel
theorem dX9_weight_54 : decode (dc DX9_weight) 54 = .ok (.aload_n 0, 1) := by decide +kernel
theorem dX9_weight_55 : decode (dc DX9_weight) 55 = .ok (.invokevirtual 103, 3) := by decide +kernel
theorem dX9_weight_58 : decode (dc DX9_weight) 58 = .ok (.iload_n 3, 1) := by decide +kernel
theorem dX9_weight_59 : decode (dc DX9_weight) 59 = .ok (.ireturn, 1) := by decide +kernel
theorem dX9_trade_0 : decode (dc DX9_trade) 0 = .ok (.iconst 0, 1) := by decide +kernel
theorem dX9_trade_1 : decode (dc DX9_trade) 1 = .ok (.istore_n 1, 1) := by decide +kernel
theorem dX9_trade_2 : decode (dc DX9_trade) 2 = .ok (.iconst (-1), 1) := by decide +kernel
theorem dX9_trade_3 : decode (dc DX9_trade) 3 = .ok (.istore_n 2, 1) := by decide +kernel
theorem dX9_trade_4 : decode (dc DX9_trade) 4 = .ok (.iconst (-1), 1) := by decide +kernel
theorem dX9_trade_5 : decode (dc DX9_trade) 5 = .ok (.istore_n 3, 1) := by decide +kernel
theorem dX9_trade_6 : decode (dc DX9_trade) 6 = .ok (.iconst 0, 1) := by decide +kernel
theorem dX9_trade_7 : decode (dc DX9_trade) 7 = .ok (.istore 4, 2) := by decide +kernel
theorem dX9_trade_9 : decode (dc DX9_trade) 9 = .ok (.iload 4, 2) := by decide +kernel
theorem dX9_trade_11 : decode (dc DX9_trade) 11 = .ok (.aload_n 0, 1) := by decide +kernel
theorem dX9_trade_12 : decode (dc DX9_trade) 12 = .ok (.getfield 12, 3) := by decide +kernel
theorem dX9_trade_15 : decode (dc DX9_trade) 15 = .ok (.getfield 119, 3) := by decide +kernel
theorem dX9_trade_18 : decode (dc DX9_trade) 18 = .ok (.if_icmp .ge 61, 3) := by decide +kernel
theorem dX9_trade_21 : decode (dc DX9_trade) 21 = .ok (.iload 4, 2) := by decide +kernel
theorem dX9_trade_23 : decode (dc DX9_trade) 23 = .ok (.iconst 1, 1) := by decide +kernel
theorem dX9_trade_24 : decode (dc DX9_trade) 24 = .ok (.iadd, 1) := by decide +kernel
theorem dX9_trade_25 : decode (dc DX9_trade) 25 = .ok (.istore 5, 2) := by decide +kernel
theorem dX9_trade_27 : decode (dc DX9_trade) 27 = .ok (.iload 5, 2) := by decide +kernel
theorem dX9_trade_29 : decode (dc DX9_trade) 29 = .ok (.aload_n 0, 1) := by decide +kernel
theorem dX9_trade_30 : decode (dc DX9_trade) 30 = .ok (.getfield 12, 3) := by decide +kernel
theorem dX9_trade_33 : decode (dc DX9_trade) 33 = .ok (.getfield 119, 3) := by decide +kernel
theorem dX9_trade_36 : decode (dc DX9_trade) 36 = .ok (.if_icmp .ge 37, 3) := by decide +kernel
theorem dX9_trade_39 : decode (dc DX9_trade) 39 = .ok (.aload_n 0, 1) := by decide +kernel
theorem dX9_trade_40 : decode (dc DX9_trade) 40 = .ok (.getfield 12, 3) := by decide +kernel
theorem dX9_trade_43 : decode (dc DX9_trade) 43 = .ok (.iload 4, 2) := by decide +kernel
theorem dX9_trade_45 : decode (dc DX9_trade) 45 = .ok (.iload 5, 2) := by decide +kernel
theorem dX9_trade_47 : decode (dc DX9_trade) 47 = .ok (.invokevirtual 325, 3) := by decide +kernel
theorem dX9_trade_50 : decode (dc DX9_trade) 50 = .ok (.istore 6, 2) := by decide +kernel
theorem dX9_trade_52 : decode (dc DX9_trade) 52 = .ok (.iload 6, 2) := by decide +kernel
theorem dX9_trade_54 : decode (dc DX9_trade) 54 = .ok (.iload_n 1, 1) := by decide +kernel
theorem dX9_trade_55 : decode (dc DX9_trade) 55 = .ok (.if_icmp .le 12, 3) := by decide +kernel
theorem dX9_trade_58 : decode (dc DX9_trade) 58 = .ok (.iload 6, 2) := by decide +kernel
theorem dX9_trade_60 : decode (dc DX9_trade) 60 = .ok (.istore_n 1, 1) := by decide +kernel
theorem dX9_trade_61 : decode (dc DX9_trade) 61 = .ok (.iload 4, 2) := by decide +kernel
theorem dX9_trade_63 : decode (dc DX9_trade) 63 = .ok (.istore_n 2, 1) := by decide +kernel
theorem dX9_trade_64 : decode (dc DX9_trade) 64 = .ok (.iload 5, 2) := by decide +kernel
theorem dX9_trade_66 : decode (dc DX9_trade) 66 = .ok (.istore_n 3, 1) := by decide +kernel
theorem dX9_trade_67 : decode (dc DX9_trade) 67 = .ok (.iinc 5 1, 3) := by decide +kernel
theorem dX9_trade_70 : decode (dc DX9_trade) 70 = .ok (.goto (-43), 3) := by decide +kernel
theorem dX9_trade_73 : decode (dc DX9_trade) 73 = .ok (.iinc 4 1, 3) := by decide +kernel
theorem dX9_trade_76 : decode (dc DX9_trade) 76 = .ok (.goto (-67), 3) := by decide +kernel
theorem dX9_trade_79 : decode (dc DX9_trade) 79 = .ok (.iload_n 1, 1) := by decide +kernel
theorem dX9_trade_80 : decode (dc DX9_trade) 80 = .ok (.ifCond .le 19, 3) := by decide +kernel
theorem dX9_trade_83 : decode (dc DX9_trade) 83 = .ok (.aload_n 0, 1) := by decide +kernel
theorem dX9_trade_84 : decode (dc DX9_trade) 84 = .ok (.invokevirtual 296, 3) := by decide +kernel
theorem dX9_trade_87 : decode (dc DX9_trade) 87 = .ok (.aload_n 0, 1) := by decide +kernel
theorem dX9_trade_88 : decode (dc DX9_trade) 88 = .ok (.getfield 12, 3) := by decide +kernel
theorem dX9_trade_91 : decode (dc DX9_trade) 91 = .ok (.getfield 106, 3) := by decide +kernel
theorem dX9_trade_94 : decode (dc DX9_trade) 94 = .ok (.iload_n 2, 1) := by decide +kernel
theorem dX9_trade_95 : decode (dc DX9_trade) 95 = .ok (.iload_n 3, 1) := by decide +kernel
theorem dX9_trade_96 : decode (dc DX9_trade) 96 = .ok (.invokevirtual 328, 3) := by decide +kernel
theorem dX9_trade_99 : decode (dc DX9_trade) 99 = .ok (.iload_n 1, 1) := by decide +kernel
theorem dX9_trade_100 : decode (dc DX9_trade) 100 = .ok (.ireturn, 1) := by decide +kernel
theorem dX9_keep_0 : decode (dc DX9_keep) 0 = .ok (.aload_n 0, 1) := by decide +kernel
theorem dX9_keep_1 : decode (dc DX9_keep) 1 = .ok (.iload_n 1, 1) := by decide +kernel
theorem dX9_keep_2 : decode (dc DX9_keep) 2 = .ok (.ifCond .eq 8, 3) := by decide +kernel
theorem dX9_keep_5 : decode (dc DX9_keep) 5 = .ok (.iload_n 1, 1) := by decide +kernel
theorem dX9_keep_6 : decode (dc DX9_keep) 6 = .ok (.iconst 1, 1) := by decide +kernel
theorem dX9_keep_7 : decode (dc DX9_keep) 7 = .ok (.if_icmp .ne 7, 3) := by decide +kernel
theorem dX9_keep_10 : decode (dc DX9_keep) 10 = .ok (.iconst 1, 1) := by decide +kernel
theorem dX9_keep_11 : decode (dc DX9_keep) 11 = .ok (.goto 4, 3) := by decide +kernel
theorem dX9_keep_14 : decode (dc DX9_keep) 14 = .ok (.iconst 0, 1) := by decide +kernel
theorem dX9_keep_15 : decode (dc DX9_keep) 15 = .ok (.invokevirtual 90, 3) := by decide +kernel
theorem dX9_keep_18 : decode (dc DX9_keep) 18 = .ok (.aload_n 0, 1) := by decide +kernel
theorem dX9_keep_19 : decode (dc DX9_keep) 19 = .ok (.invokevirtual 296, 3) := by decide +kernel
theorem dX9_keep_22 : decode (dc DX9_keep) 22 = .ok (.aload_n 0, 1) := by decide +kernel
theorem dX9_keep_23 : decode (dc DX9_keep) 23 = .ok (.getfield 12, 3) := by decide +kernel
theorem dX9_keep_26 : decode (dc DX9_keep) 26 = .ok (.getfield 128, 3) := by decide +kernel
theorem dX9_keep_29 : decode (dc DX9_keep) 29 = .ok (.istore_n 2, 1) := by decide +kernel
theorem dX9_keep_30 : decode (dc DX9_keep) 30 = .ok (.aload_n 0, 1) := by decide +kernel
theorem dX9_keep_31 : decode (dc DX9_keep) 31 = .ok (.getfield 12, 3) := by decide +kernel
theorem dX9_keep_34 : decode (dc DX9_keep) 34 = .ok (.iload_n 1, 1) := by decide +kernel
theorem dX9_keep_35 : decode (dc DX9_keep) 35 = .ok (.putfield 128, 3) := by decide +kernel
theorem dX9_keep_38 : decode (dc DX9_keep) 38 = .ok (.aload_n 0, 1) := by decide +kernel
theorem dX9_keep_39 : decode (dc DX9_keep) 39 = .ok (.invokevirtual 103, 3) := by decide +kernel
theorem dX9_keep_42 : decode (dc DX9_keep) 42 = .ok (.iload_n 2, 1) := by decide +kernel
theorem dX9_keep_43 : decode (dc DX9_keep) 43 = .ok (.ireturn, 1) := by decide +kernel
theorem dX9_settle_0 : decode (dc DX9_settle) 0 = .ok (.aload_n 0, 1) := by decide +kernel
theorem dX9_settle_1 : decode (dc DX9_settle) 1 = .ok (.iload_n 1, 1) := by decide +kernel
theorem dX9_settle_2 : decode (dc DX9_settle) 2 = .ok (.iconst 1, 1) := by decide +kernel
theorem dX9_settle_3 : decode (dc DX9_settle) 3 = .ok (.if_icmp .lt 13, 3) := by decide +kernel
theorem dX9_settle_6 : decode (dc DX9_settle) 6 = .ok (.iload_n 1, 1) := by decide +kernel
theorem dX9_settle_7 : decode (dc DX9_settle) 7 = .ok (.bipush 12, 2) := by decide +kernel
theorem dX9_settle_9 : decode (dc DX9_settle) 9 = .ok (.if_icmp .gt 7, 3) := by decide +kernel
theorem dX9_settle_12 : decode (dc DX9_settle) 12 = .ok (.iconst 1, 1) := by decide +kernel
theorem dX9_settle_13 : decode (dc DX9_settle) 13 = .ok (.goto 4, 3) := by decide +kernel
theorem dX9_settle_16 : decode (dc DX9_settle) 16 = .ok (.iconst 0, 1) := by decide +kernel
theorem dX9_settle_17 : decode (dc DX9_settle) 17 = .ok (.invokevirtual 90, 3) := by decide +kernel
theorem dX9_settle_20 : decode (dc DX9_settle) 20 = .ok (.aload_n 0, 1) := by decide +kernel
theorem dX9_settle_21 : decode (dc DX9_settle) 21 = .ok (.getfield 36, 3) := by decide +kernel
theorem dX9_settle_24 : decode (dc DX9_settle) 24 = .ok (.aload_n 0, 1) := by decide +kernel
theorem dX9_settle_25 : decode (dc DX9_settle) 25 = .ok (.getfield 12, 3) := by decide +kernel
theorem dX9_settle_28 : decode (dc DX9_settle) 28 = .ok (.invokevirtual 170, 3) := by decide +kernel
theorem dX9_settle_31 : decode (dc DX9_settle) 31 = .ok (.aload_n 0, 1) := by decide +kernel
theorem dX9_settle_32 : decode (dc DX9_settle) 32 = .ok (.getfield 36, 3) := by decide +kernel
theorem dX9_settle_35 : decode (dc DX9_settle) 35 = .ok (.iload_n 1, 1) := by decide +kernel
theorem dX9_settle_36 : decode (dc DX9_settle) 36 = .ok (.invokevirtual 217, 3) := by decide +kernel
theorem dX9_settle_39 : decode (dc DX9_settle) 39 = .ok (.istore_n 2, 1) := by decide +kernel
theorem dX9_settle_40 : decode (dc DX9_settle) 40 = .ok (.iload_n 2, 1) := by decide +kernel
theorem dX9_settle_41 : decode (dc DX9_settle) 41 = .ok (.ifCond .le 24, 3) := by decide +kernel
theorem dX9_settle_44 : decode (dc DX9_settle) 44 = .ok (.aload_n 0, 1) := by decide +kernel
theorem dX9_settle_45 : decode (dc DX9_settle) 45 = .ok (.invokevirtual 296, 3) := by decide +kernel
theorem dX9_settle_48 : decode (dc DX9_settle) 48 = .ok (.aload_n 0, 1) := by decide +kernel
theorem dX9_settle_49 : decode (dc DX9_settle) 49 = .ok (.getfield 12, 3) := by decide +kernel
theorem dX9_settle_52 : decode (dc DX9_settle) 52 = .ok (.getfield 106, 3) := by decide +kernel
theorem dX9_settle_55 : decode (dc DX9_settle) 55 = .ok (.aload_n 0, 1) := by decide +kernel
theorem dX9_settle_56 : decode (dc DX9_settle) 56 = .ok (.getfield 36, 3) := by decide +kernel
theorem dX9_settle_59 : decode (dc DX9_settle) 59 = .ok (.getfield 197, 3) := by decide +kernel
theorem dX9_settle_62 : decode (dc DX9_settle) 62 = .ok (.invokevirtual 331, 3) := by decide +kernel
theorem dX9_settle_65 : decode (dc DX9_settle) 65 = .ok (.iload_n 2, 1) := by decide +kernel
theorem dX9_settle_66 : decode (dc DX9_settle) 66 = .ok (.ireturn, 1) := by decide +kernel
theorem dX9_undo_0 : decode (dc DX9_undo) 0 = .ok (.aload_n 0, 1) := by decide +kernel
theorem dX9_undo_1 : decode (dc DX9_undo) 1 = .ok (.getfield 22, 3) := by decide +kernel
theorem dX9_undo_4 : decode (dc DX9_undo) 4 = .ok (.aload_n 0, 1) := by decide +kernel
theorem dX9_undo_5 : decode (dc DX9_undo) 5 = .ok (.getfield 12, 3) := by decide +kernel
theorem dX9_undo_8 : decode (dc DX9_undo) 8 = .ok (.invokevirtual 334, 3) := by decide +kernel
theorem dX9_undo_11 : decode (dc DX9_undo) 11 = .ok (.ifCond .ne 5, 3) := by decide +kernel
theorem dX9_undo_14 : decode (dc DX9_undo) 14 = .ok (.iconst (-1), 1) := by decide +kernel
theorem dX9_undo_15 : decode (dc DX9_undo) 15 = .ok (.ireturn, 1) := by decide +kernel
theorem dX9_undo_16 : decode (dc DX9_undo) 16 = .ok (.aload_n 0, 1) := by decide +kernel
theorem dX9_undo_17 : decode (dc DX9_undo) 17 = .ok (.iconst 0, 1) := by decide +kernel
theorem dX9_undo_18 : decode (dc DX9_undo) 18 = .ok (.putfield 68, 3) := by decide +kernel
theorem dX9_undo_21 : decode (dc DX9_undo) 21 = .ok (.aload_n 0, 1) := by decide +kernel
theorem dX9_undo_22 : decode (dc DX9_undo) 22 = .ok (.getfield 22, 3) := by decide +kernel
theorem dX9_undo_25 : decode (dc DX9_undo) 25 = .ok (.getfield 102, 3) := by decide +kernel
theorem dX9_undo_28 : decode (dc DX9_undo) 28 = .ok (.ireturn, 1) := by decide +kernel
theorem dX10_init_0 : decode (dc DX10_init) 0 = .ok (.aload_n 0, 1) := by decide +kernel
theorem dX10_init_1 : decode (dc DX10_init) 1 = .ok (.invokespecial 1, 3) := by decide +kernel
theorem dX10_init_4 : decode (dc DX10_init) 4 = .ok (.aload_n 0, 1) := by decide +kernel
theorem dX10_init_5 : decode (dc DX10_init) 5 = .ok (.iconst 1, 1) := by decide +kernel
theorem dX10_init_6 : decode (dc DX10_init) 6 = .ok (.putfield 7, 3) := by decide +kernel
theorem dX10_init_9 : decode (dc DX10_init) 9 = .ok (.aload_n 0, 1) := by decide +kernel
theorem dX10_init_10 : decode (dc DX10_init) 10 = .ok (.iconst 1, 1) := by decide +kernel
theorem dX10_init_11 : decode (dc DX10_init) 11 = .ok (.putfield 13, 3) := by decide +kernel
theorem dX10_init_14 : decode (dc DX10_init) 14 = .ok (.aload_n 0, 1) := by decide +kernel
theorem dX10_init_15 : decode (dc DX10_init) 15 = .ok (.iconst 1, 1) := by decide +kernel
theorem dX10_init_16 : decode (dc DX10_init) 16 = .ok (.putfield 16, 3) := by decide +kernel
theorem dX10_init_19 : decode (dc DX10_init) 19 = .ok (.aload_n 0, 1) := by decide +kernel
theorem dX10_init_20 : decode (dc DX10_init) 20 = .ok (.iconst 1, 1) := by decide +kernel
theorem dX10_init_21 : decode (dc DX10_init) 21 = .ok (.putfield 20, 3) := by decide +kernel
theorem dX10_init_24 : decode (dc DX10_init) 24 = .ok (.aload_n 0, 1) := by decide +kernel
theorem dX10_init_25 : decode (dc DX10_init) 25 = .ok (.iconst 1, 1) := by decide +kernel
theorem dX10_init_26 : decode (dc DX10_init) 26 = .ok (.putfield 23, 3) := by decide +kernel
theorem dX10_init_29 : decode (dc DX10_init) 29 = .ok (.aload_n 0, 1) := by decide +kernel
theorem dX10_init_30 : decode (dc DX10_init) 30 = .ok (.bipush 12, 2) := by decide +kernel
theorem dX10_init_32 : decode (dc DX10_init) 32 = .ok (.bipush 12, 2) := by decide +kernel
theorem dX10_init_34 : decode (dc DX10_init) 34 = .ok (.multianewarray 26 2, 4) := by decide +kernel
theorem dX10_init_38 : decode (dc DX10_init) 38 = .ok (.putfield 28, 3) := by decide +kernel
theorem dX10_init_41 : decode (dc DX10_init) 41 = .ok (.aload_n 0, 1) := by decide +kernel
theorem dX10_init_42 : decode (dc DX10_init) 42 = .ok (.bipush 12, 2) := by decide +kernel
theorem dX10_init_44 : decode (dc DX10_init) 44 = .ok (.newarray .int, 2) := by decide +kernel
theorem dX10_init_46 : decode (dc DX10_init) 46 = .ok (.putfield 31, 3) := by decide +kernel
theorem dX10_init_49 : decode (dc DX10_init) 49 = .ok (.aload_n 0, 1) := by decide +kernel
theorem dX10_init_50 : decode (dc DX10_init) 50 = .ok (.bipush 12, 2) := by decide +kernel
theorem dX10_init_52 : decode (dc DX10_init) 52 = .ok (.newarray .int, 2) := by decide +kernel
theorem dX10_init_54 : decode (dc DX10_init) 54 = .ok (.putfield 35, 3) := by decide +kernel
theorem dX10_init_57 : decode (dc DX10_init) 57 = .ok (.iconst 0, 1) := by decide +kernel
theorem dX10_init_58 : decode (dc DX10_init) 58 = .ok (.istore_n 1, 1) := by decide +kernel
theorem dX10_init_59 : decode (dc DX10_init) 59 = .ok (.iload_n 1, 1) := by decide +kernel
theorem dX10_init_60 : decode (dc DX10_init) 60 = .ok (.bipush 12, 2) := by decide +kernel
theorem dX10_init_62 : decode (dc DX10_init) 62 = .ok (.if_icmp .ge 46, 3) := by decide +kernel
theorem dX10_init_65 : decode (dc DX10_init) 65 = .ok (.aload_n 0, 1) := by decide +kernel
theorem dX10_init_66 : decode (dc DX10_init) 66 = .ok (.getfield 31, 3) := by decide +kernel
theorem dX10_init_69 : decode (dc DX10_init) 69 = .ok (.iload_n 1, 1) := by decide +kernel
theorem dX10_init_70 : decode (dc DX10_init) 70 = .ok (.iconst (-1), 1) := by decide +kernel
theorem dX10_init_71 : decode (dc DX10_init) 71 = .ok (.iastore, 1) := by decide +kernel
theorem dX10_init_72 : decode (dc DX10_init) 72 = .ok (.aload_n 0, 1) := by decide +kernel
theorem dX10_init_73 : decode (dc DX10_init) 73 = .ok (.getfield 35, 3) := by decide +kernel
theorem dX10_init_76 : decode (dc DX10_init) 76 = .ok (.iload_n 1, 1) := by decide +kernel
theorem dX10_init_77 : decode (dc DX10_init) 77 = .ok (.iconst 1, 1) := by decide +kernel
theorem dX10_init_78 : decode (dc DX10_init) 78 = .ok (.iastore, 1) := by decide +kernel
theorem dX10_init_79 : decode (dc DX10_init) 79 = .ok (.iconst 0, 1) := by decide +kernel
theorem dX10_init_80 : decode (dc DX10_init) 80 = .ok (.istore_n 2, 1) := by decide +kernel
theorem dX10_init_81 : decode (dc DX10_init) 81 = .ok (.iload_n 2, 1) := by decide +kernel
theorem dX10_init_82 : decode (dc DX10_init) 82 = .ok (.bipush 12, 2) := by decide +kernel
theorem dX10_init_84 : decode (dc DX10_init) 84 = .ok (.if_icmp .ge 18, 3) := by decide +kernel
theorem dX10_init_87 : decode (dc DX10_init) 87 = .ok (.aload_n 0, 1) := by decide +kernel
theorem dX10_init_88 : decode (dc DX10_init) 88 = .ok (.getfield 28, 3) := by decide +kernel
theorem dX10_init_91 : decode (dc DX10_init) 91 = .ok (.iload_n 1, 1) := by decide +kernel
theorem dX10_init_92 : decode (dc DX10_init) 92 = .ok (.aaload, 1) := by decide +kernel
theorem dX10_init_93 : decode (dc DX10_init) 93 = .ok (.iload_n 2, 1) := by decide +kernel
theorem dX10_init_94 : decode (dc DX10_init) 94 = .ok (.iconst (-1), 1) := by decide +kernel
theorem dX10_init_95 : decode (dc DX10_init) 95 = .ok (.iastore, 1) := by decide +kernel
theorem dX10_init_96 : decode (dc DX10_init) 96 = .ok (.iinc 2 1, 3) := by decide +kernel
theorem dX10_init_99 : decode (dc DX10_init) 99 = .ok (.goto (-18), 3) := by decide +kernel
theorem dX10_init_102 : decode (dc DX10_init) 102 = .ok (.iinc 1 1, 3) := by decide +kernel
theorem dX10_init_105 : decode (dc DX10_init) 105 = .ok (.goto (-46), 3) := by decide +kernel
theorem dX10_init_108 : decode (dc DX10_init) 108 = .ok (.return_, 1) := by decide +kernel
theorem dX10_like_0 : decode (dc DX10_like) 0 = .ok (.new 8, 3) := by decide +kernel
theorem dX10_like_3 : decode (dc DX10_like) 3 = .ok (.dup, 1) := by decide +kernel
theorem dX10_like_4 : decode (dc DX10_like) 4 = .ok (.invokespecial 38, 3) := by decide +kernel
theorem dX10_like_7 : decode (dc DX10_like) 7 = .ok (.astore_n 1, 1) := by decide +kernel
theorem dX10_like_8 : decode (dc DX10_like) 8 = .ok (.aload_n 1, 1) := by decide +kernel
theorem dX10_like_9 : decode (dc DX10_like) 9 = .ok (.aload_n 0, 1) := by decide +kernel
theorem dX10_like_10 : decode (dc DX10_like) 10 = .ok (.getfield 7, 3) := by decide +kernel
theorem dX10_like_13 : decode (dc DX10_like) 13 = .ok (.putfield 7, 3) := by decide +kernel
theorem dX10_like_16 : decode (dc DX10_like) 16 = .ok (.aload_n 1, 1) := by decide +kernel
theorem dX10_like_17 : decode (dc DX10_like) 17 = .ok (.aload_n 0, 1) := by decide +kernel
theorem dX10_like_18 : decode (dc DX10_like) 18 = .ok (.getfield 13, 3) := by decide +kernel
theorem dX10_like_21 : decode (dc DX10_like) 21 = .ok (.putfield 13, 3) := by decide +kernel
theorem dX10_like_24 : decode (dc DX10_like) 24 = .ok (.aload_n 1, 1) := by decide +kernel
theorem dX10_like_25 : decode (dc DX10_like) 25 = .ok (.aload_n 0, 1) := by decide +kernel
theorem dX10_like_26 : decode (dc DX10_like) 26 = .ok (.getfield 16, 3) := by decide +kernel
theorem dX10_like_29 : decode (dc DX10_like) 29 = .ok (.putfield 16, 3) := by decide +kernel
theorem dX10_like_32 : decode (dc DX10_like) 32 = .ok (.aload_n 1, 1) := by decide +kernel
theorem dX10_like_33 : decode (dc DX10_like) 33 = .ok (.aload_n 0, 1) := by decide +kernel
theorem dX10_like_34 : decode (dc DX10_like) 34 = .ok (.getfield 20, 3) := by decide +kernel
theorem dX10_like_37 : decode (dc DX10_like) 37 = .ok (.putfield 20, 3) := by decide +kernel
theorem dX10_like_40 : decode (dc DX10_like) 40 = .ok (.aload_n 1, 1) := by decide +kernel
theorem dX10_like_41 : decode (dc DX10_like) 41 = .ok (.aload_n 0, 1) := by decide +kernel
theorem dX10_like_42 : decode (dc DX10_like) 42 = .ok (.getfield 23, 3) := by decide +kernel
theorem dX10_like_45 : decode (dc DX10_like) 45 = .ok (.putfield 23, 3) := by decide +kernel
theorem dX10_like_48 : decode (dc DX10_like) 48 = .ok (.aload_n 1, 1) := by decide +kernel
theorem dX10_like_49 : decode (dc DX10_like) 49 = .ok (.aload_n 0, 1) := by decide +kernel
theorem dX10_like_50 : decode (dc DX10_like) 50 = .ok (.getfield 31, 3) := by decide +kernel
theorem dX10_like_53 : decode (dc DX10_like) 53 = .ok (.invokevirtual 39, 3) := by decide +kernel
theorem dX10_like_56 : decode (dc DX10_like) 56 = .ok (.checkcast 40, 3) := by decide +kernel
theorem dX10_like_59 : decode (dc DX10_like) 59 = .ok (.putfield 31, 3) := by decide +kernel
theorem dX10_like_62 : decode (dc DX10_like) 62 = .ok (.aload_n 1, 1) := by decide +kernel
theorem dX10_like_63 : decode (dc DX10_like) 63 = .ok (.aload_n 0, 1) := by decide +kernel
theorem dX10_like_64 : decode (dc DX10_like) 64 = .ok (.getfield 35, 3) := by decide +kernel
theorem dX10_like_67 : decode (dc DX10_like) 67 = .ok (.invokevirtual 39, 3) := by decide +kernel
theorem dX10_like_70 : decode (dc DX10_like) 70 = .ok (.checkcast 40, 3) := by decide +kernel
theorem dX10_like_73 : decode (dc DX10_like) 73 = .ok (.putfield 35, 3) := by decide +kernel
theorem dX10_like_76 : decode (dc DX10_like) 76 = .ok (.iconst 0, 1) := by decide +kernel
theorem dX10_like_77 : decode (dc DX10_like) 77 = .ok (.istore_n 2, 1) := by decide +kernel
theorem dX10_like_78 : decode (dc DX10_like) 78 = .ok (.iload_n 2, 1) := by decide +kernel
theorem dX10_like_79 : decode (dc DX10_like) 79 = .ok (.bipush 12, 2) := by decide +kernel
theorem dX10_like_81 : decode (dc DX10_like) 81 = .ok (.if_icmp .ge 27, 3) := by decide +kernel
theorem dX10_like_84 : decode (dc DX10_like) 84 = .ok (.aload_n 1, 1) := by decide +kernel
theorem dX10_like_85 : decode (dc DX10_like) 85 = .ok (.getfield 28, 3) := by decide +kernel
theorem dX10_like_88 : decode (dc DX10_like) 88 = .ok (.iload_n 2, 1) := by decide +kernel
theorem dX10_like_89 : decode (dc DX10_like) 89 = .ok (.aload_n 0, 1) := by decide +kernel
theorem dX10_like_90 : decode (dc DX10_like) 90 = .ok (.getfield 28, 3) := by decide +kernel
theorem dX10_like_93 : decode (dc DX10_like) 93 = .ok (.iload_n 2, 1) := by decide +kernel
theorem dX10_like_94 : decode (dc DX10_like) 94 = .ok (.aaload, 1) := by decide +kernel
theorem dX10_like_95 : decode (dc DX10_like) 95 = .ok (.invokevirtual 39, 3) := by decide +kernel
theorem dX10_like_98 : decode (dc DX10_like) 98 = .ok (.checkcast 40, 3) := by decide +kernel
theorem dX10_like_101 : decode (dc DX10_like) 101 = .ok (.aastore, 1) := by decide +kernel
theorem dX10_like_102 : decode (dc DX10_like) 102 = .ok (.iinc 2 1, 3) := by decide +kernel
theorem dX10_like_105 : decode (dc DX10_like) 105 = .ok (.goto (-27), 3) := by decide +kernel
theorem dX10_like_108 : decode (dc DX10_like) 108 = .ok (.aload_n 1, 1) := by decide +kernel
theorem dX10_like_109 : decode (dc DX10_like) 109 = .ok (.areturn, 1) := by decide +kernel
theorem dX10_can_0 : decode (dc DX10_can) 0 = .ok (.aload_n 0, 1) := by decide +kernel
theorem dX10_can_1 : decode (dc DX10_can) 1 = .ok (.getfield 20, 3) := by decide +kernel
theorem dX10_can_4 : decode (dc DX10_can) 4 = .ok (.iload_n 1, 1) := by decide +kernel
theorem dX10_can_5 : decode (dc DX10_can) 5 = .ok (.ishr, 1) := by decide +kernel
theorem dX10_can_6 : decode (dc DX10_can) 6 = .ok (.iconst 1, 1) := by decide +kernel
theorem dX10_can_7 : decode (dc DX10_can) 7 = .ok (.iand, 1) := by decide +kernel
theorem dX10_can_8 : decode (dc DX10_can) 8 = .ok (.iconst 1, 1) := by decide +kernel
theorem dX10_can_9 : decode (dc DX10_can) 9 = .ok (.if_icmp .ne 30, 3) := by decide +kernel
theorem dX10_can_12 : decode (dc DX10_can) 12 = .ok (.aload_n 0, 1) := by decide +kernel
theorem dX10_can_13 : decode (dc DX10_can) 13 = .ok (.getfield 23, 3) := by decide +kernel
theorem dX10_can_16 : decode (dc DX10_can) 16 = .ok (.iload_n 2, 1) := by decide +kernel
theorem dX10_can_17 : decode (dc DX10_can) 17 = .ok (.ishr, 1) := by decide +kernel
theorem dX10_can_18 : decode (dc DX10_can) 18 = .ok (.iconst 1, 1) := by decide +kernel
theorem dX10_can_19 : decode (dc DX10_can) 19 = .ok (.iand, 1) := by decide +kernel
theorem dX10_can_20 : decode (dc DX10_can) 20 = .ok (.iconst 1, 1) := by decide +kernel
theorem dX10_can_21 : decode (dc DX10_can) 21 = .ok (.if_icmp .ne 18, 3) := by decide +kernel
theorem dX10_can_24 : decode (dc DX10_can) 24 = .ok (.aload_n 0, 1) := by decide +kernel
theorem dX10_can_25 : decode (dc DX10_can) 25 = .ok (.getfield 28, 3) := by decide +kernel
theorem dX10_can_28 : decode (dc DX10_can) 28 = .ok (.iload_n 1, 1) := by decide +kernel
theorem dX10_can_29 : decode (dc DX10_can) 29 = .ok (.aaload, 1) := by decide +kernel
theorem dX10_can_30 : decode (dc DX10_can) 30 = .ok (.iload_n 2, 1) := by decide +kernel
theorem dX10_can_31 : decode (dc DX10_can) 31 = .ok (.iaload, 1) := by decide +kernel
theorem dX10_can_32 : decode (dc DX10_can) 32 = .ok (.ifCond .lt 7, 3) := by decide +kernel
theorem dX10_can_35 : decode (dc DX10_can) 35 = .ok (.iconst 1, 1) := by decide +kernel
theorem dX10_can_36 : decode (dc DX10_can) 36 = .ok (.goto 4, 3) := by decide +kernel
theorem dX10_can_39 : decode (dc DX10_can) 39 = .ok (.iconst 0, 1) := by decide +kernel
theorem dX10_can_40 : decode (dc DX10_can) 40 = .ok (.ireturn, 1) := by decide +kernel
theorem dX10_owner_0 : decode (dc DX10_owner) 0 = .ok (.iconst 0, 1) := by decide +kernel
theorem dX10_owner_1 : decode (dc DX10_owner) 1 = .ok (.istore_n 2, 1) := by decide +kernel
theorem dX10_owner_2 : decode (dc DX10_owner) 2 = .ok (.iload_n 2, 1) := by decide +kernel
theorem dX10_owner_3 : decode (dc DX10_owner) 3 = .ok (.aload_n 0, 1) := by decide +kernel
theorem dX10_owner_4 : decode (dc DX10_owner) 4 = .ok (.getfield 7, 3) := by decide +kernel
theorem dX10_owner_7 : decode (dc DX10_owner) 7 = .ok (.if_icmp .ge 21, 3) := by decide +kernel
theorem dX10_owner_10 : decode (dc DX10_owner) 10 = .ok (.aload_n 0, 1) := by decide +kernel
theorem dX10_owner_11 : decode (dc DX10_owner) 11 = .ok (.getfield 31, 3) := by decide +kernel
theorem dX10_owner_14 : decode (dc DX10_owner) 14 = .ok (.iload_n 2, 1) := by decide +kernel
theorem dX10_owner_15 : decode (dc DX10_owner) 15 = .ok (.iaload, 1) := by decide +kernel
theorem dX10_owner_16 : decode (dc DX10_owner) 16 = .ok (.iload_n 1, 1) := by decide +kernel
theorem dX10_owner_17 : decode (dc DX10_owner) 17 = .ok (.if_icmp .ne 5, 3) := by decide +kernel
theorem dX10_owner_20 : decode (dc DX10_owner) 20 = .ok (.iload_n 2, 1) := by decide +kernel
theorem dX10_owner_21 : decode (dc DX10_owner) 21 = .ok (.ireturn, 1) := by decide +kernel
theorem dX10_owner_22 : decode (dc DX10_owner) 22 = .ok (.iinc 2 1, 3) := by decide +kernel
theorem dX10_owner_25 : decode (dc DX10_owner) 25 = .ok (.goto (-23), 3) := by decide +kernel
theorem dX10_owner_28 : decode (dc DX10_owner) 28 = .ok (.iconst (-1), 1) := by decide +kernel
theorem dX10_owner_29 : decode (dc DX10_owner) 29 = .ok (.ireturn, 1) := by decide +kernel
theorem dX10_pairs_0 : decode (dc DX10_pairs) 0 = .ok (.iconst 0, 1) := by decide +kernel
theorem dX10_pairs_1 : decode (dc DX10_pairs) 1 = .ok (.istore_n 1, 1) := by decide +kernel
theorem dX10_pairs_2 : decode (dc DX10_pairs) 2 = .ok (.iconst 0, 1) := by decide +kernel
theorem dX10_pairs_3 : decode (dc DX10_pairs) 3 = .ok (.istore_n 2, 1) := by decide +kernel
theorem dX10_pairs_4 : decode (dc DX10_pairs) 4 = .ok (.iload_n 2, 1) := by decide +kernel
theorem dX10_pairs_5 : decode (dc DX10_pairs) 5 = .ok (.aload_n 0, 1) := by decide +kernel
theorem dX10_pairs_6 : decode (dc DX10_pairs) 6 = .ok (.getfield 7, 3) := by decide +kernel
theorem dX10_pairs_9 : decode (dc DX10_pairs) 9 = .ok (.if_icmp .ge 21, 3) := by decide +kernel
theorem dX10_pairs_12 : decode (dc DX10_pairs) 12 = .ok (.aload_n 0, 1) := by decide +kernel
theorem dX10_pairs_13 : decode (dc DX10_pairs) 13 = .ok (.getfield 31, 3) := by decide +kernel
theorem dX10_pairs_16 : decode (dc DX10_pairs) 16 = .ok (.iload_n 2, 1) := by decide +kernel
theorem dX10_pairs_17 : decode (dc DX10_pairs) 17 = .ok (.iaload, 1) := by decide +kernel
theorem dX10_pairs_18 : decode (dc DX10_pairs) 18 = .ok (.ifCond .lt 6, 3) := by decide +kernel
theorem dX10_pairs_21 : decode (dc DX10_pairs) 21 = .ok (.iinc 1 1, 3) := by decide +kernel
theorem dX10_pairs_24 : decode (dc DX10_pairs) 24 = .ok (.iinc 2 1, 3) := by decide +kernel
theorem dX10_pairs_27 : decode (dc DX10_pairs) 27 = .ok (.goto (-23), 3) := by decide +kernel
theorem dX10_pairs_30 : decode (dc DX10_pairs) 30 = .ok (.iload_n 1, 1) := by decide +kernel
theorem dX10_pairs_31 : decode (dc DX10_pairs) 31 = .ok (.ireturn, 1) := by decide +kernel
theorem dX10_most_0 {l : Nat} : decode (dc (DX10_most l)) 0 = .ok (.iload_n 1, 1) := (show decode cX10_most 0 = .ok (.iload_n 1, 1) from by decide +kernel)
theorem dX10_most_1 {l : Nat} : decode (dc (DX10_most l)) 1 = .ok (.aload_n 0, 1) := (show decode cX10_most 1 = .ok (.aload_n 0, 1) from by decide +kernel)
theorem dX10_most_2 {l : Nat} : decode (dc (DX10_most l)) 2 = .ok (.getfield 7, 3) := (show decode cX10_most 2 = .ok (.getfield 7, 3) from by decide +kernel)
theorem dX10_most_5 {l : Nat} : decode (dc (DX10_most l)) 5 = .ok (.if_icmp .ne 5, 3) := (show decode cX10_most 5 = .ok (.if_icmp .ne 5, 3) from by decide +kernel)
theorem dX10_most_8 {l : Nat} : decode (dc (DX10_most l)) 8 = .ok (.iconst 0, 1) := (show decode cX10_most 8 = .ok (.iconst 0, 1) from by decide +kernel)
theorem dX10_most_9 {l : Nat} : decode (dc (DX10_most l)) 9 = .ok (.ireturn, 1) := (show decode cX10_most 9 = .ok (.ireturn, 1) from by decide +kernel)
theorem dX10_most_10 {l : Nat} : decode (dc (DX10_most l)) 10 = .ok (.aload_n 0, 1) := (show decode cX10_most 10 = .ok (.aload_n 0, 1) from by decide +kernel)
theorem dX10_most_11 {l : Nat} : decode (dc (DX10_most l)) 11 = .ok (.iload_n 1, 1) := (show decode cX10_most 11 = .ok (.iload_n 1, 1) from by decide +kernel)
theorem dX10_most_12 {l : Nat} : decode (dc (DX10_most l)) 12 = .ok (.iconst 1, 1) := (show decode cX10_most 12 = .ok (.iconst 1, 1) from by decide +kernel)
theorem dX10_most_13 {l : Nat} : decode (dc (DX10_most l)) 13 = .ok (.iadd, 1) := (show decode cX10_most 13 = .ok (.iadd, 1) from by decide +kernel)
theorem dX10_most_14 {l : Nat} : decode (dc (DX10_most l)) 14 = .ok (.iload_n 2, 1) := (show decode cX10_most 14 = .ok (.iload_n 2, 1) from by decide +kernel)
theorem dX10_most_15 {l : Nat} : decode (dc (DX10_most l)) 15 = .ok (.invokevirtual 44, 3) := (show decode cX10_most 15 = .ok (.invokevirtual 44, 3) from by decide +kernel)
theorem dX10_most_18 {l : Nat} : decode (dc (DX10_most l)) 18 = .ok (.istore_n 3, 1) := (show decode cX10_most 18 = .ok (.istore_n 3, 1) from by decide +kernel)
theorem dX10_most_19 {l : Nat} : decode (dc (DX10_most l)) 19 = .ok (.iconst 0, 1) := (show decode cX10_most 19 = .ok (.iconst 0, 1) from by decide +kernel)
theorem dX10_most_20 {l : Nat} : decode (dc (DX10_most l)) 20 = .ok (.istore 4, 2) := (show decode cX10_most 20 = .ok (.istore 4, 2) from by decide +kernel)
theorem dX10_most_22 {l : Nat} : decode (dc (DX10_most l)) 22 = .ok (.iload 4, 2) := (show decode cX10_most 22 = .ok (.iload 4, 2) from by decide +kernel)
theorem dX10_most_24 {l : Nat} : decode (dc (DX10_most l)) 24 = .ok (.aload_n 0, 1) := (show decode cX10_most 24 = .ok (.aload_n 0, 1) from by decide +kernel)
theorem dX10_most_25 {l : Nat} : decode (dc (DX10_most l)) 25 = .ok (.getfield 13, 3) := (show decode cX10_most 25 = .ok (.getfield 13, 3) from by decide +kernel)
theorem dX10_most_28 {l : Nat} : decode (dc (DX10_most l)) 28 = .ok (.if_icmp .ge 48, 3) := (show decode cX10_most 28 = .ok (.if_icmp .ge 48, 3) from by decide +kernel)
theorem dX10_most_31 {l : Nat} : decode (dc (DX10_most l)) 31 = .ok (.aload_n 0, 1) := (show decode cX10_most 31 = .ok (.aload_n 0, 1) from by decide +kernel)
theorem dX10_most_32 {l : Nat} : decode (dc (DX10_most l)) 32 = .ok (.iload_n 1, 1) := (show decode cX10_most 32 = .ok (.iload_n 1, 1) from by decide +kernel)
theorem dX10_most_33 {l : Nat} : decode (dc (DX10_most l)) 33 = .ok (.iload 4, 2) := (show decode cX10_most 33 = .ok (.iload 4, 2) from by decide +kernel)
theorem dX10_most_35 {l : Nat} : decode (dc (DX10_most l)) 35 = .ok (.invokevirtual 48, 3) := (show decode cX10_most 35 = .ok (.invokevirtual 48, 3) from by decide +kernel)
theorem dX10_most_38 {l : Nat} : decode (dc (DX10_most l)) 38 = .ok (.ifCond .eq 32, 3) := (show decode cX10_most 38 = .ok (.ifCond .eq 32, 3) from by decide +kernel)
theorem dX10_most_41 {l : Nat} : decode (dc (DX10_most l)) 41 = .ok (.iload_n 2, 1) := (show decode cX10_most 41 = .ok (.iload_n 2, 1) from by decide +kernel)
theorem dX10_most_42 {l : Nat} : decode (dc (DX10_most l)) 42 = .ok (.iload 4, 2) := (show decode cX10_most 42 = .ok (.iload 4, 2) from by decide +kernel)
theorem dX10_most_44 {l : Nat} : decode (dc (DX10_most l)) 44 = .ok (.ishr, 1) := (show decode cX10_most 44 = .ok (.ishr, 1) from by decide +kernel)
theorem dX10_most_45 {l : Nat} : decode (dc (DX10_most l)) 45 = .ok (.iconst 1, 1) := (show decode cX10_most 45 = .ok (.iconst 1, 1) from by decide +kernel)
theorem dX10_most_46 {l : Nat} : decode (dc (DX10_most l)) 46 = .ok (.iand, 1) := (show decode cX10_most 46 = .ok (.iand, 1) from by decide +kernel)
theorem dX10_most_47 {l : Nat} : decode (dc (DX10_most l)) 47 = .ok (.ifCond .ne 23, 3) := (show decode cX10_most 47 = .ok (.ifCond .ne 23, 3) from by decide +kernel)
theorem dX10_most_50 {l : Nat} : decode (dc (DX10_most l)) 50 = .ok (.iload_n 3, 1) := (show decode cX10_most 50 = .ok (.iload_n 3, 1) from by decide +kernel)
theorem dX10_most_51 {l : Nat} : decode (dc (DX10_most l)) 51 = .ok (.iconst 1, 1) := (show decode cX10_most 51 = .ok (.iconst 1, 1) from by decide +kernel)
theorem dX10_most_52 {l : Nat} : decode (dc (DX10_most l)) 52 = .ok (.aload_n 0, 1) := (show decode cX10_most 52 = .ok (.aload_n 0, 1) from by decide +kernel)
theorem dX10_most_53 {l : Nat} : decode (dc (DX10_most l)) 53 = .ok (.iload_n 1, 1) := (show decode cX10_most 53 = .ok (.iload_n 1, 1) from by decide +kernel)
theorem dX10_most_54 {l : Nat} : decode (dc (DX10_most l)) 54 = .ok (.iconst 1, 1) := (show decode cX10_most 54 = .ok (.iconst 1, 1) from by decide +kernel)
theorem dX10_most_55 {l : Nat} : decode (dc (DX10_most l)) 55 = .ok (.iadd, 1) := (show decode cX10_most 55 = .ok (.iadd, 1) from by decide +kernel)
theorem dX10_most_56 {l : Nat} : decode (dc (DX10_most l)) 56 = .ok (.iload_n 2, 1) := (show decode cX10_most 56 = .ok (.iload_n 2, 1) from by decide +kernel)
theorem dX10_most_57 {l : Nat} : decode (dc (DX10_most l)) 57 = .ok (.iconst 1, 1) := (show decode cX10_most 57 = .ok (.iconst 1, 1) from by decide +kernel)
theorem dX10_most_58 {l : Nat} : decode (dc (DX10_most l)) 58 = .ok (.iload 4, 2) := (show decode cX10_most 58 = .ok (.iload 4, 2) from by decide +kernel)
theorem dX10_most_60 {l : Nat} : decode (dc (DX10_most l)) 60 = .ok (.ishl, 1) := (show decode cX10_most 60 = .ok (.ishl, 1) from by decide +kernel)
theorem dX10_most_61 {l : Nat} : decode (dc (DX10_most l)) 61 = .ok (.ior, 1) := (show decode cX10_most 61 = .ok (.ior, 1) from by decide +kernel)
theorem dX10_most_62 {l : Nat} : decode (dc (DX10_most l)) 62 = .ok (.invokevirtual 44, 3) := (show decode cX10_most 62 = .ok (.invokevirtual 44, 3) from by decide +kernel)
theorem dX10_most_65 {l : Nat} : decode (dc (DX10_most l)) 65 = .ok (.iadd, 1) := (show decode cX10_most 65 = .ok (.iadd, 1) from by decide +kernel)
theorem dX10_most_66 {l : Nat} : decode (dc (DX10_most l)) 66 = .ok (.invokestatic 52, 3) := (show decode cX10_most 66 = .ok (.invokestatic 52, 3) from by decide +kernel)
theorem dX10_most_69 {l : Nat} : decode (dc (DX10_most l)) 69 = .ok (.istore_n 3, 1) := (show decode cX10_most 69 = .ok (.istore_n 3, 1) from by decide +kernel)
theorem dX10_most_70 {l : Nat} : decode (dc (DX10_most l)) 70 = .ok (.iinc 4 1, 3) := (show decode cX10_most 70 = .ok (.iinc 4 1, 3) from by decide +kernel)
theorem dX10_most_73 {l : Nat} : decode (dc (DX10_most l)) 73 = .ok (.goto (-51), 3) := (show decode cX10_most 73 = .ok (.goto (-51), 3) from by decide +kernel)
theorem dX10_most_76 {l : Nat} : decode (dc (DX10_most l)) 76 = .ok (.iload_n 3, 1) := (show decode cX10_most 76 = .ok (.iload_n 3, 1) from by decide +kernel)
theorem dX10_most_77 {l : Nat} : decode (dc (DX10_most l)) 77 = .ok (.ireturn, 1) := (show decode cX10_most 77 = .ok (.ireturn, 1) from by decide +kernel)
theorem dX10_all_0 {l : Nat} : decode (dc (DX10_all l)) 0 = .ok (.iload_n 1, 1) := (show decode cX10_all 0 = .ok (.iload_n 1, 1) from by decide +kernel)
theorem dX10_all_1 {l : Nat} : decode (dc (DX10_all l)) 1 = .ok (.aload_n 0, 1) := (show decode cX10_all 1 = .ok (.aload_n 0, 1) from by decide +kernel)
theorem dX10_all_2 {l : Nat} : decode (dc (DX10_all l)) 2 = .ok (.getfield 7, 3) := (show decode cX10_all 2 = .ok (.getfield 7, 3) from by decide +kernel)
theorem dX10_all_5 {l : Nat} : decode (dc (DX10_all l)) 5 = .ok (.if_icmp .ne 45, 3) := (show decode cX10_all 5 = .ok (.if_icmp .ne 45, 3) from by decide +kernel)
theorem dX10_all_8 {l : Nat} : decode (dc (DX10_all l)) 8 = .ok (.iconst 3, 1) := (show decode cX10_all 8 = .ok (.iconst 3, 1) from by decide +kernel)
theorem dX10_all_9 {l : Nat} : decode (dc (DX10_all l)) 9 = .ok (.newarray .long, 2) := (show decode cX10_all 9 = .ok (.newarray .long, 2) from by decide +kernel)
theorem dX10_all_11 {l : Nat} : decode (dc (DX10_all l)) 11 = .ok (.dup, 1) := (show decode cX10_all 11 = .ok (.dup, 1) from by decide +kernel)
theorem dX10_all_12 {l : Nat} : decode (dc (DX10_all l)) 12 = .ok (.iconst 0, 1) := (show decode cX10_all 12 = .ok (.iconst 0, 1) from by decide +kernel)
theorem dX10_all_13 {l : Nat} : decode (dc (DX10_all l)) 13 = .ok (.iload_n 3, 1) := (show decode cX10_all 13 = .ok (.iload_n 3, 1) from by decide +kernel)
theorem dX10_all_14 {l : Nat} : decode (dc (DX10_all l)) 14 = .ok (.ifCond .ne 7, 3) := (show decode cX10_all 14 = .ok (.ifCond .ne 7, 3) from by decide +kernel)
theorem dX10_all_17 {l : Nat} : decode (dc (DX10_all l)) 17 = .ok (.lconst 1, 1) := (show decode cX10_all 17 = .ok (.lconst 1, 1) from by decide +kernel)
theorem dX10_all_18 {l : Nat} : decode (dc (DX10_all l)) 18 = .ok (.goto 4, 3) := (show decode cX10_all 18 = .ok (.goto 4, 3) from by decide +kernel)
theorem dX10_all_21 {l : Nat} : decode (dc (DX10_all l)) 21 = .ok (.lconst 0, 1) := (show decode cX10_all 21 = .ok (.lconst 0, 1) from by decide +kernel)
theorem dX10_all_22 {l : Nat} : decode (dc (DX10_all l)) 22 = .ok (.lastore, 1) := (show decode cX10_all 22 = .ok (.lastore, 1) from by decide +kernel)
theorem dX10_all_23 {l : Nat} : decode (dc (DX10_all l)) 23 = .ok (.dup, 1) := (show decode cX10_all 23 = .ok (.dup, 1) from by decide +kernel)
theorem dX10_all_24 {l : Nat} : decode (dc (DX10_all l)) 24 = .ok (.iconst 1, 1) := (show decode cX10_all 24 = .ok (.iconst 1, 1) from by decide +kernel)
theorem dX10_all_25 {l : Nat} : decode (dc (DX10_all l)) 25 = .ok (.iload_n 3, 1) := (show decode cX10_all 25 = .ok (.iload_n 3, 1) from by decide +kernel)
theorem dX10_all_26 {l : Nat} : decode (dc (DX10_all l)) 26 = .ok (.ifCond .ne 7, 3) := (show decode cX10_all 26 = .ok (.ifCond .ne 7, 3) from by decide +kernel)
theorem dX10_all_29 {l : Nat} : decode (dc (DX10_all l)) 29 = .ok (.lconst 0, 1) := (show decode cX10_all 29 = .ok (.lconst 0, 1) from by decide +kernel)
theorem dX10_all_30 {l : Nat} : decode (dc (DX10_all l)) 30 = .ok (.goto 6, 3) := (show decode cX10_all 30 = .ok (.goto 6, 3) from by decide +kernel)
theorem dX10_all_33 {l : Nat} : decode (dc (DX10_all l)) 33 = .ok (.ldc2_w 57, 3) := (show decode cX10_all 33 = .ok (.ldc2_w 57, 3) from by decide +kernel)
theorem dX10_all_36 {l : Nat} : decode (dc (DX10_all l)) 36 = .ok (.lastore, 1) := (show decode cX10_all 36 = .ok (.lastore, 1) from by decide +kernel)
theorem dX10_all_37 {l : Nat} : decode (dc (DX10_all l)) 37 = .ok (.dup, 1) := (show decode cX10_all 37 = .ok (.dup, 1) from by decide +kernel)
theorem dX10_all_38 {l : Nat} : decode (dc (DX10_all l)) 38 = .ok (.iconst 2, 1) := (show decode cX10_all 38 = .ok (.iconst 2, 1) from by decide +kernel)
theorem dX10_all_39 {l : Nat} : decode (dc (DX10_all l)) 39 = .ok (.iload_n 3, 1) := (show decode cX10_all 39 = .ok (.iload_n 3, 1) from by decide +kernel)
theorem dX10_all_40 {l : Nat} : decode (dc (DX10_all l)) 40 = .ok (.ifCond .ne 7, 3) := (show decode cX10_all 40 = .ok (.ifCond .ne 7, 3) from by decide +kernel)
theorem dX10_all_43 {l : Nat} : decode (dc (DX10_all l)) 43 = .ok (.lconst 1, 1) := (show decode cX10_all 43 = .ok (.lconst 1, 1) from by decide +kernel)
theorem dX10_all_44 {l : Nat} : decode (dc (DX10_all l)) 44 = .ok (.goto 4, 3) := (show decode cX10_all 44 = .ok (.goto 4, 3) from by decide +kernel)
theorem dX10_all_47 {l : Nat} : decode (dc (DX10_all l)) 47 = .ok (.lconst 0, 1) := (show decode cX10_all 47 = .ok (.lconst 0, 1) from by decide +kernel)
theorem dX10_all_48 {l : Nat} : decode (dc (DX10_all l)) 48 = .ok (.lastore, 1) := (show decode cX10_all 48 = .ok (.lastore, 1) from by decide +kernel)
theorem dX10_all_49 {l : Nat} : decode (dc (DX10_all l)) 49 = .ok (.areturn, 1) := (show decode cX10_all 49 = .ok (.areturn, 1) from by decide +kernel)
theorem dX10_all_50 {l : Nat} : decode (dc (DX10_all l)) 50 = .ok (.aload_n 0, 1) := (show decode cX10_all 50 = .ok (.aload_n 0, 1) from by decide +kernel)
theorem dX10_all_51 {l : Nat} : decode (dc (DX10_all l)) 51 = .ok (.iload_n 1, 1) := (show decode cX10_all 51 = .ok (.iload_n 1, 1) from by decide +kernel)
theorem dX10_all_52 {l : Nat} : decode (dc (DX10_all l)) 52 = .ok (.iconst 1, 1) := (show decode cX10_all 52 = .ok (.iconst 1, 1) from by decide +kernel)
theorem dX10_all_53 {l : Nat} : decode (dc (DX10_all l)) 53 = .ok (.iadd, 1) := (show decode cX10_all 53 = .ok (.iadd, 1) from by decide +kernel)
theorem dX10_all_54 {l : Nat} : decode (dc (DX10_all l)) 54 = .ok (.iload_n 2, 1) := (show decode cX10_all 54 = .ok (.iload_n 2, 1) from by decide +kernel)
theorem dX10_all_55 {l : Nat} : decode (dc (DX10_all l)) 55 = .ok (.iload_n 3, 1) := (show decode cX10_all 55 = .ok (.iload_n 3, 1) from by decide +kernel)
theorem dX10_all_56 {l : Nat} : decode (dc (DX10_all l)) 56 = .ok (.invokevirtual 59, 3) := (show decode cX10_all 56 = .ok (.invokevirtual 59, 3) from by decide +kernel)
theorem dX10_all_59 {l : Nat} : decode (dc (DX10_all l)) 59 = .ok (.astore 4, 2) := (show decode cX10_all 59 = .ok (.astore 4, 2) from by decide +kernel)
theorem dX10_all_61 {l : Nat} : decode (dc (DX10_all l)) 61 = .ok (.iconst 0, 1) := (show decode cX10_all 61 = .ok (.iconst 0, 1) from by decide +kernel)
theorem dX10_all_62 {l : Nat} : decode (dc (DX10_all l)) 62 = .ok (.istore 5, 2) := (show decode cX10_all 62 = .ok (.istore 5, 2) from by decide +kernel)
theorem dX10_all_64 {l : Nat} : decode (dc (DX10_all l)) 64 = .ok (.iload 5, 2) := (show decode cX10_all 64 = .ok (.iload 5, 2) from by decide +kernel)
theorem dX10_all_66 {l : Nat} : decode (dc (DX10_all l)) 66 = .ok (.aload_n 0, 1) := (show decode cX10_all 66 = .ok (.aload_n 0, 1) from by decide +kernel)
theorem dX10_all_67 {l : Nat} : decode (dc (DX10_all l)) 67 = .ok (.getfield 13, 3) := (show decode cX10_all 67 = .ok (.getfield 13, 3) from by decide +kernel)
theorem dX10_all_70 {l : Nat} : decode (dc (DX10_all l)) 70 = .ok (.if_icmp .ge 151, 3) := (show decode cX10_all 70 = .ok (.if_icmp .ge 151, 3) from by decide +kernel)
theorem dX10_all_73 {l : Nat} : decode (dc (DX10_all l)) 73 = .ok (.iload_n 3, 1) := (show decode cX10_all 73 = .ok (.iload_n 3, 1) from by decide +kernel)
theorem dX10_all_74 {l : Nat} : decode (dc (DX10_all l)) 74 = .ok (.ifCond .le 147, 3) := (show decode cX10_all 74 = .ok (.ifCond .le 147, 3) from by decide +kernel)
theorem dX10_all_77 {l : Nat} : decode (dc (DX10_all l)) 77 = .ok (.aload_n 0, 1) := (show decode cX10_all 77 = .ok (.aload_n 0, 1) from by decide +kernel)
theorem dX10_all_78 {l : Nat} : decode (dc (DX10_all l)) 78 = .ok (.iload_n 1, 1) := (show decode cX10_all 78 = .ok (.iload_n 1, 1) from by decide +kernel)
theorem dX10_all_79 {l : Nat} : decode (dc (DX10_all l)) 79 = .ok (.iload 5, 2) := (show decode cX10_all 79 = .ok (.iload 5, 2) from by decide +kernel)
theorem dX10_all_81 {l : Nat} : decode (dc (DX10_all l)) 81 = .ok (.invokevirtual 48, 3) := (show decode cX10_all 81 = .ok (.invokevirtual 48, 3) from by decide +kernel)
theorem dX10_all_84 {l : Nat} : decode (dc (DX10_all l)) 84 = .ok (.ifCond .eq 131, 3) := (show decode cX10_all 84 = .ok (.ifCond .eq 131, 3) from by decide +kernel)
theorem dX10_all_87 {l : Nat} : decode (dc (DX10_all l)) 87 = .ok (.iload_n 2, 1) := (show decode cX10_all 87 = .ok (.iload_n 2, 1) from by decide +kernel)
theorem dX10_all_88 {l : Nat} : decode (dc (DX10_all l)) 88 = .ok (.iload 5, 2) := (show decode cX10_all 88 = .ok (.iload 5, 2) from by decide +kernel)
theorem dX10_all_90 {l : Nat} : decode (dc (DX10_all l)) 90 = .ok (.ishr, 1) := (show decode cX10_all 90 = .ok (.ishr, 1) from by decide +kernel)
theorem dX10_all_91 {l : Nat} : decode (dc (DX10_all l)) 91 = .ok (.iconst 1, 1) := (show decode cX10_all 91 = .ok (.iconst 1, 1) from by decide +kernel)
theorem dX10_all_92 {l : Nat} : decode (dc (DX10_all l)) 92 = .ok (.iand, 1) := (show decode cX10_all 92 = .ok (.iand, 1) from by decide +kernel)
theorem dX10_all_93 {l : Nat} : decode (dc (DX10_all l)) 93 = .ok (.iconst 1, 1) := (show decode cX10_all 93 = .ok (.iconst 1, 1) from by decide +kernel)
theorem dX10_all_94 {l : Nat} : decode (dc (DX10_all l)) 94 = .ok (.if_icmp .ne 6, 3) := (show decode cX10_all 94 = .ok (.if_icmp .ne 6, 3) from by decide +kernel)
theorem dX10_all_97 {l : Nat} : decode (dc (DX10_all l)) 97 = .ok (.goto 118, 3) := (show decode cX10_all 97 = .ok (.goto 118, 3) from by decide +kernel)
theorem dX10_all_100 {l : Nat} : decode (dc (DX10_all l)) 100 = .ok (.aload_n 0, 1) := (show decode cX10_all 100 = .ok (.aload_n 0, 1) from by decide +kernel)
theorem dX10_all_101 {l : Nat} : decode (dc (DX10_all l)) 101 = .ok (.iload_n 1, 1) := (show decode cX10_all 101 = .ok (.iload_n 1, 1) from by decide +kernel)
theorem dX10_all_102 {l : Nat} : decode (dc (DX10_all l)) 102 = .ok (.iconst 1, 1) := (show decode cX10_all 102 = .ok (.iconst 1, 1) from by decide +kernel)
theorem dX10_all_103 {l : Nat} : decode (dc (DX10_all l)) 103 = .ok (.iadd, 1) := (show decode cX10_all 103 = .ok (.iadd, 1) from by decide +kernel)
theorem dX10_all_104 {l : Nat} : decode (dc (DX10_all l)) 104 = .ok (.iload_n 2, 1) := (show decode cX10_all 104 = .ok (.iload_n 2, 1) from by decide +kernel)
theorem dX10_all_105 {l : Nat} : decode (dc (DX10_all l)) 105 = .ok (.iconst 1, 1) := (show decode cX10_all 105 = .ok (.iconst 1, 1) from by decide +kernel)
theorem dX10_all_106 {l : Nat} : decode (dc (DX10_all l)) 106 = .ok (.iload 5, 2) := (show decode cX10_all 106 = .ok (.iload 5, 2) from by decide +kernel)
theorem dX10_all_108 {l : Nat} : decode (dc (DX10_all l)) 108 = .ok (.ishl, 1) := (show decode cX10_all 108 = .ok (.ishl, 1) from by decide +kernel)
theorem dX10_all_109 {l : Nat} : decode (dc (DX10_all l)) 109 = .ok (.ior, 1) := (show decode cX10_all 109 = .ok (.ior, 1) from by decide +kernel)
theorem dX10_all_110 {l : Nat} : decode (dc (DX10_all l)) 110 = .ok (.iload_n 3, 1) := (show decode cX10_all 110 = .ok (.iload_n 3, 1) from by decide +kernel)
theorem dX10_all_111 {l : Nat} : decode (dc (DX10_all l)) 111 = .ok (.iconst 1, 1) := (show decode cX10_all 111 = .ok (.iconst 1, 1) from by decide +kernel)
theorem dX10_all_112 {l : Nat} : decode (dc (DX10_all l)) 112 = .ok (.isub, 1) := (show decode cX10_all 112 = .ok (.isub, 1) from by decide +kernel)
theorem dX10_all_113 {l : Nat} : decode (dc (DX10_all l)) 113 = .ok (.invokevirtual 59, 3) := (show decode cX10_all 113 = .ok (.invokevirtual 59, 3) from by decide +kernel)
theorem dX10_all_116 {l : Nat} : decode (dc (DX10_all l)) 116 = .ok (.astore 6, 2) := (show decode cX10_all 116 = .ok (.astore 6, 2) from by decide +kernel)
theorem dX10_all_118 {l : Nat} : decode (dc (DX10_all l)) 118 = .ok (.aload 4, 2) := (show decode cX10_all 118 = .ok (.aload 4, 2) from by decide +kernel)
theorem dX10_all_120 {l : Nat} : decode (dc (DX10_all l)) 120 = .ok (.iconst 0, 1) := (show decode cX10_all 120 = .ok (.iconst 0, 1) from by decide +kernel)
theorem dX10_all_121 {l : Nat} : decode (dc (DX10_all l)) 121 = .ok (.dup2, 1) := (show decode cX10_all 121 = .ok (.dup2, 1) from by decide +kernel)
theorem dX10_all_122 {l : Nat} : decode (dc (DX10_all l)) 122 = .ok (.laload, 1) := (show decode cX10_all 122 = .ok (.laload, 1) from by decide +kernel)
theorem dX10_all_123 {l : Nat} : decode (dc (DX10_all l)) 123 = .ok (.aload 6, 2) := (show decode cX10_all 123 = .ok (.aload 6, 2) from by decide +kernel)
theorem dX10_all_125 {l : Nat} : decode (dc (DX10_all l)) 125 = .ok (.iconst 0, 1) := (show decode cX10_all 125 = .ok (.iconst 0, 1) from by decide +kernel)
theorem dX10_all_126 {l : Nat} : decode (dc (DX10_all l)) 126 = .ok (.laload, 1) := (show decode cX10_all 126 = .ok (.laload, 1) from by decide +kernel)
theorem dX10_all_127 {l : Nat} : decode (dc (DX10_all l)) 127 = .ok (.ladd, 1) := (show decode cX10_all 127 = .ok (.ladd, 1) from by decide +kernel)
theorem dX10_all_128 {l : Nat} : decode (dc (DX10_all l)) 128 = .ok (.lastore, 1) := (show decode cX10_all 128 = .ok (.lastore, 1) from by decide +kernel)
theorem dX10_all_129 {l : Nat} : decode (dc (DX10_all l)) 129 = .ok (.aload 6, 2) := (show decode cX10_all 129 = .ok (.aload 6, 2) from by decide +kernel)
theorem dX10_all_131 {l : Nat} : decode (dc (DX10_all l)) 131 = .ok (.iconst 2, 1) := (show decode cX10_all 131 = .ok (.iconst 2, 1) from by decide +kernel)
theorem dX10_all_132 {l : Nat} : decode (dc (DX10_all l)) 132 = .ok (.laload, 1) := (show decode cX10_all 132 = .ok (.laload, 1) from by decide +kernel)
theorem dX10_all_133 {l : Nat} : decode (dc (DX10_all l)) 133 = .ok (.lconst 0, 1) := (show decode cX10_all 133 = .ok (.lconst 0, 1) from by decide +kernel)
theorem dX10_all_134 {l : Nat} : decode (dc (DX10_all l)) 134 = .ok (.lcmp, 1) := (show decode cX10_all 134 = .ok (.lcmp, 1) from by decide +kernel)
theorem dX10_all_135 {l : Nat} : decode (dc (DX10_all l)) 135 = .ok (.ifCond .ne 6, 3) := (show decode cX10_all 135 = .ok (.ifCond .ne 6, 3) from by decide +kernel)
theorem dX10_all_138 {l : Nat} : decode (dc (DX10_all l)) 138 = .ok (.goto 77, 3) := (show decode cX10_all 138 = .ok (.goto 77, 3) from by decide +kernel)
theorem dX10_all_141 {l : Nat} : decode (dc (DX10_all l)) 141 = .ok (.aload 6, 2) := (show decode cX10_all 141 = .ok (.aload 6, 2) from by decide +kernel)
theorem dX10_all_143 {l : Nat} : decode (dc (DX10_all l)) 143 = .ok (.iconst 1, 1) := (show decode cX10_all 143 = .ok (.iconst 1, 1) from by decide +kernel)
theorem dX10_all_144 {l : Nat} : decode (dc (DX10_all l)) 144 = .ok (.laload, 1) := (show decode cX10_all 144 = .ok (.laload, 1) from by decide +kernel)
theorem dX10_all_145 {l : Nat} : decode (dc (DX10_all l)) 145 = .ok (.aload_n 0, 1) := (show decode cX10_all 145 = .ok (.aload_n 0, 1) from by decide +kernel)
theorem dX10_all_146 {l : Nat} : decode (dc (DX10_all l)) 146 = .ok (.getfield 28, 3) := (show decode cX10_all 146 = .ok (.getfield 28, 3) from by decide +kernel)
theorem dX10_all_149 {l : Nat} : decode (dc (DX10_all l)) 149 = .ok (.iload_n 1, 1) := (show decode cX10_all 149 = .ok (.iload_n 1, 1) from by decide +kernel)
theorem dX10_all_150 {l : Nat} : decode (dc (DX10_all l)) 150 = .ok (.aaload, 1) := (show decode cX10_all 150 = .ok (.aaload, 1) from by decide +kernel)
theorem dX10_all_151 {l : Nat} : decode (dc (DX10_all l)) 151 = .ok (.iload 5, 2) := (show decode cX10_all 151 = .ok (.iload 5, 2) from by decide +kernel)
theorem dX10_all_153 {l : Nat} : decode (dc (DX10_all l)) 153 = .ok (.iaload, 1) := (show decode cX10_all 153 = .ok (.iaload, 1) from by decide +kernel)
theorem dX10_all_154 {l : Nat} : decode (dc (DX10_all l)) 154 = .ok (.i2l, 1) := (show decode cX10_all 154 = .ok (.i2l, 1) from by decide +kernel)
theorem dX10_all_155 {l : Nat} : decode (dc (DX10_all l)) 155 = .ok (.ladd, 1) := (show decode cX10_all 155 = .ok (.ladd, 1) from by decide +kernel)
theorem dX10_all_156 {l : Nat} : decode (dc (DX10_all l)) 156 = .ok (.lstore 7, 2) := (show decode cX10_all 156 = .ok (.lstore 7, 2) from by decide +kernel)
theorem dX10_all_158 {l : Nat} : decode (dc (DX10_all l)) 158 = .ok (.lload 7, 2) := (show decode cX10_all 158 = .ok (.lload 7, 2) from by decide +kernel)
theorem dX10_all_160 {l : Nat} : decode (dc (DX10_all l)) 160 = .ok (.aload 4, 2) := (show decode cX10_all 160 = .ok (.aload 4, 2) from by decide +kernel)
theorem dX10_all_162 {l : Nat} : decode (dc (DX10_all l)) 162 = .ok (.iconst 1, 1) := (show decode cX10_all 162 = .ok (.iconst 1, 1) from by decide +kernel)
theorem dX10_all_163 {l : Nat} : decode (dc (DX10_all l)) 163 = .ok (.laload, 1) := (show decode cX10_all 163 = .ok (.laload, 1) from by decide +kernel)
theorem dX10_all_164 {l : Nat} : decode (dc (DX10_all l)) 164 = .ok (.lcmp, 1) := (show decode cX10_all 164 = .ok (.lcmp, 1) from by decide +kernel)
theorem dX10_all_165 {l : Nat} : decode (dc (DX10_all l)) 165 = .ok (.ifCond .lt 12, 3) := (show decode cX10_all 165 = .ok (.ifCond .lt 12, 3) from by decide +kernel)
theorem dX10_all_168 {l : Nat} : decode (dc (DX10_all l)) 168 = .ok (.aload 4, 2) := (show decode cX10_all 168 = .ok (.aload 4, 2) from by decide +kernel)
theorem dX10_all_170 {l : Nat} : decode (dc (DX10_all l)) 170 = .ok (.iconst 2, 1) := (show decode cX10_all 170 = .ok (.iconst 2, 1) from by decide +kernel)
theorem dX10_all_171 {l : Nat} : decode (dc (DX10_all l)) 171 = .ok (.laload, 1) := (show decode cX10_all 171 = .ok (.laload, 1) from by decide +kernel)
theorem dX10_all_172 {l : Nat} : decode (dc (DX10_all l)) 172 = .ok (.lconst 0, 1) := (show decode cX10_all 172 = .ok (.lconst 0, 1) from by decide +kernel)
theorem dX10_all_173 {l : Nat} : decode (dc (DX10_all l)) 173 = .ok (.lcmp, 1) := (show decode cX10_all 173 = .ok (.lcmp, 1) from by decide +kernel)
theorem dX10_all_174 {l : Nat} : decode (dc (DX10_all l)) 174 = .ok (.ifCond .ne 20, 3) := (show decode cX10_all 174 = .ok (.ifCond .ne 20, 3) from by decide +kernel)
theorem dX10_all_177 {l : Nat} : decode (dc (DX10_all l)) 177 = .ok (.aload 4, 2) := (show decode cX10_all 177 = .ok (.aload 4, 2) from by decide +kernel)
theorem dX10_all_179 {l : Nat} : decode (dc (DX10_all l)) 179 = .ok (.iconst 1, 1) := (show decode cX10_all 179 = .ok (.iconst 1, 1) from by decide +kernel)
theorem dX10_all_180 {l : Nat} : decode (dc (DX10_all l)) 180 = .ok (.lload 7, 2) := (show decode cX10_all 180 = .ok (.lload 7, 2) from by decide +kernel)
theorem dX10_all_182 {l : Nat} : decode (dc (DX10_all l)) 182 = .ok (.lastore, 1) := (show decode cX10_all 182 = .ok (.lastore, 1) from by decide +kernel)
theorem dX10_all_183 {l : Nat} : decode (dc (DX10_all l)) 183 = .ok (.aload 4, 2) := (show decode cX10_all 183 = .ok (.aload 4, 2) from by decide +kernel)
theorem dX10_all_185 {l : Nat} : decode (dc (DX10_all l)) 185 = .ok (.iconst 2, 1) := (show decode cX10_all 185 = .ok (.iconst 2, 1) from by decide +kernel)
theorem dX10_all_186 {l : Nat} : decode (dc (DX10_all l)) 186 = .ok (.aload 6, 2) := (show decode cX10_all 186 = .ok (.aload 6, 2) from by decide +kernel)
theorem dX10_all_188 {l : Nat} : decode (dc (DX10_all l)) 188 = .ok (.iconst 2, 1) := (show decode cX10_all 188 = .ok (.iconst 2, 1) from by decide +kernel)
theorem dX10_all_189 {l : Nat} : decode (dc (DX10_all l)) 189 = .ok (.laload, 1) := (show decode cX10_all 189 = .ok (.laload, 1) from by decide +kernel)
theorem dX10_all_190 {l : Nat} : decode (dc (DX10_all l)) 190 = .ok (.lastore, 1) := (show decode cX10_all 190 = .ok (.lastore, 1) from by decide +kernel)
theorem dX10_all_191 {l : Nat} : decode (dc (DX10_all l)) 191 = .ok (.goto 24, 3) := (show decode cX10_all 191 = .ok (.goto 24, 3) from by decide +kernel)
theorem dX10_all_194 {l : Nat} : decode (dc (DX10_all l)) 194 = .ok (.lload 7, 2) := (show decode cX10_all 194 = .ok (.lload 7, 2) from by decide +kernel)
theorem dX10_all_196 {l : Nat} : decode (dc (DX10_all l)) 196 = .ok (.aload 4, 2) := (show decode cX10_all 196 = .ok (.aload 4, 2) from by decide +kernel)
theorem dX10_all_198 {l : Nat} : decode (dc (DX10_all l)) 198 = .ok (.iconst 1, 1) := (show decode cX10_all 198 = .ok (.iconst 1, 1) from by decide +kernel)
theorem dX10_all_199 {l : Nat} : decode (dc (DX10_all l)) 199 = .ok (.laload, 1) := (show decode cX10_all 199 = .ok (.laload, 1) from by decide +kernel)
theorem dX10_all_200 {l : Nat} : decode (dc (DX10_all l)) 200 = .ok (.lcmp, 1) := (show decode cX10_all 200 = .ok (.lcmp, 1) from by decide +kernel)
theorem dX10_all_201 {l : Nat} : decode (dc (DX10_all l)) 201 = .ok (.ifCond .ne 14, 3) := (show decode cX10_all 201 = .ok (.ifCond .ne 14, 3) from by decide +kernel)
theorem dX10_all_204 {l : Nat} : decode (dc (DX10_all l)) 204 = .ok (.aload 4, 2) := (show decode cX10_all 204 = .ok (.aload 4, 2) from by decide +kernel)
theorem dX10_all_206 {l : Nat} : decode (dc (DX10_all l)) 206 = .ok (.iconst 2, 1) := (show decode cX10_all 206 = .ok (.iconst 2, 1) from by decide +kernel)
theorem dX10_all_207 {l : Nat} : decode (dc (DX10_all l)) 207 = .ok (.dup2, 1) := (show decode cX10_all 207 = .ok (.dup2, 1) from by decide +kernel)
theorem dX10_all_208 {l : Nat} : decode (dc (DX10_all l)) 208 = .ok (.laload, 1) := (show decode cX10_all 208 = .ok (.laload, 1) from by decide +kernel)
theorem dX10_all_209 {l : Nat} : decode (dc (DX10_all l)) 209 = .ok (.aload 6, 2) := (show decode cX10_all 209 = .ok (.aload 6, 2) from by decide +kernel)
theorem dX10_all_211 {l : Nat} : decode (dc (DX10_all l)) 211 = .ok (.iconst 2, 1) := (show decode cX10_all 211 = .ok (.iconst 2, 1) from by decide +kernel)
theorem dX10_all_212 {l : Nat} : decode (dc (DX10_all l)) 212 = .ok (.laload, 1) := (show decode cX10_all 212 = .ok (.laload, 1) from by decide +kernel)
theorem dX10_all_213 {l : Nat} : decode (dc (DX10_all l)) 213 = .ok (.ladd, 1) := (show decode cX10_all 213 = .ok (.ladd, 1) from by decide +kernel)
theorem dX10_all_214 {l : Nat} : decode (dc (DX10_all l)) 214 = .ok (.lastore, 1) := (show decode cX10_all 214 = .ok (.lastore, 1) from by decide +kernel)
theorem dX10_all_215 {l : Nat} : decode (dc (DX10_all l)) 215 = .ok (.iinc 5 1, 3) := (show decode cX10_all 215 = .ok (.iinc 5 1, 3) from by decide +kernel)
theorem dX10_all_218 {l : Nat} : decode (dc (DX10_all l)) 218 = .ok (.goto (-154), 3) := (show decode cX10_all 218 = .ok (.goto (-154), 3) from by decide +kernel)
theorem dX10_all_221 {l : Nat} : decode (dc (DX10_all l)) 221 = .ok (.aload 4, 2) := (show decode cX10_all 221 = .ok (.aload 4, 2) from by decide +kernel)
theorem dX10_all_223 {l : Nat} : decode (dc (DX10_all l)) 223 = .ok (.areturn, 1) := (show decode cX10_all 223 = .ok (.areturn, 1) from by decide +kernel)
theorem dX10_goes_0 {l : Nat} : decode (dc (DX10_goes l)) 0 = .ok (.aload_n 1, 1) := (show decode cX10_goes 0 = .ok (.aload_n 1, 1) from by decide +kernel)
theorem dX10_goes_1 {l : Nat} : decode (dc (DX10_goes l)) 1 = .ok (.iload_n 2, 1) := (show decode cX10_goes 1 = .ok (.iload_n 2, 1) from by decide +kernel)
theorem dX10_goes_2 {l : Nat} : decode (dc (DX10_goes l)) 2 = .ok (.iload_n 3, 1) := (show decode cX10_goes 2 = .ok (.iload_n 3, 1) from by decide +kernel)
theorem dX10_goes_3 {l : Nat} : decode (dc (DX10_goes l)) 3 = .ok (.iastore, 1) := (show decode cX10_goes 3 = .ok (.iastore, 1) from by decide +kernel)
theorem dX10_goes_4 {l : Nat} : decode (dc (DX10_goes l)) 4 = .ok (.iconst 0, 1) := (show decode cX10_goes 4 = .ok (.iconst 0, 1) from by decide +kernel)
theorem dX10_goes_5 {l : Nat} : decode (dc (DX10_goes l)) 5 = .ok (.istore 6, 2) := (show decode cX10_goes 5 = .ok (.istore 6, 2) from by decide +kernel)
theorem dX10_goes_7 {l : Nat} : decode (dc (DX10_goes l)) 7 = .ok (.iload 6, 2) := (show decode cX10_goes 7 = .ok (.iload 6, 2) from by decide +kernel)
theorem dX10_goes_9 {l : Nat} : decode (dc (DX10_goes l)) 9 = .ok (.aload_n 0, 1) := (show decode cX10_goes 9 = .ok (.aload_n 0, 1) from by decide +kernel)
theorem dX10_goes_10 {l : Nat} : decode (dc (DX10_goes l)) 10 = .ok (.getfield 13, 3) := (show decode cX10_goes 10 = .ok (.getfield 13, 3) from by decide +kernel)
theorem dX10_goes_13 {l : Nat} : decode (dc (DX10_goes l)) 13 = .ok (.if_icmp .ge 118, 3) := (show decode cX10_goes 13 = .ok (.if_icmp .ge 118, 3) from by decide +kernel)
theorem dX10_goes_16 {l : Nat} : decode (dc (DX10_goes l)) 16 = .ok (.aload_n 0, 1) := (show decode cX10_goes 16 = .ok (.aload_n 0, 1) from by decide +kernel)
theorem dX10_goes_17 {l : Nat} : decode (dc (DX10_goes l)) 17 = .ok (.iload_n 3, 1) := (show decode cX10_goes 17 = .ok (.iload_n 3, 1) from by decide +kernel)
theorem dX10_goes_18 {l : Nat} : decode (dc (DX10_goes l)) 18 = .ok (.iload 6, 2) := (show decode cX10_goes 18 = .ok (.iload 6, 2) from by decide +kernel)
theorem dX10_goes_20 {l : Nat} : decode (dc (DX10_goes l)) 20 = .ok (.invokevirtual 48, 3) := (show decode cX10_goes 20 = .ok (.invokevirtual 48, 3) from by decide +kernel)
theorem dX10_goes_23 {l : Nat} : decode (dc (DX10_goes l)) 23 = .ok (.ifCond .eq 102, 3) := (show decode cX10_goes 23 = .ok (.ifCond .eq 102, 3) from by decide +kernel)
theorem dX10_goes_26 {l : Nat} : decode (dc (DX10_goes l)) 26 = .ok (.aload_n 0, 1) := (show decode cX10_goes 26 = .ok (.aload_n 0, 1) from by decide +kernel)
theorem dX10_goes_27 {l : Nat} : decode (dc (DX10_goes l)) 27 = .ok (.getfield 31, 3) := (show decode cX10_goes 27 = .ok (.getfield 31, 3) from by decide +kernel)
theorem dX10_goes_30 {l : Nat} : decode (dc (DX10_goes l)) 30 = .ok (.iload_n 3, 1) := (show decode cX10_goes 30 = .ok (.iload_n 3, 1) from by decide +kernel)
theorem dX10_goes_31 {l : Nat} : decode (dc (DX10_goes l)) 31 = .ok (.iaload, 1) := (show decode cX10_goes 31 = .ok (.iaload, 1) from by decide +kernel)
theorem dX10_goes_32 {l : Nat} : decode (dc (DX10_goes l)) 32 = .ok (.iload 6, 2) := (show decode cX10_goes 32 = .ok (.iload 6, 2) from by decide +kernel)
theorem dX10_goes_34 {l : Nat} : decode (dc (DX10_goes l)) 34 = .ok (.if_icmp .eq 91, 3) := (show decode cX10_goes 34 = .ok (.if_icmp .eq 91, 3) from by decide +kernel)
theorem dX10_goes_37 {l : Nat} : decode (dc (DX10_goes l)) 37 = .ok (.iload 5, 2) := (show decode cX10_goes 37 = .ok (.iload 5, 2) from by decide +kernel)
theorem dX10_goes_39 {l : Nat} : decode (dc (DX10_goes l)) 39 = .ok (.iload 6, 2) := (show decode cX10_goes 39 = .ok (.iload 6, 2) from by decide +kernel)
theorem dX10_goes_41 {l : Nat} : decode (dc (DX10_goes l)) 41 = .ok (.ishr, 1) := (show decode cX10_goes 41 = .ok (.ishr, 1) from by decide +kernel)
theorem dX10_goes_42 {l : Nat} : decode (dc (DX10_goes l)) 42 = .ok (.iconst 1, 1) := (show decode cX10_goes 42 = .ok (.iconst 1, 1) from by decide +kernel)
theorem dX10_goes_43 {l : Nat} : decode (dc (DX10_goes l)) 43 = .ok (.iand, 1) := (show decode cX10_goes 43 = .ok (.iand, 1) from by decide +kernel)
theorem dX10_goes_44 {l : Nat} : decode (dc (DX10_goes l)) 44 = .ok (.iconst 1, 1) := (show decode cX10_goes 44 = .ok (.iconst 1, 1) from by decide +kernel)
theorem dX10_goes_45 {l : Nat} : decode (dc (DX10_goes l)) 45 = .ok (.if_icmp .ne 6, 3) := (show decode cX10_goes 45 = .ok (.if_icmp .ne 6, 3) from by decide +kernel)
theorem dX10_goes_48 {l : Nat} : decode (dc (DX10_goes l)) 48 = .ok (.goto 77, 3) := (show decode cX10_goes 48 = .ok (.goto 77, 3) from by decide +kernel)
theorem dX10_goes_51 {l : Nat} : decode (dc (DX10_goes l)) 51 = .ok (.aload_n 0, 1) := (show decode cX10_goes 51 = .ok (.aload_n 0, 1) from by decide +kernel)
theorem dX10_goes_52 {l : Nat} : decode (dc (DX10_goes l)) 52 = .ok (.iload 6, 2) := (show decode cX10_goes 52 = .ok (.iload 6, 2) from by decide +kernel)
theorem dX10_goes_54 {l : Nat} : decode (dc (DX10_goes l)) 54 = .ok (.invokevirtual 67, 3) := (show decode cX10_goes 54 = .ok (.invokevirtual 67, 3) from by decide +kernel)
theorem dX10_goes_57 {l : Nat} : decode (dc (DX10_goes l)) 57 = .ok (.istore 7, 2) := (show decode cX10_goes 57 = .ok (.istore 7, 2) from by decide +kernel)
theorem dX10_goes_59 {l : Nat} : decode (dc (DX10_goes l)) 59 = .ok (.aload_n 1, 1) := (show decode cX10_goes 59 = .ok (.aload_n 1, 1) from by decide +kernel)
theorem dX10_goes_60 {l : Nat} : decode (dc (DX10_goes l)) 60 = .ok (.iload_n 2, 1) := (show decode cX10_goes 60 = .ok (.iload_n 2, 1) from by decide +kernel)
theorem dX10_goes_61 {l : Nat} : decode (dc (DX10_goes l)) 61 = .ok (.iconst 1, 1) := (show decode cX10_goes 61 = .ok (.iconst 1, 1) from by decide +kernel)
theorem dX10_goes_62 {l : Nat} : decode (dc (DX10_goes l)) 62 = .ok (.iadd, 1) := (show decode cX10_goes 62 = .ok (.iadd, 1) from by decide +kernel)
theorem dX10_goes_63 {l : Nat} : decode (dc (DX10_goes l)) 63 = .ok (.iload 6, 2) := (show decode cX10_goes 63 = .ok (.iload 6, 2) from by decide +kernel)
theorem dX10_goes_65 {l : Nat} : decode (dc (DX10_goes l)) 65 = .ok (.iastore, 1) := (show decode cX10_goes 65 = .ok (.iastore, 1) from by decide +kernel)
theorem dX10_goes_66 {l : Nat} : decode (dc (DX10_goes l)) 66 = .ok (.iload_n 2, 1) := (show decode cX10_goes 66 = .ok (.iload_n 2, 1) from by decide +kernel)
theorem dX10_goes_67 {l : Nat} : decode (dc (DX10_goes l)) 67 = .ok (.iconst 2, 1) := (show decode cX10_goes 67 = .ok (.iconst 2, 1) from by decide +kernel)
theorem dX10_goes_68 {l : Nat} : decode (dc (DX10_goes l)) 68 = .ok (.iadd, 1) := (show decode cX10_goes 68 = .ok (.iadd, 1) from by decide +kernel)
theorem dX10_goes_69 {l : Nat} : decode (dc (DX10_goes l)) 69 = .ok (.aload_n 1, 1) := (show decode cX10_goes 69 = .ok (.aload_n 1, 1) from by decide +kernel)
theorem dX10_goes_70 {l : Nat} : decode (dc (DX10_goes l)) 70 = .ok (.arraylength, 1) := (show decode cX10_goes 70 = .ok (.arraylength, 1) from by decide +kernel)
theorem dX10_goes_71 {l : Nat} : decode (dc (DX10_goes l)) 71 = .ok (.if_icmp .ne 10, 3) := (show decode cX10_goes 71 = .ok (.if_icmp .ne 10, 3) from by decide +kernel)
theorem dX10_goes_74 {l : Nat} : decode (dc (DX10_goes l)) 74 = .ok (.iload 7, 2) := (show decode cX10_goes 74 = .ok (.iload 7, 2) from by decide +kernel)
theorem dX10_goes_76 {l : Nat} : decode (dc (DX10_goes l)) 76 = .ok (.ifCond .ge 49, 3) := (show decode cX10_goes 76 = .ok (.ifCond .ge 49, 3) from by decide +kernel)
theorem dX10_goes_79 {l : Nat} : decode (dc (DX10_goes l)) 79 = .ok (.iconst 1, 1) := (show decode cX10_goes 79 = .ok (.iconst 1, 1) from by decide +kernel)
theorem dX10_goes_80 {l : Nat} : decode (dc (DX10_goes l)) 80 = .ok (.ireturn, 1) := (show decode cX10_goes 80 = .ok (.ireturn, 1) from by decide +kernel)
theorem dX10_goes_81 {l : Nat} : decode (dc (DX10_goes l)) 81 = .ok (.iload 7, 2) := (show decode cX10_goes 81 = .ok (.iload 7, 2) from by decide +kernel)
theorem dX10_goes_83 {l : Nat} : decode (dc (DX10_goes l)) 83 = .ok (.ifCond .lt 42, 3) := (show decode cX10_goes 83 = .ok (.ifCond .lt 42, 3) from by decide +kernel)
theorem dX10_goes_86 {l : Nat} : decode (dc (DX10_goes l)) 86 = .ok (.iload 4, 2) := (show decode cX10_goes 86 = .ok (.iload 4, 2) from by decide +kernel)
theorem dX10_goes_88 {l : Nat} : decode (dc (DX10_goes l)) 88 = .ok (.iload 7, 2) := (show decode cX10_goes 88 = .ok (.iload 7, 2) from by decide +kernel)
theorem dX10_goes_90 {l : Nat} : decode (dc (DX10_goes l)) 90 = .ok (.ishr, 1) := (show decode cX10_goes 90 = .ok (.ishr, 1) from by decide +kernel)
theorem dX10_goes_91 {l : Nat} : decode (dc (DX10_goes l)) 91 = .ok (.iconst 1, 1) := (show decode cX10_goes 91 = .ok (.iconst 1, 1) from by decide +kernel)
theorem dX10_goes_92 {l : Nat} : decode (dc (DX10_goes l)) 92 = .ok (.iand, 1) := (show decode cX10_goes 92 = .ok (.iand, 1) from by decide +kernel)
theorem dX10_goes_93 {l : Nat} : decode (dc (DX10_goes l)) 93 = .ok (.ifCond .ne 32, 3) := (show decode cX10_goes 93 = .ok (.ifCond .ne 32, 3) from by decide +kernel)
theorem dX10_goes_96 {l : Nat} : decode (dc (DX10_goes l)) 96 = .ok (.aload_n 0, 1) := (show decode cX10_goes 96 = .ok (.aload_n 0, 1) from by decide +kernel)
theorem dX10_goes_97 {l : Nat} : decode (dc (DX10_goes l)) 97 = .ok (.aload_n 1, 1) := (show decode cX10_goes 97 = .ok (.aload_n 1, 1) from by decide +kernel)
theorem dX10_goes_98 {l : Nat} : decode (dc (DX10_goes l)) 98 = .ok (.iload_n 2, 1) := (show decode cX10_goes 98 = .ok (.iload_n 2, 1) from by decide +kernel)
theorem dX10_goes_99 {l : Nat} : decode (dc (DX10_goes l)) 99 = .ok (.iconst 2, 1) := (show decode cX10_goes 99 = .ok (.iconst 2, 1) from by decide +kernel)
theorem dX10_goes_100 {l : Nat} : decode (dc (DX10_goes l)) 100 = .ok (.iadd, 1) := (show decode cX10_goes 100 = .ok (.iadd, 1) from by decide +kernel)
theorem dX10_goes_101 {l : Nat} : decode (dc (DX10_goes l)) 101 = .ok (.iload 7, 2) := (show decode cX10_goes 101 = .ok (.iload 7, 2) from by decide +kernel)
theorem dX10_goes_103 {l : Nat} : decode (dc (DX10_goes l)) 103 = .ok (.iload 4, 2) := (show decode cX10_goes 103 = .ok (.iload 4, 2) from by decide +kernel)
theorem dX10_goes_105 {l : Nat} : decode (dc (DX10_goes l)) 105 = .ok (.iconst 1, 1) := (show decode cX10_goes 105 = .ok (.iconst 1, 1) from by decide +kernel)
theorem dX10_goes_106 {l : Nat} : decode (dc (DX10_goes l)) 106 = .ok (.iload 7, 2) := (show decode cX10_goes 106 = .ok (.iload 7, 2) from by decide +kernel)
theorem dX10_goes_108 {l : Nat} : decode (dc (DX10_goes l)) 108 = .ok (.ishl, 1) := (show decode cX10_goes 108 = .ok (.ishl, 1) from by decide +kernel)
theorem dX10_goes_109 {l : Nat} : decode (dc (DX10_goes l)) 109 = .ok (.ior, 1) := (show decode cX10_goes 109 = .ok (.ior, 1) from by decide +kernel)
theorem dX10_goes_110 {l : Nat} : decode (dc (DX10_goes l)) 110 = .ok (.iload 5, 2) := (show decode cX10_goes 110 = .ok (.iload 5, 2) from by decide +kernel)
theorem dX10_goes_112 {l : Nat} : decode (dc (DX10_goes l)) 112 = .ok (.iconst 1, 1) := (show decode cX10_goes 112 = .ok (.iconst 1, 1) from by decide +kernel)
theorem dX10_goes_113 {l : Nat} : decode (dc (DX10_goes l)) 113 = .ok (.iload 6, 2) := (show decode cX10_goes 113 = .ok (.iload 6, 2) from by decide +kernel)
theorem dX10_goes_115 {l : Nat} : decode (dc (DX10_goes l)) 115 = .ok (.ishl, 1) := (show decode cX10_goes 115 = .ok (.ishl, 1) from by decide +kernel)
theorem dX10_goes_116 {l : Nat} : decode (dc (DX10_goes l)) 116 = .ok (.ior, 1) := (show decode cX10_goes 116 = .ok (.ior, 1) from by decide +kernel)
theorem dX10_goes_117 {l : Nat} : decode (dc (DX10_goes l)) 117 = .ok (.invokevirtual 63, 3) := (show decode cX10_goes 117 = .ok (.invokevirtual 63, 3) from by decide +kernel)
theorem dX10_goes_120 {l : Nat} : decode (dc (DX10_goes l)) 120 = .ok (.ifCond .eq 5, 3) := (show decode cX10_goes 120 = .ok (.ifCond .eq 5, 3) from by decide +kernel)
theorem dX10_goes_123 {l : Nat} : decode (dc (DX10_goes l)) 123 = .ok (.iconst 1, 1) := (show decode cX10_goes 123 = .ok (.iconst 1, 1) from by decide +kernel)
theorem dX10_goes_124 {l : Nat} : decode (dc (DX10_goes l)) 124 = .ok (.ireturn, 1) := (show decode cX10_goes 124 = .ok (.ireturn, 1) from by decide +kernel)
theorem dX10_goes_125 {l : Nat} : decode (dc (DX10_goes l)) 125 = .ok (.iinc 6 1, 3) := (show decode cX10_goes 125 = .ok (.iinc 6 1, 3) from by decide +kernel)
theorem dX10_goes_128 {l : Nat} : decode (dc (DX10_goes l)) 128 = .ok (.goto (-121), 3) := (show decode cX10_goes 128 = .ok (.goto (-121), 3) from by decide +kernel)
theorem dX10_goes_131 {l : Nat} : decode (dc (DX10_goes l)) 131 = .ok (.iconst 0, 1) := (show decode cX10_goes 131 = .ok (.iconst 0, 1) from by decide +kernel)
theorem dX10_goes_132 {l : Nat} : decode (dc (DX10_goes l)) 132 = .ok (.ireturn, 1) := (show decode cX10_goes 132 = .ok (.ireturn, 1) from by decide +kernel)
theorem dX10_way_0 : decode (dc DX10_way) 0 = .ok (.aload_n 0, 1) := by decide +kernel
theorem dX10_way_1 : decode (dc DX10_way) 1 = .ok (.getfield 20, 3) := by decide +kernel
theorem dX10_way_4 : decode (dc DX10_way) 4 = .ok (.iload_n 1, 1) := by decide +kernel
theorem dX10_way_5 : decode (dc DX10_way) 5 = .ok (.ishr, 1) := by decide +kernel
theorem dX10_way_6 : decode (dc DX10_way) 6 = .ok (.iconst 1, 1) := by decide +kernel
theorem dX10_way_7 : decode (dc DX10_way) 7 = .ok (.iand, 1) := by decide +kernel
theorem dX10_way_8 : decode (dc DX10_way) 8 = .ok (.ifCond .eq 12, 3) := by decide +kernel
theorem dX10_way_11 : decode (dc DX10_way) 11 = .ok (.aload_n 0, 1) := by decide +kernel
theorem dX10_way_12 : decode (dc DX10_way) 12 = .ok (.getfield 31, 3) := by decide +kernel
theorem dX10_way_15 : decode (dc DX10_way) 15 = .ok (.iload_n 1, 1) := by decide +kernel
theorem dX10_way_16 : decode (dc DX10_way) 16 = .ok (.iaload, 1) := by decide +kernel
theorem dX10_way_17 : decode (dc DX10_way) 17 = .ok (.ifCond .lt 5, 3) := by decide +kernel
theorem dX10_way_20 : decode (dc DX10_way) 20 = .ok (.aconst_null, 1) := by decide +kernel
theorem dX10_way_21 : decode (dc DX10_way) 21 = .ok (.areturn, 1) := by decide +kernel
theorem dX10_way_22 : decode (dc DX10_way) 22 = .ok (.iconst 1, 1) := by decide +kernel
theorem dX10_way_23 : decode (dc DX10_way) 23 = .ok (.istore_n 2, 1) := by decide +kernel
theorem dX10_way_24 : decode (dc DX10_way) 24 = .ok (.iload_n 2, 1) := by decide +kernel
theorem dX10_way_25 : decode (dc DX10_way) 25 = .ok (.aload_n 0, 1) := by decide +kernel
theorem dX10_way_26 : decode (dc DX10_way) 26 = .ok (.getfield 13, 3) := by decide +kernel
theorem dX10_way_29 : decode (dc DX10_way) 29 = .ok (.if_icmp .gt 31, 3) := by decide +kernel
theorem dX10_way_32 : decode (dc DX10_way) 32 = .ok (.iconst 2, 1) := by decide +kernel
theorem dX10_way_33 : decode (dc DX10_way) 33 = .ok (.iload_n 2, 1) := by decide +kernel
theorem dX10_way_34 : decode (dc DX10_way) 34 = .ok (.imul, 1) := by decide +kernel
theorem dX10_way_35 : decode (dc DX10_way) 35 = .ok (.newarray .int, 2) := by decide +kernel
theorem dX10_way_37 : decode (dc DX10_way) 37 = .ok (.astore_n 3, 1) := by decide +kernel
theorem dX10_way_38 : decode (dc DX10_way) 38 = .ok (.aload_n 0, 1) := by decide +kernel
theorem dX10_way_39 : decode (dc DX10_way) 39 = .ok (.aload_n 3, 1) := by decide +kernel
theorem dX10_way_40 : decode (dc DX10_way) 40 = .ok (.iconst 0, 1) := by decide +kernel
theorem dX10_way_41 : decode (dc DX10_way) 41 = .ok (.iload_n 1, 1) := by decide +kernel
theorem dX10_way_42 : decode (dc DX10_way) 42 = .ok (.iconst 1, 1) := by decide +kernel
theorem dX10_way_43 : decode (dc DX10_way) 43 = .ok (.iload_n 1, 1) := by decide +kernel
theorem dX10_way_44 : decode (dc DX10_way) 44 = .ok (.ishl, 1) := by decide +kernel
theorem dX10_way_45 : decode (dc DX10_way) 45 = .ok (.iconst 0, 1) := by decide +kernel
theorem dX10_way_46 : decode (dc DX10_way) 46 = .ok (.invokevirtual 63, 3) := by decide +kernel
theorem dX10_way_49 : decode (dc DX10_way) 49 = .ok (.ifCond .eq 5, 3) := by decide +kernel
theorem dX10_way_52 : decode (dc DX10_way) 52 = .ok (.aload_n 3, 1) := by decide +kernel
theorem dX10_way_53 : decode (dc DX10_way) 53 = .ok (.areturn, 1) := by decide +kernel
theorem dX10_way_54 : decode (dc DX10_way) 54 = .ok (.iinc 2 1, 3) := by decide +kernel
theorem dX10_way_57 : decode (dc DX10_way) 57 = .ok (.goto (-33), 3) := by decide +kernel
theorem dX10_way_60 : decode (dc DX10_way) 60 = .ok (.aconst_null, 1) := by decide +kernel
theorem dX10_way_61 : decode (dc DX10_way) 61 = .ok (.areturn, 1) := by decide +kernel
theorem dX10_theWay_0 : decode (dc DX10_theWay) 0 = .ok (.iconst 0, 1) := by decide +kernel
theorem dX10_theWay_1 : decode (dc DX10_theWay) 1 = .ok (.istore_n 1, 1) := by decide +kernel
theorem dX10_theWay_2 : decode (dc DX10_theWay) 2 = .ok (.iload_n 1, 1) := by decide +kernel
theorem dX10_theWay_3 : decode (dc DX10_theWay) 3 = .ok (.aload_n 0, 1) := by decide +kernel
theorem dX10_theWay_4 : decode (dc DX10_theWay) 4 = .ok (.getfield 7, 3) := by decide +kernel
theorem dX10_theWay_7 : decode (dc DX10_theWay) 7 = .ok (.if_icmp .ge 21, 3) := by decide +kernel
theorem dX10_theWay_10 : decode (dc DX10_theWay) 10 = .ok (.aload_n 0, 1) := by decide +kernel
theorem dX10_theWay_11 : decode (dc DX10_theWay) 11 = .ok (.iload_n 1, 1) := by decide +kernel
theorem dX10_theWay_12 : decode (dc DX10_theWay) 12 = .ok (.invokevirtual 71, 3) := by decide +kernel
theorem dX10_theWay_15 : decode (dc DX10_theWay) 15 = .ok (.astore_n 2, 1) := by decide +kernel
theorem dX10_theWay_16 : decode (dc DX10_theWay) 16 = .ok (.aload_n 2, 1) := by decide +kernel
theorem dX10_theWay_17 : decode (dc DX10_theWay) 17 = .ok (.ifnull 5, 3) := by decide +kernel
theorem dX10_theWay_20 : decode (dc DX10_theWay) 20 = .ok (.aload_n 2, 1) := by decide +kernel
theorem dX10_theWay_21 : decode (dc DX10_theWay) 21 = .ok (.areturn, 1) := by decide +kernel
theorem dX10_theWay_22 : decode (dc DX10_theWay) 22 = .ok (.iinc 1 1, 3) := by decide +kernel
theorem dX10_theWay_25 : decode (dc DX10_theWay) 25 = .ok (.goto (-23), 3) := by decide +kernel
theorem dX10_theWay_28 : decode (dc DX10_theWay) 28 = .ok (.aconst_null, 1) := by decide +kernel
theorem dX10_theWay_29 : decode (dc DX10_theWay) 29 = .ok (.areturn, 1) := by decide +kernel
theorem dX10_settles_0 : decode (dc DX10_settles) 0 = .ok (.iconst 0, 1) := by decide +kernel
theorem dX10_settles_1 : decode (dc DX10_settles) 1 = .ok (.istore_n 2, 1) := by decide +kernel
theorem dX10_settles_2 : decode (dc DX10_settles) 2 = .ok (.aload_n 0, 1) := by decide +kernel
theorem dX10_settles_3 : decode (dc DX10_settles) 3 = .ok (.invokevirtual 75, 3) := by decide +kernel
theorem dX10_settles_6 : decode (dc DX10_settles) 6 = .ok (.astore_n 3, 1) := by decide +kernel
theorem dX10_settles_7 : decode (dc DX10_settles) 7 = .ok (.aload_n 3, 1) := by decide +kernel
theorem dX10_settles_8 : decode (dc DX10_settles) 8 = .ok (.ifnull 50, 3) := by decide +kernel
theorem dX10_settles_11 : decode (dc DX10_settles) 11 = .ok (.iload_n 2, 1) := by decide +kernel
theorem dX10_settles_12 : decode (dc DX10_settles) 12 = .ok (.iload_n 1, 1) := by decide +kernel
theorem dX10_settles_13 : decode (dc DX10_settles) 13 = .ok (.if_icmp .ge 45, 3) := by decide +kernel
theorem dX10_settles_16 : decode (dc DX10_settles) 16 = .ok (.iconst 0, 1) := by decide +kernel
theorem dX10_settles_17 : decode (dc DX10_settles) 17 = .ok (.istore 4, 2) := by decide +kernel
theorem dX10_settles_19 : decode (dc DX10_settles) 19 = .ok (.iload 4, 2) := by decide +kernel
theorem dX10_settles_21 : decode (dc DX10_settles) 21 = .ok (.aload_n 3, 1) := by decide +kernel
theorem dX10_settles_22 : decode (dc DX10_settles) 22 = .ok (.arraylength, 1) := by decide +kernel
theorem dX10_settles_23 : decode (dc DX10_settles) 23 = .ok (.if_icmp .ge 24, 3) := by decide +kernel
theorem dX10_settles_26 : decode (dc DX10_settles) 26 = .ok (.aload_n 0, 1) := by decide +kernel
theorem dX10_settles_27 : decode (dc DX10_settles) 27 = .ok (.getfield 31, 3) := by decide +kernel
theorem dX10_settles_30 : decode (dc DX10_settles) 30 = .ok (.aload_n 3, 1) := by decide +kernel
theorem dX10_settles_31 : decode (dc DX10_settles) 31 = .ok (.iload 4, 2) := by decide +kernel
theorem dX10_settles_33 : decode (dc DX10_settles) 33 = .ok (.iaload, 1) := by decide +kernel
theorem dX10_settles_34 : decode (dc DX10_settles) 34 = .ok (.aload_n 3, 1) := by decide +kernel
theorem dX10_settles_35 : decode (dc DX10_settles) 35 = .ok (.iload 4, 2) := by decide +kernel
theorem dX10_settles_37 : decode (dc DX10_settles) 37 = .ok (.iconst 1, 1) := by decide +kernel
theorem dX10_settles_38 : decode (dc DX10_settles) 38 = .ok (.iadd, 1) := by decide +kernel
theorem dX10_settles_39 : decode (dc DX10_settles) 39 = .ok (.iaload, 1) := by decide +kernel
theorem dX10_settles_40 : decode (dc DX10_settles) 40 = .ok (.iastore, 1) := by decide +kernel
theorem dX10_settles_41 : decode (dc DX10_settles) 41 = .ok (.iinc 4 2, 3) := by decide +kernel
theorem dX10_settles_44 : decode (dc DX10_settles) 44 = .ok (.goto (-25), 3) := by decide +kernel
theorem dX10_settles_47 : decode (dc DX10_settles) 47 = .ok (.iinc 2 1, 3) := by decide +kernel
theorem dX10_settles_50 : decode (dc DX10_settles) 50 = .ok (.aload_n 0, 1) := by decide +kernel
theorem dX10_settles_51 : decode (dc DX10_settles) 51 = .ok (.invokevirtual 75, 3) := by decide +kernel
theorem dX10_settles_54 : decode (dc DX10_settles) 54 = .ok (.astore_n 3, 1) := by decide +kernel
theorem dX10_settles_55 : decode (dc DX10_settles) 55 = .ok (.goto (-48), 3) := by decide +kernel
theorem dX10_settles_58 : decode (dc DX10_settles) 58 = .ok (.iload_n 2, 1) := by decide +kernel
theorem dX10_settles_59 : decode (dc DX10_settles) 59 = .ok (.ireturn, 1) := by decide +kernel
theorem dX10_chosen_0 : decode (dc DX10_chosen) 0 = .ok (.iconst 0, 1) := by decide +kernel
theorem dX10_chosen_1 : decode (dc DX10_chosen) 1 = .ok (.istore_n 1, 1) := by decide +kernel
theorem dX10_chosen_2 : decode (dc DX10_chosen) 2 = .ok (.bipush 99, 2) := by decide +kernel
theorem dX10_chosen_4 : decode (dc DX10_chosen) 4 = .ok (.istore_n 2, 1) := by decide +kernel
theorem dX10_chosen_5 : decode (dc DX10_chosen) 5 = .ok (.iload_n 2, 1) := by decide +kernel
theorem dX10_chosen_6 : decode (dc DX10_chosen) 6 = .ok (.ifCond .lt 89, 3) := by decide +kernel
theorem dX10_chosen_9 : decode (dc DX10_chosen) 9 = .ok (.iconst 0, 1) := by decide +kernel
theorem dX10_chosen_10 : decode (dc DX10_chosen) 10 = .ok (.istore_n 3, 1) := by decide +kernel
theorem dX10_chosen_11 : decode (dc DX10_chosen) 11 = .ok (.iload_n 3, 1) := by decide +kernel
theorem dX10_chosen_12 : decode (dc DX10_chosen) 12 = .ok (.aload_n 0, 1) := by decide +kernel
theorem dX10_chosen_13 : decode (dc DX10_chosen) 13 = .ok (.getfield 7, 3) := by decide +kernel
theorem dX10_chosen_16 : decode (dc DX10_chosen) 16 = .ok (.if_icmp .ge 73, 3) := by decide +kernel
theorem dX10_chosen_19 : decode (dc DX10_chosen) 19 = .ok (.aload_n 0, 1) := by decide +kernel
theorem dX10_chosen_20 : decode (dc DX10_chosen) 20 = .ok (.getfield 35, 3) := by decide +kernel
theorem dX10_chosen_23 : decode (dc DX10_chosen) 23 = .ok (.iload_n 3, 1) := by decide +kernel
theorem dX10_chosen_24 : decode (dc DX10_chosen) 24 = .ok (.iaload, 1) := by decide +kernel
theorem dX10_chosen_25 : decode (dc DX10_chosen) 25 = .ok (.iload_n 2, 1) := by decide +kernel
theorem dX10_chosen_26 : decode (dc DX10_chosen) 26 = .ok (.if_icmp .ne 57, 3) := by decide +kernel
theorem dX10_chosen_29 : decode (dc DX10_chosen) 29 = .ok (.aload_n 0, 1) := by decide +kernel
theorem dX10_chosen_30 : decode (dc DX10_chosen) 30 = .ok (.getfield 20, 3) := by decide +kernel
theorem dX10_chosen_33 : decode (dc DX10_chosen) 33 = .ok (.iload_n 3, 1) := by decide +kernel
theorem dX10_chosen_34 : decode (dc DX10_chosen) 34 = .ok (.ishr, 1) := by decide +kernel
theorem dX10_chosen_35 : decode (dc DX10_chosen) 35 = .ok (.iconst 1, 1) := by decide +kernel
theorem dX10_chosen_36 : decode (dc DX10_chosen) 36 = .ok (.iand, 1) := by decide +kernel
theorem dX10_chosen_37 : decode (dc DX10_chosen) 37 = .ok (.ifCond .ne 6, 3) := by decide +kernel
theorem dX10_chosen_40 : decode (dc DX10_chosen) 40 = .ok (.goto 43, 3) := by decide +kernel
theorem dX10_chosen_43 : decode (dc DX10_chosen) 43 = .ok (.aload_n 0, 1) := by decide +kernel
theorem dX10_chosen_44 : decode (dc DX10_chosen) 44 = .ok (.invokevirtual 79, 3) := by decide +kernel
theorem dX10_chosen_47 : decode (dc DX10_chosen) 47 = .ok (.astore 4, 2) := by decide +kernel
theorem dX10_chosen_49 : decode (dc DX10_chosen) 49 = .ok (.aload 4, 2) := by decide +kernel
theorem dX10_chosen_51 : decode (dc DX10_chosen) 51 = .ok (.iload_n 1, 1) := by decide +kernel
theorem dX10_chosen_52 : decode (dc DX10_chosen) 52 = .ok (.iconst 1, 1) := by decide +kernel
theorem dX10_chosen_53 : decode (dc DX10_chosen) 53 = .ok (.iload_n 3, 1) := by decide +kernel
theorem dX10_chosen_54 : decode (dc DX10_chosen) 54 = .ok (.ishl, 1) := by decide +kernel
theorem dX10_chosen_55 : decode (dc DX10_chosen) 55 = .ok (.ior, 1) := by decide +kernel
theorem dX10_chosen_56 : decode (dc DX10_chosen) 56 = .ok (.putfield 20, 3) := by decide +kernel
theorem dX10_chosen_59 : decode (dc DX10_chosen) 59 = .ok (.aload 4, 2) := by decide +kernel
theorem dX10_chosen_61 : decode (dc DX10_chosen) 61 = .ok (.iconst 0, 1) := by decide +kernel
theorem dX10_chosen_62 : decode (dc DX10_chosen) 62 = .ok (.iconst 0, 1) := by decide +kernel
theorem dX10_chosen_63 : decode (dc DX10_chosen) 63 = .ok (.invokevirtual 44, 3) := by decide +kernel
theorem dX10_chosen_66 : decode (dc DX10_chosen) 66 = .ok (.aload 4, 2) := by decide +kernel
theorem dX10_chosen_68 : decode (dc DX10_chosen) 68 = .ok (.getfield 20, 3) := by decide +kernel
theorem dX10_chosen_71 : decode (dc DX10_chosen) 71 = .ok (.invokestatic 83, 3) := by decide +kernel
theorem dX10_chosen_74 : decode (dc DX10_chosen) 74 = .ok (.if_icmp .ne 9, 3) := by decide +kernel
theorem dX10_chosen_77 : decode (dc DX10_chosen) 77 = .ok (.aload 4, 2) := by decide +kernel
theorem dX10_chosen_79 : decode (dc DX10_chosen) 79 = .ok (.getfield 20, 3) := by decide +kernel
theorem dX10_chosen_82 : decode (dc DX10_chosen) 82 = .ok (.istore_n 1, 1) := by decide +kernel
theorem dX10_chosen_83 : decode (dc DX10_chosen) 83 = .ok (.iinc 3 1, 3) := by decide +kernel
theorem dX10_chosen_86 : decode (dc DX10_chosen) 86 = .ok (.goto (-75), 3) := by decide +kernel
theorem dX10_chosen_89 : decode (dc DX10_chosen) 89 = .ok (.iinc 2 (-1), 3) := by decide +kernel
theorem dX10_chosen_92 : decode (dc DX10_chosen) 92 = .ok (.goto (-87), 3) := by decide +kernel
theorem dX10_chosen_95 : decode (dc DX10_chosen) 95 = .ok (.iload_n 1, 1) := by decide +kernel
theorem dX10_chosen_96 : decode (dc DX10_chosen) 96 = .ok (.ireturn, 1) := by decide +kernel
theorem dX10_trades_0 : decode (dc DX10_trades) 0 = .ok (.iconst 0, 1) := by decide +kernel
theorem dX10_trades_1 : decode (dc DX10_trades) 1 = .ok (.istore_n 1, 1) := by decide +kernel
theorem dX10_trades_2 : decode (dc DX10_trades) 2 = .ok (.iconst (-1), 1) := by decide +kernel
theorem dX10_trades_3 : decode (dc DX10_trades) 3 = .ok (.istore_n 2, 1) := by decide +kernel
theorem dX10_trades_4 : decode (dc DX10_trades) 4 = .ok (.iconst (-1), 1) := by decide +kernel
theorem dX10_trades_5 : decode (dc DX10_trades) 5 = .ok (.istore_n 3, 1) := by decide +kernel
theorem dX10_trades_6 : decode (dc DX10_trades) 6 = .ok (.iconst 0, 1) := by decide +kernel
theorem dX10_trades_7 : decode (dc DX10_trades) 7 = .ok (.istore 4, 2) := by decide +kernel
theorem dX10_trades_9 : decode (dc DX10_trades) 9 = .ok (.iload 4, 2) := by decide +kernel
theorem dX10_trades_11 : decode (dc DX10_trades) 11 = .ok (.aload_n 0, 1) := by decide +kernel
theorem dX10_trades_12 : decode (dc DX10_trades) 12 = .ok (.getfield 7, 3) := by decide +kernel
theorem dX10_trades_15 : decode (dc DX10_trades) 15 = .ok (.if_icmp .ge 150, 3) := by decide +kernel
theorem dX10_trades_18 : decode (dc DX10_trades) 18 = .ok (.iload 4, 2) := by decide +kernel
theorem dX10_trades_20 : decode (dc DX10_trades) 20 = .ok (.iconst 1, 1) := by decide +kernel
theorem dX10_trades_21 : decode (dc DX10_trades) 21 = .ok (.iadd, 1) := by decide +kernel
theorem dX10_trades_22 : decode (dc DX10_trades) 22 = .ok (.istore 5, 2) := by decide +kernel
theorem dX10_trades_24 : decode (dc DX10_trades) 24 = .ok (.iload 5, 2) := by decide +kernel
theorem dX10_trades_26 : decode (dc DX10_trades) 26 = .ok (.aload_n 0, 1) := by decide +kernel
theorem dX10_trades_27 : decode (dc DX10_trades) 27 = .ok (.getfield 7, 3) := by decide +kernel
theorem dX10_trades_30 : decode (dc DX10_trades) 30 = .ok (.if_icmp .ge 129, 3) := by decide +kernel
theorem dX10_trades_33 : decode (dc DX10_trades) 33 = .ok (.aload_n 0, 1) := by decide +kernel
theorem dX10_trades_34 : decode (dc DX10_trades) 34 = .ok (.getfield 31, 3) := by decide +kernel
theorem dX10_trades_37 : decode (dc DX10_trades) 37 = .ok (.iload 4, 2) := by decide +kernel
theorem dX10_trades_39 : decode (dc DX10_trades) 39 = .ok (.iaload, 1) := by decide +kernel
theorem dX10_trades_40 : decode (dc DX10_trades) 40 = .ok (.istore 6, 2) := by decide +kernel
theorem dX10_trades_42 : decode (dc DX10_trades) 42 = .ok (.aload_n 0, 1) := by decide +kernel
theorem dX10_trades_43 : decode (dc DX10_trades) 43 = .ok (.getfield 31, 3) := by decide +kernel
theorem dX10_trades_46 : decode (dc DX10_trades) 46 = .ok (.iload 5, 2) := by decide +kernel
theorem dX10_trades_48 : decode (dc DX10_trades) 48 = .ok (.iaload, 1) := by decide +kernel
theorem dX10_trades_49 : decode (dc DX10_trades) 49 = .ok (.istore 7, 2) := by decide +kernel
theorem dX10_trades_51 : decode (dc DX10_trades) 51 = .ok (.iload 6, 2) := by decide +kernel
theorem dX10_trades_53 : decode (dc DX10_trades) 53 = .ok (.ifCond .lt 100, 3) := by decide +kernel
theorem dX10_trades_56 : decode (dc DX10_trades) 56 = .ok (.iload 7, 2) := by decide +kernel
theorem dX10_trades_58 : decode (dc DX10_trades) 58 = .ok (.ifCond .lt 95, 3) := by decide +kernel
theorem dX10_trades_61 : decode (dc DX10_trades) 61 = .ok (.aload_n 0, 1) := by decide +kernel
theorem dX10_trades_62 : decode (dc DX10_trades) 62 = .ok (.getfield 28, 3) := by decide +kernel
theorem dX10_trades_65 : decode (dc DX10_trades) 65 = .ok (.iload 4, 2) := by decide +kernel
theorem dX10_trades_67 : decode (dc DX10_trades) 67 = .ok (.aaload, 1) := by decide +kernel
theorem dX10_trades_68 : decode (dc DX10_trades) 68 = .ok (.iload 7, 2) := by decide +kernel
theorem dX10_trades_70 : decode (dc DX10_trades) 70 = .ok (.iaload, 1) := by decide +kernel
theorem dX10_trades_71 : decode (dc DX10_trades) 71 = .ok (.ifCond .lt 82, 3) := by decide +kernel
theorem dX10_trades_74 : decode (dc DX10_trades) 74 = .ok (.aload_n 0, 1) := by decide +kernel
theorem dX10_trades_75 : decode (dc DX10_trades) 75 = .ok (.getfield 28, 3) := by decide +kernel
theorem dX10_trades_78 : decode (dc DX10_trades) 78 = .ok (.iload 5, 2) := by decide +kernel
theorem dX10_trades_80 : decode (dc DX10_trades) 80 = .ok (.aaload, 1) := by decide +kernel
theorem dX10_trades_81 : decode (dc DX10_trades) 81 = .ok (.iload 6, 2) := by decide +kernel
theorem dX10_trades_83 : decode (dc DX10_trades) 83 = .ok (.iaload, 1) := by decide +kernel
theorem dX10_trades_84 : decode (dc DX10_trades) 84 = .ok (.ifCond .ge 6, 3) := by decide +kernel
theorem dX10_trades_87 : decode (dc DX10_trades) 87 = .ok (.goto 66, 3) := by decide +kernel
theorem dX10_trades_90 : decode (dc DX10_trades) 90 = .ok (.aload_n 0, 1) := by decide +kernel
theorem dX10_trades_91 : decode (dc DX10_trades) 91 = .ok (.getfield 28, 3) := by decide +kernel
theorem dX10_trades_94 : decode (dc DX10_trades) 94 = .ok (.iload 4, 2) := by decide +kernel
theorem dX10_trades_96 : decode (dc DX10_trades) 96 = .ok (.aaload, 1) := by decide +kernel
theorem dX10_trades_97 : decode (dc DX10_trades) 97 = .ok (.iload 6, 2) := by decide +kernel
theorem dX10_trades_99 : decode (dc DX10_trades) 99 = .ok (.iaload, 1) := by decide +kernel
theorem dX10_trades_100 : decode (dc DX10_trades) 100 = .ok (.aload_n 0, 1) := by decide +kernel
theorem dX10_trades_101 : decode (dc DX10_trades) 101 = .ok (.getfield 28, 3) := by decide +kernel
theorem dX10_trades_104 : decode (dc DX10_trades) 104 = .ok (.iload 5, 2) := by decide +kernel
theorem dX10_trades_106 : decode (dc DX10_trades) 106 = .ok (.aaload, 1) := by decide +kernel
theorem dX10_trades_107 : decode (dc DX10_trades) 107 = .ok (.iload 7, 2) := by decide +kernel
theorem dX10_trades_109 : decode (dc DX10_trades) 109 = .ok (.iaload, 1) := by decide +kernel
theorem dX10_trades_110 : decode (dc DX10_trades) 110 = .ok (.iadd, 1) := by decide +kernel
theorem dX10_trades_111 : decode (dc DX10_trades) 111 = .ok (.aload_n 0, 1) := by decide +kernel
theorem dX10_trades_112 : decode (dc DX10_trades) 112 = .ok (.getfield 28, 3) := by decide +kernel
theorem dX10_trades_115 : decode (dc DX10_trades) 115 = .ok (.iload 4, 2) := by decide +kernel
theorem dX10_trades_117 : decode (dc DX10_trades) 117 = .ok (.aaload, 1) := by decide +kernel
theorem dX10_trades_118 : decode (dc DX10_trades) 118 = .ok (.iload 7, 2) := by decide +kernel
theorem dX10_trades_120 : decode (dc DX10_trades) 120 = .ok (.iaload, 1) := by decide +kernel
theorem dX10_trades_121 : decode (dc DX10_trades) 121 = .ok (.isub, 1) := by decide +kernel
theorem dX10_trades_122 : decode (dc DX10_trades) 122 = .ok (.aload_n 0, 1) := by decide +kernel
theorem dX10_trades_123 : decode (dc DX10_trades) 123 = .ok (.getfield 28, 3) := by decide +kernel
theorem dX10_trades_126 : decode (dc DX10_trades) 126 = .ok (.iload 5, 2) := by decide +kernel
theorem dX10_trades_128 : decode (dc DX10_trades) 128 = .ok (.aaload, 1) := by decide +kernel
theorem dX10_trades_129 : decode (dc DX10_trades) 129 = .ok (.iload 6, 2) := by decide +kernel
theorem dX10_trades_131 : decode (dc DX10_trades) 131 = .ok (.iaload, 1) := by decide +kernel
theorem dX10_trades_132 : decode (dc DX10_trades) 132 = .ok (.isub, 1) := by decide +kernel
theorem dX10_trades_133 : decode (dc DX10_trades) 133 = .ok (.istore 8, 2) := by decide +kernel
theorem dX10_trades_135 : decode (dc DX10_trades) 135 = .ok (.iload 8, 2) := by decide +kernel
theorem dX10_trades_137 : decode (dc DX10_trades) 137 = .ok (.iload_n 1, 1) := by decide +kernel
theorem dX10_trades_138 : decode (dc DX10_trades) 138 = .ok (.if_icmp .gt 6, 3) := by decide +kernel
theorem dX10_trades_141 : decode (dc DX10_trades) 141 = .ok (.goto 12, 3) := by decide +kernel
theorem dX10_trades_144 : decode (dc DX10_trades) 144 = .ok (.iload 8, 2) := by decide +kernel
theorem dX10_trades_146 : decode (dc DX10_trades) 146 = .ok (.istore_n 1, 1) := by decide +kernel
theorem dX10_trades_147 : decode (dc DX10_trades) 147 = .ok (.iload 4, 2) := by decide +kernel
theorem dX10_trades_149 : decode (dc DX10_trades) 149 = .ok (.istore_n 2, 1) := by decide +kernel
theorem dX10_trades_150 : decode (dc DX10_trades) 150 = .ok (.iload 5, 2) := by decide +kernel
theorem dX10_trades_152 : decode (dc DX10_trades) 152 = .ok (.istore_n 3, 1) := by decide +kernel
theorem dX10_trades_153 : decode (dc DX10_trades) 153 = .ok (.iinc 5 1, 3) := by decide +kernel
theorem dX10_trades_156 : decode (dc DX10_trades) 156 = .ok (.goto (-132), 3) := by decide +kernel
theorem dX10_trades_159 : decode (dc DX10_trades) 159 = .ok (.iinc 4 1, 3) := by decide +kernel
theorem dX10_trades_162 : decode (dc DX10_trades) 162 = .ok (.goto (-153), 3) := by decide +kernel
theorem dX10_trades_165 : decode (dc DX10_trades) 165 = .ok (.iload_n 1, 1) := by decide +kernel
theorem dX10_trades_166 : decode (dc DX10_trades) 166 = .ok (.ifCond .ne 5, 3) := by decide +kernel
theorem dX10_trades_169 : decode (dc DX10_trades) 169 = .ok (.iconst 0, 1) := by decide +kernel
theorem dX10_trades_170 : decode (dc DX10_trades) 170 = .ok (.ireturn, 1) := by decide +kernel
theorem dX10_trades_171 : decode (dc DX10_trades) 171 = .ok (.aload_n 0, 1) := by decide +kernel
theorem dX10_trades_172 : decode (dc DX10_trades) 172 = .ok (.getfield 31, 3) := by decide +kernel
theorem dX10_trades_175 : decode (dc DX10_trades) 175 = .ok (.iload_n 2, 1) := by decide +kernel
theorem dX10_trades_176 : decode (dc DX10_trades) 176 = .ok (.iaload, 1) := by decide +kernel
theorem dX10_trades_177 : decode (dc DX10_trades) 177 = .ok (.istore 4, 2) := by decide +kernel
theorem dX10_trades_179 : decode (dc DX10_trades) 179 = .ok (.aload_n 0, 1) := by decide +kernel
theorem dX10_trades_180 : decode (dc DX10_trades) 180 = .ok (.getfield 31, 3) := by decide +kernel
theorem dX10_trades_183 : decode (dc DX10_trades) 183 = .ok (.iload_n 2, 1) := by decide +kernel
theorem dX10_trades_184 : decode (dc DX10_trades) 184 = .ok (.aload_n 0, 1) := by decide +kernel
theorem dX10_trades_185 : decode (dc DX10_trades) 185 = .ok (.getfield 31, 3) := by decide +kernel
theorem dX10_trades_188 : decode (dc DX10_trades) 188 = .ok (.iload_n 3, 1) := by decide +kernel
theorem dX10_trades_189 : decode (dc DX10_trades) 189 = .ok (.iaload, 1) := by decide +kernel
theorem dX10_trades_190 : decode (dc DX10_trades) 190 = .ok (.iastore, 1) := by decide +kernel
theorem dX10_trades_191 : decode (dc DX10_trades) 191 = .ok (.aload_n 0, 1) := by decide +kernel
theorem dX10_trades_192 : decode (dc DX10_trades) 192 = .ok (.getfield 31, 3) := by decide +kernel
theorem dX10_trades_195 : decode (dc DX10_trades) 195 = .ok (.iload_n 3, 1) := by decide +kernel
theorem dX10_trades_196 : decode (dc DX10_trades) 196 = .ok (.iload 4, 2) := by decide +kernel
theorem dX10_trades_198 : decode (dc DX10_trades) 198 = .ok (.iastore, 1) := by decide +kernel
theorem dX10_trades_199 : decode (dc DX10_trades) 199 = .ok (.iload_n 1, 1) := by decide +kernel
theorem dX10_trades_200 : decode (dc DX10_trades) 200 = .ok (.ireturn, 1) := by decide +kernel
theorem dX10_reached_0 : decode (dc DX10_reached) 0 = .ok (.aload_n 0, 1) := by decide +kernel
theorem dX10_reached_1 : decode (dc DX10_reached) 1 = .ok (.invokevirtual 79, 3) := by decide +kernel
theorem dX10_reached_4 : decode (dc DX10_reached) 4 = .ok (.astore_n 1, 1) := by decide +kernel
theorem dX10_reached_5 : decode (dc DX10_reached) 5 = .ok (.aload_n 1, 1) := by decide +kernel
theorem dX10_reached_6 : decode (dc DX10_reached) 6 = .ok (.bipush 99, 2) := by decide +kernel
theorem dX10_reached_8 : decode (dc DX10_reached) 8 = .ok (.invokevirtual 88, 3) := by decide +kernel
theorem dX10_reached_11 : decode (dc DX10_reached) 11 = .ok (.pop, 1) := by decide +kernel
theorem dX10_reached_12 : decode (dc DX10_reached) 12 = .ok (.iconst 4, 1) := by decide +kernel
theorem dX10_reached_13 : decode (dc DX10_reached) 13 = .ok (.newarray .int, 2) := by decide +kernel
theorem dX10_reached_15 : decode (dc DX10_reached) 15 = .ok (.astore_n 2, 1) := by decide +kernel
theorem dX10_reached_16 : decode (dc DX10_reached) 16 = .ok (.iconst 0, 1) := by decide +kernel
theorem dX10_reached_17 : decode (dc DX10_reached) 17 = .ok (.istore_n 3, 1) := by decide +kernel
theorem dX10_reached_18 : decode (dc DX10_reached) 18 = .ok (.iload_n 3, 1) := by decide +kernel
theorem dX10_reached_19 : decode (dc DX10_reached) 19 = .ok (.aload_n 0, 1) := by decide +kernel
theorem dX10_reached_20 : decode (dc DX10_reached) 20 = .ok (.getfield 7, 3) := by decide +kernel
theorem dX10_reached_23 : decode (dc DX10_reached) 23 = .ok (.if_icmp .ge 39, 3) := by decide +kernel
theorem dX10_reached_26 : decode (dc DX10_reached) 26 = .ok (.aload_n 0, 1) := by decide +kernel
theorem dX10_reached_27 : decode (dc DX10_reached) 27 = .ok (.getfield 20, 3) := by decide +kernel
theorem dX10_reached_30 : decode (dc DX10_reached) 30 = .ok (.iload_n 3, 1) := by decide +kernel
theorem dX10_reached_31 : decode (dc DX10_reached) 31 = .ok (.ishr, 1) := by decide +kernel
theorem dX10_reached_32 : decode (dc DX10_reached) 32 = .ok (.iconst 1, 1) := by decide +kernel
theorem dX10_reached_33 : decode (dc DX10_reached) 33 = .ok (.iand, 1) := by decide +kernel
theorem dX10_reached_34 : decode (dc DX10_reached) 34 = .ok (.iconst 1, 1) := by decide +kernel
theorem dX10_reached_35 : decode (dc DX10_reached) 35 = .ok (.if_icmp .ne 21, 3) := by decide +kernel
theorem dX10_reached_38 : decode (dc DX10_reached) 38 = .ok (.aload_n 1, 1) := by decide +kernel
theorem dX10_reached_39 : decode (dc DX10_reached) 39 = .ok (.getfield 31, 3) := by decide +kernel
theorem dX10_reached_42 : decode (dc DX10_reached) 42 = .ok (.iload_n 3, 1) := by decide +kernel
theorem dX10_reached_43 : decode (dc DX10_reached) 43 = .ok (.iaload, 1) := by decide +kernel
theorem dX10_reached_44 : decode (dc DX10_reached) 44 = .ok (.ifCond .ge 12, 3) := by decide +kernel
theorem dX10_reached_47 : decode (dc DX10_reached) 47 = .ok (.aload_n 2, 1) := by decide +kernel
theorem dX10_reached_48 : decode (dc DX10_reached) 48 = .ok (.iconst 0, 1) := by decide +kernel
theorem dX10_reached_49 : decode (dc DX10_reached) 49 = .ok (.dup2, 1) := by decide +kernel
theorem dX10_reached_50 : decode (dc DX10_reached) 50 = .ok (.iaload, 1) := by decide +kernel
theorem dX10_reached_51 : decode (dc DX10_reached) 51 = .ok (.iconst 1, 1) := by decide +kernel
theorem dX10_reached_52 : decode (dc DX10_reached) 52 = .ok (.iload_n 3, 1) := by decide +kernel
theorem dX10_reached_53 : decode (dc DX10_reached) 53 = .ok (.ishl, 1) := by decide +kernel
theorem dX10_reached_54 : decode (dc DX10_reached) 54 = .ok (.ior, 1) := by decide +kernel
theorem dX10_reached_55 : decode (dc DX10_reached) 55 = .ok (.iastore, 1) := by decide +kernel
theorem dX10_reached_56 : decode (dc DX10_reached) 56 = .ok (.iinc 3 1, 3) := by decide +kernel
theorem dX10_reached_59 : decode (dc DX10_reached) 59 = .ok (.goto (-41), 3) := by decide +kernel
theorem dX10_reached_62 : decode (dc DX10_reached) 62 = .ok (.iconst 0, 1) := by decide +kernel
theorem dX10_reached_63 : decode (dc DX10_reached) 63 = .ok (.istore_n 3, 1) := by decide +kernel
theorem dX10_reached_64 : decode (dc DX10_reached) 64 = .ok (.iload_n 3, 1) := by decide +kernel
theorem dX10_reached_65 : decode (dc DX10_reached) 65 = .ok (.aload_n 0, 1) := by decide +kernel
theorem dX10_reached_66 : decode (dc DX10_reached) 66 = .ok (.getfield 13, 3) := by decide +kernel
theorem dX10_reached_69 : decode (dc DX10_reached) 69 = .ok (.if_icmp .ge 38, 3) := by decide +kernel
theorem dX10_reached_72 : decode (dc DX10_reached) 72 = .ok (.aload_n 0, 1) := by decide +kernel
theorem dX10_reached_73 : decode (dc DX10_reached) 73 = .ok (.getfield 23, 3) := by decide +kernel
theorem dX10_reached_76 : decode (dc DX10_reached) 76 = .ok (.iload_n 3, 1) := by decide +kernel
theorem dX10_reached_77 : decode (dc DX10_reached) 77 = .ok (.ishr, 1) := by decide +kernel
theorem dX10_reached_78 : decode (dc DX10_reached) 78 = .ok (.iconst 1, 1) := by decide +kernel
theorem dX10_reached_79 : decode (dc DX10_reached) 79 = .ok (.iand, 1) := by decide +kernel
theorem dX10_reached_80 : decode (dc DX10_reached) 80 = .ok (.iconst 1, 1) := by decide +kernel
theorem dX10_reached_81 : decode (dc DX10_reached) 81 = .ok (.if_icmp .ne 20, 3) := by decide +kernel
theorem dX10_reached_84 : decode (dc DX10_reached) 84 = .ok (.aload_n 1, 1) := by decide +kernel
theorem dX10_reached_85 : decode (dc DX10_reached) 85 = .ok (.iload_n 3, 1) := by decide +kernel
theorem dX10_reached_86 : decode (dc DX10_reached) 86 = .ok (.invokevirtual 67, 3) := by decide +kernel
theorem dX10_reached_89 : decode (dc DX10_reached) 89 = .ok (.ifCond .ge 12, 3) := by decide +kernel
theorem dX10_reached_92 : decode (dc DX10_reached) 92 = .ok (.aload_n 2, 1) := by decide +kernel
theorem dX10_reached_93 : decode (dc DX10_reached) 93 = .ok (.iconst 3, 1) := by decide +kernel
theorem dX10_reached_94 : decode (dc DX10_reached) 94 = .ok (.dup2, 1) := by decide +kernel
theorem dX10_reached_95 : decode (dc DX10_reached) 95 = .ok (.iaload, 1) := by decide +kernel
theorem dX10_reached_96 : decode (dc DX10_reached) 96 = .ok (.iconst 1, 1) := by decide +kernel
theorem dX10_reached_97 : decode (dc DX10_reached) 97 = .ok (.iload_n 3, 1) := by decide +kernel
theorem dX10_reached_98 : decode (dc DX10_reached) 98 = .ok (.ishl, 1) := by decide +kernel
theorem dX10_reached_99 : decode (dc DX10_reached) 99 = .ok (.ior, 1) := by decide +kernel
theorem dX10_reached_100 : decode (dc DX10_reached) 100 = .ok (.iastore, 1) := by decide +kernel
theorem dX10_reached_101 : decode (dc DX10_reached) 101 = .ok (.iinc 3 1, 3) := by decide +kernel
theorem dX10_reached_104 : decode (dc DX10_reached) 104 = .ok (.goto (-40), 3) := by decide +kernel
theorem dX10_reached_107 : decode (dc DX10_reached) 107 = .ok (.iconst 0, 1) := by decide +kernel
theorem dX10_reached_108 : decode (dc DX10_reached) 108 = .ok (.istore_n 3, 1) := by decide +kernel
theorem dX10_reached_109 : decode (dc DX10_reached) 109 = .ok (.iload_n 3, 1) := by decide +kernel
theorem dX10_reached_110 : decode (dc DX10_reached) 110 = .ok (.iconst 2, 1) := by decide +kernel
theorem dX10_reached_111 : decode (dc DX10_reached) 111 = .ok (.aload_n 0, 1) := by decide +kernel
theorem dX10_reached_112 : decode (dc DX10_reached) 112 = .ok (.getfield 7, 3) := by decide +kernel
theorem dX10_reached_115 : decode (dc DX10_reached) 115 = .ok (.aload_n 0, 1) := by decide +kernel
theorem dX10_reached_116 : decode (dc DX10_reached) 116 = .ok (.getfield 13, 3) := by decide +kernel
theorem dX10_reached_119 : decode (dc DX10_reached) 119 = .ok (.iadd, 1) := by decide +kernel
theorem dX10_reached_120 : decode (dc DX10_reached) 120 = .ok (.imul, 1) := by decide +kernel
theorem dX10_reached_121 : decode (dc DX10_reached) 121 = .ok (.if_icmp .ge 162, 3) := by decide +kernel
theorem dX10_reached_124 : decode (dc DX10_reached) 124 = .ok (.iconst 0, 1) := by decide +kernel
theorem dX10_reached_125 : decode (dc DX10_reached) 125 = .ok (.istore 4, 2) := by decide +kernel
theorem dX10_reached_127 : decode (dc DX10_reached) 127 = .ok (.iload 4, 2) := by decide +kernel
theorem dX10_reached_129 : decode (dc DX10_reached) 129 = .ok (.aload_n 0, 1) := by decide +kernel
theorem dX10_reached_130 : decode (dc DX10_reached) 130 = .ok (.getfield 7, 3) := by decide +kernel
theorem dX10_reached_133 : decode (dc DX10_reached) 133 = .ok (.if_icmp .ge 144, 3) := by decide +kernel
theorem dX10_reached_136 : decode (dc DX10_reached) 136 = .ok (.iconst 0, 1) := by decide +kernel
theorem dX10_reached_137 : decode (dc DX10_reached) 137 = .ok (.istore 5, 2) := by decide +kernel
theorem dX10_reached_139 : decode (dc DX10_reached) 139 = .ok (.iload 5, 2) := by decide +kernel
theorem dX10_reached_141 : decode (dc DX10_reached) 141 = .ok (.aload_n 0, 1) := by decide +kernel
theorem dX10_reached_142 : decode (dc DX10_reached) 142 = .ok (.getfield 13, 3) := by decide +kernel
theorem dX10_reached_145 : decode (dc DX10_reached) 145 = .ok (.if_icmp .ge 126, 3) := by decide +kernel
theorem dX10_reached_148 : decode (dc DX10_reached) 148 = .ok (.aload_n 0, 1) := by decide +kernel
theorem dX10_reached_149 : decode (dc DX10_reached) 149 = .ok (.iload 4, 2) := by decide +kernel
theorem dX10_reached_151 : decode (dc DX10_reached) 151 = .ok (.iload 5, 2) := by decide +kernel
theorem dX10_reached_153 : decode (dc DX10_reached) 153 = .ok (.invokevirtual 48, 3) := by decide +kernel
theorem dX10_reached_156 : decode (dc DX10_reached) 156 = .ok (.ifCond .ne 6, 3) := by decide +kernel
theorem dX10_reached_159 : decode (dc DX10_reached) 159 = .ok (.goto 106, 3) := by decide +kernel
theorem dX10_reached_162 : decode (dc DX10_reached) 162 = .ok (.aload_n 2, 1) := by decide +kernel
theorem dX10_reached_163 : decode (dc DX10_reached) 163 = .ok (.iconst 0, 1) := by decide +kernel
theorem dX10_reached_164 : decode (dc DX10_reached) 164 = .ok (.iaload, 1) := by decide +kernel
theorem dX10_reached_165 : decode (dc DX10_reached) 165 = .ok (.iload 4, 2) := by decide +kernel
theorem dX10_reached_167 : decode (dc DX10_reached) 167 = .ok (.ishr, 1) := by decide +kernel
theorem dX10_reached_168 : decode (dc DX10_reached) 168 = .ok (.iconst 1, 1) := by decide +kernel
theorem dX10_reached_169 : decode (dc DX10_reached) 169 = .ok (.iand, 1) := by decide +kernel
theorem dX10_reached_170 : decode (dc DX10_reached) 170 = .ok (.iconst 1, 1) := by decide +kernel
theorem dX10_reached_171 : decode (dc DX10_reached) 171 = .ok (.if_icmp .ne 13, 3) := by decide +kernel
theorem dX10_reached_174 : decode (dc DX10_reached) 174 = .ok (.aload_n 2, 1) := by decide +kernel
theorem dX10_reached_175 : decode (dc DX10_reached) 175 = .ok (.iconst 1, 1) := by decide +kernel
theorem dX10_reached_176 : decode (dc DX10_reached) 176 = .ok (.dup2, 1) := by decide +kernel
theorem dX10_reached_177 : decode (dc DX10_reached) 177 = .ok (.iaload, 1) := by decide +kernel
theorem dX10_reached_178 : decode (dc DX10_reached) 178 = .ok (.iconst 1, 1) := by decide +kernel
theorem dX10_reached_179 : decode (dc DX10_reached) 179 = .ok (.iload 5, 2) := by decide +kernel
theorem dX10_reached_181 : decode (dc DX10_reached) 181 = .ok (.ishl, 1) := by decide +kernel
theorem dX10_reached_182 : decode (dc DX10_reached) 182 = .ok (.ior, 1) := by decide +kernel
theorem dX10_reached_183 : decode (dc DX10_reached) 183 = .ok (.iastore, 1) := by decide +kernel
theorem dX10_reached_184 : decode (dc DX10_reached) 184 = .ok (.aload_n 2, 1) := by decide +kernel
theorem dX10_reached_185 : decode (dc DX10_reached) 185 = .ok (.iconst 3, 1) := by decide +kernel
theorem dX10_reached_186 : decode (dc DX10_reached) 186 = .ok (.iaload, 1) := by decide +kernel
theorem dX10_reached_187 : decode (dc DX10_reached) 187 = .ok (.iload 5, 2) := by decide +kernel
theorem dX10_reached_189 : decode (dc DX10_reached) 189 = .ok (.ishr, 1) := by decide +kernel
theorem dX10_reached_190 : decode (dc DX10_reached) 190 = .ok (.iconst 1, 1) := by decide +kernel
theorem dX10_reached_191 : decode (dc DX10_reached) 191 = .ok (.iand, 1) := by decide +kernel
theorem dX10_reached_192 : decode (dc DX10_reached) 192 = .ok (.iconst 1, 1) := by decide +kernel
theorem dX10_reached_193 : decode (dc DX10_reached) 193 = .ok (.if_icmp .ne 13, 3) := by decide +kernel
theorem dX10_reached_196 : decode (dc DX10_reached) 196 = .ok (.aload_n 2, 1) := by decide +kernel
theorem dX10_reached_197 : decode (dc DX10_reached) 197 = .ok (.iconst 2, 1) := by decide +kernel
theorem dX10_reached_198 : decode (dc DX10_reached) 198 = .ok (.dup2, 1) := by decide +kernel
theorem dX10_reached_199 : decode (dc DX10_reached) 199 = .ok (.iaload, 1) := by decide +kernel
theorem dX10_reached_200 : decode (dc DX10_reached) 200 = .ok (.iconst 1, 1) := by decide +kernel
theorem dX10_reached_201 : decode (dc DX10_reached) 201 = .ok (.iload 4, 2) := by decide +kernel
theorem dX10_reached_203 : decode (dc DX10_reached) 203 = .ok (.ishl, 1) := by decide +kernel
theorem dX10_reached_204 : decode (dc DX10_reached) 204 = .ok (.ior, 1) := by decide +kernel
theorem dX10_reached_205 : decode (dc DX10_reached) 205 = .ok (.iastore, 1) := by decide +kernel
theorem dX10_reached_206 : decode (dc DX10_reached) 206 = .ok (.aload_n 1, 1) := by decide +kernel
theorem dX10_reached_207 : decode (dc DX10_reached) 207 = .ok (.getfield 31, 3) := by decide +kernel
theorem dX10_reached_210 : decode (dc DX10_reached) 210 = .ok (.iload 4, 2) := by decide +kernel
theorem dX10_reached_212 : decode (dc DX10_reached) 212 = .ok (.iaload, 1) := by decide +kernel
theorem dX10_reached_213 : decode (dc DX10_reached) 213 = .ok (.iload 5, 2) := by decide +kernel
theorem dX10_reached_215 : decode (dc DX10_reached) 215 = .ok (.if_icmp .eq 6, 3) := by decide +kernel
theorem dX10_reached_218 : decode (dc DX10_reached) 218 = .ok (.goto 47, 3) := by decide +kernel
theorem dX10_reached_221 : decode (dc DX10_reached) 221 = .ok (.aload_n 2, 1) := by decide +kernel
theorem dX10_reached_222 : decode (dc DX10_reached) 222 = .ok (.iconst 1, 1) := by decide +kernel
theorem dX10_reached_223 : decode (dc DX10_reached) 223 = .ok (.iaload, 1) := by decide +kernel
theorem dX10_reached_224 : decode (dc DX10_reached) 224 = .ok (.iload 5, 2) := by decide +kernel
theorem dX10_reached_226 : decode (dc DX10_reached) 226 = .ok (.ishr, 1) := by decide +kernel
theorem dX10_reached_227 : decode (dc DX10_reached) 227 = .ok (.iconst 1, 1) := by decide +kernel
theorem dX10_reached_228 : decode (dc DX10_reached) 228 = .ok (.iand, 1) := by decide +kernel
theorem dX10_reached_229 : decode (dc DX10_reached) 229 = .ok (.iconst 1, 1) := by decide +kernel
theorem dX10_reached_230 : decode (dc DX10_reached) 230 = .ok (.if_icmp .ne 13, 3) := by decide +kernel
theorem dX10_reached_233 : decode (dc DX10_reached) 233 = .ok (.aload_n 2, 1) := by decide +kernel
theorem dX10_reached_234 : decode (dc DX10_reached) 234 = .ok (.iconst 0, 1) := by decide +kernel
theorem dX10_reached_235 : decode (dc DX10_reached) 235 = .ok (.dup2, 1) := by decide +kernel
theorem dX10_reached_236 : decode (dc DX10_reached) 236 = .ok (.iaload, 1) := by decide +kernel
theorem dX10_reached_237 : decode (dc DX10_reached) 237 = .ok (.iconst 1, 1) := by decide +kernel
theorem dX10_reached_238 : decode (dc DX10_reached) 238 = .ok (.iload 4, 2) := by decide +kernel
theorem dX10_reached_240 : decode (dc DX10_reached) 240 = .ok (.ishl, 1) := by decide +kernel
theorem dX10_reached_241 : decode (dc DX10_reached) 241 = .ok (.ior, 1) := by decide +kernel
theorem dX10_reached_242 : decode (dc DX10_reached) 242 = .ok (.iastore, 1) := by decide +kernel
theorem dX10_reached_243 : decode (dc DX10_reached) 243 = .ok (.aload_n 2, 1) := by decide +kernel
theorem dX10_reached_244 : decode (dc DX10_reached) 244 = .ok (.iconst 2, 1) := by decide +kernel
theorem dX10_reached_245 : decode (dc DX10_reached) 245 = .ok (.iaload, 1) := by decide +kernel
theorem dX10_reached_246 : decode (dc DX10_reached) 246 = .ok (.iload 4, 2) := by decide +kernel
theorem dX10_reached_248 : decode (dc DX10_reached) 248 = .ok (.ishr, 1) := by decide +kernel
theorem dX10_reached_249 : decode (dc DX10_reached) 249 = .ok (.iconst 1, 1) := by decide +kernel
theorem dX10_reached_250 : decode (dc DX10_reached) 250 = .ok (.iand, 1) := by decide +kernel
theorem dX10_reached_251 : decode (dc DX10_reached) 251 = .ok (.iconst 1, 1) := by decide +kernel
theorem dX10_reached_252 : decode (dc DX10_reached) 252 = .ok (.if_icmp .ne 13, 3) := by decide +kernel
theorem dX10_reached_255 : decode (dc DX10_reached) 255 = .ok (.aload_n 2, 1) := by decide +kernel
theorem dX10_reached_256 : decode (dc DX10_reached) 256 = .ok (.iconst 3, 1) := by decide +kernel
theorem dX10_reached_257 : decode (dc DX10_reached) 257 = .ok (.dup2, 1) := by decide +kernel
theorem dX10_reached_258 : decode (dc DX10_reached) 258 = .ok (.iaload, 1) := by decide +kernel
theorem dX10_reached_259 : decode (dc DX10_reached) 259 = .ok (.iconst 1, 1) := by decide +kernel
theorem dX10_reached_260 : decode (dc DX10_reached) 260 = .ok (.iload 5, 2) := by decide +kernel
theorem dX10_reached_262 : decode (dc DX10_reached) 262 = .ok (.ishl, 1) := by decide +kernel
theorem dX10_reached_263 : decode (dc DX10_reached) 263 = .ok (.ior, 1) := by decide +kernel
theorem dX10_reached_264 : decode (dc DX10_reached) 264 = .ok (.iastore, 1) := by decide +kernel
theorem dX10_reached_265 : decode (dc DX10_reached) 265 = .ok (.iinc 5 1, 3) := by decide +kernel
theorem dX10_reached_268 : decode (dc DX10_reached) 268 = .ok (.goto (-129), 3) := by decide +kernel
theorem dX10_reached_271 : decode (dc DX10_reached) 271 = .ok (.iinc 4 1, 3) := by decide +kernel
theorem dX10_reached_274 : decode (dc DX10_reached) 274 = .ok (.goto (-147), 3) := by decide +kernel
theorem dX10_reached_277 : decode (dc DX10_reached) 277 = .ok (.iinc 3 1, 3) := by decide +kernel
theorem dX10_reached_280 : decode (dc DX10_reached) 280 = .ok (.goto (-171), 3) := by decide +kernel
theorem dX10_reached_283 : decode (dc DX10_reached) 283 = .ok (.aload_n 2, 1) := by decide +kernel
theorem dX10_reached_284 : decode (dc DX10_reached) 284 = .ok (.areturn, 1) := by decide +kernel
theorem dL_feed_0 : decode (dc DL_feed) 0 = .ok (.aload_n 0, 1) := by decide +kernel
theorem dL_feed_1 : decode (dc DL_feed) 1 = .ok (.aload_n 1, 1) := by decide +kernel
theorem dL_feed_2 : decode (dc DL_feed) 2 = .ok (.iconst 1, 1) := by decide +kernel
theorem dL_feed_3 : decode (dc DL_feed) 3 = .ok (.iaload, 1) := by decide +kernel
theorem dL_feed_4 : decode (dc DL_feed) 4 = .ok (.aload_n 1, 1) := by decide +kernel
theorem dL_feed_5 : decode (dc DL_feed) 5 = .ok (.iconst 2, 1) := by decide +kernel
theorem dL_feed_6 : decode (dc DL_feed) 6 = .ok (.iaload, 1) := by decide +kernel
theorem dL_feed_7 : decode (dc DL_feed) 7 = .ok (.aload_n 1, 1) := by decide +kernel
theorem dL_feed_8 : decode (dc DL_feed) 8 = .ok (.iconst 3, 1) := by decide +kernel
theorem dL_feed_9 : decode (dc DL_feed) 9 = .ok (.iaload, 1) := by decide +kernel
theorem dL_feed_10 : decode (dc DL_feed) 10 = .ok (.aload_n 1, 1) := by decide +kernel
theorem dL_feed_11 : decode (dc DL_feed) 11 = .ok (.iconst 4, 1) := by decide +kernel
theorem dL_feed_12 : decode (dc DL_feed) 12 = .ok (.iaload, 1) := by decide +kernel
theorem dL_feed_13 : decode (dc DL_feed) 13 = .ok (.aload_n 1, 1) := by decide +kernel
theorem dL_feed_14 : decode (dc DL_feed) 14 = .ok (.iconst 5, 1) := by decide +kernel
theorem dL_feed_15 : decode (dc DL_feed) 15 = .ok (.iaload, 1) := by decide +kernel
theorem dL_feed_16 : decode (dc DL_feed) 16 = .ok (.invokevirtual 15, 3) := by decide +kernel
theorem dL_feed_19 : decode (dc DL_feed) 19 = .ok (.pop, 1) := by decide +kernel
theorem dL_feed_20 : decode (dc DL_feed) 20 = .ok (.iconst 1, 1) := by decide +kernel
theorem dL_feed_21 : decode (dc DL_feed) 21 = .ok (.istore_n 2, 1) := by decide +kernel
theorem dL_feed_22 : decode (dc DL_feed) 22 = .ok (.iload_n 2, 1) := by decide +kernel
theorem dL_feed_23 : decode (dc DL_feed) 23 = .ok (.bipush 6, 2) := by decide +kernel
theorem dL_feed_25 : decode (dc DL_feed) 25 = .ok (.if_icmp .ge 13, 3) := by decide +kernel
theorem dL_feed_28 : decode (dc DL_feed) 28 = .ok (.aload_n 1, 1) := by decide +kernel
theorem dL_feed_29 : decode (dc DL_feed) 29 = .ok (.iload_n 2, 1) := by decide +kernel
theorem dL_feed_30 : decode (dc DL_feed) 30 = .ok (.iconst 0, 1) := by decide +kernel
theorem dL_feed_31 : decode (dc DL_feed) 31 = .ok (.iastore, 1) := by decide +kernel
theorem dL_feed_32 : decode (dc DL_feed) 32 = .ok (.iinc 2 1, 3) := by decide +kernel
theorem dL_feed_35 : decode (dc DL_feed) 35 = .ok (.goto (-13), 3) := by decide +kernel
theorem dL_feed_38 : decode (dc DL_feed) 38 = .ok (.return_, 1) := by decide +kernel
theorem dL_put_0 : decode (dc DL_put) 0 = .ok (.bipush 7, 2) := by decide +kernel
theorem dL_put_2 : decode (dc DL_put) 2 = .ok (.istore 4, 2) := by decide +kernel
theorem dL_put_4 : decode (dc DL_put) 4 = .ok (.iload 4, 2) := by decide +kernel
theorem dL_put_6 : decode (dc DL_put) 6 = .ok (.ifCond .lt 81, 3) := by decide +kernel
theorem dL_put_9 : decode (dc DL_put) 9 = .ok (.lload_n 2, 1) := by decide +kernel
theorem dL_put_10 : decode (dc DL_put) 10 = .ok (.bipush 8, 2) := by decide +kernel
theorem dL_put_12 : decode (dc DL_put) 12 = .ok (.iload 4, 2) := by decide +kernel
theorem dL_put_14 : decode (dc DL_put) 14 = .ok (.imul, 1) := by decide +kernel
theorem dL_put_15 : decode (dc DL_put) 15 = .ok (.lushr, 1) := by decide +kernel
theorem dL_put_16 : decode (dc DL_put) 16 = .ok (.ldc2_w 7, 3) := by decide +kernel
theorem dL_put_19 : decode (dc DL_put) 19 = .ok (.land, 1) := by decide +kernel
theorem dL_put_20 : decode (dc DL_put) 20 = .ok (.l2i, 1) := by decide +kernel
theorem dL_put_21 : decode (dc DL_put) 21 = .ok (.istore 5, 2) := by decide +kernel
theorem dL_put_23 : decode (dc DL_put) 23 = .ok (.iload 5, 2) := by decide +kernel
theorem dL_put_25 : decode (dc DL_put) 25 = .ok (.ifCond .ne 6, 3) := by decide +kernel
theorem dL_put_28 : decode (dc DL_put) 28 = .ok (.goto 53, 3) := by decide +kernel
theorem dL_put_31 : decode (dc DL_put) 31 = .ok (.aload_n 1, 1) := by decide +kernel
theorem dL_put_32 : decode (dc DL_put) 32 = .ok (.iconst 1, 1) := by decide +kernel
theorem dL_put_33 : decode (dc DL_put) 33 = .ok (.aload_n 1, 1) := by decide +kernel
theorem dL_put_34 : decode (dc DL_put) 34 = .ok (.iconst 0, 1) := by decide +kernel
theorem dL_put_35 : decode (dc DL_put) 35 = .ok (.iaload, 1) := by decide +kernel
theorem dL_put_36 : decode (dc DL_put) 36 = .ok (.bipush 20, 2) := by decide +kernel
theorem dL_put_38 : decode (dc DL_put) 38 = .ok (.irem, 1) := by decide +kernel
theorem dL_put_39 : decode (dc DL_put) 39 = .ok (.iconst 4, 1) := by decide +kernel
theorem dL_put_40 : decode (dc DL_put) 40 = .ok (.idiv, 1) := by decide +kernel
theorem dL_put_41 : decode (dc DL_put) 41 = .ok (.iadd, 1) := by decide +kernel
theorem dL_put_42 : decode (dc DL_put) 42 = .ok (.dup2, 1) := by decide +kernel
theorem dL_put_43 : decode (dc DL_put) 43 = .ok (.iaload, 1) := by decide +kernel
theorem dL_put_44 : decode (dc DL_put) 44 = .ok (.iload 5, 2) := by decide +kernel
theorem dL_put_46 : decode (dc DL_put) 46 = .ok (.bipush 24, 2) := by decide +kernel
theorem dL_put_48 : decode (dc DL_put) 48 = .ok (.bipush 8, 2) := by decide +kernel
theorem dL_put_50 : decode (dc DL_put) 50 = .ok (.aload_n 1, 1) := by decide +kernel
theorem dL_put_51 : decode (dc DL_put) 51 = .ok (.iconst 0, 1) := by decide +kernel
theorem dL_put_52 : decode (dc DL_put) 52 = .ok (.iaload, 1) := by decide +kernel
theorem dL_put_53 : decode (dc DL_put) 53 = .ok (.iconst 4, 1) := by decide +kernel
theorem dL_put_54 : decode (dc DL_put) 54 = .ok (.irem, 1) := by decide +kernel
theorem dL_put_55 : decode (dc DL_put) 55 = .ok (.imul, 1) := by decide +kernel
