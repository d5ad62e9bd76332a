theorem dX6_read_30 : decode (dc DX6_read) 30 = .ok (.aload_n 0, 1) := by decide +kernel
theorem dX6_read_31 : decode (dc DX6_read) 31 = .ok (.aload_n 2, 1) := by decide +kernel
theorem dX6_read_32 : decode (dc DX6_read) 32 = .ok (.invokevirtual 38, 3) := by decide +kernel
theorem dX6_read_35 : decode (dc DX6_read) 35 = .ok (.istore_n 3, 1) := by decide +kernel
theorem dX6_read_36 : decode (dc DX6_read) 36 = .ok (.iconst 0, 1) := by decide +kernel
theorem dX6_read_37 : decode (dc DX6_read) 37 = .ok (.istore 4, 2) := by decide +kernel
theorem dX6_read_39 : decode (dc DX6_read) 39 = .ok (.iload 4, 2) := by decide +kernel
theorem dX6_read_41 : decode (dc DX6_read) 41 = .ok (.sipush 300, 3) := by decide +kernel
theorem dX6_read_44 : decode (dc DX6_read) 44 = .ok (.if_icmp .ge 41, 3) := by decide +kernel
theorem dX6_read_47 : decode (dc DX6_read) 47 = .ok (.iload_n 3, 1) := by decide +kernel
theorem dX6_read_48 : decode (dc DX6_read) 48 = .ok (.ifCond .eq 37, 3) := by decide +kernel
theorem dX6_read_51 : decode (dc DX6_read) 51 = .ok (.aload_n 0, 1) := by decide +kernel
theorem dX6_read_52 : decode (dc DX6_read) 52 = .ok (.invokevirtual 42, 3) := by decide +kernel
theorem dX6_read_55 : decode (dc DX6_read) 55 = .ok (.ifCond .eq 30, 3) := by decide +kernel
theorem dX6_read_58 : decode (dc DX6_read) 58 = .ok (.aload_n 0, 1) := by decide +kernel
theorem dX6_read_59 : decode (dc DX6_read) 59 = .ok (.aload_n 2, 1) := by decide +kernel
theorem dX6_read_60 : decode (dc DX6_read) 60 = .ok (.invokevirtual 46, 3) := by decide +kernel
theorem dX6_read_63 : decode (dc DX6_read) 63 = .ok (.ifCond .eq 14, 3) := by decide +kernel
theorem dX6_read_66 : decode (dc DX6_read) 66 = .ok (.aload_n 0, 1) := by decide +kernel
theorem dX6_read_67 : decode (dc DX6_read) 67 = .ok (.invokevirtual 49, 3) := by decide +kernel
theorem dX6_read_70 : decode (dc DX6_read) 70 = .ok (.ifCond .eq 7, 3) := by decide +kernel
theorem dX6_read_73 : decode (dc DX6_read) 73 = .ok (.iconst 1, 1) := by decide +kernel
theorem dX6_read_74 : decode (dc DX6_read) 74 = .ok (.goto 4, 3) := by decide +kernel
theorem dX6_read_77 : decode (dc DX6_read) 77 = .ok (.iconst 0, 1) := by decide +kernel
theorem dX6_read_78 : decode (dc DX6_read) 78 = .ok (.istore_n 3, 1) := by decide +kernel
theorem dX6_read_79 : decode (dc DX6_read) 79 = .ok (.iinc 4 1, 3) := by decide +kernel
theorem dX6_read_82 : decode (dc DX6_read) 82 = .ok (.goto (-43), 3) := by decide +kernel
theorem dX6_read_85 : decode (dc DX6_read) 85 = .ok (.aload_n 0, 1) := by decide +kernel
theorem dX6_read_86 : decode (dc DX6_read) 86 = .ok (.getfield 22, 3) := by decide +kernel
theorem dX6_read_89 : decode (dc DX6_read) 89 = .ok (.ireturn, 1) := by decide +kernel
theorem dX7_load_0 : decode (dc DX7_load) 0 = .ok (.aload_n 0, 1) := by decide +kernel
theorem dX7_load_1 : decode (dc DX7_load) 1 = .ok (.bipush 12, 2) := by decide +kernel
theorem dX7_load_3 : decode (dc DX7_load) 3 = .ok (.aload_n 1, 1) := by decide +kernel
theorem dX7_load_4 : decode (dc DX7_load) 4 = .ok (.getfield 47, 3) := by decide +kernel
theorem dX7_load_7 : decode (dc DX7_load) 7 = .ok (.invokestatic 50, 3) := by decide +kernel
theorem dX7_load_10 : decode (dc DX7_load) 10 = .ok (.putfield 35, 3) := by decide +kernel
theorem dX7_load_13 : decode (dc DX7_load) 13 = .ok (.aload_n 0, 1) := by decide +kernel
theorem dX7_load_14 : decode (dc DX7_load) 14 = .ok (.bipush 12, 2) := by decide +kernel
theorem dX7_load_16 : decode (dc DX7_load) 16 = .ok (.aload_n 1, 1) := by decide +kernel
theorem dX7_load_17 : decode (dc DX7_load) 17 = .ok (.getfield 56, 3) := by decide +kernel
theorem dX7_load_20 : decode (dc DX7_load) 20 = .ok (.invokestatic 50, 3) := by decide +kernel
theorem dX7_load_23 : decode (dc DX7_load) 23 = .ok (.putfield 38, 3) := by decide +kernel
theorem dX7_load_26 : decode (dc DX7_load) 26 = .ok (.aload_n 0, 1) := by decide +kernel
theorem dX7_load_27 : decode (dc DX7_load) 27 = .ok (.aload_n 1, 1) := by decide +kernel
theorem dX7_load_28 : decode (dc DX7_load) 28 = .ok (.getfield 57, 3) := by decide +kernel
theorem dX7_load_31 : decode (dc DX7_load) 31 = .ok (.putfield 41, 3) := by decide +kernel
theorem dX7_load_34 : decode (dc DX7_load) 34 = .ok (.aload_n 0, 1) := by decide +kernel
theorem dX7_load_35 : decode (dc DX7_load) 35 = .ok (.aload_n 1, 1) := by decide +kernel
theorem dX7_load_36 : decode (dc DX7_load) 36 = .ok (.getfield 58, 3) := by decide +kernel
theorem dX7_load_39 : decode (dc DX7_load) 39 = .ok (.putfield 44, 3) := by decide +kernel
theorem dX7_load_42 : decode (dc DX7_load) 42 = .ok (.iconst 0, 1) := by decide +kernel
theorem dX7_load_43 : decode (dc DX7_load) 43 = .ok (.istore_n 2, 1) := by decide +kernel
theorem dX7_load_44 : decode (dc DX7_load) 44 = .ok (.iload_n 2, 1) := by decide +kernel
theorem dX7_load_45 : decode (dc DX7_load) 45 = .ok (.bipush 12, 2) := by decide +kernel
theorem dX7_load_47 : decode (dc DX7_load) 47 = .ok (.if_icmp .ge 40, 3) := by decide +kernel
theorem dX7_load_50 : decode (dc DX7_load) 50 = .ok (.aload_n 0, 1) := by decide +kernel
theorem dX7_load_51 : decode (dc DX7_load) 51 = .ok (.getfield 18, 3) := by decide +kernel
theorem dX7_load_54 : decode (dc DX7_load) 54 = .ok (.iload_n 2, 1) := by decide +kernel
theorem dX7_load_55 : decode (dc DX7_load) 55 = .ok (.aload_n 0, 1) := by decide +kernel
theorem dX7_load_56 : decode (dc DX7_load) 56 = .ok (.getfield 41, 3) := by decide +kernel
theorem dX7_load_59 : decode (dc DX7_load) 59 = .ok (.iload_n 2, 1) := by decide +kernel
theorem dX7_load_60 : decode (dc DX7_load) 60 = .ok (.invokestatic 59, 3) := by decide +kernel
theorem dX7_load_63 : decode (dc DX7_load) 63 = .ok (.ifCond .eq 16, 3) := by decide +kernel
theorem dX7_load_66 : decode (dc DX7_load) 66 = .ok (.aload_n 1, 1) := by decide +kernel
theorem dX7_load_67 : decode (dc DX7_load) 67 = .ok (.iload_n 2, 1) := by decide +kernel
theorem dX7_load_68 : decode (dc DX7_load) 68 = .ok (.invokevirtual 63, 3) := by decide +kernel
theorem dX7_load_71 : decode (dc DX7_load) 71 = .ok (.aload_n 0, 1) := by decide +kernel
theorem dX7_load_72 : decode (dc DX7_load) 72 = .ok (.getfield 44, 3) := by decide +kernel
theorem dX7_load_75 : decode (dc DX7_load) 75 = .ok (.iand, 1) := by decide +kernel
theorem dX7_load_76 : decode (dc DX7_load) 76 = .ok (.goto 4, 3) := by decide +kernel
theorem dX7_load_79 : decode (dc DX7_load) 79 = .ok (.iconst 0, 1) := by decide +kernel
theorem dX7_load_80 : decode (dc DX7_load) 80 = .ok (.iastore, 1) := by decide +kernel
theorem dX7_load_81 : decode (dc DX7_load) 81 = .ok (.iinc 2 1, 3) := by decide +kernel
theorem dX7_load_84 : decode (dc DX7_load) 84 = .ok (.goto (-40), 3) := by decide +kernel
theorem dX7_load_87 : decode (dc DX7_load) 87 = .ok (.aload_n 0, 1) := by decide +kernel
theorem dX7_load_88 : decode (dc DX7_load) 88 = .ok (.getfield 12, 3) := by decide +kernel
theorem dX7_load_91 : decode (dc DX7_load) 91 = .ok (.aload_n 1, 1) := by decide +kernel
theorem dX7_load_92 : decode (dc DX7_load) 92 = .ok (.getfield 67, 3) := by decide +kernel
theorem dX7_load_95 : decode (dc DX7_load) 95 = .ok (.invokevirtual 68, 3) := by decide +kernel
theorem dX7_load_98 : decode (dc DX7_load) 98 = .ok (.aload_n 0, 1) := by decide +kernel
theorem dX7_load_99 : decode (dc DX7_load) 99 = .ok (.iconst 0, 1) := by decide +kernel
theorem dX7_load_100 : decode (dc DX7_load) 100 = .ok (.putfield 31, 3) := by decide +kernel
theorem dX7_load_103 : decode (dc DX7_load) 103 = .ok (.return_, 1) := by decide +kernel
theorem dX7_isOpen_0 : decode (dc DX7_isOpen) 0 = .ok (.iload_n 2, 1) := by decide +kernel
theorem dX7_isOpen_1 : decode (dc DX7_isOpen) 1 = .ok (.invokestatic 72, 3) := by decide +kernel
theorem dX7_isOpen_4 : decode (dc DX7_isOpen) 4 = .ok (.ifCond .eq 19, 3) := by decide +kernel
theorem dX7_isOpen_7 : decode (dc DX7_isOpen) 7 = .ok (.aload_n 0, 1) := by decide +kernel
theorem dX7_isOpen_8 : decode (dc DX7_isOpen) 8 = .ok (.iload_n 1, 1) := by decide +kernel
theorem dX7_isOpen_9 : decode (dc DX7_isOpen) 9 = .ok (.invokevirtual 76, 3) := by decide +kernel
theorem dX7_isOpen_12 : decode (dc DX7_isOpen) 12 = .ok (.iload_n 2, 1) := by decide +kernel
theorem dX7_isOpen_13 : decode (dc DX7_isOpen) 13 = .ok (.invokestatic 59, 3) := by decide +kernel
theorem dX7_isOpen_16 : decode (dc DX7_isOpen) 16 = .ok (.ifCond .eq 7, 3) := by decide +kernel
theorem dX7_isOpen_19 : decode (dc DX7_isOpen) 19 = .ok (.iconst 1, 1) := by decide +kernel
theorem dX7_isOpen_20 : decode (dc DX7_isOpen) 20 = .ok (.goto 4, 3) := by decide +kernel
theorem dX7_isOpen_23 : decode (dc DX7_isOpen) 23 = .ok (.iconst 0, 1) := by decide +kernel
theorem dX7_isOpen_24 : decode (dc DX7_isOpen) 24 = .ok (.ireturn, 1) := by decide +kernel
theorem dX7_open_0 : decode (dc DX7_open) 0 = .ok (.iload_n 1, 1) := by decide +kernel
theorem dX7_open_1 : decode (dc DX7_open) 1 = .ok (.invokestatic 72, 3) := by decide +kernel
theorem dX7_open_4 : decode (dc DX7_open) 4 = .ok (.ifCond .eq 23, 3) := by decide +kernel
theorem dX7_open_7 : decode (dc DX7_open) 7 = .ok (.iload_n 2, 1) := by decide +kernel
theorem dX7_open_8 : decode (dc DX7_open) 8 = .ok (.invokestatic 72, 3) := by decide +kernel
theorem dX7_open_11 : decode (dc DX7_open) 11 = .ok (.ifCond .eq 16, 3) := by decide +kernel
theorem dX7_open_14 : decode (dc DX7_open) 14 = .ok (.aload_n 0, 1) := by decide +kernel
theorem dX7_open_15 : decode (dc DX7_open) 15 = .ok (.getfield 18, 3) := by decide +kernel
theorem dX7_open_18 : decode (dc DX7_open) 18 = .ok (.iload_n 1, 1) := by decide +kernel
theorem dX7_open_19 : decode (dc DX7_open) 19 = .ok (.dup2, 1) := by decide +kernel
theorem dX7_open_20 : decode (dc DX7_open) 20 = .ok (.iaload, 1) := by decide +kernel
theorem dX7_open_21 : decode (dc DX7_open) 21 = .ok (.iload_n 2, 1) := by decide +kernel
theorem dX7_open_22 : decode (dc DX7_open) 22 = .ok (.invokestatic 79, 3) := by decide +kernel
theorem dX7_open_25 : decode (dc DX7_open) 25 = .ok (.ior, 1) := by decide +kernel
theorem dX7_open_26 : decode (dc DX7_open) 26 = .ok (.iastore, 1) := by decide +kernel
theorem dX7_open_27 : decode (dc DX7_open) 27 = .ok (.return_, 1) := by decide +kernel
theorem dX7_shut_0 : decode (dc DX7_shut) 0 = .ok (.iload_n 1, 1) := by decide +kernel
theorem dX7_shut_1 : decode (dc DX7_shut) 1 = .ok (.invokestatic 72, 3) := by decide +kernel
theorem dX7_shut_4 : decode (dc DX7_shut) 4 = .ok (.ifCond .eq 45, 3) := by decide +kernel
theorem dX7_shut_7 : decode (dc DX7_shut) 7 = .ok (.iload_n 2, 1) := by decide +kernel
theorem dX7_shut_8 : decode (dc DX7_shut) 8 = .ok (.invokestatic 72, 3) := by decide +kernel
theorem dX7_shut_11 : decode (dc DX7_shut) 11 = .ok (.ifCond .eq 38, 3) := by decide +kernel
theorem dX7_shut_14 : decode (dc DX7_shut) 14 = .ok (.aload_n 0, 1) := by decide +kernel
theorem dX7_shut_15 : decode (dc DX7_shut) 15 = .ok (.getfield 18, 3) := by decide +kernel
theorem dX7_shut_18 : decode (dc DX7_shut) 18 = .ok (.iload_n 1, 1) := by decide +kernel
theorem dX7_shut_19 : decode (dc DX7_shut) 19 = .ok (.dup2, 1) := by decide +kernel
theorem dX7_shut_20 : decode (dc DX7_shut) 20 = .ok (.iaload, 1) := by decide +kernel
theorem dX7_shut_21 : decode (dc DX7_shut) 21 = .ok (.iload_n 2, 1) := by decide +kernel
theorem dX7_shut_22 : decode (dc DX7_shut) 22 = .ok (.invokestatic 79, 3) := by decide +kernel
theorem dX7_shut_25 : decode (dc DX7_shut) 25 = .ok (.iconst (-1), 1) := by decide +kernel
theorem dX7_shut_26 : decode (dc DX7_shut) 26 = .ok (.ixor, 1) := by decide +kernel
theorem dX7_shut_27 : decode (dc DX7_shut) 27 = .ok (.iand, 1) := by decide +kernel
theorem dX7_shut_28 : decode (dc DX7_shut) 28 = .ok (.iastore, 1) := by decide +kernel
theorem dX7_shut_29 : decode (dc DX7_shut) 29 = .ok (.aload_n 0, 1) := by decide +kernel
theorem dX7_shut_30 : decode (dc DX7_shut) 30 = .ok (.getfield 12, 3) := by decide +kernel
theorem dX7_shut_33 : decode (dc DX7_shut) 33 = .ok (.iload_n 1, 1) := by decide +kernel
theorem dX7_shut_34 : decode (dc DX7_shut) 34 = .ok (.invokevirtual 82, 3) := by decide +kernel
theorem dX7_shut_37 : decode (dc DX7_shut) 37 = .ok (.iload_n 2, 1) := by decide +kernel
theorem dX7_shut_38 : decode (dc DX7_shut) 38 = .ok (.if_icmp .ne 11, 3) := by decide +kernel
theorem dX7_shut_41 : decode (dc DX7_shut) 41 = .ok (.aload_n 0, 1) := by decide +kernel
theorem dX7_shut_42 : decode (dc DX7_shut) 42 = .ok (.getfield 12, 3) := by decide +kernel
theorem dX7_shut_45 : decode (dc DX7_shut) 45 = .ok (.iload_n 1, 1) := by decide +kernel
theorem dX7_shut_46 : decode (dc DX7_shut) 46 = .ok (.invokevirtual 85, 3) := by decide +kernel
theorem dX7_shut_49 : decode (dc DX7_shut) 49 = .ok (.return_, 1) := by decide +kernel
theorem dX7_shutAll_0 : decode (dc DX7_shutAll) 0 = .ok (.iconst 0, 1) := by decide +kernel
theorem dX7_shutAll_1 : decode (dc DX7_shutAll) 1 = .ok (.istore_n 1, 1) := by decide +kernel
theorem dX7_shutAll_2 : decode (dc DX7_shutAll) 2 = .ok (.iload_n 1, 1) := by decide +kernel
theorem dX7_shutAll_3 : decode (dc DX7_shutAll) 3 = .ok (.bipush 12, 2) := by decide +kernel
theorem dX7_shutAll_5 : decode (dc DX7_shutAll) 5 = .ok (.if_icmp .ge 16, 3) := by decide +kernel
theorem dX7_shutAll_8 : decode (dc DX7_shutAll) 8 = .ok (.aload_n 0, 1) := by decide +kernel
theorem dX7_shutAll_9 : decode (dc DX7_shutAll) 9 = .ok (.getfield 18, 3) := by decide +kernel
theorem dX7_shutAll_12 : decode (dc DX7_shutAll) 12 = .ok (.iload_n 1, 1) := by decide +kernel
theorem dX7_shutAll_13 : decode (dc DX7_shutAll) 13 = .ok (.iconst 0, 1) := by decide +kernel
theorem dX7_shutAll_14 : decode (dc DX7_shutAll) 14 = .ok (.iastore, 1) := by decide +kernel
theorem dX7_shutAll_15 : decode (dc DX7_shutAll) 15 = .ok (.iinc 1 1, 3) := by decide +kernel
theorem dX7_shutAll_18 : decode (dc DX7_shutAll) 18 = .ok (.goto (-16), 3) := by decide +kernel
theorem dX7_shutAll_21 : decode (dc DX7_shutAll) 21 = .ok (.aload_n 0, 1) := by decide +kernel
theorem dX7_shutAll_22 : decode (dc DX7_shutAll) 22 = .ok (.getfield 12, 3) := by decide +kernel
theorem dX7_shutAll_25 : decode (dc DX7_shutAll) 25 = .ok (.invokevirtual 89, 3) := by decide +kernel
theorem dX7_shutAll_28 : decode (dc DX7_shutAll) 28 = .ok (.return_, 1) := by decide +kernel
theorem dX7_openCost_0 : decode (dc DX7_openCost) 0 = .ok (.iconst 0, 1) := by decide +kernel
theorem dX7_openCost_1 : decode (dc DX7_openCost) 1 = .ok (.istore_n 3, 1) := by decide +kernel
theorem dX7_openCost_2 : decode (dc DX7_openCost) 2 = .ok (.iconst 0, 1) := by decide +kernel
theorem dX7_openCost_3 : decode (dc DX7_openCost) 3 = .ok (.istore 4, 2) := by decide +kernel
theorem dX7_openCost_5 : decode (dc DX7_openCost) 5 = .ok (.iload 4, 2) := by decide +kernel
theorem dX7_openCost_7 : decode (dc DX7_openCost) 7 = .ok (.aload_n 0, 1) := by decide +kernel
theorem dX7_openCost_8 : decode (dc DX7_openCost) 8 = .ok (.getfield 35, 3) := by decide +kernel
theorem dX7_openCost_11 : decode (dc DX7_openCost) 11 = .ok (.if_icmp .ge 73, 3) := by decide +kernel
theorem dX7_openCost_14 : decode (dc DX7_openCost) 14 = .ok (.iconst 0, 1) := by decide +kernel
theorem dX7_openCost_15 : decode (dc DX7_openCost) 15 = .ok (.istore 5, 2) := by decide +kernel
theorem dX7_openCost_17 : decode (dc DX7_openCost) 17 = .ok (.iload 5, 2) := by decide +kernel
theorem dX7_openCost_19 : decode (dc DX7_openCost) 19 = .ok (.aload_n 0, 1) := by decide +kernel
theorem dX7_openCost_20 : decode (dc DX7_openCost) 20 = .ok (.getfield 38, 3) := by decide +kernel
theorem dX7_openCost_23 : decode (dc DX7_openCost) 23 = .ok (.if_icmp .ge 55, 3) := by decide +kernel
theorem dX7_openCost_26 : decode (dc DX7_openCost) 26 = .ok (.aload_n 1, 1) := by decide +kernel
theorem dX7_openCost_27 : decode (dc DX7_openCost) 27 = .ok (.iload 4, 2) := by decide +kernel
theorem dX7_openCost_29 : decode (dc DX7_openCost) 29 = .ok (.iload 5, 2) := by decide +kernel
theorem dX7_openCost_31 : decode (dc DX7_openCost) 31 = .ok (.invokevirtual 92, 3) := by decide +kernel
theorem dX7_openCost_34 : decode (dc DX7_openCost) 34 = .ok (.iload_n 2, 1) := by decide +kernel
theorem dX7_openCost_35 : decode (dc DX7_openCost) 35 = .ok (.if_icmp .ne 37, 3) := by decide +kernel
theorem dX7_openCost_38 : decode (dc DX7_openCost) 38 = .ok (.aload_n 0, 1) := by decide +kernel
theorem dX7_openCost_39 : decode (dc DX7_openCost) 39 = .ok (.getfield 41, 3) := by decide +kernel
theorem dX7_openCost_42 : decode (dc DX7_openCost) 42 = .ok (.iload 4, 2) := by decide +kernel
theorem dX7_openCost_44 : decode (dc DX7_openCost) 44 = .ok (.invokestatic 59, 3) := by decide +kernel
theorem dX7_openCost_47 : decode (dc DX7_openCost) 47 = .ok (.ifCond .eq 25, 3) := by decide +kernel
theorem dX7_openCost_50 : decode (dc DX7_openCost) 50 = .ok (.aload_n 0, 1) := by decide +kernel
theorem dX7_openCost_51 : decode (dc DX7_openCost) 51 = .ok (.getfield 44, 3) := by decide +kernel
theorem dX7_openCost_54 : decode (dc DX7_openCost) 54 = .ok (.iload 5, 2) := by decide +kernel
theorem dX7_openCost_56 : decode (dc DX7_openCost) 56 = .ok (.invokestatic 59, 3) := by decide +kernel
theorem dX7_openCost_59 : decode (dc DX7_openCost) 59 = .ok (.ifCond .eq 13, 3) := by decide +kernel
theorem dX7_openCost_62 : decode (dc DX7_openCost) 62 = .ok (.aload_n 0, 1) := by decide +kernel
theorem dX7_openCost_63 : decode (dc DX7_openCost) 63 = .ok (.iload 4, 2) := by decide +kernel
theorem dX7_openCost_65 : decode (dc DX7_openCost) 65 = .ok (.iload 5, 2) := by decide +kernel
theorem dX7_openCost_67 : decode (dc DX7_openCost) 67 = .ok (.invokevirtual 95, 3) := by decide +kernel
theorem dX7_openCost_70 : decode (dc DX7_openCost) 70 = .ok (.iconst 1, 1) := by decide +kernel
theorem dX7_openCost_71 : decode (dc DX7_openCost) 71 = .ok (.istore_n 3, 1) := by decide +kernel
theorem dX7_openCost_72 : decode (dc DX7_openCost) 72 = .ok (.iinc 5 1, 3) := by decide +kernel
theorem dX7_openCost_75 : decode (dc DX7_openCost) 75 = .ok (.goto (-58), 3) := by decide +kernel
theorem dX7_openCost_78 : decode (dc DX7_openCost) 78 = .ok (.iinc 4 1, 3) := by decide +kernel
theorem dX7_openCost_81 : decode (dc DX7_openCost) 81 = .ok (.goto (-76), 3) := by decide +kernel
theorem dX7_openCost_84 : decode (dc DX7_openCost) 84 = .ok (.iload_n 3, 1) := by decide +kernel
theorem dX7_openCost_85 : decode (dc DX7_openCost) 85 = .ok (.ireturn, 1) := by decide +kernel
theorem dX7_leaveOut_0 : decode (dc DX7_leaveOut) 0 = .ok (.iload_n 1, 1) := by decide +kernel
theorem dX7_leaveOut_1 : decode (dc DX7_leaveOut) 1 = .ok (.ifCond .ne 29, 3) := by decide +kernel
theorem dX7_leaveOut_4 : decode (dc DX7_leaveOut) 4 = .ok (.aload_n 0, 1) := by decide +kernel
theorem dX7_leaveOut_5 : decode (dc DX7_leaveOut) 5 = .ok (.dup, 1) := by decide +kernel
theorem dX7_leaveOut_6 : decode (dc DX7_leaveOut) 6 = .ok (.getfield 41, 3) := by decide +kernel
theorem dX7_leaveOut_9 : decode (dc DX7_leaveOut) 9 = .ok (.iload_n 2, 1) := by decide +kernel
theorem dX7_leaveOut_10 : decode (dc DX7_leaveOut) 10 = .ok (.invokestatic 79, 3) := by decide +kernel
theorem dX7_leaveOut_13 : decode (dc DX7_leaveOut) 13 = .ok (.iconst (-1), 1) := by decide +kernel
theorem dX7_leaveOut_14 : decode (dc DX7_leaveOut) 14 = .ok (.ixor, 1) := by decide +kernel
theorem dX7_leaveOut_15 : decode (dc DX7_leaveOut) 15 = .ok (.iand, 1) := by decide +kernel
theorem dX7_leaveOut_16 : decode (dc DX7_leaveOut) 16 = .ok (.putfield 41, 3) := by decide +kernel
theorem dX7_leaveOut_19 : decode (dc DX7_leaveOut) 19 = .ok (.aload_n 0, 1) := by decide +kernel
theorem dX7_leaveOut_20 : decode (dc DX7_leaveOut) 20 = .ok (.getfield 12, 3) := by decide +kernel
theorem dX7_leaveOut_23 : decode (dc DX7_leaveOut) 23 = .ok (.iload_n 2, 1) := by decide +kernel
theorem dX7_leaveOut_24 : decode (dc DX7_leaveOut) 24 = .ok (.invokevirtual 85, 3) := by decide +kernel
theorem dX7_leaveOut_27 : decode (dc DX7_leaveOut) 27 = .ok (.goto 26, 3) := by decide +kernel
theorem dX7_leaveOut_30 : decode (dc DX7_leaveOut) 30 = .ok (.aload_n 0, 1) := by decide +kernel
theorem dX7_leaveOut_31 : decode (dc DX7_leaveOut) 31 = .ok (.dup, 1) := by decide +kernel
theorem dX7_leaveOut_32 : decode (dc DX7_leaveOut) 32 = .ok (.getfield 44, 3) := by decide +kernel
theorem dX7_leaveOut_35 : decode (dc DX7_leaveOut) 35 = .ok (.iload_n 2, 1) := by decide +kernel
theorem dX7_leaveOut_36 : decode (dc DX7_leaveOut) 36 = .ok (.invokestatic 79, 3) := by decide +kernel
theorem dX7_leaveOut_39 : decode (dc DX7_leaveOut) 39 = .ok (.iconst (-1), 1) := by decide +kernel
theorem dX7_leaveOut_40 : decode (dc DX7_leaveOut) 40 = .ok (.ixor, 1) := by decide +kernel
theorem dX7_leaveOut_41 : decode (dc DX7_leaveOut) 41 = .ok (.iand, 1) := by decide +kernel
theorem dX7_leaveOut_42 : decode (dc DX7_leaveOut) 42 = .ok (.putfield 44, 3) := by decide +kernel
theorem dX7_leaveOut_45 : decode (dc DX7_leaveOut) 45 = .ok (.aload_n 0, 1) := by decide +kernel
theorem dX7_leaveOut_46 : decode (dc DX7_leaveOut) 46 = .ok (.getfield 12, 3) := by decide +kernel
theorem dX7_leaveOut_49 : decode (dc DX7_leaveOut) 49 = .ok (.iload_n 2, 1) := by decide +kernel
theorem dX7_leaveOut_50 : decode (dc DX7_leaveOut) 50 = .ok (.invokevirtual 99, 3) := by decide +kernel
theorem dX7_leaveOut_53 : decode (dc DX7_leaveOut) 53 = .ok (.iconst 0, 1) := by decide +kernel
theorem dX7_leaveOut_54 : decode (dc DX7_leaveOut) 54 = .ok (.istore_n 3, 1) := by decide +kernel
theorem dX7_leaveOut_55 : decode (dc DX7_leaveOut) 55 = .ok (.iload_n 3, 1) := by decide +kernel
theorem dX7_leaveOut_56 : decode (dc DX7_leaveOut) 56 = .ok (.bipush 12, 2) := by decide +kernel
theorem dX7_leaveOut_58 : decode (dc DX7_leaveOut) 58 = .ok (.if_icmp .ge 41, 3) := by decide +kernel
theorem dX7_leaveOut_61 : decode (dc DX7_leaveOut) 61 = .ok (.aload_n 0, 1) := by decide +kernel
theorem dX7_leaveOut_62 : decode (dc DX7_leaveOut) 62 = .ok (.getfield 18, 3) := by decide +kernel
theorem dX7_leaveOut_65 : decode (dc DX7_leaveOut) 65 = .ok (.iload_n 3, 1) := by decide +kernel
theorem dX7_leaveOut_66 : decode (dc DX7_leaveOut) 66 = .ok (.aload_n 0, 1) := by decide +kernel
theorem dX7_leaveOut_67 : decode (dc DX7_leaveOut) 67 = .ok (.getfield 41, 3) := by decide +kernel
theorem dX7_leaveOut_70 : decode (dc DX7_leaveOut) 70 = .ok (.iload_n 3, 1) := by decide +kernel
theorem dX7_leaveOut_71 : decode (dc DX7_leaveOut) 71 = .ok (.invokestatic 59, 3) := by decide +kernel
theorem dX7_leaveOut_74 : decode (dc DX7_leaveOut) 74 = .ok (.ifCond .eq 17, 3) := by decide +kernel
theorem dX7_leaveOut_77 : decode (dc DX7_leaveOut) 77 = .ok (.aload_n 0, 1) := by decide +kernel
theorem dX7_leaveOut_78 : decode (dc DX7_leaveOut) 78 = .ok (.getfield 18, 3) := by decide +kernel
theorem dX7_leaveOut_81 : decode (dc DX7_leaveOut) 81 = .ok (.iload_n 3, 1) := by decide +kernel
theorem dX7_leaveOut_82 : decode (dc DX7_leaveOut) 82 = .ok (.iaload, 1) := by decide +kernel
theorem dX7_leaveOut_83 : decode (dc DX7_leaveOut) 83 = .ok (.aload_n 0, 1) := by decide +kernel
theorem dX7_leaveOut_84 : decode (dc DX7_leaveOut) 84 = .ok (.getfield 44, 3) := by decide +kernel
theorem dX7_leaveOut_87 : decode (dc DX7_leaveOut) 87 = .ok (.iand, 1) := by decide +kernel
theorem dX7_leaveOut_88 : decode (dc DX7_leaveOut) 88 = .ok (.goto 4, 3) := by decide +kernel
theorem dX7_leaveOut_91 : decode (dc DX7_leaveOut) 91 = .ok (.iconst 0, 1) := by decide +kernel
theorem dX7_leaveOut_92 : decode (dc DX7_leaveOut) 92 = .ok (.iastore, 1) := by decide +kernel
theorem dX7_leaveOut_93 : decode (dc DX7_leaveOut) 93 = .ok (.iinc 3 1, 3) := by decide +kernel
theorem dX7_leaveOut_96 : decode (dc DX7_leaveOut) 96 = .ok (.goto (-41), 3) := by decide +kernel
theorem dX7_leaveOut_99 : decode (dc DX7_leaveOut) 99 = .ok (.return_, 1) := by decide +kernel
theorem dX7_trace_0 : decode (dc DX7_trace) 0 = .ok (.iconst 0, 1) := by decide +kernel
theorem dX7_trace_1 : decode (dc DX7_trace) 1 = .ok (.istore_n 2, 1) := by decide +kernel
theorem dX7_trace_2 : decode (dc DX7_trace) 2 = .ok (.iload_n 1, 1) := by decide +kernel
theorem dX7_trace_3 : decode (dc DX7_trace) 3 = .ok (.istore_n 3, 1) := by decide +kernel
theorem dX7_trace_4 : decode (dc DX7_trace) 4 = .ok (.iload_n 3, 1) := by decide +kernel
theorem dX7_trace_5 : decode (dc DX7_trace) 5 = .ok (.invokestatic 72, 3) := by decide +kernel
theorem dX7_trace_8 : decode (dc DX7_trace) 8 = .ok (.ifCond .eq 29, 3) := by decide +kernel
theorem dX7_trace_11 : decode (dc DX7_trace) 11 = .ok (.iload_n 2, 1) := by decide +kernel
theorem dX7_trace_12 : decode (dc DX7_trace) 12 = .ok (.bipush 12, 2) := by decide +kernel
theorem dX7_trace_14 : decode (dc DX7_trace) 14 = .ok (.if_icmp .ge 23, 3) := by decide +kernel
theorem dX7_trace_17 : decode (dc DX7_trace) 17 = .ok (.iinc 2 1, 3) := by decide +kernel
theorem dX7_trace_20 : decode (dc DX7_trace) 20 = .ok (.aload_n 0, 1) := by decide +kernel
theorem dX7_trace_21 : decode (dc DX7_trace) 21 = .ok (.getfield 12, 3) := by decide +kernel
theorem dX7_trace_24 : decode (dc DX7_trace) 24 = .ok (.aload_n 0, 1) := by decide +kernel
theorem dX7_trace_25 : decode (dc DX7_trace) 25 = .ok (.getfield 25, 3) := by decide +kernel
theorem dX7_trace_28 : decode (dc DX7_trace) 28 = .ok (.iload_n 3, 1) := by decide +kernel
theorem dX7_trace_29 : decode (dc DX7_trace) 29 = .ok (.iaload, 1) := by decide +kernel
theorem dX7_trace_30 : decode (dc DX7_trace) 30 = .ok (.invokevirtual 82, 3) := by decide +kernel
theorem dX7_trace_33 : decode (dc DX7_trace) 33 = .ok (.istore_n 3, 1) := by decide +kernel
theorem dX7_trace_34 : decode (dc DX7_trace) 34 = .ok (.goto (-30), 3) := by decide +kernel
theorem dX7_trace_37 : decode (dc DX7_trace) 37 = .ok (.aload_n 0, 1) := by decide +kernel
theorem dX7_trace_38 : decode (dc DX7_trace) 38 = .ok (.iconst 2, 1) := by decide +kernel
theorem dX7_trace_39 : decode (dc DX7_trace) 39 = .ok (.iload_n 2, 1) := by decide +kernel
theorem dX7_trace_40 : decode (dc DX7_trace) 40 = .ok (.imul, 1) := by decide +kernel
theorem dX7_trace_41 : decode (dc DX7_trace) 41 = .ok (.putfield 31, 3) := by decide +kernel
theorem dX7_trace_44 : decode (dc DX7_trace) 44 = .ok (.iload_n 1, 1) := by decide +kernel
theorem dX7_trace_45 : decode (dc DX7_trace) 45 = .ok (.istore_n 3, 1) := by decide +kernel
theorem dX7_trace_46 : decode (dc DX7_trace) 46 = .ok (.iload_n 2, 1) := by decide +kernel
theorem dX7_trace_47 : decode (dc DX7_trace) 47 = .ok (.iconst 1, 1) := by decide +kernel
theorem dX7_trace_48 : decode (dc DX7_trace) 48 = .ok (.isub, 1) := by decide +kernel
theorem dX7_trace_49 : decode (dc DX7_trace) 49 = .ok (.istore 4, 2) := by decide +kernel
theorem dX7_trace_51 : decode (dc DX7_trace) 51 = .ok (.iload 4, 2) := by decide +kernel
theorem dX7_trace_53 : decode (dc DX7_trace) 53 = .ok (.ifCond .lt 57, 3) := by decide +kernel
theorem dX7_trace_56 : decode (dc DX7_trace) 56 = .ok (.iload_n 3, 1) := by decide +kernel
theorem dX7_trace_57 : decode (dc DX7_trace) 57 = .ok (.invokestatic 72, 3) := by decide +kernel
theorem dX7_trace_60 : decode (dc DX7_trace) 60 = .ok (.ifCond .eq 50, 3) := by decide +kernel
theorem dX7_trace_63 : decode (dc DX7_trace) 63 = .ok (.aload_n 0, 1) := by decide +kernel
theorem dX7_trace_64 : decode (dc DX7_trace) 64 = .ok (.getfield 28, 3) := by decide +kernel
theorem dX7_trace_67 : decode (dc DX7_trace) 67 = .ok (.iconst 2, 1) := by decide +kernel
theorem dX7_trace_68 : decode (dc DX7_trace) 68 = .ok (.iload 4, 2) := by decide +kernel
theorem dX7_trace_70 : decode (dc DX7_trace) 70 = .ok (.imul, 1) := by decide +kernel
theorem dX7_trace_71 : decode (dc DX7_trace) 71 = .ok (.aload_n 0, 1) := by decide +kernel
theorem dX7_trace_72 : decode (dc DX7_trace) 72 = .ok (.getfield 25, 3) := by decide +kernel
theorem dX7_trace_75 : decode (dc DX7_trace) 75 = .ok (.iload_n 3, 1) := by decide +kernel
theorem dX7_trace_76 : decode (dc DX7_trace) 76 = .ok (.iaload, 1) := by decide +kernel
theorem dX7_trace_77 : decode (dc DX7_trace) 77 = .ok (.iastore, 1) := by decide +kernel
theorem dX7_trace_78 : decode (dc DX7_trace) 78 = .ok (.aload_n 0, 1) := by decide +kernel
theorem dX7_trace_79 : decode (dc DX7_trace) 79 = .ok (.getfield 28, 3) := by decide +kernel
theorem dX7_trace_82 : decode (dc DX7_trace) 82 = .ok (.iconst 2, 1) := by decide +kernel
theorem dX7_trace_83 : decode (dc DX7_trace) 83 = .ok (.iload 4, 2) := by decide +kernel
theorem dX7_trace_85 : decode (dc DX7_trace) 85 = .ok (.imul, 1) := by decide +kernel
theorem dX7_trace_86 : decode (dc DX7_trace) 86 = .ok (.iconst 1, 1) := by decide +kernel
theorem dX7_trace_87 : decode (dc DX7_trace) 87 = .ok (.iadd, 1) := by decide +kernel
theorem dX7_trace_88 : decode (dc DX7_trace) 88 = .ok (.iload_n 3, 1) := by decide +kernel
theorem dX7_trace_89 : decode (dc DX7_trace) 89 = .ok (.iastore, 1) := by decide +kernel
theorem dX7_trace_90 : decode (dc DX7_trace) 90 = .ok (.aload_n 0, 1) := by decide +kernel
theorem dX7_trace_91 : decode (dc DX7_trace) 91 = .ok (.getfield 12, 3) := by decide +kernel
theorem dX7_trace_94 : decode (dc DX7_trace) 94 = .ok (.aload_n 0, 1) := by decide +kernel
theorem dX7_trace_95 : decode (dc DX7_trace) 95 = .ok (.getfield 25, 3) := by decide +kernel
theorem dX7_trace_98 : decode (dc DX7_trace) 98 = .ok (.iload_n 3, 1) := by decide +kernel
theorem dX7_trace_99 : decode (dc DX7_trace) 99 = .ok (.iaload, 1) := by decide +kernel
theorem dX7_trace_100 : decode (dc DX7_trace) 100 = .ok (.invokevirtual 82, 3) := by decide +kernel
theorem dX7_trace_103 : decode (dc DX7_trace) 103 = .ok (.istore_n 3, 1) := by decide +kernel
theorem dX7_trace_104 : decode (dc DX7_trace) 104 = .ok (.iinc 4 (-1), 3) := by decide +kernel
theorem dX7_trace_107 : decode (dc DX7_trace) 107 = .ok (.goto (-56), 3) := by decide +kernel
theorem dX7_trace_110 : decode (dc DX7_trace) 110 = .ok (.return_, 1) := by decide +kernel
theorem dX7_find_0 : decode (dc DX7_find) 0 = .ok (.aload_n 0, 1) := by decide +kernel
theorem dX7_find_1 : decode (dc DX7_find) 1 = .ok (.iconst 0, 1) := by decide +kernel
theorem dX7_find_2 : decode (dc DX7_find) 2 = .ok (.putfield 31, 3) := by decide +kernel
theorem dX7_find_5 : decode (dc DX7_find) 5 = .ok (.iload_n 1, 1) := by decide +kernel
theorem dX7_find_6 : decode (dc DX7_find) 6 = .ok (.invokestatic 72, 3) := by decide +kernel
theorem dX7_find_9 : decode (dc DX7_find) 9 = .ok (.ifCond .eq 26, 3) := by decide +kernel
theorem dX7_find_12 : decode (dc DX7_find) 12 = .ok (.aload_n 0, 1) := by decide +kernel
theorem dX7_find_13 : decode (dc DX7_find) 13 = .ok (.getfield 41, 3) := by decide +kernel
theorem dX7_find_16 : decode (dc DX7_find) 16 = .ok (.iload_n 1, 1) := by decide +kernel
theorem dX7_find_17 : decode (dc DX7_find) 17 = .ok (.invokestatic 59, 3) := by decide +kernel
theorem dX7_find_20 : decode (dc DX7_find) 20 = .ok (.ifCond .eq 15, 3) := by decide +kernel
theorem dX7_find_23 : decode (dc DX7_find) 23 = .ok (.aload_n 0, 1) := by decide +kernel
theorem dX7_find_24 : decode (dc DX7_find) 24 = .ok (.getfield 12, 3) := by decide +kernel
theorem dX7_find_27 : decode (dc DX7_find) 27 = .ok (.iload_n 1, 1) := by decide +kernel
theorem dX7_find_28 : decode (dc DX7_find) 28 = .ok (.invokevirtual 82, 3) := by decide +kernel
theorem dX7_find_31 : decode (dc DX7_find) 31 = .ok (.iconst (-1), 1) := by decide +kernel
theorem dX7_find_32 : decode (dc DX7_find) 32 = .ok (.if_icmp .eq 5, 3) := by decide +kernel
theorem dX7_find_35 : decode (dc DX7_find) 35 = .ok (.iconst 0, 1) := by decide +kernel
theorem dX7_find_36 : decode (dc DX7_find) 36 = .ok (.ireturn, 1) := by decide +kernel
theorem dX7_find_37 : decode (dc DX7_find) 37 = .ok (.iconst 0, 1) := by decide +kernel
theorem dX7_find_38 : decode (dc DX7_find) 38 = .ok (.istore_n 2, 1) := by decide +kernel
theorem dX7_find_39 : decode (dc DX7_find) 39 = .ok (.iconst 1, 1) := by decide +kernel
theorem dX7_find_40 : decode (dc DX7_find) 40 = .ok (.istore_n 3, 1) := by decide +kernel
theorem dX7_find_41 : decode (dc DX7_find) 41 = .ok (.aload_n 0, 1) := by decide +kernel
theorem dX7_find_42 : decode (dc DX7_find) 42 = .ok (.getfield 22, 3) := by decide +kernel
theorem dX7_find_45 : decode (dc DX7_find) 45 = .ok (.iconst 0, 1) := by decide +kernel
theorem dX7_find_46 : decode (dc DX7_find) 46 = .ok (.iload_n 1, 1) := by decide +kernel
theorem dX7_find_47 : decode (dc DX7_find) 47 = .ok (.iastore, 1) := by decide +kernel
theorem dX7_find_48 : decode (dc DX7_find) 48 = .ok (.iconst 0, 1) := by decide +kernel
theorem dX7_find_49 : decode (dc DX7_find) 49 = .ok (.istore 4, 2) := by decide +kernel
theorem dX7_find_51 : decode (dc DX7_find) 51 = .ok (.iload 4, 2) := by decide +kernel
theorem dX7_find_53 : decode (dc DX7_find) 53 = .ok (.iload_n 3, 1) := by decide +kernel
theorem dX7_find_54 : decode (dc DX7_find) 54 = .ok (.if_icmp .ge 130, 3) := by decide +kernel
theorem dX7_find_57 : decode (dc DX7_find) 57 = .ok (.iload 4, 2) := by decide +kernel
theorem dX7_find_59 : decode (dc DX7_find) 59 = .ok (.bipush 12, 2) := by decide +kernel
theorem dX7_find_61 : decode (dc DX7_find) 61 = .ok (.if_icmp .ge 123, 3) := by decide +kernel
theorem dX7_find_64 : decode (dc DX7_find) 64 = .ok (.aload_n 0, 1) := by decide +kernel
theorem dX7_find_65 : decode (dc DX7_find) 65 = .ok (.getfield 22, 3) := by decide +kernel
theorem dX7_find_68 : decode (dc DX7_find) 68 = .ok (.iload 4, 2) := by decide +kernel
theorem dX7_find_70 : decode (dc DX7_find) 70 = .ok (.iaload, 1) := by decide +kernel
theorem dX7_find_71 : decode (dc DX7_find) 71 = .ok (.istore 5, 2) := by decide +kernel
theorem dX7_find_73 : decode (dc DX7_find) 73 = .ok (.aload_n 0, 1) := by decide +kernel
theorem dX7_find_74 : decode (dc DX7_find) 74 = .ok (.iload 5, 2) := by decide +kernel
theorem dX7_find_76 : decode (dc DX7_find) 76 = .ok (.invokevirtual 76, 3) := by decide +kernel
theorem dX7_find_79 : decode (dc DX7_find) 79 = .ok (.iload_n 2, 1) := by decide +kernel
theorem dX7_find_80 : decode (dc DX7_find) 80 = .ok (.iconst (-1), 1) := by decide +kernel
theorem dX7_find_81 : decode (dc DX7_find) 81 = .ok (.ixor, 1) := by decide +kernel
theorem dX7_find_82 : decode (dc DX7_find) 82 = .ok (.iand, 1) := by decide +kernel
theorem dX7_find_83 : decode (dc DX7_find) 83 = .ok (.istore 6, 2) := by decide +kernel
theorem dX7_find_85 : decode (dc DX7_find) 85 = .ok (.iconst 0, 1) := by decide +kernel
theorem dX7_find_86 : decode (dc DX7_find) 86 = .ok (.istore 7, 2) := by decide +kernel
theorem dX7_find_88 : decode (dc DX7_find) 88 = .ok (.iload 7, 2) := by decide +kernel
theorem dX7_find_90 : decode (dc DX7_find) 90 = .ok (.bipush 12, 2) := by decide +kernel
theorem dX7_find_97 : decode (dc DX7_find) 97 = .ok (.ifCond .eq 81, 3) := by decide +kernel
theorem dX7_find_102 : decode (dc DX7_find) 102 = .ok (.iload 7, 2) := by decide +kernel
theorem dX7_find_104 : decode (dc DX7_find) 104 = .ok (.invokestatic 59, 3) := by decide +kernel
theorem dX7_find_113 : decode (dc DX7_find) 113 = .ok (.invokestatic 79, 3) := by decide +kernel
theorem dX7_find_118 : decode (dc DX7_find) 118 = .ok (.aload_n 0, 1) := by decide +kernel
theorem dX7_find_119 : decode (dc DX7_find) 119 = .ok (.getfield 25, 3) := by decide +kernel
theorem dX7_find_124 : decode (dc DX7_find) 124 = .ok (.iload 5, 2) := by decide +kernel
theorem dX7_find_126 : decode (dc DX7_find) 126 = .ok (.iastore, 1) := by decide +kernel
theorem dX7_find_128 : decode (dc DX7_find) 128 = .ok (.getfield 12, 3) := by decide +kernel
theorem dX7_find_133 : decode (dc DX7_find) 133 = .ok (.invokevirtual 102, 3) := by decide +kernel
theorem dX7_find_138 : decode (dc DX7_find) 138 = .ok (.iload 8, 2) := by decide +kernel
theorem dX7_find_140 : decode (dc DX7_find) 140 = .ok (.iconst (-1), 1) := by decide +kernel
theorem dX7_find_147 : decode (dc DX7_find) 147 = .ok (.invokevirtual 105, 3) := by decide +kernel
theorem dX7_find_156 : decode (dc DX7_find) 156 = .ok (.bipush 12, 2) := by decide +kernel
theorem dX7_find_158 : decode (dc DX7_find) 158 = .ok (.if_icmp .ge 14, 3) := by decide +kernel
theorem dX7_find_168 : decode (dc DX7_find) 168 = .ok (.iastore, 1) := by decide +kernel
theorem dX7_wayAtPlace_0 : decode (dc DX7_wayAtPlace) 0 = .ok (.iload_n 1, 1) := by decide +kernel
theorem dX7_wayAtPlace_1 : decode (dc DX7_wayAtPlace) 1 = .ok (.ifCond .lt 26, 3) := by decide +kernel
theorem dX7_wayAtPlace_4 : decode (dc DX7_wayAtPlace) 4 = .ok (.iload_n 1, 1) := by decide +kernel
theorem dX7_wayAtPlace_5 : decode (dc DX7_wayAtPlace) 5 = .ok (.aload_n 0, 1) := by decide +kernel
theorem dX7_wayAtPlace_6 : decode (dc DX7_wayAtPlace) 6 = .ok (.getfield 31, 3) := by decide +kernel
theorem dX7_wayAtPlace_9 : decode (dc DX7_wayAtPlace) 9 = .ok (.if_icmp .ge 18, 3) := by decide +kernel
theorem dX7_wayAtPlace_12 : decode (dc DX7_wayAtPlace) 12 = .ok (.iload_n 1, 1) := by decide +kernel
theorem dX7_wayAtPlace_13 : decode (dc DX7_wayAtPlace) 13 = .ok (.bipush 24, 2) := by decide +kernel
theorem dX7_wayAtPlace_15 : decode (dc DX7_wayAtPlace) 15 = .ok (.if_icmp .ge 12, 3) := by decide +kernel
theorem dX7_wayAtPlace_18 : decode (dc DX7_wayAtPlace) 18 = .ok (.aload_n 0, 1) := by decide +kernel
theorem dX7_wayAtPlace_19 : decode (dc DX7_wayAtPlace) 19 = .ok (.getfield 28, 3) := by decide +kernel
theorem dX7_wayAtPlace_22 : decode (dc DX7_wayAtPlace) 22 = .ok (.iload_n 1, 1) := by decide +kernel
theorem dX7_wayAtPlace_23 : decode (dc DX7_wayAtPlace) 23 = .ok (.iaload, 1) := by decide +kernel
theorem dX7_wayAtPlace_24 : decode (dc DX7_wayAtPlace) 24 = .ok (.goto 4, 3) := by decide +kernel
theorem dX7_wayAtPlace_27 : decode (dc DX7_wayAtPlace) 27 = .ok (.iconst (-1), 1) := by decide +kernel
theorem dX7_wayAtPlace_28 : decode (dc DX7_wayAtPlace) 28 = .ok (.ireturn, 1) := by decide +kernel
theorem dX7_findFirst_0 : decode (dc DX7_findFirst) 0 = .ok (.iconst 0, 1) := by decide +kernel
theorem dX7_findFirst_1 : decode (dc DX7_findFirst) 1 = .ok (.istore_n 1, 1) := by decide +kernel
theorem dX7_findFirst_2 : decode (dc DX7_findFirst) 2 = .ok (.iload_n 1, 1) := by decide +kernel
theorem dX7_findFirst_3 : decode (dc DX7_findFirst) 3 = .ok (.aload_n 0, 1) := by decide +kernel
theorem dX7_findFirst_4 : decode (dc DX7_findFirst) 4 = .ok (.getfield 35, 3) := by decide +kernel
theorem dX7_findFirst_7 : decode (dc DX7_findFirst) 7 = .ok (.if_icmp .ge 22, 3) := by decide +kernel
theorem dX7_findFirst_10 : decode (dc DX7_findFirst) 10 = .ok (.aload_n 0, 1) := by decide +kernel
theorem dX7_findFirst_11 : decode (dc DX7_findFirst) 11 = .ok (.iload_n 1, 1) := by decide +kernel
theorem dX7_findFirst_12 : decode (dc DX7_findFirst) 12 = .ok (.invokevirtual 108, 3) := by decide +kernel
theorem dX7_findFirst_15 : decode (dc DX7_findFirst) 15 = .ok (.ifCond .le 8, 3) := by decide +kernel
theorem dX7_findFirst_18 : decode (dc DX7_findFirst) 18 = .ok (.aload_n 0, 1) := by decide +kernel
theorem dX7_findFirst_19 : decode (dc DX7_findFirst) 19 = .ok (.getfield 31, 3) := by decide +kernel
theorem dX7_findFirst_22 : decode (dc DX7_findFirst) 22 = .ok (.ireturn, 1) := by decide +kernel
theorem dX7_findFirst_23 : decode (dc DX7_findFirst) 23 = .ok (.iinc 1 1, 3) := by decide +kernel
theorem dX7_findFirst_26 : decode (dc DX7_findFirst) 26 = .ok (.goto (-24), 3) := by decide +kernel
theorem dX7_findFirst_29 : decode (dc DX7_findFirst) 29 = .ok (.iconst 0, 1) := by decide +kernel
theorem dX7_findFirst_30 : decode (dc DX7_findFirst) 30 = .ok (.ireturn, 1) := by decide +kernel
theorem dX7_follow_0 : decode (dc DX7_follow) 0 = .ok (.iconst 0, 1) := by decide +kernel
theorem dX7_follow_1 : decode (dc DX7_follow) 1 = .ok (.istore_n 1, 1) := by decide +kernel
theorem dX7_follow_2 : decode (dc DX7_follow) 2 = .ok (.iload_n 1, 1) := by decide +kernel
theorem dX7_follow_3 : decode (dc DX7_follow) 3 = .ok (.iconst 1, 1) := by decide +kernel
theorem dX7_follow_4 : decode (dc DX7_follow) 4 = .ok (.iadd, 1) := by decide +kernel
theorem dX7_follow_5 : decode (dc DX7_follow) 5 = .ok (.aload_n 0, 1) := by decide +kernel
theorem dX7_follow_6 : decode (dc DX7_follow) 6 = .ok (.getfield 31, 3) := by decide +kernel
theorem dX7_follow_9 : decode (dc DX7_follow) 9 = .ok (.if_icmp .ge 28, 3) := by decide +kernel
theorem dX7_follow_12 : decode (dc DX7_follow) 12 = .ok (.aload_n 0, 1) := by decide +kernel
theorem dX7_follow_13 : decode (dc DX7_follow) 13 = .ok (.getfield 12, 3) := by decide +kernel
theorem dX7_follow_16 : decode (dc DX7_follow) 16 = .ok (.aload_n 0, 1) := by decide +kernel
theorem dX7_follow_17 : decode (dc DX7_follow) 17 = .ok (.iload_n 1, 1) := by decide +kernel
theorem dX7_follow_18 : decode (dc DX7_follow) 18 = .ok (.invokevirtual 111, 3) := by decide +kernel
theorem dX7_follow_21 : decode (dc DX7_follow) 21 = .ok (.aload_n 0, 1) := by decide +kernel
theorem dX7_follow_22 : decode (dc DX7_follow) 22 = .ok (.iload_n 1, 1) := by decide +kernel
theorem dX7_follow_23 : decode (dc DX7_follow) 23 = .ok (.iconst 1, 1) := by decide +kernel
theorem dX7_follow_24 : decode (dc DX7_follow) 24 = .ok (.iadd, 1) := by decide +kernel
theorem dX7_follow_25 : decode (dc DX7_follow) 25 = .ok (.invokevirtual 111, 3) := by decide +kernel
theorem dX7_follow_28 : decode (dc DX7_follow) 28 = .ok (.invokevirtual 114, 3) := by decide +kernel
theorem dX7_follow_31 : decode (dc DX7_follow) 31 = .ok (.iinc 1 2, 3) := by decide +kernel
theorem dX7_follow_34 : decode (dc DX7_follow) 34 = .ok (.goto (-32), 3) := by decide +kernel
theorem dX7_follow_37 : decode (dc DX7_follow) 37 = .ok (.return_, 1) := by decide +kernel
theorem dX7_grow_0 : decode (dc DX7_grow) 0 = .ok (.iconst 0, 1) := by decide +kernel
theorem dX7_grow_1 : decode (dc DX7_grow) 1 = .ok (.istore_n 2, 1) := by decide +kernel
theorem dX7_grow_2 : decode (dc DX7_grow) 2 = .ok (.iconst 0, 1) := by decide +kernel
theorem dX7_grow_3 : decode (dc DX7_grow) 3 = .ok (.istore_n 3, 1) := by decide +kernel
theorem dX7_grow_4 : decode (dc DX7_grow) 4 = .ok (.iload_n 3, 1) := by decide +kernel
theorem dX7_grow_5 : decode (dc DX7_grow) 5 = .ok (.aload_n 0, 1) := by decide +kernel
theorem dX7_grow_6 : decode (dc DX7_grow) 6 = .ok (.getfield 35, 3) := by decide +kernel
theorem dX7_grow_9 : decode (dc DX7_grow) 9 = .ok (.if_icmp .ge 29, 3) := by decide +kernel
theorem dX7_grow_12 : decode (dc DX7_grow) 12 = .ok (.iload_n 2, 1) := by decide +kernel
theorem dX7_grow_13 : decode (dc DX7_grow) 13 = .ok (.iload_n 1, 1) := by decide +kernel
theorem dX7_grow_14 : decode (dc DX7_grow) 14 = .ok (.if_icmp .ge 24, 3) := by decide +kernel
theorem dX7_grow_17 : decode (dc DX7_grow) 17 = .ok (.aload_n 0, 1) := by decide +kernel
theorem dX7_grow_18 : decode (dc DX7_grow) 18 = .ok (.iload_n 3, 1) := by decide +kernel
theorem dX7_grow_19 : decode (dc DX7_grow) 19 = .ok (.invokevirtual 108, 3) := by decide +kernel
theorem dX7_grow_22 : decode (dc DX7_grow) 22 = .ok (.ifCond .le 10, 3) := by decide +kernel
theorem dX7_grow_25 : decode (dc DX7_grow) 25 = .ok (.aload_n 0, 1) := by decide +kernel
theorem dX7_grow_26 : decode (dc DX7_grow) 26 = .ok (.invokevirtual 117, 3) := by decide +kernel
theorem dX7_grow_29 : decode (dc DX7_grow) 29 = .ok (.iinc 2 1, 3) := by decide +kernel
theorem dX7_grow_32 : decode (dc DX7_grow) 32 = .ok (.iinc 3 1, 3) := by decide +kernel
theorem dX7_grow_35 : decode (dc DX7_grow) 35 = .ok (.goto (-31), 3) := by decide +kernel
theorem dX7_grow_38 : decode (dc DX7_grow) 38 = .ok (.iload_n 2, 1) := by decide +kernel
theorem dX7_grow_39 : decode (dc DX7_grow) 39 = .ok (.ireturn, 1) := by decide +kernel
theorem dJ9_min_f86c9_0 : decode (dc DJ9_min_f86c9) 0 = .ok (.lload_n 0, 1) := by decide +kernel
theorem dJ9_min_f86c9_1 : decode (dc DJ9_min_f86c9) 1 = .ok (.lload_n 2, 1) := by decide +kernel
theorem dJ9_min_f86c9_2 : decode (dc DJ9_min_f86c9) 2 = .ok (.lcmp, 1) := by decide +kernel
theorem dJ9_min_f86c9_3 : decode (dc DJ9_min_f86c9) 3 = .ok (.ifCond .gt 7, 3) := by decide +kernel
theorem dJ9_min_f86c9_6 : decode (dc DJ9_min_f86c9) 6 = .ok (.lload_n 0, 1) := by decide +kernel
theorem dJ9_min_f86c9_7 : decode (dc DJ9_min_f86c9) 7 = .ok (.goto 4, 3) := by decide +kernel
theorem dJ9_min_f86c9_10 : decode (dc DJ9_min_f86c9) 10 = .ok (.lload_n 2, 1) := by decide +kernel
theorem dJ9_min_f86c9_11 : decode (dc DJ9_min_f86c9) 11 = .ok (.lreturn, 1) := by decide +kernel
theorem dX8_put_0 : decode (dc DX8_put) 0 = .ok (.iload_n 1, 1) := by decide +kernel
theorem dX8_put_1 : decode (dc DX8_put) 1 = .ok (.ifCond .lt 21, 3) := by decide +kernel
theorem dX8_put_4 : decode (dc DX8_put) 4 = .ok (.iload_n 1, 1) := by decide +kernel
theorem dX8_put_5 : decode (dc DX8_put) 5 = .ok (.sipush 4096, 3) := by decide +kernel
theorem dX8_put_8 : decode (dc DX8_put) 8 = .ok (.if_icmp .ge 14, 3) := by decide +kernel
theorem dX8_put_11 : decode (dc DX8_put) 11 = .ok (.iload_n 2, 1) := by decide +kernel
theorem dX8_put_12 : decode (dc DX8_put) 12 = .ok (.ifCond .lt 10, 3) := by decide +kernel
theorem dX8_put_15 : decode (dc DX8_put) 15 = .ok (.iload_n 2, 1) := by decide +kernel
theorem dX8_put_16 : decode (dc DX8_put) 16 = .ok (.sipush 4096, 3) := by decide +kernel
theorem dX8_put_19 : decode (dc DX8_put) 19 = .ok (.if_icmp .lt 4, 3) := by decide +kernel
theorem dX8_put_22 : decode (dc DX8_put) 22 = .ok (.return_, 1) := by decide +kernel
theorem dX8_put_23 : decode (dc DX8_put) 23 = .ok (.aload_n 0, 1) := by decide +kernel
theorem dX8_put_24 : decode (dc DX8_put) 24 = .ok (.getfield 21, 3) := by decide +kernel
theorem dX8_put_27 : decode (dc DX8_put) 27 = .ok (.iload_n 1, 1) := by decide +kernel
theorem dX8_put_28 : decode (dc DX8_put) 28 = .ok (.iaload, 1) := by decide +kernel
theorem dX8_put_29 : decode (dc DX8_put) 29 = .ok (.iload_n 3, 1) := by decide +kernel
theorem dX8_put_30 : decode (dc DX8_put) 30 = .ok (.iadd, 1) := by decide +kernel
theorem dX8_put_31 : decode (dc DX8_put) 31 = .ok (.istore 6, 2) := by decide +kernel
theorem dX8_put_33 : decode (dc DX8_put) 33 = .ok (.aload_n 0, 1) := by decide +kernel
theorem dX8_put_34 : decode (dc DX8_put) 34 = .ok (.getfield 18, 3) := by decide +kernel
theorem dX8_put_37 : decode (dc DX8_put) 37 = .ok (.iload_n 1, 1) := by decide +kernel
theorem dX8_put_38 : decode (dc DX8_put) 38 = .ok (.laload, 1) := by decide +kernel
theorem dX8_put_39 : decode (dc DX8_put) 39 = .ok (.lload 4, 2) := by decide +kernel
theorem dX8_put_41 : decode (dc DX8_put) 41 = .ok (.ladd, 1) := by decide +kernel
theorem dX8_put_42 : decode (dc DX8_put) 42 = .ok (.lstore 7, 2) := by decide +kernel
theorem dX8_put_44 : decode (dc DX8_put) 44 = .ok (.aload_n 0, 1) := by decide +kernel
theorem dX8_put_45 : decode (dc DX8_put) 45 = .ok (.getfield 9, 3) := by decide +kernel
theorem dX8_put_48 : decode (dc DX8_put) 48 = .ok (.iload_n 2, 1) := by decide +kernel
theorem dX8_put_49 : decode (dc DX8_put) 49 = .ok (.laload, 1) := by decide +kernel
theorem dX8_put_50 : decode (dc DX8_put) 50 = .ok (.lconst 0, 1) := by decide +kernel
theorem dX8_put_51 : decode (dc DX8_put) 51 = .ok (.lcmp, 1) := by decide +kernel
theorem dX8_put_52 : decode (dc DX8_put) 52 = .ok (.ifCond .eq 14, 3) := by decide +kernel
theorem dX8_put_55 : decode (dc DX8_put) 55 = .ok (.iload 6, 2) := by decide +kernel
theorem dX8_put_57 : decode (dc DX8_put) 57 = .ok (.aload_n 0, 1) := by decide +kernel
theorem dX8_put_58 : decode (dc DX8_put) 58 = .ok (.getfield 21, 3) := by decide +kernel
theorem dX8_put_61 : decode (dc DX8_put) 61 = .ok (.iload_n 2, 1) := by decide +kernel
theorem dX8_put_62 : decode (dc DX8_put) 62 = .ok (.iaload, 1) := by decide +kernel
theorem dX8_put_63 : decode (dc DX8_put) 63 = .ok (.if_icmp .ge 34, 3) := by decide +kernel
theorem dX8_put_66 : decode (dc DX8_put) 66 = .ok (.aload_n 0, 1) := by decide +kernel
theorem dX8_put_67 : decode (dc DX8_put) 67 = .ok (.getfield 21, 3) := by decide +kernel
theorem dX8_put_70 : decode (dc DX8_put) 70 = .ok (.iload_n 2, 1) := by decide +kernel
theorem dX8_put_71 : decode (dc DX8_put) 71 = .ok (.iload 6, 2) := by decide +kernel
theorem dX8_put_73 : decode (dc DX8_put) 73 = .ok (.iastore, 1) := by decide +kernel
theorem dX8_put_74 : decode (dc DX8_put) 74 = .ok (.aload_n 0, 1) := by decide +kernel
theorem dX8_put_75 : decode (dc DX8_put) 75 = .ok (.getfield 15, 3) := by decide +kernel
theorem dX8_put_78 : decode (dc DX8_put) 78 = .ok (.iload_n 2, 1) := by decide +kernel
theorem dX8_put_79 : decode (dc DX8_put) 79 = .ok (.aload_n 0, 1) := by decide +kernel
theorem dX8_put_80 : decode (dc DX8_put) 80 = .ok (.getfield 15, 3) := by decide +kernel
theorem dX8_put_83 : decode (dc DX8_put) 83 = .ok (.iload_n 1, 1) := by decide +kernel
theorem dX8_put_84 : decode (dc DX8_put) 84 = .ok (.laload, 1) := by decide +kernel
theorem dX8_put_85 : decode (dc DX8_put) 85 = .ok (.lastore, 1) := by decide +kernel
theorem dX8_put_86 : decode (dc DX8_put) 86 = .ok (.aload_n 0, 1) := by decide +kernel
theorem dX8_put_87 : decode (dc DX8_put) 87 = .ok (.getfield 18, 3) := by decide +kernel
theorem dX8_put_90 : decode (dc DX8_put) 90 = .ok (.iload_n 2, 1) := by decide +kernel
theorem dX8_put_91 : decode (dc DX8_put) 91 = .ok (.lload 7, 2) := by decide +kernel
theorem dX8_put_93 : decode (dc DX8_put) 93 = .ok (.lastore, 1) := by decide +kernel
theorem dX8_put_94 : decode (dc DX8_put) 94 = .ok (.goto 46, 3) := by decide +kernel
theorem dX8_put_97 : decode (dc DX8_put) 97 = .ok (.iload 6, 2) := by decide +kernel
theorem dX8_put_99 : decode (dc DX8_put) 99 = .ok (.aload_n 0, 1) := by decide +kernel
theorem dX8_put_100 : decode (dc DX8_put) 100 = .ok (.getfield 21, 3) := by decide +kernel
theorem dX8_put_103 : decode (dc DX8_put) 103 = .ok (.iload_n 2, 1) := by decide +kernel
theorem dX8_put_104 : decode (dc DX8_put) 104 = .ok (.iaload, 1) := by decide +kernel
theorem dX8_put_105 : decode (dc DX8_put) 105 = .ok (.if_icmp .ne 35, 3) := by decide +kernel
theorem dX8_put_108 : decode (dc DX8_put) 108 = .ok (.aload_n 0, 1) := by decide +kernel
theorem dX8_put_109 : decode (dc DX8_put) 109 = .ok (.getfield 15, 3) := by decide +kernel
theorem dX8_put_112 : decode (dc DX8_put) 112 = .ok (.iload_n 2, 1) := by decide +kernel
theorem dX8_put_113 : decode (dc DX8_put) 113 = .ok (.dup2, 1) := by decide +kernel
theorem dX8_put_114 : decode (dc DX8_put) 114 = .ok (.laload, 1) := by decide +kernel
theorem dX8_put_115 : decode (dc DX8_put) 115 = .ok (.aload_n 0, 1) := by decide +kernel
theorem dX8_put_116 : decode (dc DX8_put) 116 = .ok (.getfield 15, 3) := by decide +kernel
theorem dX8_put_119 : decode (dc DX8_put) 119 = .ok (.iload_n 1, 1) := by decide +kernel
theorem dX8_put_120 : decode (dc DX8_put) 120 = .ok (.laload, 1) := by decide +kernel
theorem dX8_put_121 : decode (dc DX8_put) 121 = .ok (.ladd, 1) := by decide +kernel
theorem dX8_put_122 : decode (dc DX8_put) 122 = .ok (.lastore, 1) := by decide +kernel
theorem dX8_put_123 : decode (dc DX8_put) 123 = .ok (.aload_n 0, 1) := by decide +kernel
theorem dX8_put_124 : decode (dc DX8_put) 124 = .ok (.getfield 18, 3) := by decide +kernel
theorem dX8_put_127 : decode (dc DX8_put) 127 = .ok (.iload_n 2, 1) := by decide +kernel
theorem dX8_put_128 : decode (dc DX8_put) 128 = .ok (.aload_n 0, 1) := by decide +kernel
theorem dX8_put_129 : decode (dc DX8_put) 129 = .ok (.getfield 18, 3) := by decide +kernel
theorem dX8_put_132 : decode (dc DX8_put) 132 = .ok (.iload_n 2, 1) := by decide +kernel
theorem dX8_put_133 : decode (dc DX8_put) 133 = .ok (.laload, 1) := by decide +kernel
theorem dX8_put_134 : decode (dc DX8_put) 134 = .ok (.lload 7, 2) := by decide +kernel
theorem dX8_put_136 : decode (dc DX8_put) 136 = .ok (.invokestatic 90, 3) := by decide +kernel
theorem dX8_put_139 : decode (dc DX8_put) 139 = .ok (.lastore, 1) := by decide +kernel
theorem dX8_put_140 : decode (dc DX8_put) 140 = .ok (.aload_n 0, 1) := by decide +kernel
theorem dX8_put_141 : decode (dc DX8_put) 141 = .ok (.getfield 9, 3) := by decide +kernel
theorem dX8_put_144 : decode (dc DX8_put) 144 = .ok (.iload_n 2, 1) := by decide +kernel
theorem dX8_put_145 : decode (dc DX8_put) 145 = .ok (.dup2, 1) := by decide +kernel
theorem dX8_put_146 : decode (dc DX8_put) 146 = .ok (.laload, 1) := by decide +kernel
theorem dX8_put_147 : decode (dc DX8_put) 147 = .ok (.aload_n 0, 1) := by decide +kernel
theorem dX8_put_148 : decode (dc DX8_put) 148 = .ok (.getfield 9, 3) := by decide +kernel
theorem dX8_put_151 : decode (dc DX8_put) 151 = .ok (.iload_n 1, 1) := by decide +kernel
theorem dX8_put_152 : decode (dc DX8_put) 152 = .ok (.laload, 1) := by decide +kernel
theorem dX8_put_153 : decode (dc DX8_put) 153 = .ok (.ladd, 1) := by decide +kernel
theorem dX8_put_154 : decode (dc DX8_put) 154 = .ok (.lastore, 1) := by decide +kernel
theorem dX8_put_155 : decode (dc DX8_put) 155 = .ok (.return_, 1) := by decide +kernel
theorem dX8_extend_0 : decode (dc DX8_extend) 0 = .ok (.iload 7, 2) := by decide +kernel
theorem dX8_extend_2 : decode (dc DX8_extend) 2 = .ok (.iconst 1, 1) := by decide +kernel
theorem dX8_extend_3 : decode (dc DX8_extend) 3 = .ok (.isub, 1) := by decide +kernel
theorem dX8_extend_4 : decode (dc DX8_extend) 4 = .ok (.istore 8, 2) := by decide +kernel
theorem dX8_extend_6 : decode (dc DX8_extend) 6 = .ok (.iload 8, 2) := by decide +kernel
theorem dX8_extend_8 : decode (dc DX8_extend) 8 = .ok (.ifCond .lt 111, 3) := by decide +kernel
theorem dX8_extend_11 : decode (dc DX8_extend) 11 = .ok (.iload_n 2, 1) := by decide +kernel
theorem dX8_extend_12 : decode (dc DX8_extend) 12 = .ok (.iload 8, 2) := by decide +kernel
theorem dX8_extend_14 : decode (dc DX8_extend) 14 = .ok (.iconst (-1), 1) := by decide +kernel
theorem dX8_extend_15 : decode (dc DX8_extend) 15 = .ok (.ixor, 1) := by decide +kernel
theorem dX8_extend_16 : decode (dc DX8_extend) 16 = .ok (.iand, 1) := by decide +kernel
theorem dX8_extend_17 : decode (dc DX8_extend) 17 = .ok (.istore 9, 2) := by decide +kernel
theorem dX8_extend_19 : decode (dc DX8_extend) 19 = .ok (.iload 8, 2) := by decide +kernel
theorem dX8_extend_21 : decode (dc DX8_extend) 21 = .ok (.sipush 4096, 3) := by decide +kernel
theorem dX8_extend_24 : decode (dc DX8_extend) 24 = .ok (.if_icmp .ge 89, 3) := by decide +kernel
theorem dX8_extend_27 : decode (dc DX8_extend) 27 = .ok (.iload 9, 2) := by decide +kernel
theorem dX8_extend_29 : decode (dc DX8_extend) 29 = .ok (.ifCond .eq 84, 3) := by decide +kernel
theorem dX8_extend_32 : decode (dc DX8_extend) 32 = .ok (.aload_n 0, 1) := by decide +kernel
theorem dX8_extend_33 : decode (dc DX8_extend) 33 = .ok (.getfield 9, 3) := by decide +kernel
theorem dX8_extend_36 : decode (dc DX8_extend) 36 = .ok (.iload 8, 2) := by decide +kernel
theorem dX8_extend_38 : decode (dc DX8_extend) 38 = .ok (.laload, 1) := by decide +kernel
theorem dX8_extend_39 : decode (dc DX8_extend) 39 = .ok (.lconst 0, 1) := by decide +kernel
theorem dX8_extend_40 : decode (dc DX8_extend) 40 = .ok (.lcmp, 1) := by decide +kernel
theorem dX8_extend_41 : decode (dc DX8_extend) 41 = .ok (.ifCond .eq 72, 3) := by decide +kernel
theorem dX8_extend_44 : decode (dc DX8_extend) 44 = .ok (.iload 8, 2) := by decide +kernel
theorem dX8_extend_46 : decode (dc DX8_extend) 46 = .ok (.invokestatic 57, 3) := by decide +kernel
theorem dX8_extend_49 : decode (dc DX8_extend) 49 = .ok (.iload 6, 2) := by decide +kernel
theorem dX8_extend_51 : decode (dc DX8_extend) 51 = .ok (.if_icmp .ge 6, 3) := by decide +kernel
theorem dX8_extend_54 : decode (dc DX8_extend) 54 = .ok (.goto 59, 3) := by decide +kernel
theorem dX8_extend_57 : decode (dc DX8_extend) 57 = .ok (.iconst 0, 1) := by decide +kernel
theorem dX8_extend_58 : decode (dc DX8_extend) 58 = .ok (.istore 10, 2) := by decide +kernel
theorem dX8_extend_60 : decode (dc DX8_extend) 60 = .ok (.iload 10, 2) := by decide +kernel
theorem dX8_extend_62 : decode (dc DX8_extend) 62 = .ok (.bipush 12, 2) := by decide +kernel
theorem dX8_extend_64 : decode (dc DX8_extend) 64 = .ok (.if_icmp .ge 49, 3) := by decide +kernel
theorem dX8_extend_67 : decode (dc DX8_extend) 67 = .ok (.iload 9, 2) := by decide +kernel
theorem dX8_extend_69 : decode (dc DX8_extend) 69 = .ok (.iload 10, 2) := by decide +kernel
theorem dX8_extend_71 : decode (dc DX8_extend) 71 = .ok (.invokestatic 64, 3) := by decide +kernel
theorem dX8_extend_74 : decode (dc DX8_extend) 74 = .ok (.ifCond .eq 33, 3) := by decide +kernel
theorem dX8_extend_77 : decode (dc DX8_extend) 77 = .ok (.aload_n 0, 1) := by decide +kernel
theorem dX8_extend_78 : decode (dc DX8_extend) 78 = .ok (.iload 8, 2) := by decide +kernel
theorem dX8_extend_80 : decode (dc DX8_extend) 80 = .ok (.iload 8, 2) := by decide +kernel
theorem dX8_extend_82 : decode (dc DX8_extend) 82 = .ok (.iload 10, 2) := by decide +kernel
theorem dX8_extend_84 : decode (dc DX8_extend) 84 = .ok (.invokestatic 50, 3) := by decide +kernel
theorem dX8_extend_87 : decode (dc DX8_extend) 87 = .ok (.ior, 1) := by decide +kernel
theorem dX8_extend_88 : decode (dc DX8_extend) 88 = .ok (.aload_n 1, 1) := by decide +kernel
theorem dX8_extend_89 : decode (dc DX8_extend) 89 = .ok (.iload_n 3, 1) := by decide +kernel
theorem dX8_extend_90 : decode (dc DX8_extend) 90 = .ok (.iload 10, 2) := by decide +kernel
theorem dX8_extend_92 : decode (dc DX8_extend) 92 = .ok (.invokevirtual 81, 3) := by decide +kernel
theorem dX8_extend_95 : decode (dc DX8_extend) 95 = .ok (.lload 4, 2) := by decide +kernel
theorem dX8_extend_97 : decode (dc DX8_extend) 97 = .ok (.iload 10, 2) := by decide +kernel
theorem dX8_extend_99 : decode (dc DX8_extend) 99 = .ok (.bipush 12, 2) := by decide +kernel
theorem dX8_extend_101 : decode (dc DX8_extend) 101 = .ok (.isub, 1) := by decide +kernel
theorem dX8_extend_102 : decode (dc DX8_extend) 102 = .ok (.i2l, 1) := by decide +kernel
theorem dX8_extend_103 : decode (dc DX8_extend) 103 = .ok (.lmul, 1) := by decide +kernel
theorem dX8_extend_104 : decode (dc DX8_extend) 104 = .ok (.invokevirtual 86, 3) := by decide +kernel
theorem dX8_extend_107 : decode (dc DX8_extend) 107 = .ok (.iinc 10 1, 3) := by decide +kernel
theorem dX8_extend_110 : decode (dc DX8_extend) 110 = .ok (.goto (-50), 3) := by decide +kernel
theorem dX8_extend_113 : decode (dc DX8_extend) 113 = .ok (.iinc 8 (-1), 3) := by decide +kernel
theorem dX8_extend_116 : decode (dc DX8_extend) 116 = .ok (.goto (-110), 3) := by decide +kernel
theorem dX8_extend_119 : decode (dc DX8_extend) 119 = .ok (.return_, 1) := by decide +kernel
theorem dX8_decode_0 : decode (dc DX8_decode) 0 = .ok (.lload_n 1, 1) := by decide +kernel
theorem dX8_decode_1 : decode (dc DX8_decode) 1 = .ok (.ldc2_w 97, 3) := by decide +kernel
theorem dX8_decode_4 : decode (dc DX8_decode) 4 = .ok (.ladd, 1) := by decide +kernel
theorem dX8_decode_5 : decode (dc DX8_decode) 5 = .ok (.lconst 1, 1) := by decide +kernel
theorem dX8_decode_6 : decode (dc DX8_decode) 6 = .ok (.lsub, 1) := by decide +kernel
theorem dX8_decode_7 : decode (dc DX8_decode) 7 = .ok (.lstore_n 3, 1) := by decide +kernel
theorem dX8_decode_8 : decode (dc DX8_decode) 8 = .ok (.bipush 11, 2) := by decide +kernel
theorem dX8_decode_10 : decode (dc DX8_decode) 10 = .ok (.istore 5, 2) := by decide +kernel
theorem dX8_decode_12 : decode (dc DX8_decode) 12 = .ok (.iload 5, 2) := by decide +kernel
theorem dX8_decode_14 : decode (dc DX8_decode) 14 = .ok (.ifCond .lt 43, 3) := by decide +kernel
theorem dX8_decode_17 : decode (dc DX8_decode) 17 = .ok (.lload_n 3, 1) := by decide +kernel
theorem dX8_decode_18 : decode (dc DX8_decode) 18 = .ok (.ldc2_w 75, 3) := by decide +kernel
theorem dX8_decode_21 : decode (dc DX8_decode) 21 = .ok (.lrem, 1) := by decide +kernel
theorem dX8_decode_22 : decode (dc DX8_decode) 22 = .ok (.l2i, 1) := by decide +kernel
theorem dX8_decode_23 : decode (dc DX8_decode) 23 = .ok (.istore 6, 2) := by decide +kernel
theorem dX8_decode_25 : decode (dc DX8_decode) 25 = .ok (.aload_n 0, 1) := by decide +kernel
theorem dX8_decode_26 : decode (dc DX8_decode) 26 = .ok (.getfield 25, 3) := by decide +kernel
theorem dX8_decode_29 : decode (dc DX8_decode) 29 = .ok (.iload 5, 2) := by decide +kernel
theorem dX8_decode_31 : decode (dc DX8_decode) 31 = .ok (.iload 6, 2) := by decide +kernel
theorem dX8_decode_33 : decode (dc DX8_decode) 33 = .ok (.bipush 12, 2) := by decide +kernel
theorem dX8_decode_35 : decode (dc DX8_decode) 35 = .ok (.if_icmp .ge 8, 3) := by decide +kernel
theorem dX8_decode_38 : decode (dc DX8_decode) 38 = .ok (.iload 6, 2) := by decide +kernel
theorem dX8_decode_40 : decode (dc DX8_decode) 40 = .ok (.goto 4, 3) := by decide +kernel
theorem dX8_decode_43 : decode (dc DX8_decode) 43 = .ok (.iconst (-1), 1) := by decide +kernel
theorem dX8_decode_44 : decode (dc DX8_decode) 44 = .ok (.iastore, 1) := by decide +kernel
theorem dX8_decode_45 : decode (dc DX8_decode) 45 = .ok (.lload_n 3, 1) := by decide +kernel
theorem dX8_decode_46 : decode (dc DX8_decode) 46 = .ok (.ldc2_w 75, 3) := by decide +kernel
theorem dX8_decode_49 : decode (dc DX8_decode) 49 = .ok (.ldiv, 1) := by decide +kernel
theorem dX8_decode_50 : decode (dc DX8_decode) 50 = .ok (.lstore_n 3, 1) := by decide +kernel
theorem dX8_decode_51 : decode (dc DX8_decode) 51 = .ok (.iinc 5 (-1), 3) := by decide +kernel
theorem dX8_decode_54 : decode (dc DX8_decode) 54 = .ok (.goto (-42), 3) := by decide +kernel
theorem dX8_decode_57 : decode (dc DX8_decode) 57 = .ok (.return_, 1) := by decide +kernel
theorem dX8_finish_0 : decode (dc DX8_finish) 0 = .ok (.aload_n 0, 1) := by decide +kernel
theorem dX8_finish_1 : decode (dc DX8_finish) 1 = .ok (.lconst 0, 1) := by decide +kernel
theorem dX8_finish_2 : decode (dc DX8_finish) 2 = .ok (.putfield 28, 3) := by decide +kernel
theorem dX8_finish_5 : decode (dc DX8_finish) 5 = .ok (.aload_n 0, 1) := by decide +kernel
theorem dX8_finish_6 : decode (dc DX8_finish) 6 = .ok (.lconst 0, 1) := by decide +kernel
theorem dX8_finish_7 : decode (dc DX8_finish) 7 = .ok (.putfield 32, 3) := by decide +kernel
theorem dX8_finish_10 : decode (dc DX8_finish) 10 = .ok (.aload_n 0, 1) := by decide +kernel
theorem dX8_finish_11 : decode (dc DX8_finish) 11 = .ok (.iconst 0, 1) := by decide +kernel
theorem dX8_finish_12 : decode (dc DX8_finish) 12 = .ok (.putfield 35, 3) := by decide +kernel
theorem dX8_finish_15 : decode (dc DX8_finish) 15 = .ok (.lconst 0, 1) := by decide +kernel
theorem dX8_finish_16 : decode (dc DX8_finish) 16 = .ok (.lstore_n 3, 1) := by decide +kernel
theorem dX8_finish_17 : decode (dc DX8_finish) 17 = .ok (.iconst 0, 1) := by decide +kernel
theorem dX8_finish_18 : decode (dc DX8_finish) 18 = .ok (.istore 5, 2) := by decide +kernel
theorem dX8_finish_20 : decode (dc DX8_finish) 20 = .ok (.iload 5, 2) := by decide +kernel
theorem dX8_finish_22 : decode (dc DX8_finish) 22 = .ok (.iload_n 2, 1) := by decide +kernel
theorem dX8_finish_23 : decode (dc DX8_finish) 23 = .ok (.if_icmp .ge 152, 3) := by decide +kernel
theorem dX8_finish_26 : decode (dc DX8_finish) 26 = .ok (.iload 5, 2) := by decide +kernel
theorem dX8_finish_28 : decode (dc DX8_finish) 28 = .ok (.sipush 4096, 3) := by decide +kernel
theorem dX8_finish_31 : decode (dc DX8_finish) 31 = .ok (.if_icmp .ge 144, 3) := by decide +kernel
theorem dX8_finish_34 : decode (dc DX8_finish) 34 = .ok (.aload_n 0, 1) := by decide +kernel
theorem dX8_finish_35 : decode (dc DX8_finish) 35 = .ok (.getfield 9, 3) := by decide +kernel
theorem dX8_finish_38 : decode (dc DX8_finish) 38 = .ok (.iload 5, 2) := by decide +kernel
theorem dX8_finish_40 : decode (dc DX8_finish) 40 = .ok (.laload, 1) := by decide +kernel
theorem dX8_finish_41 : decode (dc DX8_finish) 41 = .ok (.lconst 0, 1) := by decide +kernel
theorem dX8_finish_42 : decode (dc DX8_finish) 42 = .ok (.lcmp, 1) := by decide +kernel
theorem dX8_finish_43 : decode (dc DX8_finish) 43 = .ok (.ifCond .eq 126, 3) := by decide +kernel
theorem dX8_finish_46 : decode (dc DX8_finish) 46 = .ok (.iload 5, 2) := by decide +kernel
theorem dX8_finish_48 : decode (dc DX8_finish) 48 = .ok (.invokestatic 57, 3) := by decide +kernel
theorem dX8_finish_51 : decode (dc DX8_finish) 51 = .ok (.iload_n 1, 1) := by decide +kernel
theorem dX8_finish_52 : decode (dc DX8_finish) 52 = .ok (.if_icmp .ne 117, 3) := by decide +kernel
theorem dX8_finish_55 : decode (dc DX8_finish) 55 = .ok (.aload_n 0, 1) := by decide +kernel
theorem dX8_finish_56 : decode (dc DX8_finish) 56 = .ok (.getfield 28, 3) := by decide +kernel
theorem dX8_finish_59 : decode (dc DX8_finish) 59 = .ok (.lconst 0, 1) := by decide +kernel
theorem dX8_finish_60 : decode (dc DX8_finish) 60 = .ok (.lcmp, 1) := by decide +kernel
theorem dX8_finish_61 : decode (dc DX8_finish) 61 = .ok (.ifCond .eq 17, 3) := by decide +kernel
theorem dX8_finish_64 : decode (dc DX8_finish) 64 = .ok (.aload_n 0, 1) := by decide +kernel
theorem dX8_finish_65 : decode (dc DX8_finish) 65 = .ok (.getfield 21, 3) := by decide +kernel
theorem dX8_finish_68 : decode (dc DX8_finish) 68 = .ok (.iload 5, 2) := by decide +kernel
theorem dX8_finish_70 : decode (dc DX8_finish) 70 = .ok (.iaload, 1) := by decide +kernel
theorem dX8_finish_71 : decode (dc DX8_finish) 71 = .ok (.aload_n 0, 1) := by decide +kernel
theorem dX8_finish_72 : decode (dc DX8_finish) 72 = .ok (.getfield 35, 3) := by decide +kernel
theorem dX8_finish_75 : decode (dc DX8_finish) 75 = .ok (.if_icmp .ge 36, 3) := by decide +kernel
theorem dX8_finish_78 : decode (dc DX8_finish) 78 = .ok (.aload_n 0, 1) := by decide +kernel
theorem dX8_finish_79 : decode (dc DX8_finish) 79 = .ok (.aload_n 0, 1) := by decide +kernel
theorem dX8_finish_80 : decode (dc DX8_finish) 80 = .ok (.getfield 21, 3) := by decide +kernel
theorem dX8_finish_83 : decode (dc DX8_finish) 83 = .ok (.iload 5, 2) := by decide +kernel
theorem dX8_finish_85 : decode (dc DX8_finish) 85 = .ok (.iaload, 1) := by decide +kernel
theorem dX8_finish_86 : decode (dc DX8_finish) 86 = .ok (.putfield 35, 3) := by decide +kernel
theorem dX8_finish_89 : decode (dc DX8_finish) 89 = .ok (.aload_n 0, 1) := by decide +kernel
theorem dX8_finish_90 : decode (dc DX8_finish) 90 = .ok (.aload_n 0, 1) := by decide +kernel
theorem dX8_finish_91 : decode (dc DX8_finish) 91 = .ok (.getfield 15, 3) := by decide +kernel
theorem dX8_finish_94 : decode (dc DX8_finish) 94 = .ok (.iload 5, 2) := by decide +kernel
theorem dX8_finish_96 : decode (dc DX8_finish) 96 = .ok (.laload, 1) := by decide +kernel
theorem dX8_finish_97 : decode (dc DX8_finish) 97 = .ok (.putfield 32, 3) := by decide +kernel
theorem dX8_finish_100 : decode (dc DX8_finish) 100 = .ok (.aload_n 0, 1) := by decide +kernel
theorem dX8_finish_101 : decode (dc DX8_finish) 101 = .ok (.getfield 18, 3) := by decide +kernel
theorem dX8_finish_104 : decode (dc DX8_finish) 104 = .ok (.iload 5, 2) := by decide +kernel
theorem dX8_finish_106 : decode (dc DX8_finish) 106 = .ok (.laload, 1) := by decide +kernel
theorem dX8_finish_107 : decode (dc DX8_finish) 107 = .ok (.lstore_n 3, 1) := by decide +kernel
theorem dX8_finish_108 : decode (dc DX8_finish) 108 = .ok (.goto 45, 3) := by decide +kernel
theorem dX8_finish_111 : decode (dc DX8_finish) 111 = .ok (.aload_n 0, 1) := by decide +kernel
theorem dX8_finish_112 : decode (dc DX8_finish) 112 = .ok (.getfield 21, 3) := by decide +kernel
theorem dX8_finish_115 : decode (dc DX8_finish) 115 = .ok (.iload 5, 2) := by decide +kernel
theorem dX8_finish_117 : decode (dc DX8_finish) 117 = .ok (.iaload, 1) := by decide +kernel
theorem dX8_finish_118 : decode (dc DX8_finish) 118 = .ok (.aload_n 0, 1) := by decide +kernel
theorem dX8_finish_119 : decode (dc DX8_finish) 119 = .ok (.getfield 35, 3) := by decide +kernel
theorem dX8_finish_122 : decode (dc DX8_finish) 122 = .ok (.if_icmp .ne 31, 3) := by decide +kernel
theorem dX8_finish_125 : decode (dc DX8_finish) 125 = .ok (.aload_n 0, 1) := by decide +kernel
theorem dX8_finish_126 : decode (dc DX8_finish) 126 = .ok (.dup, 1) := by decide +kernel
theorem dX8_finish_127 : decode (dc DX8_finish) 127 = .ok (.getfield 32, 3) := by decide +kernel
theorem dX8_finish_130 : decode (dc DX8_finish) 130 = .ok (.aload_n 0, 1) := by decide +kernel
theorem dX8_finish_131 : decode (dc DX8_finish) 131 = .ok (.getfield 15, 3) := by decide +kernel
theorem dX8_finish_134 : decode (dc DX8_finish) 134 = .ok (.iload 5, 2) := by decide +kernel
theorem dX8_finish_136 : decode (dc DX8_finish) 136 = .ok (.laload, 1) := by decide +kernel
theorem dX8_finish_137 : decode (dc DX8_finish) 137 = .ok (.ladd, 1) := by decide +kernel
theorem dX8_finish_138 : decode (dc DX8_finish) 138 = .ok (.putfield 32, 3) := by decide +kernel
theorem dX8_finish_141 : decode (dc DX8_finish) 141 = .ok (.lload_n 3, 1) := by decide +kernel
theorem dX8_finish_142 : decode (dc DX8_finish) 142 = .ok (.aload_n 0, 1) := by decide +kernel
theorem dX8_finish_143 : decode (dc DX8_finish) 143 = .ok (.getfield 18, 3) := by decide +kernel
theorem dX8_finish_146 : decode (dc DX8_finish) 146 = .ok (.iload 5, 2) := by decide +kernel
theorem dX8_finish_148 : decode (dc DX8_finish) 148 = .ok (.laload, 1) := by decide +kernel
theorem dX8_finish_149 : decode (dc DX8_finish) 149 = .ok (.invokestatic 90, 3) := by decide +kernel
theorem dX8_finish_152 : decode (dc DX8_finish) 152 = .ok (.lstore_n 3, 1) := by decide +kernel
theorem dX8_finish_153 : decode (dc DX8_finish) 153 = .ok (.aload_n 0, 1) := by decide +kernel
theorem dX8_finish_154 : decode (dc DX8_finish) 154 = .ok (.dup, 1) := by decide +kernel
theorem dX8_finish_155 : decode (dc DX8_finish) 155 = .ok (.getfield 28, 3) := by decide +kernel
theorem dX8_finish_158 : decode (dc DX8_finish) 158 = .ok (.aload_n 0, 1) := by decide +kernel
theorem dX8_finish_159 : decode (dc DX8_finish) 159 = .ok (.getfield 9, 3) := by decide +kernel
theorem dX8_finish_162 : decode (dc DX8_finish) 162 = .ok (.iload 5, 2) := by decide +kernel
theorem dX8_finish_164 : decode (dc DX8_finish) 164 = .ok (.laload, 1) := by decide +kernel
theorem dX8_finish_165 : decode (dc DX8_finish) 165 = .ok (.ladd, 1) := by decide +kernel
theorem dX8_finish_166 : decode (dc DX8_finish) 166 = .ok (.putfield 28, 3) := by decide +kernel
theorem dX8_finish_169 : decode (dc DX8_finish) 169 = .ok (.iinc 5 1, 3) := by decide +kernel
theorem dX8_finish_172 : decode (dc DX8_finish) 172 = .ok (.goto (-152), 3) := by decide +kernel
theorem dX8_finish_175 : decode (dc DX8_finish) 175 = .ok (.aload_n 0, 1) := by decide +kernel
theorem dX8_finish_176 : decode (dc DX8_finish) 176 = .ok (.lload_n 3, 1) := by decide +kernel
theorem dX8_finish_177 : decode (dc DX8_finish) 177 = .ok (.invokevirtual 93, 3) := by decide +kernel
theorem dX8_finish_180 : decode (dc DX8_finish) 180 = .ok (.return_, 1) := by decide +kernel
theorem dX8_run_0 : decode (dc DX8_run) 0 = .ok (.bipush 12, 2) := by decide +kernel
theorem dX8_run_2 : decode (dc DX8_run) 2 = .ok (.aload_n 2, 1) := by decide +kernel
theorem dX8_run_3 : decode (dc DX8_run) 3 = .ok (.getfield 39, 3) := by decide +kernel
theorem dX8_run_6 : decode (dc DX8_run) 6 = .ok (.invokestatic 44, 3) := by decide +kernel
theorem dX8_run_9 : decode (dc DX8_run) 9 = .ok (.invokestatic 50, 3) := by decide +kernel
theorem dX8_run_12 : decode (dc DX8_run) 12 = .ok (.istore 4, 2) := by decide +kernel
theorem dX8_run_14 : decode (dc DX8_run) 14 = .ok (.iconst 0, 1) := by decide +kernel
theorem dX8_run_15 : decode (dc DX8_run) 15 = .ok (.istore 5, 2) := by decide +kernel
theorem dX8_run_17 : decode (dc DX8_run) 17 = .ok (.iload 5, 2) := by decide +kernel
theorem dX8_run_19 : decode (dc DX8_run) 19 = .ok (.iload 4, 2) := by decide +kernel
theorem dX8_run_21 : decode (dc DX8_run) 21 = .ok (.if_icmp .ge 25, 3) := by decide +kernel
theorem dX8_run_24 : decode (dc DX8_run) 24 = .ok (.iload 5, 2) := by decide +kernel
theorem dX8_run_32 : decode (dc DX8_run) 32 = .ok (.aload_n 0, 1) := by decide +kernel
theorem dX8_run_38 : decode (dc DX8_run) 38 = .ok (.lconst 0, 1) := by decide +kernel
theorem dX8_run_39 : decode (dc DX8_run) 39 = .ok (.lastore, 1) := by decide +kernel
theorem dX8_run_43 : decode (dc DX8_run) 43 = .ok (.goto (-26), 3) := by decide +kernel
theorem dX8_run_46 : decode (dc DX8_run) 46 = .ok (.aload_n 0, 1) := by decide +kernel
theorem dX8_run_50 : decode (dc DX8_run) 50 = .ok (.iconst 0, 1) := by decide +kernel
theorem dX8_run_51 : decode (dc DX8_run) 51 = .ok (.lconst 1, 1) := by decide +kernel
theorem dX8_run_52 : decode (dc DX8_run) 52 = .ok (.lastore, 1) := by decide +kernel
theorem dX8_run_53 : decode (dc DX8_run) 53 = .ok (.aload_n 0, 1) := by decide +kernel
theorem dX8_run_57 : decode (dc DX8_run) 57 = .ok (.iconst 0, 1) := by decide +kernel
theorem dX8_run_58 : decode (dc DX8_run) 58 = .ok (.lconst 1, 1) := by decide +kernel
theorem dX8_run_59 : decode (dc DX8_run) 59 = .ok (.lastore, 1) := by decide +kernel
theorem dX8_run_60 : decode (dc DX8_run) 60 = .ok (.aload_n 0, 1) := by decide +kernel
theorem dX8_run_64 : decode (dc DX8_run) 64 = .ok (.iconst 0, 1) := by decide +kernel
theorem dX8_run_65 : decode (dc DX8_run) 65 = .ok (.lconst 0, 1) := by decide +kernel
theorem dX8_run_66 : decode (dc DX8_run) 66 = .ok (.lastore, 1) := by decide +kernel
theorem dX8_run_67 : decode (dc DX8_run) 67 = .ok (.aload_n 0, 1) := by decide +kernel
theorem dX8_run_73 : decode (dc DX8_run) 73 = .ok (.iastore, 1) := by decide +kernel
theorem dX8_run_75 : decode (dc DX8_run) 75 = .ok (.getfield 54, 3) := by decide +kernel
theorem dX8_run_78 : decode (dc DX8_run) 78 = .ok (.invokestatic 57, 3) := by decide +kernel
theorem dX8_run_81 : decode (dc DX8_run) 81 = .ok (.istore 5, 2) := by decide +kernel
theorem dX8_run_83 : decode (dc DX8_run) 83 = .ok (.ldc2_w 62, 3) := by decide +kernel
theorem dX8_run_91 : decode (dc DX8_run) 91 = .ok (.iload 8, 2) := by decide +kernel
theorem dX8_run_99 : decode (dc DX8_run) 99 = .ok (.getfield 54, 3) := by decide +kernel
theorem dX8_run_102 : decode (dc DX8_run) 102 = .ok (.iload 8, 2) := by decide +kernel
theorem dX8_run_104 : decode (dc DX8_run) 104 = .ok (.invokestatic 64, 3) := by decide +kernel
theorem dX8_run_107 : decode (dc DX8_run) 107 = .ok (.ifCond .eq 27, 3) := by decide +kernel
theorem dX8_run_110 : decode (dc DX8_run) 110 = .ok (.aload_n 0, 1) := by decide +kernel
theorem dX8_run_112 : decode (dc DX8_run) 112 = .ok (.aload_n 2, 1) := by decide +kernel
theorem dX8_run_115 : decode (dc DX8_run) 115 = .ok (.invokevirtual 68, 3) := by decide +kernel
theorem dX8_run_118 : decode (dc DX8_run) 118 = .ok (.iload 8, 2) := by decide +kernel
theorem dX8_run_120 : decode (dc DX8_run) 120 = .ok (.lload 6, 2) := by decide +kernel
theorem dX8_run_123 : decode (dc DX8_run) 123 = .ok (.iload 5, 2) := by decide +kernel
theorem dX8_run_126 : decode (dc DX8_run) 126 = .ok (.iload 4, 2) := by decide +kernel
theorem dX8_run_128 : decode (dc DX8_run) 128 = .ok (.invokevirtual 71, 3) := by decide +kernel
theorem dX8_run_131 : decode (dc DX8_run) 131 = .ok (.iinc 5 (-1), 3) := by decide +kernel
theorem dX8_run_134 : decode (dc DX8_run) 134 = .ok (.lload 6, 2) := by decide +kernel
theorem dX8_run_140 : decode (dc DX8_run) 140 = .ok (.lstore 6, 2) := by decide +kernel
theorem dX8_run_142 : decode (dc DX8_run) 142 = .ok (.iinc 8 1, 3) := by decide +kernel
theorem dX8_taskOf_0 : decode (dc DX8_taskOf) 0 = .ok (.iload_n 1, 1) := by decide +kernel
theorem dX8_taskOf_1 : decode (dc DX8_taskOf) 1 = .ok (.invokestatic 99, 3) := by decide +kernel
theorem dX8_taskOf_4 : decode (dc DX8_taskOf) 4 = .ok (.ifCond .eq 12, 3) := by decide +kernel
theorem dX8_taskOf_7 : decode (dc DX8_taskOf) 7 = .ok (.aload_n 0, 1) := by decide +kernel
theorem dX8_taskOf_8 : decode (dc DX8_taskOf) 8 = .ok (.getfield 25, 3) := by decide +kernel
theorem dX8_taskOf_11 : decode (dc DX8_taskOf) 11 = .ok (.iload_n 1, 1) := by decide +kernel
theorem dX8_taskOf_12 : decode (dc DX8_taskOf) 12 = .ok (.iaload, 1) := by decide +kernel
theorem dX8_taskOf_13 : decode (dc DX8_taskOf) 13 = .ok (.goto 4, 3) := by decide +kernel
theorem dX8_taskOf_16 : decode (dc DX8_taskOf) 16 = .ok (.iconst (-1), 1) := by decide +kernel
theorem dX8_taskOf_17 : decode (dc DX8_taskOf) 17 = .ok (.ireturn, 1) := by decide +kernel
theorem dX9_feed_0 : decode (dc DX9_feed) 0 = .ok (.aload_n 0, 1) := by decide +kernel
theorem dX9_feed_1 : decode (dc DX9_feed) 1 = .ok (.getfield 29, 3) := by decide +kernel
theorem dX9_feed_4 : decode (dc DX9_feed) 4 = .ok (.invokevirtual 79, 3) := by decide +kernel
theorem dX9_feed_7 : decode (dc DX9_feed) 7 = .ok (.ifCond .ne 5, 3) := by decide +kernel
theorem dX9_feed_10 : decode (dc DX9_feed) 10 = .ok (.iconst (-1), 1) := by decide +kernel
theorem dX9_feed_11 : decode (dc DX9_feed) 11 = .ok (.ireturn, 1) := by decide +kernel
theorem dX9_feed_12 : decode (dc DX9_feed) 12 = .ok (.aload_n 0, 1) := by decide +kernel
theorem dX9_feed_13 : decode (dc DX9_feed) 13 = .ok (.getfield 29, 3) := by decide +kernel
theorem dX9_feed_16 : decode (dc DX9_feed) 16 = .ok (.iload_n 1, 1) := by decide +kernel
theorem dX9_feed_17 : decode (dc DX9_feed) 17 = .ok (.invokevirtual 83, 3) := by decide +kernel
theorem dX9_feed_20 : decode (dc DX9_feed) 20 = .ok (.aload_n 0, 1) := by decide +kernel
theorem dX9_feed_21 : decode (dc DX9_feed) 21 = .ok (.getfield 29, 3) := by decide +kernel
theorem dX9_feed_24 : decode (dc DX9_feed) 24 = .ok (.iload_n 2, 1) := by decide +kernel
theorem dX9_feed_25 : decode (dc DX9_feed) 25 = .ok (.invokevirtual 83, 3) := by decide +kernel
theorem dX9_feed_28 : decode (dc DX9_feed) 28 = .ok (.aload_n 0, 1) := by decide +kernel
theorem dX9_feed_29 : decode (dc DX9_feed) 29 = .ok (.getfield 29, 3) := by decide +kernel
theorem dX9_feed_32 : decode (dc DX9_feed) 32 = .ok (.iload_n 3, 1) := by decide +kernel
theorem dX9_feed_33 : decode (dc DX9_feed) 33 = .ok (.invokevirtual 83, 3) := by decide +kernel
theorem dX9_feed_36 : decode (dc DX9_feed) 36 = .ok (.aload_n 0, 1) := by decide +kernel
theorem dX9_feed_37 : decode (dc DX9_feed) 37 = .ok (.getfield 29, 3) := by decide +kernel
theorem dX9_feed_40 : decode (dc DX9_feed) 40 = .ok (.iload 4, 2) := by decide +kernel
theorem dX9_feed_42 : decode (dc DX9_feed) 42 = .ok (.invokevirtual 83, 3) := by decide +kernel
theorem dX9_feed_45 : decode (dc DX9_feed) 45 = .ok (.aload_n 0, 1) := by decide +kernel
theorem dX9_feed_46 : decode (dc DX9_feed) 46 = .ok (.getfield 29, 3) := by decide +kernel
theorem dX9_feed_49 : decode (dc DX9_feed) 49 = .ok (.iload 5, 2) := by decide +kernel
theorem dX9_feed_51 : decode (dc DX9_feed) 51 = .ok (.invokevirtual 83, 3) := by decide +kernel
theorem dX9_feed_54 : decode (dc DX9_feed) 54 = .ok (.aload_n 0, 1) := by decide +kernel
theorem dX9_feed_55 : decode (dc DX9_feed) 55 = .ok (.getfield 29, 3) := by decide +kernel
theorem dX9_feed_58 : decode (dc DX9_feed) 58 = .ok (.getfield 87, 3) := by decide +kernel
theorem dX9_feed_61 : decode (dc DX9_feed) 61 = .ok (.ireturn, 1) := by decide +kernel
theorem dX9_keepUp_0 : decode (dc DX9_keepUp) 0 = .ok (.aload_n 0, 1) := by decide +kernel
theorem dX9_keepUp_1 : decode (dc DX9_keepUp) 1 = .ok (.getfield 12, 3) := by decide +kernel
theorem dX9_keepUp_4 : decode (dc DX9_keepUp) 4 = .ok (.getfield 128, 3) := by decide +kernel
theorem dX9_keepUp_7 : decode (dc DX9_keepUp) 7 = .ok (.iconst 1, 1) := by decide +kernel
theorem dX9_keepUp_8 : decode (dc DX9_keepUp) 8 = .ok (.if_icmp .ne 41, 3) := by decide +kernel
theorem dX9_keepUp_11 : decode (dc DX9_keepUp) 11 = .ok (.aload_n 0, 1) := by decide +kernel
theorem dX9_keepUp_12 : decode (dc DX9_keepUp) 12 = .ok (.getfield 36, 3) := by decide +kernel
theorem dX9_keepUp_15 : decode (dc DX9_keepUp) 15 = .ok (.aload_n 0, 1) := by decide +kernel
theorem dX9_keepUp_16 : decode (dc DX9_keepUp) 16 = .ok (.getfield 12, 3) := by decide +kernel
theorem dX9_keepUp_19 : decode (dc DX9_keepUp) 19 = .ok (.invokevirtual 170, 3) := by decide +kernel
theorem dX9_keepUp_22 : decode (dc DX9_keepUp) 22 = .ok (.aload_n 0, 1) := by decide +kernel
theorem dX9_keepUp_23 : decode (dc DX9_keepUp) 23 = .ok (.getfield 36, 3) := by decide +kernel
theorem dX9_keepUp_26 : decode (dc DX9_keepUp) 26 = .ok (.bipush 12, 2) := by decide +kernel
theorem dX9_keepUp_28 : decode (dc DX9_keepUp) 28 = .ok (.invokevirtual 217, 3) := by decide +kernel
theorem dX9_keepUp_31 : decode (dc DX9_keepUp) 31 = .ok (.pop, 1) := by decide +kernel
theorem dX9_keepUp_32 : decode (dc DX9_keepUp) 32 = .ok (.aload_n 0, 1) := by decide +kernel
theorem dX9_keepUp_33 : decode (dc DX9_keepUp) 33 = .ok (.getfield 12, 3) := by decide +kernel
theorem dX9_keepUp_36 : decode (dc DX9_keepUp) 36 = .ok (.getfield 106, 3) := by decide +kernel
theorem dX9_keepUp_39 : decode (dc DX9_keepUp) 39 = .ok (.aload_n 0, 1) := by decide +kernel
theorem dX9_keepUp_40 : decode (dc DX9_keepUp) 40 = .ok (.getfield 36, 3) := by decide +kernel
theorem dX9_keepUp_43 : decode (dc DX9_keepUp) 43 = .ok (.getfield 197, 3) := by decide +kernel
theorem dX9_keepUp_46 : decode (dc DX9_keepUp) 46 = .ok (.invokevirtual 331, 3) := by decide +kernel
theorem dX9_keepUp_49 : decode (dc DX9_keepUp) 49 = .ok (.return_, 1) := by decide +kernel
theorem dX9_text_0 : decode (dc DX9_text) 0 = .ok (.aload_n 0, 1) := by decide +kernel
theorem dX9_text_1 : decode (dc DX9_text) 1 = .ok (.iload_n 1, 1) := by decide +kernel
theorem dX9_text_2 : decode (dc DX9_text) 2 = .ok (.ifCond .lt 18, 3) := by decide +kernel
theorem dX9_text_5 : decode (dc DX9_text) 5 = .ok (.iload_n 1, 1) := by decide +kernel
theorem dX9_text_6 : decode (dc DX9_text) 6 = .ok (.aload_n 0, 1) := by decide +kernel
theorem dX9_text_7 : decode (dc DX9_text) 7 = .ok (.getfield 29, 3) := by decide +kernel
theorem dX9_text_10 : decode (dc DX9_text) 10 = .ok (.getfield 87, 3) := by decide +kernel
theorem dX9_text_13 : decode (dc DX9_text) 13 = .ok (.if_icmp .gt 7, 3) := by decide +kernel
theorem dX9_text_16 : decode (dc DX9_text) 16 = .ok (.iconst 1, 1) := by decide +kernel
theorem dX9_text_17 : decode (dc DX9_text) 17 = .ok (.goto 4, 3) := by decide +kernel
theorem dX9_text_20 : decode (dc DX9_text) 20 = .ok (.iconst 0, 1) := by decide +kernel
theorem dX9_text_21 : decode (dc DX9_text) 21 = .ok (.invokevirtual 90, 3) := by decide +kernel
theorem dX9_text_24 : decode (dc DX9_text) 24 = .ok (.aload_n 0, 1) := by decide +kernel
theorem dX9_text_25 : decode (dc DX9_text) 25 = .ok (.getfield 29, 3) := by decide +kernel
theorem dX9_text_28 : decode (dc DX9_text) 28 = .ok (.iload_n 1, 1) := by decide +kernel
theorem dX9_text_29 : decode (dc DX9_text) 29 = .ok (.aload_n 0, 1) := by decide +kernel
theorem dX9_text_30 : decode (dc DX9_text) 30 = .ok (.getfield 16, 3) := by decide +kernel
theorem dX9_text_33 : decode (dc DX9_text) 33 = .ok (.invokevirtual 94, 3) := by decide +kernel
theorem dX9_text_36 : decode (dc DX9_text) 36 = .ok (.istore_n 2, 1) := by decide +kernel
theorem dX9_text_37 : decode (dc DX9_text) 37 = .ok (.iload_n 2, 1) := by decide +kernel
theorem dX9_text_38 : decode (dc DX9_text) 38 = .ok (.ifCond .eq 8, 3) := by decide +kernel
theorem dX9_text_41 : decode (dc DX9_text) 41 = .ok (.iload_n 2, 1) := by decide +kernel
theorem dX9_text_42 : decode (dc DX9_text) 42 = .ok (.bipush 10, 2) := by decide +kernel
theorem dX9_text_44 : decode (dc DX9_text) 44 = .ok (.isub, 1) := by decide +kernel
theorem dX9_text_45 : decode (dc DX9_text) 45 = .ok (.ireturn, 1) := by decide +kernel
theorem dX9_text_46 : decode (dc DX9_text) 46 = .ok (.aload_n 0, 1) := by decide +kernel
theorem dX9_text_47 : decode (dc DX9_text) 47 = .ok (.getfield 12, 3) := by decide +kernel
theorem dX9_text_50 : decode (dc DX9_text) 50 = .ok (.aload_n 0, 1) := by decide +kernel
theorem dX9_text_51 : decode (dc DX9_text) 51 = .ok (.getfield 16, 3) := by decide +kernel
theorem dX9_text_54 : decode (dc DX9_text) 54 = .ok (.invokevirtual 98, 3) := by decide +kernel
theorem dX9_text_57 : decode (dc DX9_text) 57 = .ok (.aload_n 0, 1) := by decide +kernel
theorem dX9_text_58 : decode (dc DX9_text) 58 = .ok (.getfield 22, 3) := by decide +kernel
theorem dX9_text_61 : decode (dc DX9_text) 61 = .ok (.iconst 0, 1) := by decide +kernel
theorem dX9_text_62 : decode (dc DX9_text) 62 = .ok (.putfield 102, 3) := by decide +kernel
theorem dX9_text_65 : decode (dc DX9_text) 65 = .ok (.aload_n 0, 1) := by decide +kernel
theorem dX9_text_66 : decode (dc DX9_text) 66 = .ok (.iconst 0, 1) := by decide +kernel
theorem dX9_text_67 : decode (dc DX9_text) 67 = .ok (.putfield 68, 3) := by decide +kernel
theorem dX9_text_70 : decode (dc DX9_text) 70 = .ok (.aload_n 0, 1) := by decide +kernel
theorem dX9_text_71 : decode (dc DX9_text) 71 = .ok (.invokevirtual 103, 3) := by decide +kernel
theorem dX9_text_74 : decode (dc DX9_text) 74 = .ok (.aload_n 0, 1) := by decide +kernel
theorem dX9_text_75 : decode (dc DX9_text) 75 = .ok (.getfield 12, 3) := by decide +kernel
theorem dX9_text_78 : decode (dc DX9_text) 78 = .ok (.getfield 106, 3) := by decide +kernel
theorem dX9_text_81 : decode (dc DX9_text) 81 = .ok (.invokevirtual 110, 3) := by decide +kernel
theorem dX9_text_84 : decode (dc DX9_text) 84 = .ok (.ireturn, 1) := by decide +kernel
theorem dX9_fault_0 : decode (dc DX9_fault) 0 = .ok (.aload_n 0, 1) := by decide +kernel
theorem dX9_fault_1 : decode (dc DX9_fault) 1 = .ok (.getfield 29, 3) := by decide +kernel
theorem dX9_fault_4 : decode (dc DX9_fault) 4 = .ok (.getfield 116, 3) := by decide +kernel
theorem dX9_fault_7 : decode (dc DX9_fault) 7 = .ok (.ireturn, 1) := by decide +kernel
theorem dX9_told_0 : decode (dc DX9_told) 0 = .ok (.aload_n 0, 1) := by decide +kernel
theorem dX9_told_1 : decode (dc DX9_told) 1 = .ok (.iload_n 1, 1) := by decide +kernel
theorem dX9_told_2 : decode (dc DX9_told) 2 = .ok (.ifCond .lt 13, 3) := by decide +kernel
theorem dX9_told_5 : decode (dc DX9_told) 5 = .ok (.iload_n 1, 1) := by decide +kernel
theorem dX9_told_6 : decode (dc DX9_told) 6 = .ok (.bipush 11, 2) := by decide +kernel
theorem dX9_told_8 : decode (dc DX9_told) 8 = .ok (.if_icmp .gt 7, 3) := by decide +kernel
theorem dX9_told_11 : decode (dc DX9_told) 11 = .ok (.iconst 1, 1) := by decide +kernel
theorem dX9_told_12 : decode (dc DX9_told) 12 = .ok (.goto 4, 3) := by decide +kernel
theorem dX9_told_15 : decode (dc DX9_told) 15 = .ok (.iconst 0, 1) := by decide +kernel
theorem dX9_told_16 : decode (dc DX9_told) 16 = .ok (.invokevirtual 90, 3) := by decide +kernel
theorem dX9_told_19 : decode (dc DX9_told) 19 = .ok (.iload_n 1, 1) := by decide +kernel
theorem dX9_told_20 : decode (dc DX9_told) 20 = .ok (.tableswitch 177 0 10 #[60, 68, 76, 84, 95, 103, 111, 119, 140, 161, 169], 60) := by decide +kernel
theorem dX9_told_80 : decode (dc DX9_told) 80 = .ok (.aload_n 0, 1) := by decide +kernel
theorem dX9_told_81 : decode (dc DX9_told) 81 = .ok (.getfield 12, 3) := by decide +kernel
theorem dX9_told_84 : decode (dc DX9_told) 84 = .ok (.getfield 119, 3) := by decide +kernel
theorem dX9_told_87 : decode (dc DX9_told) 87 = .ok (.ireturn, 1) := by decide +kernel
theorem dX9_told_88 : decode (dc DX9_told) 88 = .ok (.aload_n 0, 1) := by decide +kernel
theorem dX9_told_89 : decode (dc DX9_told) 89 = .ok (.getfield 12, 3) := by decide +kernel
theorem dX9_told_92 : decode (dc DX9_told) 92 = .ok (.getfield 122, 3) := by decide +kernel
theorem dX9_told_95 : decode (dc DX9_told) 95 = .ok (.ireturn, 1) := by decide +kernel
theorem dX9_told_96 : decode (dc DX9_told) 96 = .ok (.aload_n 0, 1) := by decide +kernel
theorem dX9_told_97 : decode (dc DX9_told) 97 = .ok (.getfield 12, 3) := by decide +kernel
theorem dX9_told_100 : decode (dc DX9_told) 100 = .ok (.invokevirtual 125, 3) := by decide +kernel
theorem dX9_told_103 : decode (dc DX9_told) 103 = .ok (.ireturn, 1) := by decide +kernel
theorem dX9_told_104 : decode (dc DX9_told) 104 = .ok (.aload_n 0, 1) := by decide +kernel
theorem dX9_told_105 : decode (dc DX9_told) 105 = .ok (.getfield 12, 3) := by decide +kernel
theorem dX9_told_108 : decode (dc DX9_told) 108 = .ok (.getfield 106, 3) := by decide +kernel
theorem dX9_told_111 : decode (dc DX9_told) 111 = .ok (.invokevirtual 110, 3) := by decide +kernel
theorem dX9_told_114 : decode (dc DX9_told) 114 = .ok (.ireturn, 1) := by decide +kernel
theorem dX9_told_115 : decode (dc DX9_told) 115 = .ok (.aload_n 0, 1) := by decide +kernel
theorem dX9_told_116 : decode (dc DX9_told) 116 = .ok (.getfield 12, 3) := by decide +kernel
theorem dX9_told_119 : decode (dc DX9_told) 119 = .ok (.getfield 128, 3) := by decide +kernel
theorem dX9_told_122 : decode (dc DX9_told) 122 = .ok (.ireturn, 1) := by decide +kernel
theorem dX9_told_123 : decode (dc DX9_told) 123 = .ok (.aload_n 0, 1) := by decide +kernel
theorem dX9_told_124 : decode (dc DX9_told) 124 = .ok (.getfield 12, 3) := by decide +kernel
theorem dX9_told_127 : decode (dc DX9_told) 127 = .ok (.getfield 131, 3) := by decide +kernel
theorem dX9_told_130 : decode (dc DX9_told) 130 = .ok (.ireturn, 1) := by decide +kernel
theorem dX9_told_131 : decode (dc DX9_told) 131 = .ok (.aload_n 0, 1) := by decide +kernel
theorem dX9_told_132 : decode (dc DX9_told) 132 = .ok (.getfield 12, 3) := by decide +kernel
theorem dX9_told_135 : decode (dc DX9_told) 135 = .ok (.getfield 134, 3) := by decide +kernel
theorem dX9_told_138 : decode (dc DX9_told) 138 = .ok (.ireturn, 1) := by decide +kernel
theorem dX9_told_139 : decode (dc DX9_told) 139 = .ok (.aload_n 0, 1) := by decide +kernel
theorem dX9_told_140 : decode (dc DX9_told) 140 = .ok (.getfield 12, 3) := by decide +kernel
theorem dX9_told_143 : decode (dc DX9_told) 143 = .ok (.getfield 131, 3) := by decide +kernel
theorem dX9_told_146 : decode (dc DX9_told) 146 = .ok (.aload_n 0, 1) := by decide +kernel
theorem dX9_told_147 : decode (dc DX9_told) 147 = .ok (.getfield 12, 3) := by decide +kernel
theorem dX9_told_150 : decode (dc DX9_told) 150 = .ok (.getfield 106, 3) := by decide +kernel
theorem dX9_told_153 : decode (dc DX9_told) 153 = .ok (.invokevirtual 137, 3) := by decide +kernel
theorem dX9_told_156 : decode (dc DX9_told) 156 = .ok (.iconst (-1), 1) := by decide +kernel
theorem dX9_told_157 : decode (dc DX9_told) 157 = .ok (.ixor, 1) := by decide +kernel
theorem dX9_told_158 : decode (dc DX9_told) 158 = .ok (.iand, 1) := by decide +kernel
theorem dX9_told_159 : decode (dc DX9_told) 159 = .ok (.ireturn, 1) := by decide +kernel
theorem dX9_told_160 : decode (dc DX9_told) 160 = .ok (.aload_n 0, 1) := by decide +kernel
theorem dX9_told_161 : decode (dc DX9_told) 161 = .ok (.getfield 12, 3) := by decide +kernel
theorem dX9_told_164 : decode (dc DX9_told) 164 = .ok (.getfield 134, 3) := by decide +kernel
theorem dX9_told_167 : decode (dc DX9_told) 167 = .ok (.aload_n 0, 1) := by decide +kernel
theorem dX9_told_168 : decode (dc DX9_told) 168 = .ok (.getfield 12, 3) := by decide +kernel
theorem dX9_told_171 : decode (dc DX9_told) 171 = .ok (.getfield 106, 3) := by decide +kernel
theorem dX9_told_174 : decode (dc DX9_told) 174 = .ok (.invokevirtual 140, 3) := by decide +kernel
theorem dX9_told_177 : decode (dc DX9_told) 177 = .ok (.iconst (-1), 1) := by decide +kernel
theorem dX9_told_178 : decode (dc DX9_told) 178 = .ok (.ixor, 1) := by decide +kernel
theorem dX9_told_179 : decode (dc DX9_told) 179 = .ok (.iand, 1) := by decide +kernel
theorem dX9_told_180 : decode (dc DX9_told) 180 = .ok (.ireturn, 1) := by decide +kernel
theorem dX9_told_181 : decode (dc DX9_told) 181 = .ok (.aload_n 0, 1) := by decide +kernel
theorem dX9_told_182 : decode (dc DX9_told) 182 = .ok (.getfield 12, 3) := by decide +kernel
theorem dX9_told_185 : decode (dc DX9_told) 185 = .ok (.invokevirtual 143, 3) := by decide +kernel
theorem dX9_told_188 : decode (dc DX9_told) 188 = .ok (.ireturn, 1) := by decide +kernel
theorem dX9_told_189 : decode (dc DX9_told) 189 = .ok (.aload_n 0, 1) := by decide +kernel
theorem dX9_told_190 : decode (dc DX9_told) 190 = .ok (.getfield 22, 3) := by decide +kernel
theorem dX9_told_193 : decode (dc DX9_told) 193 = .ok (.getfield 102, 3) := by decide +kernel
theorem dX9_told_196 : decode (dc DX9_told) 196 = .ok (.ireturn, 1) := by decide +kernel
theorem dX9_told_197 : decode (dc DX9_told) 197 = .ok (.aload_n 0, 1) := by decide +kernel
theorem dX9_told_198 : decode (dc DX9_told) 198 = .ok (.getfield 29, 3) := by decide +kernel
theorem dX9_told_201 : decode (dc DX9_told) 201 = .ok (.getfield 87, 3) := by decide +kernel
theorem dX9_told_204 : decode (dc DX9_told) 204 = .ok (.ireturn, 1) := by decide +kernel
theorem dX9_partner_0 : decode (dc DX9_partner) 0 = .ok (.aload_n 0, 1) := by decide +kernel
theorem dX9_partner_1 : decode (dc DX9_partner) 1 = .ok (.aload_n 0, 1) := by decide +kernel
theorem dX9_partner_2 : decode (dc DX9_partner) 2 = .ok (.getfield 12, 3) := by decide +kernel
theorem dX9_partner_5 : decode (dc DX9_partner) 5 = .ok (.iload_n 1, 1) := by decide +kernel
theorem dX9_partner_6 : decode (dc DX9_partner) 6 = .ok (.iload_n 2, 1) := by decide +kernel
theorem dX9_partner_7 : decode (dc DX9_partner) 7 = .ok (.invokevirtual 146, 3) := by decide +kernel
theorem dX9_partner_10 : decode (dc DX9_partner) 10 = .ok (.invokevirtual 150, 3) := by decide +kernel
theorem dX9_partner_13 : decode (dc DX9_partner) 13 = .ok (.aload_n 0, 1) := by decide +kernel
theorem dX9_partner_14 : decode (dc DX9_partner) 14 = .ok (.getfield 12, 3) := by decide +kernel
theorem dX9_partner_17 : decode (dc DX9_partner) 17 = .ok (.iload_n 1, 1) := by decide +kernel
theorem dX9_partner_18 : decode (dc DX9_partner) 18 = .ok (.iload_n 2, 1) := by decide +kernel
theorem dX9_partner_19 : decode (dc DX9_partner) 19 = .ok (.invokevirtual 153, 3) := by decide +kernel
theorem dX9_partner_22 : decode (dc DX9_partner) 22 = .ok (.ireturn, 1) := by decide +kernel
theorem dX9_cost_0 : decode (dc DX9_cost) 0 = .ok (.aload_n 0, 1) := by decide +kernel
theorem dX9_cost_1 : decode (dc DX9_cost) 1 = .ok (.aload_n 0, 1) := by decide +kernel
theorem dX9_cost_2 : decode (dc DX9_cost) 2 = .ok (.getfield 12, 3) := by decide +kernel
theorem dX9_cost_5 : decode (dc DX9_cost) 5 = .ok (.iload_n 1, 1) := by decide +kernel
theorem dX9_cost_6 : decode (dc DX9_cost) 6 = .ok (.iload_n 2, 1) := by decide +kernel
theorem dX9_cost_7 : decode (dc DX9_cost) 7 = .ok (.invokevirtual 157, 3) := by decide +kernel
theorem dX9_cost_10 : decode (dc DX9_cost) 10 = .ok (.invokevirtual 150, 3) := by decide +kernel
theorem dX9_cost_13 : decode (dc DX9_cost) 13 = .ok (.aload_n 0, 1) := by decide +kernel
theorem dX9_cost_14 : decode (dc DX9_cost) 14 = .ok (.getfield 12, 3) := by decide +kernel
theorem dX9_cost_17 : decode (dc DX9_cost) 17 = .ok (.iload_n 1, 1) := by decide +kernel
theorem dX9_cost_18 : decode (dc DX9_cost) 18 = .ok (.iload_n 2, 1) := by decide +kernel
theorem dX9_cost_19 : decode (dc DX9_cost) 19 = .ok (.invokevirtual 160, 3) := by decide +kernel
theorem dX9_cost_22 : decode (dc DX9_cost) 22 = .ok (.ireturn, 1) := by decide +kernel
theorem dX9_fits_0 : decode (dc DX9_fits) 0 = .ok (.aload_n 0, 1) := by decide +kernel
theorem dX9_fits_1 : decode (dc DX9_fits) 1 = .ok (.aload_n 0, 1) := by decide +kernel
theorem dX9_fits_2 : decode (dc DX9_fits) 2 = .ok (.getfield 12, 3) := by decide +kernel
theorem dX9_fits_5 : decode (dc DX9_fits) 5 = .ok (.iload_n 1, 1) := by decide +kernel
theorem dX9_fits_6 : decode (dc DX9_fits) 6 = .ok (.iload_n 2, 1) := by decide +kernel
theorem dX9_fits_7 : decode (dc DX9_fits) 7 = .ok (.invokevirtual 146, 3) := by decide +kernel
theorem dX9_fits_10 : decode (dc DX9_fits) 10 = .ok (.invokevirtual 150, 3) := by decide +kernel
theorem dX9_fits_13 : decode (dc DX9_fits) 13 = .ok (.iload_n 1, 1) := by decide +kernel
theorem dX9_fits_14 : decode (dc DX9_fits) 14 = .ok (.ifCond .ne 14, 3) := by decide +kernel
theorem dX9_fits_17 : decode (dc DX9_fits) 17 = .ok (.aload_n 0, 1) := by decide +kernel
theorem dX9_fits_18 : decode (dc DX9_fits) 18 = .ok (.getfield 12, 3) := by decide +kernel
theorem dX9_fits_21 : decode (dc DX9_fits) 21 = .ok (.iload_n 2, 1) := by decide +kernel
theorem dX9_fits_22 : decode (dc DX9_fits) 22 = .ok (.invokevirtual 163, 3) := by decide +kernel
theorem dX9_fits_25 : decode (dc DX9_fits) 25 = .ok (.goto 11, 3) := by decide +kernel
theorem dX9_fits_28 : decode (dc DX9_fits) 28 = .ok (.aload_n 0, 1) := by decide +kernel
theorem dX9_fits_29 : decode (dc DX9_fits) 29 = .ok (.getfield 12, 3) := by decide +kernel
theorem dX9_fits_32 : decode (dc DX9_fits) 32 = .ok (.iload_n 2, 1) := by decide +kernel
theorem dX9_fits_33 : decode (dc DX9_fits) 33 = .ok (.invokevirtual 167, 3) := by decide +kernel
theorem dX9_fits_36 : decode (dc DX9_fits) 36 = .ok (.ireturn, 1) := by decide +kernel
theorem dX9_way_0 : decode (dc DX9_way) 0 = .ok (.aload_n 0, 1) := by decide +kernel
theorem dX9_way_1 : decode (dc DX9_way) 1 = .ok (.getfield 36, 3) := by decide +kernel
theorem dX9_way_4 : decode (dc DX9_way) 4 = .ok (.aload_n 0, 1) := by decide +kernel
theorem dX9_way_5 : decode (dc DX9_way) 5 = .ok (.getfield 12, 3) := by decide +kernel
theorem dX9_way_8 : decode (dc DX9_way) 8 = .ok (.invokevirtual 170, 3) := by decide +kernel
theorem dX9_way_11 : decode (dc DX9_way) 11 = .ok (.aload_n 0, 1) := by decide +kernel
theorem dX9_way_12 : decode (dc DX9_way) 12 = .ok (.getfield 36, 3) := by decide +kernel
theorem dX9_way_15 : decode (dc DX9_way) 15 = .ok (.invokevirtual 173, 3) := by decide +kernel
theorem dX9_way_18 : decode (dc DX9_way) 18 = .ok (.ireturn, 1) := by decide +kernel
theorem dX9_wayAt_0 : decode (dc DX9_wayAt) 0 = .ok (.aload_n 0, 1) := by decide +kernel
theorem dX9_wayAt_1 : decode (dc DX9_wayAt) 1 = .ok (.getfield 36, 3) := by decide +kernel
theorem dX9_wayAt_4 : decode (dc DX9_wayAt) 4 = .ok (.aload_n 0, 1) := by decide +kernel
theorem dX9_wayAt_5 : decode (dc DX9_wayAt) 5 = .ok (.getfield 12, 3) := by decide +kernel
theorem dX9_wayAt_8 : decode (dc DX9_wayAt) 8 = .ok (.invokevirtual 170, 3) := by decide +kernel
theorem dX9_wayAt_11 : decode (dc DX9_wayAt) 11 = .ok (.aload_n 0, 1) := by decide +kernel
theorem dX9_wayAt_12 : decode (dc DX9_wayAt) 12 = .ok (.getfield 36, 3) := by decide +kernel
theorem dX9_wayAt_15 : decode (dc DX9_wayAt) 15 = .ok (.invokevirtual 173, 3) := by decide +kernel
theorem dX9_wayAt_18 : decode (dc DX9_wayAt) 18 = .ok (.istore_n 2, 1) := by decide +kernel
theorem dX9_wayAt_19 : decode (dc DX9_wayAt) 19 = .ok (.aload_n 0, 1) := by decide +kernel
theorem dX9_wayAt_20 : decode (dc DX9_wayAt) 20 = .ok (.iload_n 1, 1) := by decide +kernel
theorem dX9_wayAt_21 : decode (dc DX9_wayAt) 21 = .ok (.ifCond .lt 12, 3) := by decide +kernel
theorem dX9_wayAt_24 : decode (dc DX9_wayAt) 24 = .ok (.iload_n 1, 1) := by decide +kernel
theorem dX9_wayAt_25 : decode (dc DX9_wayAt) 25 = .ok (.iload_n 2, 1) := by decide +kernel
theorem dX9_wayAt_26 : decode (dc DX9_wayAt) 26 = .ok (.if_icmp .ge 7, 3) := by decide +kernel
theorem dX9_wayAt_29 : decode (dc DX9_wayAt) 29 = .ok (.iconst 1, 1) := by decide +kernel
theorem dX9_wayAt_30 : decode (dc DX9_wayAt) 30 = .ok (.goto 4, 3) := by decide +kernel
theorem dX9_wayAt_33 : decode (dc DX9_wayAt) 33 = .ok (.iconst 0, 1) := by decide +kernel
theorem dX9_wayAt_34 : decode (dc DX9_wayAt) 34 = .ok (.invokevirtual 150, 3) := by decide +kernel
theorem dX9_wayAt_37 : decode (dc DX9_wayAt) 37 = .ok (.aload_n 0, 1) := by decide +kernel
theorem dX9_wayAt_38 : decode (dc DX9_wayAt) 38 = .ok (.getfield 36, 3) := by decide +kernel
theorem dX9_wayAt_41 : decode (dc DX9_wayAt) 41 = .ok (.iload_n 1, 1) := by decide +kernel
theorem dX9_wayAt_42 : decode (dc DX9_wayAt) 42 = .ok (.invokevirtual 176, 3) := by decide +kernel
theorem dX9_wayAt_45 : decode (dc DX9_wayAt) 45 = .ok (.ireturn, 1) := by decide +kernel
theorem dX9_wayFrom_0 : decode (dc DX9_wayFrom) 0 = .ok (.aload_n 0, 1) := by decide +kernel
theorem dX9_wayFrom_1 : decode (dc DX9_wayFrom) 1 = .ok (.aload_n 0, 1) := by decide +kernel
theorem dX9_wayFrom_2 : decode (dc DX9_wayFrom) 2 = .ok (.getfield 12, 3) := by decide +kernel
theorem dX9_wayFrom_5 : decode (dc DX9_wayFrom) 5 = .ok (.iconst 0, 1) := by decide +kernel
theorem dX9_wayFrom_6 : decode (dc DX9_wayFrom) 6 = .ok (.iload_n 1, 1) := by decide +kernel
theorem dX9_wayFrom_7 : decode (dc DX9_wayFrom) 7 = .ok (.invokevirtual 146, 3) := by decide +kernel
theorem dX9_wayFrom_10 : decode (dc DX9_wayFrom) 10 = .ok (.invokevirtual 150, 3) := by decide +kernel
theorem dX9_wayFrom_13 : decode (dc DX9_wayFrom) 13 = .ok (.aload_n 0, 1) := by decide +kernel
theorem dX9_wayFrom_14 : decode (dc DX9_wayFrom) 14 = .ok (.iload_n 2, 1) := by decide +kernel
theorem dX9_wayFrom_15 : decode (dc DX9_wayFrom) 15 = .ok (.ifCond .eq 8, 3) := by decide +kernel
theorem dX9_wayFrom_18 : decode (dc DX9_wayFrom) 18 = .ok (.iload_n 2, 1) := by decide +kernel
theorem dX9_wayFrom_19 : decode (dc DX9_wayFrom) 19 = .ok (.iconst 1, 1) := by decide +kernel
theorem dX9_wayFrom_20 : decode (dc DX9_wayFrom) 20 = .ok (.if_icmp .ne 7, 3) := by decide +kernel
theorem dX9_wayFrom_23 : decode (dc DX9_wayFrom) 23 = .ok (.iconst 1, 1) := by decide +kernel
theorem dX9_wayFrom_24 : decode (dc DX9_wayFrom) 24 = .ok (.goto 4, 3) := by decide +kernel
theorem dX9_wayFrom_27 : decode (dc DX9_wayFrom) 27 = .ok (.iconst 0, 1) := by decide +kernel
theorem dX9_wayFrom_28 : decode (dc DX9_wayFrom) 28 = .ok (.invokevirtual 90, 3) := by decide +kernel
theorem dX9_wayFrom_31 : decode (dc DX9_wayFrom) 31 = .ok (.aload_n 0, 1) := by decide +kernel
theorem dX9_wayFrom_32 : decode (dc DX9_wayFrom) 32 = .ok (.getfield 36, 3) := by decide +kernel
theorem dX9_wayFrom_35 : decode (dc DX9_wayFrom) 35 = .ok (.aload_n 0, 1) := by decide +kernel
theorem dX9_wayFrom_36 : decode (dc DX9_wayFrom) 36 = .ok (.getfield 12, 3) := by decide +kernel
theorem dX9_wayFrom_39 : decode (dc DX9_wayFrom) 39 = .ok (.invokevirtual 170, 3) := by decide +kernel
theorem dX9_wayFrom_42 : decode (dc DX9_wayFrom) 42 = .ok (.aload_n 0, 1) := by decide +kernel
theorem dX9_wayFrom_43 : decode (dc DX9_wayFrom) 43 = .ok (.getfield 36, 3) := by decide +kernel
theorem dX9_wayFrom_46 : decode (dc DX9_wayFrom) 46 = .ok (.iload_n 1, 1) := by decide +kernel
theorem dX9_wayFrom_47 : decode (dc DX9_wayFrom) 47 = .ok (.invokevirtual 179, 3) := by decide +kernel
theorem dX9_wayFrom_50 : decode (dc DX9_wayFrom) 50 = .ok (.istore_n 3, 1) := by decide +kernel
theorem dX9_wayFrom_51 : decode (dc DX9_wayFrom) 51 = .ok (.iload_n 2, 1) := by decide +kernel
theorem dX9_wayFrom_52 : decode (dc DX9_wayFrom) 52 = .ok (.iconst 1, 1) := by decide +kernel
theorem dX9_wayFrom_53 : decode (dc DX9_wayFrom) 53 = .ok (.if_icmp .ne 7, 3) := by decide +kernel
theorem dX9_wayFrom_56 : decode (dc DX9_wayFrom) 56 = .ok (.iload_n 3, 1) := by decide +kernel
theorem dX9_wayFrom_57 : decode (dc DX9_wayFrom) 57 = .ok (.goto 12, 3) := by decide +kernel
theorem dX9_wayFrom_60 : decode (dc DX9_wayFrom) 60 = .ok (.iload_n 3, 1) := by decide +kernel
theorem dX9_wayFrom_61 : decode (dc DX9_wayFrom) 61 = .ok (.ifCond .le 7, 3) := by decide +kernel
theorem dX9_wayFrom_64 : decode (dc DX9_wayFrom) 64 = .ok (.iconst 1, 1) := by decide +kernel
theorem dX9_wayFrom_65 : decode (dc DX9_wayFrom) 65 = .ok (.goto 4, 3) := by decide +kernel
theorem dX9_wayFrom_68 : decode (dc DX9_wayFrom) 68 = .ok (.iconst 0, 1) := by decide +kernel
theorem dX9_wayFrom_69 : decode (dc DX9_wayFrom) 69 = .ok (.ireturn, 1) := by decide +kernel
theorem dX9_runPhases_0 : decode (dc DX9_runPhases) 0 = .ok (.aload_n 0, 1) := by decide +kernel
theorem dX9_runPhases_1 : decode (dc DX9_runPhases) 1 = .ok (.getfield 36, 3) := by decide +kernel
theorem dX9_runPhases_4 : decode (dc DX9_runPhases) 4 = .ok (.aload_n 0, 1) := by decide +kernel
theorem dX9_runPhases_5 : decode (dc DX9_runPhases) 5 = .ok (.getfield 12, 3) := by decide +kernel
theorem dX9_runPhases_8 : decode (dc DX9_runPhases) 8 = .ok (.invokevirtual 170, 3) := by decide +kernel
theorem dX9_runPhases_11 : decode (dc DX9_runPhases) 11 = .ok (.aload_n 0, 1) := by decide +kernel
theorem dX9_runPhases_12 : decode (dc DX9_runPhases) 12 = .ok (.getfield 50, 3) := by decide +kernel
theorem dX9_runPhases_15 : decode (dc DX9_runPhases) 15 = .ok (.aload_n 0, 1) := by decide +kernel
theorem dX9_runPhases_16 : decode (dc DX9_runPhases) 16 = .ok (.getfield 36, 3) := by decide +kernel
theorem dX9_runPhases_19 : decode (dc DX9_runPhases) 19 = .ok (.invokevirtual 355, 3) := by decide +kernel
theorem dX9_runPhases_22 : decode (dc DX9_runPhases) 22 = .ok (.return_, 1) := by decide +kernel
theorem dX9_phases_0 : decode (dc DX9_phases) 0 = .ok (.aload_n 0, 1) := by decide +kernel
theorem dX9_phases_1 : decode (dc DX9_phases) 1 = .ok (.iload_n 1, 1) := by decide +kernel
theorem dX9_phases_2 : decode (dc DX9_phases) 2 = .ok (.ifCond .lt 12, 3) := by decide +kernel
theorem dX9_phases_5 : decode (dc DX9_phases) 5 = .ok (.iload_n 1, 1) := by decide +kernel
theorem dX9_phases_6 : decode (dc DX9_phases) 6 = .ok (.iconst 3, 1) := by decide +kernel
theorem dX9_phases_7 : decode (dc DX9_phases) 7 = .ok (.if_icmp .gt 7, 3) := by decide +kernel
theorem dX9_phases_10 : decode (dc DX9_phases) 10 = .ok (.iconst 1, 1) := by decide +kernel
theorem dX9_phases_11 : decode (dc DX9_phases) 11 = .ok (.goto 4, 3) := by decide +kernel
theorem dX9_phases_14 : decode (dc DX9_phases) 14 = .ok (.iconst 0, 1) := by decide +kernel
theorem dX9_phases_15 : decode (dc DX9_phases) 15 = .ok (.invokevirtual 90, 3) := by decide +kernel
theorem dX9_phases_18 : decode (dc DX9_phases) 18 = .ok (.aload_n 0, 1) := by decide +kernel
theorem dX9_phases_19 : decode (dc DX9_phases) 19 = .ok (.invokevirtual 182, 3) := by decide +kernel
theorem dX9_phases_22 : decode (dc DX9_phases) 22 = .ok (.iload_n 1, 1) := by decide +kernel
theorem dX9_phases_23 : decode (dc DX9_phases) 23 = .ok (.tableswitch 49 0 2 #[25, 33, 41], 25) := by decide +kernel
theorem dX9_phases_48 : decode (dc DX9_phases) 48 = .ok (.aload_n 0, 1) := by decide +kernel
theorem dX9_phases_49 : decode (dc DX9_phases) 49 = .ok (.getfield 50, 3) := by decide +kernel
theorem dX9_phases_52 : decode (dc DX9_phases) 52 = .ok (.getfield 185, 3) := by decide +kernel
theorem dX9_phases_55 : decode (dc DX9_phases) 55 = .ok (.ireturn, 1) := by decide +kernel
theorem dX9_phases_56 : decode (dc DX9_phases) 56 = .ok (.aload_n 0, 1) := by decide +kernel
theorem dX9_phases_57 : decode (dc DX9_phases) 57 = .ok (.getfield 50, 3) := by decide +kernel
theorem dX9_phases_60 : decode (dc DX9_phases) 60 = .ok (.getfield 188, 3) := by decide +kernel
theorem dX9_phases_63 : decode (dc DX9_phases) 63 = .ok (.ireturn, 1) := by decide +kernel
theorem dX9_phases_64 : decode (dc DX9_phases) 64 = .ok (.aload_n 0, 1) := by decide +kernel
theorem dX9_phases_65 : decode (dc DX9_phases) 65 = .ok (.getfield 50, 3) := by decide +kernel
theorem dX9_phases_68 : decode (dc DX9_phases) 68 = .ok (.getfield 191, 3) := by decide +kernel
theorem dX9_phases_71 : decode (dc DX9_phases) 71 = .ok (.ireturn, 1) := by decide +kernel
theorem dX9_phases_72 : decode (dc DX9_phases) 72 = .ok (.aload_n 0, 1) := by decide +kernel
theorem dX9_phases_73 : decode (dc DX9_phases) 73 = .ok (.getfield 50, 3) := by decide +kernel
theorem dX9_phases_76 : decode (dc DX9_phases) 76 = .ok (.getfield 194, 3) := by decide +kernel
theorem dX9_phases_79 : decode (dc DX9_phases) 79 = .ok (.ireturn, 1) := by decide +kernel
theorem dX9_phased_0 : decode (dc DX9_phased) 0 = .ok (.aload_n 0, 1) := by decide +kernel
theorem dX9_phased_1 : decode (dc DX9_phased) 1 = .ok (.aload_n 0, 1) := by decide +kernel
theorem dX9_phased_2 : decode (dc DX9_phased) 2 = .ok (.getfield 12, 3) := by decide +kernel
theorem dX9_phased_5 : decode (dc DX9_phased) 5 = .ok (.iconst 0, 1) := by decide +kernel
theorem dX9_phased_6 : decode (dc DX9_phased) 6 = .ok (.iload_n 1, 1) := by decide +kernel
theorem dX9_phased_7 : decode (dc DX9_phased) 7 = .ok (.invokevirtual 146, 3) := by decide +kernel
theorem dX9_phased_10 : decode (dc DX9_phased) 10 = .ok (.invokevirtual 150, 3) := by decide +kernel
theorem dX9_phased_13 : decode (dc DX9_phased) 13 = .ok (.aload_n 0, 1) := by decide +kernel
theorem dX9_phased_14 : decode (dc DX9_phased) 14 = .ok (.invokevirtual 182, 3) := by decide +kernel
theorem dX9_phased_17 : decode (dc DX9_phased) 17 = .ok (.aload_n 0, 1) := by decide +kernel
theorem dX9_phased_18 : decode (dc DX9_phased) 18 = .ok (.getfield 36, 3) := by decide +kernel
theorem dX9_phased_21 : decode (dc DX9_phased) 21 = .ok (.getfield 197, 3) := by decide +kernel
theorem dX9_phased_24 : decode (dc DX9_phased) 24 = .ok (.iload_n 1, 1) := by decide +kernel
theorem dX9_phased_25 : decode (dc DX9_phased) 25 = .ok (.invokevirtual 198, 3) := by decide +kernel
theorem dX9_phased_28 : decode (dc DX9_phased) 28 = .ok (.ireturn, 1) := by decide +kernel
theorem dX9_makeMost_0 : decode (dc DX9_makeMost) 0 = .ok (.aload_n 0, 1) := by decide +kernel
theorem dX9_makeMost_1 : decode (dc DX9_makeMost) 1 = .ok (.getfield 36, 3) := by decide +kernel
theorem dX9_makeMost_4 : decode (dc DX9_makeMost) 4 = .ok (.aload_n 0, 1) := by decide +kernel
theorem dX9_makeMost_5 : decode (dc DX9_makeMost) 5 = .ok (.getfield 12, 3) := by decide +kernel
theorem dX9_makeMost_8 : decode (dc DX9_makeMost) 8 = .ok (.invokevirtual 170, 3) := by decide +kernel
theorem dX9_makeMost_11 : decode (dc DX9_makeMost) 11 = .ok (.aload_n 0, 1) := by decide +kernel
theorem dX9_makeMost_12 : decode (dc DX9_makeMost) 12 = .ok (.getfield 36, 3) := by decide +kernel
theorem dX9_makeMost_15 : decode (dc DX9_makeMost) 15 = .ok (.bipush 12, 2) := by decide +kernel
theorem dX9_makeMost_17 : decode (dc DX9_makeMost) 17 = .ok (.invokevirtual 217, 3) := by decide +kernel
theorem dX9_makeMost_20 : decode (dc DX9_makeMost) 20 = .ok (.pop, 1) := by decide +kernel
theorem dX9_makeMost_21 : decode (dc DX9_makeMost) 21 = .ok (.aload_n 0, 1) := by decide +kernel
theorem dX9_makeMost_22 : decode (dc DX9_makeMost) 22 = .ok (.getfield 36, 3) := by decide +kernel
theorem dX9_makeMost_25 : decode (dc DX9_makeMost) 25 = .ok (.getfield 197, 3) := by decide +kernel
theorem dX9_makeMost_28 : decode (dc DX9_makeMost) 28 = .ok (.invokevirtual 110, 3) := by decide +kernel
theorem dX9_makeMost_31 : decode (dc DX9_makeMost) 31 = .ok (.ireturn, 1) := by decide +kernel
theorem dX9_most_0 : decode (dc DX9_most) 0 = .ok (.aload_n 0, 1) := by decide +kernel
theorem dX9_most_1 : decode (dc DX9_most) 1 = .ok (.invokevirtual 201, 3) := by decide +kernel
theorem dX9_most_4 : decode (dc DX9_most) 4 = .ok (.ireturn, 1) := by decide +kernel
theorem dX9_reached_0 : decode (dc DX9_reached) 0 = .ok (.aload_n 0, 1) := by decide +kernel
theorem dX9_reached_1 : decode (dc DX9_reached) 1 = .ok (.iload_n 1, 1) := by decide +kernel
theorem dX9_reached_2 : decode (dc DX9_reached) 2 = .ok (.ifCond .eq 8, 3) := by decide +kernel
theorem dX9_reached_5 : decode (dc DX9_reached) 5 = .ok (.iload_n 1, 1) := by decide +kernel
theorem dX9_reached_6 : decode (dc DX9_reached) 6 = .ok (.iconst 1, 1) := by decide +kernel
theorem dX9_reached_7 : decode (dc DX9_reached) 7 = .ok (.if_icmp .ne 7, 3) := by decide +kernel
theorem dX9_reached_10 : decode (dc DX9_reached) 10 = .ok (.iconst 1, 1) := by decide +kernel
theorem dX9_reached_11 : decode (dc DX9_reached) 11 = .ok (.goto 4, 3) := by decide +kernel
theorem dX9_reached_14 : decode (dc DX9_reached) 14 = .ok (.iconst 0, 1) := by decide +kernel
theorem dX9_reached_15 : decode (dc DX9_reached) 15 = .ok (.invokevirtual 150, 3) := by decide +kernel
theorem dX9_reached_18 : decode (dc DX9_reached) 18 = .ok (.aload_n 0, 1) := by decide +kernel
theorem dX9_reached_19 : decode (dc DX9_reached) 19 = .ok (.invokevirtual 201, 3) := by decide +kernel
theorem dX9_reached_22 : decode (dc DX9_reached) 22 = .ok (.pop, 1) := by decide +kernel
theorem dX9_reached_23 : decode (dc DX9_reached) 23 = .ok (.aload_n 0, 1) := by decide +kernel
theorem dX9_reached_24 : decode (dc DX9_reached) 24 = .ok (.getfield 43, 3) := by decide +kernel
theorem dX9_reached_27 : decode (dc DX9_reached) 27 = .ok (.aload_n 0, 1) := by decide +kernel
theorem dX9_reached_28 : decode (dc DX9_reached) 28 = .ok (.getfield 36, 3) := by decide +kernel
theorem dX9_reached_31 : decode (dc DX9_reached) 31 = .ok (.invokevirtual 204, 3) := by decide +kernel
theorem dX9_reached_34 : decode (dc DX9_reached) 34 = .ok (.iload_n 1, 1) := by decide +kernel
theorem dX9_reached_35 : decode (dc DX9_reached) 35 = .ok (.ifCond .ne 13, 3) := by decide +kernel
theorem dX9_reached_38 : decode (dc DX9_reached) 38 = .ok (.aload_n 0, 1) := by decide +kernel
theorem dX9_reached_39 : decode (dc DX9_reached) 39 = .ok (.getfield 43, 3) := by decide +kernel
theorem dX9_reached_42 : decode (dc DX9_reached) 42 = .ok (.getfield 208, 3) := by decide +kernel
theorem dX9_reached_45 : decode (dc DX9_reached) 45 = .ok (.goto 10, 3) := by decide +kernel
theorem dX9_reached_48 : decode (dc DX9_reached) 48 = .ok (.aload_n 0, 1) := by decide +kernel
theorem dX9_reached_49 : decode (dc DX9_reached) 49 = .ok (.getfield 43, 3) := by decide +kernel
theorem dX9_reached_52 : decode (dc DX9_reached) 52 = .ok (.getfield 209, 3) := by decide +kernel
theorem dX9_reached_55 : decode (dc DX9_reached) 55 = .ok (.ireturn, 1) := by decide +kernel
theorem dX9_cover_0 : decode (dc DX9_cover) 0 = .ok (.aload_n 0, 1) := by decide +kernel
theorem dX9_cover_1 : decode (dc DX9_cover) 1 = .ok (.iload_n 1, 1) := by decide +kernel
theorem dX9_cover_2 : decode (dc DX9_cover) 2 = .ok (.ifCond .eq 8, 3) := by decide +kernel
theorem dX9_cover_5 : decode (dc DX9_cover) 5 = .ok (.iload_n 1, 1) := by decide +kernel
theorem dX9_cover_6 : decode (dc DX9_cover) 6 = .ok (.iconst 1, 1) := by decide +kernel
theorem dX9_cover_7 : decode (dc DX9_cover) 7 = .ok (.if_icmp .ne 7, 3) := by decide +kernel
theorem dX9_cover_10 : decode (dc DX9_cover) 10 = .ok (.iconst 1, 1) := by decide +kernel
theorem dX9_cover_11 : decode (dc DX9_cover) 11 = .ok (.goto 4, 3) := by decide +kernel
theorem dX9_cover_14 : decode (dc DX9_cover) 14 = .ok (.iconst 0, 1) := by decide +kernel
theorem dX9_cover_15 : decode (dc DX9_cover) 15 = .ok (.invokevirtual 150, 3) := by decide +kernel
theorem dX9_cover_18 : decode (dc DX9_cover) 18 = .ok (.aload_n 0, 1) := by decide +kernel
theorem dX9_cover_19 : decode (dc DX9_cover) 19 = .ok (.invokevirtual 201, 3) := by decide +kernel
theorem dX9_cover_22 : decode (dc DX9_cover) 22 = .ok (.pop, 1) := by decide +kernel
theorem dX9_cover_23 : decode (dc DX9_cover) 23 = .ok (.aload_n 0, 1) := by decide +kernel
theorem dX9_cover_24 : decode (dc DX9_cover) 24 = .ok (.getfield 43, 3) := by decide +kernel
theorem dX9_cover_27 : decode (dc DX9_cover) 27 = .ok (.aload_n 0, 1) := by decide +kernel
theorem dX9_cover_28 : decode (dc DX9_cover) 28 = .ok (.getfield 36, 3) := by decide +kernel
theorem dX9_cover_31 : decode (dc DX9_cover) 31 = .ok (.invokevirtual 204, 3) := by decide +kernel
theorem dX9_cover_34 : decode (dc DX9_cover) 34 = .ok (.iload_n 1, 1) := by decide +kernel
theorem dX9_cover_35 : decode (dc DX9_cover) 35 = .ok (.ifCond .ne 23, 3) := by decide +kernel
theorem dX9_cover_38 : decode (dc DX9_cover) 38 = .ok (.aload_n 0, 1) := by decide +kernel
theorem dX9_cover_39 : decode (dc DX9_cover) 39 = .ok (.getfield 12, 3) := by decide +kernel
theorem dX9_cover_42 : decode (dc DX9_cover) 42 = .ok (.getfield 131, 3) := by decide +kernel
theorem dX9_cover_45 : decode (dc DX9_cover) 45 = .ok (.aload_n 0, 1) := by decide +kernel
theorem dX9_cover_46 : decode (dc DX9_cover) 46 = .ok (.getfield 43, 3) := by decide +kernel
theorem dX9_cover_49 : decode (dc DX9_cover) 49 = .ok (.getfield 208, 3) := by decide +kernel
theorem dX9_cover_52 : decode (dc DX9_cover) 52 = .ok (.iconst (-1), 1) := by decide +kernel
theorem dX9_cover_53 : decode (dc DX9_cover) 53 = .ok (.ixor, 1) := by decide +kernel
theorem dX9_cover_54 : decode (dc DX9_cover) 54 = .ok (.iand, 1) := by decide +kernel
theorem dX9_cover_55 : decode (dc DX9_cover) 55 = .ok (.goto 10, 3) := by decide +kernel
theorem dX9_cover_58 : decode (dc DX9_cover) 58 = .ok (.aload_n 0, 1) := by decide +kernel
theorem dX9_cover_59 : decode (dc DX9_cover) 59 = .ok (.getfield 43, 3) := by decide +kernel
theorem dX9_cover_62 : decode (dc DX9_cover) 62 = .ok (.getfield 209, 3) := by decide +kernel
theorem dX9_cover_65 : decode (dc DX9_cover) 65 = .ok (.ireturn, 1) := by decide +kernel
theorem dX9_partOf_0 : decode (dc DX9_partOf) 0 = .ok (.aload_n 0, 1) := by decide +kernel
theorem dX9_partOf_1 : decode (dc DX9_partOf) 1 = .ok (.getfield 12, 3) := by decide +kernel
theorem dX9_partOf_4 : decode (dc DX9_partOf) 4 = .ok (.iload_n 1, 1) := by decide +kernel
theorem dX9_partOf_5 : decode (dc DX9_partOf) 5 = .ok (.iload_n 2, 1) := by decide +kernel
theorem dX9_partOf_6 : decode (dc DX9_partOf) 6 = .ok (.invokevirtual 309, 3) := by decide +kernel
theorem dX9_partOf_9 : decode (dc DX9_partOf) 9 = .ok (.ifCond .ne 5, 3) := by decide +kernel
theorem dX9_partOf_12 : decode (dc DX9_partOf) 12 = .ok (.iconst 0, 1) := by decide +kernel
theorem dX9_partOf_13 : decode (dc DX9_partOf) 13 = .ok (.ireturn, 1) := by decide +kernel
theorem dX9_partOf_14 : decode (dc DX9_partOf) 14 = .ok (.aload_n 0, 1) := by decide +kernel
theorem dX9_partOf_15 : decode (dc DX9_partOf) 15 = .ok (.invokevirtual 201, 3) := by decide +kernel
theorem dX9_partOf_18 : decode (dc DX9_partOf) 18 = .ok (.pop, 1) := by decide +kernel
theorem dX9_partOf_19 : decode (dc DX9_partOf) 19 = .ok (.aload_n 0, 1) := by decide +kernel
theorem dX9_partOf_20 : decode (dc DX9_partOf) 20 = .ok (.getfield 43, 3) := by decide +kernel
theorem dX9_partOf_23 : decode (dc DX9_partOf) 23 = .ok (.aload_n 0, 1) := by decide +kernel
theorem dX9_partOf_24 : decode (dc DX9_partOf) 24 = .ok (.getfield 36, 3) := by decide +kernel
theorem dX9_partOf_27 : decode (dc DX9_partOf) 27 = .ok (.invokevirtual 204, 3) := by decide +kernel
theorem dX9_partOf_30 : decode (dc DX9_partOf) 30 = .ok (.iload_n 1, 1) := by decide +kernel
theorem dX9_partOf_31 : decode (dc DX9_partOf) 31 = .ok (.ifCond .ne 13, 3) := by decide +kernel
theorem dX9_partOf_34 : decode (dc DX9_partOf) 34 = .ok (.aload_n 0, 1) := by decide +kernel
theorem dX9_partOf_35 : decode (dc DX9_partOf) 35 = .ok (.getfield 43, 3) := by decide +kernel
theorem dX9_partOf_38 : decode (dc DX9_partOf) 38 = .ok (.getfield 208, 3) := by decide +kernel
theorem dX9_partOf_41 : decode (dc DX9_partOf) 41 = .ok (.goto 10, 3) := by decide +kernel
theorem dX9_partOf_44 : decode (dc DX9_partOf) 44 = .ok (.aload_n 0, 1) := by decide +kernel
theorem dX9_partOf_45 : decode (dc DX9_partOf) 45 = .ok (.getfield 43, 3) := by decide +kernel
theorem dX9_partOf_48 : decode (dc DX9_partOf) 48 = .ok (.getfield 209, 3) := by decide +kernel
theorem dX9_partOf_51 : decode (dc DX9_partOf) 51 = .ok (.iload_n 2, 1) := by decide +kernel
theorem dX9_partOf_52 : decode (dc DX9_partOf) 52 = .ok (.invokestatic 226, 3) := by decide +kernel
theorem dX9_partOf_55 : decode (dc DX9_partOf) 55 = .ok (.ifCond .eq 5, 3) := by decide +kernel
theorem dX9_partOf_58 : decode (dc DX9_partOf) 58 = .ok (.iconst 1, 1) := by decide +kernel
theorem dX9_partOf_59 : decode (dc DX9_partOf) 59 = .ok (.ireturn, 1) := by decide +kernel
theorem dX9_partOf_60 : decode (dc DX9_partOf) 60 = .ok (.iload_n 1, 1) := by decide +kernel
theorem dX9_partOf_61 : decode (dc DX9_partOf) 61 = .ok (.ifCond .ne 13, 3) := by decide +kernel
theorem dX9_partOf_64 : decode (dc DX9_partOf) 64 = .ok (.aload_n 0, 1) := by decide +kernel
theorem dX9_partOf_65 : decode (dc DX9_partOf) 65 = .ok (.getfield 43, 3) := by decide +kernel
theorem dX9_partOf_68 : decode (dc DX9_partOf) 68 = .ok (.getfield 361, 3) := by decide +kernel
theorem dX9_partOf_71 : decode (dc DX9_partOf) 71 = .ok (.goto 10, 3) := by decide +kernel
theorem dX9_partOf_74 : decode (dc DX9_partOf) 74 = .ok (.aload_n 0, 1) := by decide +kernel
theorem dX9_partOf_75 : decode (dc DX9_partOf) 75 = .ok (.getfield 43, 3) := by decide +kernel
theorem dX9_partOf_78 : decode (dc DX9_partOf) 78 = .ok (.getfield 364, 3) := by decide +kernel
theorem dX9_partOf_81 : decode (dc DX9_partOf) 81 = .ok (.iload_n 2, 1) := by decide +kernel
theorem dX9_partOf_82 : decode (dc DX9_partOf) 82 = .ok (.invokestatic 226, 3) := by decide +kernel
theorem dX9_partOf_85 : decode (dc DX9_partOf) 85 = .ok (.ifCond .eq 7, 3) := by decide +kernel
theorem dX9_partOf_88 : decode (dc DX9_partOf) 88 = .ok (.iconst 2, 1) := by decide +kernel
theorem dX9_partOf_89 : decode (dc DX9_partOf) 89 = .ok (.goto 4, 3) := by decide +kernel
theorem dX9_partOf_92 : decode (dc DX9_partOf) 92 = .ok (.iconst 3, 1) := by decide +kernel
theorem dX9_partOf_93 : decode (dc DX9_partOf) 93 = .ok (.ireturn, 1) := by decide +kernel
theorem dX9_of_0 : decode (dc DX9_of) 0 = .ok (.aload_n 0, 1) := by decide +kernel
theorem dX9_of_1 : decode (dc DX9_of) 1 = .ok (.aload_n 0, 1) := by decide +kernel
theorem dX9_of_2 : decode (dc DX9_of) 2 = .ok (.getfield 12, 3) := by decide +kernel
theorem dX9_of_5 : decode (dc DX9_of) 5 = .ok (.iload_n 1, 1) := by decide +kernel
theorem dX9_of_6 : decode (dc DX9_of) 6 = .ok (.iload_n 2, 1) := by decide +kernel
theorem dX9_of_7 : decode (dc DX9_of) 7 = .ok (.invokevirtual 146, 3) := by decide +kernel
theorem dX9_of_10 : decode (dc DX9_of) 10 = .ok (.invokevirtual 150, 3) := by decide +kernel
theorem dX9_of_13 : decode (dc DX9_of) 13 = .ok (.aload_n 0, 1) := by decide +kernel
theorem dX9_of_14 : decode (dc DX9_of) 14 = .ok (.iload_n 3, 1) := by decide +kernel
theorem dX9_of_15 : decode (dc DX9_of) 15 = .ok (.ifCond .lt 12, 3) := by decide +kernel
theorem dX9_of_18 : decode (dc DX9_of) 18 = .ok (.iload_n 3, 1) := by decide +kernel
theorem dX9_of_19 : decode (dc DX9_of) 19 = .ok (.iconst 2, 1) := by decide +kernel
theorem dX9_of_20 : decode (dc DX9_of) 20 = .ok (.if_icmp .gt 7, 3) := by decide +kernel
theorem dX9_of_23 : decode (dc DX9_of) 23 = .ok (.iconst 1, 1) := by decide +kernel
theorem dX9_of_24 : decode (dc DX9_of) 24 = .ok (.goto 4, 3) := by decide +kernel
theorem dX9_of_27 : decode (dc DX9_of) 27 = .ok (.iconst 0, 1) := by decide +kernel
theorem dX9_of_28 : decode (dc DX9_of) 28 = .ok (.invokevirtual 90, 3) := by decide +kernel
theorem dX9_of_31 : decode (dc DX9_of) 31 = .ok (.iload_n 3, 1) := by decide +kernel
theorem dX9_of_32 : decode (dc DX9_of) 32 = .ok (.iconst 2, 1) := by decide +kernel
theorem dX9_of_33 : decode (dc DX9_of) 33 = .ok (.if_icmp .ne 10, 3) := by decide +kernel
theorem dX9_of_36 : decode (dc DX9_of) 36 = .ok (.aload_n 0, 1) := by decide +kernel
theorem dX9_of_37 : decode (dc DX9_of) 37 = .ok (.iload_n 1, 1) := by decide +kernel
theorem dX9_of_38 : decode (dc DX9_of) 38 = .ok (.iload_n 2, 1) := by decide +kernel
theorem dX9_of_39 : decode (dc DX9_of) 39 = .ok (.invokevirtual 210, 3) := by decide +kernel
theorem dX9_of_42 : decode (dc DX9_of) 42 = .ok (.ireturn, 1) := by decide +kernel
theorem dX9_of_43 : decode (dc DX9_of) 43 = .ok (.aload_n 0, 1) := by decide +kernel
theorem dX9_of_44 : decode (dc DX9_of) 44 = .ok (.getfield 36, 3) := by decide +kernel
theorem dX9_of_47 : decode (dc DX9_of) 47 = .ok (.aload_n 0, 1) := by decide +kernel
theorem dX9_of_48 : decode (dc DX9_of) 48 = .ok (.getfield 12, 3) := by decide +kernel
theorem dX9_of_51 : decode (dc DX9_of) 51 = .ok (.invokevirtual 170, 3) := by decide +kernel
theorem dX9_of_54 : decode (dc DX9_of) 54 = .ok (.aload_n 0, 1) := by decide +kernel
theorem dX9_of_55 : decode (dc DX9_of) 55 = .ok (.getfield 36, 3) := by decide +kernel
theorem dX9_of_58 : decode (dc DX9_of) 58 = .ok (.iload_n 1, 1) := by decide +kernel
theorem dX9_of_59 : decode (dc DX9_of) 59 = .ok (.iload_n 2, 1) := by decide +kernel
theorem dX9_of_60 : decode (dc DX9_of) 60 = .ok (.invokevirtual 213, 3) := by decide +kernel
theorem dX9_of_63 : decode (dc DX9_of) 63 = .ok (.aload_n 0, 1) := by decide +kernel
theorem dX9_of_64 : decode (dc DX9_of) 64 = .ok (.getfield 36, 3) := by decide +kernel
theorem dX9_of_67 : decode (dc DX9_of) 67 = .ok (.bipush 12, 2) := by decide +kernel
theorem dX9_of_69 : decode (dc DX9_of) 69 = .ok (.invokevirtual 217, 3) := by decide +kernel
theorem dX9_of_72 : decode (dc DX9_of) 72 = .ok (.pop, 1) := by decide +kernel
theorem dX9_of_73 : decode (dc DX9_of) 73 = .ok (.aload_n 0, 1) := by decide +kernel
theorem dX9_of_74 : decode (dc DX9_of) 74 = .ok (.getfield 36, 3) := by decide +kernel
theorem dX9_of_77 : decode (dc DX9_of) 77 = .ok (.getfield 197, 3) := by decide +kernel
theorem dX9_of_80 : decode (dc DX9_of) 80 = .ok (.invokevirtual 110, 3) := by decide +kernel
theorem dX9_of_83 : decode (dc DX9_of) 83 = .ok (.istore 4, 2) := by decide +kernel
theorem dX9_of_85 : decode (dc DX9_of) 85 = .ok (.iload_n 3, 1) := by decide +kernel
theorem dX9_of_86 : decode (dc DX9_of) 86 = .ok (.iconst 1, 1) := by decide +kernel
theorem dX9_of_87 : decode (dc DX9_of) 87 = .ok (.if_icmp .ne 6, 3) := by decide +kernel
theorem dX9_of_90 : decode (dc DX9_of) 90 = .ok (.iload 4, 2) := by decide +kernel
theorem dX9_of_92 : decode (dc DX9_of) 92 = .ok (.ireturn, 1) := by decide +kernel
theorem dX9_of_93 : decode (dc DX9_of) 93 = .ok (.iload 4, 2) := by decide +kernel
theorem dX9_of_95 : decode (dc DX9_of) 95 = .ok (.aload_n 0, 1) := by decide +kernel
theorem dX9_of_96 : decode (dc DX9_of) 96 = .ok (.invokevirtual 201, 3) := by decide +kernel
theorem dX9_of_99 : decode (dc DX9_of) 99 = .ok (.if_icmp .ge 7, 3) := by decide +kernel
theorem dX9_of_102 : decode (dc DX9_of) 102 = .ok (.iconst 1, 1) := by decide +kernel
theorem dX9_of_103 : decode (dc DX9_of) 103 = .ok (.goto 4, 3) := by decide +kernel
theorem dX9_of_106 : decode (dc DX9_of) 106 = .ok (.iconst 0, 1) := by decide +kernel
theorem dX9_of_107 : decode (dc DX9_of) 107 = .ok (.ireturn, 1) := by decide +kernel
theorem dX9_kindOf_0 : decode (dc DX9_kindOf) 0 = .ok (.aload_n 0, 1) := by decide +kernel
theorem dX9_kindOf_1 : decode (dc DX9_kindOf) 1 = .ok (.getfield 12, 3) := by decide +kernel
theorem dX9_kindOf_4 : decode (dc DX9_kindOf) 4 = .ok (.iload_n 1, 1) := by decide +kernel
theorem dX9_kindOf_5 : decode (dc DX9_kindOf) 5 = .ok (.iload_n 2, 1) := by decide +kernel
theorem dX9_kindOf_6 : decode (dc DX9_kindOf) 6 = .ok (.invokevirtual 303, 3) := by decide +kernel
theorem dX9_kindOf_9 : decode (dc DX9_kindOf) 9 = .ok (.ifCond .ne 5, 3) := by decide +kernel
theorem dX9_kindOf_12 : decode (dc DX9_kindOf) 12 = .ok (.iconst 0, 1) := by decide +kernel
theorem dX9_kindOf_13 : decode (dc DX9_kindOf) 13 = .ok (.ireturn, 1) := by decide +kernel
theorem dX9_kindOf_14 : decode (dc DX9_kindOf) 14 = .ok (.aload_n 0, 1) := by decide +kernel
theorem dX9_kindOf_15 : decode (dc DX9_kindOf) 15 = .ok (.getfield 36, 3) := by decide +kernel
theorem dX9_kindOf_18 : decode (dc DX9_kindOf) 18 = .ok (.iload_n 1, 1) := by decide +kernel
theorem dX9_kindOf_19 : decode (dc DX9_kindOf) 19 = .ok (.iload_n 2, 1) := by decide +kernel
theorem dX9_kindOf_20 : decode (dc DX9_kindOf) 20 = .ok (.invokevirtual 367, 3) := by decide +kernel
theorem dX9_kindOf_23 : decode (dc DX9_kindOf) 23 = .ok (.ifCond .eq 19, 3) := by decide +kernel
theorem dX9_kindOf_26 : decode (dc DX9_kindOf) 26 = .ok (.aload_n 0, 1) := by decide +kernel
theorem dX9_kindOf_27 : decode (dc DX9_kindOf) 27 = .ok (.getfield 43, 3) := by decide +kernel
theorem dX9_kindOf_30 : decode (dc DX9_kindOf) 30 = .ok (.aload_n 0, 1) := by decide +kernel
theorem dX9_kindOf_31 : decode (dc DX9_kindOf) 31 = .ok (.getfield 36, 3) := by decide +kernel
theorem dX9_kindOf_34 : decode (dc DX9_kindOf) 34 = .ok (.iload_n 1, 1) := by decide +kernel
theorem dX9_kindOf_35 : decode (dc DX9_kindOf) 35 = .ok (.iload_n 2, 1) := by decide +kernel
theorem dX9_kindOf_36 : decode (dc DX9_kindOf) 36 = .ok (.invokevirtual 370, 3) := by decide +kernel
theorem dX9_kindOf_39 : decode (dc DX9_kindOf) 39 = .ok (.goto 4, 3) := by decide +kernel
theorem dX9_kindOf_42 : decode (dc DX9_kindOf) 42 = .ok (.iconst 1, 1) := by decide +kernel
theorem dX9_kindOf_43 : decode (dc DX9_kindOf) 43 = .ok (.ireturn, 1) := by decide +kernel
theorem dX9_fit_0 : decode (dc DX9_fit) 0 = .ok (.aload_n 0, 1) := by decide +kernel
theorem dX9_fit_1 : decode (dc DX9_fit) 1 = .ok (.aload_n 0, 1) := by decide +kernel
theorem dX9_fit_2 : decode (dc DX9_fit) 2 = .ok (.getfield 12, 3) := by decide +kernel
theorem dX9_fit_5 : decode (dc DX9_fit) 5 = .ok (.iload_n 1, 1) := by decide +kernel
theorem dX9_fit_6 : decode (dc DX9_fit) 6 = .ok (.iload_n 2, 1) := by decide +kernel
theorem dX9_fit_7 : decode (dc DX9_fit) 7 = .ok (.invokevirtual 157, 3) := by decide +kernel
theorem dX9_fit_10 : decode (dc DX9_fit) 10 = .ok (.invokevirtual 150, 3) := by decide +kernel
theorem dX9_fit_13 : decode (dc DX9_fit) 13 = .ok (.aload_n 0, 1) := by decide +kernel
theorem dX9_fit_14 : decode (dc DX9_fit) 14 = .ok (.invokevirtual 201, 3) := by decide +kernel
theorem dX9_fit_17 : decode (dc DX9_fit) 17 = .ok (.pop, 1) := by decide +kernel
theorem dX9_fit_18 : decode (dc DX9_fit) 18 = .ok (.aload_n 0, 1) := by decide +kernel
theorem dX9_fit_19 : decode (dc DX9_fit) 19 = .ok (.getfield 43, 3) := by decide +kernel
theorem dX9_fit_22 : decode (dc DX9_fit) 22 = .ok (.aload_n 0, 1) := by decide +kernel
theorem dX9_fit_23 : decode (dc DX9_fit) 23 = .ok (.getfield 36, 3) := by decide +kernel
theorem dX9_fit_26 : decode (dc DX9_fit) 26 = .ok (.invokevirtual 204, 3) := by decide +kernel
theorem dX9_fit_29 : decode (dc DX9_fit) 29 = .ok (.aload_n 0, 1) := by decide +kernel
theorem dX9_fit_30 : decode (dc DX9_fit) 30 = .ok (.getfield 43, 3) := by decide +kernel
theorem dX9_fit_33 : decode (dc DX9_fit) 33 = .ok (.aload_n 0, 1) := by decide +kernel
theorem dX9_fit_34 : decode (dc DX9_fit) 34 = .ok (.getfield 36, 3) := by decide +kernel
theorem dX9_fit_37 : decode (dc DX9_fit) 37 = .ok (.invokevirtual 220, 3) := by decide +kernel
theorem dX9_fit_40 : decode (dc DX9_fit) 40 = .ok (.aload_n 0, 1) := by decide +kernel
theorem dX9_fit_41 : decode (dc DX9_fit) 41 = .ok (.iload_n 1, 1) := by decide +kernel
theorem dX9_fit_42 : decode (dc DX9_fit) 42 = .ok (.iload_n 2, 1) := by decide +kernel
theorem dX9_fit_43 : decode (dc DX9_fit) 43 = .ok (.invokevirtual 223, 3) := by decide +kernel
theorem dX9_fit_46 : decode (dc DX9_fit) 46 = .ok (.ireturn, 1) := by decide +kernel
theorem dX9_fitMany_0 : decode (dc DX9_fitMany) 0 = .ok (.aload_n 0, 1) := by decide +kernel
theorem dX9_fitMany_1 : decode (dc DX9_fitMany) 1 = .ok (.iload_n 1, 1) := by decide +kernel
theorem dX9_fitMany_2 : decode (dc DX9_fitMany) 2 = .ok (.iconst 1, 1) := by decide +kernel
theorem dX9_fitMany_3 : decode (dc DX9_fitMany) 3 = .ok (.if_icmp .lt 12, 3) := by decide +kernel
theorem dX9_fitMany_6 : decode (dc DX9_fitMany) 6 = .ok (.iload_n 1, 1) := by decide +kernel
theorem dX9_fitMany_7 : decode (dc DX9_fitMany) 7 = .ok (.iconst 3, 1) := by decide +kernel
theorem dX9_fitMany_8 : decode (dc DX9_fitMany) 8 = .ok (.if_icmp .gt 7, 3) := by decide +kernel
theorem dX9_fitMany_11 : decode (dc DX9_fitMany) 11 = .ok (.iconst 1, 1) := by decide +kernel
theorem dX9_fitMany_12 : decode (dc DX9_fitMany) 12 = .ok (.goto 4, 3) := by decide +kernel
theorem dX9_fitMany_15 : decode (dc DX9_fitMany) 15 = .ok (.iconst 0, 1) := by decide +kernel
theorem dX9_fitMany_16 : decode (dc DX9_fitMany) 16 = .ok (.invokevirtual 90, 3) := by decide +kernel
theorem dX9_fitMany_19 : decode (dc DX9_fitMany) 19 = .ok (.aload_n 0, 1) := by decide +kernel
theorem dX9_fitMany_20 : decode (dc DX9_fitMany) 20 = .ok (.invokevirtual 201, 3) := by decide +kernel
theorem dX9_fitMany_23 : decode (dc DX9_fitMany) 23 = .ok (.pop, 1) := by decide +kernel
theorem dX9_fitMany_24 : decode (dc DX9_fitMany) 24 = .ok (.aload_n 0, 1) := by decide +kernel
theorem dX9_fitMany_25 : decode (dc DX9_fitMany) 25 = .ok (.getfield 43, 3) := by decide +kernel
theorem dX9_fitMany_28 : decode (dc DX9_fitMany) 28 = .ok (.aload_n 0, 1) := by decide +kernel
theorem dX9_fitMany_29 : decode (dc DX9_fitMany) 29 = .ok (.getfield 36, 3) := by decide +kernel
theorem dX9_fitMany_32 : decode (dc DX9_fitMany) 32 = .ok (.invokevirtual 204, 3) := by decide +kernel
theorem dX9_fitMany_35 : decode (dc DX9_fitMany) 35 = .ok (.aload_n 0, 1) := by decide +kernel
theorem dX9_fitMany_36 : decode (dc DX9_fitMany) 36 = .ok (.getfield 43, 3) := by decide +kernel
theorem dX9_fitMany_39 : decode (dc DX9_fitMany) 39 = .ok (.aload_n 0, 1) := by decide +kernel
theorem dX9_fitMany_40 : decode (dc DX9_fitMany) 40 = .ok (.getfield 36, 3) := by decide +kernel
theorem dX9_fitMany_43 : decode (dc DX9_fitMany) 43 = .ok (.invokevirtual 220, 3) := by decide +kernel
theorem dX9_fitMany_46 : decode (dc DX9_fitMany) 46 = .ok (.iconst 0, 1) := by decide +kernel
theorem dX9_fitMany_47 : decode (dc DX9_fitMany) 47 = .ok (.istore_n 2, 1) := by decide +kernel
theorem dX9_fitMany_48 : decode (dc DX9_fitMany) 48 = .ok (.iconst 0, 1) := by decide +kernel
theorem dX9_fitMany_49 : decode (dc DX9_fitMany) 49 = .ok (.istore_n 3, 1) := by decide +kernel
theorem dX9_fitMany_50 : decode (dc DX9_fitMany) 50 = .ok (.iload_n 3, 1) := by decide +kernel
theorem dX9_fitMany_51 : decode (dc DX9_fitMany) 51 = .ok (.aload_n 0, 1) := by decide +kernel
theorem dX9_fitMany_52 : decode (dc DX9_fitMany) 52 = .ok (.getfield 12, 3) := by decide +kernel
theorem dX9_fitMany_55 : decode (dc DX9_fitMany) 55 = .ok (.getfield 119, 3) := by decide +kernel
theorem dX9_fitMany_58 : decode (dc DX9_fitMany) 58 = .ok (.if_icmp .ge 44, 3) := by decide +kernel
theorem dX9_fitMany_61 : decode (dc DX9_fitMany) 61 = .ok (.iconst 0, 1) := by decide +kernel
theorem dX9_fitMany_62 : decode (dc DX9_fitMany) 62 = .ok (.istore 4, 2) := by decide +kernel
theorem dX9_fitMany_64 : decode (dc DX9_fitMany) 64 = .ok (.iload 4, 2) := by decide +kernel
theorem dX9_fitMany_66 : decode (dc DX9_fitMany) 66 = .ok (.aload_n 0, 1) := by decide +kernel
theorem dX9_fitMany_67 : decode (dc DX9_fitMany) 67 = .ok (.getfield 12, 3) := by decide +kernel
theorem dX9_fitMany_70 : decode (dc DX9_fitMany) 70 = .ok (.getfield 122, 3) := by decide +kernel
theorem dX9_fitMany_73 : decode (dc DX9_fitMany) 73 = .ok (.if_icmp .ge 23, 3) := by decide +kernel
theorem dX9_fitMany_76 : decode (dc DX9_fitMany) 76 = .ok (.aload_n 0, 1) := by decide +kernel
theorem dX9_fitMany_77 : decode (dc DX9_fitMany) 77 = .ok (.iload_n 3, 1) := by decide +kernel
theorem dX9_fitMany_78 : decode (dc DX9_fitMany) 78 = .ok (.iload 4, 2) := by decide +kernel
theorem dX9_fitMany_80 : decode (dc DX9_fitMany) 80 = .ok (.invokevirtual 223, 3) := by decide +kernel
theorem dX9_fitMany_83 : decode (dc DX9_fitMany) 83 = .ok (.iload_n 1, 1) := by decide +kernel
theorem dX9_fitMany_84 : decode (dc DX9_fitMany) 84 = .ok (.if_icmp .ne 6, 3) := by decide +kernel
theorem dX9_fitMany_87 : decode (dc DX9_fitMany) 87 = .ok (.iinc 2 1, 3) := by decide +kernel
theorem dX9_fitMany_90 : decode (dc DX9_fitMany) 90 = .ok (.iinc 4 1, 3) := by decide +kernel
theorem dX9_fitMany_93 : decode (dc DX9_fitMany) 93 = .ok (.goto (-29), 3) := by decide +kernel
theorem dX9_fitMany_96 : decode (dc DX9_fitMany) 96 = .ok (.iinc 3 1, 3) := by decide +kernel
theorem dX9_fitMany_99 : decode (dc DX9_fitMany) 99 = .ok (.goto (-49), 3) := by decide +kernel
theorem dX9_fitMany_102 : decode (dc DX9_fitMany) 102 = .ok (.iload_n 2, 1) := by decide +kernel
theorem dX9_fitMany_103 : decode (dc DX9_fitMany) 103 = .ok (.ireturn, 1) := by decide +kernel
theorem dX9_lack_0 : decode (dc DX9_lack) 0 = .ok (.aload_n 0, 1) := by decide +kernel
theorem dX9_lack_1 : decode (dc DX9_lack) 1 = .ok (.iload_n 1, 1) := by decide +kernel
theorem dX9_lack_2 : decode (dc DX9_lack) 2 = .ok (.ifCond .lt 20, 3) := by decide +kernel
theorem dX9_lack_5 : decode (dc DX9_lack) 5 = .ok (.iload_n 1, 1) := by decide +kernel
theorem dX9_lack_6 : decode (dc DX9_lack) 6 = .ok (.iconst 1, 1) := by decide +kernel
theorem dX9_lack_7 : decode (dc DX9_lack) 7 = .ok (.aload_n 0, 1) := by decide +kernel
theorem dX9_lack_8 : decode (dc DX9_lack) 8 = .ok (.getfield 12, 3) := by decide +kernel
theorem dX9_lack_11 : decode (dc DX9_lack) 11 = .ok (.getfield 119, 3) := by decide +kernel
theorem dX9_lack_14 : decode (dc DX9_lack) 14 = .ok (.ishl, 1) := by decide +kernel
theorem dX9_lack_15 : decode (dc DX9_lack) 15 = .ok (.if_icmp .ge 7, 3) := by decide +kernel
theorem dX9_lack_18 : decode (dc DX9_lack) 18 = .ok (.iconst 1, 1) := by decide +kernel
theorem dX9_lack_19 : decode (dc DX9_lack) 19 = .ok (.goto 4, 3) := by decide +kernel
theorem dX9_lack_22 : decode (dc DX9_lack) 22 = .ok (.iconst 0, 1) := by decide +kernel
theorem dX9_lack_23 : decode (dc DX9_lack) 23 = .ok (.invokevirtual 90, 3) := by decide +kernel
theorem dX9_lack_26 : decode (dc DX9_lack) 26 = .ok (.iload_n 1, 1) := by decide +kernel
theorem dX9_lack_27 : decode (dc DX9_lack) 27 = .ok (.aload_n 0, 1) := by decide +kernel
theorem dX9_lack_28 : decode (dc DX9_lack) 28 = .ok (.getfield 12, 3) := by decide +kernel
theorem dX9_lack_31 : decode (dc DX9_lack) 31 = .ok (.getfield 131, 3) := by decide +kernel
theorem dX9_lack_34 : decode (dc DX9_lack) 34 = .ok (.iand, 1) := by decide +kernel
theorem dX9_lack_35 : decode (dc DX9_lack) 35 = .ok (.istore_n 2, 1) := by decide +kernel
theorem dX9_lack_36 : decode (dc DX9_lack) 36 = .ok (.iconst 0, 1) := by decide +kernel
theorem dX9_lack_37 : decode (dc DX9_lack) 37 = .ok (.istore_n 3, 1) := by decide +kernel
theorem dX9_lack_38 : decode (dc DX9_lack) 38 = .ok (.iconst 0, 1) := by decide +kernel
theorem dX9_lack_39 : decode (dc DX9_lack) 39 = .ok (.istore 4, 2) := by decide +kernel
theorem dX9_lack_41 : decode (dc DX9_lack) 41 = .ok (.iload 4, 2) := by decide +kernel
theorem dX9_lack_43 : decode (dc DX9_lack) 43 = .ok (.aload_n 0, 1) := by decide +kernel
theorem dX9_lack_44 : decode (dc DX9_lack) 44 = .ok (.getfield 12, 3) := by decide +kernel
theorem dX9_lack_47 : decode (dc DX9_lack) 47 = .ok (.getfield 119, 3) := by decide +kernel
theorem dX9_lack_50 : decode (dc DX9_lack) 50 = .ok (.if_icmp .ge 38, 3) := by decide +kernel
theorem dX9_lack_53 : decode (dc DX9_lack) 53 = .ok (.iload_n 2, 1) := by decide +kernel
theorem dX9_lack_54 : decode (dc DX9_lack) 54 = .ok (.iload 4, 2) := by decide +kernel
theorem dX9_lack_56 : decode (dc DX9_lack) 56 = .ok (.invokestatic 226, 3) := by decide +kernel
theorem dX9_lack_59 : decode (dc DX9_lack) 59 = .ok (.ifCond .eq 23, 3) := by decide +kernel
theorem dX9_lack_62 : decode (dc DX9_lack) 62 = .ok (.iload_n 3, 1) := by decide +kernel
theorem dX9_lack_63 : decode (dc DX9_lack) 63 = .ok (.aload_n 0, 1) := by decide +kernel
theorem dX9_lack_64 : decode (dc DX9_lack) 64 = .ok (.getfield 12, 3) := by decide +kernel
theorem dX9_lack_67 : decode (dc DX9_lack) 67 = .ok (.iload 4, 2) := by decide +kernel
theorem dX9_lack_69 : decode (dc DX9_lack) 69 = .ok (.invokevirtual 163, 3) := by decide +kernel
theorem dX9_lack_72 : decode (dc DX9_lack) 72 = .ok (.aload_n 0, 1) := by decide +kernel
theorem dX9_lack_73 : decode (dc DX9_lack) 73 = .ok (.getfield 12, 3) := by decide +kernel
theorem dX9_lack_76 : decode (dc DX9_lack) 76 = .ok (.getfield 134, 3) := by decide +kernel
theorem dX9_lack_79 : decode (dc DX9_lack) 79 = .ok (.iand, 1) := by decide +kernel
theorem dX9_lack_80 : decode (dc DX9_lack) 80 = .ok (.ior, 1) := by decide +kernel
theorem dX9_lack_81 : decode (dc DX9_lack) 81 = .ok (.istore_n 3, 1) := by decide +kernel
theorem dX9_lack_82 : decode (dc DX9_lack) 82 = .ok (.iinc 4 1, 3) := by decide +kernel
theorem dX9_lack_85 : decode (dc DX9_lack) 85 = .ok (.goto (-44), 3) := by decide +kernel
theorem dX9_lack_88 : decode (dc DX9_lack) 88 = .ok (.iload_n 2, 1) := by decide +kernel
theorem dX9_lack_89 : decode (dc DX9_lack) 89 = .ok (.invokestatic 229, 3) := by decide +kernel
theorem dX9_lack_92 : decode (dc DX9_lack) 92 = .ok (.iload_n 3, 1) := by decide +kernel
theorem dX9_lack_93 : decode (dc DX9_lack) 93 = .ok (.invokestatic 229, 3) := by decide +kernel
theorem dX9_lack_96 : decode (dc DX9_lack) 96 = .ok (.isub, 1) := by decide +kernel
theorem dX9_lack_97 : decode (dc DX9_lack) 97 = .ok (.ireturn, 1) := by decide +kernel
theorem dX9_hall_0 : decode (dc DX9_hall) 0 = .ok (.aload_n 0, 1) := by decide +kernel
theorem dX9_hall_1 : decode (dc DX9_hall) 1 = .ok (.iload_n 1, 1) := by decide +kernel
theorem dX9_hall_2 : decode (dc DX9_hall) 2 = .ok (.ifCond .eq 8, 3) := by decide +kernel
theorem dX9_hall_5 : decode (dc DX9_hall) 5 = .ok (.iload_n 1, 1) := by decide +kernel
theorem dX9_hall_6 : decode (dc DX9_hall) 6 = .ok (.iconst 1, 1) := by decide +kernel
theorem dX9_hall_7 : decode (dc DX9_hall) 7 = .ok (.if_icmp .ne 7, 3) := by decide +kernel
theorem dX9_hall_10 : decode (dc DX9_hall) 10 = .ok (.iconst 1, 1) := by decide +kernel
theorem dX9_hall_11 : decode (dc DX9_hall) 11 = .ok (.goto 4, 3) := by decide +kernel
theorem dX9_hall_14 : decode (dc DX9_hall) 14 = .ok (.iconst 0, 1) := by decide +kernel
theorem dX9_hall_15 : decode (dc DX9_hall) 15 = .ok (.invokevirtual 90, 3) := by decide +kernel
theorem dX9_hall_18 : decode (dc DX9_hall) 18 = .ok (.aload_n 0, 1) := by decide +kernel
theorem dX9_hall_19 : decode (dc DX9_hall) 19 = .ok (.invokevirtual 201, 3) := by decide +kernel
theorem dX9_hall_22 : decode (dc DX9_hall) 22 = .ok (.istore_n 2, 1) := by decide +kernel
theorem dX9_hall_23 : decode (dc DX9_hall) 23 = .ok (.iload_n 1, 1) := by decide +kernel
theorem dX9_hall_24 : decode (dc DX9_hall) 24 = .ok (.ifCond .ne 16, 3) := by decide +kernel
theorem dX9_hall_27 : decode (dc DX9_hall) 27 = .ok (.aload_n 0, 1) := by decide +kernel
theorem dX9_hall_28 : decode (dc DX9_hall) 28 = .ok (.getfield 12, 3) := by decide +kernel
theorem dX9_hall_31 : decode (dc DX9_hall) 31 = .ok (.getfield 131, 3) := by decide +kernel
theorem dX9_hall_34 : decode (dc DX9_hall) 34 = .ok (.invokestatic 229, 3) := by decide +kernel
theorem dX9_hall_37 : decode (dc DX9_hall) 37 = .ok (.iload_n 2, 1) := by decide +kernel
theorem dX9_hall_38 : decode (dc DX9_hall) 38 = .ok (.isub, 1) := by decide +kernel
theorem dX9_hall_39 : decode (dc DX9_hall) 39 = .ok (.ireturn, 1) := by decide +kernel
theorem dX9_hall_40 : decode (dc DX9_hall) 40 = .ok (.aload_n 0, 1) := by decide +kernel
theorem dX9_hall_41 : decode (dc DX9_hall) 41 = .ok (.getfield 43, 3) := by decide +kernel
theorem dX9_hall_44 : decode (dc DX9_hall) 44 = .ok (.aload_n 0, 1) := by decide +kernel
theorem dX9_hall_45 : decode (dc DX9_hall) 45 = .ok (.getfield 36, 3) := by decide +kernel
theorem dX9_hall_48 : decode (dc DX9_hall) 48 = .ok (.invokevirtual 204, 3) := by decide +kernel
theorem dX9_hall_51 : decode (dc DX9_hall) 51 = .ok (.aload_n 0, 1) := by decide +kernel
theorem dX9_hall_52 : decode (dc DX9_hall) 52 = .ok (.getfield 43, 3) := by decide +kernel
theorem dX9_hall_55 : decode (dc DX9_hall) 55 = .ok (.getfield 208, 3) := by decide +kernel
theorem dX9_hall_58 : decode (dc DX9_hall) 58 = .ok (.ireturn, 1) := by decide +kernel
theorem dX9_runTally_0 : decode (dc DX9_runTally) 0 = .ok (.aload_n 0, 1) := by decide +kernel
theorem dX9_runTally_1 : decode (dc DX9_runTally) 1 = .ok (.getfield 68, 3) := by decide +kernel
theorem dX9_runTally_4 : decode (dc DX9_runTally) 4 = .ok (.ifCond .ne 29, 3) := by decide +kernel
theorem dX9_runTally_7 : decode (dc DX9_runTally) 7 = .ok (.aload_n 0, 1) := by decide +kernel
theorem dX9_runTally_8 : decode (dc DX9_runTally) 8 = .ok (.invokevirtual 201, 3) := by decide +kernel
theorem dX9_runTally_11 : decode (dc DX9_runTally) 11 = .ok (.istore_n 1, 1) := by decide +kernel
theorem dX9_runTally_12 : decode (dc DX9_runTally) 12 = .ok (.aload_n 0, 1) := by decide +kernel
theorem dX9_runTally_13 : decode (dc DX9_runTally) 13 = .ok (.getfield 57, 3) := by decide +kernel
theorem dX9_runTally_16 : decode (dc DX9_runTally) 16 = .ok (.aload_n 0, 1) := by decide +kernel
theorem dX9_runTally_17 : decode (dc DX9_runTally) 17 = .ok (.getfield 12, 3) := by decide +kernel
theorem dX9_runTally_20 : decode (dc DX9_runTally) 20 = .ok (.aload_n 0, 1) := by decide +kernel
theorem dX9_runTally_21 : decode (dc DX9_runTally) 21 = .ok (.getfield 36, 3) := by decide +kernel
theorem dX9_runTally_24 : decode (dc DX9_runTally) 24 = .ok (.iload_n 1, 1) := by decide +kernel
theorem dX9_runTally_25 : decode (dc DX9_runTally) 25 = .ok (.invokevirtual 358, 3) := by decide +kernel
theorem dX9_runTally_28 : decode (dc DX9_runTally) 28 = .ok (.aload_n 0, 1) := by decide +kernel
theorem dX9_runTally_29 : decode (dc DX9_runTally) 29 = .ok (.iconst 1, 1) := by decide +kernel
theorem dX9_runTally_30 : decode (dc DX9_runTally) 30 = .ok (.putfield 68, 3) := by decide +kernel
theorem dX9_runTally_33 : decode (dc DX9_runTally) 33 = .ok (.return_, 1) := by decide +kernel
theorem dX9_many_0 : decode (dc DX9_many) 0 = .ok (.aload_n 0, 1) := by decide +kernel
theorem dX9_many_1 : decode (dc DX9_many) 1 = .ok (.invokevirtual 234, 3) := by decide +kernel
theorem dX9_many_4 : decode (dc DX9_many) 4 = .ok (.aload_n 0, 1) := by decide +kernel
theorem dX9_many_5 : decode (dc DX9_many) 5 = .ok (.getfield 57, 3) := by decide +kernel
theorem dX9_many_8 : decode (dc DX9_many) 8 = .ok (.getfield 237, 3) := by decide +kernel
theorem dX9_many_11 : decode (dc DX9_many) 11 = .ok (.lreturn, 1) := by decide +kernel
theorem dX9_cheap_0 : decode (dc DX9_cheap) 0 = .ok (.aload_n 0, 1) := by decide +kernel
theorem dX9_cheap_1 : decode (dc DX9_cheap) 1 = .ok (.iload_n 1, 1) := by decide +kernel
theorem dX9_cheap_2 : decode (dc DX9_cheap) 2 = .ok (.ifCond .eq 8, 3) := by decide +kernel
theorem dX9_cheap_5 : decode (dc DX9_cheap) 5 = .ok (.iload_n 1, 1) := by decide +kernel
theorem dX9_cheap_6 : decode (dc DX9_cheap) 6 = .ok (.iconst 1, 1) := by decide +kernel
theorem dX9_cheap_7 : decode (dc DX9_cheap) 7 = .ok (.if_icmp .ne 7, 3) := by decide +kernel
theorem dX9_cheap_10 : decode (dc DX9_cheap) 10 = .ok (.iconst 1, 1) := by decide +kernel
theorem dX9_cheap_11 : decode (dc DX9_cheap) 11 = .ok (.goto 4, 3) := by decide +kernel
theorem dX9_cheap_14 : decode (dc DX9_cheap) 14 = .ok (.iconst 0, 1) := by decide +kernel
theorem dX9_cheap_15 : decode (dc DX9_cheap) 15 = .ok (.invokevirtual 90, 3) := by decide +kernel
theorem dX9_cheap_18 : decode (dc DX9_cheap) 18 = .ok (.aload_n 0, 1) := by decide +kernel
theorem dX9_cheap_19 : decode (dc DX9_cheap) 19 = .ok (.invokevirtual 234, 3) := by decide +kernel
theorem dX9_cheap_22 : decode (dc DX9_cheap) 22 = .ok (.iload_n 1, 1) := by decide +kernel
theorem dX9_cheap_23 : decode (dc DX9_cheap) 23 = .ok (.ifCond .ne 13, 3) := by decide +kernel
theorem dX9_cheap_26 : decode (dc DX9_cheap) 26 = .ok (.aload_n 0, 1) := by decide +kernel
theorem dX9_cheap_27 : decode (dc DX9_cheap) 27 = .ok (.getfield 57, 3) := by decide +kernel
theorem dX9_cheap_30 : decode (dc DX9_cheap) 30 = .ok (.getfield 241, 3) := by decide +kernel
theorem dX9_cheap_33 : decode (dc DX9_cheap) 33 = .ok (.goto 17, 3) := by decide +kernel
theorem dX9_cheap_36 : decode (dc DX9_cheap) 36 = .ok (.ldc2_w 244, 3) := by decide +kernel
theorem dX9_cheap_39 : decode (dc DX9_cheap) 39 = .ok (.aload_n 0, 1) := by decide +kernel
theorem dX9_cheap_40 : decode (dc DX9_cheap) 40 = .ok (.getfield 57, 3) := by decide +kernel
theorem dX9_cheap_43 : decode (dc DX9_cheap) 43 = .ok (.getfield 246, 3) := by decide +kernel
theorem dX9_cheap_46 : decode (dc DX9_cheap) 46 = .ok (.invokestatic 249, 3) := by decide +kernel
theorem dX9_cheap_49 : decode (dc DX9_cheap) 49 = .ok (.l2i, 1) := by decide +kernel
theorem dX9_cheap_50 : decode (dc DX9_cheap) 50 = .ok (.ireturn, 1) := by decide +kernel
theorem dX9_cheapest_0 : decode (dc DX9_cheapest) 0 = .ok (.aload_n 0, 1) := by decide +kernel
theorem dX9_cheapest_1 : decode (dc DX9_cheapest) 1 = .ok (.aload_n 0, 1) := by decide +kernel
theorem dX9_cheapest_2 : decode (dc DX9_cheapest) 2 = .ok (.getfield 12, 3) := by decide +kernel
theorem dX9_cheapest_5 : decode (dc DX9_cheapest) 5 = .ok (.iconst 0, 1) := by decide +kernel
theorem dX9_cheapest_6 : decode (dc DX9_cheapest) 6 = .ok (.iload_n 1, 1) := by decide +kernel
theorem dX9_cheapest_7 : decode (dc DX9_cheapest) 7 = .ok (.invokevirtual 146, 3) := by decide +kernel
theorem dX9_cheapest_10 : decode (dc DX9_cheapest) 10 = .ok (.invokevirtual 150, 3) := by decide +kernel
theorem dX9_cheapest_13 : decode (dc DX9_cheapest) 13 = .ok (.aload_n 0, 1) := by decide +kernel
theorem dX9_cheapest_14 : decode (dc DX9_cheapest) 14 = .ok (.invokevirtual 234, 3) := by decide +kernel
theorem dX9_cheapest_17 : decode (dc DX9_cheapest) 17 = .ok (.aload_n 0, 1) := by decide +kernel
theorem dX9_cheapest_18 : decode (dc DX9_cheapest) 18 = .ok (.getfield 57, 3) := by decide +kernel
theorem dX9_cheapest_21 : decode (dc DX9_cheapest) 21 = .ok (.iload_n 1, 1) := by decide +kernel
theorem dX9_cheapest_22 : decode (dc DX9_cheapest) 22 = .ok (.invokevirtual 255, 3) := by decide +kernel
theorem dX9_cheapest_25 : decode (dc DX9_cheapest) 25 = .ok (.ireturn, 1) := by decide +kernel
theorem dX9_narrow_0 : decode (dc DX9_narrow) 0 = .ok (.aload_n 0, 1) := by decide +kernel
theorem dX9_narrow_1 : decode (dc DX9_narrow) 1 = .ok (.invokevirtual 201, 3) := by decide +kernel
theorem dX9_narrow_4 : decode (dc DX9_narrow) 4 = .ok (.istore_n 1, 1) := by decide +kernel
theorem dX9_narrow_5 : decode (dc DX9_narrow) 5 = .ok (.iload_n 1, 1) := by decide +kernel
theorem dX9_narrow_6 : decode (dc DX9_narrow) 6 = .ok (.ifCond .ne 5, 3) := by decide +kernel
theorem dX9_narrow_9 : decode (dc DX9_narrow) 9 = .ok (.iconst (-1), 1) := by decide +kernel
theorem dX9_narrow_10 : decode (dc DX9_narrow) 10 = .ok (.ireturn, 1) := by decide +kernel
theorem dX9_narrow_11 : decode (dc DX9_narrow) 11 = .ok (.aload_n 0, 1) := by decide +kernel
theorem dX9_narrow_12 : decode (dc DX9_narrow) 12 = .ok (.getfield 36, 3) := by decide +kernel
theorem dX9_narrow_15 : decode (dc DX9_narrow) 15 = .ok (.invokevirtual 256, 3) := by decide +kernel
theorem dX9_narrow_18 : decode (dc DX9_narrow) 18 = .ok (.iconst 0, 1) := by decide +kernel
theorem dX9_narrow_19 : decode (dc DX9_narrow) 19 = .ok (.istore_n 2, 1) := by decide +kernel
theorem dX9_narrow_20 : decode (dc DX9_narrow) 20 = .ok (.iload_n 2, 1) := by decide +kernel
theorem dX9_narrow_21 : decode (dc DX9_narrow) 21 = .ok (.bipush 99, 2) := by decide +kernel
theorem dX9_narrow_23 : decode (dc DX9_narrow) 23 = .ok (.if_icmp .gt 50, 3) := by decide +kernel
theorem dX9_narrow_26 : decode (dc DX9_narrow) 26 = .ok (.aload_n 0, 1) := by decide +kernel
theorem dX9_narrow_27 : decode (dc DX9_narrow) 27 = .ok (.getfield 36, 3) := by decide +kernel
theorem dX9_narrow_30 : decode (dc DX9_narrow) 30 = .ok (.aload_n 0, 1) := by decide +kernel
theorem dX9_narrow_31 : decode (dc DX9_narrow) 31 = .ok (.getfield 12, 3) := by decide +kernel
theorem dX9_narrow_34 : decode (dc DX9_narrow) 34 = .ok (.iload_n 2, 1) := by decide +kernel
theorem dX9_narrow_35 : decode (dc DX9_narrow) 35 = .ok (.invokevirtual 259, 3) := by decide +kernel
theorem dX9_narrow_38 : decode (dc DX9_narrow) 38 = .ok (.ifCond .eq 13, 3) := by decide +kernel
theorem dX9_narrow_41 : decode (dc DX9_narrow) 41 = .ok (.aload_n 0, 1) := by decide +kernel
theorem dX9_narrow_42 : decode (dc DX9_narrow) 42 = .ok (.getfield 36, 3) := by decide +kernel
theorem dX9_narrow_45 : decode (dc DX9_narrow) 45 = .ok (.bipush 12, 2) := by decide +kernel
theorem dX9_narrow_47 : decode (dc DX9_narrow) 47 = .ok (.invokevirtual 217, 3) := by decide +kernel
theorem dX9_narrow_50 : decode (dc DX9_narrow) 50 = .ok (.pop, 1) := by decide +kernel
theorem dX9_narrow_51 : decode (dc DX9_narrow) 51 = .ok (.aload_n 0, 1) := by decide +kernel
theorem dX9_narrow_52 : decode (dc DX9_narrow) 52 = .ok (.getfield 36, 3) := by decide +kernel
theorem dX9_narrow_55 : decode (dc DX9_narrow) 55 = .ok (.getfield 197, 3) := by decide +kernel
theorem dX9_narrow_58 : decode (dc DX9_narrow) 58 = .ok (.invokevirtual 110, 3) := by decide +kernel
theorem dX9_narrow_61 : decode (dc DX9_narrow) 61 = .ok (.iload_n 1, 1) := by decide +kernel
theorem dX9_narrow_62 : decode (dc DX9_narrow) 62 = .ok (.if_icmp .lt 5, 3) := by decide +kernel
theorem dX9_narrow_65 : decode (dc DX9_narrow) 65 = .ok (.iload_n 2, 1) := by decide +kernel
theorem dX9_narrow_66 : decode (dc DX9_narrow) 66 = .ok (.ireturn, 1) := by decide +kernel
theorem dX9_narrow_67 : decode (dc DX9_narrow) 67 = .ok (.iinc 2 1, 3) := by decide +kernel
theorem dX9_narrow_70 : decode (dc DX9_narrow) 70 = .ok (.goto (-50), 3) := by decide +kernel
theorem dX9_narrow_73 : decode (dc DX9_narrow) 73 = .ok (.iconst (-1), 1) := by decide +kernel
theorem dX9_narrow_74 : decode (dc DX9_narrow) 74 = .ok (.ireturn, 1) := by decide +kernel
theorem dX9_wouldGrow_0 : decode (dc DX9_wouldGrow) 0 = .ok (.aload_n 0, 1) := by decide +kernel
theorem dX9_wouldGrow_1 : decode (dc DX9_wouldGrow) 1 = .ok (.getfield 12, 3) := by decide +kernel
theorem dX9_wouldGrow_4 : decode (dc DX9_wouldGrow) 4 = .ok (.iload_n 1, 1) := by decide +kernel
theorem dX9_wouldGrow_5 : decode (dc DX9_wouldGrow) 5 = .ok (.iload_n 2, 1) := by decide +kernel
theorem dX9_wouldGrow_6 : decode (dc DX9_wouldGrow) 6 = .ok (.invokevirtual 303, 3) := by decide +kernel
theorem dX9_wouldGrow_9 : decode (dc DX9_wouldGrow) 9 = .ok (.ifCond .ne 35, 3) := by decide +kernel
theorem dX9_wouldGrow_12 : decode (dc DX9_wouldGrow) 12 = .ok (.aload_n 0, 1) := by decide +kernel
theorem dX9_wouldGrow_13 : decode (dc DX9_wouldGrow) 13 = .ok (.getfield 43, 3) := by decide +kernel
theorem dX9_wouldGrow_16 : decode (dc DX9_wouldGrow) 16 = .ok (.getfield 208, 3) := by decide +kernel
theorem dX9_wouldGrow_19 : decode (dc DX9_wouldGrow) 19 = .ok (.iload_n 1, 1) := by decide +kernel
theorem dX9_wouldGrow_20 : decode (dc DX9_wouldGrow) 20 = .ok (.invokestatic 226, 3) := by decide +kernel
theorem dX9_wouldGrow_23 : decode (dc DX9_wouldGrow) 23 = .ok (.ifCond .eq 21, 3) := by decide +kernel
theorem dX9_wouldGrow_26 : decode (dc DX9_wouldGrow) 26 = .ok (.aload_n 0, 1) := by decide +kernel
theorem dX9_wouldGrow_27 : decode (dc DX9_wouldGrow) 27 = .ok (.getfield 43, 3) := by decide +kernel
theorem dX9_wouldGrow_30 : decode (dc DX9_wouldGrow) 30 = .ok (.getfield 364, 3) := by decide +kernel
theorem dX9_wouldGrow_33 : decode (dc DX9_wouldGrow) 33 = .ok (.iload_n 2, 1) := by decide +kernel
theorem dX9_wouldGrow_34 : decode (dc DX9_wouldGrow) 34 = .ok (.invokestatic 226, 3) := by decide +kernel
theorem dX9_wouldGrow_37 : decode (dc DX9_wouldGrow) 37 = .ok (.ifCond .eq 7, 3) := by decide +kernel
theorem dX9_wouldGrow_40 : decode (dc DX9_wouldGrow) 40 = .ok (.iconst 1, 1) := by decide +kernel
theorem dX9_wouldGrow_41 : decode (dc DX9_wouldGrow) 41 = .ok (.goto 4, 3) := by decide +kernel
theorem dX9_wouldGrow_44 : decode (dc DX9_wouldGrow) 44 = .ok (.iconst 0, 1) := by decide +kernel
theorem dX9_wouldGrow_45 : decode (dc DX9_wouldGrow) 45 = .ok (.ireturn, 1) := by decide +kernel
theorem dX9_more_0 : decode (dc DX9_more) 0 = .ok (.aload_n 0, 1) := by decide +kernel
theorem dX9_more_1 : decode (dc DX9_more) 1 = .ok (.iload_n 1, 1) := by decide +kernel
theorem dX9_more_2 : decode (dc DX9_more) 2 = .ok (.ifCond .eq 8, 3) := by decide +kernel
theorem dX9_more_5 : decode (dc DX9_more) 5 = .ok (.iload_n 1, 1) := by decide +kernel
theorem dX9_more_6 : decode (dc DX9_more) 6 = .ok (.iconst 1, 1) := by decide +kernel
theorem dX9_more_7 : decode (dc DX9_more) 7 = .ok (.if_icmp .ne 7, 3) := by decide +kernel
theorem dX9_more_10 : decode (dc DX9_more) 10 = .ok (.iconst 1, 1) := by decide +kernel
theorem dX9_more_11 : decode (dc DX9_more) 11 = .ok (.goto 4, 3) := by decide +kernel
theorem dX9_more_14 : decode (dc DX9_more) 14 = .ok (.iconst 0, 1) := by decide +kernel
theorem dX9_more_15 : decode (dc DX9_more) 15 = .ok (.invokevirtual 90, 3) := by decide +kernel
theorem dX9_more_18 : decode (dc DX9_more) 18 = .ok (.aload_n 0, 1) := by decide +kernel
theorem dX9_more_19 : decode (dc DX9_more) 19 = .ok (.invokevirtual 201, 3) := by decide +kernel
theorem dX9_more_22 : decode (dc DX9_more) 22 = .ok (.pop, 1) := by decide +kernel
theorem dX9_more_23 : decode (dc DX9_more) 23 = .ok (.aload_n 0, 1) := by decide +kernel
theorem dX9_more_24 : decode (dc DX9_more) 24 = .ok (.getfield 43, 3) := by decide +kernel
theorem dX9_more_27 : decode (dc DX9_more) 27 = .ok (.aload_n 0, 1) := by decide +kernel
theorem dX9_more_28 : decode (dc DX9_more) 28 = .ok (.getfield 36, 3) := by decide +kernel
theorem dX9_more_31 : decode (dc DX9_more) 31 = .ok (.invokevirtual 204, 3) := by decide +kernel
theorem dX9_more_34 : decode (dc DX9_more) 34 = .ok (.iconst 0, 1) := by decide +kernel
theorem dX9_more_35 : decode (dc DX9_more) 35 = .ok (.istore_n 2, 1) := by decide +kernel
theorem dX9_more_36 : decode (dc DX9_more) 36 = .ok (.iconst (-1), 1) := by decide +kernel
theorem dX9_more_37 : decode (dc DX9_more) 37 = .ok (.istore_n 3, 1) := by decide +kernel
theorem dX9_more_38 : decode (dc DX9_more) 38 = .ok (.iconst 0, 1) := by decide +kernel
theorem dX9_more_39 : decode (dc DX9_more) 39 = .ok (.istore 4, 2) := by decide +kernel
theorem dX9_more_41 : decode (dc DX9_more) 41 = .ok (.iload 4, 2) := by decide +kernel
theorem dX9_more_43 : decode (dc DX9_more) 43 = .ok (.aload_n 0, 1) := by decide +kernel
theorem dX9_more_44 : decode (dc DX9_more) 44 = .ok (.getfield 12, 3) := by decide +kernel
theorem dX9_more_47 : decode (dc DX9_more) 47 = .ok (.getfield 119, 3) := by decide +kernel
theorem dX9_more_50 : decode (dc DX9_more) 50 = .ok (.if_icmp .ge 62, 3) := by decide +kernel
theorem dX9_more_53 : decode (dc DX9_more) 53 = .ok (.iconst 0, 1) := by decide +kernel
theorem dX9_more_54 : decode (dc DX9_more) 54 = .ok (.istore 5, 2) := by decide +kernel
theorem dX9_more_56 : decode (dc DX9_more) 56 = .ok (.iload 5, 2) := by decide +kernel
theorem dX9_more_58 : decode (dc DX9_more) 58 = .ok (.aload_n 0, 1) := by decide +kernel
theorem dX9_more_59 : decode (dc DX9_more) 59 = .ok (.getfield 12, 3) := by decide +kernel
theorem dX9_more_62 : decode (dc DX9_more) 62 = .ok (.getfield 122, 3) := by decide +kernel
theorem dX9_more_65 : decode (dc DX9_more) 65 = .ok (.if_icmp .ge 41, 3) := by decide +kernel
theorem dX9_more_68 : decode (dc DX9_more) 68 = .ok (.aload_n 0, 1) := by decide +kernel
theorem dX9_more_69 : decode (dc DX9_more) 69 = .ok (.iload 4, 2) := by decide +kernel
theorem dX9_more_71 : decode (dc DX9_more) 71 = .ok (.iload 5, 2) := by decide +kernel
theorem dX9_more_73 : decode (dc DX9_more) 73 = .ok (.invokevirtual 263, 3) := by decide +kernel
theorem dX9_more_76 : decode (dc DX9_more) 76 = .ok (.ifCond .eq 24, 3) := by decide +kernel
theorem dX9_more_79 : decode (dc DX9_more) 79 = .ok (.iinc 2 1, 3) := by decide +kernel
theorem dX9_more_82 : decode (dc DX9_more) 82 = .ok (.iload_n 3, 1) := by decide +kernel
theorem dX9_more_83 : decode (dc DX9_more) 83 = .ok (.iconst (-1), 1) := by decide +kernel
theorem dX9_more_84 : decode (dc DX9_more) 84 = .ok (.if_icmp .ne 14, 3) := by decide +kernel
theorem dX9_more_87 : decode (dc DX9_more) 87 = .ok (.bipush 100, 2) := by decide +kernel
theorem dX9_more_89 : decode (dc DX9_more) 89 = .ok (.iload 4, 2) := by decide +kernel
theorem dX9_more_91 : decode (dc DX9_more) 91 = .ok (.imul, 1) := by decide +kernel
theorem dX9_more_92 : decode (dc DX9_more) 92 = .ok (.iload 5, 2) := by decide +kernel
theorem dX9_more_94 : decode (dc DX9_more) 94 = .ok (.iadd, 1) := by decide +kernel
theorem dX9_more_95 : decode (dc DX9_more) 95 = .ok (.goto 4, 3) := by decide +kernel
theorem dX9_more_98 : decode (dc DX9_more) 98 = .ok (.iload_n 3, 1) := by decide +kernel
theorem dX9_more_99 : decode (dc DX9_more) 99 = .ok (.istore_n 3, 1) := by decide +kernel
theorem dX9_more_100 : decode (dc DX9_more) 100 = .ok (.iinc 5 1, 3) := by decide +kernel
theorem dX9_more_103 : decode (dc DX9_more) 103 = .ok (.goto (-47), 3) := by decide +kernel
theorem dX9_more_106 : decode (dc DX9_more) 106 = .ok (.iinc 4 1, 3) := by decide +kernel
theorem dX9_more_109 : decode (dc DX9_more) 109 = .ok (.goto (-68), 3) := by decide +kernel
theorem dX9_more_112 : decode (dc DX9_more) 112 = .ok (.iload_n 1, 1) := by decide +kernel
theorem dX9_more_113 : decode (dc DX9_more) 113 = .ok (.ifCond .ne 7, 3) := by decide +kernel
theorem dX9_more_116 : decode (dc DX9_more) 116 = .ok (.iload_n 2, 1) := by decide +kernel
theorem dX9_more_117 : decode (dc DX9_more) 117 = .ok (.goto 4, 3) := by decide +kernel
theorem dX9_more_120 : decode (dc DX9_more) 120 = .ok (.iload_n 3, 1) := by decide +kernel
theorem dX9_more_121 : decode (dc DX9_more) 121 = .ok (.ireturn, 1) := by decide +kernel
theorem dX9_firstAlways_0 : decode (dc DX9_firstAlways) 0 = .ok (.aload_n 0, 1) := by decide +kernel
theorem dX9_firstAlways_1 : decode (dc DX9_firstAlways) 1 = .ok (.getfield 43, 3) := by decide +kernel
theorem dX9_firstAlways_4 : decode (dc DX9_firstAlways) 4 = .ok (.aload_n 0, 1) := by decide +kernel
theorem dX9_firstAlways_5 : decode (dc DX9_firstAlways) 5 = .ok (.getfield 36, 3) := by decide +kernel
theorem dX9_firstAlways_8 : decode (dc DX9_firstAlways) 8 = .ok (.invokevirtual 204, 3) := by decide +kernel
theorem dX9_firstAlways_11 : decode (dc DX9_firstAlways) 11 = .ok (.aload_n 0, 1) := by decide +kernel
theorem dX9_firstAlways_12 : decode (dc DX9_firstAlways) 12 = .ok (.getfield 43, 3) := by decide +kernel
theorem dX9_firstAlways_15 : decode (dc DX9_firstAlways) 15 = .ok (.aload_n 0, 1) := by decide +kernel
theorem dX9_firstAlways_16 : decode (dc DX9_firstAlways) 16 = .ok (.getfield 36, 3) := by decide +kernel
theorem dX9_firstAlways_19 : decode (dc DX9_firstAlways) 19 = .ok (.invokevirtual 220, 3) := by decide +kernel
theorem dX9_firstAlways_22 : decode (dc DX9_firstAlways) 22 = .ok (.iconst 0, 1) := by decide +kernel
theorem dX9_firstAlways_23 : decode (dc DX9_firstAlways) 23 = .ok (.istore_n 1, 1) := by decide +kernel
theorem dX9_firstAlways_24 : decode (dc DX9_firstAlways) 24 = .ok (.iload_n 1, 1) := by decide +kernel
theorem dX9_firstAlways_25 : decode (dc DX9_firstAlways) 25 = .ok (.aload_n 0, 1) := by decide +kernel
theorem dX9_firstAlways_26 : decode (dc DX9_firstAlways) 26 = .ok (.getfield 12, 3) := by decide +kernel
theorem dX9_firstAlways_29 : decode (dc DX9_firstAlways) 29 = .ok (.getfield 119, 3) := by decide +kernel
theorem dX9_firstAlways_32 : decode (dc DX9_firstAlways) 32 = .ok (.if_icmp .ge 50, 3) := by decide +kernel
theorem dX9_firstAlways_35 : decode (dc DX9_firstAlways) 35 = .ok (.aload_n 0, 1) := by decide +kernel
theorem dX9_firstAlways_36 : decode (dc DX9_firstAlways) 36 = .ok (.getfield 36, 3) := by decide +kernel
theorem dX9_firstAlways_39 : decode (dc DX9_firstAlways) 39 = .ok (.getfield 197, 3) := by decide +kernel
theorem dX9_firstAlways_42 : decode (dc DX9_firstAlways) 42 = .ok (.iload_n 1, 1) := by decide +kernel
theorem dX9_firstAlways_43 : decode (dc DX9_firstAlways) 43 = .ok (.invokevirtual 198, 3) := by decide +kernel
theorem dX9_firstAlways_46 : decode (dc DX9_firstAlways) 46 = .ok (.istore_n 2, 1) := by decide +kernel
theorem dX9_firstAlways_47 : decode (dc DX9_firstAlways) 47 = .ok (.iload_n 2, 1) := by decide +kernel
theorem dX9_firstAlways_48 : decode (dc DX9_firstAlways) 48 = .ok (.iconst (-1), 1) := by decide +kernel
theorem dX9_firstAlways_49 : decode (dc DX9_firstAlways) 49 = .ok (.if_icmp .eq 27, 3) := by decide +kernel
theorem dX9_firstAlways_52 : decode (dc DX9_firstAlways) 52 = .ok (.aload_n 0, 1) := by decide +kernel
theorem dX9_firstAlways_53 : decode (dc DX9_firstAlways) 53 = .ok (.getfield 43, 3) := by decide +kernel
theorem dX9_firstAlways_56 : decode (dc DX9_firstAlways) 56 = .ok (.aload_n 0, 1) := by decide +kernel
theorem dX9_firstAlways_57 : decode (dc DX9_firstAlways) 57 = .ok (.getfield 36, 3) := by decide +kernel
theorem dX9_firstAlways_60 : decode (dc DX9_firstAlways) 60 = .ok (.iload_n 1, 1) := by decide +kernel
theorem dX9_firstAlways_61 : decode (dc DX9_firstAlways) 61 = .ok (.iload_n 2, 1) := by decide +kernel
theorem dX9_firstAlways_62 : decode (dc DX9_firstAlways) 62 = .ok (.invokevirtual 370, 3) := by decide +kernel
theorem dX9_firstAlways_65 : decode (dc DX9_firstAlways) 65 = .ok (.iconst 3, 1) := by decide +kernel
theorem dX9_firstAlways_66 : decode (dc DX9_firstAlways) 66 = .ok (.if_icmp .ne 10, 3) := by decide +kernel
theorem dX9_firstAlways_69 : decode (dc DX9_firstAlways) 69 = .ok (.bipush 100, 2) := by decide +kernel
theorem dX9_firstAlways_71 : decode (dc DX9_firstAlways) 71 = .ok (.iload_n 1, 1) := by decide +kernel
theorem dX9_firstAlways_72 : decode (dc DX9_firstAlways) 72 = .ok (.imul, 1) := by decide +kernel
theorem dX9_firstAlways_73 : decode (dc DX9_firstAlways) 73 = .ok (.iload_n 2, 1) := by decide +kernel
theorem dX9_firstAlways_74 : decode (dc DX9_firstAlways) 74 = .ok (.iadd, 1) := by decide +kernel
theorem dX9_firstAlways_75 : decode (dc DX9_firstAlways) 75 = .ok (.ireturn, 1) := by decide +kernel
theorem dX9_firstAlways_76 : decode (dc DX9_firstAlways) 76 = .ok (.iinc 1 1, 3) := by decide +kernel
theorem dX9_firstAlways_79 : decode (dc DX9_firstAlways) 79 = .ok (.goto (-55), 3) := by decide +kernel
theorem dX9_firstAlways_82 : decode (dc DX9_firstAlways) 82 = .ok (.iconst (-1), 1) := by decide +kernel
theorem dX9_firstAlways_83 : decode (dc DX9_firstAlways) 83 = .ok (.ireturn, 1) := by decide +kernel
theorem dX9_firstOfTwo_0 : decode (dc DX9_firstOfTwo) 0 = .ok (.iconst 0, 1) := by decide +kernel
theorem dX9_firstOfTwo_1 : decode (dc DX9_firstOfTwo) 1 = .ok (.istore_n 1, 1) := by decide +kernel
theorem dX9_firstOfTwo_2 : decode (dc DX9_firstOfTwo) 2 = .ok (.iload_n 1, 1) := by decide +kernel
theorem dX9_firstOfTwo_3 : decode (dc DX9_firstOfTwo) 3 = .ok (.aload_n 0, 1) := by decide +kernel
theorem dX9_firstOfTwo_4 : decode (dc DX9_firstOfTwo) 4 = .ok (.getfield 12, 3) := by decide +kernel
theorem dX9_firstOfTwo_7 : decode (dc DX9_firstOfTwo) 7 = .ok (.getfield 119, 3) := by decide +kernel
theorem dX9_firstOfTwo_10 : decode (dc DX9_firstOfTwo) 10 = .ok (.if_icmp .ge 93, 3) := by decide +kernel
theorem dX9_firstOfTwo_13 : decode (dc DX9_firstOfTwo) 13 = .ok (.iconst 0, 1) := by decide +kernel
theorem dX9_firstOfTwo_14 : decode (dc DX9_firstOfTwo) 14 = .ok (.istore_n 2, 1) := by decide +kernel
theorem dX9_firstOfTwo_15 : decode (dc DX9_firstOfTwo) 15 = .ok (.iload_n 2, 1) := by decide +kernel
theorem dX9_firstOfTwo_16 : decode (dc DX9_firstOfTwo) 16 = .ok (.aload_n 0, 1) := by decide +kernel
theorem dX9_firstOfTwo_17 : decode (dc DX9_firstOfTwo) 17 = .ok (.getfield 12, 3) := by decide +kernel
theorem dX9_firstOfTwo_20 : decode (dc DX9_firstOfTwo) 20 = .ok (.getfield 122, 3) := by decide +kernel
theorem dX9_firstOfTwo_23 : decode (dc DX9_firstOfTwo) 23 = .ok (.if_icmp .ge 74, 3) := by decide +kernel
theorem dX9_firstOfTwo_26 : decode (dc DX9_firstOfTwo) 26 = .ok (.aload_n 0, 1) := by decide +kernel
theorem dX9_firstOfTwo_27 : decode (dc DX9_firstOfTwo) 27 = .ok (.getfield 36, 3) := by decide +kernel
theorem dX9_firstOfTwo_30 : decode (dc DX9_firstOfTwo) 30 = .ok (.iload_n 1, 1) := by decide +kernel
theorem dX9_firstOfTwo_31 : decode (dc DX9_firstOfTwo) 31 = .ok (.iload_n 2, 1) := by decide +kernel
theorem dX9_firstOfTwo_32 : decode (dc DX9_firstOfTwo) 32 = .ok (.invokevirtual 367, 3) := by decide +kernel
theorem dX9_firstOfTwo_35 : decode (dc DX9_firstOfTwo) 35 = .ok (.ifCond .eq 56, 3) := by decide +kernel
theorem dX9_firstOfTwo_38 : decode (dc DX9_firstOfTwo) 38 = .ok (.aload_n 0, 1) := by decide +kernel
theorem dX9_firstOfTwo_39 : decode (dc DX9_firstOfTwo) 39 = .ok (.getfield 36, 3) := by decide +kernel
theorem dX9_firstOfTwo_42 : decode (dc DX9_firstOfTwo) 42 = .ok (.iload_n 1, 1) := by decide +kernel
theorem dX9_firstOfTwo_43 : decode (dc DX9_firstOfTwo) 43 = .ok (.iload_n 2, 1) := by decide +kernel
theorem dX9_firstOfTwo_44 : decode (dc DX9_firstOfTwo) 44 = .ok (.invokevirtual 373, 3) := by decide +kernel
theorem dX9_firstOfTwo_47 : decode (dc DX9_firstOfTwo) 47 = .ok (.aload_n 0, 1) := by decide +kernel
theorem dX9_firstOfTwo_48 : decode (dc DX9_firstOfTwo) 48 = .ok (.getfield 36, 3) := by decide +kernel
theorem dX9_firstOfTwo_51 : decode (dc DX9_firstOfTwo) 51 = .ok (.bipush 12, 2) := by decide +kernel
theorem dX9_firstOfTwo_53 : decode (dc DX9_firstOfTwo) 53 = .ok (.invokevirtual 217, 3) := by decide +kernel
theorem dX9_firstOfTwo_56 : decode (dc DX9_firstOfTwo) 56 = .ok (.pop, 1) := by decide +kernel
theorem dX9_firstOfTwo_57 : decode (dc DX9_firstOfTwo) 57 = .ok (.aload_n 0, 1) := by decide +kernel
theorem dX9_firstOfTwo_58 : decode (dc DX9_firstOfTwo) 58 = .ok (.invokevirtual 266, 3) := by decide +kernel
theorem dX9_firstOfTwo_61 : decode (dc DX9_firstOfTwo) 61 = .ok (.iconst (-1), 1) := by decide +kernel
theorem dX9_firstOfTwo_62 : decode (dc DX9_firstOfTwo) 62 = .ok (.if_icmp .eq 7, 3) := by decide +kernel
theorem dX9_firstOfTwo_65 : decode (dc DX9_firstOfTwo) 65 = .ok (.iconst 1, 1) := by decide +kernel
theorem dX9_firstOfTwo_66 : decode (dc DX9_firstOfTwo) 66 = .ok (.goto 4, 3) := by decide +kernel
theorem dX9_firstOfTwo_69 : decode (dc DX9_firstOfTwo) 69 = .ok (.iconst 0, 1) := by decide +kernel
theorem dX9_firstOfTwo_70 : decode (dc DX9_firstOfTwo) 70 = .ok (.istore_n 3, 1) := by decide +kernel
theorem dX9_firstOfTwo_71 : decode (dc DX9_firstOfTwo) 71 = .ok (.aload_n 0, 1) := by decide +kernel
theorem dX9_firstOfTwo_72 : decode (dc DX9_firstOfTwo) 72 = .ok (.getfield 36, 3) := by decide +kernel
theorem dX9_firstOfTwo_75 : decode (dc DX9_firstOfTwo) 75 = .ok (.iload_n 1, 1) := by decide +kernel
theorem dX9_firstOfTwo_76 : decode (dc DX9_firstOfTwo) 76 = .ok (.iload_n 2, 1) := by decide +kernel
theorem dX9_firstOfTwo_77 : decode (dc DX9_firstOfTwo) 77 = .ok (.invokevirtual 376, 3) := by decide +kernel
theorem dX9_firstOfTwo_80 : decode (dc DX9_firstOfTwo) 80 = .ok (.iload_n 3, 1) := by decide +kernel
theorem dX9_firstOfTwo_81 : decode (dc DX9_firstOfTwo) 81 = .ok (.ifCond .eq 10, 3) := by decide +kernel
theorem dX9_firstOfTwo_84 : decode (dc DX9_firstOfTwo) 84 = .ok (.bipush 100, 2) := by decide +kernel
theorem dX9_firstOfTwo_86 : decode (dc DX9_firstOfTwo) 86 = .ok (.iload_n 1, 1) := by decide +kernel
theorem dX9_firstOfTwo_87 : decode (dc DX9_firstOfTwo) 87 = .ok (.imul, 1) := by decide +kernel
theorem dX9_firstOfTwo_88 : decode (dc DX9_firstOfTwo) 88 = .ok (.iload_n 2, 1) := by decide +kernel
theorem dX9_firstOfTwo_89 : decode (dc DX9_firstOfTwo) 89 = .ok (.iadd, 1) := by decide +kernel
theorem dX9_firstOfTwo_90 : decode (dc DX9_firstOfTwo) 90 = .ok (.ireturn, 1) := by decide +kernel
theorem dX9_firstOfTwo_91 : decode (dc DX9_firstOfTwo) 91 = .ok (.iinc 2 1, 3) := by decide +kernel
theorem dX9_firstOfTwo_94 : decode (dc DX9_firstOfTwo) 94 = .ok (.goto (-79), 3) := by decide +kernel
theorem dX9_firstOfTwo_97 : decode (dc DX9_firstOfTwo) 97 = .ok (.iinc 1 1, 3) := by decide +kernel
theorem dX9_firstOfTwo_100 : decode (dc DX9_firstOfTwo) 100 = .ok (.goto (-98), 3) := by decide +kernel
theorem dX9_firstOfTwo_103 : decode (dc DX9_firstOfTwo) 103 = .ok (.iconst (-1), 1) := by decide +kernel
theorem dX9_firstOfTwo_104 : decode (dc DX9_firstOfTwo) 104 = .ok (.ireturn, 1) := by decide +kernel
theorem dX9_fewest_0 : decode (dc DX9_fewest) 0 = .ok (.aload_n 0, 1) := by decide +kernel
theorem dX9_fewest_1 : decode (dc DX9_fewest) 1 = .ok (.iload_n 1, 1) := by decide +kernel
theorem dX9_fewest_2 : decode (dc DX9_fewest) 2 = .ok (.ifCond .eq 8, 3) := by decide +kernel
theorem dX9_fewest_5 : decode (dc DX9_fewest) 5 = .ok (.iload_n 1, 1) := by decide +kernel
theorem dX9_fewest_6 : decode (dc DX9_fewest) 6 = .ok (.iconst 1, 1) := by decide +kernel
theorem dX9_fewest_7 : decode (dc DX9_fewest) 7 = .ok (.if_icmp .ne 7, 3) := by decide +kernel
theorem dX9_fewest_10 : decode (dc DX9_fewest) 10 = .ok (.iconst 1, 1) := by decide +kernel
theorem dX9_fewest_11 : decode (dc DX9_fewest) 11 = .ok (.goto 4, 3) := by decide +kernel
theorem dX9_fewest_14 : decode (dc DX9_fewest) 14 = .ok (.iconst 0, 1) := by decide +kernel
theorem dX9_fewest_15 : decode (dc DX9_fewest) 15 = .ok (.invokevirtual 90, 3) := by decide +kernel
theorem dX9_fewest_18 : decode (dc DX9_fewest) 18 = .ok (.aload_n 0, 1) := by decide +kernel
theorem dX9_fewest_19 : decode (dc DX9_fewest) 19 = .ok (.invokevirtual 201, 3) := by decide +kernel
theorem dX9_fewest_22 : decode (dc DX9_fewest) 22 = .ok (.ifCond .ne 5, 3) := by decide +kernel
theorem dX9_fewest_25 : decode (dc DX9_fewest) 25 = .ok (.iconst (-1), 1) := by decide +kernel
theorem dX9_fewest_26 : decode (dc DX9_fewest) 26 = .ok (.ireturn, 1) := by decide +kernel
theorem dX9_fewest_27 : decode (dc DX9_fewest) 27 = .ok (.aload_n 0, 1) := by decide +kernel
theorem dX9_fewest_28 : decode (dc DX9_fewest) 28 = .ok (.invokevirtual 266, 3) := by decide +kernel
theorem dX9_fewest_31 : decode (dc DX9_fewest) 31 = .ok (.istore_n 2, 1) := by decide +kernel
theorem dX9_fewest_32 : decode (dc DX9_fewest) 32 = .ok (.iload_n 2, 1) := by decide +kernel
theorem dX9_fewest_33 : decode (dc DX9_fewest) 33 = .ok (.iconst (-1), 1) := by decide +kernel
theorem dX9_fewest_34 : decode (dc DX9_fewest) 34 = .ok (.if_icmp .eq 13, 3) := by decide +kernel
theorem dX9_fewest_37 : decode (dc DX9_fewest) 37 = .ok (.iload_n 1, 1) := by decide +kernel
theorem dX9_fewest_38 : decode (dc DX9_fewest) 38 = .ok (.ifCond .ne 7, 3) := by decide +kernel
theorem dX9_fewest_41 : decode (dc DX9_fewest) 41 = .ok (.iconst 1, 1) := by decide +kernel
theorem dX9_fewest_42 : decode (dc DX9_fewest) 42 = .ok (.goto 4, 3) := by decide +kernel
theorem dX9_fewest_45 : decode (dc DX9_fewest) 45 = .ok (.iload_n 2, 1) := by decide +kernel
theorem dX9_fewest_46 : decode (dc DX9_fewest) 46 = .ok (.ireturn, 1) := by decide +kernel
theorem dX9_fewest_47 : decode (dc DX9_fewest) 47 = .ok (.aload_n 0, 1) := by decide +kernel
theorem dX9_fewest_48 : decode (dc DX9_fewest) 48 = .ok (.invokevirtual 269, 3) := by decide +kernel
theorem dX9_fewest_51 : decode (dc DX9_fewest) 51 = .ok (.istore_n 3, 1) := by decide +kernel
theorem dX9_fewest_52 : decode (dc DX9_fewest) 52 = .ok (.iload_n 3, 1) := by decide +kernel
theorem dX9_fewest_53 : decode (dc DX9_fewest) 53 = .ok (.iconst (-1), 1) := by decide +kernel
theorem dX9_fewest_54 : decode (dc DX9_fewest) 54 = .ok (.if_icmp .eq 13, 3) := by decide +kernel
theorem dX9_fewest_57 : decode (dc DX9_fewest) 57 = .ok (.iload_n 1, 1) := by decide +kernel
theorem dX9_fewest_58 : decode (dc DX9_fewest) 58 = .ok (.ifCond .ne 7, 3) := by decide +kernel
theorem dX9_fewest_61 : decode (dc DX9_fewest) 61 = .ok (.iconst 2, 1) := by decide +kernel
theorem dX9_fewest_62 : decode (dc DX9_fewest) 62 = .ok (.goto 4, 3) := by decide +kernel
theorem dX9_fewest_65 : decode (dc DX9_fewest) 65 = .ok (.iload_n 3, 1) := by decide +kernel
theorem dX9_fewest_66 : decode (dc DX9_fewest) 66 = .ok (.ireturn, 1) := by decide +kernel
theorem dX9_fewest_67 : decode (dc DX9_fewest) 67 = .ok (.iconst (-1), 1) := by decide +kernel
theorem dX9_fewest_68 : decode (dc DX9_fewest) 68 = .ok (.ireturn, 1) := by decide +kernel
theorem dX9_chosen_0 : decode (dc DX9_chosen) 0 = .ok (.aload_n 0, 1) := by decide +kernel
theorem dX9_chosen_1 : decode (dc DX9_chosen) 1 = .ok (.iload_n 1, 1) := by decide +kernel
theorem dX9_chosen_2 : decode (dc DX9_chosen) 2 = .ok (.ifCond .eq 8, 3) := by decide +kernel
theorem dX9_chosen_5 : decode (dc DX9_chosen) 5 = .ok (.iload_n 1, 1) := by decide +kernel
theorem dX9_chosen_6 : decode (dc DX9_chosen) 6 = .ok (.iconst 1, 1) := by decide +kernel
theorem dX9_chosen_7 : decode (dc DX9_chosen) 7 = .ok (.if_icmp .ne 7, 3) := by decide +kernel
theorem dX9_chosen_10 : decode (dc DX9_chosen) 10 = .ok (.iconst 1, 1) := by decide +kernel
theorem dX9_chosen_11 : decode (dc DX9_chosen) 11 = .ok (.goto 4, 3) := by decide +kernel
theorem dX9_chosen_14 : decode (dc DX9_chosen) 14 = .ok (.iconst 0, 1) := by decide +kernel
theorem dX9_chosen_15 : decode (dc DX9_chosen) 15 = .ok (.invokevirtual 90, 3) := by decide +kernel
theorem dX9_chosen_18 : decode (dc DX9_chosen) 18 = .ok (.aload_n 0, 1) := by decide +kernel
theorem dX9_chosen_19 : decode (dc DX9_chosen) 19 = .ok (.getfield 36, 3) := by decide +kernel
theorem dX9_chosen_22 : decode (dc DX9_chosen) 22 = .ok (.aload_n 0, 1) := by decide +kernel
theorem dX9_chosen_23 : decode (dc DX9_chosen) 23 = .ok (.getfield 12, 3) := by decide +kernel
theorem dX9_chosen_26 : decode (dc DX9_chosen) 26 = .ok (.invokevirtual 170, 3) := by decide +kernel
theorem dX9_chosen_29 : decode (dc DX9_chosen) 29 = .ok (.aload_n 0, 1) := by decide +kernel
theorem dX9_chosen_30 : decode (dc DX9_chosen) 30 = .ok (.getfield 36, 3) := by decide +kernel
theorem dX9_chosen_33 : decode (dc DX9_chosen) 33 = .ok (.getfield 197, 3) := by decide +kernel
theorem dX9_chosen_36 : decode (dc DX9_chosen) 36 = .ok (.invokevirtual 272, 3) := by decide +kernel
theorem dX9_chosen_39 : decode (dc DX9_chosen) 39 = .ok (.aload_n 0, 1) := by decide +kernel
theorem dX9_chosen_40 : decode (dc DX9_chosen) 40 = .ok (.getfield 12, 3) := by decide +kernel
theorem dX9_chosen_43 : decode (dc DX9_chosen) 43 = .ok (.getfield 131, 3) := by decide +kernel
theorem dX9_chosen_46 : decode (dc DX9_chosen) 46 = .ok (.istore_n 2, 1) := by decide +kernel
theorem dX9_chosen_47 : decode (dc DX9_chosen) 47 = .ok (.iconst 0, 1) := by decide +kernel
theorem dX9_chosen_48 : decode (dc DX9_chosen) 48 = .ok (.istore_n 3, 1) := by decide +kernel
theorem dX9_chosen_49 : decode (dc DX9_chosen) 49 = .ok (.iconst 0, 1) := by decide +kernel
theorem dX9_chosen_50 : decode (dc DX9_chosen) 50 = .ok (.istore 4, 2) := by decide +kernel
theorem dX9_chosen_52 : decode (dc DX9_chosen) 52 = .ok (.iconst 0, 1) := by decide +kernel
theorem dX9_chosen_53 : decode (dc DX9_chosen) 53 = .ok (.istore 5, 2) := by decide +kernel
theorem dX9_chosen_55 : decode (dc DX9_chosen) 55 = .ok (.iload 5, 2) := by decide +kernel
theorem dX9_chosen_57 : decode (dc DX9_chosen) 57 = .ok (.bipush 12, 2) := by decide +kernel
theorem dX9_chosen_59 : decode (dc DX9_chosen) 59 = .ok (.if_icmp .ge 74, 3) := by decide +kernel
theorem dX9_chosen_62 : decode (dc DX9_chosen) 62 = .ok (.iload_n 2, 1) := by decide +kernel
theorem dX9_chosen_63 : decode (dc DX9_chosen) 63 = .ok (.ifCond .eq 70, 3) := by decide +kernel
theorem dX9_chosen_66 : decode (dc DX9_chosen) 66 = .ok (.aload_n 0, 1) := by decide +kernel
theorem dX9_chosen_67 : decode (dc DX9_chosen) 67 = .ok (.getfield 12, 3) := by decide +kernel
theorem dX9_chosen_70 : decode (dc DX9_chosen) 70 = .ok (.iload_n 2, 1) := by decide +kernel
theorem dX9_chosen_71 : decode (dc DX9_chosen) 71 = .ok (.invokevirtual 275, 3) := by decide +kernel
theorem dX9_chosen_74 : decode (dc DX9_chosen) 74 = .ok (.istore 6, 2) := by decide +kernel
theorem dX9_chosen_76 : decode (dc DX9_chosen) 76 = .ok (.iload_n 2, 1) := by decide +kernel
theorem dX9_chosen_77 : decode (dc DX9_chosen) 77 = .ok (.iload 6, 2) := by decide +kernel
theorem dX9_chosen_79 : decode (dc DX9_chosen) 79 = .ok (.invokestatic 278, 3) := by decide +kernel
theorem dX9_chosen_82 : decode (dc DX9_chosen) 82 = .ok (.iconst (-1), 1) := by decide +kernel
theorem dX9_chosen_83 : decode (dc DX9_chosen) 83 = .ok (.ixor, 1) := by decide +kernel
theorem dX9_chosen_84 : decode (dc DX9_chosen) 84 = .ok (.iand, 1) := by decide +kernel
theorem dX9_chosen_85 : decode (dc DX9_chosen) 85 = .ok (.istore_n 2, 1) := by decide +kernel
theorem dX9_chosen_86 : decode (dc DX9_chosen) 86 = .ok (.aload_n 0, 1) := by decide +kernel
theorem dX9_chosen_87 : decode (dc DX9_chosen) 87 = .ok (.getfield 36, 3) := by decide +kernel
theorem dX9_chosen_90 : decode (dc DX9_chosen) 90 = .ok (.iload 6, 2) := by decide +kernel
theorem dX9_chosen_92 : decode (dc DX9_chosen) 92 = .ok (.invokevirtual 179, 3) := by decide +kernel
theorem dX9_chosen_95 : decode (dc DX9_chosen) 95 = .ok (.ifCond .le 32, 3) := by decide +kernel
theorem dX9_chosen_98 : decode (dc DX9_chosen) 98 = .ok (.aload_n 0, 1) := by decide +kernel
theorem dX9_chosen_99 : decode (dc DX9_chosen) 99 = .ok (.getfield 36, 3) := by decide +kernel
theorem dX9_chosen_102 : decode (dc DX9_chosen) 102 = .ok (.invokevirtual 281, 3) := by decide +kernel
theorem dX9_chosen_105 : decode (dc DX9_chosen) 105 = .ok (.iload_n 3, 1) := by decide +kernel
theorem dX9_chosen_106 : decode (dc DX9_chosen) 106 = .ok (.iload 6, 2) := by decide +kernel
theorem dX9_chosen_108 : decode (dc DX9_chosen) 108 = .ok (.invokestatic 278, 3) := by decide +kernel
theorem dX9_chosen_111 : decode (dc DX9_chosen) 111 = .ok (.ior, 1) := by decide +kernel
theorem dX9_chosen_112 : decode (dc DX9_chosen) 112 = .ok (.istore_n 3, 1) := by decide +kernel
theorem dX9_chosen_113 : decode (dc DX9_chosen) 113 = .ok (.iload 4, 2) := by decide +kernel
theorem dX9_chosen_115 : decode (dc DX9_chosen) 115 = .ok (.aload_n 0, 1) := by decide +kernel
theorem dX9_chosen_116 : decode (dc DX9_chosen) 116 = .ok (.getfield 12, 3) := by decide +kernel
theorem dX9_chosen_119 : decode (dc DX9_chosen) 119 = .ok (.iload 6, 2) := by decide +kernel
theorem dX9_chosen_121 : decode (dc DX9_chosen) 121 = .ok (.invokevirtual 284, 3) := by decide +kernel
theorem dX9_chosen_124 : decode (dc DX9_chosen) 124 = .ok (.iadd, 1) := by decide +kernel
theorem dX9_chosen_125 : decode (dc DX9_chosen) 125 = .ok (.istore 4, 2) := by decide +kernel
theorem dX9_chosen_127 : decode (dc DX9_chosen) 127 = .ok (.iinc 5 1, 3) := by decide +kernel
theorem dX9_chosen_130 : decode (dc DX9_chosen) 130 = .ok (.goto (-75), 3) := by decide +kernel
theorem dX9_chosen_133 : decode (dc DX9_chosen) 133 = .ok (.iload_n 1, 1) := by decide +kernel
theorem dX9_chosen_134 : decode (dc DX9_chosen) 134 = .ok (.ifCond .ne 7, 3) := by decide +kernel
theorem dX9_chosen_137 : decode (dc DX9_chosen) 137 = .ok (.iload_n 3, 1) := by decide +kernel
theorem dX9_chosen_138 : decode (dc DX9_chosen) 138 = .ok (.goto 5, 3) := by decide +kernel
theorem dX9_chosen_141 : decode (dc DX9_chosen) 141 = .ok (.iload 4, 2) := by decide +kernel
theorem dX9_chosen_143 : decode (dc DX9_chosen) 143 = .ok (.ireturn, 1) := by decide +kernel
theorem dX9_rounds_0 : decode (dc DX9_rounds) 0 = .ok (.aload_n 0, 1) := by decide +kernel
theorem dX9_rounds_1 : decode (dc DX9_rounds) 1 = .ok (.getfield 64, 3) := by decide +kernel
theorem dX9_rounds_4 : decode (dc DX9_rounds) 4 = .ok (.aload_n 0, 1) := by decide +kernel
theorem dX9_rounds_5 : decode (dc DX9_rounds) 5 = .ok (.getfield 12, 3) := by decide +kernel
theorem dX9_rounds_8 : decode (dc DX9_rounds) 8 = .ok (.invokevirtual 287, 3) := by decide +kernel
theorem dX9_rounds_11 : decode (dc DX9_rounds) 11 = .ok (.aload_n 0, 1) := by decide +kernel
theorem dX9_rounds_12 : decode (dc DX9_rounds) 12 = .ok (.getfield 64, 3) := by decide +kernel
theorem dX9_rounds_15 : decode (dc DX9_rounds) 15 = .ok (.getfield 290, 3) := by decide +kernel
theorem dX9_rounds_18 : decode (dc DX9_rounds) 18 = .ok (.ireturn, 1) := by decide +kernel
theorem dX9_round_0 : decode (dc DX9_round) 0 = .ok (.aload_n 0, 1) := by decide +kernel
theorem dX9_round_1 : decode (dc DX9_round) 1 = .ok (.aload_n 0, 1) := by decide +kernel
theorem dX9_round_2 : decode (dc DX9_round) 2 = .ok (.getfield 12, 3) := by decide +kernel
theorem dX9_round_5 : decode (dc DX9_round) 5 = .ok (.iload_n 1, 1) := by decide +kernel
theorem dX9_round_6 : decode (dc DX9_round) 6 = .ok (.iload_n 2, 1) := by decide +kernel
theorem dX9_round_7 : decode (dc DX9_round) 7 = .ok (.invokevirtual 157, 3) := by decide +kernel
theorem dX9_round_10 : decode (dc DX9_round) 10 = .ok (.invokevirtual 150, 3) := by decide +kernel
theorem dX9_round_13 : decode (dc DX9_round) 13 = .ok (.aload_n 0, 1) := by decide +kernel
theorem dX9_round_14 : decode (dc DX9_round) 14 = .ok (.getfield 64, 3) := by decide +kernel
theorem dX9_round_17 : decode (dc DX9_round) 17 = .ok (.aload_n 0, 1) := by decide +kernel
theorem dX9_round_18 : decode (dc DX9_round) 18 = .ok (.getfield 12, 3) := by decide +kernel
theorem dX9_round_21 : decode (dc DX9_round) 21 = .ok (.invokevirtual 287, 3) := by decide +kernel
theorem dX9_round_24 : decode (dc DX9_round) 24 = .ok (.aload_n 0, 1) := by decide +kernel
theorem dX9_round_25 : decode (dc DX9_round) 25 = .ok (.getfield 64, 3) := by decide +kernel
theorem dX9_round_28 : decode (dc DX9_round) 28 = .ok (.iload_n 1, 1) := by decide +kernel
theorem dX9_round_29 : decode (dc DX9_round) 29 = .ok (.iload_n 2, 1) := by decide +kernel
theorem dX9_round_30 : decode (dc DX9_round) 30 = .ok (.invokevirtual 293, 3) := by decide +kernel
theorem dX9_round_33 : decode (dc DX9_round) 33 = .ok (.ireturn, 1) := by decide +kernel
theorem dX9_beginAct_0 : decode (dc DX9_beginAct) 0 = .ok (.aload_n 0, 1) := by decide +kernel
theorem dX9_beginAct_1 : decode (dc DX9_beginAct) 1 = .ok (.getfield 22, 3) := by decide +kernel
theorem dX9_beginAct_4 : decode (dc DX9_beginAct) 4 = .ok (.aload_n 0, 1) := by decide +kernel
theorem dX9_beginAct_5 : decode (dc DX9_beginAct) 5 = .ok (.getfield 12, 3) := by decide +kernel
theorem dX9_beginAct_8 : decode (dc DX9_beginAct) 8 = .ok (.invokevirtual 352, 3) := by decide +kernel
theorem dX9_beginAct_11 : decode (dc DX9_beginAct) 11 = .ok (.aload_n 0, 1) := by decide +kernel
theorem dX9_beginAct_12 : decode (dc DX9_beginAct) 12 = .ok (.iconst 0, 1) := by decide +kernel
theorem dX9_beginAct_13 : decode (dc DX9_beginAct) 13 = .ok (.putfield 68, 3) := by decide +kernel
theorem dX9_beginAct_16 : decode (dc DX9_beginAct) 16 = .ok (.return_, 1) := by decide +kernel
theorem dX9_add_0 : decode (dc DX9_add) 0 = .ok (.aload_n 0, 1) := by decide +kernel
theorem dX9_add_1 : decode (dc DX9_add) 1 = .ok (.aload_n 0, 1) := by decide +kernel
theorem dX9_add_2 : decode (dc DX9_add) 2 = .ok (.getfield 12, 3) := by decide +kernel
theorem dX9_add_5 : decode (dc DX9_add) 5 = .ok (.iload_n 1, 1) := by decide +kernel
theorem dX9_add_6 : decode (dc DX9_add) 6 = .ok (.iload_n 2, 1) := by decide +kernel
theorem dX9_add_7 : decode (dc DX9_add) 7 = .ok (.invokevirtual 157, 3) := by decide +kernel
theorem dX9_add_10 : decode (dc DX9_add) 10 = .ok (.invokevirtual 150, 3) := by decide +kernel
theorem dX9_add_13 : decode (dc DX9_add) 13 = .ok (.aload_n 0, 1) := by decide +kernel
theorem dX9_add_14 : decode (dc DX9_add) 14 = .ok (.iload_n 3, 1) := by decide +kernel
theorem dX9_add_15 : decode (dc DX9_add) 15 = .ok (.ifCond .lt 13, 3) := by decide +kernel
theorem dX9_add_18 : decode (dc DX9_add) 18 = .ok (.iload_n 3, 1) := by decide +kernel
theorem dX9_add_19 : decode (dc DX9_add) 19 = .ok (.bipush 99, 2) := by decide +kernel
theorem dX9_add_21 : decode (dc DX9_add) 21 = .ok (.if_icmp .gt 7, 3) := by decide +kernel
theorem dX9_add_24 : decode (dc DX9_add) 24 = .ok (.iconst 1, 1) := by decide +kernel
theorem dX9_add_25 : decode (dc DX9_add) 25 = .ok (.goto 4, 3) := by decide +kernel
theorem dX9_add_28 : decode (dc DX9_add) 28 = .ok (.iconst 0, 1) := by decide +kernel
theorem dX9_add_29 : decode (dc DX9_add) 29 = .ok (.invokevirtual 90, 3) := by decide +kernel
theorem dX9_add_32 : decode (dc DX9_add) 32 = .ok (.aload_n 0, 1) := by decide +kernel
theorem dX9_add_33 : decode (dc DX9_add) 33 = .ok (.invokevirtual 296, 3) := by decide +kernel
theorem dX9_add_36 : decode (dc DX9_add) 36 = .ok (.aload_n 0, 1) := by decide +kernel
theorem dX9_add_37 : decode (dc DX9_add) 37 = .ok (.getfield 12, 3) := by decide +kernel
theorem dX9_add_40 : decode (dc DX9_add) 40 = .ok (.iload_n 1, 1) := by decide +kernel
theorem dX9_add_41 : decode (dc DX9_add) 41 = .ok (.iload_n 2, 1) := by decide +kernel
theorem dX9_add_42 : decode (dc DX9_add) 42 = .ok (.invokevirtual 160, 3) := by decide +kernel
theorem dX9_add_45 : decode (dc DX9_add) 45 = .ok (.istore 4, 2) := by decide +kernel
theorem dX9_add_47 : decode (dc DX9_add) 47 = .ok (.aload_n 0, 1) := by decide +kernel
theorem dX9_add_48 : decode (dc DX9_add) 48 = .ok (.getfield 12, 3) := by decide +kernel
theorem dX9_add_51 : decode (dc DX9_add) 51 = .ok (.iload_n 1, 1) := by decide +kernel
theorem dX9_add_52 : decode (dc DX9_add) 52 = .ok (.iload_n 2, 1) := by decide +kernel
theorem dX9_add_53 : decode (dc DX9_add) 53 = .ok (.iload_n 3, 1) := by decide +kernel
theorem dX9_add_54 : decode (dc DX9_add) 54 = .ok (.invokevirtual 299, 3) := by decide +kernel
theorem dX9_add_57 : decode (dc DX9_add) 57 = .ok (.aload_n 0, 1) := by decide +kernel
theorem dX9_add_58 : decode (dc DX9_add) 58 = .ok (.invokevirtual 103, 3) := by decide +kernel
theorem dX9_add_61 : decode (dc DX9_add) 61 = .ok (.iload 4, 2) := by decide +kernel
theorem dX9_add_63 : decode (dc DX9_add) 63 = .ok (.ireturn, 1) := by decide +kernel
theorem dX9_drop_0 : decode (dc DX9_drop) 0 = .ok (.aload_n 0, 1) := by decide +kernel
theorem dX9_drop_1 : decode (dc DX9_drop) 1 = .ok (.aload_n 0, 1) := by decide +kernel
theorem dX9_drop_2 : decode (dc DX9_drop) 2 = .ok (.getfield 12, 3) := by decide +kernel
theorem dX9_drop_5 : decode (dc DX9_drop) 5 = .ok (.iload_n 1, 1) := by decide +kernel
theorem dX9_drop_6 : decode (dc DX9_drop) 6 = .ok (.iload_n 2, 1) := by decide +kernel
theorem dX9_drop_7 : decode (dc DX9_drop) 7 = .ok (.invokevirtual 157, 3) := by decide +kernel
theorem dX9_drop_10 : decode (dc DX9_drop) 10 = .ok (.invokevirtual 150, 3) := by decide +kernel
theorem dX9_drop_13 : decode (dc DX9_drop) 13 = .ok (.aload_n 0, 1) := by decide +kernel
theorem dX9_drop_14 : decode (dc DX9_drop) 14 = .ok (.aload_n 0, 1) := by decide +kernel
theorem dX9_drop_15 : decode (dc DX9_drop) 15 = .ok (.getfield 12, 3) := by decide +kernel
theorem dX9_drop_18 : decode (dc DX9_drop) 18 = .ok (.iload_n 1, 1) := by decide +kernel
theorem dX9_drop_19 : decode (dc DX9_drop) 19 = .ok (.iload_n 2, 1) := by decide +kernel
theorem dX9_drop_20 : decode (dc DX9_drop) 20 = .ok (.invokevirtual 303, 3) := by decide +kernel
theorem dX9_drop_23 : decode (dc DX9_drop) 23 = .ok (.invokevirtual 90, 3) := by decide +kernel
theorem dX9_drop_26 : decode (dc DX9_drop) 26 = .ok (.aload_n 0, 1) := by decide +kernel
theorem dX9_drop_27 : decode (dc DX9_drop) 27 = .ok (.invokevirtual 296, 3) := by decide +kernel
theorem dX9_drop_30 : decode (dc DX9_drop) 30 = .ok (.aload_n 0, 1) := by decide +kernel
theorem dX9_drop_31 : decode (dc DX9_drop) 31 = .ok (.getfield 12, 3) := by decide +kernel
theorem dX9_drop_34 : decode (dc DX9_drop) 34 = .ok (.iload_n 1, 1) := by decide +kernel
theorem dX9_drop_35 : decode (dc DX9_drop) 35 = .ok (.iload_n 2, 1) := by decide +kernel
theorem dX9_drop_36 : decode (dc DX9_drop) 36 = .ok (.invokevirtual 160, 3) := by decide +kernel
theorem dX9_drop_39 : decode (dc DX9_drop) 39 = .ok (.istore_n 3, 1) := by decide +kernel
theorem dX9_drop_40 : decode (dc DX9_drop) 40 = .ok (.aload_n 0, 1) := by decide +kernel
theorem dX9_drop_41 : decode (dc DX9_drop) 41 = .ok (.getfield 12, 3) := by decide +kernel
theorem dX9_drop_44 : decode (dc DX9_drop) 44 = .ok (.iload_n 1, 1) := by decide +kernel
theorem dX9_drop_45 : decode (dc DX9_drop) 45 = .ok (.iload_n 2, 1) := by decide +kernel
theorem dX9_drop_46 : decode (dc DX9_drop) 46 = .ok (.invokevirtual 306, 3) := by decide +kernel
theorem dX9_drop_49 : decode (dc DX9_drop) 49 = .ok (.aload_n 0, 1) := by decide +kernel
theorem dX9_drop_50 : decode (dc DX9_drop) 50 = .ok (.invokevirtual 103, 3) := by decide +kernel
theorem dX9_drop_53 : decode (dc DX9_drop) 53 = .ok (.iload_n 3, 1) := by decide +kernel
theorem dX9_drop_54 : decode (dc DX9_drop) 54 = .ok (.ireturn, 1) := by decide +kernel
theorem dX9_is_0 : decode (dc DX9_is) 0 = .ok (.aload_n 0, 1) := by decide +kernel
theorem dX9_is_1 : decode (dc DX9_is) 1 = .ok (.aload_n 0, 1) := by decide +kernel
theorem dX9_is_2 : decode (dc DX9_is) 2 = .ok (.getfield 12, 3) := by decide +kernel
theorem dX9_is_5 : decode (dc DX9_is) 5 = .ok (.iload_n 1, 1) := by decide +kernel
theorem dX9_is_6 : decode (dc DX9_is) 6 = .ok (.iload_n 2, 1) := by decide +kernel
theorem dX9_is_7 : decode (dc DX9_is) 7 = .ok (.invokevirtual 146, 3) := by decide +kernel
theorem dX9_is_10 : decode (dc DX9_is) 10 = .ok (.invokevirtual 150, 3) := by decide +kernel
theorem dX9_is_13 : decode (dc DX9_is) 13 = .ok (.aload_n 0, 1) := by decide +kernel
theorem dX9_is_14 : decode (dc DX9_is) 14 = .ok (.iload_n 3, 1) := by decide +kernel
theorem dX9_is_15 : decode (dc DX9_is) 15 = .ok (.ifCond .eq 8, 3) := by decide +kernel
theorem dX9_is_18 : decode (dc DX9_is) 18 = .ok (.iload_n 3, 1) := by decide +kernel
theorem dX9_is_19 : decode (dc DX9_is) 19 = .ok (.iconst 1, 1) := by decide +kernel
theorem dX9_is_20 : decode (dc DX9_is) 20 = .ok (.if_icmp .ne 7, 3) := by decide +kernel
theorem dX9_is_23 : decode (dc DX9_is) 23 = .ok (.iconst 1, 1) := by decide +kernel
theorem dX9_is_24 : decode (dc DX9_is) 24 = .ok (.goto 4, 3) := by decide +kernel
theorem dX9_is_27 : decode (dc DX9_is) 27 = .ok (.iconst 0, 1) := by decide +kernel
theorem dX9_is_28 : decode (dc DX9_is) 28 = .ok (.invokevirtual 90, 3) := by decide +kernel
theorem dX9_is_31 : decode (dc DX9_is) 31 = .ok (.aload_n 0, 1) := by decide +kernel
theorem dX9_is_32 : decode (dc DX9_is) 32 = .ok (.aload_n 0, 1) := by decide +kernel
theorem dX9_is_33 : decode (dc DX9_is) 33 = .ok (.getfield 12, 3) := by decide +kernel
theorem dX9_is_36 : decode (dc DX9_is) 36 = .ok (.iload_n 1, 1) := by decide +kernel
theorem dX9_is_37 : decode (dc DX9_is) 37 = .ok (.iload_n 2, 1) := by decide +kernel
theorem dX9_is_38 : decode (dc DX9_is) 38 = .ok (.invokevirtual 309, 3) := by decide +kernel
theorem dX9_is_41 : decode (dc DX9_is) 41 = .ok (.iload_n 3, 1) := by decide +kernel
theorem dX9_is_42 : decode (dc DX9_is) 42 = .ok (.iconst 1, 1) := by decide +kernel
theorem dX9_is_43 : decode (dc DX9_is) 43 = .ok (.if_icmp .ne 7, 3) := by decide +kernel
theorem dX9_is_46 : decode (dc DX9_is) 46 = .ok (.iconst 1, 1) := by decide +kernel
theorem dX9_is_47 : decode (dc DX9_is) 47 = .ok (.goto 4, 3) := by decide +kernel
theorem dX9_is_50 : decode (dc DX9_is) 50 = .ok (.iconst 0, 1) := by decide +kernel
theorem dX9_is_51 : decode (dc DX9_is) 51 = .ok (.if_icmp .eq 7, 3) := by decide +kernel
theorem dX9_is_54 : decode (dc DX9_is) 54 = .ok (.iconst 1, 1) := by decide +kernel
theorem dX9_is_55 : decode (dc DX9_is) 55 = .ok (.goto 4, 3) := by decide +kernel
theorem dX9_is_58 : decode (dc DX9_is) 58 = .ok (.iconst 0, 1) := by decide +kernel
theorem dX9_is_59 : decode (dc DX9_is) 59 = .ok (.invokevirtual 90, 3) := by decide +kernel
theorem dX9_is_62 : decode (dc DX9_is) 62 = .ok (.aload_n 0, 1) := by decide +kernel
theorem dX9_is_63 : decode (dc DX9_is) 63 = .ok (.invokevirtual 296, 3) := by decide +kernel
theorem dX9_is_66 : decode (dc DX9_is) 66 = .ok (.aload_n 0, 1) := by decide +kernel
theorem dX9_is_67 : decode (dc DX9_is) 67 = .ok (.getfield 12, 3) := by decide +kernel
theorem dX9_is_70 : decode (dc DX9_is) 70 = .ok (.iload_n 1, 1) := by decide +kernel
theorem dX9_is_71 : decode (dc DX9_is) 71 = .ok (.iload_n 2, 1) := by decide +kernel
theorem dX9_is_72 : decode (dc DX9_is) 72 = .ok (.invokevirtual 153, 3) := by decide +kernel
theorem dX9_is_75 : decode (dc DX9_is) 75 = .ok (.istore 4, 2) := by decide +kernel
theorem dX9_is_77 : decode (dc DX9_is) 77 = .ok (.aload_n 0, 1) := by decide +kernel
theorem dX9_is_78 : decode (dc DX9_is) 78 = .ok (.getfield 12, 3) := by decide +kernel
theorem dX9_is_81 : decode (dc DX9_is) 81 = .ok (.iload_n 1, 1) := by decide +kernel
theorem dX9_is_82 : decode (dc DX9_is) 82 = .ok (.iload_n 2, 1) := by decide +kernel
theorem dX9_is_83 : decode (dc DX9_is) 83 = .ok (.iload_n 3, 1) := by decide +kernel
theorem dX9_is_84 : decode (dc DX9_is) 84 = .ok (.iconst 1, 1) := by decide +kernel
theorem dX9_is_85 : decode (dc DX9_is) 85 = .ok (.if_icmp .ne 7, 3) := by decide +kernel
theorem dX9_is_88 : decode (dc DX9_is) 88 = .ok (.iconst 1, 1) := by decide +kernel
theorem dX9_is_89 : decode (dc DX9_is) 89 = .ok (.goto 4, 3) := by decide +kernel
theorem dX9_is_92 : decode (dc DX9_is) 92 = .ok (.iconst 0, 1) := by decide +kernel
theorem dX9_is_93 : decode (dc DX9_is) 93 = .ok (.invokevirtual 312, 3) := by decide +kernel
theorem dX9_is_96 : decode (dc DX9_is) 96 = .ok (.aload_n 0, 1) := by decide +kernel
theorem dX9_is_97 : decode (dc DX9_is) 97 = .ok (.invokevirtual 103, 3) := by decide +kernel
theorem dX9_is_100 : decode (dc DX9_is) 100 = .ok (.iload 4, 2) := by decide +kernel
theorem dX9_is_102 : decode (dc DX9_is) 102 = .ok (.ireturn, 1) := by decide +kernel
theorem dX9_pair_0 : decode (dc DX9_pair) 0 = .ok (.aload_n 0, 1) := by decide +kernel
theorem dX9_pair_1 : decode (dc DX9_pair) 1 = .ok (.aload_n 0, 1) := by decide +kernel
theorem dX9_pair_2 : decode (dc DX9_pair) 2 = .ok (.getfield 12, 3) := by decide +kernel
theorem dX9_pair_5 : decode (dc DX9_pair) 5 = .ok (.iload_n 1, 1) := by decide +kernel
theorem dX9_pair_6 : decode (dc DX9_pair) 6 = .ok (.iload_n 2, 1) := by decide +kernel
theorem dX9_pair_7 : decode (dc DX9_pair) 7 = .ok (.invokevirtual 157, 3) := by decide +kernel
theorem dX9_pair_10 : decode (dc DX9_pair) 10 = .ok (.invokevirtual 150, 3) := by decide +kernel
theorem dX9_pair_13 : decode (dc DX9_pair) 13 = .ok (.aload_n 0, 1) := by decide +kernel
theorem dX9_pair_14 : decode (dc DX9_pair) 14 = .ok (.aload_n 0, 1) := by decide +kernel
theorem dX9_pair_15 : decode (dc DX9_pair) 15 = .ok (.getfield 12, 3) := by decide +kernel
theorem dX9_pair_18 : decode (dc DX9_pair) 18 = .ok (.iload_n 1, 1) := by decide +kernel
theorem dX9_pair_19 : decode (dc DX9_pair) 19 = .ok (.iload_n 2, 1) := by decide +kernel
theorem dX9_pair_20 : decode (dc DX9_pair) 20 = .ok (.invokevirtual 303, 3) := by decide +kernel
theorem dX9_pair_23 : decode (dc DX9_pair) 23 = .ok (.ifCond .eq 31, 3) := by decide +kernel
theorem dX9_pair_26 : decode (dc DX9_pair) 26 = .ok (.aload_n 0, 1) := by decide +kernel
theorem dX9_pair_27 : decode (dc DX9_pair) 27 = .ok (.getfield 12, 3) := by decide +kernel
theorem dX9_pair_30 : decode (dc DX9_pair) 30 = .ok (.iconst 0, 1) := by decide +kernel
theorem dX9_pair_31 : decode (dc DX9_pair) 31 = .ok (.iload_n 1, 1) := by decide +kernel
theorem dX9_pair_32 : decode (dc DX9_pair) 32 = .ok (.invokevirtual 309, 3) := by decide +kernel
theorem dX9_pair_35 : decode (dc DX9_pair) 35 = .ok (.ifCond .eq 19, 3) := by decide +kernel
theorem dX9_pair_38 : decode (dc DX9_pair) 38 = .ok (.aload_n 0, 1) := by decide +kernel
theorem dX9_pair_39 : decode (dc DX9_pair) 39 = .ok (.getfield 12, 3) := by decide +kernel
theorem dX9_pair_42 : decode (dc DX9_pair) 42 = .ok (.iconst 1, 1) := by decide +kernel
theorem dX9_pair_43 : decode (dc DX9_pair) 43 = .ok (.iload_n 2, 1) := by decide +kernel
theorem dX9_pair_44 : decode (dc DX9_pair) 44 = .ok (.invokevirtual 309, 3) := by decide +kernel
theorem dX9_pair_47 : decode (dc DX9_pair) 47 = .ok (.ifCond .eq 7, 3) := by decide +kernel
theorem dX9_pair_50 : decode (dc DX9_pair) 50 = .ok (.iconst 1, 1) := by decide +kernel
theorem dX9_pair_51 : decode (dc DX9_pair) 51 = .ok (.goto 4, 3) := by decide +kernel
theorem dX9_pair_54 : decode (dc DX9_pair) 54 = .ok (.iconst 0, 1) := by decide +kernel
theorem dX9_pair_55 : decode (dc DX9_pair) 55 = .ok (.invokevirtual 90, 3) := by decide +kernel
theorem dX9_pair_58 : decode (dc DX9_pair) 58 = .ok (.aload_n 0, 1) := by decide +kernel
theorem dX9_pair_59 : decode (dc DX9_pair) 59 = .ok (.aload_n 0, 1) := by decide +kernel
theorem dX9_pair_60 : decode (dc DX9_pair) 60 = .ok (.getfield 12, 3) := by decide +kernel
theorem dX9_pair_63 : decode (dc DX9_pair) 63 = .ok (.getfield 106, 3) := by decide +kernel
theorem dX9_pair_66 : decode (dc DX9_pair) 66 = .ok (.iload_n 1, 1) := by decide +kernel
theorem dX9_pair_67 : decode (dc DX9_pair) 67 = .ok (.invokevirtual 198, 3) := by decide +kernel
theorem dX9_pair_70 : decode (dc DX9_pair) 70 = .ok (.iload_n 2, 1) := by decide +kernel
theorem dX9_pair_71 : decode (dc DX9_pair) 71 = .ok (.if_icmp .eq 7, 3) := by decide +kernel
theorem dX9_pair_74 : decode (dc DX9_pair) 74 = .ok (.iconst 1, 1) := by decide +kernel
theorem dX9_pair_75 : decode (dc DX9_pair) 75 = .ok (.goto 4, 3) := by decide +kernel
theorem dX9_pair_78 : decode (dc DX9_pair) 78 = .ok (.iconst 0, 1) := by decide +kernel
theorem dX9_pair_79 : decode (dc DX9_pair) 79 = .ok (.invokevirtual 90, 3) := by decide +kernel
theorem dX9_pair_82 : decode (dc DX9_pair) 82 = .ok (.aload_n 0, 1) := by decide +kernel
theorem dX9_pair_83 : decode (dc DX9_pair) 83 = .ok (.invokevirtual 296, 3) := by decide +kernel
theorem dX9_pair_86 : decode (dc DX9_pair) 86 = .ok (.aload_n 0, 1) := by decide +kernel
theorem dX9_pair_87 : decode (dc DX9_pair) 87 = .ok (.getfield 12, 3) := by decide +kernel
theorem dX9_pair_90 : decode (dc DX9_pair) 90 = .ok (.getfield 106, 3) := by decide +kernel
theorem dX9_pair_93 : decode (dc DX9_pair) 93 = .ok (.iload_n 1, 1) := by decide +kernel
theorem dX9_pair_94 : decode (dc DX9_pair) 94 = .ok (.iload_n 2, 1) := by decide +kernel
theorem dX9_pair_95 : decode (dc DX9_pair) 95 = .ok (.invokevirtual 316, 3) := by decide +kernel
theorem dX9_pair_98 : decode (dc DX9_pair) 98 = .ok (.aload_n 0, 1) := by decide +kernel
theorem dX9_pair_99 : decode (dc DX9_pair) 99 = .ok (.getfield 12, 3) := by decide +kernel
theorem dX9_pair_102 : decode (dc DX9_pair) 102 = .ok (.getfield 106, 3) := by decide +kernel
theorem dX9_pair_105 : decode (dc DX9_pair) 105 = .ok (.invokevirtual 110, 3) := by decide +kernel
theorem dX9_pair_108 : decode (dc DX9_pair) 108 = .ok (.istore_n 3, 1) := by decide +kernel
theorem dX9_pair_109 : decode (dc DX9_pair) 109 = .ok (.aload_n 0, 1) := by decide +kernel
theorem dX9_pair_110 : decode (dc DX9_pair) 110 = .ok (.invokevirtual 103, 3) := by decide +kernel
theorem dX9_pair_113 : decode (dc DX9_pair) 113 = .ok (.iload_n 3, 1) := by decide +kernel
theorem dX9_pair_114 : decode (dc DX9_pair) 114 = .ok (.ireturn, 1) := by decide +kernel
theorem dX9_part_0 : decode (dc DX9_part) 0 = .ok (.aload_n 0, 1) := by decide +kernel
theorem dX9_part_1 : decode (dc DX9_part) 1 = .ok (.aload_n 0, 1) := by decide +kernel
theorem dX9_part_2 : decode (dc DX9_part) 2 = .ok (.getfield 12, 3) := by decide +kernel
theorem dX9_part_5 : decode (dc DX9_part) 5 = .ok (.iconst 0, 1) := by decide +kernel
theorem dX9_part_6 : decode (dc DX9_part) 6 = .ok (.iload_n 1, 1) := by decide +kernel
theorem dX9_part_7 : decode (dc DX9_part) 7 = .ok (.invokevirtual 146, 3) := by decide +kernel
theorem dX9_part_10 : decode (dc DX9_part) 10 = .ok (.invokevirtual 150, 3) := by decide +kernel
theorem dX9_part_13 : decode (dc DX9_part) 13 = .ok (.aload_n 0, 1) := by decide +kernel
theorem dX9_part_14 : decode (dc DX9_part) 14 = .ok (.getfield 12, 3) := by decide +kernel
theorem dX9_part_17 : decode (dc DX9_part) 17 = .ok (.getfield 106, 3) := by decide +kernel
theorem dX9_part_20 : decode (dc DX9_part) 20 = .ok (.iload_n 1, 1) := by decide +kernel
theorem dX9_part_21 : decode (dc DX9_part) 21 = .ok (.invokevirtual 198, 3) := by decide +kernel
theorem dX9_part_24 : decode (dc DX9_part) 24 = .ok (.istore_n 2, 1) := by decide +kernel
theorem dX9_part_25 : decode (dc DX9_part) 25 = .ok (.aload_n 0, 1) := by decide +kernel
theorem dX9_part_26 : decode (dc DX9_part) 26 = .ok (.iload_n 2, 1) := by decide +kernel
theorem dX9_part_27 : decode (dc DX9_part) 27 = .ok (.iconst (-1), 1) := by decide +kernel
theorem dX9_part_28 : decode (dc DX9_part) 28 = .ok (.if_icmp .eq 7, 3) := by decide +kernel
theorem dX9_part_31 : decode (dc DX9_part) 31 = .ok (.iconst 1, 1) := by decide +kernel
theorem dX9_part_32 : decode (dc DX9_part) 32 = .ok (.goto 4, 3) := by decide +kernel
theorem dX9_part_35 : decode (dc DX9_part) 35 = .ok (.iconst 0, 1) := by decide +kernel
theorem dX9_part_36 : decode (dc DX9_part) 36 = .ok (.invokevirtual 90, 3) := by decide +kernel
theorem dX9_part_39 : decode (dc DX9_part) 39 = .ok (.aload_n 0, 1) := by decide +kernel
theorem dX9_part_40 : decode (dc DX9_part) 40 = .ok (.invokevirtual 296, 3) := by decide +kernel
theorem dX9_part_43 : decode (dc DX9_part) 43 = .ok (.aload_n 0, 1) := by decide +kernel
theorem dX9_part_44 : decode (dc DX9_part) 44 = .ok (.getfield 12, 3) := by decide +kernel
theorem dX9_part_47 : decode (dc DX9_part) 47 = .ok (.getfield 106, 3) := by decide +kernel
theorem dX9_part_50 : decode (dc DX9_part) 50 = .ok (.iload_n 1, 1) := by decide +kernel
theorem dX9_part_51 : decode (dc DX9_part) 51 = .ok (.invokevirtual 319, 3) := by decide +kernel
theorem dX9_part_54 : decode (dc DX9_part) 54 = .ok (.aload_n 0, 1) := by decide +kernel
theorem dX9_part_55 : decode (dc DX9_part) 55 = .ok (.invokevirtual 103, 3) := by decide +kernel
theorem dX9_part_58 : decode (dc DX9_part) 58 = .ok (.iload_n 2, 1) := by decide +kernel
theorem dX9_part_59 : decode (dc DX9_part) 59 = .ok (.ireturn, 1) := by decide +kernel
theorem dX9_weight_0 : decode (dc DX9_weight) 0 = .ok (.aload_n 0, 1) := by decide +kernel
theorem dX9_weight_1 : decode (dc DX9_weight) 1 = .ok (.aload_n 0, 1) := by decide +kernel
theorem dX9_weight_2 : decode (dc DX9_weight) 2 = .ok (.getfield 12, 3) := by decide +kernel
theorem dX9_weight_5 : decode (dc DX9_weight) 5 = .ok (.iconst 0, 1) := by decide +kernel
theorem dX9_weight_6 : decode (dc DX9_weight) 6 = .ok (.iload_n 1, 1) := by decide +kernel
theorem dX9_weight_7 : decode (dc DX9_weight) 7 = .ok (.invokevirtual 146, 3) := by decide +kernel
theorem dX9_weight_10 : decode (dc DX9_weight) 10 = .ok (.invokevirtual 150, 3) := by decide +kernel
theorem dX9_weight_13 : decode (dc DX9_weight) 13 = .ok (.aload_n 0, 1) := by decide +kernel
theorem dX9_weight_14 : decode (dc DX9_weight) 14 = .ok (.iload_n 2, 1) := by decide +kernel
theorem dX9_weight_15 : decode (dc DX9_weight) 15 = .ok (.ifCond .lt 13, 3) := by decide +kernel
theorem dX9_weight_18 : decode (dc DX9_weight) 18 = .ok (.iload_n 2, 1) := by decide +kernel
theorem dX9_weight_19 : decode (dc DX9_weight) 19 = .ok (.bipush 99, 2) := by decide +kernel
theorem dX9_weight_21 : decode (dc DX9_weight) 21 = .ok (.if_icmp .gt 7, 3) := by decide +kernel
theorem dX9_weight_24 : decode (dc DX9_weight) 24 = .ok (.iconst 1, 1) := by decide +kernel
theorem dX9_weight_25 : decode (dc DX9_weight) 25 = .ok (.goto 4, 3) := by decide +kernel
theorem dX9_weight_28 : decode (dc DX9_weight) 28 = .ok (.iconst 0, 1) := by decide +kernel
theorem dX9_weight_29 : decode (dc DX9_weight) 29 = .ok (.invokevirtual 90, 3) := by decide +kernel
theorem dX9_weight_32 : decode (dc DX9_weight) 32 = .ok (.aload_n 0, 1) := by decide +kernel
theorem dX9_weight_33 : decode (dc DX9_weight) 33 = .ok (.invokevirtual 296, 3) := by decide +kernel
theorem dX9_weight_36 : decode (dc DX9_weight) 36 = .ok (.aload_n 0, 1) := by decide +kernel
theorem dX9_weight_37 : decode (dc DX9_weight) 37 = .ok (.getfield 12, 3) := by decide +kernel
theorem dX9_weight_40 : decode (dc DX9_weight) 40 = .ok (.iload_n 1, 1) := by decide +kernel
theorem dX9_weight_41 : decode (dc DX9_weight) 41 = .ok (.invokevirtual 284, 3) := by decide +kernel
theorem dX9_weight_44 : decode (dc DX9_weight) 44 = .ok (.istore_n 3, 1) := by decide +kernel
theorem dX9_weight_45 : decode (dc DX9_weight) 45 = .ok (.aload_n 0, 1) := by decide +kernel
theorem dX9_weight_46 : decode (dc DX9_weight) 46 = .ok (.getfield 12, 3) := by decide +kernel
theorem dX9_weight_49 : decode (dc DX9_weight) 49 = .ok (.iload_n 1, 1) := by decide +kernel
theorem dX9_weight_50 : decode (dc DX9_weight) 50 = .ok (.iload_n 2, 1) := by decide +kernel
theorem dX9_weight_51 : decode (dc DX9_weight) 51 = .ok (.invokevirtual 322, 3) := by decide +kernel
theorem dX9_weight_54 : decode (dc DX9_weight) 54 = .ok (.aload_n 0, 1) := by decide +kernel
theorem dX9_weight_55 : decode (dc DX9_weight) 55 = .ok (.invokevirtual 103, 3) := by decide +kernel
theorem dX9_weight_58 : decode (dc DX9_weight) 58 = .ok (.iload_n 3, 1) := by decide +kernel
theorem dX9_weight_59 : decode (dc DX9_weight) 59 = .ok (.ireturn, 1) := by decide +kernel
theorem dX9_trade_0 : decode (dc DX9_trade) 0 = .ok (.iconst 0, 1) := by decide +kernel
theorem dX9_trade_1 : decode (dc DX9_trade) 1 = .ok (.istore_n 1, 1) := by decide +kernel
theorem dX9_trade_2 : decode (dc DX9_trade) 2 = .ok (.iconst (-1), 1) := by decide +kernel
theorem dX9_trade_3 : decode (dc DX9_trade) 3 = .ok (.istore_n 2, 1) := by decide +kernel
theorem dX9_trade_4 : decode (dc DX9_trade) 4 = .ok (.iconst (-1), 1) := by decide +kernel
theorem dX9_trade_5 : decode (dc DX9_trade) 5 = .ok (.istore_n 3, 1) := by decide +kernel
theorem dX9_trade_6 : decode (dc DX9_trade) 6 = .ok (.iconst 0, 1) := by decide +kernel
theorem dX9_trade_7 : decode (dc DX9_trade) 7 = .ok (.istore 4, 2) := by decide +kernel
theorem dX9_trade_9 : decode (dc DX9_trade) 9 = .ok (.iload 4, 2) := by decide +kernel
theorem dX9_trade_11 : decode (dc DX9_trade) 11 = .ok (.aload_n 0, 1) := by decide +kernel
theorem dX9_trade_12 : decode (dc DX9_trade) 12 = .ok (.getfield 12, 3) := by decide +kernel
theorem dX9_trade_15 : decode (dc DX9_trade) 15 = .ok (.getfield 119, 3) := by decide +kernel
theorem dX9_trade_18 : decode (dc DX9_trade) 18 = .ok (.if_icmp .ge 61, 3) := by decide +kernel
theorem dX9_trade_21 : decode (dc DX9_trade) 21 = .ok (.iload 4, 2) := by decide +kernel
theorem dX9_trade_23 : decode (dc DX9_trade) 23 = .ok (.iconst 1, 1) := by decide +kernel
theorem dX9_trade_24 : decode (dc DX9_trade) 24 = .ok (.iadd, 1) := by decide +kernel
theorem dX9_trade_25 : decode (dc DX9_trade) 25 = .ok (.istore 5, 2) := by decide +kernel
theorem dX9_trade_27 : decode (dc DX9_trade) 27 = .ok (.iload 5, 2) := by decide +kernel
theorem dX9_trade_29 : decode (dc DX9_trade) 29 = .ok (.aload_n 0, 1) := by decide +kernel
theorem dX9_trade_30 : decode (dc DX9_trade) 30 = .ok (.getfield 12, 3) := by decide +kernel
theorem dX9_trade_33 : decode (dc DX9_trade) 33 = .ok (.getfield 119, 3) := by decide +kernel
theorem dX9_trade_36 : decode (dc DX9_trade) 36 = .ok (.if_icmp .ge 37, 3) := by decide +kernel
theorem dX9_trade_39 : decode (dc DX9_trade) 39 = .ok (.aload_n 0, 1) := by decide +kernel
theorem dX9_trade_40 : decode (dc DX9_trade) 40 = .ok (.getfield 12, 3) := by decide +kernel
theorem dX9_trade_43 : decode (dc DX9_trade) 43 = .ok (.iload 4, 2) := by decide +kernel
theorem dX9_trade_45 : decode (dc DX9_trade) 45 = .ok (.iload 5, 2) := by decide +kernel
theorem dX9_trade_47 : decode (dc DX9_trade) 47 = .ok (.invokevirtual 325, 3) := by decide +kernel
theorem dX9_trade_50 : decode (dc DX9_trade) 50 = .ok (.istore 6, 2) := by decide +kernel
theorem dX9_trade_52 : decode (dc DX9_trade) 52 = .ok (.iload 6, 2) := by decide +kernel
theorem dX9_trade_54 : decode (dc DX9_trade) 54 = .ok (.iload_n 1, 1) := by decide +kernel
theorem dX9_trade_55 : decode (dc DX9_trade) 55 = .ok (.if_icmp .le 12, 3) := by decide +kernel
theorem dX9_trade_58 : decode (dc DX9_trade) 58 = .ok (.iload 6, 2) := by decide +kernel
theorem dX9_trade_60 : decode (dc DX9_trade) 60 = .ok (.istore_n 1, 1) := by decide +kernel
theorem dX9_trade_61 : decode (dc DX9_trade) 61 = .ok (.iload 4, 2) := by decide +kernel
theorem dX9_trade_63 : decode (dc DX9_trade) 63 = .ok (.istore_n 2, 1) := by decide +kernel
theorem dX9_trade_64 : decode (dc DX9_trade) 64 = .ok (.iload 5, 2) := by decide +kernel
theorem dX9_trade_66 : decode (dc DX9_trade) 66 = .ok (.istore_n 3, 1) := by decide +kernel
theorem dX9_trade_67 : decode (dc DX9_trade) 67 = .ok (.iinc 5 1, 3) := by decide +kernel
theorem dX9_trade_70 : decode (dc DX9_trade) 70 = .ok (.goto (-43), 3) := by decide +kernel
theorem dX9_trade_73 : decode (dc DX9_trade) 73 = .ok (.iinc 4 1, 3) := by decide +kernel
theorem dX9_trade_76 : decode (dc DX9_trade) 76 = .ok (.goto (-67), 3) := by decide +kernel
theorem dX9_trade_79 : decode (dc DX9_trade) 79 = .ok (.iload_n 1, 1) := by decide +kernel
theorem dX9_trade_80 : decode (dc DX9_trade) 80 = .ok (.ifCond .le 19, 3) := by decide +kernel
theorem dX9_trade_83 : decode (dc DX9_trade) 83 = .ok (.aload_n 0, 1) := by decide +kernel
theorem dX9_trade_84 : decode (dc DX9_trade) 84 = .ok (.invokevirtual 296, 3) := by decide +kernel
theorem dX9_trade_87 : decode (dc DX9_trade) 87 = .ok (.aload_n 0, 1) := by decide +kernel
theorem dX9_trade_88 : decode (dc DX9_trade) 88 = .ok (.getfield 12, 3) := by decide +kernel
theorem dX9_trade_91 : decode (dc DX9_trade) 91 = .ok (.getfield 106, 3) := by decide +kernel
theorem dX9_trade_94 : decode (dc DX9_trade) 94 = .ok (.iload_n 2, 1) := by decide +kernel
theorem dX9_trade_95 : decode (dc DX9_trade) 95 = .ok (.iload_n 3, 1) := by decide +kernel
theorem dX9_trade_96 : decode (dc DX9_trade) 96 = .ok (.invokevirtual 328, 3) := by decide +kernel
theorem dX9_trade_99 : decode (dc DX9_trade) 99 = .ok (.iload_n 1, 1) := by decide +kernel
theorem dX9_trade_100 : decode (dc DX9_trade) 100 = .ok (.ireturn, 1) := by decide +kernel
theorem dX9_keep_0 : decode (dc DX9_keep) 0 = .ok (.aload_n 0, 1) := by decide +kernel
theorem dX9_keep_1 : decode (dc DX9_keep) 1 = .ok (.iload_n 1, 1) := by decide +kernel
theorem dX9_keep_2 : decode (dc DX9_keep) 2 = .ok (.ifCond .eq 8, 3) := by decide +kernel
theorem dX9_keep_5 : decode (dc DX9_keep) 5 = .ok (.iload_n 1, 1) := by decide +kernel
theorem dX9_keep_6 : decode (dc DX9_keep) 6 = .ok (.iconst 1, 1) := by decide +kernel
theorem dX9_keep_7 : decode (dc DX9_keep) 7 = .ok (.if_icmp .ne 7, 3) := by decide +kernel
theorem dX9_keep_10 : decode (dc DX9_keep) 10 = .ok (.iconst 1, 1) := by decide +kernel
theorem dX9_keep_11 : decode (dc DX9_keep) 11 = .ok (.goto 4, 3) := by decide +kernel
theorem dX9_keep_14 : decode (dc DX9_keep) 14 = .ok (.iconst 0, 1) := by decide +kernel
theorem dX9_keep_15 : decode (dc DX9_keep) 15 = .ok (.invokevirtual 90, 3) := by decide +kernel
theorem dX9_keep_18 : decode (dc DX9_keep) 18 = .ok (.aload_n 0, 1) := by decide +kernel
theorem dX9_keep_19 : decode (dc DX9_keep) 19 = .ok (.invokevirtual 296, 3) := by decide +kernel
theorem dX9_keep_22 : decode (dc DX9_keep) 22 = .ok (.aload_n 0, 1) := by decide +kernel
theorem dX9_keep_23 : decode (dc DX9_keep) 23 = .ok (.getfield 12, 3) := by decide +kernel
theorem dX9_keep_26 : decode (dc DX9_keep) 26 = .ok (.getfield 128, 3) := by decide +kernel
theorem dX9_keep_29 : decode (dc DX9_keep) 29 = .ok (.istore_n 2, 1) := by decide +kernel
theorem dX9_keep_30 : decode (dc DX9_keep) 30 = .ok (.aload_n 0, 1) := by decide +kernel
theorem dX9_keep_31 : decode (dc DX9_keep) 31 = .ok (.getfield 12, 3) := by decide +kernel
theorem dX9_keep_34 : decode (dc DX9_keep) 34 = .ok (.iload_n 1, 1) := by decide +kernel
theorem dX9_keep_35 : decode (dc DX9_keep) 35 = .ok (.putfield 128, 3) := by decide +kernel
theorem dX9_keep_38 : decode (dc DX9_keep) 38 = .ok (.aload_n 0, 1) := by decide +kernel
theorem dX9_keep_39 : decode (dc DX9_keep) 39 = .ok (.invokevirtual 103, 3) := by decide +kernel
theorem dX9_keep_42 : decode (dc DX9_keep) 42 = .ok (.iload_n 2, 1) := by decide +kernel
theorem dX9_keep_43 : decode (dc DX9_keep) 43 = .ok (.ireturn, 1) := by decide +kernel
theorem dX9_settle_0 : decode (dc DX9_settle) 0 = .ok (.aload_n 0, 1) := by decide +kernel
theorem dX9_settle_1 : decode (dc DX9_settle) 1 = .ok (.iload_n 1, 1) := by decide +kernel
theorem dX9_settle_2 : decode (dc DX9_settle) 2 = .ok (.iconst 1, 1) := by decide +kernel
theorem dX9_settle_3 : decode (dc DX9_settle) 3 = .ok (.if_icmp .lt 13, 3) := by decide +kernel
theorem dX9_settle_6 : decode (dc DX9_settle) 6 = .ok (.iload_n 1, 1) := by decide +kernel
theorem dX9_settle_7 : decode (dc DX9_settle) 7 = .ok (.bipush 12, 2) := by decide +kernel
theorem dX9_settle_9 : decode (dc DX9_settle) 9 = .ok (.if_icmp .gt 7, 3) := by decide +kernel
theorem dX9_settle_12 : decode (dc DX9_settle) 12 = .ok (.iconst 1, 1) := by decide +kernel
theorem dX9_settle_13 : decode (dc DX9_settle) 13 = .ok (.goto 4, 3) := by decide +kernel
theorem dX9_settle_16 : decode (dc DX9_settle) 16 = .ok (.iconst 0, 1) := by decide +kernel
theorem dX9_settle_17 : decode (dc DX9_settle) 17 = .ok (.invokevirtual 90, 3) := by decide +kernel
theorem dX9_settle_20 : decode (dc DX9_settle) 20 = .ok (.aload_n 0, 1) := by decide +kernel
theorem dX9_settle_21 : decode (dc DX9_settle) 21 = .ok (.getfield 36, 3) := by decide +kernel
theorem dX9_settle_24 : decode (dc DX9_settle) 24 = .ok (.aload_n 0, 1) := by decide +kernel
theorem dX9_settle_25 : decode (dc DX9_settle) 25 = .ok (.getfield 12, 3) := by decide +kernel
theorem dX9_settle_28 : decode (dc DX9_settle) 28 = .ok (.invokevirtual 170, 3) := by decide +kernel
theorem dX9_settle_31 : decode (dc DX9_settle) 31 = .ok (.aload_n 0, 1) := by decide +kernel
theorem dX9_settle_32 : decode (dc DX9_settle) 32 = .ok (.getfield 36, 3) := by decide +kernel
theorem dX9_settle_35 : decode (dc DX9_settle) 35 = .ok (.iload_n 1, 1) := by decide +kernel
theorem dX9_settle_36 : decode (dc DX9_settle) 36 = .ok (.invokevirtual 217, 3) := by decide +kernel
theorem dX9_settle_39 : decode (dc DX9_settle) 39 = .ok (.istore_n 2, 1) := by decide +kernel
theorem dX9_settle_40 : decode (dc DX9_settle) 40 = .ok (.iload_n 2, 1) := by decide +kernel
theorem dX9_settle_41 : decode (dc DX9_settle) 41 = .ok (.ifCond .le 24, 3) := by decide +kernel
theorem dX9_settle_44 : decode (dc DX9_settle) 44 = .ok (.aload_n 0, 1) := by decide +kernel
theorem dX9_settle_45 : decode (dc DX9_settle) 45 = .ok (.invokevirtual 296, 3) := by decide +kernel
theorem dX9_settle_48 : decode (dc DX9_settle) 48 = .ok (.aload_n 0, 1) := by decide +kernel
theorem dX9_settle_49 : decode (dc DX9_settle) 49 = .ok (.getfield 12, 3) := by decide +kernel
theorem dX9_settle_52 : decode (dc DX9_settle) 52 = .ok (.getfield 106, 3) := by decide +kernel
theorem dX9_settle_55 : decode (dc DX9_settle) 55 = .ok (.aload_n 0, 1) := by decide +kernel
theorem dX9_settle_56 : decode (dc DX9_settle) 56 = .ok (.getfield 36, 3) := by decide +kernel
theorem dX9_settle_59 : decode (dc DX9_settle) 59 = .ok (.getfield 197, 3) := by decide +kernel
theorem dX9_settle_62 : decode (dc DX9_settle) 62 = .ok (.invokevirtual 331, 3) := by decide +kernel
theorem dX9_settle_65 : decode (dc DX9_settle) 65 = .ok (.iload_n 2, 1) := by decide +kernel
theorem dX9_settle_66 : decode (dc DX9_settle) 66 = .ok (.ireturn, 1) := by decide +kernel
theorem dX9_undo_0 : decode (dc DX9_undo) 0 = .ok (.aload_n 0, 1) := by decide +kernel
theorem dX9_undo_1 : decode (dc DX9_undo) 1 = .ok (.getfield 22, 3) := by decide +kernel
theorem dX9_undo_4 : decode (dc DX9_undo) 4 = .ok (.aload_n 0, 1) := by decide +kernel
theorem dX9_undo_5 : decode (dc DX9_undo) 5 = .ok (.getfield 12, 3) := by decide +kernel
theorem dX9_undo_8 : decode (dc DX9_undo) 8 = .ok (.invokevirtual 334, 3) := by decide +kernel
theorem dX9_undo_11 : decode (dc DX9_undo) 11 = .ok (.ifCond .ne 5, 3) := by decide +kernel
theorem dX9_undo_14 : decode (dc DX9_undo) 14 = .ok (.iconst (-1), 1) := by decide +kernel
theorem dX9_undo_15 : decode (dc DX9_undo) 15 = .ok (.ireturn, 1) := by decide +kernel
theorem dX9_undo_16 : decode (dc DX9_undo) 16 = .ok (.aload_n 0, 1) := by decide +kernel
theorem dX9_undo_17 : decode (dc DX9_undo) 17 = .ok (.iconst 0, 1) := by decide +kernel
theorem dX9_undo_18 : decode (dc DX9_undo) 18 = .ok (.putfield 68, 3) := by decide +kernel
theorem dX9_undo_21 : decode (dc DX9_undo) 21 = .ok (.aload_n 0, 1) := by decide +kernel
theorem dX9_undo_22 : decode (dc DX9_undo) 22 = .ok (.getfield 22, 3) := by decide +kernel
theorem dX9_undo_25 : decode (dc DX9_undo) 25 = .ok (.getfield 102, 3) := by decide +kernel
theorem dX9_undo_28 : decode (dc DX9_undo) 28 = .ok (.ireturn, 1) := by decide +kernel
theorem dX9_print_0 : decode (dc DX9_print) 0 = .ok (.lconst 0, 1) := by decide +kernel
theorem dX9_print_1 : decode (dc DX9_print) 1 = .ok (.lstore_n 1, 1) := by decide +kernel
theorem dX9_print_2 : decode (dc DX9_print) 2 = .ok (.iconst 0, 1) := by decide +kernel
theorem dX9_print_3 : decode (dc DX9_print) 3 = .ok (.istore_n 3, 1) := by decide +kernel
theorem dX9_print_4 : decode (dc DX9_print) 4 = .ok (.iload_n 3, 1) := by decide +kernel
theorem dX9_print_5 : decode (dc DX9_print) 5 = .ok (.aload_n 0, 1) := by decide +kernel
theorem dX9_print_6 : decode (dc DX9_print) 6 = .ok (.getfield 12, 3) := by decide +kernel
theorem dX9_print_9 : decode (dc DX9_print) 9 = .ok (.getfield 119, 3) := by decide +kernel
theorem dX9_print_12 : decode (dc DX9_print) 12 = .ok (.if_icmp .ge 30, 3) := by decide +kernel
theorem dX9_print_15 : decode (dc DX9_print) 15 = .ok (.lload_n 1, 1) := by decide +kernel
theorem dX9_print_16 : decode (dc DX9_print) 16 = .ok (.ldc2_w 338, 3) := by decide +kernel
theorem dX9_print_19 : decode (dc DX9_print) 19 = .ok (.lmul, 1) := by decide +kernel
theorem dX9_print_20 : decode (dc DX9_print) 20 = .ok (.aload_n 0, 1) := by decide +kernel
theorem dX9_print_21 : decode (dc DX9_print) 21 = .ok (.getfield 12, 3) := by decide +kernel
theorem dX9_print_24 : decode (dc DX9_print) 24 = .ok (.getfield 106, 3) := by decide +kernel
theorem dX9_print_27 : decode (dc DX9_print) 27 = .ok (.iload_n 3, 1) := by decide +kernel
theorem dX9_print_28 : decode (dc DX9_print) 28 = .ok (.invokevirtual 198, 3) := by decide +kernel
theorem dX9_print_31 : decode (dc DX9_print) 31 = .ok (.i2l, 1) := by decide +kernel
theorem dX9_print_32 : decode (dc DX9_print) 32 = .ok (.ladd, 1) := by decide +kernel
theorem dX9_print_33 : decode (dc DX9_print) 33 = .ok (.lconst 1, 1) := by decide +kernel
theorem dX9_print_34 : decode (dc DX9_print) 34 = .ok (.ladd, 1) := by decide +kernel
theorem dX9_print_35 : decode (dc DX9_print) 35 = .ok (.lstore_n 1, 1) := by decide +kernel
theorem dX9_print_36 : decode (dc DX9_print) 36 = .ok (.iinc 3 1, 3) := by decide +kernel
theorem dX9_print_39 : decode (dc DX9_print) 39 = .ok (.goto (-35), 3) := by decide +kernel
theorem dX9_print_42 : decode (dc DX9_print) 42 = .ok (.lload_n 1, 1) := by decide +kernel
theorem dX9_print_43 : decode (dc DX9_print) 43 = .ok (.lreturn, 1) := by decide +kernel
theorem dX9_status_0 : decode (dc DX9_status) 0 = .ok (.iload_n 1, 1) := by decide +kernel
theorem dX9_status_1 : decode (dc DX9_status) 1 = .ok (.ifCond .ne 10, 3) := by decide +kernel
theorem dX9_status_4 : decode (dc DX9_status) 4 = .ok (.aload_n 0, 1) := by decide +kernel
theorem dX9_status_5 : decode (dc DX9_status) 5 = .ok (.getfield 72, 3) := by decide +kernel
theorem dX9_status_8 : decode (dc DX9_status) 8 = .ok (.goto 16, 3) := by decide +kernel
theorem dX9_status_11 : decode (dc DX9_status) 11 = .ok (.iload_n 1, 1) := by decide +kernel
theorem dX9_status_12 : decode (dc DX9_status) 12 = .ok (.iconst 1, 1) := by decide +kernel
theorem dX9_status_13 : decode (dc DX9_status) 13 = .ok (.if_icmp .ne 10, 3) := by decide +kernel
theorem dX9_status_16 : decode (dc DX9_status) 16 = .ok (.aload_n 0, 1) := by decide +kernel
theorem dX9_status_17 : decode (dc DX9_status) 17 = .ok (.getfield 76, 3) := by decide +kernel
theorem dX9_status_20 : decode (dc DX9_status) 20 = .ok (.goto 4, 3) := by decide +kernel
theorem dX9_status_23 : decode (dc DX9_status) 23 = .ok (.iconst (-1), 1) := by decide +kernel
theorem dX9_status_24 : decode (dc DX9_status) 24 = .ok (.ireturn, 1) := by decide +kernel
theorem dX10_thrown_0 : decode (dc DX10_thrown) 0 = .ok (.aload_n 0, 1) := by decide +kernel
theorem dX10_thrown_1 : decode (dc DX10_thrown) 1 = .ok (.getfield 82, 3) := by decide +kernel
theorem dX10_thrown_4 : decode (dc DX10_thrown) 4 = .ok (.ireturn, 1) := by decide +kernel
theorem dX10_bad_0 : decode (dc DX10_bad) 0 = .ok (.iload_n 1, 1) := by decide +kernel
theorem dX10_bad_1 : decode (dc DX10_bad) 1 = .ok (.ifCond .eq 25, 3) := by decide +kernel
theorem dX10_bad_4 : decode (dc DX10_bad) 4 = .ok (.aload_n 0, 1) := by decide +kernel
theorem dX10_bad_5 : decode (dc DX10_bad) 5 = .ok (.getfield 82, 3) := by decide +kernel
theorem dX10_bad_8 : decode (dc DX10_bad) 8 = .ok (.ifCond .ne 18, 3) := by decide +kernel
theorem dX10_bad_11 : decode (dc DX10_bad) 11 = .ok (.aload_n 0, 1) := by decide +kernel
theorem dX10_bad_12 : decode (dc DX10_bad) 12 = .ok (.iload_n 2, 1) := by decide +kernel
theorem dX10_bad_13 : decode (dc DX10_bad) 13 = .ok (.putfield 82, 3) := by decide +kernel
theorem dX10_bad_16 : decode (dc DX10_bad) 16 = .ok (.aload_n 0, 1) := by decide +kernel
theorem dX10_bad_17 : decode (dc DX10_bad) 17 = .ok (.getfield 9, 3) := by decide +kernel
theorem dX10_bad_20 : decode (dc DX10_bad) 20 = .ok (.iload_n 3, 1) := by decide +kernel
theorem dX10_bad_21 : decode (dc DX10_bad) 21 = .ok (.dup2, 1) := by decide +kernel
theorem dX10_bad_22 : decode (dc DX10_bad) 22 = .ok (.iaload, 1) := by decide +kernel
theorem dX10_bad_23 : decode (dc DX10_bad) 23 = .ok (.iconst 1, 1) := by decide +kernel
theorem dX10_bad_24 : decode (dc DX10_bad) 24 = .ok (.iadd, 1) := by decide +kernel
theorem dX10_bad_25 : decode (dc DX10_bad) 25 = .ok (.iastore, 1) := by decide +kernel
theorem dX10_bad_26 : decode (dc DX10_bad) 26 = .ok (.aload_n 0, 1) := by decide +kernel
theorem dX10_bad_27 : decode (dc DX10_bad) 27 = .ok (.getfield 82, 3) := by decide +kernel
theorem dX10_bad_30 : decode (dc DX10_bad) 30 = .ok (.ifCond .eq 7, 3) := by decide +kernel
theorem dX10_bad_33 : decode (dc DX10_bad) 33 = .ok (.iconst 1, 1) := by decide +kernel
theorem dX10_bad_34 : decode (dc DX10_bad) 34 = .ok (.goto 4, 3) := by decide +kernel
theorem dX10_bad_37 : decode (dc DX10_bad) 37 = .ok (.iconst 0, 1) := by decide +kernel
theorem dX10_bad_38 : decode (dc DX10_bad) 38 = .ok (.ireturn, 1) := by decide +kernel
theorem dX10_in_0 : decode (dc DX10_in) 0 = .ok (.iload_n 0, 1) := by decide +kernel
theorem dX10_in_1 : decode (dc DX10_in) 1 = .ok (.iload_n 1, 1) := by decide +kernel
theorem dX10_in_2 : decode (dc DX10_in) 2 = .ok (.if_icmp .lt 12, 3) := by decide +kernel
theorem dX10_in_5 : decode (dc DX10_in) 5 = .ok (.iload_n 0, 1) := by decide +kernel
theorem dX10_in_6 : decode (dc DX10_in) 6 = .ok (.iload_n 2, 1) := by decide +kernel
theorem dX10_in_7 : decode (dc DX10_in) 7 = .ok (.if_icmp .gt 7, 3) := by decide +kernel
