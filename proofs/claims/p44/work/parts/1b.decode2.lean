theorem dX6_init_20 : decode (dc DX6_init) 20 = .ok (.putfield 19, 3) := by decide +kernel
theorem dX6_init_23 : decode (dc DX6_init) 23 = .ok (.aload_n 0, 1) := by decide +kernel
theorem dX6_init_24 : decode (dc DX6_init) 24 = .ok (.iconst 0, 1) := by decide +kernel
theorem dX6_init_25 : decode (dc DX6_init) 25 = .ok (.putfield 22, 3) := by decide +kernel
theorem dX6_init_28 : decode (dc DX6_init) 28 = .ok (.aload_n 0, 1) := by decide +kernel
theorem dX6_init_29 : decode (dc DX6_init) 29 = .ok (.iconst 0, 1) := by decide +kernel
theorem dX6_init_30 : decode (dc DX6_init) 30 = .ok (.putfield 25, 3) := by decide +kernel
theorem dX6_init_33 : decode (dc DX6_init) 33 = .ok (.aload_n 0, 1) := by decide +kernel
theorem dX6_init_34 : decode (dc DX6_init) 34 = .ok (.iconst 0, 1) := by decide +kernel
theorem dX6_init_35 : decode (dc DX6_init) 35 = .ok (.putfield 28, 3) := by decide +kernel
theorem dX6_init_38 : decode (dc DX6_init) 38 = .ok (.aload_n 0, 1) := by decide +kernel
theorem dX6_init_39 : decode (dc DX6_init) 39 = .ok (.iconst 0, 1) := by decide +kernel
theorem dX6_init_40 : decode (dc DX6_init) 40 = .ok (.putfield 31, 3) := by decide +kernel
theorem dX6_init_43 : decode (dc DX6_init) 43 = .ok (.aload_n 0, 1) := by decide +kernel
theorem dX6_init_44 : decode (dc DX6_init) 44 = .ok (.iconst 0, 1) := by decide +kernel
theorem dX6_init_45 : decode (dc DX6_init) 45 = .ok (.putfield 34, 3) := by decide +kernel
theorem dX6_init_48 : decode (dc DX6_init) 48 = .ok (.return_, 1) := by decide +kernel
theorem dX6_hasRoom_0 : decode (dc DX6_hasRoom) 0 = .ok (.aload_n 0, 1) := by decide +kernel
theorem dX6_hasRoom_1 : decode (dc DX6_hasRoom) 1 = .ok (.getfield 15, 3) := by decide +kernel
theorem dX6_hasRoom_4 : decode (dc DX6_hasRoom) 4 = .ok (.bipush 20, 2) := by decide +kernel
theorem dX6_hasRoom_6 : decode (dc DX6_hasRoom) 6 = .ok (.iadd, 1) := by decide +kernel
theorem dX6_hasRoom_7 : decode (dc DX6_hasRoom) 7 = .ok (.sipush 300, 3) := by decide +kernel
theorem dX6_hasRoom_10 : decode (dc DX6_hasRoom) 10 = .ok (.if_icmp .gt 7, 3) := by decide +kernel
theorem dX6_hasRoom_13 : decode (dc DX6_hasRoom) 13 = .ok (.iconst 1, 1) := by decide +kernel
theorem dX6_hasRoom_14 : decode (dc DX6_hasRoom) 14 = .ok (.goto 4, 3) := by decide +kernel
theorem dX6_hasRoom_17 : decode (dc DX6_hasRoom) 17 = .ok (.iconst 0, 1) := by decide +kernel
theorem dX6_hasRoom_18 : decode (dc DX6_hasRoom) 18 = .ok (.ireturn, 1) := by decide +kernel
theorem dX6_put_0 : decode (dc DX6_put) 0 = .ok (.bipush 24, 2) := by decide +kernel
theorem dX6_put_2 : decode (dc DX6_put) 2 = .ok (.istore_n 2, 1) := by decide +kernel
theorem dX6_put_3 : decode (dc DX6_put) 3 = .ok (.iload_n 2, 1) := by decide +kernel
theorem dX6_put_4 : decode (dc DX6_put) 4 = .ok (.ifCond .lt 52, 3) := by decide +kernel
theorem dX6_put_7 : decode (dc DX6_put) 7 = .ok (.aload_n 0, 1) := by decide +kernel
theorem dX6_put_8 : decode (dc DX6_put) 8 = .ok (.getfield 15, 3) := by decide +kernel
theorem dX6_put_11 : decode (dc DX6_put) 11 = .ok (.ifCond .lt 39, 3) := by decide +kernel
theorem dX6_put_14 : decode (dc DX6_put) 14 = .ok (.aload_n 0, 1) := by decide +kernel
theorem dX6_put_15 : decode (dc DX6_put) 15 = .ok (.getfield 15, 3) := by decide +kernel
theorem dX6_put_18 : decode (dc DX6_put) 18 = .ok (.sipush 300, 3) := by decide +kernel
theorem dX6_put_21 : decode (dc DX6_put) 21 = .ok (.if_icmp .ge 29, 3) := by decide +kernel
theorem dX6_put_24 : decode (dc DX6_put) 24 = .ok (.aload_n 0, 1) := by decide +kernel
theorem dX6_put_25 : decode (dc DX6_put) 25 = .ok (.getfield 9, 3) := by decide +kernel
theorem dX6_put_28 : decode (dc DX6_put) 28 = .ok (.aload_n 0, 1) := by decide +kernel
theorem dX6_put_29 : decode (dc DX6_put) 29 = .ok (.getfield 15, 3) := by decide +kernel
theorem dX6_put_32 : decode (dc DX6_put) 32 = .ok (.iload_n 1, 1) := by decide +kernel
theorem dX6_put_33 : decode (dc DX6_put) 33 = .ok (.iload_n 2, 1) := by decide +kernel
theorem dX6_put_34 : decode (dc DX6_put) 34 = .ok (.ishr, 1) := by decide +kernel
theorem dX6_put_35 : decode (dc DX6_put) 35 = .ok (.sipush 255, 3) := by decide +kernel
theorem dX6_put_38 : decode (dc DX6_put) 38 = .ok (.iand, 1) := by decide +kernel
theorem dX6_put_39 : decode (dc DX6_put) 39 = .ok (.iastore, 1) := by decide +kernel
theorem dX6_put_40 : decode (dc DX6_put) 40 = .ok (.aload_n 0, 1) := by decide +kernel
theorem dX6_put_41 : decode (dc DX6_put) 41 = .ok (.dup, 1) := by decide +kernel
theorem dX6_put_42 : decode (dc DX6_put) 42 = .ok (.getfield 15, 3) := by decide +kernel
theorem dX6_put_45 : decode (dc DX6_put) 45 = .ok (.iconst 1, 1) := by decide +kernel
theorem dX6_put_46 : decode (dc DX6_put) 46 = .ok (.iadd, 1) := by decide +kernel
theorem dX6_put_47 : decode (dc DX6_put) 47 = .ok (.putfield 15, 3) := by decide +kernel
theorem dX6_put_50 : decode (dc DX6_put) 50 = .ok (.iinc 2 (-8), 3) := by decide +kernel
theorem dX6_put_53 : decode (dc DX6_put) 53 = .ok (.goto (-50), 3) := by decide +kernel
theorem dX6_put_56 : decode (dc DX6_put) 56 = .ok (.return_, 1) := by decide +kernel
theorem dX6_byteAt_0 : decode (dc DX6_byteAt) 0 = .ok (.iload_n 1, 1) := by decide +kernel
theorem dX6_byteAt_1 : decode (dc DX6_byteAt) 1 = .ok (.ifCond .lt 27, 3) := by decide +kernel
theorem dX6_byteAt_4 : decode (dc DX6_byteAt) 4 = .ok (.iload_n 1, 1) := by decide +kernel
theorem dX6_byteAt_5 : decode (dc DX6_byteAt) 5 = .ok (.aload_n 0, 1) := by decide +kernel
theorem dX6_byteAt_6 : decode (dc DX6_byteAt) 6 = .ok (.getfield 25, 3) := by decide +kernel
theorem dX6_byteAt_9 : decode (dc DX6_byteAt) 9 = .ok (.if_icmp .ge 19, 3) := by decide +kernel
theorem dX6_byteAt_12 : decode (dc DX6_byteAt) 12 = .ok (.iload_n 1, 1) := by decide +kernel
theorem dX6_byteAt_13 : decode (dc DX6_byteAt) 13 = .ok (.sipush 300, 3) := by decide +kernel
theorem dX6_byteAt_16 : decode (dc DX6_byteAt) 16 = .ok (.if_icmp .ge 12, 3) := by decide +kernel
theorem dX6_byteAt_19 : decode (dc DX6_byteAt) 19 = .ok (.aload_n 0, 1) := by decide +kernel
theorem dX6_byteAt_20 : decode (dc DX6_byteAt) 20 = .ok (.getfield 9, 3) := by decide +kernel
theorem dX6_byteAt_23 : decode (dc DX6_byteAt) 23 = .ok (.iload_n 1, 1) := by decide +kernel
theorem dX6_byteAt_24 : decode (dc DX6_byteAt) 24 = .ok (.iaload, 1) := by decide +kernel
theorem dX6_byteAt_25 : decode (dc DX6_byteAt) 25 = .ok (.goto 4, 3) := by decide +kernel
theorem dX6_byteAt_28 : decode (dc DX6_byteAt) 28 = .ok (.iconst (-1), 1) := by decide +kernel
theorem dX6_byteAt_29 : decode (dc DX6_byteAt) 29 = .ok (.ireturn, 1) := by decide +kernel
theorem dX6_skipBlanks_0 : decode (dc DX6_skipBlanks) 0 = .ok (.aload_n 0, 1) := by decide +kernel
theorem dX6_skipBlanks_1 : decode (dc DX6_skipBlanks) 1 = .ok (.getfield 28, 3) := by decide +kernel
theorem dX6_skipBlanks_4 : decode (dc DX6_skipBlanks) 4 = .ok (.aload_n 0, 1) := by decide +kernel
theorem dX6_skipBlanks_5 : decode (dc DX6_skipBlanks) 5 = .ok (.getfield 25, 3) := by decide +kernel
theorem dX6_skipBlanks_8 : decode (dc DX6_skipBlanks) 8 = .ok (.if_icmp .ge 29, 3) := by decide +kernel
theorem dX6_skipBlanks_11 : decode (dc DX6_skipBlanks) 11 = .ok (.aload_n 0, 1) := by decide +kernel
theorem dX6_skipBlanks_12 : decode (dc DX6_skipBlanks) 12 = .ok (.aload_n 0, 1) := by decide +kernel
theorem dX6_skipBlanks_13 : decode (dc DX6_skipBlanks) 13 = .ok (.getfield 28, 3) := by decide +kernel
theorem dX6_skipBlanks_16 : decode (dc DX6_skipBlanks) 16 = .ok (.invokevirtual 115, 3) := by decide +kernel
theorem dX6_skipBlanks_19 : decode (dc DX6_skipBlanks) 19 = .ok (.bipush 32, 2) := by decide +kernel
theorem dX6_skipBlanks_21 : decode (dc DX6_skipBlanks) 21 = .ok (.if_icmp .ne 16, 3) := by decide +kernel
theorem dX6_skipBlanks_24 : decode (dc DX6_skipBlanks) 24 = .ok (.aload_n 0, 1) := by decide +kernel
theorem dX6_skipBlanks_25 : decode (dc DX6_skipBlanks) 25 = .ok (.dup, 1) := by decide +kernel
theorem dX6_skipBlanks_26 : decode (dc DX6_skipBlanks) 26 = .ok (.getfield 28, 3) := by decide +kernel
theorem dX6_skipBlanks_29 : decode (dc DX6_skipBlanks) 29 = .ok (.iconst 1, 1) := by decide +kernel
theorem dX6_skipBlanks_30 : decode (dc DX6_skipBlanks) 30 = .ok (.iadd, 1) := by decide +kernel
theorem dX6_skipBlanks_31 : decode (dc DX6_skipBlanks) 31 = .ok (.putfield 28, 3) := by decide +kernel
theorem dX6_skipBlanks_34 : decode (dc DX6_skipBlanks) 34 = .ok (.goto (-34), 3) := by decide +kernel
theorem dX6_skipBlanks_37 : decode (dc DX6_skipBlanks) 37 = .ok (.return_, 1) := by decide +kernel
theorem dX6_moreStands_0 : decode (dc DX6_moreStands) 0 = .ok (.aload_n 0, 1) := by decide +kernel
theorem dX6_moreStands_1 : decode (dc DX6_moreStands) 1 = .ok (.invokevirtual 112, 3) := by decide +kernel
theorem dX6_moreStands_4 : decode (dc DX6_moreStands) 4 = .ok (.aload_n 0, 1) := by decide +kernel
theorem dX6_moreStands_5 : decode (dc DX6_moreStands) 5 = .ok (.getfield 28, 3) := by decide +kernel
theorem dX6_moreStands_8 : decode (dc DX6_moreStands) 8 = .ok (.aload_n 0, 1) := by decide +kernel
theorem dX6_moreStands_9 : decode (dc DX6_moreStands) 9 = .ok (.getfield 25, 3) := by decide +kernel
theorem dX6_moreStands_12 : decode (dc DX6_moreStands) 12 = .ok (.if_icmp .ge 7, 3) := by decide +kernel
theorem dX6_moreStands_15 : decode (dc DX6_moreStands) 15 = .ok (.iconst 1, 1) := by decide +kernel
theorem dX6_moreStands_16 : decode (dc DX6_moreStands) 16 = .ok (.goto 4, 3) := by decide +kernel
theorem dX6_moreStands_19 : decode (dc DX6_moreStands) 19 = .ok (.iconst 0, 1) := by decide +kernel
theorem dX6_moreStands_20 : decode (dc DX6_moreStands) 20 = .ok (.ireturn, 1) := by decide +kernel
theorem dX6_isFault_0 : decode (dc DX6_isFault) 0 = .ok (.aload_n 0, 1) := by decide +kernel
theorem dX6_isFault_1 : decode (dc DX6_isFault) 1 = .ok (.iload_n 1, 1) := by decide +kernel
theorem dX6_isFault_2 : decode (dc DX6_isFault) 2 = .ok (.putfield 22, 3) := by decide +kernel
theorem dX6_isFault_5 : decode (dc DX6_isFault) 5 = .ok (.aload_n 0, 1) := by decide +kernel
theorem dX6_isFault_6 : decode (dc DX6_isFault) 6 = .ok (.iload_n 2, 1) := by decide +kernel
theorem dX6_isFault_7 : decode (dc DX6_isFault) 7 = .ok (.putfield 19, 3) := by decide +kernel
theorem dX6_isFault_10 : decode (dc DX6_isFault) 10 = .ok (.iconst 0, 1) := by decide +kernel
theorem dX6_isFault_11 : decode (dc DX6_isFault) 11 = .ok (.ireturn, 1) := by decide +kernel
theorem dX6_readEnd_0 : decode (dc DX6_readEnd) 0 = .ok (.aload_n 0, 1) := by decide +kernel
theorem dX6_readEnd_1 : decode (dc DX6_readEnd) 1 = .ok (.invokevirtual 112, 3) := by decide +kernel
theorem dX6_readEnd_4 : decode (dc DX6_readEnd) 4 = .ok (.aload_n 0, 1) := by decide +kernel
theorem dX6_readEnd_5 : decode (dc DX6_readEnd) 5 = .ok (.aload_n 0, 1) := by decide +kernel
theorem dX6_readEnd_6 : decode (dc DX6_readEnd) 6 = .ok (.getfield 28, 3) := by decide +kernel
theorem dX6_readEnd_9 : decode (dc DX6_readEnd) 9 = .ok (.invokevirtual 115, 3) := by decide +kernel
theorem dX6_readEnd_12 : decode (dc DX6_readEnd) 12 = .ok (.bipush 59, 2) := by decide +kernel
theorem dX6_readEnd_14 : decode (dc DX6_readEnd) 14 = .ok (.if_icmp .eq 13, 3) := by decide +kernel
theorem dX6_readEnd_17 : decode (dc DX6_readEnd) 17 = .ok (.aload_n 0, 1) := by decide +kernel
theorem dX6_readEnd_18 : decode (dc DX6_readEnd) 18 = .ok (.iconst 1, 1) := by decide +kernel
theorem dX6_readEnd_19 : decode (dc DX6_readEnd) 19 = .ok (.aload_n 0, 1) := by decide +kernel
theorem dX6_readEnd_20 : decode (dc DX6_readEnd) 20 = .ok (.getfield 28, 3) := by decide +kernel
theorem dX6_readEnd_23 : decode (dc DX6_readEnd) 23 = .ok (.invokevirtual 105, 3) := by decide +kernel
theorem dX6_readEnd_26 : decode (dc DX6_readEnd) 26 = .ok (.ireturn, 1) := by decide +kernel
theorem dX6_readEnd_27 : decode (dc DX6_readEnd) 27 = .ok (.aload_n 0, 1) := by decide +kernel
theorem dX6_readEnd_28 : decode (dc DX6_readEnd) 28 = .ok (.dup, 1) := by decide +kernel
theorem dX6_readEnd_29 : decode (dc DX6_readEnd) 29 = .ok (.getfield 28, 3) := by decide +kernel
theorem dX6_readEnd_32 : decode (dc DX6_readEnd) 32 = .ok (.iconst 1, 1) := by decide +kernel
theorem dX6_readEnd_33 : decode (dc DX6_readEnd) 33 = .ok (.iadd, 1) := by decide +kernel
theorem dX6_readEnd_34 : decode (dc DX6_readEnd) 34 = .ok (.putfield 28, 3) := by decide +kernel
theorem dX6_readEnd_37 : decode (dc DX6_readEnd) 37 = .ok (.iconst 1, 1) := by decide +kernel
theorem dX6_readEnd_38 : decode (dc DX6_readEnd) 38 = .ok (.ireturn, 1) := by decide +kernel
theorem dX6_isDigit_0 : decode (dc DX6_isDigit) 0 = .ok (.iload_n 0, 1) := by decide +kernel
theorem dX6_isDigit_1 : decode (dc DX6_isDigit) 1 = .ok (.bipush 48, 2) := by decide +kernel
theorem dX6_isDigit_3 : decode (dc DX6_isDigit) 3 = .ok (.if_icmp .lt 13, 3) := by decide +kernel
theorem dX6_isDigit_6 : decode (dc DX6_isDigit) 6 = .ok (.iload_n 0, 1) := by decide +kernel
theorem dX6_isDigit_7 : decode (dc DX6_isDigit) 7 = .ok (.bipush 57, 2) := by decide +kernel
theorem dX6_isDigit_9 : decode (dc DX6_isDigit) 9 = .ok (.if_icmp .gt 7, 3) := by decide +kernel
theorem dX6_isDigit_12 : decode (dc DX6_isDigit) 12 = .ok (.iconst 1, 1) := by decide +kernel
theorem dX6_isDigit_13 : decode (dc DX6_isDigit) 13 = .ok (.goto 4, 3) := by decide +kernel
theorem dX6_isDigit_16 : decode (dc DX6_isDigit) 16 = .ok (.iconst 0, 1) := by decide +kernel
theorem dX6_isDigit_17 : decode (dc DX6_isDigit) 17 = .ok (.ireturn, 1) := by decide +kernel
theorem dJ9_min_7cf53_0 : decode (dc DJ9_min_7cf53) 0 = .ok (.iload_n 0, 1) := by decide +kernel
theorem dJ9_min_7cf53_1 : decode (dc DJ9_min_7cf53) 1 = .ok (.iload_n 1, 1) := by decide +kernel
theorem dJ9_min_7cf53_2 : decode (dc DJ9_min_7cf53) 2 = .ok (.if_icmp .gt 7, 3) := by decide +kernel
theorem dJ9_min_7cf53_5 : decode (dc DJ9_min_7cf53) 5 = .ok (.iload_n 0, 1) := by decide +kernel
theorem dJ9_min_7cf53_6 : decode (dc DJ9_min_7cf53) 6 = .ok (.goto 4, 3) := by decide +kernel
theorem dJ9_min_7cf53_9 : decode (dc DJ9_min_7cf53) 9 = .ok (.iload_n 1, 1) := by decide +kernel
theorem dJ9_min_7cf53_10 : decode (dc DJ9_min_7cf53) 10 = .ok (.ireturn, 1) := by decide +kernel
theorem dX6_value_0 : decode (dc DX6_value) 0 = .ok (.iconst 0, 1) := by decide +kernel
theorem dX6_value_1 : decode (dc DX6_value) 1 = .ok (.istore_n 1, 1) := by decide +kernel
theorem dX6_value_2 : decode (dc DX6_value) 2 = .ok (.aload_n 0, 1) := by decide +kernel
theorem dX6_value_3 : decode (dc DX6_value) 3 = .ok (.getfield 31, 3) := by decide +kernel
theorem dX6_value_6 : decode (dc DX6_value) 6 = .ok (.istore_n 2, 1) := by decide +kernel
theorem dX6_value_7 : decode (dc DX6_value) 7 = .ok (.iload_n 2, 1) := by decide +kernel
theorem dX6_value_8 : decode (dc DX6_value) 8 = .ok (.aload_n 0, 1) := by decide +kernel
theorem dX6_value_9 : decode (dc DX6_value) 9 = .ok (.getfield 25, 3) := by decide +kernel
theorem dX6_value_12 : decode (dc DX6_value) 12 = .ok (.if_icmp .ge 40, 3) := by decide +kernel
theorem dX6_value_15 : decode (dc DX6_value) 15 = .ok (.aload_n 0, 1) := by decide +kernel
theorem dX6_value_16 : decode (dc DX6_value) 16 = .ok (.iload_n 2, 1) := by decide +kernel
theorem dX6_value_17 : decode (dc DX6_value) 17 = .ok (.invokevirtual 115, 3) := by decide +kernel
theorem dX6_value_20 : decode (dc DX6_value) 20 = .ok (.invokestatic 119, 3) := by decide +kernel
theorem dX6_value_23 : decode (dc DX6_value) 23 = .ok (.ifCond .eq 29, 3) := by decide +kernel
theorem dX6_value_26 : decode (dc DX6_value) 26 = .ok (.sipush 1000, 3) := by decide +kernel
theorem dX6_value_29 : decode (dc DX6_value) 29 = .ok (.iload_n 1, 1) := by decide +kernel
theorem dX6_value_30 : decode (dc DX6_value) 30 = .ok (.bipush 10, 2) := by decide +kernel
theorem dX6_value_32 : decode (dc DX6_value) 32 = .ok (.imul, 1) := by decide +kernel
theorem dX6_value_33 : decode (dc DX6_value) 33 = .ok (.aload_n 0, 1) := by decide +kernel
theorem dX6_value_34 : decode (dc DX6_value) 34 = .ok (.iload_n 2, 1) := by decide +kernel
theorem dX6_value_35 : decode (dc DX6_value) 35 = .ok (.invokevirtual 115, 3) := by decide +kernel
theorem dX6_value_38 : decode (dc DX6_value) 38 = .ok (.iadd, 1) := by decide +kernel
theorem dX6_value_39 : decode (dc DX6_value) 39 = .ok (.bipush 48, 2) := by decide +kernel
theorem dX6_value_41 : decode (dc DX6_value) 41 = .ok (.isub, 1) := by decide +kernel
theorem dX6_value_42 : decode (dc DX6_value) 42 = .ok (.invokestatic 165, 3) := by decide +kernel
theorem dX6_value_45 : decode (dc DX6_value) 45 = .ok (.istore_n 1, 1) := by decide +kernel
theorem dX6_value_46 : decode (dc DX6_value) 46 = .ok (.iinc 2 1, 3) := by decide +kernel
theorem dX6_value_49 : decode (dc DX6_value) 49 = .ok (.goto (-42), 3) := by decide +kernel
theorem dX6_value_52 : decode (dc DX6_value) 52 = .ok (.iload_n 1, 1) := by decide +kernel
theorem dX6_value_53 : decode (dc DX6_value) 53 = .ok (.ireturn, 1) := by decide +kernel
theorem dX6_readNumber_0 : decode (dc DX6_readNumber) 0 = .ok (.aload_n 0, 1) := by decide +kernel
theorem dX6_readNumber_1 : decode (dc DX6_readNumber) 1 = .ok (.invokevirtual 112, 3) := by decide +kernel
theorem dX6_readNumber_4 : decode (dc DX6_readNumber) 4 = .ok (.aload_n 0, 1) := by decide +kernel
theorem dX6_readNumber_5 : decode (dc DX6_readNumber) 5 = .ok (.aload_n 0, 1) := by decide +kernel
theorem dX6_readNumber_6 : decode (dc DX6_readNumber) 6 = .ok (.getfield 28, 3) := by decide +kernel
theorem dX6_readNumber_9 : decode (dc DX6_readNumber) 9 = .ok (.putfield 31, 3) := by decide +kernel
theorem dX6_readNumber_12 : decode (dc DX6_readNumber) 12 = .ok (.aload_n 0, 1) := by decide +kernel
theorem dX6_readNumber_13 : decode (dc DX6_readNumber) 13 = .ok (.getfield 28, 3) := by decide +kernel
theorem dX6_readNumber_16 : decode (dc DX6_readNumber) 16 = .ok (.aload_n 0, 1) := by decide +kernel
theorem dX6_readNumber_17 : decode (dc DX6_readNumber) 17 = .ok (.getfield 25, 3) := by decide +kernel
theorem dX6_readNumber_20 : decode (dc DX6_readNumber) 20 = .ok (.if_icmp .ge 30, 3) := by decide +kernel
theorem dX6_readNumber_23 : decode (dc DX6_readNumber) 23 = .ok (.aload_n 0, 1) := by decide +kernel
theorem dX6_readNumber_24 : decode (dc DX6_readNumber) 24 = .ok (.aload_n 0, 1) := by decide +kernel
theorem dX6_readNumber_25 : decode (dc DX6_readNumber) 25 = .ok (.getfield 28, 3) := by decide +kernel
theorem dX6_readNumber_28 : decode (dc DX6_readNumber) 28 = .ok (.invokevirtual 115, 3) := by decide +kernel
theorem dX6_readNumber_31 : decode (dc DX6_readNumber) 31 = .ok (.invokestatic 119, 3) := by decide +kernel
theorem dX6_readNumber_34 : decode (dc DX6_readNumber) 34 = .ok (.ifCond .eq 16, 3) := by decide +kernel
theorem dX6_readNumber_37 : decode (dc DX6_readNumber) 37 = .ok (.aload_n 0, 1) := by decide +kernel
theorem dX6_readNumber_38 : decode (dc DX6_readNumber) 38 = .ok (.dup, 1) := by decide +kernel
theorem dX6_readNumber_39 : decode (dc DX6_readNumber) 39 = .ok (.getfield 28, 3) := by decide +kernel
theorem dX6_readNumber_42 : decode (dc DX6_readNumber) 42 = .ok (.iconst 1, 1) := by decide +kernel
theorem dX6_readNumber_43 : decode (dc DX6_readNumber) 43 = .ok (.iadd, 1) := by decide +kernel
theorem dX6_readNumber_44 : decode (dc DX6_readNumber) 44 = .ok (.putfield 28, 3) := by decide +kernel
theorem dX6_readNumber_47 : decode (dc DX6_readNumber) 47 = .ok (.goto (-35), 3) := by decide +kernel
theorem dX6_readNumber_50 : decode (dc DX6_readNumber) 50 = .ok (.aload_n 0, 1) := by decide +kernel
theorem dX6_readNumber_51 : decode (dc DX6_readNumber) 51 = .ok (.getfield 28, 3) := by decide +kernel
theorem dX6_readNumber_54 : decode (dc DX6_readNumber) 54 = .ok (.aload_n 0, 1) := by decide +kernel
theorem dX6_readNumber_55 : decode (dc DX6_readNumber) 55 = .ok (.getfield 31, 3) := by decide +kernel
theorem dX6_readNumber_58 : decode (dc DX6_readNumber) 58 = .ok (.if_icmp .ne 13, 3) := by decide +kernel
theorem dX6_readNumber_61 : decode (dc DX6_readNumber) 61 = .ok (.aload_n 0, 1) := by decide +kernel
theorem dX6_readNumber_62 : decode (dc DX6_readNumber) 62 = .ok (.iconst 1, 1) := by decide +kernel
theorem dX6_readNumber_63 : decode (dc DX6_readNumber) 63 = .ok (.aload_n 0, 1) := by decide +kernel
theorem dX6_readNumber_64 : decode (dc DX6_readNumber) 64 = .ok (.getfield 31, 3) := by decide +kernel
theorem dX6_readNumber_67 : decode (dc DX6_readNumber) 67 = .ok (.invokevirtual 105, 3) := by decide +kernel
theorem dX6_readNumber_70 : decode (dc DX6_readNumber) 70 = .ok (.ireturn, 1) := by decide +kernel
theorem dX6_readNumber_71 : decode (dc DX6_readNumber) 71 = .ok (.aload_n 0, 1) := by decide +kernel
theorem dX6_readNumber_72 : decode (dc DX6_readNumber) 72 = .ok (.invokevirtual 62, 3) := by decide +kernel
theorem dX6_readNumber_75 : decode (dc DX6_readNumber) 75 = .ok (.istore_n 3, 1) := by decide +kernel
theorem dX6_readNumber_76 : decode (dc DX6_readNumber) 76 = .ok (.iload_n 3, 1) := by decide +kernel
theorem dX6_readNumber_77 : decode (dc DX6_readNumber) 77 = .ok (.iload_n 1, 1) := by decide +kernel
theorem dX6_readNumber_78 : decode (dc DX6_readNumber) 78 = .ok (.if_icmp .lt 8, 3) := by decide +kernel
theorem dX6_readNumber_81 : decode (dc DX6_readNumber) 81 = .ok (.iload_n 3, 1) := by decide +kernel
theorem dX6_readNumber_82 : decode (dc DX6_readNumber) 82 = .ok (.iload_n 2, 1) := by decide +kernel
theorem dX6_readNumber_83 : decode (dc DX6_readNumber) 83 = .ok (.if_icmp .le 15, 3) := by decide +kernel
theorem dX6_readNumber_86 : decode (dc DX6_readNumber) 86 = .ok (.aload_n 0, 1) := by decide +kernel
theorem dX6_readNumber_87 : decode (dc DX6_readNumber) 87 = .ok (.iconst 2, 1) := by decide +kernel
theorem dX6_readNumber_88 : decode (dc DX6_readNumber) 88 = .ok (.aload_n 0, 1) := by decide +kernel
theorem dX6_readNumber_89 : decode (dc DX6_readNumber) 89 = .ok (.getfield 31, 3) := by decide +kernel
theorem dX6_readNumber_92 : decode (dc DX6_readNumber) 92 = .ok (.invokevirtual 105, 3) := by decide +kernel
theorem dX6_readNumber_95 : decode (dc DX6_readNumber) 95 = .ok (.ifCond .eq 7, 3) := by decide +kernel
theorem dX6_readNumber_98 : decode (dc DX6_readNumber) 98 = .ok (.iconst 1, 1) := by decide +kernel
theorem dX6_readNumber_99 : decode (dc DX6_readNumber) 99 = .ok (.goto 4, 3) := by decide +kernel
theorem dX6_readNumber_102 : decode (dc DX6_readNumber) 102 = .ok (.iconst 0, 1) := by decide +kernel
theorem dX6_readNumber_103 : decode (dc DX6_readNumber) 103 = .ok (.ireturn, 1) := by decide +kernel
theorem dX6_takeWord_0 : decode (dc DX6_takeWord) 0 = .ok (.aload_n 0, 1) := by decide +kernel
theorem dX6_takeWord_1 : decode (dc DX6_takeWord) 1 = .ok (.invokevirtual 112, 3) := by decide +kernel
theorem dX6_takeWord_4 : decode (dc DX6_takeWord) 4 = .ok (.aload_n 0, 1) := by decide +kernel
theorem dX6_takeWord_5 : decode (dc DX6_takeWord) 5 = .ok (.aload_n 0, 1) := by decide +kernel
theorem dX6_takeWord_6 : decode (dc DX6_takeWord) 6 = .ok (.getfield 28, 3) := by decide +kernel
theorem dX6_takeWord_9 : decode (dc DX6_takeWord) 9 = .ok (.putfield 31, 3) := by decide +kernel
theorem dX6_takeWord_12 : decode (dc DX6_takeWord) 12 = .ok (.aload_n 0, 1) := by decide +kernel
theorem dX6_takeWord_13 : decode (dc DX6_takeWord) 13 = .ok (.getfield 28, 3) := by decide +kernel
theorem dX6_takeWord_16 : decode (dc DX6_takeWord) 16 = .ok (.aload_n 0, 1) := by decide +kernel
theorem dX6_takeWord_17 : decode (dc DX6_takeWord) 17 = .ok (.getfield 25, 3) := by decide +kernel
theorem dX6_takeWord_20 : decode (dc DX6_takeWord) 20 = .ok (.if_icmp .ge 42, 3) := by decide +kernel
theorem dX6_takeWord_23 : decode (dc DX6_takeWord) 23 = .ok (.aload_n 0, 1) := by decide +kernel
theorem dX6_takeWord_24 : decode (dc DX6_takeWord) 24 = .ok (.aload_n 0, 1) := by decide +kernel
theorem dX6_takeWord_25 : decode (dc DX6_takeWord) 25 = .ok (.getfield 28, 3) := by decide +kernel
theorem dX6_takeWord_28 : decode (dc DX6_takeWord) 28 = .ok (.invokevirtual 115, 3) := by decide +kernel
theorem dX6_takeWord_31 : decode (dc DX6_takeWord) 31 = .ok (.bipush 97, 2) := by decide +kernel
theorem dX6_takeWord_33 : decode (dc DX6_takeWord) 33 = .ok (.if_icmp .lt 29, 3) := by decide +kernel
theorem dX6_takeWord_36 : decode (dc DX6_takeWord) 36 = .ok (.aload_n 0, 1) := by decide +kernel
theorem dX6_takeWord_37 : decode (dc DX6_takeWord) 37 = .ok (.aload_n 0, 1) := by decide +kernel
theorem dX6_takeWord_38 : decode (dc DX6_takeWord) 38 = .ok (.getfield 28, 3) := by decide +kernel
theorem dX6_takeWord_41 : decode (dc DX6_takeWord) 41 = .ok (.invokevirtual 115, 3) := by decide +kernel
theorem dX6_takeWord_44 : decode (dc DX6_takeWord) 44 = .ok (.bipush 122, 2) := by decide +kernel
theorem dX6_takeWord_46 : decode (dc DX6_takeWord) 46 = .ok (.if_icmp .gt 16, 3) := by decide +kernel
theorem dX6_takeWord_49 : decode (dc DX6_takeWord) 49 = .ok (.aload_n 0, 1) := by decide +kernel
theorem dX6_takeWord_50 : decode (dc DX6_takeWord) 50 = .ok (.dup, 1) := by decide +kernel
theorem dX6_takeWord_51 : decode (dc DX6_takeWord) 51 = .ok (.getfield 28, 3) := by decide +kernel
theorem dX6_takeWord_54 : decode (dc DX6_takeWord) 54 = .ok (.iconst 1, 1) := by decide +kernel
theorem dX6_takeWord_55 : decode (dc DX6_takeWord) 55 = .ok (.iadd, 1) := by decide +kernel
theorem dX6_takeWord_56 : decode (dc DX6_takeWord) 56 = .ok (.putfield 28, 3) := by decide +kernel
theorem dX6_takeWord_59 : decode (dc DX6_takeWord) 59 = .ok (.goto (-47), 3) := by decide +kernel
theorem dX6_takeWord_62 : decode (dc DX6_takeWord) 62 = .ok (.return_, 1) := by decide +kernel
theorem dX6_wordIs_0 : decode (dc DX6_wordIs) 0 = .ok (.aload_n 0, 1) := by decide +kernel
theorem dX6_wordIs_1 : decode (dc DX6_wordIs) 1 = .ok (.getfield 28, 3) := by decide +kernel
theorem dX6_wordIs_4 : decode (dc DX6_wordIs) 4 = .ok (.aload_n 0, 1) := by decide +kernel
theorem dX6_wordIs_5 : decode (dc DX6_wordIs) 5 = .ok (.getfield 31, 3) := by decide +kernel
theorem dX6_wordIs_8 : decode (dc DX6_wordIs) 8 = .ok (.isub, 1) := by decide +kernel
theorem dX6_wordIs_9 : decode (dc DX6_wordIs) 9 = .ok (.aload_n 1, 1) := by decide +kernel
theorem dX6_wordIs_10 : decode (dc DX6_wordIs) 10 = .ok (.invokevirtual 156, 3) := by decide +kernel
theorem dX6_wordIs_13 : decode (dc DX6_wordIs) 13 = .ok (.if_icmp .eq 5, 3) := by decide +kernel
theorem dX6_wordIs_16 : decode (dc DX6_wordIs) 16 = .ok (.iconst 0, 1) := by decide +kernel
theorem dX6_wordIs_17 : decode (dc DX6_wordIs) 17 = .ok (.ireturn, 1) := by decide +kernel
theorem dX6_wordIs_18 : decode (dc DX6_wordIs) 18 = .ok (.iconst 0, 1) := by decide +kernel
theorem dX6_wordIs_19 : decode (dc DX6_wordIs) 19 = .ok (.istore_n 2, 1) := by decide +kernel
theorem dX6_wordIs_20 : decode (dc DX6_wordIs) 20 = .ok (.iload_n 2, 1) := by decide +kernel
theorem dX6_wordIs_21 : decode (dc DX6_wordIs) 21 = .ok (.aload_n 1, 1) := by decide +kernel
theorem dX6_wordIs_22 : decode (dc DX6_wordIs) 22 = .ok (.invokevirtual 156, 3) := by decide +kernel
theorem dX6_wordIs_25 : decode (dc DX6_wordIs) 25 = .ok (.if_icmp .ge 29, 3) := by decide +kernel
theorem dX6_wordIs_28 : decode (dc DX6_wordIs) 28 = .ok (.aload_n 0, 1) := by decide +kernel
theorem dX6_wordIs_29 : decode (dc DX6_wordIs) 29 = .ok (.aload_n 0, 1) := by decide +kernel
theorem dX6_wordIs_30 : decode (dc DX6_wordIs) 30 = .ok (.getfield 31, 3) := by decide +kernel
theorem dX6_wordIs_33 : decode (dc DX6_wordIs) 33 = .ok (.iload_n 2, 1) := by decide +kernel
theorem dX6_wordIs_34 : decode (dc DX6_wordIs) 34 = .ok (.iadd, 1) := by decide +kernel
theorem dX6_wordIs_35 : decode (dc DX6_wordIs) 35 = .ok (.invokevirtual 115, 3) := by decide +kernel
theorem dX6_wordIs_38 : decode (dc DX6_wordIs) 38 = .ok (.aload_n 1, 1) := by decide +kernel
theorem dX6_wordIs_39 : decode (dc DX6_wordIs) 39 = .ok (.iload_n 2, 1) := by decide +kernel
theorem dX6_wordIs_40 : decode (dc DX6_wordIs) 40 = .ok (.invokevirtual 161, 3) := by decide +kernel
theorem dX6_wordIs_43 : decode (dc DX6_wordIs) 43 = .ok (.if_icmp .eq 5, 3) := by decide +kernel
theorem dX6_wordIs_46 : decode (dc DX6_wordIs) 46 = .ok (.iconst 0, 1) := by decide +kernel
theorem dX6_wordIs_47 : decode (dc DX6_wordIs) 47 = .ok (.ireturn, 1) := by decide +kernel
theorem dX6_wordIs_48 : decode (dc DX6_wordIs) 48 = .ok (.iinc 2 1, 3) := by decide +kernel
theorem dX6_wordIs_51 : decode (dc DX6_wordIs) 51 = .ok (.goto (-31), 3) := by decide +kernel
theorem dX6_wordIs_54 : decode (dc DX6_wordIs) 54 = .ok (.iconst 1, 1) := by decide +kernel
theorem dX6_wordIs_55 : decode (dc DX6_wordIs) 55 = .ok (.ireturn, 1) := by decide +kernel
theorem dX6_readWord_0 : decode (dc DX6_readWord) 0 = .ok (.aload_n 0, 1) := by decide +kernel
theorem dX6_readWord_1 : decode (dc DX6_readWord) 1 = .ok (.invokevirtual 74, 3) := by decide +kernel
theorem dX6_readWord_4 : decode (dc DX6_readWord) 4 = .ok (.aload_n 0, 1) := by decide +kernel
theorem dX6_readWord_5 : decode (dc DX6_readWord) 5 = .ok (.aload_n 1, 1) := by decide +kernel
theorem dX6_readWord_6 : decode (dc DX6_readWord) 6 = .ok (.invokevirtual 79, 3) := by decide +kernel
theorem dX6_readWord_9 : decode (dc DX6_readWord) 9 = .ok (.ifCond .ne 15, 3) := by decide +kernel
theorem dX6_readWord_12 : decode (dc DX6_readWord) 12 = .ok (.aload_n 0, 1) := by decide +kernel
theorem dX6_readWord_13 : decode (dc DX6_readWord) 13 = .ok (.iconst 1, 1) := by decide +kernel
theorem dX6_readWord_14 : decode (dc DX6_readWord) 14 = .ok (.aload_n 0, 1) := by decide +kernel
theorem dX6_readWord_15 : decode (dc DX6_readWord) 15 = .ok (.getfield 31, 3) := by decide +kernel
theorem dX6_readWord_18 : decode (dc DX6_readWord) 18 = .ok (.invokevirtual 105, 3) := by decide +kernel
theorem dX6_readWord_21 : decode (dc DX6_readWord) 21 = .ok (.ifCond .eq 7, 3) := by decide +kernel
theorem dX6_readWord_24 : decode (dc DX6_readWord) 24 = .ok (.iconst 1, 1) := by decide +kernel
theorem dX6_readWord_25 : decode (dc DX6_readWord) 25 = .ok (.goto 4, 3) := by decide +kernel
theorem dX6_readWord_28 : decode (dc DX6_readWord) 28 = .ok (.iconst 0, 1) := by decide +kernel
theorem dX6_readWord_29 : decode (dc DX6_readWord) 29 = .ok (.ireturn, 1) := by decide +kernel
theorem dX6_readHead_0 : decode (dc DX6_readHead) 0 = .ok (.aload_n 0, 1) := by decide +kernel
theorem dX6_readHead_1 : decode (dc DX6_readHead) 1 = .ok (.ldc 52, 2) := by decide +kernel
theorem dX6_readHead_3 : decode (dc DX6_readHead) 3 = .ok (.invokevirtual 54, 3) := by decide +kernel
theorem dX6_readHead_6 : decode (dc DX6_readHead) 6 = .ok (.ifCond .eq 13, 3) := by decide +kernel
theorem dX6_readHead_9 : decode (dc DX6_readHead) 9 = .ok (.aload_n 0, 1) := by decide +kernel
theorem dX6_readHead_10 : decode (dc DX6_readHead) 10 = .ok (.iconst 1, 1) := by decide +kernel
theorem dX6_readHead_11 : decode (dc DX6_readHead) 11 = .ok (.bipush 12, 2) := by decide +kernel
theorem dX6_readHead_13 : decode (dc DX6_readHead) 13 = .ok (.invokevirtual 58, 3) := by decide +kernel
theorem dX6_readHead_16 : decode (dc DX6_readHead) 16 = .ok (.ifCond .ne 5, 3) := by decide +kernel
theorem dX6_readHead_19 : decode (dc DX6_readHead) 19 = .ok (.iconst 0, 1) := by decide +kernel
theorem dX6_readHead_20 : decode (dc DX6_readHead) 20 = .ok (.ireturn, 1) := by decide +kernel
theorem dX6_readHead_21 : decode (dc DX6_readHead) 21 = .ok (.aload_n 0, 1) := by decide +kernel
theorem dX6_readHead_22 : decode (dc DX6_readHead) 22 = .ok (.invokevirtual 62, 3) := by decide +kernel
theorem dX6_readHead_25 : decode (dc DX6_readHead) 25 = .ok (.istore_n 2, 1) := by decide +kernel
theorem dX6_readHead_26 : decode (dc DX6_readHead) 26 = .ok (.aload_n 0, 1) := by decide +kernel
theorem dX6_readHead_27 : decode (dc DX6_readHead) 27 = .ok (.invokevirtual 49, 3) := by decide +kernel
theorem dX6_readHead_30 : decode (dc DX6_readHead) 30 = .ok (.ifCond .eq 22, 3) := by decide +kernel
theorem dX6_readHead_33 : decode (dc DX6_readHead) 33 = .ok (.aload_n 0, 1) := by decide +kernel
theorem dX6_readHead_34 : decode (dc DX6_readHead) 34 = .ok (.ldc 66, 2) := by decide +kernel
theorem dX6_readHead_36 : decode (dc DX6_readHead) 36 = .ok (.invokevirtual 54, 3) := by decide +kernel
theorem dX6_readHead_39 : decode (dc DX6_readHead) 39 = .ok (.ifCond .eq 13, 3) := by decide +kernel
theorem dX6_readHead_42 : decode (dc DX6_readHead) 42 = .ok (.aload_n 0, 1) := by decide +kernel
theorem dX6_readHead_43 : decode (dc DX6_readHead) 43 = .ok (.iconst 1, 1) := by decide +kernel
theorem dX6_readHead_44 : decode (dc DX6_readHead) 44 = .ok (.bipush 12, 2) := by decide +kernel
theorem dX6_readHead_46 : decode (dc DX6_readHead) 46 = .ok (.invokevirtual 58, 3) := by decide +kernel
theorem dX6_readHead_49 : decode (dc DX6_readHead) 49 = .ok (.ifCond .ne 5, 3) := by decide +kernel
theorem dX6_readHead_52 : decode (dc DX6_readHead) 52 = .ok (.iconst 0, 1) := by decide +kernel
theorem dX6_readHead_53 : decode (dc DX6_readHead) 53 = .ok (.ireturn, 1) := by decide +kernel
theorem dX6_readHead_54 : decode (dc DX6_readHead) 54 = .ok (.aload_n 1, 1) := by decide +kernel
theorem dX6_readHead_55 : decode (dc DX6_readHead) 55 = .ok (.iload_n 2, 1) := by decide +kernel
theorem dX6_readHead_56 : decode (dc DX6_readHead) 56 = .ok (.aload_n 0, 1) := by decide +kernel
theorem dX6_readHead_57 : decode (dc DX6_readHead) 57 = .ok (.invokevirtual 62, 3) := by decide +kernel
theorem dX6_readHead_60 : decode (dc DX6_readHead) 60 = .ok (.invokevirtual 68, 3) := by decide +kernel
theorem dX6_readHead_63 : decode (dc DX6_readHead) 63 = .ok (.aload_n 0, 1) := by decide +kernel
theorem dX6_readHead_64 : decode (dc DX6_readHead) 64 = .ok (.invokevirtual 49, 3) := by decide +kernel
theorem dX6_readHead_67 : decode (dc DX6_readHead) 67 = .ok (.ireturn, 1) := by decide +kernel
theorem dX6_readAway_0 : decode (dc DX6_readAway) 0 = .ok (.aload_n 0, 1) := by decide +kernel
theorem dX6_readAway_1 : decode (dc DX6_readAway) 1 = .ok (.invokevirtual 74, 3) := by decide +kernel
theorem dX6_readAway_4 : decode (dc DX6_readAway) 4 = .ok (.aload_n 0, 1) := by decide +kernel
theorem dX6_readAway_5 : decode (dc DX6_readAway) 5 = .ok (.ldc 127, 2) := by decide +kernel
theorem dX6_readAway_7 : decode (dc DX6_readAway) 7 = .ok (.invokevirtual 79, 3) := by decide +kernel
theorem dX6_readAway_10 : decode (dc DX6_readAway) 10 = .ok (.ifCond .eq 7, 3) := by decide +kernel
theorem dX6_readAway_13 : decode (dc DX6_readAway) 13 = .ok (.iconst 0, 1) := by decide +kernel
theorem dX6_readAway_14 : decode (dc DX6_readAway) 14 = .ok (.goto 17, 3) := by decide +kernel
theorem dX6_readAway_17 : decode (dc DX6_readAway) 17 = .ok (.aload_n 0, 1) := by decide +kernel
theorem dX6_readAway_18 : decode (dc DX6_readAway) 18 = .ok (.ldc 129, 2) := by decide +kernel
theorem dX6_readAway_20 : decode (dc DX6_readAway) 20 = .ok (.invokevirtual 79, 3) := by decide +kernel
theorem dX6_readAway_23 : decode (dc DX6_readAway) 23 = .ok (.ifCond .eq 7, 3) := by decide +kernel
theorem dX6_readAway_26 : decode (dc DX6_readAway) 26 = .ok (.iconst 1, 1) := by decide +kernel
theorem dX6_readAway_27 : decode (dc DX6_readAway) 27 = .ok (.goto 4, 3) := by decide +kernel
theorem dX6_readAway_30 : decode (dc DX6_readAway) 30 = .ok (.iconst (-1), 1) := by decide +kernel
theorem dX6_readAway_31 : decode (dc DX6_readAway) 31 = .ok (.istore_n 2, 1) := by decide +kernel
theorem dX6_readAway_32 : decode (dc DX6_readAway) 32 = .ok (.iload_n 2, 1) := by decide +kernel
theorem dX6_readAway_33 : decode (dc DX6_readAway) 33 = .ok (.iconst (-1), 1) := by decide +kernel
theorem dX6_readAway_34 : decode (dc DX6_readAway) 34 = .ok (.if_icmp .ne 13, 3) := by decide +kernel
theorem dX6_readAway_37 : decode (dc DX6_readAway) 37 = .ok (.aload_n 0, 1) := by decide +kernel
theorem dX6_readAway_38 : decode (dc DX6_readAway) 38 = .ok (.iconst 1, 1) := by decide +kernel
theorem dX6_readAway_39 : decode (dc DX6_readAway) 39 = .ok (.aload_n 0, 1) := by decide +kernel
theorem dX6_readAway_40 : decode (dc DX6_readAway) 40 = .ok (.getfield 31, 3) := by decide +kernel
theorem dX6_readAway_43 : decode (dc DX6_readAway) 43 = .ok (.invokevirtual 105, 3) := by decide +kernel
theorem dX6_readAway_46 : decode (dc DX6_readAway) 46 = .ok (.ireturn, 1) := by decide +kernel
theorem dX6_readAway_47 : decode (dc DX6_readAway) 47 = .ok (.aload_n 0, 1) := by decide +kernel
theorem dX6_readAway_48 : decode (dc DX6_readAway) 48 = .ok (.iconst 0, 1) := by decide +kernel
theorem dX6_readAway_49 : decode (dc DX6_readAway) 49 = .ok (.iload_n 2, 1) := by decide +kernel
theorem dX6_readAway_50 : decode (dc DX6_readAway) 50 = .ok (.ifCond .ne 10, 3) := by decide +kernel
theorem dX6_readAway_53 : decode (dc DX6_readAway) 53 = .ok (.aload_n 1, 1) := by decide +kernel
theorem dX6_readAway_54 : decode (dc DX6_readAway) 54 = .ok (.getfield 108, 3) := by decide +kernel
theorem dX6_readAway_57 : decode (dc DX6_readAway) 57 = .ok (.goto 7, 3) := by decide +kernel
theorem dX6_readAway_60 : decode (dc DX6_readAway) 60 = .ok (.aload_n 1, 1) := by decide +kernel
theorem dX6_readAway_61 : decode (dc DX6_readAway) 61 = .ok (.getfield 110, 3) := by decide +kernel
theorem dX6_readAway_64 : decode (dc DX6_readAway) 64 = .ok (.iconst 1, 1) := by decide +kernel
theorem dX6_readAway_65 : decode (dc DX6_readAway) 65 = .ok (.isub, 1) := by decide +kernel
theorem dX6_readAway_66 : decode (dc DX6_readAway) 66 = .ok (.invokevirtual 58, 3) := by decide +kernel
theorem dX6_readAway_69 : decode (dc DX6_readAway) 69 = .ok (.ifCond .ne 5, 3) := by decide +kernel
theorem dX6_readAway_72 : decode (dc DX6_readAway) 72 = .ok (.iconst 0, 1) := by decide +kernel
theorem dX6_readAway_73 : decode (dc DX6_readAway) 73 = .ok (.ireturn, 1) := by decide +kernel
theorem dX6_readAway_74 : decode (dc DX6_readAway) 74 = .ok (.aload_n 0, 1) := by decide +kernel
theorem dX6_readAway_75 : decode (dc DX6_readAway) 75 = .ok (.invokevirtual 62, 3) := by decide +kernel
theorem dX6_readAway_78 : decode (dc DX6_readAway) 78 = .ok (.istore_n 3, 1) := by decide +kernel
theorem dX6_readAway_79 : decode (dc DX6_readAway) 79 = .ok (.aload_n 1, 1) := by decide +kernel
theorem dX6_readAway_80 : decode (dc DX6_readAway) 80 = .ok (.iload_n 2, 1) := by decide +kernel
theorem dX6_readAway_81 : decode (dc DX6_readAway) 81 = .ok (.iload_n 3, 1) := by decide +kernel
theorem dX6_readAway_82 : decode (dc DX6_readAway) 82 = .ok (.invokevirtual 131, 3) := by decide +kernel
theorem dX6_readAway_85 : decode (dc DX6_readAway) 85 = .ok (.ifCond .ne 13, 3) := by decide +kernel
theorem dX6_readAway_88 : decode (dc DX6_readAway) 88 = .ok (.aload_n 0, 1) := by decide +kernel
theorem dX6_readAway_89 : decode (dc DX6_readAway) 89 = .ok (.iconst 5, 1) := by decide +kernel
theorem dX6_readAway_90 : decode (dc DX6_readAway) 90 = .ok (.aload_n 0, 1) := by decide +kernel
theorem dX6_readAway_91 : decode (dc DX6_readAway) 91 = .ok (.getfield 31, 3) := by decide +kernel
theorem dX6_readAway_94 : decode (dc DX6_readAway) 94 = .ok (.invokevirtual 105, 3) := by decide +kernel
theorem dX6_readAway_97 : decode (dc DX6_readAway) 97 = .ok (.ireturn, 1) := by decide +kernel
theorem dX6_readAway_98 : decode (dc DX6_readAway) 98 = .ok (.aload_n 1, 1) := by decide +kernel
theorem dX6_readAway_99 : decode (dc DX6_readAway) 99 = .ok (.iload_n 2, 1) := by decide +kernel
theorem dX6_readAway_100 : decode (dc DX6_readAway) 100 = .ok (.iload_n 3, 1) := by decide +kernel
theorem dX6_readAway_101 : decode (dc DX6_readAway) 101 = .ok (.iconst 0, 1) := by decide +kernel
theorem dX6_readAway_102 : decode (dc DX6_readAway) 102 = .ok (.invokevirtual 134, 3) := by decide +kernel
theorem dX6_readAway_105 : decode (dc DX6_readAway) 105 = .ok (.iconst 1, 1) := by decide +kernel
theorem dX6_readAway_106 : decode (dc DX6_readAway) 106 = .ok (.ireturn, 1) := by decide +kernel
theorem dX6_readFit_0 : decode (dc DX6_readFit) 0 = .ok (.aload_n 0, 1) := by decide +kernel
theorem dX6_readFit_1 : decode (dc DX6_readFit) 1 = .ok (.iconst 0, 1) := by decide +kernel
theorem dX6_readFit_2 : decode (dc DX6_readFit) 2 = .ok (.aload_n 1, 1) := by decide +kernel
theorem dX6_readFit_3 : decode (dc DX6_readFit) 3 = .ok (.getfield 108, 3) := by decide +kernel
theorem dX6_readFit_6 : decode (dc DX6_readFit) 6 = .ok (.iconst 1, 1) := by decide +kernel
theorem dX6_readFit_7 : decode (dc DX6_readFit) 7 = .ok (.isub, 1) := by decide +kernel
theorem dX6_readFit_8 : decode (dc DX6_readFit) 8 = .ok (.invokevirtual 58, 3) := by decide +kernel
theorem dX6_readFit_11 : decode (dc DX6_readFit) 11 = .ok (.ifCond .ne 5, 3) := by decide +kernel
theorem dX6_readFit_14 : decode (dc DX6_readFit) 14 = .ok (.iconst 0, 1) := by decide +kernel
theorem dX6_readFit_15 : decode (dc DX6_readFit) 15 = .ok (.ireturn, 1) := by decide +kernel
theorem dX6_readFit_16 : decode (dc DX6_readFit) 16 = .ok (.aload_n 0, 1) := by decide +kernel
theorem dX6_readFit_17 : decode (dc DX6_readFit) 17 = .ok (.invokevirtual 62, 3) := by decide +kernel
theorem dX6_readFit_20 : decode (dc DX6_readFit) 20 = .ok (.istore_n 2, 1) := by decide +kernel
theorem dX6_readFit_21 : decode (dc DX6_readFit) 21 = .ok (.aload_n 0, 1) := by decide +kernel
theorem dX6_readFit_22 : decode (dc DX6_readFit) 22 = .ok (.iconst 0, 1) := by decide +kernel
theorem dX6_readFit_23 : decode (dc DX6_readFit) 23 = .ok (.aload_n 1, 1) := by decide +kernel
theorem dX6_readFit_24 : decode (dc DX6_readFit) 24 = .ok (.getfield 110, 3) := by decide +kernel
theorem dX6_readFit_27 : decode (dc DX6_readFit) 27 = .ok (.iconst 1, 1) := by decide +kernel
theorem dX6_readFit_28 : decode (dc DX6_readFit) 28 = .ok (.isub, 1) := by decide +kernel
theorem dX6_readFit_29 : decode (dc DX6_readFit) 29 = .ok (.invokevirtual 58, 3) := by decide +kernel
theorem dX6_readFit_32 : decode (dc DX6_readFit) 32 = .ok (.ifCond .ne 5, 3) := by decide +kernel
theorem dX6_readFit_35 : decode (dc DX6_readFit) 35 = .ok (.iconst 0, 1) := by decide +kernel
theorem dX6_readFit_36 : decode (dc DX6_readFit) 36 = .ok (.ireturn, 1) := by decide +kernel
theorem dX6_readFit_37 : decode (dc DX6_readFit) 37 = .ok (.aload_n 0, 1) := by decide +kernel
theorem dX6_readFit_38 : decode (dc DX6_readFit) 38 = .ok (.invokevirtual 62, 3) := by decide +kernel
theorem dX6_readFit_41 : decode (dc DX6_readFit) 41 = .ok (.istore_n 3, 1) := by decide +kernel
theorem dX6_readFit_42 : decode (dc DX6_readFit) 42 = .ok (.iconst 0, 1) := by decide +kernel
theorem dX6_readFit_43 : decode (dc DX6_readFit) 43 = .ok (.istore 4, 2) := by decide +kernel
theorem dX6_readFit_45 : decode (dc DX6_readFit) 45 = .ok (.aload_n 0, 1) := by decide +kernel
theorem dX6_readFit_46 : decode (dc DX6_readFit) 46 = .ok (.invokevirtual 112, 3) := by decide +kernel
theorem dX6_readFit_49 : decode (dc DX6_readFit) 49 = .ok (.aload_n 0, 1) := by decide +kernel
theorem dX6_readFit_50 : decode (dc DX6_readFit) 50 = .ok (.aload_n 0, 1) := by decide +kernel
theorem dX6_readFit_51 : decode (dc DX6_readFit) 51 = .ok (.getfield 28, 3) := by decide +kernel
theorem dX6_readFit_54 : decode (dc DX6_readFit) 54 = .ok (.invokevirtual 115, 3) := by decide +kernel
theorem dX6_readFit_57 : decode (dc DX6_readFit) 57 = .ok (.invokestatic 119, 3) := by decide +kernel
theorem dX6_readFit_60 : decode (dc DX6_readFit) 60 = .ok (.ifCond .eq 21, 3) := by decide +kernel
theorem dX6_readFit_63 : decode (dc DX6_readFit) 63 = .ok (.aload_n 0, 1) := by decide +kernel
theorem dX6_readFit_64 : decode (dc DX6_readFit) 64 = .ok (.iconst 0, 1) := by decide +kernel
theorem dX6_readFit_65 : decode (dc DX6_readFit) 65 = .ok (.bipush 99, 2) := by decide +kernel
theorem dX6_readFit_67 : decode (dc DX6_readFit) 67 = .ok (.invokevirtual 58, 3) := by decide +kernel
theorem dX6_readFit_70 : decode (dc DX6_readFit) 70 = .ok (.ifCond .ne 5, 3) := by decide +kernel
theorem dX6_readFit_73 : decode (dc DX6_readFit) 73 = .ok (.iconst 0, 1) := by decide +kernel
theorem dX6_readFit_74 : decode (dc DX6_readFit) 74 = .ok (.ireturn, 1) := by decide +kernel
theorem dX6_readFit_75 : decode (dc DX6_readFit) 75 = .ok (.aload_n 0, 1) := by decide +kernel
theorem dX6_readFit_76 : decode (dc DX6_readFit) 76 = .ok (.invokevirtual 62, 3) := by decide +kernel
theorem dX6_readFit_79 : decode (dc DX6_readFit) 79 = .ok (.istore 4, 2) := by decide +kernel
theorem dX6_readFit_81 : decode (dc DX6_readFit) 81 = .ok (.aload_n 1, 1) := by decide +kernel
theorem dX6_readFit_82 : decode (dc DX6_readFit) 82 = .ok (.iload_n 2, 1) := by decide +kernel
theorem dX6_readFit_83 : decode (dc DX6_readFit) 83 = .ok (.iload_n 3, 1) := by decide +kernel
theorem dX6_readFit_84 : decode (dc DX6_readFit) 84 = .ok (.iload 4, 2) := by decide +kernel
theorem dX6_readFit_86 : decode (dc DX6_readFit) 86 = .ok (.invokevirtual 123, 3) := by decide +kernel
theorem dX6_readFit_89 : decode (dc DX6_readFit) 89 = .ok (.iconst 1, 1) := by decide +kernel
theorem dX6_readFit_90 : decode (dc DX6_readFit) 90 = .ok (.ireturn, 1) := by decide +kernel
theorem dX6_readKeep_0 : decode (dc DX6_readKeep) 0 = .ok (.aload_n 0, 1) := by decide +kernel
theorem dX6_readKeep_1 : decode (dc DX6_readKeep) 1 = .ok (.getfield 34, 3) := by decide +kernel
theorem dX6_readKeep_4 : decode (dc DX6_readKeep) 4 = .ok (.ifCond .eq 13, 3) := by decide +kernel
theorem dX6_readKeep_7 : decode (dc DX6_readKeep) 7 = .ok (.aload_n 0, 1) := by decide +kernel
theorem dX6_readKeep_8 : decode (dc DX6_readKeep) 8 = .ok (.iconst 3, 1) := by decide +kernel
theorem dX6_readKeep_9 : decode (dc DX6_readKeep) 9 = .ok (.aload_n 0, 1) := by decide +kernel
theorem dX6_readKeep_10 : decode (dc DX6_readKeep) 10 = .ok (.getfield 31, 3) := by decide +kernel
theorem dX6_readKeep_13 : decode (dc DX6_readKeep) 13 = .ok (.invokevirtual 105, 3) := by decide +kernel
theorem dX6_readKeep_16 : decode (dc DX6_readKeep) 16 = .ok (.ireturn, 1) := by decide +kernel
theorem dX6_readKeep_17 : decode (dc DX6_readKeep) 17 = .ok (.aload_n 0, 1) := by decide +kernel
theorem dX6_readKeep_18 : decode (dc DX6_readKeep) 18 = .ok (.iconst 1, 1) := by decide +kernel
theorem dX6_readKeep_19 : decode (dc DX6_readKeep) 19 = .ok (.putfield 34, 3) := by decide +kernel
theorem dX6_readKeep_22 : decode (dc DX6_readKeep) 22 = .ok (.aload_n 0, 1) := by decide +kernel
theorem dX6_readKeep_23 : decode (dc DX6_readKeep) 23 = .ok (.iconst 0, 1) := by decide +kernel
theorem dX6_readKeep_24 : decode (dc DX6_readKeep) 24 = .ok (.iconst 1, 1) := by decide +kernel
theorem dX6_readKeep_25 : decode (dc DX6_readKeep) 25 = .ok (.invokevirtual 58, 3) := by decide +kernel
theorem dX6_readKeep_28 : decode (dc DX6_readKeep) 28 = .ok (.ifCond .ne 5, 3) := by decide +kernel
theorem dX6_readKeep_31 : decode (dc DX6_readKeep) 31 = .ok (.iconst 0, 1) := by decide +kernel
theorem dX6_readKeep_32 : decode (dc DX6_readKeep) 32 = .ok (.ireturn, 1) := by decide +kernel
theorem dX6_readKeep_33 : decode (dc DX6_readKeep) 33 = .ok (.aload_n 1, 1) := by decide +kernel
theorem dX6_readKeep_34 : decode (dc DX6_readKeep) 34 = .ok (.aload_n 0, 1) := by decide +kernel
theorem dX6_readKeep_35 : decode (dc DX6_readKeep) 35 = .ok (.invokevirtual 62, 3) := by decide +kernel
theorem dX6_readKeep_38 : decode (dc DX6_readKeep) 38 = .ok (.putfield 153, 3) := by decide +kernel
theorem dX6_readKeep_41 : decode (dc DX6_readKeep) 41 = .ok (.iconst 1, 1) := by decide +kernel
theorem dX6_readKeep_42 : decode (dc DX6_readKeep) 42 = .ok (.ireturn, 1) := by decide +kernel
theorem dX6_readPair_0 : decode (dc DX6_readPair) 0 = .ok (.aload_n 0, 1) := by decide +kernel
theorem dX6_readPair_1 : decode (dc DX6_readPair) 1 = .ok (.iconst 0, 1) := by decide +kernel
theorem dX6_readPair_2 : decode (dc DX6_readPair) 2 = .ok (.aload_n 1, 1) := by decide +kernel
theorem dX6_readPair_3 : decode (dc DX6_readPair) 3 = .ok (.getfield 108, 3) := by decide +kernel
theorem dX6_readPair_6 : decode (dc DX6_readPair) 6 = .ok (.iconst 1, 1) := by decide +kernel
theorem dX6_readPair_7 : decode (dc DX6_readPair) 7 = .ok (.isub, 1) := by decide +kernel
theorem dX6_readPair_8 : decode (dc DX6_readPair) 8 = .ok (.invokevirtual 58, 3) := by decide +kernel
theorem dX6_readPair_11 : decode (dc DX6_readPair) 11 = .ok (.ifCond .ne 5, 3) := by decide +kernel
theorem dX6_readPair_14 : decode (dc DX6_readPair) 14 = .ok (.iconst 0, 1) := by decide +kernel
theorem dX6_readPair_15 : decode (dc DX6_readPair) 15 = .ok (.ireturn, 1) := by decide +kernel
theorem dX6_readPair_16 : decode (dc DX6_readPair) 16 = .ok (.aload_n 0, 1) := by decide +kernel
theorem dX6_readPair_17 : decode (dc DX6_readPair) 17 = .ok (.invokevirtual 62, 3) := by decide +kernel
theorem dX6_readPair_20 : decode (dc DX6_readPair) 20 = .ok (.istore_n 2, 1) := by decide +kernel
theorem dX6_readPair_21 : decode (dc DX6_readPair) 21 = .ok (.aload_n 0, 1) := by decide +kernel
theorem dX6_readPair_22 : decode (dc DX6_readPair) 22 = .ok (.getfield 31, 3) := by decide +kernel
theorem dX6_readPair_25 : decode (dc DX6_readPair) 25 = .ok (.istore_n 3, 1) := by decide +kernel
theorem dX6_readPair_26 : decode (dc DX6_readPair) 26 = .ok (.aload_n 1, 1) := by decide +kernel
theorem dX6_readPair_27 : decode (dc DX6_readPair) 27 = .ok (.iconst 0, 1) := by decide +kernel
theorem dX6_readPair_28 : decode (dc DX6_readPair) 28 = .ok (.iload_n 2, 1) := by decide +kernel
theorem dX6_readPair_29 : decode (dc DX6_readPair) 29 = .ok (.invokevirtual 131, 3) := by decide +kernel
theorem dX6_readPair_32 : decode (dc DX6_readPair) 32 = .ok (.ifCond .ne 10, 3) := by decide +kernel
theorem dX6_readPair_35 : decode (dc DX6_readPair) 35 = .ok (.aload_n 0, 1) := by decide +kernel
theorem dX6_readPair_36 : decode (dc DX6_readPair) 36 = .ok (.iconst 4, 1) := by decide +kernel
theorem dX6_readPair_37 : decode (dc DX6_readPair) 37 = .ok (.iload_n 3, 1) := by decide +kernel
theorem dX6_readPair_38 : decode (dc DX6_readPair) 38 = .ok (.invokevirtual 105, 3) := by decide +kernel
theorem dX6_readPair_41 : decode (dc DX6_readPair) 41 = .ok (.ireturn, 1) := by decide +kernel
theorem dX6_readPair_42 : decode (dc DX6_readPair) 42 = .ok (.aload_n 0, 1) := by decide +kernel
theorem dX6_readPair_43 : decode (dc DX6_readPair) 43 = .ok (.iconst 0, 1) := by decide +kernel
theorem dX6_readPair_44 : decode (dc DX6_readPair) 44 = .ok (.aload_n 1, 1) := by decide +kernel
theorem dX6_readPair_45 : decode (dc DX6_readPair) 45 = .ok (.getfield 110, 3) := by decide +kernel
theorem dX6_readPair_48 : decode (dc DX6_readPair) 48 = .ok (.iconst 1, 1) := by decide +kernel
theorem dX6_readPair_49 : decode (dc DX6_readPair) 49 = .ok (.isub, 1) := by decide +kernel
theorem dX6_readPair_50 : decode (dc DX6_readPair) 50 = .ok (.invokevirtual 58, 3) := by decide +kernel
theorem dX6_readPair_53 : decode (dc DX6_readPair) 53 = .ok (.ifCond .ne 5, 3) := by decide +kernel
theorem dX6_readPair_56 : decode (dc DX6_readPair) 56 = .ok (.iconst 0, 1) := by decide +kernel
theorem dX6_readPair_57 : decode (dc DX6_readPair) 57 = .ok (.ireturn, 1) := by decide +kernel
theorem dX6_readPair_58 : decode (dc DX6_readPair) 58 = .ok (.aload_n 0, 1) := by decide +kernel
theorem dX6_readPair_59 : decode (dc DX6_readPair) 59 = .ok (.invokevirtual 62, 3) := by decide +kernel
theorem dX6_readPair_62 : decode (dc DX6_readPair) 62 = .ok (.istore 4, 2) := by decide +kernel
theorem dX6_readPair_64 : decode (dc DX6_readPair) 64 = .ok (.aload_n 1, 1) := by decide +kernel
theorem dX6_readPair_65 : decode (dc DX6_readPair) 65 = .ok (.iconst 1, 1) := by decide +kernel
theorem dX6_readPair_66 : decode (dc DX6_readPair) 66 = .ok (.iload 4, 2) := by decide +kernel
theorem dX6_readPair_68 : decode (dc DX6_readPair) 68 = .ok (.invokevirtual 131, 3) := by decide +kernel
theorem dX6_readPair_71 : decode (dc DX6_readPair) 71 = .ok (.ifCond .eq 13, 3) := by decide +kernel
theorem dX6_readPair_74 : decode (dc DX6_readPair) 74 = .ok (.aload_n 1, 1) := by decide +kernel
theorem dX6_readPair_75 : decode (dc DX6_readPair) 75 = .ok (.iload_n 2, 1) := by decide +kernel
theorem dX6_readPair_76 : decode (dc DX6_readPair) 76 = .ok (.iload 4, 2) := by decide +kernel
theorem dX6_readPair_78 : decode (dc DX6_readPair) 78 = .ok (.invokevirtual 138, 3) := by decide +kernel
theorem dX6_readPair_81 : decode (dc DX6_readPair) 81 = .ok (.ifCond .ne 10, 3) := by decide +kernel
theorem dX6_readPair_84 : decode (dc DX6_readPair) 84 = .ok (.aload_n 0, 1) := by decide +kernel
theorem dX6_readPair_85 : decode (dc DX6_readPair) 85 = .ok (.iconst 4, 1) := by decide +kernel
theorem dX6_readPair_86 : decode (dc DX6_readPair) 86 = .ok (.iload_n 3, 1) := by decide +kernel
theorem dX6_readPair_87 : decode (dc DX6_readPair) 87 = .ok (.invokevirtual 105, 3) := by decide +kernel
theorem dX6_readPair_90 : decode (dc DX6_readPair) 90 = .ok (.ireturn, 1) := by decide +kernel
theorem dX6_readPair_91 : decode (dc DX6_readPair) 91 = .ok (.aload_n 1, 1) := by decide +kernel
theorem dX6_readPair_92 : decode (dc DX6_readPair) 92 = .ok (.getfield 141, 3) := by decide +kernel
theorem dX6_readPair_95 : decode (dc DX6_readPair) 95 = .ok (.iload_n 2, 1) := by decide +kernel
theorem dX6_readPair_96 : decode (dc DX6_readPair) 96 = .ok (.iload 4, 2) := by decide +kernel
theorem dX6_readPair_98 : decode (dc DX6_readPair) 98 = .ok (.invokevirtual 145, 3) := by decide +kernel
theorem dX6_readPair_101 : decode (dc DX6_readPair) 101 = .ok (.iconst 1, 1) := by decide +kernel
theorem dX6_readPair_102 : decode (dc DX6_readPair) 102 = .ok (.ireturn, 1) := by decide +kernel
theorem dX6_readWeight_0 : decode (dc DX6_readWeight) 0 = .ok (.aload_n 0, 1) := by decide +kernel
theorem dX6_readWeight_1 : decode (dc DX6_readWeight) 1 = .ok (.iconst 0, 1) := by decide +kernel
theorem dX6_readWeight_2 : decode (dc DX6_readWeight) 2 = .ok (.aload_n 1, 1) := by decide +kernel
theorem dX6_readWeight_3 : decode (dc DX6_readWeight) 3 = .ok (.getfield 108, 3) := by decide +kernel
theorem dX6_readWeight_6 : decode (dc DX6_readWeight) 6 = .ok (.iconst 1, 1) := by decide +kernel
theorem dX6_readWeight_7 : decode (dc DX6_readWeight) 7 = .ok (.isub, 1) := by decide +kernel
theorem dX6_readWeight_8 : decode (dc DX6_readWeight) 8 = .ok (.invokevirtual 58, 3) := by decide +kernel
theorem dX6_readWeight_11 : decode (dc DX6_readWeight) 11 = .ok (.ifCond .ne 5, 3) := by decide +kernel
theorem dX6_readWeight_14 : decode (dc DX6_readWeight) 14 = .ok (.iconst 0, 1) := by decide +kernel
theorem dX6_readWeight_15 : decode (dc DX6_readWeight) 15 = .ok (.ireturn, 1) := by decide +kernel
theorem dX6_readWeight_16 : decode (dc DX6_readWeight) 16 = .ok (.aload_n 0, 1) := by decide +kernel
theorem dX6_readWeight_17 : decode (dc DX6_readWeight) 17 = .ok (.invokevirtual 62, 3) := by decide +kernel
theorem dX6_readWeight_20 : decode (dc DX6_readWeight) 20 = .ok (.istore_n 2, 1) := by decide +kernel
theorem dX6_readWeight_21 : decode (dc DX6_readWeight) 21 = .ok (.aload_n 0, 1) := by decide +kernel
theorem dX6_readWeight_22 : decode (dc DX6_readWeight) 22 = .ok (.iconst 0, 1) := by decide +kernel
theorem dX6_readWeight_23 : decode (dc DX6_readWeight) 23 = .ok (.bipush 99, 2) := by decide +kernel
theorem dX6_readWeight_25 : decode (dc DX6_readWeight) 25 = .ok (.invokevirtual 58, 3) := by decide +kernel
theorem dX6_readWeight_28 : decode (dc DX6_readWeight) 28 = .ok (.ifCond .ne 5, 3) := by decide +kernel
theorem dX6_readWeight_31 : decode (dc DX6_readWeight) 31 = .ok (.iconst 0, 1) := by decide +kernel
theorem dX6_readWeight_32 : decode (dc DX6_readWeight) 32 = .ok (.ireturn, 1) := by decide +kernel
theorem dX6_readWeight_33 : decode (dc DX6_readWeight) 33 = .ok (.aload_n 1, 1) := by decide +kernel
theorem dX6_readWeight_34 : decode (dc DX6_readWeight) 34 = .ok (.iload_n 2, 1) := by decide +kernel
theorem dX6_readWeight_35 : decode (dc DX6_readWeight) 35 = .ok (.aload_n 0, 1) := by decide +kernel
theorem dX6_readWeight_36 : decode (dc DX6_readWeight) 36 = .ok (.invokevirtual 62, 3) := by decide +kernel
theorem dX6_readWeight_39 : decode (dc DX6_readWeight) 39 = .ok (.invokevirtual 150, 3) := by decide +kernel
theorem dX6_readWeight_42 : decode (dc DX6_readWeight) 42 = .ok (.iconst 1, 1) := by decide +kernel
theorem dX6_readWeight_43 : decode (dc DX6_readWeight) 43 = .ok (.ireturn, 1) := by decide +kernel
theorem dX6_readLine_0 : decode (dc DX6_readLine) 0 = .ok (.aload_n 0, 1) := by decide +kernel
theorem dX6_readLine_1 : decode (dc DX6_readLine) 1 = .ok (.invokevirtual 74, 3) := by decide +kernel
theorem dX6_readLine_4 : decode (dc DX6_readLine) 4 = .ok (.aload_n 0, 1) := by decide +kernel
theorem dX6_readLine_5 : decode (dc DX6_readLine) 5 = .ok (.ldc 77, 2) := by decide +kernel
theorem dX6_readLine_7 : decode (dc DX6_readLine) 7 = .ok (.invokevirtual 79, 3) := by decide +kernel
theorem dX6_readLine_10 : decode (dc DX6_readLine) 10 = .ok (.ifCond .eq 9, 3) := by decide +kernel
theorem dX6_readLine_13 : decode (dc DX6_readLine) 13 = .ok (.aload_n 0, 1) := by decide +kernel
theorem dX6_readLine_14 : decode (dc DX6_readLine) 14 = .ok (.aload_n 1, 1) := by decide +kernel
theorem dX6_readLine_15 : decode (dc DX6_readLine) 15 = .ok (.invokevirtual 82, 3) := by decide +kernel
theorem dX6_readLine_18 : decode (dc DX6_readLine) 18 = .ok (.ireturn, 1) := by decide +kernel
theorem dX6_readLine_19 : decode (dc DX6_readLine) 19 = .ok (.aload_n 0, 1) := by decide +kernel
theorem dX6_readLine_20 : decode (dc DX6_readLine) 20 = .ok (.ldc 85, 2) := by decide +kernel
theorem dX6_readLine_22 : decode (dc DX6_readLine) 22 = .ok (.invokevirtual 79, 3) := by decide +kernel
theorem dX6_readLine_25 : decode (dc DX6_readLine) 25 = .ok (.ifCond .eq 9, 3) := by decide +kernel
theorem dX6_readLine_28 : decode (dc DX6_readLine) 28 = .ok (.aload_n 0, 1) := by decide +kernel
theorem dX6_readLine_29 : decode (dc DX6_readLine) 29 = .ok (.aload_n 1, 1) := by decide +kernel
theorem dX6_readLine_30 : decode (dc DX6_readLine) 30 = .ok (.invokevirtual 87, 3) := by decide +kernel
theorem dX6_readLine_33 : decode (dc DX6_readLine) 33 = .ok (.ireturn, 1) := by decide +kernel
theorem dX6_readLine_34 : decode (dc DX6_readLine) 34 = .ok (.aload_n 0, 1) := by decide +kernel
theorem dX6_readLine_35 : decode (dc DX6_readLine) 35 = .ok (.ldc 90, 2) := by decide +kernel
theorem dX6_readLine_37 : decode (dc DX6_readLine) 37 = .ok (.invokevirtual 79, 3) := by decide +kernel
theorem dX6_readLine_40 : decode (dc DX6_readLine) 40 = .ok (.ifCond .eq 9, 3) := by decide +kernel
theorem dX6_readLine_43 : decode (dc DX6_readLine) 43 = .ok (.aload_n 0, 1) := by decide +kernel
theorem dX6_readLine_44 : decode (dc DX6_readLine) 44 = .ok (.aload_n 1, 1) := by decide +kernel
theorem dX6_readLine_45 : decode (dc DX6_readLine) 45 = .ok (.invokevirtual 92, 3) := by decide +kernel
theorem dX6_readLine_48 : decode (dc DX6_readLine) 48 = .ok (.ireturn, 1) := by decide +kernel
theorem dX6_readLine_49 : decode (dc DX6_readLine) 49 = .ok (.aload_n 0, 1) := by decide +kernel
theorem dX6_readLine_50 : decode (dc DX6_readLine) 50 = .ok (.ldc 95, 2) := by decide +kernel
theorem dX6_readLine_52 : decode (dc DX6_readLine) 52 = .ok (.invokevirtual 79, 3) := by decide +kernel
theorem dX6_readLine_55 : decode (dc DX6_readLine) 55 = .ok (.ifCond .eq 9, 3) := by decide +kernel
theorem dX6_readLine_58 : decode (dc DX6_readLine) 58 = .ok (.aload_n 0, 1) := by decide +kernel
theorem dX6_readLine_59 : decode (dc DX6_readLine) 59 = .ok (.aload_n 1, 1) := by decide +kernel
theorem dX6_readLine_60 : decode (dc DX6_readLine) 60 = .ok (.invokevirtual 97, 3) := by decide +kernel
theorem dX6_readLine_63 : decode (dc DX6_readLine) 63 = .ok (.ireturn, 1) := by decide +kernel
theorem dX6_readLine_64 : decode (dc DX6_readLine) 64 = .ok (.aload_n 0, 1) := by decide +kernel
theorem dX6_readLine_65 : decode (dc DX6_readLine) 65 = .ok (.ldc 100, 2) := by decide +kernel
theorem dX6_readLine_67 : decode (dc DX6_readLine) 67 = .ok (.invokevirtual 79, 3) := by decide +kernel
theorem dX6_readLine_70 : decode (dc DX6_readLine) 70 = .ok (.ifCond .eq 9, 3) := by decide +kernel
theorem dX6_readLine_73 : decode (dc DX6_readLine) 73 = .ok (.aload_n 0, 1) := by decide +kernel
theorem dX6_readLine_74 : decode (dc DX6_readLine) 74 = .ok (.aload_n 1, 1) := by decide +kernel
theorem dX6_readLine_75 : decode (dc DX6_readLine) 75 = .ok (.invokevirtual 102, 3) := by decide +kernel
theorem dX6_readLine_78 : decode (dc DX6_readLine) 78 = .ok (.ireturn, 1) := by decide +kernel
theorem dX6_readLine_79 : decode (dc DX6_readLine) 79 = .ok (.aload_n 0, 1) := by decide +kernel
theorem dX6_readLine_80 : decode (dc DX6_readLine) 80 = .ok (.iconst 1, 1) := by decide +kernel
theorem dX6_readLine_81 : decode (dc DX6_readLine) 81 = .ok (.aload_n 0, 1) := by decide +kernel
theorem dX6_readLine_82 : decode (dc DX6_readLine) 82 = .ok (.getfield 31, 3) := by decide +kernel
theorem dX6_readLine_85 : decode (dc DX6_readLine) 85 = .ok (.invokevirtual 105, 3) := by decide +kernel
theorem dX6_readLine_88 : decode (dc DX6_readLine) 88 = .ok (.ireturn, 1) := by decide +kernel
theorem dX6_read_0 : decode (dc DX6_read) 0 = .ok (.aload_n 0, 1) := by decide +kernel
theorem dX6_read_1 : decode (dc DX6_read) 1 = .ok (.iload_n 1, 1) := by decide +kernel
theorem dX6_read_2 : decode (dc DX6_read) 2 = .ok (.putfield 25, 3) := by decide +kernel
theorem dX6_read_5 : decode (dc DX6_read) 5 = .ok (.aload_n 0, 1) := by decide +kernel
theorem dX6_read_6 : decode (dc DX6_read) 6 = .ok (.iconst 0, 1) := by decide +kernel
theorem dX6_read_7 : decode (dc DX6_read) 7 = .ok (.putfield 28, 3) := by decide +kernel
theorem dX6_read_10 : decode (dc DX6_read) 10 = .ok (.aload_n 0, 1) := by decide +kernel
theorem dX6_read_11 : decode (dc DX6_read) 11 = .ok (.iconst (-1), 1) := by decide +kernel
theorem dX6_read_12 : decode (dc DX6_read) 12 = .ok (.putfield 19, 3) := by decide +kernel
theorem dX6_read_15 : decode (dc DX6_read) 15 = .ok (.aload_n 0, 1) := by decide +kernel
theorem dX6_read_16 : decode (dc DX6_read) 16 = .ok (.iconst 0, 1) := by decide +kernel
theorem dX6_read_17 : decode (dc DX6_read) 17 = .ok (.putfield 22, 3) := by decide +kernel
theorem dX6_read_20 : decode (dc DX6_read) 20 = .ok (.aload_n 0, 1) := by decide +kernel
theorem dX6_read_21 : decode (dc DX6_read) 21 = .ok (.iconst 0, 1) := by decide +kernel
theorem dX6_read_22 : decode (dc DX6_read) 22 = .ok (.putfield 34, 3) := by decide +kernel
theorem dX6_read_25 : decode (dc DX6_read) 25 = .ok (.aload_n 0, 1) := by decide +kernel
theorem dX6_read_26 : decode (dc DX6_read) 26 = .ok (.iconst 0, 1) := by decide +kernel
theorem dX6_read_27 : decode (dc DX6_read) 27 = .ok (.putfield 15, 3) := by decide +kernel
theorem dX6_read_30 : decode (dc DX6_read) 30 = .ok (.aload_n 0, 1) := by decide +kernel
theorem dX6_read_31 : decode (dc DX6_read) 31 = .ok (.aload_n 2, 1) := by decide +kernel
theorem dX6_read_32 : decode (dc DX6_read) 32 = .ok (.invokevirtual 38, 3) := by decide +kernel
theorem dX6_read_35 : decode (dc DX6_read) 35 = .ok (.istore_n 3, 1) := by decide +kernel
theorem dX6_read_36 : decode (dc DX6_read) 36 = .ok (.iconst 0, 1) := by decide +kernel
theorem dX6_read_37 : decode (dc DX6_read) 37 = .ok (.istore 4, 2) := by decide +kernel
theorem dX6_read_39 : decode (dc DX6_read) 39 = .ok (.iload 4, 2) := by decide +kernel
theorem dX6_read_41 : decode (dc DX6_read) 41 = .ok (.sipush 300, 3) := by decide +kernel
theorem dX6_read_44 : decode (dc DX6_read) 44 = .ok (.if_icmp .ge 41, 3) := by decide +kernel
theorem dX6_read_47 : decode (dc DX6_read) 47 = .ok (.iload_n 3, 1) := by decide +kernel
theorem dX6_read_48 : decode (dc DX6_read) 48 = .ok (.ifCond .eq 37, 3) := by decide +kernel
theorem dX6_read_51 : decode (dc DX6_read) 51 = .ok (.aload_n 0, 1) := by decide +kernel
theorem dX6_read_52 : decode (dc DX6_read) 52 = .ok (.invokevirtual 42, 3) := by decide +kernel
theorem dX6_read_55 : decode (dc DX6_read) 55 = .ok (.ifCond .eq 30, 3) := by decide +kernel
theorem dX6_read_58 : decode (dc DX6_read) 58 = .ok (.aload_n 0, 1) := by decide +kernel
theorem dX6_read_59 : decode (dc DX6_read) 59 = .ok (.aload_n 2, 1) := by decide +kernel
theorem dX6_read_60 : decode (dc DX6_read) 60 = .ok (.invokevirtual 46, 3) := by decide +kernel
theorem dX6_read_63 : decode (dc DX6_read) 63 = .ok (.ifCond .eq 14, 3) := by decide +kernel
theorem dX6_read_66 : decode (dc DX6_read) 66 = .ok (.aload_n 0, 1) := by decide +kernel
theorem dX6_read_67 : decode (dc DX6_read) 67 = .ok (.invokevirtual 49, 3) := by decide +kernel
theorem dX6_read_70 : decode (dc DX6_read) 70 = .ok (.ifCond .eq 7, 3) := by decide +kernel
theorem dX6_read_73 : decode (dc DX6_read) 73 = .ok (.iconst 1, 1) := by decide +kernel
theorem dX6_read_74 : decode (dc DX6_read) 74 = .ok (.goto 4, 3) := by decide +kernel
theorem dX6_read_77 : decode (dc DX6_read) 77 = .ok (.iconst 0, 1) := by decide +kernel
theorem dX6_read_78 : decode (dc DX6_read) 78 = .ok (.istore_n 3, 1) := by decide +kernel
theorem dX6_read_79 : decode (dc DX6_read) 79 = .ok (.iinc 4 1, 3) := by decide +kernel
theorem dX6_read_82 : decode (dc DX6_read) 82 = .ok (.goto (-43), 3) := by decide +kernel
theorem dX6_read_85 : decode (dc DX6_read) 85 = .ok (.aload_n 0, 1) := by decide +kernel
theorem dX6_read_86 : decode (dc DX6_read) 86 = .ok (.getfield 22, 3) := by decide +kernel
theorem dX6_read_89 : decode (dc DX6_read) 89 = .ok (.ireturn, 1) := by decide +kernel
theorem dX7_init_0 : decode (dc DX7_init) 0 = .ok (.aload_n 0, 1) := by decide +kernel
theorem dX7_init_1 : decode (dc DX7_init) 1 = .ok (.invokespecial 3, 3) := by decide +kernel
theorem dX7_init_4 : decode (dc DX7_init) 4 = .ok (.aload_n 0, 1) := by decide +kernel
theorem dX7_init_5 : decode (dc DX7_init) 5 = .ok (.new 9, 3) := by decide +kernel
theorem dX7_init_8 : decode (dc DX7_init) 8 = .ok (.dup, 1) := by decide +kernel
theorem dX7_init_9 : decode (dc DX7_init) 9 = .ok (.invokespecial 11, 3) := by decide +kernel
theorem dX7_init_12 : decode (dc DX7_init) 12 = .ok (.putfield 12, 3) := by decide +kernel
theorem dX7_init_15 : decode (dc DX7_init) 15 = .ok (.aload_n 0, 1) := by decide +kernel
theorem dX7_init_16 : decode (dc DX7_init) 16 = .ok (.bipush 12, 2) := by decide +kernel
theorem dX7_init_18 : decode (dc DX7_init) 18 = .ok (.newarray .int, 2) := by decide +kernel
theorem dX7_init_20 : decode (dc DX7_init) 20 = .ok (.putfield 18, 3) := by decide +kernel
theorem dX7_init_23 : decode (dc DX7_init) 23 = .ok (.aload_n 0, 1) := by decide +kernel
theorem dX7_init_24 : decode (dc DX7_init) 24 = .ok (.bipush 12, 2) := by decide +kernel
theorem dX7_init_26 : decode (dc DX7_init) 26 = .ok (.newarray .int, 2) := by decide +kernel
theorem dX7_init_28 : decode (dc DX7_init) 28 = .ok (.putfield 22, 3) := by decide +kernel
theorem dX7_init_31 : decode (dc DX7_init) 31 = .ok (.aload_n 0, 1) := by decide +kernel
theorem dX7_init_32 : decode (dc DX7_init) 32 = .ok (.bipush 12, 2) := by decide +kernel
theorem dX7_init_34 : decode (dc DX7_init) 34 = .ok (.newarray .int, 2) := by decide +kernel
theorem dX7_init_36 : decode (dc DX7_init) 36 = .ok (.putfield 25, 3) := by decide +kernel
theorem dX7_init_39 : decode (dc DX7_init) 39 = .ok (.aload_n 0, 1) := by decide +kernel
theorem dX7_init_40 : decode (dc DX7_init) 40 = .ok (.bipush 24, 2) := by decide +kernel
theorem dX7_init_42 : decode (dc DX7_init) 42 = .ok (.newarray .int, 2) := by decide +kernel
theorem dX7_init_44 : decode (dc DX7_init) 44 = .ok (.putfield 28, 3) := by decide +kernel
theorem dX7_init_47 : decode (dc DX7_init) 47 = .ok (.aload_n 0, 1) := by decide +kernel
theorem dX7_init_48 : decode (dc DX7_init) 48 = .ok (.iconst 0, 1) := by decide +kernel
theorem dX7_init_49 : decode (dc DX7_init) 49 = .ok (.putfield 31, 3) := by decide +kernel
theorem dX7_init_52 : decode (dc DX7_init) 52 = .ok (.aload_n 0, 1) := by decide +kernel
theorem dX7_init_53 : decode (dc DX7_init) 53 = .ok (.iconst 0, 1) := by decide +kernel
theorem dX7_init_54 : decode (dc DX7_init) 54 = .ok (.putfield 35, 3) := by decide +kernel
theorem dX7_init_57 : decode (dc DX7_init) 57 = .ok (.aload_n 0, 1) := by decide +kernel
theorem dX7_init_58 : decode (dc DX7_init) 58 = .ok (.iconst 0, 1) := by decide +kernel
theorem dX7_init_59 : decode (dc DX7_init) 59 = .ok (.putfield 38, 3) := by decide +kernel
theorem dX7_init_62 : decode (dc DX7_init) 62 = .ok (.aload_n 0, 1) := by decide +kernel
theorem dX7_init_63 : decode (dc DX7_init) 63 = .ok (.iconst 0, 1) := by decide +kernel
theorem dX7_init_64 : decode (dc DX7_init) 64 = .ok (.putfield 41, 3) := by decide +kernel
theorem dX7_init_67 : decode (dc DX7_init) 67 = .ok (.aload_n 0, 1) := by decide +kernel
theorem dX7_init_68 : decode (dc DX7_init) 68 = .ok (.iconst 0, 1) := by decide +kernel
theorem dX7_init_69 : decode (dc DX7_init) 69 = .ok (.putfield 44, 3) := by decide +kernel
theorem dX7_init_72 : decode (dc DX7_init) 72 = .ok (.return_, 1) := by decide +kernel
theorem dX7_load_0 : decode (dc DX7_load) 0 = .ok (.aload_n 0, 1) := by decide +kernel
theorem dX7_load_1 : decode (dc DX7_load) 1 = .ok (.bipush 12, 2) := by decide +kernel
theorem dX7_load_3 : decode (dc DX7_load) 3 = .ok (.aload_n 1, 1) := by decide +kernel
theorem dX7_load_4 : decode (dc DX7_load) 4 = .ok (.getfield 47, 3) := by decide +kernel
theorem dX7_load_7 : decode (dc DX7_load) 7 = .ok (.invokestatic 50, 3) := by decide +kernel
theorem dX7_load_10 : decode (dc DX7_load) 10 = .ok (.putfield 35, 3) := by decide +kernel
theorem dX7_load_13 : decode (dc DX7_load) 13 = .ok (.aload_n 0, 1) := by decide +kernel
theorem dX7_load_14 : decode (dc DX7_load) 14 = .ok (.bipush 12, 2) := by decide +kernel
theorem dX7_load_16 : decode (dc DX7_load) 16 = .ok (.aload_n 1, 1) := by decide +kernel
theorem dX7_load_17 : decode (dc DX7_load) 17 = .ok (.getfield 56, 3) := by decide +kernel
theorem dX7_load_20 : decode (dc DX7_load) 20 = .ok (.invokestatic 50, 3) := by decide +kernel
theorem dX7_load_23 : decode (dc DX7_load) 23 = .ok (.putfield 38, 3) := by decide +kernel
theorem dX7_load_26 : decode (dc DX7_load) 26 = .ok (.aload_n 0, 1) := by decide +kernel
theorem dX7_load_27 : decode (dc DX7_load) 27 = .ok (.aload_n 1, 1) := by decide +kernel
theorem dX7_load_28 : decode (dc DX7_load) 28 = .ok (.getfield 57, 3) := by decide +kernel
theorem dX7_load_31 : decode (dc DX7_load) 31 = .ok (.putfield 41, 3) := by decide +kernel
theorem dX7_load_34 : decode (dc DX7_load) 34 = .ok (.aload_n 0, 1) := by decide +kernel
theorem dX7_load_35 : decode (dc DX7_load) 35 = .ok (.aload_n 1, 1) := by decide +kernel
theorem dX7_load_36 : decode (dc DX7_load) 36 = .ok (.getfield 58, 3) := by decide +kernel
theorem dX7_load_39 : decode (dc DX7_load) 39 = .ok (.putfield 44, 3) := by decide +kernel
theorem dX7_load_42 : decode (dc DX7_load) 42 = .ok (.iconst 0, 1) := by decide +kernel
theorem dX7_load_43 : decode (dc DX7_load) 43 = .ok (.istore_n 2, 1) := by decide +kernel
theorem dX7_load_44 : decode (dc DX7_load) 44 = .ok (.iload_n 2, 1) := by decide +kernel
theorem dX7_load_45 : decode (dc DX7_load) 45 = .ok (.bipush 12, 2) := by decide +kernel
theorem dX7_load_47 : decode (dc DX7_load) 47 = .ok (.if_icmp .ge 40, 3) := by decide +kernel
theorem dX7_load_50 : decode (dc DX7_load) 50 = .ok (.aload_n 0, 1) := by decide +kernel
theorem dX7_load_51 : decode (dc DX7_load) 51 = .ok (.getfield 18, 3) := by decide +kernel
theorem dX7_load_54 : decode (dc DX7_load) 54 = .ok (.iload_n 2, 1) := by decide +kernel
theorem dX7_load_55 : decode (dc DX7_load) 55 = .ok (.aload_n 0, 1) := by decide +kernel
theorem dX7_load_56 : decode (dc DX7_load) 56 = .ok (.getfield 41, 3) := by decide +kernel
theorem dX7_load_59 : decode (dc DX7_load) 59 = .ok (.iload_n 2, 1) := by decide +kernel
theorem dX7_load_60 : decode (dc DX7_load) 60 = .ok (.invokestatic 59, 3) := by decide +kernel
theorem dX7_load_63 : decode (dc DX7_load) 63 = .ok (.ifCond .eq 16, 3) := by decide +kernel
theorem dX7_load_66 : decode (dc DX7_load) 66 = .ok (.aload_n 1, 1) := by decide +kernel
theorem dX7_load_67 : decode (dc DX7_load) 67 = .ok (.iload_n 2, 1) := by decide +kernel
theorem dX7_load_68 : decode (dc DX7_load) 68 = .ok (.invokevirtual 63, 3) := by decide +kernel
theorem dX7_load_71 : decode (dc DX7_load) 71 = .ok (.aload_n 0, 1) := by decide +kernel
theorem dX7_load_72 : decode (dc DX7_load) 72 = .ok (.getfield 44, 3) := by decide +kernel
theorem dX7_load_75 : decode (dc DX7_load) 75 = .ok (.iand, 1) := by decide +kernel
theorem dX7_load_76 : decode (dc DX7_load) 76 = .ok (.goto 4, 3) := by decide +kernel
theorem dX7_load_79 : decode (dc DX7_load) 79 = .ok (.iconst 0, 1) := by decide +kernel
theorem dX7_load_80 : decode (dc DX7_load) 80 = .ok (.iastore, 1) := by decide +kernel
theorem dX7_load_81 : decode (dc DX7_load) 81 = .ok (.iinc 2 1, 3) := by decide +kernel
theorem dX7_load_84 : decode (dc DX7_load) 84 = .ok (.goto (-40), 3) := by decide +kernel
theorem dX7_load_87 : decode (dc DX7_load) 87 = .ok (.aload_n 0, 1) := by decide +kernel
theorem dX7_load_88 : decode (dc DX7_load) 88 = .ok (.getfield 12, 3) := by decide +kernel
theorem dX7_load_91 : decode (dc DX7_load) 91 = .ok (.aload_n 1, 1) := by decide +kernel
theorem dX7_load_92 : decode (dc DX7_load) 92 = .ok (.getfield 67, 3) := by decide +kernel
theorem dX7_load_95 : decode (dc DX7_load) 95 = .ok (.invokevirtual 68, 3) := by decide +kernel
theorem dX7_load_98 : decode (dc DX7_load) 98 = .ok (.aload_n 0, 1) := by decide +kernel
theorem dX7_load_99 : decode (dc DX7_load) 99 = .ok (.iconst 0, 1) := by decide +kernel
theorem dX7_load_100 : decode (dc DX7_load) 100 = .ok (.putfield 31, 3) := by decide +kernel
theorem dX7_load_103 : decode (dc DX7_load) 103 = .ok (.return_, 1) := by decide +kernel
theorem dX7_isOpen_0 : decode (dc DX7_isOpen) 0 = .ok (.iload_n 2, 1) := by decide +kernel
theorem dX7_isOpen_1 : decode (dc DX7_isOpen) 1 = .ok (.invokestatic 72, 3) := by decide +kernel
theorem dX7_isOpen_4 : decode (dc DX7_isOpen) 4 = .ok (.ifCond .eq 19, 3) := by decide +kernel
theorem dX7_isOpen_7 : decode (dc DX7_isOpen) 7 = .ok (.aload_n 0, 1) := by decide +kernel
theorem dX7_isOpen_8 : decode (dc DX7_isOpen) 8 = .ok (.iload_n 1, 1) := by decide +kernel
theorem dX7_isOpen_9 : decode (dc DX7_isOpen) 9 = .ok (.invokevirtual 76, 3) := by decide +kernel
theorem dX7_isOpen_12 : decode (dc DX7_isOpen) 12 = .ok (.iload_n 2, 1) := by decide +kernel
theorem dX7_isOpen_13 : decode (dc DX7_isOpen) 13 = .ok (.invokestatic 59, 3) := by decide +kernel
theorem dX7_isOpen_16 : decode (dc DX7_isOpen) 16 = .ok (.ifCond .eq 7, 3) := by decide +kernel
theorem dX7_isOpen_19 : decode (dc DX7_isOpen) 19 = .ok (.iconst 1, 1) := by decide +kernel
theorem dX7_isOpen_20 : decode (dc DX7_isOpen) 20 = .ok (.goto 4, 3) := by decide +kernel
theorem dX7_isOpen_23 : decode (dc DX7_isOpen) 23 = .ok (.iconst 0, 1) := by decide +kernel
theorem dX7_isOpen_24 : decode (dc DX7_isOpen) 24 = .ok (.ireturn, 1) := by decide +kernel
theorem dX7_open_0 : decode (dc DX7_open) 0 = .ok (.iload_n 1, 1) := by decide +kernel
theorem dX7_open_1 : decode (dc DX7_open) 1 = .ok (.invokestatic 72, 3) := by decide +kernel
theorem dX7_open_4 : decode (dc DX7_open) 4 = .ok (.ifCond .eq 23, 3) := by decide +kernel
theorem dX7_open_7 : decode (dc DX7_open) 7 = .ok (.iload_n 2, 1) := by decide +kernel
theorem dX7_open_8 : decode (dc DX7_open) 8 = .ok (.invokestatic 72, 3) := by decide +kernel
theorem dX7_open_11 : decode (dc DX7_open) 11 = .ok (.ifCond .eq 16, 3) := by decide +kernel
theorem dX7_open_14 : decode (dc DX7_open) 14 = .ok (.aload_n 0, 1) := by decide +kernel
theorem dX7_open_15 : decode (dc DX7_open) 15 = .ok (.getfield 18, 3) := by decide +kernel
theorem dX7_open_18 : decode (dc DX7_open) 18 = .ok (.iload_n 1, 1) := by decide +kernel
theorem dX7_open_19 : decode (dc DX7_open) 19 = .ok (.dup2, 1) := by decide +kernel
theorem dX7_open_20 : decode (dc DX7_open) 20 = .ok (.iaload, 1) := by decide +kernel
theorem dX7_open_21 : decode (dc DX7_open) 21 = .ok (.iload_n 2, 1) := by decide +kernel
theorem dX7_open_22 : decode (dc DX7_open) 22 = .ok (.invokestatic 79, 3) := by decide +kernel
theorem dX7_open_25 : decode (dc DX7_open) 25 = .ok (.ior, 1) := by decide +kernel
theorem dX7_open_26 : decode (dc DX7_open) 26 = .ok (.iastore, 1) := by decide +kernel
theorem dX7_open_27 : decode (dc DX7_open) 27 = .ok (.return_, 1) := by decide +kernel
theorem dX7_shut_0 : decode (dc DX7_shut) 0 = .ok (.iload_n 1, 1) := by decide +kernel
theorem dX7_shut_1 : decode (dc DX7_shut) 1 = .ok (.invokestatic 72, 3) := by decide +kernel
theorem dX7_shut_4 : decode (dc DX7_shut) 4 = .ok (.ifCond .eq 45, 3) := by decide +kernel
theorem dX7_shut_7 : decode (dc DX7_shut) 7 = .ok (.iload_n 2, 1) := by decide +kernel
theorem dX7_shut_8 : decode (dc DX7_shut) 8 = .ok (.invokestatic 72, 3) := by decide +kernel
theorem dX7_shut_11 : decode (dc DX7_shut) 11 = .ok (.ifCond .eq 38, 3) := by decide +kernel
theorem dX7_shut_14 : decode (dc DX7_shut) 14 = .ok (.aload_n 0, 1) := by decide +kernel
theorem dX7_shut_15 : decode (dc DX7_shut) 15 = .ok (.getfield 18, 3) := by decide +kernel
theorem dX7_shut_18 : decode (dc DX7_shut) 18 = .ok (.iload_n 1, 1) := by decide +kernel
theorem dX7_shut_19 : decode (dc DX7_shut) 19 = .ok (.dup2, 1) := by decide +kernel
theorem dX7_shut_20 : decode (dc DX7_shut) 20 = .ok (.iaload, 1) := by decide +kernel
theorem dX7_shut_21 : decode (dc DX7_shut) 21 = .ok (.iload_n 2, 1) := by decide +kernel
theorem dX7_shut_22 : decode (dc DX7_shut) 22 = .ok (.invokestatic 79, 3) := by decide +kernel
theorem dX7_shut_25 : decode (dc DX7_shut) 25 = .ok (.iconst (-1), 1) := by decide +kernel
theorem dX7_shut_26 : decode (dc DX7_shut) 26 = .ok (.ixor, 1) := by decide +kernel
theorem dX7_shut_27 : decode (dc DX7_shut) 27 = .ok (.iand, 1) := by decide +kernel
theorem dX7_shut_28 : decode (dc DX7_shut) 28 = .ok (.iastore, 1) := by decide +kernel
theorem dX7_shut_29 : decode (dc DX7_shut) 29 = .ok (.aload_n 0, 1) := by decide +kernel
theorem dX7_shut_30 : decode (dc DX7_shut) 30 = .ok (.getfield 12, 3) := by decide +kernel
theorem dX7_shut_33 : decode (dc DX7_shut) 33 = .ok (.iload_n 1, 1) := by decide +kernel
theorem dX7_shut_34 : decode (dc DX7_shut) 34 = .ok (.invokevirtual 82, 3) := by decide +kernel
theorem dX7_shut_37 : decode (dc DX7_shut) 37 = .ok (.iload_n 2, 1) := by decide +kernel
theorem dX7_shut_38 : decode (dc DX7_shut) 38 = .ok (.if_icmp .ne 11, 3) := by decide +kernel
theorem dX7_shut_41 : decode (dc DX7_shut) 41 = .ok (.aload_n 0, 1) := by decide +kernel
theorem dX7_shut_42 : decode (dc DX7_shut) 42 = .ok (.getfield 12, 3) := by decide +kernel
theorem dX7_shut_45 : decode (dc DX7_shut) 45 = .ok (.iload_n 1, 1) := by decide +kernel
theorem dX7_shut_46 : decode (dc DX7_shut) 46 = .ok (.invokevirtual 85, 3) := by decide +kernel
theorem dX7_shut_49 : decode (dc DX7_shut) 49 = .ok (.return_, 1) := by decide +kernel
theorem dX7_leaveOut_0 : decode (dc DX7_leaveOut) 0 = .ok (.iload_n 1, 1) := by decide +kernel
theorem dX7_leaveOut_1 : decode (dc DX7_leaveOut) 1 = .ok (.ifCond .ne 29, 3) := by decide +kernel
theorem dX7_leaveOut_4 : decode (dc DX7_leaveOut) 4 = .ok (.aload_n 0, 1) := by decide +kernel
theorem dX7_leaveOut_5 : decode (dc DX7_leaveOut) 5 = .ok (.dup, 1) := by decide +kernel
theorem dX7_leaveOut_6 : decode (dc DX7_leaveOut) 6 = .ok (.getfield 41, 3) := by decide +kernel
theorem dX7_leaveOut_9 : decode (dc DX7_leaveOut) 9 = .ok (.iload_n 2, 1) := by decide +kernel
theorem dX7_leaveOut_10 : decode (dc DX7_leaveOut) 10 = .ok (.invokestatic 79, 3) := by decide +kernel
theorem dX7_leaveOut_13 : decode (dc DX7_leaveOut) 13 = .ok (.iconst (-1), 1) := by decide +kernel
theorem dX7_leaveOut_14 : decode (dc DX7_leaveOut) 14 = .ok (.ixor, 1) := by decide +kernel
theorem dX7_leaveOut_15 : decode (dc DX7_leaveOut) 15 = .ok (.iand, 1) := by decide +kernel
theorem dX7_leaveOut_16 : decode (dc DX7_leaveOut) 16 = .ok (.putfield 41, 3) := by decide +kernel
theorem dX7_leaveOut_19 : decode (dc DX7_leaveOut) 19 = .ok (.aload_n 0, 1) := by decide +kernel
theorem dX7_leaveOut_20 : decode (dc DX7_leaveOut) 20 = .ok (.getfield 12, 3) := by decide +kernel
theorem dX7_leaveOut_23 : decode (dc DX7_leaveOut) 23 = .ok (.iload_n 2, 1) := by decide +kernel
theorem dX7_leaveOut_24 : decode (dc DX7_leaveOut) 24 = .ok (.invokevirtual 85, 3) := by decide +kernel
theorem dX7_leaveOut_27 : decode (dc DX7_leaveOut) 27 = .ok (.goto 26, 3) := by decide +kernel
theorem dX7_leaveOut_30 : decode (dc DX7_leaveOut) 30 = .ok (.aload_n 0, 1) := by decide +kernel
theorem dX7_leaveOut_31 : decode (dc DX7_leaveOut) 31 = .ok (.dup, 1) := by decide +kernel
theorem dX7_leaveOut_32 : decode (dc DX7_leaveOut) 32 = .ok (.getfield 44, 3) := by decide +kernel
theorem dX7_leaveOut_35 : decode (dc DX7_leaveOut) 35 = .ok (.iload_n 2, 1) := by decide +kernel
theorem dX7_leaveOut_36 : decode (dc DX7_leaveOut) 36 = .ok (.invokestatic 79, 3) := by decide +kernel
theorem dX7_leaveOut_39 : decode (dc DX7_leaveOut) 39 = .ok (.iconst (-1), 1) := by decide +kernel
theorem dX7_leaveOut_40 : decode (dc DX7_leaveOut) 40 = .ok (.ixor, 1) := by decide +kernel
theorem dX7_leaveOut_41 : decode (dc DX7_leaveOut) 41 = .ok (.iand, 1) := by decide +kernel
theorem dX7_leaveOut_42 : decode (dc DX7_leaveOut) 42 = .ok (.putfield 44, 3) := by decide +kernel
theorem dX7_leaveOut_45 : decode (dc DX7_leaveOut) 45 = .ok (.aload_n 0, 1) := by decide +kernel
theorem dX7_leaveOut_46 : decode (dc DX7_leaveOut) 46 = .ok (.getfield 12, 3) := by decide +kernel
theorem dX7_leaveOut_49 : decode (dc DX7_leaveOut) 49 = .ok (.iload_n 2, 1) := by decide +kernel
theorem dX7_leaveOut_50 : decode (dc DX7_leaveOut) 50 = .ok (.invokevirtual 99, 3) := by decide +kernel
theorem dX7_leaveOut_53 : decode (dc DX7_leaveOut) 53 = .ok (.iconst 0, 1) := by decide +kernel
theorem dX7_leaveOut_54 : decode (dc DX7_leaveOut) 54 = .ok (.istore_n 3, 1) := by decide +kernel
theorem dX7_leaveOut_55 : decode (dc DX7_leaveOut) 55 = .ok (.iload_n 3, 1) := by decide +kernel
theorem dX7_leaveOut_56 : decode (dc DX7_leaveOut) 56 = .ok (.bipush 12, 2) := by decide +kernel
theorem dX7_leaveOut_58 : decode (dc DX7_leaveOut) 58 = .ok (.if_icmp .ge 41, 3) := by decide +kernel
theorem dX7_leaveOut_61 : decode (dc DX7_leaveOut) 61 = .ok (.aload_n 0, 1) := by decide +kernel
theorem dX7_leaveOut_62 : decode (dc DX7_leaveOut) 62 = .ok (.getfield 18, 3) := by decide +kernel
theorem dX7_leaveOut_65 : decode (dc DX7_leaveOut) 65 = .ok (.iload_n 3, 1) := by decide +kernel
theorem dX7_leaveOut_66 : decode (dc DX7_leaveOut) 66 = .ok (.aload_n 0, 1) := by decide +kernel
theorem dX7_leaveOut_67 : decode (dc DX7_leaveOut) 67 = .ok (.getfield 41, 3) := by decide +kernel
theorem dX7_leaveOut_70 : decode (dc DX7_leaveOut) 70 = .ok (.iload_n 3, 1) := by decide +kernel
theorem dX7_leaveOut_71 : decode (dc DX7_leaveOut) 71 = .ok (.invokestatic 59, 3) := by decide +kernel
theorem dX7_leaveOut_74 : decode (dc DX7_leaveOut) 74 = .ok (.ifCond .eq 17, 3) := by decide +kernel
theorem dX7_leaveOut_77 : decode (dc DX7_leaveOut) 77 = .ok (.aload_n 0, 1) := by decide +kernel
theorem dX7_leaveOut_78 : decode (dc DX7_leaveOut) 78 = .ok (.getfield 18, 3) := by decide +kernel
theorem dX7_leaveOut_81 : decode (dc DX7_leaveOut) 81 = .ok (.iload_n 3, 1) := by decide +kernel
theorem dX7_leaveOut_82 : decode (dc DX7_leaveOut) 82 = .ok (.iaload, 1) := by decide +kernel
theorem dX7_leaveOut_83 : decode (dc DX7_leaveOut) 83 = .ok (.aload_n 0, 1) := by decide +kernel
theorem dX7_leaveOut_84 : decode (dc DX7_leaveOut) 84 = .ok (.getfield 44, 3) := by decide +kernel
theorem dX7_leaveOut_87 : decode (dc DX7_leaveOut) 87 = .ok (.iand, 1) := by decide +kernel
theorem dX7_leaveOut_88 : decode (dc DX7_leaveOut) 88 = .ok (.goto 4, 3) := by decide +kernel
theorem dX7_leaveOut_91 : decode (dc DX7_leaveOut) 91 = .ok (.iconst 0, 1) := by decide +kernel
theorem dX7_leaveOut_92 : decode (dc DX7_leaveOut) 92 = .ok (.iastore, 1) := by decide +kernel
theorem dX7_leaveOut_93 : decode (dc DX7_leaveOut) 93 = .ok (.iinc 3 1, 3) := by decide +kernel
theorem dX7_leaveOut_96 : decode (dc DX7_leaveOut) 96 = .ok (.goto (-41), 3) := by decide +kernel
theorem dX7_leaveOut_99 : decode (dc DX7_leaveOut) 99 = .ok (.return_, 1) := by decide +kernel
theorem dX7_trace_0 : decode (dc DX7_trace) 0 = .ok (.iconst 0, 1) := by decide +kernel
theorem dX7_trace_1 : decode (dc DX7_trace) 1 = .ok (.istore_n 2, 1) := by decide +kernel
theorem dX7_trace_2 : decode (dc DX7_trace) 2 = .ok (.iload_n 1, 1) := by decide +kernel
theorem dX7_trace_3 : decode (dc DX7_trace) 3 = .ok (.istore_n 3, 1) := by decide +kernel
theorem dX7_trace_4 : decode (dc DX7_trace) 4 = .ok (.iload_n 3, 1) := by decide +kernel
theorem dX7_trace_5 : decode (dc DX7_trace) 5 = .ok (.invokestatic 72, 3) := by decide +kernel
theorem dX7_trace_8 : decode (dc DX7_trace) 8 = .ok (.ifCond .eq 29, 3) := by decide +kernel
theorem dX7_trace_11 : decode (dc DX7_trace) 11 = .ok (.iload_n 2, 1) := by decide +kernel
theorem dX7_trace_12 : decode (dc DX7_trace) 12 = .ok (.bipush 12, 2) := by decide +kernel
theorem dX7_trace_14 : decode (dc DX7_trace) 14 = .ok (.if_icmp .ge 23, 3) := by decide +kernel
theorem dX7_trace_17 : decode (dc DX7_trace) 17 = .ok (.iinc 2 1, 3) := by decide +kernel
theorem dX7_trace_20 : decode (dc DX7_trace) 20 = .ok (.aload_n 0, 1) := by decide +kernel
theorem dX7_trace_21 : decode (dc DX7_trace) 21 = .ok (.getfield 12, 3) := by decide +kernel
theorem dX7_trace_24 : decode (dc DX7_trace) 24 = .ok (.aload_n 0, 1) := by decide +kernel
theorem dX7_trace_25 : decode (dc DX7_trace) 25 = .ok (.getfield 25, 3) := by decide +kernel
theorem dX7_trace_28 : decode (dc DX7_trace) 28 = .ok (.iload_n 3, 1) := by decide +kernel
theorem dX7_trace_29 : decode (dc DX7_trace) 29 = .ok (.iaload, 1) := by decide +kernel
theorem dX7_trace_30 : decode (dc DX7_trace) 30 = .ok (.invokevirtual 82, 3) := by decide +kernel
theorem dX7_trace_33 : decode (dc DX7_trace) 33 = .ok (.istore_n 3, 1) := by decide +kernel
theorem dX7_trace_34 : decode (dc DX7_trace) 34 = .ok (.goto (-30), 3) := by decide +kernel
theorem dX7_trace_37 : decode (dc DX7_trace) 37 = .ok (.aload_n 0, 1) := by decide +kernel
theorem dX7_trace_38 : decode (dc DX7_trace) 38 = .ok (.iconst 2, 1) := by decide +kernel
theorem dX7_trace_39 : decode (dc DX7_trace) 39 = .ok (.iload_n 2, 1) := by decide +kernel
theorem dX7_trace_40 : decode (dc DX7_trace) 40 = .ok (.imul, 1) := by decide +kernel
theorem dX7_trace_41 : decode (dc DX7_trace) 41 = .ok (.putfield 31, 3) := by decide +kernel
theorem dX7_trace_44 : decode (dc DX7_trace) 44 = .ok (.iload_n 1, 1) := by decide +kernel
theorem dX7_trace_45 : decode (dc DX7_trace) 45 = .ok (.istore_n 3, 1) := by decide +kernel
theorem dX7_trace_46 : decode (dc DX7_trace) 46 = .ok (.iload_n 2, 1) := by decide +kernel
theorem dX7_trace_47 : decode (dc DX7_trace) 47 = .ok (.iconst 1, 1) := by decide +kernel
theorem dX7_trace_48 : decode (dc DX7_trace) 48 = .ok (.isub, 1) := by decide +kernel
theorem dX7_trace_49 : decode (dc DX7_trace) 49 = .ok (.istore 4, 2) := by decide +kernel
theorem dX7_trace_51 : decode (dc DX7_trace) 51 = .ok (.iload 4, 2) := by decide +kernel
theorem dX7_trace_53 : decode (dc DX7_trace) 53 = .ok (.ifCond .lt 57, 3) := by decide +kernel
theorem dX7_trace_56 : decode (dc DX7_trace) 56 = .ok (.iload_n 3, 1) := by decide +kernel
theorem dX7_trace_57 : decode (dc DX7_trace) 57 = .ok (.invokestatic 72, 3) := by decide +kernel
theorem dX7_trace_60 : decode (dc DX7_trace) 60 = .ok (.ifCond .eq 50, 3) := by decide +kernel
theorem dX7_trace_63 : decode (dc DX7_trace) 63 = .ok (.aload_n 0, 1) := by decide +kernel
theorem dX7_trace_64 : decode (dc DX7_trace) 64 = .ok (.getfield 28, 3) := by decide +kernel
theorem dX7_trace_67 : decode (dc DX7_trace) 67 = .ok (.iconst 2, 1) := by decide +kernel
theorem dX7_trace_68 : decode (dc DX7_trace) 68 = .ok (.iload 4, 2) := by decide +kernel
theorem dX7_trace_70 : decode (dc DX7_trace) 70 = .ok (.imul, 1) := by decide +kernel
theorem dX7_trace_71 : decode (dc DX7_trace) 71 = .ok (.aload_n 0, 1) := by decide +kernel
theorem dX7_trace_72 : decode (dc DX7_trace) 72 = .ok (.getfield 25, 3) := by decide +kernel
theorem dX7_trace_75 : decode (dc DX7_trace) 75 = .ok (.iload_n 3, 1) := by decide +kernel
theorem dX7_trace_76 : decode (dc DX7_trace) 76 = .ok (.iaload, 1) := by decide +kernel
theorem dX7_trace_77 : decode (dc DX7_trace) 77 = .ok (.iastore, 1) := by decide +kernel
theorem dX7_trace_78 : decode (dc DX7_trace) 78 = .ok (.aload_n 0, 1) := by decide +kernel
theorem dX7_trace_79 : decode (dc DX7_trace) 79 = .ok (.getfield 28, 3) := by decide +kernel
theorem dX7_trace_82 : decode (dc DX7_trace) 82 = .ok (.iconst 2, 1) := by decide +kernel
theorem dX7_trace_83 : decode (dc DX7_trace) 83 = .ok (.iload 4, 2) := by decide +kernel
theorem dX7_trace_85 : decode (dc DX7_trace) 85 = .ok (.imul, 1) := by decide +kernel
theorem dX7_trace_86 : decode (dc DX7_trace) 86 = .ok (.iconst 1, 1) := by decide +kernel
theorem dX7_trace_87 : decode (dc DX7_trace) 87 = .ok (.iadd, 1) := by decide +kernel
theorem dX7_trace_88 : decode (dc DX7_trace) 88 = .ok (.iload_n 3, 1) := by decide +kernel
theorem dX7_trace_89 : decode (dc DX7_trace) 89 = .ok (.iastore, 1) := by decide +kernel
theorem dX7_trace_90 : decode (dc DX7_trace) 90 = .ok (.aload_n 0, 1) := by decide +kernel
theorem dX7_trace_91 : decode (dc DX7_trace) 91 = .ok (.getfield 12, 3) := by decide +kernel
theorem dX7_trace_94 : decode (dc DX7_trace) 94 = .ok (.aload_n 0, 1) := by decide +kernel
theorem dX7_trace_95 : decode (dc DX7_trace) 95 = .ok (.getfield 25, 3) := by decide +kernel
theorem dX7_trace_98 : decode (dc DX7_trace) 98 = .ok (.iload_n 3, 1) := by decide +kernel
theorem dX7_trace_99 : decode (dc DX7_trace) 99 = .ok (.iaload, 1) := by decide +kernel
theorem dX7_trace_100 : decode (dc DX7_trace) 100 = .ok (.invokevirtual 82, 3) := by decide +kernel
theorem dX7_trace_103 : decode (dc DX7_trace) 103 = .ok (.istore_n 3, 1) := by decide +kernel
theorem dX7_trace_104 : decode (dc DX7_trace) 104 = .ok (.iinc 4 (-1), 3) := by decide +kernel
theorem dX7_trace_107 : decode (dc DX7_trace) 107 = .ok (.goto (-56), 3) := by decide +kernel
theorem dX7_trace_110 : decode (dc DX7_trace) 110 = .ok (.return_, 1) := by decide +kernel
theorem dX7_find_0 : decode (dc DX7_find) 0 = .ok (.aload_n 0, 1) := by decide +kernel
theorem dX7_find_1 : decode (dc DX7_find) 1 = .ok (.iconst 0, 1) := by decide +kernel
theorem dX7_find_2 : decode (dc DX7_find) 2 = .ok (.putfield 31, 3) := by decide +kernel
theorem dX7_find_5 : decode (dc DX7_find) 5 = .ok (.iload_n 1, 1) := by decide +kernel
theorem dX7_find_6 : decode (dc DX7_find) 6 = .ok (.invokestatic 72, 3) := by decide +kernel
theorem dX7_find_9 : decode (dc DX7_find) 9 = .ok (.ifCond .eq 26, 3) := by decide +kernel
theorem dX7_find_12 : decode (dc DX7_find) 12 = .ok (.aload_n 0, 1) := by decide +kernel
theorem dX7_find_13 : decode (dc DX7_find) 13 = .ok (.getfield 41, 3) := by decide +kernel
theorem dX7_find_16 : decode (dc DX7_find) 16 = .ok (.iload_n 1, 1) := by decide +kernel
theorem dX7_find_17 : decode (dc DX7_find) 17 = .ok (.invokestatic 59, 3) := by decide +kernel
theorem dX7_find_20 : decode (dc DX7_find) 20 = .ok (.ifCond .eq 15, 3) := by decide +kernel
theorem dX7_find_23 : decode (dc DX7_find) 23 = .ok (.aload_n 0, 1) := by decide +kernel
theorem dX7_find_24 : decode (dc DX7_find) 24 = .ok (.getfield 12, 3) := by decide +kernel
theorem dX7_find_27 : decode (dc DX7_find) 27 = .ok (.iload_n 1, 1) := by decide +kernel
theorem dX7_find_28 : decode (dc DX7_find) 28 = .ok (.invokevirtual 82, 3) := by decide +kernel
theorem dX7_find_31 : decode (dc DX7_find) 31 = .ok (.iconst (-1), 1) := by decide +kernel
theorem dX7_find_32 : decode (dc DX7_find) 32 = .ok (.if_icmp .eq 5, 3) := by decide +kernel
theorem dX7_find_35 : decode (dc DX7_find) 35 = .ok (.iconst 0, 1) := by decide +kernel
theorem dX7_find_36 : decode (dc DX7_find) 36 = .ok (.ireturn, 1) := by decide +kernel
theorem dX7_find_37 : decode (dc DX7_find) 37 = .ok (.iconst 0, 1) := by decide +kernel
theorem dX7_find_38 : decode (dc DX7_find) 38 = .ok (.istore_n 2, 1) := by decide +kernel
theorem dX7_find_39 : decode (dc DX7_find) 39 = .ok (.iconst 1, 1) := by decide +kernel
theorem dX7_find_40 : decode (dc DX7_find) 40 = .ok (.istore_n 3, 1) := by decide +kernel
theorem dX7_find_41 : decode (dc DX7_find) 41 = .ok (.aload_n 0, 1) := by decide +kernel
theorem dX7_find_42 : decode (dc DX7_find) 42 = .ok (.getfield 22, 3) := by decide +kernel
theorem dX7_find_45 : decode (dc DX7_find) 45 = .ok (.iconst 0, 1) := by decide +kernel
theorem dX7_find_46 : decode (dc DX7_find) 46 = .ok (.iload_n 1, 1) := by decide +kernel
theorem dX7_find_47 : decode (dc DX7_find) 47 = .ok (.iastore, 1) := by decide +kernel
theorem dX7_find_48 : decode (dc DX7_find) 48 = .ok (.iconst 0, 1) := by decide +kernel
theorem dX7_find_49 : decode (dc DX7_find) 49 = .ok (.istore 4, 2) := by decide +kernel
theorem dX7_find_51 : decode (dc DX7_find) 51 = .ok (.iload 4, 2) := by decide +kernel
theorem dX7_find_53 : decode (dc DX7_find) 53 = .ok (.iload_n 3, 1) := by decide +kernel
theorem dX7_find_54 : decode (dc DX7_find) 54 = .ok (.if_icmp .ge 130, 3) := by decide +kernel
theorem dX7_find_57 : decode (dc DX7_find) 57 = .ok (.iload 4, 2) := by decide +kernel
theorem dX7_find_59 : decode (dc DX7_find) 59 = .ok (.bipush 12, 2) := by decide +kernel
theorem dX7_find_61 : decode (dc DX7_find) 61 = .ok (.if_icmp .ge 123, 3) := by decide +kernel
theorem dX7_find_64 : decode (dc DX7_find) 64 = .ok (.aload_n 0, 1) := by decide +kernel
theorem dX7_find_65 : decode (dc DX7_find) 65 = .ok (.getfield 22, 3) := by decide +kernel
theorem dX7_find_68 : decode (dc DX7_find) 68 = .ok (.iload 4, 2) := by decide +kernel
theorem dX7_find_70 : decode (dc DX7_find) 70 = .ok (.iaload, 1) := by decide +kernel
theorem dX7_find_71 : decode (dc DX7_find) 71 = .ok (.istore 5, 2) := by decide +kernel
theorem dX7_find_73 : decode (dc DX7_find) 73 = .ok (.aload_n 0, 1) := by decide +kernel
theorem dX7_find_74 : decode (dc DX7_find) 74 = .ok (.iload 5, 2) := by decide +kernel
theorem dX7_find_76 : decode (dc DX7_find) 76 = .ok (.invokevirtual 76, 3) := by decide +kernel
theorem dX7_find_79 : decode (dc DX7_find) 79 = .ok (.iload_n 2, 1) := by decide +kernel
theorem dX7_find_80 : decode (dc DX7_find) 80 = .ok (.iconst (-1), 1) := by decide +kernel
theorem dX7_find_81 : decode (dc DX7_find) 81 = .ok (.ixor, 1) := by decide +kernel
theorem dX7_find_82 : decode (dc DX7_find) 82 = .ok (.iand, 1) := by decide +kernel
theorem dX7_find_83 : decode (dc DX7_find) 83 = .ok (.istore 6, 2) := by decide +kernel
theorem dX7_find_85 : decode (dc DX7_find) 85 = .ok (.iconst 0, 1) := by decide +kernel
theorem dX7_find_86 : decode (dc DX7_find) 86 = .ok (.istore 7, 2) := by decide +kernel
theorem dX7_find_88 : decode (dc DX7_find) 88 = .ok (.iload 7, 2) := by decide +kernel
theorem dX7_find_90 : decode (dc DX7_find) 90 = .ok (.bipush 12, 2) := by decide +kernel
theorem dX7_find_92 : decode (dc DX7_find) 92 = .ok (.if_icmp .ge 86, 3) := by decide +kernel
theorem dX7_find_95 : decode (dc DX7_find) 95 = .ok (.iload 6, 2) := by decide +kernel
theorem dX7_find_97 : decode (dc DX7_find) 97 = .ok (.ifCond .eq 81, 3) := by decide +kernel
theorem dX7_find_100 : decode (dc DX7_find) 100 = .ok (.iload 6, 2) := by decide +kernel
theorem dX7_find_102 : decode (dc DX7_find) 102 = .ok (.iload 7, 2) := by decide +kernel
theorem dX7_find_104 : decode (dc DX7_find) 104 = .ok (.invokestatic 59, 3) := by decide +kernel
theorem dX7_find_107 : decode (dc DX7_find) 107 = .ok (.ifCond .eq 65, 3) := by decide +kernel
theorem dX7_find_110 : decode (dc DX7_find) 110 = .ok (.iload_n 2, 1) := by decide +kernel
theorem dX7_find_111 : decode (dc DX7_find) 111 = .ok (.iload 7, 2) := by decide +kernel
theorem dX7_find_113 : decode (dc DX7_find) 113 = .ok (.invokestatic 79, 3) := by decide +kernel
theorem dX7_find_116 : decode (dc DX7_find) 116 = .ok (.ior, 1) := by decide +kernel
theorem dX7_find_117 : decode (dc DX7_find) 117 = .ok (.istore_n 2, 1) := by decide +kernel
theorem dX7_find_118 : decode (dc DX7_find) 118 = .ok (.aload_n 0, 1) := by decide +kernel
theorem dX7_find_119 : decode (dc DX7_find) 119 = .ok (.getfield 25, 3) := by decide +kernel
theorem dX7_find_122 : decode (dc DX7_find) 122 = .ok (.iload 7, 2) := by decide +kernel
theorem dX7_find_124 : decode (dc DX7_find) 124 = .ok (.iload 5, 2) := by decide +kernel
theorem dX7_find_126 : decode (dc DX7_find) 126 = .ok (.iastore, 1) := by decide +kernel
theorem dX7_find_127 : decode (dc DX7_find) 127 = .ok (.aload_n 0, 1) := by decide +kernel
theorem dX7_find_128 : decode (dc DX7_find) 128 = .ok (.getfield 12, 3) := by decide +kernel
theorem dX7_find_131 : decode (dc DX7_find) 131 = .ok (.iload 7, 2) := by decide +kernel
theorem dX7_find_133 : decode (dc DX7_find) 133 = .ok (.invokevirtual 102, 3) := by decide +kernel
theorem dX7_find_136 : decode (dc DX7_find) 136 = .ok (.istore 8, 2) := by decide +kernel
theorem dX7_find_138 : decode (dc DX7_find) 138 = .ok (.iload 8, 2) := by decide +kernel
theorem dX7_find_140 : decode (dc DX7_find) 140 = .ok (.iconst (-1), 1) := by decide +kernel
theorem dX7_find_141 : decode (dc DX7_find) 141 = .ok (.if_icmp .ne 14, 3) := by decide +kernel
theorem dX7_find_144 : decode (dc DX7_find) 144 = .ok (.aload_n 0, 1) := by decide +kernel
theorem dX7_find_145 : decode (dc DX7_find) 145 = .ok (.iload 7, 2) := by decide +kernel
theorem dX7_find_147 : decode (dc DX7_find) 147 = .ok (.invokevirtual 105, 3) := by decide +kernel
theorem dX7_find_150 : decode (dc DX7_find) 150 = .ok (.aload_n 0, 1) := by decide +kernel
theorem dX7_find_151 : decode (dc DX7_find) 151 = .ok (.getfield 31, 3) := by decide +kernel
theorem dX7_find_154 : decode (dc DX7_find) 154 = .ok (.ireturn, 1) := by decide +kernel
theorem dX7_find_155 : decode (dc DX7_find) 155 = .ok (.iload_n 3, 1) := by decide +kernel
theorem dX7_find_156 : decode (dc DX7_find) 156 = .ok (.bipush 12, 2) := by decide +kernel
theorem dX7_find_158 : decode (dc DX7_find) 158 = .ok (.if_icmp .ge 14, 3) := by decide +kernel
theorem dX7_find_161 : decode (dc DX7_find) 161 = .ok (.aload_n 0, 1) := by decide +kernel
theorem dX7_find_162 : decode (dc DX7_find) 162 = .ok (.getfield 22, 3) := by decide +kernel
theorem dX7_find_165 : decode (dc DX7_find) 165 = .ok (.iload_n 3, 1) := by decide +kernel
theorem dX7_find_166 : decode (dc DX7_find) 166 = .ok (.iload 8, 2) := by decide +kernel
theorem dX7_find_168 : decode (dc DX7_find) 168 = .ok (.iastore, 1) := by decide +kernel
theorem dX7_find_169 : decode (dc DX7_find) 169 = .ok (.iinc 3 1, 3) := by decide +kernel
theorem dX7_find_172 : decode (dc DX7_find) 172 = .ok (.iinc 7 1, 3) := by decide +kernel
theorem dX7_find_175 : decode (dc DX7_find) 175 = .ok (.goto (-87), 3) := by decide +kernel
theorem dX7_find_178 : decode (dc DX7_find) 178 = .ok (.iinc 4 1, 3) := by decide +kernel
theorem dX7_find_181 : decode (dc DX7_find) 181 = .ok (.goto (-130), 3) := by decide +kernel
theorem dX7_find_184 : decode (dc DX7_find) 184 = .ok (.iconst 0, 1) := by decide +kernel
theorem dX7_find_185 : decode (dc DX7_find) 185 = .ok (.ireturn, 1) := by decide +kernel
theorem dX7_wayAtPlace_0 : decode (dc DX7_wayAtPlace) 0 = .ok (.iload_n 1, 1) := by decide +kernel
theorem dX7_wayAtPlace_1 : decode (dc DX7_wayAtPlace) 1 = .ok (.ifCond .lt 26, 3) := by decide +kernel
theorem dX7_wayAtPlace_4 : decode (dc DX7_wayAtPlace) 4 = .ok (.iload_n 1, 1) := by decide +kernel
theorem dX7_wayAtPlace_5 : decode (dc DX7_wayAtPlace) 5 = .ok (.aload_n 0, 1) := by decide +kernel
theorem dX7_wayAtPlace_6 : decode (dc DX7_wayAtPlace) 6 = .ok (.getfield 31, 3) := by decide +kernel
theorem dX7_wayAtPlace_9 : decode (dc DX7_wayAtPlace) 9 = .ok (.if_icmp .ge 18, 3) := by decide +kernel
theorem dX7_wayAtPlace_12 : decode (dc DX7_wayAtPlace) 12 = .ok (.iload_n 1, 1) := by decide +kernel
theorem dX7_wayAtPlace_13 : decode (dc DX7_wayAtPlace) 13 = .ok (.bipush 24, 2) := by decide +kernel
theorem dX7_wayAtPlace_15 : decode (dc DX7_wayAtPlace) 15 = .ok (.if_icmp .ge 12, 3) := by decide +kernel
theorem dX7_wayAtPlace_18 : decode (dc DX7_wayAtPlace) 18 = .ok (.aload_n 0, 1) := by decide +kernel
theorem dX7_wayAtPlace_19 : decode (dc DX7_wayAtPlace) 19 = .ok (.getfield 28, 3) := by decide +kernel
theorem dX7_wayAtPlace_22 : decode (dc DX7_wayAtPlace) 22 = .ok (.iload_n 1, 1) := by decide +kernel
theorem dX7_wayAtPlace_23 : decode (dc DX7_wayAtPlace) 23 = .ok (.iaload, 1) := by decide +kernel
theorem dX7_wayAtPlace_24 : decode (dc DX7_wayAtPlace) 24 = .ok (.goto 4, 3) := by decide +kernel
theorem dX7_wayAtPlace_27 : decode (dc DX7_wayAtPlace) 27 = .ok (.iconst (-1), 1) := by decide +kernel
theorem dX7_wayAtPlace_28 : decode (dc DX7_wayAtPlace) 28 = .ok (.ireturn, 1) := by decide +kernel
theorem dX7_findFirst_0 : decode (dc DX7_findFirst) 0 = .ok (.iconst 0, 1) := by decide +kernel
theorem dX7_findFirst_1 : decode (dc DX7_findFirst) 1 = .ok (.istore_n 1, 1) := by decide +kernel
theorem dX7_findFirst_2 : decode (dc DX7_findFirst) 2 = .ok (.iload_n 1, 1) := by decide +kernel
theorem dX7_findFirst_3 : decode (dc DX7_findFirst) 3 = .ok (.aload_n 0, 1) := by decide +kernel
theorem dX7_findFirst_4 : decode (dc DX7_findFirst) 4 = .ok (.getfield 35, 3) := by decide +kernel
theorem dX7_findFirst_7 : decode (dc DX7_findFirst) 7 = .ok (.if_icmp .ge 22, 3) := by decide +kernel
theorem dX7_findFirst_10 : decode (dc DX7_findFirst) 10 = .ok (.aload_n 0, 1) := by decide +kernel
theorem dX7_findFirst_11 : decode (dc DX7_findFirst) 11 = .ok (.iload_n 1, 1) := by decide +kernel
theorem dX7_findFirst_12 : decode (dc DX7_findFirst) 12 = .ok (.invokevirtual 108, 3) := by decide +kernel
theorem dX7_findFirst_15 : decode (dc DX7_findFirst) 15 = .ok (.ifCond .le 8, 3) := by decide +kernel
theorem dX7_findFirst_18 : decode (dc DX7_findFirst) 18 = .ok (.aload_n 0, 1) := by decide +kernel
theorem dX7_findFirst_19 : decode (dc DX7_findFirst) 19 = .ok (.getfield 31, 3) := by decide +kernel
theorem dX7_findFirst_22 : decode (dc DX7_findFirst) 22 = .ok (.ireturn, 1) := by decide +kernel
theorem dX7_findFirst_23 : decode (dc DX7_findFirst) 23 = .ok (.iinc 1 1, 3) := by decide +kernel
theorem dX7_findFirst_26 : decode (dc DX7_findFirst) 26 = .ok (.goto (-24), 3) := by decide +kernel
theorem dX7_findFirst_29 : decode (dc DX7_findFirst) 29 = .ok (.iconst 0, 1) := by decide +kernel
theorem dX7_findFirst_30 : decode (dc DX7_findFirst) 30 = .ok (.ireturn, 1) := by decide +kernel
theorem dX7_follow_0 : decode (dc DX7_follow) 0 = .ok (.iconst 0, 1) := by decide +kernel
theorem dX7_follow_1 : decode (dc DX7_follow) 1 = .ok (.istore_n 1, 1) := by decide +kernel
theorem dX7_follow_2 : decode (dc DX7_follow) 2 = .ok (.iload_n 1, 1) := by decide +kernel
theorem dX7_follow_3 : decode (dc DX7_follow) 3 = .ok (.iconst 1, 1) := by decide +kernel
theorem dX7_follow_4 : decode (dc DX7_follow) 4 = .ok (.iadd, 1) := by decide +kernel
theorem dX7_follow_5 : decode (dc DX7_follow) 5 = .ok (.aload_n 0, 1) := by decide +kernel
theorem dX7_follow_6 : decode (dc DX7_follow) 6 = .ok (.getfield 31, 3) := by decide +kernel
theorem dX7_follow_9 : decode (dc DX7_follow) 9 = .ok (.if_icmp .ge 28, 3) := by decide +kernel
theorem dX7_follow_12 : decode (dc DX7_follow) 12 = .ok (.aload_n 0, 1) := by decide +kernel
theorem dX7_follow_13 : decode (dc DX7_follow) 13 = .ok (.getfield 12, 3) := by decide +kernel
theorem dX7_follow_16 : decode (dc DX7_follow) 16 = .ok (.aload_n 0, 1) := by decide +kernel
theorem dX7_follow_17 : decode (dc DX7_follow) 17 = .ok (.iload_n 1, 1) := by decide +kernel
theorem dX7_follow_18 : decode (dc DX7_follow) 18 = .ok (.invokevirtual 111, 3) := by decide +kernel
theorem dX7_follow_21 : decode (dc DX7_follow) 21 = .ok (.aload_n 0, 1) := by decide +kernel
theorem dX7_follow_22 : decode (dc DX7_follow) 22 = .ok (.iload_n 1, 1) := by decide +kernel
theorem dX7_follow_23 : decode (dc DX7_follow) 23 = .ok (.iconst 1, 1) := by decide +kernel
theorem dX7_follow_24 : decode (dc DX7_follow) 24 = .ok (.iadd, 1) := by decide +kernel
theorem dX7_follow_25 : decode (dc DX7_follow) 25 = .ok (.invokevirtual 111, 3) := by decide +kernel
theorem dX7_follow_28 : decode (dc DX7_follow) 28 = .ok (.invokevirtual 114, 3) := by decide +kernel
theorem dX7_follow_31 : decode (dc DX7_follow) 31 = .ok (.iinc 1 2, 3) := by decide +kernel
theorem dX7_follow_34 : decode (dc DX7_follow) 34 = .ok (.goto (-32), 3) := by decide +kernel
theorem dX7_follow_37 : decode (dc DX7_follow) 37 = .ok (.return_, 1) := by decide +kernel
theorem dX7_grow_0 : decode (dc DX7_grow) 0 = .ok (.iconst 0, 1) := by decide +kernel
theorem dX7_grow_1 : decode (dc DX7_grow) 1 = .ok (.istore_n 2, 1) := by decide +kernel
theorem dX7_grow_2 : decode (dc DX7_grow) 2 = .ok (.iconst 0, 1) := by decide +kernel
theorem dX7_grow_3 : decode (dc DX7_grow) 3 = .ok (.istore_n 3, 1) := by decide +kernel
theorem dX7_grow_4 : decode (dc DX7_grow) 4 = .ok (.iload_n 3, 1) := by decide +kernel
theorem dX7_grow_5 : decode (dc DX7_grow) 5 = .ok (.aload_n 0, 1) := by decide +kernel
theorem dX7_grow_6 : decode (dc DX7_grow) 6 = .ok (.getfield 35, 3) := by decide +kernel
theorem dX7_grow_9 : decode (dc DX7_grow) 9 = .ok (.if_icmp .ge 29, 3) := by decide +kernel
theorem dX7_grow_12 : decode (dc DX7_grow) 12 = .ok (.iload_n 2, 1) := by decide +kernel
theorem dX7_grow_13 : decode (dc DX7_grow) 13 = .ok (.iload_n 1, 1) := by decide +kernel
theorem dX7_grow_14 : decode (dc DX7_grow) 14 = .ok (.if_icmp .ge 24, 3) := by decide +kernel
theorem dX7_grow_17 : decode (dc DX7_grow) 17 = .ok (.aload_n 0, 1) := by decide +kernel
theorem dX7_grow_18 : decode (dc DX7_grow) 18 = .ok (.iload_n 3, 1) := by decide +kernel
theorem dX7_grow_19 : decode (dc DX7_grow) 19 = .ok (.invokevirtual 108, 3) := by decide +kernel
theorem dX7_grow_22 : decode (dc DX7_grow) 22 = .ok (.ifCond .le 10, 3) := by decide +kernel
theorem dX7_grow_25 : decode (dc DX7_grow) 25 = .ok (.aload_n 0, 1) := by decide +kernel
theorem dX7_grow_26 : decode (dc DX7_grow) 26 = .ok (.invokevirtual 117, 3) := by decide +kernel
theorem dX7_grow_29 : decode (dc DX7_grow) 29 = .ok (.iinc 2 1, 3) := by decide +kernel
theorem dX7_grow_32 : decode (dc DX7_grow) 32 = .ok (.iinc 3 1, 3) := by decide +kernel
theorem dX7_grow_35 : decode (dc DX7_grow) 35 = .ok (.goto (-31), 3) := by decide +kernel
theorem dX7_grow_38 : decode (dc DX7_grow) 38 = .ok (.iload_n 2, 1) := by decide +kernel
theorem dX7_grow_39 : decode (dc DX7_grow) 39 = .ok (.ireturn, 1) := by decide +kernel
theorem dX8_init_0 : decode (dc DX8_init) 0 = .ok (.aload_n 0, 1) := by decide +kernel
theorem dX8_init_1 : decode (dc DX8_init) 1 = .ok (.invokespecial 3, 3) := by decide +kernel
theorem dX8_init_4 : decode (dc DX8_init) 4 = .ok (.aload_n 0, 1) := by decide +kernel
theorem dX8_init_5 : decode (dc DX8_init) 5 = .ok (.sipush 4096, 3) := by decide +kernel
theorem dX8_init_8 : decode (dc DX8_init) 8 = .ok (.newarray .long, 2) := by decide +kernel
theorem dX8_init_10 : decode (dc DX8_init) 10 = .ok (.putfield 9, 3) := by decide +kernel
theorem dX8_init_13 : decode (dc DX8_init) 13 = .ok (.aload_n 0, 1) := by decide +kernel
theorem dX8_init_14 : decode (dc DX8_init) 14 = .ok (.sipush 4096, 3) := by decide +kernel
theorem dX8_init_17 : decode (dc DX8_init) 17 = .ok (.newarray .long, 2) := by decide +kernel
theorem dX8_init_19 : decode (dc DX8_init) 19 = .ok (.putfield 15, 3) := by decide +kernel
theorem dX8_init_22 : decode (dc DX8_init) 22 = .ok (.aload_n 0, 1) := by decide +kernel
theorem dX8_init_23 : decode (dc DX8_init) 23 = .ok (.sipush 4096, 3) := by decide +kernel
theorem dX8_init_26 : decode (dc DX8_init) 26 = .ok (.newarray .long, 2) := by decide +kernel
theorem dX8_init_28 : decode (dc DX8_init) 28 = .ok (.putfield 18, 3) := by decide +kernel
theorem dX8_init_31 : decode (dc DX8_init) 31 = .ok (.aload_n 0, 1) := by decide +kernel
theorem dX8_init_32 : decode (dc DX8_init) 32 = .ok (.sipush 4096, 3) := by decide +kernel
theorem dX8_init_35 : decode (dc DX8_init) 35 = .ok (.newarray .int, 2) := by decide +kernel
theorem dX8_init_37 : decode (dc DX8_init) 37 = .ok (.putfield 21, 3) := by decide +kernel
theorem dX8_init_40 : decode (dc DX8_init) 40 = .ok (.aload_n 0, 1) := by decide +kernel
theorem dX8_init_41 : decode (dc DX8_init) 41 = .ok (.bipush 12, 2) := by decide +kernel
theorem dX8_init_43 : decode (dc DX8_init) 43 = .ok (.newarray .int, 2) := by decide +kernel
theorem dX8_init_45 : decode (dc DX8_init) 45 = .ok (.putfield 25, 3) := by decide +kernel
theorem dX8_init_48 : decode (dc DX8_init) 48 = .ok (.aload_n 0, 1) := by decide +kernel
theorem dX8_init_49 : decode (dc DX8_init) 49 = .ok (.lconst 0, 1) := by decide +kernel
theorem dX8_init_50 : decode (dc DX8_init) 50 = .ok (.putfield 28, 3) := by decide +kernel
theorem dX8_init_53 : decode (dc DX8_init) 53 = .ok (.aload_n 0, 1) := by decide +kernel
theorem dX8_init_54 : decode (dc DX8_init) 54 = .ok (.lconst 0, 1) := by decide +kernel
theorem dX8_init_55 : decode (dc DX8_init) 55 = .ok (.putfield 32, 3) := by decide +kernel
theorem dX8_init_58 : decode (dc DX8_init) 58 = .ok (.aload_n 0, 1) := by decide +kernel
theorem dX8_init_59 : decode (dc DX8_init) 59 = .ok (.iconst 0, 1) := by decide +kernel
theorem dX8_init_60 : decode (dc DX8_init) 60 = .ok (.putfield 35, 3) := by decide +kernel
theorem dX8_init_63 : decode (dc DX8_init) 63 = .ok (.return_, 1) := by decide +kernel
theorem dJ9_min_f86c9_0 : decode (dc DJ9_min_f86c9) 0 = .ok (.lload_n 0, 1) := by decide +kernel
theorem dJ9_min_f86c9_1 : decode (dc DJ9_min_f86c9) 1 = .ok (.lload_n 2, 1) := by decide +kernel
theorem dJ9_min_f86c9_2 : decode (dc DJ9_min_f86c9) 2 = .ok (.lcmp, 1) := by decide +kernel
theorem dJ9_min_f86c9_3 : decode (dc DJ9_min_f86c9) 3 = .ok (.ifCond .gt 7, 3) := by decide +kernel
theorem dJ9_min_f86c9_6 : decode (dc DJ9_min_f86c9) 6 = .ok (.lload_n 0, 1) := by decide +kernel
theorem dJ9_min_f86c9_7 : decode (dc DJ9_min_f86c9) 7 = .ok (.goto 4, 3) := by decide +kernel
theorem dJ9_min_f86c9_10 : decode (dc DJ9_min_f86c9) 10 = .ok (.lload_n 2, 1) := by decide +kernel
theorem dJ9_min_f86c9_11 : decode (dc DJ9_min_f86c9) 11 = .ok (.lreturn, 1) := by decide +kernel
theorem dX8_put_0 : decode (dc DX8_put) 0 = .ok (.iload_n 1, 1) := by decide +kernel
theorem dX8_put_1 : decode (dc DX8_put) 1 = .ok (.ifCond .lt 21, 3) := by decide +kernel
theorem dX8_put_4 : decode (dc DX8_put) 4 = .ok (.iload_n 1, 1) := by decide +kernel
theorem dX8_put_5 : decode (dc DX8_put) 5 = .ok (.sipush 4096, 3) := by decide +kernel
theorem dX8_put_8 : decode (dc DX8_put) 8 = .ok (.if_icmp .ge 14, 3) := by decide +kernel
theorem dX8_put_11 : decode (dc DX8_put) 11 = .ok (.iload_n 2, 1) := by decide +kernel
theorem dX8_put_12 : decode (dc DX8_put) 12 = .ok (.ifCond .lt 10, 3) := by decide +kernel
theorem dX8_put_15 : decode (dc DX8_put) 15 = .ok (.iload_n 2, 1) := by decide +kernel
theorem dX8_put_16 : decode (dc DX8_put) 16 = .ok (.sipush 4096, 3) := by decide +kernel
theorem dX8_put_19 : decode (dc DX8_put) 19 = .ok (.if_icmp .lt 4, 3) := by decide +kernel
theorem dX8_put_22 : decode (dc DX8_put) 22 = .ok (.return_, 1) := by decide +kernel
theorem dX8_put_23 : decode (dc DX8_put) 23 = .ok (.aload_n 0, 1) := by decide +kernel
theorem dX8_put_24 : decode (dc DX8_put) 24 = .ok (.getfield 21, 3) := by decide +kernel
theorem dX8_put_27 : decode (dc DX8_put) 27 = .ok (.iload_n 1, 1) := by decide +kernel
theorem dX8_put_28 : decode (dc DX8_put) 28 = .ok (.iaload, 1) := by decide +kernel
theorem dX8_put_29 : decode (dc DX8_put) 29 = .ok (.iload_n 3, 1) := by decide +kernel
theorem dX8_put_30 : decode (dc DX8_put) 30 = .ok (.iadd, 1) := by decide +kernel
theorem dX8_put_31 : decode (dc DX8_put) 31 = .ok (.istore 6, 2) := by decide +kernel
theorem dX8_put_33 : decode (dc DX8_put) 33 = .ok (.aload_n 0, 1) := by decide +kernel
theorem dX8_put_34 : decode (dc DX8_put) 34 = .ok (.getfield 18, 3) := by decide +kernel
theorem dX8_put_37 : decode (dc DX8_put) 37 = .ok (.iload_n 1, 1) := by decide +kernel
theorem dX8_put_38 : decode (dc DX8_put) 38 = .ok (.laload, 1) := by decide +kernel
theorem dX8_put_39 : decode (dc DX8_put) 39 = .ok (.lload 4, 2) := by decide +kernel
theorem dX8_put_41 : decode (dc DX8_put) 41 = .ok (.ladd, 1) := by decide +kernel
theorem dX8_put_42 : decode (dc DX8_put) 42 = .ok (.lstore 7, 2) := by decide +kernel
theorem dX8_put_44 : decode (dc DX8_put) 44 = .ok (.aload_n 0, 1) := by decide +kernel
theorem dX8_put_45 : decode (dc DX8_put) 45 = .ok (.getfield 9, 3) := by decide +kernel
theorem dX8_put_48 : decode (dc DX8_put) 48 = .ok (.iload_n 2, 1) := by decide +kernel
theorem dX8_put_49 : decode (dc DX8_put) 49 = .ok (.laload, 1) := by decide +kernel
theorem dX8_put_50 : decode (dc DX8_put) 50 = .ok (.lconst 0, 1) := by decide +kernel
theorem dX8_put_51 : decode (dc DX8_put) 51 = .ok (.lcmp, 1) := by decide +kernel
theorem dX8_put_52 : decode (dc DX8_put) 52 = .ok (.ifCond .eq 14, 3) := by decide +kernel
theorem dX8_put_55 : decode (dc DX8_put) 55 = .ok (.iload 6, 2) := by decide +kernel
theorem dX8_put_57 : decode (dc DX8_put) 57 = .ok (.aload_n 0, 1) := by decide +kernel
theorem dX8_put_58 : decode (dc DX8_put) 58 = .ok (.getfield 21, 3) := by decide +kernel
theorem dX8_put_61 : decode (dc DX8_put) 61 = .ok (.iload_n 2, 1) := by decide +kernel
theorem dX8_put_62 : decode (dc DX8_put) 62 = .ok (.iaload, 1) := by decide +kernel
theorem dX8_put_63 : decode (dc DX8_put) 63 = .ok (.if_icmp .ge 34, 3) := by decide +kernel
theorem dX8_put_66 : decode (dc DX8_put) 66 = .ok (.aload_n 0, 1) := by decide +kernel
theorem dX8_put_67 : decode (dc DX8_put) 67 = .ok (.getfield 21, 3) := by decide +kernel
theorem dX8_put_70 : decode (dc DX8_put) 70 = .ok (.iload_n 2, 1) := by decide +kernel
theorem dX8_put_71 : decode (dc DX8_put) 71 = .ok (.iload 6, 2) := by decide +kernel
theorem dX8_put_73 : decode (dc DX8_put) 73 = .ok (.iastore, 1) := by decide +kernel
theorem dX8_put_74 : decode (dc DX8_put) 74 = .ok (.aload_n 0, 1) := by decide +kernel
theorem dX8_put_75 : decode (dc DX8_put) 75 = .ok (.getfield 15, 3) := by decide +kernel
theorem dX8_put_78 : decode (dc DX8_put) 78 = .ok (.iload_n 2, 1) := by decide +kernel
theorem dX8_put_79 : decode (dc DX8_put) 79 = .ok (.aload_n 0, 1) := by decide +kernel
theorem dX8_put_80 : decode (dc DX8_put) 80 = .ok (.getfield 15, 3) := by decide +kernel
theorem dX8_put_83 : decode (dc DX8_put) 83 = .ok (.iload_n 1, 1) := by decide +kernel
theorem dX8_put_84 : decode (dc DX8_put) 84 = .ok (.laload, 1) := by decide +kernel
theorem dX8_put_85 : decode (dc DX8_put) 85 = .ok (.lastore, 1) := by decide +kernel
theorem dX8_put_86 : decode (dc DX8_put) 86 = .ok (.aload_n 0, 1) := by decide +kernel
theorem dX8_put_87 : decode (dc DX8_put) 87 = .ok (.getfield 18, 3) := by decide +kernel
theorem dX8_put_90 : decode (dc DX8_put) 90 = .ok (.iload_n 2, 1) := by decide +kernel
theorem dX8_put_91 : decode (dc DX8_put) 91 = .ok (.lload 7, 2) := by decide +kernel
theorem dX8_put_93 : decode (dc DX8_put) 93 = .ok (.lastore, 1) := by decide +kernel
theorem dX8_put_94 : decode (dc DX8_put) 94 = .ok (.goto 46, 3) := by decide +kernel
theorem dX8_put_97 : decode (dc DX8_put) 97 = .ok (.iload 6, 2) := by decide +kernel
theorem dX8_put_99 : decode (dc DX8_put) 99 = .ok (.aload_n 0, 1) := by decide +kernel
theorem dX8_put_100 : decode (dc DX8_put) 100 = .ok (.getfield 21, 3) := by decide +kernel
theorem dX8_put_103 : decode (dc DX8_put) 103 = .ok (.iload_n 2, 1) := by decide +kernel
theorem dX8_put_104 : decode (dc DX8_put) 104 = .ok (.iaload, 1) := by decide +kernel
theorem dX8_put_105 : decode (dc DX8_put) 105 = .ok (.if_icmp .ne 35, 3) := by decide +kernel
theorem dX8_put_108 : decode (dc DX8_put) 108 = .ok (.aload_n 0, 1) := by decide +kernel
theorem dX8_put_109 : decode (dc DX8_put) 109 = .ok (.getfield 15, 3) := by decide +kernel
theorem dX8_put_112 : decode (dc DX8_put) 112 = .ok (.iload_n 2, 1) := by decide +kernel
theorem dX8_put_113 : decode (dc DX8_put) 113 = .ok (.dup2, 1) := by decide +kernel
theorem dX8_put_114 : decode (dc DX8_put) 114 = .ok (.laload, 1) := by decide +kernel
theorem dX8_put_115 : decode (dc DX8_put) 115 = .ok (.aload_n 0, 1) := by decide +kernel
theorem dX8_put_116 : decode (dc DX8_put) 116 = .ok (.getfield 15, 3) := by decide +kernel
theorem dX8_put_119 : decode (dc DX8_put) 119 = .ok (.iload_n 1, 1) := by decide +kernel
theorem dX8_put_120 : decode (dc DX8_put) 120 = .ok (.laload, 1) := by decide +kernel
theorem dX8_put_121 : decode (dc DX8_put) 121 = .ok (.ladd, 1) := by decide +kernel
theorem dX8_put_122 : decode (dc DX8_put) 122 = .ok (.lastore, 1) := by decide +kernel
theorem dX8_put_123 : decode (dc DX8_put) 123 = .ok (.aload_n 0, 1) := by decide +kernel
theorem dX8_put_124 : decode (dc DX8_put) 124 = .ok (.getfield 18, 3) := by decide +kernel
theorem dX8_put_127 : decode (dc DX8_put) 127 = .ok (.iload_n 2, 1) := by decide +kernel
theorem dX8_put_128 : decode (dc DX8_put) 128 = .ok (.aload_n 0, 1) := by decide +kernel
theorem dX8_put_129 : decode (dc DX8_put) 129 = .ok (.getfield 18, 3) := by decide +kernel
theorem dX8_put_132 : decode (dc DX8_put) 132 = .ok (.iload_n 2, 1) := by decide +kernel
theorem dX8_put_133 : decode (dc DX8_put) 133 = .ok (.laload, 1) := by decide +kernel
theorem dX8_put_134 : decode (dc DX8_put) 134 = .ok (.lload 7, 2) := by decide +kernel
theorem dX8_put_136 : decode (dc DX8_put) 136 = .ok (.invokestatic 90, 3) := by decide +kernel
theorem dX8_put_139 : decode (dc DX8_put) 139 = .ok (.lastore, 1) := by decide +kernel
theorem dX8_put_140 : decode (dc DX8_put) 140 = .ok (.aload_n 0, 1) := by decide +kernel
theorem dX8_put_141 : decode (dc DX8_put) 141 = .ok (.getfield 9, 3) := by decide +kernel
theorem dX8_put_144 : decode (dc DX8_put) 144 = .ok (.iload_n 2, 1) := by decide +kernel
theorem dX8_put_145 : decode (dc DX8_put) 145 = .ok (.dup2, 1) := by decide +kernel
theorem dX8_put_146 : decode (dc DX8_put) 146 = .ok (.laload, 1) := by decide +kernel
theorem dX8_put_147 : decode (dc DX8_put) 147 = .ok (.aload_n 0, 1) := by decide +kernel
theorem dX8_put_148 : decode (dc DX8_put) 148 = .ok (.getfield 9, 3) := by decide +kernel
theorem dX8_put_151 : decode (dc DX8_put) 151 = .ok (.iload_n 1, 1) := by decide +kernel
theorem dX8_put_152 : decode (dc DX8_put) 152 = .ok (.laload, 1) := by decide +kernel
theorem dX8_put_153 : decode (dc DX8_put) 153 = .ok (.ladd, 1) := by decide +kernel
theorem dX8_put_154 : decode (dc DX8_put) 154 = .ok (.lastore, 1) := by decide +kernel
theorem dX8_put_155 : decode (dc DX8_put) 155 = .ok (.return_, 1) := by decide +kernel
theorem dX8_extend_0 : decode (dc DX8_extend) 0 = .ok (.iload 7, 2) := by decide +kernel
theorem dX8_extend_2 : decode (dc DX8_extend) 2 = .ok (.iconst 1, 1) := by decide +kernel
theorem dX8_extend_3 : decode (dc DX8_extend) 3 = .ok (.isub, 1) := by decide +kernel
theorem dX8_extend_4 : decode (dc DX8_extend) 4 = .ok (.istore 8, 2) := by decide +kernel
theorem dX8_extend_6 : decode (dc DX8_extend) 6 = .ok (.iload 8, 2) := by decide +kernel
theorem dX8_extend_8 : decode (dc DX8_extend) 8 = .ok (.ifCond .lt 111, 3) := by decide +kernel
theorem dX8_extend_11 : decode (dc DX8_extend) 11 = .ok (.iload_n 2, 1) := by decide +kernel
theorem dX8_extend_12 : decode (dc DX8_extend) 12 = .ok (.iload 8, 2) := by decide +kernel
theorem dX8_extend_14 : decode (dc DX8_extend) 14 = .ok (.iconst (-1), 1) := by decide +kernel
theorem dX8_extend_15 : decode (dc DX8_extend) 15 = .ok (.ixor, 1) := by decide +kernel
theorem dX8_extend_16 : decode (dc DX8_extend) 16 = .ok (.iand, 1) := by decide +kernel
theorem dX8_extend_17 : decode (dc DX8_extend) 17 = .ok (.istore 9, 2) := by decide +kernel
theorem dX8_extend_19 : decode (dc DX8_extend) 19 = .ok (.iload 8, 2) := by decide +kernel
theorem dX8_extend_21 : decode (dc DX8_extend) 21 = .ok (.sipush 4096, 3) := by decide +kernel
theorem dX8_extend_24 : decode (dc DX8_extend) 24 = .ok (.if_icmp .ge 89, 3) := by decide +kernel
theorem dX8_extend_27 : decode (dc DX8_extend) 27 = .ok (.iload 9, 2) := by decide +kernel
theorem dX8_extend_29 : decode (dc DX8_extend) 29 = .ok (.ifCond .eq 84, 3) := by decide +kernel
theorem dX8_extend_32 : decode (dc DX8_extend) 32 = .ok (.aload_n 0, 1) := by decide +kernel
theorem dX8_extend_33 : decode (dc DX8_extend) 33 = .ok (.getfield 9, 3) := by decide +kernel
theorem dX8_extend_36 : decode (dc DX8_extend) 36 = .ok (.iload 8, 2) := by decide +kernel
theorem dX8_extend_38 : decode (dc DX8_extend) 38 = .ok (.laload, 1) := by decide +kernel
theorem dX8_extend_39 : decode (dc DX8_extend) 39 = .ok (.lconst 0, 1) := by decide +kernel
theorem dX8_extend_40 : decode (dc DX8_extend) 40 = .ok (.lcmp, 1) := by decide +kernel
theorem dX8_extend_41 : decode (dc DX8_extend) 41 = .ok (.ifCond .eq 72, 3) := by decide +kernel
theorem dX8_extend_44 : decode (dc DX8_extend) 44 = .ok (.iload 8, 2) := by decide +kernel
theorem dX8_extend_46 : decode (dc DX8_extend) 46 = .ok (.invokestatic 57, 3) := by decide +kernel
theorem dX8_extend_49 : decode (dc DX8_extend) 49 = .ok (.iload 6, 2) := by decide +kernel
theorem dX8_extend_51 : decode (dc DX8_extend) 51 = .ok (.if_icmp .ge 6, 3) := by decide +kernel
theorem dX8_extend_54 : decode (dc DX8_extend) 54 = .ok (.goto 59, 3) := by decide +kernel
theorem dX8_extend_57 : decode (dc DX8_extend) 57 = .ok (.iconst 0, 1) := by decide +kernel
theorem dX8_extend_58 : decode (dc DX8_extend) 58 = .ok (.istore 10, 2) := by decide +kernel
theorem dX8_extend_60 : decode (dc DX8_extend) 60 = .ok (.iload 10, 2) := by decide +kernel
theorem dX8_extend_62 : decode (dc DX8_extend) 62 = .ok (.bipush 12, 2) := by decide +kernel
theorem dX8_extend_64 : decode (dc DX8_extend) 64 = .ok (.if_icmp .ge 49, 3) := by decide +kernel
theorem dX8_extend_67 : decode (dc DX8_extend) 67 = .ok (.iload 9, 2) := by decide +kernel
theorem dX8_extend_69 : decode (dc DX8_extend) 69 = .ok (.iload 10, 2) := by decide +kernel
theorem dX8_extend_71 : decode (dc DX8_extend) 71 = .ok (.invokestatic 64, 3) := by decide +kernel
theorem dX8_extend_74 : decode (dc DX8_extend) 74 = .ok (.ifCond .eq 33, 3) := by decide +kernel
theorem dX8_extend_77 : decode (dc DX8_extend) 77 = .ok (.aload_n 0, 1) := by decide +kernel
theorem dX8_extend_78 : decode (dc DX8_extend) 78 = .ok (.iload 8, 2) := by decide +kernel
theorem dX8_extend_80 : decode (dc DX8_extend) 80 = .ok (.iload 8, 2) := by decide +kernel
theorem dX8_extend_82 : decode (dc DX8_extend) 82 = .ok (.iload 10, 2) := by decide +kernel
theorem dX8_extend_84 : decode (dc DX8_extend) 84 = .ok (.invokestatic 50, 3) := by decide +kernel
theorem dX8_extend_87 : decode (dc DX8_extend) 87 = .ok (.ior, 1) := by decide +kernel
theorem dX8_extend_88 : decode (dc DX8_extend) 88 = .ok (.aload_n 1, 1) := by decide +kernel
theorem dX8_extend_89 : decode (dc DX8_extend) 89 = .ok (.iload_n 3, 1) := by decide +kernel
theorem dX8_extend_90 : decode (dc DX8_extend) 90 = .ok (.iload 10, 2) := by decide +kernel
theorem dX8_extend_92 : decode (dc DX8_extend) 92 = .ok (.invokevirtual 81, 3) := by decide +kernel
theorem dX8_extend_95 : decode (dc DX8_extend) 95 = .ok (.lload 4, 2) := by decide +kernel
theorem dX8_extend_97 : decode (dc DX8_extend) 97 = .ok (.iload 10, 2) := by decide +kernel
theorem dX8_extend_99 : decode (dc DX8_extend) 99 = .ok (.bipush 12, 2) := by decide +kernel
theorem dX8_extend_101 : decode (dc DX8_extend) 101 = .ok (.isub, 1) := by decide +kernel
theorem dX8_extend_102 : decode (dc DX8_extend) 102 = .ok (.i2l, 1) := by decide +kernel
theorem dX8_extend_103 : decode (dc DX8_extend) 103 = .ok (.lmul, 1) := by decide +kernel
theorem dX8_extend_104 : decode (dc DX8_extend) 104 = .ok (.invokevirtual 86, 3) := by decide +kernel
theorem dX8_extend_107 : decode (dc DX8_extend) 107 = .ok (.iinc 10 1, 3) := by decide +kernel
theorem dX8_extend_110 : decode (dc DX8_extend) 110 = .ok (.goto (-50), 3) := by decide +kernel
theorem dX8_extend_113 : decode (dc DX8_extend) 113 = .ok (.iinc 8 (-1), 3) := by decide +kernel
theorem dX8_extend_116 : decode (dc DX8_extend) 116 = .ok (.goto (-110), 3) := by decide +kernel
theorem dX8_extend_119 : decode (dc DX8_extend) 119 = .ok (.return_, 1) := by decide +kernel
theorem dX8_decode_0 : decode (dc DX8_decode) 0 = .ok (.lload_n 1, 1) := by decide +kernel
theorem dX8_decode_1 : decode (dc DX8_decode) 1 = .ok (.ldc2_w 97, 3) := by decide +kernel
theorem dX8_decode_4 : decode (dc DX8_decode) 4 = .ok (.ladd, 1) := by decide +kernel
theorem dX8_decode_5 : decode (dc DX8_decode) 5 = .ok (.lconst 1, 1) := by decide +kernel
theorem dX8_decode_6 : decode (dc DX8_decode) 6 = .ok (.lsub, 1) := by decide +kernel
theorem dX8_decode_7 : decode (dc DX8_decode) 7 = .ok (.lstore_n 3, 1) := by decide +kernel
theorem dX8_decode_8 : decode (dc DX8_decode) 8 = .ok (.bipush 11, 2) := by decide +kernel
theorem dX8_decode_10 : decode (dc DX8_decode) 10 = .ok (.istore 5, 2) := by decide +kernel
theorem dX8_decode_12 : decode (dc DX8_decode) 12 = .ok (.iload 5, 2) := by decide +kernel
theorem dX8_decode_14 : decode (dc DX8_decode) 14 = .ok (.ifCond .lt 43, 3) := by decide +kernel
theorem dX8_decode_17 : decode (dc DX8_decode) 17 = .ok (.lload_n 3, 1) := by decide +kernel
theorem dX8_decode_18 : decode (dc DX8_decode) 18 = .ok (.ldc2_w 75, 3) := by decide +kernel
theorem dX8_decode_21 : decode (dc DX8_decode) 21 = .ok (.lrem, 1) := by decide +kernel
theorem dX8_decode_22 : decode (dc DX8_decode) 22 = .ok (.l2i, 1) := by decide +kernel
theorem dX8_decode_23 : decode (dc DX8_decode) 23 = .ok (.istore 6, 2) := by decide +kernel
theorem dX8_decode_25 : decode (dc DX8_decode) 25 = .ok (.aload_n 0, 1) := by decide +kernel
theorem dX8_decode_26 : decode (dc DX8_decode) 26 = .ok (.getfield 25, 3) := by decide +kernel
theorem dX8_decode_29 : decode (dc DX8_decode) 29 = .ok (.iload 5, 2) := by decide +kernel
theorem dX8_decode_31 : decode (dc DX8_decode) 31 = .ok (.iload 6, 2) := by decide +kernel
theorem dX8_decode_33 : decode (dc DX8_decode) 33 = .ok (.bipush 12, 2) := by decide +kernel
theorem dX8_decode_35 : decode (dc DX8_decode) 35 = .ok (.if_icmp .ge 8, 3) := by decide +kernel
theorem dX8_decode_38 : decode (dc DX8_decode) 38 = .ok (.iload 6, 2) := by decide +kernel
theorem dX8_decode_40 : decode (dc DX8_decode) 40 = .ok (.goto 4, 3) := by decide +kernel
theorem dX8_decode_43 : decode (dc DX8_decode) 43 = .ok (.iconst (-1), 1) := by decide +kernel
theorem dX8_decode_44 : decode (dc DX8_decode) 44 = .ok (.iastore, 1) := by decide +kernel
theorem dX8_decode_45 : decode (dc DX8_decode) 45 = .ok (.lload_n 3, 1) := by decide +kernel
theorem dX8_decode_46 : decode (dc DX8_decode) 46 = .ok (.ldc2_w 75, 3) := by decide +kernel
theorem dX8_decode_49 : decode (dc DX8_decode) 49 = .ok (.ldiv, 1) := by decide +kernel
theorem dX8_decode_50 : decode (dc DX8_decode) 50 = .ok (.lstore_n 3, 1) := by decide +kernel
theorem dX8_decode_51 : decode (dc DX8_decode) 51 = .ok (.iinc 5 (-1), 3) := by decide +kernel
theorem dX8_decode_54 : decode (dc DX8_decode) 54 = .ok (.goto (-42), 3) := by decide +kernel
theorem dX8_decode_57 : decode (dc DX8_decode) 57 = .ok (.return_, 1) := by decide +kernel
theorem dX8_finish_0 : decode (dc DX8_finish) 0 = .ok (.aload_n 0, 1) := by decide +kernel
theorem dX8_finish_1 : decode (dc DX8_finish) 1 = .ok (.lconst 0, 1) := by decide +kernel
theorem dX8_finish_2 : decode (dc DX8_finish) 2 = .ok (.putfield 28, 3) := by decide +kernel
theorem dX8_finish_5 : decode (dc DX8_finish) 5 = .ok (.aload_n 0, 1) := by decide +kernel
theorem dX8_finish_6 : decode (dc DX8_finish) 6 = .ok (.lconst 0, 1) := by decide +kernel
theorem dX8_finish_7 : decode (dc DX8_finish) 7 = .ok (.putfield 32, 3) := by decide +kernel
theorem dX8_finish_10 : decode (dc DX8_finish) 10 = .ok (.aload_n 0, 1) := by decide +kernel
theorem dX8_finish_11 : decode (dc DX8_finish) 11 = .ok (.iconst 0, 1) := by decide +kernel
theorem dX8_finish_12 : decode (dc DX8_finish) 12 = .ok (.putfield 35, 3) := by decide +kernel
theorem dX8_finish_15 : decode (dc DX8_finish) 15 = .ok (.lconst 0, 1) := by decide +kernel
theorem dX8_finish_16 : decode (dc DX8_finish) 16 = .ok (.lstore_n 3, 1) := by decide +kernel
theorem dX8_finish_17 : decode (dc DX8_finish) 17 = .ok (.iconst 0, 1) := by decide +kernel
theorem dX8_finish_18 : decode (dc DX8_finish) 18 = .ok (.istore 5, 2) := by decide +kernel
theorem dX8_finish_20 : decode (dc DX8_finish) 20 = .ok (.iload 5, 2) := by decide +kernel
theorem dX8_finish_22 : decode (dc DX8_finish) 22 = .ok (.iload_n 2, 1) := by decide +kernel
theorem dX8_finish_23 : decode (dc DX8_finish) 23 = .ok (.if_icmp .ge 152, 3) := by decide +kernel
theorem dX8_finish_26 : decode (dc DX8_finish) 26 = .ok (.iload 5, 2) := by decide +kernel
theorem dX8_finish_28 : decode (dc DX8_finish) 28 = .ok (.sipush 4096, 3) := by decide +kernel
theorem dX8_finish_31 : decode (dc DX8_finish) 31 = .ok (.if_icmp .ge 144, 3) := by decide +kernel
theorem dX8_finish_34 : decode (dc DX8_finish) 34 = .ok (.aload_n 0, 1) := by decide +kernel
theorem dX8_finish_35 : decode (dc DX8_finish) 35 = .ok (.getfield 9, 3) := by decide +kernel
theorem dX8_finish_38 : decode (dc DX8_finish) 38 = .ok (.iload 5, 2) := by decide +kernel
theorem dX8_finish_40 : decode (dc DX8_finish) 40 = .ok (.laload, 1) := by decide +kernel
theorem dX8_finish_41 : decode (dc DX8_finish) 41 = .ok (.lconst 0, 1) := by decide +kernel
theorem dX8_finish_42 : decode (dc DX8_finish) 42 = .ok (.lcmp, 1) := by decide +kernel
theorem dX8_finish_43 : decode (dc DX8_finish) 43 = .ok (.ifCond .eq 126, 3) := by decide +kernel
theorem dX8_finish_46 : decode (dc DX8_finish) 46 = .ok (.iload 5, 2) := by decide +kernel
theorem dX8_finish_48 : decode (dc DX8_finish) 48 = .ok (.invokestatic 57, 3) := by decide +kernel
theorem dX8_finish_51 : decode (dc DX8_finish) 51 = .ok (.iload_n 1, 1) := by decide +kernel
theorem dX8_finish_52 : decode (dc DX8_finish) 52 = .ok (.if_icmp .ne 117, 3) := by decide +kernel
theorem dX8_finish_55 : decode (dc DX8_finish) 55 = .ok (.aload_n 0, 1) := by decide +kernel
theorem dX8_finish_56 : decode (dc DX8_finish) 56 = .ok (.getfield 28, 3) := by decide +kernel
theorem dX8_finish_59 : decode (dc DX8_finish) 59 = .ok (.lconst 0, 1) := by decide +kernel
theorem dX8_finish_60 : decode (dc DX8_finish) 60 = .ok (.lcmp, 1) := by decide +kernel
theorem dX8_finish_61 : decode (dc DX8_finish) 61 = .ok (.ifCond .eq 17, 3) := by decide +kernel
theorem dX8_finish_64 : decode (dc DX8_finish) 64 = .ok (.aload_n 0, 1) := by decide +kernel
theorem dX8_finish_65 : decode (dc DX8_finish) 65 = .ok (.getfield 21, 3) := by decide +kernel
theorem dX8_finish_68 : decode (dc DX8_finish) 68 = .ok (.iload 5, 2) := by decide +kernel
theorem dX8_finish_70 : decode (dc DX8_finish) 70 = .ok (.iaload, 1) := by decide +kernel
theorem dX8_finish_71 : decode (dc DX8_finish) 71 = .ok (.aload_n 0, 1) := by decide +kernel
theorem dX8_finish_72 : decode (dc DX8_finish) 72 = .ok (.getfield 35, 3) := by decide +kernel
theorem dX8_finish_75 : decode (dc DX8_finish) 75 = .ok (.if_icmp .ge 36, 3) := by decide +kernel
theorem dX8_finish_78 : decode (dc DX8_finish) 78 = .ok (.aload_n 0, 1) := by decide +kernel
theorem dX8_finish_79 : decode (dc DX8_finish) 79 = .ok (.aload_n 0, 1) := by decide +kernel
theorem dX8_finish_80 : decode (dc DX8_finish) 80 = .ok (.getfield 21, 3) := by decide +kernel
theorem dX8_finish_83 : decode (dc DX8_finish) 83 = .ok (.iload 5, 2) := by decide +kernel
theorem dX8_finish_85 : decode (dc DX8_finish) 85 = .ok (.iaload, 1) := by decide +kernel
theorem dX8_finish_86 : decode (dc DX8_finish) 86 = .ok (.putfield 35, 3) := by decide +kernel
theorem dX8_finish_89 : decode (dc DX8_finish) 89 = .ok (.aload_n 0, 1) := by decide +kernel
theorem dX8_finish_90 : decode (dc DX8_finish) 90 = .ok (.aload_n 0, 1) := by decide +kernel
theorem dX8_finish_91 : decode (dc DX8_finish) 91 = .ok (.getfield 15, 3) := by decide +kernel
theorem dX8_finish_94 : decode (dc DX8_finish) 94 = .ok (.iload 5, 2) := by decide +kernel
theorem dX8_finish_96 : decode (dc DX8_finish) 96 = .ok (.laload, 1) := by decide +kernel
theorem dX8_finish_97 : decode (dc DX8_finish) 97 = .ok (.putfield 32, 3) := by decide +kernel
theorem dX8_finish_100 : decode (dc DX8_finish) 100 = .ok (.aload_n 0, 1) := by decide +kernel
theorem dX8_finish_101 : decode (dc DX8_finish) 101 = .ok (.getfield 18, 3) := by decide +kernel
theorem dX8_finish_104 : decode (dc DX8_finish) 104 = .ok (.iload 5, 2) := by decide +kernel
theorem dX8_finish_106 : decode (dc DX8_finish) 106 = .ok (.laload, 1) := by decide +kernel
theorem dX8_finish_107 : decode (dc DX8_finish) 107 = .ok (.lstore_n 3, 1) := by decide +kernel
theorem dX8_finish_108 : decode (dc DX8_finish) 108 = .ok (.goto 45, 3) := by decide +kernel
theorem dX8_finish_111 : decode (dc DX8_finish) 111 = .ok (.aload_n 0, 1) := by decide +kernel
theorem dX8_finish_112 : decode (dc DX8_finish) 112 = .ok (.getfield 21, 3) := by decide +kernel
theorem dX8_finish_115 : decode (dc DX8_finish) 115 = .ok (.iload 5, 2) := by decide +kernel
theorem dX8_finish_117 : decode (dc DX8_finish) 117 = .ok (.iaload, 1) := by decide +kernel
theorem dX8_finish_118 : decode (dc DX8_finish) 118 = .ok (.aload_n 0, 1) := by decide +kernel
theorem dX8_finish_119 : decode (dc DX8_finish) 119 = .ok (.getfield 35, 3) := by decide +kernel
theorem dX8_finish_122 : decode (dc DX8_finish) 122 = .ok (.if_icmp .ne 31, 3) := by decide +kernel
theorem dX8_finish_125 : decode (dc DX8_finish) 125 = .ok (.aload_n 0, 1) := by decide +kernel
theorem dX8_finish_126 : decode (dc DX8_finish) 126 = .ok (.dup, 1) := by decide +kernel
theorem dX8_finish_127 : decode (dc DX8_finish) 127 = .ok (.getfield 32, 3) := by decide +kernel
theorem dX8_finish_130 : decode (dc DX8_finish) 130 = .ok (.aload_n 0, 1) := by decide +kernel
theorem dX8_finish_131 : decode (dc DX8_finish) 131 = .ok (.getfield 15, 3) := by decide +kernel
theorem dX8_finish_134 : decode (dc DX8_finish) 134 = .ok (.iload 5, 2) := by decide +kernel
theorem dX8_finish_136 : decode (dc DX8_finish) 136 = .ok (.laload, 1) := by decide +kernel
theorem dX8_finish_137 : decode (dc DX8_finish) 137 = .ok (.ladd, 1) := by decide +kernel
theorem dX8_finish_138 : decode (dc DX8_finish) 138 = .ok (.putfield 32, 3) := by decide +kernel
theorem dX8_finish_141 : decode (dc DX8_finish) 141 = .ok (.lload_n 3, 1) := by decide +kernel
theorem dX8_finish_142 : decode (dc DX8_finish) 142 = .ok (.aload_n 0, 1) := by decide +kernel
theorem dX8_finish_143 : decode (dc DX8_finish) 143 = .ok (.getfield 18, 3) := by decide +kernel
theorem dX8_finish_146 : decode (dc DX8_finish) 146 = .ok (.iload 5, 2) := by decide +kernel
theorem dX8_finish_148 : decode (dc DX8_finish) 148 = .ok (.laload, 1) := by decide +kernel
theorem dX8_finish_149 : decode (dc DX8_finish) 149 = .ok (.invokestatic 90, 3) := by decide +kernel
theorem dX8_finish_152 : decode (dc DX8_finish) 152 = .ok (.lstore_n 3, 1) := by decide +kernel
theorem dX8_finish_153 : decode (dc DX8_finish) 153 = .ok (.aload_n 0, 1) := by decide +kernel
theorem dX8_finish_154 : decode (dc DX8_finish) 154 = .ok (.dup, 1) := by decide +kernel
theorem dX8_finish_155 : decode (dc DX8_finish) 155 = .ok (.getfield 28, 3) := by decide +kernel
theorem dX8_finish_158 : decode (dc DX8_finish) 158 = .ok (.aload_n 0, 1) := by decide +kernel
theorem dX8_finish_159 : decode (dc DX8_finish) 159 = .ok (.getfield 9, 3) := by decide +kernel
theorem dX8_finish_162 : decode (dc DX8_finish) 162 = .ok (.iload 5, 2) := by decide +kernel
theorem dX8_finish_164 : decode (dc DX8_finish) 164 = .ok (.laload, 1) := by decide +kernel
theorem dX8_finish_165 : decode (dc DX8_finish) 165 = .ok (.ladd, 1) := by decide +kernel
theorem dX8_finish_166 : decode (dc DX8_finish) 166 = .ok (.putfield 28, 3) := by decide +kernel
theorem dX8_finish_169 : decode (dc DX8_finish) 169 = .ok (.iinc 5 1, 3) := by decide +kernel
theorem dX8_finish_172 : decode (dc DX8_finish) 172 = .ok (.goto (-152), 3) := by decide +kernel
theorem dX8_finish_175 : decode (dc DX8_finish) 175 = .ok (.aload_n 0, 1) := by decide +kernel
theorem dX8_finish_176 : decode (dc DX8_finish) 176 = .ok (.lload_n 3, 1) := by decide +kernel
theorem dX8_finish_177 : decode (dc DX8_finish) 177 = .ok (.invokevirtual 93, 3) := by decide +kernel
theorem dX8_finish_180 : decode (dc DX8_finish) 180 = .ok (.return_, 1) := by decide +kernel
theorem dX8_run_0 : decode (dc DX8_run) 0 = .ok (.bipush 12, 2) := by decide +kernel
theorem dX8_run_2 : decode (dc DX8_run) 2 = .ok (.aload_n 2, 1) := by decide +kernel
theorem dX8_run_3 : decode (dc DX8_run) 3 = .ok (.getfield 39, 3) := by decide +kernel
theorem dX8_run_6 : decode (dc DX8_run) 6 = .ok (.invokestatic 44, 3) := by decide +kernel
theorem dX8_run_9 : decode (dc DX8_run) 9 = .ok (.invokestatic 50, 3) := by decide +kernel
theorem dX8_run_12 : decode (dc DX8_run) 12 = .ok (.istore 4, 2) := by decide +kernel
theorem dX8_run_14 : decode (dc DX8_run) 14 = .ok (.iconst 0, 1) := by decide +kernel
theorem dX8_run_15 : decode (dc DX8_run) 15 = .ok (.istore 5, 2) := by decide +kernel
theorem dX8_run_17 : decode (dc DX8_run) 17 = .ok (.iload 5, 2) := by decide +kernel
theorem dX8_run_19 : decode (dc DX8_run) 19 = .ok (.iload 4, 2) := by decide +kernel
theorem dX8_run_21 : decode (dc DX8_run) 21 = .ok (.if_icmp .ge 25, 3) := by decide +kernel
theorem dX8_run_24 : decode (dc DX8_run) 24 = .ok (.iload 5, 2) := by decide +kernel
theorem dX8_run_26 : decode (dc DX8_run) 26 = .ok (.sipush 4096, 3) := by decide +kernel
theorem dX8_run_29 : decode (dc DX8_run) 29 = .ok (.if_icmp .ge 17, 3) := by decide +kernel
theorem dX8_run_32 : decode (dc DX8_run) 32 = .ok (.aload_n 0, 1) := by decide +kernel
theorem dX8_run_33 : decode (dc DX8_run) 33 = .ok (.getfield 9, 3) := by decide +kernel
theorem dX8_run_36 : decode (dc DX8_run) 36 = .ok (.iload 5, 2) := by decide +kernel
theorem dX8_run_38 : decode (dc DX8_run) 38 = .ok (.lconst 0, 1) := by decide +kernel
theorem dX8_run_39 : decode (dc DX8_run) 39 = .ok (.lastore, 1) := by decide +kernel
theorem dX8_run_40 : decode (dc DX8_run) 40 = .ok (.iinc 5 1, 3) := by decide +kernel
theorem dX8_run_43 : decode (dc DX8_run) 43 = .ok (.goto (-26), 3) := by decide +kernel
theorem dX8_run_46 : decode (dc DX8_run) 46 = .ok (.aload_n 0, 1) := by decide +kernel
theorem dX8_run_47 : decode (dc DX8_run) 47 = .ok (.getfield 9, 3) := by decide +kernel
theorem dX8_run_50 : decode (dc DX8_run) 50 = .ok (.iconst 0, 1) := by decide +kernel
theorem dX8_run_51 : decode (dc DX8_run) 51 = .ok (.lconst 1, 1) := by decide +kernel
theorem dX8_run_52 : decode (dc DX8_run) 52 = .ok (.lastore, 1) := by decide +kernel
theorem dX8_run_53 : decode (dc DX8_run) 53 = .ok (.aload_n 0, 1) := by decide +kernel
theorem dX8_run_54 : decode (dc DX8_run) 54 = .ok (.getfield 15, 3) := by decide +kernel
theorem dX8_run_57 : decode (dc DX8_run) 57 = .ok (.iconst 0, 1) := by decide +kernel
theorem dX8_run_58 : decode (dc DX8_run) 58 = .ok (.lconst 1, 1) := by decide +kernel
theorem dX8_run_59 : decode (dc DX8_run) 59 = .ok (.lastore, 1) := by decide +kernel
theorem dX8_run_60 : decode (dc DX8_run) 60 = .ok (.aload_n 0, 1) := by decide +kernel
theorem dX8_run_61 : decode (dc DX8_run) 61 = .ok (.getfield 18, 3) := by decide +kernel
theorem dX8_run_64 : decode (dc DX8_run) 64 = .ok (.iconst 0, 1) := by decide +kernel
theorem dX8_run_65 : decode (dc DX8_run) 65 = .ok (.lconst 0, 1) := by decide +kernel
theorem dX8_run_66 : decode (dc DX8_run) 66 = .ok (.lastore, 1) := by decide +kernel
theorem dX8_run_67 : decode (dc DX8_run) 67 = .ok (.aload_n 0, 1) := by decide +kernel
theorem dX8_run_68 : decode (dc DX8_run) 68 = .ok (.getfield 21, 3) := by decide +kernel
theorem dX8_run_71 : decode (dc DX8_run) 71 = .ok (.iconst 0, 1) := by decide +kernel
theorem dX8_run_72 : decode (dc DX8_run) 72 = .ok (.iconst 0, 1) := by decide +kernel
theorem dX8_run_73 : decode (dc DX8_run) 73 = .ok (.iastore, 1) := by decide +kernel
theorem dX8_run_74 : decode (dc DX8_run) 74 = .ok (.aload_n 2, 1) := by decide +kernel
theorem dX8_run_75 : decode (dc DX8_run) 75 = .ok (.getfield 54, 3) := by decide +kernel
theorem dX8_run_78 : decode (dc DX8_run) 78 = .ok (.invokestatic 57, 3) := by decide +kernel
theorem dX8_run_81 : decode (dc DX8_run) 81 = .ok (.istore 5, 2) := by decide +kernel
theorem dX8_run_83 : decode (dc DX8_run) 83 = .ok (.ldc2_w 62, 3) := by decide +kernel
theorem dX8_run_86 : decode (dc DX8_run) 86 = .ok (.lstore 6, 2) := by decide +kernel
theorem dX8_run_88 : decode (dc DX8_run) 88 = .ok (.iconst 0, 1) := by decide +kernel
theorem dX8_run_89 : decode (dc DX8_run) 89 = .ok (.istore 8, 2) := by decide +kernel
theorem dX8_run_91 : decode (dc DX8_run) 91 = .ok (.iload 8, 2) := by decide +kernel
theorem dX8_run_93 : decode (dc DX8_run) 93 = .ok (.bipush 12, 2) := by decide +kernel
theorem dX8_run_95 : decode (dc DX8_run) 95 = .ok (.if_icmp .ge 53, 3) := by decide +kernel
theorem dX8_run_98 : decode (dc DX8_run) 98 = .ok (.aload_n 2, 1) := by decide +kernel
theorem dX8_run_99 : decode (dc DX8_run) 99 = .ok (.getfield 54, 3) := by decide +kernel
theorem dX8_run_102 : decode (dc DX8_run) 102 = .ok (.iload 8, 2) := by decide +kernel
theorem dX8_run_104 : decode (dc DX8_run) 104 = .ok (.invokestatic 64, 3) := by decide +kernel
theorem dX8_run_107 : decode (dc DX8_run) 107 = .ok (.ifCond .eq 27, 3) := by decide +kernel
theorem dX8_run_110 : decode (dc DX8_run) 110 = .ok (.aload_n 0, 1) := by decide +kernel
theorem dX8_run_111 : decode (dc DX8_run) 111 = .ok (.aload_n 1, 1) := by decide +kernel
theorem dX8_run_112 : decode (dc DX8_run) 112 = .ok (.aload_n 2, 1) := by decide +kernel
theorem dX8_run_113 : decode (dc DX8_run) 113 = .ok (.iload 8, 2) := by decide +kernel
theorem dX8_run_115 : decode (dc DX8_run) 115 = .ok (.invokevirtual 68, 3) := by decide +kernel
theorem dX8_run_118 : decode (dc DX8_run) 118 = .ok (.iload 8, 2) := by decide +kernel
theorem dX8_run_120 : decode (dc DX8_run) 120 = .ok (.lload 6, 2) := by decide +kernel
theorem dX8_run_122 : decode (dc DX8_run) 122 = .ok (.iload_n 3, 1) := by decide +kernel
theorem dX8_run_123 : decode (dc DX8_run) 123 = .ok (.iload 5, 2) := by decide +kernel
theorem dX8_run_125 : decode (dc DX8_run) 125 = .ok (.isub, 1) := by decide +kernel
theorem dX8_run_126 : decode (dc DX8_run) 126 = .ok (.iload 4, 2) := by decide +kernel
theorem dX8_run_128 : decode (dc DX8_run) 128 = .ok (.invokevirtual 71, 3) := by decide +kernel
theorem dX8_run_131 : decode (dc DX8_run) 131 = .ok (.iinc 5 (-1), 3) := by decide +kernel
theorem dX8_run_134 : decode (dc DX8_run) 134 = .ok (.lload 6, 2) := by decide +kernel
theorem dX8_run_136 : decode (dc DX8_run) 136 = .ok (.ldc2_w 75, 3) := by decide +kernel
theorem dX8_run_139 : decode (dc DX8_run) 139 = .ok (.ldiv, 1) := by decide +kernel
theorem dX8_run_140 : decode (dc DX8_run) 140 = .ok (.lstore 6, 2) := by decide +kernel
theorem dX8_run_142 : decode (dc DX8_run) 142 = .ok (.iinc 8 1, 3) := by decide +kernel
theorem dX8_run_145 : decode (dc DX8_run) 145 = .ok (.goto (-54), 3) := by decide +kernel
theorem dX8_run_148 : decode (dc DX8_run) 148 = .ok (.aload_n 0, 1) := by decide +kernel
theorem dX8_run_149 : decode (dc DX8_run) 149 = .ok (.iload_n 3, 1) := by decide +kernel
theorem dX8_run_150 : decode (dc DX8_run) 150 = .ok (.iload 4, 2) := by decide +kernel
theorem dX8_run_152 : decode (dc DX8_run) 152 = .ok (.invokevirtual 77, 3) := by decide +kernel
theorem dX8_run_155 : decode (dc DX8_run) 155 = .ok (.return_, 1) := by decide +kernel
theorem dX9_init_0 : decode (dc DX9_init) 0 = .ok (.aload_n 0, 1) := by decide +kernel
theorem dX9_init_1 : decode (dc DX9_init) 1 = .ok (.invokespecial 3, 3) := by decide +kernel
theorem dX9_init_4 : decode (dc DX9_init) 4 = .ok (.aload_n 0, 1) := by decide +kernel
theorem dX9_init_5 : decode (dc DX9_init) 5 = .ok (.new 9, 3) := by decide +kernel
theorem dX9_init_8 : decode (dc DX9_init) 8 = .ok (.dup, 1) := by decide +kernel
theorem dX9_init_9 : decode (dc DX9_init) 9 = .ok (.invokespecial 11, 3) := by decide +kernel
theorem dX9_init_12 : decode (dc DX9_init) 12 = .ok (.putfield 12, 3) := by decide +kernel
theorem dX9_init_15 : decode (dc DX9_init) 15 = .ok (.aload_n 0, 1) := by decide +kernel
theorem dX9_init_16 : decode (dc DX9_init) 16 = .ok (.new 9, 3) := by decide +kernel
theorem dX9_init_19 : decode (dc DX9_init) 19 = .ok (.dup, 1) := by decide +kernel
theorem dX9_init_20 : decode (dc DX9_init) 20 = .ok (.invokespecial 11, 3) := by decide +kernel
theorem dX9_init_23 : decode (dc DX9_init) 23 = .ok (.putfield 16, 3) := by decide +kernel
theorem dX9_init_26 : decode (dc DX9_init) 26 = .ok (.aload_n 0, 1) := by decide +kernel
theorem dX9_init_27 : decode (dc DX9_init) 27 = .ok (.new 19, 3) := by decide +kernel
theorem dX9_init_30 : decode (dc DX9_init) 30 = .ok (.dup, 1) := by decide +kernel
theorem dX9_init_31 : decode (dc DX9_init) 31 = .ok (.invokespecial 21, 3) := by decide +kernel
theorem dX9_init_34 : decode (dc DX9_init) 34 = .ok (.putfield 22, 3) := by decide +kernel
theorem dX9_init_37 : decode (dc DX9_init) 37 = .ok (.aload_n 0, 1) := by decide +kernel
theorem dX9_init_38 : decode (dc DX9_init) 38 = .ok (.new 26, 3) := by decide +kernel
theorem dX9_init_41 : decode (dc DX9_init) 41 = .ok (.dup, 1) := by decide +kernel
theorem dX9_init_42 : decode (dc DX9_init) 42 = .ok (.invokespecial 28, 3) := by decide +kernel
theorem dX9_init_45 : decode (dc DX9_init) 45 = .ok (.putfield 29, 3) := by decide +kernel
theorem dX9_init_48 : decode (dc DX9_init) 48 = .ok (.aload_n 0, 1) := by decide +kernel
theorem dX9_init_49 : decode (dc DX9_init) 49 = .ok (.new 33, 3) := by decide +kernel
theorem dX9_init_52 : decode (dc DX9_init) 52 = .ok (.dup, 1) := by decide +kernel
theorem dX9_init_53 : decode (dc DX9_init) 53 = .ok (.invokespecial 35, 3) := by decide +kernel
theorem dX9_init_56 : decode (dc DX9_init) 56 = .ok (.putfield 36, 3) := by decide +kernel
theorem dX9_init_59 : decode (dc DX9_init) 59 = .ok (.aload_n 0, 1) := by decide +kernel
theorem dX9_init_60 : decode (dc DX9_init) 60 = .ok (.new 40, 3) := by decide +kernel
theorem dX9_init_63 : decode (dc DX9_init) 63 = .ok (.dup, 1) := by decide +kernel
theorem dX9_init_64 : decode (dc DX9_init) 64 = .ok (.invokespecial 42, 3) := by decide +kernel
theorem dX9_init_67 : decode (dc DX9_init) 67 = .ok (.putfield 43, 3) := by decide +kernel
theorem dX9_init_70 : decode (dc DX9_init) 70 = .ok (.aload_n 0, 1) := by decide +kernel
theorem dX9_init_71 : decode (dc DX9_init) 71 = .ok (.new 47, 3) := by decide +kernel
theorem dX9_init_74 : decode (dc DX9_init) 74 = .ok (.dup, 1) := by decide +kernel
theorem dX9_init_75 : decode (dc DX9_init) 75 = .ok (.invokespecial 49, 3) := by decide +kernel
theorem dX9_init_78 : decode (dc DX9_init) 78 = .ok (.putfield 50, 3) := by decide +kernel
theorem dX9_init_81 : decode (dc DX9_init) 81 = .ok (.aload_n 0, 1) := by decide +kernel
theorem dX9_init_82 : decode (dc DX9_init) 82 = .ok (.new 54, 3) := by decide +kernel
theorem dX9_init_85 : decode (dc DX9_init) 85 = .ok (.dup, 1) := by decide +kernel
theorem dX9_init_86 : decode (dc DX9_init) 86 = .ok (.invokespecial 56, 3) := by decide +kernel
theorem dX9_init_89 : decode (dc DX9_init) 89 = .ok (.putfield 57, 3) := by decide +kernel
theorem dX9_init_92 : decode (dc DX9_init) 92 = .ok (.aload_n 0, 1) := by decide +kernel
theorem dX9_init_93 : decode (dc DX9_init) 93 = .ok (.new 61, 3) := by decide +kernel
theorem dX9_init_96 : decode (dc DX9_init) 96 = .ok (.dup, 1) := by decide +kernel
theorem dX9_init_97 : decode (dc DX9_init) 97 = .ok (.invokespecial 63, 3) := by decide +kernel
theorem dX9_init_100 : decode (dc DX9_init) 100 = .ok (.putfield 64, 3) := by decide +kernel
theorem dX9_init_103 : decode (dc DX9_init) 103 = .ok (.aload_n 0, 1) := by decide +kernel
theorem dX9_init_104 : decode (dc DX9_init) 104 = .ok (.iconst 0, 1) := by decide +kernel
theorem dX9_init_105 : decode (dc DX9_init) 105 = .ok (.putfield 68, 3) := by decide +kernel
theorem dX9_init_108 : decode (dc DX9_init) 108 = .ok (.aload_n 0, 1) := by decide +kernel
theorem dX9_init_109 : decode (dc DX9_init) 109 = .ok (.iconst 0, 1) := by decide +kernel
theorem dX9_init_110 : decode (dc DX9_init) 110 = .ok (.putfield 72, 3) := by decide +kernel
theorem dX9_init_113 : decode (dc DX9_init) 113 = .ok (.aload_n 0, 1) := by decide +kernel
theorem dX9_init_114 : decode (dc DX9_init) 114 = .ok (.iconst 0, 1) := by decide +kernel
theorem dX9_init_115 : decode (dc DX9_init) 115 = .ok (.putfield 76, 3) := by decide +kernel
theorem dX9_init_118 : decode (dc DX9_init) 118 = .ok (.return_, 1) := by decide +kernel
theorem dX9_feed_0 : decode (dc DX9_feed) 0 = .ok (.aload_n 0, 1) := by decide +kernel
theorem dX9_feed_1 : decode (dc DX9_feed) 1 = .ok (.getfield 29, 3) := by decide +kernel
theorem dX9_feed_4 : decode (dc DX9_feed) 4 = .ok (.invokevirtual 79, 3) := by decide +kernel
theorem dX9_feed_7 : decode (dc DX9_feed) 7 = .ok (.ifCond .ne 5, 3) := by decide +kernel
theorem dX9_feed_10 : decode (dc DX9_feed) 10 = .ok (.iconst (-1), 1) := by decide +kernel
theorem dX9_feed_11 : decode (dc DX9_feed) 11 = .ok (.ireturn, 1) := by decide +kernel
theorem dX9_feed_12 : decode (dc DX9_feed) 12 = .ok (.aload_n 0, 1) := by decide +kernel
theorem dX9_feed_13 : decode (dc DX9_feed) 13 = .ok (.getfield 29, 3) := by decide +kernel
theorem dX9_feed_16 : decode (dc DX9_feed) 16 = .ok (.iload_n 1, 1) := by decide +kernel
theorem dX9_feed_17 : decode (dc DX9_feed) 17 = .ok (.invokevirtual 83, 3) := by decide +kernel
theorem dX9_feed_20 : decode (dc DX9_feed) 20 = .ok (.aload_n 0, 1) := by decide +kernel
theorem dX9_feed_21 : decode (dc DX9_feed) 21 = .ok (.getfield 29, 3) := by decide +kernel
theorem dX9_feed_24 : decode (dc DX9_feed) 24 = .ok (.iload_n 2, 1) := by decide +kernel
theorem dX9_feed_25 : decode (dc DX9_feed) 25 = .ok (.invokevirtual 83, 3) := by decide +kernel
theorem dX9_feed_28 : decode (dc DX9_feed) 28 = .ok (.aload_n 0, 1) := by decide +kernel
theorem dX9_feed_29 : decode (dc DX9_feed) 29 = .ok (.getfield 29, 3) := by decide +kernel
theorem dX9_feed_32 : decode (dc DX9_feed) 32 = .ok (.iload_n 3, 1) := by decide +kernel
theorem dX9_feed_33 : decode (dc DX9_feed) 33 = .ok (.invokevirtual 83, 3) := by decide +kernel
theorem dX9_feed_36 : decode (dc DX9_feed) 36 = .ok (.aload_n 0, 1) := by decide +kernel
theorem dX9_feed_37 : decode (dc DX9_feed) 37 = .ok (.getfield 29, 3) := by decide +kernel
theorem dX9_feed_40 : decode (dc DX9_feed) 40 = .ok (.iload 4, 2) := by decide +kernel
theorem dX9_feed_42 : decode (dc DX9_feed) 42 = .ok (.invokevirtual 83, 3) := by decide +kernel
theorem dX9_feed_45 : decode (dc DX9_feed) 45 = .ok (.aload_n 0, 1) := by decide +kernel
theorem dX9_feed_46 : decode (dc DX9_feed) 46 = .ok (.getfield 29, 3) := by decide +kernel
theorem dX9_feed_49 : decode (dc DX9_feed) 49 = .ok (.iload 5, 2) := by decide +kernel
theorem dX9_feed_51 : decode (dc DX9_feed) 51 = .ok (.invokevirtual 83, 3) := by decide +kernel
theorem dX9_feed_54 : decode (dc DX9_feed) 54 = .ok (.aload_n 0, 1) := by decide +kernel
theorem dX9_feed_55 : decode (dc DX9_feed) 55 = .ok (.getfield 29, 3) := by decide +kernel
theorem dX9_feed_58 : decode (dc DX9_feed) 58 = .ok (.getfield 87, 3) := by decide +kernel
theorem dX9_feed_61 : decode (dc DX9_feed) 61 = .ok (.ireturn, 1) := by decide +kernel
theorem dX9_keepUp_0 : decode (dc DX9_keepUp) 0 = .ok (.aload_n 0, 1) := by decide +kernel
theorem dX9_keepUp_1 : decode (dc DX9_keepUp) 1 = .ok (.getfield 12, 3) := by decide +kernel
theorem dX9_keepUp_4 : decode (dc DX9_keepUp) 4 = .ok (.getfield 128, 3) := by decide +kernel
theorem dX9_keepUp_7 : decode (dc DX9_keepUp) 7 = .ok (.iconst 1, 1) := by decide +kernel
theorem dX9_keepUp_8 : decode (dc DX9_keepUp) 8 = .ok (.if_icmp .ne 41, 3) := by decide +kernel
theorem dX9_keepUp_11 : decode (dc DX9_keepUp) 11 = .ok (.aload_n 0, 1) := by decide +kernel
theorem dX9_keepUp_12 : decode (dc DX9_keepUp) 12 = .ok (.getfield 36, 3) := by decide +kernel
theorem dX9_keepUp_15 : decode (dc DX9_keepUp) 15 = .ok (.aload_n 0, 1) := by decide +kernel
theorem dX9_keepUp_16 : decode (dc DX9_keepUp) 16 = .ok (.getfield 12, 3) := by decide +kernel
theorem dX9_keepUp_19 : decode (dc DX9_keepUp) 19 = .ok (.invokevirtual 170, 3) := by decide +kernel
theorem dX9_keepUp_22 : decode (dc DX9_keepUp) 22 = .ok (.aload_n 0, 1) := by decide +kernel
theorem dX9_keepUp_23 : decode (dc DX9_keepUp) 23 = .ok (.getfield 36, 3) := by decide +kernel
theorem dX9_keepUp_26 : decode (dc DX9_keepUp) 26 = .ok (.bipush 12, 2) := by decide +kernel
theorem dX9_keepUp_28 : decode (dc DX9_keepUp) 28 = .ok (.invokevirtual 217, 3) := by decide +kernel
theorem dX9_keepUp_31 : decode (dc DX9_keepUp) 31 = .ok (.pop, 1) := by decide +kernel
theorem dX9_keepUp_32 : decode (dc DX9_keepUp) 32 = .ok (.aload_n 0, 1) := by decide +kernel
theorem dX9_keepUp_33 : decode (dc DX9_keepUp) 33 = .ok (.getfield 12, 3) := by decide +kernel
theorem dX9_keepUp_36 : decode (dc DX9_keepUp) 36 = .ok (.getfield 106, 3) := by decide +kernel
theorem dX9_keepUp_39 : decode (dc DX9_keepUp) 39 = .ok (.aload_n 0, 1) := by decide +kernel
theorem dX9_keepUp_40 : decode (dc DX9_keepUp) 40 = .ok (.getfield 36, 3) := by decide +kernel
theorem dX9_keepUp_43 : decode (dc DX9_keepUp) 43 = .ok (.getfield 197, 3) := by decide +kernel
theorem dX9_keepUp_46 : decode (dc DX9_keepUp) 46 = .ok (.invokevirtual 331, 3) := by decide +kernel
theorem dX9_keepUp_49 : decode (dc DX9_keepUp) 49 = .ok (.return_, 1) := by decide +kernel
theorem dX9_text_0 : decode (dc DX9_text) 0 = .ok (.aload_n 0, 1) := by decide +kernel
theorem dX9_text_1 : decode (dc DX9_text) 1 = .ok (.iload_n 1, 1) := by decide +kernel
theorem dX9_text_2 : decode (dc DX9_text) 2 = .ok (.ifCond .lt 18, 3) := by decide +kernel
theorem dX9_text_5 : decode (dc DX9_text) 5 = .ok (.iload_n 1, 1) := by decide +kernel
theorem dX9_text_6 : decode (dc DX9_text) 6 = .ok (.aload_n 0, 1) := by decide +kernel
theorem dX9_text_7 : decode (dc DX9_text) 7 = .ok (.getfield 29, 3) := by decide +kernel
theorem dX9_text_10 : decode (dc DX9_text) 10 = .ok (.getfield 87, 3) := by decide +kernel
theorem dX9_text_13 : decode (dc DX9_text) 13 = .ok (.if_icmp .gt 7, 3) := by decide +kernel
theorem dX9_text_16 : decode (dc DX9_text) 16 = .ok (.iconst 1, 1) := by decide +kernel
theorem dX9_text_17 : decode (dc DX9_text) 17 = .ok (.goto 4, 3) := by decide +kernel
theorem dX9_text_20 : decode (dc DX9_text) 20 = .ok (.iconst 0, 1) := by decide +kernel
theorem dX9_text_21 : decode (dc DX9_text) 21 = .ok (.invokevirtual 90, 3) := by decide +kernel
theorem dX9_text_24 : decode (dc DX9_text) 24 = .ok (.aload_n 0, 1) := by decide +kernel
theorem dX9_text_25 : decode (dc DX9_text) 25 = .ok (.getfield 29, 3) := by decide +kernel
theorem dX9_text_28 : decode (dc DX9_text) 28 = .ok (.iload_n 1, 1) := by decide +kernel
theorem dX9_text_29 : decode (dc DX9_text) 29 = .ok (.aload_n 0, 1) := by decide +kernel
theorem dX9_text_30 : decode (dc DX9_text) 30 = .ok (.getfield 16, 3) := by decide +kernel
theorem dX9_text_33 : decode (dc DX9_text) 33 = .ok (.invokevirtual 94, 3) := by decide +kernel
theorem dX9_text_36 : decode (dc DX9_text) 36 = .ok (.istore_n 2, 1) := by decide +kernel
theorem dX9_text_37 : decode (dc DX9_text) 37 = .ok (.iload_n 2, 1) := by decide +kernel
theorem dX9_text_38 : decode (dc DX9_text) 38 = .ok (.ifCond .eq 8, 3) := by decide +kernel
theorem dX9_text_41 : decode (dc DX9_text) 41 = .ok (.iload_n 2, 1) := by decide +kernel
theorem dX9_text_42 : decode (dc DX9_text) 42 = .ok (.bipush 10, 2) := by decide +kernel
theorem dX9_text_44 : decode (dc DX9_text) 44 = .ok (.isub, 1) := by decide +kernel
theorem dX9_text_45 : decode (dc DX9_text) 45 = .ok (.ireturn, 1) := by decide +kernel
theorem dX9_text_46 : decode (dc DX9_text) 46 = .ok (.aload_n 0, 1) := by decide +kernel
theorem dX9_text_47 : decode (dc DX9_text) 47 = .ok (.getfield 12, 3) := by decide +kernel
theorem dX9_text_50 : decode (dc DX9_text) 50 = .ok (.aload_n 0, 1) := by decide +kernel
theorem dX9_text_51 : decode (dc DX9_text) 51 = .ok (.getfield 16, 3) := by decide +kernel
theorem dX9_text_54 : decode (dc DX9_text) 54 = .ok (.invokevirtual 98, 3) := by decide +kernel
theorem dX9_text_57 : decode (dc DX9_text) 57 = .ok (.aload_n 0, 1) := by decide +kernel
theorem dX9_text_58 : decode (dc DX9_text) 58 = .ok (.getfield 22, 3) := by decide +kernel
theorem dX9_text_61 : decode (dc DX9_text) 61 = .ok (.iconst 0, 1) := by decide +kernel
theorem dX9_text_62 : decode (dc DX9_text) 62 = .ok (.putfield 102, 3) := by decide +kernel
theorem dX9_text_65 : decode (dc DX9_text) 65 = .ok (.aload_n 0, 1) := by decide +kernel
theorem dX9_text_66 : decode (dc DX9_text) 66 = .ok (.iconst 0, 1) := by decide +kernel
theorem dX9_text_67 : decode (dc DX9_text) 67 = .ok (.putfield 68, 3) := by decide +kernel
theorem dX9_text_70 : decode (dc DX9_text) 70 = .ok (.aload_n 0, 1) := by decide +kernel
theorem dX9_text_71 : decode (dc DX9_text) 71 = .ok (.invokevirtual 103, 3) := by decide +kernel
theorem dX9_text_74 : decode (dc DX9_text) 74 = .ok (.aload_n 0, 1) := by decide +kernel
theorem dX9_text_75 : decode (dc DX9_text) 75 = .ok (.getfield 12, 3) := by decide +kernel
theorem dX9_text_78 : decode (dc DX9_text) 78 = .ok (.getfield 106, 3) := by decide +kernel
theorem dX9_text_81 : decode (dc DX9_text) 81 = .ok (.invokevirtual 110, 3) := by decide +kernel
theorem dX9_text_84 : decode (dc DX9_text) 84 = .ok (.ireturn, 1) := by decide +kernel
theorem dX9_told_0 : decode (dc DX9_told) 0 = .ok (.aload_n 0, 1) := by decide +kernel
theorem dX9_told_1 : decode (dc DX9_told) 1 = .ok (.iload_n 1, 1) := by decide +kernel
theorem dX9_told_2 : decode (dc DX9_told) 2 = .ok (.ifCond .lt 13, 3) := by decide +kernel
theorem dX9_told_5 : decode (dc DX9_told) 5 = .ok (.iload_n 1, 1) := by decide +kernel
theorem dX9_told_6 : decode (dc DX9_told) 6 = .ok (.bipush 11, 2) := by decide +kernel
theorem dX9_told_8 : decode (dc DX9_told) 8 = .ok (.if_icmp .gt 7, 3) := by decide +kernel
theorem dX9_told_11 : decode (dc DX9_told) 11 = .ok (.iconst 1, 1) := by decide +kernel
theorem dX9_told_12 : decode (dc DX9_told) 12 = .ok (.goto 4, 3) := by decide +kernel
theorem dX9_told_15 : decode (dc DX9_told) 15 = .ok (.iconst 0, 1) := by decide +kernel
theorem dX9_told_16 : decode (dc DX9_told) 16 = .ok (.invokevirtual 90, 3) := by decide +kernel
theorem dX9_told_19 : decode (dc DX9_told) 19 = .ok (.iload_n 1, 1) := by decide +kernel
theorem dX9_told_20 : decode (dc DX9_told) 20 = .ok (.tableswitch 177 0 10 #[60, 68, 76, 84, 95, 103, 111, 119, 140, 161, 169], 60) := by decide +kernel
theorem dX9_told_80 : decode (dc DX9_told) 80 = .ok (.aload_n 0, 1) := by decide +kernel
theorem dX9_told_81 : decode (dc DX9_told) 81 = .ok (.getfield 12, 3) := by decide +kernel
theorem dX9_told_84 : decode (dc DX9_told) 84 = .ok (.getfield 119, 3) := by decide +kernel
theorem dX9_told_87 : decode (dc DX9_told) 87 = .ok (.ireturn, 1) := by decide +kernel
theorem dX9_told_88 : decode (dc DX9_told) 88 = .ok (.aload_n 0, 1) := by decide +kernel
theorem dX9_told_89 : decode (dc DX9_told) 89 = .ok (.getfield 12, 3) := by decide +kernel
theorem dX9_told_92 : decode (dc DX9_told) 92 = .ok (.getfield 122, 3) := by decide +kernel
theorem dX9_told_95 : decode (dc DX9_told) 95 = .ok (.ireturn, 1) := by decide +kernel
theorem dX9_told_96 : decode (dc DX9_told) 96 = .ok (.aload_n 0, 1) := by decide +kernel
theorem dX9_told_97 : decode (dc DX9_told) 97 = .ok (.getfield 12, 3) := by decide +kernel
theorem dX9_told_100 : decode (dc DX9_told) 100 = .ok (.invokevirtual 125, 3) := by decide +kernel
theorem dX9_told_103 : decode (dc DX9_told) 103 = .ok (.ireturn, 1) := by decide +kernel
theorem dX9_told_104 : decode (dc DX9_told) 104 = .ok (.aload_n 0, 1) := by decide +kernel
theorem dX9_told_105 : decode (dc DX9_told) 105 = .ok (.getfield 12, 3) := by decide +kernel
theorem dX9_told_108 : decode (dc DX9_told) 108 = .ok (.getfield 106, 3) := by decide +kernel
theorem dX9_told_111 : decode (dc DX9_told) 111 = .ok (.invokevirtual 110, 3) := by decide +kernel
theorem dX9_told_114 : decode (dc DX9_told) 114 = .ok (.ireturn, 1) := by decide +kernel
theorem dX9_told_115 : decode (dc DX9_told) 115 = .ok (.aload_n 0, 1) := by decide +kernel
theorem dX9_told_116 : decode (dc DX9_told) 116 = .ok (.getfield 12, 3) := by decide +kernel
theorem dX9_told_119 : decode (dc DX9_told) 119 = .ok (.getfield 128, 3) := by decide +kernel
theorem dX9_told_122 : decode (dc DX9_told) 122 = .ok (.ireturn, 1) := by decide +kernel
theorem dX9_told_123 : decode (dc DX9_told) 123 = .ok (.aload_n 0, 1) := by decide +kernel
theorem dX9_told_124 : decode (dc DX9_told) 124 = .ok (.getfield 12, 3) := by decide +kernel
theorem dX9_told_127 : decode (dc DX9_told) 127 = .ok (.getfield 131, 3) := by decide +kernel
theorem dX9_told_130 : decode (dc DX9_told) 130 = .ok (.ireturn, 1) := by decide +kernel
theorem dX9_told_131 : decode (dc DX9_told) 131 = .ok (.aload_n 0, 1) := by decide +kernel
theorem dX9_told_132 : decode (dc DX9_told) 132 = .ok (.getfield 12, 3) := by decide +kernel
theorem dX9_told_135 : decode (dc DX9_told) 135 = .ok (.getfield 134, 3) := by decide +kernel
theorem dX9_told_138 : decode (dc DX9_told) 138 = .ok (.ireturn, 1) := by decide +kernel
theorem dX9_told_139 : decode (dc DX9_told) 139 = .ok (.aload_n 0, 1) := by decide +kernel
theorem dX9_told_140 : decode (dc DX9_told) 140 = .ok (.getfield 12, 3) := by decide +kernel
theorem dX9_told_143 : decode (dc DX9_told) 143 = .ok (.getfield 131, 3) := by decide +kernel
theorem dX9_told_146 : decode (dc DX9_told) 146 = .ok (.aload_n 0, 1) := by decide +kernel
theorem dX9_told_147 : decode (dc DX9_told) 147 = .ok (.getfield 12, 3) := by decide +kernel
theorem dX9_told_150 : decode (dc DX9_told) 150 = .ok (.getfield 106, 3) := by decide +kernel
theorem dX9_told_153 : decode (dc DX9_told) 153 = .ok (.invokevirtual 137, 3) := by decide +kernel
theorem dX9_told_156 : decode (dc DX9_told) 156 = .ok (.iconst (-1), 1) := by decide +kernel
theorem dX9_told_157 : decode (dc DX9_told) 157 = .ok (.ixor, 1) := by decide +kernel
theorem dX9_told_158 : decode (dc DX9_told) 158 = .ok (.iand, 1) := by decide +kernel
theorem dX9_told_159 : decode (dc DX9_told) 159 = .ok (.ireturn, 1) := by decide +kernel
theorem dX9_told_160 : decode (dc DX9_told) 160 = .ok (.aload_n 0, 1) := by decide +kernel
theorem dX9_told_161 : decode (dc DX9_told) 161 = .ok (.getfield 12, 3) := by decide +kernel
theorem dX9_told_164 : decode (dc DX9_told) 164 = .ok (.getfield 134, 3) := by decide +kernel
theorem dX9_told_167 : decode (dc DX9_told) 167 = .ok (.aload_n 0, 1) := by decide +kernel
theorem dX9_told_168 : decode (dc DX9_told) 168 = .ok (.getfield 12, 3) := by decide +kernel
theorem dX9_told_171 : decode (dc DX9_told) 171 = .ok (.getfield 106, 3) := by decide +kernel
theorem dX9_told_174 : decode (dc DX9_told) 174 = .ok (.invokevirtual 140, 3) := by decide +kernel
theorem dX9_told_177 : decode (dc DX9_told) 177 = .ok (.iconst (-1), 1) := by decide +kernel
theorem dX9_told_178 : decode (dc DX9_told) 178 = .ok (.ixor, 1) := by decide +kernel
theorem dX9_told_179 : decode (dc DX9_told) 179 = .ok (.iand, 1) := by decide +kernel
theorem dX9_told_180 : decode (dc DX9_told) 180 = .ok (.ireturn, 1) := by decide +kernel
theorem dX9_told_181 : decode (dc DX9_told) 181 = .ok (.aload_n 0, 1) := by decide +kernel
theorem dX9_told_182 : decode (dc DX9_told) 182 = .ok (.getfield 12, 3) := by decide +kernel
theorem dX9_told_185 : decode (dc DX9_told) 185 = .ok (.invokevirtual 143, 3) := by decide +kernel
theorem dX9_told_188 : decode (dc DX9_told) 188 = .ok (.ireturn, 1) := by decide +kernel
theorem dX9_told_189 : decode (dc DX9_told) 189 = .ok (.aload_n 0, 1) := by decide +kernel
theorem dX9_told_190 : decode (dc DX9_told) 190 = .ok (.getfield 22, 3) := by decide +kernel
theorem dX9_told_193 : decode (dc DX9_told) 193 = .ok (.getfield 102, 3) := by decide +kernel
theorem dX9_told_196 : decode (dc DX9_told) 196 = .ok (.ireturn, 1) := by decide +kernel
theorem dX9_told_197 : decode (dc DX9_told) 197 = .ok (.aload_n 0, 1) := by decide +kernel
theorem dX9_told_198 : decode (dc DX9_told) 198 = .ok (.getfield 29, 3) := by decide +kernel
theorem dX9_told_201 : decode (dc DX9_told) 201 = .ok (.getfield 87, 3) := by decide +kernel
theorem dX9_told_204 : decode (dc DX9_told) 204 = .ok (.ireturn, 1) := by decide +kernel
theorem dX9_partner_0 : decode (dc DX9_partner) 0 = .ok (.aload_n 0, 1) := by decide +kernel
theorem dX9_partner_1 : decode (dc DX9_partner) 1 = .ok (.aload_n 0, 1) := by decide +kernel
theorem dX9_partner_2 : decode (dc DX9_partner) 2 = .ok (.getfield 12, 3) := by decide +kernel
theorem dX9_partner_5 : decode (dc DX9_partner) 5 = .ok (.iload_n 1, 1) := by decide +kernel
theorem dX9_partner_6 : decode (dc DX9_partner) 6 = .ok (.iload_n 2, 1) := by decide +kernel
theorem dX9_partner_7 : decode (dc DX9_partner) 7 = .ok (.invokevirtual 146, 3) := by decide +kernel
theorem dX9_partner_10 : decode (dc DX9_partner) 10 = .ok (.invokevirtual 150, 3) := by decide +kernel
theorem dX9_partner_13 : decode (dc DX9_partner) 13 = .ok (.aload_n 0, 1) := by decide +kernel
theorem dX9_partner_14 : decode (dc DX9_partner) 14 = .ok (.getfield 12, 3) := by decide +kernel
theorem dX9_partner_17 : decode (dc DX9_partner) 17 = .ok (.iload_n 1, 1) := by decide +kernel
theorem dX9_partner_18 : decode (dc DX9_partner) 18 = .ok (.iload_n 2, 1) := by decide +kernel
theorem dX9_partner_19 : decode (dc DX9_partner) 19 = .ok (.invokevirtual 153, 3) := by decide +kernel
theorem dX9_partner_22 : decode (dc DX9_partner) 22 = .ok (.ireturn, 1) := by decide +kernel
theorem dX9_cost_0 : decode (dc DX9_cost) 0 = .ok (.aload_n 0, 1) := by decide +kernel
theorem dX9_cost_1 : decode (dc DX9_cost) 1 = .ok (.aload_n 0, 1) := by decide +kernel
theorem dX9_cost_2 : decode (dc DX9_cost) 2 = .ok (.getfield 12, 3) := by decide +kernel
theorem dX9_cost_5 : decode (dc DX9_cost) 5 = .ok (.iload_n 1, 1) := by decide +kernel
theorem dX9_cost_6 : decode (dc DX9_cost) 6 = .ok (.iload_n 2, 1) := by decide +kernel
theorem dX9_cost_7 : decode (dc DX9_cost) 7 = .ok (.invokevirtual 157, 3) := by decide +kernel
theorem dX9_cost_10 : decode (dc DX9_cost) 10 = .ok (.invokevirtual 150, 3) := by decide +kernel
theorem dX9_cost_13 : decode (dc DX9_cost) 13 = .ok (.aload_n 0, 1) := by decide +kernel
theorem dX9_cost_14 : decode (dc DX9_cost) 14 = .ok (.getfield 12, 3) := by decide +kernel
theorem dX9_cost_17 : decode (dc DX9_cost) 17 = .ok (.iload_n 1, 1) := by decide +kernel
theorem dX9_cost_18 : decode (dc DX9_cost) 18 = .ok (.iload_n 2, 1) := by decide +kernel
theorem dX9_cost_19 : decode (dc DX9_cost) 19 = .ok (.invokevirtual 160, 3) := by decide +kernel
theorem dX9_cost_22 : decode (dc DX9_cost) 22 = .ok (.ireturn, 1) := by decide +kernel
theorem dX9_fits_0 : decode (dc DX9_fits) 0 = .ok (.aload_n 0, 1) := by decide +kernel
theorem dX9_fits_1 : decode (dc DX9_fits) 1 = .ok (.aload_n 0, 1) := by decide +kernel
theorem dX9_fits_2 : decode (dc DX9_fits) 2 = .ok (.getfield 12, 3) := by decide +kernel
theorem dX9_fits_5 : decode (dc DX9_fits) 5 = .ok (.iload_n 1, 1) := by decide +kernel
theorem dX9_fits_6 : decode (dc DX9_fits) 6 = .ok (.iload_n 2, 1) := by decide +kernel
theorem dX9_fits_7 : decode (dc DX9_fits) 7 = .ok (.invokevirtual 146, 3) := by decide +kernel
theorem dX9_fits_10 : decode (dc DX9_fits) 10 = .ok (.invokevirtual 150, 3) := by decide +kernel
theorem dX9_fits_13 : decode (dc DX9_fits) 13 = .ok (.iload_n 1, 1) := by decide +kernel
theorem dX9_fits_14 : decode (dc DX9_fits) 14 = .ok (.ifCond .ne 14, 3) := by decide +kernel
theorem dX9_fits_17 : decode (dc DX9_fits) 17 = .ok (.aload_n 0, 1) := by decide +kernel
theorem dX9_fits_18 : decode (dc DX9_fits) 18 = .ok (.getfield 12, 3) := by decide +kernel
theorem dX9_fits_21 : decode (dc DX9_fits) 21 = .ok (.iload_n 2, 1) := by decide +kernel
theorem dX9_fits_22 : decode (dc DX9_fits) 22 = .ok (.invokevirtual 163, 3) := by decide +kernel
theorem dX9_fits_25 : decode (dc DX9_fits) 25 = .ok (.goto 11, 3) := by decide +kernel
theorem dX9_fits_28 : decode (dc DX9_fits) 28 = .ok (.aload_n 0, 1) := by decide +kernel
theorem dX9_fits_29 : decode (dc DX9_fits) 29 = .ok (.getfield 12, 3) := by decide +kernel
theorem dX9_fits_32 : decode (dc DX9_fits) 32 = .ok (.iload_n 2, 1) := by decide +kernel
theorem dX9_fits_33 : decode (dc DX9_fits) 33 = .ok (.invokevirtual 167, 3) := by decide +kernel
theorem dX9_fits_36 : decode (dc DX9_fits) 36 = .ok (.ireturn, 1) := by decide +kernel
theorem dX9_way_0 : decode (dc DX9_way) 0 = .ok (.aload_n 0, 1) := by decide +kernel
theorem dX9_way_1 : decode (dc DX9_way) 1 = .ok (.getfield 36, 3) := by decide +kernel
theorem dX9_way_4 : decode (dc DX9_way) 4 = .ok (.aload_n 0, 1) := by decide +kernel
theorem dX9_way_5 : decode (dc DX9_way) 5 = .ok (.getfield 12, 3) := by decide +kernel
theorem dX9_way_8 : decode (dc DX9_way) 8 = .ok (.invokevirtual 170, 3) := by decide +kernel
theorem dX9_way_11 : decode (dc DX9_way) 11 = .ok (.aload_n 0, 1) := by decide +kernel
theorem dX9_way_12 : decode (dc DX9_way) 12 = .ok (.getfield 36, 3) := by decide +kernel
theorem dX9_way_15 : decode (dc DX9_way) 15 = .ok (.invokevirtual 173, 3) := by decide +kernel
theorem dX9_way_18 : decode (dc DX9_way) 18 = .ok (.ireturn, 1) := by decide +kernel
theorem dX9_wayAt_0 : decode (dc DX9_wayAt) 0 = .ok (.aload_n 0, 1) := by decide +kernel
theorem dX9_wayAt_1 : decode (dc DX9_wayAt) 1 = .ok (.getfield 36, 3) := by decide +kernel
theorem dX9_wayAt_4 : decode (dc DX9_wayAt) 4 = .ok (.aload_n 0, 1) := by decide +kernel
theorem dX9_wayAt_5 : decode (dc DX9_wayAt) 5 = .ok (.getfield 12, 3) := by decide +kernel
theorem dX9_wayAt_8 : decode (dc DX9_wayAt) 8 = .ok (.invokevirtual 170, 3) := by decide +kernel
theorem dX9_wayAt_11 : decode (dc DX9_wayAt) 11 = .ok (.aload_n 0, 1) := by decide +kernel
theorem dX9_wayAt_12 : decode (dc DX9_wayAt) 12 = .ok (.getfield 36, 3) := by decide +kernel
theorem dX9_wayAt_15 : decode (dc DX9_wayAt) 15 = .ok (.invokevirtual 173, 3) := by decide +kernel
theorem dX9_wayAt_18 : decode (dc DX9_wayAt) 18 = .ok (.istore_n 2, 1) := by decide +kernel
theorem dX9_wayAt_19 : decode (dc DX9_wayAt) 19 = .ok (.aload_n 0, 1) := by decide +kernel
theorem dX9_wayAt_20 : decode (dc DX9_wayAt) 20 = .ok (.iload_n 1, 1) := by decide +kernel
theorem dX9_wayAt_21 : decode (dc DX9_wayAt) 21 = .ok (.ifCond .lt 12, 3) := by decide +kernel
theorem dX9_wayAt_24 : decode (dc DX9_wayAt) 24 = .ok (.iload_n 1, 1) := by decide +kernel
theorem dX9_wayAt_25 : decode (dc DX9_wayAt) 25 = .ok (.iload_n 2, 1) := by decide +kernel
theorem dX9_wayAt_26 : decode (dc DX9_wayAt) 26 = .ok (.if_icmp .ge 7, 3) := by decide +kernel
theorem dX9_wayAt_29 : decode (dc DX9_wayAt) 29 = .ok (.iconst 1, 1) := by decide +kernel
theorem dX9_wayAt_30 : decode (dc DX9_wayAt) 30 = .ok (.goto 4, 3) := by decide +kernel
theorem dX9_wayAt_33 : decode (dc DX9_wayAt) 33 = .ok (.iconst 0, 1) := by decide +kernel
theorem dX9_wayAt_34 : decode (dc DX9_wayAt) 34 = .ok (.invokevirtual 150, 3) := by decide +kernel
theorem dX9_wayAt_37 : decode (dc DX9_wayAt) 37 = .ok (.aload_n 0, 1) := by decide +kernel
theorem dX9_wayAt_38 : decode (dc DX9_wayAt) 38 = .ok (.getfield 36, 3) := by decide +kernel
theorem dX9_wayAt_41 : decode (dc DX9_wayAt) 41 = .ok (.iload_n 1, 1) := by decide +kernel
theorem dX9_wayAt_42 : decode (dc DX9_wayAt) 42 = .ok (.invokevirtual 176, 3) := by decide +kernel
theorem dX9_wayAt_45 : decode (dc DX9_wayAt) 45 = .ok (.ireturn, 1) := by decide +kernel
theorem dX9_wayFrom_0 : decode (dc DX9_wayFrom) 0 = .ok (.aload_n 0, 1) := by decide +kernel
theorem dX9_wayFrom_1 : decode (dc DX9_wayFrom) 1 = .ok (.aload_n 0, 1) := by decide +kernel
theorem dX9_wayFrom_2 : decode (dc DX9_wayFrom) 2 = .ok (.getfield 12, 3) := by decide +kernel
theorem dX9_wayFrom_5 : decode (dc DX9_wayFrom) 5 = .ok (.iconst 0, 1) := by decide +kernel
theorem dX9_wayFrom_6 : decode (dc DX9_wayFrom) 6 = .ok (.iload_n 1, 1) := by decide +kernel
theorem dX9_wayFrom_7 : decode (dc DX9_wayFrom) 7 = .ok (.invokevirtual 146, 3) := by decide +kernel
theorem dX9_wayFrom_10 : decode (dc DX9_wayFrom) 10 = .ok (.invokevirtual 150, 3) := by decide +kernel
theorem dX9_wayFrom_13 : decode (dc DX9_wayFrom) 13 = .ok (.aload_n 0, 1) := by decide +kernel
theorem dX9_wayFrom_14 : decode (dc DX9_wayFrom) 14 = .ok (.iload_n 2, 1) := by decide +kernel
theorem dX9_wayFrom_15 : decode (dc DX9_wayFrom) 15 = .ok (.ifCond .eq 8, 3) := by decide +kernel
theorem dX9_wayFrom_18 : decode (dc DX9_wayFrom) 18 = .ok (.iload_n 2, 1) := by decide +kernel
theorem dX9_wayFrom_19 : decode (dc DX9_wayFrom) 19 = .ok (.iconst 1, 1) := by decide +kernel
theorem dX9_wayFrom_20 : decode (dc DX9_wayFrom) 20 = .ok (.if_icmp .ne 7, 3) := by decide +kernel
theorem dX9_wayFrom_23 : decode (dc DX9_wayFrom) 23 = .ok (.iconst 1, 1) := by decide +kernel
theorem dX9_wayFrom_24 : decode (dc DX9_wayFrom) 24 = .ok (.goto 4, 3) := by decide +kernel
theorem dX9_wayFrom_27 : decode (dc DX9_wayFrom) 27 = .ok (.iconst 0, 1) := by decide +kernel
theorem dX9_wayFrom_28 : decode (dc DX9_wayFrom) 28 = .ok (.invokevirtual 90, 3) := by decide +kernel
theorem dX9_wayFrom_31 : decode (dc DX9_wayFrom) 31 = .ok (.aload_n 0, 1) := by decide +kernel
theorem dX9_wayFrom_32 : decode (dc DX9_wayFrom) 32 = .ok (.getfield 36, 3) := by decide +kernel
theorem dX9_wayFrom_35 : decode (dc DX9_wayFrom) 35 = .ok (.aload_n 0, 1) := by decide +kernel
theorem dX9_wayFrom_36 : decode (dc DX9_wayFrom) 36 = .ok (.getfield 12, 3) := by decide +kernel
theorem dX9_wayFrom_39 : decode (dc DX9_wayFrom) 39 = .ok (.invokevirtual 170, 3) := by decide +kernel
theorem dX9_wayFrom_42 : decode (dc DX9_wayFrom) 42 = .ok (.aload_n 0, 1) := by decide +kernel
theorem dX9_wayFrom_43 : decode (dc DX9_wayFrom) 43 = .ok (.getfield 36, 3) := by decide +kernel
theorem dX9_wayFrom_46 : decode (dc DX9_wayFrom) 46 = .ok (.iload_n 1, 1) := by decide +kernel
theorem dX9_wayFrom_47 : decode (dc DX9_wayFrom) 47 = .ok (.invokevirtual 179, 3) := by decide +kernel
theorem dX9_wayFrom_50 : decode (dc DX9_wayFrom) 50 = .ok (.istore_n 3, 1) := by decide +kernel
theorem dX9_wayFrom_51 : decode (dc DX9_wayFrom) 51 = .ok (.iload_n 2, 1) := by decide +kernel
theorem dX9_wayFrom_52 : decode (dc DX9_wayFrom) 52 = .ok (.iconst 1, 1) := by decide +kernel
theorem dX9_wayFrom_53 : decode (dc DX9_wayFrom) 53 = .ok (.if_icmp .ne 7, 3) := by decide +kernel
theorem dX9_wayFrom_56 : decode (dc DX9_wayFrom) 56 = .ok (.iload_n 3, 1) := by decide +kernel
theorem dX9_wayFrom_57 : decode (dc DX9_wayFrom) 57 = .ok (.goto 12, 3) := by decide +kernel
theorem dX9_wayFrom_60 : decode (dc DX9_wayFrom) 60 = .ok (.iload_n 3, 1) := by decide +kernel
theorem dX9_wayFrom_61 : decode (dc DX9_wayFrom) 61 = .ok (.ifCond .le 7, 3) := by decide +kernel
theorem dX9_wayFrom_64 : decode (dc DX9_wayFrom) 64 = .ok (.iconst 1, 1) := by decide +kernel
theorem dX9_wayFrom_65 : decode (dc DX9_wayFrom) 65 = .ok (.goto 4, 3) := by decide +kernel
theorem dX9_wayFrom_68 : decode (dc DX9_wayFrom) 68 = .ok (.iconst 0, 1) := by decide +kernel
theorem dX9_wayFrom_69 : decode (dc DX9_wayFrom) 69 = .ok (.ireturn, 1) := by decide +kernel
theorem dX9_runPhases_0 : decode (dc DX9_runPhases) 0 = .ok (.aload_n 0, 1) := by decide +kernel
theorem dX9_runPhases_1 : decode (dc DX9_runPhases) 1 = .ok (.getfield 36, 3) := by decide +kernel
theorem dX9_runPhases_4 : decode (dc DX9_runPhases) 4 = .ok (.aload_n 0, 1) := by decide +kernel
theorem dX9_runPhases_5 : decode (dc DX9_runPhases) 5 = .ok (.getfield 12, 3) := by decide +kernel
theorem dX9_runPhases_8 : decode (dc DX9_runPhases) 8 = .ok (.invokevirtual 170, 3) := by decide +kernel
theorem dX9_runPhases_11 : decode (dc DX9_runPhases) 11 = .ok (.aload_n 0, 1) := by decide +kernel
theorem dX9_runPhases_12 : decode (dc DX9_runPhases) 12 = .ok (.getfield 50, 3) := by decide +kernel
theorem dX9_runPhases_15 : decode (dc DX9_runPhases) 15 = .ok (.aload_n 0, 1) := by decide +kernel
theorem dX9_runPhases_16 : decode (dc DX9_runPhases) 16 = .ok (.getfield 36, 3) := by decide +kernel
theorem dX9_runPhases_19 : decode (dc DX9_runPhases) 19 = .ok (.invokevirtual 355, 3) := by decide +kernel
theorem dX9_runPhases_22 : decode (dc DX9_runPhases) 22 = .ok (.return_, 1) := by decide +kernel
theorem dX9_phases_0 : decode (dc DX9_phases) 0 = .ok (.aload_n 0, 1) := by decide +kernel
theorem dX9_phases_1 : decode (dc DX9_phases) 1 = .ok (.iload_n 1, 1) := by decide +kernel
theorem dX9_phases_2 : decode (dc DX9_phases) 2 = .ok (.ifCond .lt 12, 3) := by decide +kernel
theorem dX9_phases_5 : decode (dc DX9_phases) 5 = .ok (.iload_n 1, 1) := by decide +kernel
theorem dX9_phases_6 : decode (dc DX9_phases) 6 = .ok (.iconst 3, 1) := by decide +kernel
theorem dX9_phases_7 : decode (dc DX9_phases) 7 = .ok (.if_icmp .gt 7, 3) := by decide +kernel
theorem dX9_phases_10 : decode (dc DX9_phases) 10 = .ok (.iconst 1, 1) := by decide +kernel
theorem dX9_phases_11 : decode (dc DX9_phases) 11 = .ok (.goto 4, 3) := by decide +kernel
theorem dX9_phases_14 : decode (dc DX9_phases) 14 = .ok (.iconst 0, 1) := by decide +kernel
theorem dX9_phases_15 : decode (dc DX9_phases) 15 = .ok (.invokevirtual 90, 3) := by decide +kernel
theorem dX9_phases_18 : decode (dc DX9_phases) 18 = .ok (.aload_n 0, 1) := by decide +kernel
theorem dX9_phases_19 : decode (dc DX9_phases) 19 = .ok (.invokevirtual 182, 3) := by decide +kernel
theorem dX9_phases_22 : decode (dc DX9_phases) 22 = .ok (.iload_n 1, 1) := by decide +kernel
theorem dX9_phases_23 : decode (dc DX9_phases) 23 = .ok (.tableswitch 49 0 2 #[25, 33, 41], 25) := by decide +kernel
theorem dX9_phases_48 : decode (dc DX9_phases) 48 = .ok (.aload_n 0, 1) := by decide +kernel
theorem dX9_phases_49 : decode (dc DX9_phases) 49 = .ok (.getfield 50, 3) := by decide +kernel
theorem dX9_phases_52 : decode (dc DX9_phases) 52 = .ok (.getfield 185, 3) := by decide +kernel
theorem dX9_phases_55 : decode (dc DX9_phases) 55 = .ok (.ireturn, 1) := by decide +kernel
theorem dX9_phases_56 : decode (dc DX9_phases) 56 = .ok (.aload_n 0, 1) := by decide +kernel
theorem dX9_phases_57 : decode (dc DX9_phases) 57 = .ok (.getfield 50, 3) := by decide +kernel
theorem dX9_phases_60 : decode (dc DX9_phases) 60 = .ok (.getfield 188, 3) := by decide +kernel
theorem dX9_phases_63 : decode (dc DX9_phases) 63 = .ok (.ireturn, 1) := by decide +kernel
theorem dX9_phases_64 : decode (dc DX9_phases) 64 = .ok (.aload_n 0, 1) := by decide +kernel
theorem dX9_phases_65 : decode (dc DX9_phases) 65 = .ok (.getfield 50, 3) := by decide +kernel
theorem dX9_phases_68 : decode (dc DX9_phases) 68 = .ok (.getfield 191, 3) := by decide +kernel
theorem dX9_phases_71 : decode (dc DX9_phases) 71 = .ok (.ireturn, 1) := by decide +kernel
theorem dX9_phases_72 : decode (dc DX9_phases) 72 = .ok (.aload_n 0, 1) := by decide +kernel
theorem dX9_phases_73 : decode (dc DX9_phases) 73 = .ok (.getfield 50, 3) := by decide +kernel
theorem dX9_phases_76 : decode (dc DX9_phases) 76 = .ok (.getfield 194, 3) := by decide +kernel
theorem dX9_phases_79 : decode (dc DX9_phases) 79 = .ok (.ireturn, 1) := by decide +kernel
theorem dX9_phased_0 : decode (dc DX9_phased) 0 = .ok (.aload_n 0, 1) := by decide +kernel
theorem dX9_phased_1 : decode (dc DX9_phased) 1 = .ok (.aload_n 0, 1) := by decide +kernel
theorem dX9_phased_2 : decode (dc DX9_phased) 2 = .ok (.getfield 12, 3) := by decide +kernel
theorem dX9_phased_5 : decode (dc DX9_phased) 5 = .ok (.iconst 0, 1) := by decide +kernel
theorem dX9_phased_6 : decode (dc DX9_phased) 6 = .ok (.iload_n 1, 1) := by decide +kernel
theorem dX9_phased_7 : decode (dc DX9_phased) 7 = .ok (.invokevirtual 146, 3) := by decide +kernel
theorem dX9_phased_10 : decode (dc DX9_phased) 10 = .ok (.invokevirtual 150, 3) := by decide +kernel
theorem dX9_phased_13 : decode (dc DX9_phased) 13 = .ok (.aload_n 0, 1) := by decide +kernel
theorem dX9_phased_14 : decode (dc DX9_phased) 14 = .ok (.invokevirtual 182, 3) := by decide +kernel
theorem dX9_phased_17 : decode (dc DX9_phased) 17 = .ok (.aload_n 0, 1) := by decide +kernel
theorem dX9_phased_18 : decode (dc DX9_phased) 18 = .ok (.getfield 36, 3) := by decide +kernel
theorem dX9_phased_21 : decode (dc DX9_phased) 21 = .ok (.getfield 197, 3) := by decide +kernel
theorem dX9_phased_24 : decode (dc DX9_phased) 24 = .ok (.iload_n 1, 1) := by decide +kernel
theorem dX9_phased_25 : decode (dc DX9_phased) 25 = .ok (.invokevirtual 198, 3) := by decide +kernel
theorem dX9_phased_28 : decode (dc DX9_phased) 28 = .ok (.ireturn, 1) := by decide +kernel
theorem dX9_makeMost_0 : decode (dc DX9_makeMost) 0 = .ok (.aload_n 0, 1) := by decide +kernel
theorem dX9_makeMost_1 : decode (dc DX9_makeMost) 1 = .ok (.getfield 36, 3) := by decide +kernel
theorem dX9_makeMost_4 : decode (dc DX9_makeMost) 4 = .ok (.aload_n 0, 1) := by decide +kernel
theorem dX9_makeMost_5 : decode (dc DX9_makeMost) 5 = .ok (.getfield 12, 3) := by decide +kernel
theorem dX9_makeMost_8 : decode (dc DX9_makeMost) 8 = .ok (.invokevirtual 170, 3) := by decide +kernel
theorem dX9_makeMost_11 : decode (dc DX9_makeMost) 11 = .ok (.aload_n 0, 1) := by decide +kernel
theorem dX9_makeMost_12 : decode (dc DX9_makeMost) 12 = .ok (.getfield 36, 3) := by decide +kernel
theorem dX9_makeMost_15 : decode (dc DX9_makeMost) 15 = .ok (.bipush 12, 2) := by decide +kernel
theorem dX9_makeMost_17 : decode (dc DX9_makeMost) 17 = .ok (.invokevirtual 217, 3) := by decide +kernel
theorem dX9_makeMost_20 : decode (dc DX9_makeMost) 20 = .ok (.pop, 1) := by decide +kernel
theorem dX9_makeMost_21 : decode (dc DX9_makeMost) 21 = .ok (.aload_n 0, 1) := by decide +kernel
theorem dX9_makeMost_22 : decode (dc DX9_makeMost) 22 = .ok (.getfield 36, 3) := by decide +kernel
theorem dX9_makeMost_25 : decode (dc DX9_makeMost) 25 = .ok (.getfield 197, 3) := by decide +kernel
theorem dX9_makeMost_28 : decode (dc DX9_makeMost) 28 = .ok (.invokevirtual 110, 3) := by decide +kernel
theorem dX9_makeMost_31 : decode (dc DX9_makeMost) 31 = .ok (.ireturn, 1) := by decide +kernel
theorem dX9_most_0 : decode (dc DX9_most) 0 = .ok (.aload_n 0, 1) := by decide +kernel
theorem dX9_most_1 : decode (dc DX9_most) 1 = .ok (.invokevirtual 201, 3) := by decide +kernel
theorem dX9_most_4 : decode (dc DX9_most) 4 = .ok (.ireturn, 1) := by decide +kernel
theorem dX9_reached_0 : decode (dc DX9_reached) 0 = .ok (.aload_n 0, 1) := by decide +kernel
theorem dX9_reached_1 : decode (dc DX9_reached) 1 = .ok (.iload_n 1, 1) := by decide +kernel
theorem dX9_reached_2 : decode (dc DX9_reached) 2 = .ok (.ifCond .eq 8, 3) := by decide +kernel
theorem dX9_reached_5 : decode (dc DX9_reached) 5 = .ok (.iload_n 1, 1) := by decide +kernel
theorem dX9_reached_6 : decode (dc DX9_reached) 6 = .ok (.iconst 1, 1) := by decide +kernel
theorem dX9_reached_7 : decode (dc DX9_reached) 7 = .ok (.if_icmp .ne 7, 3) := by decide +kernel
theorem dX9_reached_10 : decode (dc DX9_reached) 10 = .ok (.iconst 1, 1) := by decide +kernel
theorem dX9_reached_11 : decode (dc DX9_reached) 11 = .ok (.goto 4, 3) := by decide +kernel
theorem dX9_reached_14 : decode (dc DX9_reached) 14 = .ok (.iconst 0, 1) := by decide +kernel
theorem dX9_reached_15 : decode (dc DX9_reached) 15 = .ok (.invokevirtual 150, 3) := by decide +kernel
theorem dX9_reached_18 : decode (dc DX9_reached) 18 = .ok (.aload_n 0, 1) := by decide +kernel
theorem dX9_reached_19 : decode (dc DX9_reached) 19 = .ok (.invokevirtual 201, 3) := by decide +kernel
theorem dX9_reached_22 : decode (dc DX9_reached) 22 = .ok (.pop, 1) := by decide +kernel
theorem dX9_reached_23 : decode (dc DX9_reached) 23 = .ok (.aload_n 0, 1) := by decide +kernel
theorem dX9_reached_24 : decode (dc DX9_reached) 24 = .ok (.getfield 43, 3) := by decide +kernel
theorem dX9_reached_27 : decode (dc DX9_reached) 27 = .ok (.aload_n 0, 1) := by decide +kernel
theorem dX9_reached_28 : decode (dc DX9_reached) 28 = .ok (.getfield 36, 3) := by decide +kernel
theorem dX9_reached_31 : decode (dc DX9_reached) 31 = .ok (.invokevirtual 204, 3) := by decide +kernel
theorem dX9_reached_34 : decode (dc DX9_reached) 34 = .ok (.iload_n 1, 1) := by decide +kernel
theorem dX9_reached_35 : decode (dc DX9_reached) 35 = .ok (.ifCond .ne 13, 3) := by decide +kernel
theorem dX9_reached_38 : decode (dc DX9_reached) 38 = .ok (.aload_n 0, 1) := by decide +kernel
theorem dX9_reached_39 : decode (dc DX9_reached) 39 = .ok (.getfield 43, 3) := by decide +kernel
theorem dX9_reached_42 : decode (dc DX9_reached) 42 = .ok (.getfield 208, 3) := by decide +kernel
theorem dX9_reached_45 : decode (dc DX9_reached) 45 = .ok (.goto 10, 3) := by decide +kernel
theorem dX9_reached_48 : decode (dc DX9_reached) 48 = .ok (.aload_n 0, 1) := by decide +kernel
theorem dX9_reached_49 : decode (dc DX9_reached) 49 = .ok (.getfield 43, 3) := by decide +kernel
theorem dX9_reached_52 : decode (dc DX9_reached) 52 = .ok (.getfield 209, 3) := by decide +kernel
theorem dX9_reached_55 : decode (dc DX9_reached) 55 = .ok (.ireturn, 1) := by decide +kernel
theorem dX9_cover_0 : decode (dc DX9_cover) 0 = .ok (.aload_n 0, 1) := by decide +kernel
theorem dX9_cover_1 : decode (dc DX9_cover) 1 = .ok (.iload_n 1, 1) := by decide +kernel
theorem dX9_cover_2 : decode (dc DX9_cover) 2 = .ok (.ifCond .eq 8, 3) := by decide +kernel
theorem dX9_cover_5 : decode (dc DX9_cover) 5 = .ok (.iload_n 1, 1) := by decide +kernel
theorem dX9_cover_6 : decode (dc DX9_cover) 6 = .ok (.iconst 1, 1) := by decide +kernel
theorem dX9_cover_7 : decode (dc DX9_cover) 7 = .ok (.if_icmp .ne 7, 3) := by decide +kernel
theorem dX9_cover_10 : decode (dc DX9_cover) 10 = .ok (.iconst 1, 1) := by decide +kernel
theorem dX9_cover_11 : decode (dc DX9_cover) 11 = .ok (.goto 4, 3) := by decide +kernel
theorem dX9_cover_14 : decode (dc DX9_cover) 14 = .ok (.iconst 0, 1) := by decide +kernel
theorem dX9_cover_15 : decode (dc DX9_cover) 15 = .ok (.invokevirtual 150, 3) := by decide +kernel
theorem dX9_cover_18 : decode (dc DX9_cover) 18 = .ok (.aload_n 0, 1) := by decide +kernel
theorem dX9_cover_19 : decode (dc DX9_cover) 19 = .ok (.invokevirtual 201, 3) := by decide +kernel
theorem dX9_cover_22 : decode (dc DX9_cover) 22 = .ok (.pop, 1) := by decide +kernel
theorem dX9_cover_23 : decode (dc DX9_cover) 23 = .ok (.aload_n 0, 1) := by decide +kernel
theorem dX9_cover_24 : decode (dc DX9_cover) 24 = .ok (.getfield 43, 3) := by decide +kernel
theorem dX9_cover_27 : decode (dc DX9_cover) 27 = .ok (.aload_n 0, 1) := by decide +kernel
theorem dX9_cover_28 : decode (dc DX9_cover) 28 = .ok (.getfield 36, 3) := by decide +kernel
theorem dX9_cover_31 : decode (dc DX9_cover) 31 = .ok (.invokevirtual 204, 3) := by decide +kernel
theorem dX9_cover_34 : decode (dc DX9_cover) 34 = .ok (.iload_n 1, 1) := by decide +kernel
theorem dX9_cover_35 : decode (dc DX9_cover) 35 = .ok (.ifCond .ne 23, 3) := by decide +kernel
theorem dX9_cover_38 : decode (dc DX9_cover) 38 = .ok (.aload_n 0, 1) := by decide +kernel
theorem dX9_cover_39 : decode (dc DX9_cover) 39 = .ok (.getfield 12, 3) := by decide +kernel
theorem dX9_cover_42 : decode (dc DX9_cover) 42 = .ok (.getfield 131, 3) := by decide +kernel
theorem dX9_cover_45 : decode (dc DX9_cover) 45 = .ok (.aload_n 0, 1) := by decide +kernel
theorem dX9_cover_46 : decode (dc DX9_cover) 46 = .ok (.getfield 43, 3) := by decide +kernel
theorem dX9_cover_49 : decode (dc DX9_cover) 49 = .ok (.getfield 208, 3) := by decide +kernel
theorem dX9_cover_52 : decode (dc DX9_cover) 52 = .ok (.iconst (-1), 1) := by decide +kernel
theorem dX9_cover_53 : decode (dc DX9_cover) 53 = .ok (.ixor, 1) := by decide +kernel
theorem dX9_cover_54 : decode (dc DX9_cover) 54 = .ok (.iand, 1) := by decide +kernel
theorem dX9_cover_55 : decode (dc DX9_cover) 55 = .ok (.goto 10, 3) := by decide +kernel
theorem dX9_cover_58 : decode (dc DX9_cover) 58 = .ok (.aload_n 0, 1) := by decide +kernel
theorem dX9_cover_59 : decode (dc DX9_cover) 59 = .ok (.getfield 43, 3) := by decide +kernel
theorem dX9_cover_62 : decode (dc DX9_cover) 62 = .ok (.getfield 209, 3) := by decide +kernel
theorem dX9_cover_65 : decode (dc DX9_cover) 65 = .ok (.ireturn, 1) := by decide +kernel
theorem dX9_partOf_0 : decode (dc DX9_partOf) 0 = .ok (.aload_n 0, 1) := by decide +kernel
theorem dX9_partOf_1 : decode (dc DX9_partOf) 1 = .ok (.getfield 12, 3) := by decide +kernel
theorem dX9_partOf_4 : decode (dc DX9_partOf) 4 = .ok (.iload_n 1, 1) := by decide +kernel
theorem dX9_partOf_5 : decode (dc DX9_partOf) 5 = .ok (.iload_n 2, 1) := by decide +kernel
theorem dX9_partOf_6 : decode (dc DX9_partOf) 6 = .ok (.invokevirtual 309, 3) := by decide +kernel
theorem dX9_partOf_9 : decode (dc DX9_partOf) 9 = .ok (.ifCond .ne 5, 3) := by decide +kernel
