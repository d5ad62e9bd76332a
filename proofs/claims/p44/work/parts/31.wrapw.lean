/-! words of the law's wrappers (by program) -/
theorem wx_33 : Cond.classLink RL 33 IAE ∈ lw_gd := gdm 635 (by decide +kernel) rfl
theorem wx_43 : Cond.classLink RL 43 NSE ∈ lw_gd := gdm 980 (by decide +kernel) rfl
theorem wt_IAE : Cond.castable IAE IAE ∈ lw_nw := nwm 646 (by decide +kernel) rfl
theorem wt_NSE : Cond.castable NSE NSE ∈ lw_nw := nwm 992 (by decide +kernel) rfl
def DL_text : xD := (yL_text, cL_text, 3, some .int, [(0, 5, 6, 33)], 12)
theorem lk_L_30 : xLnk RL 30 yX9_text ∨ xNst RL 30 yX9_text := Or.inl (gdm 636 (by decide +kernel) rfl)
theorem calw_L_text : xCalW DL_text 2 := ⟨by simp [DL_text, dh], gdm 634 (by decide +kernel) rfl, gdm 106 (by decide +kernel) rfl, (by decide +kernel), Nat.le_of_ble_eq_true rfl⟩
theorem staw_L_text : xSta DL_text := gdm 633 (by decide +kernel) rfl
theorem lkw_L_text : xLnk RL 20 yL_text := gdm 632 (by decide +kernel) rfl
theorem cal_X9_text : xCal DX9_text 1 := ⟨rfl, gdm 639 (by decide +kernel) rfl, gdm 107 (by decide +kernel) rfl, (by decide +kernel), Nat.le_of_ble_eq_true rfl⟩
theorem vir_X9_text : xVir DX9_text := ⟨gdm 637 (by decide +kernel) rfl, gdm 638 (by decide +kernel) rfl⟩
theorem dL_text_0 : decode (dc DL_text) 0 = .ok (.aload_n 0, 1) := by decide +kernel
theorem dL_text_1 : decode (dc DL_text) 1 = .ok (.iload_n 1, 1) := by decide +kernel
theorem dL_text_2 : decode (dc DL_text) 2 = .ok (.invokevirtual 30, 3) := by decide +kernel
theorem dL_text_5 : decode (dc DL_text) 5 = .ok (.ireturn, 1) := by decide +kernel
theorem dL_text_6 : decode (dc DL_text) 6 = .ok (.astore_n 2, 1) := by decide +kernel
theorem dL_text_7 : decode (dc DL_text) 7 = .ok (.ldc 35, 2) := by decide +kernel
theorem dL_text_9 : decode (dc DL_text) 9 = .ok (.ireturn, 1) := by decide +kernel
def DL_told : xD := (yL_told, cL_told, 3, some .int, [(0, 5, 6, 33)], 12)
theorem lk_L_36 : xLnk RL 36 yX9_told ∨ xNst RL 36 yX9_told := Or.inl (gdm 959 (by decide +kernel) rfl)
theorem calw_L_told : xCalW DL_told 2 := ⟨by simp [DL_told, dh], gdm 958 (by decide +kernel) rfl, gdm 106 (by decide +kernel) rfl, (by decide +kernel), Nat.le_of_ble_eq_true rfl⟩
theorem staw_L_told : xSta DL_told := gdm 957 (by decide +kernel) rfl
theorem lkw_L_told : xLnk RL 255 yL_told := gdm 956 (by decide +kernel) rfl
theorem cal_X9_told : xCal DX9_told 1 := ⟨rfl, gdm 962 (by decide +kernel) rfl, gdm 107 (by decide +kernel) rfl, (by decide +kernel), Nat.le_of_ble_eq_true rfl⟩
theorem vir_X9_told : xVir DX9_told := ⟨gdm 960 (by decide +kernel) rfl, gdm 961 (by decide +kernel) rfl⟩
theorem dL_told_0 : decode (dc DL_told) 0 = .ok (.aload_n 0, 1) := by decide +kernel
theorem dL_told_1 : decode (dc DL_told) 1 = .ok (.iload_n 1, 1) := by decide +kernel
theorem dL_told_2 : decode (dc DL_told) 2 = .ok (.invokevirtual 36, 3) := by decide +kernel
theorem dL_told_5 : decode (dc DL_told) 5 = .ok (.ireturn, 1) := by decide +kernel
theorem dL_told_6 : decode (dc DL_told) 6 = .ok (.astore_n 2, 1) := by decide +kernel
theorem dL_told_7 : decode (dc DL_told) 7 = .ok (.ldc 35, 2) := by decide +kernel
theorem dL_told_9 : decode (dc DL_told) 9 = .ok (.ireturn, 1) := by decide +kernel
def DL_partner : xD := (yL_partner, cL_partner, 4, some .int, [(0, 6, 7, 43)], 12)
theorem lk_L_39 : xLnk RL 39 yX9_partner ∨ xNst RL 39 yX9_partner := Or.inl (gdm 981 (by decide +kernel) rfl)
theorem calw_L_partner : xCalW DL_partner 3 := ⟨by simp [DL_partner, dh], gdm 979 (by decide +kernel) rfl, gdm 106 (by decide +kernel) rfl, (by decide +kernel), Nat.le_of_ble_eq_true rfl⟩
theorem staw_L_partner : xSta DL_partner := gdm 978 (by decide +kernel) rfl
theorem lkw_L_partner : xLnk RL 221 yL_partner := gdm 977 (by decide +kernel) rfl
theorem cal_X9_partner : xCal DX9_partner 2 := ⟨rfl, gdm 984 (by decide +kernel) rfl, gdm 107 (by decide +kernel) rfl, (by decide +kernel), Nat.le_of_ble_eq_true rfl⟩
theorem vir_X9_partner : xVir DX9_partner := ⟨gdm 982 (by decide +kernel) rfl, gdm 983 (by decide +kernel) rfl⟩
theorem dL_partner_0 : decode (dc DL_partner) 0 = .ok (.aload_n 0, 1) := by decide +kernel
theorem dL_partner_1 : decode (dc DL_partner) 1 = .ok (.iload_n 1, 1) := by decide +kernel
theorem dL_partner_2 : decode (dc DL_partner) 2 = .ok (.iload_n 2, 1) := by decide +kernel
theorem dL_partner_3 : decode (dc DL_partner) 3 = .ok (.invokevirtual 39, 3) := by decide +kernel
theorem dL_partner_6 : decode (dc DL_partner) 6 = .ok (.ireturn, 1) := by decide +kernel
theorem dL_partner_7 : decode (dc DL_partner) 7 = .ok (.astore_n 3, 1) := by decide +kernel
theorem dL_partner_8 : decode (dc DL_partner) 8 = .ok (.ldc 45, 2) := by decide +kernel
theorem dL_partner_10 : decode (dc DL_partner) 10 = .ok (.ireturn, 1) := by decide +kernel
def DL_cost : xD := (yL_cost, cL_cost, 4, some .int, [(0, 6, 7, 43)], 12)
theorem lk_L_46 : xLnk RL 46 yX9_cost ∨ xNst RL 46 yX9_cost := Or.inl (gdm 1011 (by decide +kernel) rfl)
theorem calw_L_cost : xCalW DL_cost 3 := ⟨by simp [DL_cost, dh], gdm 1010 (by decide +kernel) rfl, gdm 106 (by decide +kernel) rfl, (by decide +kernel), Nat.le_of_ble_eq_true rfl⟩
theorem staw_L_cost : xSta DL_cost := gdm 1009 (by decide +kernel) rfl
theorem lkw_L_cost : xLnk RL 233 yL_cost := gdm 1008 (by decide +kernel) rfl
theorem cal_X9_cost : xCal DX9_cost 2 := ⟨rfl, gdm 1014 (by decide +kernel) rfl, gdm 107 (by decide +kernel) rfl, (by decide +kernel), Nat.le_of_ble_eq_true rfl⟩
theorem vir_X9_cost : xVir DX9_cost := ⟨gdm 1012 (by decide +kernel) rfl, gdm 1013 (by decide +kernel) rfl⟩
theorem dL_cost_0 : decode (dc DL_cost) 0 = .ok (.aload_n 0, 1) := by decide +kernel
theorem dL_cost_1 : decode (dc DL_cost) 1 = .ok (.iload_n 1, 1) := by decide +kernel
theorem dL_cost_2 : decode (dc DL_cost) 2 = .ok (.iload_n 2, 1) := by decide +kernel
theorem dL_cost_3 : decode (dc DL_cost) 3 = .ok (.invokevirtual 46, 3) := by decide +kernel
theorem dL_cost_6 : decode (dc DL_cost) 6 = .ok (.ireturn, 1) := by decide +kernel
theorem dL_cost_7 : decode (dc DL_cost) 7 = .ok (.astore_n 3, 1) := by decide +kernel
theorem dL_cost_8 : decode (dc DL_cost) 8 = .ok (.ldc 45, 2) := by decide +kernel
theorem dL_cost_10 : decode (dc DL_cost) 10 = .ok (.ireturn, 1) := by decide +kernel
def DL_fits : xD := (yL_fits, cL_fits, 4, some .int, [(0, 6, 7, 43)], 12)
theorem lk_L_49 : xLnk RL 49 yX9_fits ∨ xNst RL 49 yX9_fits := Or.inl (gdm 1473 (by decide +kernel) rfl)
theorem calw_L_fits : xCalW DL_fits 3 := ⟨by simp [DL_fits, dh], gdm 1472 (by decide +kernel) rfl, gdm 106 (by decide +kernel) rfl, (by decide +kernel), Nat.le_of_ble_eq_true rfl⟩
theorem staw_L_fits : xSta DL_fits := gdm 1471 (by decide +kernel) rfl
theorem lkw_L_fits : xLnk RL 237 yL_fits := gdm 1470 (by decide +kernel) rfl
theorem cal_X9_fits : xCal DX9_fits 2 := ⟨rfl, gdm 1476 (by decide +kernel) rfl, gdm 107 (by decide +kernel) rfl, (by decide +kernel), Nat.le_of_ble_eq_true rfl⟩
theorem vir_X9_fits : xVir DX9_fits := ⟨gdm 1474 (by decide +kernel) rfl, gdm 1475 (by decide +kernel) rfl⟩
theorem dL_fits_0 : decode (dc DL_fits) 0 = .ok (.aload_n 0, 1) := by decide +kernel
theorem dL_fits_1 : decode (dc DL_fits) 1 = .ok (.iload_n 1, 1) := by decide +kernel
theorem dL_fits_2 : decode (dc DL_fits) 2 = .ok (.iload_n 2, 1) := by decide +kernel
theorem dL_fits_3 : decode (dc DL_fits) 3 = .ok (.invokevirtual 49, 3) := by decide +kernel
theorem dL_fits_6 : decode (dc DL_fits) 6 = .ok (.ireturn, 1) := by decide +kernel
theorem dL_fits_7 : decode (dc DL_fits) 7 = .ok (.astore_n 3, 1) := by decide +kernel
theorem dL_fits_8 : decode (dc DL_fits) 8 = .ok (.ldc 45, 2) := by decide +kernel
theorem dL_fits_10 : decode (dc DL_fits) 10 = .ok (.ireturn, 1) := by decide +kernel
def DL_wayAt : xD := (yL_wayAt, cL_wayAt, 3, some .int, [(0, 5, 6, 43)], 12)
theorem lk_L_52 : xLnk RL 52 yX9_wayAt ∨ xNst RL 52 yX9_wayAt := Or.inl (gdm 1493 (by decide +kernel) rfl)
theorem calw_L_wayAt : xCalW DL_wayAt 2 := ⟨by simp [DL_wayAt, dh], gdm 1492 (by decide +kernel) rfl, gdm 106 (by decide +kernel) rfl, (by decide +kernel), Nat.le_of_ble_eq_true rfl⟩
theorem staw_L_wayAt : xSta DL_wayAt := gdm 1491 (by decide +kernel) rfl
theorem lkw_L_wayAt : xLnk RL 244 yL_wayAt := gdm 1490 (by decide +kernel) rfl
theorem cal_X9_wayAt : xCal DX9_wayAt 1 := ⟨rfl, gdm 1496 (by decide +kernel) rfl, gdm 107 (by decide +kernel) rfl, (by decide +kernel), Nat.le_of_ble_eq_true rfl⟩
theorem vir_X9_wayAt : xVir DX9_wayAt := ⟨gdm 1494 (by decide +kernel) rfl, gdm 1495 (by decide +kernel) rfl⟩
theorem dL_wayAt_0 : decode (dc DL_wayAt) 0 = .ok (.aload_n 0, 1) := by decide +kernel
theorem dL_wayAt_1 : decode (dc DL_wayAt) 1 = .ok (.iload_n 1, 1) := by decide +kernel
theorem dL_wayAt_2 : decode (dc DL_wayAt) 2 = .ok (.invokevirtual 52, 3) := by decide +kernel
theorem dL_wayAt_5 : decode (dc DL_wayAt) 5 = .ok (.ireturn, 1) := by decide +kernel
theorem dL_wayAt_6 : decode (dc DL_wayAt) 6 = .ok (.astore_n 2, 1) := by decide +kernel
theorem dL_wayAt_7 : decode (dc DL_wayAt) 7 = .ok (.ldc 45, 2) := by decide +kernel
theorem dL_wayAt_9 : decode (dc DL_wayAt) 9 = .ok (.ireturn, 1) := by decide +kernel
def DL_wayFrom : xD := (yL_wayFrom, cL_wayFrom, 4, some .int, [(0, 6, 7, 43), (0, 6, 11, 33)], 12)
theorem lk_L_55 : xLnk RL 55 yX9_wayFrom ∨ xNst RL 55 yX9_wayFrom := Or.inl (gdm 1023 (by decide +kernel) rfl)
theorem calw_L_wayFrom : xCalW DL_wayFrom 3 := ⟨by simp [DL_wayFrom, dh], gdm 1022 (by decide +kernel) rfl, gdm 106 (by decide +kernel) rfl, (by decide +kernel), Nat.le_of_ble_eq_true rfl⟩
theorem staw_L_wayFrom : xSta DL_wayFrom := gdm 1021 (by decide +kernel) rfl
theorem lkw_L_wayFrom : xLnk RL 224 yL_wayFrom := gdm 1020 (by decide +kernel) rfl
theorem cal_X9_wayFrom : xCal DX9_wayFrom 2 := ⟨rfl, gdm 1026 (by decide +kernel) rfl, gdm 107 (by decide +kernel) rfl, (by decide +kernel), Nat.le_of_ble_eq_true rfl⟩
theorem vir_X9_wayFrom : xVir DX9_wayFrom := ⟨gdm 1024 (by decide +kernel) rfl, gdm 1025 (by decide +kernel) rfl⟩
theorem dL_wayFrom_0 : decode (dc DL_wayFrom) 0 = .ok (.aload_n 0, 1) := by decide +kernel
theorem dL_wayFrom_1 : decode (dc DL_wayFrom) 1 = .ok (.iload_n 1, 1) := by decide +kernel
theorem dL_wayFrom_2 : decode (dc DL_wayFrom) 2 = .ok (.iload_n 2, 1) := by decide +kernel
theorem dL_wayFrom_3 : decode (dc DL_wayFrom) 3 = .ok (.invokevirtual 55, 3) := by decide +kernel
theorem dL_wayFrom_6 : decode (dc DL_wayFrom) 6 = .ok (.ireturn, 1) := by decide +kernel
theorem dL_wayFrom_7 : decode (dc DL_wayFrom) 7 = .ok (.astore_n 3, 1) := by decide +kernel
theorem dL_wayFrom_8 : decode (dc DL_wayFrom) 8 = .ok (.ldc 45, 2) := by decide +kernel
theorem dL_wayFrom_10 : decode (dc DL_wayFrom) 10 = .ok (.ireturn, 1) := by decide +kernel
theorem dL_wayFrom_11 : decode (dc DL_wayFrom) 11 = .ok (.astore_n 3, 1) := by decide +kernel
theorem dL_wayFrom_12 : decode (dc DL_wayFrom) 12 = .ok (.ldc 35, 2) := by decide +kernel
theorem dL_wayFrom_14 : decode (dc DL_wayFrom) 14 = .ok (.ireturn, 1) := by decide +kernel
def DL_phases : xD := (yL_phases, cL_phases, 3, some .int, [(0, 5, 6, 33)], 12)
theorem lk_L_58 : xLnk RL 58 yX9_phases ∨ xNst RL 58 yX9_phases := Or.inl (gdm 1031 (by decide +kernel) rfl)
theorem calw_L_phases : xCalW DL_phases 2 := ⟨by simp [DL_phases, dh], gdm 1030 (by decide +kernel) rfl, gdm 106 (by decide +kernel) rfl, (by decide +kernel), Nat.le_of_ble_eq_true rfl⟩
theorem staw_L_phases : xSta DL_phases := gdm 1029 (by decide +kernel) rfl
theorem lkw_L_phases : xLnk RL 325 yL_phases := gdm 1028 (by decide +kernel) rfl
theorem cal_X9_phases : xCal DX9_phases 1 := ⟨rfl, gdm 1034 (by decide +kernel) rfl, gdm 107 (by decide +kernel) rfl, (by decide +kernel), Nat.le_of_ble_eq_true rfl⟩
theorem vir_X9_phases : xVir DX9_phases := ⟨gdm 1032 (by decide +kernel) rfl, gdm 1033 (by decide +kernel) rfl⟩
theorem dL_phases_0 : decode (dc DL_phases) 0 = .ok (.aload_n 0, 1) := by decide +kernel
theorem dL_phases_1 : decode (dc DL_phases) 1 = .ok (.iload_n 1, 1) := by decide +kernel
theorem dL_phases_2 : decode (dc DL_phases) 2 = .ok (.invokevirtual 58, 3) := by decide +kernel
theorem dL_phases_5 : decode (dc DL_phases) 5 = .ok (.ireturn, 1) := by decide +kernel
theorem dL_phases_6 : decode (dc DL_phases) 6 = .ok (.astore_n 2, 1) := by decide +kernel
theorem dL_phases_7 : decode (dc DL_phases) 7 = .ok (.ldc 35, 2) := by decide +kernel
theorem dL_phases_9 : decode (dc DL_phases) 9 = .ok (.ireturn, 1) := by decide +kernel
def DL_phased : xD := (yL_phased, cL_phased, 3, some .int, [(0, 5, 6, 43)], 12)
theorem lk_L_61 : xLnk RL 61 yX9_phased ∨ xNst RL 61 yX9_phased := Or.inl (gdm 1084 (by decide +kernel) rfl)
theorem calw_L_phased : xCalW DL_phased 2 := ⟨by simp [DL_phased, dh], gdm 1083 (by decide +kernel) rfl, gdm 106 (by decide +kernel) rfl, (by decide +kernel), Nat.le_of_ble_eq_true rfl⟩
theorem staw_L_phased : xSta DL_phased := gdm 1082 (by decide +kernel) rfl
theorem lkw_L_phased : xLnk RL 327 yL_phased := gdm 1081 (by decide +kernel) rfl
theorem cal_X9_phased : xCal DX9_phased 1 := ⟨rfl, gdm 1087 (by decide +kernel) rfl, gdm 107 (by decide +kernel) rfl, (by decide +kernel), Nat.le_of_ble_eq_true rfl⟩
theorem vir_X9_phased : xVir DX9_phased := ⟨gdm 1085 (by decide +kernel) rfl, gdm 1086 (by decide +kernel) rfl⟩
theorem dL_phased_0 : decode (dc DL_phased) 0 = .ok (.aload_n 0, 1) := by decide +kernel
theorem dL_phased_1 : decode (dc DL_phased) 1 = .ok (.iload_n 1, 1) := by decide +kernel
theorem dL_phased_2 : decode (dc DL_phased) 2 = .ok (.invokevirtual 61, 3) := by decide +kernel
theorem dL_phased_5 : decode (dc DL_phased) 5 = .ok (.ireturn, 1) := by decide +kernel
theorem dL_phased_6 : decode (dc DL_phased) 6 = .ok (.astore_n 2, 1) := by decide +kernel
theorem dL_phased_7 : decode (dc DL_phased) 7 = .ok (.ldc 45, 2) := by decide +kernel
theorem dL_phased_9 : decode (dc DL_phased) 9 = .ok (.ireturn, 1) := by decide +kernel
def DL_reached : xD := (yL_reached, cL_reached, 3, some .int, [(0, 5, 6, 43)], 12)
theorem lk_L_64 : xLnk RL 64 yX9_reached ∨ xNst RL 64 yX9_reached := Or.inl (gdm 1092 (by decide +kernel) rfl)
theorem calw_L_reached : xCalW DL_reached 2 := ⟨by simp [DL_reached, dh], gdm 1091 (by decide +kernel) rfl, gdm 106 (by decide +kernel) rfl, (by decide +kernel), Nat.le_of_ble_eq_true rfl⟩
theorem staw_L_reached : xSta DL_reached := gdm 1090 (by decide +kernel) rfl
theorem lkw_L_reached : xLnk RL 259 yL_reached := gdm 1089 (by decide +kernel) rfl
theorem cal_X9_reached : xCal DX9_reached 1 := ⟨rfl, gdm 1095 (by decide +kernel) rfl, gdm 107 (by decide +kernel) rfl, (by decide +kernel), Nat.le_of_ble_eq_true rfl⟩
theorem vir_X9_reached : xVir DX9_reached := ⟨gdm 1093 (by decide +kernel) rfl, gdm 1094 (by decide +kernel) rfl⟩
theorem dL_reached_0 : decode (dc DL_reached) 0 = .ok (.aload_n 0, 1) := by decide +kernel
theorem dL_reached_1 : decode (dc DL_reached) 1 = .ok (.iload_n 1, 1) := by decide +kernel
theorem dL_reached_2 : decode (dc DL_reached) 2 = .ok (.invokevirtual 64, 3) := by decide +kernel
theorem dL_reached_5 : decode (dc DL_reached) 5 = .ok (.ireturn, 1) := by decide +kernel
theorem dL_reached_6 : decode (dc DL_reached) 6 = .ok (.astore_n 2, 1) := by decide +kernel
theorem dL_reached_7 : decode (dc DL_reached) 7 = .ok (.ldc 45, 2) := by decide +kernel
theorem dL_reached_9 : decode (dc DL_reached) 9 = .ok (.ireturn, 1) := by decide +kernel
def DL_cover : xD := (yL_cover, cL_cover, 3, some .int, [(0, 5, 6, 43)], 12)
theorem lk_L_67 : xLnk RL 67 yX9_cover ∨ xNst RL 67 yX9_cover := Or.inl (gdm 1121 (by decide +kernel) rfl)
theorem calw_L_cover : xCalW DL_cover 2 := ⟨by simp [DL_cover, dh], gdm 1120 (by decide +kernel) rfl, gdm 106 (by decide +kernel) rfl, (by decide +kernel), Nat.le_of_ble_eq_true rfl⟩
theorem staw_L_cover : xSta DL_cover := gdm 1119 (by decide +kernel) rfl
theorem lkw_L_cover : xLnk RL 261 yL_cover := gdm 1118 (by decide +kernel) rfl
theorem cal_X9_cover : xCal DX9_cover 1 := ⟨rfl, gdm 1124 (by decide +kernel) rfl, gdm 107 (by decide +kernel) rfl, (by decide +kernel), Nat.le_of_ble_eq_true rfl⟩
theorem vir_X9_cover : xVir DX9_cover := ⟨gdm 1122 (by decide +kernel) rfl, gdm 1123 (by decide +kernel) rfl⟩
theorem dL_cover_0 : decode (dc DL_cover) 0 = .ok (.aload_n 0, 1) := by decide +kernel
theorem dL_cover_1 : decode (dc DL_cover) 1 = .ok (.iload_n 1, 1) := by decide +kernel
theorem dL_cover_2 : decode (dc DL_cover) 2 = .ok (.invokevirtual 67, 3) := by decide +kernel
theorem dL_cover_5 : decode (dc DL_cover) 5 = .ok (.ireturn, 1) := by decide +kernel
theorem dL_cover_6 : decode (dc DL_cover) 6 = .ok (.astore_n 2, 1) := by decide +kernel
theorem dL_cover_7 : decode (dc DL_cover) 7 = .ok (.ldc 45, 2) := by decide +kernel
theorem dL_cover_9 : decode (dc DL_cover) 9 = .ok (.ireturn, 1) := by decide +kernel
def DL_of : xD := (yL_of, cL_of, 5, some .int, [(0, 7, 8, 43), (0, 7, 13, 33)], 12)
theorem lk_L_70 : xLnk RL 70 yX9_of ∨ xNst RL 70 yX9_of := Or.inl (gdm 1128 (by decide +kernel) rfl)
theorem calw_L_of : xCalW DL_of 4 := ⟨by simp [DL_of, dh], gdm 1127 (by decide +kernel) rfl, gdm 106 (by decide +kernel) rfl, (by decide +kernel), Nat.le_of_ble_eq_true rfl⟩
theorem staw_L_of : xSta DL_of := gdm 1126 (by decide +kernel) rfl
theorem lkw_L_of : xLnk RL 230 yL_of := gdm 1125 (by decide +kernel) rfl
theorem cal_X9_of : xCal DX9_of 3 := ⟨rfl, gdm 1131 (by decide +kernel) rfl, gdm 107 (by decide +kernel) rfl, (by decide +kernel), Nat.le_of_ble_eq_true rfl⟩
theorem vir_X9_of : xVir DX9_of := ⟨gdm 1129 (by decide +kernel) rfl, gdm 1130 (by decide +kernel) rfl⟩
theorem dL_of_0 : decode (dc DL_of) 0 = .ok (.aload_n 0, 1) := by decide +kernel
theorem dL_of_1 : decode (dc DL_of) 1 = .ok (.iload_n 1, 1) := by decide +kernel
theorem dL_of_2 : decode (dc DL_of) 2 = .ok (.iload_n 2, 1) := by decide +kernel
theorem dL_of_3 : decode (dc DL_of) 3 = .ok (.iload_n 3, 1) := by decide +kernel
theorem dL_of_4 : decode (dc DL_of) 4 = .ok (.invokevirtual 70, 3) := by decide +kernel
theorem dL_of_7 : decode (dc DL_of) 7 = .ok (.ireturn, 1) := by decide +kernel
theorem dL_of_8 : decode (dc DL_of) 8 = .ok (.astore 4, 2) := by decide +kernel
theorem dL_of_10 : decode (dc DL_of) 10 = .ok (.ldc 45, 2) := by decide +kernel
theorem dL_of_12 : decode (dc DL_of) 12 = .ok (.ireturn, 1) := by decide +kernel
theorem dL_of_13 : decode (dc DL_of) 13 = .ok (.astore 4, 2) := by decide +kernel
theorem dL_of_15 : decode (dc DL_of) 15 = .ok (.ldc 35, 2) := by decide +kernel
theorem dL_of_17 : decode (dc DL_of) 17 = .ok (.ireturn, 1) := by decide +kernel
def DL_fit : xD := (yL_fit, cL_fit, 4, some .int, [(0, 6, 7, 43)], 12)
theorem lk_L_74 : xLnk RL 74 yX9_fit ∨ xNst RL 74 yX9_fit := Or.inl (gdm 1466 (by decide +kernel) rfl)
theorem calw_L_fit : xCalW DL_fit 3 := ⟨by simp [DL_fit, dh], gdm 1465 (by decide +kernel) rfl, gdm 106 (by decide +kernel) rfl, (by decide +kernel), Nat.le_of_ble_eq_true rfl⟩
theorem staw_L_fit : xSta DL_fit := gdm 1464 (by decide +kernel) rfl
theorem lkw_L_fit : xLnk RL 235 yL_fit := gdm 1463 (by decide +kernel) rfl
theorem cal_X9_fit : xCal DX9_fit 2 := ⟨rfl, gdm 1469 (by decide +kernel) rfl, gdm 107 (by decide +kernel) rfl, (by decide +kernel), Nat.le_of_ble_eq_true rfl⟩
theorem vir_X9_fit : xVir DX9_fit := ⟨gdm 1467 (by decide +kernel) rfl, gdm 1468 (by decide +kernel) rfl⟩
theorem dL_fit_0 : decode (dc DL_fit) 0 = .ok (.aload_n 0, 1) := by decide +kernel
theorem dL_fit_1 : decode (dc DL_fit) 1 = .ok (.iload_n 1, 1) := by decide +kernel
theorem dL_fit_2 : decode (dc DL_fit) 2 = .ok (.iload_n 2, 1) := by decide +kernel
theorem dL_fit_3 : decode (dc DL_fit) 3 = .ok (.invokevirtual 74, 3) := by decide +kernel
theorem dL_fit_6 : decode (dc DL_fit) 6 = .ok (.ireturn, 1) := by decide +kernel
theorem dL_fit_7 : decode (dc DL_fit) 7 = .ok (.astore_n 3, 1) := by decide +kernel
theorem dL_fit_8 : decode (dc DL_fit) 8 = .ok (.ldc 45, 2) := by decide +kernel
theorem dL_fit_10 : decode (dc DL_fit) 10 = .ok (.ireturn, 1) := by decide +kernel
def DL_fitMany : xD := (yL_fitMany, cL_fitMany, 3, some .int, [(0, 5, 6, 33)], 12)
theorem lk_L_77 : xLnk RL 77 yX9_fitMany ∨ xNst RL 77 yX9_fitMany := Or.inl (gdm 1147 (by decide +kernel) rfl)
theorem calw_L_fitMany : xCalW DL_fitMany 2 := ⟨by simp [DL_fitMany, dh], gdm 1146 (by decide +kernel) rfl, gdm 106 (by decide +kernel) rfl, (by decide +kernel), Nat.le_of_ble_eq_true rfl⟩
theorem staw_L_fitMany : xSta DL_fitMany := gdm 1145 (by decide +kernel) rfl
theorem lkw_L_fitMany : xLnk RL 265 yL_fitMany := gdm 1144 (by decide +kernel) rfl
theorem cal_X9_fitMany : xCal DX9_fitMany 1 := ⟨rfl, gdm 1150 (by decide +kernel) rfl, gdm 107 (by decide +kernel) rfl, (by decide +kernel), Nat.le_of_ble_eq_true rfl⟩
theorem vir_X9_fitMany : xVir DX9_fitMany := ⟨gdm 1148 (by decide +kernel) rfl, gdm 1149 (by decide +kernel) rfl⟩
theorem dL_fitMany_0 : decode (dc DL_fitMany) 0 = .ok (.aload_n 0, 1) := by decide +kernel
theorem dL_fitMany_1 : decode (dc DL_fitMany) 1 = .ok (.iload_n 1, 1) := by decide +kernel
theorem dL_fitMany_2 : decode (dc DL_fitMany) 2 = .ok (.invokevirtual 77, 3) := by decide +kernel
theorem dL_fitMany_5 : decode (dc DL_fitMany) 5 = .ok (.ireturn, 1) := by decide +kernel
theorem dL_fitMany_6 : decode (dc DL_fitMany) 6 = .ok (.astore_n 2, 1) := by decide +kernel
theorem dL_fitMany_7 : decode (dc DL_fitMany) 7 = .ok (.ldc 35, 2) := by decide +kernel
theorem dL_fitMany_9 : decode (dc DL_fitMany) 9 = .ok (.ireturn, 1) := by decide +kernel
def DL_lack : xD := (yL_lack, cL_lack, 3, some .int, [(0, 5, 6, 33)], 12)
theorem lk_L_80 : xLnk RL 80 yX9_lack ∨ xNst RL 80 yX9_lack := Or.inl (gdm 1177 (by decide +kernel) rfl)
theorem calw_L_lack : xCalW DL_lack 2 := ⟨by simp [DL_lack, dh], gdm 1176 (by decide +kernel) rfl, gdm 106 (by decide +kernel) rfl, (by decide +kernel), Nat.le_of_ble_eq_true rfl⟩
theorem staw_L_lack : xSta DL_lack := gdm 1175 (by decide +kernel) rfl
theorem lkw_L_lack : xLnk RL 329 yL_lack := gdm 1174 (by decide +kernel) rfl
theorem cal_X9_lack : xCal DX9_lack 1 := ⟨rfl, gdm 1180 (by decide +kernel) rfl, gdm 107 (by decide +kernel) rfl, (by decide +kernel), Nat.le_of_ble_eq_true rfl⟩
theorem vir_X9_lack : xVir DX9_lack := ⟨gdm 1178 (by decide +kernel) rfl, gdm 1179 (by decide +kernel) rfl⟩
theorem dL_lack_0 : decode (dc DL_lack) 0 = .ok (.aload_n 0, 1) := by decide +kernel
theorem dL_lack_1 : decode (dc DL_lack) 1 = .ok (.iload_n 1, 1) := by decide +kernel
theorem dL_lack_2 : decode (dc DL_lack) 2 = .ok (.invokevirtual 80, 3) := by decide +kernel
theorem dL_lack_5 : decode (dc DL_lack) 5 = .ok (.ireturn, 1) := by decide +kernel
theorem dL_lack_6 : decode (dc DL_lack) 6 = .ok (.astore_n 2, 1) := by decide +kernel
theorem dL_lack_7 : decode (dc DL_lack) 7 = .ok (.ldc 35, 2) := by decide +kernel
theorem dL_lack_9 : decode (dc DL_lack) 9 = .ok (.ireturn, 1) := by decide +kernel
def DL_hall : xD := (yL_hall, cL_hall, 3, some .int, [(0, 5, 6, 33)], 12)
theorem lk_L_83 : xLnk RL 83 yX9_hall ∨ xNst RL 83 yX9_hall := Or.inl (gdm 1186 (by decide +kernel) rfl)
theorem calw_L_hall : xCalW DL_hall 2 := ⟨by simp [DL_hall, dh], gdm 1185 (by decide +kernel) rfl, gdm 106 (by decide +kernel) rfl, (by decide +kernel), Nat.le_of_ble_eq_true rfl⟩
theorem staw_L_hall : xSta DL_hall := gdm 1184 (by decide +kernel) rfl
theorem lkw_L_hall : xLnk RL 263 yL_hall := gdm 1183 (by decide +kernel) rfl
theorem cal_X9_hall : xCal DX9_hall 1 := ⟨rfl, gdm 1189 (by decide +kernel) rfl, gdm 107 (by decide +kernel) rfl, (by decide +kernel), Nat.le_of_ble_eq_true rfl⟩
theorem vir_X9_hall : xVir DX9_hall := ⟨gdm 1187 (by decide +kernel) rfl, gdm 1188 (by decide +kernel) rfl⟩
theorem dL_hall_0 : decode (dc DL_hall) 0 = .ok (.aload_n 0, 1) := by decide +kernel
theorem dL_hall_1 : decode (dc DL_hall) 1 = .ok (.iload_n 1, 1) := by decide +kernel
theorem dL_hall_2 : decode (dc DL_hall) 2 = .ok (.invokevirtual 83, 3) := by decide +kernel
theorem dL_hall_5 : decode (dc DL_hall) 5 = .ok (.ireturn, 1) := by decide +kernel
theorem dL_hall_6 : decode (dc DL_hall) 6 = .ok (.astore_n 2, 1) := by decide +kernel
theorem dL_hall_7 : decode (dc DL_hall) 7 = .ok (.ldc 35, 2) := by decide +kernel
theorem dL_hall_9 : decode (dc DL_hall) 9 = .ok (.ireturn, 1) := by decide +kernel
def DL_cheap : xD := (yL_cheap, cL_cheap, 3, some .int, [(0, 5, 6, 33)], 12)
theorem lk_L_86 : xLnk RL 86 yX9_cheap ∨ xNst RL 86 yX9_cheap := Or.inl (gdm 1193 (by decide +kernel) rfl)
theorem calw_L_cheap : xCalW DL_cheap 2 := ⟨by simp [DL_cheap, dh], gdm 1192 (by decide +kernel) rfl, gdm 106 (by decide +kernel) rfl, (by decide +kernel), Nat.le_of_ble_eq_true rfl⟩
theorem staw_L_cheap : xSta DL_cheap := gdm 1191 (by decide +kernel) rfl
theorem lkw_L_cheap : xLnk RL 271 yL_cheap := gdm 1190 (by decide +kernel) rfl
theorem cal_X9_cheap : xCal DX9_cheap 1 := ⟨rfl, gdm 1196 (by decide +kernel) rfl, gdm 107 (by decide +kernel) rfl, (by decide +kernel), Nat.le_of_ble_eq_true rfl⟩
theorem vir_X9_cheap : xVir DX9_cheap := ⟨gdm 1194 (by decide +kernel) rfl, gdm 1195 (by decide +kernel) rfl⟩
theorem dL_cheap_0 : decode (dc DL_cheap) 0 = .ok (.aload_n 0, 1) := by decide +kernel
theorem dL_cheap_1 : decode (dc DL_cheap) 1 = .ok (.iload_n 1, 1) := by decide +kernel
theorem dL_cheap_2 : decode (dc DL_cheap) 2 = .ok (.invokevirtual 86, 3) := by decide +kernel
theorem dL_cheap_5 : decode (dc DL_cheap) 5 = .ok (.ireturn, 1) := by decide +kernel
theorem dL_cheap_6 : decode (dc DL_cheap) 6 = .ok (.astore_n 2, 1) := by decide +kernel
theorem dL_cheap_7 : decode (dc DL_cheap) 7 = .ok (.ldc 35, 2) := by decide +kernel
theorem dL_cheap_9 : decode (dc DL_cheap) 9 = .ok (.ireturn, 1) := by decide +kernel
def DL_more : xD := (yL_more, cL_more, 3, some .int, [(0, 5, 6, 33)], 12)
theorem lk_L_92 : xLnk RL 92 yX9_more ∨ xNst RL 92 yX9_more := Or.inl (gdm 1238 (by decide +kernel) rfl)
theorem calw_L_more : xCalW DL_more 2 := ⟨by simp [DL_more, dh], gdm 1237 (by decide +kernel) rfl, gdm 106 (by decide +kernel) rfl, (by decide +kernel), Nat.le_of_ble_eq_true rfl⟩
theorem staw_L_more : xSta DL_more := gdm 1236 (by decide +kernel) rfl
theorem lkw_L_more : xLnk RL 331 yL_more := gdm 1235 (by decide +kernel) rfl
theorem cal_X9_more : xCal DX9_more 1 := ⟨rfl, gdm 1241 (by decide +kernel) rfl, gdm 107 (by decide +kernel) rfl, (by decide +kernel), Nat.le_of_ble_eq_true rfl⟩
theorem vir_X9_more : xVir DX9_more := ⟨gdm 1239 (by decide +kernel) rfl, gdm 1240 (by decide +kernel) rfl⟩
theorem dL_more_0 : decode (dc DL_more) 0 = .ok (.aload_n 0, 1) := by decide +kernel
theorem dL_more_1 : decode (dc DL_more) 1 = .ok (.iload_n 1, 1) := by decide +kernel
theorem dL_more_2 : decode (dc DL_more) 2 = .ok (.invokevirtual 92, 3) := by decide +kernel
theorem dL_more_5 : decode (dc DL_more) 5 = .ok (.ireturn, 1) := by decide +kernel
theorem dL_more_6 : decode (dc DL_more) 6 = .ok (.astore_n 2, 1) := by decide +kernel
theorem dL_more_7 : decode (dc DL_more) 7 = .ok (.ldc 35, 2) := by decide +kernel
theorem dL_more_9 : decode (dc DL_more) 9 = .ok (.ireturn, 1) := by decide +kernel
def DL_fewest : xD := (yL_fewest, cL_fewest, 3, some .int, [(0, 5, 6, 33)], 12)
theorem lk_L_95 : xLnk RL 95 yX9_fewest ∨ xNst RL 95 yX9_fewest := Or.inl (gdm 1249 (by decide +kernel) rfl)
theorem calw_L_fewest : xCalW DL_fewest 2 := ⟨by simp [DL_fewest, dh], gdm 1248 (by decide +kernel) rfl, gdm 106 (by decide +kernel) rfl, (by decide +kernel), Nat.le_of_ble_eq_true rfl⟩
theorem staw_L_fewest : xSta DL_fewest := gdm 1247 (by decide +kernel) rfl
theorem lkw_L_fewest : xLnk RL 333 yL_fewest := gdm 1246 (by decide +kernel) rfl
theorem cal_X9_fewest : xCal DX9_fewest 1 := ⟨rfl, gdm 1252 (by decide +kernel) rfl, gdm 107 (by decide +kernel) rfl, (by decide +kernel), Nat.le_of_ble_eq_true rfl⟩
theorem vir_X9_fewest : xVir DX9_fewest := ⟨gdm 1250 (by decide +kernel) rfl, gdm 1251 (by decide +kernel) rfl⟩
theorem dL_fewest_0 : decode (dc DL_fewest) 0 = .ok (.aload_n 0, 1) := by decide +kernel
theorem dL_fewest_1 : decode (dc DL_fewest) 1 = .ok (.iload_n 1, 1) := by decide +kernel
theorem dL_fewest_2 : decode (dc DL_fewest) 2 = .ok (.invokevirtual 95, 3) := by decide +kernel
theorem dL_fewest_5 : decode (dc DL_fewest) 5 = .ok (.ireturn, 1) := by decide +kernel
theorem dL_fewest_6 : decode (dc DL_fewest) 6 = .ok (.astore_n 2, 1) := by decide +kernel
theorem dL_fewest_7 : decode (dc DL_fewest) 7 = .ok (.ldc 35, 2) := by decide +kernel
theorem dL_fewest_9 : decode (dc DL_fewest) 9 = .ok (.ireturn, 1) := by decide +kernel
def DL_chosen : xD := (yL_chosen, cL_chosen, 3, some .int, [(0, 5, 6, 33)], 12)
theorem lk_L_98 : xLnk RL 98 yX9_chosen ∨ xNst RL 98 yX9_chosen := Or.inl (gdm 1272 (by decide +kernel) rfl)
theorem calw_L_chosen : xCalW DL_chosen 2 := ⟨by simp [DL_chosen, dh], gdm 1271 (by decide +kernel) rfl, gdm 106 (by decide +kernel) rfl, (by decide +kernel), Nat.le_of_ble_eq_true rfl⟩
theorem staw_L_chosen : xSta DL_chosen := gdm 1270 (by decide +kernel) rfl
theorem lkw_L_chosen : xLnk RL 280 yL_chosen := gdm 1269 (by decide +kernel) rfl
theorem cal_X9_chosen : xCal DX9_chosen 1 := ⟨rfl, gdm 1275 (by decide +kernel) rfl, gdm 107 (by decide +kernel) rfl, (by decide +kernel), Nat.le_of_ble_eq_true rfl⟩
theorem vir_X9_chosen : xVir DX9_chosen := ⟨gdm 1273 (by decide +kernel) rfl, gdm 1274 (by decide +kernel) rfl⟩
theorem dL_chosen_0 : decode (dc DL_chosen) 0 = .ok (.aload_n 0, 1) := by decide +kernel
theorem dL_chosen_1 : decode (dc DL_chosen) 1 = .ok (.iload_n 1, 1) := by decide +kernel
theorem dL_chosen_2 : decode (dc DL_chosen) 2 = .ok (.invokevirtual 98, 3) := by decide +kernel
theorem dL_chosen_5 : decode (dc DL_chosen) 5 = .ok (.ireturn, 1) := by decide +kernel
theorem dL_chosen_6 : decode (dc DL_chosen) 6 = .ok (.astore_n 2, 1) := by decide +kernel
theorem dL_chosen_7 : decode (dc DL_chosen) 7 = .ok (.ldc 35, 2) := by decide +kernel
theorem dL_chosen_9 : decode (dc DL_chosen) 9 = .ok (.ireturn, 1) := by decide +kernel
def DL_round : xD := (yL_round, cL_round, 4, some .int, [(0, 6, 7, 43)], 12)
theorem lk_L_101 : xLnk RL 101 yX9_round ∨ xNst RL 101 yX9_round := Or.inl (gdm 1291 (by decide +kernel) rfl)
theorem calw_L_round : xCalW DL_round 3 := ⟨by simp [DL_round, dh], gdm 1290 (by decide +kernel) rfl, gdm 106 (by decide +kernel) rfl, (by decide +kernel), Nat.le_of_ble_eq_true rfl⟩
theorem staw_L_round : xSta DL_round := gdm 1289 (by decide +kernel) rfl
theorem lkw_L_round : xLnk RL 282 yL_round := gdm 1288 (by decide +kernel) rfl
theorem cal_X9_round : xCal DX9_round 2 := ⟨rfl, gdm 1294 (by decide +kernel) rfl, gdm 107 (by decide +kernel) rfl, (by decide +kernel), Nat.le_of_ble_eq_true rfl⟩
theorem vir_X9_round : xVir DX9_round := ⟨gdm 1292 (by decide +kernel) rfl, gdm 1293 (by decide +kernel) rfl⟩
theorem dL_round_0 : decode (dc DL_round) 0 = .ok (.aload_n 0, 1) := by decide +kernel
theorem dL_round_1 : decode (dc DL_round) 1 = .ok (.iload_n 1, 1) := by decide +kernel
theorem dL_round_2 : decode (dc DL_round) 2 = .ok (.iload_n 2, 1) := by decide +kernel
theorem dL_round_3 : decode (dc DL_round) 3 = .ok (.invokevirtual 101, 3) := by decide +kernel
theorem dL_round_6 : decode (dc DL_round) 6 = .ok (.ireturn, 1) := by decide +kernel
theorem dL_round_7 : decode (dc DL_round) 7 = .ok (.astore_n 3, 1) := by decide +kernel
theorem dL_round_8 : decode (dc DL_round) 8 = .ok (.ldc 45, 2) := by decide +kernel
theorem dL_round_10 : decode (dc DL_round) 10 = .ok (.ireturn, 1) := by decide +kernel
def DL_add : xD := (yL_add, cL_add, 5, some .int, [(0, 7, 8, 43), (0, 7, 13, 33)], 12)
theorem lk_L_104 : xLnk RL 104 yX9_add ∨ xNst RL 104 yX9_add := Or.inl (gdm 1341 (by decide +kernel) rfl)
theorem calw_L_add : xCalW DL_add 4 := ⟨by simp [DL_add, dh], gdm 1340 (by decide +kernel) rfl, gdm 106 (by decide +kernel) rfl, (by decide +kernel), Nat.le_of_ble_eq_true rfl⟩
theorem staw_L_add : xSta DL_add := gdm 1339 (by decide +kernel) rfl
theorem lkw_L_add : xLnk RL 301 yL_add := gdm 1338 (by decide +kernel) rfl
theorem cal_X9_add : xCal DX9_add 3 := ⟨rfl, gdm 1344 (by decide +kernel) rfl, gdm 107 (by decide +kernel) rfl, (by decide +kernel), Nat.le_of_ble_eq_true rfl⟩
theorem vir_X9_add : xVir DX9_add := ⟨gdm 1342 (by decide +kernel) rfl, gdm 1343 (by decide +kernel) rfl⟩
theorem dL_add_0 : decode (dc DL_add) 0 = .ok (.aload_n 0, 1) := by decide +kernel
theorem dL_add_1 : decode (dc DL_add) 1 = .ok (.iload_n 1, 1) := by decide +kernel
theorem dL_add_2 : decode (dc DL_add) 2 = .ok (.iload_n 2, 1) := by decide +kernel
theorem dL_add_3 : decode (dc DL_add) 3 = .ok (.iload_n 3, 1) := by decide +kernel
theorem dL_add_4 : decode (dc DL_add) 4 = .ok (.invokevirtual 104, 3) := by decide +kernel
theorem dL_add_7 : decode (dc DL_add) 7 = .ok (.ireturn, 1) := by decide +kernel
theorem dL_add_8 : decode (dc DL_add) 8 = .ok (.astore 4, 2) := by decide +kernel
theorem dL_add_10 : decode (dc DL_add) 10 = .ok (.ldc 45, 2) := by decide +kernel
theorem dL_add_12 : decode (dc DL_add) 12 = .ok (.ireturn, 1) := by decide +kernel
theorem dL_add_13 : decode (dc DL_add) 13 = .ok (.astore 4, 2) := by decide +kernel
theorem dL_add_15 : decode (dc DL_add) 15 = .ok (.ldc 35, 2) := by decide +kernel
theorem dL_add_17 : decode (dc DL_add) 17 = .ok (.ireturn, 1) := by decide +kernel
def DL_drop : xD := (yL_drop, cL_drop, 4, some .int, [(0, 6, 7, 43), (0, 6, 11, 33)], 12)
theorem lk_L_107 : xLnk RL 107 yX9_drop ∨ xNst RL 107 yX9_drop := Or.inl (gdm 1349 (by decide +kernel) rfl)
theorem calw_L_drop : xCalW DL_drop 3 := ⟨by simp [DL_drop, dh], gdm 1348 (by decide +kernel) rfl, gdm 106 (by decide +kernel) rfl, (by decide +kernel), Nat.le_of_ble_eq_true rfl⟩
theorem staw_L_drop : xSta DL_drop := gdm 1347 (by decide +kernel) rfl
theorem lkw_L_drop : xLnk RL 303 yL_drop := gdm 1346 (by decide +kernel) rfl
theorem cal_X9_drop : xCal DX9_drop 2 := ⟨rfl, gdm 1352 (by decide +kernel) rfl, gdm 107 (by decide +kernel) rfl, (by decide +kernel), Nat.le_of_ble_eq_true rfl⟩
theorem vir_X9_drop : xVir DX9_drop := ⟨gdm 1350 (by decide +kernel) rfl, gdm 1351 (by decide +kernel) rfl⟩
theorem dL_drop_0 : decode (dc DL_drop) 0 = .ok (.aload_n 0, 1) := by decide +kernel
theorem dL_drop_1 : decode (dc DL_drop) 1 = .ok (.iload_n 1, 1) := by decide +kernel
theorem dL_drop_2 : decode (dc DL_drop) 2 = .ok (.iload_n 2, 1) := by decide +kernel
theorem dL_drop_3 : decode (dc DL_drop) 3 = .ok (.invokevirtual 107, 3) := by decide +kernel
theorem dL_drop_6 : decode (dc DL_drop) 6 = .ok (.ireturn, 1) := by decide +kernel
theorem dL_drop_7 : decode (dc DL_drop) 7 = .ok (.astore_n 3, 1) := by decide +kernel
theorem dL_drop_8 : decode (dc DL_drop) 8 = .ok (.ldc 45, 2) := by decide +kernel
theorem dL_drop_10 : decode (dc DL_drop) 10 = .ok (.ireturn, 1) := by decide +kernel
theorem dL_drop_11 : decode (dc DL_drop) 11 = .ok (.astore_n 3, 1) := by decide +kernel
theorem dL_drop_12 : decode (dc DL_drop) 12 = .ok (.ldc 35, 2) := by decide +kernel
theorem dL_drop_14 : decode (dc DL_drop) 14 = .ok (.ireturn, 1) := by decide +kernel
def DL_is : xD := (yL_is, cL_is, 5, some .int, [(0, 7, 8, 43), (0, 7, 13, 33)], 12)
theorem lk_L_110 : xLnk RL 110 yX9_is ∨ xNst RL 110 yX9_is := Or.inl (gdm 1360 (by decide +kernel) rfl)
theorem calw_L_is : xCalW DL_is 4 := ⟨by simp [DL_is, dh], gdm 1359 (by decide +kernel) rfl, gdm 106 (by decide +kernel) rfl, (by decide +kernel), Nat.le_of_ble_eq_true rfl⟩
theorem staw_L_is : xSta DL_is := gdm 1358 (by decide +kernel) rfl
theorem lkw_L_is : xLnk RL 305 yL_is := gdm 1357 (by decide +kernel) rfl
theorem cal_X9_is : xCal DX9_is 3 := ⟨rfl, gdm 1363 (by decide +kernel) rfl, gdm 107 (by decide +kernel) rfl, (by decide +kernel), Nat.le_of_ble_eq_true rfl⟩
theorem vir_X9_is : xVir DX9_is := ⟨gdm 1361 (by decide +kernel) rfl, gdm 1362 (by decide +kernel) rfl⟩
theorem dL_is_0 : decode (dc DL_is) 0 = .ok (.aload_n 0, 1) := by decide +kernel
theorem dL_is_1 : decode (dc DL_is) 1 = .ok (.iload_n 1, 1) := by decide +kernel
theorem dL_is_2 : decode (dc DL_is) 2 = .ok (.iload_n 2, 1) := by decide +kernel
theorem dL_is_3 : decode (dc DL_is) 3 = .ok (.iload_n 3, 1) := by decide +kernel
theorem dL_is_4 : decode (dc DL_is) 4 = .ok (.invokevirtual 110, 3) := by decide +kernel
theorem dL_is_7 : decode (dc DL_is) 7 = .ok (.ireturn, 1) := by decide +kernel
theorem dL_is_8 : decode (dc DL_is) 8 = .ok (.astore 4, 2) := by decide +kernel
theorem dL_is_10 : decode (dc DL_is) 10 = .ok (.ldc 45, 2) := by decide +kernel
theorem dL_is_12 : decode (dc DL_is) 12 = .ok (.ireturn, 1) := by decide +kernel
theorem dL_is_13 : decode (dc DL_is) 13 = .ok (.astore 4, 2) := by decide +kernel
theorem dL_is_15 : decode (dc DL_is) 15 = .ok (.ldc 35, 2) := by decide +kernel
theorem dL_is_17 : decode (dc DL_is) 17 = .ok (.ireturn, 1) := by decide +kernel
def DL_pair : xD := (yL_pair, cL_pair, 4, some .int, [(0, 6, 7, 43), (0, 6, 11, 33)], 12)
theorem lk_L_113 : xLnk RL 113 yX9_pair ∨ xNst RL 113 yX9_pair := Or.inl (gdm 1368 (by decide +kernel) rfl)
theorem calw_L_pair : xCalW DL_pair 3 := ⟨by simp [DL_pair, dh], gdm 1367 (by decide +kernel) rfl, gdm 106 (by decide +kernel) rfl, (by decide +kernel), Nat.le_of_ble_eq_true rfl⟩
theorem staw_L_pair : xSta DL_pair := gdm 1366 (by decide +kernel) rfl
theorem lkw_L_pair : xLnk RL 307 yL_pair := gdm 1365 (by decide +kernel) rfl
theorem cal_X9_pair : xCal DX9_pair 2 := ⟨rfl, gdm 1371 (by decide +kernel) rfl, gdm 107 (by decide +kernel) rfl, (by decide +kernel), Nat.le_of_ble_eq_true rfl⟩
theorem vir_X9_pair : xVir DX9_pair := ⟨gdm 1369 (by decide +kernel) rfl, gdm 1370 (by decide +kernel) rfl⟩
theorem dL_pair_0 : decode (dc DL_pair) 0 = .ok (.aload_n 0, 1) := by decide +kernel
theorem dL_pair_1 : decode (dc DL_pair) 1 = .ok (.iload_n 1, 1) := by decide +kernel
theorem dL_pair_2 : decode (dc DL_pair) 2 = .ok (.iload_n 2, 1) := by decide +kernel
theorem dL_pair_3 : decode (dc DL_pair) 3 = .ok (.invokevirtual 113, 3) := by decide +kernel
theorem dL_pair_6 : decode (dc DL_pair) 6 = .ok (.ireturn, 1) := by decide +kernel
theorem dL_pair_7 : decode (dc DL_pair) 7 = .ok (.astore_n 3, 1) := by decide +kernel
theorem dL_pair_8 : decode (dc DL_pair) 8 = .ok (.ldc 45, 2) := by decide +kernel
theorem dL_pair_10 : decode (dc DL_pair) 10 = .ok (.ireturn, 1) := by decide +kernel
theorem dL_pair_11 : decode (dc DL_pair) 11 = .ok (.astore_n 3, 1) := by decide +kernel
theorem dL_pair_12 : decode (dc DL_pair) 12 = .ok (.ldc 35, 2) := by decide +kernel
theorem dL_pair_14 : decode (dc DL_pair) 14 = .ok (.ireturn, 1) := by decide +kernel
def DL_part : xD := (yL_part, cL_part, 3, some .int, [(0, 5, 6, 43), (0, 5, 10, 33)], 12)
theorem lk_L_116 : xLnk RL 116 yX9_part ∨ xNst RL 116 yX9_part := Or.inl (gdm 1376 (by decide +kernel) rfl)
theorem calw_L_part : xCalW DL_part 2 := ⟨by simp [DL_part, dh], gdm 1375 (by decide +kernel) rfl, gdm 106 (by decide +kernel) rfl, (by decide +kernel), Nat.le_of_ble_eq_true rfl⟩
theorem staw_L_part : xSta DL_part := gdm 1374 (by decide +kernel) rfl
theorem lkw_L_part : xLnk RL 309 yL_part := gdm 1373 (by decide +kernel) rfl
theorem cal_X9_part : xCal DX9_part 1 := ⟨rfl, gdm 1379 (by decide +kernel) rfl, gdm 107 (by decide +kernel) rfl, (by decide +kernel), Nat.le_of_ble_eq_true rfl⟩
theorem vir_X9_part : xVir DX9_part := ⟨gdm 1377 (by decide +kernel) rfl, gdm 1378 (by decide +kernel) rfl⟩
theorem dL_part_0 : decode (dc DL_part) 0 = .ok (.aload_n 0, 1) := by decide +kernel
theorem dL_part_1 : decode (dc DL_part) 1 = .ok (.iload_n 1, 1) := by decide +kernel
theorem dL_part_2 : decode (dc DL_part) 2 = .ok (.invokevirtual 116, 3) := by decide +kernel
theorem dL_part_5 : decode (dc DL_part) 5 = .ok (.ireturn, 1) := by decide +kernel
theorem dL_part_6 : decode (dc DL_part) 6 = .ok (.astore_n 2, 1) := by decide +kernel
theorem dL_part_7 : decode (dc DL_part) 7 = .ok (.ldc 45, 2) := by decide +kernel
theorem dL_part_9 : decode (dc DL_part) 9 = .ok (.ireturn, 1) := by decide +kernel
theorem dL_part_10 : decode (dc DL_part) 10 = .ok (.astore_n 2, 1) := by decide +kernel
theorem dL_part_11 : decode (dc DL_part) 11 = .ok (.ldc 35, 2) := by decide +kernel
theorem dL_part_13 : decode (dc DL_part) 13 = .ok (.ireturn, 1) := by decide +kernel
def DL_weight : xD := (yL_weight, cL_weight, 4, some .int, [(0, 6, 7, 43), (0, 6, 11, 33)], 12)
theorem lk_L_119 : xLnk RL 119 yX9_weight ∨ xNst RL 119 yX9_weight := Or.inl (gdm 1384 (by decide +kernel) rfl)
theorem calw_L_weight : xCalW DL_weight 3 := ⟨by simp [DL_weight, dh], gdm 1383 (by decide +kernel) rfl, gdm 106 (by decide +kernel) rfl, (by decide +kernel), Nat.le_of_ble_eq_true rfl⟩
theorem staw_L_weight : xSta DL_weight := gdm 1382 (by decide +kernel) rfl
theorem lkw_L_weight : xLnk RL 293 yL_weight := gdm 1381 (by decide +kernel) rfl
theorem cal_X9_weight : xCal DX9_weight 2 := ⟨rfl, gdm 1387 (by decide +kernel) rfl, gdm 107 (by decide +kernel) rfl, (by decide +kernel), Nat.le_of_ble_eq_true rfl⟩
theorem vir_X9_weight : xVir DX9_weight := ⟨gdm 1385 (by decide +kernel) rfl, gdm 1386 (by decide +kernel) rfl⟩
theorem dL_weight_0 : decode (dc DL_weight) 0 = .ok (.aload_n 0, 1) := by decide +kernel
theorem dL_weight_1 : decode (dc DL_weight) 1 = .ok (.iload_n 1, 1) := by decide +kernel
theorem dL_weight_2 : decode (dc DL_weight) 2 = .ok (.iload_n 2, 1) := by decide +kernel
theorem dL_weight_3 : decode (dc DL_weight) 3 = .ok (.invokevirtual 119, 3) := by decide +kernel
theorem dL_weight_6 : decode (dc DL_weight) 6 = .ok (.ireturn, 1) := by decide +kernel
theorem dL_weight_7 : decode (dc DL_weight) 7 = .ok (.astore_n 3, 1) := by decide +kernel
theorem dL_weight_8 : decode (dc DL_weight) 8 = .ok (.ldc 45, 2) := by decide +kernel
theorem dL_weight_10 : decode (dc DL_weight) 10 = .ok (.ireturn, 1) := by decide +kernel
theorem dL_weight_11 : decode (dc DL_weight) 11 = .ok (.astore_n 3, 1) := by decide +kernel
theorem dL_weight_12 : decode (dc DL_weight) 12 = .ok (.ldc 35, 2) := by decide +kernel
theorem dL_weight_14 : decode (dc DL_weight) 14 = .ok (.ireturn, 1) := by decide +kernel
def DL_keep : xD := (yL_keep, cL_keep, 3, some .int, [(0, 5, 6, 33)], 12)
theorem lk_L_122 : xLnk RL 122 yX9_keep ∨ xNst RL 122 yX9_keep := Or.inl (gdm 1392 (by decide +kernel) rfl)
theorem calw_L_keep : xCalW DL_keep 2 := ⟨by simp [DL_keep, dh], gdm 1391 (by decide +kernel) rfl, gdm 106 (by decide +kernel) rfl, (by decide +kernel), Nat.le_of_ble_eq_true rfl⟩
theorem staw_L_keep : xSta DL_keep := gdm 1390 (by decide +kernel) rfl
theorem lkw_L_keep : xLnk RL 311 yL_keep := gdm 1389 (by decide +kernel) rfl
theorem cal_X9_keep : xCal DX9_keep 1 := ⟨rfl, gdm 1395 (by decide +kernel) rfl, gdm 107 (by decide +kernel) rfl, (by decide +kernel), Nat.le_of_ble_eq_true rfl⟩
theorem vir_X9_keep : xVir DX9_keep := ⟨gdm 1393 (by decide +kernel) rfl, gdm 1394 (by decide +kernel) rfl⟩
theorem dL_keep_0 : decode (dc DL_keep) 0 = .ok (.aload_n 0, 1) := by decide +kernel
theorem dL_keep_1 : decode (dc DL_keep) 1 = .ok (.iload_n 1, 1) := by decide +kernel
theorem dL_keep_2 : decode (dc DL_keep) 2 = .ok (.invokevirtual 122, 3) := by decide +kernel
theorem dL_keep_5 : decode (dc DL_keep) 5 = .ok (.ireturn, 1) := by decide +kernel
theorem dL_keep_6 : decode (dc DL_keep) 6 = .ok (.astore_n 2, 1) := by decide +kernel
theorem dL_keep_7 : decode (dc DL_keep) 7 = .ok (.ldc 35, 2) := by decide +kernel
theorem dL_keep_9 : decode (dc DL_keep) 9 = .ok (.ireturn, 1) := by decide +kernel
def DL_settle : xD := (yL_settle, cL_settle, 3, some .int, [(0, 5, 6, 33)], 12)
theorem lk_L_125 : xLnk RL 125 yX9_settle ∨ xNst RL 125 yX9_settle := Or.inl (gdm 1399 (by decide +kernel) rfl)
theorem calw_L_settle : xCalW DL_settle 2 := ⟨by simp [DL_settle, dh], gdm 1398 (by decide +kernel) rfl, gdm 106 (by decide +kernel) rfl, (by decide +kernel), Nat.le_of_ble_eq_true rfl⟩
theorem staw_L_settle : xSta DL_settle := gdm 1397 (by decide +kernel) rfl
theorem lkw_L_settle : xLnk RL 313 yL_settle := gdm 1396 (by decide +kernel) rfl
theorem cal_X9_settle : xCal DX9_settle 1 := ⟨rfl, gdm 1402 (by decide +kernel) rfl, gdm 107 (by decide +kernel) rfl, (by decide +kernel), Nat.le_of_ble_eq_true rfl⟩
theorem vir_X9_settle : xVir DX9_settle := ⟨gdm 1400 (by decide +kernel) rfl, gdm 1401 (by decide +kernel) rfl⟩
theorem dL_settle_0 : decode (dc DL_settle) 0 = .ok (.aload_n 0, 1) := by decide +kernel
theorem dL_settle_1 : decode (dc DL_settle) 1 = .ok (.iload_n 1, 1) := by decide +kernel
theorem dL_settle_2 : decode (dc DL_settle) 2 = .ok (.invokevirtual 125, 3) := by decide +kernel
theorem dL_settle_5 : decode (dc DL_settle) 5 = .ok (.ireturn, 1) := by decide +kernel
theorem dL_settle_6 : decode (dc DL_settle) 6 = .ok (.astore_n 2, 1) := by decide +kernel
theorem dL_settle_7 : decode (dc DL_settle) 7 = .ok (.ldc 35, 2) := by decide +kernel
theorem dL_settle_9 : decode (dc DL_settle) 9 = .ok (.ireturn, 1) := by decide +kernel
