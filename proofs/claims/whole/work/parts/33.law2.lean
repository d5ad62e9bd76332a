/-! words of the law's wrappers (by program) -/
theorem wx_13 : Cond.classLink RL 13 IAE ∈ lw_gd := gdm 822 (by decide +kernel) rfl
theorem wx_22 : Cond.classLink RL 22 NSE ∈ lw_gd := gdm 1096 (by decide +kernel) rfl
theorem wt_IAE : Cond.castable IAE IAE ∈ lw_nw := nwm 833 (by decide +kernel) rfl
theorem wt_NSE : Cond.castable NSE NSE ∈ lw_nw := nwm 1108 (by decide +kernel) rfl
def DL_text : xD := (yL_text, cL_text, 4, some .int, [(0, 9, 12, 13)], 12)
theorem lk_L_7 : xLnk RL 7 yX9_text ∨ xNst RL 7 yX9_text := Or.inl (gdm 823 (by decide +kernel) rfl)
theorem calw_L_text : xCalW DL_text 3 := ⟨by simp [DL_text, dh], gdm 821 (by decide +kernel) rfl, gdm 167 (by decide +kernel) rfl, (by decide +kernel), Nat.le_of_ble_eq_true rfl⟩
theorem staw_L_text : xSta DL_text := gdm 820 (by decide +kernel) rfl
theorem lkw_L_text : xLnk RL 115 yL_text := gdm 819 (by decide +kernel) rfl
theorem cal_X9_text : xCal DX9_text 1 := ⟨rfl, gdm 826 (by decide +kernel) rfl, gdm 168 (by decide +kernel) rfl, (by decide +kernel), Nat.le_of_ble_eq_true rfl⟩
theorem vir_X9_text : xVir DX9_text := ⟨gdm 824 (by decide +kernel) rfl, gdm 825 (by decide +kernel) rfl⟩
theorem dL_text_0 : decode (dc DL_text) 0 = .ok (.aload_n 2, 1) := by decide +kernel
theorem dL_text_1 : decode (dc DL_text) 1 = .ok (.iconst 0, 1) := by decide +kernel
theorem dL_text_2 : decode (dc DL_text) 2 = .ok (.aload_n 0, 1) := by decide +kernel
theorem dL_text_3 : decode (dc DL_text) 3 = .ok (.iload_n 1, 1) := by decide +kernel
theorem dL_text_4 : decode (dc DL_text) 4 = .ok (.invokevirtual 7, 3) := by decide +kernel
theorem dL_text_7 : decode (dc DL_text) 7 = .ok (.i2l, 1) := by decide +kernel
theorem dL_text_8 : decode (dc DL_text) 8 = .ok (.lastore, 1) := by decide +kernel
theorem dL_text_9 : decode (dc DL_text) 9 = .ok (.goto 6, 3) := by decide +kernel
theorem dL_text_12 : decode (dc DL_text) 12 = .ok (.astore_n 3, 1) := by decide +kernel
theorem dL_text_13 : decode (dc DL_text) 13 = .ok (.iconst 1, 1) := by decide +kernel
theorem dL_text_14 : decode (dc DL_text) 14 = .ok (.ireturn, 1) := by decide +kernel
theorem dL_text_15 : decode (dc DL_text) 15 = .ok (.iconst 0, 1) := by decide +kernel
theorem dL_text_16 : decode (dc DL_text) 16 = .ok (.ireturn, 1) := by decide +kernel
def DL_told : xD := (yL_told, cL_told, 4, some .int, [(0, 9, 12, 13)], 12)
theorem lk_L_15 : xLnk RL 15 yX9_told ∨ xNst RL 15 yX9_told := Or.inl (gdm 1075 (by decide +kernel) rfl)
theorem calw_L_told : xCalW DL_told 3 := ⟨by simp [DL_told, dh], gdm 1074 (by decide +kernel) rfl, gdm 167 (by decide +kernel) rfl, (by decide +kernel), Nat.le_of_ble_eq_true rfl⟩
theorem staw_L_told : xSta DL_told := gdm 1073 (by decide +kernel) rfl
theorem lkw_L_told : xLnk RL 129 yL_told := gdm 1072 (by decide +kernel) rfl
theorem cal_X9_told : xCal DX9_told 1 := ⟨rfl, gdm 1078 (by decide +kernel) rfl, gdm 168 (by decide +kernel) rfl, (by decide +kernel), Nat.le_of_ble_eq_true rfl⟩
theorem vir_X9_told : xVir DX9_told := ⟨gdm 1076 (by decide +kernel) rfl, gdm 1077 (by decide +kernel) rfl⟩
theorem dL_told_0 : decode (dc DL_told) 0 = .ok (.aload_n 2, 1) := by decide +kernel
theorem dL_told_1 : decode (dc DL_told) 1 = .ok (.iconst 0, 1) := by decide +kernel
theorem dL_told_2 : decode (dc DL_told) 2 = .ok (.aload_n 0, 1) := by decide +kernel
theorem dL_told_3 : decode (dc DL_told) 3 = .ok (.iload_n 1, 1) := by decide +kernel
theorem dL_told_4 : decode (dc DL_told) 4 = .ok (.invokevirtual 15, 3) := by decide +kernel
theorem dL_told_7 : decode (dc DL_told) 7 = .ok (.i2l, 1) := by decide +kernel
theorem dL_told_8 : decode (dc DL_told) 8 = .ok (.lastore, 1) := by decide +kernel
theorem dL_told_9 : decode (dc DL_told) 9 = .ok (.goto 6, 3) := by decide +kernel
theorem dL_told_12 : decode (dc DL_told) 12 = .ok (.astore_n 3, 1) := by decide +kernel
theorem dL_told_13 : decode (dc DL_told) 13 = .ok (.iconst 1, 1) := by decide +kernel
theorem dL_told_14 : decode (dc DL_told) 14 = .ok (.ireturn, 1) := by decide +kernel
theorem dL_told_15 : decode (dc DL_told) 15 = .ok (.iconst 0, 1) := by decide +kernel
theorem dL_told_16 : decode (dc DL_told) 16 = .ok (.ireturn, 1) := by decide +kernel
def DL_partner : xD := (yL_partner, cL_partner, 5, some .int, [(0, 10, 13, 22)], 12)
theorem lk_L_18 : xLnk RL 18 yX9_partner ∨ xNst RL 18 yX9_partner := Or.inl (gdm 1097 (by decide +kernel) rfl)
theorem calw_L_partner : xCalW DL_partner 4 := ⟨by simp [DL_partner, dh], gdm 1095 (by decide +kernel) rfl, gdm 167 (by decide +kernel) rfl, (by decide +kernel), Nat.le_of_ble_eq_true rfl⟩
theorem staw_L_partner : xSta DL_partner := gdm 1094 (by decide +kernel) rfl
theorem lkw_L_partner : xLnk RL 132 yL_partner := gdm 1093 (by decide +kernel) rfl
theorem cal_X9_partner : xCal DX9_partner 2 := ⟨rfl, gdm 1100 (by decide +kernel) rfl, gdm 168 (by decide +kernel) rfl, (by decide +kernel), Nat.le_of_ble_eq_true rfl⟩
theorem vir_X9_partner : xVir DX9_partner := ⟨gdm 1098 (by decide +kernel) rfl, gdm 1099 (by decide +kernel) rfl⟩
theorem dL_partner_0 : decode (dc DL_partner) 0 = .ok (.aload_n 3, 1) := by decide +kernel
theorem dL_partner_1 : decode (dc DL_partner) 1 = .ok (.iconst 0, 1) := by decide +kernel
theorem dL_partner_2 : decode (dc DL_partner) 2 = .ok (.aload_n 0, 1) := by decide +kernel
theorem dL_partner_3 : decode (dc DL_partner) 3 = .ok (.iload_n 1, 1) := by decide +kernel
theorem dL_partner_4 : decode (dc DL_partner) 4 = .ok (.iload_n 2, 1) := by decide +kernel
theorem dL_partner_5 : decode (dc DL_partner) 5 = .ok (.invokevirtual 18, 3) := by decide +kernel
theorem dL_partner_8 : decode (dc DL_partner) 8 = .ok (.i2l, 1) := by decide +kernel
theorem dL_partner_9 : decode (dc DL_partner) 9 = .ok (.lastore, 1) := by decide +kernel
theorem dL_partner_10 : decode (dc DL_partner) 10 = .ok (.goto 7, 3) := by decide +kernel
theorem dL_partner_13 : decode (dc DL_partner) 13 = .ok (.astore 4, 2) := by decide +kernel
theorem dL_partner_15 : decode (dc DL_partner) 15 = .ok (.iconst 1, 1) := by decide +kernel
theorem dL_partner_16 : decode (dc DL_partner) 16 = .ok (.ireturn, 1) := by decide +kernel
theorem dL_partner_17 : decode (dc DL_partner) 17 = .ok (.iconst 0, 1) := by decide +kernel
theorem dL_partner_18 : decode (dc DL_partner) 18 = .ok (.ireturn, 1) := by decide +kernel
def DL_cost : xD := (yL_cost, cL_cost, 5, some .int, [(0, 10, 13, 22)], 12)
theorem lk_L_24 : xLnk RL 24 yX9_cost ∨ xNst RL 24 yX9_cost := Or.inl (gdm 1126 (by decide +kernel) rfl)
theorem calw_L_cost : xCalW DL_cost 4 := ⟨by simp [DL_cost, dh], gdm 1125 (by decide +kernel) rfl, gdm 167 (by decide +kernel) rfl, (by decide +kernel), Nat.le_of_ble_eq_true rfl⟩
theorem staw_L_cost : xSta DL_cost := gdm 1124 (by decide +kernel) rfl
theorem lkw_L_cost : xLnk RL 136 yL_cost := gdm 1123 (by decide +kernel) rfl
theorem cal_X9_cost : xCal DX9_cost 2 := ⟨rfl, gdm 1129 (by decide +kernel) rfl, gdm 168 (by decide +kernel) rfl, (by decide +kernel), Nat.le_of_ble_eq_true rfl⟩
theorem vir_X9_cost : xVir DX9_cost := ⟨gdm 1127 (by decide +kernel) rfl, gdm 1128 (by decide +kernel) rfl⟩
theorem dL_cost_0 : decode (dc DL_cost) 0 = .ok (.aload_n 3, 1) := by decide +kernel
theorem dL_cost_1 : decode (dc DL_cost) 1 = .ok (.iconst 0, 1) := by decide +kernel
theorem dL_cost_2 : decode (dc DL_cost) 2 = .ok (.aload_n 0, 1) := by decide +kernel
theorem dL_cost_3 : decode (dc DL_cost) 3 = .ok (.iload_n 1, 1) := by decide +kernel
theorem dL_cost_4 : decode (dc DL_cost) 4 = .ok (.iload_n 2, 1) := by decide +kernel
theorem dL_cost_5 : decode (dc DL_cost) 5 = .ok (.invokevirtual 24, 3) := by decide +kernel
theorem dL_cost_8 : decode (dc DL_cost) 8 = .ok (.i2l, 1) := by decide +kernel
theorem dL_cost_9 : decode (dc DL_cost) 9 = .ok (.lastore, 1) := by decide +kernel
theorem dL_cost_10 : decode (dc DL_cost) 10 = .ok (.goto 7, 3) := by decide +kernel
theorem dL_cost_13 : decode (dc DL_cost) 13 = .ok (.astore 4, 2) := by decide +kernel
theorem dL_cost_15 : decode (dc DL_cost) 15 = .ok (.iconst 1, 1) := by decide +kernel
theorem dL_cost_16 : decode (dc DL_cost) 16 = .ok (.ireturn, 1) := by decide +kernel
theorem dL_cost_17 : decode (dc DL_cost) 17 = .ok (.iconst 0, 1) := by decide +kernel
theorem dL_cost_18 : decode (dc DL_cost) 18 = .ok (.ireturn, 1) := by decide +kernel
def DL_fits : xD := (yL_fits, cL_fits, 5, some .int, [(0, 10, 13, 22)], 12)
theorem lk_L_27 : xLnk RL 27 yX9_fits ∨ xNst RL 27 yX9_fits := Or.inl (gdm 1138 (by decide +kernel) rfl)
theorem calw_L_fits : xCalW DL_fits 4 := ⟨by simp [DL_fits, dh], gdm 1137 (by decide +kernel) rfl, gdm 167 (by decide +kernel) rfl, (by decide +kernel), Nat.le_of_ble_eq_true rfl⟩
theorem staw_L_fits : xSta DL_fits := gdm 1136 (by decide +kernel) rfl
theorem lkw_L_fits : xLnk RL 139 yL_fits := gdm 1135 (by decide +kernel) rfl
theorem cal_X9_fits : xCal DX9_fits 2 := ⟨rfl, gdm 1141 (by decide +kernel) rfl, gdm 168 (by decide +kernel) rfl, (by decide +kernel), Nat.le_of_ble_eq_true rfl⟩
theorem vir_X9_fits : xVir DX9_fits := ⟨gdm 1139 (by decide +kernel) rfl, gdm 1140 (by decide +kernel) rfl⟩
theorem dL_fits_0 : decode (dc DL_fits) 0 = .ok (.aload_n 3, 1) := by decide +kernel
theorem dL_fits_1 : decode (dc DL_fits) 1 = .ok (.iconst 0, 1) := by decide +kernel
theorem dL_fits_2 : decode (dc DL_fits) 2 = .ok (.aload_n 0, 1) := by decide +kernel
theorem dL_fits_3 : decode (dc DL_fits) 3 = .ok (.iload_n 1, 1) := by decide +kernel
theorem dL_fits_4 : decode (dc DL_fits) 4 = .ok (.iload_n 2, 1) := by decide +kernel
theorem dL_fits_5 : decode (dc DL_fits) 5 = .ok (.invokevirtual 27, 3) := by decide +kernel
theorem dL_fits_8 : decode (dc DL_fits) 8 = .ok (.i2l, 1) := by decide +kernel
theorem dL_fits_9 : decode (dc DL_fits) 9 = .ok (.lastore, 1) := by decide +kernel
theorem dL_fits_10 : decode (dc DL_fits) 10 = .ok (.goto 7, 3) := by decide +kernel
theorem dL_fits_13 : decode (dc DL_fits) 13 = .ok (.astore 4, 2) := by decide +kernel
theorem dL_fits_15 : decode (dc DL_fits) 15 = .ok (.iconst 1, 1) := by decide +kernel
theorem dL_fits_16 : decode (dc DL_fits) 16 = .ok (.ireturn, 1) := by decide +kernel
theorem dL_fits_17 : decode (dc DL_fits) 17 = .ok (.iconst 0, 1) := by decide +kernel
theorem dL_fits_18 : decode (dc DL_fits) 18 = .ok (.ireturn, 1) := by decide +kernel
def DL_wayAt : xD := (yL_wayAt, cL_wayAt, 4, some .int, [(0, 9, 12, 22)], 12)
theorem lk_L_30 : xLnk RL 30 yX9_wayAt ∨ xNst RL 30 yX9_wayAt := Or.inl (gdm 1150 (by decide +kernel) rfl)
theorem calw_L_wayAt : xCalW DL_wayAt 3 := ⟨by simp [DL_wayAt, dh], gdm 1149 (by decide +kernel) rfl, gdm 167 (by decide +kernel) rfl, (by decide +kernel), Nat.le_of_ble_eq_true rfl⟩
theorem staw_L_wayAt : xSta DL_wayAt := gdm 1148 (by decide +kernel) rfl
theorem lkw_L_wayAt : xLnk RL 146 yL_wayAt := gdm 1147 (by decide +kernel) rfl
theorem cal_X9_wayAt : xCal DX9_wayAt 1 := ⟨rfl, gdm 1153 (by decide +kernel) rfl, gdm 168 (by decide +kernel) rfl, (by decide +kernel), Nat.le_of_ble_eq_true rfl⟩
theorem vir_X9_wayAt : xVir DX9_wayAt := ⟨gdm 1151 (by decide +kernel) rfl, gdm 1152 (by decide +kernel) rfl⟩
theorem dL_wayAt_0 : decode (dc DL_wayAt) 0 = .ok (.aload_n 2, 1) := by decide +kernel
theorem dL_wayAt_1 : decode (dc DL_wayAt) 1 = .ok (.iconst 0, 1) := by decide +kernel
theorem dL_wayAt_2 : decode (dc DL_wayAt) 2 = .ok (.aload_n 0, 1) := by decide +kernel
theorem dL_wayAt_3 : decode (dc DL_wayAt) 3 = .ok (.iload_n 1, 1) := by decide +kernel
theorem dL_wayAt_4 : decode (dc DL_wayAt) 4 = .ok (.invokevirtual 30, 3) := by decide +kernel
theorem dL_wayAt_7 : decode (dc DL_wayAt) 7 = .ok (.i2l, 1) := by decide +kernel
theorem dL_wayAt_8 : decode (dc DL_wayAt) 8 = .ok (.lastore, 1) := by decide +kernel
theorem dL_wayAt_9 : decode (dc DL_wayAt) 9 = .ok (.goto 6, 3) := by decide +kernel
theorem dL_wayAt_12 : decode (dc DL_wayAt) 12 = .ok (.astore_n 3, 1) := by decide +kernel
theorem dL_wayAt_13 : decode (dc DL_wayAt) 13 = .ok (.iconst 1, 1) := by decide +kernel
theorem dL_wayAt_14 : decode (dc DL_wayAt) 14 = .ok (.ireturn, 1) := by decide +kernel
theorem dL_wayAt_15 : decode (dc DL_wayAt) 15 = .ok (.iconst 0, 1) := by decide +kernel
theorem dL_wayAt_16 : decode (dc DL_wayAt) 16 = .ok (.ireturn, 1) := by decide +kernel
def DL_wayFrom : xD := (yL_wayFrom, cL_wayFrom, 5, some .int, [(0, 10, 13, 22), (0, 10, 17, 13)], 12)
theorem lk_L_33 : xLnk RL 33 yX9_wayFrom ∨ xNst RL 33 yX9_wayFrom := Or.inl (gdm 1158 (by decide +kernel) rfl)
theorem calw_L_wayFrom : xCalW DL_wayFrom 4 := ⟨by simp [DL_wayFrom, dh], gdm 1157 (by decide +kernel) rfl, gdm 167 (by decide +kernel) rfl, (by decide +kernel), Nat.le_of_ble_eq_true rfl⟩
theorem staw_L_wayFrom : xSta DL_wayFrom := gdm 1156 (by decide +kernel) rfl
theorem lkw_L_wayFrom : xLnk RL 149 yL_wayFrom := gdm 1155 (by decide +kernel) rfl
theorem cal_X9_wayFrom : xCal DX9_wayFrom 2 := ⟨rfl, gdm 1161 (by decide +kernel) rfl, gdm 168 (by decide +kernel) rfl, (by decide +kernel), Nat.le_of_ble_eq_true rfl⟩
theorem vir_X9_wayFrom : xVir DX9_wayFrom := ⟨gdm 1159 (by decide +kernel) rfl, gdm 1160 (by decide +kernel) rfl⟩
theorem dL_wayFrom_0 : decode (dc DL_wayFrom) 0 = .ok (.aload_n 3, 1) := by decide +kernel
theorem dL_wayFrom_1 : decode (dc DL_wayFrom) 1 = .ok (.iconst 0, 1) := by decide +kernel
theorem dL_wayFrom_2 : decode (dc DL_wayFrom) 2 = .ok (.aload_n 0, 1) := by decide +kernel
theorem dL_wayFrom_3 : decode (dc DL_wayFrom) 3 = .ok (.iload_n 1, 1) := by decide +kernel
theorem dL_wayFrom_4 : decode (dc DL_wayFrom) 4 = .ok (.iload_n 2, 1) := by decide +kernel
theorem dL_wayFrom_5 : decode (dc DL_wayFrom) 5 = .ok (.invokevirtual 33, 3) := by decide +kernel
theorem dL_wayFrom_8 : decode (dc DL_wayFrom) 8 = .ok (.i2l, 1) := by decide +kernel
theorem dL_wayFrom_9 : decode (dc DL_wayFrom) 9 = .ok (.lastore, 1) := by decide +kernel
theorem dL_wayFrom_10 : decode (dc DL_wayFrom) 10 = .ok (.goto 11, 3) := by decide +kernel
theorem dL_wayFrom_13 : decode (dc DL_wayFrom) 13 = .ok (.astore 4, 2) := by decide +kernel
theorem dL_wayFrom_15 : decode (dc DL_wayFrom) 15 = .ok (.iconst 1, 1) := by decide +kernel
theorem dL_wayFrom_16 : decode (dc DL_wayFrom) 16 = .ok (.ireturn, 1) := by decide +kernel
theorem dL_wayFrom_17 : decode (dc DL_wayFrom) 17 = .ok (.astore 4, 2) := by decide +kernel
theorem dL_wayFrom_19 : decode (dc DL_wayFrom) 19 = .ok (.iconst 2, 1) := by decide +kernel
theorem dL_wayFrom_20 : decode (dc DL_wayFrom) 20 = .ok (.ireturn, 1) := by decide +kernel
theorem dL_wayFrom_21 : decode (dc DL_wayFrom) 21 = .ok (.iconst 0, 1) := by decide +kernel
theorem dL_wayFrom_22 : decode (dc DL_wayFrom) 22 = .ok (.ireturn, 1) := by decide +kernel
def DL_phases : xD := (yL_phases, cL_phases, 4, some .int, [(0, 9, 12, 13)], 12)
theorem lk_L_36 : xLnk RL 36 yX9_phases ∨ xNst RL 36 yX9_phases := Or.inl (gdm 1166 (by decide +kernel) rfl)
theorem calw_L_phases : xCalW DL_phases 3 := ⟨by simp [DL_phases, dh], gdm 1165 (by decide +kernel) rfl, gdm 167 (by decide +kernel) rfl, (by decide +kernel), Nat.le_of_ble_eq_true rfl⟩
theorem staw_L_phases : xSta DL_phases := gdm 1164 (by decide +kernel) rfl
theorem lkw_L_phases : xLnk RL 152 yL_phases := gdm 1163 (by decide +kernel) rfl
theorem cal_X9_phases : xCal DX9_phases 1 := ⟨rfl, gdm 1169 (by decide +kernel) rfl, gdm 168 (by decide +kernel) rfl, (by decide +kernel), Nat.le_of_ble_eq_true rfl⟩
theorem vir_X9_phases : xVir DX9_phases := ⟨gdm 1167 (by decide +kernel) rfl, gdm 1168 (by decide +kernel) rfl⟩
theorem dL_phases_0 : decode (dc DL_phases) 0 = .ok (.aload_n 2, 1) := by decide +kernel
theorem dL_phases_1 : decode (dc DL_phases) 1 = .ok (.iconst 0, 1) := by decide +kernel
theorem dL_phases_2 : decode (dc DL_phases) 2 = .ok (.aload_n 0, 1) := by decide +kernel
theorem dL_phases_3 : decode (dc DL_phases) 3 = .ok (.iload_n 1, 1) := by decide +kernel
theorem dL_phases_4 : decode (dc DL_phases) 4 = .ok (.invokevirtual 36, 3) := by decide +kernel
theorem dL_phases_7 : decode (dc DL_phases) 7 = .ok (.i2l, 1) := by decide +kernel
theorem dL_phases_8 : decode (dc DL_phases) 8 = .ok (.lastore, 1) := by decide +kernel
theorem dL_phases_9 : decode (dc DL_phases) 9 = .ok (.goto 6, 3) := by decide +kernel
theorem dL_phases_12 : decode (dc DL_phases) 12 = .ok (.astore_n 3, 1) := by decide +kernel
theorem dL_phases_13 : decode (dc DL_phases) 13 = .ok (.iconst 1, 1) := by decide +kernel
theorem dL_phases_14 : decode (dc DL_phases) 14 = .ok (.ireturn, 1) := by decide +kernel
theorem dL_phases_15 : decode (dc DL_phases) 15 = .ok (.iconst 0, 1) := by decide +kernel
theorem dL_phases_16 : decode (dc DL_phases) 16 = .ok (.ireturn, 1) := by decide +kernel
def DL_phased : xD := (yL_phased, cL_phased, 4, some .int, [(0, 9, 12, 22)], 12)
theorem lk_L_39 : xLnk RL 39 yX9_phased ∨ xNst RL 39 yX9_phased := Or.inl (gdm 1219 (by decide +kernel) rfl)
theorem calw_L_phased : xCalW DL_phased 3 := ⟨by simp [DL_phased, dh], gdm 1218 (by decide +kernel) rfl, gdm 167 (by decide +kernel) rfl, (by decide +kernel), Nat.le_of_ble_eq_true rfl⟩
theorem staw_L_phased : xSta DL_phased := gdm 1217 (by decide +kernel) rfl
theorem lkw_L_phased : xLnk RL 155 yL_phased := gdm 1216 (by decide +kernel) rfl
theorem cal_X9_phased : xCal DX9_phased 1 := ⟨rfl, gdm 1222 (by decide +kernel) rfl, gdm 168 (by decide +kernel) rfl, (by decide +kernel), Nat.le_of_ble_eq_true rfl⟩
theorem vir_X9_phased : xVir DX9_phased := ⟨gdm 1220 (by decide +kernel) rfl, gdm 1221 (by decide +kernel) rfl⟩
theorem dL_phased_0 : decode (dc DL_phased) 0 = .ok (.aload_n 2, 1) := by decide +kernel
theorem dL_phased_1 : decode (dc DL_phased) 1 = .ok (.iconst 0, 1) := by decide +kernel
theorem dL_phased_2 : decode (dc DL_phased) 2 = .ok (.aload_n 0, 1) := by decide +kernel
theorem dL_phased_3 : decode (dc DL_phased) 3 = .ok (.iload_n 1, 1) := by decide +kernel
theorem dL_phased_4 : decode (dc DL_phased) 4 = .ok (.invokevirtual 39, 3) := by decide +kernel
theorem dL_phased_7 : decode (dc DL_phased) 7 = .ok (.i2l, 1) := by decide +kernel
theorem dL_phased_8 : decode (dc DL_phased) 8 = .ok (.lastore, 1) := by decide +kernel
theorem dL_phased_9 : decode (dc DL_phased) 9 = .ok (.goto 6, 3) := by decide +kernel
theorem dL_phased_12 : decode (dc DL_phased) 12 = .ok (.astore_n 3, 1) := by decide +kernel
theorem dL_phased_13 : decode (dc DL_phased) 13 = .ok (.iconst 1, 1) := by decide +kernel
theorem dL_phased_14 : decode (dc DL_phased) 14 = .ok (.ireturn, 1) := by decide +kernel
theorem dL_phased_15 : decode (dc DL_phased) 15 = .ok (.iconst 0, 1) := by decide +kernel
theorem dL_phased_16 : decode (dc DL_phased) 16 = .ok (.ireturn, 1) := by decide +kernel
def DL_reached : xD := (yL_reached, cL_reached, 4, some .int, [(0, 9, 12, 22)], 12)
theorem lk_L_42 : xLnk RL 42 yX9_reached ∨ xNst RL 42 yX9_reached := Or.inl (gdm 1226 (by decide +kernel) rfl)
theorem calw_L_reached : xCalW DL_reached 3 := ⟨by simp [DL_reached, dh], gdm 1225 (by decide +kernel) rfl, gdm 167 (by decide +kernel) rfl, (by decide +kernel), Nat.le_of_ble_eq_true rfl⟩
theorem staw_L_reached : xSta DL_reached := gdm 1224 (by decide +kernel) rfl
theorem lkw_L_reached : xLnk RL 162 yL_reached := gdm 1223 (by decide +kernel) rfl
theorem cal_X9_reached : xCal DX9_reached 1 := ⟨rfl, gdm 1229 (by decide +kernel) rfl, gdm 168 (by decide +kernel) rfl, (by decide +kernel), Nat.le_of_ble_eq_true rfl⟩
theorem vir_X9_reached : xVir DX9_reached := ⟨gdm 1227 (by decide +kernel) rfl, gdm 1228 (by decide +kernel) rfl⟩
theorem dL_reached_0 : decode (dc DL_reached) 0 = .ok (.aload_n 2, 1) := by decide +kernel
theorem dL_reached_1 : decode (dc DL_reached) 1 = .ok (.iconst 0, 1) := by decide +kernel
theorem dL_reached_2 : decode (dc DL_reached) 2 = .ok (.aload_n 0, 1) := by decide +kernel
theorem dL_reached_3 : decode (dc DL_reached) 3 = .ok (.iload_n 1, 1) := by decide +kernel
theorem dL_reached_4 : decode (dc DL_reached) 4 = .ok (.invokevirtual 42, 3) := by decide +kernel
theorem dL_reached_7 : decode (dc DL_reached) 7 = .ok (.i2l, 1) := by decide +kernel
theorem dL_reached_8 : decode (dc DL_reached) 8 = .ok (.lastore, 1) := by decide +kernel
theorem dL_reached_9 : decode (dc DL_reached) 9 = .ok (.goto 6, 3) := by decide +kernel
theorem dL_reached_12 : decode (dc DL_reached) 12 = .ok (.astore_n 3, 1) := by decide +kernel
theorem dL_reached_13 : decode (dc DL_reached) 13 = .ok (.iconst 1, 1) := by decide +kernel
theorem dL_reached_14 : decode (dc DL_reached) 14 = .ok (.ireturn, 1) := by decide +kernel
theorem dL_reached_15 : decode (dc DL_reached) 15 = .ok (.iconst 0, 1) := by decide +kernel
theorem dL_reached_16 : decode (dc DL_reached) 16 = .ok (.ireturn, 1) := by decide +kernel
def DL_cover : xD := (yL_cover, cL_cover, 4, some .int, [(0, 9, 12, 22)], 12)
theorem lk_L_45 : xLnk RL 45 yX9_cover ∨ xNst RL 45 yX9_cover := Or.inl (gdm 1251 (by decide +kernel) rfl)
theorem calw_L_cover : xCalW DL_cover 3 := ⟨by simp [DL_cover, dh], gdm 1250 (by decide +kernel) rfl, gdm 167 (by decide +kernel) rfl, (by decide +kernel), Nat.le_of_ble_eq_true rfl⟩
theorem staw_L_cover : xSta DL_cover := gdm 1249 (by decide +kernel) rfl
theorem lkw_L_cover : xLnk RL 165 yL_cover := gdm 1248 (by decide +kernel) rfl
theorem cal_X9_cover : xCal DX9_cover 1 := ⟨rfl, gdm 1254 (by decide +kernel) rfl, gdm 168 (by decide +kernel) rfl, (by decide +kernel), Nat.le_of_ble_eq_true rfl⟩
theorem vir_X9_cover : xVir DX9_cover := ⟨gdm 1252 (by decide +kernel) rfl, gdm 1253 (by decide +kernel) rfl⟩
theorem dL_cover_0 : decode (dc DL_cover) 0 = .ok (.aload_n 2, 1) := by decide +kernel
theorem dL_cover_1 : decode (dc DL_cover) 1 = .ok (.iconst 0, 1) := by decide +kernel
theorem dL_cover_2 : decode (dc DL_cover) 2 = .ok (.aload_n 0, 1) := by decide +kernel
theorem dL_cover_3 : decode (dc DL_cover) 3 = .ok (.iload_n 1, 1) := by decide +kernel
theorem dL_cover_4 : decode (dc DL_cover) 4 = .ok (.invokevirtual 45, 3) := by decide +kernel
theorem dL_cover_7 : decode (dc DL_cover) 7 = .ok (.i2l, 1) := by decide +kernel
theorem dL_cover_8 : decode (dc DL_cover) 8 = .ok (.lastore, 1) := by decide +kernel
theorem dL_cover_9 : decode (dc DL_cover) 9 = .ok (.goto 6, 3) := by decide +kernel
theorem dL_cover_12 : decode (dc DL_cover) 12 = .ok (.astore_n 3, 1) := by decide +kernel
theorem dL_cover_13 : decode (dc DL_cover) 13 = .ok (.iconst 1, 1) := by decide +kernel
theorem dL_cover_14 : decode (dc DL_cover) 14 = .ok (.ireturn, 1) := by decide +kernel
theorem dL_cover_15 : decode (dc DL_cover) 15 = .ok (.iconst 0, 1) := by decide +kernel
theorem dL_cover_16 : decode (dc DL_cover) 16 = .ok (.ireturn, 1) := by decide +kernel
def DL_of : xD := (yL_of, cL_of, 6, some .int, [(0, 12, 15, 22), (0, 12, 19, 13)], 12)
theorem lk_L_48 : xLnk RL 48 yX9_of ∨ xNst RL 48 yX9_of := Or.inl (gdm 1258 (by decide +kernel) rfl)
theorem calw_L_of : xCalW DL_of 5 := ⟨by simp [DL_of, dh], gdm 1257 (by decide +kernel) rfl, gdm 167 (by decide +kernel) rfl, (by decide +kernel), Nat.le_of_ble_eq_true rfl⟩
theorem staw_L_of : xSta DL_of := gdm 1256 (by decide +kernel) rfl
theorem lkw_L_of : xLnk RL 168 yL_of := gdm 1255 (by decide +kernel) rfl
theorem cal_X9_of : xCal DX9_of 3 := ⟨rfl, gdm 1261 (by decide +kernel) rfl, gdm 168 (by decide +kernel) rfl, (by decide +kernel), Nat.le_of_ble_eq_true rfl⟩
theorem vir_X9_of : xVir DX9_of := ⟨gdm 1259 (by decide +kernel) rfl, gdm 1260 (by decide +kernel) rfl⟩
theorem dL_of_0 : decode (dc DL_of) 0 = .ok (.aload 4, 2) := by decide +kernel
theorem dL_of_2 : decode (dc DL_of) 2 = .ok (.iconst 0, 1) := by decide +kernel
theorem dL_of_3 : decode (dc DL_of) 3 = .ok (.aload_n 0, 1) := by decide +kernel
theorem dL_of_4 : decode (dc DL_of) 4 = .ok (.iload_n 1, 1) := by decide +kernel
theorem dL_of_5 : decode (dc DL_of) 5 = .ok (.iload_n 2, 1) := by decide +kernel
theorem dL_of_6 : decode (dc DL_of) 6 = .ok (.iload_n 3, 1) := by decide +kernel
theorem dL_of_7 : decode (dc DL_of) 7 = .ok (.invokevirtual 48, 3) := by decide +kernel
theorem dL_of_10 : decode (dc DL_of) 10 = .ok (.i2l, 1) := by decide +kernel
theorem dL_of_11 : decode (dc DL_of) 11 = .ok (.lastore, 1) := by decide +kernel
theorem dL_of_12 : decode (dc DL_of) 12 = .ok (.goto 11, 3) := by decide +kernel
theorem dL_of_15 : decode (dc DL_of) 15 = .ok (.astore 5, 2) := by decide +kernel
theorem dL_of_17 : decode (dc DL_of) 17 = .ok (.iconst 1, 1) := by decide +kernel
theorem dL_of_18 : decode (dc DL_of) 18 = .ok (.ireturn, 1) := by decide +kernel
theorem dL_of_19 : decode (dc DL_of) 19 = .ok (.astore 5, 2) := by decide +kernel
theorem dL_of_21 : decode (dc DL_of) 21 = .ok (.iconst 2, 1) := by decide +kernel
theorem dL_of_22 : decode (dc DL_of) 22 = .ok (.ireturn, 1) := by decide +kernel
theorem dL_of_23 : decode (dc DL_of) 23 = .ok (.iconst 0, 1) := by decide +kernel
theorem dL_of_24 : decode (dc DL_of) 24 = .ok (.ireturn, 1) := by decide +kernel
def DL_fit : xD := (yL_fit, cL_fit, 5, some .int, [(0, 10, 13, 22)], 12)
theorem lk_L_52 : xLnk RL 52 yX9_fit ∨ xNst RL 52 yX9_fit := Or.inl (gdm 1277 (by decide +kernel) rfl)
theorem calw_L_fit : xCalW DL_fit 4 := ⟨by simp [DL_fit, dh], gdm 1276 (by decide +kernel) rfl, gdm 167 (by decide +kernel) rfl, (by decide +kernel), Nat.le_of_ble_eq_true rfl⟩
theorem staw_L_fit : xSta DL_fit := gdm 1275 (by decide +kernel) rfl
theorem lkw_L_fit : xLnk RL 172 yL_fit := gdm 1274 (by decide +kernel) rfl
theorem cal_X9_fit : xCal DX9_fit 2 := ⟨rfl, gdm 1280 (by decide +kernel) rfl, gdm 168 (by decide +kernel) rfl, (by decide +kernel), Nat.le_of_ble_eq_true rfl⟩
theorem vir_X9_fit : xVir DX9_fit := ⟨gdm 1278 (by decide +kernel) rfl, gdm 1279 (by decide +kernel) rfl⟩
theorem dL_fit_0 : decode (dc DL_fit) 0 = .ok (.aload_n 3, 1) := by decide +kernel
theorem dL_fit_1 : decode (dc DL_fit) 1 = .ok (.iconst 0, 1) := by decide +kernel
theorem dL_fit_2 : decode (dc DL_fit) 2 = .ok (.aload_n 0, 1) := by decide +kernel
theorem dL_fit_3 : decode (dc DL_fit) 3 = .ok (.iload_n 1, 1) := by decide +kernel
theorem dL_fit_4 : decode (dc DL_fit) 4 = .ok (.iload_n 2, 1) := by decide +kernel
theorem dL_fit_5 : decode (dc DL_fit) 5 = .ok (.invokevirtual 52, 3) := by decide +kernel
theorem dL_fit_8 : decode (dc DL_fit) 8 = .ok (.i2l, 1) := by decide +kernel
theorem dL_fit_9 : decode (dc DL_fit) 9 = .ok (.lastore, 1) := by decide +kernel
theorem dL_fit_10 : decode (dc DL_fit) 10 = .ok (.goto 7, 3) := by decide +kernel
theorem dL_fit_13 : decode (dc DL_fit) 13 = .ok (.astore 4, 2) := by decide +kernel
theorem dL_fit_15 : decode (dc DL_fit) 15 = .ok (.iconst 1, 1) := by decide +kernel
theorem dL_fit_16 : decode (dc DL_fit) 16 = .ok (.ireturn, 1) := by decide +kernel
theorem dL_fit_17 : decode (dc DL_fit) 17 = .ok (.iconst 0, 1) := by decide +kernel
theorem dL_fit_18 : decode (dc DL_fit) 18 = .ok (.ireturn, 1) := by decide +kernel
def DL_fitMany : xD := (yL_fitMany, cL_fitMany, 4, some .int, [(0, 9, 12, 13)], 12)
theorem lk_L_55 : xLnk RL 55 yX9_fitMany ∨ xNst RL 55 yX9_fitMany := Or.inl (gdm 1307 (by decide +kernel) rfl)
theorem calw_L_fitMany : xCalW DL_fitMany 3 := ⟨by simp [DL_fitMany, dh], gdm 1306 (by decide +kernel) rfl, gdm 167 (by decide +kernel) rfl, (by decide +kernel), Nat.le_of_ble_eq_true rfl⟩
theorem staw_L_fitMany : xSta DL_fitMany := gdm 1305 (by decide +kernel) rfl
theorem lkw_L_fitMany : xLnk RL 175 yL_fitMany := gdm 1304 (by decide +kernel) rfl
theorem cal_X9_fitMany : xCal DX9_fitMany 1 := ⟨rfl, gdm 1310 (by decide +kernel) rfl, gdm 168 (by decide +kernel) rfl, (by decide +kernel), Nat.le_of_ble_eq_true rfl⟩
theorem vir_X9_fitMany : xVir DX9_fitMany := ⟨gdm 1308 (by decide +kernel) rfl, gdm 1309 (by decide +kernel) rfl⟩
theorem dL_fitMany_0 : decode (dc DL_fitMany) 0 = .ok (.aload_n 2, 1) := by decide +kernel
theorem dL_fitMany_1 : decode (dc DL_fitMany) 1 = .ok (.iconst 0, 1) := by decide +kernel
theorem dL_fitMany_2 : decode (dc DL_fitMany) 2 = .ok (.aload_n 0, 1) := by decide +kernel
theorem dL_fitMany_3 : decode (dc DL_fitMany) 3 = .ok (.iload_n 1, 1) := by decide +kernel
theorem dL_fitMany_4 : decode (dc DL_fitMany) 4 = .ok (.invokevirtual 55, 3) := by decide +kernel
theorem dL_fitMany_7 : decode (dc DL_fitMany) 7 = .ok (.i2l, 1) := by decide +kernel
theorem dL_fitMany_8 : decode (dc DL_fitMany) 8 = .ok (.lastore, 1) := by decide +kernel
theorem dL_fitMany_9 : decode (dc DL_fitMany) 9 = .ok (.goto 6, 3) := by decide +kernel
theorem dL_fitMany_12 : decode (dc DL_fitMany) 12 = .ok (.astore_n 3, 1) := by decide +kernel
theorem dL_fitMany_13 : decode (dc DL_fitMany) 13 = .ok (.iconst 1, 1) := by decide +kernel
theorem dL_fitMany_14 : decode (dc DL_fitMany) 14 = .ok (.ireturn, 1) := by decide +kernel
theorem dL_fitMany_15 : decode (dc DL_fitMany) 15 = .ok (.iconst 0, 1) := by decide +kernel
theorem dL_fitMany_16 : decode (dc DL_fitMany) 16 = .ok (.ireturn, 1) := by decide +kernel
def DL_lack : xD := (yL_lack, cL_lack, 4, some .int, [(0, 9, 12, 13)], 12)
theorem lk_L_58 : xLnk RL 58 yX9_lack ∨ xNst RL 58 yX9_lack := Or.inl (gdm 1314 (by decide +kernel) rfl)
theorem calw_L_lack : xCalW DL_lack 3 := ⟨by simp [DL_lack, dh], gdm 1313 (by decide +kernel) rfl, gdm 167 (by decide +kernel) rfl, (by decide +kernel), Nat.le_of_ble_eq_true rfl⟩
theorem staw_L_lack : xSta DL_lack := gdm 1312 (by decide +kernel) rfl
theorem lkw_L_lack : xLnk RL 178 yL_lack := gdm 1311 (by decide +kernel) rfl
theorem cal_X9_lack : xCal DX9_lack 1 := ⟨rfl, gdm 1317 (by decide +kernel) rfl, gdm 168 (by decide +kernel) rfl, (by decide +kernel), Nat.le_of_ble_eq_true rfl⟩
theorem vir_X9_lack : xVir DX9_lack := ⟨gdm 1315 (by decide +kernel) rfl, gdm 1316 (by decide +kernel) rfl⟩
theorem dL_lack_0 : decode (dc DL_lack) 0 = .ok (.aload_n 2, 1) := by decide +kernel
theorem dL_lack_1 : decode (dc DL_lack) 1 = .ok (.iconst 0, 1) := by decide +kernel
theorem dL_lack_2 : decode (dc DL_lack) 2 = .ok (.aload_n 0, 1) := by decide +kernel
theorem dL_lack_3 : decode (dc DL_lack) 3 = .ok (.iload_n 1, 1) := by decide +kernel
theorem dL_lack_4 : decode (dc DL_lack) 4 = .ok (.invokevirtual 58, 3) := by decide +kernel
theorem dL_lack_7 : decode (dc DL_lack) 7 = .ok (.i2l, 1) := by decide +kernel
theorem dL_lack_8 : decode (dc DL_lack) 8 = .ok (.lastore, 1) := by decide +kernel
theorem dL_lack_9 : decode (dc DL_lack) 9 = .ok (.goto 6, 3) := by decide +kernel
theorem dL_lack_12 : decode (dc DL_lack) 12 = .ok (.astore_n 3, 1) := by decide +kernel
theorem dL_lack_13 : decode (dc DL_lack) 13 = .ok (.iconst 1, 1) := by decide +kernel
theorem dL_lack_14 : decode (dc DL_lack) 14 = .ok (.ireturn, 1) := by decide +kernel
theorem dL_lack_15 : decode (dc DL_lack) 15 = .ok (.iconst 0, 1) := by decide +kernel
theorem dL_lack_16 : decode (dc DL_lack) 16 = .ok (.ireturn, 1) := by decide +kernel
def DL_hall : xD := (yL_hall, cL_hall, 4, some .int, [(0, 9, 12, 13)], 12)
theorem lk_L_61 : xLnk RL 61 yX9_hall ∨ xNst RL 61 yX9_hall := Or.inl (gdm 1322 (by decide +kernel) rfl)
theorem calw_L_hall : xCalW DL_hall 3 := ⟨by simp [DL_hall, dh], gdm 1321 (by decide +kernel) rfl, gdm 167 (by decide +kernel) rfl, (by decide +kernel), Nat.le_of_ble_eq_true rfl⟩
theorem staw_L_hall : xSta DL_hall := gdm 1320 (by decide +kernel) rfl
theorem lkw_L_hall : xLnk RL 181 yL_hall := gdm 1319 (by decide +kernel) rfl
theorem cal_X9_hall : xCal DX9_hall 1 := ⟨rfl, gdm 1325 (by decide +kernel) rfl, gdm 168 (by decide +kernel) rfl, (by decide +kernel), Nat.le_of_ble_eq_true rfl⟩
theorem vir_X9_hall : xVir DX9_hall := ⟨gdm 1323 (by decide +kernel) rfl, gdm 1324 (by decide +kernel) rfl⟩
theorem dL_hall_0 : decode (dc DL_hall) 0 = .ok (.aload_n 2, 1) := by decide +kernel
theorem dL_hall_1 : decode (dc DL_hall) 1 = .ok (.iconst 0, 1) := by decide +kernel
theorem dL_hall_2 : decode (dc DL_hall) 2 = .ok (.aload_n 0, 1) := by decide +kernel
theorem dL_hall_3 : decode (dc DL_hall) 3 = .ok (.iload_n 1, 1) := by decide +kernel
theorem dL_hall_4 : decode (dc DL_hall) 4 = .ok (.invokevirtual 61, 3) := by decide +kernel
theorem dL_hall_7 : decode (dc DL_hall) 7 = .ok (.i2l, 1) := by decide +kernel
theorem dL_hall_8 : decode (dc DL_hall) 8 = .ok (.lastore, 1) := by decide +kernel
theorem dL_hall_9 : decode (dc DL_hall) 9 = .ok (.goto 6, 3) := by decide +kernel
theorem dL_hall_12 : decode (dc DL_hall) 12 = .ok (.astore_n 3, 1) := by decide +kernel
theorem dL_hall_13 : decode (dc DL_hall) 13 = .ok (.iconst 1, 1) := by decide +kernel
theorem dL_hall_14 : decode (dc DL_hall) 14 = .ok (.ireturn, 1) := by decide +kernel
theorem dL_hall_15 : decode (dc DL_hall) 15 = .ok (.iconst 0, 1) := by decide +kernel
theorem dL_hall_16 : decode (dc DL_hall) 16 = .ok (.ireturn, 1) := by decide +kernel
def DL_cheap : xD := (yL_cheap, cL_cheap, 4, some .int, [(0, 9, 12, 13)], 12)
theorem lk_L_64 : xLnk RL 64 yX9_cheap ∨ xNst RL 64 yX9_cheap := Or.inl (gdm 1329 (by decide +kernel) rfl)
theorem calw_L_cheap : xCalW DL_cheap 3 := ⟨by simp [DL_cheap, dh], gdm 1328 (by decide +kernel) rfl, gdm 167 (by decide +kernel) rfl, (by decide +kernel), Nat.le_of_ble_eq_true rfl⟩
theorem staw_L_cheap : xSta DL_cheap := gdm 1327 (by decide +kernel) rfl
theorem lkw_L_cheap : xLnk RL 189 yL_cheap := gdm 1326 (by decide +kernel) rfl
theorem cal_X9_cheap : xCal DX9_cheap 1 := ⟨rfl, gdm 1332 (by decide +kernel) rfl, gdm 168 (by decide +kernel) rfl, (by decide +kernel), Nat.le_of_ble_eq_true rfl⟩
theorem vir_X9_cheap : xVir DX9_cheap := ⟨gdm 1330 (by decide +kernel) rfl, gdm 1331 (by decide +kernel) rfl⟩
theorem dL_cheap_0 : decode (dc DL_cheap) 0 = .ok (.aload_n 2, 1) := by decide +kernel
theorem dL_cheap_1 : decode (dc DL_cheap) 1 = .ok (.iconst 0, 1) := by decide +kernel
theorem dL_cheap_2 : decode (dc DL_cheap) 2 = .ok (.aload_n 0, 1) := by decide +kernel
theorem dL_cheap_3 : decode (dc DL_cheap) 3 = .ok (.iload_n 1, 1) := by decide +kernel
theorem dL_cheap_4 : decode (dc DL_cheap) 4 = .ok (.invokevirtual 64, 3) := by decide +kernel
theorem dL_cheap_7 : decode (dc DL_cheap) 7 = .ok (.i2l, 1) := by decide +kernel
theorem dL_cheap_8 : decode (dc DL_cheap) 8 = .ok (.lastore, 1) := by decide +kernel
theorem dL_cheap_9 : decode (dc DL_cheap) 9 = .ok (.goto 6, 3) := by decide +kernel
theorem dL_cheap_12 : decode (dc DL_cheap) 12 = .ok (.astore_n 3, 1) := by decide +kernel
theorem dL_cheap_13 : decode (dc DL_cheap) 13 = .ok (.iconst 1, 1) := by decide +kernel
theorem dL_cheap_14 : decode (dc DL_cheap) 14 = .ok (.ireturn, 1) := by decide +kernel
theorem dL_cheap_15 : decode (dc DL_cheap) 15 = .ok (.iconst 0, 1) := by decide +kernel
theorem dL_cheap_16 : decode (dc DL_cheap) 16 = .ok (.ireturn, 1) := by decide +kernel
def DL_cheapest : xD := (yL_cheapest, cL_cheapest, 4, some .int, [(0, 9, 12, 22)], 12)
theorem lk_L_67 : xLnk RL 67 yX9_cheapest ∨ xNst RL 67 yX9_cheapest := Or.inl (gdm 1338 (by decide +kernel) rfl)
theorem calw_L_cheapest : xCalW DL_cheapest 3 := ⟨by simp [DL_cheapest, dh], gdm 1337 (by decide +kernel) rfl, gdm 167 (by decide +kernel) rfl, (by decide +kernel), Nat.le_of_ble_eq_true rfl⟩
theorem staw_L_cheapest : xSta DL_cheapest := gdm 1336 (by decide +kernel) rfl
theorem lkw_L_cheapest : xLnk RL 192 yL_cheapest := gdm 1335 (by decide +kernel) rfl
theorem cal_X9_cheapest : xCal DX9_cheapest 1 := ⟨rfl, gdm 1341 (by decide +kernel) rfl, gdm 168 (by decide +kernel) rfl, (by decide +kernel), Nat.le_of_ble_eq_true rfl⟩
theorem vir_X9_cheapest : xVir DX9_cheapest := ⟨gdm 1339 (by decide +kernel) rfl, gdm 1340 (by decide +kernel) rfl⟩
theorem dL_cheapest_0 : decode (dc DL_cheapest) 0 = .ok (.aload_n 2, 1) := by decide +kernel
theorem dL_cheapest_1 : decode (dc DL_cheapest) 1 = .ok (.iconst 0, 1) := by decide +kernel
theorem dL_cheapest_2 : decode (dc DL_cheapest) 2 = .ok (.aload_n 0, 1) := by decide +kernel
theorem dL_cheapest_3 : decode (dc DL_cheapest) 3 = .ok (.iload_n 1, 1) := by decide +kernel
theorem dL_cheapest_4 : decode (dc DL_cheapest) 4 = .ok (.invokevirtual 67, 3) := by decide +kernel
theorem dL_cheapest_7 : decode (dc DL_cheapest) 7 = .ok (.i2l, 1) := by decide +kernel
theorem dL_cheapest_8 : decode (dc DL_cheapest) 8 = .ok (.lastore, 1) := by decide +kernel
theorem dL_cheapest_9 : decode (dc DL_cheapest) 9 = .ok (.goto 6, 3) := by decide +kernel
theorem dL_cheapest_12 : decode (dc DL_cheapest) 12 = .ok (.astore_n 3, 1) := by decide +kernel
theorem dL_cheapest_13 : decode (dc DL_cheapest) 13 = .ok (.iconst 1, 1) := by decide +kernel
theorem dL_cheapest_14 : decode (dc DL_cheapest) 14 = .ok (.ireturn, 1) := by decide +kernel
theorem dL_cheapest_15 : decode (dc DL_cheapest) 15 = .ok (.iconst 0, 1) := by decide +kernel
theorem dL_cheapest_16 : decode (dc DL_cheapest) 16 = .ok (.ireturn, 1) := by decide +kernel
def DL_more : xD := (yL_more, cL_more, 4, some .int, [(0, 9, 12, 13)], 12)
theorem lk_L_70 : xLnk RL 70 yX9_more ∨ xNst RL 70 yX9_more := Or.inl (gdm 1350 (by decide +kernel) rfl)
theorem calw_L_more : xCalW DL_more 3 := ⟨by simp [DL_more, dh], gdm 1349 (by decide +kernel) rfl, gdm 167 (by decide +kernel) rfl, (by decide +kernel), Nat.le_of_ble_eq_true rfl⟩
theorem staw_L_more : xSta DL_more := gdm 1348 (by decide +kernel) rfl
theorem lkw_L_more : xLnk RL 199 yL_more := gdm 1347 (by decide +kernel) rfl
theorem cal_X9_more : xCal DX9_more 1 := ⟨rfl, gdm 1353 (by decide +kernel) rfl, gdm 168 (by decide +kernel) rfl, (by decide +kernel), Nat.le_of_ble_eq_true rfl⟩
theorem vir_X9_more : xVir DX9_more := ⟨gdm 1351 (by decide +kernel) rfl, gdm 1352 (by decide +kernel) rfl⟩
theorem dL_more_0 : decode (dc DL_more) 0 = .ok (.aload_n 2, 1) := by decide +kernel
theorem dL_more_1 : decode (dc DL_more) 1 = .ok (.iconst 0, 1) := by decide +kernel
theorem dL_more_2 : decode (dc DL_more) 2 = .ok (.aload_n 0, 1) := by decide +kernel
theorem dL_more_3 : decode (dc DL_more) 3 = .ok (.iload_n 1, 1) := by decide +kernel
theorem dL_more_4 : decode (dc DL_more) 4 = .ok (.invokevirtual 70, 3) := by decide +kernel
theorem dL_more_7 : decode (dc DL_more) 7 = .ok (.i2l, 1) := by decide +kernel
theorem dL_more_8 : decode (dc DL_more) 8 = .ok (.lastore, 1) := by decide +kernel
theorem dL_more_9 : decode (dc DL_more) 9 = .ok (.goto 6, 3) := by decide +kernel
theorem dL_more_12 : decode (dc DL_more) 12 = .ok (.astore_n 3, 1) := by decide +kernel
theorem dL_more_13 : decode (dc DL_more) 13 = .ok (.iconst 1, 1) := by decide +kernel
theorem dL_more_14 : decode (dc DL_more) 14 = .ok (.ireturn, 1) := by decide +kernel
theorem dL_more_15 : decode (dc DL_more) 15 = .ok (.iconst 0, 1) := by decide +kernel
theorem dL_more_16 : decode (dc DL_more) 16 = .ok (.ireturn, 1) := by decide +kernel
def DL_fewest : xD := (yL_fewest, cL_fewest, 4, some .int, [(0, 9, 12, 13)], 12)
theorem lk_L_73 : xLnk RL 73 yX9_fewest ∨ xNst RL 73 yX9_fewest := Or.inl (gdm 1361 (by decide +kernel) rfl)
theorem calw_L_fewest : xCalW DL_fewest 3 := ⟨by simp [DL_fewest, dh], gdm 1360 (by decide +kernel) rfl, gdm 167 (by decide +kernel) rfl, (by decide +kernel), Nat.le_of_ble_eq_true rfl⟩
theorem staw_L_fewest : xSta DL_fewest := gdm 1359 (by decide +kernel) rfl
theorem lkw_L_fewest : xLnk RL 202 yL_fewest := gdm 1358 (by decide +kernel) rfl
theorem cal_X9_fewest : xCal DX9_fewest 1 := ⟨rfl, gdm 1364 (by decide +kernel) rfl, gdm 168 (by decide +kernel) rfl, (by decide +kernel), Nat.le_of_ble_eq_true rfl⟩
theorem vir_X9_fewest : xVir DX9_fewest := ⟨gdm 1362 (by decide +kernel) rfl, gdm 1363 (by decide +kernel) rfl⟩
theorem dL_fewest_0 : decode (dc DL_fewest) 0 = .ok (.aload_n 2, 1) := by decide +kernel
theorem dL_fewest_1 : decode (dc DL_fewest) 1 = .ok (.iconst 0, 1) := by decide +kernel
theorem dL_fewest_2 : decode (dc DL_fewest) 2 = .ok (.aload_n 0, 1) := by decide +kernel
theorem dL_fewest_3 : decode (dc DL_fewest) 3 = .ok (.iload_n 1, 1) := by decide +kernel
theorem dL_fewest_4 : decode (dc DL_fewest) 4 = .ok (.invokevirtual 73, 3) := by decide +kernel
theorem dL_fewest_7 : decode (dc DL_fewest) 7 = .ok (.i2l, 1) := by decide +kernel
theorem dL_fewest_8 : decode (dc DL_fewest) 8 = .ok (.lastore, 1) := by decide +kernel
theorem dL_fewest_9 : decode (dc DL_fewest) 9 = .ok (.goto 6, 3) := by decide +kernel
theorem dL_fewest_12 : decode (dc DL_fewest) 12 = .ok (.astore_n 3, 1) := by decide +kernel
theorem dL_fewest_13 : decode (dc DL_fewest) 13 = .ok (.iconst 1, 1) := by decide +kernel
theorem dL_fewest_14 : decode (dc DL_fewest) 14 = .ok (.ireturn, 1) := by decide +kernel
theorem dL_fewest_15 : decode (dc DL_fewest) 15 = .ok (.iconst 0, 1) := by decide +kernel
theorem dL_fewest_16 : decode (dc DL_fewest) 16 = .ok (.ireturn, 1) := by decide +kernel
def DL_chosen : xD := (yL_chosen, cL_chosen, 4, some .int, [(0, 9, 12, 13)], 12)
theorem lk_L_76 : xLnk RL 76 yX9_chosen ∨ xNst RL 76 yX9_chosen := Or.inl (gdm 1381 (by decide +kernel) rfl)
theorem calw_L_chosen : xCalW DL_chosen 3 := ⟨by simp [DL_chosen, dh], gdm 1380 (by decide +kernel) rfl, gdm 167 (by decide +kernel) rfl, (by decide +kernel), Nat.le_of_ble_eq_true rfl⟩
theorem staw_L_chosen : xSta DL_chosen := gdm 1379 (by decide +kernel) rfl
theorem lkw_L_chosen : xLnk RL 205 yL_chosen := gdm 1378 (by decide +kernel) rfl
theorem cal_X9_chosen : xCal DX9_chosen 1 := ⟨rfl, gdm 1384 (by decide +kernel) rfl, gdm 168 (by decide +kernel) rfl, (by decide +kernel), Nat.le_of_ble_eq_true rfl⟩
theorem vir_X9_chosen : xVir DX9_chosen := ⟨gdm 1382 (by decide +kernel) rfl, gdm 1383 (by decide +kernel) rfl⟩
theorem dL_chosen_0 : decode (dc DL_chosen) 0 = .ok (.aload_n 2, 1) := by decide +kernel
theorem dL_chosen_1 : decode (dc DL_chosen) 1 = .ok (.iconst 0, 1) := by decide +kernel
theorem dL_chosen_2 : decode (dc DL_chosen) 2 = .ok (.aload_n 0, 1) := by decide +kernel
theorem dL_chosen_3 : decode (dc DL_chosen) 3 = .ok (.iload_n 1, 1) := by decide +kernel
theorem dL_chosen_4 : decode (dc DL_chosen) 4 = .ok (.invokevirtual 76, 3) := by decide +kernel
theorem dL_chosen_7 : decode (dc DL_chosen) 7 = .ok (.i2l, 1) := by decide +kernel
theorem dL_chosen_8 : decode (dc DL_chosen) 8 = .ok (.lastore, 1) := by decide +kernel
theorem dL_chosen_9 : decode (dc DL_chosen) 9 = .ok (.goto 6, 3) := by decide +kernel
theorem dL_chosen_12 : decode (dc DL_chosen) 12 = .ok (.astore_n 3, 1) := by decide +kernel
theorem dL_chosen_13 : decode (dc DL_chosen) 13 = .ok (.iconst 1, 1) := by decide +kernel
theorem dL_chosen_14 : decode (dc DL_chosen) 14 = .ok (.ireturn, 1) := by decide +kernel
theorem dL_chosen_15 : decode (dc DL_chosen) 15 = .ok (.iconst 0, 1) := by decide +kernel
theorem dL_chosen_16 : decode (dc DL_chosen) 16 = .ok (.ireturn, 1) := by decide +kernel
def DL_round : xD := (yL_round, cL_round, 5, some .int, [(0, 10, 13, 22)], 12)
theorem lk_L_79 : xLnk RL 79 yX9_round ∨ xNst RL 79 yX9_round := Or.inl (gdm 1400 (by decide +kernel) rfl)
theorem calw_L_round : xCalW DL_round 4 := ⟨by simp [DL_round, dh], gdm 1399 (by decide +kernel) rfl, gdm 167 (by decide +kernel) rfl, (by decide +kernel), Nat.le_of_ble_eq_true rfl⟩
theorem staw_L_round : xSta DL_round := gdm 1398 (by decide +kernel) rfl
theorem lkw_L_round : xLnk RL 212 yL_round := gdm 1397 (by decide +kernel) rfl
theorem cal_X9_round : xCal DX9_round 2 := ⟨rfl, gdm 1403 (by decide +kernel) rfl, gdm 168 (by decide +kernel) rfl, (by decide +kernel), Nat.le_of_ble_eq_true rfl⟩
theorem vir_X9_round : xVir DX9_round := ⟨gdm 1401 (by decide +kernel) rfl, gdm 1402 (by decide +kernel) rfl⟩
theorem dL_round_0 : decode (dc DL_round) 0 = .ok (.aload_n 3, 1) := by decide +kernel
theorem dL_round_1 : decode (dc DL_round) 1 = .ok (.iconst 0, 1) := by decide +kernel
theorem dL_round_2 : decode (dc DL_round) 2 = .ok (.aload_n 0, 1) := by decide +kernel
theorem dL_round_3 : decode (dc DL_round) 3 = .ok (.iload_n 1, 1) := by decide +kernel
theorem dL_round_4 : decode (dc DL_round) 4 = .ok (.iload_n 2, 1) := by decide +kernel
theorem dL_round_5 : decode (dc DL_round) 5 = .ok (.invokevirtual 79, 3) := by decide +kernel
theorem dL_round_8 : decode (dc DL_round) 8 = .ok (.i2l, 1) := by decide +kernel
theorem dL_round_9 : decode (dc DL_round) 9 = .ok (.lastore, 1) := by decide +kernel
theorem dL_round_10 : decode (dc DL_round) 10 = .ok (.goto 7, 3) := by decide +kernel
theorem dL_round_13 : decode (dc DL_round) 13 = .ok (.astore 4, 2) := by decide +kernel
theorem dL_round_15 : decode (dc DL_round) 15 = .ok (.iconst 1, 1) := by decide +kernel
theorem dL_round_16 : decode (dc DL_round) 16 = .ok (.ireturn, 1) := by decide +kernel
theorem dL_round_17 : decode (dc DL_round) 17 = .ok (.iconst 0, 1) := by decide +kernel
theorem dL_round_18 : decode (dc DL_round) 18 = .ok (.ireturn, 1) := by decide +kernel
def DL_add : xD := (yL_add, cL_add, 6, some .int, [(0, 12, 15, 22), (0, 12, 19, 13)], 12)
theorem lk_L_82 : xLnk RL 82 yX9_add ∨ xNst RL 82 yX9_add := Or.inl (gdm 1411 (by decide +kernel) rfl)
theorem calw_L_add : xCalW DL_add 5 := ⟨by simp [DL_add, dh], gdm 1410 (by decide +kernel) rfl, gdm 167 (by decide +kernel) rfl, (by decide +kernel), Nat.le_of_ble_eq_true rfl⟩
theorem staw_L_add : xSta DL_add := gdm 1409 (by decide +kernel) rfl
theorem lkw_L_add : xLnk RL 215 yL_add := gdm 1408 (by decide +kernel) rfl
theorem cal_X9_add : xCal DX9_add 3 := ⟨rfl, gdm 1414 (by decide +kernel) rfl, gdm 168 (by decide +kernel) rfl, (by decide +kernel), Nat.le_of_ble_eq_true rfl⟩
theorem vir_X9_add : xVir DX9_add := ⟨gdm 1412 (by decide +kernel) rfl, gdm 1413 (by decide +kernel) rfl⟩
theorem dL_add_0 : decode (dc DL_add) 0 = .ok (.aload 4, 2) := by decide +kernel
theorem dL_add_2 : decode (dc DL_add) 2 = .ok (.iconst 0, 1) := by decide +kernel
theorem dL_add_3 : decode (dc DL_add) 3 = .ok (.aload_n 0, 1) := by decide +kernel
theorem dL_add_4 : decode (dc DL_add) 4 = .ok (.iload_n 1, 1) := by decide +kernel
theorem dL_add_5 : decode (dc DL_add) 5 = .ok (.iload_n 2, 1) := by decide +kernel
theorem dL_add_6 : decode (dc DL_add) 6 = .ok (.iload_n 3, 1) := by decide +kernel
theorem dL_add_7 : decode (dc DL_add) 7 = .ok (.invokevirtual 82, 3) := by decide +kernel
theorem dL_add_10 : decode (dc DL_add) 10 = .ok (.i2l, 1) := by decide +kernel
theorem dL_add_11 : decode (dc DL_add) 11 = .ok (.lastore, 1) := by decide +kernel
theorem dL_add_12 : decode (dc DL_add) 12 = .ok (.goto 11, 3) := by decide +kernel
theorem dL_add_15 : decode (dc DL_add) 15 = .ok (.astore 5, 2) := by decide +kernel
theorem dL_add_17 : decode (dc DL_add) 17 = .ok (.iconst 1, 1) := by decide +kernel
theorem dL_add_18 : decode (dc DL_add) 18 = .ok (.ireturn, 1) := by decide +kernel
theorem dL_add_19 : decode (dc DL_add) 19 = .ok (.astore 5, 2) := by decide +kernel
theorem dL_add_21 : decode (dc DL_add) 21 = .ok (.iconst 2, 1) := by decide +kernel
theorem dL_add_22 : decode (dc DL_add) 22 = .ok (.ireturn, 1) := by decide +kernel
theorem dL_add_23 : decode (dc DL_add) 23 = .ok (.iconst 0, 1) := by decide +kernel
theorem dL_add_24 : decode (dc DL_add) 24 = .ok (.ireturn, 1) := by decide +kernel
def DL_drop : xD := (yL_drop, cL_drop, 5, some .int, [(0, 10, 13, 22), (0, 10, 17, 13)], 12)
theorem lk_L_85 : xLnk RL 85 yX9_drop ∨ xNst RL 85 yX9_drop := Or.inl (gdm 1419 (by decide +kernel) rfl)
theorem calw_L_drop : xCalW DL_drop 4 := ⟨by simp [DL_drop, dh], gdm 1418 (by decide +kernel) rfl, gdm 167 (by decide +kernel) rfl, (by decide +kernel), Nat.le_of_ble_eq_true rfl⟩
theorem staw_L_drop : xSta DL_drop := gdm 1417 (by decide +kernel) rfl
theorem lkw_L_drop : xLnk RL 218 yL_drop := gdm 1416 (by decide +kernel) rfl
theorem cal_X9_drop : xCal DX9_drop 2 := ⟨rfl, gdm 1422 (by decide +kernel) rfl, gdm 168 (by decide +kernel) rfl, (by decide +kernel), Nat.le_of_ble_eq_true rfl⟩
theorem vir_X9_drop : xVir DX9_drop := ⟨gdm 1420 (by decide +kernel) rfl, gdm 1421 (by decide +kernel) rfl⟩
theorem dL_drop_0 : decode (dc DL_drop) 0 = .ok (.aload_n 3, 1) := by decide +kernel
theorem dL_drop_1 : decode (dc DL_drop) 1 = .ok (.iconst 0, 1) := by decide +kernel
theorem dL_drop_2 : decode (dc DL_drop) 2 = .ok (.aload_n 0, 1) := by decide +kernel
theorem dL_drop_3 : decode (dc DL_drop) 3 = .ok (.iload_n 1, 1) := by decide +kernel
theorem dL_drop_4 : decode (dc DL_drop) 4 = .ok (.iload_n 2, 1) := by decide +kernel
theorem dL_drop_5 : decode (dc DL_drop) 5 = .ok (.invokevirtual 85, 3) := by decide +kernel
theorem dL_drop_8 : decode (dc DL_drop) 8 = .ok (.i2l, 1) := by decide +kernel
theorem dL_drop_9 : decode (dc DL_drop) 9 = .ok (.lastore, 1) := by decide +kernel
theorem dL_drop_10 : decode (dc DL_drop) 10 = .ok (.goto 11, 3) := by decide +kernel
theorem dL_drop_13 : decode (dc DL_drop) 13 = .ok (.astore 4, 2) := by decide +kernel
theorem dL_drop_15 : decode (dc DL_drop) 15 = .ok (.iconst 1, 1) := by decide +kernel
theorem dL_drop_16 : decode (dc DL_drop) 16 = .ok (.ireturn, 1) := by decide +kernel
theorem dL_drop_17 : decode (dc DL_drop) 17 = .ok (.astore 4, 2) := by decide +kernel
theorem dL_drop_19 : decode (dc DL_drop) 19 = .ok (.iconst 2, 1) := by decide +kernel
theorem dL_drop_20 : decode (dc DL_drop) 20 = .ok (.ireturn, 1) := by decide +kernel
theorem dL_drop_21 : decode (dc DL_drop) 21 = .ok (.iconst 0, 1) := by decide +kernel
theorem dL_drop_22 : decode (dc DL_drop) 22 = .ok (.ireturn, 1) := by decide +kernel
def DL_is : xD := (yL_is, cL_is, 6, some .int, [(0, 12, 15, 22), (0, 12, 19, 13)], 12)
theorem lk_L_88 : xLnk RL 88 yX9_is ∨ xNst RL 88 yX9_is := Or.inl (gdm 1430 (by decide +kernel) rfl)
theorem calw_L_is : xCalW DL_is 5 := ⟨by simp [DL_is, dh], gdm 1429 (by decide +kernel) rfl, gdm 167 (by decide +kernel) rfl, (by decide +kernel), Nat.le_of_ble_eq_true rfl⟩
theorem staw_L_is : xSta DL_is := gdm 1428 (by decide +kernel) rfl
theorem lkw_L_is : xLnk RL 221 yL_is := gdm 1427 (by decide +kernel) rfl
theorem cal_X9_is : xCal DX9_is 3 := ⟨rfl, gdm 1433 (by decide +kernel) rfl, gdm 168 (by decide +kernel) rfl, (by decide +kernel), Nat.le_of_ble_eq_true rfl⟩
theorem vir_X9_is : xVir DX9_is := ⟨gdm 1431 (by decide +kernel) rfl, gdm 1432 (by decide +kernel) rfl⟩
theorem dL_is_0 : decode (dc DL_is) 0 = .ok (.aload 4, 2) := by decide +kernel
theorem dL_is_2 : decode (dc DL_is) 2 = .ok (.iconst 0, 1) := by decide +kernel
theorem dL_is_3 : decode (dc DL_is) 3 = .ok (.aload_n 0, 1) := by decide +kernel
theorem dL_is_4 : decode (dc DL_is) 4 = .ok (.iload_n 1, 1) := by decide +kernel
theorem dL_is_5 : decode (dc DL_is) 5 = .ok (.iload_n 2, 1) := by decide +kernel
theorem dL_is_6 : decode (dc DL_is) 6 = .ok (.iload_n 3, 1) := by decide +kernel
theorem dL_is_7 : decode (dc DL_is) 7 = .ok (.invokevirtual 88, 3) := by decide +kernel
theorem dL_is_10 : decode (dc DL_is) 10 = .ok (.i2l, 1) := by decide +kernel
theorem dL_is_11 : decode (dc DL_is) 11 = .ok (.lastore, 1) := by decide +kernel
theorem dL_is_12 : decode (dc DL_is) 12 = .ok (.goto 11, 3) := by decide +kernel
theorem dL_is_15 : decode (dc DL_is) 15 = .ok (.astore 5, 2) := by decide +kernel
theorem dL_is_17 : decode (dc DL_is) 17 = .ok (.iconst 1, 1) := by decide +kernel
theorem dL_is_18 : decode (dc DL_is) 18 = .ok (.ireturn, 1) := by decide +kernel
theorem dL_is_19 : decode (dc DL_is) 19 = .ok (.astore 5, 2) := by decide +kernel
theorem dL_is_21 : decode (dc DL_is) 21 = .ok (.iconst 2, 1) := by decide +kernel
theorem dL_is_22 : decode (dc DL_is) 22 = .ok (.ireturn, 1) := by decide +kernel
theorem dL_is_23 : decode (dc DL_is) 23 = .ok (.iconst 0, 1) := by decide +kernel
theorem dL_is_24 : decode (dc DL_is) 24 = .ok (.ireturn, 1) := by decide +kernel
def DL_pair : xD := (yL_pair, cL_pair, 5, some .int, [(0, 10, 13, 22), (0, 10, 17, 13)], 12)
theorem lk_L_91 : xLnk RL 91 yX9_pair ∨ xNst RL 91 yX9_pair := Or.inl (gdm 1438 (by decide +kernel) rfl)
theorem calw_L_pair : xCalW DL_pair 4 := ⟨by simp [DL_pair, dh], gdm 1437 (by decide +kernel) rfl, gdm 167 (by decide +kernel) rfl, (by decide +kernel), Nat.le_of_ble_eq_true rfl⟩
theorem staw_L_pair : xSta DL_pair := gdm 1436 (by decide +kernel) rfl
theorem lkw_L_pair : xLnk RL 224 yL_pair := gdm 1435 (by decide +kernel) rfl
theorem cal_X9_pair : xCal DX9_pair 2 := ⟨rfl, gdm 1441 (by decide +kernel) rfl, gdm 168 (by decide +kernel) rfl, (by decide +kernel), Nat.le_of_ble_eq_true rfl⟩
theorem vir_X9_pair : xVir DX9_pair := ⟨gdm 1439 (by decide +kernel) rfl, gdm 1440 (by decide +kernel) rfl⟩
theorem dL_pair_0 : decode (dc DL_pair) 0 = .ok (.aload_n 3, 1) := by decide +kernel
theorem dL_pair_1 : decode (dc DL_pair) 1 = .ok (.iconst 0, 1) := by decide +kernel
theorem dL_pair_2 : decode (dc DL_pair) 2 = .ok (.aload_n 0, 1) := by decide +kernel
theorem dL_pair_3 : decode (dc DL_pair) 3 = .ok (.iload_n 1, 1) := by decide +kernel
theorem dL_pair_4 : decode (dc DL_pair) 4 = .ok (.iload_n 2, 1) := by decide +kernel
theorem dL_pair_5 : decode (dc DL_pair) 5 = .ok (.invokevirtual 91, 3) := by decide +kernel
theorem dL_pair_8 : decode (dc DL_pair) 8 = .ok (.i2l, 1) := by decide +kernel
theorem dL_pair_9 : decode (dc DL_pair) 9 = .ok (.lastore, 1) := by decide +kernel
theorem dL_pair_10 : decode (dc DL_pair) 10 = .ok (.goto 11, 3) := by decide +kernel
theorem dL_pair_13 : decode (dc DL_pair) 13 = .ok (.astore 4, 2) := by decide +kernel
theorem dL_pair_15 : decode (dc DL_pair) 15 = .ok (.iconst 1, 1) := by decide +kernel
theorem dL_pair_16 : decode (dc DL_pair) 16 = .ok (.ireturn, 1) := by decide +kernel
theorem dL_pair_17 : decode (dc DL_pair) 17 = .ok (.astore 4, 2) := by decide +kernel
theorem dL_pair_19 : decode (dc DL_pair) 19 = .ok (.iconst 2, 1) := by decide +kernel
theorem dL_pair_20 : decode (dc DL_pair) 20 = .ok (.ireturn, 1) := by decide +kernel
theorem dL_pair_21 : decode (dc DL_pair) 21 = .ok (.iconst 0, 1) := by decide +kernel
theorem dL_pair_22 : decode (dc DL_pair) 22 = .ok (.ireturn, 1) := by decide +kernel
def DL_part : xD := (yL_part, cL_part, 4, some .int, [(0, 9, 12, 22), (0, 9, 15, 13)], 12)
theorem lk_L_94 : xLnk RL 94 yX9_part ∨ xNst RL 94 yX9_part := Or.inl (gdm 1446 (by decide +kernel) rfl)
theorem calw_L_part : xCalW DL_part 3 := ⟨by simp [DL_part, dh], gdm 1445 (by decide +kernel) rfl, gdm 167 (by decide +kernel) rfl, (by decide +kernel), Nat.le_of_ble_eq_true rfl⟩
theorem staw_L_part : xSta DL_part := gdm 1444 (by decide +kernel) rfl
theorem lkw_L_part : xLnk RL 227 yL_part := gdm 1443 (by decide +kernel) rfl
theorem cal_X9_part : xCal DX9_part 1 := ⟨rfl, gdm 1449 (by decide +kernel) rfl, gdm 168 (by decide +kernel) rfl, (by decide +kernel), Nat.le_of_ble_eq_true rfl⟩
theorem vir_X9_part : xVir DX9_part := ⟨gdm 1447 (by decide +kernel) rfl, gdm 1448 (by decide +kernel) rfl⟩
theorem dL_part_0 : decode (dc DL_part) 0 = .ok (.aload_n 2, 1) := by decide +kernel
theorem dL_part_1 : decode (dc DL_part) 1 = .ok (.iconst 0, 1) := by decide +kernel
theorem dL_part_2 : decode (dc DL_part) 2 = .ok (.aload_n 0, 1) := by decide +kernel
theorem dL_part_3 : decode (dc DL_part) 3 = .ok (.iload_n 1, 1) := by decide +kernel
theorem dL_part_4 : decode (dc DL_part) 4 = .ok (.invokevirtual 94, 3) := by decide +kernel
theorem dL_part_7 : decode (dc DL_part) 7 = .ok (.i2l, 1) := by decide +kernel
theorem dL_part_8 : decode (dc DL_part) 8 = .ok (.lastore, 1) := by decide +kernel
theorem dL_part_9 : decode (dc DL_part) 9 = .ok (.goto 9, 3) := by decide +kernel
theorem dL_part_12 : decode (dc DL_part) 12 = .ok (.astore_n 3, 1) := by decide +kernel
theorem dL_part_13 : decode (dc DL_part) 13 = .ok (.iconst 1, 1) := by decide +kernel
theorem dL_part_14 : decode (dc DL_part) 14 = .ok (.ireturn, 1) := by decide +kernel
theorem dL_part_15 : decode (dc DL_part) 15 = .ok (.astore_n 3, 1) := by decide +kernel
theorem dL_part_16 : decode (dc DL_part) 16 = .ok (.iconst 2, 1) := by decide +kernel
theorem dL_part_17 : decode (dc DL_part) 17 = .ok (.ireturn, 1) := by decide +kernel
theorem dL_part_18 : decode (dc DL_part) 18 = .ok (.iconst 0, 1) := by decide +kernel
theorem dL_part_19 : decode (dc DL_part) 19 = .ok (.ireturn, 1) := by decide +kernel
def DL_weight : xD := (yL_weight, cL_weight, 5, some .int, [(0, 10, 13, 22), (0, 10, 17, 13)], 12)
theorem lk_L_97 : xLnk RL 97 yX9_weight ∨ xNst RL 97 yX9_weight := Or.inl (gdm 1454 (by decide +kernel) rfl)
theorem calw_L_weight : xCalW DL_weight 4 := ⟨by simp [DL_weight, dh], gdm 1453 (by decide +kernel) rfl, gdm 167 (by decide +kernel) rfl, (by decide +kernel), Nat.le_of_ble_eq_true rfl⟩
theorem staw_L_weight : xSta DL_weight := gdm 1452 (by decide +kernel) rfl
theorem lkw_L_weight : xLnk RL 230 yL_weight := gdm 1451 (by decide +kernel) rfl
theorem cal_X9_weight : xCal DX9_weight 2 := ⟨rfl, gdm 1457 (by decide +kernel) rfl, gdm 168 (by decide +kernel) rfl, (by decide +kernel), Nat.le_of_ble_eq_true rfl⟩
theorem vir_X9_weight : xVir DX9_weight := ⟨gdm 1455 (by decide +kernel) rfl, gdm 1456 (by decide +kernel) rfl⟩
theorem dL_weight_0 : decode (dc DL_weight) 0 = .ok (.aload_n 3, 1) := by decide +kernel
theorem dL_weight_1 : decode (dc DL_weight) 1 = .ok (.iconst 0, 1) := by decide +kernel
theorem dL_weight_2 : decode (dc DL_weight) 2 = .ok (.aload_n 0, 1) := by decide +kernel
theorem dL_weight_3 : decode (dc DL_weight) 3 = .ok (.iload_n 1, 1) := by decide +kernel
theorem dL_weight_4 : decode (dc DL_weight) 4 = .ok (.iload_n 2, 1) := by decide +kernel
theorem dL_weight_5 : decode (dc DL_weight) 5 = .ok (.invokevirtual 97, 3) := by decide +kernel
theorem dL_weight_8 : decode (dc DL_weight) 8 = .ok (.i2l, 1) := by decide +kernel
theorem dL_weight_9 : decode (dc DL_weight) 9 = .ok (.lastore, 1) := by decide +kernel
theorem dL_weight_10 : decode (dc DL_weight) 10 = .ok (.goto 11, 3) := by decide +kernel
theorem dL_weight_13 : decode (dc DL_weight) 13 = .ok (.astore 4, 2) := by decide +kernel
theorem dL_weight_15 : decode (dc DL_weight) 15 = .ok (.iconst 1, 1) := by decide +kernel
theorem dL_weight_16 : decode (dc DL_weight) 16 = .ok (.ireturn, 1) := by decide +kernel
theorem dL_weight_17 : decode (dc DL_weight) 17 = .ok (.astore 4, 2) := by decide +kernel
theorem dL_weight_19 : decode (dc DL_weight) 19 = .ok (.iconst 2, 1) := by decide +kernel
theorem dL_weight_20 : decode (dc DL_weight) 20 = .ok (.ireturn, 1) := by decide +kernel
theorem dL_weight_21 : decode (dc DL_weight) 21 = .ok (.iconst 0, 1) := by decide +kernel
theorem dL_weight_22 : decode (dc DL_weight) 22 = .ok (.ireturn, 1) := by decide +kernel
def DL_keep : xD := (yL_keep, cL_keep, 4, some .int, [(0, 9, 12, 13)], 12)
theorem lk_L_100 : xLnk RL 100 yX9_keep ∨ xNst RL 100 yX9_keep := Or.inl (gdm 1462 (by decide +kernel) rfl)
theorem calw_L_keep : xCalW DL_keep 3 := ⟨by simp [DL_keep, dh], gdm 1461 (by decide +kernel) rfl, gdm 167 (by decide +kernel) rfl, (by decide +kernel), Nat.le_of_ble_eq_true rfl⟩
theorem staw_L_keep : xSta DL_keep := gdm 1460 (by decide +kernel) rfl
theorem lkw_L_keep : xLnk RL 237 yL_keep := gdm 1459 (by decide +kernel) rfl
theorem cal_X9_keep : xCal DX9_keep 1 := ⟨rfl, gdm 1465 (by decide +kernel) rfl, gdm 168 (by decide +kernel) rfl, (by decide +kernel), Nat.le_of_ble_eq_true rfl⟩
theorem vir_X9_keep : xVir DX9_keep := ⟨gdm 1463 (by decide +kernel) rfl, gdm 1464 (by decide +kernel) rfl⟩
theorem dL_keep_0 : decode (dc DL_keep) 0 = .ok (.aload_n 2, 1) := by decide +kernel
theorem dL_keep_1 : decode (dc DL_keep) 1 = .ok (.iconst 0, 1) := by decide +kernel
theorem dL_keep_2 : decode (dc DL_keep) 2 = .ok (.aload_n 0, 1) := by decide +kernel
theorem dL_keep_3 : decode (dc DL_keep) 3 = .ok (.iload_n 1, 1) := by decide +kernel
theorem dL_keep_4 : decode (dc DL_keep) 4 = .ok (.invokevirtual 100, 3) := by decide +kernel
theorem dL_keep_7 : decode (dc DL_keep) 7 = .ok (.i2l, 1) := by decide +kernel
theorem dL_keep_8 : decode (dc DL_keep) 8 = .ok (.lastore, 1) := by decide +kernel
theorem dL_keep_9 : decode (dc DL_keep) 9 = .ok (.goto 6, 3) := by decide +kernel
theorem dL_keep_12 : decode (dc DL_keep) 12 = .ok (.astore_n 3, 1) := by decide +kernel
theorem dL_keep_13 : decode (dc DL_keep) 13 = .ok (.iconst 1, 1) := by decide +kernel
theorem dL_keep_14 : decode (dc DL_keep) 14 = .ok (.ireturn, 1) := by decide +kernel
theorem dL_keep_15 : decode (dc DL_keep) 15 = .ok (.iconst 0, 1) := by decide +kernel
theorem dL_keep_16 : decode (dc DL_keep) 16 = .ok (.ireturn, 1) := by decide +kernel
def DL_settle : xD := (yL_settle, cL_settle, 4, some .int, [(0, 9, 12, 13)], 12)
theorem lk_L_103 : xLnk RL 103 yX9_settle ∨ xNst RL 103 yX9_settle := Or.inl (gdm 1469 (by decide +kernel) rfl)
theorem calw_L_settle : xCalW DL_settle 3 := ⟨by simp [DL_settle, dh], gdm 1468 (by decide +kernel) rfl, gdm 167 (by decide +kernel) rfl, (by decide +kernel), Nat.le_of_ble_eq_true rfl⟩
theorem staw_L_settle : xSta DL_settle := gdm 1467 (by decide +kernel) rfl
theorem lkw_L_settle : xLnk RL 240 yL_settle := gdm 1466 (by decide +kernel) rfl
theorem cal_X9_settle : xCal DX9_settle 1 := ⟨rfl, gdm 1472 (by decide +kernel) rfl, gdm 168 (by decide +kernel) rfl, (by decide +kernel), Nat.le_of_ble_eq_true rfl⟩
theorem vir_X9_settle : xVir DX9_settle := ⟨gdm 1470 (by decide +kernel) rfl, gdm 1471 (by decide +kernel) rfl⟩
theorem dL_settle_0 : decode (dc DL_settle) 0 = .ok (.aload_n 2, 1) := by decide +kernel
theorem dL_settle_1 : decode (dc DL_settle) 1 = .ok (.iconst 0, 1) := by decide +kernel
theorem dL_settle_2 : decode (dc DL_settle) 2 = .ok (.aload_n 0, 1) := by decide +kernel
theorem dL_settle_3 : decode (dc DL_settle) 3 = .ok (.iload_n 1, 1) := by decide +kernel
theorem dL_settle_4 : decode (dc DL_settle) 4 = .ok (.invokevirtual 103, 3) := by decide +kernel
theorem dL_settle_7 : decode (dc DL_settle) 7 = .ok (.i2l, 1) := by decide +kernel
theorem dL_settle_8 : decode (dc DL_settle) 8 = .ok (.lastore, 1) := by decide +kernel
theorem dL_settle_9 : decode (dc DL_settle) 9 = .ok (.goto 6, 3) := by decide +kernel
theorem dL_settle_12 : decode (dc DL_settle) 12 = .ok (.astore_n 3, 1) := by decide +kernel
theorem dL_settle_13 : decode (dc DL_settle) 13 = .ok (.iconst 1, 1) := by decide +kernel
theorem dL_settle_14 : decode (dc DL_settle) 14 = .ok (.ireturn, 1) := by decide +kernel
theorem dL_settle_15 : decode (dc DL_settle) 15 = .ok (.iconst 0, 1) := by decide +kernel
theorem dL_settle_16 : decode (dc DL_settle) 16 = .ok (.ireturn, 1) := by decide +kernel
