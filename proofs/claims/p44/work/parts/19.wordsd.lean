/-! methods, and what the tables say of them (by program) -/
theorem fd_X9_209 : xFld RX9 209 5 1 (.int) false := ⟨RX5, TX5, 5, tyX5, kc_X5, Nat.le_of_ble_eq_true rfl, rfl, rfl, Or.inr ⟨"PairKeeper", nwm 327 (by decide +kernel) rfl⟩⟩
theorem fd_X9_237 : xFld RX9 237 8 5 (.long) false := ⟨RX8, TX8, 8, tyX8, kc_X8, Nat.le_of_ble_eq_true rfl, rfl, rfl, Or.inr ⟨"PairKeeper", nwm 394 (by decide +kernel) rfl⟩⟩
theorem fd_X9_241 : xFld RX9 241 8 7 (.int) false := ⟨RX8, TX8, 8, tyX8, kc_X8, Nat.le_of_ble_eq_true rfl, rfl, rfl, Or.inr ⟨"PairKeeper", nwm 398 (by decide +kernel) rfl⟩⟩
theorem fd_X9_246 : xFld RX9 246 8 6 (.long) false := ⟨RX8, TX8, 8, tyX8, kc_X8, Nat.le_of_ble_eq_true rfl, rfl, rfl, Or.inr ⟨"PairKeeper", nwm 396 (by decide +kernel) rfl⟩⟩
theorem fd_X9_290 : xFld RX9 290 1 5 (.int) false := ⟨RX1, TX1, 6, tyX1, kc_X1, Nat.le_of_ble_eq_true rfl, rfl, rfl, Or.inr ⟨"PairKeeper", nwm 429 (by decide +kernel) rfl⟩⟩
theorem fd_X9_361 : xFld RX9 361 5 2 (.int) false := ⟨RX5, TX5, 5, tyX5, kc_X5, Nat.le_of_ble_eq_true rfl, rfl, rfl, Or.inr ⟨"PairKeeper", nwm 329 (by decide +kernel) rfl⟩⟩
theorem fd_X9_364 : xFld RX9 364 5 3 (.int) false := ⟨RX5, TX5, 5, tyX5, kc_X5, Nat.le_of_ble_eq_true rfl, rfl, rfl, Or.inr ⟨"PairKeeper", nwm 331 (by decide +kernel) rfl⟩⟩
theorem fd_X0_9 : xFld RX0 9 0 5 (.array .int) true := ⟨RX0, TX0, 10, tyX0, kc_X0, Nat.le_of_ble_eq_true rfl, rfl, rfl, Or.inl (gdm 189 (by decide +kernel) rfl)⟩
theorem fd_X0_15 : xFld RX0 15 0 6 (.array .int) true := ⟨RX0, TX0, 10, tyX0, kc_X0, Nat.le_of_ble_eq_true rfl, rfl, rfl, Or.inl (gdm 190 (by decide +kernel) rfl)⟩
theorem fd_X0_18 : xFld RX0 18 0 7 (.array .int) true := ⟨RX0, TX0, 10, tyX0, kc_X0, Nat.le_of_ble_eq_true rfl, rfl, rfl, Or.inl (gdm 191 (by decide +kernel) rfl)⟩
theorem fd_X0_21 : xFld RX0 21 0 8 (.array .int) true := ⟨RX0, TX0, 10, tyX0, kc_X0, Nat.le_of_ble_eq_true rfl, rfl, rfl, Or.inl (gdm 192 (by decide +kernel) rfl)⟩
theorem fd_X0_27 : xFld RX0 27 0 9 (.object "PairKeeper$Pairs") true := ⟨RX0, TX0, 10, tyX0, kc_X0, Nat.le_of_ble_eq_true rfl, rfl, rfl, Or.inl (gdm 193 (by decide +kernel) rfl)⟩
theorem fd_X0_35 : xFld RX0 35 0 0 (.int) false := ⟨RX0, TX0, 10, tyX0, kc_X0, Nat.le_of_ble_eq_true rfl, rfl, rfl, Or.inl (gdm 170 (by decide +kernel) rfl)⟩
theorem fd_X0_39 : xFld RX0 39 0 1 (.int) false := ⟨RX0, TX0, 10, tyX0, kc_X0, Nat.le_of_ble_eq_true rfl, rfl, rfl, Or.inl (gdm 175 (by decide +kernel) rfl)⟩
theorem fd_X0_46 : xFld RX0 46 0 2 (.int) false := ⟨RX0, TX0, 10, tyX0, kc_X0, Nat.le_of_ble_eq_true rfl, rfl, rfl, Or.inl (gdm 180 (by decide +kernel) rfl)⟩
theorem fd_X0_49 : xFld RX0 49 0 3 (.int) false := ⟨RX0, TX0, 10, tyX0, kc_X0, Nat.le_of_ble_eq_true rfl, rfl, rfl, Or.inl (gdm 183 (by decide +kernel) rfl)⟩
theorem fd_X0_52 : xFld RX0 52 0 4 (.int) false := ⟨RX0, TX0, 10, tyX0, kc_X0, Nat.le_of_ble_eq_true rfl, rfl, rfl, Or.inl (gdm 186 (by decide +kernel) rfl)⟩
theorem fd_X1_9 : xFld RX1 9 1 0 (.array .int) true := ⟨RX1, TX1, 6, tyX1, kc_X1, Nat.le_of_ble_eq_true rfl, rfl, rfl, Or.inl (gdm 423 (by decide +kernel) rfl)⟩
theorem fd_X1_15 : xFld RX1 15 1 1 (.array .int) true := ⟨RX1, TX1, 6, tyX1, kc_X1, Nat.le_of_ble_eq_true rfl, rfl, rfl, Or.inl (gdm 424 (by decide +kernel) rfl)⟩
theorem fd_X1_18 : xFld RX1 18 1 2 (.array .int) true := ⟨RX1, TX1, 6, tyX1, kc_X1, Nat.le_of_ble_eq_true rfl, rfl, rfl, Or.inl (gdm 425 (by decide +kernel) rfl)⟩
theorem fd_X1_21 : xFld RX1 21 1 3 (.array .int) true := ⟨RX1, TX1, 6, tyX1, kc_X1, Nat.le_of_ble_eq_true rfl, rfl, rfl, Or.inl (gdm 426 (by decide +kernel) rfl)⟩
theorem fd_X1_24 : xFld RX1 24 1 4 (.array .int) true := ⟨RX1, TX1, 6, tyX1, kc_X1, Nat.le_of_ble_eq_true rfl, rfl, rfl, Or.inl (gdm 427 (by decide +kernel) rfl)⟩
theorem fd_X1_27 : xFld RX1 27 1 5 (.int) false := ⟨RX1, TX1, 6, tyX1, kc_X1, Nat.le_of_ble_eq_true rfl, rfl, rfl, Or.inl (gdm 428 (by decide +kernel) rfl)⟩
theorem fd_X1_31 : xFld RX1 31 0 0 (.int) false := ⟨RX0, TX0, 10, tyX0, kc_X0, Nat.le_of_ble_eq_true rfl, rfl, rfl, Or.inr ⟨"PairKeeper", nwm 172 (by decide +kernel) rfl⟩⟩
theorem fd_X1_36 : xFld RX1 36 0 1 (.int) false := ⟨RX0, TX0, 10, tyX0, kc_X0, Nat.le_of_ble_eq_true rfl, rfl, rfl, Or.inr ⟨"PairKeeper", nwm 177 (by decide +kernel) rfl⟩⟩
theorem fd_X2_11 : xFld RX2 11 2 0 (.array (.object "PairKeeper$Book")) true := ⟨RX2, TX2, 3, tyX2, kc_X2, Nat.le_of_ble_eq_true rfl, rfl, rfl, Or.inl (gdm 227 (by decide +kernel) rfl)⟩
theorem fd_X2_17 : xFld RX2 17 2 1 (.int) false := ⟨RX2, TX2, 3, tyX2, kc_X2, Nat.le_of_ble_eq_true rfl, rfl, rfl, Or.inl (gdm 228 (by decide +kernel) rfl)⟩
theorem fd_X2_21 : xFld RX2 21 2 2 (.int) false := ⟨RX2, TX2, 3, tyX2, kc_X2, Nat.le_of_ble_eq_true rfl, rfl, rfl, Or.inl (gdm 229 (by decide +kernel) rfl)⟩
theorem fd_X3_9 : xFld RX3 9 3 0 (.array .int) true := ⟨RX3, TX3, 2, tyX3, kc_X3, Nat.le_of_ble_eq_true rfl, rfl, rfl, Or.inl (gdm 154 (by decide +kernel) rfl)⟩
theorem fd_X3_15 : xFld RX3 15 3 1 (.array .int) true := ⟨RX3, TX3, 2, tyX3, kc_X3, Nat.le_of_ble_eq_true rfl, rfl, rfl, Or.inl (gdm 155 (by decide +kernel) rfl)⟩
theorem fd_X4_9 : xFld RX4 9 4 0 (.array .int) true := ⟨RX4, TX4, 9, tyX4, kc_X4, Nat.le_of_ble_eq_true rfl, rfl, rfl, Or.inl (gdm 350 (by decide +kernel) rfl)⟩
theorem fd_X4_15 : xFld RX4 15 4 1 (.array .int) true := ⟨RX4, TX4, 9, tyX4, kc_X4, Nat.le_of_ble_eq_true rfl, rfl, rfl, Or.inl (gdm 351 (by decide +kernel) rfl)⟩
theorem fd_X4_18 : xFld RX4 18 4 2 (.array .int) true := ⟨RX4, TX4, 9, tyX4, kc_X4, Nat.le_of_ble_eq_true rfl, rfl, rfl, Or.inl (gdm 352 (by decide +kernel) rfl)⟩
theorem fd_X4_21 : xFld RX4 21 4 3 (.array .int) true := ⟨RX4, TX4, 9, tyX4, kc_X4, Nat.le_of_ble_eq_true rfl, rfl, rfl, Or.inl (gdm 353 (by decide +kernel) rfl)⟩
theorem fd_X4_24 : xFld RX4 24 4 4 (.int) false := ⟨RX4, TX4, 9, tyX4, kc_X4, Nat.le_of_ble_eq_true rfl, rfl, rfl, Or.inl (gdm 354 (by decide +kernel) rfl)⟩
theorem fd_X4_28 : xFld RX4 28 4 5 (.int) false := ⟨RX4, TX4, 9, tyX4, kc_X4, Nat.le_of_ble_eq_true rfl, rfl, rfl, Or.inl (gdm 355 (by decide +kernel) rfl)⟩
theorem fd_X4_31 : xFld RX4 31 4 6 (.int) false := ⟨RX4, TX4, 9, tyX4, kc_X4, Nat.le_of_ble_eq_true rfl, rfl, rfl, Or.inl (gdm 357 (by decide +kernel) rfl)⟩
theorem fd_X4_34 : xFld RX4 34 4 7 (.int) false := ⟨RX4, TX4, 9, tyX4, kc_X4, Nat.le_of_ble_eq_true rfl, rfl, rfl, Or.inl (gdm 359 (by decide +kernel) rfl)⟩
theorem fd_X4_37 : xFld RX4 37 4 8 (.int) false := ⟨RX4, TX4, 9, tyX4, kc_X4, Nat.le_of_ble_eq_true rfl, rfl, rfl, Or.inl (gdm 361 (by decide +kernel) rfl)⟩
theorem fd_X4_40 : xFld RX4 40 7 0 (.object "PairKeeper$Pairs") true := ⟨RX7, TX7, 10, tyX7, kc_X7, Nat.le_of_ble_eq_true rfl, rfl, rfl, Or.inr ⟨"PairKeeper", nwm 279 (by decide +kernel) rfl⟩⟩
theorem fd_X4_55 : xFld RX4 55 7 6 (.int) false := ⟨RX7, TX7, 10, tyX7, kc_X7, Nat.le_of_ble_eq_true rfl, rfl, rfl, Or.inr ⟨"PairKeeper", nwm 288 (by decide +kernel) rfl⟩⟩
theorem fd_X4_70 : xFld RX4 70 7 8 (.int) false := ⟨RX7, TX7, 10, tyX7, kc_X7, Nat.le_of_ble_eq_true rfl, rfl, rfl, Or.inr ⟨"PairKeeper", nwm 294 (by decide +kernel) rfl⟩⟩
theorem fd_X5_9 : xFld RX5 9 5 0 (.int) false := ⟨RX5, TX5, 5, tyX5, kc_X5, Nat.le_of_ble_eq_true rfl, rfl, rfl, Or.inl (gdm 324 (by decide +kernel) rfl)⟩
theorem fd_X5_15 : xFld RX5 15 5 1 (.int) false := ⟨RX5, TX5, 5, tyX5, kc_X5, Nat.le_of_ble_eq_true rfl, rfl, rfl, Or.inl (gdm 326 (by decide +kernel) rfl)⟩
theorem fd_X5_18 : xFld RX5 18 5 2 (.int) false := ⟨RX5, TX5, 5, tyX5, kc_X5, Nat.le_of_ble_eq_true rfl, rfl, rfl, Or.inl (gdm 328 (by decide +kernel) rfl)⟩
theorem fd_X5_21 : xFld RX5 21 5 3 (.int) false := ⟨RX5, TX5, 5, tyX5, kc_X5, Nat.le_of_ble_eq_true rfl, rfl, rfl, Or.inl (gdm 330 (by decide +kernel) rfl)⟩
theorem fd_X5_24 : xFld RX5 24 5 4 (.array .int) true := ⟨RX5, TX5, 5, tyX5, kc_X5, Nat.le_of_ble_eq_true rfl, rfl, rfl, Or.inl (gdm 332 (by decide +kernel) rfl)⟩
theorem fd_X5_28 : xFld RX5 28 7 8 (.int) false := ⟨RX7, TX7, 10, tyX7, kc_X7, Nat.le_of_ble_eq_true rfl, rfl, rfl, Or.inr ⟨"PairKeeper", nwm 292 (by decide +kernel) rfl⟩⟩
theorem fd_X5_33 : xFld RX5 33 7 0 (.object "PairKeeper$Pairs") true := ⟨RX7, TX7, 10, tyX7, kc_X7, Nat.le_of_ble_eq_true rfl, rfl, rfl, Or.inr ⟨"PairKeeper", nwm 280 (by decide +kernel) rfl⟩⟩
theorem fd_X5_47 : xFld RX5 47 7 9 (.int) false := ⟨RX7, TX7, 10, tyX7, kc_X7, Nat.le_of_ble_eq_true rfl, rfl, rfl, Or.inr ⟨"PairKeeper", nwm 296 (by decide +kernel) rfl⟩⟩
theorem fd_X6_9 : xFld RX6 9 6 0 (.array .int) true := ⟨RX6, TX6, 8, tyX6, kc_X6, Nat.le_of_ble_eq_true rfl, rfl, rfl, Or.inl (gdm 244 (by decide +kernel) rfl)⟩
theorem fd_X6_15 : xFld RX6 15 6 1 (.int) false := ⟨RX6, TX6, 8, tyX6, kc_X6, Nat.le_of_ble_eq_true rfl, rfl, rfl, Or.inl (gdm 245 (by decide +kernel) rfl)⟩
theorem fd_X6_19 : xFld RX6 19 6 2 (.int) false := ⟨RX6, TX6, 8, tyX6, kc_X6, Nat.le_of_ble_eq_true rfl, rfl, rfl, Or.inl (gdm 247 (by decide +kernel) rfl)⟩
theorem fd_X6_22 : xFld RX6 22 6 3 (.int) false := ⟨RX6, TX6, 8, tyX6, kc_X6, Nat.le_of_ble_eq_true rfl, rfl, rfl, Or.inl (gdm 248 (by decide +kernel) rfl)⟩
theorem fd_X6_25 : xFld RX6 25 6 4 (.int) false := ⟨RX6, TX6, 8, tyX6, kc_X6, Nat.le_of_ble_eq_true rfl, rfl, rfl, Or.inl (gdm 249 (by decide +kernel) rfl)⟩
theorem fd_X6_28 : xFld RX6 28 6 5 (.int) false := ⟨RX6, TX6, 8, tyX6, kc_X6, Nat.le_of_ble_eq_true rfl, rfl, rfl, Or.inl (gdm 250 (by decide +kernel) rfl)⟩
theorem fd_X6_31 : xFld RX6 31 6 6 (.int) false := ⟨RX6, TX6, 8, tyX6, kc_X6, Nat.le_of_ble_eq_true rfl, rfl, rfl, Or.inl (gdm 251 (by decide +kernel) rfl)⟩
theorem fd_X6_34 : xFld RX6 34 6 7 (.boolean) false := ⟨RX6, TX6, 8, tyX6, kc_X6, Nat.le_of_ble_eq_true rfl, rfl, rfl, Or.inl (gdm 252 (by decide +kernel) rfl)⟩
theorem fd_X6_108 : xFld RX6 108 0 0 (.int) false := ⟨RX0, TX0, 10, tyX0, kc_X0, Nat.le_of_ble_eq_true rfl, rfl, rfl, Or.inr ⟨"PairKeeper", nwm 174 (by decide +kernel) rfl⟩⟩
theorem fd_X6_110 : xFld RX6 110 0 1 (.int) false := ⟨RX0, TX0, 10, tyX0, kc_X0, Nat.le_of_ble_eq_true rfl, rfl, rfl, Or.inr ⟨"PairKeeper", nwm 179 (by decide +kernel) rfl⟩⟩
theorem fd_X6_141 : xFld RX6 141 0 9 (.object "PairKeeper$Pairs") true := ⟨RX0, TX0, 10, tyX0, kc_X0, Nat.le_of_ble_eq_true rfl, rfl, rfl, Or.inr ⟨"PairKeeper", nwm 196 (by decide +kernel) rfl⟩⟩
theorem fd_X6_153 : xFld RX6 153 0 4 (.int) false := ⟨RX0, TX0, 10, tyX0, kc_X0, Nat.le_of_ble_eq_true rfl, rfl, rfl, Or.inr ⟨"PairKeeper", nwm 188 (by decide +kernel) rfl⟩⟩
theorem fd_X7_12 : xFld RX7 12 7 0 (.object "PairKeeper$Pairs") true := ⟨RX7, TX7, 10, tyX7, kc_X7, Nat.le_of_ble_eq_true rfl, rfl, rfl, Or.inl (gdm 278 (by decide +kernel) rfl)⟩
theorem fd_X7_18 : xFld RX7 18 7 1 (.array .int) true := ⟨RX7, TX7, 10, tyX7, kc_X7, Nat.le_of_ble_eq_true rfl, rfl, rfl, Or.inl (gdm 282 (by decide +kernel) rfl)⟩
theorem fd_X7_22 : xFld RX7 22 7 2 (.array .int) true := ⟨RX7, TX7, 10, tyX7, kc_X7, Nat.le_of_ble_eq_true rfl, rfl, rfl, Or.inl (gdm 283 (by decide +kernel) rfl)⟩
theorem fd_X7_25 : xFld RX7 25 7 3 (.array .int) true := ⟨RX7, TX7, 10, tyX7, kc_X7, Nat.le_of_ble_eq_true rfl, rfl, rfl, Or.inl (gdm 284 (by decide +kernel) rfl)⟩
theorem fd_X7_28 : xFld RX7 28 7 4 (.array .int) true := ⟨RX7, TX7, 10, tyX7, kc_X7, Nat.le_of_ble_eq_true rfl, rfl, rfl, Or.inl (gdm 285 (by decide +kernel) rfl)⟩
theorem fd_X7_31 : xFld RX7 31 7 5 (.int) false := ⟨RX7, TX7, 10, tyX7, kc_X7, Nat.le_of_ble_eq_true rfl, rfl, rfl, Or.inl (gdm 286 (by decide +kernel) rfl)⟩
theorem fd_X7_35 : xFld RX7 35 7 6 (.int) false := ⟨RX7, TX7, 10, tyX7, kc_X7, Nat.le_of_ble_eq_true rfl, rfl, rfl, Or.inl (gdm 287 (by decide +kernel) rfl)⟩
theorem fd_X7_38 : xFld RX7 38 7 7 (.int) false := ⟨RX7, TX7, 10, tyX7, kc_X7, Nat.le_of_ble_eq_true rfl, rfl, rfl, Or.inl (gdm 289 (by decide +kernel) rfl)⟩
theorem fd_X7_41 : xFld RX7 41 7 8 (.int) false := ⟨RX7, TX7, 10, tyX7, kc_X7, Nat.le_of_ble_eq_true rfl, rfl, rfl, Or.inl (gdm 291 (by decide +kernel) rfl)⟩
theorem fd_X7_44 : xFld RX7 44 7 9 (.int) false := ⟨RX7, TX7, 10, tyX7, kc_X7, Nat.le_of_ble_eq_true rfl, rfl, rfl, Or.inl (gdm 295 (by decide +kernel) rfl)⟩
theorem fd_X7_47 : xFld RX7 47 0 0 (.int) false := ⟨RX0, TX0, 10, tyX0, kc_X0, Nat.le_of_ble_eq_true rfl, rfl, rfl, Or.inr ⟨"PairKeeper", nwm 171 (by decide +kernel) rfl⟩⟩
theorem fd_X7_56 : xFld RX7 56 0 1 (.int) false := ⟨RX0, TX0, 10, tyX0, kc_X0, Nat.le_of_ble_eq_true rfl, rfl, rfl, Or.inr ⟨"PairKeeper", nwm 176 (by decide +kernel) rfl⟩⟩
theorem fd_X7_57 : xFld RX7 57 0 2 (.int) false := ⟨RX0, TX0, 10, tyX0, kc_X0, Nat.le_of_ble_eq_true rfl, rfl, rfl, Or.inr ⟨"PairKeeper", nwm 181 (by decide +kernel) rfl⟩⟩
theorem fd_X7_58 : xFld RX7 58 0 3 (.int) false := ⟨RX0, TX0, 10, tyX0, kc_X0, Nat.le_of_ble_eq_true rfl, rfl, rfl, Or.inr ⟨"PairKeeper", nwm 184 (by decide +kernel) rfl⟩⟩
theorem fd_X7_67 : xFld RX7 67 0 9 (.object "PairKeeper$Pairs") true := ⟨RX0, TX0, 10, tyX0, kc_X0, Nat.le_of_ble_eq_true rfl, rfl, rfl, Or.inr ⟨"PairKeeper", nwm 194 (by decide +kernel) rfl⟩⟩
theorem fd_X8_9 : xFld RX8 9 8 0 (.array .long) true := ⟨RX8, TX8, 8, tyX8, kc_X8, Nat.le_of_ble_eq_true rfl, rfl, rfl, Or.inl (gdm 388 (by decide +kernel) rfl)⟩
theorem fd_X8_15 : xFld RX8 15 8 1 (.array .long) true := ⟨RX8, TX8, 8, tyX8, kc_X8, Nat.le_of_ble_eq_true rfl, rfl, rfl, Or.inl (gdm 389 (by decide +kernel) rfl)⟩
theorem fd_X8_18 : xFld RX8 18 8 2 (.array .long) true := ⟨RX8, TX8, 8, tyX8, kc_X8, Nat.le_of_ble_eq_true rfl, rfl, rfl, Or.inl (gdm 390 (by decide +kernel) rfl)⟩
theorem fd_X8_21 : xFld RX8 21 8 3 (.array .int) true := ⟨RX8, TX8, 8, tyX8, kc_X8, Nat.le_of_ble_eq_true rfl, rfl, rfl, Or.inl (gdm 391 (by decide +kernel) rfl)⟩
theorem fd_X8_25 : xFld RX8 25 8 4 (.array .int) true := ⟨RX8, TX8, 8, tyX8, kc_X8, Nat.le_of_ble_eq_true rfl, rfl, rfl, Or.inl (gdm 392 (by decide +kernel) rfl)⟩
theorem fd_X8_28 : xFld RX8 28 8 5 (.long) false := ⟨RX8, TX8, 8, tyX8, kc_X8, Nat.le_of_ble_eq_true rfl, rfl, rfl, Or.inl (gdm 393 (by decide +kernel) rfl)⟩
theorem fd_X8_32 : xFld RX8 32 8 6 (.long) false := ⟨RX8, TX8, 8, tyX8, kc_X8, Nat.le_of_ble_eq_true rfl, rfl, rfl, Or.inl (gdm 395 (by decide +kernel) rfl)⟩
theorem fd_X8_35 : xFld RX8 35 8 7 (.int) false := ⟨RX8, TX8, 8, tyX8, kc_X8, Nat.le_of_ble_eq_true rfl, rfl, rfl, Or.inl (gdm 397 (by decide +kernel) rfl)⟩
theorem fd_X8_39 : xFld RX8 39 7 7 (.int) false := ⟨RX7, TX7, 10, tyX7, kc_X7, Nat.le_of_ble_eq_true rfl, rfl, rfl, Or.inr ⟨"PairKeeper", nwm 290 (by decide +kernel) rfl⟩⟩
theorem fd_X8_54 : xFld RX8 54 7 8 (.int) false := ⟨RX7, TX7, 10, tyX7, kc_X7, Nat.le_of_ble_eq_true rfl, rfl, rfl, Or.inr ⟨"PairKeeper", nwm 293 (by decide +kernel) rfl⟩⟩
theorem fd_L_138 : xFld RL 138 10 0 (.int) false := ⟨RX10, TX10, 8, tyX10, kc_X10, Nat.le_of_ble_eq_true rfl, rfl, rfl, Or.inl (gdm 553 (by decide +kernel) rfl)⟩
theorem fd_L_144 : xFld RL 144 10 1 (.int) false := ⟨RX10, TX10, 8, tyX10, kc_X10, Nat.le_of_ble_eq_true rfl, rfl, rfl, Or.inl (gdm 555 (by decide +kernel) rfl)⟩
theorem fd_L_147 : xFld RL 147 10 3 (.int) false := ⟨RX10, TX10, 8, tyX10, kc_X10, Nat.le_of_ble_eq_true rfl, rfl, rfl, Or.inl (gdm 559 (by decide +kernel) rfl)⟩
theorem fd_L_150 : xFld RL 150 10 4 (.int) false := ⟨RX10, TX10, 8, tyX10, kc_X10, Nat.le_of_ble_eq_true rfl, rfl, rfl, Or.inl (gdm 561 (by decide +kernel) rfl)⟩
theorem fd_L_153 : xFld RL 153 10 2 (.boolean) false := ⟨RX10, TX10, 8, tyX10, kc_X10, Nat.le_of_ble_eq_true rfl, rfl, rfl, Or.inl (gdm 557 (by decide +kernel) rfl)⟩
theorem fd_L_171 : xFld RL 171 10 5 (.array (.array .int)) false := ⟨RX10, TX10, 8, tyX10, kc_X10, Nat.le_of_ble_eq_true rfl, rfl, rfl, Or.inl (gdm 563 (by decide +kernel) rfl)⟩
theorem fd_L_189 : xFld RL 189 10 6 (.array .int) false := ⟨RX10, TX10, 8, tyX10, kc_X10, Nat.le_of_ble_eq_true rfl, rfl, rfl, Or.inl (gdm 565 (by decide +kernel) rfl)⟩
theorem fd_L_195 : xFld RL 195 10 7 (.array .int) false := ⟨RX10, TX10, 8, tyX10, kc_X10, Nat.le_of_ble_eq_true rfl, rfl, rfl, Or.inl (gdm 567 (by decide +kernel) rfl)⟩
theorem fd_X10_7 : xFld RX10 7 10 0 (.int) false := ⟨RX10, TX10, 8, tyX10, kc_X10, Nat.le_of_ble_eq_true rfl, rfl, rfl, Or.inl (gdm 552 (by decide +kernel) rfl)⟩
theorem fd_X10_13 : xFld RX10 13 10 1 (.int) false := ⟨RX10, TX10, 8, tyX10, kc_X10, Nat.le_of_ble_eq_true rfl, rfl, rfl, Or.inl (gdm 554 (by decide +kernel) rfl)⟩
theorem fd_X10_16 : xFld RX10 16 10 2 (.boolean) false := ⟨RX10, TX10, 8, tyX10, kc_X10, Nat.le_of_ble_eq_true rfl, rfl, rfl, Or.inl (gdm 556 (by decide +kernel) rfl)⟩
theorem fd_X10_20 : xFld RX10 20 10 3 (.int) false := ⟨RX10, TX10, 8, tyX10, kc_X10, Nat.le_of_ble_eq_true rfl, rfl, rfl, Or.inl (gdm 558 (by decide +kernel) rfl)⟩
theorem fd_X10_23 : xFld RX10 23 10 4 (.int) false := ⟨RX10, TX10, 8, tyX10, kc_X10, Nat.le_of_ble_eq_true rfl, rfl, rfl, Or.inl (gdm 560 (by decide +kernel) rfl)⟩
theorem fd_X10_28 : xFld RX10 28 10 5 (.array (.array .int)) false := ⟨RX10, TX10, 8, tyX10, kc_X10, Nat.le_of_ble_eq_true rfl, rfl, rfl, Or.inl (gdm 562 (by decide +kernel) rfl)⟩
theorem fd_X10_31 : xFld RX10 31 10 6 (.array .int) false := ⟨RX10, TX10, 8, tyX10, kc_X10, Nat.le_of_ble_eq_true rfl, rfl, rfl, Or.inl (gdm 564 (by decide +kernel) rfl)⟩
theorem fd_X10_35 : xFld RX10 35 10 7 (.array .int) false := ⟨RX10, TX10, 8, tyX10, kc_X10, Nat.le_of_ble_eq_true rfl, rfl, rfl, Or.inl (gdm 566 (by decide +kernel) rfl)⟩
theorem wc_L_35 : Cond.constant RL 35 (-2000000098 : Int32) ∈ lw_gd := gdm 955 (by decide +kernel) rfl
theorem wc_L_45 : Cond.constant RL 45 (-2000000096 : Int32) ∈ lw_gd := gdm 1007 (by decide +kernel) rfl
theorem wc_J6_265 : Cond.constant RJ6 265 (1431655765 : Int32) ∈ lw_gd := gdm 952 (by decide +kernel) rfl
theorem wc_J6_266 : Cond.constant RJ6 266 (858993459 : Int32) ∈ lw_gd := gdm 953 (by decide +kernel) rfl
theorem wc_J6_267 : Cond.constant RJ6 267 (252645135 : Int32) ∈ lw_gd := gdm 954 (by decide +kernel) rfl
theorem wl_X9_244 : Cond.constantLong RX9 244 (1000000000 : Int64) ∈ lw_gd := gdm 1233 (by decide +kernel) rfl
theorem wl_X8_62 : Cond.constantLong RX8 62 (1792160394037 : Int64) ∈ lw_gd := gdm 1208 (by decide +kernel) rfl
theorem wl_X8_75 : Cond.constantLong RX8 75 (13 : Int64) ∈ lw_gd := gdm 1223 (by decide +kernel) rfl
theorem wl_X8_97 : Cond.constantLong RX8 97 (23298085122481 : Int64) ∈ lw_gd := gdm 1232 (by decide +kernel) rfl
theorem wl_L_7 : Cond.constantLong RL 7 (255 : Int64) ∈ lw_gd := gdm 1415 (by decide +kernel) rfl
theorem wl_L_24 : Cond.constantLong RL 24 (48 : Int64) ∈ lw_gd := gdm 1434 (by decide +kernel) rfl
theorem wl_X10_57 : Cond.constantLong RX10 57 (99999 : Int64) ∈ lw_gd := gdm 1502 (by decide +kernel) rfl
theorem ws_X6_52 : (RX6, 52, "workers", 2) ∈ sCon := by decide +kernel
theorem ws_X6_66 : (RX6, 66, "tasks", 3) ∈ sCon := by decide +kernel
theorem ws_X6_77 : (RX6, 77, "fit", 4) ∈ sCon := by decide +kernel
theorem ws_X6_85 : (RX6, 85, "away", 5) ∈ sCon := by decide +kernel
theorem ws_X6_90 : (RX6, 90, "pair", 6) ∈ sCon := by decide +kernel
theorem ws_X6_95 : (RX6, 95, "weight", 7) ∈ sCon := by decide +kernel
theorem ws_X6_100 : (RX6, 100, "keep", 8) ∈ sCon := by decide +kernel
theorem ws_X6_127 : (RX6, 127, "worker", 9) ∈ sCon := by decide +kernel
theorem ws_X6_129 : (RX6, 129, "task", 10) ∈ sCon := by decide +kernel
theorem ws_L_157 : (RL, 157, "workers ", 11) ∈ sCon := by decide +kernel
theorem ws_L_167 : (RL, 167, ";tasks ", 12) ∈ sCon := by decide +kernel
theorem ws_L_169 : (RL, 169, " ;", 13) ∈ sCon := by decide +kernel
theorem ws_L_174 : (RL, 174, "fit ", 14) ∈ sCon := by decide +kernel
theorem ws_L_176 : (RL, 176, " ", 15) ∈ sCon := by decide +kernel
theorem ws_L_178 : (RL, 178, ";", 16) ∈ sCon := by decide +kernel
theorem ws_L_180 : (RL, 180, "away worker ", 17) ∈ sCon := by decide +kernel
theorem ws_L_193 : (RL, 193, "pair ", 18) ∈ sCon := by decide +kernel
theorem ws_L_197 : (RL, 197, "weight ", 19) ∈ sCon := by decide +kernel
theorem ws_L_199 : (RL, 199, "keep 0;", 20) ∈ sCon := by decide +kernel
theorem waI : Cond.arrayClass .int ∈ lw_gd := gdm 161 (by decide +kernel) rfl
theorem waJ : Cond.arrayClass .long ∈ lw_gd := gdm 416 (by decide +kernel) rfl
abbrev dv_X0 : List Value := [.int 0, .int 0, .int 0, .int 0, .int 0, .null, .null, .null, .null, .null]
abbrev dv_X1 : List Value := [.null, .null, .null, .null, .null, .int 0]
abbrev dv_X2 : List Value := [.null, .int 0, .int 0]
abbrev dv_X3 : List Value := [.null, .null]
abbrev dv_X4 : List Value := [.null, .null, .null, .null, .int 0, .int 0, .int 0, .int 0, .int 0]
abbrev dv_X5 : List Value := [.int 0, .int 0, .int 0, .int 0, .null]
abbrev dv_X6 : List Value := [.null, .int 0, .int 0, .int 0, .int 0, .int 0, .int 0, .int 0]
abbrev dv_X7 : List Value := [.null, .null, .null, .null, .null, .int 0, .int 0, .int 0, .int 0, .int 0]
abbrev dv_X8 : List Value := [.null, .null, .null, .null, .null, .long 0, .long 0, .int 0]
abbrev dv_X9 : List Value := [.null, .null, .null, .null, .null, .null, .null, .null, .null, .int 0, .int 0, .int 0]
abbrev dv_X10 : List Value := [.int 0, .int 0, .int 0, .int 0, .int 0, .null, .null, .null]
theorem wn_X9_9 : xNew RX9 9 0 dv_X0 := ⟨RX0, TX0, 10, tyX0, kc_X0, gdm 138 (by decide +kernel) rfl, gdm 139 (by decide +kernel) rfl, gdm 108 (by decide +kernel) rfl, fun j hj => (match j, hj with
  | 0, _ => rfl
  | 1, _ => rfl
  | 2, _ => rfl
  | 3, _ => rfl
  | 4, _ => rfl
  | 5, _ => rfl
  | 6, _ => rfl
  | 7, _ => rfl
  | 8, _ => rfl
  | 9, _ => rfl
  | j + 10, hj => absurd hj (Nat.not_lt.mpr (Nat.le_add_left 10 j))), rfl⟩
theorem wn_X9_19 : xNew RX9 19 2 dv_X2 := ⟨RX2, TX2, 3, tyX2, kc_X2, gdm 218 (by decide +kernel) rfl, gdm 219 (by decide +kernel) rfl, gdm 110 (by decide +kernel) rfl, fun j hj => (match j, hj with
  | 0, _ => rfl
  | 1, _ => rfl
  | 2, _ => rfl
  | j + 3, hj => absurd hj (Nat.not_lt.mpr (Nat.le_add_left 3 j))), rfl⟩
theorem wn_X9_26 : xNew RX9 26 6 dv_X6 := ⟨RX6, TX6, 8, tyX6, kc_X6, gdm 238 (by decide +kernel) rfl, gdm 239 (by decide +kernel) rfl, gdm 111 (by decide +kernel) rfl, fun j hj => (match j, hj with
  | 0, _ => rfl
  | 1, _ => rfl
  | 2, _ => rfl
  | 3, _ => rfl
  | 4, _ => rfl
  | 5, _ => rfl
  | 6, _ => rfl
  | 7, _ => rfl
  | j + 8, hj => absurd hj (Nat.not_lt.mpr (Nat.le_add_left 8 j))), rfl⟩
theorem wn_X9_33 : xNew RX9 33 7 dv_X7 := ⟨RX7, TX7, 10, tyX7, kc_X7, gdm 270 (by decide +kernel) rfl, gdm 271 (by decide +kernel) rfl, gdm 112 (by decide +kernel) rfl, fun j hj => (match j, hj with
  | 0, _ => rfl
  | 1, _ => rfl
  | 2, _ => rfl
  | 3, _ => rfl
  | 4, _ => rfl
  | 5, _ => rfl
  | 6, _ => rfl
  | 7, _ => rfl
  | 8, _ => rfl
  | 9, _ => rfl
  | j + 10, hj => absurd hj (Nat.not_lt.mpr (Nat.le_add_left 10 j))), rfl⟩
theorem wn_X9_40 : xNew RX9 40 5 dv_X5 := ⟨RX5, TX5, 5, tyX5, kc_X5, gdm 318 (by decide +kernel) rfl, gdm 319 (by decide +kernel) rfl, gdm 113 (by decide +kernel) rfl, fun j hj => (match j, hj with
  | 0, _ => rfl
  | 1, _ => rfl
  | 2, _ => rfl
  | 3, _ => rfl
  | 4, _ => rfl
  | j + 5, hj => absurd hj (Nat.not_lt.mpr (Nat.le_add_left 5 j))), rfl⟩
theorem wn_X9_47 : xNew RX9 47 4 dv_X4 := ⟨RX4, TX4, 9, tyX4, kc_X4, gdm 344 (by decide +kernel) rfl, gdm 345 (by decide +kernel) rfl, gdm 114 (by decide +kernel) rfl, fun j hj => (match j, hj with
  | 0, _ => rfl
  | 1, _ => rfl
  | 2, _ => rfl
  | 3, _ => rfl
  | 4, _ => rfl
  | 5, _ => rfl
  | 6, _ => rfl
  | 7, _ => rfl
  | 8, _ => rfl
  | j + 9, hj => absurd hj (Nat.not_lt.mpr (Nat.le_add_left 9 j))), rfl⟩
theorem wn_X9_54 : xNew RX9 54 8 dv_X8 := ⟨RX8, TX8, 8, tyX8, kc_X8, gdm 382 (by decide +kernel) rfl, gdm 383 (by decide +kernel) rfl, gdm 115 (by decide +kernel) rfl, fun j hj => (match j, hj with
  | 0, _ => rfl
  | 1, _ => rfl
  | 2, _ => rfl
  | 3, _ => rfl
  | 4, _ => rfl
  | 5, _ => rfl
  | 6, _ => rfl
  | 7, _ => rfl
  | j + 8, hj => absurd hj (Nat.not_lt.mpr (Nat.le_add_left 8 j))), rfl⟩
theorem wn_X9_61 : xNew RX9 61 1 dv_X1 := ⟨RX1, TX1, 6, tyX1, kc_X1, gdm 417 (by decide +kernel) rfl, gdm 418 (by decide +kernel) rfl, gdm 116 (by decide +kernel) rfl, fun j hj => (match j, hj with
  | 0, _ => rfl
  | 1, _ => rfl
  | 2, _ => rfl
  | 3, _ => rfl
  | 4, _ => rfl
  | 5, _ => rfl
  | j + 6, hj => absurd hj (Nat.not_lt.mpr (Nat.le_add_left 6 j))), rfl⟩
theorem wn_X0_24 : xNew RX0 24 3 dv_X3 := ⟨RX3, TX3, 2, tyX3, kc_X3, gdm 144 (by decide +kernel) rfl, gdm 145 (by decide +kernel) rfl, gdm 109 (by decide +kernel) rfl, fun j hj => (match j, hj with
  | 0, _ => rfl
  | 1, _ => rfl
  | j + 2, hj => absurd hj (Nat.not_lt.mpr (Nat.le_add_left 2 j))), rfl⟩
theorem wn_X2_9 : xNew RX2 9 0 dv_X0 := ⟨RX0, TX0, 10, tyX0, kc_X0, gdm 224 (by decide +kernel) rfl, gdm 139 (by decide +kernel) rfl, gdm 108 (by decide +kernel) rfl, fun j hj => (match j, hj with
  | 0, _ => rfl
  | 1, _ => rfl
  | 2, _ => rfl
  | 3, _ => rfl
  | 4, _ => rfl
  | 5, _ => rfl
  | 6, _ => rfl
  | 7, _ => rfl
  | 8, _ => rfl
  | 9, _ => rfl
  | j + 10, hj => absurd hj (Nat.not_lt.mpr (Nat.le_add_left 10 j))), rfl⟩
theorem wn_X7_9 : xNew RX7 9 3 dv_X3 := ⟨RX3, TX3, 2, tyX3, kc_X3, gdm 276 (by decide +kernel) rfl, gdm 145 (by decide +kernel) rfl, gdm 109 (by decide +kernel) rfl, fun j hj => (match j, hj with
  | 0, _ => rfl
  | 1, _ => rfl
  | j + 2, hj => absurd hj (Nat.not_lt.mpr (Nat.le_add_left 2 j))), rfl⟩
theorem wn_L_16 : xNew RL 16 9 dv_X9 := ⟨RX9, TX9, 12, tyX9, kc_X9, gdm 130 (by decide +kernel) rfl, gdm 131 (by decide +kernel) rfl, gdm 107 (by decide +kernel) rfl, fun j hj => (match j, hj with
  | 0, _ => rfl
  | 1, _ => rfl
  | 2, _ => rfl
  | 3, _ => rfl
  | 4, _ => rfl
  | 5, _ => rfl
  | 6, _ => rfl
  | 7, _ => rfl
  | 8, _ => rfl
  | 9, _ => rfl
  | 10, _ => rfl
  | 11, _ => rfl
  | j + 12, hj => absurd hj (Nat.not_lt.mpr (Nat.le_add_left 12 j))), rfl⟩
theorem wn_L_139 : xNew RL 139 10 dv_X10 := ⟨RX10, TX10, 8, tyX10, kc_X10, gdm 544 (by decide +kernel) rfl, gdm 545 (by decide +kernel) rfl, gdm 117 (by decide +kernel) rfl, fun j hj => (match j, hj with
  | 0, _ => rfl
  | 1, _ => rfl
  | 2, _ => rfl
  | 3, _ => rfl
  | 4, _ => rfl
  | 5, _ => rfl
  | 6, _ => rfl
  | 7, _ => rfl
  | j + 8, hj => absurd hj (Nat.not_lt.mpr (Nat.le_add_left 8 j))), rfl⟩
theorem wn_X10_8 : xNew RX10 8 10 dv_X10 := ⟨RX10, TX10, 8, tyX10, kc_X10, gdm 589 (by decide +kernel) rfl, gdm 545 (by decide +kernel) rfl, gdm 117 (by decide +kernel) rfl, fun j hj => (match j, hj with
  | 0, _ => rfl
  | 1, _ => rfl
  | 2, _ => rfl
  | 3, _ => rfl
  | 4, _ => rfl
  | 5, _ => rfl
  | 6, _ => rfl
  | 7, _ => rfl
  | j + 8, hj => absurd hj (Nat.not_lt.mpr (Nat.le_add_left 8 j))), rfl⟩
theorem ff_X9_12 : xFldF RX9 12 9 0 (.object "PairKeeper$Book") := ⟨RX9, TX9, 12, tyX9, kc_X9, Nat.le_of_ble_eq_true rfl, rfl, rfl, rfl, gdm 443 (by decide +kernel) rfl⟩
theorem ff_X9_16 : xFldF RX9 16 9 1 (.object "PairKeeper$Book") := ⟨RX9, TX9, 12, tyX9, kc_X9, Nat.le_of_ble_eq_true rfl, rfl, rfl, rfl, gdm 444 (by decide +kernel) rfl⟩
theorem ff_X9_22 : xFldF RX9 22 9 2 (.object "PairKeeper$History") := ⟨RX9, TX9, 12, tyX9, kc_X9, Nat.le_of_ble_eq_true rfl, rfl, rfl, rfl, gdm 445 (by decide +kernel) rfl⟩
theorem ff_X9_29 : xFldF RX9 29 9 3 (.object "PairKeeper$Reader") := ⟨RX9, TX9, 12, tyX9, kc_X9, Nat.le_of_ble_eq_true rfl, rfl, rfl, rfl, gdm 446 (by decide +kernel) rfl⟩
theorem ff_X9_36 : xFldF RX9 36 9 4 (.object "PairKeeper$Search") := ⟨RX9, TX9, 12, tyX9, kc_X9, Nat.le_of_ble_eq_true rfl, rfl, rfl, rfl, gdm 447 (by decide +kernel) rfl⟩
theorem ff_X9_43 : xFldF RX9 43 9 5 (.object "PairKeeper$Reach") := ⟨RX9, TX9, 12, tyX9, kc_X9, Nat.le_of_ble_eq_true rfl, rfl, rfl, rfl, gdm 448 (by decide +kernel) rfl⟩
theorem ff_X9_50 : xFldF RX9 50 9 6 (.object "PairKeeper$Phasing") := ⟨RX9, TX9, 12, tyX9, kc_X9, Nat.le_of_ble_eq_true rfl, rfl, rfl, rfl, gdm 449 (by decide +kernel) rfl⟩
theorem ff_X9_57 : xFldF RX9 57 9 7 (.object "PairKeeper$Tally") := ⟨RX9, TX9, 12, tyX9, kc_X9, Nat.le_of_ble_eq_true rfl, rfl, rfl, rfl, gdm 450 (by decide +kernel) rfl⟩
theorem ff_X9_64 : xFldF RX9 64 9 8 (.object "PairKeeper$Calendar") := ⟨RX9, TX9, 12, tyX9, kc_X9, Nat.le_of_ble_eq_true rfl, rfl, rfl, rfl, gdm 451 (by decide +kernel) rfl⟩
theorem ff_X0_9 : xFldF RX0 9 0 5 (.array .int) := ⟨RX0, TX0, 10, tyX0, kc_X0, Nat.le_of_ble_eq_true rfl, rfl, rfl, rfl, gdm 189 (by decide +kernel) rfl⟩
theorem ff_X0_15 : xFldF RX0 15 0 6 (.array .int) := ⟨RX0, TX0, 10, tyX0, kc_X0, Nat.le_of_ble_eq_true rfl, rfl, rfl, rfl, gdm 190 (by decide +kernel) rfl⟩
theorem ff_X0_18 : xFldF RX0 18 0 7 (.array .int) := ⟨RX0, TX0, 10, tyX0, kc_X0, Nat.le_of_ble_eq_true rfl, rfl, rfl, rfl, gdm 191 (by decide +kernel) rfl⟩
theorem ff_X0_21 : xFldF RX0 21 0 8 (.array .int) := ⟨RX0, TX0, 10, tyX0, kc_X0, Nat.le_of_ble_eq_true rfl, rfl, rfl, rfl, gdm 192 (by decide +kernel) rfl⟩
theorem ff_X0_27 : xFldF RX0 27 0 9 (.object "PairKeeper$Pairs") := ⟨RX0, TX0, 10, tyX0, kc_X0, Nat.le_of_ble_eq_true rfl, rfl, rfl, rfl, gdm 193 (by decide +kernel) rfl⟩
theorem ff_X1_9 : xFldF RX1 9 1 0 (.array .int) := ⟨RX1, TX1, 6, tyX1, kc_X1, Nat.le_of_ble_eq_true rfl, rfl, rfl, rfl, gdm 423 (by decide +kernel) rfl⟩
theorem ff_X1_15 : xFldF RX1 15 1 1 (.array .int) := ⟨RX1, TX1, 6, tyX1, kc_X1, Nat.le_of_ble_eq_true rfl, rfl, rfl, rfl, gdm 424 (by decide +kernel) rfl⟩
theorem ff_X1_18 : xFldF RX1 18 1 2 (.array .int) := ⟨RX1, TX1, 6, tyX1, kc_X1, Nat.le_of_ble_eq_true rfl, rfl, rfl, rfl, gdm 425 (by decide +kernel) rfl⟩
theorem ff_X1_21 : xFldF RX1 21 1 3 (.array .int) := ⟨RX1, TX1, 6, tyX1, kc_X1, Nat.le_of_ble_eq_true rfl, rfl, rfl, rfl, gdm 426 (by decide +kernel) rfl⟩
theorem ff_X1_24 : xFldF RX1 24 1 4 (.array .int) := ⟨RX1, TX1, 6, tyX1, kc_X1, Nat.le_of_ble_eq_true rfl, rfl, rfl, rfl, gdm 427 (by decide +kernel) rfl⟩
theorem ff_X2_11 : xFldF RX2 11 2 0 (.array (.object "PairKeeper$Book")) := ⟨RX2, TX2, 3, tyX2, kc_X2, Nat.le_of_ble_eq_true rfl, rfl, rfl, rfl, gdm 227 (by decide +kernel) rfl⟩
theorem ff_X3_9 : xFldF RX3 9 3 0 (.array .int) := ⟨RX3, TX3, 2, tyX3, kc_X3, Nat.le_of_ble_eq_true rfl, rfl, rfl, rfl, gdm 154 (by decide +kernel) rfl⟩
theorem ff_X3_15 : xFldF RX3 15 3 1 (.array .int) := ⟨RX3, TX3, 2, tyX3, kc_X3, Nat.le_of_ble_eq_true rfl, rfl, rfl, rfl, gdm 155 (by decide +kernel) rfl⟩
theorem ff_X4_9 : xFldF RX4 9 4 0 (.array .int) := ⟨RX4, TX4, 9, tyX4, kc_X4, Nat.le_of_ble_eq_true rfl, rfl, rfl, rfl, gdm 350 (by decide +kernel) rfl⟩
theorem ff_X4_15 : xFldF RX4 15 4 1 (.array .int) := ⟨RX4, TX4, 9, tyX4, kc_X4, Nat.le_of_ble_eq_true rfl, rfl, rfl, rfl, gdm 351 (by decide +kernel) rfl⟩
theorem ff_X4_18 : xFldF RX4 18 4 2 (.array .int) := ⟨RX4, TX4, 9, tyX4, kc_X4, Nat.le_of_ble_eq_true rfl, rfl, rfl, rfl, gdm 352 (by decide +kernel) rfl⟩
theorem ff_X4_21 : xFldF RX4 21 4 3 (.array .int) := ⟨RX4, TX4, 9, tyX4, kc_X4, Nat.le_of_ble_eq_true rfl, rfl, rfl, rfl, gdm 353 (by decide +kernel) rfl⟩
theorem ff_X5_24 : xFldF RX5 24 5 4 (.array .int) := ⟨RX5, TX5, 5, tyX5, kc_X5, Nat.le_of_ble_eq_true rfl, rfl, rfl, rfl, gdm 332 (by decide +kernel) rfl⟩
theorem ff_X6_9 : xFldF RX6 9 6 0 (.array .int) := ⟨RX6, TX6, 8, tyX6, kc_X6, Nat.le_of_ble_eq_true rfl, rfl, rfl, rfl, gdm 244 (by decide +kernel) rfl⟩
theorem ff_X7_12 : xFldF RX7 12 7 0 (.object "PairKeeper$Pairs") := ⟨RX7, TX7, 10, tyX7, kc_X7, Nat.le_of_ble_eq_true rfl, rfl, rfl, rfl, gdm 278 (by decide +kernel) rfl⟩
theorem ff_X7_18 : xFldF RX7 18 7 1 (.array .int) := ⟨RX7, TX7, 10, tyX7, kc_X7, Nat.le_of_ble_eq_true rfl, rfl, rfl, rfl, gdm 282 (by decide +kernel) rfl⟩
theorem ff_X7_22 : xFldF RX7 22 7 2 (.array .int) := ⟨RX7, TX7, 10, tyX7, kc_X7, Nat.le_of_ble_eq_true rfl, rfl, rfl, rfl, gdm 283 (by decide +kernel) rfl⟩
theorem ff_X7_25 : xFldF RX7 25 7 3 (.array .int) := ⟨RX7, TX7, 10, tyX7, kc_X7, Nat.le_of_ble_eq_true rfl, rfl, rfl, rfl, gdm 284 (by decide +kernel) rfl⟩
theorem ff_X7_28 : xFldF RX7 28 7 4 (.array .int) := ⟨RX7, TX7, 10, tyX7, kc_X7, Nat.le_of_ble_eq_true rfl, rfl, rfl, rfl, gdm 285 (by decide +kernel) rfl⟩
theorem ff_X8_9 : xFldF RX8 9 8 0 (.array .long) := ⟨RX8, TX8, 8, tyX8, kc_X8, Nat.le_of_ble_eq_true rfl, rfl, rfl, rfl, gdm 388 (by decide +kernel) rfl⟩
theorem ff_X8_15 : xFldF RX8 15 8 1 (.array .long) := ⟨RX8, TX8, 8, tyX8, kc_X8, Nat.le_of_ble_eq_true rfl, rfl, rfl, rfl, gdm 389 (by decide +kernel) rfl⟩
theorem ff_X8_18 : xFldF RX8 18 8 2 (.array .long) := ⟨RX8, TX8, 8, tyX8, kc_X8, Nat.le_of_ble_eq_true rfl, rfl, rfl, rfl, gdm 390 (by decide +kernel) rfl⟩
theorem ff_X8_21 : xFldF RX8 21 8 3 (.array .int) := ⟨RX8, TX8, 8, tyX8, kc_X8, Nat.le_of_ble_eq_true rfl, rfl, rfl, rfl, gdm 391 (by decide +kernel) rfl⟩
theorem ff_X8_25 : xFldF RX8 25 8 4 (.array .int) := ⟨RX8, TX8, 8, tyX8, kc_X8, Nat.le_of_ble_eq_true rfl, rfl, rfl, rfl, gdm 392 (by decide +kernel) rfl⟩
theorem wo_X0 : xObj RX0 3 := ⟨gdm 143 (by decide +kernel) rfl, gdm 136 (by decide +kernel) rfl, gdm 137 (by decide +kernel) rfl⟩
theorem wo_X1 : xObj RX1 3 := ⟨gdm 422 (by decide +kernel) rfl, gdm 136 (by decide +kernel) rfl, gdm 137 (by decide +kernel) rfl⟩
theorem wo_X2 : xObj RX2 3 := ⟨gdm 223 (by decide +kernel) rfl, gdm 136 (by decide +kernel) rfl, gdm 137 (by decide +kernel) rfl⟩
theorem wo_X3 : xObj RX3 3 := ⟨gdm 149 (by decide +kernel) rfl, gdm 136 (by decide +kernel) rfl, gdm 137 (by decide +kernel) rfl⟩
theorem wo_X4 : xObj RX4 3 := ⟨gdm 349 (by decide +kernel) rfl, gdm 136 (by decide +kernel) rfl, gdm 137 (by decide +kernel) rfl⟩
theorem wo_X5 : xObj RX5 3 := ⟨gdm 323 (by decide +kernel) rfl, gdm 136 (by decide +kernel) rfl, gdm 137 (by decide +kernel) rfl⟩
theorem wo_X6 : xObj RX6 3 := ⟨gdm 243 (by decide +kernel) rfl, gdm 136 (by decide +kernel) rfl, gdm 137 (by decide +kernel) rfl⟩
theorem wo_X7 : xObj RX7 3 := ⟨gdm 275 (by decide +kernel) rfl, gdm 136 (by decide +kernel) rfl, gdm 137 (by decide +kernel) rfl⟩
theorem wo_X8 : xObj RX8 3 := ⟨gdm 387 (by decide +kernel) rfl, gdm 136 (by decide +kernel) rfl, gdm 137 (by decide +kernel) rfl⟩
theorem wo_X9 : xObj RX9 3 := ⟨gdm 135 (by decide +kernel) rfl, gdm 136 (by decide +kernel) rfl, gdm 137 (by decide +kernel) rfl⟩
theorem wo_X10 : xObj RX10 1 := ⟨gdm 549 (by decide +kernel) rfl, gdm 136 (by decide +kernel) rfl, gdm 137 (by decide +kernel) rfl⟩
theorem wq_X2_9 : Cond.classLink RX2 9 "PairKeeper$Book" ∈ lw_gd := gdm 224 (by decide +kernel) rfl
theorem wm_X10_26 : Cond.classLink RX10 26 ("[" ++ (FieldType.array .int).toString) ∈ lw_gd := by
  rw [show "[" ++ (FieldType.array .int).toString = "[[I" by decide +kernel]
  exact gdm 550 (by decide +kernel) rfl
theorem wq_L_139 : Cond.classLink RL 139 "PairKeeperLaw$Book" ∈ lw_gd := gdm 544 (by decide +kernel) rfl
theorem wk_X10_39 : xClone RX10 39 := ⟨gdm 591 (by decide +kernel) rfl, gdm 592 (by decide +kernel) rfl, gdm 593 (by decide +kernel) rfl, gdm 594 (by decide +kernel) rfl, gdm 595 (by decide +kernel) rfl, nwm 596 (by decide +kernel) rfl⟩
theorem wy_X10_40 : Cond.classLink RX10 40 "[I" ∈ lw_gd := gdm 597 (by decide +kernel) rfl
theorem mw_L_275 : xMat RL 275 Lib.Math.max.name Lib.Math.max.code 2 .int := ⟨gdm 1521 (by decide +kernel) rfl, gdm 1332 (by decide +kernel) rfl, gdm 126 (by decide +kernel) rfl, gdm 1333 (by decide +kernel) rfl⟩
theorem mw_X10_52 : xMat RX10 52 Lib.Math.max.name Lib.Math.max.code 2 .int := ⟨gdm 1455 (by decide +kernel) rfl, gdm 1332 (by decide +kernel) rfl, gdm 126 (by decide +kernel) rfl, gdm 1333 (by decide +kernel) rfl⟩
theorem kb_6 : (Int8.ofInt (6)).toInt32 = (6 : Int32) := by decide +kernel
theorem kb_7 : (Int8.ofInt (7)).toInt32 = (7 : Int32) := by decide +kernel
theorem kb_8 : (Int8.ofInt (8)).toInt32 = (8 : Int32) := by decide +kernel
theorem kb_9 : (Int8.ofInt (9)).toInt32 = (9 : Int32) := by decide +kernel
theorem kb_10 : (Int8.ofInt (10)).toInt32 = (10 : Int32) := by decide +kernel
theorem kb_11 : (Int8.ofInt (11)).toInt32 = (11 : Int32) := by decide +kernel
theorem kb_12 : (Int8.ofInt (12)).toInt32 = (12 : Int32) := by decide +kernel
theorem kb_13 : (Int8.ofInt (13)).toInt32 = (13 : Int32) := by decide +kernel
theorem kb_14 : (Int8.ofInt (14)).toInt32 = (14 : Int32) := by decide +kernel
theorem kb_15 : (Int8.ofInt (15)).toInt32 = (15 : Int32) := by decide +kernel
theorem kb_16 : (Int8.ofInt (16)).toInt32 = (16 : Int32) := by decide +kernel
theorem kb_20 : (Int8.ofInt (20)).toInt32 = (20 : Int32) := by decide +kernel
theorem kb_24 : (Int8.ofInt (24)).toInt32 = (24 : Int32) := by decide +kernel
theorem kb_31 : (Int8.ofInt (31)).toInt32 = (31 : Int32) := by decide +kernel
theorem kb_32 : (Int8.ofInt (32)).toInt32 = (32 : Int32) := by decide +kernel
theorem kb_40 : (Int8.ofInt (40)).toInt32 = (40 : Int32) := by decide +kernel
theorem kb_48 : (Int8.ofInt (48)).toInt32 = (48 : Int32) := by decide +kernel
theorem kb_57 : (Int8.ofInt (57)).toInt32 = (57 : Int32) := by decide +kernel
theorem kb_59 : (Int8.ofInt (59)).toInt32 = (59 : Int32) := by decide +kernel
theorem kb_63 : (Int8.ofInt (63)).toInt32 = (63 : Int32) := by decide +kernel
theorem kb_97 : (Int8.ofInt (97)).toInt32 = (97 : Int32) := by decide +kernel
theorem kb_99 : (Int8.ofInt (99)).toInt32 = (99 : Int32) := by decide +kernel
theorem kb_100 : (Int8.ofInt (100)).toInt32 = (100 : Int32) := by decide +kernel
theorem kb_122 : (Int8.ofInt (122)).toInt32 = (122 : Int32) := by decide +kernel
theorem ki_m8 : Int32.ofInt (-8) = (-8 : Int32) := by decide +kernel
theorem ki_m1 : Int32.ofInt (-1) = (-1 : Int32) := by decide +kernel
theorem ki_0 : Int32.ofInt (0) = (0 : Int32) := by decide +kernel
theorem ki_1 : Int32.ofInt (1) = (1 : Int32) := by decide +kernel
theorem ki_2 : Int32.ofInt (2) = (2 : Int32) := by decide +kernel
theorem ki_3 : Int32.ofInt (3) = (3 : Int32) := by decide +kernel
theorem ki_4 : Int32.ofInt (4) = (4 : Int32) := by decide +kernel
theorem ki_5 : Int32.ofInt (5) = (5 : Int32) := by decide +kernel
theorem kl_0 : Int64.ofNat ((0 : Fin 2) : Nat) = (0 : Int64) := by decide +kernel
theorem kl_1 : Int64.ofNat ((1 : Fin 2) : Nat) = (1 : Int64) := by decide +kernel
theorem ks_144 : (Int16.ofInt (144)).toInt32 = (144 : Int32) := by decide +kernel
theorem ks_255 : (Int16.ofInt (255)).toInt32 = (255 : Int32) := by decide +kernel
theorem ks_300 : (Int16.ofInt (300)).toInt32 = (300 : Int32) := by decide +kernel
theorem ks_1000 : (Int16.ofInt (1000)).toInt32 = (1000 : Int32) := by decide +kernel
theorem ks_4096 : (Int16.ofInt (4096)).toInt32 = (4096 : Int32) := by decide +kernel
