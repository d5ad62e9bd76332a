/-! words and decode rows of constructors (by program) -/
def DX3_init : xD := (yX3_init, cX3_init, 1, none, [], 2)
def DX0_init : xD := (yX0_init, cX0_init, 1, none, [], 3)
def DX1_init : xD := (yX1_init, cX1_init, 1, none, [], 1)
def DX2_init : xD := (yX2_init, cX2_init, 2, none, [], 4)
def DX4_init : xD := (yX4_init, cX4_init, 1, none, [], 1)
def DX5_init : xD := (yX5_init, cX5_init, 1, none, [], 1)
def DX6_init : xD := (yX6_init, cX6_init, 1, none, [], 1)
def DX7_init : xD := (yX7_init, cX7_init, 1, none, [], 3)
def DX8_init : xD := (yX8_init, cX8_init, 1, none, [], 1)
def DX9_init : xD := (yX9_init, cX9_init, 1, none, [], 5)
def DX10_init : xD := (yX10_init, cX10_init, 1, none, [], 2)
theorem cal_X0_init : xCal DX0_init 0 := ⟨rfl, gdm 203 (by decide +kernel) rfl, gdm 169 (by decide +kernel) rfl, (by decide +kernel), Nat.le_of_ble_eq_true rfl⟩
theorem ini_X0_init : xIni DX0_init := ⟨rfl, gdm 202 (by decide +kernel) rfl, rfl⟩
theorem cal_X1_init : xCal DX1_init 0 := ⟨rfl, gdm 483 (by decide +kernel) rfl, gdm 177 (by decide +kernel) rfl, (by decide +kernel), Nat.le_of_ble_eq_true rfl⟩
theorem ini_X1_init : xIni DX1_init := ⟨rfl, gdm 482 (by decide +kernel) rfl, rfl⟩
theorem cal_X2_init : xCal DX2_init 0 := ⟨rfl, gdm 283 (by decide +kernel) rfl, gdm 171 (by decide +kernel) rfl, (by decide +kernel), Nat.le_of_ble_eq_true rfl⟩
theorem ini_X2_init : xIni DX2_init := ⟨rfl, gdm 282 (by decide +kernel) rfl, rfl⟩
theorem cal_X3_init : xCal DX3_init 0 := ⟨rfl, gdm 209 (by decide +kernel) rfl, gdm 170 (by decide +kernel) rfl, (by decide +kernel), Nat.le_of_ble_eq_true rfl⟩
theorem ini_X3_init : xIni DX3_init := ⟨rfl, gdm 208 (by decide +kernel) rfl, rfl⟩
theorem cal_X4_init : xCal DX4_init 0 := ⟨rfl, gdm 410 (by decide +kernel) rfl, gdm 175 (by decide +kernel) rfl, (by decide +kernel), Nat.le_of_ble_eq_true rfl⟩
theorem ini_X4_init : xIni DX4_init := ⟨rfl, gdm 409 (by decide +kernel) rfl, rfl⟩
theorem cal_X5_init : xCal DX5_init 0 := ⟨rfl, gdm 384 (by decide +kernel) rfl, gdm 174 (by decide +kernel) rfl, (by decide +kernel), Nat.le_of_ble_eq_true rfl⟩
theorem ini_X5_init : xIni DX5_init := ⟨rfl, gdm 383 (by decide +kernel) rfl, rfl⟩
theorem cal_X6_init : xCal DX6_init 0 := ⟨rfl, gdm 303 (by decide +kernel) rfl, gdm 172 (by decide +kernel) rfl, (by decide +kernel), Nat.le_of_ble_eq_true rfl⟩
theorem ini_X6_init : xIni DX6_init := ⟨rfl, gdm 302 (by decide +kernel) rfl, rfl⟩
theorem cal_X7_init : xCal DX7_init 0 := ⟨rfl, gdm 336 (by decide +kernel) rfl, gdm 173 (by decide +kernel) rfl, (by decide +kernel), Nat.le_of_ble_eq_true rfl⟩
theorem ini_X7_init : xIni DX7_init := ⟨rfl, gdm 335 (by decide +kernel) rfl, rfl⟩
theorem cal_X8_init : xCal DX8_init 0 := ⟨rfl, gdm 448 (by decide +kernel) rfl, gdm 176 (by decide +kernel) rfl, (by decide +kernel), Nat.le_of_ble_eq_true rfl⟩
theorem ini_X8_init : xIni DX8_init := ⟨rfl, gdm 447 (by decide +kernel) rfl, rfl⟩
theorem lk_X9_11 : xLnk RX9 11 yX0_init ∨ xNst RX9 11 yX0_init := Or.inr ⟨"PairKeeper", nwm 201 (by decide +kernel) rfl⟩
theorem lk_X9_21 : xLnk RX9 21 yX2_init ∨ xNst RX9 21 yX2_init := Or.inr ⟨"PairKeeper", nwm 281 (by decide +kernel) rfl⟩
theorem lk_X9_28 : xLnk RX9 28 yX6_init ∨ xNst RX9 28 yX6_init := Or.inr ⟨"PairKeeper", nwm 301 (by decide +kernel) rfl⟩
theorem lk_X9_35 : xLnk RX9 35 yX7_init ∨ xNst RX9 35 yX7_init := Or.inr ⟨"PairKeeper", nwm 334 (by decide +kernel) rfl⟩
theorem lk_X9_42 : xLnk RX9 42 yX5_init ∨ xNst RX9 42 yX5_init := Or.inr ⟨"PairKeeper", nwm 382 (by decide +kernel) rfl⟩
theorem lk_X9_49 : xLnk RX9 49 yX4_init ∨ xNst RX9 49 yX4_init := Or.inr ⟨"PairKeeper", nwm 408 (by decide +kernel) rfl⟩
theorem lk_X9_56 : xLnk RX9 56 yX8_init ∨ xNst RX9 56 yX8_init := Or.inr ⟨"PairKeeper", nwm 446 (by decide +kernel) rfl⟩
theorem lk_X9_63 : xLnk RX9 63 yX1_init ∨ xNst RX9 63 yX1_init := Or.inr ⟨"PairKeeper", nwm 481 (by decide +kernel) rfl⟩
theorem lk_X0_26 : xLnk RX0 26 yX3_init ∨ xNst RX0 26 yX3_init := Or.inr ⟨"PairKeeper", nwm 207 (by decide +kernel) rfl⟩
theorem lk_X0_31 : xLnk RX0 31 yX0_begin ∨ xNst RX0 31 yX0_begin := Or.inl (gdm 223 (by decide +kernel) rfl)
theorem lk_X2_24 : xLnk RX2 24 yX0_init ∨ xNst RX2 24 yX0_init := Or.inr ⟨"PairKeeper", nwm 287 (by decide +kernel) rfl⟩
theorem lk_X3_18 : xLnk RX3 18 yX3_clear ∨ xNst RX3 18 yX3_clear := Or.inl (gdm 211 (by decide +kernel) rfl)
theorem lk_X7_11 : xLnk RX7 11 yX3_init ∨ xNst RX7 11 yX3_init := Or.inr ⟨"PairKeeper", nwm 339 (by decide +kernel) rfl⟩
theorem waI : Cond.arrayClass .int ∈ lw_gd := gdm 222 (by decide +kernel) rfl
theorem waJ : Cond.arrayClass .long ∈ lw_gd := gdm 478 (by decide +kernel) rfl
abbrev dv_X0 : List Value := [.int 0, .int 0, .int 0, .int 0, .int 0, .null, .null, .null, .null, .null]
abbrev dv_X1 : List Value := [.null, .null, .null, .null, .null, .int 0]
abbrev dv_X2 : List Value := [.null, .int 0, .int 0]
abbrev dv_X3 : List Value := [.null, .null]
abbrev dv_X4 : List Value := [.null, .null, .null, .null, .int 0, .int 0, .int 0, .int 0, .int 0]
abbrev dv_X5 : List Value := [.int 0, .int 0, .int 0, .int 0, .null]
abbrev dv_X6 : List Value := [.null, .int 0, .int 0, .int 0, .int 0, .int 0, .int 0, .int 0]
abbrev dv_X7 : List Value := [.null, .null, .null, .null, .null, .int 0, .int 0, .int 0, .int 0, .int 0]
abbrev dv_X8 : List Value := [.null, .null, .null, .null, .null, .long 0, .long 0, .int 0]
abbrev dv_X9 : List Value := [.null, .null, .null, .null, .null, .null, .null, .null, .null, .int 0, .int 0, .int 0]
abbrev dv_X10 : List Value := [.int 0, .null, .int 0, .int 0, .int 0, .int 0, .int 0, .int 0, .null, .null, .null, .null, .null, .null, .int 0, .int 0, .int 0, .null, .int 0, .null, .int 0, .int 0, .int 0, .int 0, .null, .null, .int 0, .int 0, .null, .int 0, .int 0, .int 0, .null, .null, .null, .null, .null, .null, .null]
theorem wn_X9_9 : xNew RX9 9 0 dv_X0 := ⟨RX0, TX0, 10, tyX0, kc_X0, gdm 199 (by decide +kernel) rfl, gdm 200 (by decide +kernel) rfl, gdm 169 (by decide +kernel) rfl, fun j hj => (match j, hj with
  | 0, _ => rfl
  | 1, _ => rfl
  | 2, _ => rfl
  | 3, _ => rfl
  | 4, _ => rfl
  | 5, _ => rfl
  | 6, _ => rfl
  | 7, _ => rfl
  | 8, _ => rfl
  | 9, _ => rfl
  | j + 10, hj => absurd hj (Nat.not_lt.mpr (Nat.le_add_left 10 j))), rfl⟩
theorem wn_X9_19 : xNew RX9 19 2 dv_X2 := ⟨RX2, TX2, 3, tyX2, kc_X2, gdm 279 (by decide +kernel) rfl, gdm 280 (by decide +kernel) rfl, gdm 171 (by decide +kernel) rfl, fun j hj => (match j, hj with
  | 0, _ => rfl
  | 1, _ => rfl
  | 2, _ => rfl
  | j + 3, hj => absurd hj (Nat.not_lt.mpr (Nat.le_add_left 3 j))), rfl⟩
theorem wn_X9_26 : xNew RX9 26 6 dv_X6 := ⟨RX6, TX6, 8, tyX6, kc_X6, gdm 299 (by decide +kernel) rfl, gdm 300 (by decide +kernel) rfl, gdm 172 (by decide +kernel) rfl, fun j hj => (match j, hj with
  | 0, _ => rfl
  | 1, _ => rfl
  | 2, _ => rfl
  | 3, _ => rfl
  | 4, _ => rfl
  | 5, _ => rfl
  | 6, _ => rfl
  | 7, _ => rfl
  | j + 8, hj => absurd hj (Nat.not_lt.mpr (Nat.le_add_left 8 j))), rfl⟩
theorem wn_X9_33 : xNew RX9 33 7 dv_X7 := ⟨RX7, TX7, 10, tyX7, kc_X7, gdm 332 (by decide +kernel) rfl, gdm 333 (by decide +kernel) rfl, gdm 173 (by decide +kernel) rfl, fun j hj => (match j, hj with
  | 0, _ => rfl
  | 1, _ => rfl
  | 2, _ => rfl
  | 3, _ => rfl
  | 4, _ => rfl
  | 5, _ => rfl
  | 6, _ => rfl
  | 7, _ => rfl
  | 8, _ => rfl
  | 9, _ => rfl
  | j + 10, hj => absurd hj (Nat.not_lt.mpr (Nat.le_add_left 10 j))), rfl⟩
theorem wn_X9_40 : xNew RX9 40 5 dv_X5 := ⟨RX5, TX5, 5, tyX5, kc_X5, gdm 380 (by decide +kernel) rfl, gdm 381 (by decide +kernel) rfl, gdm 174 (by decide +kernel) rfl, fun j hj => (match j, hj with
  | 0, _ => rfl
  | 1, _ => rfl
  | 2, _ => rfl
  | 3, _ => rfl
  | 4, _ => rfl
  | j + 5, hj => absurd hj (Nat.not_lt.mpr (Nat.le_add_left 5 j))), rfl⟩
theorem wn_X9_47 : xNew RX9 47 4 dv_X4 := ⟨RX4, TX4, 9, tyX4, kc_X4, gdm 406 (by decide +kernel) rfl, gdm 407 (by decide +kernel) rfl, gdm 175 (by decide +kernel) rfl, fun j hj => (match j, hj with
  | 0, _ => rfl
  | 1, _ => rfl
  | 2, _ => rfl
  | 3, _ => rfl
  | 4, _ => rfl
  | 5, _ => rfl
  | 6, _ => rfl
  | 7, _ => rfl
  | 8, _ => rfl
  | j + 9, hj => absurd hj (Nat.not_lt.mpr (Nat.le_add_left 9 j))), rfl⟩
theorem wn_X9_54 : xNew RX9 54 8 dv_X8 := ⟨RX8, TX8, 8, tyX8, kc_X8, gdm 444 (by decide +kernel) rfl, gdm 445 (by decide +kernel) rfl, gdm 176 (by decide +kernel) rfl, fun j hj => (match j, hj with
  | 0, _ => rfl
  | 1, _ => rfl
  | 2, _ => rfl
  | 3, _ => rfl
  | 4, _ => rfl
  | 5, _ => rfl
  | 6, _ => rfl
  | 7, _ => rfl
  | j + 8, hj => absurd hj (Nat.not_lt.mpr (Nat.le_add_left 8 j))), rfl⟩
theorem wn_X9_61 : xNew RX9 61 1 dv_X1 := ⟨RX1, TX1, 6, tyX1, kc_X1, gdm 479 (by decide +kernel) rfl, gdm 480 (by decide +kernel) rfl, gdm 177 (by decide +kernel) rfl, fun j hj => (match j, hj with
  | 0, _ => rfl
  | 1, _ => rfl
  | 2, _ => rfl
  | 3, _ => rfl
  | 4, _ => rfl
  | 5, _ => rfl
  | j + 6, hj => absurd hj (Nat.not_lt.mpr (Nat.le_add_left 6 j))), rfl⟩
theorem wn_X0_24 : xNew RX0 24 3 dv_X3 := ⟨RX3, TX3, 2, tyX3, kc_X3, gdm 205 (by decide +kernel) rfl, gdm 206 (by decide +kernel) rfl, gdm 170 (by decide +kernel) rfl, fun j hj => (match j, hj with
  | 0, _ => rfl
  | 1, _ => rfl
  | j + 2, hj => absurd hj (Nat.not_lt.mpr (Nat.le_add_left 2 j))), rfl⟩
theorem wn_X2_9 : xNew RX2 9 0 dv_X0 := ⟨RX0, TX0, 10, tyX0, kc_X0, gdm 285 (by decide +kernel) rfl, gdm 200 (by decide +kernel) rfl, gdm 169 (by decide +kernel) rfl, fun j hj => (match j, hj with
  | 0, _ => rfl
  | 1, _ => rfl
  | 2, _ => rfl
  | 3, _ => rfl
  | 4, _ => rfl
  | 5, _ => rfl
  | 6, _ => rfl
  | 7, _ => rfl
  | 8, _ => rfl
  | 9, _ => rfl
  | j + 10, hj => absurd hj (Nat.not_lt.mpr (Nat.le_add_left 10 j))), rfl⟩
theorem wn_X7_9 : xNew RX7 9 3 dv_X3 := ⟨RX3, TX3, 2, tyX3, kc_X3, gdm 338 (by decide +kernel) rfl, gdm 206 (by decide +kernel) rfl, gdm 170 (by decide +kernel) rfl, fun j hj => (match j, hj with
  | 0, _ => rfl
  | 1, _ => rfl
  | j + 2, hj => absurd hj (Nat.not_lt.mpr (Nat.le_add_left 2 j))), rfl⟩
theorem ff_X9_12 : xFldF RX9 12 9 0 (.object "PairKeeper$Book") := ⟨RX9, TX9, 12, tyX9, kc_X9, Nat.le_of_ble_eq_true rfl, rfl, rfl, rfl, gdm 505 (by decide +kernel) rfl⟩
theorem ff_X9_16 : xFldF RX9 16 9 1 (.object "PairKeeper$Book") := ⟨RX9, TX9, 12, tyX9, kc_X9, Nat.le_of_ble_eq_true rfl, rfl, rfl, rfl, gdm 506 (by decide +kernel) rfl⟩
theorem ff_X9_22 : xFldF RX9 22 9 2 (.object "PairKeeper$History") := ⟨RX9, TX9, 12, tyX9, kc_X9, Nat.le_of_ble_eq_true rfl, rfl, rfl, rfl, gdm 507 (by decide +kernel) rfl⟩
theorem ff_X9_29 : xFldF RX9 29 9 3 (.object "PairKeeper$Reader") := ⟨RX9, TX9, 12, tyX9, kc_X9, Nat.le_of_ble_eq_true rfl, rfl, rfl, rfl, gdm 508 (by decide +kernel) rfl⟩
theorem ff_X9_36 : xFldF RX9 36 9 4 (.object "PairKeeper$Search") := ⟨RX9, TX9, 12, tyX9, kc_X9, Nat.le_of_ble_eq_true rfl, rfl, rfl, rfl, gdm 509 (by decide +kernel) rfl⟩
theorem ff_X9_43 : xFldF RX9 43 9 5 (.object "PairKeeper$Reach") := ⟨RX9, TX9, 12, tyX9, kc_X9, Nat.le_of_ble_eq_true rfl, rfl, rfl, rfl, gdm 510 (by decide +kernel) rfl⟩
theorem ff_X9_50 : xFldF RX9 50 9 6 (.object "PairKeeper$Phasing") := ⟨RX9, TX9, 12, tyX9, kc_X9, Nat.le_of_ble_eq_true rfl, rfl, rfl, rfl, gdm 511 (by decide +kernel) rfl⟩
theorem ff_X9_57 : xFldF RX9 57 9 7 (.object "PairKeeper$Tally") := ⟨RX9, TX9, 12, tyX9, kc_X9, Nat.le_of_ble_eq_true rfl, rfl, rfl, rfl, gdm 512 (by decide +kernel) rfl⟩
theorem ff_X9_64 : xFldF RX9 64 9 8 (.object "PairKeeper$Calendar") := ⟨RX9, TX9, 12, tyX9, kc_X9, Nat.le_of_ble_eq_true rfl, rfl, rfl, rfl, gdm 513 (by decide +kernel) rfl⟩
theorem ff_X0_9 : xFldF RX0 9 0 5 (.array .int) := ⟨RX0, TX0, 10, tyX0, kc_X0, Nat.le_of_ble_eq_true rfl, rfl, rfl, rfl, gdm 250 (by decide +kernel) rfl⟩
theorem ff_X0_15 : xFldF RX0 15 0 6 (.array .int) := ⟨RX0, TX0, 10, tyX0, kc_X0, Nat.le_of_ble_eq_true rfl, rfl, rfl, rfl, gdm 251 (by decide +kernel) rfl⟩
theorem ff_X0_18 : xFldF RX0 18 0 7 (.array .int) := ⟨RX0, TX0, 10, tyX0, kc_X0, Nat.le_of_ble_eq_true rfl, rfl, rfl, rfl, gdm 252 (by decide +kernel) rfl⟩
theorem ff_X0_21 : xFldF RX0 21 0 8 (.array .int) := ⟨RX0, TX0, 10, tyX0, kc_X0, Nat.le_of_ble_eq_true rfl, rfl, rfl, rfl, gdm 253 (by decide +kernel) rfl⟩
theorem ff_X0_27 : xFldF RX0 27 0 9 (.object "PairKeeper$Pairs") := ⟨RX0, TX0, 10, tyX0, kc_X0, Nat.le_of_ble_eq_true rfl, rfl, rfl, rfl, gdm 254 (by decide +kernel) rfl⟩
theorem ff_X1_9 : xFldF RX1 9 1 0 (.array .int) := ⟨RX1, TX1, 6, tyX1, kc_X1, Nat.le_of_ble_eq_true rfl, rfl, rfl, rfl, gdm 485 (by decide +kernel) rfl⟩
theorem ff_X1_15 : xFldF RX1 15 1 1 (.array .int) := ⟨RX1, TX1, 6, tyX1, kc_X1, Nat.le_of_ble_eq_true rfl, rfl, rfl, rfl, gdm 486 (by decide +kernel) rfl⟩
theorem ff_X1_18 : xFldF RX1 18 1 2 (.array .int) := ⟨RX1, TX1, 6, tyX1, kc_X1, Nat.le_of_ble_eq_true rfl, rfl, rfl, rfl, gdm 487 (by decide +kernel) rfl⟩
theorem ff_X1_21 : xFldF RX1 21 1 3 (.array .int) := ⟨RX1, TX1, 6, tyX1, kc_X1, Nat.le_of_ble_eq_true rfl, rfl, rfl, rfl, gdm 488 (by decide +kernel) rfl⟩
theorem ff_X1_24 : xFldF RX1 24 1 4 (.array .int) := ⟨RX1, TX1, 6, tyX1, kc_X1, Nat.le_of_ble_eq_true rfl, rfl, rfl, rfl, gdm 489 (by decide +kernel) rfl⟩
theorem ff_X2_11 : xFldF RX2 11 2 0 (.array (.object "PairKeeper$Book")) := ⟨RX2, TX2, 3, tyX2, kc_X2, Nat.le_of_ble_eq_true rfl, rfl, rfl, rfl, gdm 288 (by decide +kernel) rfl⟩
theorem ff_X3_9 : xFldF RX3 9 3 0 (.array .int) := ⟨RX3, TX3, 2, tyX3, kc_X3, Nat.le_of_ble_eq_true rfl, rfl, rfl, rfl, gdm 215 (by decide +kernel) rfl⟩
theorem ff_X3_15 : xFldF RX3 15 3 1 (.array .int) := ⟨RX3, TX3, 2, tyX3, kc_X3, Nat.le_of_ble_eq_true rfl, rfl, rfl, rfl, gdm 216 (by decide +kernel) rfl⟩
theorem ff_X4_9 : xFldF RX4 9 4 0 (.array .int) := ⟨RX4, TX4, 9, tyX4, kc_X4, Nat.le_of_ble_eq_true rfl, rfl, rfl, rfl, gdm 412 (by decide +kernel) rfl⟩
theorem ff_X4_15 : xFldF RX4 15 4 1 (.array .int) := ⟨RX4, TX4, 9, tyX4, kc_X4, Nat.le_of_ble_eq_true rfl, rfl, rfl, rfl, gdm 413 (by decide +kernel) rfl⟩
theorem ff_X4_18 : xFldF RX4 18 4 2 (.array .int) := ⟨RX4, TX4, 9, tyX4, kc_X4, Nat.le_of_ble_eq_true rfl, rfl, rfl, rfl, gdm 414 (by decide +kernel) rfl⟩
theorem ff_X4_21 : xFldF RX4 21 4 3 (.array .int) := ⟨RX4, TX4, 9, tyX4, kc_X4, Nat.le_of_ble_eq_true rfl, rfl, rfl, rfl, gdm 415 (by decide +kernel) rfl⟩
theorem ff_X5_24 : xFldF RX5 24 5 4 (.array .int) := ⟨RX5, TX5, 5, tyX5, kc_X5, Nat.le_of_ble_eq_true rfl, rfl, rfl, rfl, gdm 394 (by decide +kernel) rfl⟩
theorem ff_X6_9 : xFldF RX6 9 6 0 (.array .int) := ⟨RX6, TX6, 8, tyX6, kc_X6, Nat.le_of_ble_eq_true rfl, rfl, rfl, rfl, gdm 305 (by decide +kernel) rfl⟩
theorem ff_X7_12 : xFldF RX7 12 7 0 (.object "PairKeeper$Pairs") := ⟨RX7, TX7, 10, tyX7, kc_X7, Nat.le_of_ble_eq_true rfl, rfl, rfl, rfl, gdm 340 (by decide +kernel) rfl⟩
theorem ff_X7_18 : xFldF RX7 18 7 1 (.array .int) := ⟨RX7, TX7, 10, tyX7, kc_X7, Nat.le_of_ble_eq_true rfl, rfl, rfl, rfl, gdm 344 (by decide +kernel) rfl⟩
theorem ff_X7_22 : xFldF RX7 22 7 2 (.array .int) := ⟨RX7, TX7, 10, tyX7, kc_X7, Nat.le_of_ble_eq_true rfl, rfl, rfl, rfl, gdm 345 (by decide +kernel) rfl⟩
theorem ff_X7_25 : xFldF RX7 25 7 3 (.array .int) := ⟨RX7, TX7, 10, tyX7, kc_X7, Nat.le_of_ble_eq_true rfl, rfl, rfl, rfl, gdm 346 (by decide +kernel) rfl⟩
theorem ff_X7_28 : xFldF RX7 28 7 4 (.array .int) := ⟨RX7, TX7, 10, tyX7, kc_X7, Nat.le_of_ble_eq_true rfl, rfl, rfl, rfl, gdm 347 (by decide +kernel) rfl⟩
theorem ff_X8_9 : xFldF RX8 9 8 0 (.array .long) := ⟨RX8, TX8, 8, tyX8, kc_X8, Nat.le_of_ble_eq_true rfl, rfl, rfl, rfl, gdm 450 (by decide +kernel) rfl⟩
theorem ff_X8_15 : xFldF RX8 15 8 1 (.array .long) := ⟨RX8, TX8, 8, tyX8, kc_X8, Nat.le_of_ble_eq_true rfl, rfl, rfl, rfl, gdm 451 (by decide +kernel) rfl⟩
theorem ff_X8_18 : xFldF RX8 18 8 2 (.array .long) := ⟨RX8, TX8, 8, tyX8, kc_X8, Nat.le_of_ble_eq_true rfl, rfl, rfl, rfl, gdm 452 (by decide +kernel) rfl⟩
theorem ff_X8_21 : xFldF RX8 21 8 3 (.array .int) := ⟨RX8, TX8, 8, tyX8, kc_X8, Nat.le_of_ble_eq_true rfl, rfl, rfl, rfl, gdm 453 (by decide +kernel) rfl⟩
theorem ff_X8_25 : xFldF RX8 25 8 4 (.array .int) := ⟨RX8, TX8, 8, tyX8, kc_X8, Nat.le_of_ble_eq_true rfl, rfl, rfl, rfl, gdm 454 (by decide +kernel) rfl⟩
theorem ff_X10_9 : xFldF RX10 9 10 1 (.array .int) := ⟨RX10, TX10, 39, tyX10, kc_X10, Nat.le_of_ble_eq_true rfl, rfl, rfl, rfl, gdm 1490 (by decide +kernel) rfl⟩
theorem ff_X10_17 : xFldF RX10 17 10 8 (.array .int) := ⟨RX10, TX10, 39, tyX10, kc_X10, Nat.le_of_ble_eq_true rfl, rfl, rfl, rfl, gdm 1497 (by decide +kernel) rfl⟩
theorem ff_X10_22 : xFldF RX10 22 10 9 (.array (.array .int)) := ⟨RX10, TX10, 39, tyX10, kc_X10, Nat.le_of_ble_eq_true rfl, rfl, rfl, rfl, gdm 1498 (by decide +kernel) rfl⟩
theorem ff_X10_25 : xFldF RX10 25 10 10 (.array (.array .int)) := ⟨RX10, TX10, 39, tyX10, kc_X10, Nat.le_of_ble_eq_true rfl, rfl, rfl, rfl, gdm 1499 (by decide +kernel) rfl⟩
theorem ff_X10_28 : xFldF RX10 28 10 11 (.array (.array .int)) := ⟨RX10, TX10, 39, tyX10, kc_X10, Nat.le_of_ble_eq_true rfl, rfl, rfl, rfl, gdm 1500 (by decide +kernel) rfl⟩
theorem ff_X10_31 : xFldF RX10 31 10 12 (.array (.array .int)) := ⟨RX10, TX10, 39, tyX10, kc_X10, Nat.le_of_ble_eq_true rfl, rfl, rfl, rfl, gdm 1501 (by decide +kernel) rfl⟩
theorem ff_X10_36 : xFldF RX10 36 10 13 (.array (.array (.array .int))) := ⟨RX10, TX10, 39, tyX10, kc_X10, Nat.le_of_ble_eq_true rfl, rfl, rfl, rfl, gdm 1502 (by decide +kernel) rfl⟩
theorem ff_X10_39 : xFldF RX10 39 10 17 (.array .int) := ⟨RX10, TX10, 39, tyX10, kc_X10, Nat.le_of_ble_eq_true rfl, rfl, rfl, rfl, gdm 1506 (by decide +kernel) rfl⟩
theorem ff_X10_42 : xFldF RX10 42 10 19 (.array .int) := ⟨RX10, TX10, 39, tyX10, kc_X10, Nat.le_of_ble_eq_true rfl, rfl, rfl, rfl, gdm 1508 (by decide +kernel) rfl⟩
theorem ff_X10_45 : xFldF RX10 45 10 24 (.array .int) := ⟨RX10, TX10, 39, tyX10, kc_X10, Nat.le_of_ble_eq_true rfl, rfl, rfl, rfl, gdm 1513 (by decide +kernel) rfl⟩
theorem ff_X10_48 : xFldF RX10 48 10 25 (.array .int) := ⟨RX10, TX10, 39, tyX10, kc_X10, Nat.le_of_ble_eq_true rfl, rfl, rfl, rfl, gdm 1514 (by decide +kernel) rfl⟩
theorem ff_X10_51 : xFldF RX10 51 10 28 (.array .int) := ⟨RX10, TX10, 39, tyX10, kc_X10, Nat.le_of_ble_eq_true rfl, rfl, rfl, rfl, gdm 1517 (by decide +kernel) rfl⟩
theorem ff_X10_54 : xFldF RX10 54 10 32 (.array (.array .int)) := ⟨RX10, TX10, 39, tyX10, kc_X10, Nat.le_of_ble_eq_true rfl, rfl, rfl, rfl, gdm 1521 (by decide +kernel) rfl⟩
theorem ff_X10_57 : xFldF RX10 57 10 33 (.array .int) := ⟨RX10, TX10, 39, tyX10, kc_X10, Nat.le_of_ble_eq_true rfl, rfl, rfl, rfl, gdm 1522 (by decide +kernel) rfl⟩
theorem ff_X10_60 : xFldF RX10 60 10 34 (.array .int) := ⟨RX10, TX10, 39, tyX10, kc_X10, Nat.le_of_ble_eq_true rfl, rfl, rfl, rfl, gdm 1523 (by decide +kernel) rfl⟩
theorem ff_X10_63 : xFldF RX10 63 10 35 (.array .long) := ⟨RX10, TX10, 39, tyX10, kc_X10, Nat.le_of_ble_eq_true rfl, rfl, rfl, rfl, gdm 1524 (by decide +kernel) rfl⟩
theorem ff_X10_67 : xFldF RX10 67 10 36 (.array .long) := ⟨RX10, TX10, 39, tyX10, kc_X10, Nat.le_of_ble_eq_true rfl, rfl, rfl, rfl, gdm 1525 (by decide +kernel) rfl⟩
theorem ff_X10_70 : xFldF RX10 70 10 37 (.array (.array .int)) := ⟨RX10, TX10, 39, tyX10, kc_X10, Nat.le_of_ble_eq_true rfl, rfl, rfl, rfl, gdm 1526 (by decide +kernel) rfl⟩
theorem ff_X10_75 : xFldF RX10 75 10 38 (.array (.array .long)) := ⟨RX10, TX10, 39, tyX10, kc_X10, Nat.le_of_ble_eq_true rfl, rfl, rfl, rfl, gdm 1527 (by decide +kernel) rfl⟩
theorem wo_X0 : xObj RX0 3 := ⟨gdm 204 (by decide +kernel) rfl, gdm 197 (by decide +kernel) rfl, gdm 198 (by decide +kernel) rfl⟩
theorem wo_X1 : xObj RX1 3 := ⟨gdm 484 (by decide +kernel) rfl, gdm 197 (by decide +kernel) rfl, gdm 198 (by decide +kernel) rfl⟩
theorem wo_X2 : xObj RX2 3 := ⟨gdm 284 (by decide +kernel) rfl, gdm 197 (by decide +kernel) rfl, gdm 198 (by decide +kernel) rfl⟩
theorem wo_X3 : xObj RX3 3 := ⟨gdm 210 (by decide +kernel) rfl, gdm 197 (by decide +kernel) rfl, gdm 198 (by decide +kernel) rfl⟩
theorem wo_X4 : xObj RX4 3 := ⟨gdm 411 (by decide +kernel) rfl, gdm 197 (by decide +kernel) rfl, gdm 198 (by decide +kernel) rfl⟩
theorem wo_X5 : xObj RX5 3 := ⟨gdm 385 (by decide +kernel) rfl, gdm 197 (by decide +kernel) rfl, gdm 198 (by decide +kernel) rfl⟩
theorem wo_X6 : xObj RX6 3 := ⟨gdm 304 (by decide +kernel) rfl, gdm 197 (by decide +kernel) rfl, gdm 198 (by decide +kernel) rfl⟩
theorem wo_X7 : xObj RX7 3 := ⟨gdm 337 (by decide +kernel) rfl, gdm 197 (by decide +kernel) rfl, gdm 198 (by decide +kernel) rfl⟩
theorem wo_X8 : xObj RX8 3 := ⟨gdm 449 (by decide +kernel) rfl, gdm 197 (by decide +kernel) rfl, gdm 198 (by decide +kernel) rfl⟩
theorem wo_X9 : xObj RX9 3 := ⟨gdm 196 (by decide +kernel) rfl, gdm 197 (by decide +kernel) rfl, gdm 198 (by decide +kernel) rfl⟩
theorem wo_X10 : xObj RX10 3 := ⟨gdm 1478 (by decide +kernel) rfl, gdm 197 (by decide +kernel) rfl, gdm 198 (by decide +kernel) rfl⟩
theorem wq_X2_9 : Cond.classLink RX2 9 "PairKeeper$Book" ∈ lw_gd := gdm 285 (by decide +kernel) rfl
theorem wm_X10_20 : Cond.classLink RX10 20 ("[" ++ (FieldType.array .int).toString) ∈ lw_gd := by
  rw [show "[" ++ (FieldType.array .int).toString = "[[I" by decide +kernel]
  exact gdm 1479 (by decide +kernel) rfl
theorem wm_X10_73 : Cond.classLink RX10 73 ("[" ++ (FieldType.array .long).toString) ∈ lw_gd := by
  rw [show "[" ++ (FieldType.array .long).toString = "[[J" by decide +kernel]
  exact gdm 1483 (by decide +kernel) rfl
theorem wm_X10_34 : Cond.classLink RX10 34 ("[" ++ (FieldType.array (.array .int)).toString) ∈ lw_gd := by
  rw [show "[" ++ (FieldType.array (.array .int)).toString = "[[[I" by decide +kernel]
  exact gdm 1481 (by decide +kernel) rfl
theorem kb_13 : (Int8.ofInt (13)).toInt32 = (13 : Int32) := by decide +kernel
theorem kb_18 : (Int8.ofInt (18)).toInt32 = (18 : Int32) := by decide +kernel
theorem dX3_init_0 : decode (dc DX3_init) 0 = .ok (.aload_n 0, 1) := by decide +kernel
theorem dX3_init_1 : decode (dc DX3_init) 1 = .ok (.invokespecial 3, 3) := by decide +kernel
theorem dX3_init_4 : decode (dc DX3_init) 4 = .ok (.aload_n 0, 1) := by decide +kernel
theorem dX3_init_5 : decode (dc DX3_init) 5 = .ok (.bipush 12, 2) := by decide +kernel
theorem dX3_init_7 : decode (dc DX3_init) 7 = .ok (.newarray .int, 2) := by decide +kernel
theorem dX3_init_9 : decode (dc DX3_init) 9 = .ok (.putfield 9, 3) := by decide +kernel
theorem dX3_init_12 : decode (dc DX3_init) 12 = .ok (.aload_n 0, 1) := by decide +kernel
theorem dX3_init_13 : decode (dc DX3_init) 13 = .ok (.bipush 12, 2) := by decide +kernel
theorem dX3_init_15 : decode (dc DX3_init) 15 = .ok (.newarray .int, 2) := by decide +kernel
theorem dX3_init_17 : decode (dc DX3_init) 17 = .ok (.putfield 15, 3) := by decide +kernel
theorem dX3_init_20 : decode (dc DX3_init) 20 = .ok (.aload_n 0, 1) := by decide +kernel
theorem dX3_init_21 : decode (dc DX3_init) 21 = .ok (.invokevirtual 18, 3) := by decide +kernel
theorem dX3_init_24 : decode (dc DX3_init) 24 = .ok (.return_, 1) := by decide +kernel
theorem dX0_init_0 : decode (dc DX0_init) 0 = .ok (.aload_n 0, 1) := by decide +kernel
theorem dX0_init_1 : decode (dc DX0_init) 1 = .ok (.invokespecial 3, 3) := by decide +kernel
theorem dX0_init_4 : decode (dc DX0_init) 4 = .ok (.aload_n 0, 1) := by decide +kernel
theorem dX0_init_5 : decode (dc DX0_init) 5 = .ok (.bipush 12, 2) := by decide +kernel
theorem dX0_init_7 : decode (dc DX0_init) 7 = .ok (.newarray .int, 2) := by decide +kernel
theorem dX0_init_9 : decode (dc DX0_init) 9 = .ok (.putfield 9, 3) := by decide +kernel
theorem dX0_init_12 : decode (dc DX0_init) 12 = .ok (.aload_n 0, 1) := by decide +kernel
theorem dX0_init_13 : decode (dc DX0_init) 13 = .ok (.bipush 12, 2) := by decide +kernel
theorem dX0_init_15 : decode (dc DX0_init) 15 = .ok (.newarray .int, 2) := by decide +kernel
theorem dX0_init_17 : decode (dc DX0_init) 17 = .ok (.putfield 15, 3) := by decide +kernel
theorem dX0_init_20 : decode (dc DX0_init) 20 = .ok (.aload_n 0, 1) := by decide +kernel
theorem dX0_init_21 : decode (dc DX0_init) 21 = .ok (.bipush 12, 2) := by decide +kernel
theorem dX0_init_23 : decode (dc DX0_init) 23 = .ok (.newarray .int, 2) := by decide +kernel
theorem dX0_init_25 : decode (dc DX0_init) 25 = .ok (.putfield 18, 3) := by decide +kernel
theorem dX0_init_28 : decode (dc DX0_init) 28 = .ok (.aload_n 0, 1) := by decide +kernel
theorem dX0_init_29 : decode (dc DX0_init) 29 = .ok (.sipush 144, 3) := by decide +kernel
theorem dX0_init_32 : decode (dc DX0_init) 32 = .ok (.newarray .int, 2) := by decide +kernel
theorem dX0_init_34 : decode (dc DX0_init) 34 = .ok (.putfield 21, 3) := by decide +kernel
theorem dX0_init_37 : decode (dc DX0_init) 37 = .ok (.aload_n 0, 1) := by decide +kernel
theorem dX0_init_38 : decode (dc DX0_init) 38 = .ok (.new 24, 3) := by decide +kernel
theorem dX0_init_41 : decode (dc DX0_init) 41 = .ok (.dup, 1) := by decide +kernel
theorem dX0_init_42 : decode (dc DX0_init) 42 = .ok (.invokespecial 26, 3) := by decide +kernel
theorem dX0_init_45 : decode (dc DX0_init) 45 = .ok (.putfield 27, 3) := by decide +kernel
theorem dX0_init_48 : decode (dc DX0_init) 48 = .ok (.aload_n 0, 1) := by decide +kernel
theorem dX0_init_49 : decode (dc DX0_init) 49 = .ok (.iconst 1, 1) := by decide +kernel
theorem dX0_init_50 : decode (dc DX0_init) 50 = .ok (.iconst 1, 1) := by decide +kernel
theorem dX0_init_51 : decode (dc DX0_init) 51 = .ok (.invokevirtual 31, 3) := by decide +kernel
theorem dX0_init_54 : decode (dc DX0_init) 54 = .ok (.return_, 1) := by decide +kernel
theorem dX1_init_0 : decode (dc DX1_init) 0 = .ok (.aload_n 0, 1) := by decide +kernel
theorem dX1_init_1 : decode (dc DX1_init) 1 = .ok (.invokespecial 3, 3) := by decide +kernel
theorem dX1_init_4 : decode (dc DX1_init) 4 = .ok (.aload_n 0, 1) := by decide +kernel
theorem dX1_init_5 : decode (dc DX1_init) 5 = .ok (.sipush 144, 3) := by decide +kernel
theorem dX1_init_8 : decode (dc DX1_init) 8 = .ok (.newarray .int, 2) := by decide +kernel
theorem dX1_init_10 : decode (dc DX1_init) 10 = .ok (.putfield 9, 3) := by decide +kernel
theorem dX1_init_13 : decode (dc DX1_init) 13 = .ok (.aload_n 0, 1) := by decide +kernel
theorem dX1_init_14 : decode (dc DX1_init) 14 = .ok (.sipush 144, 3) := by decide +kernel
theorem dX1_init_17 : decode (dc DX1_init) 17 = .ok (.newarray .int, 2) := by decide +kernel
theorem dX1_init_19 : decode (dc DX1_init) 19 = .ok (.putfield 15, 3) := by decide +kernel
theorem dX1_init_22 : decode (dc DX1_init) 22 = .ok (.aload_n 0, 1) := by decide +kernel
theorem dX1_init_23 : decode (dc DX1_init) 23 = .ok (.sipush 144, 3) := by decide +kernel
theorem dX1_init_26 : decode (dc DX1_init) 26 = .ok (.newarray .int, 2) := by decide +kernel
theorem dX1_init_28 : decode (dc DX1_init) 28 = .ok (.putfield 18, 3) := by decide +kernel
theorem dX1_init_31 : decode (dc DX1_init) 31 = .ok (.aload_n 0, 1) := by decide +kernel
theorem dX1_init_32 : decode (dc DX1_init) 32 = .ok (.bipush 24, 2) := by decide +kernel
theorem dX1_init_34 : decode (dc DX1_init) 34 = .ok (.newarray .int, 2) := by decide +kernel
theorem dX1_init_36 : decode (dc DX1_init) 36 = .ok (.putfield 21, 3) := by decide +kernel
theorem dX1_init_39 : decode (dc DX1_init) 39 = .ok (.aload_n 0, 1) := by decide +kernel
theorem dX1_init_40 : decode (dc DX1_init) 40 = .ok (.bipush 24, 2) := by decide +kernel
theorem dX1_init_42 : decode (dc DX1_init) 42 = .ok (.newarray .int, 2) := by decide +kernel
theorem dX1_init_44 : decode (dc DX1_init) 44 = .ok (.putfield 24, 3) := by decide +kernel
theorem dX1_init_47 : decode (dc DX1_init) 47 = .ok (.aload_n 0, 1) := by decide +kernel
theorem dX1_init_48 : decode (dc DX1_init) 48 = .ok (.iconst 0, 1) := by decide +kernel
theorem dX1_init_49 : decode (dc DX1_init) 49 = .ok (.putfield 27, 3) := by decide +kernel
theorem dX1_init_52 : decode (dc DX1_init) 52 = .ok (.return_, 1) := by decide +kernel
theorem dX2_init_0 : decode (dc DX2_init) 0 = .ok (.aload_n 0, 1) := by decide +kernel
theorem dX2_init_1 : decode (dc DX2_init) 1 = .ok (.invokespecial 3, 3) := by decide +kernel
theorem dX2_init_4 : decode (dc DX2_init) 4 = .ok (.aload_n 0, 1) := by decide +kernel
theorem dX2_init_5 : decode (dc DX2_init) 5 = .ok (.bipush 15, 2) := by decide +kernel
theorem dX2_init_7 : decode (dc DX2_init) 7 = .ok (.anewarray 9, 3) := by decide +kernel
theorem dX2_init_10 : decode (dc DX2_init) 10 = .ok (.putfield 11, 3) := by decide +kernel
theorem dX2_init_13 : decode (dc DX2_init) 13 = .ok (.aload_n 0, 1) := by decide +kernel
theorem dX2_init_14 : decode (dc DX2_init) 14 = .ok (.iconst 0, 1) := by decide +kernel
theorem dX2_init_15 : decode (dc DX2_init) 15 = .ok (.putfield 17, 3) := by decide +kernel
theorem dX2_init_18 : decode (dc DX2_init) 18 = .ok (.aload_n 0, 1) := by decide +kernel
theorem dX2_init_19 : decode (dc DX2_init) 19 = .ok (.iconst 0, 1) := by decide +kernel
theorem dX2_init_20 : decode (dc DX2_init) 20 = .ok (.putfield 21, 3) := by decide +kernel
theorem dX2_init_23 : decode (dc DX2_init) 23 = .ok (.iconst 0, 1) := by decide +kernel
theorem dX2_init_24 : decode (dc DX2_init) 24 = .ok (.istore_n 1, 1) := by decide +kernel
theorem dX2_init_25 : decode (dc DX2_init) 25 = .ok (.iload_n 1, 1) := by decide +kernel
theorem dX2_init_26 : decode (dc DX2_init) 26 = .ok (.bipush 15, 2) := by decide +kernel
theorem dX2_init_28 : decode (dc DX2_init) 28 = .ok (.if_icmp .ge 22, 3) := by decide +kernel
theorem dX2_init_31 : decode (dc DX2_init) 31 = .ok (.aload_n 0, 1) := by decide +kernel
theorem dX2_init_32 : decode (dc DX2_init) 32 = .ok (.getfield 11, 3) := by decide +kernel
theorem dX2_init_35 : decode (dc DX2_init) 35 = .ok (.iload_n 1, 1) := by decide +kernel
theorem dX2_init_36 : decode (dc DX2_init) 36 = .ok (.new 9, 3) := by decide +kernel
theorem dX2_init_39 : decode (dc DX2_init) 39 = .ok (.dup, 1) := by decide +kernel
theorem dX2_init_40 : decode (dc DX2_init) 40 = .ok (.invokespecial 24, 3) := by decide +kernel
theorem dX2_init_43 : decode (dc DX2_init) 43 = .ok (.aastore, 1) := by decide +kernel
theorem dX2_init_44 : decode (dc DX2_init) 44 = .ok (.iinc 1 1, 3) := by decide +kernel
theorem dX2_init_47 : decode (dc DX2_init) 47 = .ok (.goto (-22), 3) := by decide +kernel
theorem dX2_init_50 : decode (dc DX2_init) 50 = .ok (.return_, 1) := by decide +kernel
theorem dX4_init_0 : decode (dc DX4_init) 0 = .ok (.aload_n 0, 1) := by decide +kernel
theorem dX4_init_1 : decode (dc DX4_init) 1 = .ok (.invokespecial 3, 3) := by decide +kernel
theorem dX4_init_4 : decode (dc DX4_init) 4 = .ok (.aload_n 0, 1) := by decide +kernel
theorem dX4_init_5 : decode (dc DX4_init) 5 = .ok (.bipush 12, 2) := by decide +kernel
theorem dX4_init_7 : decode (dc DX4_init) 7 = .ok (.newarray .int, 2) := by decide +kernel
theorem dX4_init_9 : decode (dc DX4_init) 9 = .ok (.putfield 9, 3) := by decide +kernel
theorem dX4_init_12 : decode (dc DX4_init) 12 = .ok (.aload_n 0, 1) := by decide +kernel
theorem dX4_init_13 : decode (dc DX4_init) 13 = .ok (.bipush 12, 2) := by decide +kernel
theorem dX4_init_15 : decode (dc DX4_init) 15 = .ok (.newarray .int, 2) := by decide +kernel
theorem dX4_init_17 : decode (dc DX4_init) 17 = .ok (.putfield 15, 3) := by decide +kernel
theorem dX4_init_20 : decode (dc DX4_init) 20 = .ok (.aload_n 0, 1) := by decide +kernel
theorem dX4_init_21 : decode (dc DX4_init) 21 = .ok (.bipush 12, 2) := by decide +kernel
theorem dX4_init_23 : decode (dc DX4_init) 23 = .ok (.newarray .int, 2) := by decide +kernel
theorem dX4_init_25 : decode (dc DX4_init) 25 = .ok (.putfield 18, 3) := by decide +kernel
theorem dX4_init_28 : decode (dc DX4_init) 28 = .ok (.aload_n 0, 1) := by decide +kernel
theorem dX4_init_29 : decode (dc DX4_init) 29 = .ok (.bipush 12, 2) := by decide +kernel
theorem dX4_init_31 : decode (dc DX4_init) 31 = .ok (.newarray .int, 2) := by decide +kernel
theorem dX4_init_33 : decode (dc DX4_init) 33 = .ok (.putfield 21, 3) := by decide +kernel
theorem dX4_init_36 : decode (dc DX4_init) 36 = .ok (.aload_n 0, 1) := by decide +kernel
theorem dX4_init_37 : decode (dc DX4_init) 37 = .ok (.iconst 0, 1) := by decide +kernel
theorem dX4_init_38 : decode (dc DX4_init) 38 = .ok (.putfield 24, 3) := by decide +kernel
theorem dX4_init_41 : decode (dc DX4_init) 41 = .ok (.aload_n 0, 1) := by decide +kernel
theorem dX4_init_42 : decode (dc DX4_init) 42 = .ok (.iconst 0, 1) := by decide +kernel
theorem dX4_init_43 : decode (dc DX4_init) 43 = .ok (.putfield 28, 3) := by decide +kernel
theorem dX4_init_46 : decode (dc DX4_init) 46 = .ok (.aload_n 0, 1) := by decide +kernel
theorem dX4_init_47 : decode (dc DX4_init) 47 = .ok (.iconst 0, 1) := by decide +kernel
theorem dX4_init_48 : decode (dc DX4_init) 48 = .ok (.putfield 31, 3) := by decide +kernel
theorem dX4_init_51 : decode (dc DX4_init) 51 = .ok (.aload_n 0, 1) := by decide +kernel
theorem dX4_init_52 : decode (dc DX4_init) 52 = .ok (.iconst 0, 1) := by decide +kernel
theorem dX4_init_53 : decode (dc DX4_init) 53 = .ok (.putfield 34, 3) := by decide +kernel
theorem dX4_init_56 : decode (dc DX4_init) 56 = .ok (.aload_n 0, 1) := by decide +kernel
theorem dX4_init_57 : decode (dc DX4_init) 57 = .ok (.iconst 0, 1) := by decide +kernel
theorem dX4_init_58 : decode (dc DX4_init) 58 = .ok (.putfield 37, 3) := by decide +kernel
theorem dX4_init_61 : decode (dc DX4_init) 61 = .ok (.return_, 1) := by decide +kernel
theorem dX5_init_0 : decode (dc DX5_init) 0 = .ok (.aload_n 0, 1) := by decide +kernel
theorem dX5_init_1 : decode (dc DX5_init) 1 = .ok (.invokespecial 3, 3) := by decide +kernel
theorem dX5_init_4 : decode (dc DX5_init) 4 = .ok (.aload_n 0, 1) := by decide +kernel
theorem dX5_init_5 : decode (dc DX5_init) 5 = .ok (.iconst 0, 1) := by decide +kernel
theorem dX5_init_6 : decode (dc DX5_init) 6 = .ok (.putfield 9, 3) := by decide +kernel
theorem dX5_init_9 : decode (dc DX5_init) 9 = .ok (.aload_n 0, 1) := by decide +kernel
theorem dX5_init_10 : decode (dc DX5_init) 10 = .ok (.iconst 0, 1) := by decide +kernel
theorem dX5_init_11 : decode (dc DX5_init) 11 = .ok (.putfield 15, 3) := by decide +kernel
theorem dX5_init_14 : decode (dc DX5_init) 14 = .ok (.aload_n 0, 1) := by decide +kernel
theorem dX5_init_15 : decode (dc DX5_init) 15 = .ok (.iconst 0, 1) := by decide +kernel
theorem dX5_init_16 : decode (dc DX5_init) 16 = .ok (.putfield 18, 3) := by decide +kernel
theorem dX5_init_19 : decode (dc DX5_init) 19 = .ok (.aload_n 0, 1) := by decide +kernel
theorem dX5_init_20 : decode (dc DX5_init) 20 = .ok (.iconst 0, 1) := by decide +kernel
theorem dX5_init_21 : decode (dc DX5_init) 21 = .ok (.putfield 21, 3) := by decide +kernel
theorem dX5_init_24 : decode (dc DX5_init) 24 = .ok (.aload_n 0, 1) := by decide +kernel
theorem dX5_init_25 : decode (dc DX5_init) 25 = .ok (.bipush 12, 2) := by decide +kernel
theorem dX5_init_27 : decode (dc DX5_init) 27 = .ok (.newarray .int, 2) := by decide +kernel
theorem dX5_init_29 : decode (dc DX5_init) 29 = .ok (.putfield 24, 3) := by decide +kernel
theorem dX5_init_32 : decode (dc DX5_init) 32 = .ok (.return_, 1) := by decide +kernel
theorem dX6_init_0 : decode (dc DX6_init) 0 = .ok (.aload_n 0, 1) := by decide +kernel
theorem dX6_init_1 : decode (dc DX6_init) 1 = .ok (.invokespecial 3, 3) := by decide +kernel
theorem dX6_init_4 : decode (dc DX6_init) 4 = .ok (.aload_n 0, 1) := by decide +kernel
theorem dX6_init_5 : decode (dc DX6_init) 5 = .ok (.sipush 300, 3) := by decide +kernel
theorem dX6_init_8 : decode (dc DX6_init) 8 = .ok (.newarray .int, 2) := by decide +kernel
theorem dX6_init_10 : decode (dc DX6_init) 10 = .ok (.putfield 9, 3) := by decide +kernel
theorem dX6_init_13 : decode (dc DX6_init) 13 = .ok (.aload_n 0, 1) := by decide +kernel
theorem dX6_init_14 : decode (dc DX6_init) 14 = .ok (.iconst 0, 1) := by decide +kernel
theorem dX6_init_15 : decode (dc DX6_init) 15 = .ok (.putfield 15, 3) := by decide +kernel
theorem dX6_init_18 : decode (dc DX6_init) 18 = .ok (.aload_n 0, 1) := by decide +kernel
theorem dX6_init_19 : decode (dc DX6_init) 19 = .ok (.iconst (-1), 1) := by decide +kernel
theorem dX6_init_20 : decode (dc DX6_init) 20 = .ok (.putfield 19, 3) := by decide +kernel
theorem dX6_init_23 : decode (dc DX6_init) 23 = .ok (.aload_n 0, 1) := by decide +kernel
theorem dX6_init_24 : decode (dc DX6_init) 24 = .ok (.iconst 0, 1) := by decide +kernel
theorem dX6_init_25 : decode (dc DX6_init) 25 = .ok (.putfield 22, 3) := by decide +kernel
theorem dX6_init_28 : decode (dc DX6_init) 28 = .ok (.aload_n 0, 1) := by decide +kernel
theorem dX6_init_29 : decode (dc DX6_init) 29 = .ok (.iconst 0, 1) := by decide +kernel
theorem dX6_init_30 : decode (dc DX6_init) 30 = .ok (.putfield 25, 3) := by decide +kernel
theorem dX6_init_33 : decode (dc DX6_init) 33 = .ok (.aload_n 0, 1) := by decide +kernel
theorem dX6_init_34 : decode (dc DX6_init) 34 = .ok (.iconst 0, 1) := by decide +kernel
theorem dX6_init_35 : decode (dc DX6_init) 35 = .ok (.putfield 28, 3) := by decide +kernel
theorem dX6_init_38 : decode (dc DX6_init) 38 = .ok (.aload_n 0, 1) := by decide +kernel
theorem dX6_init_39 : decode (dc DX6_init) 39 = .ok (.iconst 0, 1) := by decide +kernel
theorem dX6_init_40 : decode (dc DX6_init) 40 = .ok (.putfield 31, 3) := by decide +kernel
theorem dX6_init_43 : decode (dc DX6_init) 43 = .ok (.aload_n 0, 1) := by decide +kernel
theorem dX6_init_44 : decode (dc DX6_init) 44 = .ok (.iconst 0, 1) := by decide +kernel
theorem dX6_init_45 : decode (dc DX6_init) 45 = .ok (.putfield 34, 3) := by decide +kernel
theorem dX6_init_48 : decode (dc DX6_init) 48 = .ok (.return_, 1) := by decide +kernel
theorem dX7_init_0 : decode (dc DX7_init) 0 = .ok (.aload_n 0, 1) := by decide +kernel
theorem dX7_init_1 : decode (dc DX7_init) 1 = .ok (.invokespecial 3, 3) := by decide +kernel
theorem dX7_init_4 : decode (dc DX7_init) 4 = .ok (.aload_n 0, 1) := by decide +kernel
theorem dX7_init_5 : decode (dc DX7_init) 5 = .ok (.new 9, 3) := by decide +kernel
theorem dX7_init_8 : decode (dc DX7_init) 8 = .ok (.dup, 1) := by decide +kernel
theorem dX7_init_9 : decode (dc DX7_init) 9 = .ok (.invokespecial 11, 3) := by decide +kernel
theorem dX7_init_12 : decode (dc DX7_init) 12 = .ok (.putfield 12, 3) := by decide +kernel
theorem dX7_init_15 : decode (dc DX7_init) 15 = .ok (.aload_n 0, 1) := by decide +kernel
theorem dX7_init_16 : decode (dc DX7_init) 16 = .ok (.bipush 12, 2) := by decide +kernel
theorem dX7_init_18 : decode (dc DX7_init) 18 = .ok (.newarray .int, 2) := by decide +kernel
theorem dX7_init_20 : decode (dc DX7_init) 20 = .ok (.putfield 18, 3) := by decide +kernel
theorem dX7_init_23 : decode (dc DX7_init) 23 = .ok (.aload_n 0, 1) := by decide +kernel
theorem dX7_init_24 : decode (dc DX7_init) 24 = .ok (.bipush 12, 2) := by decide +kernel
theorem dX7_init_26 : decode (dc DX7_init) 26 = .ok (.newarray .int, 2) := by decide +kernel
theorem dX7_init_28 : decode (dc DX7_init) 28 = .ok (.putfield 22, 3) := by decide +kernel
theorem dX7_init_31 : decode (dc DX7_init) 31 = .ok (.aload_n 0, 1) := by decide +kernel
theorem dX7_init_32 : decode (dc DX7_init) 32 = .ok (.bipush 12, 2) := by decide +kernel
theorem dX7_init_34 : decode (dc DX7_init) 34 = .ok (.newarray .int, 2) := by decide +kernel
theorem dX7_init_36 : decode (dc DX7_init) 36 = .ok (.putfield 25, 3) := by decide +kernel
theorem dX7_init_39 : decode (dc DX7_init) 39 = .ok (.aload_n 0, 1) := by decide +kernel
theorem dX7_init_40 : decode (dc DX7_init) 40 = .ok (.bipush 24, 2) := by decide +kernel
theorem dX7_init_42 : decode (dc DX7_init) 42 = .ok (.newarray .int, 2) := by decide +kernel
theorem dX7_init_44 : decode (dc DX7_init) 44 = .ok (.putfield 28, 3) := by decide +kernel
theorem dX7_init_47 : decode (dc DX7_init) 47 = .ok (.aload_n 0, 1) := by decide +kernel
theorem dX7_init_48 : decode (dc DX7_init) 48 = .ok (.iconst 0, 1) := by decide +kernel
theorem dX7_init_49 : decode (dc DX7_init) 49 = .ok (.putfield 31, 3) := by decide +kernel
theorem dX7_init_52 : decode (dc DX7_init) 52 = .ok (.aload_n 0, 1) := by decide +kernel
theorem dX7_init_53 : decode (dc DX7_init) 53 = .ok (.iconst 0, 1) := by decide +kernel
theorem dX7_init_54 : decode (dc DX7_init) 54 = .ok (.putfield 35, 3) := by decide +kernel
theorem dX7_init_57 : decode (dc DX7_init) 57 = .ok (.aload_n 0, 1) := by decide +kernel
theorem dX7_init_58 : decode (dc DX7_init) 58 = .ok (.iconst 0, 1) := by decide +kernel
theorem dX7_init_59 : decode (dc DX7_init) 59 = .ok (.putfield 38, 3) := by decide +kernel
theorem dX7_init_62 : decode (dc DX7_init) 62 = .ok (.aload_n 0, 1) := by decide +kernel
theorem dX7_init_63 : decode (dc DX7_init) 63 = .ok (.iconst 0, 1) := by decide +kernel
theorem dX7_init_64 : decode (dc DX7_init) 64 = .ok (.putfield 41, 3) := by decide +kernel
theorem dX7_init_67 : decode (dc DX7_init) 67 = .ok (.aload_n 0, 1) := by decide +kernel
theorem dX7_init_68 : decode (dc DX7_init) 68 = .ok (.iconst 0, 1) := by decide +kernel
theorem dX7_init_69 : decode (dc DX7_init) 69 = .ok (.putfield 44, 3) := by decide +kernel
theorem dX7_init_72 : decode (dc DX7_init) 72 = .ok (.return_, 1) := by decide +kernel
theorem dX8_init_0 : decode (dc DX8_init) 0 = .ok (.aload_n 0, 1) := by decide +kernel
theorem dX8_init_1 : decode (dc DX8_init) 1 = .ok (.invokespecial 3, 3) := by decide +kernel
theorem dX8_init_4 : decode (dc DX8_init) 4 = .ok (.aload_n 0, 1) := by decide +kernel
theorem dX8_init_5 : decode (dc DX8_init) 5 = .ok (.sipush 4096, 3) := by decide +kernel
theorem dX8_init_8 : decode (dc DX8_init) 8 = .ok (.newarray .long, 2) := by decide +kernel
theorem dX8_init_10 : decode (dc DX8_init) 10 = .ok (.putfield 9, 3) := by decide +kernel
theorem dX8_init_13 : decode (dc DX8_init) 13 = .ok (.aload_n 0, 1) := by decide +kernel
theorem dX8_init_14 : decode (dc DX8_init) 14 = .ok (.sipush 4096, 3) := by decide +kernel
theorem dX8_init_17 : decode (dc DX8_init) 17 = .ok (.newarray .long, 2) := by decide +kernel
theorem dX8_init_19 : decode (dc DX8_init) 19 = .ok (.putfield 15, 3) := by decide +kernel
theorem dX8_init_22 : decode (dc DX8_init) 22 = .ok (.aload_n 0, 1) := by decide +kernel
theorem dX8_init_23 : decode (dc DX8_init) 23 = .ok (.sipush 4096, 3) := by decide +kernel
theorem dX8_init_26 : decode (dc DX8_init) 26 = .ok (.newarray .long, 2) := by decide +kernel
theorem dX8_init_28 : decode (dc DX8_init) 28 = .ok (.putfield 18, 3) := by decide +kernel
theorem dX8_init_31 : decode (dc DX8_init) 31 = .ok (.aload_n 0, 1) := by decide +kernel
theorem dX8_init_32 : decode (dc DX8_init) 32 = .ok (.sipush 4096, 3) := by decide +kernel
theorem dX8_init_35 : decode (dc DX8_init) 35 = .ok (.newarray .int, 2) := by decide +kernel
theorem dX8_init_37 : decode (dc DX8_init) 37 = .ok (.putfield 21, 3) := by decide +kernel
theorem dX8_init_40 : decode (dc DX8_init) 40 = .ok (.aload_n 0, 1) := by decide +kernel
theorem dX8_init_41 : decode (dc DX8_init) 41 = .ok (.bipush 12, 2) := by decide +kernel
theorem dX8_init_43 : decode (dc DX8_init) 43 = .ok (.newarray .int, 2) := by decide +kernel
theorem dX8_init_45 : decode (dc DX8_init) 45 = .ok (.putfield 25, 3) := by decide +kernel
theorem dX8_init_48 : decode (dc DX8_init) 48 = .ok (.aload_n 0, 1) := by decide +kernel
theorem dX8_init_49 : decode (dc DX8_init) 49 = .ok (.lconst 0, 1) := by decide +kernel
theorem dX8_init_50 : decode (dc DX8_init) 50 = .ok (.putfield 28, 3) := by decide +kernel
theorem dX8_init_53 : decode (dc DX8_init) 53 = .ok (.aload_n 0, 1) := by decide +kernel
theorem dX8_init_54 : decode (dc DX8_init) 54 = .ok (.lconst 0, 1) := by decide +kernel
theorem dX8_init_55 : decode (dc DX8_init) 55 = .ok (.putfield 32, 3) := by decide +kernel
theorem dX8_init_58 : decode (dc DX8_init) 58 = .ok (.aload_n 0, 1) := by decide +kernel
theorem dX8_init_59 : decode (dc DX8_init) 59 = .ok (.iconst 0, 1) := by decide +kernel
theorem dX8_init_60 : decode (dc DX8_init) 60 = .ok (.putfield 35, 3) := by decide +kernel
theorem dX8_init_63 : decode (dc DX8_init) 63 = .ok (.return_, 1) := by decide +kernel
theorem dX9_init_0 : decode (dc DX9_init) 0 = .ok (.aload_n 0, 1) := by decide +kernel
theorem dX9_init_1 : decode (dc DX9_init) 1 = .ok (.invokespecial 3, 3) := by decide +kernel
theorem dX9_init_4 : decode (dc DX9_init) 4 = .ok (.aload_n 0, 1) := by decide +kernel
theorem dX9_init_5 : decode (dc DX9_init) 5 = .ok (.new 9, 3) := by decide +kernel
theorem dX9_init_8 : decode (dc DX9_init) 8 = .ok (.dup, 1) := by decide +kernel
theorem dX9_init_9 : decode (dc DX9_init) 9 = .ok (.invokespecial 11, 3) := by decide +kernel
theorem dX9_init_12 : decode (dc DX9_init) 12 = .ok (.putfield 12, 3) := by decide +kernel
theorem dX9_init_15 : decode (dc DX9_init) 15 = .ok (.aload_n 0, 1) := by decide +kernel
theorem dX9_init_16 : decode (dc DX9_init) 16 = .ok (.new 9, 3) := by decide +kernel
theorem dX9_init_19 : decode (dc DX9_init) 19 = .ok (.dup, 1) := by decide +kernel
theorem dX9_init_20 : decode (dc DX9_init) 20 = .ok (.invokespecial 11, 3) := by decide +kernel
theorem dX9_init_23 : decode (dc DX9_init) 23 = .ok (.putfield 16, 3) := by decide +kernel
theorem dX9_init_26 : decode (dc DX9_init) 26 = .ok (.aload_n 0, 1) := by decide +kernel
theorem dX9_init_27 : decode (dc DX9_init) 27 = .ok (.new 19, 3) := by decide +kernel
theorem dX9_init_30 : decode (dc DX9_init) 30 = .ok (.dup, 1) := by decide +kernel
theorem dX9_init_31 : decode (dc DX9_init) 31 = .ok (.invokespecial 21, 3) := by decide +kernel
theorem dX9_init_34 : decode (dc DX9_init) 34 = .ok (.putfield 22, 3) := by decide +kernel
theorem dX9_init_37 : decode (dc DX9_init) 37 = .ok (.aload_n 0, 1) := by decide +kernel
theorem dX9_init_38 : decode (dc DX9_init) 38 = .ok (.new 26, 3) := by decide +kernel
theorem dX9_init_41 : decode (dc DX9_init) 41 = .ok (.dup, 1) := by decide +kernel
theorem dX9_init_42 : decode (dc DX9_init) 42 = .ok (.invokespecial 28, 3) := by decide +kernel
theorem dX9_init_45 : decode (dc DX9_init) 45 = .ok (.putfield 29, 3) := by decide +kernel
theorem dX9_init_48 : decode (dc DX9_init) 48 = .ok (.aload_n 0, 1) := by decide +kernel
theorem dX9_init_49 : decode (dc DX9_init) 49 = .ok (.new 33, 3) := by decide +kernel
theorem dX9_init_52 : decode (dc DX9_init) 52 = .ok (.dup, 1) := by decide +kernel
theorem dX9_init_53 : decode (dc DX9_init) 53 = .ok (.invokespecial 35, 3) := by decide +kernel
theorem dX9_init_56 : decode (dc DX9_init) 56 = .ok (.putfield 36, 3) := by decide +kernel
theorem dX9_init_59 : decode (dc DX9_init) 59 = .ok (.aload_n 0, 1) := by decide +kernel
theorem dX9_init_60 : decode (dc DX9_init) 60 = .ok (.new 40, 3) := by decide +kernel
theorem dX9_init_63 : decode (dc DX9_init) 63 = .ok (.dup, 1) := by decide +kernel
theorem dX9_init_64 : decode (dc DX9_init) 64 = .ok (.invokespecial 42, 3) := by decide +kernel
theorem dX9_init_67 : decode (dc DX9_init) 67 = .ok (.putfield 43, 3) := by decide +kernel
theorem dX9_init_70 : decode (dc DX9_init) 70 = .ok (.aload_n 0, 1) := by decide +kernel
theorem dX9_init_71 : decode (dc DX9_init) 71 = .ok (.new 47, 3) := by decide +kernel
theorem dX9_init_74 : decode (dc DX9_init) 74 = .ok (.dup, 1) := by decide +kernel
theorem dX9_init_75 : decode (dc DX9_init) 75 = .ok (.invokespecial 49, 3) := by decide +kernel
theorem dX9_init_78 : decode (dc DX9_init) 78 = .ok (.putfield 50, 3) := by decide +kernel
theorem dX9_init_81 : decode (dc DX9_init) 81 = .ok (.aload_n 0, 1) := by decide +kernel
theorem dX9_init_82 : decode (dc DX9_init) 82 = .ok (.new 54, 3) := by decide +kernel
theorem dX9_init_85 : decode (dc DX9_init) 85 = .ok (.dup, 1) := by decide +kernel
theorem dX9_init_86 : decode (dc DX9_init) 86 = .ok (.invokespecial 56, 3) := by decide +kernel
theorem dX9_init_89 : decode (dc DX9_init) 89 = .ok (.putfield 57, 3) := by decide +kernel
theorem dX9_init_92 : decode (dc DX9_init) 92 = .ok (.aload_n 0, 1) := by decide +kernel
theorem dX9_init_93 : decode (dc DX9_init) 93 = .ok (.new 61, 3) := by decide +kernel
theorem dX9_init_96 : decode (dc DX9_init) 96 = .ok (.dup, 1) := by decide +kernel
theorem dX9_init_97 : decode (dc DX9_init) 97 = .ok (.invokespecial 63, 3) := by decide +kernel
theorem dX9_init_100 : decode (dc DX9_init) 100 = .ok (.putfield 64, 3) := by decide +kernel
theorem dX9_init_103 : decode (dc DX9_init) 103 = .ok (.aload_n 0, 1) := by decide +kernel
theorem dX9_init_104 : decode (dc DX9_init) 104 = .ok (.iconst 0, 1) := by decide +kernel
theorem dX9_init_105 : decode (dc DX9_init) 105 = .ok (.putfield 68, 3) := by decide +kernel
theorem dX9_init_108 : decode (dc DX9_init) 108 = .ok (.aload_n 0, 1) := by decide +kernel
theorem dX9_init_109 : decode (dc DX9_init) 109 = .ok (.iconst 0, 1) := by decide +kernel
theorem dX9_init_110 : decode (dc DX9_init) 110 = .ok (.putfield 72, 3) := by decide +kernel
theorem dX9_init_113 : decode (dc DX9_init) 113 = .ok (.aload_n 0, 1) := by decide +kernel
theorem dX9_init_114 : decode (dc DX9_init) 114 = .ok (.iconst 0, 1) := by decide +kernel
theorem dX9_init_115 : decode (dc DX9_init) 115 = .ok (.putfield 76, 3) := by decide +kernel
theorem dX9_init_118 : decode (dc DX9_init) 118 = .ok (.return_, 1) := by decide +kernel
theorem dX10_init_0 : decode (dc DX10_init) 0 = .ok (.aload_n 0, 1) := by decide +kernel
theorem dX10_init_1 : decode (dc DX10_init) 1 = .ok (.invokespecial 3, 3) := by decide +kernel
theorem dX10_init_4 : decode (dc DX10_init) 4 = .ok (.aload_n 0, 1) := by decide +kernel
theorem dX10_init_5 : decode (dc DX10_init) 5 = .ok (.iconst 2, 1) := by decide +kernel
theorem dX10_init_6 : decode (dc DX10_init) 6 = .ok (.newarray .int, 2) := by decide +kernel
theorem dX10_init_8 : decode (dc DX10_init) 8 = .ok (.putfield 9, 3) := by decide +kernel
theorem dX10_init_11 : decode (dc DX10_init) 11 = .ok (.aload_n 0, 1) := by decide +kernel
theorem dX10_init_12 : decode (dc DX10_init) 12 = .ok (.iconst (-1), 1) := by decide +kernel
theorem dX10_init_13 : decode (dc DX10_init) 13 = .ok (.putfield 13, 3) := by decide +kernel
theorem dX10_init_16 : decode (dc DX10_init) 16 = .ok (.aload_n 0, 1) := by decide +kernel
theorem dX10_init_17 : decode (dc DX10_init) 17 = .ok (.sipush 300, 3) := by decide +kernel
theorem dX10_init_20 : decode (dc DX10_init) 20 = .ok (.newarray .int, 2) := by decide +kernel
theorem dX10_init_22 : decode (dc DX10_init) 22 = .ok (.putfield 17, 3) := by decide +kernel
theorem dX10_init_25 : decode (dc DX10_init) 25 = .ok (.aload_n 0, 1) := by decide +kernel
theorem dX10_init_26 : decode (dc DX10_init) 26 = .ok (.bipush 18, 2) := by decide +kernel
theorem dX10_init_28 : decode (dc DX10_init) 28 = .ok (.iconst 5, 1) := by decide +kernel
theorem dX10_init_29 : decode (dc DX10_init) 29 = .ok (.multianewarray 20 2, 4) := by decide +kernel
theorem dX10_init_33 : decode (dc DX10_init) 33 = .ok (.putfield 22, 3) := by decide +kernel
theorem dX10_init_36 : decode (dc DX10_init) 36 = .ok (.aload_n 0, 1) := by decide +kernel
theorem dX10_init_37 : decode (dc DX10_init) 37 = .ok (.bipush 18, 2) := by decide +kernel
theorem dX10_init_39 : decode (dc DX10_init) 39 = .ok (.bipush 12, 2) := by decide +kernel
theorem dX10_init_41 : decode (dc DX10_init) 41 = .ok (.multianewarray 20 2, 4) := by decide +kernel
theorem dX10_init_45 : decode (dc DX10_init) 45 = .ok (.putfield 25, 3) := by decide +kernel
theorem dX10_init_48 : decode (dc DX10_init) 48 = .ok (.aload_n 0, 1) := by decide +kernel
theorem dX10_init_49 : decode (dc DX10_init) 49 = .ok (.bipush 18, 2) := by decide +kernel
theorem dX10_init_51 : decode (dc DX10_init) 51 = .ok (.bipush 12, 2) := by decide +kernel
theorem dX10_init_53 : decode (dc DX10_init) 53 = .ok (.multianewarray 20 2, 4) := by decide +kernel
theorem dX10_init_57 : decode (dc DX10_init) 57 = .ok (.putfield 28, 3) := by decide +kernel
theorem dX10_init_60 : decode (dc DX10_init) 60 = .ok (.aload_n 0, 1) := by decide +kernel
theorem dX10_init_61 : decode (dc DX10_init) 61 = .ok (.bipush 18, 2) := by decide +kernel
theorem dX10_init_63 : decode (dc DX10_init) 63 = .ok (.bipush 12, 2) := by decide +kernel
theorem dX10_init_65 : decode (dc DX10_init) 65 = .ok (.multianewarray 20 2, 4) := by decide +kernel
theorem dX10_init_69 : decode (dc DX10_init) 69 = .ok (.putfield 31, 3) := by decide +kernel
theorem dX10_init_72 : decode (dc DX10_init) 72 = .ok (.aload_n 0, 1) := by decide +kernel
theorem dX10_init_73 : decode (dc DX10_init) 73 = .ok (.bipush 18, 2) := by decide +kernel
theorem dX10_init_75 : decode (dc DX10_init) 75 = .ok (.bipush 12, 2) := by decide +kernel
theorem dX10_init_77 : decode (dc DX10_init) 77 = .ok (.bipush 12, 2) := by decide +kernel
theorem dX10_init_79 : decode (dc DX10_init) 79 = .ok (.multianewarray 34 3, 4) := by decide +kernel
theorem dX10_init_83 : decode (dc DX10_init) 83 = .ok (.putfield 36, 3) := by decide +kernel
theorem dX10_init_86 : decode (dc DX10_init) 86 = .ok (.aload_n 0, 1) := by decide +kernel
theorem dX10_init_87 : decode (dc DX10_init) 87 = .ok (.bipush 12, 2) := by decide +kernel
theorem dX10_init_89 : decode (dc DX10_init) 89 = .ok (.newarray .int, 2) := by decide +kernel
theorem dX10_init_91 : decode (dc DX10_init) 91 = .ok (.putfield 39, 3) := by decide +kernel
theorem dX10_init_94 : decode (dc DX10_init) 94 = .ok (.aload_n 0, 1) := by decide +kernel
theorem dX10_init_95 : decode (dc DX10_init) 95 = .ok (.bipush 24, 2) := by decide +kernel
theorem dX10_init_97 : decode (dc DX10_init) 97 = .ok (.newarray .int, 2) := by decide +kernel
theorem dX10_init_99 : decode (dc DX10_init) 99 = .ok (.putfield 42, 3) := by decide +kernel
theorem dX10_init_102 : decode (dc DX10_init) 102 = .ok (.aload_n 0, 1) := by decide +kernel
theorem dX10_init_103 : decode (dc DX10_init) 103 = .ok (.bipush 12, 2) := by decide +kernel
theorem dX10_init_105 : decode (dc DX10_init) 105 = .ok (.newarray .int, 2) := by decide +kernel
theorem dX10_init_107 : decode (dc DX10_init) 107 = .ok (.putfield 45, 3) := by decide +kernel
theorem dX10_init_110 : decode (dc DX10_init) 110 = .ok (.aload_n 0, 1) := by decide +kernel
theorem dX10_init_111 : decode (dc DX10_init) 111 = .ok (.bipush 12, 2) := by decide +kernel
theorem dX10_init_113 : decode (dc DX10_init) 113 = .ok (.newarray .int, 2) := by decide +kernel
theorem dX10_init_115 : decode (dc DX10_init) 115 = .ok (.putfield 48, 3) := by decide +kernel
theorem dX10_init_118 : decode (dc DX10_init) 118 = .ok (.aload_n 0, 1) := by decide +kernel
theorem dX10_init_119 : decode (dc DX10_init) 119 = .ok (.bipush 12, 2) := by decide +kernel
theorem dX10_init_121 : decode (dc DX10_init) 121 = .ok (.newarray .int, 2) := by decide +kernel
theorem dX10_init_123 : decode (dc DX10_init) 123 = .ok (.putfield 51, 3) := by decide +kernel
theorem dX10_init_126 : decode (dc DX10_init) 126 = .ok (.aload_n 0, 1) := by decide +kernel
theorem dX10_init_127 : decode (dc DX10_init) 127 = .ok (.bipush 12, 2) := by decide +kernel
theorem dX10_init_129 : decode (dc DX10_init) 129 = .ok (.bipush 12, 2) := by decide +kernel
theorem dX10_init_131 : decode (dc DX10_init) 131 = .ok (.multianewarray 20 2, 4) := by decide +kernel
theorem dX10_init_135 : decode (dc DX10_init) 135 = .ok (.putfield 54, 3) := by decide +kernel
theorem dX10_init_138 : decode (dc DX10_init) 138 = .ok (.aload_n 0, 1) := by decide +kernel
theorem dX10_init_139 : decode (dc DX10_init) 139 = .ok (.iconst 2, 1) := by decide +kernel
theorem dX10_init_140 : decode (dc DX10_init) 140 = .ok (.newarray .int, 2) := by decide +kernel
theorem dX10_init_142 : decode (dc DX10_init) 142 = .ok (.putfield 57, 3) := by decide +kernel
theorem dX10_init_145 : decode (dc DX10_init) 145 = .ok (.aload_n 0, 1) := by decide +kernel
theorem dX10_init_146 : decode (dc DX10_init) 146 = .ok (.iconst 2, 1) := by decide +kernel
theorem dX10_init_147 : decode (dc DX10_init) 147 = .ok (.newarray .int, 2) := by decide +kernel
theorem dX10_init_149 : decode (dc DX10_init) 149 = .ok (.putfield 60, 3) := by decide +kernel
theorem dX10_init_152 : decode (dc DX10_init) 152 = .ok (.aload_n 0, 1) := by decide +kernel
theorem dX10_init_153 : decode (dc DX10_init) 153 = .ok (.sipush 4096, 3) := by decide +kernel
theorem dX10_init_156 : decode (dc DX10_init) 156 = .ok (.newarray .long, 2) := by decide +kernel
theorem dX10_init_158 : decode (dc DX10_init) 158 = .ok (.putfield 63, 3) := by decide +kernel
theorem dX10_init_161 : decode (dc DX10_init) 161 = .ok (.aload_n 0, 1) := by decide +kernel
theorem dX10_init_162 : decode (dc DX10_init) 162 = .ok (.sipush 4096, 3) := by decide +kernel
theorem dX10_init_165 : decode (dc DX10_init) 165 = .ok (.newarray .long, 2) := by decide +kernel
theorem dX10_init_167 : decode (dc DX10_init) 167 = .ok (.putfield 67, 3) := by decide +kernel
theorem dX10_init_170 : decode (dc DX10_init) 170 = .ok (.aload_n 0, 1) := by decide +kernel
theorem dX10_init_171 : decode (dc DX10_init) 171 = .ok (.bipush 13, 2) := by decide +kernel
theorem dX10_init_173 : decode (dc DX10_init) 173 = .ok (.sipush 4096, 3) := by decide +kernel
theorem dX10_init_176 : decode (dc DX10_init) 176 = .ok (.multianewarray 20 2, 4) := by decide +kernel
theorem dX10_init_180 : decode (dc DX10_init) 180 = .ok (.putfield 70, 3) := by decide +kernel
theorem dX10_init_183 : decode (dc DX10_init) 183 = .ok (.aload_n 0, 1) := by decide +kernel
theorem dX10_init_184 : decode (dc DX10_init) 184 = .ok (.bipush 13, 2) := by decide +kernel
theorem dX10_init_186 : decode (dc DX10_init) 186 = .ok (.sipush 4096, 3) := by decide +kernel
theorem dX10_init_189 : decode (dc DX10_init) 189 = .ok (.multianewarray 73 2, 4) := by decide +kernel
theorem dX10_init_193 : decode (dc DX10_init) 193 = .ok (.putfield 75, 3) := by decide +kernel
theorem dX10_init_196 : decode (dc DX10_init) 196 = .ok (.aload_n 0, 1) := by decide +kernel
theorem dX10_init_197 : decode (dc DX10_init) 197 = .ok (.iconst 0, 1) := by decide +kernel
theorem dX10_init_198 : decode (dc DX10_init) 198 = .ok (.iconst 1, 1) := by decide +kernel
theorem dX10_init_199 : decode (dc DX10_init) 199 = .ok (.iconst 1, 1) := by decide +kernel
theorem dX10_init_200 : decode (dc DX10_init) 200 = .ok (.invokevirtual 78, 3) := by decide +kernel
theorem dX10_init_203 : decode (dc DX10_init) 203 = .ok (.return_, 1) := by decide +kernel
theorem dX7_find_92 : decode (dc DX7_find) 92 = .ok (.if_icmp .ge 86, 3) := by decide +kernel
theorem dX7_find_95 : decode (dc DX7_find) 95 = .ok (.iload 6, 2) := by decide +kernel
theorem dX7_find_100 : decode (dc DX7_find) 100 = .ok (.iload 6, 2) := by decide +kernel
theorem dX7_find_107 : decode (dc DX7_find) 107 = .ok (.ifCond .eq 65, 3) := by decide +kernel
theorem dX7_find_110 : decode (dc DX7_find) 110 = .ok (.iload_n 2, 1) := by decide +kernel
theorem dX7_find_111 : decode (dc DX7_find) 111 = .ok (.iload 7, 2) := by decide +kernel
theorem dX7_find_116 : decode (dc DX7_find) 116 = .ok (.ior, 1) := by decide +kernel
theorem dX7_find_117 : decode (dc DX7_find) 117 = .ok (.istore_n 2, 1) := by decide +kernel
theorem dX7_find_122 : decode (dc DX7_find) 122 = .ok (.iload 7, 2) := by decide +kernel
theorem dX7_find_127 : decode (dc DX7_find) 127 = .ok (.aload_n 0, 1) := by decide +kernel
theorem dX7_find_131 : decode (dc DX7_find) 131 = .ok (.iload 7, 2) := by decide +kernel
theorem dX7_find_136 : decode (dc DX7_find) 136 = .ok (.istore 8, 2) := by decide +kernel
theorem dX7_find_141 : decode (dc DX7_find) 141 = .ok (.if_icmp .ne 14, 3) := by decide +kernel
theorem dX7_find_144 : decode (dc DX7_find) 144 = .ok (.aload_n 0, 1) := by decide +kernel
theorem dX7_find_145 : decode (dc DX7_find) 145 = .ok (.iload 7, 2) := by decide +kernel
theorem dX7_find_150 : decode (dc DX7_find) 150 = .ok (.aload_n 0, 1) := by decide +kernel
theorem dX7_find_151 : decode (dc DX7_find) 151 = .ok (.getfield 31, 3) := by decide +kernel
theorem dX7_find_154 : decode (dc DX7_find) 154 = .ok (.ireturn, 1) := by decide +kernel
theorem dX7_find_155 : decode (dc DX7_find) 155 = .ok (.iload_n 3, 1) := by decide +kernel
theorem dX7_find_161 : decode (dc DX7_find) 161 = .ok (.aload_n 0, 1) := by decide +kernel
theorem dX7_find_162 : decode (dc DX7_find) 162 = .ok (.getfield 22, 3) := by decide +kernel
theorem dX7_find_165 : decode (dc DX7_find) 165 = .ok (.iload_n 3, 1) := by decide +kernel
theorem dX7_find_166 : decode (dc DX7_find) 166 = .ok (.iload 8, 2) := by decide +kernel
theorem dX7_find_169 : decode (dc DX7_find) 169 = .ok (.iinc 3 1, 3) := by decide +kernel
theorem dX7_find_172 : decode (dc DX7_find) 172 = .ok (.iinc 7 1, 3) := by decide +kernel
theorem dX7_find_175 : decode (dc DX7_find) 175 = .ok (.goto (-87), 3) := by decide +kernel
theorem dX7_find_178 : decode (dc DX7_find) 178 = .ok (.iinc 4 1, 3) := by decide +kernel
theorem dX7_find_181 : decode (dc DX7_find) 181 = .ok (.goto (-130), 3) := by decide +kernel
theorem dX7_find_184 : decode (dc DX7_find) 184 = .ok (.iconst 0, 1) := by decide +kernel
theorem dX7_find_185 : decode (dc DX7_find) 185 = .ok (.ireturn, 1) := by decide +kernel
theorem dX8_run_26 : decode (dc DX8_run) 26 = .ok (.sipush 4096, 3) := by decide +kernel
theorem dX8_run_29 : decode (dc DX8_run) 29 = .ok (.if_icmp .ge 17, 3) := by decide +kernel
theorem dX8_run_33 : decode (dc DX8_run) 33 = .ok (.getfield 9, 3) := by decide +kernel
theorem dX8_run_36 : decode (dc DX8_run) 36 = .ok (.iload 5, 2) := by decide +kernel
theorem dX8_run_40 : decode (dc DX8_run) 40 = .ok (.iinc 5 1, 3) := by decide +kernel
theorem dX8_run_47 : decode (dc DX8_run) 47 = .ok (.getfield 9, 3) := by decide +kernel
theorem dX8_run_54 : decode (dc DX8_run) 54 = .ok (.getfield 15, 3) := by decide +kernel
theorem dX8_run_61 : decode (dc DX8_run) 61 = .ok (.getfield 18, 3) := by decide +kernel
theorem dX8_run_68 : decode (dc DX8_run) 68 = .ok (.getfield 21, 3) := by decide +kernel
theorem dX8_run_71 : decode (dc DX8_run) 71 = .ok (.iconst 0, 1) := by decide +kernel
theorem dX8_run_72 : decode (dc DX8_run) 72 = .ok (.iconst 0, 1) := by decide +kernel
theorem dX8_run_74 : decode (dc DX8_run) 74 = .ok (.aload_n 2, 1) := by decide +kernel
theorem dX8_run_86 : decode (dc DX8_run) 86 = .ok (.lstore 6, 2) := by decide +kernel
theorem dX8_run_88 : decode (dc DX8_run) 88 = .ok (.iconst 0, 1) := by decide +kernel
theorem dX8_run_89 : decode (dc DX8_run) 89 = .ok (.istore 8, 2) := by decide +kernel
theorem dX8_run_93 : decode (dc DX8_run) 93 = .ok (.bipush 12, 2) := by decide +kernel
theorem dX8_run_95 : decode (dc DX8_run) 95 = .ok (.if_icmp .ge 53, 3) := by decide +kernel
theorem dX8_run_98 : decode (dc DX8_run) 98 = .ok (.aload_n 2, 1) := by decide +kernel
theorem dX8_run_111 : decode (dc DX8_run) 111 = .ok (.aload_n 1, 1) := by decide +kernel
theorem dX8_run_113 : decode (dc DX8_run) 113 = .ok (.iload 8, 2) := by decide +kernel
theorem dX8_run_122 : decode (dc DX8_run) 122 = .ok (.iload_n 3, 1) := by decide +kernel
theorem dX8_run_125 : decode (dc DX8_run) 125 = .ok (.isub, 1) := by decide +kernel
theorem dX8_run_136 : decode (dc DX8_run) 136 = .ok (.ldc2_w 75, 3) := by decide +kernel
theorem dX8_run_139 : decode (dc DX8_run) 139 = .ok (.ldiv, 1) := by decide +kernel
theorem dX8_run_145 : decode (dc DX8_run) 145 = .ok (.goto (-54), 3) := by decide +kernel
theorem dX8_run_148 : decode (dc DX8_run) 148 = .ok (.aload_n 0, 1) := by decide +kernel
theorem dX8_run_149 : decode (dc DX8_run) 149 = .ok (.iload_n 3, 1) := by decide +kernel
theorem dX8_run_150 : decode (dc DX8_run) 150 = .ok (.iload 4, 2) := by decide +kernel
theorem dX8_run_152 : decode (dc DX8_run) 152 = .ok (.invokevirtual 77, 3) := by decide +kernel
theorem dX8_run_155 : decode (dc DX8_run) 155 = .ok (.return_, 1) := by decide +kernel
