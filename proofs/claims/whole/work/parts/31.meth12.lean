def f_X10_trade_J88 (x0 : Nat) (x1 : Int32) (x2 : Int32) (x3 : Int32) (h : xH) : Option (Int32 × xH) :=
  if x1 = (0 : Int32) then
    some ((0 : Int32), h)
  else
    (vc h 10 x0 (f_X10_remembers x0 h)).bind fun h1 =>
    (gR h1 10 x0 11).bind fun v2 =>
    (aR 102 h1 v2 (0 : Int32)).bind fun v3 =>
    (aI h1 v3 x2).bind fun v4 =>
    (gR h1 10 x0 11).bind fun v5 =>
    (aR 102 h1 v5 (0 : Int32)).bind fun v6 =>
    (gR h1 10 x0 11).bind fun v7 =>
    (aR 102 h1 v7 (0 : Int32)).bind fun v8 =>
    (aI h1 v8 x3).bind fun v9 =>
    (sI h1 v6 x2 v9).bind fun h10 =>
    (gR h10 10 x0 11).bind fun v11 =>
    (aR 102 h10 v11 (0 : Int32)).bind fun v12 =>
    (sI h10 v12 x3 v4).bind fun h13 =>
    some (x1, h13)
theorem y_X10_trade_J88 {g : xG} {h0 : xH} {cl : Bool} (x0 : Nat) (x1 : Int32) (x2 : Int32) (x3 : Int32) (h : xH) : Y g DX10_trade h0 cl iI (f_X10_trade_J88 x0 x1 x2 x3 h) 88 [some (.ref x0), some (.int x1), some (.int x2), some (.int x3), none, none] [] h := by
  unfold f_X10_trade_J88
  refine Y.op (pc' := 89) (fun _ => X.iloadn rfl dX10_trade_88) ?_
  refine Y.ifne 94 (by decide) dX10_trade_89 ?_ ?_
  · refine Y.op (pc' := 95) (fun _ => X.aloadn rfl dX10_trade_94) ?_
    refine Y.callVv (As := []) lk_X10_383 rfl cal_X10_remembers vir_X10_remembers (Nat.le_of_ble_eq_true rfl) (Nat.le_of_ble_eq_true rfl) rfl rfl rfl (Nat.le_of_ble_eq_true rfl) dX10_trade_95 (fun _ e => m_X10_remembers x0 h _ _ e) (fun h1 => ?_)
    refine Y.op (pc' := 99) (fun _ => X.aloadn rfl dX10_trade_98) ?_
    refine Y.getR fd_X10_28 rfl dX10_trade_99 (fun v2 => ?_)
    refine Y.op (pc' := 103) (fun _ => X.ic ki_0 dX10_trade_102) ?_
    refine Y.aldR 102 (by decide) (by decide) dX10_trade_103 (fun v3 => ?_)
    refine Y.op (pc' := 105) (fun _ => X.iloadn rfl dX10_trade_104) ?_
    refine Y.aldI dX10_trade_105 (fun v4 => ?_)
    refine Y.op (pc' := 108) (loc' := [some (.ref x0), some (.int x1), some (.int x2), some (.int x3), some (.int v4), none]) (fun _ => X.istore (Nat.le_of_ble_eq_true rfl) rfl dX10_trade_106) ?_
    refine Y.op (pc' := 109) (fun _ => X.aloadn rfl dX10_trade_108) ?_
    refine Y.getR fd_X10_28 rfl dX10_trade_109 (fun v5 => ?_)
    refine Y.op (pc' := 113) (fun _ => X.ic ki_0 dX10_trade_112) ?_
    refine Y.aldR 102 (by decide) (by decide) dX10_trade_113 (fun v6 => ?_)
    refine Y.op (pc' := 115) (fun _ => X.iloadn rfl dX10_trade_114) ?_
    refine Y.op (pc' := 116) (fun _ => X.aloadn rfl dX10_trade_115) ?_
    refine Y.getR fd_X10_28 rfl dX10_trade_116 (fun v7 => ?_)
    refine Y.op (pc' := 120) (fun _ => X.ic ki_0 dX10_trade_119) ?_
    refine Y.aldR 102 (by decide) (by decide) dX10_trade_120 (fun v8 => ?_)
    refine Y.op (pc' := 122) (fun _ => X.iloadn rfl dX10_trade_121) ?_
    refine Y.aldI dX10_trade_122 (fun v9 => ?_)
    refine Y.astI dX10_trade_123 (fun h10 => ?_)
    refine Y.op (pc' := 125) (fun _ => X.aloadn rfl dX10_trade_124) ?_
    refine Y.getR fd_X10_28 rfl dX10_trade_125 (fun v11 => ?_)
    refine Y.op (pc' := 129) (fun _ => X.ic ki_0 dX10_trade_128) ?_
    refine Y.aldR 102 (by decide) (by decide) dX10_trade_129 (fun v12 => ?_)
    refine Y.op (pc' := 131) (fun _ => X.iloadn rfl dX10_trade_130) ?_
    refine Y.op (pc' := 133) (fun _ => X.iload rfl dX10_trade_131) ?_
    refine Y.astI dX10_trade_133 (fun h13 => ?_)
    refine Y.op (pc' := 135) (fun _ => X.iloadn rfl dX10_trade_134) ?_
    exact Y.ireturn rfl dX10_trade_135
  · refine Y.op (pc' := 93) (fun _ => X.ic ki_0 dX10_trade_92) ?_
    exact Y.ireturn rfl dX10_trade_93
def f_X10_trade_J82 (kH : Nat → Int32 → Int32 → Int32 → Int32 → xH → Option (Int32 × xH)) (kE88 : Nat → Int32 → Int32 → Int32 → xH → Option (Int32 × xH)) (x0 : Nat) (x1 : Int32) (x2 : Int32) (x3 : Int32) (x4 : Int32) (h : xH) : Option (Int32 × xH) :=
  lt (x4 + (1 : Int32)) fun v1 =>
  kH x0 x1 x2 x3 v1 h
theorem y_X10_trade_J82 {g : xG} {h0 : xH} {cl : Bool} {kH : Nat → Int32 → Int32 → Int32 → Int32 → xH → Option (Int32 × xH)} {kE88 : Nat → Int32 → Int32 → Int32 → xH → Option (Int32 × xH)} (hkH : ∀ (x0 : Nat) (x1 : Int32) (x2 : Int32) (x3 : Int32) (x4 : Int32) (h : xH), Y g DX10_trade h0 cl iI (kH x0 x1 x2 x3 x4 h) 14 [some (.ref x0), some (.int x1), some (.int x2), some (.int x3), some (.int x4), none] [] h) (hkE88 : ∀ (x0 : Nat) (x1 : Int32) (x2 : Int32) (x3 : Int32) (h : xH), Y g DX10_trade h0 cl iI (kE88 x0 x1 x2 x3 h) 88 [some (.ref x0), some (.int x1), some (.int x2), some (.int x3), none, none] [] h) (x0 : Nat) (x1 : Int32) (x2 : Int32) (x3 : Int32) (x4 : Int32) (h : xH) : Y g DX10_trade h0 cl iI (f_X10_trade_J82 kH kE88 x0 x1 x2 x3 x4 h) 82 [some (.ref x0), some (.int x1), some (.int x2), some (.int x3), some (.int x4), none] [] h := by
  unfold f_X10_trade_J82
  refine Y.iinc (i := 4) (loc' := fun v1 => [some (.ref x0), some (.int x1), some (.int x2), some (.int x3), some (.int v1), none]) rfl (Nat.le_of_ble_eq_true rfl) ki_1 (fun _ => rfl) dX10_trade_82 (fun v1 => ?_)
  refine Y.op (pc' := 14) (fun _ => X.goto 14 (by decide) dX10_trade_85) ?_
  exact hkH x0 x1 x2 x3 v1 h
def f_X10_trade_J76 (kH : Nat → Int32 → Int32 → Int32 → Int32 → Int32 → xH → Option (Int32 × xH)) (kE82 : Nat → Int32 → Int32 → Int32 → Int32 → xH → Option (Int32 × xH)) (x0 : Nat) (x1 : Int32) (x2 : Int32) (x3 : Int32) (x4 : Int32) (x5 : Int32) (h : xH) : Option (Int32 × xH) :=
  lt (x5 + (1 : Int32)) fun v1 =>
  kH x0 x1 x2 x3 x4 v1 h
theorem y_X10_trade_J76 {g : xG} {h0 : xH} {cl : Bool} {kH : Nat → Int32 → Int32 → Int32 → Int32 → Int32 → xH → Option (Int32 × xH)} {kE82 : Nat → Int32 → Int32 → Int32 → Int32 → xH → Option (Int32 × xH)} (hkH : ∀ (x0 : Nat) (x1 : Int32) (x2 : Int32) (x3 : Int32) (x4 : Int32) (x5 : Int32) (h : xH), Y g DX10_trade h0 cl iI (kH x0 x1 x2 x3 x4 x5 h) 33 [some (.ref x0), some (.int x1), some (.int x2), some (.int x3), some (.int x4), some (.int x5)] [] h) (hkE82 : ∀ (x0 : Nat) (x1 : Int32) (x2 : Int32) (x3 : Int32) (x4 : Int32) (h : xH), Y g DX10_trade h0 cl iI (kE82 x0 x1 x2 x3 x4 h) 82 [some (.ref x0), some (.int x1), some (.int x2), some (.int x3), some (.int x4), none] [] h) (x0 : Nat) (x1 : Int32) (x2 : Int32) (x3 : Int32) (x4 : Int32) (x5 : Int32) (h : xH) : Y g DX10_trade h0 cl iI (f_X10_trade_J76 kH kE82 x0 x1 x2 x3 x4 x5 h) 76 [some (.ref x0), some (.int x1), some (.int x2), some (.int x3), some (.int x4), some (.int x5)] [] h := by
  unfold f_X10_trade_J76
  refine Y.iinc (i := 5) (loc' := fun v1 => [some (.ref x0), some (.int x1), some (.int x2), some (.int x3), some (.int x4), some (.int v1)]) rfl (Nat.le_of_ble_eq_true rfl) ki_1 (fun _ => rfl) dX10_trade_76 (fun v1 => ?_)
  refine Y.op (pc' := 33) (fun _ => X.goto 33 (by decide) dX10_trade_79) ?_
  exact hkH x0 x1 x2 x3 x4 v1 h
def f_X10_trade_L33 (kE82 : Nat → Int32 → Int32 → Int32 → Int32 → xH → Option (Int32 × xH)) : Nat → Nat → Int32 → Int32 → Int32 → Int32 → Int32 → xH → Option (Int32 × xH)
  | 0 => fun _ _ _ _ _ _ _ => none
  | n + 1 => fun x0 x1 x2 x3 x4 x5 h =>
    (gR h 10 x0 9).bind fun v1 =>
    (aR 102 h v1 (0 : Int32)).bind fun v2 =>
    (aI h v2 (0 : Int32)).bind fun v3 =>
    if x5 ≥ v3 then
      kE82 x0 x1 x2 x3 x4 h
    else
      (vc h 10 x0 (f_X10_gain x0 x4 x5 h)).bind fun r4 =>
      if r4.1 > x1 then
        (vc r4.2 10 x0 (f_X10_gain x0 x4 x5 r4.2)).bind fun r5 =>
        f_X10_trade_J76 (f_X10_trade_L33 kE82 n) kE82 x0 r5.1 x4 x5 x4 x5 r5.2
      else
        f_X10_trade_J76 (f_X10_trade_L33 kE82 n) kE82 x0 x1 x2 x3 x4 x5 r4.2
theorem y_X10_trade_L33 {g : xG} {h0 : xH} {cl : Bool} {kE82 : Nat → Int32 → Int32 → Int32 → Int32 → xH → Option (Int32 × xH)} (hkE82 : ∀ (x0 : Nat) (x1 : Int32) (x2 : Int32) (x3 : Int32) (x4 : Int32) (h : xH), Y g DX10_trade h0 cl iI (kE82 x0 x1 x2 x3 x4 h) 82 [some (.ref x0), some (.int x1), some (.int x2), some (.int x3), some (.int x4), none] [] h) : ∀ (n : Nat) (x0 : Nat) (x1 : Int32) (x2 : Int32) (x3 : Int32) (x4 : Int32) (x5 : Int32) (h : xH), Y g DX10_trade h0 cl iI (f_X10_trade_L33 kE82 n x0 x1 x2 x3 x4 x5 h) 33 [some (.ref x0), some (.int x1), some (.int x2), some (.int x3), some (.int x4), some (.int x5)] [] h := by
  intro n
  induction n with
  | zero => intro x0 x1 x2 x3 x4 x5 h; exact Y.nothing
  | succ n ih =>
    intro x0 x1 x2 x3 x4 x5 h
    unfold f_X10_trade_L33
    refine Y.op (pc' := 35) (fun _ => X.iload rfl dX10_trade_33) ?_
    refine Y.op (pc' := 36) (fun _ => X.aloadn rfl dX10_trade_35) ?_
    refine Y.getR fd_X10_22 rfl dX10_trade_36 (fun v1 => ?_)
    refine Y.op (pc' := 40) (fun _ => X.ic ki_0 dX10_trade_39) ?_
    refine Y.aldR 102 (by decide) (by decide) dX10_trade_40 (fun v2 => ?_)
    refine Y.op (pc' := 42) (fun _ => X.ic ki_0 dX10_trade_41) ?_
    refine Y.aldI dX10_trade_42 (fun v3 => ?_)
    refine Y.cmpge 82 (by decide) dX10_trade_43 ?_ ?_
    · exact Y.fg (hkE82 x0 x1 x2 x3 x4 h) (And.intro rfl (And.intro rfl (And.intro rfl (And.intro rfl (And.intro rfl trivial)))))
    · refine Y.op (pc' := 47) (fun _ => X.aloadn rfl dX10_trade_46) ?_
      refine Y.op (pc' := 49) (fun _ => X.iload rfl dX10_trade_47) ?_
      refine Y.op (pc' := 51) (fun _ => X.iload rfl dX10_trade_49) ?_
      refine Y.callVi (As := [.int x4, .int x5]) lk_X10_389 rfl cal_X10_gain vir_X10_gain (Nat.le_of_ble_eq_true rfl) (Nat.le_of_ble_eq_true rfl) rfl rfl rfl (Nat.le_of_ble_eq_true rfl) dX10_trade_51 (fun _ e => m_X10_gain x0 x4 x5 h _ _ e) (fun r4 => ?_)
      refine Y.op (pc' := 55) (fun _ => X.iloadn rfl dX10_trade_54) ?_
      refine Y.cmpgt 61 (by decide) dX10_trade_55 ?_ ?_
      · refine Y.op (pc' := 62) (fun _ => X.aloadn rfl dX10_trade_61) ?_
        refine Y.op (pc' := 64) (fun _ => X.iload rfl dX10_trade_62) ?_
        refine Y.op (pc' := 66) (fun _ => X.iload rfl dX10_trade_64) ?_
        refine Y.callVi (As := [.int x4, .int x5]) lk_X10_389 rfl cal_X10_gain vir_X10_gain (Nat.le_of_ble_eq_true rfl) (Nat.le_of_ble_eq_true rfl) rfl rfl rfl (Nat.le_of_ble_eq_true rfl) dX10_trade_66 (fun _ e => m_X10_gain x0 x4 x5 r4.2 _ _ e) (fun r5 => ?_)
        refine Y.op (pc' := 70) (loc' := [some (.ref x0), some (.int r5.1), some (.int x2), some (.int x3), some (.int x4), some (.int x5)]) (fun _ => X.istoren (Nat.le_of_ble_eq_true rfl) rfl dX10_trade_69) ?_
        refine Y.op (pc' := 72) (fun _ => X.iload rfl dX10_trade_70) ?_
        refine Y.op (pc' := 73) (loc' := [some (.ref x0), some (.int r5.1), some (.int x4), some (.int x3), some (.int x4), some (.int x5)]) (fun _ => X.istoren (Nat.le_of_ble_eq_true rfl) rfl dX10_trade_72) ?_
        refine Y.op (pc' := 75) (fun _ => X.iload rfl dX10_trade_73) ?_
        refine Y.op (pc' := 76) (loc' := [some (.ref x0), some (.int r5.1), some (.int x4), some (.int x5), some (.int x4), some (.int x5)]) (fun _ => X.istoren (Nat.le_of_ble_eq_true rfl) rfl dX10_trade_75) ?_
        exact y_X10_trade_J76 ih hkE82 x0 r5.1 x4 x5 x4 x5 r5.2
      · refine Y.op (pc' := 76) (fun _ => X.goto 76 (by decide) dX10_trade_58) ?_
        exact y_X10_trade_J76 ih hkE82 x0 x1 x2 x3 x4 x5 r4.2
def f_X10_trade_L14 (kE88 : Nat → Int32 → Int32 → Int32 → xH → Option (Int32 × xH)) : Nat → Nat → Int32 → Int32 → Int32 → Int32 → xH → Option (Int32 × xH)
  | 0 => fun _ _ _ _ _ _ => none
  | n + 1 => fun x0 x1 x2 x3 x4 h =>
    (gR h 10 x0 9).bind fun v1 =>
    (aR 102 h v1 (0 : Int32)).bind fun v2 =>
    (aI h v2 (0 : Int32)).bind fun v3 =>
    if x4 ≥ v3 then
      kE88 x0 x1 x2 x3 h
    else
      lt ((x4 + (1 : Int32))) fun v4 =>
      f_X10_trade_L33 (f_X10_trade_J82 (f_X10_trade_L14 kE88 n) kE88) 5000 x0 x1 x2 x3 x4 v4 h
theorem y_X10_trade_L14 {g : xG} {h0 : xH} {cl : Bool} {kE88 : Nat → Int32 → Int32 → Int32 → xH → Option (Int32 × xH)} (hkE88 : ∀ (x0 : Nat) (x1 : Int32) (x2 : Int32) (x3 : Int32) (h : xH), Y g DX10_trade h0 cl iI (kE88 x0 x1 x2 x3 h) 88 [some (.ref x0), some (.int x1), some (.int x2), some (.int x3), none, none] [] h) : ∀ (n : Nat) (x0 : Nat) (x1 : Int32) (x2 : Int32) (x3 : Int32) (x4 : Int32) (h : xH), Y g DX10_trade h0 cl iI (f_X10_trade_L14 kE88 n x0 x1 x2 x3 x4 h) 14 [some (.ref x0), some (.int x1), some (.int x2), some (.int x3), some (.int x4), none] [] h := by
  intro n
  induction n with
  | zero => intro x0 x1 x2 x3 x4 h; exact Y.nothing
  | succ n ih =>
    intro x0 x1 x2 x3 x4 h
    unfold f_X10_trade_L14
    refine Y.op (pc' := 16) (fun _ => X.iload rfl dX10_trade_14) ?_
    refine Y.op (pc' := 17) (fun _ => X.aloadn rfl dX10_trade_16) ?_
    refine Y.getR fd_X10_22 rfl dX10_trade_17 (fun v1 => ?_)
    refine Y.op (pc' := 21) (fun _ => X.ic ki_0 dX10_trade_20) ?_
    refine Y.aldR 102 (by decide) (by decide) dX10_trade_21 (fun v2 => ?_)
    refine Y.op (pc' := 23) (fun _ => X.ic ki_0 dX10_trade_22) ?_
    refine Y.aldI dX10_trade_23 (fun v3 => ?_)
    refine Y.cmpge 88 (by decide) dX10_trade_24 ?_ ?_
    · exact Y.fg (hkE88 x0 x1 x2 x3 h) (And.intro rfl (And.intro rfl (And.intro rfl (And.intro rfl trivial))))
    · refine Y.op (pc' := 29) (fun _ => X.iload rfl dX10_trade_27) ?_
      refine Y.op (pc' := 30) (fun _ => X.ic ki_1 dX10_trade_29) ?_
      refine Y.op (pc' := 31) (fun _ => X.iadd dX10_trade_30) ?_
      refine Y.top (fun v4 => ?_)
      refine Y.op (pc' := 33) (loc' := [some (.ref x0), some (.int x1), some (.int x2), some (.int x3), some (.int x4), some (.int v4)]) (fun _ => X.istore (Nat.le_of_ble_eq_true rfl) rfl dX10_trade_31) ?_
      exact y_X10_trade_L33 (y_X10_trade_J82 ih hkE88) 5000 x0 x1 x2 x3 x4 v4 h
def f_X10_trade (a0 : Nat) (h : xH) : Option (Int32 × xH) :=
  (pI h 10 a0 0 (0 : Int32)).bind fun h1 =>
  f_X10_trade_L14 (f_X10_trade_J88) 5000 a0 (0 : Int32) (-1 : Int32) (-1 : Int32) (0 : Int32) h1
theorem y_X10_trade {g : xG} {h0 : xH} {cl : Bool} (a0 : Nat) (h : xH) : Y g DX10_trade h0 cl iI (f_X10_trade a0 h) 0 [some (.ref a0), none, none, none, none, none] [] h := by
  unfold f_X10_trade
  refine Y.op (pc' := 1) (fun _ => X.aloadn rfl dX10_trade_0) ?_
  refine Y.op (pc' := 2) (fun _ => X.ic ki_0 dX10_trade_1) ?_
  refine Y.putI fd_X10_82 rfl dX10_trade_2 (fun h1 => ?_)
  refine Y.op (pc' := 6) (fun _ => X.ic ki_0 dX10_trade_5) ?_
  refine Y.op (pc' := 7) (loc' := [some (.ref a0), some (.int (0 : Int32)), none, none, none, none]) (fun _ => X.istoren (Nat.le_of_ble_eq_true rfl) rfl dX10_trade_6) ?_
  refine Y.op (pc' := 8) (fun _ => X.ic ki_m1 dX10_trade_7) ?_
  refine Y.op (pc' := 9) (loc' := [some (.ref a0), some (.int (0 : Int32)), some (.int (-1 : Int32)), none, none, none]) (fun _ => X.istoren (Nat.le_of_ble_eq_true rfl) rfl dX10_trade_8) ?_
  refine Y.op (pc' := 10) (fun _ => X.ic ki_m1 dX10_trade_9) ?_
  refine Y.op (pc' := 11) (loc' := [some (.ref a0), some (.int (0 : Int32)), some (.int (-1 : Int32)), some (.int (-1 : Int32)), none, none]) (fun _ => X.istoren (Nat.le_of_ble_eq_true rfl) rfl dX10_trade_10) ?_
  refine Y.op (pc' := 12) (fun _ => X.ic ki_0 dX10_trade_11) ?_
  refine Y.op (pc' := 14) (loc' := [some (.ref a0), some (.int (0 : Int32)), some (.int (-1 : Int32)), some (.int (-1 : Int32)), some (.int (0 : Int32)), none]) (fun _ => X.istore (Nat.le_of_ble_eq_true rfl) rfl dX10_trade_12) ?_
  exact y_X10_trade_L14 (y_X10_trade_J88) 5000 a0 (0 : Int32) (-1 : Int32) (-1 : Int32) (0 : Int32) h1
theorem m_X10_trade {g : xG} (a0 : Nat) (h : xH) (cl : Bool) (r : Int32 × xH) (e : f_X10_trade a0 h = some r) : XM g DX10_trade [.ref a0] h cl (iI r) := YM.of rfl rfl (Nat.le_of_ble_eq_true rfl) (y_X10_trade a0 h) e
def f_X10_settle_J21 (x0 : Nat) (x1 : Int32) (s0 : Nat) (s1 : Int32) (h : xH) : Option (Int32 × xH) :=
  (vc h 10 s0 (f_X10_bad s0 s1 (1 : Int32) (1 : Int32) h)).bind fun r1 =>
  if r1.1 = (0 : Int32) then
    (vc r1.2 10 x0 (f_X10_hasWay x0 r1.2)).bind fun r2 =>
    if r2.1 = (0 : Int32) then
      some ((0 : Int32), r2.2)
    else
      (vc r2.2 10 x0 (f_X10_remembers x0 r2.2)).bind fun h3 =>
      (vc h3 10 x0 (f_X10_settles x0 x1 h3)).bind fun r4 =>
      some (r4.1, r4.2)
  else
    some ((0 : Int32), r1.2)
theorem y_X10_settle_J21 {g : xG} {h0 : xH} {cl : Bool} (x0 : Nat) (x1 : Int32) (s0 : Nat) (s1 : Int32) (h : xH) : Y g DX10_settle h0 cl iI (f_X10_settle_J21 x0 x1 s0 s1 h) 21 [some (.ref x0), some (.int x1)] [.int s1, .ref s0] h := by
  unfold f_X10_settle_J21
  refine Y.op (pc' := 22) (fun _ => X.ic ki_1 dX10_settle_21) ?_
  refine Y.op (pc' := 23) (fun _ => X.ic ki_1 dX10_settle_22) ?_
  refine Y.callVi (As := [.int s1, .int (1 : Int32), .int (1 : Int32)]) lk_X10_217 rfl cal_X10_bad vir_X10_bad (Nat.le_of_ble_eq_true rfl) (Nat.le_of_ble_eq_true rfl) rfl rfl rfl (Nat.le_of_ble_eq_true rfl) dX10_settle_23 (fun _ e => m_X10_bad s0 s1 (1 : Int32) (1 : Int32) h _ _ e) (fun r1 => ?_)
  refine Y.ifeq 31 (by decide) dX10_settle_26 ?_ ?_
  · refine Y.op (pc' := 32) (fun _ => X.aloadn rfl dX10_settle_31) ?_
    refine Y.callVi (As := []) lk_X10_261 rfl cal_X10_hasWay vir_X10_hasWay (Nat.le_of_ble_eq_true rfl) (Nat.le_of_ble_eq_true rfl) rfl rfl rfl (Nat.le_of_ble_eq_true rfl) dX10_settle_32 (fun _ e => m_X10_hasWay x0 r1.2 _ _ e) (fun r2 => ?_)
    refine Y.ifne 40 (by decide) dX10_settle_35 ?_ ?_
    · refine Y.op (pc' := 41) (fun _ => X.aloadn rfl dX10_settle_40) ?_
      refine Y.callVv (As := []) lk_X10_383 rfl cal_X10_remembers vir_X10_remembers (Nat.le_of_ble_eq_true rfl) (Nat.le_of_ble_eq_true rfl) rfl rfl rfl (Nat.le_of_ble_eq_true rfl) dX10_settle_41 (fun _ e => m_X10_remembers x0 r2.2 _ _ e) (fun h3 => ?_)
      refine Y.op (pc' := 45) (fun _ => X.aloadn rfl dX10_settle_44) ?_
      refine Y.op (pc' := 46) (fun _ => X.iloadn rfl dX10_settle_45) ?_
      refine Y.callVi (As := [.int x1]) lk_X10_267 rfl cal_X10_settles vir_X10_settles (Nat.le_of_ble_eq_true rfl) (Nat.le_of_ble_eq_true rfl) rfl rfl rfl (Nat.le_of_ble_eq_true rfl) dX10_settle_46 (fun _ e => m_X10_settles x0 x1 h3 _ _ e) (fun r4 => ?_)
      exact Y.ireturn rfl dX10_settle_49
    · refine Y.op (pc' := 39) (fun _ => X.ic ki_0 dX10_settle_38) ?_
      exact Y.ireturn rfl dX10_settle_39
  · refine Y.op (pc' := 30) (fun _ => X.ic ki_0 dX10_settle_29) ?_
    exact Y.ireturn rfl dX10_settle_30
def f_X10_settle (a0 : Nat) (p1 : Int32) (h : xH) : Option (Int32 × xH) :=
  (pI h 10 a0 0 (0 : Int32)).bind fun h1 =>
  (f_X10_in p1 (1 : Int32) (12 : Int32) h1).bind fun r2 =>
  if r2.1 = (0 : Int32) then
    f_X10_settle_J21 a0 p1 a0 (1 : Int32) r2.2
  else
    f_X10_settle_J21 a0 p1 a0 (0 : Int32) r2.2
theorem y_X10_settle {g : xG} {h0 : xH} {cl : Bool} (a0 : Nat) (p1 : Int32) (h : xH) : Y g DX10_settle h0 cl iI (f_X10_settle a0 p1 h) 0 [some (.ref a0), some (.int p1)] [] h := by
  unfold f_X10_settle
  refine Y.op (pc' := 1) (fun _ => X.aloadn rfl dX10_settle_0) ?_
  refine Y.op (pc' := 2) (fun _ => X.ic ki_0 dX10_settle_1) ?_
  refine Y.putI fd_X10_82 rfl dX10_settle_2 (fun h1 => ?_)
  refine Y.op (pc' := 6) (fun _ => X.aloadn rfl dX10_settle_5) ?_
  refine Y.op (pc' := 7) (fun _ => X.iloadn rfl dX10_settle_6) ?_
  refine Y.op (pc' := 8) (fun _ => X.ic ki_1 dX10_settle_7) ?_
  refine Y.op (pc' := 10) (fun _ => X.bp kb_12 dX10_settle_8) ?_
  refine Y.callSi (As := [.int p1, .int (1 : Int32), .int (12 : Int32)]) lk_X10_127 rfl cal_X10_in sta_X10_in (Nat.le_of_ble_eq_true rfl) rfl rfl (Nat.le_of_ble_eq_true rfl) dX10_settle_10 (fun _ e => m_X10_in p1 (1 : Int32) (12 : Int32) h1 _ _ e) (fun r2 => ?_)
  refine Y.ifne 20 (by decide) dX10_settle_13 ?_ ?_
  · refine Y.op (pc' := 21) (fun _ => X.ic ki_0 dX10_settle_20) ?_
    exact y_X10_settle_J21 a0 p1 a0 (0 : Int32) r2.2
  · refine Y.op (pc' := 17) (fun _ => X.ic ki_1 dX10_settle_16) ?_
    refine Y.op (pc' := 21) (fun _ => X.goto 21 (by decide) dX10_settle_17) ?_
    exact y_X10_settle_J21 a0 p1 a0 (1 : Int32) r2.2
theorem m_X10_settle {g : xG} (a0 : Nat) (p1 : Int32) (h : xH) (cl : Bool) (r : Int32 × xH) (e : f_X10_settle a0 p1 h = some r) : XM g DX10_settle [.ref a0, .int p1] h cl (iI r) := YM.of rfl rfl (Nat.le_of_ble_eq_true rfl) (y_X10_settle a0 p1 h) e
def f_X10_undo (a0 : Nat) (h : xH) : Option (Int32 × xH) :=
  (pI h 10 a0 0 (0 : Int32)).bind fun h1 =>
  (gI h1 10 a0 14).bind fun v2 =>
  if v2 = (0 : Int32) then
    some ((-1 : Int32), h1)
  else
    (gI h1 10 a0 14).bind fun v3 =>
    (pI h1 10 a0 14 (v3 - (1 : Int32))).bind fun h4 =>
    (gI h4 10 a0 14).bind fun v5 =>
    (vc h4 10 a0 (f_X10_copies a0 ((2 : Int32) + v5) (0 : Int32) h4)).bind fun h6 =>
    (gI h6 10 a0 14).bind fun v7 =>
    some (v7, h6)
theorem y_X10_undo {g : xG} {h0 : xH} {cl : Bool} (a0 : Nat) (h : xH) : Y g DX10_undo h0 cl iI (f_X10_undo a0 h) 0 [some (.ref a0)] [] h := by
  unfold f_X10_undo
  refine Y.op (pc' := 1) (fun _ => X.aloadn rfl dX10_undo_0) ?_
  refine Y.op (pc' := 2) (fun _ => X.ic ki_0 dX10_undo_1) ?_
  refine Y.putI fd_X10_82 rfl dX10_undo_2 (fun h1 => ?_)
  refine Y.op (pc' := 6) (fun _ => X.aloadn rfl dX10_undo_5) ?_
  refine Y.getI fd_X10_231 rfl dX10_undo_6 (fun v2 => ?_)
  refine Y.ifne 14 (by decide) dX10_undo_9 ?_ ?_
  · refine Y.op (pc' := 15) (fun _ => X.aloadn rfl dX10_undo_14) ?_
    refine Y.op (pc' := 16) (fun _ => X.dup rfl dX10_undo_15) ?_
    refine Y.getI fd_X10_231 rfl dX10_undo_16 (fun v3 => ?_)
    refine Y.op (pc' := 20) (fun _ => X.ic ki_1 dX10_undo_19) ?_
    refine Y.op (pc' := 21) (fun _ => X.isub dX10_undo_20) ?_
    refine Y.putI fd_X10_231 rfl dX10_undo_21 (fun h4 => ?_)
    refine Y.op (pc' := 25) (fun _ => X.aloadn rfl dX10_undo_24) ?_
    refine Y.op (pc' := 26) (fun _ => X.ic ki_2 dX10_undo_25) ?_
    refine Y.op (pc' := 27) (fun _ => X.aloadn rfl dX10_undo_26) ?_
    refine Y.getI fd_X10_231 rfl dX10_undo_27 (fun v5 => ?_)
    refine Y.op (pc' := 31) (fun _ => X.iadd dX10_undo_30) ?_
    refine Y.op (pc' := 32) (fun _ => X.ic ki_0 dX10_undo_31) ?_
    refine Y.callVv (As := [.int ((2 : Int32) + v5), .int (0 : Int32)]) lk_X10_228 rfl cal_X10_copies vir_X10_copies (Nat.le_of_ble_eq_true rfl) (Nat.le_of_ble_eq_true rfl) rfl rfl rfl (Nat.le_of_ble_eq_true rfl) dX10_undo_32 (fun _ e => m_X10_copies a0 ((2 : Int32) + v5) (0 : Int32) h4 _ _ e) (fun h6 => ?_)
    refine Y.op (pc' := 36) (fun _ => X.aloadn rfl dX10_undo_35) ?_
    refine Y.getI fd_X10_231 rfl dX10_undo_36 (fun v7 => ?_)
    exact Y.ireturn rfl dX10_undo_39
  · refine Y.op (pc' := 13) (fun _ => X.ic ki_m1 dX10_undo_12) ?_
    exact Y.ireturn rfl dX10_undo_13
theorem m_X10_undo {g : xG} (a0 : Nat) (h : xH) (cl : Bool) (r : Int32 × xH) (e : f_X10_undo a0 h = some r) : XM g DX10_undo [.ref a0] h cl (iI r) := YM.of rfl rfl (Nat.le_of_ble_eq_true rfl) (y_X10_undo a0 h) e
def f_X10_print_J45 (x1 : Int64) (h : xH) : Option (Int64 × xH) :=
  some (x1, h)
theorem y_X10_print_J45 {g : xG} {h0 : xH} {cl : Bool} (x1 : Int64) (h : xH) : Y g DX10_print h0 cl iJ (f_X10_print_J45 x1 h) 45 [none, some (.long x1), none, none] [] h := by
  unfold f_X10_print_J45
  refine Y.op (pc' := 46) (fun _ => X.lloadn rfl dX10_print_45) ?_
  exact Y.lreturn rfl dX10_print_46
def f_X10_print_L9 (kE45 : Int64 → xH → Option (Int64 × xH)) : Nat → Nat → Int64 → Int32 → xH → Option (Int64 × xH)
  | 0 => fun _ _ _ _ => none
  | n + 1 => fun x0 x1 x3 h =>
    (gR h 10 x0 9).bind fun v1 =>
    (aR 102 h v1 (0 : Int32)).bind fun v2 =>
    (aI h v2 (0 : Int32)).bind fun v3 =>
    if x3 ≥ v3 then
      kE45 x1 h
    else
      (gR h 10 x0 11).bind fun v4 =>
      (aR 102 h v4 (0 : Int32)).bind fun v5 =>
      (aI h v5 x3).bind fun v6 =>
      lt (((((13 : Int64) * x1) + v6.toInt64) + (1 : Int64))) fun v7 =>
      lt (x3 + (1 : Int32)) fun v8 =>
      f_X10_print_L9 kE45 n x0 v7 v8 h
theorem y_X10_print_L9 {g : xG} {h0 : xH} {cl : Bool} {kE45 : Int64 → xH → Option (Int64 × xH)} (hkE45 : ∀ (x1 : Int64) (h : xH), Y g DX10_print h0 cl iJ (kE45 x1 h) 45 [none, some (.long x1), none, none] [] h) : ∀ (n : Nat) (x0 : Nat) (x1 : Int64) (x3 : Int32) (h : xH), Y g DX10_print h0 cl iJ (f_X10_print_L9 kE45 n x0 x1 x3 h) 9 [some (.ref x0), some (.long x1), none, some (.int x3)] [] h := by
  intro n
  induction n with
  | zero => intro x0 x1 x3 h; exact Y.nothing
  | succ n ih =>
    intro x0 x1 x3 h
    unfold f_X10_print_L9
    refine Y.op (pc' := 10) (fun _ => X.iloadn rfl dX10_print_9) ?_
    refine Y.op (pc' := 11) (fun _ => X.aloadn rfl dX10_print_10) ?_
    refine Y.getR fd_X10_22 rfl dX10_print_11 (fun v1 => ?_)
    refine Y.op (pc' := 15) (fun _ => X.ic ki_0 dX10_print_14) ?_
    refine Y.aldR 102 (by decide) (by decide) dX10_print_15 (fun v2 => ?_)
    refine Y.op (pc' := 17) (fun _ => X.ic ki_0 dX10_print_16) ?_
    refine Y.aldI dX10_print_17 (fun v3 => ?_)
    refine Y.cmpge 45 (by decide) dX10_print_18 ?_ ?_
    · exact Y.fg (hkE45 x1 h) (And.intro rfl trivial)
    · refine Y.op (pc' := 24) (fun _ => X.ldcL wl_X10_392 rfl dX10_print_21) ?_
      refine Y.op (pc' := 25) (fun _ => X.lloadn rfl dX10_print_24) ?_
      refine Y.op (pc' := 26) (fun _ => X.lmul dX10_print_25) ?_
      refine Y.op (pc' := 27) (fun _ => X.aloadn rfl dX10_print_26) ?_
      refine Y.getR fd_X10_28 rfl dX10_print_27 (fun v4 => ?_)
      refine Y.op (pc' := 31) (fun _ => X.ic ki_0 dX10_print_30) ?_
      refine Y.aldR 102 (by decide) (by decide) dX10_print_31 (fun v5 => ?_)
      refine Y.op (pc' := 33) (fun _ => X.iloadn rfl dX10_print_32) ?_
      refine Y.aldI dX10_print_33 (fun v6 => ?_)
      refine Y.op (pc' := 35) (fun _ => X.i2l dX10_print_34) ?_
      refine Y.op (pc' := 36) (fun _ => X.ladd dX10_print_35) ?_
      refine Y.op (pc' := 37) (fun _ => X.lc kl_1 dX10_print_36) ?_
      refine Y.op (pc' := 38) (fun _ => X.ladd dX10_print_37) ?_
      refine Y.topl (fun v7 => ?_)
      refine Y.op (pc' := 39) (loc' := [some (.ref x0), some (.long v7), none, some (.int x3)]) (fun _ => X.lstoren (Nat.le_of_ble_eq_true rfl) rfl dX10_print_38) ?_
      refine Y.iinc (i := 3) (loc' := fun v8 => [some (.ref x0), some (.long v7), none, some (.int v8)]) rfl (Nat.le_of_ble_eq_true rfl) ki_1 (fun _ => rfl) dX10_print_39 (fun v8 => ?_)
      refine Y.op (pc' := 9) (fun _ => X.goto 9 (by decide) dX10_print_42) ?_
      exact ih x0 v7 v8 h
def f_X10_print (a0 : Nat) (h : xH) : Option (Int64 × xH) :=
  (pI h 10 a0 0 (0 : Int32)).bind fun h1 =>
  f_X10_print_L9 (f_X10_print_J45) 5000 a0 (0 : Int64) (0 : Int32) h1
theorem y_X10_print {g : xG} {h0 : xH} {cl : Bool} (a0 : Nat) (h : xH) : Y g DX10_print h0 cl iJ (f_X10_print a0 h) 0 [some (.ref a0), none, none, none] [] h := by
  unfold f_X10_print
  refine Y.op (pc' := 1) (fun _ => X.aloadn rfl dX10_print_0) ?_
  refine Y.op (pc' := 2) (fun _ => X.ic ki_0 dX10_print_1) ?_
  refine Y.putI fd_X10_82 rfl dX10_print_2 (fun h1 => ?_)
  refine Y.op (pc' := 6) (fun _ => X.lc kl_0 dX10_print_5) ?_
  refine Y.op (pc' := 7) (loc' := [some (.ref a0), some (.long (0 : Int64)), none, none]) (fun _ => X.lstoren (Nat.le_of_ble_eq_true rfl) rfl dX10_print_6) ?_
  refine Y.op (pc' := 8) (fun _ => X.ic ki_0 dX10_print_7) ?_
  refine Y.op (pc' := 9) (loc' := [some (.ref a0), some (.long (0 : Int64)), none, some (.int (0 : Int32))]) (fun _ => X.istoren (Nat.le_of_ble_eq_true rfl) rfl dX10_print_8) ?_
  exact y_X10_print_L9 (y_X10_print_J45) 5000 a0 (0 : Int64) (0 : Int32) h1
theorem m_X10_print {g : xG} (a0 : Nat) (h : xH) (cl : Bool) (r : Int64 × xH) (e : f_X10_print a0 h = some r) : XM g DX10_print [.ref a0] h cl (iJ r) := YM.of rfl rfl (Nat.le_of_ble_eq_true rfl) (y_X10_print a0 h) e
def f_X10_status_J24 (s0 : Int32) (h : xH) : Option (Int32 × xH) :=
  some (s0, h)
theorem y_X10_status_J24 {g : xG} {h0 : xH} {cl : Bool} (s0 : Int32) (h : xH) : Y g DX10_status h0 cl iI (f_X10_status_J24 s0 h) 24 [none, none] [.int s0] h := by
  unfold f_X10_status_J24
  exact Y.ireturn rfl dX10_status_24
def f_X10_status (a0 : Nat) (p1 : Int32) (h : xH) : Option (Int32 × xH) :=
  (pI h 10 a0 0 (0 : Int32)).bind fun h1 =>
  (f_X10_in p1 (0 : Int32) (1 : Int32) h1).bind fun r2 =>
  if r2.1 = (0 : Int32) then
    f_X10_status_J24 (-1 : Int32) r2.2
  else
    (gR r2.2 10 a0 1).bind fun v3 =>
    (aI r2.2 v3 p1).bind fun v4 =>
    f_X10_status_J24 v4 r2.2
theorem y_X10_status {g : xG} {h0 : xH} {cl : Bool} (a0 : Nat) (p1 : Int32) (h : xH) : Y g DX10_status h0 cl iI (f_X10_status a0 p1 h) 0 [some (.ref a0), some (.int p1)] [] h := by
  unfold f_X10_status
  refine Y.op (pc' := 1) (fun _ => X.aloadn rfl dX10_status_0) ?_
  refine Y.op (pc' := 2) (fun _ => X.ic ki_0 dX10_status_1) ?_
  refine Y.putI fd_X10_82 rfl dX10_status_2 (fun h1 => ?_)
  refine Y.op (pc' := 6) (fun _ => X.iloadn rfl dX10_status_5) ?_
  refine Y.op (pc' := 7) (fun _ => X.ic ki_0 dX10_status_6) ?_
  refine Y.op (pc' := 8) (fun _ => X.ic ki_1 dX10_status_7) ?_
  refine Y.callSi (As := [.int p1, .int (0 : Int32), .int (1 : Int32)]) lk_X10_127 rfl cal_X10_in sta_X10_in (Nat.le_of_ble_eq_true rfl) rfl rfl (Nat.le_of_ble_eq_true rfl) dX10_status_8 (fun _ e => m_X10_in p1 (0 : Int32) (1 : Int32) h1 _ _ e) (fun r2 => ?_)
  refine Y.ifeq 23 (by decide) dX10_status_11 ?_ ?_
  · refine Y.op (pc' := 24) (fun _ => X.ic ki_m1 dX10_status_23) ?_
    exact Y.fg (y_X10_status_J24 (-1 : Int32) r2.2) trivial
  · refine Y.op (pc' := 15) (fun _ => X.aloadn rfl dX10_status_14) ?_
    refine Y.getR fd_X10_9 rfl dX10_status_15 (fun v3 => ?_)
    refine Y.op (pc' := 19) (fun _ => X.iloadn rfl dX10_status_18) ?_
    refine Y.aldI dX10_status_19 (fun v4 => ?_)
    refine Y.op (pc' := 24) (fun _ => X.goto 24 (by decide) dX10_status_20) ?_
    exact Y.fg (y_X10_status_J24 v4 r2.2) trivial
theorem m_X10_status {g : xG} (a0 : Nat) (p1 : Int32) (h : xH) (cl : Bool) (r : Int32 × xH) (e : f_X10_status a0 p1 h = some r) : XM g DX10_status [.ref a0, .int p1] h cl (iI r) := YM.of rfl rfl (Nat.le_of_ble_eq_true rfl) (y_X10_status a0 p1 h) e
