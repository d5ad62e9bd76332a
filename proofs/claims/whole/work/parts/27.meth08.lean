def f_X10_openTo_J45 (s0 : Int32) (s1 : Int32) (h : xH) : Option (Int32 × xH) :=
  some ((s0 &&& s1), h)
theorem y_X10_openTo_J45 {g : xG} {h0 : xH} {cl : Bool} (s0 : Int32) (s1 : Int32) (h : xH) : Y g DX10_openTo h0 cl iI (f_X10_openTo_J45 s0 s1 h) 45 [none, none] [.int s1, .int s0] h := by
  unfold f_X10_openTo_J45
  refine Y.op (pc' := 46) (fun _ => X.iand dX10_openTo_45) ?_
  exact Y.ireturn rfl dX10_openTo_46
def f_X10_openTo (a0 : Nat) (p1 : Int32) (h : xH) : Option (Int32 × xH) :=
  (gR h 10 a0 10).bind fun v1 =>
  (aR 102 h v1 (0 : Int32)).bind fun v2 =>
  (aI h v2 p1).bind fun v3 =>
  (gR h 10 a0 9).bind fun v4 =>
  (aR 102 h v4 (0 : Int32)).bind fun v5 =>
  (aI h v5 (4 : Int32)).bind fun v6 =>
  (gR h 10 a0 11).bind fun v7 =>
  (aR 102 h v7 (0 : Int32)).bind fun v8 =>
  (aI h v8 p1).bind fun v9 =>
  if v9 = (-1 : Int32) then
    f_X10_openTo_J45 (v3 &&& v6) (-1 : Int32) h
  else
    (gR h 10 a0 11).bind fun v10 =>
    (aR 102 h v10 (0 : Int32)).bind fun v11 =>
    (aI h v11 p1).bind fun v12 =>
    f_X10_openTo_J45 (v3 &&& v6) (((1 : Int32) <<< (v12 &&& 31)) ^^^ (-1 : Int32)) h
theorem y_X10_openTo {g : xG} {h0 : xH} {cl : Bool} (a0 : Nat) (p1 : Int32) (h : xH) : Y g DX10_openTo h0 cl iI (f_X10_openTo a0 p1 h) 0 [some (.ref a0), some (.int p1)] [] h := by
  unfold f_X10_openTo
  refine Y.op (pc' := 1) (fun _ => X.aloadn rfl dX10_openTo_0) ?_
  refine Y.getR fd_X10_25 rfl dX10_openTo_1 (fun v1 => ?_)
  refine Y.op (pc' := 5) (fun _ => X.ic ki_0 dX10_openTo_4) ?_
  refine Y.aldR 102 (by decide) (by decide) dX10_openTo_5 (fun v2 => ?_)
  refine Y.op (pc' := 7) (fun _ => X.iloadn rfl dX10_openTo_6) ?_
  refine Y.aldI dX10_openTo_7 (fun v3 => ?_)
  refine Y.op (pc' := 9) (fun _ => X.aloadn rfl dX10_openTo_8) ?_
  refine Y.getR fd_X10_22 rfl dX10_openTo_9 (fun v4 => ?_)
  refine Y.op (pc' := 13) (fun _ => X.ic ki_0 dX10_openTo_12) ?_
  refine Y.aldR 102 (by decide) (by decide) dX10_openTo_13 (fun v5 => ?_)
  refine Y.op (pc' := 15) (fun _ => X.ic ki_4 dX10_openTo_14) ?_
  refine Y.aldI dX10_openTo_15 (fun v6 => ?_)
  refine Y.op (pc' := 17) (fun _ => X.iand dX10_openTo_16) ?_
  refine Y.op (pc' := 18) (fun _ => X.aloadn rfl dX10_openTo_17) ?_
  refine Y.getR fd_X10_28 rfl dX10_openTo_18 (fun v7 => ?_)
  refine Y.op (pc' := 22) (fun _ => X.ic ki_0 dX10_openTo_21) ?_
  refine Y.aldR 102 (by decide) (by decide) dX10_openTo_22 (fun v8 => ?_)
  refine Y.op (pc' := 24) (fun _ => X.iloadn rfl dX10_openTo_23) ?_
  refine Y.aldI dX10_openTo_24 (fun v9 => ?_)
  refine Y.op (pc' := 26) (fun _ => X.ic ki_m1 dX10_openTo_25) ?_
  refine Y.cmpne 33 (by decide) dX10_openTo_26 ?_ ?_
  · refine Y.op (pc' := 34) (fun _ => X.ic ki_1 dX10_openTo_33) ?_
    refine Y.op (pc' := 35) (fun _ => X.aloadn rfl dX10_openTo_34) ?_
    refine Y.getR fd_X10_28 rfl dX10_openTo_35 (fun v10 => ?_)
    refine Y.op (pc' := 39) (fun _ => X.ic ki_0 dX10_openTo_38) ?_
    refine Y.aldR 102 (by decide) (by decide) dX10_openTo_39 (fun v11 => ?_)
    refine Y.op (pc' := 41) (fun _ => X.iloadn rfl dX10_openTo_40) ?_
    refine Y.aldI dX10_openTo_41 (fun v12 => ?_)
    refine Y.op (pc' := 43) (fun _ => X.ishl dX10_openTo_42) ?_
    refine Y.op (pc' := 44) (fun _ => X.ic ki_m1 dX10_openTo_43) ?_
    refine Y.op (pc' := 45) (fun _ => X.ixor dX10_openTo_44) ?_
    exact Y.fg (y_X10_openTo_J45 (v3 &&& v6) (((1 : Int32) <<< (v12 &&& 31)) ^^^ (-1 : Int32)) h) trivial
  · refine Y.op (pc' := 30) (fun _ => X.ic ki_m1 dX10_openTo_29) ?_
    refine Y.op (pc' := 45) (fun _ => X.goto 45 (by decide) dX10_openTo_30) ?_
    exact Y.fg (y_X10_openTo_J45 (v3 &&& v6) (-1 : Int32) h) trivial
theorem m_X10_openTo {g : xG} (a0 : Nat) (p1 : Int32) (h : xH) (cl : Bool) (r : Int32 × xH) (e : f_X10_openTo a0 p1 h = some r) : XM g DX10_openTo [.ref a0, .int p1] h cl (iI r) := YM.of rfl rfl (Nat.le_of_ble_eq_true rfl) (y_X10_openTo a0 p1 h) e
def f_X10_laysFar_J153 (h : xH) : Option (xH) :=
  some h
theorem y_X10_laysFar_J153 {g : xG} {h0 : xH} {cl : Bool} (h : xH) : Y g DX10_laysFar h0 cl iV (f_X10_laysFar_J153 h) 153 [none, none, none, none, none, none] [] h := by
  unfold f_X10_laysFar_J153
  exact Y.vreturn rfl dX10_laysFar_153
def f_X10_laysFar_J150 (kH : Nat → Int32 → xH → Option (xH)) (kE153 : xH → Option (xH)) (x0 : Nat) (x1 : Int32) (h : xH) : Option (xH) :=
  kH x0 x1 h
theorem y_X10_laysFar_J150 {g : xG} {h0 : xH} {cl : Bool} {kH : Nat → Int32 → xH → Option (xH)} {kE153 : xH → Option (xH)} (hkH : ∀ (x0 : Nat) (x1 : Int32) (h : xH), Y g DX10_laysFar h0 cl iV (kH x0 x1 h) 24 [some (.ref x0), some (.int x1), none, none, none, none] [] h) (hkE153 : ∀  (h : xH), Y g DX10_laysFar h0 cl iV (kE153  h) 153 [none, none, none, none, none, none] [] h) (x0 : Nat) (x1 : Int32) (h : xH) : Y g DX10_laysFar h0 cl iV (f_X10_laysFar_J150 kH kE153 x0 x1 h) 150 [some (.ref x0), some (.int x1), none, none, none, none] [] h := by
  unfold f_X10_laysFar_J150
  refine Y.op (pc' := 24) (fun _ => X.goto 24 (by decide) dX10_laysFar_150) ?_
  exact hkH x0 x1 h
def f_X10_laysFar_J144 (kH : Nat → Int32 → Int32 → xH → Option (xH)) (kE150 : Nat → Int32 → xH → Option (xH)) (x0 : Nat) (x1 : Int32) (x2 : Int32) (h : xH) : Option (xH) :=
  lt (x2 + (1 : Int32)) fun v1 =>
  kH x0 x1 v1 h
theorem y_X10_laysFar_J144 {g : xG} {h0 : xH} {cl : Bool} {kH : Nat → Int32 → Int32 → xH → Option (xH)} {kE150 : Nat → Int32 → xH → Option (xH)} (hkH : ∀ (x0 : Nat) (x1 : Int32) (x2 : Int32) (h : xH), Y g DX10_laysFar h0 cl iV (kH x0 x1 x2 h) 32 [some (.ref x0), some (.int x1), some (.int x2), none, none, none] [] h) (hkE150 : ∀ (x0 : Nat) (x1 : Int32) (h : xH), Y g DX10_laysFar h0 cl iV (kE150 x0 x1 h) 150 [some (.ref x0), some (.int x1), none, none, none, none] [] h) (x0 : Nat) (x1 : Int32) (x2 : Int32) (h : xH) : Y g DX10_laysFar h0 cl iV (f_X10_laysFar_J144 kH kE150 x0 x1 x2 h) 144 [some (.ref x0), some (.int x1), some (.int x2), none, none, none] [] h := by
  unfold f_X10_laysFar_J144
  refine Y.iinc (i := 2) (loc' := fun v1 => [some (.ref x0), some (.int x1), some (.int v1), none, none, none]) rfl (Nat.le_of_ble_eq_true rfl) ki_1 (fun _ => rfl) dX10_laysFar_144 (fun v1 => ?_)
  refine Y.op (pc' := 32) (fun _ => X.goto 32 (by decide) dX10_laysFar_147) ?_
  exact hkH x0 x1 v1 h
def f_X10_laysFar_J138 (kH : Nat → Int32 → Int32 → Int32 → xH → Option (xH)) (kE144 : Nat → Int32 → Int32 → xH → Option (xH)) (x0 : Nat) (x1 : Int32) (x2 : Int32) (x3 : Int32) (h : xH) : Option (xH) :=
  lt (x3 + (1 : Int32)) fun v1 =>
  kH x0 x1 x2 v1 h
theorem y_X10_laysFar_J138 {g : xG} {h0 : xH} {cl : Bool} {kH : Nat → Int32 → Int32 → Int32 → xH → Option (xH)} {kE144 : Nat → Int32 → Int32 → xH → Option (xH)} (hkH : ∀ (x0 : Nat) (x1 : Int32) (x2 : Int32) (x3 : Int32) (h : xH), Y g DX10_laysFar h0 cl iV (kH x0 x1 x2 x3 h) 58 [some (.ref x0), some (.int x1), some (.int x2), some (.int x3), none, none] [] h) (hkE144 : ∀ (x0 : Nat) (x1 : Int32) (x2 : Int32) (h : xH), Y g DX10_laysFar h0 cl iV (kE144 x0 x1 x2 h) 144 [some (.ref x0), some (.int x1), some (.int x2), none, none, none] [] h) (x0 : Nat) (x1 : Int32) (x2 : Int32) (x3 : Int32) (h : xH) : Y g DX10_laysFar h0 cl iV (f_X10_laysFar_J138 kH kE144 x0 x1 x2 x3 h) 138 [some (.ref x0), some (.int x1), some (.int x2), some (.int x3), none, none] [] h := by
  unfold f_X10_laysFar_J138
  refine Y.iinc (i := 3) (loc' := fun v1 => [some (.ref x0), some (.int x1), some (.int x2), some (.int v1), none, none]) rfl (Nat.le_of_ble_eq_true rfl) ki_1 (fun _ => rfl) dX10_laysFar_138 (fun v1 => ?_)
  refine Y.op (pc' := 58) (fun _ => X.goto 58 (by decide) dX10_laysFar_141) ?_
  exact hkH x0 x1 x2 v1 h
def f_X10_laysFar_J112 (kH : Nat → Int32 → Int32 → Int32 → xH → Option (xH)) (kE144 : Nat → Int32 → Int32 → xH → Option (xH)) (x0 : Nat) (x1 : Int32) (x2 : Int32) (x3 : Int32) (s0 : Int32) (h : xH) : Option (xH) :=
  (gR h 10 x0 17).bind fun v1 =>
  (aI h v1 x2).bind fun v2 =>
  if s0 < v2 then
    (gR h 10 x0 17).bind fun v3 =>
    (sI h v3 x2 s0).bind fun h4 =>
    f_X10_laysFar_J138 (kH) kE144 x0 (1 : Int32) x2 x3 h4
  else
    f_X10_laysFar_J138 (kH) kE144 x0 x1 x2 x3 h
theorem y_X10_laysFar_J112 {g : xG} {h0 : xH} {cl : Bool} {kH : Nat → Int32 → Int32 → Int32 → xH → Option (xH)} {kE144 : Nat → Int32 → Int32 → xH → Option (xH)} (hkH : ∀ (x0 : Nat) (x1 : Int32) (x2 : Int32) (x3 : Int32) (h : xH), Y g DX10_laysFar h0 cl iV (kH x0 x1 x2 x3 h) 58 [some (.ref x0), some (.int x1), some (.int x2), some (.int x3), none, none] [] h) (hkE144 : ∀ (x0 : Nat) (x1 : Int32) (x2 : Int32) (h : xH), Y g DX10_laysFar h0 cl iV (kE144 x0 x1 x2 h) 144 [some (.ref x0), some (.int x1), some (.int x2), none, none, none] [] h) (x0 : Nat) (x1 : Int32) (x2 : Int32) (x3 : Int32) (s0 : Int32) (h : xH) : Y g DX10_laysFar h0 cl iV (f_X10_laysFar_J112 kH kE144 x0 x1 x2 x3 s0 h) 112 [some (.ref x0), some (.int x1), some (.int x2), some (.int x3), none, none] [.int s0] h := by
  unfold f_X10_laysFar_J112
  refine Y.op (pc' := 114) (loc' := [some (.ref x0), some (.int x1), some (.int x2), some (.int x3), none, some (.int s0)]) (fun _ => X.istore (Nat.le_of_ble_eq_true rfl) rfl dX10_laysFar_112) ?_
  refine Y.op (pc' := 116) (fun _ => X.iload rfl dX10_laysFar_114) ?_
  refine Y.op (pc' := 117) (fun _ => X.aloadn rfl dX10_laysFar_116) ?_
  refine Y.getR fd_X10_39 rfl dX10_laysFar_117 (fun v1 => ?_)
  refine Y.op (pc' := 121) (fun _ => X.iloadn rfl dX10_laysFar_120) ?_
  refine Y.aldI dX10_laysFar_121 (fun v2 => ?_)
  refine Y.cmplt 128 (by decide) dX10_laysFar_122 ?_ ?_
  · refine Y.op (pc' := 129) (fun _ => X.aloadn rfl dX10_laysFar_128) ?_
    refine Y.getR fd_X10_39 rfl dX10_laysFar_129 (fun v3 => ?_)
    refine Y.op (pc' := 133) (fun _ => X.iloadn rfl dX10_laysFar_132) ?_
    refine Y.op (pc' := 135) (fun _ => X.iload rfl dX10_laysFar_133) ?_
    refine Y.astI dX10_laysFar_135 (fun h4 => ?_)
    refine Y.op (pc' := 137) (fun _ => X.ic ki_1 dX10_laysFar_136) ?_
    refine Y.op (pc' := 138) (loc' := [some (.ref x0), some (.int (1 : Int32)), some (.int x2), some (.int x3), none, some (.int s0)]) (fun _ => X.istoren (Nat.le_of_ble_eq_true rfl) rfl dX10_laysFar_137) ?_
    exact Y.fg (y_X10_laysFar_J138 hkH hkE144 x0 (1 : Int32) x2 x3 h4) (And.intro rfl (And.intro rfl (And.intro rfl (And.intro rfl trivial))))
  · refine Y.op (pc' := 138) (fun _ => X.goto 138 (by decide) dX10_laysFar_125) ?_
    exact Y.fg (y_X10_laysFar_J138 hkH hkE144 x0 x1 x2 x3 h) (And.intro rfl (And.intro rfl (And.intro rfl (And.intro rfl trivial))))
def f_X10_laysFar_L58 (kE144 : Nat → Int32 → Int32 → xH → Option (xH)) : Nat → Nat → Int32 → Int32 → Int32 → xH → Option (xH)
  | 0 => fun _ _ _ _ _ => none
  | n + 1 => fun x0 x1 x2 x3 h =>
    (gR h 10 x0 9).bind fun v1 =>
    (aR 102 h v1 (0 : Int32)).bind fun v2 =>
    (aI h v2 (1 : Int32)).bind fun v3 =>
    if x3 ≥ v3 then
      kE144 x0 x1 x2 h
    else
      (vc h 10 x0 (f_X10_openTo x0 x2 h)).bind fun r4 =>
      (f_X10_has r4.1 x3 r4.2).bind fun r5 =>
      if r5.1 = (0 : Int32) then
        f_X10_laysFar_J138 (f_X10_laysFar_L58 kE144 n) kE144 x0 x1 x2 x3 r5.2
      else
        (vc r5.2 10 x0 (f_X10_partnerOf x0 (1 : Int32) x3 r5.2)).bind fun r6 =>
        if r6.1 = (-1 : Int32) then
          f_X10_laysFar_J112 (f_X10_laysFar_L58 kE144 n) kE144 x0 x1 x2 x3 (1 : Int32) r6.2
        else
          (gR r6.2 10 x0 17).bind fun v7 =>
          (aI r6.2 v7 r6.1).bind fun v8 =>
          f_X10_laysFar_J112 (f_X10_laysFar_L58 kE144 n) kE144 x0 x1 x2 x3 (v8 + (2 : Int32)) r6.2
theorem y_X10_laysFar_L58 {g : xG} {h0 : xH} {cl : Bool} {kE144 : Nat → Int32 → Int32 → xH → Option (xH)} (hkE144 : ∀ (x0 : Nat) (x1 : Int32) (x2 : Int32) (h : xH), Y g DX10_laysFar h0 cl iV (kE144 x0 x1 x2 h) 144 [some (.ref x0), some (.int x1), some (.int x2), none, none, none] [] h) : ∀ (n : Nat) (x0 : Nat) (x1 : Int32) (x2 : Int32) (x3 : Int32) (h : xH), Y g DX10_laysFar h0 cl iV (f_X10_laysFar_L58 kE144 n x0 x1 x2 x3 h) 58 [some (.ref x0), some (.int x1), some (.int x2), some (.int x3), none, none] [] h := by
  intro n
  induction n with
  | zero => intro x0 x1 x2 x3 h; exact Y.nothing
  | succ n ih =>
    intro x0 x1 x2 x3 h
    unfold f_X10_laysFar_L58
    refine Y.op (pc' := 59) (fun _ => X.iloadn rfl dX10_laysFar_58) ?_
    refine Y.op (pc' := 60) (fun _ => X.aloadn rfl dX10_laysFar_59) ?_
    refine Y.getR fd_X10_22 rfl dX10_laysFar_60 (fun v1 => ?_)
    refine Y.op (pc' := 64) (fun _ => X.ic ki_0 dX10_laysFar_63) ?_
    refine Y.aldR 102 (by decide) (by decide) dX10_laysFar_64 (fun v2 => ?_)
    refine Y.op (pc' := 66) (fun _ => X.ic ki_1 dX10_laysFar_65) ?_
    refine Y.aldI dX10_laysFar_66 (fun v3 => ?_)
    refine Y.cmpge 144 (by decide) dX10_laysFar_67 ?_ ?_
    · exact Y.fg (hkE144 x0 x1 x2 h) (And.intro rfl (And.intro rfl (And.intro rfl trivial)))
    · refine Y.op (pc' := 71) (fun _ => X.aloadn rfl dX10_laysFar_70) ?_
      refine Y.op (pc' := 72) (fun _ => X.iloadn rfl dX10_laysFar_71) ?_
      refine Y.callVi (As := [.int x2]) lk_X10_246 rfl cal_X10_openTo vir_X10_openTo (Nat.le_of_ble_eq_true rfl) (Nat.le_of_ble_eq_true rfl) rfl rfl rfl (Nat.le_of_ble_eq_true rfl) dX10_laysFar_72 (fun _ e => m_X10_openTo x0 x2 h _ _ e) (fun r4 => ?_)
      refine Y.op (pc' := 76) (fun _ => X.iloadn rfl dX10_laysFar_75) ?_
      refine Y.callSi (As := [.int r4.1, .int x3]) lk_X10_182 rfl cal_X10_has sta_X10_has (Nat.le_of_ble_eq_true rfl) rfl rfl (Nat.le_of_ble_eq_true rfl) dX10_laysFar_76 (fun _ e => m_X10_has r4.1 x3 r4.2 _ _ e) (fun r5 => ?_)
      refine Y.ifne 85 (by decide) dX10_laysFar_79 ?_ ?_
      · refine Y.op (pc' := 86) (fun _ => X.aloadn rfl dX10_laysFar_85) ?_
        refine Y.op (pc' := 87) (fun _ => X.ic ki_1 dX10_laysFar_86) ?_
        refine Y.op (pc' := 88) (fun _ => X.iloadn rfl dX10_laysFar_87) ?_
        refine Y.callVi (As := [.int (1 : Int32), .int x3]) lk_X10_243 rfl cal_X10_partnerOf vir_X10_partnerOf (Nat.le_of_ble_eq_true rfl) (Nat.le_of_ble_eq_true rfl) rfl rfl rfl (Nat.le_of_ble_eq_true rfl) dX10_laysFar_88 (fun _ e => m_X10_partnerOf x0 (1 : Int32) x3 r5.2 _ _ e) (fun r6 => ?_)
        refine Y.op (pc' := 93) (loc' := [some (.ref x0), some (.int x1), some (.int x2), some (.int x3), some (.int r6.1), none]) (fun _ => X.istore (Nat.le_of_ble_eq_true rfl) rfl dX10_laysFar_91) ?_
        refine Y.op (pc' := 95) (fun _ => X.iload rfl dX10_laysFar_93) ?_
        refine Y.op (pc' := 96) (fun _ => X.ic ki_m1 dX10_laysFar_95) ?_
        refine Y.cmpne 103 (by decide) dX10_laysFar_96 ?_ ?_
        · refine Y.op (pc' := 104) (fun _ => X.aloadn rfl dX10_laysFar_103) ?_
          refine Y.getR fd_X10_39 rfl dX10_laysFar_104 (fun v7 => ?_)
          refine Y.op (pc' := 109) (fun _ => X.iload rfl dX10_laysFar_107) ?_
          refine Y.aldI dX10_laysFar_109 (fun v8 => ?_)
          refine Y.op (pc' := 111) (fun _ => X.ic ki_2 dX10_laysFar_110) ?_
          refine Y.op (pc' := 112) (fun _ => X.iadd dX10_laysFar_111) ?_
          exact Y.fg (y_X10_laysFar_J112 ih hkE144 x0 x1 x2 x3 (v8 + (2 : Int32)) r6.2) (And.intro rfl (And.intro rfl (And.intro rfl (And.intro rfl trivial))))
        · refine Y.op (pc' := 100) (fun _ => X.ic ki_1 dX10_laysFar_99) ?_
          refine Y.op (pc' := 112) (fun _ => X.goto 112 (by decide) dX10_laysFar_100) ?_
          exact Y.fg (y_X10_laysFar_J112 ih hkE144 x0 x1 x2 x3 (1 : Int32) r6.2) (And.intro rfl (And.intro rfl (And.intro rfl (And.intro rfl trivial))))
      · refine Y.op (pc' := 138) (fun _ => X.goto 138 (by decide) dX10_laysFar_82) ?_
        exact y_X10_laysFar_J138 ih hkE144 x0 x1 x2 x3 r5.2
def f_X10_laysFar_L32 (kE150 : Nat → Int32 → xH → Option (xH)) : Nat → Nat → Int32 → Int32 → xH → Option (xH)
  | 0 => fun _ _ _ _ => none
  | n + 1 => fun x0 x1 x2 h =>
    (gR h 10 x0 9).bind fun v1 =>
    (aR 102 h v1 (0 : Int32)).bind fun v2 =>
    (aI h v2 (0 : Int32)).bind fun v3 =>
    if x2 ≥ v3 then
      kE150 x0 x1 h
    else
      (vc h 10 x0 (f_X10_isThere x0 (0 : Int32) x2 h)).bind fun r4 =>
      if r4.1 = (0 : Int32) then
        f_X10_laysFar_J144 (f_X10_laysFar_L32 kE150 n) kE150 x0 x1 x2 r4.2
      else
        f_X10_laysFar_L58 (f_X10_laysFar_J144 (f_X10_laysFar_L32 kE150 n) kE150) 5000 x0 x1 x2 (0 : Int32) r4.2
theorem y_X10_laysFar_L32 {g : xG} {h0 : xH} {cl : Bool} {kE150 : Nat → Int32 → xH → Option (xH)} (hkE150 : ∀ (x0 : Nat) (x1 : Int32) (h : xH), Y g DX10_laysFar h0 cl iV (kE150 x0 x1 h) 150 [some (.ref x0), some (.int x1), none, none, none, none] [] h) : ∀ (n : Nat) (x0 : Nat) (x1 : Int32) (x2 : Int32) (h : xH), Y g DX10_laysFar h0 cl iV (f_X10_laysFar_L32 kE150 n x0 x1 x2 h) 32 [some (.ref x0), some (.int x1), some (.int x2), none, none, none] [] h := by
  intro n
  induction n with
  | zero => intro x0 x1 x2 h; exact Y.nothing
  | succ n ih =>
    intro x0 x1 x2 h
    unfold f_X10_laysFar_L32
    refine Y.op (pc' := 33) (fun _ => X.iloadn rfl dX10_laysFar_32) ?_
    refine Y.op (pc' := 34) (fun _ => X.aloadn rfl dX10_laysFar_33) ?_
    refine Y.getR fd_X10_22 rfl dX10_laysFar_34 (fun v1 => ?_)
    refine Y.op (pc' := 38) (fun _ => X.ic ki_0 dX10_laysFar_37) ?_
    refine Y.aldR 102 (by decide) (by decide) dX10_laysFar_38 (fun v2 => ?_)
    refine Y.op (pc' := 40) (fun _ => X.ic ki_0 dX10_laysFar_39) ?_
    refine Y.aldI dX10_laysFar_40 (fun v3 => ?_)
    refine Y.cmpge 150 (by decide) dX10_laysFar_41 ?_ ?_
    · exact Y.fg (hkE150 x0 x1 h) (And.intro rfl (And.intro rfl trivial))
    · refine Y.op (pc' := 45) (fun _ => X.aloadn rfl dX10_laysFar_44) ?_
      refine Y.op (pc' := 46) (fun _ => X.ic ki_0 dX10_laysFar_45) ?_
      refine Y.op (pc' := 47) (fun _ => X.iloadn rfl dX10_laysFar_46) ?_
      refine Y.callVi (As := [.int (0 : Int32), .int x2]) lk_X10_240 rfl cal_X10_isThere vir_X10_isThere (Nat.le_of_ble_eq_true rfl) (Nat.le_of_ble_eq_true rfl) rfl rfl rfl (Nat.le_of_ble_eq_true rfl) dX10_laysFar_47 (fun _ e => m_X10_isThere x0 (0 : Int32) x2 h _ _ e) (fun r4 => ?_)
      refine Y.ifne 56 (by decide) dX10_laysFar_50 ?_ ?_
      · refine Y.op (pc' := 57) (fun _ => X.ic ki_0 dX10_laysFar_56) ?_
        refine Y.op (pc' := 58) (loc' := [some (.ref x0), some (.int x1), some (.int x2), some (.int (0 : Int32)), none, none]) (fun _ => X.istoren (Nat.le_of_ble_eq_true rfl) rfl dX10_laysFar_57) ?_
        exact y_X10_laysFar_L58 (y_X10_laysFar_J144 ih hkE150) 5000 x0 x1 x2 (0 : Int32) r4.2
      · refine Y.op (pc' := 144) (fun _ => X.goto 144 (by decide) dX10_laysFar_53) ?_
        exact y_X10_laysFar_J144 ih hkE150 x0 x1 x2 r4.2
def f_X10_laysFar_L24 (kE153 : xH → Option (xH)) : Nat → Nat → Int32 → xH → Option (xH)
  | 0 => fun _ _ _ => none
  | n + 1 => fun x0 x1 h =>
    if x1 = (0 : Int32) then
      kE153 h
    else
      f_X10_laysFar_L32 (f_X10_laysFar_J150 (f_X10_laysFar_L24 kE153 n) kE153) 5000 x0 (0 : Int32) (0 : Int32) h
theorem y_X10_laysFar_L24 {g : xG} {h0 : xH} {cl : Bool} {kE153 : xH → Option (xH)} (hkE153 : ∀  (h : xH), Y g DX10_laysFar h0 cl iV (kE153  h) 153 [none, none, none, none, none, none] [] h) : ∀ (n : Nat) (x0 : Nat) (x1 : Int32) (h : xH), Y g DX10_laysFar h0 cl iV (f_X10_laysFar_L24 kE153 n x0 x1 h) 24 [some (.ref x0), some (.int x1), none, none, none, none] [] h := by
  intro n
  induction n with
  | zero => intro x0 x1 h; exact Y.nothing
  | succ n ih =>
    intro x0 x1 h
    unfold f_X10_laysFar_L24
    refine Y.op (pc' := 25) (fun _ => X.iloadn rfl dX10_laysFar_24) ?_
    refine Y.ifeq 153 (by decide) dX10_laysFar_25 ?_ ?_
    · exact Y.fg (hkE153 h) trivial
    · refine Y.op (pc' := 29) (fun _ => X.ic ki_0 dX10_laysFar_28) ?_
      refine Y.op (pc' := 30) (loc' := [some (.ref x0), some (.int (0 : Int32)), none, none, none, none]) (fun _ => X.istoren (Nat.le_of_ble_eq_true rfl) rfl dX10_laysFar_29) ?_
      refine Y.op (pc' := 31) (fun _ => X.ic ki_0 dX10_laysFar_30) ?_
      refine Y.op (pc' := 32) (loc' := [some (.ref x0), some (.int (0 : Int32)), some (.int (0 : Int32)), none, none, none]) (fun _ => X.istoren (Nat.le_of_ble_eq_true rfl) rfl dX10_laysFar_31) ?_
      exact y_X10_laysFar_L32 (y_X10_laysFar_J150 ih hkE153) 5000 x0 (0 : Int32) (0 : Int32) h
def f_X10_laysFar_J22 (x0 : Nat) (h : xH) : Option (xH) :=
  f_X10_laysFar_L24 (f_X10_laysFar_J153) 5000 x0 (1 : Int32) h
theorem y_X10_laysFar_J22 {g : xG} {h0 : xH} {cl : Bool} (x0 : Nat) (h : xH) : Y g DX10_laysFar h0 cl iV (f_X10_laysFar_J22 x0 h) 22 [some (.ref x0), none, none, none, none, none] [] h := by
  unfold f_X10_laysFar_J22
  refine Y.op (pc' := 23) (fun _ => X.ic ki_1 dX10_laysFar_22) ?_
  refine Y.op (pc' := 24) (loc' := [some (.ref x0), some (.int (1 : Int32)), none, none, none, none]) (fun _ => X.istoren (Nat.le_of_ble_eq_true rfl) rfl dX10_laysFar_23) ?_
  exact y_X10_laysFar_L24 (y_X10_laysFar_J153) 5000 x0 (1 : Int32) h
def f_X10_laysFar_L2 (kE22 : Nat → xH → Option (xH)) : Nat → Nat → Int32 → xH → Option (xH)
  | 0 => fun _ _ _ => none
  | n + 1 => fun x0 x1 h =>
    if x1 ≥ (12 : Int32) then
      kE22 x0 h
    else
      (gR h 10 x0 17).bind fun v1 =>
      (sI h v1 x1 (1000000 : Int32)).bind fun h2 =>
      lt (x1 + (1 : Int32)) fun v3 =>
      f_X10_laysFar_L2 kE22 n x0 v3 h2
theorem y_X10_laysFar_L2 {g : xG} {h0 : xH} {cl : Bool} {kE22 : Nat → xH → Option (xH)} (hkE22 : ∀ (x0 : Nat) (h : xH), Y g DX10_laysFar h0 cl iV (kE22 x0 h) 22 [some (.ref x0), none, none, none, none, none] [] h) : ∀ (n : Nat) (x0 : Nat) (x1 : Int32) (h : xH), Y g DX10_laysFar h0 cl iV (f_X10_laysFar_L2 kE22 n x0 x1 h) 2 [some (.ref x0), some (.int x1), none, none, none, none] [] h := by
  intro n
  induction n with
  | zero => intro x0 x1 h; exact Y.nothing
  | succ n ih =>
    intro x0 x1 h
    unfold f_X10_laysFar_L2
    refine Y.op (pc' := 3) (fun _ => X.iloadn rfl dX10_laysFar_2) ?_
    refine Y.op (pc' := 5) (fun _ => X.bp kb_12 dX10_laysFar_3) ?_
    refine Y.cmpge 22 (by decide) dX10_laysFar_5 ?_ ?_
    · exact Y.fg (hkE22 x0 h) (And.intro rfl trivial)
    · refine Y.op (pc' := 9) (fun _ => X.aloadn rfl dX10_laysFar_8) ?_
      refine Y.getR fd_X10_39 rfl dX10_laysFar_9 (fun v1 => ?_)
      refine Y.op (pc' := 13) (fun _ => X.iloadn rfl dX10_laysFar_12) ?_
      refine Y.op (pc' := 15) (fun _ => X.ldcI wc_X10_122 rfl dX10_laysFar_13) ?_
      refine Y.astI dX10_laysFar_15 (fun h2 => ?_)
      refine Y.iinc (i := 1) (loc' := fun v3 => [some (.ref x0), some (.int v3), none, none, none, none]) rfl (Nat.le_of_ble_eq_true rfl) ki_1 (fun _ => rfl) dX10_laysFar_16 (fun v3 => ?_)
      refine Y.op (pc' := 2) (fun _ => X.goto 2 (by decide) dX10_laysFar_19) ?_
      exact ih x0 v3 h2
def f_X10_laysFar (a0 : Nat) (h : xH) : Option (xH) :=
  f_X10_laysFar_L2 (f_X10_laysFar_J22) 5000 a0 (0 : Int32) h
theorem y_X10_laysFar {g : xG} {h0 : xH} {cl : Bool} (a0 : Nat) (h : xH) : Y g DX10_laysFar h0 cl iV (f_X10_laysFar a0 h) 0 [some (.ref a0), none, none, none, none, none] [] h := by
  unfold f_X10_laysFar
  refine Y.op (pc' := 1) (fun _ => X.ic ki_0 dX10_laysFar_0) ?_
  refine Y.op (pc' := 2) (loc' := [some (.ref a0), some (.int (0 : Int32)), none, none, none, none]) (fun _ => X.istoren (Nat.le_of_ble_eq_true rfl) rfl dX10_laysFar_1) ?_
  exact y_X10_laysFar_L2 (y_X10_laysFar_J22) 5000 a0 (0 : Int32) h
theorem m_X10_laysFar {g : xG} (a0 : Nat) (h : xH) (cl : Bool) (r : xH) (e : f_X10_laysFar a0 h = some r) : XM g DX10_laysFar [.ref a0] h cl (iV r) := YM.of rfl rfl (Nat.le_of_ble_eq_true rfl) (y_X10_laysFar a0 h) e
def f_X10_laysWay_J110 (h : xH) : Option (xH) :=
  some h
theorem y_X10_laysWay_J110 {g : xG} {h0 : xH} {cl : Bool} (h : xH) : Y g DX10_laysWay h0 cl iV (f_X10_laysWay_J110 h) 110 [none, none, none, none] [] h := by
  unfold f_X10_laysWay_J110
  exact Y.vreturn rfl dX10_laysWay_110
def f_X10_laysWay_J68 (kH : Nat → Int32 → xH → Option (xH)) (kE110 : xH → Option (xH)) (x0 : Nat) (x2 : Int32) (x3 : Int32) (h : xH) : Option (xH) :=
  (gR h 10 x0 19).bind fun v1 =>
  (gI h 10 x0 18).bind fun v2 =>
  (sI h v1 v2 x2).bind fun h3 =>
  (gR h3 10 x0 19).bind fun v4 =>
  (gI h3 10 x0 18).bind fun v5 =>
  (sI h3 v4 (v5 + (1 : Int32)) x3).bind fun h6 =>
  (gI h6 10 x0 18).bind fun v7 =>
  (pI h6 10 x0 18 (v7 + (2 : Int32))).bind fun h8 =>
  (vc h8 10 x0 (f_X10_partnerOf x0 (1 : Int32) x3 h8)).bind fun r9 =>
  kH x0 r9.1 r9.2
theorem y_X10_laysWay_J68 {g : xG} {h0 : xH} {cl : Bool} {kH : Nat → Int32 → xH → Option (xH)} {kE110 : xH → Option (xH)} (hkH : ∀ (x0 : Nat) (x2 : Int32) (h : xH), Y g DX10_laysWay h0 cl iV (kH x0 x2 h) 7 [some (.ref x0), none, some (.int x2), none] [] h) (hkE110 : ∀  (h : xH), Y g DX10_laysWay h0 cl iV (kE110  h) 110 [none, none, none, none] [] h) (x0 : Nat) (x2 : Int32) (x3 : Int32) (h : xH) : Y g DX10_laysWay h0 cl iV (f_X10_laysWay_J68 kH kE110 x0 x2 x3 h) 68 [some (.ref x0), none, some (.int x2), some (.int x3)] [] h := by
  unfold f_X10_laysWay_J68
  refine Y.op (pc' := 69) (fun _ => X.aloadn rfl dX10_laysWay_68) ?_
  refine Y.getR fd_X10_42 rfl dX10_laysWay_69 (fun v1 => ?_)
  refine Y.op (pc' := 73) (fun _ => X.aloadn rfl dX10_laysWay_72) ?_
  refine Y.getI fd_X10_249 rfl dX10_laysWay_73 (fun v2 => ?_)
  refine Y.op (pc' := 77) (fun _ => X.iloadn rfl dX10_laysWay_76) ?_
  refine Y.astI dX10_laysWay_77 (fun h3 => ?_)
  refine Y.op (pc' := 79) (fun _ => X.aloadn rfl dX10_laysWay_78) ?_
  refine Y.getR fd_X10_42 rfl dX10_laysWay_79 (fun v4 => ?_)
  refine Y.op (pc' := 83) (fun _ => X.aloadn rfl dX10_laysWay_82) ?_
  refine Y.getI fd_X10_249 rfl dX10_laysWay_83 (fun v5 => ?_)
  refine Y.op (pc' := 87) (fun _ => X.ic ki_1 dX10_laysWay_86) ?_
  refine Y.op (pc' := 88) (fun _ => X.iadd dX10_laysWay_87) ?_
  refine Y.op (pc' := 89) (fun _ => X.iloadn rfl dX10_laysWay_88) ?_
  refine Y.astI dX10_laysWay_89 (fun h6 => ?_)
  refine Y.op (pc' := 91) (fun _ => X.aloadn rfl dX10_laysWay_90) ?_
  refine Y.op (pc' := 92) (fun _ => X.dup rfl dX10_laysWay_91) ?_
  refine Y.getI fd_X10_249 rfl dX10_laysWay_92 (fun v7 => ?_)
  refine Y.op (pc' := 96) (fun _ => X.ic ki_2 dX10_laysWay_95) ?_
  refine Y.op (pc' := 97) (fun _ => X.iadd dX10_laysWay_96) ?_
  refine Y.putI fd_X10_249 rfl dX10_laysWay_97 (fun h8 => ?_)
  refine Y.op (pc' := 101) (fun _ => X.aloadn rfl dX10_laysWay_100) ?_
  refine Y.op (pc' := 102) (fun _ => X.ic ki_1 dX10_laysWay_101) ?_
  refine Y.op (pc' := 103) (fun _ => X.iloadn rfl dX10_laysWay_102) ?_
  refine Y.callVi (As := [.int (1 : Int32), .int x3]) lk_X10_243 rfl cal_X10_partnerOf vir_X10_partnerOf (Nat.le_of_ble_eq_true rfl) (Nat.le_of_ble_eq_true rfl) rfl rfl rfl (Nat.le_of_ble_eq_true rfl) dX10_laysWay_103 (fun _ e => m_X10_partnerOf x0 (1 : Int32) x3 h8 _ _ e) (fun r9 => ?_)
  refine Y.op (pc' := 107) (loc' := [some (.ref x0), none, some (.int r9.1), some (.int x3)]) (fun _ => X.istoren (Nat.le_of_ble_eq_true rfl) rfl dX10_laysWay_106) ?_
  refine Y.op (pc' := 7) (fun _ => X.goto 7 (by decide) dX10_laysWay_107) ?_
  exact Y.fg (hkH x0 r9.1 r9.2) (And.intro rfl (And.intro rfl trivial))
def f_X10_laysWay_J62 (kH : Nat → Int32 → Int32 → xH → Option (xH)) (kE68 : Nat → Int32 → Int32 → xH → Option (xH)) (x0 : Nat) (x2 : Int32) (x3 : Int32) (h : xH) : Option (xH) :=
  lt (x3 + (1 : Int32)) fun v1 =>
  kH x0 x2 v1 h
theorem y_X10_laysWay_J62 {g : xG} {h0 : xH} {cl : Bool} {kH : Nat → Int32 → Int32 → xH → Option (xH)} {kE68 : Nat → Int32 → Int32 → xH → Option (xH)} (hkH : ∀ (x0 : Nat) (x2 : Int32) (x3 : Int32) (h : xH), Y g DX10_laysWay h0 cl iV (kH x0 x2 x3 h) 14 [some (.ref x0), none, some (.int x2), some (.int x3)] [] h) (hkE68 : ∀ (x0 : Nat) (x2 : Int32) (x3 : Int32) (h : xH), Y g DX10_laysWay h0 cl iV (kE68 x0 x2 x3 h) 68 [some (.ref x0), none, some (.int x2), some (.int x3)] [] h) (x0 : Nat) (x2 : Int32) (x3 : Int32) (h : xH) : Y g DX10_laysWay h0 cl iV (f_X10_laysWay_J62 kH kE68 x0 x2 x3 h) 62 [some (.ref x0), none, some (.int x2), some (.int x3)] [] h := by
  unfold f_X10_laysWay_J62
  refine Y.iinc (i := 3) (loc' := fun v1 => [some (.ref x0), none, some (.int x2), some (.int v1)]) rfl (Nat.le_of_ble_eq_true rfl) ki_1 (fun _ => rfl) dX10_laysWay_62 (fun v1 => ?_)
  refine Y.op (pc' := 14) (fun _ => X.goto 14 (by decide) dX10_laysWay_65) ?_
  exact hkH x0 x2 v1 h
def f_X10_laysWay_J53 (kH : Nat → Int32 → Int32 → xH → Option (xH)) (kE68 : Nat → Int32 → Int32 → xH → Option (xH)) (x0 : Nat) (x2 : Int32) (x3 : Int32) (s0 : Int32) (h : xH) : Option (xH) :=
  (gR h 10 x0 17).bind fun v1 =>
  (aI h v1 x2).bind fun v2 =>
  if s0 = v2 then
    kE68 x0 x2 x3 h
  else
    f_X10_laysWay_J62 (kH) kE68 x0 x2 x3 h
theorem y_X10_laysWay_J53 {g : xG} {h0 : xH} {cl : Bool} {kH : Nat → Int32 → Int32 → xH → Option (xH)} {kE68 : Nat → Int32 → Int32 → xH → Option (xH)} (hkH : ∀ (x0 : Nat) (x2 : Int32) (x3 : Int32) (h : xH), Y g DX10_laysWay h0 cl iV (kH x0 x2 x3 h) 14 [some (.ref x0), none, some (.int x2), some (.int x3)] [] h) (hkE68 : ∀ (x0 : Nat) (x2 : Int32) (x3 : Int32) (h : xH), Y g DX10_laysWay h0 cl iV (kE68 x0 x2 x3 h) 68 [some (.ref x0), none, some (.int x2), some (.int x3)] [] h) (x0 : Nat) (x2 : Int32) (x3 : Int32) (s0 : Int32) (h : xH) : Y g DX10_laysWay h0 cl iV (f_X10_laysWay_J53 kH kE68 x0 x2 x3 s0 h) 53 [some (.ref x0), none, some (.int x2), some (.int x3)] [.int s0] h := by
  unfold f_X10_laysWay_J53
  refine Y.op (pc' := 54) (fun _ => X.aloadn rfl dX10_laysWay_53) ?_
  refine Y.getR fd_X10_39 rfl dX10_laysWay_54 (fun v1 => ?_)
  refine Y.op (pc' := 58) (fun _ => X.iloadn rfl dX10_laysWay_57) ?_
  refine Y.aldI dX10_laysWay_58 (fun v2 => ?_)
  refine Y.cmpeq 68 (by decide) dX10_laysWay_59 ?_ ?_
  · exact hkE68 x0 x2 x3 h
  · exact y_X10_laysWay_J62 hkH hkE68 x0 x2 x3 h
def f_X10_laysWay_L14 (kE68 : Nat → Int32 → Int32 → xH → Option (xH)) : Nat → Nat → Int32 → Int32 → xH → Option (xH)
  | 0 => fun _ _ _ _ => none
  | n + 1 => fun x0 x2 x3 h =>
    (vc h 10 x0 (f_X10_openTo x0 x2 h)).bind fun r1 =>
    (f_X10_has r1.1 x3 r1.2).bind fun r2 =>
    if r2.1 = (0 : Int32) then
      f_X10_laysWay_J62 (f_X10_laysWay_L14 kE68 n) kE68 x0 x2 x3 r2.2
    else
      (vc r2.2 10 x0 (f_X10_partnerOf x0 (1 : Int32) x3 r2.2)).bind fun r3 =>
      if r3.1 = (-1 : Int32) then
        f_X10_laysWay_J53 (f_X10_laysWay_L14 kE68 n) kE68 x0 x2 x3 (1 : Int32) r3.2
      else
        (gR r3.2 10 x0 17).bind fun v4 =>
        (vc r3.2 10 x0 (f_X10_partnerOf x0 (1 : Int32) x3 r3.2)).bind fun r5 =>
        (aI r5.2 v4 r5.1).bind fun v6 =>
        f_X10_laysWay_J53 (f_X10_laysWay_L14 kE68 n) kE68 x0 x2 x3 (v6 + (2 : Int32)) r5.2
theorem y_X10_laysWay_L14 {g : xG} {h0 : xH} {cl : Bool} {kE68 : Nat → Int32 → Int32 → xH → Option (xH)} (hkE68 : ∀ (x0 : Nat) (x2 : Int32) (x3 : Int32) (h : xH), Y g DX10_laysWay h0 cl iV (kE68 x0 x2 x3 h) 68 [some (.ref x0), none, some (.int x2), some (.int x3)] [] h) : ∀ (n : Nat) (x0 : Nat) (x2 : Int32) (x3 : Int32) (h : xH), Y g DX10_laysWay h0 cl iV (f_X10_laysWay_L14 kE68 n x0 x2 x3 h) 14 [some (.ref x0), none, some (.int x2), some (.int x3)] [] h := by
  intro n
  induction n with
  | zero => intro x0 x2 x3 h; exact Y.nothing
  | succ n ih =>
    intro x0 x2 x3 h
    unfold f_X10_laysWay_L14
    refine Y.op (pc' := 15) (fun _ => X.aloadn rfl dX10_laysWay_14) ?_
    refine Y.op (pc' := 16) (fun _ => X.iloadn rfl dX10_laysWay_15) ?_
    refine Y.callVi (As := [.int x2]) lk_X10_246 rfl cal_X10_openTo vir_X10_openTo (Nat.le_of_ble_eq_true rfl) (Nat.le_of_ble_eq_true rfl) rfl rfl rfl (Nat.le_of_ble_eq_true rfl) dX10_laysWay_16 (fun _ e => m_X10_openTo x0 x2 h _ _ e) (fun r1 => ?_)
    refine Y.op (pc' := 20) (fun _ => X.iloadn rfl dX10_laysWay_19) ?_
    refine Y.callSi (As := [.int r1.1, .int x3]) lk_X10_182 rfl cal_X10_has sta_X10_has (Nat.le_of_ble_eq_true rfl) rfl rfl (Nat.le_of_ble_eq_true rfl) dX10_laysWay_20 (fun _ e => m_X10_has r1.1 x3 r1.2 _ _ e) (fun r2 => ?_)
    refine Y.ifeq 62 (by decide) dX10_laysWay_23 ?_ ?_
    · exact y_X10_laysWay_J62 ih hkE68 x0 x2 x3 r2.2
    · refine Y.op (pc' := 27) (fun _ => X.aloadn rfl dX10_laysWay_26) ?_
      refine Y.op (pc' := 28) (fun _ => X.ic ki_1 dX10_laysWay_27) ?_
      refine Y.op (pc' := 29) (fun _ => X.iloadn rfl dX10_laysWay_28) ?_
      refine Y.callVi (As := [.int (1 : Int32), .int x3]) lk_X10_243 rfl cal_X10_partnerOf vir_X10_partnerOf (Nat.le_of_ble_eq_true rfl) (Nat.le_of_ble_eq_true rfl) rfl rfl rfl (Nat.le_of_ble_eq_true rfl) dX10_laysWay_29 (fun _ e => m_X10_partnerOf x0 (1 : Int32) x3 r2.2 _ _ e) (fun r3 => ?_)
      refine Y.op (pc' := 33) (fun _ => X.ic ki_m1 dX10_laysWay_32) ?_
      refine Y.cmpne 40 (by decide) dX10_laysWay_33 ?_ ?_
      · refine Y.op (pc' := 41) (fun _ => X.aloadn rfl dX10_laysWay_40) ?_
        refine Y.getR fd_X10_39 rfl dX10_laysWay_41 (fun v4 => ?_)
        refine Y.op (pc' := 45) (fun _ => X.aloadn rfl dX10_laysWay_44) ?_
        refine Y.op (pc' := 46) (fun _ => X.ic ki_1 dX10_laysWay_45) ?_
        refine Y.op (pc' := 47) (fun _ => X.iloadn rfl dX10_laysWay_46) ?_
        refine Y.callVi (As := [.int (1 : Int32), .int x3]) lk_X10_243 rfl cal_X10_partnerOf vir_X10_partnerOf (Nat.le_of_ble_eq_true rfl) (Nat.le_of_ble_eq_true rfl) rfl rfl rfl (Nat.le_of_ble_eq_true rfl) dX10_laysWay_47 (fun _ e => m_X10_partnerOf x0 (1 : Int32) x3 r3.2 _ _ e) (fun r5 => ?_)
        refine Y.aldI dX10_laysWay_50 (fun v6 => ?_)
        refine Y.op (pc' := 52) (fun _ => X.ic ki_2 dX10_laysWay_51) ?_
        refine Y.op (pc' := 53) (fun _ => X.iadd dX10_laysWay_52) ?_
        exact y_X10_laysWay_J53 ih hkE68 x0 x2 x3 (v6 + (2 : Int32)) r5.2
      · refine Y.op (pc' := 37) (fun _ => X.ic ki_1 dX10_laysWay_36) ?_
        refine Y.op (pc' := 53) (fun _ => X.goto 53 (by decide) dX10_laysWay_37) ?_
        exact y_X10_laysWay_J53 ih hkE68 x0 x2 x3 (1 : Int32) r3.2
def f_X10_laysWay_L7 (kE110 : xH → Option (xH)) : Nat → Nat → Int32 → xH → Option (xH)
  | 0 => fun _ _ _ => none
  | n + 1 => fun x0 x2 h =>
    if x2 = (-1 : Int32) then
      kE110 h
    else
      f_X10_laysWay_L14 (f_X10_laysWay_J68 (f_X10_laysWay_L7 kE110 n) kE110) 5000 x0 x2 (0 : Int32) h
theorem y_X10_laysWay_L7 {g : xG} {h0 : xH} {cl : Bool} {kE110 : xH → Option (xH)} (hkE110 : ∀  (h : xH), Y g DX10_laysWay h0 cl iV (kE110  h) 110 [none, none, none, none] [] h) : ∀ (n : Nat) (x0 : Nat) (x2 : Int32) (h : xH), Y g DX10_laysWay h0 cl iV (f_X10_laysWay_L7 kE110 n x0 x2 h) 7 [some (.ref x0), none, some (.int x2), none] [] h := by
  intro n
  induction n with
  | zero => intro x0 x2 h; exact Y.nothing
  | succ n ih =>
    intro x0 x2 h
    unfold f_X10_laysWay_L7
    refine Y.op (pc' := 8) (fun _ => X.iloadn rfl dX10_laysWay_7) ?_
    refine Y.op (pc' := 9) (fun _ => X.ic ki_m1 dX10_laysWay_8) ?_
    refine Y.cmpeq 110 (by decide) dX10_laysWay_9 ?_ ?_
    · exact Y.fg (hkE110 h) trivial
    · refine Y.op (pc' := 13) (fun _ => X.ic ki_0 dX10_laysWay_12) ?_
      refine Y.op (pc' := 14) (loc' := [some (.ref x0), none, some (.int x2), some (.int (0 : Int32))]) (fun _ => X.istoren (Nat.le_of_ble_eq_true rfl) rfl dX10_laysWay_13) ?_
      exact y_X10_laysWay_L14 (y_X10_laysWay_J68 ih hkE110) 5000 x0 x2 (0 : Int32) h
def f_X10_laysWay (a0 : Nat) (p1 : Int32) (h : xH) : Option (xH) :=
  (pI h 10 a0 18 (0 : Int32)).bind fun h1 =>
  f_X10_laysWay_L7 (f_X10_laysWay_J110) 5000 a0 p1 h1
theorem y_X10_laysWay {g : xG} {h0 : xH} {cl : Bool} (a0 : Nat) (p1 : Int32) (h : xH) : Y g DX10_laysWay h0 cl iV (f_X10_laysWay a0 p1 h) 0 [some (.ref a0), some (.int p1), none, none] [] h := by
  unfold f_X10_laysWay
  refine Y.op (pc' := 1) (fun _ => X.aloadn rfl dX10_laysWay_0) ?_
  refine Y.op (pc' := 2) (fun _ => X.ic ki_0 dX10_laysWay_1) ?_
  refine Y.putI fd_X10_249 rfl dX10_laysWay_2 (fun h1 => ?_)
  refine Y.op (pc' := 6) (fun _ => X.iloadn rfl dX10_laysWay_5) ?_
  refine Y.op (pc' := 7) (loc' := [some (.ref a0), some (.int p1), some (.int p1), none]) (fun _ => X.istoren (Nat.le_of_ble_eq_true rfl) rfl dX10_laysWay_6) ?_
  exact Y.fg (y_X10_laysWay_L7 (y_X10_laysWay_J110) 5000 a0 p1 h1) (And.intro rfl (And.intro rfl trivial))
theorem m_X10_laysWay {g : xG} (a0 : Nat) (p1 : Int32) (h : xH) (cl : Bool) (r : xH) (e : f_X10_laysWay a0 p1 h = some r) : XM g DX10_laysWay [.ref a0, .int p1] h cl (iV r) := YM.of rfl rfl (Nat.le_of_ble_eq_true rfl) (y_X10_laysWay a0 p1 h) e
def f_X10_hasWay_J59 (h : xH) : Option (Int32 × xH) :=
  if (0 : Int32) = 0 ∨ (0 : Int32) = 1 then some ((0 : Int32), h) else none
theorem y_X10_hasWay_J59 {g : xG} {h0 : xH} {cl : Bool} (h : xH) : Y g DX10_hasWay h0 cl iI (f_X10_hasWay_J59 h) 59 [none, none] [] h := by
  unfold f_X10_hasWay_J59
  refine Y.op (pc' := 60) (fun _ => X.ic ki_0 dX10_hasWay_59) ?_
  exact Y.zreturn rfl dX10_hasWay_60
def f_X10_hasWay_J46 (x0 : Nat) (x1 : Int32) (h : xH) : Option (Int32 × xH) :=
  (vc h 10 x0 (f_X10_laysWay x0 x1 h)).bind fun h1 =>
  if (1 : Int32) = 0 ∨ (1 : Int32) = 1 then some ((1 : Int32), h1) else none
theorem y_X10_hasWay_J46 {g : xG} {h0 : xH} {cl : Bool} (x0 : Nat) (x1 : Int32) (h : xH) : Y g DX10_hasWay h0 cl iI (f_X10_hasWay_J46 x0 x1 h) 46 [some (.ref x0), some (.int x1)] [] h := by
  unfold f_X10_hasWay_J46
  refine Y.op (pc' := 47) (fun _ => X.aloadn rfl dX10_hasWay_46) ?_
  refine Y.op (pc' := 48) (fun _ => X.iloadn rfl dX10_hasWay_47) ?_
  refine Y.callVv (As := [.int x1]) lk_X10_258 rfl cal_X10_laysWay vir_X10_laysWay (Nat.le_of_ble_eq_true rfl) (Nat.le_of_ble_eq_true rfl) rfl rfl rfl (Nat.le_of_ble_eq_true rfl) dX10_hasWay_48 (fun _ e => m_X10_laysWay x0 x1 h _ _ e) (fun h1 => ?_)
  refine Y.op (pc' := 52) (fun _ => X.ic ki_1 dX10_hasWay_51) ?_
  exact Y.zreturn rfl dX10_hasWay_52
def f_X10_hasWay_J53 (kH : Nat → Int32 → xH → Option (Int32 × xH)) (kE46 : Nat → Int32 → xH → Option (Int32 × xH)) (kE59 : xH → Option (Int32 × xH)) (x0 : Nat) (x1 : Int32) (h : xH) : Option (Int32 × xH) :=
  lt (x1 + (1 : Int32)) fun v1 =>
  kH x0 v1 h
theorem y_X10_hasWay_J53 {g : xG} {h0 : xH} {cl : Bool} {kH : Nat → Int32 → xH → Option (Int32 × xH)} {kE46 : Nat → Int32 → xH → Option (Int32 × xH)} {kE59 : xH → Option (Int32 × xH)} (hkH : ∀ (x0 : Nat) (x1 : Int32) (h : xH), Y g DX10_hasWay h0 cl iI (kH x0 x1 h) 11 [some (.ref x0), some (.int x1)] [] h) (hkE46 : ∀ (x0 : Nat) (x1 : Int32) (h : xH), Y g DX10_hasWay h0 cl iI (kE46 x0 x1 h) 46 [some (.ref x0), some (.int x1)] [] h) (hkE59 : ∀  (h : xH), Y g DX10_hasWay h0 cl iI (kE59  h) 59 [none, none] [] h) (x0 : Nat) (x1 : Int32) (h : xH) : Y g DX10_hasWay h0 cl iI (f_X10_hasWay_J53 kH kE46 kE59 x0 x1 h) 53 [some (.ref x0), some (.int x1)] [] h := by
  unfold f_X10_hasWay_J53
  refine Y.iinc (i := 1) (loc' := fun v1 => [some (.ref x0), some (.int v1)]) rfl (Nat.le_of_ble_eq_true rfl) ki_1 (fun _ => rfl) dX10_hasWay_53 (fun v1 => ?_)
  refine Y.op (pc' := 11) (fun _ => X.goto 11 (by decide) dX10_hasWay_56) ?_
  exact hkH x0 v1 h
def f_X10_hasWay_L11 (kE46 : Nat → Int32 → xH → Option (Int32 × xH)) (kE59 : xH → Option (Int32 × xH)) : Nat → Nat → Int32 → xH → Option (Int32 × xH)
  | 0 => fun _ _ _ => none
  | n + 1 => fun x0 x1 h =>
    (gR h 10 x0 9).bind fun v1 =>
    (aR 102 h v1 (0 : Int32)).bind fun v2 =>
    (aI h v2 (0 : Int32)).bind fun v3 =>
    if x1 ≥ v3 then
      kE59 h
    else
      (vc h 10 x0 (f_X10_isFree x0 (0 : Int32) x1 h)).bind fun r4 =>
      if r4.1 = (0 : Int32) then
        f_X10_hasWay_J53 (f_X10_hasWay_L11 kE46 kE59 n) kE46 kE59 x0 x1 r4.2
      else
        (gR r4.2 10 x0 17).bind fun v5 =>
        (aI r4.2 v5 x1).bind fun v6 =>
        if v6 < (1000000 : Int32) then
          kE46 x0 x1 r4.2
        else
          f_X10_hasWay_J53 (f_X10_hasWay_L11 kE46 kE59 n) kE46 kE59 x0 x1 r4.2
theorem y_X10_hasWay_L11 {g : xG} {h0 : xH} {cl : Bool} {kE46 : Nat → Int32 → xH → Option (Int32 × xH)} {kE59 : xH → Option (Int32 × xH)} (hkE46 : ∀ (x0 : Nat) (x1 : Int32) (h : xH), Y g DX10_hasWay h0 cl iI (kE46 x0 x1 h) 46 [some (.ref x0), some (.int x1)] [] h) (hkE59 : ∀  (h : xH), Y g DX10_hasWay h0 cl iI (kE59  h) 59 [none, none] [] h) : ∀ (n : Nat) (x0 : Nat) (x1 : Int32) (h : xH), Y g DX10_hasWay h0 cl iI (f_X10_hasWay_L11 kE46 kE59 n x0 x1 h) 11 [some (.ref x0), some (.int x1)] [] h := by
  intro n
  induction n with
  | zero => intro x0 x1 h; exact Y.nothing
  | succ n ih =>
    intro x0 x1 h
    unfold f_X10_hasWay_L11
    refine Y.op (pc' := 12) (fun _ => X.iloadn rfl dX10_hasWay_11) ?_
    refine Y.op (pc' := 13) (fun _ => X.aloadn rfl dX10_hasWay_12) ?_
    refine Y.getR fd_X10_22 rfl dX10_hasWay_13 (fun v1 => ?_)
    refine Y.op (pc' := 17) (fun _ => X.ic ki_0 dX10_hasWay_16) ?_
    refine Y.aldR 102 (by decide) (by decide) dX10_hasWay_17 (fun v2 => ?_)
    refine Y.op (pc' := 19) (fun _ => X.ic ki_0 dX10_hasWay_18) ?_
    refine Y.aldI dX10_hasWay_19 (fun v3 => ?_)
    refine Y.cmpge 59 (by decide) dX10_hasWay_20 ?_ ?_
    · exact Y.fg (hkE59 h) trivial
    · refine Y.op (pc' := 24) (fun _ => X.aloadn rfl dX10_hasWay_23) ?_
      refine Y.op (pc' := 25) (fun _ => X.ic ki_0 dX10_hasWay_24) ?_
      refine Y.op (pc' := 26) (fun _ => X.iloadn rfl dX10_hasWay_25) ?_
      refine Y.callVi (As := [.int (0 : Int32), .int x1]) lk_X10_255 rfl cal_X10_isFree vir_X10_isFree (Nat.le_of_ble_eq_true rfl) (Nat.le_of_ble_eq_true rfl) rfl rfl rfl (Nat.le_of_ble_eq_true rfl) dX10_hasWay_26 (fun _ e => m_X10_isFree x0 (0 : Int32) x1 h _ _ e) (fun r4 => ?_)
      refine Y.ifeq 53 (by decide) dX10_hasWay_29 ?_ ?_
      · exact y_X10_hasWay_J53 ih hkE46 hkE59 x0 x1 r4.2
      · refine Y.op (pc' := 33) (fun _ => X.aloadn rfl dX10_hasWay_32) ?_
        refine Y.getR fd_X10_39 rfl dX10_hasWay_33 (fun v5 => ?_)
        refine Y.op (pc' := 37) (fun _ => X.iloadn rfl dX10_hasWay_36) ?_
        refine Y.aldI dX10_hasWay_37 (fun v6 => ?_)
        refine Y.op (pc' := 40) (fun _ => X.ldcI wc_X10_122 rfl dX10_hasWay_38) ?_
        refine Y.cmplt 46 (by decide) dX10_hasWay_40 ?_ ?_
        · exact hkE46 x0 x1 r4.2
        · refine Y.op (pc' := 53) (fun _ => X.goto 53 (by decide) dX10_hasWay_43) ?_
          exact y_X10_hasWay_J53 ih hkE46 hkE59 x0 x1 r4.2
def f_X10_hasWay (a0 : Nat) (h : xH) : Option (Int32 × xH) :=
  (vc h 10 a0 (f_X10_laysFar a0 h)).bind fun h1 =>
  (pI h1 10 a0 18 (0 : Int32)).bind fun h2 =>
  f_X10_hasWay_L11 (f_X10_hasWay_J46) (f_X10_hasWay_J59) 5000 a0 (0 : Int32) h2
theorem y_X10_hasWay {g : xG} {h0 : xH} {cl : Bool} (a0 : Nat) (h : xH) : Y g DX10_hasWay h0 cl iI (f_X10_hasWay a0 h) 0 [some (.ref a0), none] [] h := by
  unfold f_X10_hasWay
  refine Y.op (pc' := 1) (fun _ => X.aloadn rfl dX10_hasWay_0) ?_
  refine Y.callVv (As := []) lk_X10_252 rfl cal_X10_laysFar vir_X10_laysFar (Nat.le_of_ble_eq_true rfl) (Nat.le_of_ble_eq_true rfl) rfl rfl rfl (Nat.le_of_ble_eq_true rfl) dX10_hasWay_1 (fun _ e => m_X10_laysFar a0 h _ _ e) (fun h1 => ?_)
  refine Y.op (pc' := 5) (fun _ => X.aloadn rfl dX10_hasWay_4) ?_
  refine Y.op (pc' := 6) (fun _ => X.ic ki_0 dX10_hasWay_5) ?_
  refine Y.putI fd_X10_249 rfl dX10_hasWay_6 (fun h2 => ?_)
  refine Y.op (pc' := 10) (fun _ => X.ic ki_0 dX10_hasWay_9) ?_
  refine Y.op (pc' := 11) (loc' := [some (.ref a0), some (.int (0 : Int32))]) (fun _ => X.istoren (Nat.le_of_ble_eq_true rfl) rfl dX10_hasWay_10) ?_
  exact y_X10_hasWay_L11 (y_X10_hasWay_J46) (y_X10_hasWay_J59) 5000 a0 (0 : Int32) h2
theorem m_X10_hasWay {g : xG} (a0 : Nat) (h : xH) (cl : Bool) (r : Int32 × xH) (e : f_X10_hasWay a0 h = some r) : XM g DX10_hasWay [.ref a0] h cl (iI r) := YM.of rfl rfl (Nat.le_of_ble_eq_true rfl) (y_X10_hasWay a0 h) e
def f_X10_settles_J24 (x2 : Int32) (h : xH) : Option (Int32 × xH) :=
  some (x2, h)
theorem y_X10_settles_J24 {g : xG} {h0 : xH} {cl : Bool} (x2 : Int32) (h : xH) : Y g DX10_settles h0 cl iI (f_X10_settles_J24 x2 h) 24 [none, none, some (.int x2)] [] h := by
  unfold f_X10_settles_J24
  refine Y.op (pc' := 25) (fun _ => X.iloadn rfl dX10_settles_24) ?_
  exact Y.ireturn rfl dX10_settles_25
def f_X10_settles_L2 (kE24 : Int32 → xH → Option (Int32 × xH)) : Nat → Nat → Int32 → Int32 → xH → Option (Int32 × xH)
  | 0 => fun _ _ _ _ => none
  | n + 1 => fun x0 x1 x2 h =>
    if x2 ≥ x1 then
      kE24 x2 h
    else
      (vc h 10 x0 (f_X10_hasWay x0 h)).bind fun r1 =>
      if r1.1 = (0 : Int32) then
        kE24 x2 r1.2
      else
        (vc r1.2 10 x0 (f_X10_doesWay x0 r1.2)).bind fun h2 =>
        lt (x2 + (1 : Int32)) fun v3 =>
        f_X10_settles_L2 kE24 n x0 x1 v3 h2
theorem y_X10_settles_L2 {g : xG} {h0 : xH} {cl : Bool} {kE24 : Int32 → xH → Option (Int32 × xH)} (hkE24 : ∀ (x2 : Int32) (h : xH), Y g DX10_settles h0 cl iI (kE24 x2 h) 24 [none, none, some (.int x2)] [] h) : ∀ (n : Nat) (x0 : Nat) (x1 : Int32) (x2 : Int32) (h : xH), Y g DX10_settles h0 cl iI (f_X10_settles_L2 kE24 n x0 x1 x2 h) 2 [some (.ref x0), some (.int x1), some (.int x2)] [] h := by
  intro n
  induction n with
  | zero => intro x0 x1 x2 h; exact Y.nothing
  | succ n ih =>
    intro x0 x1 x2 h
    unfold f_X10_settles_L2
    refine Y.op (pc' := 3) (fun _ => X.iloadn rfl dX10_settles_2) ?_
    refine Y.op (pc' := 4) (fun _ => X.iloadn rfl dX10_settles_3) ?_
    refine Y.cmpge 24 (by decide) dX10_settles_4 ?_ ?_
    · exact Y.fg (hkE24 x2 h) (And.intro rfl trivial)
    · refine Y.op (pc' := 8) (fun _ => X.aloadn rfl dX10_settles_7) ?_
      refine Y.callVi (As := []) lk_X10_261 rfl cal_X10_hasWay vir_X10_hasWay (Nat.le_of_ble_eq_true rfl) (Nat.le_of_ble_eq_true rfl) rfl rfl rfl (Nat.le_of_ble_eq_true rfl) dX10_settles_8 (fun _ e => m_X10_hasWay x0 h _ _ e) (fun r1 => ?_)
      refine Y.ifeq 24 (by decide) dX10_settles_11 ?_ ?_
      · exact Y.fg (hkE24 x2 r1.2) (And.intro rfl trivial)
      · refine Y.op (pc' := 15) (fun _ => X.aloadn rfl dX10_settles_14) ?_
        refine Y.callVv (As := []) lk_X10_264 rfl cal_X10_doesWay vir_X10_doesWay (Nat.le_of_ble_eq_true rfl) (Nat.le_of_ble_eq_true rfl) rfl rfl rfl (Nat.le_of_ble_eq_true rfl) dX10_settles_15 (fun _ e => m_X10_doesWay x0 r1.2 _ _ e) (fun h2 => ?_)
        refine Y.iinc (i := 2) (loc' := fun v3 => [some (.ref x0), some (.int x1), some (.int v3)]) rfl (Nat.le_of_ble_eq_true rfl) ki_1 (fun _ => rfl) dX10_settles_18 (fun v3 => ?_)
        refine Y.op (pc' := 2) (fun _ => X.goto 2 (by decide) dX10_settles_21) ?_
        exact ih x0 x1 v3 h2
def f_X10_settles (a0 : Nat) (p1 : Int32) (h : xH) : Option (Int32 × xH) :=
  f_X10_settles_L2 (f_X10_settles_J24) 5000 a0 p1 (0 : Int32) h
theorem y_X10_settles {g : xG} {h0 : xH} {cl : Bool} (a0 : Nat) (p1 : Int32) (h : xH) : Y g DX10_settles h0 cl iI (f_X10_settles a0 p1 h) 0 [some (.ref a0), some (.int p1), none] [] h := by
  unfold f_X10_settles
  refine Y.op (pc' := 1) (fun _ => X.ic ki_0 dX10_settles_0) ?_
  refine Y.op (pc' := 2) (loc' := [some (.ref a0), some (.int p1), some (.int (0 : Int32))]) (fun _ => X.istoren (Nat.le_of_ble_eq_true rfl) rfl dX10_settles_1) ?_
  exact y_X10_settles_L2 (y_X10_settles_J24) 5000 a0 p1 (0 : Int32) h
theorem m_X10_settles {g : xG} (a0 : Nat) (p1 : Int32) (h : xH) (cl : Bool) (r : Int32 × xH) (e : f_X10_settles a0 p1 h = some r) : XM g DX10_settles [.ref a0, .int p1] h cl (iI r) := YM.of rfl rfl (Nat.le_of_ble_eq_true rfl) (y_X10_settles a0 p1 h) e
def f_X10_keeps_J19 (h : xH) : Option (xH) :=
  some h
theorem y_X10_keeps_J19 {g : xG} {h0 : xH} {cl : Bool} (h : xH) : Y g DX10_keeps h0 cl iV (f_X10_keeps_J19 h) 19 [none] [] h := by
  unfold f_X10_keeps_J19
  exact Y.vreturn rfl dX10_keeps_19
def f_X10_keeps (a0 : Nat) (h : xH) : Option (xH) :=
  (gR h 10 a0 9).bind fun v1 =>
  (aR 102 h v1 (0 : Int32)).bind fun v2 =>
  (aI h v2 (2 : Int32)).bind fun v3 =>
  if v3 = (1 : Int32) then
    (vc h 10 a0 (f_X10_settles a0 (12 : Int32) h)).bind fun r4 =>
    f_X10_keeps_J19 r4.2
  else
    f_X10_keeps_J19 h
theorem y_X10_keeps {g : xG} {h0 : xH} {cl : Bool} (a0 : Nat) (h : xH) : Y g DX10_keeps h0 cl iV (f_X10_keeps a0 h) 0 [some (.ref a0)] [] h := by
  unfold f_X10_keeps
  refine Y.op (pc' := 1) (fun _ => X.aloadn rfl dX10_keeps_0) ?_
  refine Y.getR fd_X10_22 rfl dX10_keeps_1 (fun v1 => ?_)
  refine Y.op (pc' := 5) (fun _ => X.ic ki_0 dX10_keeps_4) ?_
  refine Y.aldR 102 (by decide) (by decide) dX10_keeps_5 (fun v2 => ?_)
  refine Y.op (pc' := 7) (fun _ => X.ic ki_2 dX10_keeps_6) ?_
  refine Y.aldI dX10_keeps_7 (fun v3 => ?_)
  refine Y.op (pc' := 9) (fun _ => X.ic ki_1 dX10_keeps_8) ?_
  refine Y.cmpne 19 (by decide) dX10_keeps_9 ?_ ?_
  · exact Y.fg (y_X10_keeps_J19 h) trivial
  · refine Y.op (pc' := 13) (fun _ => X.aloadn rfl dX10_keeps_12) ?_
    refine Y.op (pc' := 15) (fun _ => X.bp kb_12 dX10_keeps_13) ?_
    refine Y.callVi (As := [.int (12 : Int32)]) lk_X10_267 rfl cal_X10_settles vir_X10_settles (Nat.le_of_ble_eq_true rfl) (Nat.le_of_ble_eq_true rfl) rfl rfl rfl (Nat.le_of_ble_eq_true rfl) dX10_keeps_15 (fun _ e => m_X10_settles a0 (12 : Int32) h _ _ e) (fun r4 => ?_)
    refine Y.op (pc' := 19) (fun _ => X.pop rfl dX10_keeps_18) ?_
    exact Y.fg (y_X10_keeps_J19 r4.2) trivial
theorem m_X10_keeps {g : xG} (a0 : Nat) (h : xH) (cl : Bool) (r : xH) (e : f_X10_keeps a0 h = some r) : XM g DX10_keeps [.ref a0] h cl (iV r) := YM.of rfl rfl (Nat.le_of_ble_eq_true rfl) (y_X10_keeps a0 h) e
def f_X10_pairs_J36 (x1 : Int32) (h : xH) : Option (Int32 × xH) :=
  some (x1, h)
theorem y_X10_pairs_J36 {g : xG} {h0 : xH} {cl : Bool} (x1 : Int32) (h : xH) : Y g DX10_pairs h0 cl iI (f_X10_pairs_J36 x1 h) 36 [none, some (.int x1), none] [] h := by
  unfold f_X10_pairs_J36
  refine Y.op (pc' := 37) (fun _ => X.iloadn rfl dX10_pairs_36) ?_
  exact Y.ireturn rfl dX10_pairs_37
def f_X10_pairs_J28 (kH : Nat → Int32 → Int32 → xH → Option (Int32 × xH)) (kE36 : Int32 → xH → Option (Int32 × xH)) (x0 : Nat) (x2 : Int32) (s0 : Int32) (s1 : Int32) (h : xH) : Option (Int32 × xH) :=
  lt ((s0 + s1)) fun v1 =>
  lt (x2 + (1 : Int32)) fun v2 =>
  kH x0 v1 v2 h
theorem y_X10_pairs_J28 {g : xG} {h0 : xH} {cl : Bool} {kH : Nat → Int32 → Int32 → xH → Option (Int32 × xH)} {kE36 : Int32 → xH → Option (Int32 × xH)} (hkH : ∀ (x0 : Nat) (x1 : Int32) (x2 : Int32) (h : xH), Y g DX10_pairs h0 cl iI (kH x0 x1 x2 h) 4 [some (.ref x0), some (.int x1), some (.int x2)] [] h) (hkE36 : ∀ (x1 : Int32) (h : xH), Y g DX10_pairs h0 cl iI (kE36 x1 h) 36 [none, some (.int x1), none] [] h) (x0 : Nat) (x2 : Int32) (s0 : Int32) (s1 : Int32) (h : xH) : Y g DX10_pairs h0 cl iI (f_X10_pairs_J28 kH kE36 x0 x2 s0 s1 h) 28 [some (.ref x0), none, some (.int x2)] [.int s1, .int s0] h := by
  unfold f_X10_pairs_J28
  refine Y.op (pc' := 29) (fun _ => X.iadd dX10_pairs_28) ?_
  refine Y.top (fun v1 => ?_)
  refine Y.op (pc' := 30) (loc' := [some (.ref x0), some (.int v1), some (.int x2)]) (fun _ => X.istoren (Nat.le_of_ble_eq_true rfl) rfl dX10_pairs_29) ?_
  refine Y.iinc (i := 2) (loc' := fun v2 => [some (.ref x0), some (.int v1), some (.int v2)]) rfl (Nat.le_of_ble_eq_true rfl) ki_1 (fun _ => rfl) dX10_pairs_30 (fun v2 => ?_)
  refine Y.op (pc' := 4) (fun _ => X.goto 4 (by decide) dX10_pairs_33) ?_
  exact hkH x0 v1 v2 h
def f_X10_pairs_L4 (kE36 : Int32 → xH → Option (Int32 × xH)) : Nat → Nat → Int32 → Int32 → xH → Option (Int32 × xH)
  | 0 => fun _ _ _ _ => none
  | n + 1 => fun x0 x1 x2 h =>
    if x2 ≥ (12 : Int32) then
      kE36 x1 h
    else
      (gR h 10 x0 11).bind fun v1 =>
      (aR 102 h v1 (0 : Int32)).bind fun v2 =>
      (aI h v2 x2).bind fun v3 =>
      if v3 = (-1 : Int32) then
        f_X10_pairs_J28 (f_X10_pairs_L4 kE36 n) kE36 x0 x2 x1 (0 : Int32) h
      else
        f_X10_pairs_J28 (f_X10_pairs_L4 kE36 n) kE36 x0 x2 x1 (1 : Int32) h
theorem y_X10_pairs_L4 {g : xG} {h0 : xH} {cl : Bool} {kE36 : Int32 → xH → Option (Int32 × xH)} (hkE36 : ∀ (x1 : Int32) (h : xH), Y g DX10_pairs h0 cl iI (kE36 x1 h) 36 [none, some (.int x1), none] [] h) : ∀ (n : Nat) (x0 : Nat) (x1 : Int32) (x2 : Int32) (h : xH), Y g DX10_pairs h0 cl iI (f_X10_pairs_L4 kE36 n x0 x1 x2 h) 4 [some (.ref x0), some (.int x1), some (.int x2)] [] h := by
  intro n
  induction n with
  | zero => intro x0 x1 x2 h; exact Y.nothing
  | succ n ih =>
    intro x0 x1 x2 h
    unfold f_X10_pairs_L4
    refine Y.op (pc' := 5) (fun _ => X.iloadn rfl dX10_pairs_4) ?_
    refine Y.op (pc' := 7) (fun _ => X.bp kb_12 dX10_pairs_5) ?_
    refine Y.cmpge 36 (by decide) dX10_pairs_7 ?_ ?_
    · exact Y.fg (hkE36 x1 h) (And.intro rfl trivial)
    · refine Y.op (pc' := 11) (fun _ => X.iloadn rfl dX10_pairs_10) ?_
      refine Y.op (pc' := 12) (fun _ => X.aloadn rfl dX10_pairs_11) ?_
      refine Y.getR fd_X10_28 rfl dX10_pairs_12 (fun v1 => ?_)
      refine Y.op (pc' := 16) (fun _ => X.ic ki_0 dX10_pairs_15) ?_
      refine Y.aldR 102 (by decide) (by decide) dX10_pairs_16 (fun v2 => ?_)
      refine Y.op (pc' := 18) (fun _ => X.iloadn rfl dX10_pairs_17) ?_
      refine Y.aldI dX10_pairs_18 (fun v3 => ?_)
      refine Y.op (pc' := 20) (fun _ => X.ic ki_m1 dX10_pairs_19) ?_
      refine Y.cmpeq 27 (by decide) dX10_pairs_20 ?_ ?_
      · refine Y.op (pc' := 28) (fun _ => X.ic ki_0 dX10_pairs_27) ?_
        exact Y.fg (y_X10_pairs_J28 ih hkE36 x0 x2 x1 (0 : Int32) h) (And.intro rfl (And.intro rfl trivial))
      · refine Y.op (pc' := 24) (fun _ => X.ic ki_1 dX10_pairs_23) ?_
        refine Y.op (pc' := 28) (fun _ => X.goto 28 (by decide) dX10_pairs_24) ?_
        exact Y.fg (y_X10_pairs_J28 ih hkE36 x0 x2 x1 (1 : Int32) h) (And.intro rfl (And.intro rfl trivial))
def f_X10_pairs (a0 : Nat) (h : xH) : Option (Int32 × xH) :=
  f_X10_pairs_L4 (f_X10_pairs_J36) 5000 a0 (0 : Int32) (0 : Int32) h
theorem y_X10_pairs {g : xG} {h0 : xH} {cl : Bool} (a0 : Nat) (h : xH) : Y g DX10_pairs h0 cl iI (f_X10_pairs a0 h) 0 [some (.ref a0), none, none] [] h := by
  unfold f_X10_pairs
  refine Y.op (pc' := 1) (fun _ => X.ic ki_0 dX10_pairs_0) ?_
  refine Y.op (pc' := 2) (loc' := [some (.ref a0), some (.int (0 : Int32)), none]) (fun _ => X.istoren (Nat.le_of_ble_eq_true rfl) rfl dX10_pairs_1) ?_
  refine Y.op (pc' := 3) (fun _ => X.ic ki_0 dX10_pairs_2) ?_
  refine Y.op (pc' := 4) (loc' := [some (.ref a0), some (.int (0 : Int32)), some (.int (0 : Int32))]) (fun _ => X.istoren (Nat.le_of_ble_eq_true rfl) rfl dX10_pairs_3) ?_
  exact y_X10_pairs_L4 (y_X10_pairs_J36) 5000 a0 (0 : Int32) (0 : Int32) h
theorem m_X10_pairs {g : xG} (a0 : Nat) (h : xH) (cl : Bool) (r : Int32 × xH) (e : f_X10_pairs a0 h = some r) : XM g DX10_pairs [.ref a0] h cl (iI r) := YM.of rfl rfl (Nat.le_of_ble_eq_true rfl) (y_X10_pairs a0 h) e
def f_X10_text_J126 (x0 : Nat) (h : xH) : Option (Int32 × xH) :=
  (gI h 10 x0 7).bind fun v1 =>
  (pI h 10 x0 5 v1).bind fun h2 =>
  (vc h2 10 x0 (f_X10_fine x0 h2)).bind fun r3 =>
  if r3.1 = (0 : Int32) then
    (gI r3.2 10 x0 6).bind fun v8 =>
    some ((v8 - (10 : Int32)), r3.2)
  else
    (vc r3.2 10 x0 (f_X10_copies x0 (1 : Int32) (0 : Int32) r3.2)).bind fun h4 =>
    (pI h4 10 x0 14 (0 : Int32)).bind fun h5 =>
    (vc h5 10 x0 (f_X10_keeps x0 h5)).bind fun h6 =>
    (vc h6 10 x0 (f_X10_pairs x0 h6)).bind fun r7 =>
    some (r7.1, r7.2)
theorem y_X10_text_J126 {g : xG} {h0 : xH} {cl : Bool} (x0 : Nat) (h : xH) : Y g DX10_text h0 cl iI (f_X10_text_J126 x0 h) 126 [some (.ref x0), none, none] [] h := by
  unfold f_X10_text_J126
  refine Y.op (pc' := 127) (fun _ => X.aloadn rfl dX10_text_126) ?_
  refine Y.op (pc' := 128) (fun _ => X.aloadn rfl dX10_text_127) ?_
  refine Y.getI fd_X10_101 rfl dX10_text_128 (fun v1 => ?_)
  refine Y.putI fd_X10_13 rfl dX10_text_131 (fun h2 => ?_)
  refine Y.op (pc' := 135) (fun _ => X.aloadn rfl dX10_text_134) ?_
  refine Y.callVi (As := []) lk_X10_104 rfl cal_X10_fine vir_X10_fine (Nat.le_of_ble_eq_true rfl) (Nat.le_of_ble_eq_true rfl) rfl rfl rfl (Nat.le_of_ble_eq_true rfl) dX10_text_135 (fun _ e => m_X10_fine x0 h2 _ _ e) (fun r3 => ?_)
  refine Y.ifne 149 (by decide) dX10_text_138 ?_ ?_
  · refine Y.op (pc' := 150) (fun _ => X.aloadn rfl dX10_text_149) ?_
    refine Y.op (pc' := 151) (fun _ => X.ic ki_1 dX10_text_150) ?_
    refine Y.op (pc' := 152) (fun _ => X.ic ki_0 dX10_text_151) ?_
    refine Y.callVv (As := [.int (1 : Int32), .int (0 : Int32)]) lk_X10_228 rfl cal_X10_copies vir_X10_copies (Nat.le_of_ble_eq_true rfl) (Nat.le_of_ble_eq_true rfl) rfl rfl rfl (Nat.le_of_ble_eq_true rfl) dX10_text_152 (fun _ e => m_X10_copies x0 (1 : Int32) (0 : Int32) r3.2 _ _ e) (fun h4 => ?_)
    refine Y.op (pc' := 156) (fun _ => X.aloadn rfl dX10_text_155) ?_
    refine Y.op (pc' := 157) (fun _ => X.ic ki_0 dX10_text_156) ?_
    refine Y.putI fd_X10_231 rfl dX10_text_157 (fun h5 => ?_)
    refine Y.op (pc' := 161) (fun _ => X.aloadn rfl dX10_text_160) ?_
    refine Y.callVv (As := []) lk_X10_234 rfl cal_X10_keeps vir_X10_keeps (Nat.le_of_ble_eq_true rfl) (Nat.le_of_ble_eq_true rfl) rfl rfl rfl (Nat.le_of_ble_eq_true rfl) dX10_text_161 (fun _ e => m_X10_keeps x0 h5 _ _ e) (fun h6 => ?_)
    refine Y.op (pc' := 165) (fun _ => X.aloadn rfl dX10_text_164) ?_
    refine Y.callVi (As := []) lk_X10_237 rfl cal_X10_pairs vir_X10_pairs (Nat.le_of_ble_eq_true rfl) (Nat.le_of_ble_eq_true rfl) rfl rfl rfl (Nat.le_of_ble_eq_true rfl) dX10_text_165 (fun _ e => m_X10_pairs x0 h6 _ _ e) (fun r7 => ?_)
    exact Y.ireturn rfl dX10_text_168
  · refine Y.op (pc' := 142) (fun _ => X.aloadn rfl dX10_text_141) ?_
    refine Y.getI fd_X10_98 rfl dX10_text_142 (fun v8 => ?_)
    refine Y.op (pc' := 147) (fun _ => X.bp kb_10 dX10_text_145) ?_
    refine Y.op (pc' := 148) (fun _ => X.isub dX10_text_147) ?_
    exact Y.ireturn rfl dX10_text_148
def f_X10_text_L104 (kE126 : Nat → xH → Option (Int32 × xH)) : Nat → Nat → xH → Option (Int32 × xH)
  | 0 => fun _ _ => none
  | n + 1 => fun x0 h =>
    (vc h 10 x0 (f_X10_fine x0 h)).bind fun r1 =>
    if r1.1 = (0 : Int32) then
      kE126 x0 r1.2
    else
      (vc r1.2 10 x0 (f_X10_here x0 r1.2)).bind fun r2 =>
      if r2.1 = (-1 : Int32) then
        kE126 x0 r2.2
      else
        (vc r2.2 10 x0 (f_X10_readsLine x0 r2.2)).bind fun h3 =>
        f_X10_text_L104 kE126 n x0 h3
theorem y_X10_text_L104 {g : xG} {h0 : xH} {cl : Bool} {kE126 : Nat → xH → Option (Int32 × xH)} (hkE126 : ∀ (x0 : Nat) (h : xH), Y g DX10_text h0 cl iI (kE126 x0 h) 126 [some (.ref x0), none, none] [] h) : ∀ (n : Nat) (x0 : Nat) (h : xH), Y g DX10_text h0 cl iI (f_X10_text_L104 kE126 n x0 h) 104 [some (.ref x0), none, none] [] h := by
  intro n
  induction n with
  | zero => intro x0 h; exact Y.nothing
  | succ n ih =>
    intro x0 h
    unfold f_X10_text_L104
    refine Y.op (pc' := 105) (fun _ => X.aloadn rfl dX10_text_104) ?_
    refine Y.callVi (As := []) lk_X10_104 rfl cal_X10_fine vir_X10_fine (Nat.le_of_ble_eq_true rfl) (Nat.le_of_ble_eq_true rfl) rfl rfl rfl (Nat.le_of_ble_eq_true rfl) dX10_text_105 (fun _ e => m_X10_fine x0 h _ _ e) (fun r1 => ?_)
    refine Y.ifeq 126 (by decide) dX10_text_108 ?_ ?_
    · exact hkE126 x0 r1.2
    · refine Y.op (pc' := 112) (fun _ => X.aloadn rfl dX10_text_111) ?_
      refine Y.callVi (As := []) lk_X10_108 rfl cal_X10_here vir_X10_here (Nat.le_of_ble_eq_true rfl) (Nat.le_of_ble_eq_true rfl) rfl rfl rfl (Nat.le_of_ble_eq_true rfl) dX10_text_112 (fun _ e => m_X10_here x0 r1.2 _ _ e) (fun r2 => ?_)
      refine Y.op (pc' := 116) (fun _ => X.ic ki_m1 dX10_text_115) ?_
      refine Y.cmpeq 126 (by decide) dX10_text_116 ?_ ?_
      · exact hkE126 x0 r2.2
      · refine Y.op (pc' := 120) (fun _ => X.aloadn rfl dX10_text_119) ?_
        refine Y.callVv (As := []) lk_X10_225 rfl cal_X10_readsLine vir_X10_readsLine (Nat.le_of_ble_eq_true rfl) (Nat.le_of_ble_eq_true rfl) rfl rfl rfl (Nat.le_of_ble_eq_true rfl) dX10_text_120 (fun _ e => m_X10_readsLine x0 r2.2 _ _ e) (fun h3 => ?_)
        refine Y.op (pc' := 104) (fun _ => X.goto 104 (by decide) dX10_text_123) ?_
        exact ih x0 h3
def f_X10_text_J23 (x0 : Nat) (x1 : Int32) (s0 : Nat) (s1 : Int32) (h : xH) : Option (Int32 × xH) :=
  (vc h 10 s0 (f_X10_bad s0 s1 (1 : Int32) (1 : Int32) h)).bind fun r1 =>
  if r1.1 = (0 : Int32) then
    (pI r1.2 10 x0 2 (0 : Int32)).bind fun h2 =>
    (pI h2 10 x0 3 x1).bind fun h3 =>
    (pI h3 10 x0 4 (0 : Int32)).bind fun h4 =>
    (pI h4 10 x0 6 (0 : Int32)).bind fun h5 =>
    (pI h5 10 x0 7 (-1 : Int32)).bind fun h6 =>
    (pZ h6 10 x0 16 (0 : Int32)).bind fun h7 =>
    (vc h7 10 x0 (f_X10_must x0 (1000003 : Nat) h7)).bind fun h8 =>
    (vc h8 10 x0 (f_X10_number x0 (1 : Int32) (12 : Int32) h8)).bind fun r9 =>
    (vc r9.2 10 x0 (f_X10_ends x0 r9.2)).bind fun h10 =>
    (vc h10 10 x0 (f_X10_must x0 (1000004 : Nat) h10)).bind fun h11 =>
    (vc h11 10 x0 (f_X10_number x0 (1 : Int32) (12 : Int32) h11)).bind fun r12 =>
    (vc r12.2 10 x0 (f_X10_begins x0 (1 : Int32) r9.1 r12.1 r12.2)).bind fun h13 =>
    (vc h13 10 x0 (f_X10_ends x0 h13)).bind fun h14 =>
    f_X10_text_L104 (f_X10_text_J126) 5000 x0 h14
  else
    some ((0 : Int32), r1.2)
theorem y_X10_text_J23 {g : xG} {h0 : xH} {cl : Bool} (x0 : Nat) (x1 : Int32) (s0 : Nat) (s1 : Int32) (h : xH) : Y g DX10_text h0 cl iI (f_X10_text_J23 x0 x1 s0 s1 h) 23 [some (.ref x0), some (.int x1), none] [.int s1, .ref s0] h := by
  unfold f_X10_text_J23
  refine Y.op (pc' := 24) (fun _ => X.ic ki_1 dX10_text_23) ?_
  refine Y.op (pc' := 25) (fun _ => X.ic ki_1 dX10_text_24) ?_
  refine Y.callVi (As := [.int s1, .int (1 : Int32), .int (1 : Int32)]) lk_X10_217 rfl cal_X10_bad vir_X10_bad (Nat.le_of_ble_eq_true rfl) (Nat.le_of_ble_eq_true rfl) rfl rfl rfl (Nat.le_of_ble_eq_true rfl) dX10_text_25 (fun _ e => m_X10_bad s0 s1 (1 : Int32) (1 : Int32) h _ _ e) (fun r1 => ?_)
  refine Y.ifeq 33 (by decide) dX10_text_28 ?_ ?_
  · refine Y.op (pc' := 34) (fun _ => X.aloadn rfl dX10_text_33) ?_
    refine Y.op (pc' := 35) (fun _ => X.ic ki_0 dX10_text_34) ?_
    refine Y.putI fd_X10_85 rfl dX10_text_35 (fun h2 => ?_)
    refine Y.op (pc' := 39) (fun _ => X.aloadn rfl dX10_text_38) ?_
    refine Y.op (pc' := 40) (fun _ => X.iloadn rfl dX10_text_39) ?_
    refine Y.putI fd_X10_88 rfl dX10_text_40 (fun h3 => ?_)
    refine Y.op (pc' := 44) (fun _ => X.aloadn rfl dX10_text_43) ?_
    refine Y.op (pc' := 45) (fun _ => X.ic ki_0 dX10_text_44) ?_
    refine Y.putI fd_X10_91 rfl dX10_text_45 (fun h4 => ?_)
    refine Y.op (pc' := 49) (fun _ => X.aloadn rfl dX10_text_48) ?_
    refine Y.op (pc' := 50) (fun _ => X.ic ki_0 dX10_text_49) ?_
    refine Y.putI fd_X10_98 rfl dX10_text_50 (fun h5 => ?_)
    refine Y.op (pc' := 54) (fun _ => X.aloadn rfl dX10_text_53) ?_
    refine Y.op (pc' := 55) (fun _ => X.ic ki_m1 dX10_text_54) ?_
    refine Y.putI fd_X10_101 rfl dX10_text_55 (fun h6 => ?_)
    refine Y.op (pc' := 59) (fun _ => X.aloadn rfl dX10_text_58) ?_
    refine Y.op (pc' := 60) (fun _ => X.ic ki_0 dX10_text_59) ?_
    refine Y.putZ fd_X10_186 rfl dX10_text_60 (fun h7 => ?_)
    refine Y.op (pc' := 64) (fun _ => X.aloadn rfl dX10_text_63) ?_
    refine Y.op (pc' := 66) (fun _ => X.ldcS ws_X10_221 rfl dX10_text_64) ?_
    refine Y.callVv (As := [.ref (1000003 : Nat)]) lk_X10_174 rfl cal_X10_must vir_X10_must (Nat.le_of_ble_eq_true rfl) (Nat.le_of_ble_eq_true rfl) rfl rfl rfl (Nat.le_of_ble_eq_true rfl) dX10_text_66 (fun _ e => m_X10_must x0 (1000003 : Nat) h7 _ _ e) (fun h8 => ?_)
    refine Y.op (pc' := 70) (fun _ => X.aloadn rfl dX10_text_69) ?_
    refine Y.op (pc' := 71) (fun _ => X.ic ki_1 dX10_text_70) ?_
    refine Y.op (pc' := 73) (fun _ => X.bp kb_12 dX10_text_71) ?_
    refine Y.callVi (As := [.int (1 : Int32), .int (12 : Int32)]) lk_X10_161 rfl cal_X10_number vir_X10_number (Nat.le_of_ble_eq_true rfl) (Nat.le_of_ble_eq_true rfl) rfl rfl rfl (Nat.le_of_ble_eq_true rfl) dX10_text_73 (fun _ e => m_X10_number x0 (1 : Int32) (12 : Int32) h8 _ _ e) (fun r9 => ?_)
    refine Y.op (pc' := 77) (loc' := [some (.ref x0), some (.int x1), some (.int r9.1)]) (fun _ => X.istoren (Nat.le_of_ble_eq_true rfl) rfl dX10_text_76) ?_
    refine Y.op (pc' := 78) (fun _ => X.aloadn rfl dX10_text_77) ?_
    refine Y.callVv (As := []) lk_X10_214 rfl cal_X10_ends vir_X10_ends (Nat.le_of_ble_eq_true rfl) (Nat.le_of_ble_eq_true rfl) rfl rfl rfl (Nat.le_of_ble_eq_true rfl) dX10_text_78 (fun _ e => m_X10_ends x0 r9.2 _ _ e) (fun h10 => ?_)
    refine Y.op (pc' := 82) (fun _ => X.aloadn rfl dX10_text_81) ?_
    refine Y.op (pc' := 84) (fun _ => X.ldcS ws_X10_223 rfl dX10_text_82) ?_
    refine Y.callVv (As := [.ref (1000004 : Nat)]) lk_X10_174 rfl cal_X10_must vir_X10_must (Nat.le_of_ble_eq_true rfl) (Nat.le_of_ble_eq_true rfl) rfl rfl rfl (Nat.le_of_ble_eq_true rfl) dX10_text_84 (fun _ e => m_X10_must x0 (1000004 : Nat) h10 _ _ e) (fun h11 => ?_)
    refine Y.op (pc' := 88) (fun _ => X.aloadn rfl dX10_text_87) ?_
    refine Y.op (pc' := 89) (fun _ => X.ic ki_1 dX10_text_88) ?_
    refine Y.op (pc' := 90) (fun _ => X.iloadn rfl dX10_text_89) ?_
    refine Y.op (pc' := 91) (fun _ => X.aloadn rfl dX10_text_90) ?_
    refine Y.op (pc' := 92) (fun _ => X.ic ki_1 dX10_text_91) ?_
    refine Y.op (pc' := 94) (fun _ => X.bp kb_12 dX10_text_92) ?_
    refine Y.callVi (As := [.int (1 : Int32), .int (12 : Int32)]) lk_X10_161 rfl cal_X10_number vir_X10_number (Nat.le_of_ble_eq_true rfl) (Nat.le_of_ble_eq_true rfl) rfl rfl rfl (Nat.le_of_ble_eq_true rfl) dX10_text_94 (fun _ e => m_X10_number x0 (1 : Int32) (12 : Int32) h11 _ _ e) (fun r12 => ?_)
    refine Y.callVv (As := [.int (1 : Int32), .int r9.1, .int r12.1]) lk_X10_78 rfl cal_X10_begins vir_X10_begins (Nat.le_of_ble_eq_true rfl) (Nat.le_of_ble_eq_true rfl) rfl rfl rfl (Nat.le_of_ble_eq_true rfl) dX10_text_97 (fun _ e => m_X10_begins x0 (1 : Int32) r9.1 r12.1 r12.2 _ _ e) (fun h13 => ?_)
    refine Y.op (pc' := 101) (fun _ => X.aloadn rfl dX10_text_100) ?_
    refine Y.callVv (As := []) lk_X10_214 rfl cal_X10_ends vir_X10_ends (Nat.le_of_ble_eq_true rfl) (Nat.le_of_ble_eq_true rfl) rfl rfl rfl (Nat.le_of_ble_eq_true rfl) dX10_text_101 (fun _ e => m_X10_ends x0 h13 _ _ e) (fun h14 => ?_)
    exact Y.fg (y_X10_text_L104 (y_X10_text_J126) 5000 x0 h14) (And.intro rfl trivial)
  · refine Y.op (pc' := 32) (fun _ => X.ic ki_0 dX10_text_31) ?_
    exact Y.ireturn rfl dX10_text_32
def f_X10_text (a0 : Nat) (p1 : Int32) (h : xH) : Option (Int32 × xH) :=
  (pI h 10 a0 0 (0 : Int32)).bind fun h1 =>
  (gI h1 10 a0 2).bind fun v2 =>
  (f_X10_in p1 (0 : Int32) v2 h1).bind fun r3 =>
  if r3.1 = (0 : Int32) then
    f_X10_text_J23 a0 p1 a0 (1 : Int32) r3.2
  else
    f_X10_text_J23 a0 p1 a0 (0 : Int32) r3.2
theorem y_X10_text {g : xG} {h0 : xH} {cl : Bool} (a0 : Nat) (p1 : Int32) (h : xH) : Y g DX10_text h0 cl iI (f_X10_text a0 p1 h) 0 [some (.ref a0), some (.int p1), none] [] h := by
  unfold f_X10_text
  refine Y.op (pc' := 1) (fun _ => X.aloadn rfl dX10_text_0) ?_
  refine Y.op (pc' := 2) (fun _ => X.ic ki_0 dX10_text_1) ?_
  refine Y.putI fd_X10_82 rfl dX10_text_2 (fun h1 => ?_)
  refine Y.op (pc' := 6) (fun _ => X.aloadn rfl dX10_text_5) ?_
  refine Y.op (pc' := 7) (fun _ => X.iloadn rfl dX10_text_6) ?_
  refine Y.op (pc' := 8) (fun _ => X.ic ki_0 dX10_text_7) ?_
  refine Y.op (pc' := 9) (fun _ => X.aloadn rfl dX10_text_8) ?_
  refine Y.getI fd_X10_85 rfl dX10_text_9 (fun v2 => ?_)
  refine Y.callSi (As := [.int p1, .int (0 : Int32), .int v2]) lk_X10_127 rfl cal_X10_in sta_X10_in (Nat.le_of_ble_eq_true rfl) rfl rfl (Nat.le_of_ble_eq_true rfl) dX10_text_12 (fun _ e => m_X10_in p1 (0 : Int32) v2 h1 _ _ e) (fun r3 => ?_)
  refine Y.ifne 22 (by decide) dX10_text_15 ?_ ?_
  · refine Y.op (pc' := 23) (fun _ => X.ic ki_0 dX10_text_22) ?_
    exact y_X10_text_J23 a0 p1 a0 (0 : Int32) r3.2
  · refine Y.op (pc' := 19) (fun _ => X.ic ki_1 dX10_text_18) ?_
    refine Y.op (pc' := 23) (fun _ => X.goto 23 (by decide) dX10_text_19) ?_
    exact y_X10_text_J23 a0 p1 a0 (1 : Int32) r3.2
theorem m_X10_text {g : xG} (a0 : Nat) (p1 : Int32) (h : xH) (cl : Bool) (r : Int32 × xH) (e : f_X10_text a0 p1 h = some r) : XM g DX10_text [.ref a0, .int p1] h cl (iI r) := YM.of rfl rfl (Nat.le_of_ble_eq_true rfl) (y_X10_text a0 p1 h) e
def f_X10_fault (a0 : Nat) (h : xH) : Option (Int32 × xH) :=
  (pI h 10 a0 0 (0 : Int32)).bind fun h1 =>
  (gI h1 10 a0 5).bind fun v2 =>
  some (v2, h1)
theorem y_X10_fault {g : xG} {h0 : xH} {cl : Bool} (a0 : Nat) (h : xH) : Y g DX10_fault h0 cl iI (f_X10_fault a0 h) 0 [some (.ref a0)] [] h := by
  unfold f_X10_fault
  refine Y.op (pc' := 1) (fun _ => X.aloadn rfl dX10_fault_0) ?_
  refine Y.op (pc' := 2) (fun _ => X.ic ki_0 dX10_fault_1) ?_
  refine Y.putI fd_X10_82 rfl dX10_fault_2 (fun h1 => ?_)
  refine Y.op (pc' := 6) (fun _ => X.aloadn rfl dX10_fault_5) ?_
  refine Y.getI fd_X10_13 rfl dX10_fault_6 (fun v2 => ?_)
  exact Y.ireturn rfl dX10_fault_9
theorem m_X10_fault {g : xG} (a0 : Nat) (h : xH) (cl : Bool) (r : Int32 × xH) (e : f_X10_fault a0 h = some r) : XM g DX10_fault [.ref a0] h cl (iI r) := YM.of rfl rfl (Nat.le_of_ble_eq_true rfl) (y_X10_fault a0 h) e
def f_X10_freeOf_J41 (x2 : Int32) (h : xH) : Option (Int32 × xH) :=
  some (x2, h)
theorem y_X10_freeOf_J41 {g : xG} {h0 : xH} {cl : Bool} (x2 : Int32) (h : xH) : Y g DX10_freeOf h0 cl iI (f_X10_freeOf_J41 x2 h) 41 [none, none, some (.int x2), none] [] h := by
  unfold f_X10_freeOf_J41
  refine Y.op (pc' := 42) (fun _ => X.iloadn rfl dX10_freeOf_41) ?_
  exact Y.ireturn rfl dX10_freeOf_42
def f_X10_freeOf_J33 (kH : Nat → Int32 → Int32 → Int32 → xH → Option (Int32 × xH)) (kE41 : Int32 → xH → Option (Int32 × xH)) (x0 : Nat) (x1 : Int32) (x3 : Int32) (s0 : Int32) (s1 : Int32) (h : xH) : Option (Int32 × xH) :=
  lt ((s0 ||| s1)) fun v1 =>
  lt (x3 + (1 : Int32)) fun v2 =>
  kH x0 x1 v1 v2 h
theorem y_X10_freeOf_J33 {g : xG} {h0 : xH} {cl : Bool} {kH : Nat → Int32 → Int32 → Int32 → xH → Option (Int32 × xH)} {kE41 : Int32 → xH → Option (Int32 × xH)} (hkH : ∀ (x0 : Nat) (x1 : Int32) (x2 : Int32) (x3 : Int32) (h : xH), Y g DX10_freeOf h0 cl iI (kH x0 x1 x2 x3 h) 4 [some (.ref x0), some (.int x1), some (.int x2), some (.int x3)] [] h) (hkE41 : ∀ (x2 : Int32) (h : xH), Y g DX10_freeOf h0 cl iI (kE41 x2 h) 41 [none, none, some (.int x2), none] [] h) (x0 : Nat) (x1 : Int32) (x3 : Int32) (s0 : Int32) (s1 : Int32) (h : xH) : Y g DX10_freeOf h0 cl iI (f_X10_freeOf_J33 kH kE41 x0 x1 x3 s0 s1 h) 33 [some (.ref x0), some (.int x1), none, some (.int x3)] [.int s1, .int s0] h := by
  unfold f_X10_freeOf_J33
  refine Y.op (pc' := 34) (fun _ => X.ior dX10_freeOf_33) ?_
  refine Y.top (fun v1 => ?_)
  refine Y.op (pc' := 35) (loc' := [some (.ref x0), some (.int x1), some (.int v1), some (.int x3)]) (fun _ => X.istoren (Nat.le_of_ble_eq_true rfl) rfl dX10_freeOf_34) ?_
  refine Y.iinc (i := 3) (loc' := fun v2 => [some (.ref x0), some (.int x1), some (.int v1), some (.int v2)]) rfl (Nat.le_of_ble_eq_true rfl) ki_1 (fun _ => rfl) dX10_freeOf_35 (fun v2 => ?_)
  refine Y.op (pc' := 4) (fun _ => X.goto 4 (by decide) dX10_freeOf_38) ?_
  exact hkH x0 x1 v1 v2 h
def f_X10_freeOf_L4 (kE41 : Int32 → xH → Option (Int32 × xH)) : Nat → Nat → Int32 → Int32 → Int32 → xH → Option (Int32 × xH)
  | 0 => fun _ _ _ _ _ => none
  | n + 1 => fun x0 x1 x2 x3 h =>
    (gR h 10 x0 9).bind fun v1 =>
    (aR 102 h v1 (0 : Int32)).bind fun v2 =>
    (aI h v2 x1).bind fun v3 =>
    if x3 ≥ v3 then
      kE41 x2 h
    else
      (vc h 10 x0 (f_X10_isFree x0 x1 x3 h)).bind fun r4 =>
      if r4.1 = (0 : Int32) then
        f_X10_freeOf_J33 (f_X10_freeOf_L4 kE41 n) kE41 x0 x1 x3 x2 (0 : Int32) r4.2
      else
        f_X10_freeOf_J33 (f_X10_freeOf_L4 kE41 n) kE41 x0 x1 x3 x2 ((1 : Int32) <<< (x3 &&& 31)) r4.2
theorem y_X10_freeOf_L4 {g : xG} {h0 : xH} {cl : Bool} {kE41 : Int32 → xH → Option (Int32 × xH)} (hkE41 : ∀ (x2 : Int32) (h : xH), Y g DX10_freeOf h0 cl iI (kE41 x2 h) 41 [none, none, some (.int x2), none] [] h) : ∀ (n : Nat) (x0 : Nat) (x1 : Int32) (x2 : Int32) (x3 : Int32) (h : xH), Y g DX10_freeOf h0 cl iI (f_X10_freeOf_L4 kE41 n x0 x1 x2 x3 h) 4 [some (.ref x0), some (.int x1), some (.int x2), some (.int x3)] [] h := by
  intro n
  induction n with
  | zero => intro x0 x1 x2 x3 h; exact Y.nothing
  | succ n ih =>
    intro x0 x1 x2 x3 h
    unfold f_X10_freeOf_L4
    refine Y.op (pc' := 5) (fun _ => X.iloadn rfl dX10_freeOf_4) ?_
    refine Y.op (pc' := 6) (fun _ => X.aloadn rfl dX10_freeOf_5) ?_
    refine Y.getR fd_X10_22 rfl dX10_freeOf_6 (fun v1 => ?_)
    refine Y.op (pc' := 10) (fun _ => X.ic ki_0 dX10_freeOf_9) ?_
    refine Y.aldR 102 (by decide) (by decide) dX10_freeOf_10 (fun v2 => ?_)
    refine Y.op (pc' := 12) (fun _ => X.iloadn rfl dX10_freeOf_11) ?_
    refine Y.aldI dX10_freeOf_12 (fun v3 => ?_)
    refine Y.cmpge 41 (by decide) dX10_freeOf_13 ?_ ?_
    · exact Y.fg (hkE41 x2 h) (And.intro rfl trivial)
    · refine Y.op (pc' := 17) (fun _ => X.iloadn rfl dX10_freeOf_16) ?_
      refine Y.op (pc' := 18) (fun _ => X.aloadn rfl dX10_freeOf_17) ?_
      refine Y.op (pc' := 19) (fun _ => X.iloadn rfl dX10_freeOf_18) ?_
      refine Y.op (pc' := 20) (fun _ => X.iloadn rfl dX10_freeOf_19) ?_
      refine Y.callVi (As := [.int x1, .int x3]) lk_X10_255 rfl cal_X10_isFree vir_X10_isFree (Nat.le_of_ble_eq_true rfl) (Nat.le_of_ble_eq_true rfl) rfl rfl rfl (Nat.le_of_ble_eq_true rfl) dX10_freeOf_20 (fun _ e => m_X10_isFree x0 x1 x3 h _ _ e) (fun r4 => ?_)
      refine Y.ifeq 32 (by decide) dX10_freeOf_23 ?_ ?_
      · refine Y.op (pc' := 33) (fun _ => X.ic ki_0 dX10_freeOf_32) ?_
        exact Y.fg (y_X10_freeOf_J33 ih hkE41 x0 x1 x3 x2 (0 : Int32) r4.2) (And.intro rfl (And.intro rfl (And.intro rfl trivial)))
      · refine Y.op (pc' := 27) (fun _ => X.ic ki_1 dX10_freeOf_26) ?_
        refine Y.op (pc' := 28) (fun _ => X.iloadn rfl dX10_freeOf_27) ?_
        refine Y.op (pc' := 29) (fun _ => X.ishl dX10_freeOf_28) ?_
        refine Y.op (pc' := 33) (fun _ => X.goto 33 (by decide) dX10_freeOf_29) ?_
        exact Y.fg (y_X10_freeOf_J33 ih hkE41 x0 x1 x3 x2 ((1 : Int32) <<< (x3 &&& 31)) r4.2) (And.intro rfl (And.intro rfl (And.intro rfl trivial)))
def f_X10_freeOf (a0 : Nat) (p1 : Int32) (h : xH) : Option (Int32 × xH) :=
  f_X10_freeOf_L4 (f_X10_freeOf_J41) 5000 a0 p1 (0 : Int32) (0 : Int32) h
theorem y_X10_freeOf {g : xG} {h0 : xH} {cl : Bool} (a0 : Nat) (p1 : Int32) (h : xH) : Y g DX10_freeOf h0 cl iI (f_X10_freeOf a0 p1 h) 0 [some (.ref a0), some (.int p1), none, none] [] h := by
  unfold f_X10_freeOf
  refine Y.op (pc' := 1) (fun _ => X.ic ki_0 dX10_freeOf_0) ?_
  refine Y.op (pc' := 2) (loc' := [some (.ref a0), some (.int p1), some (.int (0 : Int32)), none]) (fun _ => X.istoren (Nat.le_of_ble_eq_true rfl) rfl dX10_freeOf_1) ?_
  refine Y.op (pc' := 3) (fun _ => X.ic ki_0 dX10_freeOf_2) ?_
  refine Y.op (pc' := 4) (loc' := [some (.ref a0), some (.int p1), some (.int (0 : Int32)), some (.int (0 : Int32))]) (fun _ => X.istoren (Nat.le_of_ble_eq_true rfl) rfl dX10_freeOf_3) ?_
  exact y_X10_freeOf_L4 (y_X10_freeOf_J41) 5000 a0 p1 (0 : Int32) (0 : Int32) h
theorem m_X10_freeOf {g : xG} (a0 : Nat) (p1 : Int32) (h : xH) (cl : Bool) (r : Int32 × xH) (e : f_X10_freeOf a0 p1 h = some r) : XM g DX10_freeOf [.ref a0, .int p1] h cl (iI r) := YM.of rfl rfl (Nat.le_of_ble_eq_true rfl) (y_X10_freeOf a0 p1 h) e
def f_X10_fitsInAll_J30 (x1 : Int32) (h : xH) : Option (Int32 × xH) :=
  some (x1, h)
theorem y_X10_fitsInAll_J30 {g : xG} {h0 : xH} {cl : Bool} (x1 : Int32) (h : xH) : Y g DX10_fitsInAll h0 cl iI (f_X10_fitsInAll_J30 x1 h) 30 [none, some (.int x1), none] [] h := by
  unfold f_X10_fitsInAll_J30
  refine Y.op (pc' := 31) (fun _ => X.iloadn rfl dX10_fitsInAll_30) ?_
  exact Y.ireturn rfl dX10_fitsInAll_31
def f_X10_fitsInAll_L4 (kE30 : Int32 → xH → Option (Int32 × xH)) : Nat → Nat → Int32 → Int32 → xH → Option (Int32 × xH)
  | 0 => fun _ _ _ _ => none
  | n + 1 => fun x0 x1 x2 h =>
    if x2 ≥ (12 : Int32) then
      kE30 x1 h
    else
      (gR h 10 x0 10).bind fun v1 =>
      (aR 102 h v1 (0 : Int32)).bind fun v2 =>
      (aI h v2 x2).bind fun v3 =>
      (f_X10_ones v3 h).bind fun r4 =>
      lt ((x1 + r4.1)) fun v5 =>
      lt (x2 + (1 : Int32)) fun v6 =>
      f_X10_fitsInAll_L4 kE30 n x0 v5 v6 r4.2
theorem y_X10_fitsInAll_L4 {g : xG} {h0 : xH} {cl : Bool} {kE30 : Int32 → xH → Option (Int32 × xH)} (hkE30 : ∀ (x1 : Int32) (h : xH), Y g DX10_fitsInAll h0 cl iI (kE30 x1 h) 30 [none, some (.int x1), none] [] h) : ∀ (n : Nat) (x0 : Nat) (x1 : Int32) (x2 : Int32) (h : xH), Y g DX10_fitsInAll h0 cl iI (f_X10_fitsInAll_L4 kE30 n x0 x1 x2 h) 4 [some (.ref x0), some (.int x1), some (.int x2)] [] h := by
  intro n
  induction n with
  | zero => intro x0 x1 x2 h; exact Y.nothing
  | succ n ih =>
    intro x0 x1 x2 h
    unfold f_X10_fitsInAll_L4
    refine Y.op (pc' := 5) (fun _ => X.iloadn rfl dX10_fitsInAll_4) ?_
    refine Y.op (pc' := 7) (fun _ => X.bp kb_12 dX10_fitsInAll_5) ?_
    refine Y.cmpge 30 (by decide) dX10_fitsInAll_7 ?_ ?_
    · exact Y.fg (hkE30 x1 h) (And.intro rfl trivial)
    · refine Y.op (pc' := 11) (fun _ => X.iloadn rfl dX10_fitsInAll_10) ?_
      refine Y.op (pc' := 12) (fun _ => X.aloadn rfl dX10_fitsInAll_11) ?_
      refine Y.getR fd_X10_25 rfl dX10_fitsInAll_12 (fun v1 => ?_)
      refine Y.op (pc' := 16) (fun _ => X.ic ki_0 dX10_fitsInAll_15) ?_
      refine Y.aldR 102 (by decide) (by decide) dX10_fitsInAll_16 (fun v2 => ?_)
      refine Y.op (pc' := 18) (fun _ => X.iloadn rfl dX10_fitsInAll_17) ?_
      refine Y.aldI dX10_fitsInAll_18 (fun v3 => ?_)
      refine Y.callSi (As := [.int v3]) lk_X10_270 rfl cal_X10_ones sta_X10_ones (Nat.le_of_ble_eq_true rfl) rfl rfl (Nat.le_of_ble_eq_true rfl) dX10_fitsInAll_19 (fun _ e => m_X10_ones v3 h _ _ e) (fun r4 => ?_)
      refine Y.op (pc' := 23) (fun _ => X.iadd dX10_fitsInAll_22) ?_
      refine Y.top (fun v5 => ?_)
      refine Y.op (pc' := 24) (loc' := [some (.ref x0), some (.int v5), some (.int x2)]) (fun _ => X.istoren (Nat.le_of_ble_eq_true rfl) rfl dX10_fitsInAll_23) ?_
      refine Y.iinc (i := 2) (loc' := fun v6 => [some (.ref x0), some (.int v5), some (.int v6)]) rfl (Nat.le_of_ble_eq_true rfl) ki_1 (fun _ => rfl) dX10_fitsInAll_24 (fun v6 => ?_)
      refine Y.op (pc' := 4) (fun _ => X.goto 4 (by decide) dX10_fitsInAll_27) ?_
      exact ih x0 v5 v6 r4.2
def f_X10_fitsInAll (a0 : Nat) (h : xH) : Option (Int32 × xH) :=
  f_X10_fitsInAll_L4 (f_X10_fitsInAll_J30) 5000 a0 (0 : Int32) (0 : Int32) h
theorem y_X10_fitsInAll {g : xG} {h0 : xH} {cl : Bool} (a0 : Nat) (h : xH) : Y g DX10_fitsInAll h0 cl iI (f_X10_fitsInAll a0 h) 0 [some (.ref a0), none, none] [] h := by
  unfold f_X10_fitsInAll
  refine Y.op (pc' := 1) (fun _ => X.ic ki_0 dX10_fitsInAll_0) ?_
  refine Y.op (pc' := 2) (loc' := [some (.ref a0), some (.int (0 : Int32)), none]) (fun _ => X.istoren (Nat.le_of_ble_eq_true rfl) rfl dX10_fitsInAll_1) ?_
  refine Y.op (pc' := 3) (fun _ => X.ic ki_0 dX10_fitsInAll_2) ?_
  refine Y.op (pc' := 4) (loc' := [some (.ref a0), some (.int (0 : Int32)), some (.int (0 : Int32))]) (fun _ => X.istoren (Nat.le_of_ble_eq_true rfl) rfl dX10_fitsInAll_3) ?_
  exact y_X10_fitsInAll_L4 (y_X10_fitsInAll_J30) 5000 a0 (0 : Int32) (0 : Int32) h
theorem m_X10_fitsInAll {g : xG} (a0 : Nat) (h : xH) (cl : Bool) (r : Int32 × xH) (e : f_X10_fitsInAll a0 h = some r) : XM g DX10_fitsInAll [.ref a0] h cl (iI r) := YM.of rfl rfl (Nat.le_of_ble_eq_true rfl) (y_X10_fitsInAll a0 h) e
def f_X10_costNow_J52 (x1 : Int32) (h : xH) : Option (Int32 × xH) :=
  some (x1, h)
theorem y_X10_costNow_J52 {g : xG} {h0 : xH} {cl : Bool} (x1 : Int32) (h : xH) : Y g DX10_costNow h0 cl iI (f_X10_costNow_J52 x1 h) 52 [none, some (.int x1), none] [] h := by
  unfold f_X10_costNow_J52
  refine Y.op (pc' := 53) (fun _ => X.iloadn rfl dX10_costNow_52) ?_
  exact Y.ireturn rfl dX10_costNow_53
def f_X10_costNow_J44 (kH : Nat → Int32 → Int32 → xH → Option (Int32 × xH)) (kE52 : Int32 → xH → Option (Int32 × xH)) (x0 : Nat) (x2 : Int32) (s0 : Int32) (s1 : Int32) (h : xH) : Option (Int32 × xH) :=
  lt ((s0 + s1)) fun v1 =>
  lt (x2 + (1 : Int32)) fun v2 =>
  kH x0 v1 v2 h
theorem y_X10_costNow_J44 {g : xG} {h0 : xH} {cl : Bool} {kH : Nat → Int32 → Int32 → xH → Option (Int32 × xH)} {kE52 : Int32 → xH → Option (Int32 × xH)} (hkH : ∀ (x0 : Nat) (x1 : Int32) (x2 : Int32) (h : xH), Y g DX10_costNow h0 cl iI (kH x0 x1 x2 h) 4 [some (.ref x0), some (.int x1), some (.int x2)] [] h) (hkE52 : ∀ (x1 : Int32) (h : xH), Y g DX10_costNow h0 cl iI (kE52 x1 h) 52 [none, some (.int x1), none] [] h) (x0 : Nat) (x2 : Int32) (s0 : Int32) (s1 : Int32) (h : xH) : Y g DX10_costNow h0 cl iI (f_X10_costNow_J44 kH kE52 x0 x2 s0 s1 h) 44 [some (.ref x0), none, some (.int x2)] [.int s1, .int s0] h := by
  unfold f_X10_costNow_J44
  refine Y.op (pc' := 45) (fun _ => X.iadd dX10_costNow_44) ?_
  refine Y.top (fun v1 => ?_)
  refine Y.op (pc' := 46) (loc' := [some (.ref x0), some (.int v1), some (.int x2)]) (fun _ => X.istoren (Nat.le_of_ble_eq_true rfl) rfl dX10_costNow_45) ?_
  refine Y.iinc (i := 2) (loc' := fun v2 => [some (.ref x0), some (.int v1), some (.int v2)]) rfl (Nat.le_of_ble_eq_true rfl) ki_1 (fun _ => rfl) dX10_costNow_46 (fun v2 => ?_)
  refine Y.op (pc' := 4) (fun _ => X.goto 4 (by decide) dX10_costNow_49) ?_
  exact hkH x0 v1 v2 h
def f_X10_costNow_L4 (kE52 : Int32 → xH → Option (Int32 × xH)) : Nat → Nat → Int32 → Int32 → xH → Option (Int32 × xH)
  | 0 => fun _ _ _ _ => none
  | n + 1 => fun x0 x1 x2 h =>
    if x2 ≥ (12 : Int32) then
      kE52 x1 h
    else
      (gR h 10 x0 11).bind fun v1 =>
      (aR 102 h v1 (0 : Int32)).bind fun v2 =>
      (aI h v2 x2).bind fun v3 =>
      if v3 = (-1 : Int32) then
        f_X10_costNow_J44 (f_X10_costNow_L4 kE52 n) kE52 x0 x2 x1 (0 : Int32) h
      else
        (gR h 10 x0 13).bind fun v4 =>
        (aR 103 h v4 (0 : Int32)).bind fun v5 =>
        (aR 102 h v5 x2).bind fun v6 =>
        (gR h 10 x0 11).bind fun v7 =>
        (aR 102 h v7 (0 : Int32)).bind fun v8 =>
        (aI h v8 x2).bind fun v9 =>
        (aI h v6 v9).bind fun v10 =>
        f_X10_costNow_J44 (f_X10_costNow_L4 kE52 n) kE52 x0 x2 x1 v10 h
theorem y_X10_costNow_L4 {g : xG} {h0 : xH} {cl : Bool} {kE52 : Int32 → xH → Option (Int32 × xH)} (hkE52 : ∀ (x1 : Int32) (h : xH), Y g DX10_costNow h0 cl iI (kE52 x1 h) 52 [none, some (.int x1), none] [] h) : ∀ (n : Nat) (x0 : Nat) (x1 : Int32) (x2 : Int32) (h : xH), Y g DX10_costNow h0 cl iI (f_X10_costNow_L4 kE52 n x0 x1 x2 h) 4 [some (.ref x0), some (.int x1), some (.int x2)] [] h := by
  intro n
  induction n with
  | zero => intro x0 x1 x2 h; exact Y.nothing
  | succ n ih =>
    intro x0 x1 x2 h
    unfold f_X10_costNow_L4
    refine Y.op (pc' := 5) (fun _ => X.iloadn rfl dX10_costNow_4) ?_
    refine Y.op (pc' := 7) (fun _ => X.bp kb_12 dX10_costNow_5) ?_
    refine Y.cmpge 52 (by decide) dX10_costNow_7 ?_ ?_
    · exact Y.fg (hkE52 x1 h) (And.intro rfl trivial)
    · refine Y.op (pc' := 11) (fun _ => X.iloadn rfl dX10_costNow_10) ?_
      refine Y.op (pc' := 12) (fun _ => X.aloadn rfl dX10_costNow_11) ?_
      refine Y.getR fd_X10_28 rfl dX10_costNow_12 (fun v1 => ?_)
      refine Y.op (pc' := 16) (fun _ => X.ic ki_0 dX10_costNow_15) ?_
      refine Y.aldR 102 (by decide) (by decide) dX10_costNow_16 (fun v2 => ?_)
      refine Y.op (pc' := 18) (fun _ => X.iloadn rfl dX10_costNow_17) ?_
      refine Y.aldI dX10_costNow_18 (fun v3 => ?_)
      refine Y.op (pc' := 20) (fun _ => X.ic ki_m1 dX10_costNow_19) ?_
      refine Y.cmpeq 43 (by decide) dX10_costNow_20 ?_ ?_
      · refine Y.op (pc' := 44) (fun _ => X.ic ki_0 dX10_costNow_43) ?_
        exact Y.fg (y_X10_costNow_J44 ih hkE52 x0 x2 x1 (0 : Int32) h) (And.intro rfl (And.intro rfl trivial))
      · refine Y.op (pc' := 24) (fun _ => X.aloadn rfl dX10_costNow_23) ?_
        refine Y.getR fd_X10_36 rfl dX10_costNow_24 (fun v4 => ?_)
        refine Y.op (pc' := 28) (fun _ => X.ic ki_0 dX10_costNow_27) ?_
        refine Y.aldR 103 (by decide) (by decide) dX10_costNow_28 (fun v5 => ?_)
        refine Y.op (pc' := 30) (fun _ => X.iloadn rfl dX10_costNow_29) ?_
        refine Y.aldR 102 (by decide) (by decide) dX10_costNow_30 (fun v6 => ?_)
        refine Y.op (pc' := 32) (fun _ => X.aloadn rfl dX10_costNow_31) ?_
        refine Y.getR fd_X10_28 rfl dX10_costNow_32 (fun v7 => ?_)
        refine Y.op (pc' := 36) (fun _ => X.ic ki_0 dX10_costNow_35) ?_
        refine Y.aldR 102 (by decide) (by decide) dX10_costNow_36 (fun v8 => ?_)
        refine Y.op (pc' := 38) (fun _ => X.iloadn rfl dX10_costNow_37) ?_
        refine Y.aldI dX10_costNow_38 (fun v9 => ?_)
        refine Y.aldI dX10_costNow_39 (fun v10 => ?_)
        refine Y.op (pc' := 44) (fun _ => X.goto 44 (by decide) dX10_costNow_40) ?_
        exact Y.fg (y_X10_costNow_J44 ih hkE52 x0 x2 x1 v10 h) (And.intro rfl (And.intro rfl trivial))
def f_X10_costNow (a0 : Nat) (h : xH) : Option (Int32 × xH) :=
  f_X10_costNow_L4 (f_X10_costNow_J52) 5000 a0 (0 : Int32) (0 : Int32) h
theorem y_X10_costNow {g : xG} {h0 : xH} {cl : Bool} (a0 : Nat) (h : xH) : Y g DX10_costNow h0 cl iI (f_X10_costNow a0 h) 0 [some (.ref a0), none, none] [] h := by
  unfold f_X10_costNow
  refine Y.op (pc' := 1) (fun _ => X.ic ki_0 dX10_costNow_0) ?_
  refine Y.op (pc' := 2) (loc' := [some (.ref a0), some (.int (0 : Int32)), none]) (fun _ => X.istoren (Nat.le_of_ble_eq_true rfl) rfl dX10_costNow_1) ?_
  refine Y.op (pc' := 3) (fun _ => X.ic ki_0 dX10_costNow_2) ?_
  refine Y.op (pc' := 4) (loc' := [some (.ref a0), some (.int (0 : Int32)), some (.int (0 : Int32))]) (fun _ => X.istoren (Nat.le_of_ble_eq_true rfl) rfl dX10_costNow_3) ?_
  exact y_X10_costNow_L4 (y_X10_costNow_J52) 5000 a0 (0 : Int32) (0 : Int32) h
theorem m_X10_costNow {g : xG} (a0 : Nat) (h : xH) (cl : Bool) (r : Int32 × xH) (e : f_X10_costNow a0 h = some r) : XM g DX10_costNow [.ref a0] h cl (iI r) := YM.of rfl rfl (Nat.le_of_ble_eq_true rfl) (y_X10_costNow a0 h) e
def f_X10_told_J131 (x0 : Nat) (x1 : Int32) (h : xH) : Option (Int32 × xH) :=
  (vc h 10 x0 (f_X10_freeOf x0 (x1 - (7 : Int32)) h)).bind fun r1 =>
  some (r1.1, r1.2)
theorem y_X10_told_J131 {g : xG} {h0 : xH} {cl : Bool} (x0 : Nat) (x1 : Int32) (h : xH) : Y g DX10_told h0 cl iI (f_X10_told_J131 x0 x1 h) 131 [some (.ref x0), some (.int x1)] [] h := by
  unfold f_X10_told_J131
  refine Y.op (pc' := 132) (fun _ => X.aloadn rfl dX10_told_131) ?_
  refine Y.op (pc' := 133) (fun _ => X.iloadn rfl dX10_told_132) ?_
  refine Y.op (pc' := 135) (fun _ => X.bp kb_7 dX10_told_133) ?_
  refine Y.op (pc' := 136) (fun _ => X.isub dX10_told_135) ?_
  refine Y.callVi (As := [.int (x1 - (7 : Int32))]) lk_X10_276 rfl cal_X10_freeOf vir_X10_freeOf (Nat.le_of_ble_eq_true rfl) (Nat.le_of_ble_eq_true rfl) rfl rfl rfl (Nat.le_of_ble_eq_true rfl) dX10_told_136 (fun _ e => m_X10_freeOf x0 (x1 - (7 : Int32)) h _ _ e) (fun r1 => ?_)
  exact Y.ireturn rfl dX10_told_139
def f_X10_told_J120 (x0 : Nat) (x1 : Int32) (h : xH) : Option (Int32 × xH) :=
  (gR h 10 x0 9).bind fun v1 =>
  (aR 102 h v1 (0 : Int32)).bind fun v2 =>
  (aI h v2 (x1 - (2 : Int32))).bind fun v3 =>
  some (v3, h)
theorem y_X10_told_J120 {g : xG} {h0 : xH} {cl : Bool} (x0 : Nat) (x1 : Int32) (h : xH) : Y g DX10_told h0 cl iI (f_X10_told_J120 x0 x1 h) 120 [some (.ref x0), some (.int x1)] [] h := by
  unfold f_X10_told_J120
  refine Y.op (pc' := 121) (fun _ => X.aloadn rfl dX10_told_120) ?_
  refine Y.getR fd_X10_22 rfl dX10_told_121 (fun v1 => ?_)
  refine Y.op (pc' := 125) (fun _ => X.ic ki_0 dX10_told_124) ?_
  refine Y.aldR 102 (by decide) (by decide) dX10_told_125 (fun v2 => ?_)
  refine Y.op (pc' := 127) (fun _ => X.iloadn rfl dX10_told_126) ?_
  refine Y.op (pc' := 128) (fun _ => X.ic ki_2 dX10_told_127) ?_
  refine Y.op (pc' := 129) (fun _ => X.isub dX10_told_128) ?_
  refine Y.aldI dX10_told_129 (fun v3 => ?_)
  exact Y.ireturn rfl dX10_told_130
def f_X10_told_J92 (x0 : Nat) (x1 : Int32) (h : xH) : Option (Int32 × xH) :=
  (gR h 10 x0 9).bind fun v1 =>
  (aR 102 h v1 (0 : Int32)).bind fun v2 =>
  (aI h v2 x1).bind fun v3 =>
  some (v3, h)
theorem y_X10_told_J92 {g : xG} {h0 : xH} {cl : Bool} (x0 : Nat) (x1 : Int32) (h : xH) : Y g DX10_told h0 cl iI (f_X10_told_J92 x0 x1 h) 92 [some (.ref x0), some (.int x1)] [] h := by
  unfold f_X10_told_J92
  refine Y.op (pc' := 93) (fun _ => X.aloadn rfl dX10_told_92) ?_
  refine Y.getR fd_X10_22 rfl dX10_told_93 (fun v1 => ?_)
  refine Y.op (pc' := 97) (fun _ => X.ic ki_0 dX10_told_96) ?_
  refine Y.aldR 102 (by decide) (by decide) dX10_told_97 (fun v2 => ?_)
  refine Y.op (pc' := 99) (fun _ => X.iloadn rfl dX10_told_98) ?_
  refine Y.aldI dX10_told_99 (fun v3 => ?_)
  exact Y.ireturn rfl dX10_told_100
def f_X10_told_J21 (x0 : Nat) (x1 : Int32) (s0 : Nat) (s1 : Int32) (h : xH) : Option (Int32 × xH) :=
  (vc h 10 s0 (f_X10_bad s0 s1 (1 : Int32) (1 : Int32) h)).bind fun r1 =>
  if r1.1 = (0 : Int32) then
    if x1.toInt < 0 ∨ 10 < x1.toInt then
      (gI r1.2 10 x0 2).bind fun v2 =>
      some (v2, r1.2)
    else tsf (fun k : Nat => match k with
      | 0 => f_X10_told_J92 x0 x1 r1.2
      | 1 => f_X10_told_J92 x0 x1 r1.2
      | 2 => (vc r1.2 10 x0 (f_X10_fitsInAll x0 r1.2)).bind fun r3 =>
        some (r3.1, r3.2)
      | 3 => (vc r1.2 10 x0 (f_X10_pairs x0 r1.2)).bind fun r4 =>
        some (r4.1, r4.2)
      | 4 => (gR r1.2 10 x0 9).bind fun v5 =>
        (aR 102 r1.2 v5 (0 : Int32)).bind fun v6 =>
        (aI r1.2 v6 (2 : Int32)).bind fun v7 =>
        some (v7, r1.2)
      | 5 => f_X10_told_J120 x0 x1 r1.2
      | 6 => f_X10_told_J120 x0 x1 r1.2
      | 7 => f_X10_told_J131 x0 x1 r1.2
      | 8 => f_X10_told_J131 x0 x1 r1.2
      | 9 => (vc r1.2 10 x0 (f_X10_costNow x0 r1.2)).bind fun r8 =>
        some (r8.1, r8.2)
      | 10 => (gI r1.2 10 x0 14).bind fun v9 =>
        some (v9, r1.2)
      | _ => none) (x1.toInt - 0).toNat
  else
    some ((0 : Int32), r1.2)
theorem y_X10_told_J21 {g : xG} {h0 : xH} {cl : Bool} (x0 : Nat) (x1 : Int32) (s0 : Nat) (s1 : Int32) (h : xH) : Y g DX10_told h0 cl iI (f_X10_told_J21 x0 x1 s0 s1 h) 21 [some (.ref x0), some (.int x1)] [.int s1, .ref s0] h := by
  unfold f_X10_told_J21
  refine Y.op (pc' := 22) (fun _ => X.ic ki_1 dX10_told_21) ?_
  refine Y.op (pc' := 23) (fun _ => X.ic ki_1 dX10_told_22) ?_
  refine Y.callVi (As := [.int s1, .int (1 : Int32), .int (1 : Int32)]) lk_X10_217 rfl cal_X10_bad vir_X10_bad (Nat.le_of_ble_eq_true rfl) (Nat.le_of_ble_eq_true rfl) rfl rfl rfl (Nat.le_of_ble_eq_true rfl) dX10_told_23 (fun _ e => m_X10_bad s0 s1 (1 : Int32) (1 : Int32) h _ _ e) (fun r1 => ?_)
  refine Y.ifeq 31 (by decide) dX10_told_26 ?_ ?_
  · refine Y.op (pc' := 32) (fun _ => X.iloadn rfl dX10_told_31) ?_
    refine Y.tswf (dt := 150) (by decide) dX10_told_32 rfl ?_ (fun k hk => ?_)
    · refine Y.op (pc' := 151) (fun _ => X.aloadn rfl dX10_told_150) ?_
      refine Y.getI fd_X10_85 rfl dX10_told_151 (fun v2 => ?_)
      exact Y.ireturn rfl dX10_told_154
    · match k, hk with
      | 0, _ =>
        refine ⟨92, _, rfl, by decide, ?_⟩
        exact y_X10_told_J92 x0 x1 r1.2
      | 1, _ =>
        refine ⟨92, _, rfl, by decide, ?_⟩
        exact y_X10_told_J92 x0 x1 r1.2
      | 2, _ =>
        refine ⟨101, _, rfl, by decide, ?_⟩
        refine Y.op (pc' := 102) (fun _ => X.aloadn rfl dX10_told_101) ?_
        refine Y.callVi (As := []) lk_X10_273 rfl cal_X10_fitsInAll vir_X10_fitsInAll (Nat.le_of_ble_eq_true rfl) (Nat.le_of_ble_eq_true rfl) rfl rfl rfl (Nat.le_of_ble_eq_true rfl) dX10_told_102 (fun _ e => m_X10_fitsInAll x0 r1.2 _ _ e) (fun r3 => ?_)
        exact Y.ireturn rfl dX10_told_105
      | 3, _ =>
        refine ⟨106, _, rfl, by decide, ?_⟩
        refine Y.op (pc' := 107) (fun _ => X.aloadn rfl dX10_told_106) ?_
        refine Y.callVi (As := []) lk_X10_237 rfl cal_X10_pairs vir_X10_pairs (Nat.le_of_ble_eq_true rfl) (Nat.le_of_ble_eq_true rfl) rfl rfl rfl (Nat.le_of_ble_eq_true rfl) dX10_told_107 (fun _ e => m_X10_pairs x0 r1.2 _ _ e) (fun r4 => ?_)
        exact Y.ireturn rfl dX10_told_110
      | 4, _ =>
        refine ⟨111, _, rfl, by decide, ?_⟩
        refine Y.op (pc' := 112) (fun _ => X.aloadn rfl dX10_told_111) ?_
        refine Y.getR fd_X10_22 rfl dX10_told_112 (fun v5 => ?_)
        refine Y.op (pc' := 116) (fun _ => X.ic ki_0 dX10_told_115) ?_
        refine Y.aldR 102 (by decide) (by decide) dX10_told_116 (fun v6 => ?_)
        refine Y.op (pc' := 118) (fun _ => X.ic ki_2 dX10_told_117) ?_
        refine Y.aldI dX10_told_118 (fun v7 => ?_)
        exact Y.ireturn rfl dX10_told_119
      | 5, _ =>
        refine ⟨120, _, rfl, by decide, ?_⟩
        exact y_X10_told_J120 x0 x1 r1.2
      | 6, _ =>
        refine ⟨120, _, rfl, by decide, ?_⟩
        exact y_X10_told_J120 x0 x1 r1.2
      | 7, _ =>
        refine ⟨131, _, rfl, by decide, ?_⟩
        exact y_X10_told_J131 x0 x1 r1.2
      | 8, _ =>
        refine ⟨131, _, rfl, by decide, ?_⟩
        exact y_X10_told_J131 x0 x1 r1.2
      | 9, _ =>
        refine ⟨140, _, rfl, by decide, ?_⟩
        refine Y.op (pc' := 141) (fun _ => X.aloadn rfl dX10_told_140) ?_
        refine Y.callVi (As := []) lk_X10_279 rfl cal_X10_costNow vir_X10_costNow (Nat.le_of_ble_eq_true rfl) (Nat.le_of_ble_eq_true rfl) rfl rfl rfl (Nat.le_of_ble_eq_true rfl) dX10_told_141 (fun _ e => m_X10_costNow x0 r1.2 _ _ e) (fun r8 => ?_)
        exact Y.ireturn rfl dX10_told_144
      | 10, _ =>
        refine ⟨145, _, rfl, by decide, ?_⟩
        refine Y.op (pc' := 146) (fun _ => X.aloadn rfl dX10_told_145) ?_
        refine Y.getI fd_X10_231 rfl dX10_told_146 (fun v9 => ?_)
        exact Y.ireturn rfl dX10_told_149
      | k + 11, hk => exact absurd hk (Nat.not_lt.mpr (Nat.le_add_left 11 k))
  · refine Y.op (pc' := 30) (fun _ => X.ic ki_0 dX10_told_29) ?_
    exact Y.ireturn rfl dX10_told_30
def f_X10_told (a0 : Nat) (p1 : Int32) (h : xH) : Option (Int32 × xH) :=
  (pI h 10 a0 0 (0 : Int32)).bind fun h1 =>
  (f_X10_in p1 (0 : Int32) (11 : Int32) h1).bind fun r2 =>
  if r2.1 = (0 : Int32) then
    f_X10_told_J21 a0 p1 a0 (1 : Int32) r2.2
  else
    f_X10_told_J21 a0 p1 a0 (0 : Int32) r2.2
theorem y_X10_told {g : xG} {h0 : xH} {cl : Bool} (a0 : Nat) (p1 : Int32) (h : xH) : Y g DX10_told h0 cl iI (f_X10_told a0 p1 h) 0 [some (.ref a0), some (.int p1)] [] h := by
  unfold f_X10_told
  refine Y.op (pc' := 1) (fun _ => X.aloadn rfl dX10_told_0) ?_
  refine Y.op (pc' := 2) (fun _ => X.ic ki_0 dX10_told_1) ?_
  refine Y.putI fd_X10_82 rfl dX10_told_2 (fun h1 => ?_)
  refine Y.op (pc' := 6) (fun _ => X.aloadn rfl dX10_told_5) ?_
  refine Y.op (pc' := 7) (fun _ => X.iloadn rfl dX10_told_6) ?_
  refine Y.op (pc' := 8) (fun _ => X.ic ki_0 dX10_told_7) ?_
  refine Y.op (pc' := 10) (fun _ => X.bp kb_11 dX10_told_8) ?_
  refine Y.callSi (As := [.int p1, .int (0 : Int32), .int (11 : Int32)]) lk_X10_127 rfl cal_X10_in sta_X10_in (Nat.le_of_ble_eq_true rfl) rfl rfl (Nat.le_of_ble_eq_true rfl) dX10_told_10 (fun _ e => m_X10_in p1 (0 : Int32) (11 : Int32) h1 _ _ e) (fun r2 => ?_)
  refine Y.ifne 20 (by decide) dX10_told_13 ?_ ?_
  · refine Y.op (pc' := 21) (fun _ => X.ic ki_0 dX10_told_20) ?_
    exact y_X10_told_J21 a0 p1 a0 (0 : Int32) r2.2
  · refine Y.op (pc' := 17) (fun _ => X.ic ki_1 dX10_told_16) ?_
    refine Y.op (pc' := 21) (fun _ => X.goto 21 (by decide) dX10_told_17) ?_
    exact y_X10_told_J21 a0 p1 a0 (1 : Int32) r2.2
theorem m_X10_told {g : xG} (a0 : Nat) (p1 : Int32) (h : xH) (cl : Bool) (r : Int32 × xH) (e : f_X10_told a0 p1 h = some r) : XM g DX10_told [.ref a0, .int p1] h cl (iI r) := YM.of rfl rfl (Nat.le_of_ble_eq_true rfl) (y_X10_told a0 p1 h) e
def f_X10_isOne_J32 (s0 : Int32) (h : xH) : Option (Int32 × xH) :=
  if s0 = 0 ∨ s0 = 1 then some (s0, h) else none
theorem y_X10_isOne_J32 {g : xG} {h0 : xH} {cl : Bool} (s0 : Int32) (h : xH) : Y g DX10_isOne h0 cl iI (f_X10_isOne_J32 s0 h) 32 [none, none, none] [.int s0] h := by
  unfold f_X10_isOne_J32
  exact Y.zreturn rfl dX10_isOne_32
def f_X10_isOne_J31 (h : xH) : Option (Int32 × xH) :=
  f_X10_isOne_J32 (0 : Int32) h
theorem y_X10_isOne_J31 {g : xG} {h0 : xH} {cl : Bool} (h : xH) : Y g DX10_isOne h0 cl iI (f_X10_isOne_J31 h) 31 [none, none, none] [] h := by
  unfold f_X10_isOne_J31
  refine Y.op (pc' := 32) (fun _ => X.ic ki_0 dX10_isOne_31) ?_
  exact y_X10_isOne_J32 (0 : Int32) h
def f_X10_isOne (a0 : Nat) (p1 : Int32) (p2 : Int32) (h : xH) : Option (Int32 × xH) :=
  (f_X10_in p1 (0 : Int32) (1 : Int32) h).bind fun r1 =>
  if r1.1 = (0 : Int32) then
    f_X10_isOne_J31 r1.2
  else
    (gR r1.2 10 a0 9).bind fun v2 =>
    (aR 102 r1.2 v2 (0 : Int32)).bind fun v3 =>
    (aI r1.2 v3 p1).bind fun v4 =>
    (f_X10_in p2 (0 : Int32) (v4 - (1 : Int32)) r1.2).bind fun r5 =>
    if r5.1 = (0 : Int32) then
      f_X10_isOne_J31 r5.2
    else
      f_X10_isOne_J32 (1 : Int32) r5.2
theorem y_X10_isOne {g : xG} {h0 : xH} {cl : Bool} (a0 : Nat) (p1 : Int32) (p2 : Int32) (h : xH) : Y g DX10_isOne h0 cl iI (f_X10_isOne a0 p1 p2 h) 0 [some (.ref a0), some (.int p1), some (.int p2)] [] h := by
  unfold f_X10_isOne
  refine Y.op (pc' := 1) (fun _ => X.iloadn rfl dX10_isOne_0) ?_
  refine Y.op (pc' := 2) (fun _ => X.ic ki_0 dX10_isOne_1) ?_
  refine Y.op (pc' := 3) (fun _ => X.ic ki_1 dX10_isOne_2) ?_
  refine Y.callSi (As := [.int p1, .int (0 : Int32), .int (1 : Int32)]) lk_X10_127 rfl cal_X10_in sta_X10_in (Nat.le_of_ble_eq_true rfl) rfl rfl (Nat.le_of_ble_eq_true rfl) dX10_isOne_3 (fun _ e => m_X10_in p1 (0 : Int32) (1 : Int32) h _ _ e) (fun r1 => ?_)
  refine Y.ifeq 31 (by decide) dX10_isOne_6 ?_ ?_
  · exact Y.fg (y_X10_isOne_J31 r1.2) trivial
  · refine Y.op (pc' := 10) (fun _ => X.iloadn rfl dX10_isOne_9) ?_
    refine Y.op (pc' := 11) (fun _ => X.ic ki_0 dX10_isOne_10) ?_
    refine Y.op (pc' := 12) (fun _ => X.aloadn rfl dX10_isOne_11) ?_
    refine Y.getR fd_X10_22 rfl dX10_isOne_12 (fun v2 => ?_)
    refine Y.op (pc' := 16) (fun _ => X.ic ki_0 dX10_isOne_15) ?_
    refine Y.aldR 102 (by decide) (by decide) dX10_isOne_16 (fun v3 => ?_)
    refine Y.op (pc' := 18) (fun _ => X.iloadn rfl dX10_isOne_17) ?_
    refine Y.aldI dX10_isOne_18 (fun v4 => ?_)
    refine Y.op (pc' := 20) (fun _ => X.ic ki_1 dX10_isOne_19) ?_
    refine Y.op (pc' := 21) (fun _ => X.isub dX10_isOne_20) ?_
    refine Y.callSi (As := [.int p2, .int (0 : Int32), .int (v4 - (1 : Int32))]) lk_X10_127 rfl cal_X10_in sta_X10_in (Nat.le_of_ble_eq_true rfl) rfl rfl (Nat.le_of_ble_eq_true rfl) dX10_isOne_21 (fun _ e => m_X10_in p2 (0 : Int32) (v4 - (1 : Int32)) r1.2 _ _ e) (fun r5 => ?_)
    refine Y.ifeq 31 (by decide) dX10_isOne_24 ?_ ?_
    · exact Y.fg (y_X10_isOne_J31 r5.2) trivial
    · refine Y.op (pc' := 28) (fun _ => X.ic ki_1 dX10_isOne_27) ?_
      refine Y.op (pc' := 32) (fun _ => X.goto 32 (by decide) dX10_isOne_28) ?_
      exact Y.fg (y_X10_isOne_J32 (1 : Int32) r5.2) trivial
theorem m_X10_isOne {g : xG} (a0 : Nat) (p1 : Int32) (p2 : Int32) (h : xH) (cl : Bool) (r : Int32 × xH) (e : f_X10_isOne a0 p1 p2 h = some r) : XM g DX10_isOne [.ref a0, .int p1, .int p2] h cl (iI r) := YM.of rfl rfl (Nat.le_of_ble_eq_true rfl) (y_X10_isOne a0 p1 p2 h) e
def f_X10_partner_J20 (x0 : Nat) (x1 : Int32) (x2 : Int32) (s0 : Nat) (s1 : Int32) (h : xH) : Option (Int32 × xH) :=
  (vc h 10 s0 (f_X10_bad s0 s1 (1 : Int32) (0 : Int32) h)).bind fun r1 =>
  if r1.1 = (0 : Int32) then
    (vc r1.2 10 x0 (f_X10_partnerOf x0 x1 x2 r1.2)).bind fun r2 =>
    some (r2.1, r2.2)
  else
    some ((0 : Int32), r1.2)
theorem y_X10_partner_J20 {g : xG} {h0 : xH} {cl : Bool} (x0 : Nat) (x1 : Int32) (x2 : Int32) (s0 : Nat) (s1 : Int32) (h : xH) : Y g DX10_partner h0 cl iI (f_X10_partner_J20 x0 x1 x2 s0 s1 h) 20 [some (.ref x0), some (.int x1), some (.int x2)] [.int s1, .ref s0] h := by
  unfold f_X10_partner_J20
  refine Y.op (pc' := 21) (fun _ => X.ic ki_1 dX10_partner_20) ?_
  refine Y.op (pc' := 22) (fun _ => X.ic ki_0 dX10_partner_21) ?_
  refine Y.callVi (As := [.int s1, .int (1 : Int32), .int (0 : Int32)]) lk_X10_217 rfl cal_X10_bad vir_X10_bad (Nat.le_of_ble_eq_true rfl) (Nat.le_of_ble_eq_true rfl) rfl rfl rfl (Nat.le_of_ble_eq_true rfl) dX10_partner_22 (fun _ e => m_X10_bad s0 s1 (1 : Int32) (0 : Int32) h _ _ e) (fun r1 => ?_)
  refine Y.ifeq 30 (by decide) dX10_partner_25 ?_ ?_
  · refine Y.op (pc' := 31) (fun _ => X.aloadn rfl dX10_partner_30) ?_
    refine Y.op (pc' := 32) (fun _ => X.iloadn rfl dX10_partner_31) ?_
    refine Y.op (pc' := 33) (fun _ => X.iloadn rfl dX10_partner_32) ?_
    refine Y.callVi (As := [.int x1, .int x2]) lk_X10_243 rfl cal_X10_partnerOf vir_X10_partnerOf (Nat.le_of_ble_eq_true rfl) (Nat.le_of_ble_eq_true rfl) rfl rfl rfl (Nat.le_of_ble_eq_true rfl) dX10_partner_33 (fun _ e => m_X10_partnerOf x0 x1 x2 r1.2 _ _ e) (fun r2 => ?_)
    exact Y.ireturn rfl dX10_partner_36
  · refine Y.op (pc' := 29) (fun _ => X.ic ki_0 dX10_partner_28) ?_
    exact Y.ireturn rfl dX10_partner_29
def f_X10_partner (a0 : Nat) (p1 : Int32) (p2 : Int32) (h : xH) : Option (Int32 × xH) :=
  (pI h 10 a0 0 (0 : Int32)).bind fun h1 =>
  (vc h1 10 a0 (f_X10_isOne a0 p1 p2 h1)).bind fun r2 =>
  if r2.1 = (0 : Int32) then
    f_X10_partner_J20 a0 p1 p2 a0 (1 : Int32) r2.2
  else
    f_X10_partner_J20 a0 p1 p2 a0 (0 : Int32) r2.2
theorem y_X10_partner {g : xG} {h0 : xH} {cl : Bool} (a0 : Nat) (p1 : Int32) (p2 : Int32) (h : xH) : Y g DX10_partner h0 cl iI (f_X10_partner a0 p1 p2 h) 0 [some (.ref a0), some (.int p1), some (.int p2)] [] h := by
  unfold f_X10_partner
  refine Y.op (pc' := 1) (fun _ => X.aloadn rfl dX10_partner_0) ?_
  refine Y.op (pc' := 2) (fun _ => X.ic ki_0 dX10_partner_1) ?_
  refine Y.putI fd_X10_82 rfl dX10_partner_2 (fun h1 => ?_)
  refine Y.op (pc' := 6) (fun _ => X.aloadn rfl dX10_partner_5) ?_
  refine Y.op (pc' := 7) (fun _ => X.aloadn rfl dX10_partner_6) ?_
  refine Y.op (pc' := 8) (fun _ => X.iloadn rfl dX10_partner_7) ?_
  refine Y.op (pc' := 9) (fun _ => X.iloadn rfl dX10_partner_8) ?_
  refine Y.callVi (As := [.int p1, .int p2]) lk_X10_282 rfl cal_X10_isOne vir_X10_isOne (Nat.le_of_ble_eq_true rfl) (Nat.le_of_ble_eq_true rfl) rfl rfl rfl (Nat.le_of_ble_eq_true rfl) dX10_partner_9 (fun _ e => m_X10_isOne a0 p1 p2 h1 _ _ e) (fun r2 => ?_)
  refine Y.ifne 19 (by decide) dX10_partner_12 ?_ ?_
  · refine Y.op (pc' := 20) (fun _ => X.ic ki_0 dX10_partner_19) ?_
    exact y_X10_partner_J20 a0 p1 p2 a0 (0 : Int32) r2.2
  · refine Y.op (pc' := 16) (fun _ => X.ic ki_1 dX10_partner_15) ?_
    refine Y.op (pc' := 20) (fun _ => X.goto 20 (by decide) dX10_partner_16) ?_
    exact y_X10_partner_J20 a0 p1 p2 a0 (1 : Int32) r2.2
theorem m_X10_partner {g : xG} (a0 : Nat) (p1 : Int32) (p2 : Int32) (h : xH) (cl : Bool) (r : Int32 × xH) (e : f_X10_partner a0 p1 p2 h = some r) : XM g DX10_partner [.ref a0, .int p1, .int p2] h cl (iI r) := YM.of rfl rfl (Nat.le_of_ble_eq_true rfl) (y_X10_partner a0 p1 p2 h) e
def f_X10_isFit (a0 : Nat) (p1 : Int32) (p2 : Int32) (h : xH) : Option (Int32 × xH) :=
  (gR h 10 a0 10).bind fun v1 =>
  (aR 102 h v1 (0 : Int32)).bind fun v2 =>
  (aI h v2 p1).bind fun v3 =>
  (f_X10_has v3 p2 h).bind fun r4 =>
  if r4.1 = 0 ∨ r4.1 = 1 then some (r4.1, r4.2) else none
theorem y_X10_isFit {g : xG} {h0 : xH} {cl : Bool} (a0 : Nat) (p1 : Int32) (p2 : Int32) (h : xH) : Y g DX10_isFit h0 cl iI (f_X10_isFit a0 p1 p2 h) 0 [some (.ref a0), some (.int p1), some (.int p2)] [] h := by
  unfold f_X10_isFit
  refine Y.op (pc' := 1) (fun _ => X.aloadn rfl dX10_isFit_0) ?_
  refine Y.getR fd_X10_25 rfl dX10_isFit_1 (fun v1 => ?_)
  refine Y.op (pc' := 5) (fun _ => X.ic ki_0 dX10_isFit_4) ?_
  refine Y.aldR 102 (by decide) (by decide) dX10_isFit_5 (fun v2 => ?_)
  refine Y.op (pc' := 7) (fun _ => X.iloadn rfl dX10_isFit_6) ?_
  refine Y.aldI dX10_isFit_7 (fun v3 => ?_)
  refine Y.op (pc' := 9) (fun _ => X.iloadn rfl dX10_isFit_8) ?_
  refine Y.callSi (As := [.int v3, .int p2]) lk_X10_182 rfl cal_X10_has sta_X10_has (Nat.le_of_ble_eq_true rfl) rfl rfl (Nat.le_of_ble_eq_true rfl) dX10_isFit_9 (fun _ e => m_X10_has v3 p2 h _ _ e) (fun r4 => ?_)
  exact Y.zreturn rfl dX10_isFit_12
theorem m_X10_isFit {g : xG} (a0 : Nat) (p1 : Int32) (p2 : Int32) (h : xH) (cl : Bool) (r : Int32 × xH) (e : f_X10_isFit a0 p1 p2 h = some r) : XM g DX10_isFit [.ref a0, .int p1, .int p2] h cl (iI r) := YM.of rfl rfl (Nat.le_of_ble_eq_true rfl) (y_X10_isFit a0 p1 p2 h) e
def f_X10_cost_J62 (s0 : Int32) (h : xH) : Option (Int32 × xH) :=
  some (s0, h)
theorem y_X10_cost_J62 {g : xG} {h0 : xH} {cl : Bool} (s0 : Int32) (h : xH) : Y g DX10_cost h0 cl iI (f_X10_cost_J62 s0 h) 62 [none, none, none] [.int s0] h := by
  unfold f_X10_cost_J62
  exact Y.ireturn rfl dX10_cost_62
def f_X10_cost_J29 (x0 : Nat) (x1 : Int32) (x2 : Int32) (s0 : Nat) (s1 : Int32) (h : xH) : Option (Int32 × xH) :=
  (vc h 10 s0 (f_X10_bad s0 s1 (1 : Int32) (0 : Int32) h)).bind fun r1 =>
  if r1.1 = (0 : Int32) then
    (vc r1.2 10 x0 (f_X10_isFit x0 x1 x2 r1.2)).bind fun r2 =>
    if r2.1 = (0 : Int32) then
      f_X10_cost_J62 (-1 : Int32) r2.2
    else
      (gR r2.2 10 x0 13).bind fun v3 =>
      (aR 103 r2.2 v3 (0 : Int32)).bind fun v4 =>
      (aR 102 r2.2 v4 x1).bind fun v5 =>
      (aI r2.2 v5 x2).bind fun v6 =>
      f_X10_cost_J62 v6 r2.2
  else
    some ((0 : Int32), r1.2)
theorem y_X10_cost_J29 {g : xG} {h0 : xH} {cl : Bool} (x0 : Nat) (x1 : Int32) (x2 : Int32) (s0 : Nat) (s1 : Int32) (h : xH) : Y g DX10_cost h0 cl iI (f_X10_cost_J29 x0 x1 x2 s0 s1 h) 29 [some (.ref x0), some (.int x1), some (.int x2)] [.int s1, .ref s0] h := by
  unfold f_X10_cost_J29
  refine Y.op (pc' := 30) (fun _ => X.ic ki_1 dX10_cost_29) ?_
  refine Y.op (pc' := 31) (fun _ => X.ic ki_0 dX10_cost_30) ?_
  refine Y.callVi (As := [.int s1, .int (1 : Int32), .int (0 : Int32)]) lk_X10_217 rfl cal_X10_bad vir_X10_bad (Nat.le_of_ble_eq_true rfl) (Nat.le_of_ble_eq_true rfl) rfl rfl rfl (Nat.le_of_ble_eq_true rfl) dX10_cost_31 (fun _ e => m_X10_bad s0 s1 (1 : Int32) (0 : Int32) h _ _ e) (fun r1 => ?_)
  refine Y.ifeq 39 (by decide) dX10_cost_34 ?_ ?_
  · refine Y.op (pc' := 40) (fun _ => X.aloadn rfl dX10_cost_39) ?_
    refine Y.op (pc' := 41) (fun _ => X.iloadn rfl dX10_cost_40) ?_
    refine Y.op (pc' := 42) (fun _ => X.iloadn rfl dX10_cost_41) ?_
    refine Y.callVi (As := [.int x1, .int x2]) lk_X10_285 rfl cal_X10_isFit vir_X10_isFit (Nat.le_of_ble_eq_true rfl) (Nat.le_of_ble_eq_true rfl) rfl rfl rfl (Nat.le_of_ble_eq_true rfl) dX10_cost_42 (fun _ e => m_X10_isFit x0 x1 x2 r1.2 _ _ e) (fun r2 => ?_)
    refine Y.ifeq 61 (by decide) dX10_cost_45 ?_ ?_
    · refine Y.op (pc' := 62) (fun _ => X.ic ki_m1 dX10_cost_61) ?_
      exact Y.fg (y_X10_cost_J62 (-1 : Int32) r2.2) trivial
    · refine Y.op (pc' := 49) (fun _ => X.aloadn rfl dX10_cost_48) ?_
      refine Y.getR fd_X10_36 rfl dX10_cost_49 (fun v3 => ?_)
      refine Y.op (pc' := 53) (fun _ => X.ic ki_0 dX10_cost_52) ?_
      refine Y.aldR 103 (by decide) (by decide) dX10_cost_53 (fun v4 => ?_)
      refine Y.op (pc' := 55) (fun _ => X.iloadn rfl dX10_cost_54) ?_
      refine Y.aldR 102 (by decide) (by decide) dX10_cost_55 (fun v5 => ?_)
      refine Y.op (pc' := 57) (fun _ => X.iloadn rfl dX10_cost_56) ?_
      refine Y.aldI dX10_cost_57 (fun v6 => ?_)
      refine Y.op (pc' := 62) (fun _ => X.goto 62 (by decide) dX10_cost_58) ?_
      exact Y.fg (y_X10_cost_J62 v6 r2.2) trivial
  · refine Y.op (pc' := 38) (fun _ => X.ic ki_0 dX10_cost_37) ?_
    exact Y.ireturn rfl dX10_cost_38
def f_X10_cost_J24 (x0 : Nat) (x1 : Int32) (x2 : Int32) (s0 : Nat) (h : xH) : Option (Int32 × xH) :=
  f_X10_cost_J29 x0 x1 x2 s0 (1 : Int32) h
theorem y_X10_cost_J24 {g : xG} {h0 : xH} {cl : Bool} (x0 : Nat) (x1 : Int32) (x2 : Int32) (s0 : Nat) (h : xH) : Y g DX10_cost h0 cl iI (f_X10_cost_J24 x0 x1 x2 s0 h) 24 [some (.ref x0), some (.int x1), some (.int x2)] [.ref s0] h := by
  unfold f_X10_cost_J24
  refine Y.op (pc' := 25) (fun _ => X.ic ki_1 dX10_cost_24) ?_
  refine Y.op (pc' := 29) (fun _ => X.goto 29 (by decide) dX10_cost_25) ?_
  exact y_X10_cost_J29 x0 x1 x2 s0 (1 : Int32) h
def f_X10_cost (a0 : Nat) (p1 : Int32) (p2 : Int32) (h : xH) : Option (Int32 × xH) :=
  (pI h 10 a0 0 (0 : Int32)).bind fun h1 =>
  (vc h1 10 a0 (f_X10_isOne a0 (0 : Int32) p1 h1)).bind fun r2 =>
  if r2.1 = (0 : Int32) then
    f_X10_cost_J24 a0 p1 p2 a0 r2.2
  else
    (vc r2.2 10 a0 (f_X10_isOne a0 (1 : Int32) p2 r2.2)).bind fun r3 =>
    if r3.1 = (0 : Int32) then
      f_X10_cost_J24 a0 p1 p2 a0 r3.2
    else
      f_X10_cost_J29 a0 p1 p2 a0 (0 : Int32) r3.2
theorem y_X10_cost {g : xG} {h0 : xH} {cl : Bool} (a0 : Nat) (p1 : Int32) (p2 : Int32) (h : xH) : Y g DX10_cost h0 cl iI (f_X10_cost a0 p1 p2 h) 0 [some (.ref a0), some (.int p1), some (.int p2)] [] h := by
  unfold f_X10_cost
  refine Y.op (pc' := 1) (fun _ => X.aloadn rfl dX10_cost_0) ?_
  refine Y.op (pc' := 2) (fun _ => X.ic ki_0 dX10_cost_1) ?_
  refine Y.putI fd_X10_82 rfl dX10_cost_2 (fun h1 => ?_)
  refine Y.op (pc' := 6) (fun _ => X.aloadn rfl dX10_cost_5) ?_
  refine Y.op (pc' := 7) (fun _ => X.aloadn rfl dX10_cost_6) ?_
  refine Y.op (pc' := 8) (fun _ => X.ic ki_0 dX10_cost_7) ?_
  refine Y.op (pc' := 9) (fun _ => X.iloadn rfl dX10_cost_8) ?_
  refine Y.callVi (As := [.int (0 : Int32), .int p1]) lk_X10_282 rfl cal_X10_isOne vir_X10_isOne (Nat.le_of_ble_eq_true rfl) (Nat.le_of_ble_eq_true rfl) rfl rfl rfl (Nat.le_of_ble_eq_true rfl) dX10_cost_9 (fun _ e => m_X10_isOne a0 (0 : Int32) p1 h1 _ _ e) (fun r2 => ?_)
  refine Y.ifeq 24 (by decide) dX10_cost_12 ?_ ?_
  · exact y_X10_cost_J24 a0 p1 p2 a0 r2.2
  · refine Y.op (pc' := 16) (fun _ => X.aloadn rfl dX10_cost_15) ?_
    refine Y.op (pc' := 17) (fun _ => X.ic ki_1 dX10_cost_16) ?_
    refine Y.op (pc' := 18) (fun _ => X.iloadn rfl dX10_cost_17) ?_
    refine Y.callVi (As := [.int (1 : Int32), .int p2]) lk_X10_282 rfl cal_X10_isOne vir_X10_isOne (Nat.le_of_ble_eq_true rfl) (Nat.le_of_ble_eq_true rfl) rfl rfl rfl (Nat.le_of_ble_eq_true rfl) dX10_cost_18 (fun _ e => m_X10_isOne a0 (1 : Int32) p2 r2.2 _ _ e) (fun r3 => ?_)
    refine Y.ifne 28 (by decide) dX10_cost_21 ?_ ?_
    · refine Y.op (pc' := 29) (fun _ => X.ic ki_0 dX10_cost_28) ?_
      exact y_X10_cost_J29 a0 p1 p2 a0 (0 : Int32) r3.2
    · exact y_X10_cost_J24 a0 p1 p2 a0 r3.2
theorem m_X10_cost {g : xG} (a0 : Nat) (p1 : Int32) (p2 : Int32) (h : xH) (cl : Bool) (r : Int32 × xH) (e : f_X10_cost a0 p1 p2 h = some r) : XM g DX10_cost [.ref a0, .int p1, .int p2] h cl (iI r) := YM.of rfl rfl (Nat.le_of_ble_eq_true rfl) (y_X10_cost a0 p1 p2 h) e
def f_X10_fitsOf_J52 (x3 : Int32) (h : xH) : Option (Int32 × xH) :=
  some (x3, h)
theorem y_X10_fitsOf_J52 {g : xG} {h0 : xH} {cl : Bool} (x3 : Int32) (h : xH) : Y g DX10_fitsOf h0 cl iI (f_X10_fitsOf_J52 x3 h) 52 [none, none, none, some (.int x3), none] [] h := by
  unfold f_X10_fitsOf_J52
  refine Y.op (pc' := 53) (fun _ => X.iloadn rfl dX10_fitsOf_52) ?_
  exact Y.ireturn rfl dX10_fitsOf_53
def f_X10_fitsOf_J44 (kH : Nat → Int32 → Int32 → Int32 → xH → Option (Int32 × xH)) (kE52 : Int32 → xH → Option (Int32 × xH)) (x0 : Nat) (x2 : Int32) (x4 : Int32) (s0 : Int32) (s1 : Int32) (h : xH) : Option (Int32 × xH) :=
  lt ((s0 ||| s1)) fun v1 =>
  lt (x4 + (1 : Int32)) fun v2 =>
  kH x0 x2 v1 v2 h
theorem y_X10_fitsOf_J44 {g : xG} {h0 : xH} {cl : Bool} {kH : Nat → Int32 → Int32 → Int32 → xH → Option (Int32 × xH)} {kE52 : Int32 → xH → Option (Int32 × xH)} (hkH : ∀ (x0 : Nat) (x2 : Int32) (x3 : Int32) (x4 : Int32) (h : xH), Y g DX10_fitsOf h0 cl iI (kH x0 x2 x3 x4 h) 18 [some (.ref x0), none, some (.int x2), some (.int x3), some (.int x4)] [] h) (hkE52 : ∀ (x3 : Int32) (h : xH), Y g DX10_fitsOf h0 cl iI (kE52 x3 h) 52 [none, none, none, some (.int x3), none] [] h) (x0 : Nat) (x2 : Int32) (x4 : Int32) (s0 : Int32) (s1 : Int32) (h : xH) : Y g DX10_fitsOf h0 cl iI (f_X10_fitsOf_J44 kH kE52 x0 x2 x4 s0 s1 h) 44 [some (.ref x0), none, some (.int x2), none, some (.int x4)] [.int s1, .int s0] h := by
  unfold f_X10_fitsOf_J44
  refine Y.op (pc' := 45) (fun _ => X.ior dX10_fitsOf_44) ?_
  refine Y.top (fun v1 => ?_)
  refine Y.op (pc' := 46) (loc' := [some (.ref x0), none, some (.int x2), some (.int v1), some (.int x4)]) (fun _ => X.istoren (Nat.le_of_ble_eq_true rfl) rfl dX10_fitsOf_45) ?_
  refine Y.iinc (i := 4) (loc' := fun v2 => [some (.ref x0), none, some (.int x2), some (.int v1), some (.int v2)]) rfl (Nat.le_of_ble_eq_true rfl) ki_1 (fun _ => rfl) dX10_fitsOf_46 (fun v2 => ?_)
  refine Y.op (pc' := 18) (fun _ => X.goto 18 (by decide) dX10_fitsOf_49) ?_
  exact hkH x0 x2 v1 v2 h
def f_X10_fitsOf_L18 (kE52 : Int32 → xH → Option (Int32 × xH)) : Nat → Nat → Int32 → Int32 → Int32 → xH → Option (Int32 × xH)
  | 0 => fun _ _ _ _ _ => none
  | n + 1 => fun x0 x2 x3 x4 h =>
    if x4 ≥ (12 : Int32) then
      kE52 x3 h
    else
      (vc h 10 x0 (f_X10_isFit x0 x4 x2 h)).bind fun r1 =>
      if r1.1 = (0 : Int32) then
        f_X10_fitsOf_J44 (f_X10_fitsOf_L18 kE52 n) kE52 x0 x2 x4 x3 (0 : Int32) r1.2
      else
        f_X10_fitsOf_J44 (f_X10_fitsOf_L18 kE52 n) kE52 x0 x2 x4 x3 ((1 : Int32) <<< (x4 &&& 31)) r1.2
theorem y_X10_fitsOf_L18 {g : xG} {h0 : xH} {cl : Bool} {kE52 : Int32 → xH → Option (Int32 × xH)} (hkE52 : ∀ (x3 : Int32) (h : xH), Y g DX10_fitsOf h0 cl iI (kE52 x3 h) 52 [none, none, none, some (.int x3), none] [] h) : ∀ (n : Nat) (x0 : Nat) (x2 : Int32) (x3 : Int32) (x4 : Int32) (h : xH), Y g DX10_fitsOf h0 cl iI (f_X10_fitsOf_L18 kE52 n x0 x2 x3 x4 h) 18 [some (.ref x0), none, some (.int x2), some (.int x3), some (.int x4)] [] h := by
  intro n
  induction n with
  | zero => intro x0 x2 x3 x4 h; exact Y.nothing
  | succ n ih =>
    intro x0 x2 x3 x4 h
    unfold f_X10_fitsOf_L18
    refine Y.op (pc' := 20) (fun _ => X.iload rfl dX10_fitsOf_18) ?_
    refine Y.op (pc' := 22) (fun _ => X.bp kb_12 dX10_fitsOf_20) ?_
    refine Y.cmpge 52 (by decide) dX10_fitsOf_22 ?_ ?_
    · exact Y.fg (hkE52 x3 h) (And.intro rfl trivial)
    · refine Y.op (pc' := 26) (fun _ => X.iloadn rfl dX10_fitsOf_25) ?_
      refine Y.op (pc' := 27) (fun _ => X.aloadn rfl dX10_fitsOf_26) ?_
      refine Y.op (pc' := 29) (fun _ => X.iload rfl dX10_fitsOf_27) ?_
      refine Y.op (pc' := 30) (fun _ => X.iloadn rfl dX10_fitsOf_29) ?_
      refine Y.callVi (As := [.int x4, .int x2]) lk_X10_285 rfl cal_X10_isFit vir_X10_isFit (Nat.le_of_ble_eq_true rfl) (Nat.le_of_ble_eq_true rfl) rfl rfl rfl (Nat.le_of_ble_eq_true rfl) dX10_fitsOf_30 (fun _ e => m_X10_isFit x0 x4 x2 h _ _ e) (fun r1 => ?_)
      refine Y.ifeq 43 (by decide) dX10_fitsOf_33 ?_ ?_
      · refine Y.op (pc' := 44) (fun _ => X.ic ki_0 dX10_fitsOf_43) ?_
        exact Y.fg (y_X10_fitsOf_J44 ih hkE52 x0 x2 x4 x3 (0 : Int32) r1.2) (And.intro rfl (And.intro rfl (And.intro rfl trivial)))
      · refine Y.op (pc' := 37) (fun _ => X.ic ki_1 dX10_fitsOf_36) ?_
        refine Y.op (pc' := 39) (fun _ => X.iload rfl dX10_fitsOf_37) ?_
        refine Y.op (pc' := 40) (fun _ => X.ishl dX10_fitsOf_39) ?_
        refine Y.op (pc' := 44) (fun _ => X.goto 44 (by decide) dX10_fitsOf_40) ?_
        exact Y.fg (y_X10_fitsOf_J44 ih hkE52 x0 x2 x4 x3 ((1 : Int32) <<< (x4 &&& 31)) r1.2) (And.intro rfl (And.intro rfl (And.intro rfl trivial)))
def f_X10_fitsOf (a0 : Nat) (p1 : Int32) (p2 : Int32) (h : xH) : Option (Int32 × xH) :=
  if p1 = (0 : Int32) then
    (gR h 10 a0 10).bind fun v1 =>
    (aR 102 h v1 (0 : Int32)).bind fun v2 =>
    (aI h v2 p2).bind fun v3 =>
    some (v3, h)
  else
    f_X10_fitsOf_L18 (f_X10_fitsOf_J52) 5000 a0 p2 (0 : Int32) (0 : Int32) h
theorem y_X10_fitsOf {g : xG} {h0 : xH} {cl : Bool} (a0 : Nat) (p1 : Int32) (p2 : Int32) (h : xH) : Y g DX10_fitsOf h0 cl iI (f_X10_fitsOf a0 p1 p2 h) 0 [some (.ref a0), some (.int p1), some (.int p2), none, none] [] h := by
  unfold f_X10_fitsOf
  refine Y.op (pc' := 1) (fun _ => X.iloadn rfl dX10_fitsOf_0) ?_
  refine Y.ifne 13 (by decide) dX10_fitsOf_1 ?_ ?_
  · refine Y.op (pc' := 14) (fun _ => X.ic ki_0 dX10_fitsOf_13) ?_
    refine Y.op (pc' := 15) (loc' := [some (.ref a0), some (.int p1), some (.int p2), some (.int (0 : Int32)), none]) (fun _ => X.istoren (Nat.le_of_ble_eq_true rfl) rfl dX10_fitsOf_14) ?_
    refine Y.op (pc' := 16) (fun _ => X.ic ki_0 dX10_fitsOf_15) ?_
    refine Y.op (pc' := 18) (loc' := [some (.ref a0), some (.int p1), some (.int p2), some (.int (0 : Int32)), some (.int (0 : Int32))]) (fun _ => X.istore (Nat.le_of_ble_eq_true rfl) rfl dX10_fitsOf_16) ?_
    exact Y.fg (y_X10_fitsOf_L18 (y_X10_fitsOf_J52) 5000 a0 p2 (0 : Int32) (0 : Int32) h) (And.intro rfl (And.intro rfl (And.intro rfl (And.intro rfl trivial))))
  · refine Y.op (pc' := 5) (fun _ => X.aloadn rfl dX10_fitsOf_4) ?_
    refine Y.getR fd_X10_25 rfl dX10_fitsOf_5 (fun v1 => ?_)
    refine Y.op (pc' := 9) (fun _ => X.ic ki_0 dX10_fitsOf_8) ?_
    refine Y.aldR 102 (by decide) (by decide) dX10_fitsOf_9 (fun v2 => ?_)
    refine Y.op (pc' := 11) (fun _ => X.iloadn rfl dX10_fitsOf_10) ?_
    refine Y.aldI dX10_fitsOf_11 (fun v3 => ?_)
    exact Y.ireturn rfl dX10_fitsOf_12
theorem m_X10_fitsOf {g : xG} (a0 : Nat) (p1 : Int32) (p2 : Int32) (h : xH) (cl : Bool) (r : Int32 × xH) (e : f_X10_fitsOf a0 p1 p2 h = some r) : XM g DX10_fitsOf [.ref a0, .int p1, .int p2] h cl (iI r) := YM.of rfl rfl (Nat.le_of_ble_eq_true rfl) (y_X10_fitsOf a0 p1 p2 h) e
def f_X10_fits_J20 (x0 : Nat) (x1 : Int32) (x2 : Int32) (s0 : Nat) (s1 : Int32) (h : xH) : Option (Int32 × xH) :=
  (vc h 10 s0 (f_X10_bad s0 s1 (1 : Int32) (0 : Int32) h)).bind fun r1 =>
  if r1.1 = (0 : Int32) then
    (vc r1.2 10 x0 (f_X10_fitsOf x0 x1 x2 r1.2)).bind fun r2 =>
    some (r2.1, r2.2)
  else
    some ((0 : Int32), r1.2)
theorem y_X10_fits_J20 {g : xG} {h0 : xH} {cl : Bool} (x0 : Nat) (x1 : Int32) (x2 : Int32) (s0 : Nat) (s1 : Int32) (h : xH) : Y g DX10_fits h0 cl iI (f_X10_fits_J20 x0 x1 x2 s0 s1 h) 20 [some (.ref x0), some (.int x1), some (.int x2)] [.int s1, .ref s0] h := by
  unfold f_X10_fits_J20
  refine Y.op (pc' := 21) (fun _ => X.ic ki_1 dX10_fits_20) ?_
  refine Y.op (pc' := 22) (fun _ => X.ic ki_0 dX10_fits_21) ?_
  refine Y.callVi (As := [.int s1, .int (1 : Int32), .int (0 : Int32)]) lk_X10_217 rfl cal_X10_bad vir_X10_bad (Nat.le_of_ble_eq_true rfl) (Nat.le_of_ble_eq_true rfl) rfl rfl rfl (Nat.le_of_ble_eq_true rfl) dX10_fits_22 (fun _ e => m_X10_bad s0 s1 (1 : Int32) (0 : Int32) h _ _ e) (fun r1 => ?_)
  refine Y.ifeq 30 (by decide) dX10_fits_25 ?_ ?_
  · refine Y.op (pc' := 31) (fun _ => X.aloadn rfl dX10_fits_30) ?_
    refine Y.op (pc' := 32) (fun _ => X.iloadn rfl dX10_fits_31) ?_
    refine Y.op (pc' := 33) (fun _ => X.iloadn rfl dX10_fits_32) ?_
    refine Y.callVi (As := [.int x1, .int x2]) lk_X10_288 rfl cal_X10_fitsOf vir_X10_fitsOf (Nat.le_of_ble_eq_true rfl) (Nat.le_of_ble_eq_true rfl) rfl rfl rfl (Nat.le_of_ble_eq_true rfl) dX10_fits_33 (fun _ e => m_X10_fitsOf x0 x1 x2 r1.2 _ _ e) (fun r2 => ?_)
    exact Y.ireturn rfl dX10_fits_36
  · refine Y.op (pc' := 29) (fun _ => X.ic ki_0 dX10_fits_28) ?_
    exact Y.ireturn rfl dX10_fits_29
def f_X10_fits (a0 : Nat) (p1 : Int32) (p2 : Int32) (h : xH) : Option (Int32 × xH) :=
  (pI h 10 a0 0 (0 : Int32)).bind fun h1 =>
  (vc h1 10 a0 (f_X10_isOne a0 p1 p2 h1)).bind fun r2 =>
  if r2.1 = (0 : Int32) then
    f_X10_fits_J20 a0 p1 p2 a0 (1 : Int32) r2.2
  else
    f_X10_fits_J20 a0 p1 p2 a0 (0 : Int32) r2.2
theorem y_X10_fits {g : xG} {h0 : xH} {cl : Bool} (a0 : Nat) (p1 : Int32) (p2 : Int32) (h : xH) : Y g DX10_fits h0 cl iI (f_X10_fits a0 p1 p2 h) 0 [some (.ref a0), some (.int p1), some (.int p2)] [] h := by
  unfold f_X10_fits
  refine Y.op (pc' := 1) (fun _ => X.aloadn rfl dX10_fits_0) ?_
  refine Y.op (pc' := 2) (fun _ => X.ic ki_0 dX10_fits_1) ?_
  refine Y.putI fd_X10_82 rfl dX10_fits_2 (fun h1 => ?_)
  refine Y.op (pc' := 6) (fun _ => X.aloadn rfl dX10_fits_5) ?_
  refine Y.op (pc' := 7) (fun _ => X.aloadn rfl dX10_fits_6) ?_
  refine Y.op (pc' := 8) (fun _ => X.iloadn rfl dX10_fits_7) ?_
  refine Y.op (pc' := 9) (fun _ => X.iloadn rfl dX10_fits_8) ?_
  refine Y.callVi (As := [.int p1, .int p2]) lk_X10_282 rfl cal_X10_isOne vir_X10_isOne (Nat.le_of_ble_eq_true rfl) (Nat.le_of_ble_eq_true rfl) rfl rfl rfl (Nat.le_of_ble_eq_true rfl) dX10_fits_9 (fun _ e => m_X10_isOne a0 p1 p2 h1 _ _ e) (fun r2 => ?_)
  refine Y.ifne 19 (by decide) dX10_fits_12 ?_ ?_
  · refine Y.op (pc' := 20) (fun _ => X.ic ki_0 dX10_fits_19) ?_
    exact y_X10_fits_J20 a0 p1 p2 a0 (0 : Int32) r2.2
  · refine Y.op (pc' := 16) (fun _ => X.ic ki_1 dX10_fits_15) ?_
    refine Y.op (pc' := 20) (fun _ => X.goto 20 (by decide) dX10_fits_16) ?_
    exact y_X10_fits_J20 a0 p1 p2 a0 (1 : Int32) r2.2
theorem m_X10_fits {g : xG} (a0 : Nat) (p1 : Int32) (p2 : Int32) (h : xH) (cl : Bool) (r : Int32 × xH) (e : f_X10_fits a0 p1 p2 h = some r) : XM g DX10_fits [.ref a0, .int p1, .int p2] h cl (iI r) := YM.of rfl rfl (Nat.le_of_ble_eq_true rfl) (y_X10_fits a0 p1 p2 h) e
def f_X10_way (a0 : Nat) (h : xH) : Option (Int32 × xH) :=
  (pI h 10 a0 0 (0 : Int32)).bind fun h1 =>
  (vc h1 10 a0 (f_X10_hasWay a0 h1)).bind fun r2 =>
  (gI r2.2 10 a0 18).bind fun v3 =>
  some (v3, r2.2)
theorem y_X10_way {g : xG} {h0 : xH} {cl : Bool} (a0 : Nat) (h : xH) : Y g DX10_way h0 cl iI (f_X10_way a0 h) 0 [some (.ref a0)] [] h := by
  unfold f_X10_way
  refine Y.op (pc' := 1) (fun _ => X.aloadn rfl dX10_way_0) ?_
  refine Y.op (pc' := 2) (fun _ => X.ic ki_0 dX10_way_1) ?_
  refine Y.putI fd_X10_82 rfl dX10_way_2 (fun h1 => ?_)
  refine Y.op (pc' := 6) (fun _ => X.aloadn rfl dX10_way_5) ?_
  refine Y.callVi (As := []) lk_X10_261 rfl cal_X10_hasWay vir_X10_hasWay (Nat.le_of_ble_eq_true rfl) (Nat.le_of_ble_eq_true rfl) rfl rfl rfl (Nat.le_of_ble_eq_true rfl) dX10_way_6 (fun _ e => m_X10_hasWay a0 h1 _ _ e) (fun r2 => ?_)
  refine Y.op (pc' := 10) (fun _ => X.pop rfl dX10_way_9) ?_
  refine Y.op (pc' := 11) (fun _ => X.aloadn rfl dX10_way_10) ?_
  refine Y.getI fd_X10_249 rfl dX10_way_11 (fun v3 => ?_)
  exact Y.ireturn rfl dX10_way_14
theorem m_X10_way {g : xG} (a0 : Nat) (h : xH) (cl : Bool) (r : Int32 × xH) (e : f_X10_way a0 h = some r) : XM g DX10_way [.ref a0] h cl (iI r) := YM.of rfl rfl (Nat.le_of_ble_eq_true rfl) (y_X10_way a0 h) e
def f_X10_wayAt_J30 (x0 : Nat) (x1 : Int32) (s0 : Nat) (s1 : Int32) (h : xH) : Option (Int32 × xH) :=
  (vc h 10 s0 (f_X10_bad s0 s1 (1 : Int32) (0 : Int32) h)).bind fun r1 =>
  if r1.1 = (0 : Int32) then
    (gR r1.2 10 x0 19).bind fun v2 =>
    (aI r1.2 v2 x1).bind fun v3 =>
    some (v3, r1.2)
  else
    some ((0 : Int32), r1.2)
theorem y_X10_wayAt_J30 {g : xG} {h0 : xH} {cl : Bool} (x0 : Nat) (x1 : Int32) (s0 : Nat) (s1 : Int32) (h : xH) : Y g DX10_wayAt h0 cl iI (f_X10_wayAt_J30 x0 x1 s0 s1 h) 30 [some (.ref x0), some (.int x1)] [.int s1, .ref s0] h := by
  unfold f_X10_wayAt_J30
  refine Y.op (pc' := 31) (fun _ => X.ic ki_1 dX10_wayAt_30) ?_
  refine Y.op (pc' := 32) (fun _ => X.ic ki_0 dX10_wayAt_31) ?_
  refine Y.callVi (As := [.int s1, .int (1 : Int32), .int (0 : Int32)]) lk_X10_217 rfl cal_X10_bad vir_X10_bad (Nat.le_of_ble_eq_true rfl) (Nat.le_of_ble_eq_true rfl) rfl rfl rfl (Nat.le_of_ble_eq_true rfl) dX10_wayAt_32 (fun _ e => m_X10_bad s0 s1 (1 : Int32) (0 : Int32) h _ _ e) (fun r1 => ?_)
  refine Y.ifeq 40 (by decide) dX10_wayAt_35 ?_ ?_
  · refine Y.op (pc' := 41) (fun _ => X.aloadn rfl dX10_wayAt_40) ?_
    refine Y.getR fd_X10_42 rfl dX10_wayAt_41 (fun v2 => ?_)
    refine Y.op (pc' := 45) (fun _ => X.iloadn rfl dX10_wayAt_44) ?_
    refine Y.aldI dX10_wayAt_45 (fun v3 => ?_)
    exact Y.ireturn rfl dX10_wayAt_46
  · refine Y.op (pc' := 39) (fun _ => X.ic ki_0 dX10_wayAt_38) ?_
    exact Y.ireturn rfl dX10_wayAt_39
def f_X10_wayAt (a0 : Nat) (p1 : Int32) (h : xH) : Option (Int32 × xH) :=
  (pI h 10 a0 0 (0 : Int32)).bind fun h1 =>
  (vc h1 10 a0 (f_X10_hasWay a0 h1)).bind fun r2 =>
  (gI r2.2 10 a0 18).bind fun v3 =>
  (f_X10_in p1 (0 : Int32) (v3 - (1 : Int32)) r2.2).bind fun r4 =>
  if r4.1 = (0 : Int32) then
    f_X10_wayAt_J30 a0 p1 a0 (1 : Int32) r4.2
  else
    f_X10_wayAt_J30 a0 p1 a0 (0 : Int32) r4.2
theorem y_X10_wayAt {g : xG} {h0 : xH} {cl : Bool} (a0 : Nat) (p1 : Int32) (h : xH) : Y g DX10_wayAt h0 cl iI (f_X10_wayAt a0 p1 h) 0 [some (.ref a0), some (.int p1)] [] h := by
  unfold f_X10_wayAt
  refine Y.op (pc' := 1) (fun _ => X.aloadn rfl dX10_wayAt_0) ?_
  refine Y.op (pc' := 2) (fun _ => X.ic ki_0 dX10_wayAt_1) ?_
  refine Y.putI fd_X10_82 rfl dX10_wayAt_2 (fun h1 => ?_)
  refine Y.op (pc' := 6) (fun _ => X.aloadn rfl dX10_wayAt_5) ?_
  refine Y.callVi (As := []) lk_X10_261 rfl cal_X10_hasWay vir_X10_hasWay (Nat.le_of_ble_eq_true rfl) (Nat.le_of_ble_eq_true rfl) rfl rfl rfl (Nat.le_of_ble_eq_true rfl) dX10_wayAt_6 (fun _ e => m_X10_hasWay a0 h1 _ _ e) (fun r2 => ?_)
  refine Y.op (pc' := 10) (fun _ => X.pop rfl dX10_wayAt_9) ?_
  refine Y.op (pc' := 11) (fun _ => X.aloadn rfl dX10_wayAt_10) ?_
  refine Y.op (pc' := 12) (fun _ => X.iloadn rfl dX10_wayAt_11) ?_
  refine Y.op (pc' := 13) (fun _ => X.ic ki_0 dX10_wayAt_12) ?_
  refine Y.op (pc' := 14) (fun _ => X.aloadn rfl dX10_wayAt_13) ?_
  refine Y.getI fd_X10_249 rfl dX10_wayAt_14 (fun v3 => ?_)
  refine Y.op (pc' := 18) (fun _ => X.ic ki_1 dX10_wayAt_17) ?_
  refine Y.op (pc' := 19) (fun _ => X.isub dX10_wayAt_18) ?_
  refine Y.callSi (As := [.int p1, .int (0 : Int32), .int (v3 - (1 : Int32))]) lk_X10_127 rfl cal_X10_in sta_X10_in (Nat.le_of_ble_eq_true rfl) rfl rfl (Nat.le_of_ble_eq_true rfl) dX10_wayAt_19 (fun _ e => m_X10_in p1 (0 : Int32) (v3 - (1 : Int32)) r2.2 _ _ e) (fun r4 => ?_)
  refine Y.ifne 29 (by decide) dX10_wayAt_22 ?_ ?_
  · refine Y.op (pc' := 30) (fun _ => X.ic ki_0 dX10_wayAt_29) ?_
    exact y_X10_wayAt_J30 a0 p1 a0 (0 : Int32) r4.2
  · refine Y.op (pc' := 26) (fun _ => X.ic ki_1 dX10_wayAt_25) ?_
    refine Y.op (pc' := 30) (fun _ => X.goto 30 (by decide) dX10_wayAt_26) ?_
    exact y_X10_wayAt_J30 a0 p1 a0 (1 : Int32) r4.2
theorem m_X10_wayAt {g : xG} (a0 : Nat) (p1 : Int32) (h : xH) (cl : Bool) (r : Int32 × xH) (e : f_X10_wayAt a0 p1 h = some r) : XM g DX10_wayAt [.ref a0, .int p1] h cl (iI r) := YM.of rfl rfl (Nat.le_of_ble_eq_true rfl) (y_X10_wayAt a0 p1 h) e
def f_X10_wayFrom_J107 (s0 : Int32) (h : xH) : Option (Int32 × xH) :=
  some (s0, h)
theorem y_X10_wayFrom_J107 {g : xG} {h0 : xH} {cl : Bool} (s0 : Int32) (h : xH) : Y g DX10_wayFrom h0 cl iI (f_X10_wayFrom_J107 s0 h) 107 [none, none, none, none] [.int s0] h := by
  unfold f_X10_wayFrom_J107
  exact Y.ireturn rfl dX10_wayFrom_107
def f_X10_wayFrom_J82 (x0 : Nat) (x1 : Int32) (x2 : Int32) (s0 : Int32) (h : xH) : Option (Int32 × xH) :=
  if s0 = (0 : Int32) then
    f_X10_wayFrom_J107 (0 : Int32) h
  else
    if x2 = (0 : Int32) then
      f_X10_wayFrom_J107 (1 : Int32) h
    else
      (gR h 10 x0 17).bind fun v1 =>
      (aI h v1 x1).bind fun v2 =>
      f_X10_wayFrom_J107 (v2 + (1 : Int32)) h
theorem y_X10_wayFrom_J82 {g : xG} {h0 : xH} {cl : Bool} (x0 : Nat) (x1 : Int32) (x2 : Int32) (s0 : Int32) (h : xH) : Y g DX10_wayFrom h0 cl iI (f_X10_wayFrom_J82 x0 x1 x2 s0 h) 82 [some (.ref x0), some (.int x1), some (.int x2), none] [.int s0] h := by
  unfold f_X10_wayFrom_J82
  refine Y.op (pc' := 83) (loc' := [some (.ref x0), some (.int x1), some (.int x2), some (.int s0)]) (fun _ => X.istoren (Nat.le_of_ble_eq_true rfl) rfl dX10_wayFrom_82) ?_
  refine Y.op (pc' := 84) (fun _ => X.iloadn rfl dX10_wayFrom_83) ?_
  refine Y.ifne 91 (by decide) dX10_wayFrom_84 ?_ ?_
  · refine Y.op (pc' := 92) (fun _ => X.iloadn rfl dX10_wayFrom_91) ?_
    refine Y.ifne 99 (by decide) dX10_wayFrom_92 ?_ ?_
    · refine Y.op (pc' := 100) (fun _ => X.aloadn rfl dX10_wayFrom_99) ?_
      refine Y.getR fd_X10_39 rfl dX10_wayFrom_100 (fun v1 => ?_)
      refine Y.op (pc' := 104) (fun _ => X.iloadn rfl dX10_wayFrom_103) ?_
      refine Y.aldI dX10_wayFrom_104 (fun v2 => ?_)
      refine Y.op (pc' := 106) (fun _ => X.ic ki_1 dX10_wayFrom_105) ?_
      refine Y.op (pc' := 107) (fun _ => X.iadd dX10_wayFrom_106) ?_
      exact Y.fg (y_X10_wayFrom_J107 (v2 + (1 : Int32)) h) trivial
    · refine Y.op (pc' := 96) (fun _ => X.ic ki_1 dX10_wayFrom_95) ?_
      refine Y.op (pc' := 107) (fun _ => X.goto 107 (by decide) dX10_wayFrom_96) ?_
      exact Y.fg (y_X10_wayFrom_J107 (1 : Int32) h) trivial
  · refine Y.op (pc' := 88) (fun _ => X.ic ki_0 dX10_wayFrom_87) ?_
    refine Y.op (pc' := 107) (fun _ => X.goto 107 (by decide) dX10_wayFrom_88) ?_
    exact Y.fg (y_X10_wayFrom_J107 (0 : Int32) h) trivial
def f_X10_wayFrom_J81 (x0 : Nat) (x1 : Int32) (x2 : Int32) (h : xH) : Option (Int32 × xH) :=
  f_X10_wayFrom_J82 x0 x1 x2 (0 : Int32) h
theorem y_X10_wayFrom_J81 {g : xG} {h0 : xH} {cl : Bool} (x0 : Nat) (x1 : Int32) (x2 : Int32) (h : xH) : Y g DX10_wayFrom h0 cl iI (f_X10_wayFrom_J81 x0 x1 x2 h) 81 [some (.ref x0), some (.int x1), some (.int x2), none] [] h := by
  unfold f_X10_wayFrom_J81
  refine Y.op (pc' := 82) (fun _ => X.ic ki_0 dX10_wayFrom_81) ?_
  exact y_X10_wayFrom_J82 x0 x1 x2 (0 : Int32) h
def f_X10_wayFrom_J51 (h : xH) : Option (Int32 × xH) :=
  some ((0 : Int32), h)
theorem y_X10_wayFrom_J51 {g : xG} {h0 : xH} {cl : Bool} (h : xH) : Y g DX10_wayFrom h0 cl iI (f_X10_wayFrom_J51 h) 51 [none, none, none, none] [] h := by
  unfold f_X10_wayFrom_J51
  refine Y.op (pc' := 52) (fun _ => X.ic ki_0 dX10_wayFrom_51) ?_
  exact Y.ireturn rfl dX10_wayFrom_52
def f_X10_wayFrom_J43 (x0 : Nat) (x1 : Int32) (x2 : Int32) (s0 : Nat) (s1 : Int32) (h : xH) : Option (Int32 × xH) :=
  (vc h 10 s0 (f_X10_bad s0 s1 (2 : Int32) (1 : Int32) h)).bind fun r1 =>
  if r1.1 = (0 : Int32) then
    (vc r1.2 10 x0 (f_X10_laysFar x0 r1.2)).bind fun h2 =>
    (vc h2 10 x0 (f_X10_isFree x0 (0 : Int32) x1 h2)).bind fun r3 =>
    if r3.1 = (0 : Int32) then
      f_X10_wayFrom_J81 x0 x1 x2 r3.2
    else
      (gR r3.2 10 x0 17).bind fun v4 =>
      (aI r3.2 v4 x1).bind fun v5 =>
      if v5 ≥ (1000000 : Int32) then
        f_X10_wayFrom_J81 x0 x1 x2 r3.2
      else
        f_X10_wayFrom_J82 x0 x1 x2 (1 : Int32) r3.2
  else
    f_X10_wayFrom_J51 r1.2
theorem y_X10_wayFrom_J43 {g : xG} {h0 : xH} {cl : Bool} (x0 : Nat) (x1 : Int32) (x2 : Int32) (s0 : Nat) (s1 : Int32) (h : xH) : Y g DX10_wayFrom h0 cl iI (f_X10_wayFrom_J43 x0 x1 x2 s0 s1 h) 43 [some (.ref x0), some (.int x1), some (.int x2), none] [.int s1, .ref s0] h := by
  unfold f_X10_wayFrom_J43
  refine Y.op (pc' := 44) (fun _ => X.ic ki_2 dX10_wayFrom_43) ?_
  refine Y.op (pc' := 45) (fun _ => X.ic ki_1 dX10_wayFrom_44) ?_
  refine Y.callVi (As := [.int s1, .int (2 : Int32), .int (1 : Int32)]) lk_X10_217 rfl cal_X10_bad vir_X10_bad (Nat.le_of_ble_eq_true rfl) (Nat.le_of_ble_eq_true rfl) rfl rfl rfl (Nat.le_of_ble_eq_true rfl) dX10_wayFrom_45 (fun _ e => m_X10_bad s0 s1 (2 : Int32) (1 : Int32) h _ _ e) (fun r1 => ?_)
  refine Y.ifeq 53 (by decide) dX10_wayFrom_48 ?_ ?_
  · refine Y.op (pc' := 54) (fun _ => X.aloadn rfl dX10_wayFrom_53) ?_
    refine Y.callVv (As := []) lk_X10_252 rfl cal_X10_laysFar vir_X10_laysFar (Nat.le_of_ble_eq_true rfl) (Nat.le_of_ble_eq_true rfl) rfl rfl rfl (Nat.le_of_ble_eq_true rfl) dX10_wayFrom_54 (fun _ e => m_X10_laysFar x0 r1.2 _ _ e) (fun h2 => ?_)
    refine Y.op (pc' := 58) (fun _ => X.aloadn rfl dX10_wayFrom_57) ?_
    refine Y.op (pc' := 59) (fun _ => X.ic ki_0 dX10_wayFrom_58) ?_
    refine Y.op (pc' := 60) (fun _ => X.iloadn rfl dX10_wayFrom_59) ?_
    refine Y.callVi (As := [.int (0 : Int32), .int x1]) lk_X10_255 rfl cal_X10_isFree vir_X10_isFree (Nat.le_of_ble_eq_true rfl) (Nat.le_of_ble_eq_true rfl) rfl rfl rfl (Nat.le_of_ble_eq_true rfl) dX10_wayFrom_60 (fun _ e => m_X10_isFree x0 (0 : Int32) x1 h2 _ _ e) (fun r3 => ?_)
    refine Y.ifeq 81 (by decide) dX10_wayFrom_63 ?_ ?_
    · exact y_X10_wayFrom_J81 x0 x1 x2 r3.2
    · refine Y.op (pc' := 67) (fun _ => X.aloadn rfl dX10_wayFrom_66) ?_
      refine Y.getR fd_X10_39 rfl dX10_wayFrom_67 (fun v4 => ?_)
      refine Y.op (pc' := 71) (fun _ => X.iloadn rfl dX10_wayFrom_70) ?_
      refine Y.aldI dX10_wayFrom_71 (fun v5 => ?_)
      refine Y.op (pc' := 74) (fun _ => X.ldcI wc_X10_122 rfl dX10_wayFrom_72) ?_
      refine Y.cmpge 81 (by decide) dX10_wayFrom_74 ?_ ?_
      · exact y_X10_wayFrom_J81 x0 x1 x2 r3.2
      · refine Y.op (pc' := 78) (fun _ => X.ic ki_1 dX10_wayFrom_77) ?_
        refine Y.op (pc' := 82) (fun _ => X.goto 82 (by decide) dX10_wayFrom_78) ?_
        exact y_X10_wayFrom_J82 x0 x1 x2 (1 : Int32) r3.2
  · exact Y.fg (y_X10_wayFrom_J51 r1.2) trivial
def f_X10_wayFrom_J20 (x0 : Nat) (x1 : Int32) (x2 : Int32) (s0 : Nat) (s1 : Int32) (h : xH) : Option (Int32 × xH) :=
  (vc h 10 s0 (f_X10_bad s0 s1 (1 : Int32) (0 : Int32) h)).bind fun r1 =>
  if r1.1 = (0 : Int32) then
    (f_X10_in x2 (0 : Int32) (1 : Int32) r1.2).bind fun r2 =>
    if r2.1 = (0 : Int32) then
      f_X10_wayFrom_J43 x0 x1 x2 x0 (1 : Int32) r2.2
    else
      f_X10_wayFrom_J43 x0 x1 x2 x0 (0 : Int32) r2.2
  else
    f_X10_wayFrom_J51 r1.2
theorem y_X10_wayFrom_J20 {g : xG} {h0 : xH} {cl : Bool} (x0 : Nat) (x1 : Int32) (x2 : Int32) (s0 : Nat) (s1 : Int32) (h : xH) : Y g DX10_wayFrom h0 cl iI (f_X10_wayFrom_J20 x0 x1 x2 s0 s1 h) 20 [some (.ref x0), some (.int x1), some (.int x2), none] [.int s1, .ref s0] h := by
  unfold f_X10_wayFrom_J20
  refine Y.op (pc' := 21) (fun _ => X.ic ki_1 dX10_wayFrom_20) ?_
  refine Y.op (pc' := 22) (fun _ => X.ic ki_0 dX10_wayFrom_21) ?_
  refine Y.callVi (As := [.int s1, .int (1 : Int32), .int (0 : Int32)]) lk_X10_217 rfl cal_X10_bad vir_X10_bad (Nat.le_of_ble_eq_true rfl) (Nat.le_of_ble_eq_true rfl) rfl rfl rfl (Nat.le_of_ble_eq_true rfl) dX10_wayFrom_22 (fun _ e => m_X10_bad s0 s1 (1 : Int32) (0 : Int32) h _ _ e) (fun r1 => ?_)
  refine Y.ifne 51 (by decide) dX10_wayFrom_25 ?_ ?_
  · exact Y.fg (y_X10_wayFrom_J51 r1.2) trivial
  · refine Y.op (pc' := 29) (fun _ => X.aloadn rfl dX10_wayFrom_28) ?_
    refine Y.op (pc' := 30) (fun _ => X.iloadn rfl dX10_wayFrom_29) ?_
    refine Y.op (pc' := 31) (fun _ => X.ic ki_0 dX10_wayFrom_30) ?_
    refine Y.op (pc' := 32) (fun _ => X.ic ki_1 dX10_wayFrom_31) ?_
    refine Y.callSi (As := [.int x2, .int (0 : Int32), .int (1 : Int32)]) lk_X10_127 rfl cal_X10_in sta_X10_in (Nat.le_of_ble_eq_true rfl) rfl rfl (Nat.le_of_ble_eq_true rfl) dX10_wayFrom_32 (fun _ e => m_X10_in x2 (0 : Int32) (1 : Int32) r1.2 _ _ e) (fun r2 => ?_)
    refine Y.ifne 42 (by decide) dX10_wayFrom_35 ?_ ?_
    · refine Y.op (pc' := 43) (fun _ => X.ic ki_0 dX10_wayFrom_42) ?_
      exact y_X10_wayFrom_J43 x0 x1 x2 x0 (0 : Int32) r2.2
    · refine Y.op (pc' := 39) (fun _ => X.ic ki_1 dX10_wayFrom_38) ?_
      refine Y.op (pc' := 43) (fun _ => X.goto 43 (by decide) dX10_wayFrom_39) ?_
      exact y_X10_wayFrom_J43 x0 x1 x2 x0 (1 : Int32) r2.2
def f_X10_wayFrom (a0 : Nat) (p1 : Int32) (p2 : Int32) (h : xH) : Option (Int32 × xH) :=
  (pI h 10 a0 0 (0 : Int32)).bind fun h1 =>
  (vc h1 10 a0 (f_X10_isOne a0 (0 : Int32) p1 h1)).bind fun r2 =>
  if r2.1 = (0 : Int32) then
    f_X10_wayFrom_J20 a0 p1 p2 a0 (1 : Int32) r2.2
  else
    f_X10_wayFrom_J20 a0 p1 p2 a0 (0 : Int32) r2.2
theorem y_X10_wayFrom {g : xG} {h0 : xH} {cl : Bool} (a0 : Nat) (p1 : Int32) (p2 : Int32) (h : xH) : Y g DX10_wayFrom h0 cl iI (f_X10_wayFrom a0 p1 p2 h) 0 [some (.ref a0), some (.int p1), some (.int p2), none] [] h := by
  unfold f_X10_wayFrom
  refine Y.op (pc' := 1) (fun _ => X.aloadn rfl dX10_wayFrom_0) ?_
  refine Y.op (pc' := 2) (fun _ => X.ic ki_0 dX10_wayFrom_1) ?_
  refine Y.putI fd_X10_82 rfl dX10_wayFrom_2 (fun h1 => ?_)
  refine Y.op (pc' := 6) (fun _ => X.aloadn rfl dX10_wayFrom_5) ?_
  refine Y.op (pc' := 7) (fun _ => X.aloadn rfl dX10_wayFrom_6) ?_
  refine Y.op (pc' := 8) (fun _ => X.ic ki_0 dX10_wayFrom_7) ?_
  refine Y.op (pc' := 9) (fun _ => X.iloadn rfl dX10_wayFrom_8) ?_
  refine Y.callVi (As := [.int (0 : Int32), .int p1]) lk_X10_282 rfl cal_X10_isOne vir_X10_isOne (Nat.le_of_ble_eq_true rfl) (Nat.le_of_ble_eq_true rfl) rfl rfl rfl (Nat.le_of_ble_eq_true rfl) dX10_wayFrom_9 (fun _ e => m_X10_isOne a0 (0 : Int32) p1 h1 _ _ e) (fun r2 => ?_)
  refine Y.ifne 19 (by decide) dX10_wayFrom_12 ?_ ?_
  · refine Y.op (pc' := 20) (fun _ => X.ic ki_0 dX10_wayFrom_19) ?_
    exact y_X10_wayFrom_J20 a0 p1 p2 a0 (0 : Int32) r2.2
  · refine Y.op (pc' := 16) (fun _ => X.ic ki_1 dX10_wayFrom_15) ?_
    refine Y.op (pc' := 20) (fun _ => X.goto 20 (by decide) dX10_wayFrom_16) ?_
    exact y_X10_wayFrom_J20 a0 p1 p2 a0 (1 : Int32) r2.2
theorem m_X10_wayFrom {g : xG} (a0 : Nat) (p1 : Int32) (p2 : Int32) (h : xH) (cl : Bool) (r : Int32 × xH) (e : f_X10_wayFrom a0 p1 p2 h = some r) : XM g DX10_wayFrom [.ref a0, .int p1, .int p2] h cl (iI r) := YM.of rfl rfl (Nat.le_of_ble_eq_true rfl) (y_X10_wayFrom a0 p1 p2 h) e
