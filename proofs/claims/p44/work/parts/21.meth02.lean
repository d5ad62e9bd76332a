def f_X1_give_J40 (x0 : Nat) (x1 : Int32) (x2 : Int32) (x3 : Int32) (h : xH) : Option (xH) :=
  (vc h 1 x0 (f_X1_put x0 x1 x2 x3 h)).bind fun h1 =>
  some h1
theorem y_X1_give_J40 {g : xG} {h0 : xH} {cl : Bool} (x0 : Nat) (x1 : Int32) (x2 : Int32) (x3 : Int32) (h : xH) : Y g DX1_give h0 cl iV (f_X1_give_J40 x0 x1 x2 x3 h) 40 [some (.ref x0), some (.int x1), some (.int x2), some (.int x3), none] [] h := by
  unfold f_X1_give_J40
  refine Y.op (pc' := 41) (fun _ => X.aloadn rfl dX1_give_40) ?_
  refine Y.op (pc' := 42) (fun _ => X.iloadn rfl dX1_give_41) ?_
  refine Y.op (pc' := 43) (fun _ => X.iloadn rfl dX1_give_42) ?_
  refine Y.op (pc' := 44) (fun _ => X.iloadn rfl dX1_give_43) ?_
  refine Y.callVv (As := [.int x1, .int x2, .int x3]) lk_X1_66 rfl cal_X1_put vir_X1_put (Nat.le_of_ble_eq_true rfl) (Nat.le_of_ble_eq_true rfl) rfl rfl rfl (Nat.le_of_ble_eq_true rfl) dX1_give_44 (fun _ e => m_X1_put x0 x1 x2 x3 h _ _ e) (fun h1 => ?_)
  exact Y.vreturn rfl dX1_give_47
def f_X1_give (a0 : Nat) (p1 : Int32) (p2 : Int32) (h : xH) : Option (xH) :=
  (gR h 1 a0 0).bind fun v1 =>
  (f_X1_leastLeft v1 p1 h).bind fun r2 =>
  (gR r2.2 1 a0 1).bind fun v3 =>
  (f_X1_leastLeft v3 p2 r2.2).bind fun r4 =>
  (gR r4.2 1 a0 1).bind fun v5 =>
  (f_X1_cellOf v5 p2 r2.1 r4.2).bind fun r6 =>
  if r6.1 = (-1 : Int32) then
    f_X1_give_J40 a0 p1 p2 r2.1 r6.2
  else
    (vc r6.2 1 a0 (f_X1_change a0 p2 r2.1 r4.1 r6.2)).bind fun h7 =>
    f_X1_give_J40 a0 p1 p2 r2.1 h7
theorem y_X1_give {g : xG} {h0 : xH} {cl : Bool} (a0 : Nat) (p1 : Int32) (p2 : Int32) (h : xH) : Y g DX1_give h0 cl iV (f_X1_give a0 p1 p2 h) 0 [some (.ref a0), some (.int p1), some (.int p2), none, none] [] h := by
  unfold f_X1_give
  refine Y.op (pc' := 1) (fun _ => X.aloadn rfl dX1_give_0) ?_
  refine Y.getR fd_X1_9 rfl dX1_give_1 (fun v1 => ?_)
  refine Y.op (pc' := 5) (fun _ => X.iloadn rfl dX1_give_4) ?_
  refine Y.callSi (As := [.ref v1, .int p1]) lk_X1_58 rfl cal_X1_leastLeft sta_X1_leastLeft (Nat.le_of_ble_eq_true rfl) rfl rfl (Nat.le_of_ble_eq_true rfl) dX1_give_5 (fun _ e => m_X1_leastLeft v1 p1 h _ _ e) (fun r2 => ?_)
  refine Y.op (pc' := 9) (loc' := [some (.ref a0), some (.int p1), some (.int p2), some (.int r2.1), none]) (fun _ => X.istoren (Nat.le_of_ble_eq_true rfl) rfl dX1_give_8) ?_
  refine Y.op (pc' := 10) (fun _ => X.aloadn rfl dX1_give_9) ?_
  refine Y.getR fd_X1_15 rfl dX1_give_10 (fun v3 => ?_)
  refine Y.op (pc' := 14) (fun _ => X.iloadn rfl dX1_give_13) ?_
  refine Y.callSi (As := [.ref v3, .int p2]) lk_X1_58 rfl cal_X1_leastLeft sta_X1_leastLeft (Nat.le_of_ble_eq_true rfl) rfl rfl (Nat.le_of_ble_eq_true rfl) dX1_give_14 (fun _ e => m_X1_leastLeft v3 p2 r2.2 _ _ e) (fun r4 => ?_)
  refine Y.op (pc' := 19) (loc' := [some (.ref a0), some (.int p1), some (.int p2), some (.int r2.1), some (.int r4.1)]) (fun _ => X.istore (Nat.le_of_ble_eq_true rfl) rfl dX1_give_17) ?_
  refine Y.op (pc' := 20) (fun _ => X.aloadn rfl dX1_give_19) ?_
  refine Y.getR fd_X1_15 rfl dX1_give_20 (fun v5 => ?_)
  refine Y.op (pc' := 24) (fun _ => X.iloadn rfl dX1_give_23) ?_
  refine Y.op (pc' := 25) (fun _ => X.iloadn rfl dX1_give_24) ?_
  refine Y.callSi (As := [.ref v5, .int p2, .int r2.1]) lk_X1_50 rfl cal_X1_cellOf sta_X1_cellOf (Nat.le_of_ble_eq_true rfl) rfl rfl (Nat.le_of_ble_eq_true rfl) dX1_give_25 (fun _ e => m_X1_cellOf v5 p2 r2.1 r4.2 _ _ e) (fun r6 => ?_)
  refine Y.op (pc' := 29) (fun _ => X.ic ki_m1 dX1_give_28) ?_
  refine Y.cmpeq 40 (by decide) dX1_give_29 ?_ ?_
  · exact Y.fg (y_X1_give_J40 a0 p1 p2 r2.1 r6.2) (And.intro rfl (And.intro rfl (And.intro rfl (And.intro rfl trivial))))
  · refine Y.op (pc' := 33) (fun _ => X.aloadn rfl dX1_give_32) ?_
    refine Y.op (pc' := 34) (fun _ => X.iloadn rfl dX1_give_33) ?_
    refine Y.op (pc' := 35) (fun _ => X.iloadn rfl dX1_give_34) ?_
    refine Y.op (pc' := 37) (fun _ => X.iload rfl dX1_give_35) ?_
    refine Y.callVv (As := [.int p2, .int r2.1, .int r4.1]) lk_X1_62 rfl cal_X1_change vir_X1_change (Nat.le_of_ble_eq_true rfl) (Nat.le_of_ble_eq_true rfl) rfl rfl rfl (Nat.le_of_ble_eq_true rfl) dX1_give_37 (fun _ e => m_X1_change a0 p2 r2.1 r4.1 r6.2 _ _ e) (fun h7 => ?_)
    exact Y.fg (y_X1_give_J40 a0 p1 p2 r2.1 h7) (And.intro rfl (And.intro rfl (And.intro rfl (And.intro rfl trivial))))
theorem m_X1_give {g : xG} (a0 : Nat) (p1 : Int32) (p2 : Int32) (h : xH) (cl : Bool) (r : xH) (e : f_X1_give a0 p1 p2 h = some r) : XM g DX1_give [.ref a0, .int p1, .int p2] h cl (iV r) := YM.of rfl rfl (Nat.le_of_ble_eq_true rfl) (y_X1_give a0 p1 p2 h) e
def f_X1_fill_J106 (h : xH) : Option (xH) :=
  some h
theorem y_X1_fill_J106 {g : xG} {h0 : xH} {cl : Bool} (h : xH) : Y g DX1_fill h0 cl iV (f_X1_fill_J106 h) 106 [none, none, none, none] [] h := by
  unfold f_X1_fill_J106
  exact Y.vreturn rfl dX1_fill_106
def f_X1_fill_J100 (kH : Nat → Nat → Int32 → xH → Option (xH)) (kE106 : xH → Option (xH)) (x0 : Nat) (x1 : Nat) (x2 : Int32) (h : xH) : Option (xH) :=
  lt (x2 + (1 : Int32)) fun v1 =>
  kH x0 x1 v1 h
theorem y_X1_fill_J100 {g : xG} {h0 : xH} {cl : Bool} {kH : Nat → Nat → Int32 → xH → Option (xH)} {kE106 : xH → Option (xH)} (hkH : ∀ (x0 : Nat) (x1 : Nat) (x2 : Int32) (h : xH), Y g DX1_fill h0 cl iV (kH x0 x1 x2 h) 43 [some (.ref x0), some (.ref x1), some (.int x2), none] [] h) (hkE106 : ∀  (h : xH), Y g DX1_fill h0 cl iV (kE106  h) 106 [none, none, none, none] [] h) (x0 : Nat) (x1 : Nat) (x2 : Int32) (h : xH) : Y g DX1_fill h0 cl iV (f_X1_fill_J100 kH kE106 x0 x1 x2 h) 100 [some (.ref x0), some (.ref x1), some (.int x2), none] [] h := by
  unfold f_X1_fill_J100
  refine Y.iinc (i := 2) (loc' := fun v1 => [some (.ref x0), some (.ref x1), some (.int v1), none]) rfl (Nat.le_of_ble_eq_true rfl) ki_1 (fun _ => rfl) dX1_fill_100 (fun v1 => ?_)
  refine Y.op (pc' := 43) (fun _ => X.goto 43 (by decide) dX1_fill_103) ?_
  exact hkH x0 x1 v1 h
def f_X1_fill_J94 (kH : Nat → Nat → Int32 → Int32 → xH → Option (xH)) (kE100 : Nat → Nat → Int32 → xH → Option (xH)) (x0 : Nat) (x1 : Nat) (x2 : Int32) (x3 : Int32) (h : xH) : Option (xH) :=
  lt (x3 + (1 : Int32)) fun v1 =>
  kH x0 x1 x2 v1 h
theorem y_X1_fill_J94 {g : xG} {h0 : xH} {cl : Bool} {kH : Nat → Nat → Int32 → Int32 → xH → Option (xH)} {kE100 : Nat → Nat → Int32 → xH → Option (xH)} (hkH : ∀ (x0 : Nat) (x1 : Nat) (x2 : Int32) (x3 : Int32) (h : xH), Y g DX1_fill h0 cl iV (kH x0 x1 x2 x3 h) 53 [some (.ref x0), some (.ref x1), some (.int x2), some (.int x3)] [] h) (hkE100 : ∀ (x0 : Nat) (x1 : Nat) (x2 : Int32) (h : xH), Y g DX1_fill h0 cl iV (kE100 x0 x1 x2 h) 100 [some (.ref x0), some (.ref x1), some (.int x2), none] [] h) (x0 : Nat) (x1 : Nat) (x2 : Int32) (x3 : Int32) (h : xH) : Y g DX1_fill h0 cl iV (f_X1_fill_J94 kH kE100 x0 x1 x2 x3 h) 94 [some (.ref x0), some (.ref x1), some (.int x2), some (.int x3)] [] h := by
  unfold f_X1_fill_J94
  refine Y.iinc (i := 3) (loc' := fun v1 => [some (.ref x0), some (.ref x1), some (.int x2), some (.int v1)]) rfl (Nat.le_of_ble_eq_true rfl) ki_1 (fun _ => rfl) dX1_fill_94 (fun v1 => ?_)
  refine Y.op (pc' := 53) (fun _ => X.goto 53 (by decide) dX1_fill_97) ?_
  exact hkH x0 x1 x2 v1 h
def f_X1_fill_L53 (kE100 : Nat → Nat → Int32 → xH → Option (xH)) : Nat → Nat → Nat → Int32 → Int32 → xH → Option (xH)
  | 0 => fun _ _ _ _ _ => none
  | n + 1 => fun x0 x1 x2 x3 h =>
    (gI h 0 x1 1).bind fun v1 =>
    if x3 ≥ v1 then
      kE100 x0 x1 x2 h
    else
      (vc h 0 x1 (f_X0_isFit x1 x2 x3 h)).bind fun r2 =>
      if r2.1 = (0 : Int32) then
        f_X1_fill_J94 (f_X1_fill_L53 kE100 n) kE100 x0 x1 x2 x3 r2.2
      else
        (vc r2.2 0 x1 (f_X0_isThere x1 (0 : Int32) x2 r2.2)).bind fun r3 =>
        if r3.1 = (0 : Int32) then
          f_X1_fill_J94 (f_X1_fill_L53 kE100 n) kE100 x0 x1 x2 x3 r3.2
        else
          (vc r3.2 0 x1 (f_X0_isThere x1 (1 : Int32) x3 r3.2)).bind fun r4 =>
          if r4.1 = (0 : Int32) then
            f_X1_fill_J94 (f_X1_fill_L53 kE100 n) kE100 x0 x1 x2 x3 r4.2
          else
            (vc r4.2 1 x0 (f_X1_give x0 x2 x3 r4.2)).bind fun h5 =>
            f_X1_fill_J94 (f_X1_fill_L53 kE100 n) kE100 x0 x1 x2 x3 h5
theorem y_X1_fill_L53 {g : xG} {h0 : xH} {cl : Bool} {kE100 : Nat → Nat → Int32 → xH → Option (xH)} (hkE100 : ∀ (x0 : Nat) (x1 : Nat) (x2 : Int32) (h : xH), Y g DX1_fill h0 cl iV (kE100 x0 x1 x2 h) 100 [some (.ref x0), some (.ref x1), some (.int x2), none] [] h) : ∀ (n : Nat) (x0 : Nat) (x1 : Nat) (x2 : Int32) (x3 : Int32) (h : xH), Y g DX1_fill h0 cl iV (f_X1_fill_L53 kE100 n x0 x1 x2 x3 h) 53 [some (.ref x0), some (.ref x1), some (.int x2), some (.int x3)] [] h := by
  intro n
  induction n with
  | zero => intro x0 x1 x2 x3 h; exact Y.nothing
  | succ n ih =>
    intro x0 x1 x2 x3 h
    unfold f_X1_fill_L53
    refine Y.op (pc' := 54) (fun _ => X.iloadn rfl dX1_fill_53) ?_
    refine Y.op (pc' := 55) (fun _ => X.aloadn rfl dX1_fill_54) ?_
    refine Y.getI fd_X1_36 rfl dX1_fill_55 (fun v1 => ?_)
    refine Y.cmpge 100 (by decide) dX1_fill_58 ?_ ?_
    · exact Y.fg (hkE100 x0 x1 x2 h) (And.intro rfl (And.intro rfl (And.intro rfl trivial)))
    · refine Y.op (pc' := 62) (fun _ => X.aloadn rfl dX1_fill_61) ?_
      refine Y.op (pc' := 63) (fun _ => X.iloadn rfl dX1_fill_62) ?_
      refine Y.op (pc' := 64) (fun _ => X.iloadn rfl dX1_fill_63) ?_
      refine Y.callVi (As := [.int x2, .int x3]) lk_X1_39 rfl cal_X0_isFit vir_X0_isFit (Nat.le_of_ble_eq_true rfl) (Nat.le_of_ble_eq_true rfl) rfl rfl rfl (Nat.le_of_ble_eq_true rfl) dX1_fill_64 (fun _ e => m_X0_isFit x1 x2 x3 h _ _ e) (fun r2 => ?_)
      refine Y.ifeq 94 (by decide) dX1_fill_67 ?_ ?_
      · exact y_X1_fill_J94 ih hkE100 x0 x1 x2 x3 r2.2
      · refine Y.op (pc' := 71) (fun _ => X.aloadn rfl dX1_fill_70) ?_
        refine Y.op (pc' := 72) (fun _ => X.ic ki_0 dX1_fill_71) ?_
        refine Y.op (pc' := 73) (fun _ => X.iloadn rfl dX1_fill_72) ?_
        refine Y.callVi (As := [.int (0 : Int32), .int x2]) lk_X1_43 rfl cal_X0_isThere vir_X0_isThere (Nat.le_of_ble_eq_true rfl) (Nat.le_of_ble_eq_true rfl) rfl rfl rfl (Nat.le_of_ble_eq_true rfl) dX1_fill_73 (fun _ e => m_X0_isThere x1 (0 : Int32) x2 r2.2 _ _ e) (fun r3 => ?_)
        refine Y.ifeq 94 (by decide) dX1_fill_76 ?_ ?_
        · exact y_X1_fill_J94 ih hkE100 x0 x1 x2 x3 r3.2
        · refine Y.op (pc' := 80) (fun _ => X.aloadn rfl dX1_fill_79) ?_
          refine Y.op (pc' := 81) (fun _ => X.ic ki_1 dX1_fill_80) ?_
          refine Y.op (pc' := 82) (fun _ => X.iloadn rfl dX1_fill_81) ?_
          refine Y.callVi (As := [.int (1 : Int32), .int x3]) lk_X1_43 rfl cal_X0_isThere vir_X0_isThere (Nat.le_of_ble_eq_true rfl) (Nat.le_of_ble_eq_true rfl) rfl rfl rfl (Nat.le_of_ble_eq_true rfl) dX1_fill_82 (fun _ e => m_X0_isThere x1 (1 : Int32) x3 r3.2 _ _ e) (fun r4 => ?_)
          refine Y.ifeq 94 (by decide) dX1_fill_85 ?_ ?_
          · exact y_X1_fill_J94 ih hkE100 x0 x1 x2 x3 r4.2
          · refine Y.op (pc' := 89) (fun _ => X.aloadn rfl dX1_fill_88) ?_
            refine Y.op (pc' := 90) (fun _ => X.iloadn rfl dX1_fill_89) ?_
            refine Y.op (pc' := 91) (fun _ => X.iloadn rfl dX1_fill_90) ?_
            refine Y.callVv (As := [.int x2, .int x3]) lk_X1_46 rfl cal_X1_give vir_X1_give (Nat.le_of_ble_eq_true rfl) (Nat.le_of_ble_eq_true rfl) rfl rfl rfl (Nat.le_of_ble_eq_true rfl) dX1_fill_91 (fun _ e => m_X1_give x0 x2 x3 r4.2 _ _ e) (fun h5 => ?_)
            exact y_X1_fill_J94 ih hkE100 x0 x1 x2 x3 h5
def f_X1_fill_L43 (kE106 : xH → Option (xH)) : Nat → Nat → Nat → Int32 → xH → Option (xH)
  | 0 => fun _ _ _ _ => none
  | n + 1 => fun x0 x1 x2 h =>
    (gI h 0 x1 0).bind fun v1 =>
    if x2 ≥ v1 then
      kE106 h
    else
      f_X1_fill_L53 (f_X1_fill_J100 (f_X1_fill_L43 kE106 n) kE106) 5000 x0 x1 x2 (0 : Int32) h
theorem y_X1_fill_L43 {g : xG} {h0 : xH} {cl : Bool} {kE106 : xH → Option (xH)} (hkE106 : ∀  (h : xH), Y g DX1_fill h0 cl iV (kE106  h) 106 [none, none, none, none] [] h) : ∀ (n : Nat) (x0 : Nat) (x1 : Nat) (x2 : Int32) (h : xH), Y g DX1_fill h0 cl iV (f_X1_fill_L43 kE106 n x0 x1 x2 h) 43 [some (.ref x0), some (.ref x1), some (.int x2), none] [] h := by
  intro n
  induction n with
  | zero => intro x0 x1 x2 h; exact Y.nothing
  | succ n ih =>
    intro x0 x1 x2 h
    unfold f_X1_fill_L43
    refine Y.op (pc' := 44) (fun _ => X.iloadn rfl dX1_fill_43) ?_
    refine Y.op (pc' := 45) (fun _ => X.aloadn rfl dX1_fill_44) ?_
    refine Y.getI fd_X1_31 rfl dX1_fill_45 (fun v1 => ?_)
    refine Y.cmpge 106 (by decide) dX1_fill_48 ?_ ?_
    · exact Y.fg (hkE106 h) trivial
    · refine Y.op (pc' := 52) (fun _ => X.ic ki_0 dX1_fill_51) ?_
      refine Y.op (pc' := 53) (loc' := [some (.ref x0), some (.ref x1), some (.int x2), some (.int (0 : Int32))]) (fun _ => X.istoren (Nat.le_of_ble_eq_true rfl) rfl dX1_fill_52) ?_
      exact y_X1_fill_L53 (y_X1_fill_J100 ih hkE106) 5000 x0 x1 x2 (0 : Int32) h
def f_X1_fill_J36 (x0 : Nat) (x1 : Nat) (h : xH) : Option (xH) :=
  (pI h 1 x0 5 (0 : Int32)).bind fun h1 =>
  f_X1_fill_L43 (f_X1_fill_J106) 5000 x0 x1 (0 : Int32) h1
theorem y_X1_fill_J36 {g : xG} {h0 : xH} {cl : Bool} (x0 : Nat) (x1 : Nat) (h : xH) : Y g DX1_fill h0 cl iV (f_X1_fill_J36 x0 x1 h) 36 [some (.ref x0), some (.ref x1), none, none] [] h := by
  unfold f_X1_fill_J36
  refine Y.op (pc' := 37) (fun _ => X.aloadn rfl dX1_fill_36) ?_
  refine Y.op (pc' := 38) (fun _ => X.ic ki_0 dX1_fill_37) ?_
  refine Y.putI fd_X1_27 rfl dX1_fill_38 (fun h1 => ?_)
  refine Y.op (pc' := 42) (fun _ => X.ic ki_0 dX1_fill_41) ?_
  refine Y.op (pc' := 43) (loc' := [some (.ref x0), some (.ref x1), some (.int (0 : Int32)), none]) (fun _ => X.istoren (Nat.le_of_ble_eq_true rfl) rfl dX1_fill_42) ?_
  exact y_X1_fill_L43 (y_X1_fill_J106) 5000 x0 x1 (0 : Int32) h1
def f_X1_fill_L2 (kE36 : Nat → Nat → xH → Option (xH)) : Nat → Nat → Nat → Int32 → xH → Option (xH)
  | 0 => fun _ _ _ _ => none
  | n + 1 => fun x0 x1 x2 h =>
    if x2 ≥ (144 : Int32) then
      kE36 x0 x1 h
    else
      (gR h 1 x0 0).bind fun v1 =>
      (sI h v1 x2 (-1 : Int32)).bind fun h2 =>
      (gR h2 1 x0 1).bind fun v3 =>
      (sI h2 v3 x2 (-1 : Int32)).bind fun h4 =>
      (gR h4 1 x0 2).bind fun v5 =>
      (sI h4 v5 x2 (-1 : Int32)).bind fun h6 =>
      lt (x2 + (1 : Int32)) fun v7 =>
      f_X1_fill_L2 kE36 n x0 x1 v7 h6
theorem y_X1_fill_L2 {g : xG} {h0 : xH} {cl : Bool} {kE36 : Nat → Nat → xH → Option (xH)} (hkE36 : ∀ (x0 : Nat) (x1 : Nat) (h : xH), Y g DX1_fill h0 cl iV (kE36 x0 x1 h) 36 [some (.ref x0), some (.ref x1), none, none] [] h) : ∀ (n : Nat) (x0 : Nat) (x1 : Nat) (x2 : Int32) (h : xH), Y g DX1_fill h0 cl iV (f_X1_fill_L2 kE36 n x0 x1 x2 h) 2 [some (.ref x0), some (.ref x1), some (.int x2), none] [] h := by
  intro n
  induction n with
  | zero => intro x0 x1 x2 h; exact Y.nothing
  | succ n ih =>
    intro x0 x1 x2 h
    unfold f_X1_fill_L2
    refine Y.op (pc' := 3) (fun _ => X.iloadn rfl dX1_fill_2) ?_
    refine Y.op (pc' := 6) (fun _ => X.sp ks_144 dX1_fill_3) ?_
    refine Y.cmpge 36 (by decide) dX1_fill_6 ?_ ?_
    · exact Y.fg (hkE36 x0 x1 h) (And.intro rfl (And.intro rfl trivial))
    · refine Y.op (pc' := 10) (fun _ => X.aloadn rfl dX1_fill_9) ?_
      refine Y.getR fd_X1_9 rfl dX1_fill_10 (fun v1 => ?_)
      refine Y.op (pc' := 14) (fun _ => X.iloadn rfl dX1_fill_13) ?_
      refine Y.op (pc' := 15) (fun _ => X.ic ki_m1 dX1_fill_14) ?_
      refine Y.astI dX1_fill_15 (fun h2 => ?_)
      refine Y.op (pc' := 17) (fun _ => X.aloadn rfl dX1_fill_16) ?_
      refine Y.getR fd_X1_15 rfl dX1_fill_17 (fun v3 => ?_)
      refine Y.op (pc' := 21) (fun _ => X.iloadn rfl dX1_fill_20) ?_
      refine Y.op (pc' := 22) (fun _ => X.ic ki_m1 dX1_fill_21) ?_
      refine Y.astI dX1_fill_22 (fun h4 => ?_)
      refine Y.op (pc' := 24) (fun _ => X.aloadn rfl dX1_fill_23) ?_
      refine Y.getR fd_X1_18 rfl dX1_fill_24 (fun v5 => ?_)
      refine Y.op (pc' := 28) (fun _ => X.iloadn rfl dX1_fill_27) ?_
      refine Y.op (pc' := 29) (fun _ => X.ic ki_m1 dX1_fill_28) ?_
      refine Y.astI dX1_fill_29 (fun h6 => ?_)
      refine Y.iinc (i := 2) (loc' := fun v7 => [some (.ref x0), some (.ref x1), some (.int v7), none]) rfl (Nat.le_of_ble_eq_true rfl) ki_1 (fun _ => rfl) dX1_fill_30 (fun v7 => ?_)
      refine Y.op (pc' := 2) (fun _ => X.goto 2 (by decide) dX1_fill_33) ?_
      exact ih x0 x1 v7 h6
def f_X1_fill (a0 : Nat) (p1 : Nat) (h : xH) : Option (xH) :=
  f_X1_fill_L2 (f_X1_fill_J36) 5000 a0 p1 (0 : Int32) h
theorem y_X1_fill {g : xG} {h0 : xH} {cl : Bool} (a0 : Nat) (p1 : Nat) (h : xH) : Y g DX1_fill h0 cl iV (f_X1_fill a0 p1 h) 0 [some (.ref a0), some (.ref p1), none, none] [] h := by
  unfold f_X1_fill
  refine Y.op (pc' := 1) (fun _ => X.ic ki_0 dX1_fill_0) ?_
  refine Y.op (pc' := 2) (loc' := [some (.ref a0), some (.ref p1), some (.int (0 : Int32)), none]) (fun _ => X.istoren (Nat.le_of_ble_eq_true rfl) rfl dX1_fill_1) ?_
  exact y_X1_fill_L2 (y_X1_fill_J36) 5000 a0 p1 (0 : Int32) h
theorem m_X1_fill {g : xG} (a0 : Nat) (p1 : Nat) (h : xH) (cl : Bool) (r : xH) (e : f_X1_fill a0 p1 h = some r) : XM g DX1_fill [.ref a0, .ref p1] h cl (iV r) := YM.of rfl rfl (Nat.le_of_ble_eq_true rfl) (y_X1_fill a0 p1 h) e
def f_X1_roundOf (a0 : Nat) (p1 : Int32) (p2 : Int32) (h : xH) : Option (Int32 × xH) :=
  (gR h 1 a0 2).bind fun v1 =>
  (f_X1_cellOf v1 p1 p2 h).bind fun r2 =>
  some (r2.1, r2.2)
theorem y_X1_roundOf {g : xG} {h0 : xH} {cl : Bool} (a0 : Nat) (p1 : Int32) (p2 : Int32) (h : xH) : Y g DX1_roundOf h0 cl iI (f_X1_roundOf a0 p1 p2 h) 0 [some (.ref a0), some (.int p1), some (.int p2)] [] h := by
  unfold f_X1_roundOf
  refine Y.op (pc' := 1) (fun _ => X.aloadn rfl dX1_roundOf_0) ?_
  refine Y.getR fd_X1_18 rfl dX1_roundOf_1 (fun v1 => ?_)
  refine Y.op (pc' := 5) (fun _ => X.iloadn rfl dX1_roundOf_4) ?_
  refine Y.op (pc' := 6) (fun _ => X.iloadn rfl dX1_roundOf_5) ?_
  refine Y.callSi (As := [.ref v1, .int p1, .int p2]) lk_X1_50 rfl cal_X1_cellOf sta_X1_cellOf (Nat.le_of_ble_eq_true rfl) rfl rfl (Nat.le_of_ble_eq_true rfl) dX1_roundOf_6 (fun _ e => m_X1_cellOf v1 p1 p2 h _ _ e) (fun r2 => ?_)
  exact Y.ireturn rfl dX1_roundOf_9
theorem m_X1_roundOf {g : xG} (a0 : Nat) (p1 : Int32) (p2 : Int32) (h : xH) (cl : Bool) (r : Int32 × xH) (e : f_X1_roundOf a0 p1 p2 h = some r) : XM g DX1_roundOf [.ref a0, .int p1, .int p2] h cl (iI r) := YM.of rfl rfl (Nat.le_of_ble_eq_true rfl) (y_X1_roundOf a0 p1 p2 h) e
def f_X2_init_J50 (h : xH) : Option (xH) :=
  some h
theorem y_X2_init_J50 {g : xG} {h0 : xH} (h : xH) : Y g DX2_init h0 false iV (f_X2_init_J50 h) 50 [none, none] [] h := by
  unfold f_X2_init_J50
  exact Y.vreturn rfl dX2_init_50
def f_X2_init_L25 (kE50 : xH → Option (xH)) : Nat → Nat → Int32 → xH → Option (xH)
  | 0 => fun _ _ _ => none
  | n + 1 => fun x0 x1 h =>
    if x1 ≥ (15 : Int32) then
      kE50 h
    else
      (gR h 2 x0 0).bind fun v1 =>
      (nwC h (0, dv_X0)).bind fun r2 =>
      (ic r2.2 r2.1 (f_X0_init r2.1 r2.2)).bind fun h3 =>
      (sR h3 v1 x1 r2.1).bind fun h4 =>
      lt (x1 + (1 : Int32)) fun v5 =>
      f_X2_init_L25 kE50 n x0 v5 h4
theorem y_X2_init_L25 {g : xG} {h0 : xH} {kE50 : xH → Option (xH)} (hkE50 : ∀  (h : xH), Y g DX2_init h0 false iV (kE50  h) 50 [none, none] [] h) : ∀ (n : Nat) (x0 : Nat) (x1 : Int32) (h : xH), Y g DX2_init h0 false iV (f_X2_init_L25 kE50 n x0 x1 h) 25 [some (.ref x0), some (.int x1)] [] h := by
  intro n
  induction n with
  | zero => intro x0 x1 h; exact Y.nothing
  | succ n ih =>
    intro x0 x1 h
    unfold f_X2_init_L25
    refine Y.op (pc' := 26) (fun _ => X.iloadn rfl dX2_init_25) ?_
    refine Y.op (pc' := 28) (fun _ => X.bp kb_15 dX2_init_26) ?_
    refine Y.cmpge 50 (by decide) dX2_init_28 ?_ ?_
    · exact Y.fg (hkE50 h) trivial
    · refine Y.op (pc' := 32) (fun _ => X.aloadn rfl dX2_init_31) ?_
      refine Y.getR fd_X2_11 rfl dX2_init_32 (fun v1 => ?_)
      refine Y.op (pc' := 36) (fun _ => X.iloadn rfl dX2_init_35) ?_
      refine Y.new wn_X2_9 rfl rfl dX2_init_36 (fun r2 => ?_)
      refine Y.op (pc' := 40) (fun _ => X.dup rfl dX2_init_39) ?_
      refine Y.callIv (As := []) lk_X2_24 rfl cal_X0_init ini_X0_init (Nat.le_of_ble_eq_true rfl) rfl rfl (Nat.le_of_ble_eq_true rfl) dX2_init_40 (fun _ e => m_X0_init r2.1 r2.2 _ e) (fun h3 => ?_)
      refine Y.astR dX2_init_43 (fun h4 => ?_)
      refine Y.iinc (i := 1) (loc' := fun v5 => [some (.ref x0), some (.int v5)]) rfl (Nat.le_of_ble_eq_true rfl) ki_1 (fun _ => rfl) dX2_init_44 (fun v5 => ?_)
      refine Y.op (pc' := 25) (fun _ => X.goto 25 (by decide) dX2_init_47) ?_
      exact ih x0 v5 h4
def f_X2_init (a0 : Nat) (h : xH) : Option (xH) :=
  (nwQ h (15 : Int32)).bind fun r1 =>
  (pR r1.2 2 a0 0 r1.1).bind fun h2 =>
  (pI h2 2 a0 1 (0 : Int32)).bind fun h3 =>
  (pI h3 2 a0 2 (0 : Int32)).bind fun h4 =>
  f_X2_init_L25 (f_X2_init_J50) 5000 a0 (0 : Int32) h4
theorem y_X2_init {g : xG} {h0 : xH} (a0 : Nat) (h : xH) : Y g DX2_init h0 false iV (f_X2_init a0 h) 0 [some (.ref a0), none] [] h := by
  unfold f_X2_init
  refine Y.op (pc' := 1) (fun _ => X.aloadn rfl dX2_init_0) ?_
  refine Y.op (pc' := 4) (fun _ => X.objInit wo_X2 rfl (Nat.le_of_ble_eq_true rfl) (Nat.le_of_ble_eq_true rfl) dX2_init_1) ?_
  refine Y.op (pc' := 5) (fun _ => X.aloadn rfl dX2_init_4) ?_
  refine Y.op (pc' := 7) (fun _ => X.bp kb_15 dX2_init_5) ?_
  refine Y.newQ wq_X2_9 rfl dX2_init_7 (fun r1 => ?_)
  refine Y.putR ff_X2_11 rfl rfl (fun _ => rfl) (fun _ => rfl) dX2_init_10 (fun h2 => ?_)
  refine Y.op (pc' := 14) (fun _ => X.aloadn rfl dX2_init_13) ?_
  refine Y.op (pc' := 15) (fun _ => X.ic ki_0 dX2_init_14) ?_
  refine Y.putI fd_X2_17 rfl dX2_init_15 (fun h3 => ?_)
  refine Y.op (pc' := 19) (fun _ => X.aloadn rfl dX2_init_18) ?_
  refine Y.op (pc' := 20) (fun _ => X.ic ki_0 dX2_init_19) ?_
  refine Y.putI fd_X2_21 rfl dX2_init_20 (fun h4 => ?_)
  refine Y.op (pc' := 24) (fun _ => X.ic ki_0 dX2_init_23) ?_
  refine Y.op (pc' := 25) (loc' := [some (.ref a0), some (.int (0 : Int32))]) (fun _ => X.istoren (Nat.le_of_ble_eq_true rfl) rfl dX2_init_24) ?_
  exact y_X2_init_L25 (y_X2_init_J50) 5000 a0 (0 : Int32) h4
theorem m_X2_init {g : xG} (a0 : Nat) (h : xH) (r : xH) (e : f_X2_init a0 h = some r) : XM g DX2_init [.ref a0] h false (iV r) := YM.of rfl rfl (Nat.le_of_ble_eq_true rfl) (y_X2_init a0 h) e
def f_X2_bookAt_J20 (s0 : Option Nat) (h : xH) : Option (Option Nat × xH) :=
  some (s0, h)
theorem y_X2_bookAt_J20 {g : xG} {h0 : xH} {cl : Bool} (s0 : Option Nat) (h : xH) : Y g DX2_bookAt h0 cl iN (f_X2_bookAt_J20 s0 h) 20 [none, none] [rv s0] h := by
  unfold f_X2_bookAt_J20
  exact Y.areturn rfl dX2_bookAt_20
def f_X2_bookAt_J19 (h : xH) : Option (Option Nat × xH) :=
  f_X2_bookAt_J20 none h
theorem y_X2_bookAt_J19 {g : xG} {h0 : xH} {cl : Bool} (h : xH) : Y g DX2_bookAt h0 cl iN (f_X2_bookAt_J19 h) 19 [none, none] [] h := by
  unfold f_X2_bookAt_J19
  refine Y.op (pc' := 20) (fun _ => X.anull dX2_bookAt_19) ?_
  exact y_X2_bookAt_J20 none h
def f_X2_bookAt (a0 : Nat) (p1 : Int32) (h : xH) : Option (Option Nat × xH) :=
  if p1 < (0 : Int32) then
    f_X2_bookAt_J19 h
  else
    if p1 ≥ (15 : Int32) then
      f_X2_bookAt_J19 h
    else
      (gR h 2 a0 0).bind fun v1 =>
      (aR 105 h v1 p1).bind fun v2 =>
      f_X2_bookAt_J20 (some v2) h
theorem y_X2_bookAt {g : xG} {h0 : xH} {cl : Bool} (a0 : Nat) (p1 : Int32) (h : xH) : Y g DX2_bookAt h0 cl iN (f_X2_bookAt a0 p1 h) 0 [some (.ref a0), some (.int p1)] [] h := by
  unfold f_X2_bookAt
  refine Y.op (pc' := 1) (fun _ => X.iloadn rfl dX2_bookAt_0) ?_
  refine Y.iflt 19 (by decide) dX2_bookAt_1 ?_ ?_
  · exact Y.fg (y_X2_bookAt_J19 h) trivial
  · refine Y.op (pc' := 5) (fun _ => X.iloadn rfl dX2_bookAt_4) ?_
    refine Y.op (pc' := 7) (fun _ => X.bp kb_15 dX2_bookAt_5) ?_
    refine Y.cmpge 19 (by decide) dX2_bookAt_7 ?_ ?_
    · exact Y.fg (y_X2_bookAt_J19 h) trivial
    · refine Y.op (pc' := 11) (fun _ => X.aloadn rfl dX2_bookAt_10) ?_
      refine Y.getR fd_X2_11 rfl dX2_bookAt_11 (fun v1 => ?_)
      refine Y.op (pc' := 15) (fun _ => X.iloadn rfl dX2_bookAt_14) ?_
      refine Y.aldR 105 (by decide) (by decide) dX2_bookAt_15 (fun v2 => ?_)
      refine Y.op (pc' := 20) (fun _ => X.goto 20 (by decide) dX2_bookAt_16) ?_
      exact Y.fg (y_X2_bookAt_J20 (some v2) h) trivial
theorem m_X2_bookAt {g : xG} (a0 : Nat) (p1 : Int32) (h : xH) (cl : Bool) (r : Option Nat × xH) (e : f_X2_bookAt a0 p1 h = some r) : XM g DX2_bookAt [.ref a0, .int p1] h cl (iN r) := YM.of rfl rfl (Nat.le_of_ble_eq_true rfl) (y_X2_bookAt a0 p1 h) e
def f_X2_save_J67 (h : xH) : Option (xH) :=
  some h
theorem y_X2_save_J67 {g : xG} {h0 : xH} {cl : Bool} (h : xH) : Y g DX2_save h0 cl iV (f_X2_save_J67 h) 67 [none, none, none] [] h := by
  unfold f_X2_save_J67
  exact Y.vreturn rfl dX2_save_67
def f_X2_save_J64 (s0 : Nat) (s1 : Int32) (h : xH) : Option (xH) :=
  (pI h 2 s0 2 s1).bind fun h1 =>
  f_X2_save_J67 h1
theorem y_X2_save_J64 {g : xG} {h0 : xH} {cl : Bool} (s0 : Nat) (s1 : Int32) (h : xH) : Y g DX2_save h0 cl iV (f_X2_save_J64 s0 s1 h) 64 [none, none, none] [.int s1, .ref s0] h := by
  unfold f_X2_save_J64
  refine Y.putI fd_X2_21 rfl dX2_save_64 (fun h1 => ?_)
  exact y_X2_save_J67 h1
def f_X2_save_J40 (x0 : Nat) (s0 : Nat) (s1 : Int32) (h : xH) : Option (xH) :=
  (pI h 2 s0 1 s1).bind fun h1 =>
  (gI h1 2 x0 2).bind fun v2 =>
  if v2 ≥ (15 : Int32) then
    f_X2_save_J64 x0 (15 : Int32) h1
  else
    (gI h1 2 x0 2).bind fun v3 =>
    f_X2_save_J64 x0 (v3 + (1 : Int32)) h1
theorem y_X2_save_J40 {g : xG} {h0 : xH} {cl : Bool} (x0 : Nat) (s0 : Nat) (s1 : Int32) (h : xH) : Y g DX2_save h0 cl iV (f_X2_save_J40 x0 s0 s1 h) 40 [some (.ref x0), none, none] [.int s1, .ref s0] h := by
  unfold f_X2_save_J40
  refine Y.putI fd_X2_17 rfl dX2_save_40 (fun h1 => ?_)
  refine Y.op (pc' := 44) (fun _ => X.aloadn rfl dX2_save_43) ?_
  refine Y.op (pc' := 45) (fun _ => X.aloadn rfl dX2_save_44) ?_
  refine Y.getI fd_X2_21 rfl dX2_save_45 (fun v2 => ?_)
  refine Y.op (pc' := 50) (fun _ => X.bp kb_15 dX2_save_48) ?_
  refine Y.cmpge 62 (by decide) dX2_save_50 ?_ ?_
  · refine Y.op (pc' := 64) (fun _ => X.bp kb_15 dX2_save_62) ?_
    exact Y.fg (y_X2_save_J64 x0 (15 : Int32) h1) trivial
  · refine Y.op (pc' := 54) (fun _ => X.aloadn rfl dX2_save_53) ?_
    refine Y.getI fd_X2_21 rfl dX2_save_54 (fun v3 => ?_)
    refine Y.op (pc' := 58) (fun _ => X.ic ki_1 dX2_save_57) ?_
    refine Y.op (pc' := 59) (fun _ => X.iadd dX2_save_58) ?_
    refine Y.op (pc' := 64) (fun _ => X.goto 64 (by decide) dX2_save_59) ?_
    exact Y.fg (y_X2_save_J64 x0 (v3 + (1 : Int32)) h1) trivial
def f_X2_save (a0 : Nat) (p1 : Nat) (h : xH) : Option (xH) :=
  (gI h 2 a0 1).bind fun v1 =>
  (vc h 2 a0 (f_X2_bookAt a0 v1 h)).bind fun r2 =>
  nl r2.1
    (f_X2_save_J67 r2.2)
    (fun b3 =>
    (vc r2.2 0 b3 (f_X0_copy b3 p1 r2.2)).bind fun h4 =>
    (gI h4 2 a0 1).bind fun v5 =>
    if (v5 + (1 : Int32)) ≥ (15 : Int32) then
      f_X2_save_J40 a0 a0 (0 : Int32) h4
    else
      (gI h4 2 a0 1).bind fun v6 =>
      f_X2_save_J40 a0 a0 (v6 + (1 : Int32)) h4)
theorem y_X2_save {g : xG} {h0 : xH} {cl : Bool} (a0 : Nat) (p1 : Nat) (h : xH) : Y g DX2_save h0 cl iV (f_X2_save a0 p1 h) 0 [some (.ref a0), some (.ref p1), none] [] h := by
  unfold f_X2_save
  refine Y.op (pc' := 1) (fun _ => X.aloadn rfl dX2_save_0) ?_
  refine Y.op (pc' := 2) (fun _ => X.aloadn rfl dX2_save_1) ?_
  refine Y.getI fd_X2_17 rfl dX2_save_2 (fun v1 => ?_)
  refine Y.callVn (As := [.int v1]) lk_X2_25 rfl cal_X2_bookAt vir_X2_bookAt (Nat.le_of_ble_eq_true rfl) (Nat.le_of_ble_eq_true rfl) rfl rfl rfl (Nat.le_of_ble_eq_true rfl) dX2_save_5 (fun _ e => m_X2_bookAt a0 v1 h _ _ e) (fun r2 => ?_)
  refine Y.op (pc' := 9) (loc' := [some (.ref a0), some (.ref p1), some (rv r2.1)]) (fun _ => X.astoreO (Nat.le_of_ble_eq_true rfl) rfl dX2_save_8) ?_
  refine Y.op (pc' := 10) (fun _ => X.aloadO rfl dX2_save_9) ?_
  generalize r2.1 = o_b3
  cases o_b3 with
  | none =>
    refine Y.op (pc' := 67) (fun _ => X.ifnullN 67 (by decide) dX2_save_10) ?_
    exact Y.fg (y_X2_save_J67 r2.2) trivial
  | some b3 =>
    refine Y.op (pc' := 13) (fun _ => X.ifnullR dX2_save_10) ?_
    refine Y.op (pc' := 14) (fun _ => X.aloadn rfl dX2_save_13) ?_
    refine Y.op (pc' := 15) (fun _ => X.aloadn rfl dX2_save_14) ?_
    refine Y.callVv (As := [.ref p1]) lk_X2_29 rfl cal_X0_copy vir_X0_copy (Nat.le_of_ble_eq_true rfl) (Nat.le_of_ble_eq_true rfl) rfl rfl rfl (Nat.le_of_ble_eq_true rfl) dX2_save_15 (fun _ e => m_X0_copy b3 p1 r2.2 _ _ e) (fun h4 => ?_)
    refine Y.op (pc' := 19) (fun _ => X.aloadn rfl dX2_save_18) ?_
    refine Y.op (pc' := 20) (fun _ => X.aloadn rfl dX2_save_19) ?_
    refine Y.getI fd_X2_17 rfl dX2_save_20 (fun v5 => ?_)
    refine Y.op (pc' := 24) (fun _ => X.ic ki_1 dX2_save_23) ?_
    refine Y.op (pc' := 25) (fun _ => X.iadd dX2_save_24) ?_
    refine Y.op (pc' := 27) (fun _ => X.bp kb_15 dX2_save_25) ?_
    refine Y.cmpge 39 (by decide) dX2_save_27 ?_ ?_
    · refine Y.op (pc' := 40) (fun _ => X.ic ki_0 dX2_save_39) ?_
      exact Y.fg (y_X2_save_J40 a0 a0 (0 : Int32) h4) (And.intro rfl trivial)
    · refine Y.op (pc' := 31) (fun _ => X.aloadn rfl dX2_save_30) ?_
      refine Y.getI fd_X2_17 rfl dX2_save_31 (fun v6 => ?_)
      refine Y.op (pc' := 35) (fun _ => X.ic ki_1 dX2_save_34) ?_
      refine Y.op (pc' := 36) (fun _ => X.iadd dX2_save_35) ?_
      refine Y.op (pc' := 40) (fun _ => X.goto 40 (by decide) dX2_save_36) ?_
      exact Y.fg (y_X2_save_J40 a0 a0 (v6 + (1 : Int32)) h4) (And.intro rfl trivial)
theorem m_X2_save {g : xG} (a0 : Nat) (p1 : Nat) (h : xH) (cl : Bool) (r : xH) (e : f_X2_save a0 p1 h = some r) : XM g DX2_save [.ref a0, .ref p1] h cl (iV r) := YM.of rfl rfl (Nat.le_of_ble_eq_true rfl) (y_X2_save a0 p1 h) e
def f_X2_takeBack_J36 (h : xH) : Option (Int32 × xH) :=
  if (0 : Int32) = 0 ∨ (0 : Int32) = 1 then some ((0 : Int32), h) else none
theorem y_X2_takeBack_J36 {g : xG} {h0 : xH} {cl : Bool} (h : xH) : Y g DX2_takeBack h0 cl iI (f_X2_takeBack_J36 h) 36 [none, none, none, none] [] h := by
  unfold f_X2_takeBack_J36
  refine Y.op (pc' := 37) (fun _ => X.ic ki_0 dX2_takeBack_36) ?_
  exact Y.zreturn rfl dX2_takeBack_37
def f_X2_takeBack_J18 (x0 : Nat) (x1 : Nat) (s0 : Int32) (h : xH) : Option (Int32 × xH) :=
  (vc h 2 x0 (f_X2_bookAt x0 s0 h)).bind fun r1 =>
  (gI r1.2 2 x0 2).bind fun v2 =>
  if v2 = (0 : Int32) then
    f_X2_takeBack_J36 r1.2
  else
    nl r1.1
      (f_X2_takeBack_J36 r1.2)
      (fun b3 =>
      (vc r1.2 0 x1 (f_X0_copy x1 b3 r1.2)).bind fun h4 =>
      (pI h4 2 x0 1 s0).bind fun h5 =>
      (gI h5 2 x0 2).bind fun v6 =>
      (pI h5 2 x0 2 (v6 - (1 : Int32))).bind fun h7 =>
      if (1 : Int32) = 0 ∨ (1 : Int32) = 1 then some ((1 : Int32), h7) else none)
theorem y_X2_takeBack_J18 {g : xG} {h0 : xH} {cl : Bool} (x0 : Nat) (x1 : Nat) (s0 : Int32) (h : xH) : Y g DX2_takeBack h0 cl iI (f_X2_takeBack_J18 x0 x1 s0 h) 18 [some (.ref x0), some (.ref x1), none, none] [.int s0] h := by
  unfold f_X2_takeBack_J18
  refine Y.op (pc' := 19) (loc' := [some (.ref x0), some (.ref x1), some (.int s0), none]) (fun _ => X.istoren (Nat.le_of_ble_eq_true rfl) rfl dX2_takeBack_18) ?_
  refine Y.op (pc' := 20) (fun _ => X.aloadn rfl dX2_takeBack_19) ?_
  refine Y.op (pc' := 21) (fun _ => X.iloadn rfl dX2_takeBack_20) ?_
  refine Y.callVn (As := [.int s0]) lk_X2_25 rfl cal_X2_bookAt vir_X2_bookAt (Nat.le_of_ble_eq_true rfl) (Nat.le_of_ble_eq_true rfl) rfl rfl rfl (Nat.le_of_ble_eq_true rfl) dX2_takeBack_21 (fun _ e => m_X2_bookAt x0 s0 h _ _ e) (fun r1 => ?_)
  refine Y.op (pc' := 25) (loc' := [some (.ref x0), some (.ref x1), some (.int s0), some (rv r1.1)]) (fun _ => X.astoreO (Nat.le_of_ble_eq_true rfl) rfl dX2_takeBack_24) ?_
  refine Y.op (pc' := 26) (fun _ => X.aloadn rfl dX2_takeBack_25) ?_
  refine Y.getI fd_X2_21 rfl dX2_takeBack_26 (fun v2 => ?_)
  refine Y.ifeq 36 (by decide) dX2_takeBack_29 ?_ ?_
  · exact Y.fg (y_X2_takeBack_J36 r1.2) trivial
  · refine Y.op (pc' := 33) (fun _ => X.aloadO rfl dX2_takeBack_32) ?_
    generalize r1.1 = o_b3
    cases o_b3 with
    | none =>
      refine Y.op (pc' := 36) (fun _ => X.ifnonnullN dX2_takeBack_33) ?_
      exact Y.fg (y_X2_takeBack_J36 r1.2) trivial
    | some b3 =>
      refine Y.op (pc' := 38) (fun _ => X.ifnonnullR 38 (by decide) dX2_takeBack_33) ?_
      refine Y.op (pc' := 39) (fun _ => X.aloadn rfl dX2_takeBack_38) ?_
      refine Y.op (pc' := 40) (fun _ => X.aloadn rfl dX2_takeBack_39) ?_
      refine Y.callVv (As := [.ref b3]) lk_X2_29 rfl cal_X0_copy vir_X0_copy (Nat.le_of_ble_eq_true rfl) (Nat.le_of_ble_eq_true rfl) rfl rfl rfl (Nat.le_of_ble_eq_true rfl) dX2_takeBack_40 (fun _ e => m_X0_copy x1 b3 r1.2 _ _ e) (fun h4 => ?_)
      refine Y.op (pc' := 44) (fun _ => X.aloadn rfl dX2_takeBack_43) ?_
      refine Y.op (pc' := 45) (fun _ => X.iloadn rfl dX2_takeBack_44) ?_
      refine Y.putI fd_X2_17 rfl dX2_takeBack_45 (fun h5 => ?_)
      refine Y.op (pc' := 49) (fun _ => X.aloadn rfl dX2_takeBack_48) ?_
      refine Y.op (pc' := 50) (fun _ => X.dup rfl dX2_takeBack_49) ?_
      refine Y.getI fd_X2_21 rfl dX2_takeBack_50 (fun v6 => ?_)
      refine Y.op (pc' := 54) (fun _ => X.ic ki_1 dX2_takeBack_53) ?_
      refine Y.op (pc' := 55) (fun _ => X.isub dX2_takeBack_54) ?_
      refine Y.putI fd_X2_21 rfl dX2_takeBack_55 (fun h7 => ?_)
      refine Y.op (pc' := 59) (fun _ => X.ic ki_1 dX2_takeBack_58) ?_
      exact Y.zreturn rfl dX2_takeBack_59
def f_X2_takeBack (a0 : Nat) (p1 : Nat) (h : xH) : Option (Int32 × xH) :=
  (gI h 2 a0 1).bind fun v1 =>
  if v1 ≤ (0 : Int32) then
    f_X2_takeBack_J18 a0 p1 (14 : Int32) h
  else
    (gI h 2 a0 1).bind fun v2 =>
    f_X2_takeBack_J18 a0 p1 (v2 - (1 : Int32)) h
theorem y_X2_takeBack {g : xG} {h0 : xH} {cl : Bool} (a0 : Nat) (p1 : Nat) (h : xH) : Y g DX2_takeBack h0 cl iI (f_X2_takeBack a0 p1 h) 0 [some (.ref a0), some (.ref p1), none, none] [] h := by
  unfold f_X2_takeBack
  refine Y.op (pc' := 1) (fun _ => X.aloadn rfl dX2_takeBack_0) ?_
  refine Y.getI fd_X2_17 rfl dX2_takeBack_1 (fun v1 => ?_)
  refine Y.ifle 16 (by decide) dX2_takeBack_4 ?_ ?_
  · refine Y.op (pc' := 18) (fun _ => X.bp kb_14 dX2_takeBack_16) ?_
    exact y_X2_takeBack_J18 a0 p1 (14 : Int32) h
  · refine Y.op (pc' := 8) (fun _ => X.aloadn rfl dX2_takeBack_7) ?_
    refine Y.getI fd_X2_17 rfl dX2_takeBack_8 (fun v2 => ?_)
    refine Y.op (pc' := 12) (fun _ => X.ic ki_1 dX2_takeBack_11) ?_
    refine Y.op (pc' := 13) (fun _ => X.isub dX2_takeBack_12) ?_
    refine Y.op (pc' := 18) (fun _ => X.goto 18 (by decide) dX2_takeBack_13) ?_
    exact y_X2_takeBack_J18 a0 p1 (v2 - (1 : Int32)) h
theorem m_X2_takeBack {g : xG} (a0 : Nat) (p1 : Nat) (h : xH) (cl : Bool) (r : Int32 × xH) (e : f_X2_takeBack a0 p1 h = some r) : XM g DX2_takeBack [.ref a0, .ref p1] h cl (iI r) := YM.of rfl rfl (Nat.le_of_ble_eq_true rfl) (y_X2_takeBack a0 p1 h) e
def f_X3_join_J60 (x0 : Nat) (x1 : Int32) (x2 : Int32) (h : xH) : Option (xH) :=
  (gR h 3 x0 0).bind fun v1 =>
  (sI h v1 x1 x2).bind fun h2 =>
  (gR h2 3 x0 1).bind fun v3 =>
  (sI h2 v3 x2 x1).bind fun h4 =>
  some h4
theorem y_X3_join_J60 {g : xG} {h0 : xH} {cl : Bool} (x0 : Nat) (x1 : Int32) (x2 : Int32) (h : xH) : Y g DX3_join h0 cl iV (f_X3_join_J60 x0 x1 x2 h) 60 [some (.ref x0), some (.int x1), some (.int x2), none, none] [] h := by
  unfold f_X3_join_J60
  refine Y.op (pc' := 61) (fun _ => X.aloadn rfl dX3_join_60) ?_
  refine Y.getR fd_X3_9 rfl dX3_join_61 (fun v1 => ?_)
  refine Y.op (pc' := 65) (fun _ => X.iloadn rfl dX3_join_64) ?_
  refine Y.op (pc' := 66) (fun _ => X.iloadn rfl dX3_join_65) ?_
  refine Y.astI dX3_join_66 (fun h2 => ?_)
  refine Y.op (pc' := 68) (fun _ => X.aloadn rfl dX3_join_67) ?_
  refine Y.getR fd_X3_15 rfl dX3_join_68 (fun v3 => ?_)
  refine Y.op (pc' := 72) (fun _ => X.iloadn rfl dX3_join_71) ?_
  refine Y.op (pc' := 73) (fun _ => X.iloadn rfl dX3_join_72) ?_
  refine Y.astI dX3_join_73 (fun h4 => ?_)
  exact Y.vreturn rfl dX3_join_74
def f_X3_join_J44 (x0 : Nat) (x1 : Int32) (x2 : Int32) (x4 : Int32) (h : xH) : Option (xH) :=
  (f_X9_inLimit x4 h).bind fun r1 =>
  if r1.1 = (0 : Int32) then
    f_X3_join_J60 x0 x1 x2 r1.2
  else
    (gR r1.2 3 x0 0).bind fun v2 =>
    (sI r1.2 v2 x4 (-1 : Int32)).bind fun h3 =>
    f_X3_join_J60 x0 x1 x2 h3
theorem y_X3_join_J44 {g : xG} {h0 : xH} {cl : Bool} (x0 : Nat) (x1 : Int32) (x2 : Int32) (x4 : Int32) (h : xH) : Y g DX3_join h0 cl iV (f_X3_join_J44 x0 x1 x2 x4 h) 44 [some (.ref x0), some (.int x1), some (.int x2), none, some (.int x4)] [] h := by
  unfold f_X3_join_J44
  refine Y.op (pc' := 46) (fun _ => X.iload rfl dX3_join_44) ?_
  refine Y.callSi (As := [.int x4]) lk_X3_21 rfl cal_X9_inLimit sta_X9_inLimit (Nat.le_of_ble_eq_true rfl) rfl rfl (Nat.le_of_ble_eq_true rfl) dX3_join_46 (fun _ e => m_X9_inLimit x4 h _ _ e) (fun r1 => ?_)
  refine Y.ifeq 60 (by decide) dX3_join_49 ?_ ?_
  · exact Y.fg (y_X3_join_J60 x0 x1 x2 r1.2) (And.intro rfl (And.intro rfl (And.intro rfl trivial)))
  · refine Y.op (pc' := 53) (fun _ => X.aloadn rfl dX3_join_52) ?_
    refine Y.getR fd_X3_9 rfl dX3_join_53 (fun v2 => ?_)
    refine Y.op (pc' := 58) (fun _ => X.iload rfl dX3_join_56) ?_
    refine Y.op (pc' := 59) (fun _ => X.ic ki_m1 dX3_join_58) ?_
    refine Y.astI dX3_join_59 (fun h3 => ?_)
    exact Y.fg (y_X3_join_J60 x0 x1 x2 h3) (And.intro rfl (And.intro rfl (And.intro rfl trivial)))
def f_X3_join_J14 (h : xH) : Option (xH) :=
  some h
theorem y_X3_join_J14 {g : xG} {h0 : xH} {cl : Bool} (h : xH) : Y g DX3_join h0 cl iV (f_X3_join_J14 h) 14 [none, none, none, none, none] [] h := by
  unfold f_X3_join_J14
  exact Y.vreturn rfl dX3_join_14
def f_X3_join (a0 : Nat) (p1 : Int32) (p2 : Int32) (h : xH) : Option (xH) :=
  (f_X9_inLimit p1 h).bind fun r1 =>
  if r1.1 = (0 : Int32) then
    f_X3_join_J14 r1.2
  else
    (f_X9_inLimit p2 r1.2).bind fun r2 =>
    if r2.1 = (0 : Int32) then
      f_X3_join_J14 r2.2
    else
      (gR r2.2 3 a0 0).bind fun v3 =>
      (aI r2.2 v3 p1).bind fun v4 =>
      (gR r2.2 3 a0 1).bind fun v5 =>
      (aI r2.2 v5 p2).bind fun v6 =>
      (f_X9_inLimit v4 r2.2).bind fun r7 =>
      if r7.1 = (0 : Int32) then
        f_X3_join_J44 a0 p1 p2 v6 r7.2
      else
        (gR r7.2 3 a0 1).bind fun v8 =>
        (sI r7.2 v8 v4 (-1 : Int32)).bind fun h9 =>
        f_X3_join_J44 a0 p1 p2 v6 h9
theorem y_X3_join {g : xG} {h0 : xH} {cl : Bool} (a0 : Nat) (p1 : Int32) (p2 : Int32) (h : xH) : Y g DX3_join h0 cl iV (f_X3_join a0 p1 p2 h) 0 [some (.ref a0), some (.int p1), some (.int p2), none, none] [] h := by
  unfold f_X3_join
  refine Y.op (pc' := 1) (fun _ => X.iloadn rfl dX3_join_0) ?_
  refine Y.callSi (As := [.int p1]) lk_X3_21 rfl cal_X9_inLimit sta_X9_inLimit (Nat.le_of_ble_eq_true rfl) rfl rfl (Nat.le_of_ble_eq_true rfl) dX3_join_1 (fun _ e => m_X9_inLimit p1 h _ _ e) (fun r1 => ?_)
  refine Y.ifeq 14 (by decide) dX3_join_4 ?_ ?_
  · exact Y.fg (y_X3_join_J14 r1.2) trivial
  · refine Y.op (pc' := 8) (fun _ => X.iloadn rfl dX3_join_7) ?_
    refine Y.callSi (As := [.int p2]) lk_X3_21 rfl cal_X9_inLimit sta_X9_inLimit (Nat.le_of_ble_eq_true rfl) rfl rfl (Nat.le_of_ble_eq_true rfl) dX3_join_8 (fun _ e => m_X9_inLimit p2 r1.2 _ _ e) (fun r2 => ?_)
    refine Y.ifne 15 (by decide) dX3_join_11 ?_ ?_
    · refine Y.op (pc' := 16) (fun _ => X.aloadn rfl dX3_join_15) ?_
      refine Y.getR fd_X3_9 rfl dX3_join_16 (fun v3 => ?_)
      refine Y.op (pc' := 20) (fun _ => X.iloadn rfl dX3_join_19) ?_
      refine Y.aldI dX3_join_20 (fun v4 => ?_)
      refine Y.op (pc' := 22) (loc' := [some (.ref a0), some (.int p1), some (.int p2), some (.int v4), none]) (fun _ => X.istoren (Nat.le_of_ble_eq_true rfl) rfl dX3_join_21) ?_
      refine Y.op (pc' := 23) (fun _ => X.aloadn rfl dX3_join_22) ?_
      refine Y.getR fd_X3_15 rfl dX3_join_23 (fun v5 => ?_)
      refine Y.op (pc' := 27) (fun _ => X.iloadn rfl dX3_join_26) ?_
      refine Y.aldI dX3_join_27 (fun v6 => ?_)
      refine Y.op (pc' := 30) (loc' := [some (.ref a0), some (.int p1), some (.int p2), some (.int v4), some (.int v6)]) (fun _ => X.istore (Nat.le_of_ble_eq_true rfl) rfl dX3_join_28) ?_
      refine Y.op (pc' := 31) (fun _ => X.iloadn rfl dX3_join_30) ?_
      refine Y.callSi (As := [.int v4]) lk_X3_21 rfl cal_X9_inLimit sta_X9_inLimit (Nat.le_of_ble_eq_true rfl) rfl rfl (Nat.le_of_ble_eq_true rfl) dX3_join_31 (fun _ e => m_X9_inLimit v4 r2.2 _ _ e) (fun r7 => ?_)
      refine Y.ifeq 44 (by decide) dX3_join_34 ?_ ?_
      · exact Y.fg (y_X3_join_J44 a0 p1 p2 v6 r7.2) (And.intro rfl (And.intro rfl (And.intro rfl (And.intro rfl trivial))))
      · refine Y.op (pc' := 38) (fun _ => X.aloadn rfl dX3_join_37) ?_
        refine Y.getR fd_X3_15 rfl dX3_join_38 (fun v8 => ?_)
        refine Y.op (pc' := 42) (fun _ => X.iloadn rfl dX3_join_41) ?_
        refine Y.op (pc' := 43) (fun _ => X.ic ki_m1 dX3_join_42) ?_
        refine Y.astI dX3_join_43 (fun h9 => ?_)
        exact Y.fg (y_X3_join_J44 a0 p1 p2 v6 h9) (And.intro rfl (And.intro rfl (And.intro rfl (And.intro rfl trivial))))
    · exact Y.fg (y_X3_join_J14 r2.2) trivial
theorem m_X3_join {g : xG} (a0 : Nat) (p1 : Int32) (p2 : Int32) (h : xH) (cl : Bool) (r : xH) (e : f_X3_join a0 p1 p2 h = some r) : XM g DX3_join [.ref a0, .int p1, .int p2] h cl (iV r) := YM.of rfl rfl (Nat.le_of_ble_eq_true rfl) (y_X3_join a0 p1 p2 h) e
def f_X3_swap (a0 : Nat) (p1 : Int32) (p2 : Int32) (h : xH) : Option (xH) :=
  (vc h 3 a0 (f_X3_taskOf a0 p1 h)).bind fun r1 =>
  (vc r1.2 3 a0 (f_X3_taskOf a0 p2 r1.2)).bind fun r2 =>
  (vc r2.2 3 a0 (f_X3_join a0 p1 r2.1 r2.2)).bind fun h3 =>
  (vc h3 3 a0 (f_X3_join a0 p2 r1.1 h3)).bind fun h4 =>
  some h4
theorem y_X3_swap {g : xG} {h0 : xH} {cl : Bool} (a0 : Nat) (p1 : Int32) (p2 : Int32) (h : xH) : Y g DX3_swap h0 cl iV (f_X3_swap a0 p1 p2 h) 0 [some (.ref a0), some (.int p1), some (.int p2), none, none] [] h := by
  unfold f_X3_swap
  refine Y.op (pc' := 1) (fun _ => X.aloadn rfl dX3_swap_0) ?_
  refine Y.op (pc' := 2) (fun _ => X.iloadn rfl dX3_swap_1) ?_
  refine Y.callVi (As := [.int p1]) lk_X3_25 rfl cal_X3_taskOf vir_X3_taskOf (Nat.le_of_ble_eq_true rfl) (Nat.le_of_ble_eq_true rfl) rfl rfl rfl (Nat.le_of_ble_eq_true rfl) dX3_swap_2 (fun _ e => m_X3_taskOf a0 p1 h _ _ e) (fun r1 => ?_)
  refine Y.op (pc' := 6) (loc' := [some (.ref a0), some (.int p1), some (.int p2), some (.int r1.1), none]) (fun _ => X.istoren (Nat.le_of_ble_eq_true rfl) rfl dX3_swap_5) ?_
  refine Y.op (pc' := 7) (fun _ => X.aloadn rfl dX3_swap_6) ?_
  refine Y.op (pc' := 8) (fun _ => X.iloadn rfl dX3_swap_7) ?_
  refine Y.callVi (As := [.int p2]) lk_X3_25 rfl cal_X3_taskOf vir_X3_taskOf (Nat.le_of_ble_eq_true rfl) (Nat.le_of_ble_eq_true rfl) rfl rfl rfl (Nat.le_of_ble_eq_true rfl) dX3_swap_8 (fun _ e => m_X3_taskOf a0 p2 r1.2 _ _ e) (fun r2 => ?_)
  refine Y.op (pc' := 13) (loc' := [some (.ref a0), some (.int p1), some (.int p2), some (.int r1.1), some (.int r2.1)]) (fun _ => X.istore (Nat.le_of_ble_eq_true rfl) rfl dX3_swap_11) ?_
  refine Y.op (pc' := 14) (fun _ => X.aloadn rfl dX3_swap_13) ?_
  refine Y.op (pc' := 15) (fun _ => X.iloadn rfl dX3_swap_14) ?_
  refine Y.op (pc' := 17) (fun _ => X.iload rfl dX3_swap_15) ?_
  refine Y.callVv (As := [.int p1, .int r2.1]) lk_X3_36 rfl cal_X3_join vir_X3_join (Nat.le_of_ble_eq_true rfl) (Nat.le_of_ble_eq_true rfl) rfl rfl rfl (Nat.le_of_ble_eq_true rfl) dX3_swap_17 (fun _ e => m_X3_join a0 p1 r2.1 r2.2 _ _ e) (fun h3 => ?_)
  refine Y.op (pc' := 21) (fun _ => X.aloadn rfl dX3_swap_20) ?_
  refine Y.op (pc' := 22) (fun _ => X.iloadn rfl dX3_swap_21) ?_
  refine Y.op (pc' := 23) (fun _ => X.iloadn rfl dX3_swap_22) ?_
  refine Y.callVv (As := [.int p2, .int r1.1]) lk_X3_36 rfl cal_X3_join vir_X3_join (Nat.le_of_ble_eq_true rfl) (Nat.le_of_ble_eq_true rfl) rfl rfl rfl (Nat.le_of_ble_eq_true rfl) dX3_swap_23 (fun _ e => m_X3_join a0 p2 r1.1 h3 _ _ e) (fun h4 => ?_)
  exact Y.vreturn rfl dX3_swap_26
theorem m_X3_swap {g : xG} (a0 : Nat) (p1 : Int32) (p2 : Int32) (h : xH) (cl : Bool) (r : xH) (e : f_X3_swap a0 p1 p2 h = some r) : XM g DX3_swap [.ref a0, .int p1, .int p2] h cl (iV r) := YM.of rfl rfl (Nat.le_of_ble_eq_true rfl) (y_X3_swap a0 p1 p2 h) e
def f_X3_workersIn_J33 (x1 : Int32) (h : xH) : Option (Int32 × xH) :=
  some (x1, h)
theorem y_X3_workersIn_J33 {g : xG} {h0 : xH} {cl : Bool} (x1 : Int32) (h : xH) : Y g DX3_workersIn h0 cl iI (f_X3_workersIn_J33 x1 h) 33 [none, some (.int x1), none] [] h := by
  unfold f_X3_workersIn_J33
  refine Y.op (pc' := 34) (fun _ => X.iloadn rfl dX3_workersIn_33) ?_
  exact Y.ireturn rfl dX3_workersIn_34
def f_X3_workersIn_J27 (kH : Nat → Int32 → Int32 → xH → Option (Int32 × xH)) (kE33 : Int32 → xH → Option (Int32 × xH)) (x0 : Nat) (x1 : Int32) (x2 : Int32) (h : xH) : Option (Int32 × xH) :=
  lt (x2 + (1 : Int32)) fun v1 =>
  kH x0 x1 v1 h
theorem y_X3_workersIn_J27 {g : xG} {h0 : xH} {cl : Bool} {kH : Nat → Int32 → Int32 → xH → Option (Int32 × xH)} {kE33 : Int32 → xH → Option (Int32 × xH)} (hkH : ∀ (x0 : Nat) (x1 : Int32) (x2 : Int32) (h : xH), Y g DX3_workersIn h0 cl iI (kH x0 x1 x2 h) 4 [some (.ref x0), some (.int x1), some (.int x2)] [] h) (hkE33 : ∀ (x1 : Int32) (h : xH), Y g DX3_workersIn h0 cl iI (kE33 x1 h) 33 [none, some (.int x1), none] [] h) (x0 : Nat) (x1 : Int32) (x2 : Int32) (h : xH) : Y g DX3_workersIn h0 cl iI (f_X3_workersIn_J27 kH kE33 x0 x1 x2 h) 27 [some (.ref x0), some (.int x1), some (.int x2)] [] h := by
  unfold f_X3_workersIn_J27
  refine Y.iinc (i := 2) (loc' := fun v1 => [some (.ref x0), some (.int x1), some (.int v1)]) rfl (Nat.le_of_ble_eq_true rfl) ki_1 (fun _ => rfl) dX3_workersIn_27 (fun v1 => ?_)
  refine Y.op (pc' := 4) (fun _ => X.goto 4 (by decide) dX3_workersIn_30) ?_
  exact hkH x0 x1 v1 h
def f_X3_workersIn_L4 (kE33 : Int32 → xH → Option (Int32 × xH)) : Nat → Nat → Int32 → Int32 → xH → Option (Int32 × xH)
  | 0 => fun _ _ _ _ => none
  | n + 1 => fun x0 x1 x2 h =>
    if x2 ≥ (12 : Int32) then
      kE33 x1 h
    else
      (gR h 3 x0 0).bind fun v1 =>
      (aI h v1 x2).bind fun v2 =>
      if v2 = (-1 : Int32) then
        f_X3_workersIn_J27 (f_X3_workersIn_L4 kE33 n) kE33 x0 x1 x2 h
      else
        (f_X9_bit x2 h).bind fun r3 =>
        lt ((x1 ||| r3.1)) fun v4 =>
        f_X3_workersIn_J27 (f_X3_workersIn_L4 kE33 n) kE33 x0 v4 x2 r3.2
theorem y_X3_workersIn_L4 {g : xG} {h0 : xH} {cl : Bool} {kE33 : Int32 → xH → Option (Int32 × xH)} (hkE33 : ∀ (x1 : Int32) (h : xH), Y g DX3_workersIn h0 cl iI (kE33 x1 h) 33 [none, some (.int x1), none] [] h) : ∀ (n : Nat) (x0 : Nat) (x1 : Int32) (x2 : Int32) (h : xH), Y g DX3_workersIn h0 cl iI (f_X3_workersIn_L4 kE33 n x0 x1 x2 h) 4 [some (.ref x0), some (.int x1), some (.int x2)] [] h := by
  intro n
  induction n with
  | zero => intro x0 x1 x2 h; exact Y.nothing
  | succ n ih =>
    intro x0 x1 x2 h
    unfold f_X3_workersIn_L4
    refine Y.op (pc' := 5) (fun _ => X.iloadn rfl dX3_workersIn_4) ?_
    refine Y.op (pc' := 7) (fun _ => X.bp kb_12 dX3_workersIn_5) ?_
    refine Y.cmpge 33 (by decide) dX3_workersIn_7 ?_ ?_
    · exact Y.fg (hkE33 x1 h) (And.intro rfl trivial)
    · refine Y.op (pc' := 11) (fun _ => X.aloadn rfl dX3_workersIn_10) ?_
      refine Y.getR fd_X3_9 rfl dX3_workersIn_11 (fun v1 => ?_)
      refine Y.op (pc' := 15) (fun _ => X.iloadn rfl dX3_workersIn_14) ?_
      refine Y.aldI dX3_workersIn_15 (fun v2 => ?_)
      refine Y.op (pc' := 17) (fun _ => X.ic ki_m1 dX3_workersIn_16) ?_
      refine Y.cmpeq 27 (by decide) dX3_workersIn_17 ?_ ?_
      · exact y_X3_workersIn_J27 ih hkE33 x0 x1 x2 h
      · refine Y.op (pc' := 21) (fun _ => X.iloadn rfl dX3_workersIn_20) ?_
        refine Y.op (pc' := 22) (fun _ => X.iloadn rfl dX3_workersIn_21) ?_
        refine Y.callSi (As := [.int x2]) lk_X3_40 rfl cal_X9_bit sta_X9_bit (Nat.le_of_ble_eq_true rfl) rfl rfl (Nat.le_of_ble_eq_true rfl) dX3_workersIn_22 (fun _ e => m_X9_bit x2 h _ _ e) (fun r3 => ?_)
        refine Y.op (pc' := 26) (fun _ => X.ior dX3_workersIn_25) ?_
        refine Y.top (fun v4 => ?_)
        refine Y.op (pc' := 27) (loc' := [some (.ref x0), some (.int v4), some (.int x2)]) (fun _ => X.istoren (Nat.le_of_ble_eq_true rfl) rfl dX3_workersIn_26) ?_
        exact y_X3_workersIn_J27 ih hkE33 x0 v4 x2 r3.2
def f_X3_workersIn (a0 : Nat) (h : xH) : Option (Int32 × xH) :=
  f_X3_workersIn_L4 (f_X3_workersIn_J33) 5000 a0 (0 : Int32) (0 : Int32) h
theorem y_X3_workersIn {g : xG} {h0 : xH} {cl : Bool} (a0 : Nat) (h : xH) : Y g DX3_workersIn h0 cl iI (f_X3_workersIn a0 h) 0 [some (.ref a0), none, none] [] h := by
  unfold f_X3_workersIn
  refine Y.op (pc' := 1) (fun _ => X.ic ki_0 dX3_workersIn_0) ?_
  refine Y.op (pc' := 2) (loc' := [some (.ref a0), some (.int (0 : Int32)), none]) (fun _ => X.istoren (Nat.le_of_ble_eq_true rfl) rfl dX3_workersIn_1) ?_
  refine Y.op (pc' := 3) (fun _ => X.ic ki_0 dX3_workersIn_2) ?_
  refine Y.op (pc' := 4) (loc' := [some (.ref a0), some (.int (0 : Int32)), some (.int (0 : Int32))]) (fun _ => X.istoren (Nat.le_of_ble_eq_true rfl) rfl dX3_workersIn_3) ?_
  exact y_X3_workersIn_L4 (y_X3_workersIn_J33) 5000 a0 (0 : Int32) (0 : Int32) h
theorem m_X3_workersIn {g : xG} (a0 : Nat) (h : xH) (cl : Bool) (r : Int32 × xH) (e : f_X3_workersIn a0 h = some r) : XM g DX3_workersIn [.ref a0] h cl (iI r) := YM.of rfl rfl (Nat.le_of_ble_eq_true rfl) (y_X3_workersIn a0 h) e
def f_X3_tasksIn_J33 (x1 : Int32) (h : xH) : Option (Int32 × xH) :=
  some (x1, h)
theorem y_X3_tasksIn_J33 {g : xG} {h0 : xH} {cl : Bool} (x1 : Int32) (h : xH) : Y g DX3_tasksIn h0 cl iI (f_X3_tasksIn_J33 x1 h) 33 [none, some (.int x1), none] [] h := by
  unfold f_X3_tasksIn_J33
  refine Y.op (pc' := 34) (fun _ => X.iloadn rfl dX3_tasksIn_33) ?_
  exact Y.ireturn rfl dX3_tasksIn_34
def f_X3_tasksIn_J27 (kH : Nat → Int32 → Int32 → xH → Option (Int32 × xH)) (kE33 : Int32 → xH → Option (Int32 × xH)) (x0 : Nat) (x1 : Int32) (x2 : Int32) (h : xH) : Option (Int32 × xH) :=
  lt (x2 + (1 : Int32)) fun v1 =>
  kH x0 x1 v1 h
theorem y_X3_tasksIn_J27 {g : xG} {h0 : xH} {cl : Bool} {kH : Nat → Int32 → Int32 → xH → Option (Int32 × xH)} {kE33 : Int32 → xH → Option (Int32 × xH)} (hkH : ∀ (x0 : Nat) (x1 : Int32) (x2 : Int32) (h : xH), Y g DX3_tasksIn h0 cl iI (kH x0 x1 x2 h) 4 [some (.ref x0), some (.int x1), some (.int x2)] [] h) (hkE33 : ∀ (x1 : Int32) (h : xH), Y g DX3_tasksIn h0 cl iI (kE33 x1 h) 33 [none, some (.int x1), none] [] h) (x0 : Nat) (x1 : Int32) (x2 : Int32) (h : xH) : Y g DX3_tasksIn h0 cl iI (f_X3_tasksIn_J27 kH kE33 x0 x1 x2 h) 27 [some (.ref x0), some (.int x1), some (.int x2)] [] h := by
  unfold f_X3_tasksIn_J27
  refine Y.iinc (i := 2) (loc' := fun v1 => [some (.ref x0), some (.int x1), some (.int v1)]) rfl (Nat.le_of_ble_eq_true rfl) ki_1 (fun _ => rfl) dX3_tasksIn_27 (fun v1 => ?_)
  refine Y.op (pc' := 4) (fun _ => X.goto 4 (by decide) dX3_tasksIn_30) ?_
  exact hkH x0 x1 v1 h
def f_X3_tasksIn_L4 (kE33 : Int32 → xH → Option (Int32 × xH)) : Nat → Nat → Int32 → Int32 → xH → Option (Int32 × xH)
  | 0 => fun _ _ _ _ => none
  | n + 1 => fun x0 x1 x2 h =>
    if x2 ≥ (12 : Int32) then
      kE33 x1 h
    else
      (gR h 3 x0 1).bind fun v1 =>
      (aI h v1 x2).bind fun v2 =>
      if v2 = (-1 : Int32) then
        f_X3_tasksIn_J27 (f_X3_tasksIn_L4 kE33 n) kE33 x0 x1 x2 h
      else
        (f_X9_bit x2 h).bind fun r3 =>
        lt ((x1 ||| r3.1)) fun v4 =>
        f_X3_tasksIn_J27 (f_X3_tasksIn_L4 kE33 n) kE33 x0 v4 x2 r3.2
theorem y_X3_tasksIn_L4 {g : xG} {h0 : xH} {cl : Bool} {kE33 : Int32 → xH → Option (Int32 × xH)} (hkE33 : ∀ (x1 : Int32) (h : xH), Y g DX3_tasksIn h0 cl iI (kE33 x1 h) 33 [none, some (.int x1), none] [] h) : ∀ (n : Nat) (x0 : Nat) (x1 : Int32) (x2 : Int32) (h : xH), Y g DX3_tasksIn h0 cl iI (f_X3_tasksIn_L4 kE33 n x0 x1 x2 h) 4 [some (.ref x0), some (.int x1), some (.int x2)] [] h := by
  intro n
  induction n with
  | zero => intro x0 x1 x2 h; exact Y.nothing
  | succ n ih =>
    intro x0 x1 x2 h
    unfold f_X3_tasksIn_L4
    refine Y.op (pc' := 5) (fun _ => X.iloadn rfl dX3_tasksIn_4) ?_
    refine Y.op (pc' := 7) (fun _ => X.bp kb_12 dX3_tasksIn_5) ?_
    refine Y.cmpge 33 (by decide) dX3_tasksIn_7 ?_ ?_
    · exact Y.fg (hkE33 x1 h) (And.intro rfl trivial)
    · refine Y.op (pc' := 11) (fun _ => X.aloadn rfl dX3_tasksIn_10) ?_
      refine Y.getR fd_X3_15 rfl dX3_tasksIn_11 (fun v1 => ?_)
      refine Y.op (pc' := 15) (fun _ => X.iloadn rfl dX3_tasksIn_14) ?_
      refine Y.aldI dX3_tasksIn_15 (fun v2 => ?_)
      refine Y.op (pc' := 17) (fun _ => X.ic ki_m1 dX3_tasksIn_16) ?_
      refine Y.cmpeq 27 (by decide) dX3_tasksIn_17 ?_ ?_
      · exact y_X3_tasksIn_J27 ih hkE33 x0 x1 x2 h
      · refine Y.op (pc' := 21) (fun _ => X.iloadn rfl dX3_tasksIn_20) ?_
        refine Y.op (pc' := 22) (fun _ => X.iloadn rfl dX3_tasksIn_21) ?_
        refine Y.callSi (As := [.int x2]) lk_X3_40 rfl cal_X9_bit sta_X9_bit (Nat.le_of_ble_eq_true rfl) rfl rfl (Nat.le_of_ble_eq_true rfl) dX3_tasksIn_22 (fun _ e => m_X9_bit x2 h _ _ e) (fun r3 => ?_)
        refine Y.op (pc' := 26) (fun _ => X.ior dX3_tasksIn_25) ?_
        refine Y.top (fun v4 => ?_)
        refine Y.op (pc' := 27) (loc' := [some (.ref x0), some (.int v4), some (.int x2)]) (fun _ => X.istoren (Nat.le_of_ble_eq_true rfl) rfl dX3_tasksIn_26) ?_
        exact y_X3_tasksIn_J27 ih hkE33 x0 v4 x2 r3.2
def f_X3_tasksIn (a0 : Nat) (h : xH) : Option (Int32 × xH) :=
  f_X3_tasksIn_L4 (f_X3_tasksIn_J33) 5000 a0 (0 : Int32) (0 : Int32) h
theorem y_X3_tasksIn {g : xG} {h0 : xH} {cl : Bool} (a0 : Nat) (h : xH) : Y g DX3_tasksIn h0 cl iI (f_X3_tasksIn a0 h) 0 [some (.ref a0), none, none] [] h := by
  unfold f_X3_tasksIn
  refine Y.op (pc' := 1) (fun _ => X.ic ki_0 dX3_tasksIn_0) ?_
  refine Y.op (pc' := 2) (loc' := [some (.ref a0), some (.int (0 : Int32)), none]) (fun _ => X.istoren (Nat.le_of_ble_eq_true rfl) rfl dX3_tasksIn_1) ?_
  refine Y.op (pc' := 3) (fun _ => X.ic ki_0 dX3_tasksIn_2) ?_
  refine Y.op (pc' := 4) (loc' := [some (.ref a0), some (.int (0 : Int32)), some (.int (0 : Int32))]) (fun _ => X.istoren (Nat.le_of_ble_eq_true rfl) rfl dX3_tasksIn_3) ?_
  exact y_X3_tasksIn_L4 (y_X3_tasksIn_J33) 5000 a0 (0 : Int32) (0 : Int32) h
theorem m_X3_tasksIn {g : xG} (a0 : Nat) (h : xH) (cl : Bool) (r : Int32 × xH) (e : f_X3_tasksIn a0 h = some r) : XM g DX3_tasksIn [.ref a0] h cl (iI r) := YM.of rfl rfl (Nat.le_of_ble_eq_true rfl) (y_X3_tasksIn a0 h) e
def f_X3_size (a0 : Nat) (h : xH) : Option (Int32 × xH) :=
  (vc h 3 a0 (f_X3_workersIn a0 h)).bind fun r1 =>
  (f_J6_bitCount_0f7a4 r1.1 r1.2).bind fun r2 =>
  some (r2.1, r2.2)
theorem y_X3_size {g : xG} {h0 : xH} {cl : Bool} (a0 : Nat) (h : xH) : Y g DX3_size h0 cl iI (f_X3_size a0 h) 0 [some (.ref a0)] [] h := by
  unfold f_X3_size
  refine Y.op (pc' := 1) (fun _ => X.aloadn rfl dX3_size_0) ?_
  refine Y.callVi (As := []) lk_X3_43 rfl cal_X3_workersIn vir_X3_workersIn (Nat.le_of_ble_eq_true rfl) (Nat.le_of_ble_eq_true rfl) rfl rfl rfl (Nat.le_of_ble_eq_true rfl) dX3_size_1 (fun _ e => m_X3_workersIn a0 h _ _ e) (fun r1 => ?_)
  refine Y.callSi (As := [.int r1.1]) lk_X3_47 rfl cal_J6_bitCount_0f7a4 sta_J6_bitCount_0f7a4 (Nat.le_of_ble_eq_true rfl) rfl rfl (Nat.le_of_ble_eq_true rfl) dX3_size_4 (fun _ e => m_J6_bitCount_0f7a4 r1.1 r1.2 _ _ e) (fun r2 => ?_)
  exact Y.ireturn rfl dX3_size_7
theorem m_X3_size {g : xG} (a0 : Nat) (h : xH) (cl : Bool) (r : Int32 × xH) (e : f_X3_size a0 h = some r) : XM g DX3_size [.ref a0] h cl (iI r) := YM.of rfl rfl (Nat.le_of_ble_eq_true rfl) (y_X3_size a0 h) e
def f_X4_init (a0 : Nat) (h : xH) : Option (xH) :=
  (nwI h (12 : Int32)).bind fun r1 =>
  (pR r1.2 4 a0 0 r1.1).bind fun h2 =>
  (nwI h2 (12 : Int32)).bind fun r3 =>
  (pR r3.2 4 a0 1 r3.1).bind fun h4 =>
  (nwI h4 (12 : Int32)).bind fun r5 =>
  (pR r5.2 4 a0 2 r5.1).bind fun h6 =>
  (nwI h6 (12 : Int32)).bind fun r7 =>
  (pR r7.2 4 a0 3 r7.1).bind fun h8 =>
  (pI h8 4 a0 4 (0 : Int32)).bind fun h9 =>
  (pI h9 4 a0 5 (0 : Int32)).bind fun h10 =>
  (pI h10 4 a0 6 (0 : Int32)).bind fun h11 =>
  (pI h11 4 a0 7 (0 : Int32)).bind fun h12 =>
  (pI h12 4 a0 8 (0 : Int32)).bind fun h13 =>
  some h13
theorem y_X4_init {g : xG} {h0 : xH} (a0 : Nat) (h : xH) : Y g DX4_init h0 false iV (f_X4_init a0 h) 0 [some (.ref a0)] [] h := by
  unfold f_X4_init
  refine Y.op (pc' := 1) (fun _ => X.aloadn rfl dX4_init_0) ?_
  refine Y.op (pc' := 4) (fun _ => X.objInit wo_X4 rfl (Nat.le_of_ble_eq_true rfl) (Nat.le_of_ble_eq_true rfl) dX4_init_1) ?_
  refine Y.op (pc' := 5) (fun _ => X.aloadn rfl dX4_init_4) ?_
  refine Y.op (pc' := 7) (fun _ => X.bp kb_12 dX4_init_5) ?_
  refine Y.newI waI dX4_init_7 (fun r1 => ?_)
  refine Y.putR ff_X4_9 rfl rfl (fun _ => rfl) (fun _ => rfl) dX4_init_9 (fun h2 => ?_)
  refine Y.op (pc' := 13) (fun _ => X.aloadn rfl dX4_init_12) ?_
  refine Y.op (pc' := 15) (fun _ => X.bp kb_12 dX4_init_13) ?_
  refine Y.newI waI dX4_init_15 (fun r3 => ?_)
  refine Y.putR ff_X4_15 rfl rfl (fun _ => rfl) (fun _ => rfl) dX4_init_17 (fun h4 => ?_)
  refine Y.op (pc' := 21) (fun _ => X.aloadn rfl dX4_init_20) ?_
  refine Y.op (pc' := 23) (fun _ => X.bp kb_12 dX4_init_21) ?_
  refine Y.newI waI dX4_init_23 (fun r5 => ?_)
  refine Y.putR ff_X4_18 rfl rfl (fun _ => rfl) (fun _ => rfl) dX4_init_25 (fun h6 => ?_)
  refine Y.op (pc' := 29) (fun _ => X.aloadn rfl dX4_init_28) ?_
  refine Y.op (pc' := 31) (fun _ => X.bp kb_12 dX4_init_29) ?_
  refine Y.newI waI dX4_init_31 (fun r7 => ?_)
  refine Y.putR ff_X4_21 rfl rfl (fun _ => rfl) (fun _ => rfl) dX4_init_33 (fun h8 => ?_)
  refine Y.op (pc' := 37) (fun _ => X.aloadn rfl dX4_init_36) ?_
  refine Y.op (pc' := 38) (fun _ => X.ic ki_0 dX4_init_37) ?_
  refine Y.putI fd_X4_24 rfl dX4_init_38 (fun h9 => ?_)
  refine Y.op (pc' := 42) (fun _ => X.aloadn rfl dX4_init_41) ?_
  refine Y.op (pc' := 43) (fun _ => X.ic ki_0 dX4_init_42) ?_
  refine Y.putI fd_X4_28 rfl dX4_init_43 (fun h10 => ?_)
  refine Y.op (pc' := 47) (fun _ => X.aloadn rfl dX4_init_46) ?_
  refine Y.op (pc' := 48) (fun _ => X.ic ki_0 dX4_init_47) ?_
  refine Y.putI fd_X4_31 rfl dX4_init_48 (fun h11 => ?_)
  refine Y.op (pc' := 52) (fun _ => X.aloadn rfl dX4_init_51) ?_
  refine Y.op (pc' := 53) (fun _ => X.ic ki_0 dX4_init_52) ?_
  refine Y.putI fd_X4_34 rfl dX4_init_53 (fun h12 => ?_)
  refine Y.op (pc' := 57) (fun _ => X.aloadn rfl dX4_init_56) ?_
  refine Y.op (pc' := 58) (fun _ => X.ic ki_0 dX4_init_57) ?_
  refine Y.putI fd_X4_37 rfl dX4_init_58 (fun h13 => ?_)
  exact Y.vreturn rfl dX4_init_61
theorem m_X4_init {g : xG} (a0 : Nat) (h : xH) (r : xH) (e : f_X4_init a0 h = some r) : XM g DX4_init [.ref a0] h false (iV r) := YM.of rfl rfl (Nat.le_of_ble_eq_true rfl) (y_X4_init a0 h) e
def f_X4_layerOfWorker_J17 (s0 : Int32) (h : xH) : Option (Int32 × xH) :=
  some (s0, h)
theorem y_X4_layerOfWorker_J17 {g : xG} {h0 : xH} {cl : Bool} (s0 : Int32) (h : xH) : Y g DX4_layerOfWorker h0 cl iI (f_X4_layerOfWorker_J17 s0 h) 17 [none, none] [.int s0] h := by
  unfold f_X4_layerOfWorker_J17
  exact Y.ireturn rfl dX4_layerOfWorker_17
def f_X4_layerOfWorker (a0 : Nat) (p1 : Int32) (h : xH) : Option (Int32 × xH) :=
  (f_X9_inLimit p1 h).bind fun r1 =>
  if r1.1 = (0 : Int32) then
    f_X4_layerOfWorker_J17 (-1 : Int32) r1.2
  else
    (gR r1.2 4 a0 0).bind fun v2 =>
    (aI r1.2 v2 p1).bind fun v3 =>
    f_X4_layerOfWorker_J17 v3 r1.2
theorem y_X4_layerOfWorker {g : xG} {h0 : xH} {cl : Bool} (a0 : Nat) (p1 : Int32) (h : xH) : Y g DX4_layerOfWorker h0 cl iI (f_X4_layerOfWorker a0 p1 h) 0 [some (.ref a0), some (.int p1)] [] h := by
  unfold f_X4_layerOfWorker
  refine Y.op (pc' := 1) (fun _ => X.iloadn rfl dX4_layerOfWorker_0) ?_
  refine Y.callSi (As := [.int p1]) lk_X4_66 rfl cal_X9_inLimit sta_X9_inLimit (Nat.le_of_ble_eq_true rfl) rfl rfl (Nat.le_of_ble_eq_true rfl) dX4_layerOfWorker_1 (fun _ e => m_X9_inLimit p1 h _ _ e) (fun r1 => ?_)
  refine Y.ifeq 16 (by decide) dX4_layerOfWorker_4 ?_ ?_
  · refine Y.op (pc' := 17) (fun _ => X.ic ki_m1 dX4_layerOfWorker_16) ?_
    exact Y.fg (y_X4_layerOfWorker_J17 (-1 : Int32) r1.2) trivial
  · refine Y.op (pc' := 8) (fun _ => X.aloadn rfl dX4_layerOfWorker_7) ?_
    refine Y.getR fd_X4_9 rfl dX4_layerOfWorker_8 (fun v2 => ?_)
    refine Y.op (pc' := 12) (fun _ => X.iloadn rfl dX4_layerOfWorker_11) ?_
    refine Y.aldI dX4_layerOfWorker_12 (fun v3 => ?_)
    refine Y.op (pc' := 17) (fun _ => X.goto 17 (by decide) dX4_layerOfWorker_13) ?_
    exact Y.fg (y_X4_layerOfWorker_J17 v3 r1.2) trivial
theorem m_X4_layerOfWorker {g : xG} (a0 : Nat) (p1 : Int32) (h : xH) (cl : Bool) (r : Int32 × xH) (e : f_X4_layerOfWorker a0 p1 h = some r) : XM g DX4_layerOfWorker [.ref a0, .int p1] h cl (iI r) := YM.of rfl rfl (Nat.le_of_ble_eq_true rfl) (y_X4_layerOfWorker a0 p1 h) e
def f_X7_row_J17 (s0 : Int32) (h : xH) : Option (Int32 × xH) :=
  some (s0, h)
theorem y_X7_row_J17 {g : xG} {h0 : xH} {cl : Bool} (s0 : Int32) (h : xH) : Y g DX7_row h0 cl iI (f_X7_row_J17 s0 h) 17 [none, none] [.int s0] h := by
  unfold f_X7_row_J17
  exact Y.ireturn rfl dX7_row_17
def f_X7_row (a0 : Nat) (p1 : Int32) (h : xH) : Option (Int32 × xH) :=
  (f_X9_inLimit p1 h).bind fun r1 =>
  if r1.1 = (0 : Int32) then
    f_X7_row_J17 (0 : Int32) r1.2
  else
    (gR r1.2 7 a0 1).bind fun v2 =>
    (aI r1.2 v2 p1).bind fun v3 =>
    f_X7_row_J17 v3 r1.2
theorem y_X7_row {g : xG} {h0 : xH} {cl : Bool} (a0 : Nat) (p1 : Int32) (h : xH) : Y g DX7_row h0 cl iI (f_X7_row a0 p1 h) 0 [some (.ref a0), some (.int p1)] [] h := by
  unfold f_X7_row
  refine Y.op (pc' := 1) (fun _ => X.iloadn rfl dX7_row_0) ?_
  refine Y.callSi (As := [.int p1]) lk_X7_72 rfl cal_X9_inLimit sta_X9_inLimit (Nat.le_of_ble_eq_true rfl) rfl rfl (Nat.le_of_ble_eq_true rfl) dX7_row_1 (fun _ e => m_X9_inLimit p1 h _ _ e) (fun r1 => ?_)
  refine Y.ifeq 16 (by decide) dX7_row_4 ?_ ?_
  · refine Y.op (pc' := 17) (fun _ => X.ic ki_0 dX7_row_16) ?_
    exact Y.fg (y_X7_row_J17 (0 : Int32) r1.2) trivial
  · refine Y.op (pc' := 8) (fun _ => X.aloadn rfl dX7_row_7) ?_
    refine Y.getR fd_X7_18 rfl dX7_row_8 (fun v2 => ?_)
    refine Y.op (pc' := 12) (fun _ => X.iloadn rfl dX7_row_11) ?_
    refine Y.aldI dX7_row_12 (fun v3 => ?_)
    refine Y.op (pc' := 17) (fun _ => X.goto 17 (by decide) dX7_row_13) ?_
    exact Y.fg (y_X7_row_J17 v3 r1.2) trivial
theorem m_X7_row {g : xG} (a0 : Nat) (p1 : Int32) (h : xH) (cl : Bool) (r : Int32 × xH) (e : f_X7_row a0 p1 h = some r) : XM g DX7_row [.ref a0, .int p1] h cl (iI r) := YM.of rfl rfl (Nat.le_of_ble_eq_true rfl) (y_X7_row a0 p1 h) e
def f_X4_nextTasks_J97 (x4 : Int32) (h : xH) : Option (Int32 × xH) :=
  some (x4, h)
theorem y_X4_nextTasks_J97 {g : xG} {h0 : xH} {cl : Bool} (x4 : Int32) (h : xH) : Y g DX4_nextTasks h0 cl iI (f_X4_nextTasks_J97 x4 h) 97 [none, none, none, none, some (.int x4), none] [] h := by
  unfold f_X4_nextTasks_J97
  refine Y.op (pc' := 99) (fun _ => X.iload rfl dX4_nextTasks_97) ?_
  exact Y.ireturn rfl dX4_nextTasks_99
def f_X4_nextTasks_J91 (kH : Nat → Int32 → Int32 → Int32 → Int32 → xH → Option (Int32 × xH)) (kE97 : Int32 → xH → Option (Int32 × xH)) (x0 : Nat) (x2 : Int32) (x3 : Int32) (x4 : Int32) (x5 : Int32) (h : xH) : Option (Int32 × xH) :=
  lt (x5 + (1 : Int32)) fun v1 =>
  kH x0 x2 x3 x4 v1 h
theorem y_X4_nextTasks_J91 {g : xG} {h0 : xH} {cl : Bool} {kH : Nat → Int32 → Int32 → Int32 → Int32 → xH → Option (Int32 × xH)} {kE97 : Int32 → xH → Option (Int32 × xH)} (hkH : ∀ (x0 : Nat) (x2 : Int32) (x3 : Int32) (x4 : Int32) (x5 : Int32) (h : xH), Y g DX4_nextTasks h0 cl iI (kH x0 x2 x3 x4 x5 h) 44 [some (.ref x0), none, some (.int x2), some (.int x3), some (.int x4), some (.int x5)] [] h) (hkE97 : ∀ (x4 : Int32) (h : xH), Y g DX4_nextTasks h0 cl iI (kE97 x4 h) 97 [none, none, none, none, some (.int x4), none] [] h) (x0 : Nat) (x2 : Int32) (x3 : Int32) (x4 : Int32) (x5 : Int32) (h : xH) : Y g DX4_nextTasks h0 cl iI (f_X4_nextTasks_J91 kH kE97 x0 x2 x3 x4 x5 h) 91 [some (.ref x0), none, some (.int x2), some (.int x3), some (.int x4), some (.int x5)] [] h := by
  unfold f_X4_nextTasks_J91
  refine Y.iinc (i := 5) (loc' := fun v1 => [some (.ref x0), none, some (.int x2), some (.int x3), some (.int x4), some (.int v1)]) rfl (Nat.le_of_ble_eq_true rfl) ki_1 (fun _ => rfl) dX4_nextTasks_91 (fun v1 => ?_)
  refine Y.op (pc' := 44) (fun _ => X.goto 44 (by decide) dX4_nextTasks_94) ?_
  exact hkH x0 x2 x3 x4 v1 h
def f_X4_nextTasks_L44 (kE97 : Int32 → xH → Option (Int32 × xH)) : Nat → Nat → Int32 → Int32 → Int32 → Int32 → xH → Option (Int32 × xH)
  | 0 => fun _ _ _ _ _ _ => none
  | n + 1 => fun x0 x2 x3 x4 x5 h =>
    if x5 ≥ (12 : Int32) then
      kE97 x4 h
    else
      (f_X9_has x3 x5 h).bind fun r1 =>
      if r1.1 = (0 : Int32) then
        f_X4_nextTasks_J91 (f_X4_nextTasks_L44 kE97 n) kE97 x0 x2 x3 x4 x5 r1.2
      else
        (gR r1.2 4 x0 1).bind fun v2 =>
        (aI r1.2 v2 x5).bind fun v3 =>
        if v3 = (-1 : Int32) then
          (gR r1.2 4 x0 1).bind fun v4 =>
          (sI r1.2 v4 x5 (x2 + (1 : Int32))).bind fun h5 =>
          (f_X9_bit x5 h5).bind fun r6 =>
          lt ((x4 ||| r6.1)) fun v7 =>
          f_X4_nextTasks_J91 (f_X4_nextTasks_L44 kE97 n) kE97 x0 x2 x3 v7 x5 r6.2
        else
          f_X4_nextTasks_J91 (f_X4_nextTasks_L44 kE97 n) kE97 x0 x2 x3 x4 x5 r1.2
theorem y_X4_nextTasks_L44 {g : xG} {h0 : xH} {cl : Bool} {kE97 : Int32 → xH → Option (Int32 × xH)} (hkE97 : ∀ (x4 : Int32) (h : xH), Y g DX4_nextTasks h0 cl iI (kE97 x4 h) 97 [none, none, none, none, some (.int x4), none] [] h) : ∀ (n : Nat) (x0 : Nat) (x2 : Int32) (x3 : Int32) (x4 : Int32) (x5 : Int32) (h : xH), Y g DX4_nextTasks h0 cl iI (f_X4_nextTasks_L44 kE97 n x0 x2 x3 x4 x5 h) 44 [some (.ref x0), none, some (.int x2), some (.int x3), some (.int x4), some (.int x5)] [] h := by
  intro n
  induction n with
  | zero => intro x0 x2 x3 x4 x5 h; exact Y.nothing
  | succ n ih =>
    intro x0 x2 x3 x4 x5 h
    unfold f_X4_nextTasks_L44
    refine Y.op (pc' := 46) (fun _ => X.iload rfl dX4_nextTasks_44) ?_
    refine Y.op (pc' := 48) (fun _ => X.bp kb_12 dX4_nextTasks_46) ?_
    refine Y.cmpge 97 (by decide) dX4_nextTasks_48 ?_ ?_
    · exact Y.fg (hkE97 x4 h) (And.intro rfl trivial)
    · refine Y.op (pc' := 52) (fun _ => X.iloadn rfl dX4_nextTasks_51) ?_
      refine Y.op (pc' := 54) (fun _ => X.iload rfl dX4_nextTasks_52) ?_
      refine Y.callSi (As := [.int x3, .int x5]) lk_X4_77 rfl cal_X9_has sta_X9_has (Nat.le_of_ble_eq_true rfl) rfl rfl (Nat.le_of_ble_eq_true rfl) dX4_nextTasks_54 (fun _ e => m_X9_has x3 x5 h _ _ e) (fun r1 => ?_)
      refine Y.ifeq 91 (by decide) dX4_nextTasks_57 ?_ ?_
      · exact y_X4_nextTasks_J91 ih hkE97 x0 x2 x3 x4 x5 r1.2
      · refine Y.op (pc' := 61) (fun _ => X.aloadn rfl dX4_nextTasks_60) ?_
        refine Y.getR fd_X4_15 rfl dX4_nextTasks_61 (fun v2 => ?_)
        refine Y.op (pc' := 66) (fun _ => X.iload rfl dX4_nextTasks_64) ?_
        refine Y.aldI dX4_nextTasks_66 (fun v3 => ?_)
        refine Y.op (pc' := 68) (fun _ => X.ic ki_m1 dX4_nextTasks_67) ?_
        refine Y.cmpne 91 (by decide) dX4_nextTasks_68 ?_ ?_
        · exact y_X4_nextTasks_J91 ih hkE97 x0 x2 x3 x4 x5 r1.2
        · refine Y.op (pc' := 72) (fun _ => X.aloadn rfl dX4_nextTasks_71) ?_
          refine Y.getR fd_X4_15 rfl dX4_nextTasks_72 (fun v4 => ?_)
          refine Y.op (pc' := 77) (fun _ => X.iload rfl dX4_nextTasks_75) ?_
          refine Y.op (pc' := 78) (fun _ => X.iloadn rfl dX4_nextTasks_77) ?_
          refine Y.op (pc' := 79) (fun _ => X.ic ki_1 dX4_nextTasks_78) ?_
          refine Y.op (pc' := 80) (fun _ => X.iadd dX4_nextTasks_79) ?_
          refine Y.astI dX4_nextTasks_80 (fun h5 => ?_)
          refine Y.op (pc' := 83) (fun _ => X.iload rfl dX4_nextTasks_81) ?_
          refine Y.op (pc' := 85) (fun _ => X.iload rfl dX4_nextTasks_83) ?_
          refine Y.callSi (As := [.int x5]) lk_X4_94 rfl cal_X9_bit sta_X9_bit (Nat.le_of_ble_eq_true rfl) rfl rfl (Nat.le_of_ble_eq_true rfl) dX4_nextTasks_85 (fun _ e => m_X9_bit x5 h5 _ _ e) (fun r6 => ?_)
          refine Y.op (pc' := 89) (fun _ => X.ior dX4_nextTasks_88) ?_
          refine Y.top (fun v7 => ?_)
          refine Y.op (pc' := 91) (loc' := [some (.ref x0), none, some (.int x2), some (.int x3), some (.int v7), some (.int x5)]) (fun _ => X.istore (Nat.le_of_ble_eq_true rfl) rfl dX4_nextTasks_89) ?_
          exact y_X4_nextTasks_J91 ih hkE97 x0 x2 x3 v7 x5 r6.2
def f_X4_nextTasks_J38 (x0 : Nat) (x2 : Int32) (x3 : Int32) (h : xH) : Option (Int32 × xH) :=
  f_X4_nextTasks_L44 (f_X4_nextTasks_J97) 5000 x0 x2 x3 (0 : Int32) (0 : Int32) h
theorem y_X4_nextTasks_J38 {g : xG} {h0 : xH} {cl : Bool} (x0 : Nat) (x2 : Int32) (x3 : Int32) (h : xH) : Y g DX4_nextTasks h0 cl iI (f_X4_nextTasks_J38 x0 x2 x3 h) 38 [some (.ref x0), none, some (.int x2), some (.int x3), none, none] [] h := by
  unfold f_X4_nextTasks_J38
  refine Y.op (pc' := 39) (fun _ => X.ic ki_0 dX4_nextTasks_38) ?_
  refine Y.op (pc' := 41) (loc' := [some (.ref x0), none, some (.int x2), some (.int x3), some (.int (0 : Int32)), none]) (fun _ => X.istore (Nat.le_of_ble_eq_true rfl) rfl dX4_nextTasks_39) ?_
  refine Y.op (pc' := 42) (fun _ => X.ic ki_0 dX4_nextTasks_41) ?_
  refine Y.op (pc' := 44) (loc' := [some (.ref x0), none, some (.int x2), some (.int x3), some (.int (0 : Int32)), some (.int (0 : Int32))]) (fun _ => X.istore (Nat.le_of_ble_eq_true rfl) rfl dX4_nextTasks_42) ?_
  exact y_X4_nextTasks_L44 (y_X4_nextTasks_J97) 5000 x0 x2 x3 (0 : Int32) (0 : Int32) h
def f_X4_nextTasks_J32 (kH : Nat → Nat → Int32 → Int32 → Int32 → xH → Option (Int32 × xH)) (kE38 : Nat → Int32 → Int32 → xH → Option (Int32 × xH)) (x0 : Nat) (x1 : Nat) (x2 : Int32) (x3 : Int32) (x4 : Int32) (h : xH) : Option (Int32 × xH) :=
  lt (x4 + (1 : Int32)) fun v1 =>
  kH x0 x1 x2 x3 v1 h
theorem y_X4_nextTasks_J32 {g : xG} {h0 : xH} {cl : Bool} {kH : Nat → Nat → Int32 → Int32 → Int32 → xH → Option (Int32 × xH)} {kE38 : Nat → Int32 → Int32 → xH → Option (Int32 × xH)} (hkH : ∀ (x0 : Nat) (x1 : Nat) (x2 : Int32) (x3 : Int32) (x4 : Int32) (h : xH), Y g DX4_nextTasks h0 cl iI (kH x0 x1 x2 x3 x4 h) 5 [some (.ref x0), some (.ref x1), some (.int x2), some (.int x3), some (.int x4), none] [] h) (hkE38 : ∀ (x0 : Nat) (x2 : Int32) (x3 : Int32) (h : xH), Y g DX4_nextTasks h0 cl iI (kE38 x0 x2 x3 h) 38 [some (.ref x0), none, some (.int x2), some (.int x3), none, none] [] h) (x0 : Nat) (x1 : Nat) (x2 : Int32) (x3 : Int32) (x4 : Int32) (h : xH) : Y g DX4_nextTasks h0 cl iI (f_X4_nextTasks_J32 kH kE38 x0 x1 x2 x3 x4 h) 32 [some (.ref x0), some (.ref x1), some (.int x2), some (.int x3), some (.int x4), none] [] h := by
  unfold f_X4_nextTasks_J32
  refine Y.iinc (i := 4) (loc' := fun v1 => [some (.ref x0), some (.ref x1), some (.int x2), some (.int x3), some (.int v1), none]) rfl (Nat.le_of_ble_eq_true rfl) ki_1 (fun _ => rfl) dX4_nextTasks_32 (fun v1 => ?_)
  refine Y.op (pc' := 5) (fun _ => X.goto 5 (by decide) dX4_nextTasks_35) ?_
  exact hkH x0 x1 x2 x3 v1 h
def f_X4_nextTasks_L5 (kE38 : Nat → Int32 → Int32 → xH → Option (Int32 × xH)) : Nat → Nat → Nat → Int32 → Int32 → Int32 → xH → Option (Int32 × xH)
  | 0 => fun _ _ _ _ _ _ => none
  | n + 1 => fun x0 x1 x2 x3 x4 h =>
    if x4 ≥ (12 : Int32) then
      kE38 x0 x2 x3 h
    else
      (gR h 4 x0 0).bind fun v1 =>
      (aI h v1 x4).bind fun v2 =>
      if v2 = x2 then
        (vc h 7 x1 (f_X7_row x1 x4 h)).bind fun r3 =>
        lt ((x3 ||| r3.1)) fun v4 =>
        f_X4_nextTasks_J32 (f_X4_nextTasks_L5 kE38 n) kE38 x0 x1 x2 v4 x4 r3.2
      else
        f_X4_nextTasks_J32 (f_X4_nextTasks_L5 kE38 n) kE38 x0 x1 x2 x3 x4 h
theorem y_X4_nextTasks_L5 {g : xG} {h0 : xH} {cl : Bool} {kE38 : Nat → Int32 → Int32 → xH → Option (Int32 × xH)} (hkE38 : ∀ (x0 : Nat) (x2 : Int32) (x3 : Int32) (h : xH), Y g DX4_nextTasks h0 cl iI (kE38 x0 x2 x3 h) 38 [some (.ref x0), none, some (.int x2), some (.int x3), none, none] [] h) : ∀ (n : Nat) (x0 : Nat) (x1 : Nat) (x2 : Int32) (x3 : Int32) (x4 : Int32) (h : xH), Y g DX4_nextTasks h0 cl iI (f_X4_nextTasks_L5 kE38 n x0 x1 x2 x3 x4 h) 5 [some (.ref x0), some (.ref x1), some (.int x2), some (.int x3), some (.int x4), none] [] h := by
  intro n
  induction n with
  | zero => intro x0 x1 x2 x3 x4 h; exact Y.nothing
  | succ n ih =>
    intro x0 x1 x2 x3 x4 h
    unfold f_X4_nextTasks_L5
    refine Y.op (pc' := 7) (fun _ => X.iload rfl dX4_nextTasks_5) ?_
    refine Y.op (pc' := 9) (fun _ => X.bp kb_12 dX4_nextTasks_7) ?_
    refine Y.cmpge 38 (by decide) dX4_nextTasks_9 ?_ ?_
    · exact Y.fg (hkE38 x0 x2 x3 h) (And.intro rfl (And.intro rfl (And.intro rfl trivial)))
    · refine Y.op (pc' := 13) (fun _ => X.aloadn rfl dX4_nextTasks_12) ?_
      refine Y.getR fd_X4_9 rfl dX4_nextTasks_13 (fun v1 => ?_)
      refine Y.op (pc' := 18) (fun _ => X.iload rfl dX4_nextTasks_16) ?_
      refine Y.aldI dX4_nextTasks_18 (fun v2 => ?_)
      refine Y.op (pc' := 20) (fun _ => X.iloadn rfl dX4_nextTasks_19) ?_
      refine Y.cmpne 32 (by decide) dX4_nextTasks_20 ?_ ?_
      · exact y_X4_nextTasks_J32 ih hkE38 x0 x1 x2 x3 x4 h
      · refine Y.op (pc' := 24) (fun _ => X.iloadn rfl dX4_nextTasks_23) ?_
        refine Y.op (pc' := 25) (fun _ => X.aloadn rfl dX4_nextTasks_24) ?_
        refine Y.op (pc' := 27) (fun _ => X.iload rfl dX4_nextTasks_25) ?_
        refine Y.callVi (As := [.int x4]) lk_X4_91 rfl cal_X7_row vir_X7_row (Nat.le_of_ble_eq_true rfl) (Nat.le_of_ble_eq_true rfl) rfl rfl rfl (Nat.le_of_ble_eq_true rfl) dX4_nextTasks_27 (fun _ e => m_X7_row x1 x4 h _ _ e) (fun r3 => ?_)
        refine Y.op (pc' := 31) (fun _ => X.ior dX4_nextTasks_30) ?_
        refine Y.top (fun v4 => ?_)
        refine Y.op (pc' := 32) (loc' := [some (.ref x0), some (.ref x1), some (.int x2), some (.int v4), some (.int x4), none]) (fun _ => X.istoren (Nat.le_of_ble_eq_true rfl) rfl dX4_nextTasks_31) ?_
        exact y_X4_nextTasks_J32 ih hkE38 x0 x1 x2 v4 x4 r3.2
def f_X4_nextTasks (a0 : Nat) (p1 : Nat) (p2 : Int32) (h : xH) : Option (Int32 × xH) :=
  f_X4_nextTasks_L5 (f_X4_nextTasks_J38) 5000 a0 p1 p2 (0 : Int32) (0 : Int32) h
theorem y_X4_nextTasks {g : xG} {h0 : xH} {cl : Bool} (a0 : Nat) (p1 : Nat) (p2 : Int32) (h : xH) : Y g DX4_nextTasks h0 cl iI (f_X4_nextTasks a0 p1 p2 h) 0 [some (.ref a0), some (.ref p1), some (.int p2), none, none, none] [] h := by
  unfold f_X4_nextTasks
  refine Y.op (pc' := 1) (fun _ => X.ic ki_0 dX4_nextTasks_0) ?_
  refine Y.op (pc' := 2) (loc' := [some (.ref a0), some (.ref p1), some (.int p2), some (.int (0 : Int32)), none, none]) (fun _ => X.istoren (Nat.le_of_ble_eq_true rfl) rfl dX4_nextTasks_1) ?_
  refine Y.op (pc' := 3) (fun _ => X.ic ki_0 dX4_nextTasks_2) ?_
  refine Y.op (pc' := 5) (loc' := [some (.ref a0), some (.ref p1), some (.int p2), some (.int (0 : Int32)), some (.int (0 : Int32)), none]) (fun _ => X.istore (Nat.le_of_ble_eq_true rfl) rfl dX4_nextTasks_3) ?_
  exact y_X4_nextTasks_L5 (y_X4_nextTasks_J38) 5000 a0 p1 p2 (0 : Int32) (0 : Int32) h
theorem m_X4_nextTasks {g : xG} (a0 : Nat) (p1 : Nat) (p2 : Int32) (h : xH) (cl : Bool) (r : Int32 × xH) (e : f_X4_nextTasks a0 p1 p2 h = some r) : XM g DX4_nextTasks [.ref a0, .ref p1, .int p2] h cl (iI r) := YM.of rfl rfl (Nat.le_of_ble_eq_true rfl) (y_X4_nextTasks a0 p1 p2 h) e
def f_X4_makeLayers_J154 (h : xH) : Option (Int32 × xH) :=
  if (0 : Int32) = 0 ∨ (0 : Int32) = 1 then some ((0 : Int32), h) else none
theorem y_X4_makeLayers_J154 {g : xG} {h0 : xH} {cl : Bool} (h : xH) : Y g DX4_makeLayers h0 cl iI (f_X4_makeLayers_J154 h) 154 [none, none, none, none, none, none, none] [] h := by
  unfold f_X4_makeLayers_J154
  refine Y.op (pc' := 155) (fun _ => X.ic ki_0 dX4_makeLayers_154) ?_
  exact Y.zreturn rfl dX4_makeLayers_155
def f_X4_makeLayers_J93 (h : xH) : Option (Int32 × xH) :=
  if (1 : Int32) = 0 ∨ (1 : Int32) = 1 then some ((1 : Int32), h) else none
theorem y_X4_makeLayers_J93 {g : xG} {h0 : xH} {cl : Bool} (h : xH) : Y g DX4_makeLayers h0 cl iI (f_X4_makeLayers_J93 h) 93 [none, none, none, none, none, none, none] [] h := by
  unfold f_X4_makeLayers_J93
  refine Y.op (pc' := 94) (fun _ => X.ic ki_1 dX4_makeLayers_93) ?_
  exact Y.zreturn rfl dX4_makeLayers_94
def f_X4_makeLayers_J76 (h : xH) : Option (Int32 × xH) :=
  if (0 : Int32) = 0 ∨ (0 : Int32) = 1 then some ((0 : Int32), h) else none
theorem y_X4_makeLayers_J76 {g : xG} {h0 : xH} {cl : Bool} (h : xH) : Y g DX4_makeLayers h0 cl iI (f_X4_makeLayers_J76 h) 76 [none, none, none, none, none, none, none] [] h := by
  unfold f_X4_makeLayers_J76
  refine Y.op (pc' := 77) (fun _ => X.ic ki_0 dX4_makeLayers_76) ?_
  exact Y.zreturn rfl dX4_makeLayers_77
def f_X4_makeLayers_J148 (kH : Nat → Nat → Int32 → xH → Option (Int32 × xH)) (kE76 : xH → Option (Int32 × xH)) (kE93 : xH → Option (Int32 × xH)) (kE154 : xH → Option (Int32 × xH)) (x0 : Nat) (x1 : Nat) (x3 : Int32) (h : xH) : Option (Int32 × xH) :=
  lt (x3 + (2 : Int32)) fun v1 =>
  kH x0 x1 v1 h
theorem y_X4_makeLayers_J148 {g : xG} {h0 : xH} {cl : Bool} {kH : Nat → Nat → Int32 → xH → Option (Int32 × xH)} {kE76 : xH → Option (Int32 × xH)} {kE93 : xH → Option (Int32 × xH)} {kE154 : xH → Option (Int32 × xH)} (hkH : ∀ (x0 : Nat) (x1 : Nat) (x3 : Int32) (h : xH), Y g DX4_makeLayers h0 cl iI (kH x0 x1 x3 h) 57 [some (.ref x0), some (.ref x1), none, some (.int x3), none, none, none] [] h) (hkE76 : ∀  (h : xH), Y g DX4_makeLayers h0 cl iI (kE76  h) 76 [none, none, none, none, none, none, none] [] h) (hkE93 : ∀  (h : xH), Y g DX4_makeLayers h0 cl iI (kE93  h) 93 [none, none, none, none, none, none, none] [] h) (hkE154 : ∀  (h : xH), Y g DX4_makeLayers h0 cl iI (kE154  h) 154 [none, none, none, none, none, none, none] [] h) (x0 : Nat) (x1 : Nat) (x3 : Int32) (h : xH) : Y g DX4_makeLayers h0 cl iI (f_X4_makeLayers_J148 kH kE76 kE93 kE154 x0 x1 x3 h) 148 [some (.ref x0), some (.ref x1), none, some (.int x3), none, none, none] [] h := by
  unfold f_X4_makeLayers_J148
  refine Y.iinc (i := 3) (loc' := fun v1 => [some (.ref x0), some (.ref x1), none, some (.int v1), none, none, none]) rfl (Nat.le_of_ble_eq_true rfl) ki_2 (fun _ => rfl) dX4_makeLayers_148 (fun v1 => ?_)
  refine Y.op (pc' := 57) (fun _ => X.goto 57 (by decide) dX4_makeLayers_151) ?_
  exact hkH x0 x1 v1 h
def f_X4_makeLayers_J142 (kH : Nat → Nat → Int32 → Int32 → Int32 → xH → Option (Int32 × xH)) (kE148 : Nat → Nat → Int32 → xH → Option (Int32 × xH)) (x0 : Nat) (x1 : Nat) (x3 : Int32) (x4 : Int32) (x5 : Int32) (h : xH) : Option (Int32 × xH) :=
  lt (x5 + (1 : Int32)) fun v1 =>
  kH x0 x1 x3 x4 v1 h
theorem y_X4_makeLayers_J142 {g : xG} {h0 : xH} {cl : Bool} {kH : Nat → Nat → Int32 → Int32 → Int32 → xH → Option (Int32 × xH)} {kE148 : Nat → Nat → Int32 → xH → Option (Int32 × xH)} (hkH : ∀ (x0 : Nat) (x1 : Nat) (x3 : Int32) (x4 : Int32) (x5 : Int32) (h : xH), Y g DX4_makeLayers h0 cl iI (kH x0 x1 x3 x4 x5 h) 98 [some (.ref x0), some (.ref x1), none, some (.int x3), some (.int x4), some (.int x5), none] [] h) (hkE148 : ∀ (x0 : Nat) (x1 : Nat) (x3 : Int32) (h : xH), Y g DX4_makeLayers h0 cl iI (kE148 x0 x1 x3 h) 148 [some (.ref x0), some (.ref x1), none, some (.int x3), none, none, none] [] h) (x0 : Nat) (x1 : Nat) (x3 : Int32) (x4 : Int32) (x5 : Int32) (h : xH) : Y g DX4_makeLayers h0 cl iI (f_X4_makeLayers_J142 kH kE148 x0 x1 x3 x4 x5 h) 142 [some (.ref x0), some (.ref x1), none, some (.int x3), some (.int x4), some (.int x5), none] [] h := by
  unfold f_X4_makeLayers_J142
  refine Y.iinc (i := 5) (loc' := fun v1 => [some (.ref x0), some (.ref x1), none, some (.int x3), some (.int x4), some (.int v1), none]) rfl (Nat.le_of_ble_eq_true rfl) ki_1 (fun _ => rfl) dX4_makeLayers_142 (fun v1 => ?_)
  refine Y.op (pc' := 98) (fun _ => X.goto 98 (by decide) dX4_makeLayers_145) ?_
  exact hkH x0 x1 x3 x4 v1 h
def f_X4_makeLayers_L98 (kE148 : Nat → Nat → Int32 → xH → Option (Int32 × xH)) : Nat → Nat → Nat → Int32 → Int32 → Int32 → xH → Option (Int32 × xH)
  | 0 => fun _ _ _ _ _ _ => none
  | n + 1 => fun x0 x1 x3 x4 x5 h =>
    if x5 ≥ (12 : Int32) then
      kE148 x0 x1 x3 h
    else
      (gR h 7 x1 0).bind fun v1 =>
      (vc h 3 v1 (f_X3_taskOf v1 x5 h)).bind fun r2 =>
      if r2.1 = (-1 : Int32) then
        f_X4_makeLayers_J142 (f_X4_makeLayers_L98 kE148 n) kE148 x0 x1 x3 x4 x5 r2.2
      else
        (f_X9_has x4 r2.1 r2.2).bind fun r3 =>
        if r3.1 = (0 : Int32) then
          f_X4_makeLayers_J142 (f_X4_makeLayers_L98 kE148 n) kE148 x0 x1 x3 x4 x5 r3.2
        else
          (gR r3.2 4 x0 0).bind fun v4 =>
          (sI r3.2 v4 x5 (x3 + (2 : Int32))).bind fun h5 =>
          f_X4_makeLayers_J142 (f_X4_makeLayers_L98 kE148 n) kE148 x0 x1 x3 x4 x5 h5
theorem y_X4_makeLayers_L98 {g : xG} {h0 : xH} {cl : Bool} {kE148 : Nat → Nat → Int32 → xH → Option (Int32 × xH)} (hkE148 : ∀ (x0 : Nat) (x1 : Nat) (x3 : Int32) (h : xH), Y g DX4_makeLayers h0 cl iI (kE148 x0 x1 x3 h) 148 [some (.ref x0), some (.ref x1), none, some (.int x3), none, none, none] [] h) : ∀ (n : Nat) (x0 : Nat) (x1 : Nat) (x3 : Int32) (x4 : Int32) (x5 : Int32) (h : xH), Y g DX4_makeLayers h0 cl iI (f_X4_makeLayers_L98 kE148 n x0 x1 x3 x4 x5 h) 98 [some (.ref x0), some (.ref x1), none, some (.int x3), some (.int x4), some (.int x5), none] [] h := by
  intro n
  induction n with
  | zero => intro x0 x1 x3 x4 x5 h; exact Y.nothing
  | succ n ih =>
    intro x0 x1 x3 x4 x5 h
    unfold f_X4_makeLayers_L98
    refine Y.op (pc' := 100) (fun _ => X.iload rfl dX4_makeLayers_98) ?_
    refine Y.op (pc' := 102) (fun _ => X.bp kb_12 dX4_makeLayers_100) ?_
    refine Y.cmpge 148 (by decide) dX4_makeLayers_102 ?_ ?_
    · exact Y.fg (hkE148 x0 x1 x3 h) (And.intro rfl (And.intro rfl (And.intro rfl trivial)))
    · refine Y.op (pc' := 106) (fun _ => X.aloadn rfl dX4_makeLayers_105) ?_
      refine Y.getR fd_X4_40 rfl dX4_makeLayers_106 (fun v1 => ?_)
      refine Y.op (pc' := 111) (fun _ => X.iload rfl dX4_makeLayers_109) ?_
      refine Y.callVi (As := [.int x5]) lk_X4_88 rfl cal_X3_taskOf vir_X3_taskOf (Nat.le_of_ble_eq_true rfl) (Nat.le_of_ble_eq_true rfl) rfl rfl rfl (Nat.le_of_ble_eq_true rfl) dX4_makeLayers_111 (fun _ e => m_X3_taskOf v1 x5 h _ _ e) (fun r2 => ?_)
      refine Y.op (pc' := 116) (loc' := [some (.ref x0), some (.ref x1), none, some (.int x3), some (.int x4), some (.int x5), some (.int r2.1)]) (fun _ => X.istore (Nat.le_of_ble_eq_true rfl) rfl dX4_makeLayers_114) ?_
      refine Y.op (pc' := 118) (fun _ => X.iload rfl dX4_makeLayers_116) ?_
      refine Y.op (pc' := 119) (fun _ => X.ic ki_m1 dX4_makeLayers_118) ?_
      refine Y.cmpeq 142 (by decide) dX4_makeLayers_119 ?_ ?_
      · exact Y.fg (y_X4_makeLayers_J142 ih hkE148 x0 x1 x3 x4 x5 r2.2) (And.intro rfl (And.intro rfl (And.intro rfl (And.intro rfl (And.intro rfl trivial)))))
      · refine Y.op (pc' := 124) (fun _ => X.iload rfl dX4_makeLayers_122) ?_
        refine Y.op (pc' := 126) (fun _ => X.iload rfl dX4_makeLayers_124) ?_
        refine Y.callSi (As := [.int x4, .int r2.1]) lk_X4_77 rfl cal_X9_has sta_X9_has (Nat.le_of_ble_eq_true rfl) rfl rfl (Nat.le_of_ble_eq_true rfl) dX4_makeLayers_126 (fun _ e => m_X9_has x4 r2.1 r2.2 _ _ e) (fun r3 => ?_)
        refine Y.ifeq 142 (by decide) dX4_makeLayers_129 ?_ ?_
        · exact Y.fg (y_X4_makeLayers_J142 ih hkE148 x0 x1 x3 x4 x5 r3.2) (And.intro rfl (And.intro rfl (And.intro rfl (And.intro rfl (And.intro rfl trivial)))))
        · refine Y.op (pc' := 133) (fun _ => X.aloadn rfl dX4_makeLayers_132) ?_
          refine Y.getR fd_X4_9 rfl dX4_makeLayers_133 (fun v4 => ?_)
          refine Y.op (pc' := 138) (fun _ => X.iload rfl dX4_makeLayers_136) ?_
          refine Y.op (pc' := 139) (fun _ => X.iloadn rfl dX4_makeLayers_138) ?_
          refine Y.op (pc' := 140) (fun _ => X.ic ki_2 dX4_makeLayers_139) ?_
          refine Y.op (pc' := 141) (fun _ => X.iadd dX4_makeLayers_140) ?_
          refine Y.astI dX4_makeLayers_141 (fun h5 => ?_)
          exact Y.fg (y_X4_makeLayers_J142 ih hkE148 x0 x1 x3 x4 x5 h5) (And.intro rfl (And.intro rfl (And.intro rfl (And.intro rfl (And.intro rfl trivial)))))
def f_X4_makeLayers_L57 (kE76 : xH → Option (Int32 × xH)) (kE93 : xH → Option (Int32 × xH)) (kE154 : xH → Option (Int32 × xH)) : Nat → Nat → Nat → Int32 → xH → Option (Int32 × xH)
  | 0 => fun _ _ _ _ => none
  | n + 1 => fun x0 x1 x3 h =>
    if x3 ≥ (24 : Int32) then
      kE154 h
    else
      (vc h 4 x0 (f_X4_nextTasks x0 x1 x3 h)).bind fun r1 =>
      if r1.1 = (0 : Int32) then
        kE76 r1.2
      else
        (gR r1.2 7 x1 0).bind fun v2 =>
        (vc r1.2 3 v2 (f_X3_tasksIn v2 r1.2)).bind fun r3 =>
        if (r1.1 &&& (r3.1 ^^^ (-1 : Int32))) = (0 : Int32) then
          f_X4_makeLayers_L98 (f_X4_makeLayers_J148 (f_X4_makeLayers_L57 kE76 kE93 kE154 n) kE76 kE93 kE154) 5000 x0 x1 x3 r1.1 (0 : Int32) r3.2
        else
          kE93 r3.2
theorem y_X4_makeLayers_L57 {g : xG} {h0 : xH} {cl : Bool} {kE76 : xH → Option (Int32 × xH)} {kE93 : xH → Option (Int32 × xH)} {kE154 : xH → Option (Int32 × xH)} (hkE76 : ∀  (h : xH), Y g DX4_makeLayers h0 cl iI (kE76  h) 76 [none, none, none, none, none, none, none] [] h) (hkE93 : ∀  (h : xH), Y g DX4_makeLayers h0 cl iI (kE93  h) 93 [none, none, none, none, none, none, none] [] h) (hkE154 : ∀  (h : xH), Y g DX4_makeLayers h0 cl iI (kE154  h) 154 [none, none, none, none, none, none, none] [] h) : ∀ (n : Nat) (x0 : Nat) (x1 : Nat) (x3 : Int32) (h : xH), Y g DX4_makeLayers h0 cl iI (f_X4_makeLayers_L57 kE76 kE93 kE154 n x0 x1 x3 h) 57 [some (.ref x0), some (.ref x1), none, some (.int x3), none, none, none] [] h := by
  intro n
  induction n with
  | zero => intro x0 x1 x3 h; exact Y.nothing
  | succ n ih =>
    intro x0 x1 x3 h
    unfold f_X4_makeLayers_L57
    refine Y.op (pc' := 58) (fun _ => X.iloadn rfl dX4_makeLayers_57) ?_
    refine Y.op (pc' := 60) (fun _ => X.bp kb_24 dX4_makeLayers_58) ?_
    refine Y.cmpge 154 (by decide) dX4_makeLayers_60 ?_ ?_
    · exact Y.fg (hkE154 h) trivial
    · refine Y.op (pc' := 64) (fun _ => X.aloadn rfl dX4_makeLayers_63) ?_
      refine Y.op (pc' := 65) (fun _ => X.aloadn rfl dX4_makeLayers_64) ?_
      refine Y.op (pc' := 66) (fun _ => X.iloadn rfl dX4_makeLayers_65) ?_
      refine Y.callVi (As := [.ref x1, .int x3]) lk_X4_81 rfl cal_X4_nextTasks vir_X4_nextTasks (Nat.le_of_ble_eq_true rfl) (Nat.le_of_ble_eq_true rfl) rfl rfl rfl (Nat.le_of_ble_eq_true rfl) dX4_makeLayers_66 (fun _ e => m_X4_nextTasks x0 x1 x3 h _ _ e) (fun r1 => ?_)
      refine Y.op (pc' := 71) (loc' := [some (.ref x0), some (.ref x1), none, some (.int x3), some (.int r1.1), none, none]) (fun _ => X.istore (Nat.le_of_ble_eq_true rfl) rfl dX4_makeLayers_69) ?_
      refine Y.op (pc' := 73) (fun _ => X.iload rfl dX4_makeLayers_71) ?_
      refine Y.ifne 78 (by decide) dX4_makeLayers_73 ?_ ?_
      · refine Y.op (pc' := 80) (fun _ => X.iload rfl dX4_makeLayers_78) ?_
        refine Y.op (pc' := 81) (fun _ => X.aloadn rfl dX4_makeLayers_80) ?_
        refine Y.getR fd_X4_40 rfl dX4_makeLayers_81 (fun v2 => ?_)
        refine Y.callVi (As := []) lk_X4_85 rfl cal_X3_tasksIn vir_X3_tasksIn (Nat.le_of_ble_eq_true rfl) (Nat.le_of_ble_eq_true rfl) rfl rfl rfl (Nat.le_of_ble_eq_true rfl) dX4_makeLayers_84 (fun _ e => m_X3_tasksIn v2 r1.2 _ _ e) (fun r3 => ?_)
        refine Y.op (pc' := 88) (fun _ => X.ic ki_m1 dX4_makeLayers_87) ?_
        refine Y.op (pc' := 89) (fun _ => X.ixor dX4_makeLayers_88) ?_
        refine Y.op (pc' := 90) (fun _ => X.iand dX4_makeLayers_89) ?_
        refine Y.ifeq 95 (by decide) dX4_makeLayers_90 ?_ ?_
        · refine Y.op (pc' := 96) (fun _ => X.ic ki_0 dX4_makeLayers_95) ?_
          refine Y.op (pc' := 98) (loc' := [some (.ref x0), some (.ref x1), none, some (.int x3), some (.int r1.1), some (.int (0 : Int32)), none]) (fun _ => X.istore (Nat.le_of_ble_eq_true rfl) rfl dX4_makeLayers_96) ?_
          exact y_X4_makeLayers_L98 (y_X4_makeLayers_J148 ih hkE76 hkE93 hkE154) 5000 x0 x1 x3 r1.1 (0 : Int32) r3.2
        · exact Y.fg (hkE93 r3.2) trivial
      · exact Y.fg (hkE76 r1.2) trivial
def f_X4_makeLayers_J55 (x0 : Nat) (x1 : Nat) (h : xH) : Option (Int32 × xH) :=
  f_X4_makeLayers_L57 (f_X4_makeLayers_J76) (f_X4_makeLayers_J93) (f_X4_makeLayers_J154) 5000 x0 x1 (0 : Int32) h
theorem y_X4_makeLayers_J55 {g : xG} {h0 : xH} {cl : Bool} (x0 : Nat) (x1 : Nat) (h : xH) : Y g DX4_makeLayers h0 cl iI (f_X4_makeLayers_J55 x0 x1 h) 55 [some (.ref x0), some (.ref x1), none, none, none, none, none] [] h := by
  unfold f_X4_makeLayers_J55
  refine Y.op (pc' := 56) (fun _ => X.ic ki_0 dX4_makeLayers_55) ?_
  refine Y.op (pc' := 57) (loc' := [some (.ref x0), some (.ref x1), none, some (.int (0 : Int32)), none, none, none]) (fun _ => X.istoren (Nat.le_of_ble_eq_true rfl) rfl dX4_makeLayers_56) ?_
  exact y_X4_makeLayers_L57 (y_X4_makeLayers_J76) (y_X4_makeLayers_J93) (y_X4_makeLayers_J154) 5000 x0 x1 (0 : Int32) h
def f_X4_makeLayers_J41 (kH : Nat → Nat → Int32 → Int32 → xH → Option (Int32 × xH)) (kE55 : Nat → Nat → xH → Option (Int32 × xH)) (x0 : Nat) (x1 : Nat) (x2 : Int32) (x3 : Int32) (s0 : Nat) (s1 : Int32) (s2 : Int32) (h : xH) : Option (Int32 × xH) :=
  (sI h s0 s1 s2).bind fun h1 =>
  (gR h1 4 x0 1).bind fun v2 =>
  (sI h1 v2 x3 (-1 : Int32)).bind fun h3 =>
  lt (x3 + (1 : Int32)) fun v4 =>
  kH x0 x1 x2 v4 h3
theorem y_X4_makeLayers_J41 {g : xG} {h0 : xH} {cl : Bool} {kH : Nat → Nat → Int32 → Int32 → xH → Option (Int32 × xH)} {kE55 : Nat → Nat → xH → Option (Int32 × xH)} (hkH : ∀ (x0 : Nat) (x1 : Nat) (x2 : Int32) (x3 : Int32) (h : xH), Y g DX4_makeLayers h0 cl iI (kH x0 x1 x2 x3 h) 17 [some (.ref x0), some (.ref x1), some (.int x2), some (.int x3), none, none, none] [] h) (hkE55 : ∀ (x0 : Nat) (x1 : Nat) (h : xH), Y g DX4_makeLayers h0 cl iI (kE55 x0 x1 h) 55 [some (.ref x0), some (.ref x1), none, none, none, none, none] [] h) (x0 : Nat) (x1 : Nat) (x2 : Int32) (x3 : Int32) (s0 : Nat) (s1 : Int32) (s2 : Int32) (h : xH) : Y g DX4_makeLayers h0 cl iI (f_X4_makeLayers_J41 kH kE55 x0 x1 x2 x3 s0 s1 s2 h) 41 [some (.ref x0), some (.ref x1), some (.int x2), some (.int x3), none, none, none] [.int s2, .int s1, .ref s0] h := by
  unfold f_X4_makeLayers_J41
  refine Y.astI dX4_makeLayers_41 (fun h1 => ?_)
  refine Y.op (pc' := 43) (fun _ => X.aloadn rfl dX4_makeLayers_42) ?_
  refine Y.getR fd_X4_15 rfl dX4_makeLayers_43 (fun v2 => ?_)
  refine Y.op (pc' := 47) (fun _ => X.iloadn rfl dX4_makeLayers_46) ?_
  refine Y.op (pc' := 48) (fun _ => X.ic ki_m1 dX4_makeLayers_47) ?_
  refine Y.astI dX4_makeLayers_48 (fun h3 => ?_)
  refine Y.iinc (i := 3) (loc' := fun v4 => [some (.ref x0), some (.ref x1), some (.int x2), some (.int v4), none, none, none]) rfl (Nat.le_of_ble_eq_true rfl) ki_1 (fun _ => rfl) dX4_makeLayers_49 (fun v4 => ?_)
  refine Y.op (pc' := 17) (fun _ => X.goto 17 (by decide) dX4_makeLayers_52) ?_
  exact hkH x0 x1 x2 v4 h3
def f_X4_makeLayers_L17 (kE55 : Nat → Nat → xH → Option (Int32 × xH)) : Nat → Nat → Nat → Int32 → Int32 → xH → Option (Int32 × xH)
  | 0 => fun _ _ _ _ _ => none
  | n + 1 => fun x0 x1 x2 x3 h =>
    if x3 ≥ (12 : Int32) then
      kE55 x0 x1 h
    else
      (gR h 4 x0 0).bind fun v1 =>
      (f_X9_has x2 x3 h).bind fun r2 =>
      if r2.1 = (0 : Int32) then
        f_X4_makeLayers_J41 (f_X4_makeLayers_L17 kE55 n) kE55 x0 x1 x2 x3 v1 x3 (-1 : Int32) r2.2
      else
        f_X4_makeLayers_J41 (f_X4_makeLayers_L17 kE55 n) kE55 x0 x1 x2 x3 v1 x3 (0 : Int32) r2.2
theorem y_X4_makeLayers_L17 {g : xG} {h0 : xH} {cl : Bool} {kE55 : Nat → Nat → xH → Option (Int32 × xH)} (hkE55 : ∀ (x0 : Nat) (x1 : Nat) (h : xH), Y g DX4_makeLayers h0 cl iI (kE55 x0 x1 h) 55 [some (.ref x0), some (.ref x1), none, none, none, none, none] [] h) : ∀ (n : Nat) (x0 : Nat) (x1 : Nat) (x2 : Int32) (x3 : Int32) (h : xH), Y g DX4_makeLayers h0 cl iI (f_X4_makeLayers_L17 kE55 n x0 x1 x2 x3 h) 17 [some (.ref x0), some (.ref x1), some (.int x2), some (.int x3), none, none, none] [] h := by
  intro n
  induction n with
  | zero => intro x0 x1 x2 x3 h; exact Y.nothing
  | succ n ih =>
    intro x0 x1 x2 x3 h
    unfold f_X4_makeLayers_L17
    refine Y.op (pc' := 18) (fun _ => X.iloadn rfl dX4_makeLayers_17) ?_
    refine Y.op (pc' := 20) (fun _ => X.bp kb_12 dX4_makeLayers_18) ?_
    refine Y.cmpge 55 (by decide) dX4_makeLayers_20 ?_ ?_
    · exact Y.fg (hkE55 x0 x1 h) (And.intro rfl (And.intro rfl trivial))
    · refine Y.op (pc' := 24) (fun _ => X.aloadn rfl dX4_makeLayers_23) ?_
      refine Y.getR fd_X4_9 rfl dX4_makeLayers_24 (fun v1 => ?_)
      refine Y.op (pc' := 28) (fun _ => X.iloadn rfl dX4_makeLayers_27) ?_
      refine Y.op (pc' := 29) (fun _ => X.iloadn rfl dX4_makeLayers_28) ?_
      refine Y.op (pc' := 30) (fun _ => X.iloadn rfl dX4_makeLayers_29) ?_
      refine Y.callSi (As := [.int x2, .int x3]) lk_X4_77 rfl cal_X9_has sta_X9_has (Nat.le_of_ble_eq_true rfl) rfl rfl (Nat.le_of_ble_eq_true rfl) dX4_makeLayers_30 (fun _ e => m_X9_has x2 x3 h _ _ e) (fun r2 => ?_)
      refine Y.ifeq 40 (by decide) dX4_makeLayers_33 ?_ ?_
      · refine Y.op (pc' := 41) (fun _ => X.ic ki_m1 dX4_makeLayers_40) ?_
        exact y_X4_makeLayers_J41 ih hkE55 x0 x1 x2 x3 v1 x3 (-1 : Int32) r2.2
      · refine Y.op (pc' := 37) (fun _ => X.ic ki_0 dX4_makeLayers_36) ?_
        refine Y.op (pc' := 41) (fun _ => X.goto 41 (by decide) dX4_makeLayers_37) ?_
        exact y_X4_makeLayers_J41 ih hkE55 x0 x1 x2 x3 v1 x3 (0 : Int32) r2.2
def f_X4_makeLayers (a0 : Nat) (p1 : Nat) (h : xH) : Option (Int32 × xH) :=
  (gI h 7 p1 8).bind fun v1 =>
  (gR h 7 p1 0).bind fun v2 =>
  (vc h 3 v2 (f_X3_workersIn v2 h)).bind fun r3 =>
  lt ((v1 &&& (r3.1 ^^^ (-1 : Int32)))) fun v4 =>
  f_X4_makeLayers_L17 (f_X4_makeLayers_J55) 5000 a0 p1 v4 (0 : Int32) r3.2
theorem y_X4_makeLayers {g : xG} {h0 : xH} {cl : Bool} (a0 : Nat) (p1 : Nat) (h : xH) : Y g DX4_makeLayers h0 cl iI (f_X4_makeLayers a0 p1 h) 0 [some (.ref a0), some (.ref p1), none, none, none, none, none] [] h := by
  unfold f_X4_makeLayers
  refine Y.op (pc' := 1) (fun _ => X.aloadn rfl dX4_makeLayers_0) ?_
  refine Y.getI fd_X4_70 rfl dX4_makeLayers_1 (fun v1 => ?_)
  refine Y.op (pc' := 5) (fun _ => X.aloadn rfl dX4_makeLayers_4) ?_
  refine Y.getR fd_X4_40 rfl dX4_makeLayers_5 (fun v2 => ?_)
  refine Y.callVi (As := []) lk_X4_73 rfl cal_X3_workersIn vir_X3_workersIn (Nat.le_of_ble_eq_true rfl) (Nat.le_of_ble_eq_true rfl) rfl rfl rfl (Nat.le_of_ble_eq_true rfl) dX4_makeLayers_8 (fun _ e => m_X3_workersIn v2 h _ _ e) (fun r3 => ?_)
  refine Y.op (pc' := 12) (fun _ => X.ic ki_m1 dX4_makeLayers_11) ?_
  refine Y.op (pc' := 13) (fun _ => X.ixor dX4_makeLayers_12) ?_
  refine Y.op (pc' := 14) (fun _ => X.iand dX4_makeLayers_13) ?_
  refine Y.top (fun v4 => ?_)
  refine Y.op (pc' := 15) (loc' := [some (.ref a0), some (.ref p1), some (.int v4), none, none, none, none]) (fun _ => X.istoren (Nat.le_of_ble_eq_true rfl) rfl dX4_makeLayers_14) ?_
  refine Y.op (pc' := 16) (fun _ => X.ic ki_0 dX4_makeLayers_15) ?_
  refine Y.op (pc' := 17) (loc' := [some (.ref a0), some (.ref p1), some (.int v4), some (.int (0 : Int32)), none, none, none]) (fun _ => X.istoren (Nat.le_of_ble_eq_true rfl) rfl dX4_makeLayers_16) ?_
  exact y_X4_makeLayers_L17 (y_X4_makeLayers_J55) 5000 a0 p1 v4 (0 : Int32) r3.2
theorem m_X4_makeLayers {g : xG} (a0 : Nat) (p1 : Nat) (h : xH) (cl : Bool) (r : Int32 × xH) (e : f_X4_makeLayers a0 p1 h = some r) : XM g DX4_makeLayers [.ref a0, .ref p1] h cl (iI r) := YM.of rfl rfl (Nat.le_of_ble_eq_true rfl) (y_X4_makeLayers a0 p1 h) e
def f_X4_follow_J38 (x0 : Nat) (x2 : Int32) (h : xH) : Option (xH) :=
  (pI h 4 x0 8 ((2 : Int32) * (x2 + (1 : Int32)))).bind fun h1 =>
  some h1
theorem y_X4_follow_J38 {g : xG} {h0 : xH} {cl : Bool} (x0 : Nat) (x2 : Int32) (h : xH) : Y g DX4_follow h0 cl iV (f_X4_follow_J38 x0 x2 h) 38 [some (.ref x0), none, some (.int x2), none] [] h := by
  unfold f_X4_follow_J38
  refine Y.op (pc' := 39) (fun _ => X.aloadn rfl dX4_follow_38) ?_
  refine Y.op (pc' := 40) (fun _ => X.ic ki_2 dX4_follow_39) ?_
  refine Y.op (pc' := 41) (fun _ => X.iloadn rfl dX4_follow_40) ?_
  refine Y.op (pc' := 42) (fun _ => X.ic ki_1 dX4_follow_41) ?_
  refine Y.op (pc' := 43) (fun _ => X.iadd dX4_follow_42) ?_
  refine Y.op (pc' := 44) (fun _ => X.imul dX4_follow_43) ?_
  refine Y.putI fd_X4_37 rfl dX4_follow_44 (fun h1 => ?_)
  exact Y.vreturn rfl dX4_follow_47
def f_X4_follow_L2 (kE38 : Nat → Int32 → xH → Option (xH)) : Nat → Nat → Nat → Int32 → Int32 → xH → Option (xH)
  | 0 => fun _ _ _ _ _ => none
  | n + 1 => fun x0 x1 x2 x3 h =>
    if x3 > x2 then
      kE38 x0 x2 h
    else
      if x3 ≥ (12 : Int32) then
        kE38 x0 x2 h
      else
        (gR h 7 x1 0).bind fun v1 =>
        (gR h 4 x0 2).bind fun v2 =>
        (aI h v2 x3).bind fun v3 =>
        (gR h 4 x0 3).bind fun v4 =>
        (aI h v4 x3).bind fun v5 =>
        (vc h 3 v1 (f_X3_join v1 v3 v5 h)).bind fun h6 =>
        lt (x3 + (1 : Int32)) fun v7 =>
        f_X4_follow_L2 kE38 n x0 x1 x2 v7 h6
theorem y_X4_follow_L2 {g : xG} {h0 : xH} {cl : Bool} {kE38 : Nat → Int32 → xH → Option (xH)} (hkE38 : ∀ (x0 : Nat) (x2 : Int32) (h : xH), Y g DX4_follow h0 cl iV (kE38 x0 x2 h) 38 [some (.ref x0), none, some (.int x2), none] [] h) : ∀ (n : Nat) (x0 : Nat) (x1 : Nat) (x2 : Int32) (x3 : Int32) (h : xH), Y g DX4_follow h0 cl iV (f_X4_follow_L2 kE38 n x0 x1 x2 x3 h) 2 [some (.ref x0), some (.ref x1), some (.int x2), some (.int x3)] [] h := by
  intro n
  induction n with
  | zero => intro x0 x1 x2 x3 h; exact Y.nothing
  | succ n ih =>
    intro x0 x1 x2 x3 h
    unfold f_X4_follow_L2
    refine Y.op (pc' := 3) (fun _ => X.iloadn rfl dX4_follow_2) ?_
    refine Y.op (pc' := 4) (fun _ => X.iloadn rfl dX4_follow_3) ?_
    refine Y.cmpgt 38 (by decide) dX4_follow_4 ?_ ?_
    · exact Y.fg (hkE38 x0 x2 h) (And.intro rfl (And.intro rfl trivial))
    · refine Y.op (pc' := 8) (fun _ => X.iloadn rfl dX4_follow_7) ?_
      refine Y.op (pc' := 10) (fun _ => X.bp kb_12 dX4_follow_8) ?_
      refine Y.cmpge 38 (by decide) dX4_follow_10 ?_ ?_
      · exact Y.fg (hkE38 x0 x2 h) (And.intro rfl (And.intro rfl trivial))
      · refine Y.op (pc' := 14) (fun _ => X.aloadn rfl dX4_follow_13) ?_
        refine Y.getR fd_X4_40 rfl dX4_follow_14 (fun v1 => ?_)
        refine Y.op (pc' := 18) (fun _ => X.aloadn rfl dX4_follow_17) ?_
        refine Y.getR fd_X4_18 rfl dX4_follow_18 (fun v2 => ?_)
        refine Y.op (pc' := 22) (fun _ => X.iloadn rfl dX4_follow_21) ?_
        refine Y.aldI dX4_follow_22 (fun v3 => ?_)
        refine Y.op (pc' := 24) (fun _ => X.aloadn rfl dX4_follow_23) ?_
        refine Y.getR fd_X4_21 rfl dX4_follow_24 (fun v4 => ?_)
        refine Y.op (pc' := 28) (fun _ => X.iloadn rfl dX4_follow_27) ?_
        refine Y.aldI dX4_follow_28 (fun v5 => ?_)
        refine Y.callVv (As := [.int v3, .int v5]) lk_X4_110 rfl cal_X3_join vir_X3_join (Nat.le_of_ble_eq_true rfl) (Nat.le_of_ble_eq_true rfl) rfl rfl rfl (Nat.le_of_ble_eq_true rfl) dX4_follow_29 (fun _ e => m_X3_join v1 v3 v5 h _ _ e) (fun h6 => ?_)
        refine Y.iinc (i := 3) (loc' := fun v7 => [some (.ref x0), some (.ref x1), some (.int x2), some (.int v7)]) rfl (Nat.le_of_ble_eq_true rfl) ki_1 (fun _ => rfl) dX4_follow_32 (fun v7 => ?_)
        refine Y.op (pc' := 2) (fun _ => X.goto 2 (by decide) dX4_follow_35) ?_
        exact ih x0 x1 x2 v7 h6
def f_X4_follow (a0 : Nat) (p1 : Nat) (p2 : Int32) (h : xH) : Option (xH) :=
  f_X4_follow_L2 (f_X4_follow_J38) 5000 a0 p1 p2 (0 : Int32) h
theorem y_X4_follow {g : xG} {h0 : xH} {cl : Bool} (a0 : Nat) (p1 : Nat) (p2 : Int32) (h : xH) : Y g DX4_follow h0 cl iV (f_X4_follow a0 p1 p2 h) 0 [some (.ref a0), some (.ref p1), some (.int p2), none] [] h := by
  unfold f_X4_follow
  refine Y.op (pc' := 1) (fun _ => X.ic ki_0 dX4_follow_0) ?_
  refine Y.op (pc' := 2) (loc' := [some (.ref a0), some (.ref p1), some (.int p2), some (.int (0 : Int32))]) (fun _ => X.istoren (Nat.le_of_ble_eq_true rfl) rfl dX4_follow_1) ?_
  exact y_X4_follow_L2 (y_X4_follow_J38) 5000 a0 p1 p2 (0 : Int32) h
theorem m_X4_follow {g : xG} (a0 : Nat) (p1 : Nat) (p2 : Int32) (h : xH) (cl : Bool) (r : xH) (e : f_X4_follow a0 p1 p2 h = some r) : XM g DX4_follow [.ref a0, .ref p1, .int p2] h cl (iV r) := YM.of rfl rfl (Nat.le_of_ble_eq_true rfl) (y_X4_follow a0 p1 p2 h) e
def f_X4_layerOfTask_J17 (s0 : Int32) (h : xH) : Option (Int32 × xH) :=
  some (s0, h)
theorem y_X4_layerOfTask_J17 {g : xG} {h0 : xH} {cl : Bool} (s0 : Int32) (h : xH) : Y g DX4_layerOfTask h0 cl iI (f_X4_layerOfTask_J17 s0 h) 17 [none, none] [.int s0] h := by
  unfold f_X4_layerOfTask_J17
  exact Y.ireturn rfl dX4_layerOfTask_17
def f_X4_layerOfTask (a0 : Nat) (p1 : Int32) (h : xH) : Option (Int32 × xH) :=
  (f_X9_inLimit p1 h).bind fun r1 =>
  if r1.1 = (0 : Int32) then
    f_X4_layerOfTask_J17 (-1 : Int32) r1.2
  else
    (gR r1.2 4 a0 1).bind fun v2 =>
    (aI r1.2 v2 p1).bind fun v3 =>
    f_X4_layerOfTask_J17 v3 r1.2
theorem y_X4_layerOfTask {g : xG} {h0 : xH} {cl : Bool} (a0 : Nat) (p1 : Int32) (h : xH) : Y g DX4_layerOfTask h0 cl iI (f_X4_layerOfTask a0 p1 h) 0 [some (.ref a0), some (.int p1)] [] h := by
  unfold f_X4_layerOfTask
  refine Y.op (pc' := 1) (fun _ => X.iloadn rfl dX4_layerOfTask_0) ?_
  refine Y.callSi (As := [.int p1]) lk_X4_66 rfl cal_X9_inLimit sta_X9_inLimit (Nat.le_of_ble_eq_true rfl) rfl rfl (Nat.le_of_ble_eq_true rfl) dX4_layerOfTask_1 (fun _ e => m_X9_inLimit p1 h _ _ e) (fun r1 => ?_)
  refine Y.ifeq 16 (by decide) dX4_layerOfTask_4 ?_ ?_
  · refine Y.op (pc' := 17) (fun _ => X.ic ki_m1 dX4_layerOfTask_16) ?_
    exact Y.fg (y_X4_layerOfTask_J17 (-1 : Int32) r1.2) trivial
  · refine Y.op (pc' := 8) (fun _ => X.aloadn rfl dX4_layerOfTask_7) ?_
    refine Y.getR fd_X4_15 rfl dX4_layerOfTask_8 (fun v2 => ?_)
    refine Y.op (pc' := 12) (fun _ => X.iloadn rfl dX4_layerOfTask_11) ?_
    refine Y.aldI dX4_layerOfTask_12 (fun v3 => ?_)
    refine Y.op (pc' := 17) (fun _ => X.goto 17 (by decide) dX4_layerOfTask_13) ?_
    exact Y.fg (y_X4_layerOfTask_J17 v3 r1.2) trivial
theorem m_X4_layerOfTask {g : xG} (a0 : Nat) (p1 : Int32) (h : xH) (cl : Bool) (r : Int32 × xH) (e : f_X4_layerOfTask a0 p1 h = some r) : XM g DX4_layerOfTask [.ref a0, .int p1] h cl (iI r) := YM.of rfl rfl (Nat.le_of_ble_eq_true rfl) (y_X4_layerOfTask a0 p1 h) e
def f_X4_nextTask_J61 (h : xH) : Option (Int32 × xH) :=
  some ((-1 : Int32), h)
theorem y_X4_nextTask_J61 {g : xG} {h0 : xH} {cl : Bool} (h : xH) : Y g DX4_nextTask h0 cl iI (f_X4_nextTask_J61 h) 61 [none, none, none, none, none] [] h := by
  unfold f_X4_nextTask_J61
  refine Y.op (pc' := 62) (fun _ => X.ic ki_m1 dX4_nextTask_61) ?_
  exact Y.ireturn rfl dX4_nextTask_62
def f_X4_nextTask_J52 (x4 : Int32) (h : xH) : Option (Int32 × xH) :=
  some (x4, h)
theorem y_X4_nextTask_J52 {g : xG} {h0 : xH} {cl : Bool} (x4 : Int32) (h : xH) : Y g DX4_nextTask h0 cl iI (f_X4_nextTask_J52 x4 h) 52 [none, none, none, none, some (.int x4)] [] h := by
  unfold f_X4_nextTask_J52
  refine Y.op (pc' := 54) (fun _ => X.iload rfl dX4_nextTask_52) ?_
  exact Y.ireturn rfl dX4_nextTask_54
def f_X4_nextTask_J55 (kH : Nat → Int32 → Int32 → Int32 → xH → Option (Int32 × xH)) (kE52 : Int32 → xH → Option (Int32 × xH)) (kE61 : xH → Option (Int32 × xH)) (x0 : Nat) (x2 : Int32) (x3 : Int32) (x4 : Int32) (h : xH) : Option (Int32 × xH) :=
  lt (x4 + (1 : Int32)) fun v1 =>
  kH x0 x2 x3 v1 h
theorem y_X4_nextTask_J55 {g : xG} {h0 : xH} {cl : Bool} {kH : Nat → Int32 → Int32 → Int32 → xH → Option (Int32 × xH)} {kE52 : Int32 → xH → Option (Int32 × xH)} {kE61 : xH → Option (Int32 × xH)} (hkH : ∀ (x0 : Nat) (x2 : Int32) (x3 : Int32) (x4 : Int32) (h : xH), Y g DX4_nextTask h0 cl iI (kH x0 x2 x3 x4 h) 16 [some (.ref x0), none, some (.int x2), some (.int x3), some (.int x4)] [] h) (hkE52 : ∀ (x4 : Int32) (h : xH), Y g DX4_nextTask h0 cl iI (kE52 x4 h) 52 [none, none, none, none, some (.int x4)] [] h) (hkE61 : ∀  (h : xH), Y g DX4_nextTask h0 cl iI (kE61  h) 61 [none, none, none, none, none] [] h) (x0 : Nat) (x2 : Int32) (x3 : Int32) (x4 : Int32) (h : xH) : Y g DX4_nextTask h0 cl iI (f_X4_nextTask_J55 kH kE52 kE61 x0 x2 x3 x4 h) 55 [some (.ref x0), none, some (.int x2), some (.int x3), some (.int x4)] [] h := by
  unfold f_X4_nextTask_J55
  refine Y.iinc (i := 4) (loc' := fun v1 => [some (.ref x0), none, some (.int x2), some (.int x3), some (.int v1)]) rfl (Nat.le_of_ble_eq_true rfl) ki_1 (fun _ => rfl) dX4_nextTask_55 (fun v1 => ?_)
  refine Y.op (pc' := 16) (fun _ => X.goto 16 (by decide) dX4_nextTask_58) ?_
  exact hkH x0 x2 x3 v1 h
def f_X4_nextTask_L16 (kE52 : Int32 → xH → Option (Int32 × xH)) (kE61 : xH → Option (Int32 × xH)) : Nat → Nat → Int32 → Int32 → Int32 → xH → Option (Int32 × xH)
  | 0 => fun _ _ _ _ _ => none
  | n + 1 => fun x0 x2 x3 x4 h =>
    if x4 ≥ (12 : Int32) then
      kE61 h
    else
      if x3 = (0 : Int32) then
        kE61 h
      else
        (f_X9_has x3 x4 h).bind fun r1 =>
        if r1.1 = (0 : Int32) then
          f_X4_nextTask_J55 (f_X4_nextTask_L16 kE52 kE61 n) kE52 kE61 x0 x2 x3 x4 r1.2
        else
          (vc r1.2 4 x0 (f_X4_layerOfTask x0 x4 r1.2)).bind fun r2 =>
          (vc r2.2 4 x0 (f_X4_layerOfWorker x0 x2 r2.2)).bind fun r3 =>
          if r2.1 = (r3.1 + (1 : Int32)) then
            kE52 x4 r3.2
          else
            f_X4_nextTask_J55 (f_X4_nextTask_L16 kE52 kE61 n) kE52 kE61 x0 x2 x3 x4 r3.2
theorem y_X4_nextTask_L16 {g : xG} {h0 : xH} {cl : Bool} {kE52 : Int32 → xH → Option (Int32 × xH)} {kE61 : xH → Option (Int32 × xH)} (hkE52 : ∀ (x4 : Int32) (h : xH), Y g DX4_nextTask h0 cl iI (kE52 x4 h) 52 [none, none, none, none, some (.int x4)] [] h) (hkE61 : ∀  (h : xH), Y g DX4_nextTask h0 cl iI (kE61  h) 61 [none, none, none, none, none] [] h) : ∀ (n : Nat) (x0 : Nat) (x2 : Int32) (x3 : Int32) (x4 : Int32) (h : xH), Y g DX4_nextTask h0 cl iI (f_X4_nextTask_L16 kE52 kE61 n x0 x2 x3 x4 h) 16 [some (.ref x0), none, some (.int x2), some (.int x3), some (.int x4)] [] h := by
  intro n
  induction n with
  | zero => intro x0 x2 x3 x4 h; exact Y.nothing
  | succ n ih =>
    intro x0 x2 x3 x4 h
    unfold f_X4_nextTask_L16
    refine Y.op (pc' := 18) (fun _ => X.iload rfl dX4_nextTask_16) ?_
    refine Y.op (pc' := 20) (fun _ => X.bp kb_12 dX4_nextTask_18) ?_
    refine Y.cmpge 61 (by decide) dX4_nextTask_20 ?_ ?_
    · exact Y.fg (hkE61 h) trivial
    · refine Y.op (pc' := 24) (fun _ => X.iloadn rfl dX4_nextTask_23) ?_
      refine Y.ifeq 61 (by decide) dX4_nextTask_24 ?_ ?_
      · exact Y.fg (hkE61 h) trivial
      · refine Y.op (pc' := 28) (fun _ => X.iloadn rfl dX4_nextTask_27) ?_
        refine Y.op (pc' := 30) (fun _ => X.iload rfl dX4_nextTask_28) ?_
        refine Y.callSi (As := [.int x3, .int x4]) lk_X4_77 rfl cal_X9_has sta_X9_has (Nat.le_of_ble_eq_true rfl) rfl rfl (Nat.le_of_ble_eq_true rfl) dX4_nextTask_30 (fun _ e => m_X9_has x3 x4 h _ _ e) (fun r1 => ?_)
        refine Y.ifeq 55 (by decide) dX4_nextTask_33 ?_ ?_
        · exact y_X4_nextTask_J55 ih hkE52 hkE61 x0 x2 x3 x4 r1.2
        · refine Y.op (pc' := 37) (fun _ => X.aloadn rfl dX4_nextTask_36) ?_
          refine Y.op (pc' := 39) (fun _ => X.iload rfl dX4_nextTask_37) ?_
          refine Y.callVi (As := [.int x4]) lk_X4_107 rfl cal_X4_layerOfTask vir_X4_layerOfTask (Nat.le_of_ble_eq_true rfl) (Nat.le_of_ble_eq_true rfl) rfl rfl rfl (Nat.le_of_ble_eq_true rfl) dX4_nextTask_39 (fun _ e => m_X4_layerOfTask x0 x4 r1.2 _ _ e) (fun r2 => ?_)
          refine Y.op (pc' := 43) (fun _ => X.aloadn rfl dX4_nextTask_42) ?_
          refine Y.op (pc' := 44) (fun _ => X.iloadn rfl dX4_nextTask_43) ?_
          refine Y.callVi (As := [.int x2]) lk_X4_58 rfl cal_X4_layerOfWorker vir_X4_layerOfWorker (Nat.le_of_ble_eq_true rfl) (Nat.le_of_ble_eq_true rfl) rfl rfl rfl (Nat.le_of_ble_eq_true rfl) dX4_nextTask_44 (fun _ e => m_X4_layerOfWorker x0 x2 r2.2 _ _ e) (fun r3 => ?_)
          refine Y.op (pc' := 48) (fun _ => X.ic ki_1 dX4_nextTask_47) ?_
          refine Y.op (pc' := 49) (fun _ => X.iadd dX4_nextTask_48) ?_
          refine Y.cmpne 55 (by decide) dX4_nextTask_49 ?_ ?_
          · exact y_X4_nextTask_J55 ih hkE52 hkE61 x0 x2 x3 x4 r3.2
          · exact Y.fg (hkE52 x4 r3.2) (And.intro rfl trivial)
def f_X4_nextTask (a0 : Nat) (p1 : Nat) (p2 : Int32) (h : xH) : Option (Int32 × xH) :=
  (vc h 7 p1 (f_X7_row p1 p2 h)).bind fun r1 =>
  (gI r1.2 4 a0 4).bind fun v2 =>
  lt ((r1.1 &&& (v2 ^^^ (-1 : Int32)))) fun v3 =>
  f_X4_nextTask_L16 (f_X4_nextTask_J52) (f_X4_nextTask_J61) 5000 a0 p2 v3 (0 : Int32) r1.2
theorem y_X4_nextTask {g : xG} {h0 : xH} {cl : Bool} (a0 : Nat) (p1 : Nat) (p2 : Int32) (h : xH) : Y g DX4_nextTask h0 cl iI (f_X4_nextTask a0 p1 p2 h) 0 [some (.ref a0), some (.ref p1), some (.int p2), none, none] [] h := by
  unfold f_X4_nextTask
  refine Y.op (pc' := 1) (fun _ => X.aloadn rfl dX4_nextTask_0) ?_
  refine Y.op (pc' := 2) (fun _ => X.iloadn rfl dX4_nextTask_1) ?_
  refine Y.callVi (As := [.int p2]) lk_X4_91 rfl cal_X7_row vir_X7_row (Nat.le_of_ble_eq_true rfl) (Nat.le_of_ble_eq_true rfl) rfl rfl rfl (Nat.le_of_ble_eq_true rfl) dX4_nextTask_2 (fun _ e => m_X7_row p1 p2 h _ _ e) (fun r1 => ?_)
  refine Y.op (pc' := 6) (fun _ => X.aloadn rfl dX4_nextTask_5) ?_
  refine Y.getI fd_X4_24 rfl dX4_nextTask_6 (fun v2 => ?_)
  refine Y.op (pc' := 10) (fun _ => X.ic ki_m1 dX4_nextTask_9) ?_
  refine Y.op (pc' := 11) (fun _ => X.ixor dX4_nextTask_10) ?_
  refine Y.op (pc' := 12) (fun _ => X.iand dX4_nextTask_11) ?_
  refine Y.top (fun v3 => ?_)
  refine Y.op (pc' := 13) (loc' := [some (.ref a0), some (.ref p1), some (.int p2), some (.int v3), none]) (fun _ => X.istoren (Nat.le_of_ble_eq_true rfl) rfl dX4_nextTask_12) ?_
  refine Y.op (pc' := 14) (fun _ => X.ic ki_0 dX4_nextTask_13) ?_
  refine Y.op (pc' := 16) (loc' := [some (.ref a0), some (.ref p1), some (.int p2), some (.int v3), some (.int (0 : Int32))]) (fun _ => X.istore (Nat.le_of_ble_eq_true rfl) rfl dX4_nextTask_14) ?_
  exact Y.fg (y_X4_nextTask_L16 (y_X4_nextTask_J52) (y_X4_nextTask_J61) 5000 a0 p2 v3 (0 : Int32) r1.2) (And.intro rfl (And.intro rfl (And.intro rfl (And.intro rfl trivial))))
theorem m_X4_nextTask {g : xG} (a0 : Nat) (p1 : Nat) (p2 : Int32) (h : xH) (cl : Bool) (r : Int32 × xH) (e : f_X4_nextTask a0 p1 p2 h = some r) : XM g DX4_nextTask [.ref a0, .ref p1, .int p2] h cl (iI r) := YM.of rfl rfl (Nat.le_of_ble_eq_true rfl) (y_X4_nextTask a0 p1 p2 h) e
def f_X4_seek_J143 (h : xH) : Option (Int32 × xH) :=
  if (0 : Int32) = 0 ∨ (0 : Int32) = 1 then some ((0 : Int32), h) else none
theorem y_X4_seek_J143 {g : xG} {h0 : xH} {cl : Bool} (h : xH) : Y g DX4_seek h0 cl iI (f_X4_seek_J143 h) 143 [none, none, none, none, none, none, none] [] h := by
  unfold f_X4_seek_J143
  refine Y.op (pc' := 144) (fun _ => X.ic ki_0 dX4_seek_143) ?_
  exact Y.zreturn rfl dX4_seek_144
def f_X4_seek_J93 (x0 : Nat) (x1 : Nat) (x3 : Int32) (h : xH) : Option (Int32 × xH) :=
  (vc h 4 x0 (f_X4_follow x0 x1 x3 h)).bind fun h1 =>
  if (1 : Int32) = 0 ∨ (1 : Int32) = 1 then some ((1 : Int32), h1) else none
theorem y_X4_seek_J93 {g : xG} {h0 : xH} {cl : Bool} (x0 : Nat) (x1 : Nat) (x3 : Int32) (h : xH) : Y g DX4_seek h0 cl iI (f_X4_seek_J93 x0 x1 x3 h) 93 [some (.ref x0), some (.ref x1), none, some (.int x3), none, none, none] [] h := by
  unfold f_X4_seek_J93
  refine Y.op (pc' := 94) (fun _ => X.aloadn rfl dX4_seek_93) ?_
  refine Y.op (pc' := 95) (fun _ => X.aloadn rfl dX4_seek_94) ?_
  refine Y.op (pc' := 96) (fun _ => X.iloadn rfl dX4_seek_95) ?_
  refine Y.callVv (As := [.ref x1, .int x3]) lk_X4_103 rfl cal_X4_follow vir_X4_follow (Nat.le_of_ble_eq_true rfl) (Nat.le_of_ble_eq_true rfl) rfl rfl rfl (Nat.le_of_ble_eq_true rfl) dX4_seek_96 (fun _ e => m_X4_follow x0 x1 x3 h _ _ e) (fun h1 => ?_)
  refine Y.op (pc' := 100) (fun _ => X.ic ki_1 dX4_seek_99) ?_
  exact Y.zreturn rfl dX4_seek_100
def f_X4_seek_J137 (kH : Nat → Nat → Int32 → Int32 → xH → Option (Int32 × xH)) (kE93 : Nat → Nat → Int32 → xH → Option (Int32 × xH)) (kE143 : xH → Option (Int32 × xH)) (x0 : Nat) (x1 : Nat) (x3 : Int32) (x4 : Int32) (h : xH) : Option (Int32 × xH) :=
  lt (x4 + (1 : Int32)) fun v1 =>
  kH x0 x1 x3 v1 h
theorem y_X4_seek_J137 {g : xG} {h0 : xH} {cl : Bool} {kH : Nat → Nat → Int32 → Int32 → xH → Option (Int32 × xH)} {kE93 : Nat → Nat → Int32 → xH → Option (Int32 × xH)} {kE143 : xH → Option (Int32 × xH)} (hkH : ∀ (x0 : Nat) (x1 : Nat) (x3 : Int32) (x4 : Int32) (h : xH), Y g DX4_seek h0 cl iI (kH x0 x1 x3 x4 h) 12 [some (.ref x0), some (.ref x1), none, some (.int x3), some (.int x4), none, none] [] h) (hkE93 : ∀ (x0 : Nat) (x1 : Nat) (x3 : Int32) (h : xH), Y g DX4_seek h0 cl iI (kE93 x0 x1 x3 h) 93 [some (.ref x0), some (.ref x1), none, some (.int x3), none, none, none] [] h) (hkE143 : ∀  (h : xH), Y g DX4_seek h0 cl iI (kE143  h) 143 [none, none, none, none, none, none, none] [] h) (x0 : Nat) (x1 : Nat) (x3 : Int32) (x4 : Int32) (h : xH) : Y g DX4_seek h0 cl iI (f_X4_seek_J137 kH kE93 kE143 x0 x1 x3 x4 h) 137 [some (.ref x0), some (.ref x1), none, some (.int x3), some (.int x4), none, none] [] h := by
  unfold f_X4_seek_J137
  refine Y.iinc (i := 4) (loc' := fun v1 => [some (.ref x0), some (.ref x1), none, some (.int x3), some (.int v1), none, none]) rfl (Nat.le_of_ble_eq_true rfl) ki_1 (fun _ => rfl) dX4_seek_137 (fun v1 => ?_)
  refine Y.op (pc' := 12) (fun _ => X.goto 12 (by decide) dX4_seek_140) ?_
  exact hkH x0 x1 x3 v1 h
def f_X4_seek_L12 (kE93 : Nat → Nat → Int32 → xH → Option (Int32 × xH)) (kE143 : xH → Option (Int32 × xH)) : Nat → Nat → Nat → Int32 → Int32 → xH → Option (Int32 × xH)
  | 0 => fun _ _ _ _ _ => none
  | n + 1 => fun x0 x1 x3 x4 h =>
    if x4 ≥ (100 : Int32) then
      kE143 h
    else
      if x3 < (0 : Int32) then
        kE143 h
      else
        if x3 ≥ (12 : Int32) then
          kE143 h
        else
          (gR h 4 x0 2).bind fun v1 =>
          (aI h v1 x3).bind fun v2 =>
          (vc h 4 x0 (f_X4_nextTask x0 x1 v2 h)).bind fun r3 =>
          if r3.1 = (-1 : Int32) then
            lt (x3 + (-1 : Int32)) fun v16 =>
            f_X4_seek_J137 (f_X4_seek_L12 kE93 kE143 n) kE93 kE143 x0 x1 v16 x4 r3.2
          else
            (gI r3.2 4 x0 4).bind fun v4 =>
            (f_X9_bit r3.1 r3.2).bind fun r5 =>
            (pI r5.2 4 x0 4 (v4 ||| r5.1)).bind fun h6 =>
            (gR h6 4 x0 3).bind fun v7 =>
            (sI h6 v7 x3 r3.1).bind fun h8 =>
            (gR h8 7 x1 0).bind fun v9 =>
            (vc h8 3 v9 (f_X3_workerOf v9 r3.1 h8)).bind fun r10 =>
            if r10.1 = (-1 : Int32) then
              kE93 x0 x1 x3 r10.2
            else
              (vc r10.2 4 x0 (f_X4_layerOfWorker x0 r10.1 r10.2)).bind fun r11 =>
              (vc r11.2 4 x0 (f_X4_layerOfTask x0 r3.1 r11.2)).bind fun r12 =>
              if r11.1 = (r12.1 + (1 : Int32)) then
                if (x3 + (1 : Int32)) ≥ (12 : Int32) then
                  f_X4_seek_J137 (f_X4_seek_L12 kE93 kE143 n) kE93 kE143 x0 x1 x3 x4 r12.2
                else
                  lt (x3 + (1 : Int32)) fun v13 =>
                  (gR r12.2 4 x0 2).bind fun v14 =>
                  (sI r12.2 v14 v13 r10.1).bind fun h15 =>
                  f_X4_seek_J137 (f_X4_seek_L12 kE93 kE143 n) kE93 kE143 x0 x1 v13 x4 h15
              else
                f_X4_seek_J137 (f_X4_seek_L12 kE93 kE143 n) kE93 kE143 x0 x1 x3 x4 r12.2
theorem y_X4_seek_L12 {g : xG} {h0 : xH} {cl : Bool} {kE93 : Nat → Nat → Int32 → xH → Option (Int32 × xH)} {kE143 : xH → Option (Int32 × xH)} (hkE93 : ∀ (x0 : Nat) (x1 : Nat) (x3 : Int32) (h : xH), Y g DX4_seek h0 cl iI (kE93 x0 x1 x3 h) 93 [some (.ref x0), some (.ref x1), none, some (.int x3), none, none, none] [] h) (hkE143 : ∀  (h : xH), Y g DX4_seek h0 cl iI (kE143  h) 143 [none, none, none, none, none, none, none] [] h) : ∀ (n : Nat) (x0 : Nat) (x1 : Nat) (x3 : Int32) (x4 : Int32) (h : xH), Y g DX4_seek h0 cl iI (f_X4_seek_L12 kE93 kE143 n x0 x1 x3 x4 h) 12 [some (.ref x0), some (.ref x1), none, some (.int x3), some (.int x4), none, none] [] h := by
  intro n
  induction n with
  | zero => intro x0 x1 x3 x4 h; exact Y.nothing
  | succ n ih =>
    intro x0 x1 x3 x4 h
    unfold f_X4_seek_L12
    refine Y.op (pc' := 14) (fun _ => X.iload rfl dX4_seek_12) ?_
    refine Y.op (pc' := 16) (fun _ => X.bp kb_100 dX4_seek_14) ?_
    refine Y.cmpge 143 (by decide) dX4_seek_16 ?_ ?_
    · exact Y.fg (hkE143 h) trivial
    · refine Y.op (pc' := 20) (fun _ => X.iloadn rfl dX4_seek_19) ?_
      refine Y.iflt 143 (by decide) dX4_seek_20 ?_ ?_
      · exact Y.fg (hkE143 h) trivial
      · refine Y.op (pc' := 24) (fun _ => X.iloadn rfl dX4_seek_23) ?_
        refine Y.op (pc' := 26) (fun _ => X.bp kb_12 dX4_seek_24) ?_
        refine Y.cmpge 143 (by decide) dX4_seek_26 ?_ ?_
        · exact Y.fg (hkE143 h) trivial
        · refine Y.op (pc' := 30) (fun _ => X.aloadn rfl dX4_seek_29) ?_
          refine Y.op (pc' := 31) (fun _ => X.aloadn rfl dX4_seek_30) ?_
          refine Y.op (pc' := 32) (fun _ => X.aloadn rfl dX4_seek_31) ?_
          refine Y.getR fd_X4_18 rfl dX4_seek_32 (fun v1 => ?_)
          refine Y.op (pc' := 36) (fun _ => X.iloadn rfl dX4_seek_35) ?_
          refine Y.aldI dX4_seek_36 (fun v2 => ?_)
          refine Y.callVi (As := [.ref x1, .int v2]) lk_X4_97 rfl cal_X4_nextTask vir_X4_nextTask (Nat.le_of_ble_eq_true rfl) (Nat.le_of_ble_eq_true rfl) rfl rfl rfl (Nat.le_of_ble_eq_true rfl) dX4_seek_37 (fun _ e => m_X4_nextTask x0 x1 v2 h _ _ e) (fun r3 => ?_)
          refine Y.op (pc' := 42) (loc' := [some (.ref x0), some (.ref x1), none, some (.int x3), some (.int x4), some (.int r3.1), none]) (fun _ => X.istore (Nat.le_of_ble_eq_true rfl) rfl dX4_seek_40) ?_
          refine Y.op (pc' := 44) (fun _ => X.iload rfl dX4_seek_42) ?_
          refine Y.op (pc' := 45) (fun _ => X.ic ki_m1 dX4_seek_44) ?_
          refine Y.cmpne 54 (by decide) dX4_seek_45 ?_ ?_
          · refine Y.op (pc' := 55) (fun _ => X.aloadn rfl dX4_seek_54) ?_
            refine Y.op (pc' := 56) (fun _ => X.dup rfl dX4_seek_55) ?_
            refine Y.getI fd_X4_24 rfl dX4_seek_56 (fun v4 => ?_)
            refine Y.op (pc' := 61) (fun _ => X.iload rfl dX4_seek_59) ?_
            refine Y.callSi (As := [.int r3.1]) lk_X4_94 rfl cal_X9_bit sta_X9_bit (Nat.le_of_ble_eq_true rfl) rfl rfl (Nat.le_of_ble_eq_true rfl) dX4_seek_61 (fun _ e => m_X9_bit r3.1 r3.2 _ _ e) (fun r5 => ?_)
            refine Y.op (pc' := 65) (fun _ => X.ior dX4_seek_64) ?_
            refine Y.putI fd_X4_24 rfl dX4_seek_65 (fun h6 => ?_)
            refine Y.op (pc' := 69) (fun _ => X.aloadn rfl dX4_seek_68) ?_
            refine Y.getR fd_X4_21 rfl dX4_seek_69 (fun v7 => ?_)
            refine Y.op (pc' := 73) (fun _ => X.iloadn rfl dX4_seek_72) ?_
            refine Y.op (pc' := 75) (fun _ => X.iload rfl dX4_seek_73) ?_
            refine Y.astI dX4_seek_75 (fun h8 => ?_)
            refine Y.op (pc' := 77) (fun _ => X.aloadn rfl dX4_seek_76) ?_
            refine Y.getR fd_X4_40 rfl dX4_seek_77 (fun v9 => ?_)
            refine Y.op (pc' := 82) (fun _ => X.iload rfl dX4_seek_80) ?_
            refine Y.callVi (As := [.int r3.1]) lk_X4_100 rfl cal_X3_workerOf vir_X3_workerOf (Nat.le_of_ble_eq_true rfl) (Nat.le_of_ble_eq_true rfl) rfl rfl rfl (Nat.le_of_ble_eq_true rfl) dX4_seek_82 (fun _ e => m_X3_workerOf v9 r3.1 h8 _ _ e) (fun r10 => ?_)
            refine Y.op (pc' := 87) (loc' := [some (.ref x0), some (.ref x1), none, some (.int x3), some (.int x4), some (.int r3.1), some (.int r10.1)]) (fun _ => X.istore (Nat.le_of_ble_eq_true rfl) rfl dX4_seek_85) ?_
            refine Y.op (pc' := 89) (fun _ => X.iload rfl dX4_seek_87) ?_
            refine Y.op (pc' := 90) (fun _ => X.ic ki_m1 dX4_seek_89) ?_
            refine Y.cmpne 101 (by decide) dX4_seek_90 ?_ ?_
            · refine Y.op (pc' := 102) (fun _ => X.aloadn rfl dX4_seek_101) ?_
              refine Y.op (pc' := 104) (fun _ => X.iload rfl dX4_seek_102) ?_
              refine Y.callVi (As := [.int r10.1]) lk_X4_58 rfl cal_X4_layerOfWorker vir_X4_layerOfWorker (Nat.le_of_ble_eq_true rfl) (Nat.le_of_ble_eq_true rfl) rfl rfl rfl (Nat.le_of_ble_eq_true rfl) dX4_seek_104 (fun _ e => m_X4_layerOfWorker x0 r10.1 r10.2 _ _ e) (fun r11 => ?_)
              refine Y.op (pc' := 108) (fun _ => X.aloadn rfl dX4_seek_107) ?_
              refine Y.op (pc' := 110) (fun _ => X.iload rfl dX4_seek_108) ?_
              refine Y.callVi (As := [.int r3.1]) lk_X4_107 rfl cal_X4_layerOfTask vir_X4_layerOfTask (Nat.le_of_ble_eq_true rfl) (Nat.le_of_ble_eq_true rfl) rfl rfl rfl (Nat.le_of_ble_eq_true rfl) dX4_seek_110 (fun _ e => m_X4_layerOfTask x0 r3.1 r11.2 _ _ e) (fun r12 => ?_)
              refine Y.op (pc' := 114) (fun _ => X.ic ki_1 dX4_seek_113) ?_
              refine Y.op (pc' := 115) (fun _ => X.iadd dX4_seek_114) ?_
              refine Y.cmpne 137 (by decide) dX4_seek_115 ?_ ?_
              · exact Y.fg (y_X4_seek_J137 ih hkE93 hkE143 x0 x1 x3 x4 r12.2) (And.intro rfl (And.intro rfl (And.intro rfl (And.intro rfl trivial))))
              · refine Y.op (pc' := 119) (fun _ => X.iloadn rfl dX4_seek_118) ?_
                refine Y.op (pc' := 120) (fun _ => X.ic ki_1 dX4_seek_119) ?_
                refine Y.op (pc' := 121) (fun _ => X.iadd dX4_seek_120) ?_
                refine Y.op (pc' := 123) (fun _ => X.bp kb_12 dX4_seek_121) ?_
                refine Y.cmpge 137 (by decide) dX4_seek_123 ?_ ?_
                · exact Y.fg (y_X4_seek_J137 ih hkE93 hkE143 x0 x1 x3 x4 r12.2) (And.intro rfl (And.intro rfl (And.intro rfl (And.intro rfl trivial))))
                · refine Y.iinc (i := 3) (loc' := fun v13 => [some (.ref x0), some (.ref x1), none, some (.int v13), some (.int x4), some (.int r3.1), some (.int r10.1)]) rfl (Nat.le_of_ble_eq_true rfl) ki_1 (fun _ => rfl) dX4_seek_126 (fun v13 => ?_)
                  refine Y.op (pc' := 130) (fun _ => X.aloadn rfl dX4_seek_129) ?_
                  refine Y.getR fd_X4_18 rfl dX4_seek_130 (fun v14 => ?_)
                  refine Y.op (pc' := 134) (fun _ => X.iloadn rfl dX4_seek_133) ?_
                  refine Y.op (pc' := 136) (fun _ => X.iload rfl dX4_seek_134) ?_
                  refine Y.astI dX4_seek_136 (fun h15 => ?_)
                  exact Y.fg (y_X4_seek_J137 ih hkE93 hkE143 x0 x1 v13 x4 h15) (And.intro rfl (And.intro rfl (And.intro rfl (And.intro rfl trivial))))
            · exact Y.fg (hkE93 x0 x1 x3 r10.2) (And.intro rfl (And.intro rfl (And.intro rfl trivial)))
          · refine Y.iinc (i := 3) (loc' := fun v16 => [some (.ref x0), some (.ref x1), none, some (.int v16), some (.int x4), some (.int r3.1), none]) rfl (Nat.le_of_ble_eq_true rfl) ki_m1 (fun _ => rfl) dX4_seek_48 (fun v16 => ?_)
            refine Y.op (pc' := 137) (fun _ => X.goto 137 (by decide) dX4_seek_51) ?_
            exact Y.fg (y_X4_seek_J137 ih hkE93 hkE143 x0 x1 v16 x4 r3.2) (And.intro rfl (And.intro rfl (And.intro rfl (And.intro rfl trivial))))
def f_X4_seek (a0 : Nat) (p1 : Nat) (p2 : Int32) (h : xH) : Option (Int32 × xH) :=
  (gR h 4 a0 2).bind fun v1 =>
  (sI h v1 (0 : Int32) p2).bind fun h2 =>
  f_X4_seek_L12 (f_X4_seek_J93) (f_X4_seek_J143) 5000 a0 p1 (0 : Int32) (0 : Int32) h2
theorem y_X4_seek {g : xG} {h0 : xH} {cl : Bool} (a0 : Nat) (p1 : Nat) (p2 : Int32) (h : xH) : Y g DX4_seek h0 cl iI (f_X4_seek a0 p1 p2 h) 0 [some (.ref a0), some (.ref p1), some (.int p2), none, none, none, none] [] h := by
  unfold f_X4_seek
  refine Y.op (pc' := 1) (fun _ => X.ic ki_0 dX4_seek_0) ?_
  refine Y.op (pc' := 2) (loc' := [some (.ref a0), some (.ref p1), some (.int p2), some (.int (0 : Int32)), none, none, none]) (fun _ => X.istoren (Nat.le_of_ble_eq_true rfl) rfl dX4_seek_1) ?_
  refine Y.op (pc' := 3) (fun _ => X.aloadn rfl dX4_seek_2) ?_
  refine Y.getR fd_X4_18 rfl dX4_seek_3 (fun v1 => ?_)
  refine Y.op (pc' := 7) (fun _ => X.ic ki_0 dX4_seek_6) ?_
  refine Y.op (pc' := 8) (fun _ => X.iloadn rfl dX4_seek_7) ?_
  refine Y.astI dX4_seek_8 (fun h2 => ?_)
  refine Y.op (pc' := 10) (fun _ => X.ic ki_0 dX4_seek_9) ?_
  refine Y.op (pc' := 12) (loc' := [some (.ref a0), some (.ref p1), some (.int p2), some (.int (0 : Int32)), some (.int (0 : Int32)), none, none]) (fun _ => X.istore (Nat.le_of_ble_eq_true rfl) rfl dX4_seek_10) ?_
  exact Y.fg (y_X4_seek_L12 (y_X4_seek_J93) (y_X4_seek_J143) 5000 a0 p1 (0 : Int32) (0 : Int32) h2) (And.intro rfl (And.intro rfl (And.intro rfl (And.intro rfl trivial))))
theorem m_X4_seek {g : xG} (a0 : Nat) (p1 : Nat) (p2 : Int32) (h : xH) (cl : Bool) (r : Int32 × xH) (e : f_X4_seek a0 p1 p2 h = some r) : XM g DX4_seek [.ref a0, .ref p1, .int p2] h cl (iI r) := YM.of rfl rfl (Nat.le_of_ble_eq_true rfl) (y_X4_seek a0 p1 p2 h) e
def f_X4_run_J126 (h : xH) : Option (xH) :=
  some h
theorem y_X4_run_J126 {g : xG} {h0 : xH} {cl : Bool} (h : xH) : Y g DX4_run h0 cl iV (f_X4_run_J126 h) 126 [none, none, none, none] [] h := by
  unfold f_X4_run_J126
  exact Y.vreturn rfl dX4_run_126
def f_X4_run_J117 (kH : Nat → Nat → Int32 → xH → Option (xH)) (kE126 : xH → Option (xH)) (x0 : Nat) (x1 : Nat) (x2 : Int32) (s0 : Nat) (s1 : Int32) (h : xH) : Option (xH) :=
  (pI h 4 s0 7 s1).bind fun h1 =>
  lt (x2 + (1 : Int32)) fun v2 =>
  kH x0 x1 v2 h1
theorem y_X4_run_J117 {g : xG} {h0 : xH} {cl : Bool} {kH : Nat → Nat → Int32 → xH → Option (xH)} {kE126 : xH → Option (xH)} (hkH : ∀ (x0 : Nat) (x1 : Nat) (x2 : Int32) (h : xH), Y g DX4_run h0 cl iV (kH x0 x1 x2 h) 29 [some (.ref x0), some (.ref x1), some (.int x2), none] [] h) (hkE126 : ∀  (h : xH), Y g DX4_run h0 cl iV (kE126  h) 126 [none, none, none, none] [] h) (x0 : Nat) (x1 : Nat) (x2 : Int32) (s0 : Nat) (s1 : Int32) (h : xH) : Y g DX4_run h0 cl iV (f_X4_run_J117 kH kE126 x0 x1 x2 s0 s1 h) 117 [some (.ref x0), some (.ref x1), some (.int x2), none] [.int s1, .ref s0] h := by
  unfold f_X4_run_J117
  refine Y.putI fd_X4_34 rfl dX4_run_117 (fun h1 => ?_)
  refine Y.iinc (i := 2) (loc' := fun v2 => [some (.ref x0), some (.ref x1), some (.int v2), none]) rfl (Nat.le_of_ble_eq_true rfl) ki_1 (fun _ => rfl) dX4_run_120 (fun v2 => ?_)
  refine Y.op (pc' := 29) (fun _ => X.goto 29 (by decide) dX4_run_123) ?_
  exact hkH x0 x1 v2 h1
def f_X4_run_J101 (kH : Nat → Nat → Int32 → xH → Option (xH)) (kE126 : xH → Option (xH)) (x0 : Nat) (x1 : Nat) (x2 : Int32) (h : xH) : Option (xH) :=
  if x2 = (0 : Int32) then
    (gI h 4 x0 6).bind fun v2 =>
    f_X4_run_J117 (kH) kE126 x0 x1 x2 x0 v2 h
  else
    (gI h 4 x0 7).bind fun v1 =>
    f_X4_run_J117 (kH) kE126 x0 x1 x2 x0 v1 h
theorem y_X4_run_J101 {g : xG} {h0 : xH} {cl : Bool} {kH : Nat → Nat → Int32 → xH → Option (xH)} {kE126 : xH → Option (xH)} (hkH : ∀ (x0 : Nat) (x1 : Nat) (x2 : Int32) (h : xH), Y g DX4_run h0 cl iV (kH x0 x1 x2 h) 29 [some (.ref x0), some (.ref x1), some (.int x2), none] [] h) (hkE126 : ∀  (h : xH), Y g DX4_run h0 cl iV (kE126  h) 126 [none, none, none, none] [] h) (x0 : Nat) (x1 : Nat) (x2 : Int32) (h : xH) : Y g DX4_run h0 cl iV (f_X4_run_J101 kH kE126 x0 x1 x2 h) 101 [some (.ref x0), some (.ref x1), some (.int x2), none] [] h := by
  unfold f_X4_run_J101
  refine Y.op (pc' := 102) (fun _ => X.aloadn rfl dX4_run_101) ?_
  refine Y.op (pc' := 103) (fun _ => X.iloadn rfl dX4_run_102) ?_
  refine Y.ifne 113 (by decide) dX4_run_103 ?_ ?_
  · refine Y.op (pc' := 114) (fun _ => X.aloadn rfl dX4_run_113) ?_
    refine Y.getI fd_X4_34 rfl dX4_run_114 (fun v1 => ?_)
    exact y_X4_run_J117 hkH hkE126 x0 x1 x2 x0 v1 h
  · refine Y.op (pc' := 107) (fun _ => X.aloadn rfl dX4_run_106) ?_
    refine Y.getI fd_X4_31 rfl dX4_run_107 (fun v2 => ?_)
    refine Y.op (pc' := 117) (fun _ => X.goto 117 (by decide) dX4_run_110) ?_
    exact y_X4_run_J117 hkH hkE126 x0 x1 x2 x0 v2 h
def f_X4_run_J95 (kH : Nat → Nat → Int32 → Int32 → xH → Option (xH)) (kE101 : Nat → Nat → Int32 → xH → Option (xH)) (x0 : Nat) (x1 : Nat) (x2 : Int32) (x3 : Int32) (h : xH) : Option (xH) :=
  lt (x3 + (1 : Int32)) fun v1 =>
  kH x0 x1 x2 v1 h
theorem y_X4_run_J95 {g : xG} {h0 : xH} {cl : Bool} {kH : Nat → Nat → Int32 → Int32 → xH → Option (xH)} {kE101 : Nat → Nat → Int32 → xH → Option (xH)} (hkH : ∀ (x0 : Nat) (x1 : Nat) (x2 : Int32) (x3 : Int32) (h : xH), Y g DX4_run h0 cl iV (kH x0 x1 x2 x3 h) 60 [some (.ref x0), some (.ref x1), some (.int x2), some (.int x3)] [] h) (hkE101 : ∀ (x0 : Nat) (x1 : Nat) (x2 : Int32) (h : xH), Y g DX4_run h0 cl iV (kE101 x0 x1 x2 h) 101 [some (.ref x0), some (.ref x1), some (.int x2), none] [] h) (x0 : Nat) (x1 : Nat) (x2 : Int32) (x3 : Int32) (h : xH) : Y g DX4_run h0 cl iV (f_X4_run_J95 kH kE101 x0 x1 x2 x3 h) 95 [some (.ref x0), some (.ref x1), some (.int x2), some (.int x3)] [] h := by
  unfold f_X4_run_J95
  refine Y.iinc (i := 3) (loc' := fun v1 => [some (.ref x0), some (.ref x1), some (.int x2), some (.int v1)]) rfl (Nat.le_of_ble_eq_true rfl) ki_1 (fun _ => rfl) dX4_run_95 (fun v1 => ?_)
  refine Y.op (pc' := 60) (fun _ => X.goto 60 (by decide) dX4_run_98) ?_
  exact hkH x0 x1 x2 v1 h
def f_X4_run_L60 (kE101 : Nat → Nat → Int32 → xH → Option (xH)) : Nat → Nat → Nat → Int32 → Int32 → xH → Option (xH)
  | 0 => fun _ _ _ _ _ => none
  | n + 1 => fun x0 x1 x2 x3 h =>
    (gI h 7 x1 6).bind fun v1 =>
    if x3 ≥ v1 then
      kE101 x0 x1 x2 h
    else
      (vc h 4 x0 (f_X4_layerOfWorker x0 x3 h)).bind fun r2 =>
      if r2.1 = (0 : Int32) then
        (vc r2.2 4 x0 (f_X4_seek x0 x1 x3 r2.2)).bind fun r3 =>
        if r3.1 = (0 : Int32) then
          f_X4_run_J95 (f_X4_run_L60 kE101 n) kE101 x0 x1 x2 x3 r3.2
        else
          (gI r3.2 4 x0 6).bind fun v4 =>
          (pI r3.2 4 x0 6 (v4 + (1 : Int32))).bind fun h5 =>
          f_X4_run_J95 (f_X4_run_L60 kE101 n) kE101 x0 x1 x2 x3 h5
      else
        f_X4_run_J95 (f_X4_run_L60 kE101 n) kE101 x0 x1 x2 x3 r2.2
theorem y_X4_run_L60 {g : xG} {h0 : xH} {cl : Bool} {kE101 : Nat → Nat → Int32 → xH → Option (xH)} (hkE101 : ∀ (x0 : Nat) (x1 : Nat) (x2 : Int32) (h : xH), Y g DX4_run h0 cl iV (kE101 x0 x1 x2 h) 101 [some (.ref x0), some (.ref x1), some (.int x2), none] [] h) : ∀ (n : Nat) (x0 : Nat) (x1 : Nat) (x2 : Int32) (x3 : Int32) (h : xH), Y g DX4_run h0 cl iV (f_X4_run_L60 kE101 n x0 x1 x2 x3 h) 60 [some (.ref x0), some (.ref x1), some (.int x2), some (.int x3)] [] h := by
  intro n
  induction n with
  | zero => intro x0 x1 x2 x3 h; exact Y.nothing
  | succ n ih =>
    intro x0 x1 x2 x3 h
    unfold f_X4_run_L60
    refine Y.op (pc' := 61) (fun _ => X.iloadn rfl dX4_run_60) ?_
    refine Y.op (pc' := 62) (fun _ => X.aloadn rfl dX4_run_61) ?_
    refine Y.getI fd_X4_55 rfl dX4_run_62 (fun v1 => ?_)
    refine Y.cmpge 101 (by decide) dX4_run_65 ?_ ?_
    · exact Y.fg (hkE101 x0 x1 x2 h) (And.intro rfl (And.intro rfl (And.intro rfl trivial)))
    · refine Y.op (pc' := 69) (fun _ => X.aloadn rfl dX4_run_68) ?_
      refine Y.op (pc' := 70) (fun _ => X.iloadn rfl dX4_run_69) ?_
      refine Y.callVi (As := [.int x3]) lk_X4_58 rfl cal_X4_layerOfWorker vir_X4_layerOfWorker (Nat.le_of_ble_eq_true rfl) (Nat.le_of_ble_eq_true rfl) rfl rfl rfl (Nat.le_of_ble_eq_true rfl) dX4_run_70 (fun _ e => m_X4_layerOfWorker x0 x3 h _ _ e) (fun r2 => ?_)
      refine Y.ifne 95 (by decide) dX4_run_73 ?_ ?_
      · exact y_X4_run_J95 ih hkE101 x0 x1 x2 x3 r2.2
      · refine Y.op (pc' := 77) (fun _ => X.aloadn rfl dX4_run_76) ?_
        refine Y.op (pc' := 78) (fun _ => X.aloadn rfl dX4_run_77) ?_
        refine Y.op (pc' := 79) (fun _ => X.iloadn rfl dX4_run_78) ?_
        refine Y.callVi (As := [.ref x1, .int x3]) lk_X4_62 rfl cal_X4_seek vir_X4_seek (Nat.le_of_ble_eq_true rfl) (Nat.le_of_ble_eq_true rfl) rfl rfl rfl (Nat.le_of_ble_eq_true rfl) dX4_run_79 (fun _ e => m_X4_seek x0 x1 x3 r2.2 _ _ e) (fun r3 => ?_)
        refine Y.ifeq 95 (by decide) dX4_run_82 ?_ ?_
        · exact y_X4_run_J95 ih hkE101 x0 x1 x2 x3 r3.2
        · refine Y.op (pc' := 86) (fun _ => X.aloadn rfl dX4_run_85) ?_
          refine Y.op (pc' := 87) (fun _ => X.dup rfl dX4_run_86) ?_
          refine Y.getI fd_X4_31 rfl dX4_run_87 (fun v4 => ?_)
          refine Y.op (pc' := 91) (fun _ => X.ic ki_1 dX4_run_90) ?_
          refine Y.op (pc' := 92) (fun _ => X.iadd dX4_run_91) ?_
          refine Y.putI fd_X4_31 rfl dX4_run_92 (fun h5 => ?_)
          exact y_X4_run_J95 ih hkE101 x0 x1 x2 x3 h5
def f_X4_run_L29 (kE126 : xH → Option (xH)) : Nat → Nat → Nat → Int32 → xH → Option (xH)
  | 0 => fun _ _ _ _ => none
  | n + 1 => fun x0 x1 x2 h =>
    if x2 > (12 : Int32) then
      kE126 h
    else
      (vc h 4 x0 (f_X4_makeLayers x0 x1 h)).bind fun r1 =>
      if r1.1 = (0 : Int32) then
        kE126 r1.2
      else
        (gI r1.2 4 x0 5).bind fun v2 =>
        (pI r1.2 4 x0 5 (v2 + (1 : Int32))).bind fun h3 =>
        (pI h3 4 x0 4 (0 : Int32)).bind fun h4 =>
        f_X4_run_L60 (f_X4_run_J101 (f_X4_run_L29 kE126 n) kE126) 5000 x0 x1 x2 (0 : Int32) h4
theorem y_X4_run_L29 {g : xG} {h0 : xH} {cl : Bool} {kE126 : xH → Option (xH)} (hkE126 : ∀  (h : xH), Y g DX4_run h0 cl iV (kE126  h) 126 [none, none, none, none] [] h) : ∀ (n : Nat) (x0 : Nat) (x1 : Nat) (x2 : Int32) (h : xH), Y g DX4_run h0 cl iV (f_X4_run_L29 kE126 n x0 x1 x2 h) 29 [some (.ref x0), some (.ref x1), some (.int x2), none] [] h := by
  intro n
  induction n with
  | zero => intro x0 x1 x2 h; exact Y.nothing
  | succ n ih =>
    intro x0 x1 x2 h
    unfold f_X4_run_L29
    refine Y.op (pc' := 30) (fun _ => X.iloadn rfl dX4_run_29) ?_
    refine Y.op (pc' := 32) (fun _ => X.bp kb_12 dX4_run_30) ?_
    refine Y.cmpgt 126 (by decide) dX4_run_32 ?_ ?_
    · exact Y.fg (hkE126 h) trivial
    · refine Y.op (pc' := 36) (fun _ => X.aloadn rfl dX4_run_35) ?_
      refine Y.op (pc' := 37) (fun _ => X.aloadn rfl dX4_run_36) ?_
      refine Y.callVi (As := [.ref x1]) lk_X4_51 rfl cal_X4_makeLayers vir_X4_makeLayers (Nat.le_of_ble_eq_true rfl) (Nat.le_of_ble_eq_true rfl) rfl rfl rfl (Nat.le_of_ble_eq_true rfl) dX4_run_37 (fun _ e => m_X4_makeLayers x0 x1 h _ _ e) (fun r1 => ?_)
      refine Y.ifeq 126 (by decide) dX4_run_40 ?_ ?_
      · exact Y.fg (hkE126 r1.2) trivial
      · refine Y.op (pc' := 44) (fun _ => X.aloadn rfl dX4_run_43) ?_
        refine Y.op (pc' := 45) (fun _ => X.dup rfl dX4_run_44) ?_
        refine Y.getI fd_X4_28 rfl dX4_run_45 (fun v2 => ?_)
        refine Y.op (pc' := 49) (fun _ => X.ic ki_1 dX4_run_48) ?_
        refine Y.op (pc' := 50) (fun _ => X.iadd dX4_run_49) ?_
        refine Y.putI fd_X4_28 rfl dX4_run_50 (fun h3 => ?_)
        refine Y.op (pc' := 54) (fun _ => X.aloadn rfl dX4_run_53) ?_
        refine Y.op (pc' := 55) (fun _ => X.ic ki_0 dX4_run_54) ?_
        refine Y.putI fd_X4_24 rfl dX4_run_55 (fun h4 => ?_)
        refine Y.op (pc' := 59) (fun _ => X.ic ki_0 dX4_run_58) ?_
        refine Y.op (pc' := 60) (loc' := [some (.ref x0), some (.ref x1), some (.int x2), some (.int (0 : Int32))]) (fun _ => X.istoren (Nat.le_of_ble_eq_true rfl) rfl dX4_run_59) ?_
        exact y_X4_run_L60 (y_X4_run_J101 ih hkE126) 5000 x0 x1 x2 (0 : Int32) h4
def f_X4_run (a0 : Nat) (p1 : Nat) (h : xH) : Option (xH) :=
  (gR h 7 p1 0).bind fun v1 =>
  (vc h 3 v1 (f_X3_clear v1 h)).bind fun h2 =>
  (pI h2 4 a0 5 (0 : Int32)).bind fun h3 =>
  (pI h3 4 a0 6 (0 : Int32)).bind fun h4 =>
  (pI h4 4 a0 7 (0 : Int32)).bind fun h5 =>
  (pI h5 4 a0 8 (0 : Int32)).bind fun h6 =>
  f_X4_run_L29 (f_X4_run_J126) 5000 a0 p1 (0 : Int32) h6
theorem y_X4_run {g : xG} {h0 : xH} {cl : Bool} (a0 : Nat) (p1 : Nat) (h : xH) : Y g DX4_run h0 cl iV (f_X4_run a0 p1 h) 0 [some (.ref a0), some (.ref p1), none, none] [] h := by
  unfold f_X4_run
  refine Y.op (pc' := 1) (fun _ => X.aloadn rfl dX4_run_0) ?_
  refine Y.getR fd_X4_40 rfl dX4_run_1 (fun v1 => ?_)
  refine Y.callVv (As := []) lk_X4_46 rfl cal_X3_clear vir_X3_clear (Nat.le_of_ble_eq_true rfl) (Nat.le_of_ble_eq_true rfl) rfl rfl rfl (Nat.le_of_ble_eq_true rfl) dX4_run_4 (fun _ e => m_X3_clear v1 h _ _ e) (fun h2 => ?_)
  refine Y.op (pc' := 8) (fun _ => X.aloadn rfl dX4_run_7) ?_
  refine Y.op (pc' := 9) (fun _ => X.ic ki_0 dX4_run_8) ?_
  refine Y.putI fd_X4_28 rfl dX4_run_9 (fun h3 => ?_)
  refine Y.op (pc' := 13) (fun _ => X.aloadn rfl dX4_run_12) ?_
  refine Y.op (pc' := 14) (fun _ => X.ic ki_0 dX4_run_13) ?_
  refine Y.putI fd_X4_31 rfl dX4_run_14 (fun h4 => ?_)
  refine Y.op (pc' := 18) (fun _ => X.aloadn rfl dX4_run_17) ?_
  refine Y.op (pc' := 19) (fun _ => X.ic ki_0 dX4_run_18) ?_
  refine Y.putI fd_X4_34 rfl dX4_run_19 (fun h5 => ?_)
  refine Y.op (pc' := 23) (fun _ => X.aloadn rfl dX4_run_22) ?_
  refine Y.op (pc' := 24) (fun _ => X.ic ki_0 dX4_run_23) ?_
  refine Y.putI fd_X4_37 rfl dX4_run_24 (fun h6 => ?_)
  refine Y.op (pc' := 28) (fun _ => X.ic ki_0 dX4_run_27) ?_
  refine Y.op (pc' := 29) (loc' := [some (.ref a0), some (.ref p1), some (.int (0 : Int32)), none]) (fun _ => X.istoren (Nat.le_of_ble_eq_true rfl) rfl dX4_run_28) ?_
  exact y_X4_run_L29 (y_X4_run_J126) 5000 a0 p1 (0 : Int32) h6
theorem m_X4_run {g : xG} (a0 : Nat) (p1 : Nat) (h : xH) (cl : Bool) (r : xH) (e : f_X4_run a0 p1 h = some r) : XM g DX4_run [.ref a0, .ref p1] h cl (iV r) := YM.of rfl rfl (Nat.le_of_ble_eq_true rfl) (y_X4_run a0 p1 h) e
def f_X5_init (a0 : Nat) (h : xH) : Option (xH) :=
  (pI h 5 a0 0 (0 : Int32)).bind fun h1 =>
  (pI h1 5 a0 1 (0 : Int32)).bind fun h2 =>
  (pI h2 5 a0 2 (0 : Int32)).bind fun h3 =>
  (pI h3 5 a0 3 (0 : Int32)).bind fun h4 =>
  (nwI h4 (12 : Int32)).bind fun r5 =>
  (pR r5.2 5 a0 4 r5.1).bind fun h6 =>
  some h6
theorem y_X5_init {g : xG} {h0 : xH} (a0 : Nat) (h : xH) : Y g DX5_init h0 false iV (f_X5_init a0 h) 0 [some (.ref a0)] [] h := by
  unfold f_X5_init
  refine Y.op (pc' := 1) (fun _ => X.aloadn rfl dX5_init_0) ?_
  refine Y.op (pc' := 4) (fun _ => X.objInit wo_X5 rfl (Nat.le_of_ble_eq_true rfl) (Nat.le_of_ble_eq_true rfl) dX5_init_1) ?_
  refine Y.op (pc' := 5) (fun _ => X.aloadn rfl dX5_init_4) ?_
  refine Y.op (pc' := 6) (fun _ => X.ic ki_0 dX5_init_5) ?_
  refine Y.putI fd_X5_9 rfl dX5_init_6 (fun h1 => ?_)
  refine Y.op (pc' := 10) (fun _ => X.aloadn rfl dX5_init_9) ?_
  refine Y.op (pc' := 11) (fun _ => X.ic ki_0 dX5_init_10) ?_
  refine Y.putI fd_X5_15 rfl dX5_init_11 (fun h2 => ?_)
  refine Y.op (pc' := 15) (fun _ => X.aloadn rfl dX5_init_14) ?_
  refine Y.op (pc' := 16) (fun _ => X.ic ki_0 dX5_init_15) ?_
  refine Y.putI fd_X5_18 rfl dX5_init_16 (fun h3 => ?_)
  refine Y.op (pc' := 20) (fun _ => X.aloadn rfl dX5_init_19) ?_
  refine Y.op (pc' := 21) (fun _ => X.ic ki_0 dX5_init_20) ?_
  refine Y.putI fd_X5_21 rfl dX5_init_21 (fun h4 => ?_)
  refine Y.op (pc' := 25) (fun _ => X.aloadn rfl dX5_init_24) ?_
  refine Y.op (pc' := 27) (fun _ => X.bp kb_12 dX5_init_25) ?_
  refine Y.newI waI dX5_init_27 (fun r5 => ?_)
  refine Y.putR ff_X5_24 rfl rfl (fun _ => rfl) (fun _ => rfl) dX5_init_29 (fun h6 => ?_)
  exact Y.vreturn rfl dX5_init_32
theorem m_X5_init {g : xG} (a0 : Nat) (h : xH) (r : xH) (e : f_X5_init a0 h = some r) : XM g DX5_init [.ref a0] h false (iV r) := YM.of rfl rfl (Nat.le_of_ble_eq_true rfl) (y_X5_init a0 h) e
def f_X5_lookBack_J67 (h : xH) : Option (xH) :=
  some h
theorem y_X5_lookBack_J67 {g : xG} {h0 : xH} {cl : Bool} (h : xH) : Y g DX5_lookBack h0 cl iV (f_X5_lookBack_J67 h) 67 [none, none, none, none] [] h := by
  unfold f_X5_lookBack_J67
  exact Y.vreturn rfl dX5_lookBack_67
def f_X5_lookBack_J61 (kH : Nat → Nat → Int32 → xH → Option (xH)) (kE67 : xH → Option (xH)) (x0 : Nat) (x1 : Nat) (x2 : Int32) (h : xH) : Option (xH) :=
  lt (x2 + (1 : Int32)) fun v1 =>
  kH x0 x1 v1 h
theorem y_X5_lookBack_J61 {g : xG} {h0 : xH} {cl : Bool} {kH : Nat → Nat → Int32 → xH → Option (xH)} {kE67 : xH → Option (xH)} (hkH : ∀ (x0 : Nat) (x1 : Nat) (x2 : Int32) (h : xH), Y g DX5_lookBack h0 cl iV (kH x0 x1 x2 h) 2 [some (.ref x0), some (.ref x1), some (.int x2), none] [] h) (hkE67 : ∀  (h : xH), Y g DX5_lookBack h0 cl iV (kE67  h) 67 [none, none, none, none] [] h) (x0 : Nat) (x1 : Nat) (x2 : Int32) (h : xH) : Y g DX5_lookBack h0 cl iV (f_X5_lookBack_J61 kH kE67 x0 x1 x2 h) 61 [some (.ref x0), some (.ref x1), some (.int x2), none] [] h := by
  unfold f_X5_lookBack_J61
  refine Y.iinc (i := 2) (loc' := fun v1 => [some (.ref x0), some (.ref x1), some (.int v1), none]) rfl (Nat.le_of_ble_eq_true rfl) ki_1 (fun _ => rfl) dX5_lookBack_61 (fun v1 => ?_)
  refine Y.op (pc' := 2) (fun _ => X.goto 2 (by decide) dX5_lookBack_64) ?_
  exact hkH x0 x1 v1 h
def f_X5_lookBack_L2 (kE67 : xH → Option (xH)) : Nat → Nat → Nat → Int32 → xH → Option (xH)
  | 0 => fun _ _ _ _ => none
  | n + 1 => fun x0 x1 x2 h =>
    if x2 ≥ (12 : Int32) then
      kE67 h
    else
      (vc h 7 x1 (f_X7_row x1 x2 h)).bind fun r1 =>
      (gI r1.2 5 x0 3).bind fun v2 =>
      if (r1.1 &&& v2) = (0 : Int32) then
        f_X5_lookBack_J61 (f_X5_lookBack_L2 kE67 n) kE67 x0 x1 x2 r1.2
      else
        (gI r1.2 5 x0 2).bind fun v3 =>
        (f_X9_bit x2 r1.2).bind fun r4 =>
        (pI r4.2 5 x0 2 (v3 ||| r4.1)).bind fun h5 =>
        (gR h5 7 x1 0).bind fun v6 =>
        (vc h5 3 v6 (f_X3_taskOf v6 x2 h5)).bind fun r7 =>
        if r7.1 = (-1 : Int32) then
          f_X5_lookBack_J61 (f_X5_lookBack_L2 kE67 n) kE67 x0 x1 x2 r7.2
        else
          (gI r7.2 5 x0 3).bind fun v8 =>
          (f_X9_bit r7.1 r7.2).bind fun r9 =>
          (pI r9.2 5 x0 3 (v8 ||| r9.1)).bind fun h10 =>
          f_X5_lookBack_J61 (f_X5_lookBack_L2 kE67 n) kE67 x0 x1 x2 h10
theorem y_X5_lookBack_L2 {g : xG} {h0 : xH} {cl : Bool} {kE67 : xH → Option (xH)} (hkE67 : ∀  (h : xH), Y g DX5_lookBack h0 cl iV (kE67  h) 67 [none, none, none, none] [] h) : ∀ (n : Nat) (x0 : Nat) (x1 : Nat) (x2 : Int32) (h : xH), Y g DX5_lookBack h0 cl iV (f_X5_lookBack_L2 kE67 n x0 x1 x2 h) 2 [some (.ref x0), some (.ref x1), some (.int x2), none] [] h := by
  intro n
  induction n with
  | zero => intro x0 x1 x2 h; exact Y.nothing
  | succ n ih =>
    intro x0 x1 x2 h
    unfold f_X5_lookBack_L2
    refine Y.op (pc' := 3) (fun _ => X.iloadn rfl dX5_lookBack_2) ?_
    refine Y.op (pc' := 5) (fun _ => X.bp kb_12 dX5_lookBack_3) ?_
    refine Y.cmpge 67 (by decide) dX5_lookBack_5 ?_ ?_
    · exact Y.fg (hkE67 h) trivial
    · refine Y.op (pc' := 9) (fun _ => X.aloadn rfl dX5_lookBack_8) ?_
      refine Y.op (pc' := 10) (fun _ => X.iloadn rfl dX5_lookBack_9) ?_
      refine Y.callVi (As := [.int x2]) lk_X5_60 rfl cal_X7_row vir_X7_row (Nat.le_of_ble_eq_true rfl) (Nat.le_of_ble_eq_true rfl) rfl rfl rfl (Nat.le_of_ble_eq_true rfl) dX5_lookBack_10 (fun _ e => m_X7_row x1 x2 h _ _ e) (fun r1 => ?_)
      refine Y.op (pc' := 14) (fun _ => X.aloadn rfl dX5_lookBack_13) ?_
      refine Y.getI fd_X5_21 rfl dX5_lookBack_14 (fun v2 => ?_)
      refine Y.op (pc' := 18) (fun _ => X.iand dX5_lookBack_17) ?_
      refine Y.ifeq 61 (by decide) dX5_lookBack_18 ?_ ?_
      · exact y_X5_lookBack_J61 ih hkE67 x0 x1 x2 r1.2
      · refine Y.op (pc' := 22) (fun _ => X.aloadn rfl dX5_lookBack_21) ?_
        refine Y.op (pc' := 23) (fun _ => X.dup rfl dX5_lookBack_22) ?_
        refine Y.getI fd_X5_18 rfl dX5_lookBack_23 (fun v3 => ?_)
        refine Y.op (pc' := 27) (fun _ => X.iloadn rfl dX5_lookBack_26) ?_
        refine Y.callSi (As := [.int x2]) lk_X5_67 rfl cal_X9_bit sta_X9_bit (Nat.le_of_ble_eq_true rfl) rfl rfl (Nat.le_of_ble_eq_true rfl) dX5_lookBack_27 (fun _ e => m_X9_bit x2 r1.2 _ _ e) (fun r4 => ?_)
        refine Y.op (pc' := 31) (fun _ => X.ior dX5_lookBack_30) ?_
        refine Y.putI fd_X5_18 rfl dX5_lookBack_31 (fun h5 => ?_)
        refine Y.op (pc' := 35) (fun _ => X.aloadn rfl dX5_lookBack_34) ?_
        refine Y.getR fd_X5_33 rfl dX5_lookBack_35 (fun v6 => ?_)
        refine Y.op (pc' := 39) (fun _ => X.iloadn rfl dX5_lookBack_38) ?_
        refine Y.callVi (As := [.int x2]) lk_X5_64 rfl cal_X3_taskOf vir_X3_taskOf (Nat.le_of_ble_eq_true rfl) (Nat.le_of_ble_eq_true rfl) rfl rfl rfl (Nat.le_of_ble_eq_true rfl) dX5_lookBack_39 (fun _ e => m_X3_taskOf v6 x2 h5 _ _ e) (fun r7 => ?_)
        refine Y.op (pc' := 43) (loc' := [some (.ref x0), some (.ref x1), some (.int x2), some (.int r7.1)]) (fun _ => X.istoren (Nat.le_of_ble_eq_true rfl) rfl dX5_lookBack_42) ?_
        refine Y.op (pc' := 44) (fun _ => X.iloadn rfl dX5_lookBack_43) ?_
        refine Y.op (pc' := 45) (fun _ => X.ic ki_m1 dX5_lookBack_44) ?_
        refine Y.cmpeq 61 (by decide) dX5_lookBack_45 ?_ ?_
        · exact Y.fg (y_X5_lookBack_J61 ih hkE67 x0 x1 x2 r7.2) (And.intro rfl (And.intro rfl (And.intro rfl trivial)))
        · refine Y.op (pc' := 49) (fun _ => X.aloadn rfl dX5_lookBack_48) ?_
          refine Y.op (pc' := 50) (fun _ => X.dup rfl dX5_lookBack_49) ?_
          refine Y.getI fd_X5_21 rfl dX5_lookBack_50 (fun v8 => ?_)
          refine Y.op (pc' := 54) (fun _ => X.iloadn rfl dX5_lookBack_53) ?_
          refine Y.callSi (As := [.int r7.1]) lk_X5_67 rfl cal_X9_bit sta_X9_bit (Nat.le_of_ble_eq_true rfl) rfl rfl (Nat.le_of_ble_eq_true rfl) dX5_lookBack_54 (fun _ e => m_X9_bit r7.1 r7.2 _ _ e) (fun r9 => ?_)
          refine Y.op (pc' := 58) (fun _ => X.ior dX5_lookBack_57) ?_
          refine Y.putI fd_X5_21 rfl dX5_lookBack_58 (fun h10 => ?_)
          exact Y.fg (y_X5_lookBack_J61 ih hkE67 x0 x1 x2 h10) (And.intro rfl (And.intro rfl (And.intro rfl trivial)))
def f_X5_lookBack (a0 : Nat) (p1 : Nat) (h : xH) : Option (xH) :=
  f_X5_lookBack_L2 (f_X5_lookBack_J67) 5000 a0 p1 (0 : Int32) h
theorem y_X5_lookBack {g : xG} {h0 : xH} {cl : Bool} (a0 : Nat) (p1 : Nat) (h : xH) : Y g DX5_lookBack h0 cl iV (f_X5_lookBack a0 p1 h) 0 [some (.ref a0), some (.ref p1), none, none] [] h := by
  unfold f_X5_lookBack
  refine Y.op (pc' := 1) (fun _ => X.ic ki_0 dX5_lookBack_0) ?_
  refine Y.op (pc' := 2) (loc' := [some (.ref a0), some (.ref p1), some (.int (0 : Int32)), none]) (fun _ => X.istoren (Nat.le_of_ble_eq_true rfl) rfl dX5_lookBack_1) ?_
  exact y_X5_lookBack_L2 (y_X5_lookBack_J67) 5000 a0 p1 (0 : Int32) h
theorem m_X5_lookBack {g : xG} (a0 : Nat) (p1 : Nat) (h : xH) (cl : Bool) (r : xH) (e : f_X5_lookBack a0 p1 h = some r) : XM g DX5_lookBack [.ref a0, .ref p1] h cl (iV r) := YM.of rfl rfl (Nat.le_of_ble_eq_true rfl) (y_X5_lookBack a0 p1 h) e
def f_X5_lookOn_J91 (h : xH) : Option (xH) :=
  some h
theorem y_X5_lookOn_J91 {g : xG} {h0 : xH} {cl : Bool} (h : xH) : Y g DX5_lookOn h0 cl iV (f_X5_lookOn_J91 h) 91 [none, none, none, none] [] h := by
  unfold f_X5_lookOn_J91
  exact Y.vreturn rfl dX5_lookOn_91
def f_X5_lookOn_J85 (kH : Nat → Nat → Int32 → xH → Option (xH)) (kE91 : xH → Option (xH)) (x0 : Nat) (x1 : Nat) (x2 : Int32) (h : xH) : Option (xH) :=
  lt (x2 + (1 : Int32)) fun v1 =>
  kH x0 x1 v1 h
theorem y_X5_lookOn_J85 {g : xG} {h0 : xH} {cl : Bool} {kH : Nat → Nat → Int32 → xH → Option (xH)} {kE91 : xH → Option (xH)} (hkH : ∀ (x0 : Nat) (x1 : Nat) (x2 : Int32) (h : xH), Y g DX5_lookOn h0 cl iV (kH x0 x1 x2 h) 41 [some (.ref x0), some (.ref x1), some (.int x2), none] [] h) (hkE91 : ∀  (h : xH), Y g DX5_lookOn h0 cl iV (kE91  h) 91 [none, none, none, none] [] h) (x0 : Nat) (x1 : Nat) (x2 : Int32) (h : xH) : Y g DX5_lookOn h0 cl iV (f_X5_lookOn_J85 kH kE91 x0 x1 x2 h) 85 [some (.ref x0), some (.ref x1), some (.int x2), none] [] h := by
  unfold f_X5_lookOn_J85
  refine Y.iinc (i := 2) (loc' := fun v1 => [some (.ref x0), some (.ref x1), some (.int v1), none]) rfl (Nat.le_of_ble_eq_true rfl) ki_1 (fun _ => rfl) dX5_lookOn_85 (fun v1 => ?_)
  refine Y.op (pc' := 41) (fun _ => X.goto 41 (by decide) dX5_lookOn_88) ?_
  exact hkH x0 x1 v1 h
def f_X5_lookOn_L41 (kE91 : xH → Option (xH)) : Nat → Nat → Nat → Int32 → xH → Option (xH)
  | 0 => fun _ _ _ _ => none
  | n + 1 => fun x0 x1 x2 h =>
    if x2 ≥ (12 : Int32) then
      kE91 h
    else
      (gR h 7 x1 0).bind fun v1 =>
      (vc h 3 v1 (f_X3_taskOf v1 x2 h)).bind fun r2 =>
      if r2.1 = (-1 : Int32) then
        f_X5_lookOn_J85 (f_X5_lookOn_L41 kE91 n) kE91 x0 x1 x2 r2.2
      else
        (gI r2.2 5 x0 1).bind fun v3 =>
        (f_X9_has v3 r2.1 r2.2).bind fun r4 =>
        if r4.1 = (0 : Int32) then
          f_X5_lookOn_J85 (f_X5_lookOn_L41 kE91 n) kE91 x0 x1 x2 r4.2
        else
          (gI r4.2 5 x0 0).bind fun v5 =>
          (f_X9_bit x2 r4.2).bind fun r6 =>
          (pI r6.2 5 x0 0 (v5 ||| r6.1)).bind fun h7 =>
          f_X5_lookOn_J85 (f_X5_lookOn_L41 kE91 n) kE91 x0 x1 x2 h7
theorem y_X5_lookOn_L41 {g : xG} {h0 : xH} {cl : Bool} {kE91 : xH → Option (xH)} (hkE91 : ∀  (h : xH), Y g DX5_lookOn h0 cl iV (kE91  h) 91 [none, none, none, none] [] h) : ∀ (n : Nat) (x0 : Nat) (x1 : Nat) (x2 : Int32) (h : xH), Y g DX5_lookOn h0 cl iV (f_X5_lookOn_L41 kE91 n x0 x1 x2 h) 41 [some (.ref x0), some (.ref x1), some (.int x2), none] [] h := by
  intro n
  induction n with
  | zero => intro x0 x1 x2 h; exact Y.nothing
  | succ n ih =>
    intro x0 x1 x2 h
    unfold f_X5_lookOn_L41
    refine Y.op (pc' := 42) (fun _ => X.iloadn rfl dX5_lookOn_41) ?_
    refine Y.op (pc' := 44) (fun _ => X.bp kb_12 dX5_lookOn_42) ?_
    refine Y.cmpge 91 (by decide) dX5_lookOn_44 ?_ ?_
    · exact Y.fg (hkE91 h) trivial
    · refine Y.op (pc' := 48) (fun _ => X.aloadn rfl dX5_lookOn_47) ?_
      refine Y.getR fd_X5_33 rfl dX5_lookOn_48 (fun v1 => ?_)
      refine Y.op (pc' := 52) (fun _ => X.iloadn rfl dX5_lookOn_51) ?_
      refine Y.callVi (As := [.int x2]) lk_X5_64 rfl cal_X3_taskOf vir_X3_taskOf (Nat.le_of_ble_eq_true rfl) (Nat.le_of_ble_eq_true rfl) rfl rfl rfl (Nat.le_of_ble_eq_true rfl) dX5_lookOn_52 (fun _ e => m_X3_taskOf v1 x2 h _ _ e) (fun r2 => ?_)
      refine Y.op (pc' := 56) (loc' := [some (.ref x0), some (.ref x1), some (.int x2), some (.int r2.1)]) (fun _ => X.istoren (Nat.le_of_ble_eq_true rfl) rfl dX5_lookOn_55) ?_
      refine Y.op (pc' := 57) (fun _ => X.iloadn rfl dX5_lookOn_56) ?_
      refine Y.op (pc' := 58) (fun _ => X.ic ki_m1 dX5_lookOn_57) ?_
      refine Y.cmpeq 85 (by decide) dX5_lookOn_58 ?_ ?_
      · exact Y.fg (y_X5_lookOn_J85 ih hkE91 x0 x1 x2 r2.2) (And.intro rfl (And.intro rfl (And.intro rfl trivial)))
      · refine Y.op (pc' := 62) (fun _ => X.aloadn rfl dX5_lookOn_61) ?_
        refine Y.getI fd_X5_15 rfl dX5_lookOn_62 (fun v3 => ?_)
        refine Y.op (pc' := 66) (fun _ => X.iloadn rfl dX5_lookOn_65) ?_
        refine Y.callSi (As := [.int v3, .int r2.1]) lk_X5_56 rfl cal_X9_has sta_X9_has (Nat.le_of_ble_eq_true rfl) rfl rfl (Nat.le_of_ble_eq_true rfl) dX5_lookOn_66 (fun _ e => m_X9_has v3 r2.1 r2.2 _ _ e) (fun r4 => ?_)
        refine Y.ifeq 85 (by decide) dX5_lookOn_69 ?_ ?_
        · exact Y.fg (y_X5_lookOn_J85 ih hkE91 x0 x1 x2 r4.2) (And.intro rfl (And.intro rfl (And.intro rfl trivial)))
        · refine Y.op (pc' := 73) (fun _ => X.aloadn rfl dX5_lookOn_72) ?_
          refine Y.op (pc' := 74) (fun _ => X.dup rfl dX5_lookOn_73) ?_
          refine Y.getI fd_X5_9 rfl dX5_lookOn_74 (fun v5 => ?_)
          refine Y.op (pc' := 78) (fun _ => X.iloadn rfl dX5_lookOn_77) ?_
          refine Y.callSi (As := [.int x2]) lk_X5_67 rfl cal_X9_bit sta_X9_bit (Nat.le_of_ble_eq_true rfl) rfl rfl (Nat.le_of_ble_eq_true rfl) dX5_lookOn_78 (fun _ e => m_X9_bit x2 r4.2 _ _ e) (fun r6 => ?_)
          refine Y.op (pc' := 82) (fun _ => X.ior dX5_lookOn_81) ?_
          refine Y.putI fd_X5_9 rfl dX5_lookOn_82 (fun h7 => ?_)
          exact Y.fg (y_X5_lookOn_J85 ih hkE91 x0 x1 x2 h7) (And.intro rfl (And.intro rfl (And.intro rfl trivial)))
def f_X5_lookOn_J39 (x0 : Nat) (x1 : Nat) (h : xH) : Option (xH) :=
  f_X5_lookOn_L41 (f_X5_lookOn_J91) 5000 x0 x1 (0 : Int32) h
theorem y_X5_lookOn_J39 {g : xG} {h0 : xH} {cl : Bool} (x0 : Nat) (x1 : Nat) (h : xH) : Y g DX5_lookOn h0 cl iV (f_X5_lookOn_J39 x0 x1 h) 39 [some (.ref x0), some (.ref x1), none, none] [] h := by
  unfold f_X5_lookOn_J39
  refine Y.op (pc' := 40) (fun _ => X.ic ki_0 dX5_lookOn_39) ?_
  refine Y.op (pc' := 41) (loc' := [some (.ref x0), some (.ref x1), some (.int (0 : Int32)), none]) (fun _ => X.istoren (Nat.le_of_ble_eq_true rfl) rfl dX5_lookOn_40) ?_
  exact y_X5_lookOn_L41 (y_X5_lookOn_J91) 5000 x0 x1 (0 : Int32) h
def f_X5_lookOn_J33 (kH : Nat → Nat → Int32 → xH → Option (xH)) (kE39 : Nat → Nat → xH → Option (xH)) (x0 : Nat) (x1 : Nat) (x2 : Int32) (h : xH) : Option (xH) :=
  lt (x2 + (1 : Int32)) fun v1 =>
  kH x0 x1 v1 h
theorem y_X5_lookOn_J33 {g : xG} {h0 : xH} {cl : Bool} {kH : Nat → Nat → Int32 → xH → Option (xH)} {kE39 : Nat → Nat → xH → Option (xH)} (hkH : ∀ (x0 : Nat) (x1 : Nat) (x2 : Int32) (h : xH), Y g DX5_lookOn h0 cl iV (kH x0 x1 x2 h) 2 [some (.ref x0), some (.ref x1), some (.int x2), none] [] h) (hkE39 : ∀ (x0 : Nat) (x1 : Nat) (h : xH), Y g DX5_lookOn h0 cl iV (kE39 x0 x1 h) 39 [some (.ref x0), some (.ref x1), none, none] [] h) (x0 : Nat) (x1 : Nat) (x2 : Int32) (h : xH) : Y g DX5_lookOn h0 cl iV (f_X5_lookOn_J33 kH kE39 x0 x1 x2 h) 33 [some (.ref x0), some (.ref x1), some (.int x2), none] [] h := by
  unfold f_X5_lookOn_J33
  refine Y.iinc (i := 2) (loc' := fun v1 => [some (.ref x0), some (.ref x1), some (.int v1), none]) rfl (Nat.le_of_ble_eq_true rfl) ki_1 (fun _ => rfl) dX5_lookOn_33 (fun v1 => ?_)
  refine Y.op (pc' := 2) (fun _ => X.goto 2 (by decide) dX5_lookOn_36) ?_
  exact hkH x0 x1 v1 h
def f_X5_lookOn_L2 (kE39 : Nat → Nat → xH → Option (xH)) : Nat → Nat → Nat → Int32 → xH → Option (xH)
  | 0 => fun _ _ _ _ => none
  | n + 1 => fun x0 x1 x2 h =>
    if x2 ≥ (12 : Int32) then
      kE39 x0 x1 h
    else
      (gI h 5 x0 0).bind fun v1 =>
      (f_X9_has v1 x2 h).bind fun r2 =>
      if r2.1 = (0 : Int32) then
        f_X5_lookOn_J33 (f_X5_lookOn_L2 kE39 n) kE39 x0 x1 x2 r2.2
      else
        (gI r2.2 5 x0 1).bind fun v3 =>
        (vc r2.2 7 x1 (f_X7_row x1 x2 r2.2)).bind fun r4 =>
        (pI r4.2 5 x0 1 (v3 ||| r4.1)).bind fun h5 =>
        f_X5_lookOn_J33 (f_X5_lookOn_L2 kE39 n) kE39 x0 x1 x2 h5
theorem y_X5_lookOn_L2 {g : xG} {h0 : xH} {cl : Bool} {kE39 : Nat → Nat → xH → Option (xH)} (hkE39 : ∀ (x0 : Nat) (x1 : Nat) (h : xH), Y g DX5_lookOn h0 cl iV (kE39 x0 x1 h) 39 [some (.ref x0), some (.ref x1), none, none] [] h) : ∀ (n : Nat) (x0 : Nat) (x1 : Nat) (x2 : Int32) (h : xH), Y g DX5_lookOn h0 cl iV (f_X5_lookOn_L2 kE39 n x0 x1 x2 h) 2 [some (.ref x0), some (.ref x1), some (.int x2), none] [] h := by
  intro n
  induction n with
  | zero => intro x0 x1 x2 h; exact Y.nothing
  | succ n ih =>
    intro x0 x1 x2 h
    unfold f_X5_lookOn_L2
    refine Y.op (pc' := 3) (fun _ => X.iloadn rfl dX5_lookOn_2) ?_
    refine Y.op (pc' := 5) (fun _ => X.bp kb_12 dX5_lookOn_3) ?_
    refine Y.cmpge 39 (by decide) dX5_lookOn_5 ?_ ?_
    · exact Y.fg (hkE39 x0 x1 h) (And.intro rfl (And.intro rfl trivial))
    · refine Y.op (pc' := 9) (fun _ => X.aloadn rfl dX5_lookOn_8) ?_
      refine Y.getI fd_X5_9 rfl dX5_lookOn_9 (fun v1 => ?_)
      refine Y.op (pc' := 13) (fun _ => X.iloadn rfl dX5_lookOn_12) ?_
      refine Y.callSi (As := [.int v1, .int x2]) lk_X5_56 rfl cal_X9_has sta_X9_has (Nat.le_of_ble_eq_true rfl) rfl rfl (Nat.le_of_ble_eq_true rfl) dX5_lookOn_13 (fun _ e => m_X9_has v1 x2 h _ _ e) (fun r2 => ?_)
      refine Y.ifeq 33 (by decide) dX5_lookOn_16 ?_ ?_
      · exact y_X5_lookOn_J33 ih hkE39 x0 x1 x2 r2.2
      · refine Y.op (pc' := 20) (fun _ => X.aloadn rfl dX5_lookOn_19) ?_
        refine Y.op (pc' := 21) (fun _ => X.dup rfl dX5_lookOn_20) ?_
        refine Y.getI fd_X5_15 rfl dX5_lookOn_21 (fun v3 => ?_)
        refine Y.op (pc' := 25) (fun _ => X.aloadn rfl dX5_lookOn_24) ?_
        refine Y.op (pc' := 26) (fun _ => X.iloadn rfl dX5_lookOn_25) ?_
        refine Y.callVi (As := [.int x2]) lk_X5_60 rfl cal_X7_row vir_X7_row (Nat.le_of_ble_eq_true rfl) (Nat.le_of_ble_eq_true rfl) rfl rfl rfl (Nat.le_of_ble_eq_true rfl) dX5_lookOn_26 (fun _ e => m_X7_row x1 x2 r2.2 _ _ e) (fun r4 => ?_)
        refine Y.op (pc' := 30) (fun _ => X.ior dX5_lookOn_29) ?_
        refine Y.putI fd_X5_15 rfl dX5_lookOn_30 (fun h5 => ?_)
        exact y_X5_lookOn_J33 ih hkE39 x0 x1 x2 h5
def f_X5_lookOn (a0 : Nat) (p1 : Nat) (h : xH) : Option (xH) :=
  f_X5_lookOn_L2 (f_X5_lookOn_J39) 5000 a0 p1 (0 : Int32) h
theorem y_X5_lookOn {g : xG} {h0 : xH} {cl : Bool} (a0 : Nat) (p1 : Nat) (h : xH) : Y g DX5_lookOn h0 cl iV (f_X5_lookOn a0 p1 h) 0 [some (.ref a0), some (.ref p1), none, none] [] h := by
  unfold f_X5_lookOn
  refine Y.op (pc' := 1) (fun _ => X.ic ki_0 dX5_lookOn_0) ?_
  refine Y.op (pc' := 2) (loc' := [some (.ref a0), some (.ref p1), some (.int (0 : Int32)), none]) (fun _ => X.istoren (Nat.le_of_ble_eq_true rfl) rfl dX5_lookOn_1) ?_
  exact y_X5_lookOn_L2 (y_X5_lookOn_J39) 5000 a0 p1 (0 : Int32) h
theorem m_X5_lookOn {g : xG} (a0 : Nat) (p1 : Nat) (h : xH) (cl : Bool) (r : xH) (e : f_X5_lookOn a0 p1 h = some r) : XM g DX5_lookOn [.ref a0, .ref p1] h cl (iV r) := YM.of rfl rfl (Nat.le_of_ble_eq_true rfl) (y_X5_lookOn a0 p1 h) e
