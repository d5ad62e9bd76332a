def f_X7_load_J87 (x0 : Nat) (x1 : Nat) (h : xH) : Option (xH) :=
  (gR h 7 x0 0).bind fun v1 =>
  (gR h 0 x1 9).bind fun v2 =>
  (vc h 3 v1 (f_X3_copy v1 v2 h)).bind fun h3 =>
  (pI h3 7 x0 5 (0 : Int32)).bind fun h4 =>
  some h4
theorem y_X7_load_J87 {g : xG} {h0 : xH} {cl : Bool} (x0 : Nat) (x1 : Nat) (h : xH) : Y g DX7_load h0 cl iV (f_X7_load_J87 x0 x1 h) 87 [some (.ref x0), some (.ref x1), none] [] h := by
  unfold f_X7_load_J87
  refine Y.op (pc' := 88) (fun _ => X.aloadn rfl dX7_load_87) ?_
  refine Y.getR fd_X7_12 rfl dX7_load_88 (fun v1 => ?_)
  refine Y.op (pc' := 92) (fun _ => X.aloadn rfl dX7_load_91) ?_
  refine Y.getR fd_X7_67 rfl dX7_load_92 (fun v2 => ?_)
  refine Y.callVv (As := [.ref v2]) lk_X7_68 rfl cal_X3_copy vir_X3_copy (Nat.le_of_ble_eq_true rfl) (Nat.le_of_ble_eq_true rfl) rfl rfl rfl (Nat.le_of_ble_eq_true rfl) dX7_load_95 (fun _ e => m_X3_copy v1 v2 h _ _ e) (fun h3 => ?_)
  refine Y.op (pc' := 99) (fun _ => X.aloadn rfl dX7_load_98) ?_
  refine Y.op (pc' := 100) (fun _ => X.ic ki_0 dX7_load_99) ?_
  refine Y.putI fd_X7_31 rfl dX7_load_100 (fun h4 => ?_)
  exact Y.vreturn rfl dX7_load_103
def f_X7_load_J80 (kH : Nat → Nat → Int32 → xH → Option (xH)) (kE87 : Nat → Nat → xH → Option (xH)) (x0 : Nat) (x1 : Nat) (x2 : Int32) (s0 : Nat) (s1 : Int32) (s2 : Int32) (h : xH) : Option (xH) :=
  (sI h s0 s1 s2).bind fun h1 =>
  lt (x2 + (1 : Int32)) fun v2 =>
  kH x0 x1 v2 h1
theorem y_X7_load_J80 {g : xG} {h0 : xH} {cl : Bool} {kH : Nat → Nat → Int32 → xH → Option (xH)} {kE87 : Nat → Nat → xH → Option (xH)} (hkH : ∀ (x0 : Nat) (x1 : Nat) (x2 : Int32) (h : xH), Y g DX7_load h0 cl iV (kH x0 x1 x2 h) 44 [some (.ref x0), some (.ref x1), some (.int x2)] [] h) (hkE87 : ∀ (x0 : Nat) (x1 : Nat) (h : xH), Y g DX7_load h0 cl iV (kE87 x0 x1 h) 87 [some (.ref x0), some (.ref x1), none] [] h) (x0 : Nat) (x1 : Nat) (x2 : Int32) (s0 : Nat) (s1 : Int32) (s2 : Int32) (h : xH) : Y g DX7_load h0 cl iV (f_X7_load_J80 kH kE87 x0 x1 x2 s0 s1 s2 h) 80 [some (.ref x0), some (.ref x1), some (.int x2)] [.int s2, .int s1, .ref s0] h := by
  unfold f_X7_load_J80
  refine Y.astI dX7_load_80 (fun h1 => ?_)
  refine Y.iinc (i := 2) (loc' := fun v2 => [some (.ref x0), some (.ref x1), some (.int v2)]) rfl (Nat.le_of_ble_eq_true rfl) ki_1 (fun _ => rfl) dX7_load_81 (fun v2 => ?_)
  refine Y.op (pc' := 44) (fun _ => X.goto 44 (by decide) dX7_load_84) ?_
  exact hkH x0 x1 v2 h1
def f_X7_load_L44 (kE87 : Nat → Nat → xH → Option (xH)) : Nat → Nat → Nat → Int32 → xH → Option (xH)
  | 0 => fun _ _ _ _ => none
  | n + 1 => fun x0 x1 x2 h =>
    if x2 ≥ (12 : Int32) then
      kE87 x0 x1 h
    else
      (gR h 7 x0 1).bind fun v1 =>
      (gI h 7 x0 8).bind fun v2 =>
      (f_X9_has v2 x2 h).bind fun r3 =>
      if r3.1 = (0 : Int32) then
        f_X7_load_J80 (f_X7_load_L44 kE87 n) kE87 x0 x1 x2 v1 x2 (0 : Int32) r3.2
      else
        (vc r3.2 0 x1 (f_X0_tasksFor x1 x2 r3.2)).bind fun r4 =>
        (gI r4.2 7 x0 9).bind fun v5 =>
        f_X7_load_J80 (f_X7_load_L44 kE87 n) kE87 x0 x1 x2 v1 x2 (r4.1 &&& v5) r4.2
theorem y_X7_load_L44 {g : xG} {h0 : xH} {cl : Bool} {kE87 : Nat → Nat → xH → Option (xH)} (hkE87 : ∀ (x0 : Nat) (x1 : Nat) (h : xH), Y g DX7_load h0 cl iV (kE87 x0 x1 h) 87 [some (.ref x0), some (.ref x1), none] [] h) : ∀ (n : Nat) (x0 : Nat) (x1 : Nat) (x2 : Int32) (h : xH), Y g DX7_load h0 cl iV (f_X7_load_L44 kE87 n x0 x1 x2 h) 44 [some (.ref x0), some (.ref x1), some (.int x2)] [] h := by
  intro n
  induction n with
  | zero => intro x0 x1 x2 h; exact Y.nothing
  | succ n ih =>
    intro x0 x1 x2 h
    unfold f_X7_load_L44
    refine Y.op (pc' := 45) (fun _ => X.iloadn rfl dX7_load_44) ?_
    refine Y.op (pc' := 47) (fun _ => X.bp kb_12 dX7_load_45) ?_
    refine Y.cmpge 87 (by decide) dX7_load_47 ?_ ?_
    · exact Y.fg (hkE87 x0 x1 h) (And.intro rfl (And.intro rfl trivial))
    · refine Y.op (pc' := 51) (fun _ => X.aloadn rfl dX7_load_50) ?_
      refine Y.getR fd_X7_18 rfl dX7_load_51 (fun v1 => ?_)
      refine Y.op (pc' := 55) (fun _ => X.iloadn rfl dX7_load_54) ?_
      refine Y.op (pc' := 56) (fun _ => X.aloadn rfl dX7_load_55) ?_
      refine Y.getI fd_X7_41 rfl dX7_load_56 (fun v2 => ?_)
      refine Y.op (pc' := 60) (fun _ => X.iloadn rfl dX7_load_59) ?_
      refine Y.callSi (As := [.int v2, .int x2]) lk_X7_59 rfl cal_X9_has sta_X9_has (Nat.le_of_ble_eq_true rfl) rfl rfl (Nat.le_of_ble_eq_true rfl) dX7_load_60 (fun _ e => m_X9_has v2 x2 h _ _ e) (fun r3 => ?_)
      refine Y.ifeq 79 (by decide) dX7_load_63 ?_ ?_
      · refine Y.op (pc' := 80) (fun _ => X.ic ki_0 dX7_load_79) ?_
        exact y_X7_load_J80 ih hkE87 x0 x1 x2 v1 x2 (0 : Int32) r3.2
      · refine Y.op (pc' := 67) (fun _ => X.aloadn rfl dX7_load_66) ?_
        refine Y.op (pc' := 68) (fun _ => X.iloadn rfl dX7_load_67) ?_
        refine Y.callVi (As := [.int x2]) lk_X7_63 rfl cal_X0_tasksFor vir_X0_tasksFor (Nat.le_of_ble_eq_true rfl) (Nat.le_of_ble_eq_true rfl) rfl rfl rfl (Nat.le_of_ble_eq_true rfl) dX7_load_68 (fun _ e => m_X0_tasksFor x1 x2 r3.2 _ _ e) (fun r4 => ?_)
        refine Y.op (pc' := 72) (fun _ => X.aloadn rfl dX7_load_71) ?_
        refine Y.getI fd_X7_44 rfl dX7_load_72 (fun v5 => ?_)
        refine Y.op (pc' := 76) (fun _ => X.iand dX7_load_75) ?_
        refine Y.op (pc' := 80) (fun _ => X.goto 80 (by decide) dX7_load_76) ?_
        exact y_X7_load_J80 ih hkE87 x0 x1 x2 v1 x2 (r4.1 &&& v5) r4.2
def f_X7_load (a0 : Nat) (p1 : Nat) (h : xH) : Option (xH) :=
  (gI h 0 p1 0).bind fun v1 =>
  (pI h 7 a0 6 (imin (12 : Int32) v1)).bind fun h2 =>
  (gI h2 0 p1 1).bind fun v3 =>
  (pI h2 7 a0 7 (imin (12 : Int32) v3)).bind fun h4 =>
  (gI h4 0 p1 2).bind fun v5 =>
  (pI h4 7 a0 8 v5).bind fun h6 =>
  (gI h6 0 p1 3).bind fun v7 =>
  (pI h6 7 a0 9 v7).bind fun h8 =>
  f_X7_load_L44 (f_X7_load_J87) 5000 a0 p1 (0 : Int32) h8
theorem y_X7_load {g : xG} {h0 : xH} {cl : Bool} (a0 : Nat) (p1 : Nat) (h : xH) : Y g DX7_load h0 cl iV (f_X7_load a0 p1 h) 0 [some (.ref a0), some (.ref p1), none] [] h := by
  unfold f_X7_load
  refine Y.op (pc' := 1) (fun _ => X.aloadn rfl dX7_load_0) ?_
  refine Y.op (pc' := 3) (fun _ => X.bp kb_12 dX7_load_1) ?_
  refine Y.op (pc' := 4) (fun _ => X.aloadn rfl dX7_load_3) ?_
  refine Y.getI fd_X7_47 rfl dX7_load_4 (fun v1 => ?_)
  refine Y.mmin mw_X7_50 rfl (Nat.le_of_ble_eq_true rfl) (Nat.le_of_ble_eq_true rfl) dX7_load_7 ?_
  refine Y.putI fd_X7_35 rfl dX7_load_10 (fun h2 => ?_)
  refine Y.op (pc' := 14) (fun _ => X.aloadn rfl dX7_load_13) ?_
  refine Y.op (pc' := 16) (fun _ => X.bp kb_12 dX7_load_14) ?_
  refine Y.op (pc' := 17) (fun _ => X.aloadn rfl dX7_load_16) ?_
  refine Y.getI fd_X7_56 rfl dX7_load_17 (fun v3 => ?_)
  refine Y.mmin mw_X7_50 rfl (Nat.le_of_ble_eq_true rfl) (Nat.le_of_ble_eq_true rfl) dX7_load_20 ?_
  refine Y.putI fd_X7_38 rfl dX7_load_23 (fun h4 => ?_)
  refine Y.op (pc' := 27) (fun _ => X.aloadn rfl dX7_load_26) ?_
  refine Y.op (pc' := 28) (fun _ => X.aloadn rfl dX7_load_27) ?_
  refine Y.getI fd_X7_57 rfl dX7_load_28 (fun v5 => ?_)
  refine Y.putI fd_X7_41 rfl dX7_load_31 (fun h6 => ?_)
  refine Y.op (pc' := 35) (fun _ => X.aloadn rfl dX7_load_34) ?_
  refine Y.op (pc' := 36) (fun _ => X.aloadn rfl dX7_load_35) ?_
  refine Y.getI fd_X7_58 rfl dX7_load_36 (fun v7 => ?_)
  refine Y.putI fd_X7_44 rfl dX7_load_39 (fun h8 => ?_)
  refine Y.op (pc' := 43) (fun _ => X.ic ki_0 dX7_load_42) ?_
  refine Y.op (pc' := 44) (loc' := [some (.ref a0), some (.ref p1), some (.int (0 : Int32))]) (fun _ => X.istoren (Nat.le_of_ble_eq_true rfl) rfl dX7_load_43) ?_
  exact y_X7_load_L44 (y_X7_load_J87) 5000 a0 p1 (0 : Int32) h8
theorem m_X7_load {g : xG} (a0 : Nat) (p1 : Nat) (h : xH) (cl : Bool) (r : xH) (e : f_X7_load a0 p1 h = some r) : XM g DX7_load [.ref a0, .ref p1] h cl (iV r) := YM.of rfl rfl (Nat.le_of_ble_eq_true rfl) (y_X7_load a0 p1 h) e
def f_X7_isOpen_J24 (s0 : Int32) (h : xH) : Option (Int32 × xH) :=
  if s0 = 0 ∨ s0 = 1 then some (s0, h) else none
theorem y_X7_isOpen_J24 {g : xG} {h0 : xH} {cl : Bool} (s0 : Int32) (h : xH) : Y g DX7_isOpen h0 cl iI (f_X7_isOpen_J24 s0 h) 24 [none, none, none] [.int s0] h := by
  unfold f_X7_isOpen_J24
  exact Y.zreturn rfl dX7_isOpen_24
def f_X7_isOpen_J23 (h : xH) : Option (Int32 × xH) :=
  f_X7_isOpen_J24 (0 : Int32) h
theorem y_X7_isOpen_J23 {g : xG} {h0 : xH} {cl : Bool} (h : xH) : Y g DX7_isOpen h0 cl iI (f_X7_isOpen_J23 h) 23 [none, none, none] [] h := by
  unfold f_X7_isOpen_J23
  refine Y.op (pc' := 24) (fun _ => X.ic ki_0 dX7_isOpen_23) ?_
  exact y_X7_isOpen_J24 (0 : Int32) h
def f_X7_isOpen (a0 : Nat) (p1 : Int32) (p2 : Int32) (h : xH) : Option (Int32 × xH) :=
  (f_X9_inLimit p2 h).bind fun r1 =>
  if r1.1 = (0 : Int32) then
    f_X7_isOpen_J23 r1.2
  else
    (vc r1.2 7 a0 (f_X7_row a0 p1 r1.2)).bind fun r2 =>
    (f_X9_has r2.1 p2 r2.2).bind fun r3 =>
    if r3.1 = (0 : Int32) then
      f_X7_isOpen_J23 r3.2
    else
      f_X7_isOpen_J24 (1 : Int32) r3.2
theorem y_X7_isOpen {g : xG} {h0 : xH} {cl : Bool} (a0 : Nat) (p1 : Int32) (p2 : Int32) (h : xH) : Y g DX7_isOpen h0 cl iI (f_X7_isOpen a0 p1 p2 h) 0 [some (.ref a0), some (.int p1), some (.int p2)] [] h := by
  unfold f_X7_isOpen
  refine Y.op (pc' := 1) (fun _ => X.iloadn rfl dX7_isOpen_0) ?_
  refine Y.callSi (As := [.int p2]) lk_X7_72 rfl cal_X9_inLimit sta_X9_inLimit (Nat.le_of_ble_eq_true rfl) rfl rfl (Nat.le_of_ble_eq_true rfl) dX7_isOpen_1 (fun _ e => m_X9_inLimit p2 h _ _ e) (fun r1 => ?_)
  refine Y.ifeq 23 (by decide) dX7_isOpen_4 ?_ ?_
  · exact Y.fg (y_X7_isOpen_J23 r1.2) trivial
  · refine Y.op (pc' := 8) (fun _ => X.aloadn rfl dX7_isOpen_7) ?_
    refine Y.op (pc' := 9) (fun _ => X.iloadn rfl dX7_isOpen_8) ?_
    refine Y.callVi (As := [.int p1]) lk_X7_76 rfl cal_X7_row vir_X7_row (Nat.le_of_ble_eq_true rfl) (Nat.le_of_ble_eq_true rfl) rfl rfl rfl (Nat.le_of_ble_eq_true rfl) dX7_isOpen_9 (fun _ e => m_X7_row a0 p1 r1.2 _ _ e) (fun r2 => ?_)
    refine Y.op (pc' := 13) (fun _ => X.iloadn rfl dX7_isOpen_12) ?_
    refine Y.callSi (As := [.int r2.1, .int p2]) lk_X7_59 rfl cal_X9_has sta_X9_has (Nat.le_of_ble_eq_true rfl) rfl rfl (Nat.le_of_ble_eq_true rfl) dX7_isOpen_13 (fun _ e => m_X9_has r2.1 p2 r2.2 _ _ e) (fun r3 => ?_)
    refine Y.ifeq 23 (by decide) dX7_isOpen_16 ?_ ?_
    · exact Y.fg (y_X7_isOpen_J23 r3.2) trivial
    · refine Y.op (pc' := 20) (fun _ => X.ic ki_1 dX7_isOpen_19) ?_
      refine Y.op (pc' := 24) (fun _ => X.goto 24 (by decide) dX7_isOpen_20) ?_
      exact Y.fg (y_X7_isOpen_J24 (1 : Int32) r3.2) trivial
theorem m_X7_isOpen {g : xG} (a0 : Nat) (p1 : Int32) (p2 : Int32) (h : xH) (cl : Bool) (r : Int32 × xH) (e : f_X7_isOpen a0 p1 p2 h = some r) : XM g DX7_isOpen [.ref a0, .int p1, .int p2] h cl (iI r) := YM.of rfl rfl (Nat.le_of_ble_eq_true rfl) (y_X7_isOpen a0 p1 p2 h) e
def f_X7_open_J27 (h : xH) : Option (xH) :=
  some h
theorem y_X7_open_J27 {g : xG} {h0 : xH} {cl : Bool} (h : xH) : Y g DX7_open h0 cl iV (f_X7_open_J27 h) 27 [none, none, none] [] h := by
  unfold f_X7_open_J27
  exact Y.vreturn rfl dX7_open_27
def f_X7_open (a0 : Nat) (p1 : Int32) (p2 : Int32) (h : xH) : Option (xH) :=
  (f_X9_inLimit p1 h).bind fun r1 =>
  if r1.1 = (0 : Int32) then
    f_X7_open_J27 r1.2
  else
    (f_X9_inLimit p2 r1.2).bind fun r2 =>
    if r2.1 = (0 : Int32) then
      f_X7_open_J27 r2.2
    else
      (gR r2.2 7 a0 1).bind fun v3 =>
      (aI r2.2 v3 p1).bind fun v4 =>
      (f_X9_bit p2 r2.2).bind fun r5 =>
      (sI r5.2 v3 p1 (v4 ||| r5.1)).bind fun h6 =>
      f_X7_open_J27 h6
theorem y_X7_open {g : xG} {h0 : xH} {cl : Bool} (a0 : Nat) (p1 : Int32) (p2 : Int32) (h : xH) : Y g DX7_open h0 cl iV (f_X7_open a0 p1 p2 h) 0 [some (.ref a0), some (.int p1), some (.int p2)] [] h := by
  unfold f_X7_open
  refine Y.op (pc' := 1) (fun _ => X.iloadn rfl dX7_open_0) ?_
  refine Y.callSi (As := [.int p1]) lk_X7_72 rfl cal_X9_inLimit sta_X9_inLimit (Nat.le_of_ble_eq_true rfl) rfl rfl (Nat.le_of_ble_eq_true rfl) dX7_open_1 (fun _ e => m_X9_inLimit p1 h _ _ e) (fun r1 => ?_)
  refine Y.ifeq 27 (by decide) dX7_open_4 ?_ ?_
  · exact Y.fg (y_X7_open_J27 r1.2) trivial
  · refine Y.op (pc' := 8) (fun _ => X.iloadn rfl dX7_open_7) ?_
    refine Y.callSi (As := [.int p2]) lk_X7_72 rfl cal_X9_inLimit sta_X9_inLimit (Nat.le_of_ble_eq_true rfl) rfl rfl (Nat.le_of_ble_eq_true rfl) dX7_open_8 (fun _ e => m_X9_inLimit p2 r1.2 _ _ e) (fun r2 => ?_)
    refine Y.ifeq 27 (by decide) dX7_open_11 ?_ ?_
    · exact Y.fg (y_X7_open_J27 r2.2) trivial
    · refine Y.op (pc' := 15) (fun _ => X.aloadn rfl dX7_open_14) ?_
      refine Y.getR fd_X7_18 rfl dX7_open_15 (fun v3 => ?_)
      refine Y.op (pc' := 19) (fun _ => X.iloadn rfl dX7_open_18) ?_
      refine Y.op (pc' := 20) (fun _ => X.dup2 rfl rfl dX7_open_19) ?_
      refine Y.aldI dX7_open_20 (fun v4 => ?_)
      refine Y.op (pc' := 22) (fun _ => X.iloadn rfl dX7_open_21) ?_
      refine Y.callSi (As := [.int p2]) lk_X7_79 rfl cal_X9_bit sta_X9_bit (Nat.le_of_ble_eq_true rfl) rfl rfl (Nat.le_of_ble_eq_true rfl) dX7_open_22 (fun _ e => m_X9_bit p2 r2.2 _ _ e) (fun r5 => ?_)
      refine Y.op (pc' := 26) (fun _ => X.ior dX7_open_25) ?_
      refine Y.astI dX7_open_26 (fun h6 => ?_)
      exact Y.fg (y_X7_open_J27 h6) trivial
theorem m_X7_open {g : xG} (a0 : Nat) (p1 : Int32) (p2 : Int32) (h : xH) (cl : Bool) (r : xH) (e : f_X7_open a0 p1 p2 h = some r) : XM g DX7_open [.ref a0, .int p1, .int p2] h cl (iV r) := YM.of rfl rfl (Nat.le_of_ble_eq_true rfl) (y_X7_open a0 p1 p2 h) e
def f_X7_shut_J49 (h : xH) : Option (xH) :=
  some h
theorem y_X7_shut_J49 {g : xG} {h0 : xH} {cl : Bool} (h : xH) : Y g DX7_shut h0 cl iV (f_X7_shut_J49 h) 49 [none, none, none] [] h := by
  unfold f_X7_shut_J49
  exact Y.vreturn rfl dX7_shut_49
def f_X7_shut (a0 : Nat) (p1 : Int32) (p2 : Int32) (h : xH) : Option (xH) :=
  (f_X9_inLimit p1 h).bind fun r1 =>
  if r1.1 = (0 : Int32) then
    f_X7_shut_J49 r1.2
  else
    (f_X9_inLimit p2 r1.2).bind fun r2 =>
    if r2.1 = (0 : Int32) then
      f_X7_shut_J49 r2.2
    else
      (gR r2.2 7 a0 1).bind fun v3 =>
      (aI r2.2 v3 p1).bind fun v4 =>
      (f_X9_bit p2 r2.2).bind fun r5 =>
      (sI r5.2 v3 p1 (v4 &&& (r5.1 ^^^ (-1 : Int32)))).bind fun h6 =>
      (gR h6 7 a0 0).bind fun v7 =>
      (vc h6 3 v7 (f_X3_taskOf v7 p1 h6)).bind fun r8 =>
      if r8.1 = p2 then
        (gR r8.2 7 a0 0).bind fun v9 =>
        (vc r8.2 3 v9 (f_X3_loosenWorker v9 p1 r8.2)).bind fun h10 =>
        f_X7_shut_J49 h10
      else
        f_X7_shut_J49 r8.2
theorem y_X7_shut {g : xG} {h0 : xH} {cl : Bool} (a0 : Nat) (p1 : Int32) (p2 : Int32) (h : xH) : Y g DX7_shut h0 cl iV (f_X7_shut a0 p1 p2 h) 0 [some (.ref a0), some (.int p1), some (.int p2)] [] h := by
  unfold f_X7_shut
  refine Y.op (pc' := 1) (fun _ => X.iloadn rfl dX7_shut_0) ?_
  refine Y.callSi (As := [.int p1]) lk_X7_72 rfl cal_X9_inLimit sta_X9_inLimit (Nat.le_of_ble_eq_true rfl) rfl rfl (Nat.le_of_ble_eq_true rfl) dX7_shut_1 (fun _ e => m_X9_inLimit p1 h _ _ e) (fun r1 => ?_)
  refine Y.ifeq 49 (by decide) dX7_shut_4 ?_ ?_
  · exact Y.fg (y_X7_shut_J49 r1.2) trivial
  · refine Y.op (pc' := 8) (fun _ => X.iloadn rfl dX7_shut_7) ?_
    refine Y.callSi (As := [.int p2]) lk_X7_72 rfl cal_X9_inLimit sta_X9_inLimit (Nat.le_of_ble_eq_true rfl) rfl rfl (Nat.le_of_ble_eq_true rfl) dX7_shut_8 (fun _ e => m_X9_inLimit p2 r1.2 _ _ e) (fun r2 => ?_)
    refine Y.ifeq 49 (by decide) dX7_shut_11 ?_ ?_
    · exact Y.fg (y_X7_shut_J49 r2.2) trivial
    · refine Y.op (pc' := 15) (fun _ => X.aloadn rfl dX7_shut_14) ?_
      refine Y.getR fd_X7_18 rfl dX7_shut_15 (fun v3 => ?_)
      refine Y.op (pc' := 19) (fun _ => X.iloadn rfl dX7_shut_18) ?_
      refine Y.op (pc' := 20) (fun _ => X.dup2 rfl rfl dX7_shut_19) ?_
      refine Y.aldI dX7_shut_20 (fun v4 => ?_)
      refine Y.op (pc' := 22) (fun _ => X.iloadn rfl dX7_shut_21) ?_
      refine Y.callSi (As := [.int p2]) lk_X7_79 rfl cal_X9_bit sta_X9_bit (Nat.le_of_ble_eq_true rfl) rfl rfl (Nat.le_of_ble_eq_true rfl) dX7_shut_22 (fun _ e => m_X9_bit p2 r2.2 _ _ e) (fun r5 => ?_)
      refine Y.op (pc' := 26) (fun _ => X.ic ki_m1 dX7_shut_25) ?_
      refine Y.op (pc' := 27) (fun _ => X.ixor dX7_shut_26) ?_
      refine Y.op (pc' := 28) (fun _ => X.iand dX7_shut_27) ?_
      refine Y.astI dX7_shut_28 (fun h6 => ?_)
      refine Y.op (pc' := 30) (fun _ => X.aloadn rfl dX7_shut_29) ?_
      refine Y.getR fd_X7_12 rfl dX7_shut_30 (fun v7 => ?_)
      refine Y.op (pc' := 34) (fun _ => X.iloadn rfl dX7_shut_33) ?_
      refine Y.callVi (As := [.int p1]) lk_X7_82 rfl cal_X3_taskOf vir_X3_taskOf (Nat.le_of_ble_eq_true rfl) (Nat.le_of_ble_eq_true rfl) rfl rfl rfl (Nat.le_of_ble_eq_true rfl) dX7_shut_34 (fun _ e => m_X3_taskOf v7 p1 h6 _ _ e) (fun r8 => ?_)
      refine Y.op (pc' := 38) (fun _ => X.iloadn rfl dX7_shut_37) ?_
      refine Y.cmpne 49 (by decide) dX7_shut_38 ?_ ?_
      · exact Y.fg (y_X7_shut_J49 r8.2) trivial
      · refine Y.op (pc' := 42) (fun _ => X.aloadn rfl dX7_shut_41) ?_
        refine Y.getR fd_X7_12 rfl dX7_shut_42 (fun v9 => ?_)
        refine Y.op (pc' := 46) (fun _ => X.iloadn rfl dX7_shut_45) ?_
        refine Y.callVv (As := [.int p1]) lk_X7_85 rfl cal_X3_loosenWorker vir_X3_loosenWorker (Nat.le_of_ble_eq_true rfl) (Nat.le_of_ble_eq_true rfl) rfl rfl rfl (Nat.le_of_ble_eq_true rfl) dX7_shut_46 (fun _ e => m_X3_loosenWorker v9 p1 r8.2 _ _ e) (fun h10 => ?_)
        exact Y.fg (y_X7_shut_J49 h10) trivial
theorem m_X7_shut {g : xG} (a0 : Nat) (p1 : Int32) (p2 : Int32) (h : xH) (cl : Bool) (r : xH) (e : f_X7_shut a0 p1 p2 h = some r) : XM g DX7_shut [.ref a0, .int p1, .int p2] h cl (iV r) := YM.of rfl rfl (Nat.le_of_ble_eq_true rfl) (y_X7_shut a0 p1 p2 h) e
def f_X7_leaveOut_J99 (h : xH) : Option (xH) :=
  some h
theorem y_X7_leaveOut_J99 {g : xG} {h0 : xH} {cl : Bool} (h : xH) : Y g DX7_leaveOut h0 cl iV (f_X7_leaveOut_J99 h) 99 [none, none, none, none] [] h := by
  unfold f_X7_leaveOut_J99
  exact Y.vreturn rfl dX7_leaveOut_99
def f_X7_leaveOut_J92 (kH : Nat → Int32 → xH → Option (xH)) (kE99 : xH → Option (xH)) (x0 : Nat) (x3 : Int32) (s0 : Nat) (s1 : Int32) (s2 : Int32) (h : xH) : Option (xH) :=
  (sI h s0 s1 s2).bind fun h1 =>
  lt (x3 + (1 : Int32)) fun v2 =>
  kH x0 v2 h1
theorem y_X7_leaveOut_J92 {g : xG} {h0 : xH} {cl : Bool} {kH : Nat → Int32 → xH → Option (xH)} {kE99 : xH → Option (xH)} (hkH : ∀ (x0 : Nat) (x3 : Int32) (h : xH), Y g DX7_leaveOut h0 cl iV (kH x0 x3 h) 55 [some (.ref x0), none, none, some (.int x3)] [] h) (hkE99 : ∀  (h : xH), Y g DX7_leaveOut h0 cl iV (kE99  h) 99 [none, none, none, none] [] h) (x0 : Nat) (x3 : Int32) (s0 : Nat) (s1 : Int32) (s2 : Int32) (h : xH) : Y g DX7_leaveOut h0 cl iV (f_X7_leaveOut_J92 kH kE99 x0 x3 s0 s1 s2 h) 92 [some (.ref x0), none, none, some (.int x3)] [.int s2, .int s1, .ref s0] h := by
  unfold f_X7_leaveOut_J92
  refine Y.astI dX7_leaveOut_92 (fun h1 => ?_)
  refine Y.iinc (i := 3) (loc' := fun v2 => [some (.ref x0), none, none, some (.int v2)]) rfl (Nat.le_of_ble_eq_true rfl) ki_1 (fun _ => rfl) dX7_leaveOut_93 (fun v2 => ?_)
  refine Y.op (pc' := 55) (fun _ => X.goto 55 (by decide) dX7_leaveOut_96) ?_
  exact hkH x0 v2 h1
def f_X7_leaveOut_L55 (kE99 : xH → Option (xH)) : Nat → Nat → Int32 → xH → Option (xH)
  | 0 => fun _ _ _ => none
  | n + 1 => fun x0 x3 h =>
    if x3 ≥ (12 : Int32) then
      kE99 h
    else
      (gR h 7 x0 1).bind fun v1 =>
      (gI h 7 x0 8).bind fun v2 =>
      (f_X9_has v2 x3 h).bind fun r3 =>
      if r3.1 = (0 : Int32) then
        f_X7_leaveOut_J92 (f_X7_leaveOut_L55 kE99 n) kE99 x0 x3 v1 x3 (0 : Int32) r3.2
      else
        (gR r3.2 7 x0 1).bind fun v4 =>
        (aI r3.2 v4 x3).bind fun v5 =>
        (gI r3.2 7 x0 9).bind fun v6 =>
        f_X7_leaveOut_J92 (f_X7_leaveOut_L55 kE99 n) kE99 x0 x3 v1 x3 (v5 &&& v6) r3.2
theorem y_X7_leaveOut_L55 {g : xG} {h0 : xH} {cl : Bool} {kE99 : xH → Option (xH)} (hkE99 : ∀  (h : xH), Y g DX7_leaveOut h0 cl iV (kE99  h) 99 [none, none, none, none] [] h) : ∀ (n : Nat) (x0 : Nat) (x3 : Int32) (h : xH), Y g DX7_leaveOut h0 cl iV (f_X7_leaveOut_L55 kE99 n x0 x3 h) 55 [some (.ref x0), none, none, some (.int x3)] [] h := by
  intro n
  induction n with
  | zero => intro x0 x3 h; exact Y.nothing
  | succ n ih =>
    intro x0 x3 h
    unfold f_X7_leaveOut_L55
    refine Y.op (pc' := 56) (fun _ => X.iloadn rfl dX7_leaveOut_55) ?_
    refine Y.op (pc' := 58) (fun _ => X.bp kb_12 dX7_leaveOut_56) ?_
    refine Y.cmpge 99 (by decide) dX7_leaveOut_58 ?_ ?_
    · exact Y.fg (hkE99 h) trivial
    · refine Y.op (pc' := 62) (fun _ => X.aloadn rfl dX7_leaveOut_61) ?_
      refine Y.getR fd_X7_18 rfl dX7_leaveOut_62 (fun v1 => ?_)
      refine Y.op (pc' := 66) (fun _ => X.iloadn rfl dX7_leaveOut_65) ?_
      refine Y.op (pc' := 67) (fun _ => X.aloadn rfl dX7_leaveOut_66) ?_
      refine Y.getI fd_X7_41 rfl dX7_leaveOut_67 (fun v2 => ?_)
      refine Y.op (pc' := 71) (fun _ => X.iloadn rfl dX7_leaveOut_70) ?_
      refine Y.callSi (As := [.int v2, .int x3]) lk_X7_59 rfl cal_X9_has sta_X9_has (Nat.le_of_ble_eq_true rfl) rfl rfl (Nat.le_of_ble_eq_true rfl) dX7_leaveOut_71 (fun _ e => m_X9_has v2 x3 h _ _ e) (fun r3 => ?_)
      refine Y.ifeq 91 (by decide) dX7_leaveOut_74 ?_ ?_
      · refine Y.op (pc' := 92) (fun _ => X.ic ki_0 dX7_leaveOut_91) ?_
        exact y_X7_leaveOut_J92 ih hkE99 x0 x3 v1 x3 (0 : Int32) r3.2
      · refine Y.op (pc' := 78) (fun _ => X.aloadn rfl dX7_leaveOut_77) ?_
        refine Y.getR fd_X7_18 rfl dX7_leaveOut_78 (fun v4 => ?_)
        refine Y.op (pc' := 82) (fun _ => X.iloadn rfl dX7_leaveOut_81) ?_
        refine Y.aldI dX7_leaveOut_82 (fun v5 => ?_)
        refine Y.op (pc' := 84) (fun _ => X.aloadn rfl dX7_leaveOut_83) ?_
        refine Y.getI fd_X7_44 rfl dX7_leaveOut_84 (fun v6 => ?_)
        refine Y.op (pc' := 88) (fun _ => X.iand dX7_leaveOut_87) ?_
        refine Y.op (pc' := 92) (fun _ => X.goto 92 (by decide) dX7_leaveOut_88) ?_
        exact y_X7_leaveOut_J92 ih hkE99 x0 x3 v1 x3 (v5 &&& v6) r3.2
def f_X7_leaveOut_J53 (x0 : Nat) (h : xH) : Option (xH) :=
  f_X7_leaveOut_L55 (f_X7_leaveOut_J99) 5000 x0 (0 : Int32) h
theorem y_X7_leaveOut_J53 {g : xG} {h0 : xH} {cl : Bool} (x0 : Nat) (h : xH) : Y g DX7_leaveOut h0 cl iV (f_X7_leaveOut_J53 x0 h) 53 [some (.ref x0), none, none, none] [] h := by
  unfold f_X7_leaveOut_J53
  refine Y.op (pc' := 54) (fun _ => X.ic ki_0 dX7_leaveOut_53) ?_
  refine Y.op (pc' := 55) (loc' := [some (.ref x0), none, none, some (.int (0 : Int32))]) (fun _ => X.istoren (Nat.le_of_ble_eq_true rfl) rfl dX7_leaveOut_54) ?_
  exact y_X7_leaveOut_L55 (y_X7_leaveOut_J99) 5000 x0 (0 : Int32) h
def f_X7_leaveOut (a0 : Nat) (p1 : Int32) (p2 : Int32) (h : xH) : Option (xH) :=
  if p1 = (0 : Int32) then
    (gI h 7 a0 8).bind fun v6 =>
    (f_X9_bit p2 h).bind fun r7 =>
    (pI r7.2 7 a0 8 (v6 &&& (r7.1 ^^^ (-1 : Int32)))).bind fun h8 =>
    (gR h8 7 a0 0).bind fun v9 =>
    (vc h8 3 v9 (f_X3_loosenWorker v9 p2 h8)).bind fun h10 =>
    f_X7_leaveOut_J53 a0 h10
  else
    (gI h 7 a0 9).bind fun v1 =>
    (f_X9_bit p2 h).bind fun r2 =>
    (pI r2.2 7 a0 9 (v1 &&& (r2.1 ^^^ (-1 : Int32)))).bind fun h3 =>
    (gR h3 7 a0 0).bind fun v4 =>
    (vc h3 3 v4 (f_X3_loosenTask v4 p2 h3)).bind fun h5 =>
    f_X7_leaveOut_J53 a0 h5
theorem y_X7_leaveOut {g : xG} {h0 : xH} {cl : Bool} (a0 : Nat) (p1 : Int32) (p2 : Int32) (h : xH) : Y g DX7_leaveOut h0 cl iV (f_X7_leaveOut a0 p1 p2 h) 0 [some (.ref a0), some (.int p1), some (.int p2), none] [] h := by
  unfold f_X7_leaveOut
  refine Y.op (pc' := 1) (fun _ => X.iloadn rfl dX7_leaveOut_0) ?_
  refine Y.ifne 30 (by decide) dX7_leaveOut_1 ?_ ?_
  · refine Y.op (pc' := 31) (fun _ => X.aloadn rfl dX7_leaveOut_30) ?_
    refine Y.op (pc' := 32) (fun _ => X.dup rfl dX7_leaveOut_31) ?_
    refine Y.getI fd_X7_44 rfl dX7_leaveOut_32 (fun v1 => ?_)
    refine Y.op (pc' := 36) (fun _ => X.iloadn rfl dX7_leaveOut_35) ?_
    refine Y.callSi (As := [.int p2]) lk_X7_79 rfl cal_X9_bit sta_X9_bit (Nat.le_of_ble_eq_true rfl) rfl rfl (Nat.le_of_ble_eq_true rfl) dX7_leaveOut_36 (fun _ e => m_X9_bit p2 h _ _ e) (fun r2 => ?_)
    refine Y.op (pc' := 40) (fun _ => X.ic ki_m1 dX7_leaveOut_39) ?_
    refine Y.op (pc' := 41) (fun _ => X.ixor dX7_leaveOut_40) ?_
    refine Y.op (pc' := 42) (fun _ => X.iand dX7_leaveOut_41) ?_
    refine Y.putI fd_X7_44 rfl dX7_leaveOut_42 (fun h3 => ?_)
    refine Y.op (pc' := 46) (fun _ => X.aloadn rfl dX7_leaveOut_45) ?_
    refine Y.getR fd_X7_12 rfl dX7_leaveOut_46 (fun v4 => ?_)
    refine Y.op (pc' := 50) (fun _ => X.iloadn rfl dX7_leaveOut_49) ?_
    refine Y.callVv (As := [.int p2]) lk_X7_99 rfl cal_X3_loosenTask vir_X3_loosenTask (Nat.le_of_ble_eq_true rfl) (Nat.le_of_ble_eq_true rfl) rfl rfl rfl (Nat.le_of_ble_eq_true rfl) dX7_leaveOut_50 (fun _ e => m_X3_loosenTask v4 p2 h3 _ _ e) (fun h5 => ?_)
    exact Y.fg (y_X7_leaveOut_J53 a0 h5) (And.intro rfl trivial)
  · refine Y.op (pc' := 5) (fun _ => X.aloadn rfl dX7_leaveOut_4) ?_
    refine Y.op (pc' := 6) (fun _ => X.dup rfl dX7_leaveOut_5) ?_
    refine Y.getI fd_X7_41 rfl dX7_leaveOut_6 (fun v6 => ?_)
    refine Y.op (pc' := 10) (fun _ => X.iloadn rfl dX7_leaveOut_9) ?_
    refine Y.callSi (As := [.int p2]) lk_X7_79 rfl cal_X9_bit sta_X9_bit (Nat.le_of_ble_eq_true rfl) rfl rfl (Nat.le_of_ble_eq_true rfl) dX7_leaveOut_10 (fun _ e => m_X9_bit p2 h _ _ e) (fun r7 => ?_)
    refine Y.op (pc' := 14) (fun _ => X.ic ki_m1 dX7_leaveOut_13) ?_
    refine Y.op (pc' := 15) (fun _ => X.ixor dX7_leaveOut_14) ?_
    refine Y.op (pc' := 16) (fun _ => X.iand dX7_leaveOut_15) ?_
    refine Y.putI fd_X7_41 rfl dX7_leaveOut_16 (fun h8 => ?_)
    refine Y.op (pc' := 20) (fun _ => X.aloadn rfl dX7_leaveOut_19) ?_
    refine Y.getR fd_X7_12 rfl dX7_leaveOut_20 (fun v9 => ?_)
    refine Y.op (pc' := 24) (fun _ => X.iloadn rfl dX7_leaveOut_23) ?_
    refine Y.callVv (As := [.int p2]) lk_X7_85 rfl cal_X3_loosenWorker vir_X3_loosenWorker (Nat.le_of_ble_eq_true rfl) (Nat.le_of_ble_eq_true rfl) rfl rfl rfl (Nat.le_of_ble_eq_true rfl) dX7_leaveOut_24 (fun _ e => m_X3_loosenWorker v9 p2 h8 _ _ e) (fun h10 => ?_)
    refine Y.op (pc' := 53) (fun _ => X.goto 53 (by decide) dX7_leaveOut_27) ?_
    exact Y.fg (y_X7_leaveOut_J53 a0 h10) (And.intro rfl trivial)
theorem m_X7_leaveOut {g : xG} (a0 : Nat) (p1 : Int32) (p2 : Int32) (h : xH) (cl : Bool) (r : xH) (e : f_X7_leaveOut a0 p1 p2 h = some r) : XM g DX7_leaveOut [.ref a0, .int p1, .int p2] h cl (iV r) := YM.of rfl rfl (Nat.le_of_ble_eq_true rfl) (y_X7_leaveOut a0 p1 p2 h) e
def f_X7_trace_J110 (h : xH) : Option (xH) :=
  some h
theorem y_X7_trace_J110 {g : xG} {h0 : xH} {cl : Bool} (h : xH) : Y g DX7_trace h0 cl iV (f_X7_trace_J110 h) 110 [none, none, none, none, none] [] h := by
  unfold f_X7_trace_J110
  exact Y.vreturn rfl dX7_trace_110
def f_X7_trace_L51 (kE110 : xH → Option (xH)) : Nat → Nat → Int32 → Int32 → xH → Option (xH)
  | 0 => fun _ _ _ _ => none
  | n + 1 => fun x0 x3 x4 h =>
    if x4 < (0 : Int32) then
      kE110 h
    else
      (f_X9_inLimit x3 h).bind fun r1 =>
      if r1.1 = (0 : Int32) then
        kE110 r1.2
      else
        (gR r1.2 7 x0 4).bind fun v2 =>
        (gR r1.2 7 x0 3).bind fun v3 =>
        (aI r1.2 v3 x3).bind fun v4 =>
        (sI r1.2 v2 ((2 : Int32) * x4) v4).bind fun h5 =>
        (gR h5 7 x0 4).bind fun v6 =>
        (sI h5 v6 (((2 : Int32) * x4) + (1 : Int32)) x3).bind fun h7 =>
        (gR h7 7 x0 0).bind fun v8 =>
        (gR h7 7 x0 3).bind fun v9 =>
        (aI h7 v9 x3).bind fun v10 =>
        (vc h7 3 v8 (f_X3_taskOf v8 v10 h7)).bind fun r11 =>
        lt (x4 + (-1 : Int32)) fun v12 =>
        f_X7_trace_L51 kE110 n x0 r11.1 v12 r11.2
theorem y_X7_trace_L51 {g : xG} {h0 : xH} {cl : Bool} {kE110 : xH → Option (xH)} (hkE110 : ∀  (h : xH), Y g DX7_trace h0 cl iV (kE110  h) 110 [none, none, none, none, none] [] h) : ∀ (n : Nat) (x0 : Nat) (x3 : Int32) (x4 : Int32) (h : xH), Y g DX7_trace h0 cl iV (f_X7_trace_L51 kE110 n x0 x3 x4 h) 51 [some (.ref x0), none, none, some (.int x3), some (.int x4)] [] h := by
  intro n
  induction n with
  | zero => intro x0 x3 x4 h; exact Y.nothing
  | succ n ih =>
    intro x0 x3 x4 h
    unfold f_X7_trace_L51
    refine Y.op (pc' := 53) (fun _ => X.iload rfl dX7_trace_51) ?_
    refine Y.iflt 110 (by decide) dX7_trace_53 ?_ ?_
    · exact Y.fg (hkE110 h) trivial
    · refine Y.op (pc' := 57) (fun _ => X.iloadn rfl dX7_trace_56) ?_
      refine Y.callSi (As := [.int x3]) lk_X7_72 rfl cal_X9_inLimit sta_X9_inLimit (Nat.le_of_ble_eq_true rfl) rfl rfl (Nat.le_of_ble_eq_true rfl) dX7_trace_57 (fun _ e => m_X9_inLimit x3 h _ _ e) (fun r1 => ?_)
      refine Y.ifeq 110 (by decide) dX7_trace_60 ?_ ?_
      · exact Y.fg (hkE110 r1.2) trivial
      · refine Y.op (pc' := 64) (fun _ => X.aloadn rfl dX7_trace_63) ?_
        refine Y.getR fd_X7_28 rfl dX7_trace_64 (fun v2 => ?_)
        refine Y.op (pc' := 68) (fun _ => X.ic ki_2 dX7_trace_67) ?_
        refine Y.op (pc' := 70) (fun _ => X.iload rfl dX7_trace_68) ?_
        refine Y.op (pc' := 71) (fun _ => X.imul dX7_trace_70) ?_
        refine Y.op (pc' := 72) (fun _ => X.aloadn rfl dX7_trace_71) ?_
        refine Y.getR fd_X7_25 rfl dX7_trace_72 (fun v3 => ?_)
        refine Y.op (pc' := 76) (fun _ => X.iloadn rfl dX7_trace_75) ?_
        refine Y.aldI dX7_trace_76 (fun v4 => ?_)
        refine Y.astI dX7_trace_77 (fun h5 => ?_)
        refine Y.op (pc' := 79) (fun _ => X.aloadn rfl dX7_trace_78) ?_
        refine Y.getR fd_X7_28 rfl dX7_trace_79 (fun v6 => ?_)
        refine Y.op (pc' := 83) (fun _ => X.ic ki_2 dX7_trace_82) ?_
        refine Y.op (pc' := 85) (fun _ => X.iload rfl dX7_trace_83) ?_
        refine Y.op (pc' := 86) (fun _ => X.imul dX7_trace_85) ?_
        refine Y.op (pc' := 87) (fun _ => X.ic ki_1 dX7_trace_86) ?_
        refine Y.op (pc' := 88) (fun _ => X.iadd dX7_trace_87) ?_
        refine Y.op (pc' := 89) (fun _ => X.iloadn rfl dX7_trace_88) ?_
        refine Y.astI dX7_trace_89 (fun h7 => ?_)
        refine Y.op (pc' := 91) (fun _ => X.aloadn rfl dX7_trace_90) ?_
        refine Y.getR fd_X7_12 rfl dX7_trace_91 (fun v8 => ?_)
        refine Y.op (pc' := 95) (fun _ => X.aloadn rfl dX7_trace_94) ?_
        refine Y.getR fd_X7_25 rfl dX7_trace_95 (fun v9 => ?_)
        refine Y.op (pc' := 99) (fun _ => X.iloadn rfl dX7_trace_98) ?_
        refine Y.aldI dX7_trace_99 (fun v10 => ?_)
        refine Y.callVi (As := [.int v10]) lk_X7_82 rfl cal_X3_taskOf vir_X3_taskOf (Nat.le_of_ble_eq_true rfl) (Nat.le_of_ble_eq_true rfl) rfl rfl rfl (Nat.le_of_ble_eq_true rfl) dX7_trace_100 (fun _ e => m_X3_taskOf v8 v10 h7 _ _ e) (fun r11 => ?_)
        refine Y.op (pc' := 104) (loc' := [some (.ref x0), none, none, some (.int r11.1), some (.int x4)]) (fun _ => X.istoren (Nat.le_of_ble_eq_true rfl) rfl dX7_trace_103) ?_
        refine Y.iinc (i := 4) (loc' := fun v12 => [some (.ref x0), none, none, some (.int r11.1), some (.int v12)]) rfl (Nat.le_of_ble_eq_true rfl) ki_m1 (fun _ => rfl) dX7_trace_104 (fun v12 => ?_)
        refine Y.op (pc' := 51) (fun _ => X.goto 51 (by decide) dX7_trace_107) ?_
        exact ih x0 r11.1 v12 r11.2
def f_X7_trace_J37 (x0 : Nat) (x1 : Int32) (x2 : Int32) (h : xH) : Option (xH) :=
  (pI h 7 x0 5 ((2 : Int32) * x2)).bind fun h1 =>
  lt ((x2 - (1 : Int32))) fun v2 =>
  f_X7_trace_L51 (f_X7_trace_J110) 5000 x0 x1 v2 h1
theorem y_X7_trace_J37 {g : xG} {h0 : xH} {cl : Bool} (x0 : Nat) (x1 : Int32) (x2 : Int32) (h : xH) : Y g DX7_trace h0 cl iV (f_X7_trace_J37 x0 x1 x2 h) 37 [some (.ref x0), some (.int x1), some (.int x2), none, none] [] h := by
  unfold f_X7_trace_J37
  refine Y.op (pc' := 38) (fun _ => X.aloadn rfl dX7_trace_37) ?_
  refine Y.op (pc' := 39) (fun _ => X.ic ki_2 dX7_trace_38) ?_
  refine Y.op (pc' := 40) (fun _ => X.iloadn rfl dX7_trace_39) ?_
  refine Y.op (pc' := 41) (fun _ => X.imul dX7_trace_40) ?_
  refine Y.putI fd_X7_31 rfl dX7_trace_41 (fun h1 => ?_)
  refine Y.op (pc' := 45) (fun _ => X.iloadn rfl dX7_trace_44) ?_
  refine Y.op (pc' := 46) (loc' := [some (.ref x0), some (.int x1), some (.int x2), some (.int x1), none]) (fun _ => X.istoren (Nat.le_of_ble_eq_true rfl) rfl dX7_trace_45) ?_
  refine Y.op (pc' := 47) (fun _ => X.iloadn rfl dX7_trace_46) ?_
  refine Y.op (pc' := 48) (fun _ => X.ic ki_1 dX7_trace_47) ?_
  refine Y.op (pc' := 49) (fun _ => X.isub dX7_trace_48) ?_
  refine Y.top (fun v2 => ?_)
  refine Y.op (pc' := 51) (loc' := [some (.ref x0), some (.int x1), some (.int x2), some (.int x1), some (.int v2)]) (fun _ => X.istore (Nat.le_of_ble_eq_true rfl) rfl dX7_trace_49) ?_
  exact Y.fg (y_X7_trace_L51 (y_X7_trace_J110) 5000 x0 x1 v2 h1) (And.intro rfl (And.intro rfl (And.intro rfl trivial)))
def f_X7_trace_L4 (kE37 : Nat → Int32 → Int32 → xH → Option (xH)) : Nat → Nat → Int32 → Int32 → Int32 → xH → Option (xH)
  | 0 => fun _ _ _ _ _ => none
  | n + 1 => fun x0 x1 x2 x3 h =>
    (f_X9_inLimit x3 h).bind fun r1 =>
    if r1.1 = (0 : Int32) then
      kE37 x0 x1 x2 r1.2
    else
      if x2 ≥ (12 : Int32) then
        kE37 x0 x1 x2 r1.2
      else
        lt (x2 + (1 : Int32)) fun v2 =>
        (gR r1.2 7 x0 0).bind fun v3 =>
        (gR r1.2 7 x0 3).bind fun v4 =>
        (aI r1.2 v4 x3).bind fun v5 =>
        (vc r1.2 3 v3 (f_X3_taskOf v3 v5 r1.2)).bind fun r6 =>
        f_X7_trace_L4 kE37 n x0 x1 v2 r6.1 r6.2
theorem y_X7_trace_L4 {g : xG} {h0 : xH} {cl : Bool} {kE37 : Nat → Int32 → Int32 → xH → Option (xH)} (hkE37 : ∀ (x0 : Nat) (x1 : Int32) (x2 : Int32) (h : xH), Y g DX7_trace h0 cl iV (kE37 x0 x1 x2 h) 37 [some (.ref x0), some (.int x1), some (.int x2), none, none] [] h) : ∀ (n : Nat) (x0 : Nat) (x1 : Int32) (x2 : Int32) (x3 : Int32) (h : xH), Y g DX7_trace h0 cl iV (f_X7_trace_L4 kE37 n x0 x1 x2 x3 h) 4 [some (.ref x0), some (.int x1), some (.int x2), some (.int x3), none] [] h := by
  intro n
  induction n with
  | zero => intro x0 x1 x2 x3 h; exact Y.nothing
  | succ n ih =>
    intro x0 x1 x2 x3 h
    unfold f_X7_trace_L4
    refine Y.op (pc' := 5) (fun _ => X.iloadn rfl dX7_trace_4) ?_
    refine Y.callSi (As := [.int x3]) lk_X7_72 rfl cal_X9_inLimit sta_X9_inLimit (Nat.le_of_ble_eq_true rfl) rfl rfl (Nat.le_of_ble_eq_true rfl) dX7_trace_5 (fun _ e => m_X9_inLimit x3 h _ _ e) (fun r1 => ?_)
    refine Y.ifeq 37 (by decide) dX7_trace_8 ?_ ?_
    · exact Y.fg (hkE37 x0 x1 x2 r1.2) (And.intro rfl (And.intro rfl (And.intro rfl trivial)))
    · refine Y.op (pc' := 12) (fun _ => X.iloadn rfl dX7_trace_11) ?_
      refine Y.op (pc' := 14) (fun _ => X.bp kb_12 dX7_trace_12) ?_
      refine Y.cmpge 37 (by decide) dX7_trace_14 ?_ ?_
      · exact Y.fg (hkE37 x0 x1 x2 r1.2) (And.intro rfl (And.intro rfl (And.intro rfl trivial)))
      · refine Y.iinc (i := 2) (loc' := fun v2 => [some (.ref x0), some (.int x1), some (.int v2), some (.int x3), none]) rfl (Nat.le_of_ble_eq_true rfl) ki_1 (fun _ => rfl) dX7_trace_17 (fun v2 => ?_)
        refine Y.op (pc' := 21) (fun _ => X.aloadn rfl dX7_trace_20) ?_
        refine Y.getR fd_X7_12 rfl dX7_trace_21 (fun v3 => ?_)
        refine Y.op (pc' := 25) (fun _ => X.aloadn rfl dX7_trace_24) ?_
        refine Y.getR fd_X7_25 rfl dX7_trace_25 (fun v4 => ?_)
        refine Y.op (pc' := 29) (fun _ => X.iloadn rfl dX7_trace_28) ?_
        refine Y.aldI dX7_trace_29 (fun v5 => ?_)
        refine Y.callVi (As := [.int v5]) lk_X7_82 rfl cal_X3_taskOf vir_X3_taskOf (Nat.le_of_ble_eq_true rfl) (Nat.le_of_ble_eq_true rfl) rfl rfl rfl (Nat.le_of_ble_eq_true rfl) dX7_trace_30 (fun _ e => m_X3_taskOf v3 v5 r1.2 _ _ e) (fun r6 => ?_)
        refine Y.op (pc' := 34) (loc' := [some (.ref x0), some (.int x1), some (.int v2), some (.int r6.1), none]) (fun _ => X.istoren (Nat.le_of_ble_eq_true rfl) rfl dX7_trace_33) ?_
        refine Y.op (pc' := 4) (fun _ => X.goto 4 (by decide) dX7_trace_34) ?_
        exact ih x0 x1 v2 r6.1 r6.2
def f_X7_trace (a0 : Nat) (p1 : Int32) (h : xH) : Option (xH) :=
  f_X7_trace_L4 (f_X7_trace_J37) 5000 a0 p1 (0 : Int32) p1 h
theorem y_X7_trace {g : xG} {h0 : xH} {cl : Bool} (a0 : Nat) (p1 : Int32) (h : xH) : Y g DX7_trace h0 cl iV (f_X7_trace a0 p1 h) 0 [some (.ref a0), some (.int p1), none, none, none] [] h := by
  unfold f_X7_trace
  refine Y.op (pc' := 1) (fun _ => X.ic ki_0 dX7_trace_0) ?_
  refine Y.op (pc' := 2) (loc' := [some (.ref a0), some (.int p1), some (.int (0 : Int32)), none, none]) (fun _ => X.istoren (Nat.le_of_ble_eq_true rfl) rfl dX7_trace_1) ?_
  refine Y.op (pc' := 3) (fun _ => X.iloadn rfl dX7_trace_2) ?_
  refine Y.op (pc' := 4) (loc' := [some (.ref a0), some (.int p1), some (.int (0 : Int32)), some (.int p1), none]) (fun _ => X.istoren (Nat.le_of_ble_eq_true rfl) rfl dX7_trace_3) ?_
  exact y_X7_trace_L4 (y_X7_trace_J37) 5000 a0 p1 (0 : Int32) p1 h
theorem m_X7_trace {g : xG} (a0 : Nat) (p1 : Int32) (h : xH) (cl : Bool) (r : xH) (e : f_X7_trace a0 p1 h = some r) : XM g DX7_trace [.ref a0, .int p1] h cl (iV r) := YM.of rfl rfl (Nat.le_of_ble_eq_true rfl) (y_X7_trace a0 p1 h) e
def f_X7_find_J184 (h : xH) : Option (Int32 × xH) :=
  some ((0 : Int32), h)
theorem y_X7_find_J184 {g : xG} {h0 : xH} {cl : Bool} (h : xH) : Y g DX7_find h0 cl iI (f_X7_find_J184 h) 184 [none, none, none, none, none, none, none, none, none] [] h := by
  unfold f_X7_find_J184
  refine Y.op (pc' := 185) (fun _ => X.ic ki_0 dX7_find_184) ?_
  exact Y.ireturn rfl dX7_find_185
def f_X7_find_J144 (x0 : Nat) (x7 : Int32) (h : xH) : Option (Int32 × xH) :=
  (vc h 7 x0 (f_X7_trace x0 x7 h)).bind fun h1 =>
  (gI h1 7 x0 5).bind fun v2 =>
  some (v2, h1)
theorem y_X7_find_J144 {g : xG} {h0 : xH} {cl : Bool} (x0 : Nat) (x7 : Int32) (h : xH) : Y g DX7_find h0 cl iI (f_X7_find_J144 x0 x7 h) 144 [some (.ref x0), none, none, none, none, none, none, some (.int x7), none] [] h := by
  unfold f_X7_find_J144
  refine Y.op (pc' := 145) (fun _ => X.aloadn rfl dX7_find_144) ?_
  refine Y.op (pc' := 147) (fun _ => X.iload rfl dX7_find_145) ?_
  refine Y.callVv (As := [.int x7]) lk_X7_105 rfl cal_X7_trace vir_X7_trace (Nat.le_of_ble_eq_true rfl) (Nat.le_of_ble_eq_true rfl) rfl rfl rfl (Nat.le_of_ble_eq_true rfl) dX7_find_147 (fun _ e => m_X7_trace x0 x7 h _ _ e) (fun h1 => ?_)
  refine Y.op (pc' := 151) (fun _ => X.aloadn rfl dX7_find_150) ?_
  refine Y.getI fd_X7_31 rfl dX7_find_151 (fun v2 => ?_)
  exact Y.ireturn rfl dX7_find_154
def f_X7_find_J178 (kH : Nat → Int32 → Int32 → Int32 → xH → Option (Int32 × xH)) (kE144 : Nat → Int32 → xH → Option (Int32 × xH)) (kE184 : xH → Option (Int32 × xH)) (x0 : Nat) (x2 : Int32) (x3 : Int32) (x4 : Int32) (h : xH) : Option (Int32 × xH) :=
  lt (x4 + (1 : Int32)) fun v1 =>
  kH x0 x2 x3 v1 h
theorem y_X7_find_J178 {g : xG} {h0 : xH} {cl : Bool} {kH : Nat → Int32 → Int32 → Int32 → xH → Option (Int32 × xH)} {kE144 : Nat → Int32 → xH → Option (Int32 × xH)} {kE184 : xH → Option (Int32 × xH)} (hkH : ∀ (x0 : Nat) (x2 : Int32) (x3 : Int32) (x4 : Int32) (h : xH), Y g DX7_find h0 cl iI (kH x0 x2 x3 x4 h) 51 [some (.ref x0), none, some (.int x2), some (.int x3), some (.int x4), none, none, none, none] [] h) (hkE144 : ∀ (x0 : Nat) (x7 : Int32) (h : xH), Y g DX7_find h0 cl iI (kE144 x0 x7 h) 144 [some (.ref x0), none, none, none, none, none, none, some (.int x7), none] [] h) (hkE184 : ∀  (h : xH), Y g DX7_find h0 cl iI (kE184  h) 184 [none, none, none, none, none, none, none, none, none] [] h) (x0 : Nat) (x2 : Int32) (x3 : Int32) (x4 : Int32) (h : xH) : Y g DX7_find h0 cl iI (f_X7_find_J178 kH kE144 kE184 x0 x2 x3 x4 h) 178 [some (.ref x0), none, some (.int x2), some (.int x3), some (.int x4), none, none, none, none] [] h := by
  unfold f_X7_find_J178
  refine Y.iinc (i := 4) (loc' := fun v1 => [some (.ref x0), none, some (.int x2), some (.int x3), some (.int v1), none, none, none, none]) rfl (Nat.le_of_ble_eq_true rfl) ki_1 (fun _ => rfl) dX7_find_178 (fun v1 => ?_)
  refine Y.op (pc' := 51) (fun _ => X.goto 51 (by decide) dX7_find_181) ?_
  exact hkH x0 x2 x3 v1 h
def f_X7_find_J172 (kH : Nat → Int32 → Int32 → Int32 → Int32 → Int32 → Int32 → xH → Option (Int32 × xH)) (kE144 : Nat → Int32 → xH → Option (Int32 × xH)) (kE178 : Nat → Int32 → Int32 → Int32 → xH → Option (Int32 × xH)) (x0 : Nat) (x2 : Int32) (x3 : Int32) (x4 : Int32) (x5 : Int32) (x6 : Int32) (x7 : Int32) (h : xH) : Option (Int32 × xH) :=
  lt (x7 + (1 : Int32)) fun v1 =>
  kH x0 x2 x3 x4 x5 x6 v1 h
theorem y_X7_find_J172 {g : xG} {h0 : xH} {cl : Bool} {kH : Nat → Int32 → Int32 → Int32 → Int32 → Int32 → Int32 → xH → Option (Int32 × xH)} {kE144 : Nat → Int32 → xH → Option (Int32 × xH)} {kE178 : Nat → Int32 → Int32 → Int32 → xH → Option (Int32 × xH)} (hkH : ∀ (x0 : Nat) (x2 : Int32) (x3 : Int32) (x4 : Int32) (x5 : Int32) (x6 : Int32) (x7 : Int32) (h : xH), Y g DX7_find h0 cl iI (kH x0 x2 x3 x4 x5 x6 x7 h) 88 [some (.ref x0), none, some (.int x2), some (.int x3), some (.int x4), some (.int x5), some (.int x6), some (.int x7), none] [] h) (hkE144 : ∀ (x0 : Nat) (x7 : Int32) (h : xH), Y g DX7_find h0 cl iI (kE144 x0 x7 h) 144 [some (.ref x0), none, none, none, none, none, none, some (.int x7), none] [] h) (hkE178 : ∀ (x0 : Nat) (x2 : Int32) (x3 : Int32) (x4 : Int32) (h : xH), Y g DX7_find h0 cl iI (kE178 x0 x2 x3 x4 h) 178 [some (.ref x0), none, some (.int x2), some (.int x3), some (.int x4), none, none, none, none] [] h) (x0 : Nat) (x2 : Int32) (x3 : Int32) (x4 : Int32) (x5 : Int32) (x6 : Int32) (x7 : Int32) (h : xH) : Y g DX7_find h0 cl iI (f_X7_find_J172 kH kE144 kE178 x0 x2 x3 x4 x5 x6 x7 h) 172 [some (.ref x0), none, some (.int x2), some (.int x3), some (.int x4), some (.int x5), some (.int x6), some (.int x7), none] [] h := by
  unfold f_X7_find_J172
  refine Y.iinc (i := 7) (loc' := fun v1 => [some (.ref x0), none, some (.int x2), some (.int x3), some (.int x4), some (.int x5), some (.int x6), some (.int v1), none]) rfl (Nat.le_of_ble_eq_true rfl) ki_1 (fun _ => rfl) dX7_find_172 (fun v1 => ?_)
  refine Y.op (pc' := 88) (fun _ => X.goto 88 (by decide) dX7_find_175) ?_
  exact hkH x0 x2 x3 x4 x5 x6 v1 h
def f_X7_find_L88 (kE144 : Nat → Int32 → xH → Option (Int32 × xH)) (kE178 : Nat → Int32 → Int32 → Int32 → xH → Option (Int32 × xH)) : Nat → Nat → Int32 → Int32 → Int32 → Int32 → Int32 → Int32 → xH → Option (Int32 × xH)
  | 0 => fun _ _ _ _ _ _ _ _ => none
  | n + 1 => fun x0 x2 x3 x4 x5 x6 x7 h =>
    if x7 ≥ (12 : Int32) then
      kE178 x0 x2 x3 x4 h
    else
      if x6 = (0 : Int32) then
        kE178 x0 x2 x3 x4 h
      else
        (f_X9_has x6 x7 h).bind fun r1 =>
        if r1.1 = (0 : Int32) then
          f_X7_find_J172 (f_X7_find_L88 kE144 kE178 n) kE144 kE178 x0 x2 x3 x4 x5 x6 x7 r1.2
        else
          (f_X9_bit x7 r1.2).bind fun r2 =>
          lt ((x2 ||| r2.1)) fun v3 =>
          (gR r2.2 7 x0 3).bind fun v4 =>
          (sI r2.2 v4 x7 x5).bind fun h5 =>
          (gR h5 7 x0 0).bind fun v6 =>
          (vc h5 3 v6 (f_X3_workerOf v6 x7 h5)).bind fun r7 =>
          if r7.1 = (-1 : Int32) then
            kE144 x0 x7 r7.2
          else
            if x3 ≥ (12 : Int32) then
              f_X7_find_J172 (f_X7_find_L88 kE144 kE178 n) kE144 kE178 x0 v3 x3 x4 x5 x6 x7 r7.2
            else
              (gR r7.2 7 x0 2).bind fun v8 =>
              (sI r7.2 v8 x3 r7.1).bind fun h9 =>
              lt (x3 + (1 : Int32)) fun v10 =>
              f_X7_find_J172 (f_X7_find_L88 kE144 kE178 n) kE144 kE178 x0 v3 v10 x4 x5 x6 x7 h9
theorem y_X7_find_L88 {g : xG} {h0 : xH} {cl : Bool} {kE144 : Nat → Int32 → xH → Option (Int32 × xH)} {kE178 : Nat → Int32 → Int32 → Int32 → xH → Option (Int32 × xH)} (hkE144 : ∀ (x0 : Nat) (x7 : Int32) (h : xH), Y g DX7_find h0 cl iI (kE144 x0 x7 h) 144 [some (.ref x0), none, none, none, none, none, none, some (.int x7), none] [] h) (hkE178 : ∀ (x0 : Nat) (x2 : Int32) (x3 : Int32) (x4 : Int32) (h : xH), Y g DX7_find h0 cl iI (kE178 x0 x2 x3 x4 h) 178 [some (.ref x0), none, some (.int x2), some (.int x3), some (.int x4), none, none, none, none] [] h) : ∀ (n : Nat) (x0 : Nat) (x2 : Int32) (x3 : Int32) (x4 : Int32) (x5 : Int32) (x6 : Int32) (x7 : Int32) (h : xH), Y g DX7_find h0 cl iI (f_X7_find_L88 kE144 kE178 n x0 x2 x3 x4 x5 x6 x7 h) 88 [some (.ref x0), none, some (.int x2), some (.int x3), some (.int x4), some (.int x5), some (.int x6), some (.int x7), none] [] h := by
  intro n
  induction n with
  | zero => intro x0 x2 x3 x4 x5 x6 x7 h; exact Y.nothing
  | succ n ih =>
    intro x0 x2 x3 x4 x5 x6 x7 h
    unfold f_X7_find_L88
    refine Y.op (pc' := 90) (fun _ => X.iload rfl dX7_find_88) ?_
    refine Y.op (pc' := 92) (fun _ => X.bp kb_12 dX7_find_90) ?_
    refine Y.cmpge 178 (by decide) dX7_find_92 ?_ ?_
    · exact Y.fg (hkE178 x0 x2 x3 x4 h) (And.intro rfl (And.intro rfl (And.intro rfl (And.intro rfl trivial))))
    · refine Y.op (pc' := 97) (fun _ => X.iload rfl dX7_find_95) ?_
      refine Y.ifeq 178 (by decide) dX7_find_97 ?_ ?_
      · exact Y.fg (hkE178 x0 x2 x3 x4 h) (And.intro rfl (And.intro rfl (And.intro rfl (And.intro rfl trivial))))
      · refine Y.op (pc' := 102) (fun _ => X.iload rfl dX7_find_100) ?_
        refine Y.op (pc' := 104) (fun _ => X.iload rfl dX7_find_102) ?_
        refine Y.callSi (As := [.int x6, .int x7]) lk_X7_59 rfl cal_X9_has sta_X9_has (Nat.le_of_ble_eq_true rfl) rfl rfl (Nat.le_of_ble_eq_true rfl) dX7_find_104 (fun _ e => m_X9_has x6 x7 h _ _ e) (fun r1 => ?_)
        refine Y.ifeq 172 (by decide) dX7_find_107 ?_ ?_
        · exact y_X7_find_J172 ih hkE144 hkE178 x0 x2 x3 x4 x5 x6 x7 r1.2
        · refine Y.op (pc' := 111) (fun _ => X.iloadn rfl dX7_find_110) ?_
          refine Y.op (pc' := 113) (fun _ => X.iload rfl dX7_find_111) ?_
          refine Y.callSi (As := [.int x7]) lk_X7_79 rfl cal_X9_bit sta_X9_bit (Nat.le_of_ble_eq_true rfl) rfl rfl (Nat.le_of_ble_eq_true rfl) dX7_find_113 (fun _ e => m_X9_bit x7 r1.2 _ _ e) (fun r2 => ?_)
          refine Y.op (pc' := 117) (fun _ => X.ior dX7_find_116) ?_
          refine Y.top (fun v3 => ?_)
          refine Y.op (pc' := 118) (loc' := [some (.ref x0), none, some (.int v3), some (.int x3), some (.int x4), some (.int x5), some (.int x6), some (.int x7), none]) (fun _ => X.istoren (Nat.le_of_ble_eq_true rfl) rfl dX7_find_117) ?_
          refine Y.op (pc' := 119) (fun _ => X.aloadn rfl dX7_find_118) ?_
          refine Y.getR fd_X7_25 rfl dX7_find_119 (fun v4 => ?_)
          refine Y.op (pc' := 124) (fun _ => X.iload rfl dX7_find_122) ?_
          refine Y.op (pc' := 126) (fun _ => X.iload rfl dX7_find_124) ?_
          refine Y.astI dX7_find_126 (fun h5 => ?_)
          refine Y.op (pc' := 128) (fun _ => X.aloadn rfl dX7_find_127) ?_
          refine Y.getR fd_X7_12 rfl dX7_find_128 (fun v6 => ?_)
          refine Y.op (pc' := 133) (fun _ => X.iload rfl dX7_find_131) ?_
          refine Y.callVi (As := [.int x7]) lk_X7_102 rfl cal_X3_workerOf vir_X3_workerOf (Nat.le_of_ble_eq_true rfl) (Nat.le_of_ble_eq_true rfl) rfl rfl rfl (Nat.le_of_ble_eq_true rfl) dX7_find_133 (fun _ e => m_X3_workerOf v6 x7 h5 _ _ e) (fun r7 => ?_)
          refine Y.op (pc' := 138) (loc' := [some (.ref x0), none, some (.int v3), some (.int x3), some (.int x4), some (.int x5), some (.int x6), some (.int x7), some (.int r7.1)]) (fun _ => X.istore (Nat.le_of_ble_eq_true rfl) rfl dX7_find_136) ?_
          refine Y.op (pc' := 140) (fun _ => X.iload rfl dX7_find_138) ?_
          refine Y.op (pc' := 141) (fun _ => X.ic ki_m1 dX7_find_140) ?_
          refine Y.cmpne 155 (by decide) dX7_find_141 ?_ ?_
          · refine Y.op (pc' := 156) (fun _ => X.iloadn rfl dX7_find_155) ?_
            refine Y.op (pc' := 158) (fun _ => X.bp kb_12 dX7_find_156) ?_
            refine Y.cmpge 172 (by decide) dX7_find_158 ?_ ?_
            · exact Y.fg (y_X7_find_J172 ih hkE144 hkE178 x0 v3 x3 x4 x5 x6 x7 r7.2) (And.intro rfl (And.intro rfl (And.intro rfl (And.intro rfl (And.intro rfl (And.intro rfl (And.intro rfl trivial)))))))
            · refine Y.op (pc' := 162) (fun _ => X.aloadn rfl dX7_find_161) ?_
              refine Y.getR fd_X7_22 rfl dX7_find_162 (fun v8 => ?_)
              refine Y.op (pc' := 166) (fun _ => X.iloadn rfl dX7_find_165) ?_
              refine Y.op (pc' := 168) (fun _ => X.iload rfl dX7_find_166) ?_
              refine Y.astI dX7_find_168 (fun h9 => ?_)
              refine Y.iinc (i := 3) (loc' := fun v10 => [some (.ref x0), none, some (.int v3), some (.int v10), some (.int x4), some (.int x5), some (.int x6), some (.int x7), some (.int r7.1)]) rfl (Nat.le_of_ble_eq_true rfl) ki_1 (fun _ => rfl) dX7_find_169 (fun v10 => ?_)
              exact Y.fg (y_X7_find_J172 ih hkE144 hkE178 x0 v3 v10 x4 x5 x6 x7 h9) (And.intro rfl (And.intro rfl (And.intro rfl (And.intro rfl (And.intro rfl (And.intro rfl (And.intro rfl trivial)))))))
          · exact Y.fg (hkE144 x0 x7 r7.2) (And.intro rfl (And.intro rfl trivial))
def f_X7_find_L51 (kE144 : Nat → Int32 → xH → Option (Int32 × xH)) (kE184 : xH → Option (Int32 × xH)) : Nat → Nat → Int32 → Int32 → Int32 → xH → Option (Int32 × xH)
  | 0 => fun _ _ _ _ _ => none
  | n + 1 => fun x0 x2 x3 x4 h =>
    if x4 ≥ x3 then
      kE184 h
    else
      if x4 ≥ (12 : Int32) then
        kE184 h
      else
        (gR h 7 x0 2).bind fun v1 =>
        (aI h v1 x4).bind fun v2 =>
        (vc h 7 x0 (f_X7_row x0 v2 h)).bind fun r3 =>
        lt ((r3.1 &&& (x2 ^^^ (-1 : Int32)))) fun v4 =>
        f_X7_find_L88 (kE144) (f_X7_find_J178 (f_X7_find_L51 kE144 kE184 n) kE144 kE184) 5000 x0 x2 x3 x4 v2 v4 (0 : Int32) r3.2
theorem y_X7_find_L51 {g : xG} {h0 : xH} {cl : Bool} {kE144 : Nat → Int32 → xH → Option (Int32 × xH)} {kE184 : xH → Option (Int32 × xH)} (hkE144 : ∀ (x0 : Nat) (x7 : Int32) (h : xH), Y g DX7_find h0 cl iI (kE144 x0 x7 h) 144 [some (.ref x0), none, none, none, none, none, none, some (.int x7), none] [] h) (hkE184 : ∀  (h : xH), Y g DX7_find h0 cl iI (kE184  h) 184 [none, none, none, none, none, none, none, none, none] [] h) : ∀ (n : Nat) (x0 : Nat) (x2 : Int32) (x3 : Int32) (x4 : Int32) (h : xH), Y g DX7_find h0 cl iI (f_X7_find_L51 kE144 kE184 n x0 x2 x3 x4 h) 51 [some (.ref x0), none, some (.int x2), some (.int x3), some (.int x4), none, none, none, none] [] h := by
  intro n
  induction n with
  | zero => intro x0 x2 x3 x4 h; exact Y.nothing
  | succ n ih =>
    intro x0 x2 x3 x4 h
    unfold f_X7_find_L51
    refine Y.op (pc' := 53) (fun _ => X.iload rfl dX7_find_51) ?_
    refine Y.op (pc' := 54) (fun _ => X.iloadn rfl dX7_find_53) ?_
    refine Y.cmpge 184 (by decide) dX7_find_54 ?_ ?_
    · exact Y.fg (hkE184 h) trivial
    · refine Y.op (pc' := 59) (fun _ => X.iload rfl dX7_find_57) ?_
      refine Y.op (pc' := 61) (fun _ => X.bp kb_12 dX7_find_59) ?_
      refine Y.cmpge 184 (by decide) dX7_find_61 ?_ ?_
      · exact Y.fg (hkE184 h) trivial
      · refine Y.op (pc' := 65) (fun _ => X.aloadn rfl dX7_find_64) ?_
        refine Y.getR fd_X7_22 rfl dX7_find_65 (fun v1 => ?_)
        refine Y.op (pc' := 70) (fun _ => X.iload rfl dX7_find_68) ?_
        refine Y.aldI dX7_find_70 (fun v2 => ?_)
        refine Y.op (pc' := 73) (loc' := [some (.ref x0), none, some (.int x2), some (.int x3), some (.int x4), some (.int v2), none, none, none]) (fun _ => X.istore (Nat.le_of_ble_eq_true rfl) rfl dX7_find_71) ?_
        refine Y.op (pc' := 74) (fun _ => X.aloadn rfl dX7_find_73) ?_
        refine Y.op (pc' := 76) (fun _ => X.iload rfl dX7_find_74) ?_
        refine Y.callVi (As := [.int v2]) lk_X7_76 rfl cal_X7_row vir_X7_row (Nat.le_of_ble_eq_true rfl) (Nat.le_of_ble_eq_true rfl) rfl rfl rfl (Nat.le_of_ble_eq_true rfl) dX7_find_76 (fun _ e => m_X7_row x0 v2 h _ _ e) (fun r3 => ?_)
        refine Y.op (pc' := 80) (fun _ => X.iloadn rfl dX7_find_79) ?_
        refine Y.op (pc' := 81) (fun _ => X.ic ki_m1 dX7_find_80) ?_
        refine Y.op (pc' := 82) (fun _ => X.ixor dX7_find_81) ?_
        refine Y.op (pc' := 83) (fun _ => X.iand dX7_find_82) ?_
        refine Y.top (fun v4 => ?_)
        refine Y.op (pc' := 85) (loc' := [some (.ref x0), none, some (.int x2), some (.int x3), some (.int x4), some (.int v2), some (.int v4), none, none]) (fun _ => X.istore (Nat.le_of_ble_eq_true rfl) rfl dX7_find_83) ?_
        refine Y.op (pc' := 86) (fun _ => X.ic ki_0 dX7_find_85) ?_
        refine Y.op (pc' := 88) (loc' := [some (.ref x0), none, some (.int x2), some (.int x3), some (.int x4), some (.int v2), some (.int v4), some (.int (0 : Int32)), none]) (fun _ => X.istore (Nat.le_of_ble_eq_true rfl) rfl dX7_find_86) ?_
        exact y_X7_find_L88 (hkE144) (y_X7_find_J178 ih hkE144 hkE184) 5000 x0 x2 x3 x4 v2 v4 (0 : Int32) r3.2
def f_X7_find_J35 (h : xH) : Option (Int32 × xH) :=
  some ((0 : Int32), h)
theorem y_X7_find_J35 {g : xG} {h0 : xH} {cl : Bool} (h : xH) : Y g DX7_find h0 cl iI (f_X7_find_J35 h) 35 [none, none, none, none, none, none, none, none, none] [] h := by
  unfold f_X7_find_J35
  refine Y.op (pc' := 36) (fun _ => X.ic ki_0 dX7_find_35) ?_
  exact Y.ireturn rfl dX7_find_36
def f_X7_find (a0 : Nat) (p1 : Int32) (h : xH) : Option (Int32 × xH) :=
  (pI h 7 a0 5 (0 : Int32)).bind fun h1 =>
  (f_X9_inLimit p1 h1).bind fun r2 =>
  if r2.1 = (0 : Int32) then
    f_X7_find_J35 r2.2
  else
    (gI r2.2 7 a0 8).bind fun v3 =>
    (f_X9_has v3 p1 r2.2).bind fun r4 =>
    if r4.1 = (0 : Int32) then
      f_X7_find_J35 r4.2
    else
      (gR r4.2 7 a0 0).bind fun v5 =>
      (vc r4.2 3 v5 (f_X3_taskOf v5 p1 r4.2)).bind fun r6 =>
      if r6.1 = (-1 : Int32) then
        (gR r6.2 7 a0 2).bind fun v7 =>
        (sI r6.2 v7 (0 : Int32) p1).bind fun h8 =>
        f_X7_find_L51 (f_X7_find_J144) (f_X7_find_J184) 5000 a0 (0 : Int32) (1 : Int32) (0 : Int32) h8
      else
        f_X7_find_J35 r6.2
theorem y_X7_find {g : xG} {h0 : xH} {cl : Bool} (a0 : Nat) (p1 : Int32) (h : xH) : Y g DX7_find h0 cl iI (f_X7_find a0 p1 h) 0 [some (.ref a0), some (.int p1), none, none, none, none, none, none, none] [] h := by
  unfold f_X7_find
  refine Y.op (pc' := 1) (fun _ => X.aloadn rfl dX7_find_0) ?_
  refine Y.op (pc' := 2) (fun _ => X.ic ki_0 dX7_find_1) ?_
  refine Y.putI fd_X7_31 rfl dX7_find_2 (fun h1 => ?_)
  refine Y.op (pc' := 6) (fun _ => X.iloadn rfl dX7_find_5) ?_
  refine Y.callSi (As := [.int p1]) lk_X7_72 rfl cal_X9_inLimit sta_X9_inLimit (Nat.le_of_ble_eq_true rfl) rfl rfl (Nat.le_of_ble_eq_true rfl) dX7_find_6 (fun _ e => m_X9_inLimit p1 h1 _ _ e) (fun r2 => ?_)
  refine Y.ifeq 35 (by decide) dX7_find_9 ?_ ?_
  · exact Y.fg (y_X7_find_J35 r2.2) trivial
  · refine Y.op (pc' := 13) (fun _ => X.aloadn rfl dX7_find_12) ?_
    refine Y.getI fd_X7_41 rfl dX7_find_13 (fun v3 => ?_)
    refine Y.op (pc' := 17) (fun _ => X.iloadn rfl dX7_find_16) ?_
    refine Y.callSi (As := [.int v3, .int p1]) lk_X7_59 rfl cal_X9_has sta_X9_has (Nat.le_of_ble_eq_true rfl) rfl rfl (Nat.le_of_ble_eq_true rfl) dX7_find_17 (fun _ e => m_X9_has v3 p1 r2.2 _ _ e) (fun r4 => ?_)
    refine Y.ifeq 35 (by decide) dX7_find_20 ?_ ?_
    · exact Y.fg (y_X7_find_J35 r4.2) trivial
    · refine Y.op (pc' := 24) (fun _ => X.aloadn rfl dX7_find_23) ?_
      refine Y.getR fd_X7_12 rfl dX7_find_24 (fun v5 => ?_)
      refine Y.op (pc' := 28) (fun _ => X.iloadn rfl dX7_find_27) ?_
      refine Y.callVi (As := [.int p1]) lk_X7_82 rfl cal_X3_taskOf vir_X3_taskOf (Nat.le_of_ble_eq_true rfl) (Nat.le_of_ble_eq_true rfl) rfl rfl rfl (Nat.le_of_ble_eq_true rfl) dX7_find_28 (fun _ e => m_X3_taskOf v5 p1 r4.2 _ _ e) (fun r6 => ?_)
      refine Y.op (pc' := 32) (fun _ => X.ic ki_m1 dX7_find_31) ?_
      refine Y.cmpeq 37 (by decide) dX7_find_32 ?_ ?_
      · refine Y.op (pc' := 38) (fun _ => X.ic ki_0 dX7_find_37) ?_
        refine Y.op (pc' := 39) (loc' := [some (.ref a0), some (.int p1), some (.int (0 : Int32)), none, none, none, none, none, none]) (fun _ => X.istoren (Nat.le_of_ble_eq_true rfl) rfl dX7_find_38) ?_
        refine Y.op (pc' := 40) (fun _ => X.ic ki_1 dX7_find_39) ?_
        refine Y.op (pc' := 41) (loc' := [some (.ref a0), some (.int p1), some (.int (0 : Int32)), some (.int (1 : Int32)), none, none, none, none, none]) (fun _ => X.istoren (Nat.le_of_ble_eq_true rfl) rfl dX7_find_40) ?_
        refine Y.op (pc' := 42) (fun _ => X.aloadn rfl dX7_find_41) ?_
        refine Y.getR fd_X7_22 rfl dX7_find_42 (fun v7 => ?_)
        refine Y.op (pc' := 46) (fun _ => X.ic ki_0 dX7_find_45) ?_
        refine Y.op (pc' := 47) (fun _ => X.iloadn rfl dX7_find_46) ?_
        refine Y.astI dX7_find_47 (fun h8 => ?_)
        refine Y.op (pc' := 49) (fun _ => X.ic ki_0 dX7_find_48) ?_
        refine Y.op (pc' := 51) (loc' := [some (.ref a0), some (.int p1), some (.int (0 : Int32)), some (.int (1 : Int32)), some (.int (0 : Int32)), none, none, none, none]) (fun _ => X.istore (Nat.le_of_ble_eq_true rfl) rfl dX7_find_49) ?_
        exact Y.fg (y_X7_find_L51 (y_X7_find_J144) (y_X7_find_J184) 5000 a0 (0 : Int32) (1 : Int32) (0 : Int32) h8) (And.intro rfl (And.intro rfl (And.intro rfl (And.intro rfl trivial))))
      · exact Y.fg (y_X7_find_J35 r6.2) trivial
theorem m_X7_find {g : xG} (a0 : Nat) (p1 : Int32) (h : xH) (cl : Bool) (r : Int32 × xH) (e : f_X7_find a0 p1 h = some r) : XM g DX7_find [.ref a0, .int p1] h cl (iI r) := YM.of rfl rfl (Nat.le_of_ble_eq_true rfl) (y_X7_find a0 p1 h) e
def f_X7_wayAtPlace_J28 (s0 : Int32) (h : xH) : Option (Int32 × xH) :=
  some (s0, h)
theorem y_X7_wayAtPlace_J28 {g : xG} {h0 : xH} {cl : Bool} (s0 : Int32) (h : xH) : Y g DX7_wayAtPlace h0 cl iI (f_X7_wayAtPlace_J28 s0 h) 28 [none, none] [.int s0] h := by
  unfold f_X7_wayAtPlace_J28
  exact Y.ireturn rfl dX7_wayAtPlace_28
def f_X7_wayAtPlace_J27 (h : xH) : Option (Int32 × xH) :=
  f_X7_wayAtPlace_J28 (-1 : Int32) h
theorem y_X7_wayAtPlace_J27 {g : xG} {h0 : xH} {cl : Bool} (h : xH) : Y g DX7_wayAtPlace h0 cl iI (f_X7_wayAtPlace_J27 h) 27 [none, none] [] h := by
  unfold f_X7_wayAtPlace_J27
  refine Y.op (pc' := 28) (fun _ => X.ic ki_m1 dX7_wayAtPlace_27) ?_
  exact y_X7_wayAtPlace_J28 (-1 : Int32) h
def f_X7_wayAtPlace (a0 : Nat) (p1 : Int32) (h : xH) : Option (Int32 × xH) :=
  if p1 < (0 : Int32) then
    f_X7_wayAtPlace_J27 h
  else
    (gI h 7 a0 5).bind fun v1 =>
    if p1 ≥ v1 then
      f_X7_wayAtPlace_J27 h
    else
      if p1 ≥ (24 : Int32) then
        f_X7_wayAtPlace_J27 h
      else
        (gR h 7 a0 4).bind fun v2 =>
        (aI h v2 p1).bind fun v3 =>
        f_X7_wayAtPlace_J28 v3 h
theorem y_X7_wayAtPlace {g : xG} {h0 : xH} {cl : Bool} (a0 : Nat) (p1 : Int32) (h : xH) : Y g DX7_wayAtPlace h0 cl iI (f_X7_wayAtPlace a0 p1 h) 0 [some (.ref a0), some (.int p1)] [] h := by
  unfold f_X7_wayAtPlace
  refine Y.op (pc' := 1) (fun _ => X.iloadn rfl dX7_wayAtPlace_0) ?_
  refine Y.iflt 27 (by decide) dX7_wayAtPlace_1 ?_ ?_
  · exact Y.fg (y_X7_wayAtPlace_J27 h) trivial
  · refine Y.op (pc' := 5) (fun _ => X.iloadn rfl dX7_wayAtPlace_4) ?_
    refine Y.op (pc' := 6) (fun _ => X.aloadn rfl dX7_wayAtPlace_5) ?_
    refine Y.getI fd_X7_31 rfl dX7_wayAtPlace_6 (fun v1 => ?_)
    refine Y.cmpge 27 (by decide) dX7_wayAtPlace_9 ?_ ?_
    · exact Y.fg (y_X7_wayAtPlace_J27 h) trivial
    · refine Y.op (pc' := 13) (fun _ => X.iloadn rfl dX7_wayAtPlace_12) ?_
      refine Y.op (pc' := 15) (fun _ => X.bp kb_24 dX7_wayAtPlace_13) ?_
      refine Y.cmpge 27 (by decide) dX7_wayAtPlace_15 ?_ ?_
      · exact Y.fg (y_X7_wayAtPlace_J27 h) trivial
      · refine Y.op (pc' := 19) (fun _ => X.aloadn rfl dX7_wayAtPlace_18) ?_
        refine Y.getR fd_X7_28 rfl dX7_wayAtPlace_19 (fun v2 => ?_)
        refine Y.op (pc' := 23) (fun _ => X.iloadn rfl dX7_wayAtPlace_22) ?_
        refine Y.aldI dX7_wayAtPlace_23 (fun v3 => ?_)
        refine Y.op (pc' := 28) (fun _ => X.goto 28 (by decide) dX7_wayAtPlace_24) ?_
        exact Y.fg (y_X7_wayAtPlace_J28 v3 h) trivial
theorem m_X7_wayAtPlace {g : xG} (a0 : Nat) (p1 : Int32) (h : xH) (cl : Bool) (r : Int32 × xH) (e : f_X7_wayAtPlace a0 p1 h = some r) : XM g DX7_wayAtPlace [.ref a0, .int p1] h cl (iI r) := YM.of rfl rfl (Nat.le_of_ble_eq_true rfl) (y_X7_wayAtPlace a0 p1 h) e
def f_X7_findFirst_J29 (h : xH) : Option (Int32 × xH) :=
  some ((0 : Int32), h)
theorem y_X7_findFirst_J29 {g : xG} {h0 : xH} {cl : Bool} (h : xH) : Y g DX7_findFirst h0 cl iI (f_X7_findFirst_J29 h) 29 [none, none] [] h := by
  unfold f_X7_findFirst_J29
  refine Y.op (pc' := 30) (fun _ => X.ic ki_0 dX7_findFirst_29) ?_
  exact Y.ireturn rfl dX7_findFirst_30
def f_X7_findFirst_J18 (x0 : Nat) (h : xH) : Option (Int32 × xH) :=
  (gI h 7 x0 5).bind fun v1 =>
  some (v1, h)
theorem y_X7_findFirst_J18 {g : xG} {h0 : xH} {cl : Bool} (x0 : Nat) (h : xH) : Y g DX7_findFirst h0 cl iI (f_X7_findFirst_J18 x0 h) 18 [some (.ref x0), none] [] h := by
  unfold f_X7_findFirst_J18
  refine Y.op (pc' := 19) (fun _ => X.aloadn rfl dX7_findFirst_18) ?_
  refine Y.getI fd_X7_31 rfl dX7_findFirst_19 (fun v1 => ?_)
  exact Y.ireturn rfl dX7_findFirst_22
def f_X7_findFirst_L2 (kE18 : Nat → xH → Option (Int32 × xH)) (kE29 : xH → Option (Int32 × xH)) : Nat → Nat → Int32 → xH → Option (Int32 × xH)
  | 0 => fun _ _ _ => none
  | n + 1 => fun x0 x1 h =>
    (gI h 7 x0 6).bind fun v1 =>
    if x1 ≥ v1 then
      kE29 h
    else
      (vc h 7 x0 (f_X7_find x0 x1 h)).bind fun r2 =>
      if r2.1 ≤ (0 : Int32) then
        lt (x1 + (1 : Int32)) fun v3 =>
        f_X7_findFirst_L2 kE18 kE29 n x0 v3 r2.2
      else
        kE18 x0 r2.2
theorem y_X7_findFirst_L2 {g : xG} {h0 : xH} {cl : Bool} {kE18 : Nat → xH → Option (Int32 × xH)} {kE29 : xH → Option (Int32 × xH)} (hkE18 : ∀ (x0 : Nat) (h : xH), Y g DX7_findFirst h0 cl iI (kE18 x0 h) 18 [some (.ref x0), none] [] h) (hkE29 : ∀  (h : xH), Y g DX7_findFirst h0 cl iI (kE29  h) 29 [none, none] [] h) : ∀ (n : Nat) (x0 : Nat) (x1 : Int32) (h : xH), Y g DX7_findFirst h0 cl iI (f_X7_findFirst_L2 kE18 kE29 n x0 x1 h) 2 [some (.ref x0), some (.int x1)] [] h := by
  intro n
  induction n with
  | zero => intro x0 x1 h; exact Y.nothing
  | succ n ih =>
    intro x0 x1 h
    unfold f_X7_findFirst_L2
    refine Y.op (pc' := 3) (fun _ => X.iloadn rfl dX7_findFirst_2) ?_
    refine Y.op (pc' := 4) (fun _ => X.aloadn rfl dX7_findFirst_3) ?_
    refine Y.getI fd_X7_35 rfl dX7_findFirst_4 (fun v1 => ?_)
    refine Y.cmpge 29 (by decide) dX7_findFirst_7 ?_ ?_
    · exact Y.fg (hkE29 h) trivial
    · refine Y.op (pc' := 11) (fun _ => X.aloadn rfl dX7_findFirst_10) ?_
      refine Y.op (pc' := 12) (fun _ => X.iloadn rfl dX7_findFirst_11) ?_
      refine Y.callVi (As := [.int x1]) lk_X7_108 rfl cal_X7_find vir_X7_find (Nat.le_of_ble_eq_true rfl) (Nat.le_of_ble_eq_true rfl) rfl rfl rfl (Nat.le_of_ble_eq_true rfl) dX7_findFirst_12 (fun _ e => m_X7_find x0 x1 h _ _ e) (fun r2 => ?_)
      refine Y.ifle 23 (by decide) dX7_findFirst_15 ?_ ?_
      · refine Y.iinc (i := 1) (loc' := fun v3 => [some (.ref x0), some (.int v3)]) rfl (Nat.le_of_ble_eq_true rfl) ki_1 (fun _ => rfl) dX7_findFirst_23 (fun v3 => ?_)
        refine Y.op (pc' := 2) (fun _ => X.goto 2 (by decide) dX7_findFirst_26) ?_
        exact ih x0 v3 r2.2
      · exact Y.fg (hkE18 x0 r2.2) (And.intro rfl trivial)
def f_X7_findFirst (a0 : Nat) (h : xH) : Option (Int32 × xH) :=
  f_X7_findFirst_L2 (f_X7_findFirst_J18) (f_X7_findFirst_J29) 5000 a0 (0 : Int32) h
theorem y_X7_findFirst {g : xG} {h0 : xH} {cl : Bool} (a0 : Nat) (h : xH) : Y g DX7_findFirst h0 cl iI (f_X7_findFirst a0 h) 0 [some (.ref a0), none] [] h := by
  unfold f_X7_findFirst
  refine Y.op (pc' := 1) (fun _ => X.ic ki_0 dX7_findFirst_0) ?_
  refine Y.op (pc' := 2) (loc' := [some (.ref a0), some (.int (0 : Int32))]) (fun _ => X.istoren (Nat.le_of_ble_eq_true rfl) rfl dX7_findFirst_1) ?_
  exact y_X7_findFirst_L2 (y_X7_findFirst_J18) (y_X7_findFirst_J29) 5000 a0 (0 : Int32) h
theorem m_X7_findFirst {g : xG} (a0 : Nat) (h : xH) (cl : Bool) (r : Int32 × xH) (e : f_X7_findFirst a0 h = some r) : XM g DX7_findFirst [.ref a0] h cl (iI r) := YM.of rfl rfl (Nat.le_of_ble_eq_true rfl) (y_X7_findFirst a0 h) e
def f_X7_follow_J37 (h : xH) : Option (xH) :=
  some h
theorem y_X7_follow_J37 {g : xG} {h0 : xH} {cl : Bool} (h : xH) : Y g DX7_follow h0 cl iV (f_X7_follow_J37 h) 37 [none, none] [] h := by
  unfold f_X7_follow_J37
  exact Y.vreturn rfl dX7_follow_37
def f_X7_follow_L2 (kE37 : xH → Option (xH)) : Nat → Nat → Int32 → xH → Option (xH)
  | 0 => fun _ _ _ => none
  | n + 1 => fun x0 x1 h =>
    (gI h 7 x0 5).bind fun v1 =>
    if (x1 + (1 : Int32)) ≥ v1 then
      kE37 h
    else
      (gR h 7 x0 0).bind fun v2 =>
      (vc h 7 x0 (f_X7_wayAtPlace x0 x1 h)).bind fun r3 =>
      (vc r3.2 7 x0 (f_X7_wayAtPlace x0 (x1 + (1 : Int32)) r3.2)).bind fun r4 =>
      (vc r4.2 3 v2 (f_X3_join v2 r3.1 r4.1 r4.2)).bind fun h5 =>
      lt (x1 + (2 : Int32)) fun v6 =>
      f_X7_follow_L2 kE37 n x0 v6 h5
theorem y_X7_follow_L2 {g : xG} {h0 : xH} {cl : Bool} {kE37 : xH → Option (xH)} (hkE37 : ∀  (h : xH), Y g DX7_follow h0 cl iV (kE37  h) 37 [none, none] [] h) : ∀ (n : Nat) (x0 : Nat) (x1 : Int32) (h : xH), Y g DX7_follow h0 cl iV (f_X7_follow_L2 kE37 n x0 x1 h) 2 [some (.ref x0), some (.int x1)] [] h := by
  intro n
  induction n with
  | zero => intro x0 x1 h; exact Y.nothing
  | succ n ih =>
    intro x0 x1 h
    unfold f_X7_follow_L2
    refine Y.op (pc' := 3) (fun _ => X.iloadn rfl dX7_follow_2) ?_
    refine Y.op (pc' := 4) (fun _ => X.ic ki_1 dX7_follow_3) ?_
    refine Y.op (pc' := 5) (fun _ => X.iadd dX7_follow_4) ?_
    refine Y.op (pc' := 6) (fun _ => X.aloadn rfl dX7_follow_5) ?_
    refine Y.getI fd_X7_31 rfl dX7_follow_6 (fun v1 => ?_)
    refine Y.cmpge 37 (by decide) dX7_follow_9 ?_ ?_
    · exact Y.fg (hkE37 h) trivial
    · refine Y.op (pc' := 13) (fun _ => X.aloadn rfl dX7_follow_12) ?_
      refine Y.getR fd_X7_12 rfl dX7_follow_13 (fun v2 => ?_)
      refine Y.op (pc' := 17) (fun _ => X.aloadn rfl dX7_follow_16) ?_
      refine Y.op (pc' := 18) (fun _ => X.iloadn rfl dX7_follow_17) ?_
      refine Y.callVi (As := [.int x1]) lk_X7_111 rfl cal_X7_wayAtPlace vir_X7_wayAtPlace (Nat.le_of_ble_eq_true rfl) (Nat.le_of_ble_eq_true rfl) rfl rfl rfl (Nat.le_of_ble_eq_true rfl) dX7_follow_18 (fun _ e => m_X7_wayAtPlace x0 x1 h _ _ e) (fun r3 => ?_)
      refine Y.op (pc' := 22) (fun _ => X.aloadn rfl dX7_follow_21) ?_
      refine Y.op (pc' := 23) (fun _ => X.iloadn rfl dX7_follow_22) ?_
      refine Y.op (pc' := 24) (fun _ => X.ic ki_1 dX7_follow_23) ?_
      refine Y.op (pc' := 25) (fun _ => X.iadd dX7_follow_24) ?_
      refine Y.callVi (As := [.int (x1 + (1 : Int32))]) lk_X7_111 rfl cal_X7_wayAtPlace vir_X7_wayAtPlace (Nat.le_of_ble_eq_true rfl) (Nat.le_of_ble_eq_true rfl) rfl rfl rfl (Nat.le_of_ble_eq_true rfl) dX7_follow_25 (fun _ e => m_X7_wayAtPlace x0 (x1 + (1 : Int32)) r3.2 _ _ e) (fun r4 => ?_)
      refine Y.callVv (As := [.int r3.1, .int r4.1]) lk_X7_114 rfl cal_X3_join vir_X3_join (Nat.le_of_ble_eq_true rfl) (Nat.le_of_ble_eq_true rfl) rfl rfl rfl (Nat.le_of_ble_eq_true rfl) dX7_follow_28 (fun _ e => m_X3_join v2 r3.1 r4.1 r4.2 _ _ e) (fun h5 => ?_)
      refine Y.iinc (i := 1) (loc' := fun v6 => [some (.ref x0), some (.int v6)]) rfl (Nat.le_of_ble_eq_true rfl) ki_2 (fun _ => rfl) dX7_follow_31 (fun v6 => ?_)
      refine Y.op (pc' := 2) (fun _ => X.goto 2 (by decide) dX7_follow_34) ?_
      exact ih x0 v6 h5
def f_X7_follow (a0 : Nat) (h : xH) : Option (xH) :=
  f_X7_follow_L2 (f_X7_follow_J37) 5000 a0 (0 : Int32) h
theorem y_X7_follow {g : xG} {h0 : xH} {cl : Bool} (a0 : Nat) (h : xH) : Y g DX7_follow h0 cl iV (f_X7_follow a0 h) 0 [some (.ref a0), none] [] h := by
  unfold f_X7_follow
  refine Y.op (pc' := 1) (fun _ => X.ic ki_0 dX7_follow_0) ?_
  refine Y.op (pc' := 2) (loc' := [some (.ref a0), some (.int (0 : Int32))]) (fun _ => X.istoren (Nat.le_of_ble_eq_true rfl) rfl dX7_follow_1) ?_
  exact y_X7_follow_L2 (y_X7_follow_J37) 5000 a0 (0 : Int32) h
theorem m_X7_follow {g : xG} (a0 : Nat) (h : xH) (cl : Bool) (r : xH) (e : f_X7_follow a0 h = some r) : XM g DX7_follow [.ref a0] h cl (iV r) := YM.of rfl rfl (Nat.le_of_ble_eq_true rfl) (y_X7_follow a0 h) e
def f_X7_grow_J38 (x2 : Int32) (h : xH) : Option (Int32 × xH) :=
  some (x2, h)
theorem y_X7_grow_J38 {g : xG} {h0 : xH} {cl : Bool} (x2 : Int32) (h : xH) : Y g DX7_grow h0 cl iI (f_X7_grow_J38 x2 h) 38 [none, none, some (.int x2), none] [] h := by
  unfold f_X7_grow_J38
  refine Y.op (pc' := 39) (fun _ => X.iloadn rfl dX7_grow_38) ?_
  exact Y.ireturn rfl dX7_grow_39
def f_X7_grow_J32 (kH : Nat → Int32 → Int32 → Int32 → xH → Option (Int32 × xH)) (kE38 : Int32 → xH → Option (Int32 × xH)) (x0 : Nat) (x1 : Int32) (x2 : Int32) (x3 : Int32) (h : xH) : Option (Int32 × xH) :=
  lt (x3 + (1 : Int32)) fun v1 =>
  kH x0 x1 x2 v1 h
theorem y_X7_grow_J32 {g : xG} {h0 : xH} {cl : Bool} {kH : Nat → Int32 → Int32 → Int32 → xH → Option (Int32 × xH)} {kE38 : Int32 → xH → Option (Int32 × xH)} (hkH : ∀ (x0 : Nat) (x1 : Int32) (x2 : Int32) (x3 : Int32) (h : xH), Y g DX7_grow h0 cl iI (kH x0 x1 x2 x3 h) 4 [some (.ref x0), some (.int x1), some (.int x2), some (.int x3)] [] h) (hkE38 : ∀ (x2 : Int32) (h : xH), Y g DX7_grow h0 cl iI (kE38 x2 h) 38 [none, none, some (.int x2), none] [] h) (x0 : Nat) (x1 : Int32) (x2 : Int32) (x3 : Int32) (h : xH) : Y g DX7_grow h0 cl iI (f_X7_grow_J32 kH kE38 x0 x1 x2 x3 h) 32 [some (.ref x0), some (.int x1), some (.int x2), some (.int x3)] [] h := by
  unfold f_X7_grow_J32
  refine Y.iinc (i := 3) (loc' := fun v1 => [some (.ref x0), some (.int x1), some (.int x2), some (.int v1)]) rfl (Nat.le_of_ble_eq_true rfl) ki_1 (fun _ => rfl) dX7_grow_32 (fun v1 => ?_)
  refine Y.op (pc' := 4) (fun _ => X.goto 4 (by decide) dX7_grow_35) ?_
  exact hkH x0 x1 x2 v1 h
def f_X7_grow_L4 (kE38 : Int32 → xH → Option (Int32 × xH)) : Nat → Nat → Int32 → Int32 → Int32 → xH → Option (Int32 × xH)
  | 0 => fun _ _ _ _ _ => none
  | n + 1 => fun x0 x1 x2 x3 h =>
    (gI h 7 x0 6).bind fun v1 =>
    if x3 ≥ v1 then
      kE38 x2 h
    else
      if x2 ≥ x1 then
        kE38 x2 h
      else
        (vc h 7 x0 (f_X7_find x0 x3 h)).bind fun r2 =>
        if r2.1 ≤ (0 : Int32) then
          f_X7_grow_J32 (f_X7_grow_L4 kE38 n) kE38 x0 x1 x2 x3 r2.2
        else
          (vc r2.2 7 x0 (f_X7_follow x0 r2.2)).bind fun h3 =>
          lt (x2 + (1 : Int32)) fun v4 =>
          f_X7_grow_J32 (f_X7_grow_L4 kE38 n) kE38 x0 x1 v4 x3 h3
theorem y_X7_grow_L4 {g : xG} {h0 : xH} {cl : Bool} {kE38 : Int32 → xH → Option (Int32 × xH)} (hkE38 : ∀ (x2 : Int32) (h : xH), Y g DX7_grow h0 cl iI (kE38 x2 h) 38 [none, none, some (.int x2), none] [] h) : ∀ (n : Nat) (x0 : Nat) (x1 : Int32) (x2 : Int32) (x3 : Int32) (h : xH), Y g DX7_grow h0 cl iI (f_X7_grow_L4 kE38 n x0 x1 x2 x3 h) 4 [some (.ref x0), some (.int x1), some (.int x2), some (.int x3)] [] h := by
  intro n
  induction n with
  | zero => intro x0 x1 x2 x3 h; exact Y.nothing
  | succ n ih =>
    intro x0 x1 x2 x3 h
    unfold f_X7_grow_L4
    refine Y.op (pc' := 5) (fun _ => X.iloadn rfl dX7_grow_4) ?_
    refine Y.op (pc' := 6) (fun _ => X.aloadn rfl dX7_grow_5) ?_
    refine Y.getI fd_X7_35 rfl dX7_grow_6 (fun v1 => ?_)
    refine Y.cmpge 38 (by decide) dX7_grow_9 ?_ ?_
    · exact Y.fg (hkE38 x2 h) (And.intro rfl trivial)
    · refine Y.op (pc' := 13) (fun _ => X.iloadn rfl dX7_grow_12) ?_
      refine Y.op (pc' := 14) (fun _ => X.iloadn rfl dX7_grow_13) ?_
      refine Y.cmpge 38 (by decide) dX7_grow_14 ?_ ?_
      · exact Y.fg (hkE38 x2 h) (And.intro rfl trivial)
      · refine Y.op (pc' := 18) (fun _ => X.aloadn rfl dX7_grow_17) ?_
        refine Y.op (pc' := 19) (fun _ => X.iloadn rfl dX7_grow_18) ?_
        refine Y.callVi (As := [.int x3]) lk_X7_108 rfl cal_X7_find vir_X7_find (Nat.le_of_ble_eq_true rfl) (Nat.le_of_ble_eq_true rfl) rfl rfl rfl (Nat.le_of_ble_eq_true rfl) dX7_grow_19 (fun _ e => m_X7_find x0 x3 h _ _ e) (fun r2 => ?_)
        refine Y.ifle 32 (by decide) dX7_grow_22 ?_ ?_
        · exact y_X7_grow_J32 ih hkE38 x0 x1 x2 x3 r2.2
        · refine Y.op (pc' := 26) (fun _ => X.aloadn rfl dX7_grow_25) ?_
          refine Y.callVv (As := []) lk_X7_117 rfl cal_X7_follow vir_X7_follow (Nat.le_of_ble_eq_true rfl) (Nat.le_of_ble_eq_true rfl) rfl rfl rfl (Nat.le_of_ble_eq_true rfl) dX7_grow_26 (fun _ e => m_X7_follow x0 r2.2 _ _ e) (fun h3 => ?_)
          refine Y.iinc (i := 2) (loc' := fun v4 => [some (.ref x0), some (.int x1), some (.int v4), some (.int x3)]) rfl (Nat.le_of_ble_eq_true rfl) ki_1 (fun _ => rfl) dX7_grow_29 (fun v4 => ?_)
          exact y_X7_grow_J32 ih hkE38 x0 x1 v4 x3 h3
def f_X7_grow (a0 : Nat) (p1 : Int32) (h : xH) : Option (Int32 × xH) :=
  f_X7_grow_L4 (f_X7_grow_J38) 5000 a0 p1 (0 : Int32) (0 : Int32) h
theorem y_X7_grow {g : xG} {h0 : xH} {cl : Bool} (a0 : Nat) (p1 : Int32) (h : xH) : Y g DX7_grow h0 cl iI (f_X7_grow a0 p1 h) 0 [some (.ref a0), some (.int p1), none, none] [] h := by
  unfold f_X7_grow
  refine Y.op (pc' := 1) (fun _ => X.ic ki_0 dX7_grow_0) ?_
  refine Y.op (pc' := 2) (loc' := [some (.ref a0), some (.int p1), some (.int (0 : Int32)), none]) (fun _ => X.istoren (Nat.le_of_ble_eq_true rfl) rfl dX7_grow_1) ?_
  refine Y.op (pc' := 3) (fun _ => X.ic ki_0 dX7_grow_2) ?_
  refine Y.op (pc' := 4) (loc' := [some (.ref a0), some (.int p1), some (.int (0 : Int32)), some (.int (0 : Int32))]) (fun _ => X.istoren (Nat.le_of_ble_eq_true rfl) rfl dX7_grow_3) ?_
  exact y_X7_grow_L4 (y_X7_grow_J38) 5000 a0 p1 (0 : Int32) (0 : Int32) h
theorem m_X7_grow {g : xG} (a0 : Nat) (p1 : Int32) (h : xH) (cl : Bool) (r : Int32 × xH) (e : f_X7_grow a0 p1 h = some r) : XM g DX7_grow [.ref a0, .int p1] h cl (iI r) := YM.of rfl rfl (Nat.le_of_ble_eq_true rfl) (y_X7_grow a0 p1 h) e
def f_X8_init (a0 : Nat) (h : xH) : Option (xH) :=
  (nwJ h (4096 : Int32)).bind fun r1 =>
  (pR r1.2 8 a0 0 r1.1).bind fun h2 =>
  (nwJ h2 (4096 : Int32)).bind fun r3 =>
  (pR r3.2 8 a0 1 r3.1).bind fun h4 =>
  (nwJ h4 (4096 : Int32)).bind fun r5 =>
  (pR r5.2 8 a0 2 r5.1).bind fun h6 =>
  (nwI h6 (4096 : Int32)).bind fun r7 =>
  (pR r7.2 8 a0 3 r7.1).bind fun h8 =>
  (nwI h8 (12 : Int32)).bind fun r9 =>
  (pR r9.2 8 a0 4 r9.1).bind fun h10 =>
  (pJ h10 8 a0 5 (0 : Int64)).bind fun h11 =>
  (pJ h11 8 a0 6 (0 : Int64)).bind fun h12 =>
  (pI h12 8 a0 7 (0 : Int32)).bind fun h13 =>
  some h13
theorem y_X8_init {g : xG} {h0 : xH} (a0 : Nat) (h : xH) : Y g DX8_init h0 false iV (f_X8_init a0 h) 0 [some (.ref a0)] [] h := by
  unfold f_X8_init
  refine Y.op (pc' := 1) (fun _ => X.aloadn rfl dX8_init_0) ?_
  refine Y.op (pc' := 4) (fun _ => X.objInit wo_X8 rfl (Nat.le_of_ble_eq_true rfl) (Nat.le_of_ble_eq_true rfl) dX8_init_1) ?_
  refine Y.op (pc' := 5) (fun _ => X.aloadn rfl dX8_init_4) ?_
  refine Y.op (pc' := 8) (fun _ => X.sp ks_4096 dX8_init_5) ?_
  refine Y.newJ waJ dX8_init_8 (fun r1 => ?_)
  refine Y.putR ff_X8_9 rfl rfl (fun _ => rfl) (fun _ => rfl) dX8_init_10 (fun h2 => ?_)
  refine Y.op (pc' := 14) (fun _ => X.aloadn rfl dX8_init_13) ?_
  refine Y.op (pc' := 17) (fun _ => X.sp ks_4096 dX8_init_14) ?_
  refine Y.newJ waJ dX8_init_17 (fun r3 => ?_)
  refine Y.putR ff_X8_15 rfl rfl (fun _ => rfl) (fun _ => rfl) dX8_init_19 (fun h4 => ?_)
  refine Y.op (pc' := 23) (fun _ => X.aloadn rfl dX8_init_22) ?_
  refine Y.op (pc' := 26) (fun _ => X.sp ks_4096 dX8_init_23) ?_
  refine Y.newJ waJ dX8_init_26 (fun r5 => ?_)
  refine Y.putR ff_X8_18 rfl rfl (fun _ => rfl) (fun _ => rfl) dX8_init_28 (fun h6 => ?_)
  refine Y.op (pc' := 32) (fun _ => X.aloadn rfl dX8_init_31) ?_
  refine Y.op (pc' := 35) (fun _ => X.sp ks_4096 dX8_init_32) ?_
  refine Y.newI waI dX8_init_35 (fun r7 => ?_)
  refine Y.putR ff_X8_21 rfl rfl (fun _ => rfl) (fun _ => rfl) dX8_init_37 (fun h8 => ?_)
  refine Y.op (pc' := 41) (fun _ => X.aloadn rfl dX8_init_40) ?_
  refine Y.op (pc' := 43) (fun _ => X.bp kb_12 dX8_init_41) ?_
  refine Y.newI waI dX8_init_43 (fun r9 => ?_)
  refine Y.putR ff_X8_25 rfl rfl (fun _ => rfl) (fun _ => rfl) dX8_init_45 (fun h10 => ?_)
  refine Y.op (pc' := 49) (fun _ => X.aloadn rfl dX8_init_48) ?_
  refine Y.op (pc' := 50) (fun _ => X.lc kl_0 dX8_init_49) ?_
  refine Y.putJ fd_X8_28 rfl dX8_init_50 (fun h11 => ?_)
  refine Y.op (pc' := 54) (fun _ => X.aloadn rfl dX8_init_53) ?_
  refine Y.op (pc' := 55) (fun _ => X.lc kl_0 dX8_init_54) ?_
  refine Y.putJ fd_X8_32 rfl dX8_init_55 (fun h12 => ?_)
  refine Y.op (pc' := 59) (fun _ => X.aloadn rfl dX8_init_58) ?_
  refine Y.op (pc' := 60) (fun _ => X.ic ki_0 dX8_init_59) ?_
  refine Y.putI fd_X8_35 rfl dX8_init_60 (fun h13 => ?_)
  exact Y.vreturn rfl dX8_init_63
theorem m_X8_init {g : xG} (a0 : Nat) (h : xH) (r : xH) (e : f_X8_init a0 h = some r) : XM g DX8_init [.ref a0] h false (iV r) := YM.of rfl rfl (Nat.le_of_ble_eq_true rfl) (y_X8_init a0 h) e
def f_X8_put_J140 (x0 : Nat) (x1 : Int32) (x2 : Int32) (h : xH) : Option (xH) :=
  (gR h 8 x0 0).bind fun v1 =>
  (aJ h v1 x2).bind fun v2 =>
  (gR h 8 x0 0).bind fun v3 =>
  (aJ h v3 x1).bind fun v4 =>
  (sJ h v1 x2 (v2 + v4)).bind fun h5 =>
  some h5
theorem y_X8_put_J140 {g : xG} {h0 : xH} {cl : Bool} (x0 : Nat) (x1 : Int32) (x2 : Int32) (h : xH) : Y g DX8_put h0 cl iV (f_X8_put_J140 x0 x1 x2 h) 140 [some (.ref x0), some (.int x1), some (.int x2), none, none, none, none, none, none] [] h := by
  unfold f_X8_put_J140
  refine Y.op (pc' := 141) (fun _ => X.aloadn rfl dX8_put_140) ?_
  refine Y.getR fd_X8_9 rfl dX8_put_141 (fun v1 => ?_)
  refine Y.op (pc' := 145) (fun _ => X.iloadn rfl dX8_put_144) ?_
  refine Y.op (pc' := 146) (fun _ => X.dup2 rfl rfl dX8_put_145) ?_
  refine Y.aldJ dX8_put_146 (fun v2 => ?_)
  refine Y.op (pc' := 148) (fun _ => X.aloadn rfl dX8_put_147) ?_
  refine Y.getR fd_X8_9 rfl dX8_put_148 (fun v3 => ?_)
  refine Y.op (pc' := 152) (fun _ => X.iloadn rfl dX8_put_151) ?_
  refine Y.aldJ dX8_put_152 (fun v4 => ?_)
  refine Y.op (pc' := 154) (fun _ => X.ladd dX8_put_153) ?_
  refine Y.astJ dX8_put_154 (fun h5 => ?_)
  exact Y.vreturn rfl dX8_put_155
def f_X8_put_J66 (x0 : Nat) (x1 : Int32) (x2 : Int32) (x6 : Int32) (x7 : Int64) (h : xH) : Option (xH) :=
  (gR h 8 x0 3).bind fun v1 =>
  (sI h v1 x2 x6).bind fun h2 =>
  (gR h2 8 x0 1).bind fun v3 =>
  (gR h2 8 x0 1).bind fun v4 =>
  (aJ h2 v4 x1).bind fun v5 =>
  (sJ h2 v3 x2 v5).bind fun h6 =>
  (gR h6 8 x0 2).bind fun v7 =>
  (sJ h6 v7 x2 x7).bind fun h8 =>
  f_X8_put_J140 x0 x1 x2 h8
theorem y_X8_put_J66 {g : xG} {h0 : xH} {cl : Bool} (x0 : Nat) (x1 : Int32) (x2 : Int32) (x6 : Int32) (x7 : Int64) (h : xH) : Y g DX8_put h0 cl iV (f_X8_put_J66 x0 x1 x2 x6 x7 h) 66 [some (.ref x0), some (.int x1), some (.int x2), none, none, none, some (.int x6), some (.long x7), none] [] h := by
  unfold f_X8_put_J66
  refine Y.op (pc' := 67) (fun _ => X.aloadn rfl dX8_put_66) ?_
  refine Y.getR fd_X8_21 rfl dX8_put_67 (fun v1 => ?_)
  refine Y.op (pc' := 71) (fun _ => X.iloadn rfl dX8_put_70) ?_
  refine Y.op (pc' := 73) (fun _ => X.iload rfl dX8_put_71) ?_
  refine Y.astI dX8_put_73 (fun h2 => ?_)
  refine Y.op (pc' := 75) (fun _ => X.aloadn rfl dX8_put_74) ?_
  refine Y.getR fd_X8_15 rfl dX8_put_75 (fun v3 => ?_)
  refine Y.op (pc' := 79) (fun _ => X.iloadn rfl dX8_put_78) ?_
  refine Y.op (pc' := 80) (fun _ => X.aloadn rfl dX8_put_79) ?_
  refine Y.getR fd_X8_15 rfl dX8_put_80 (fun v4 => ?_)
  refine Y.op (pc' := 84) (fun _ => X.iloadn rfl dX8_put_83) ?_
  refine Y.aldJ dX8_put_84 (fun v5 => ?_)
  refine Y.astJ dX8_put_85 (fun h6 => ?_)
  refine Y.op (pc' := 87) (fun _ => X.aloadn rfl dX8_put_86) ?_
  refine Y.getR fd_X8_18 rfl dX8_put_87 (fun v7 => ?_)
  refine Y.op (pc' := 91) (fun _ => X.iloadn rfl dX8_put_90) ?_
  refine Y.op (pc' := 93) (fun _ => X.lload rfl dX8_put_91) ?_
  refine Y.astJ dX8_put_93 (fun h8 => ?_)
  refine Y.op (pc' := 140) (fun _ => X.goto 140 (by decide) dX8_put_94) ?_
  exact Y.fg (y_X8_put_J140 x0 x1 x2 h8) (And.intro rfl (And.intro rfl (And.intro rfl trivial)))
def f_X8_put_J22 (h : xH) : Option (xH) :=
  some h
theorem y_X8_put_J22 {g : xG} {h0 : xH} {cl : Bool} (h : xH) : Y g DX8_put h0 cl iV (f_X8_put_J22 h) 22 [none, none, none, none, none, none, none, none, none] [] h := by
  unfold f_X8_put_J22
  exact Y.vreturn rfl dX8_put_22
def f_X8_put (a0 : Nat) (p1 : Int32) (p2 : Int32) (p3 : Int32) (p4 : Int64) (h : xH) : Option (xH) :=
  if p1 < (0 : Int32) then
    f_X8_put_J22 h
  else
    if p1 ≥ (4096 : Int32) then
      f_X8_put_J22 h
    else
      if p2 < (0 : Int32) then
        f_X8_put_J22 h
      else
        if p2 < (4096 : Int32) then
          (gR h 8 a0 3).bind fun v1 =>
          (aI h v1 p1).bind fun v2 =>
          lt ((v2 + p3)) fun v3 =>
          (gR h 8 a0 2).bind fun v4 =>
          (aJ h v4 p1).bind fun v5 =>
          lt ((v5 + p4)) fun v6 =>
          (gR h 8 a0 0).bind fun v7 =>
          (aJ h v7 p2).bind fun v8 =>
          if (lg_cmp v8 (0 : Int64)) = (0 : Int32) then
            f_X8_put_J66 a0 p1 p2 v3 v6 h
          else
            (gR h 8 a0 3).bind fun v9 =>
            (aI h v9 p2).bind fun v10 =>
            if v3 ≥ v10 then
              (gR h 8 a0 3).bind fun v11 =>
              (aI h v11 p2).bind fun v12 =>
              if v3 = v12 then
                (gR h 8 a0 1).bind fun v13 =>
                (aJ h v13 p2).bind fun v14 =>
                (gR h 8 a0 1).bind fun v15 =>
                (aJ h v15 p1).bind fun v16 =>
                (sJ h v13 p2 (v14 + v16)).bind fun h17 =>
                (gR h17 8 a0 2).bind fun v18 =>
                (gR h17 8 a0 2).bind fun v19 =>
                (aJ h17 v19 p2).bind fun v20 =>
                (sJ h17 v18 p2 (lmin v20 v6)).bind fun h21 =>
                f_X8_put_J140 a0 p1 p2 h21
              else
                f_X8_put_J140 a0 p1 p2 h
            else
              f_X8_put_J66 a0 p1 p2 v3 v6 h
        else
          f_X8_put_J22 h
theorem y_X8_put {g : xG} {h0 : xH} {cl : Bool} (a0 : Nat) (p1 : Int32) (p2 : Int32) (p3 : Int32) (p4 : Int64) (h : xH) : Y g DX8_put h0 cl iV (f_X8_put a0 p1 p2 p3 p4 h) 0 [some (.ref a0), some (.int p1), some (.int p2), some (.int p3), some (.long p4), none, none, none, none] [] h := by
  unfold f_X8_put
  refine Y.op (pc' := 1) (fun _ => X.iloadn rfl dX8_put_0) ?_
  refine Y.iflt 22 (by decide) dX8_put_1 ?_ ?_
  · exact Y.fg (y_X8_put_J22 h) trivial
  · refine Y.op (pc' := 5) (fun _ => X.iloadn rfl dX8_put_4) ?_
    refine Y.op (pc' := 8) (fun _ => X.sp ks_4096 dX8_put_5) ?_
    refine Y.cmpge 22 (by decide) dX8_put_8 ?_ ?_
    · exact Y.fg (y_X8_put_J22 h) trivial
    · refine Y.op (pc' := 12) (fun _ => X.iloadn rfl dX8_put_11) ?_
      refine Y.iflt 22 (by decide) dX8_put_12 ?_ ?_
      · exact Y.fg (y_X8_put_J22 h) trivial
      · refine Y.op (pc' := 16) (fun _ => X.iloadn rfl dX8_put_15) ?_
        refine Y.op (pc' := 19) (fun _ => X.sp ks_4096 dX8_put_16) ?_
        refine Y.cmplt 23 (by decide) dX8_put_19 ?_ ?_
        · refine Y.op (pc' := 24) (fun _ => X.aloadn rfl dX8_put_23) ?_
          refine Y.getR fd_X8_21 rfl dX8_put_24 (fun v1 => ?_)
          refine Y.op (pc' := 28) (fun _ => X.iloadn rfl dX8_put_27) ?_
          refine Y.aldI dX8_put_28 (fun v2 => ?_)
          refine Y.op (pc' := 30) (fun _ => X.iloadn rfl dX8_put_29) ?_
          refine Y.op (pc' := 31) (fun _ => X.iadd dX8_put_30) ?_
          refine Y.top (fun v3 => ?_)
          refine Y.op (pc' := 33) (loc' := [some (.ref a0), some (.int p1), some (.int p2), some (.int p3), some (.long p4), none, some (.int v3), none, none]) (fun _ => X.istore (Nat.le_of_ble_eq_true rfl) rfl dX8_put_31) ?_
          refine Y.op (pc' := 34) (fun _ => X.aloadn rfl dX8_put_33) ?_
          refine Y.getR fd_X8_18 rfl dX8_put_34 (fun v4 => ?_)
          refine Y.op (pc' := 38) (fun _ => X.iloadn rfl dX8_put_37) ?_
          refine Y.aldJ dX8_put_38 (fun v5 => ?_)
          refine Y.op (pc' := 41) (fun _ => X.lload rfl dX8_put_39) ?_
          refine Y.op (pc' := 42) (fun _ => X.ladd dX8_put_41) ?_
          refine Y.topl (fun v6 => ?_)
          refine Y.op (pc' := 44) (loc' := [some (.ref a0), some (.int p1), some (.int p2), some (.int p3), some (.long p4), none, some (.int v3), some (.long v6), none]) (fun _ => X.lstore (Nat.le_of_ble_eq_true rfl) rfl dX8_put_42) ?_
          refine Y.op (pc' := 45) (fun _ => X.aloadn rfl dX8_put_44) ?_
          refine Y.getR fd_X8_9 rfl dX8_put_45 (fun v7 => ?_)
          refine Y.op (pc' := 49) (fun _ => X.iloadn rfl dX8_put_48) ?_
          refine Y.aldJ dX8_put_49 (fun v8 => ?_)
          refine Y.op (pc' := 51) (fun _ => X.lc kl_0 dX8_put_50) ?_
          refine Y.op (pc' := 52) (fun _ => X.lcmp dX8_put_51) ?_
          refine Y.ifeq 66 (by decide) dX8_put_52 ?_ ?_
          · exact Y.fg (y_X8_put_J66 a0 p1 p2 v3 v6 h) (And.intro rfl (And.intro rfl (And.intro rfl (And.intro rfl (And.intro rfl trivial)))))
          · refine Y.op (pc' := 57) (fun _ => X.iload rfl dX8_put_55) ?_
            refine Y.op (pc' := 58) (fun _ => X.aloadn rfl dX8_put_57) ?_
            refine Y.getR fd_X8_21 rfl dX8_put_58 (fun v9 => ?_)
            refine Y.op (pc' := 62) (fun _ => X.iloadn rfl dX8_put_61) ?_
            refine Y.aldI dX8_put_62 (fun v10 => ?_)
            refine Y.cmpge 97 (by decide) dX8_put_63 ?_ ?_
            · refine Y.op (pc' := 99) (fun _ => X.iload rfl dX8_put_97) ?_
              refine Y.op (pc' := 100) (fun _ => X.aloadn rfl dX8_put_99) ?_
              refine Y.getR fd_X8_21 rfl dX8_put_100 (fun v11 => ?_)
              refine Y.op (pc' := 104) (fun _ => X.iloadn rfl dX8_put_103) ?_
              refine Y.aldI dX8_put_104 (fun v12 => ?_)
              refine Y.cmpne 140 (by decide) dX8_put_105 ?_ ?_
              · exact Y.fg (y_X8_put_J140 a0 p1 p2 h) (And.intro rfl (And.intro rfl (And.intro rfl trivial)))
              · refine Y.op (pc' := 109) (fun _ => X.aloadn rfl dX8_put_108) ?_
                refine Y.getR fd_X8_15 rfl dX8_put_109 (fun v13 => ?_)
                refine Y.op (pc' := 113) (fun _ => X.iloadn rfl dX8_put_112) ?_
                refine Y.op (pc' := 114) (fun _ => X.dup2 rfl rfl dX8_put_113) ?_
                refine Y.aldJ dX8_put_114 (fun v14 => ?_)
                refine Y.op (pc' := 116) (fun _ => X.aloadn rfl dX8_put_115) ?_
                refine Y.getR fd_X8_15 rfl dX8_put_116 (fun v15 => ?_)
                refine Y.op (pc' := 120) (fun _ => X.iloadn rfl dX8_put_119) ?_
                refine Y.aldJ dX8_put_120 (fun v16 => ?_)
                refine Y.op (pc' := 122) (fun _ => X.ladd dX8_put_121) ?_
                refine Y.astJ dX8_put_122 (fun h17 => ?_)
                refine Y.op (pc' := 124) (fun _ => X.aloadn rfl dX8_put_123) ?_
                refine Y.getR fd_X8_18 rfl dX8_put_124 (fun v18 => ?_)
                refine Y.op (pc' := 128) (fun _ => X.iloadn rfl dX8_put_127) ?_
                refine Y.op (pc' := 129) (fun _ => X.aloadn rfl dX8_put_128) ?_
                refine Y.getR fd_X8_18 rfl dX8_put_129 (fun v19 => ?_)
                refine Y.op (pc' := 133) (fun _ => X.iloadn rfl dX8_put_132) ?_
                refine Y.aldJ dX8_put_133 (fun v20 => ?_)
                refine Y.op (pc' := 136) (fun _ => X.lload rfl dX8_put_134) ?_
                refine Y.mminJ mw_X8_90 rfl (Nat.le_of_ble_eq_true rfl) (Nat.le_of_ble_eq_true rfl) dX8_put_136 ?_
                refine Y.astJ dX8_put_139 (fun h21 => ?_)
                exact Y.fg (y_X8_put_J140 a0 p1 p2 h21) (And.intro rfl (And.intro rfl (And.intro rfl trivial)))
            · exact Y.fg (y_X8_put_J66 a0 p1 p2 v3 v6 h) (And.intro rfl (And.intro rfl (And.intro rfl (And.intro rfl (And.intro rfl trivial)))))
        · exact Y.fg (y_X8_put_J22 h) trivial
theorem m_X8_put {g : xG} (a0 : Nat) (p1 : Int32) (p2 : Int32) (p3 : Int32) (p4 : Int64) (h : xH) (cl : Bool) (r : xH) (e : f_X8_put a0 p1 p2 p3 p4 h = some r) : XM g DX8_put [.ref a0, .int p1, .int p2, .int p3, .long p4] h cl (iV r) := YM.of rfl rfl (Nat.le_of_ble_eq_true rfl) (y_X8_put a0 p1 p2 p3 p4 h) e
def f_X8_extend_J119 (h : xH) : Option (xH) :=
  some h
theorem y_X8_extend_J119 {g : xG} {h0 : xH} {cl : Bool} (h : xH) : Y g DX8_extend h0 cl iV (f_X8_extend_J119 h) 119 [none, none, none, none, none, none, none, none, none, none, none] [] h := by
  unfold f_X8_extend_J119
  exact Y.vreturn rfl dX8_extend_119
def f_X8_extend_J113 (kH : Nat → Nat → Int32 → Int32 → Int64 → Int32 → Int32 → xH → Option (xH)) (kE119 : xH → Option (xH)) (x0 : Nat) (x1 : Nat) (x2 : Int32) (x3 : Int32) (x4 : Int64) (x6 : Int32) (x8 : Int32) (h : xH) : Option (xH) :=
  lt (x8 + (-1 : Int32)) fun v1 =>
  kH x0 x1 x2 x3 x4 x6 v1 h
theorem y_X8_extend_J113 {g : xG} {h0 : xH} {cl : Bool} {kH : Nat → Nat → Int32 → Int32 → Int64 → Int32 → Int32 → xH → Option (xH)} {kE119 : xH → Option (xH)} (hkH : ∀ (x0 : Nat) (x1 : Nat) (x2 : Int32) (x3 : Int32) (x4 : Int64) (x6 : Int32) (x8 : Int32) (h : xH), Y g DX8_extend h0 cl iV (kH x0 x1 x2 x3 x4 x6 x8 h) 6 [some (.ref x0), some (.ref x1), some (.int x2), some (.int x3), some (.long x4), none, some (.int x6), none, some (.int x8), none, none] [] h) (hkE119 : ∀  (h : xH), Y g DX8_extend h0 cl iV (kE119  h) 119 [none, none, none, none, none, none, none, none, none, none, none] [] h) (x0 : Nat) (x1 : Nat) (x2 : Int32) (x3 : Int32) (x4 : Int64) (x6 : Int32) (x8 : Int32) (h : xH) : Y g DX8_extend h0 cl iV (f_X8_extend_J113 kH kE119 x0 x1 x2 x3 x4 x6 x8 h) 113 [some (.ref x0), some (.ref x1), some (.int x2), some (.int x3), some (.long x4), none, some (.int x6), none, some (.int x8), none, none] [] h := by
  unfold f_X8_extend_J113
  refine Y.iinc (i := 8) (loc' := fun v1 => [some (.ref x0), some (.ref x1), some (.int x2), some (.int x3), some (.long x4), none, some (.int x6), none, some (.int v1), none, none]) rfl (Nat.le_of_ble_eq_true rfl) ki_m1 (fun _ => rfl) dX8_extend_113 (fun v1 => ?_)
  refine Y.op (pc' := 6) (fun _ => X.goto 6 (by decide) dX8_extend_116) ?_
  exact hkH x0 x1 x2 x3 x4 x6 v1 h
def f_X8_extend_J107 (kH : Nat → Nat → Int32 → Int32 → Int64 → Int32 → Int32 → Int32 → Int32 → xH → Option (xH)) (kE113 : Nat → Nat → Int32 → Int32 → Int64 → Int32 → Int32 → xH → Option (xH)) (x0 : Nat) (x1 : Nat) (x2 : Int32) (x3 : Int32) (x4 : Int64) (x6 : Int32) (x8 : Int32) (x9 : Int32) (x10 : Int32) (h : xH) : Option (xH) :=
  lt (x10 + (1 : Int32)) fun v1 =>
  kH x0 x1 x2 x3 x4 x6 x8 x9 v1 h
theorem y_X8_extend_J107 {g : xG} {h0 : xH} {cl : Bool} {kH : Nat → Nat → Int32 → Int32 → Int64 → Int32 → Int32 → Int32 → Int32 → xH → Option (xH)} {kE113 : Nat → Nat → Int32 → Int32 → Int64 → Int32 → Int32 → xH → Option (xH)} (hkH : ∀ (x0 : Nat) (x1 : Nat) (x2 : Int32) (x3 : Int32) (x4 : Int64) (x6 : Int32) (x8 : Int32) (x9 : Int32) (x10 : Int32) (h : xH), Y g DX8_extend h0 cl iV (kH x0 x1 x2 x3 x4 x6 x8 x9 x10 h) 60 [some (.ref x0), some (.ref x1), some (.int x2), some (.int x3), some (.long x4), none, some (.int x6), none, some (.int x8), some (.int x9), some (.int x10)] [] h) (hkE113 : ∀ (x0 : Nat) (x1 : Nat) (x2 : Int32) (x3 : Int32) (x4 : Int64) (x6 : Int32) (x8 : Int32) (h : xH), Y g DX8_extend h0 cl iV (kE113 x0 x1 x2 x3 x4 x6 x8 h) 113 [some (.ref x0), some (.ref x1), some (.int x2), some (.int x3), some (.long x4), none, some (.int x6), none, some (.int x8), none, none] [] h) (x0 : Nat) (x1 : Nat) (x2 : Int32) (x3 : Int32) (x4 : Int64) (x6 : Int32) (x8 : Int32) (x9 : Int32) (x10 : Int32) (h : xH) : Y g DX8_extend h0 cl iV (f_X8_extend_J107 kH kE113 x0 x1 x2 x3 x4 x6 x8 x9 x10 h) 107 [some (.ref x0), some (.ref x1), some (.int x2), some (.int x3), some (.long x4), none, some (.int x6), none, some (.int x8), some (.int x9), some (.int x10)] [] h := by
  unfold f_X8_extend_J107
  refine Y.iinc (i := 10) (loc' := fun v1 => [some (.ref x0), some (.ref x1), some (.int x2), some (.int x3), some (.long x4), none, some (.int x6), none, some (.int x8), some (.int x9), some (.int v1)]) rfl (Nat.le_of_ble_eq_true rfl) ki_1 (fun _ => rfl) dX8_extend_107 (fun v1 => ?_)
  refine Y.op (pc' := 60) (fun _ => X.goto 60 (by decide) dX8_extend_110) ?_
  exact hkH x0 x1 x2 x3 x4 x6 x8 x9 v1 h
def f_X8_extend_L60 (kE113 : Nat → Nat → Int32 → Int32 → Int64 → Int32 → Int32 → xH → Option (xH)) : Nat → Nat → Nat → Int32 → Int32 → Int64 → Int32 → Int32 → Int32 → Int32 → xH → Option (xH)
  | 0 => fun _ _ _ _ _ _ _ _ _ _ => none
  | n + 1 => fun x0 x1 x2 x3 x4 x6 x8 x9 x10 h =>
    if x10 ≥ (12 : Int32) then
      kE113 x0 x1 x2 x3 x4 x6 x8 h
    else
      (f_X9_has x9 x10 h).bind fun r1 =>
      if r1.1 = (0 : Int32) then
        f_X8_extend_J107 (f_X8_extend_L60 kE113 n) kE113 x0 x1 x2 x3 x4 x6 x8 x9 x10 r1.2
      else
        (f_X9_bit x10 r1.2).bind fun r2 =>
        (vc r2.2 0 x1 (f_X0_costOf x1 x3 x10 r2.2)).bind fun r3 =>
        (vc r3.2 8 x0 (f_X8_put x0 x8 (x8 ||| r2.1) r3.1 (x4 * (x10 - (12 : Int32)).toInt64) r3.2)).bind fun h4 =>
        f_X8_extend_J107 (f_X8_extend_L60 kE113 n) kE113 x0 x1 x2 x3 x4 x6 x8 x9 x10 h4
theorem y_X8_extend_L60 {g : xG} {h0 : xH} {cl : Bool} {kE113 : Nat → Nat → Int32 → Int32 → Int64 → Int32 → Int32 → xH → Option (xH)} (hkE113 : ∀ (x0 : Nat) (x1 : Nat) (x2 : Int32) (x3 : Int32) (x4 : Int64) (x6 : Int32) (x8 : Int32) (h : xH), Y g DX8_extend h0 cl iV (kE113 x0 x1 x2 x3 x4 x6 x8 h) 113 [some (.ref x0), some (.ref x1), some (.int x2), some (.int x3), some (.long x4), none, some (.int x6), none, some (.int x8), none, none] [] h) : ∀ (n : Nat) (x0 : Nat) (x1 : Nat) (x2 : Int32) (x3 : Int32) (x4 : Int64) (x6 : Int32) (x8 : Int32) (x9 : Int32) (x10 : Int32) (h : xH), Y g DX8_extend h0 cl iV (f_X8_extend_L60 kE113 n x0 x1 x2 x3 x4 x6 x8 x9 x10 h) 60 [some (.ref x0), some (.ref x1), some (.int x2), some (.int x3), some (.long x4), none, some (.int x6), none, some (.int x8), some (.int x9), some (.int x10)] [] h := by
  intro n
  induction n with
  | zero => intro x0 x1 x2 x3 x4 x6 x8 x9 x10 h; exact Y.nothing
  | succ n ih =>
    intro x0 x1 x2 x3 x4 x6 x8 x9 x10 h
    unfold f_X8_extend_L60
    refine Y.op (pc' := 62) (fun _ => X.iload rfl dX8_extend_60) ?_
    refine Y.op (pc' := 64) (fun _ => X.bp kb_12 dX8_extend_62) ?_
    refine Y.cmpge 113 (by decide) dX8_extend_64 ?_ ?_
    · exact Y.fg (hkE113 x0 x1 x2 x3 x4 x6 x8 h) (And.intro rfl (And.intro rfl (And.intro rfl (And.intro rfl (And.intro rfl (And.intro rfl (And.intro rfl trivial)))))))
    · refine Y.op (pc' := 69) (fun _ => X.iload rfl dX8_extend_67) ?_
      refine Y.op (pc' := 71) (fun _ => X.iload rfl dX8_extend_69) ?_
      refine Y.callSi (As := [.int x9, .int x10]) lk_X8_64 rfl cal_X9_has sta_X9_has (Nat.le_of_ble_eq_true rfl) rfl rfl (Nat.le_of_ble_eq_true rfl) dX8_extend_71 (fun _ e => m_X9_has x9 x10 h _ _ e) (fun r1 => ?_)
      refine Y.ifeq 107 (by decide) dX8_extend_74 ?_ ?_
      · exact y_X8_extend_J107 ih hkE113 x0 x1 x2 x3 x4 x6 x8 x9 x10 r1.2
      · refine Y.op (pc' := 78) (fun _ => X.aloadn rfl dX8_extend_77) ?_
        refine Y.op (pc' := 80) (fun _ => X.iload rfl dX8_extend_78) ?_
        refine Y.op (pc' := 82) (fun _ => X.iload rfl dX8_extend_80) ?_
        refine Y.op (pc' := 84) (fun _ => X.iload rfl dX8_extend_82) ?_
        refine Y.callSi (As := [.int x10]) lk_X8_50 rfl cal_X9_bit sta_X9_bit (Nat.le_of_ble_eq_true rfl) rfl rfl (Nat.le_of_ble_eq_true rfl) dX8_extend_84 (fun _ e => m_X9_bit x10 r1.2 _ _ e) (fun r2 => ?_)
        refine Y.op (pc' := 88) (fun _ => X.ior dX8_extend_87) ?_
        refine Y.op (pc' := 89) (fun _ => X.aloadn rfl dX8_extend_88) ?_
        refine Y.op (pc' := 90) (fun _ => X.iloadn rfl dX8_extend_89) ?_
        refine Y.op (pc' := 92) (fun _ => X.iload rfl dX8_extend_90) ?_
        refine Y.callVi (As := [.int x3, .int x10]) lk_X8_81 rfl cal_X0_costOf vir_X0_costOf (Nat.le_of_ble_eq_true rfl) (Nat.le_of_ble_eq_true rfl) rfl rfl rfl (Nat.le_of_ble_eq_true rfl) dX8_extend_92 (fun _ e => m_X0_costOf x1 x3 x10 r2.2 _ _ e) (fun r3 => ?_)
        refine Y.op (pc' := 97) (fun _ => X.lload rfl dX8_extend_95) ?_
        refine Y.op (pc' := 99) (fun _ => X.iload rfl dX8_extend_97) ?_
        refine Y.op (pc' := 101) (fun _ => X.bp kb_12 dX8_extend_99) ?_
        refine Y.op (pc' := 102) (fun _ => X.isub dX8_extend_101) ?_
        refine Y.op (pc' := 103) (fun _ => X.i2l dX8_extend_102) ?_
        refine Y.op (pc' := 104) (fun _ => X.lmul dX8_extend_103) ?_
        refine Y.callVv (As := [.int x8, .int (x8 ||| r2.1), .int r3.1, .long (x4 * (x10 - (12 : Int32)).toInt64)]) lk_X8_86 rfl cal_X8_put vir_X8_put (Nat.le_of_ble_eq_true rfl) (Nat.le_of_ble_eq_true rfl) rfl rfl rfl (Nat.le_of_ble_eq_true rfl) dX8_extend_104 (fun _ e => m_X8_put x0 x8 (x8 ||| r2.1) r3.1 (x4 * (x10 - (12 : Int32)).toInt64) r3.2 _ _ e) (fun h4 => ?_)
        exact y_X8_extend_J107 ih hkE113 x0 x1 x2 x3 x4 x6 x8 x9 x10 h4
def f_X8_extend_L6 (kE119 : xH → Option (xH)) : Nat → Nat → Nat → Int32 → Int32 → Int64 → Int32 → Int32 → xH → Option (xH)
  | 0 => fun _ _ _ _ _ _ _ _ => none
  | n + 1 => fun x0 x1 x2 x3 x4 x6 x8 h =>
    if x8 < (0 : Int32) then
      kE119 h
    else
      lt ((x2 &&& (x8 ^^^ (-1 : Int32)))) fun v1 =>
      if x8 ≥ (4096 : Int32) then
        f_X8_extend_J113 (f_X8_extend_L6 kE119 n) kE119 x0 x1 x2 x3 x4 x6 x8 h
      else
        if v1 = (0 : Int32) then
          f_X8_extend_J113 (f_X8_extend_L6 kE119 n) kE119 x0 x1 x2 x3 x4 x6 x8 h
        else
          (gR h 8 x0 0).bind fun v2 =>
          (aJ h v2 x8).bind fun v3 =>
          if (lg_cmp v3 (0 : Int64)) = (0 : Int32) then
            f_X8_extend_J113 (f_X8_extend_L6 kE119 n) kE119 x0 x1 x2 x3 x4 x6 x8 h
          else
            (f_J6_bitCount_0f7a4 x8 h).bind fun r4 =>
            if r4.1 ≥ x6 then
              f_X8_extend_L60 (f_X8_extend_J113 (f_X8_extend_L6 kE119 n) kE119) 5000 x0 x1 x2 x3 x4 x6 x8 v1 (0 : Int32) r4.2
            else
              f_X8_extend_J113 (f_X8_extend_L6 kE119 n) kE119 x0 x1 x2 x3 x4 x6 x8 r4.2
theorem y_X8_extend_L6 {g : xG} {h0 : xH} {cl : Bool} {kE119 : xH → Option (xH)} (hkE119 : ∀  (h : xH), Y g DX8_extend h0 cl iV (kE119  h) 119 [none, none, none, none, none, none, none, none, none, none, none] [] h) : ∀ (n : Nat) (x0 : Nat) (x1 : Nat) (x2 : Int32) (x3 : Int32) (x4 : Int64) (x6 : Int32) (x8 : Int32) (h : xH), Y g DX8_extend h0 cl iV (f_X8_extend_L6 kE119 n x0 x1 x2 x3 x4 x6 x8 h) 6 [some (.ref x0), some (.ref x1), some (.int x2), some (.int x3), some (.long x4), none, some (.int x6), none, some (.int x8), none, none] [] h := by
  intro n
  induction n with
  | zero => intro x0 x1 x2 x3 x4 x6 x8 h; exact Y.nothing
  | succ n ih =>
    intro x0 x1 x2 x3 x4 x6 x8 h
    unfold f_X8_extend_L6
    refine Y.op (pc' := 8) (fun _ => X.iload rfl dX8_extend_6) ?_
    refine Y.iflt 119 (by decide) dX8_extend_8 ?_ ?_
    · exact Y.fg (hkE119 h) trivial
    · refine Y.op (pc' := 12) (fun _ => X.iloadn rfl dX8_extend_11) ?_
      refine Y.op (pc' := 14) (fun _ => X.iload rfl dX8_extend_12) ?_
      refine Y.op (pc' := 15) (fun _ => X.ic ki_m1 dX8_extend_14) ?_
      refine Y.op (pc' := 16) (fun _ => X.ixor dX8_extend_15) ?_
      refine Y.op (pc' := 17) (fun _ => X.iand dX8_extend_16) ?_
      refine Y.top (fun v1 => ?_)
      refine Y.op (pc' := 19) (loc' := [some (.ref x0), some (.ref x1), some (.int x2), some (.int x3), some (.long x4), none, some (.int x6), none, some (.int x8), some (.int v1), none]) (fun _ => X.istore (Nat.le_of_ble_eq_true rfl) rfl dX8_extend_17) ?_
      refine Y.op (pc' := 21) (fun _ => X.iload rfl dX8_extend_19) ?_
      refine Y.op (pc' := 24) (fun _ => X.sp ks_4096 dX8_extend_21) ?_
      refine Y.cmpge 113 (by decide) dX8_extend_24 ?_ ?_
      · exact Y.fg (y_X8_extend_J113 ih hkE119 x0 x1 x2 x3 x4 x6 x8 h) (And.intro rfl (And.intro rfl (And.intro rfl (And.intro rfl (And.intro rfl (And.intro rfl (And.intro rfl trivial)))))))
      · refine Y.op (pc' := 29) (fun _ => X.iload rfl dX8_extend_27) ?_
        refine Y.ifeq 113 (by decide) dX8_extend_29 ?_ ?_
        · exact Y.fg (y_X8_extend_J113 ih hkE119 x0 x1 x2 x3 x4 x6 x8 h) (And.intro rfl (And.intro rfl (And.intro rfl (And.intro rfl (And.intro rfl (And.intro rfl (And.intro rfl trivial)))))))
        · refine Y.op (pc' := 33) (fun _ => X.aloadn rfl dX8_extend_32) ?_
          refine Y.getR fd_X8_9 rfl dX8_extend_33 (fun v2 => ?_)
          refine Y.op (pc' := 38) (fun _ => X.iload rfl dX8_extend_36) ?_
          refine Y.aldJ dX8_extend_38 (fun v3 => ?_)
          refine Y.op (pc' := 40) (fun _ => X.lc kl_0 dX8_extend_39) ?_
          refine Y.op (pc' := 41) (fun _ => X.lcmp dX8_extend_40) ?_
          refine Y.ifeq 113 (by decide) dX8_extend_41 ?_ ?_
          · exact Y.fg (y_X8_extend_J113 ih hkE119 x0 x1 x2 x3 x4 x6 x8 h) (And.intro rfl (And.intro rfl (And.intro rfl (And.intro rfl (And.intro rfl (And.intro rfl (And.intro rfl trivial)))))))
          · refine Y.op (pc' := 46) (fun _ => X.iload rfl dX8_extend_44) ?_
            refine Y.callSi (As := [.int x8]) lk_X8_57 rfl cal_J6_bitCount_0f7a4 sta_J6_bitCount_0f7a4 (Nat.le_of_ble_eq_true rfl) rfl rfl (Nat.le_of_ble_eq_true rfl) dX8_extend_46 (fun _ e => m_J6_bitCount_0f7a4 x8 h _ _ e) (fun r4 => ?_)
            refine Y.op (pc' := 51) (fun _ => X.iload rfl dX8_extend_49) ?_
            refine Y.cmpge 57 (by decide) dX8_extend_51 ?_ ?_
            · refine Y.op (pc' := 58) (fun _ => X.ic ki_0 dX8_extend_57) ?_
              refine Y.op (pc' := 60) (loc' := [some (.ref x0), some (.ref x1), some (.int x2), some (.int x3), some (.long x4), none, some (.int x6), none, some (.int x8), some (.int v1), some (.int (0 : Int32))]) (fun _ => X.istore (Nat.le_of_ble_eq_true rfl) rfl dX8_extend_58) ?_
              exact y_X8_extend_L60 (y_X8_extend_J113 ih hkE119) 5000 x0 x1 x2 x3 x4 x6 x8 v1 (0 : Int32) r4.2
            · refine Y.op (pc' := 113) (fun _ => X.goto 113 (by decide) dX8_extend_54) ?_
              exact Y.fg (y_X8_extend_J113 ih hkE119 x0 x1 x2 x3 x4 x6 x8 r4.2) (And.intro rfl (And.intro rfl (And.intro rfl (And.intro rfl (And.intro rfl (And.intro rfl (And.intro rfl trivial)))))))
def f_X8_extend (a0 : Nat) (p1 : Nat) (p2 : Int32) (p3 : Int32) (p4 : Int64) (p5 : Int32) (p6 : Int32) (h : xH) : Option (xH) :=
  lt ((p6 - (1 : Int32))) fun v1 =>
  f_X8_extend_L6 (f_X8_extend_J119) 5000 a0 p1 p2 p3 p4 p5 v1 h
theorem y_X8_extend {g : xG} {h0 : xH} {cl : Bool} (a0 : Nat) (p1 : Nat) (p2 : Int32) (p3 : Int32) (p4 : Int64) (p5 : Int32) (p6 : Int32) (h : xH) : Y g DX8_extend h0 cl iV (f_X8_extend a0 p1 p2 p3 p4 p5 p6 h) 0 [some (.ref a0), some (.ref p1), some (.int p2), some (.int p3), some (.long p4), none, some (.int p5), some (.int p6), none, none, none] [] h := by
  unfold f_X8_extend
  refine Y.op (pc' := 2) (fun _ => X.iload rfl dX8_extend_0) ?_
  refine Y.op (pc' := 3) (fun _ => X.ic ki_1 dX8_extend_2) ?_
  refine Y.op (pc' := 4) (fun _ => X.isub dX8_extend_3) ?_
  refine Y.top (fun v1 => ?_)
  refine Y.op (pc' := 6) (loc' := [some (.ref a0), some (.ref p1), some (.int p2), some (.int p3), some (.long p4), none, some (.int p5), some (.int p6), some (.int v1), none, none]) (fun _ => X.istore (Nat.le_of_ble_eq_true rfl) rfl dX8_extend_4) ?_
  exact Y.fg (y_X8_extend_L6 (y_X8_extend_J119) 5000 a0 p1 p2 p3 p4 p5 v1 h) (And.intro rfl (And.intro rfl (And.intro rfl (And.intro rfl (And.intro rfl (And.intro rfl (And.intro rfl trivial)))))))
theorem m_X8_extend {g : xG} (a0 : Nat) (p1 : Nat) (p2 : Int32) (p3 : Int32) (p4 : Int64) (p5 : Int32) (p6 : Int32) (h : xH) (cl : Bool) (r : xH) (e : f_X8_extend a0 p1 p2 p3 p4 p5 p6 h = some r) : XM g DX8_extend [.ref a0, .ref p1, .int p2, .int p3, .long p4, .int p5, .int p6] h cl (iV r) := YM.of rfl rfl (Nat.le_of_ble_eq_true rfl) (y_X8_extend a0 p1 p2 p3 p4 p5 p6 h) e
def f_X8_decode_J57 (h : xH) : Option (xH) :=
  some h
theorem y_X8_decode_J57 {g : xG} {h0 : xH} {cl : Bool} (h : xH) : Y g DX8_decode h0 cl iV (f_X8_decode_J57 h) 57 [none, none, none, none, none, none, none] [] h := by
  unfold f_X8_decode_J57
  exact Y.vreturn rfl dX8_decode_57
def f_X8_decode_J44 (kH : Nat → Int64 → Int32 → xH → Option (xH)) (kE57 : xH → Option (xH)) (x0 : Nat) (x3 : Int64) (x5 : Int32) (s0 : Nat) (s1 : Int32) (s2 : Int32) (h : xH) : Option (xH) :=
  (sI h s0 s1 s2).bind fun h1 =>
  lt ((x3 / (13 : Int64))) fun v2 =>
  lt (x5 + (-1 : Int32)) fun v3 =>
  kH x0 v2 v3 h1
theorem y_X8_decode_J44 {g : xG} {h0 : xH} {cl : Bool} {kH : Nat → Int64 → Int32 → xH → Option (xH)} {kE57 : xH → Option (xH)} (hkH : ∀ (x0 : Nat) (x3 : Int64) (x5 : Int32) (h : xH), Y g DX8_decode h0 cl iV (kH x0 x3 x5 h) 12 [some (.ref x0), none, none, some (.long x3), none, some (.int x5), none] [] h) (hkE57 : ∀  (h : xH), Y g DX8_decode h0 cl iV (kE57  h) 57 [none, none, none, none, none, none, none] [] h) (x0 : Nat) (x3 : Int64) (x5 : Int32) (s0 : Nat) (s1 : Int32) (s2 : Int32) (h : xH) : Y g DX8_decode h0 cl iV (f_X8_decode_J44 kH kE57 x0 x3 x5 s0 s1 s2 h) 44 [some (.ref x0), none, none, some (.long x3), none, some (.int x5), none] [.int s2, .int s1, .ref s0] h := by
  unfold f_X8_decode_J44
  refine Y.astI dX8_decode_44 (fun h1 => ?_)
  refine Y.op (pc' := 46) (fun _ => X.lloadn rfl dX8_decode_45) ?_
  refine Y.op (pc' := 49) (fun _ => X.ldcL wl_X8_75 rfl dX8_decode_46) ?_
  refine Y.op (pc' := 50) (fun _ => X.ldiv (by decide) dX8_decode_49) ?_
  refine Y.topl (fun v2 => ?_)
  refine Y.op (pc' := 51) (loc' := [some (.ref x0), none, none, some (.long v2), none, some (.int x5), none]) (fun _ => X.lstoren (Nat.le_of_ble_eq_true rfl) rfl dX8_decode_50) ?_
  refine Y.iinc (i := 5) (loc' := fun v3 => [some (.ref x0), none, none, some (.long v2), none, some (.int v3), none]) rfl (Nat.le_of_ble_eq_true rfl) ki_m1 (fun _ => rfl) dX8_decode_51 (fun v3 => ?_)
  refine Y.op (pc' := 12) (fun _ => X.goto 12 (by decide) dX8_decode_54) ?_
  exact hkH x0 v2 v3 h1
def f_X8_decode_L12 (kE57 : xH → Option (xH)) : Nat → Nat → Int64 → Int32 → xH → Option (xH)
  | 0 => fun _ _ _ _ => none
  | n + 1 => fun x0 x3 x5 h =>
    if x5 < (0 : Int32) then
      kE57 h
    else
      lt ((x3 - x3 / (13 : Int64) * (13 : Int64)).toInt32) fun v1 =>
      (gR h 8 x0 4).bind fun v2 =>
      if v1 ≥ (12 : Int32) then
        f_X8_decode_J44 (f_X8_decode_L12 kE57 n) kE57 x0 x3 x5 v2 x5 (-1 : Int32) h
      else
        f_X8_decode_J44 (f_X8_decode_L12 kE57 n) kE57 x0 x3 x5 v2 x5 v1 h
theorem y_X8_decode_L12 {g : xG} {h0 : xH} {cl : Bool} {kE57 : xH → Option (xH)} (hkE57 : ∀  (h : xH), Y g DX8_decode h0 cl iV (kE57  h) 57 [none, none, none, none, none, none, none] [] h) : ∀ (n : Nat) (x0 : Nat) (x3 : Int64) (x5 : Int32) (h : xH), Y g DX8_decode h0 cl iV (f_X8_decode_L12 kE57 n x0 x3 x5 h) 12 [some (.ref x0), none, none, some (.long x3), none, some (.int x5), none] [] h := by
  intro n
  induction n with
  | zero => intro x0 x3 x5 h; exact Y.nothing
  | succ n ih =>
    intro x0 x3 x5 h
    unfold f_X8_decode_L12
    refine Y.op (pc' := 14) (fun _ => X.iload rfl dX8_decode_12) ?_
    refine Y.iflt 57 (by decide) dX8_decode_14 ?_ ?_
    · exact Y.fg (hkE57 h) trivial
    · refine Y.op (pc' := 18) (fun _ => X.lloadn rfl dX8_decode_17) ?_
      refine Y.op (pc' := 21) (fun _ => X.ldcL wl_X8_75 rfl dX8_decode_18) ?_
      refine Y.op (pc' := 22) (fun _ => X.lrem (by decide) dX8_decode_21) ?_
      refine Y.op (pc' := 23) (fun _ => X.l2i dX8_decode_22) ?_
      refine Y.top (fun v1 => ?_)
      refine Y.op (pc' := 25) (loc' := [some (.ref x0), none, none, some (.long x3), none, some (.int x5), some (.int v1)]) (fun _ => X.istore (Nat.le_of_ble_eq_true rfl) rfl dX8_decode_23) ?_
      refine Y.op (pc' := 26) (fun _ => X.aloadn rfl dX8_decode_25) ?_
      refine Y.getR fd_X8_25 rfl dX8_decode_26 (fun v2 => ?_)
      refine Y.op (pc' := 31) (fun _ => X.iload rfl dX8_decode_29) ?_
      refine Y.op (pc' := 33) (fun _ => X.iload rfl dX8_decode_31) ?_
      refine Y.op (pc' := 35) (fun _ => X.bp kb_12 dX8_decode_33) ?_
      refine Y.cmpge 43 (by decide) dX8_decode_35 ?_ ?_
      · refine Y.op (pc' := 44) (fun _ => X.ic ki_m1 dX8_decode_43) ?_
        exact Y.fg (y_X8_decode_J44 ih hkE57 x0 x3 x5 v2 x5 (-1 : Int32) h) (And.intro rfl (And.intro rfl (And.intro rfl trivial)))
      · refine Y.op (pc' := 40) (fun _ => X.iload rfl dX8_decode_38) ?_
        refine Y.op (pc' := 44) (fun _ => X.goto 44 (by decide) dX8_decode_40) ?_
        exact Y.fg (y_X8_decode_J44 ih hkE57 x0 x3 x5 v2 x5 v1 h) (And.intro rfl (And.intro rfl (And.intro rfl trivial)))
def f_X8_decode (a0 : Nat) (p1 : Int64) (h : xH) : Option (xH) :=
  lt (((p1 + (23298085122481 : Int64)) - (1 : Int64))) fun v1 =>
  f_X8_decode_L12 (f_X8_decode_J57) 5000 a0 v1 (11 : Int32) h
theorem y_X8_decode {g : xG} {h0 : xH} {cl : Bool} (a0 : Nat) (p1 : Int64) (h : xH) : Y g DX8_decode h0 cl iV (f_X8_decode a0 p1 h) 0 [some (.ref a0), some (.long p1), none, none, none, none, none] [] h := by
  unfold f_X8_decode
  refine Y.op (pc' := 1) (fun _ => X.lloadn rfl dX8_decode_0) ?_
  refine Y.op (pc' := 4) (fun _ => X.ldcL wl_X8_97 rfl dX8_decode_1) ?_
  refine Y.op (pc' := 5) (fun _ => X.ladd dX8_decode_4) ?_
  refine Y.op (pc' := 6) (fun _ => X.lc kl_1 dX8_decode_5) ?_
  refine Y.op (pc' := 7) (fun _ => X.lsub dX8_decode_6) ?_
  refine Y.topl (fun v1 => ?_)
  refine Y.op (pc' := 8) (loc' := [some (.ref a0), some (.long p1), none, some (.long v1), none, none, none]) (fun _ => X.lstoren (Nat.le_of_ble_eq_true rfl) rfl dX8_decode_7) ?_
  refine Y.op (pc' := 10) (fun _ => X.bp kb_11 dX8_decode_8) ?_
  refine Y.op (pc' := 12) (loc' := [some (.ref a0), some (.long p1), none, some (.long v1), none, some (.int (11 : Int32)), none]) (fun _ => X.istore (Nat.le_of_ble_eq_true rfl) rfl dX8_decode_10) ?_
  exact Y.fg (y_X8_decode_L12 (y_X8_decode_J57) 5000 a0 v1 (11 : Int32) h) (And.intro rfl (And.intro rfl (And.intro rfl trivial)))
theorem m_X8_decode {g : xG} (a0 : Nat) (p1 : Int64) (h : xH) (cl : Bool) (r : xH) (e : f_X8_decode a0 p1 h = some r) : XM g DX8_decode [.ref a0, .long p1] h cl (iV r) := YM.of rfl rfl (Nat.le_of_ble_eq_true rfl) (y_X8_decode a0 p1 h) e
def f_X8_finish_J175 (x0 : Nat) (x3 : Int64) (h : xH) : Option (xH) :=
  (vc h 8 x0 (f_X8_decode x0 x3 h)).bind fun h1 =>
  some h1
theorem y_X8_finish_J175 {g : xG} {h0 : xH} {cl : Bool} (x0 : Nat) (x3 : Int64) (h : xH) : Y g DX8_finish h0 cl iV (f_X8_finish_J175 x0 x3 h) 175 [some (.ref x0), none, none, some (.long x3), none, none] [] h := by
  unfold f_X8_finish_J175
  refine Y.op (pc' := 176) (fun _ => X.aloadn rfl dX8_finish_175) ?_
  refine Y.op (pc' := 177) (fun _ => X.lloadn rfl dX8_finish_176) ?_
  refine Y.callVv (As := [.long x3]) lk_X8_93 rfl cal_X8_decode vir_X8_decode (Nat.le_of_ble_eq_true rfl) (Nat.le_of_ble_eq_true rfl) rfl rfl rfl (Nat.le_of_ble_eq_true rfl) dX8_finish_177 (fun _ e => m_X8_decode x0 x3 h _ _ e) (fun h1 => ?_)
  exact Y.vreturn rfl dX8_finish_180
def f_X8_finish_J169 (kH : Nat → Int32 → Int32 → Int64 → Int32 → xH → Option (xH)) (kE175 : Nat → Int64 → xH → Option (xH)) (x0 : Nat) (x1 : Int32) (x2 : Int32) (x3 : Int64) (x5 : Int32) (h : xH) : Option (xH) :=
  lt (x5 + (1 : Int32)) fun v1 =>
  kH x0 x1 x2 x3 v1 h
theorem y_X8_finish_J169 {g : xG} {h0 : xH} {cl : Bool} {kH : Nat → Int32 → Int32 → Int64 → Int32 → xH → Option (xH)} {kE175 : Nat → Int64 → xH → Option (xH)} (hkH : ∀ (x0 : Nat) (x1 : Int32) (x2 : Int32) (x3 : Int64) (x5 : Int32) (h : xH), Y g DX8_finish h0 cl iV (kH x0 x1 x2 x3 x5 h) 20 [some (.ref x0), some (.int x1), some (.int x2), some (.long x3), none, some (.int x5)] [] h) (hkE175 : ∀ (x0 : Nat) (x3 : Int64) (h : xH), Y g DX8_finish h0 cl iV (kE175 x0 x3 h) 175 [some (.ref x0), none, none, some (.long x3), none, none] [] h) (x0 : Nat) (x1 : Int32) (x2 : Int32) (x3 : Int64) (x5 : Int32) (h : xH) : Y g DX8_finish h0 cl iV (f_X8_finish_J169 kH kE175 x0 x1 x2 x3 x5 h) 169 [some (.ref x0), some (.int x1), some (.int x2), some (.long x3), none, some (.int x5)] [] h := by
  unfold f_X8_finish_J169
  refine Y.iinc (i := 5) (loc' := fun v1 => [some (.ref x0), some (.int x1), some (.int x2), some (.long x3), none, some (.int v1)]) rfl (Nat.le_of_ble_eq_true rfl) ki_1 (fun _ => rfl) dX8_finish_169 (fun v1 => ?_)
  refine Y.op (pc' := 20) (fun _ => X.goto 20 (by decide) dX8_finish_172) ?_
  exact hkH x0 x1 x2 x3 v1 h
def f_X8_finish_J153 (kH : Nat → Int32 → Int32 → Int64 → Int32 → xH → Option (xH)) (kE175 : Nat → Int64 → xH → Option (xH)) (x0 : Nat) (x1 : Int32) (x2 : Int32) (x3 : Int64) (x5 : Int32) (h : xH) : Option (xH) :=
  (gJ h 8 x0 5).bind fun v1 =>
  (gR h 8 x0 0).bind fun v2 =>
  (aJ h v2 x5).bind fun v3 =>
  (pJ h 8 x0 5 (v1 + v3)).bind fun h4 =>
  f_X8_finish_J169 (kH) kE175 x0 x1 x2 x3 x5 h4
theorem y_X8_finish_J153 {g : xG} {h0 : xH} {cl : Bool} {kH : Nat → Int32 → Int32 → Int64 → Int32 → xH → Option (xH)} {kE175 : Nat → Int64 → xH → Option (xH)} (hkH : ∀ (x0 : Nat) (x1 : Int32) (x2 : Int32) (x3 : Int64) (x5 : Int32) (h : xH), Y g DX8_finish h0 cl iV (kH x0 x1 x2 x3 x5 h) 20 [some (.ref x0), some (.int x1), some (.int x2), some (.long x3), none, some (.int x5)] [] h) (hkE175 : ∀ (x0 : Nat) (x3 : Int64) (h : xH), Y g DX8_finish h0 cl iV (kE175 x0 x3 h) 175 [some (.ref x0), none, none, some (.long x3), none, none] [] h) (x0 : Nat) (x1 : Int32) (x2 : Int32) (x3 : Int64) (x5 : Int32) (h : xH) : Y g DX8_finish h0 cl iV (f_X8_finish_J153 kH kE175 x0 x1 x2 x3 x5 h) 153 [some (.ref x0), some (.int x1), some (.int x2), some (.long x3), none, some (.int x5)] [] h := by
  unfold f_X8_finish_J153
  refine Y.op (pc' := 154) (fun _ => X.aloadn rfl dX8_finish_153) ?_
  refine Y.op (pc' := 155) (fun _ => X.dup rfl dX8_finish_154) ?_
  refine Y.getJ fd_X8_28 rfl dX8_finish_155 (fun v1 => ?_)
  refine Y.op (pc' := 159) (fun _ => X.aloadn rfl dX8_finish_158) ?_
  refine Y.getR fd_X8_9 rfl dX8_finish_159 (fun v2 => ?_)
  refine Y.op (pc' := 164) (fun _ => X.iload rfl dX8_finish_162) ?_
  refine Y.aldJ dX8_finish_164 (fun v3 => ?_)
  refine Y.op (pc' := 166) (fun _ => X.ladd dX8_finish_165) ?_
  refine Y.putJ fd_X8_28 rfl dX8_finish_166 (fun h4 => ?_)
  exact y_X8_finish_J169 hkH hkE175 x0 x1 x2 x3 x5 h4
def f_X8_finish_J78 (kH : Nat → Int32 → Int32 → Int64 → Int32 → xH → Option (xH)) (kE175 : Nat → Int64 → xH → Option (xH)) (x0 : Nat) (x1 : Int32) (x2 : Int32) (x5 : Int32) (h : xH) : Option (xH) :=
  (gR h 8 x0 3).bind fun v1 =>
  (aI h v1 x5).bind fun v2 =>
  (pI h 8 x0 7 v2).bind fun h3 =>
  (gR h3 8 x0 1).bind fun v4 =>
  (aJ h3 v4 x5).bind fun v5 =>
  (pJ h3 8 x0 6 v5).bind fun h6 =>
  (gR h6 8 x0 2).bind fun v7 =>
  (aJ h6 v7 x5).bind fun v8 =>
  f_X8_finish_J153 (kH) kE175 x0 x1 x2 v8 x5 h6
theorem y_X8_finish_J78 {g : xG} {h0 : xH} {cl : Bool} {kH : Nat → Int32 → Int32 → Int64 → Int32 → xH → Option (xH)} {kE175 : Nat → Int64 → xH → Option (xH)} (hkH : ∀ (x0 : Nat) (x1 : Int32) (x2 : Int32) (x3 : Int64) (x5 : Int32) (h : xH), Y g DX8_finish h0 cl iV (kH x0 x1 x2 x3 x5 h) 20 [some (.ref x0), some (.int x1), some (.int x2), some (.long x3), none, some (.int x5)] [] h) (hkE175 : ∀ (x0 : Nat) (x3 : Int64) (h : xH), Y g DX8_finish h0 cl iV (kE175 x0 x3 h) 175 [some (.ref x0), none, none, some (.long x3), none, none] [] h) (x0 : Nat) (x1 : Int32) (x2 : Int32) (x5 : Int32) (h : xH) : Y g DX8_finish h0 cl iV (f_X8_finish_J78 kH kE175 x0 x1 x2 x5 h) 78 [some (.ref x0), some (.int x1), some (.int x2), none, none, some (.int x5)] [] h := by
  unfold f_X8_finish_J78
  refine Y.op (pc' := 79) (fun _ => X.aloadn rfl dX8_finish_78) ?_
  refine Y.op (pc' := 80) (fun _ => X.aloadn rfl dX8_finish_79) ?_
  refine Y.getR fd_X8_21 rfl dX8_finish_80 (fun v1 => ?_)
  refine Y.op (pc' := 85) (fun _ => X.iload rfl dX8_finish_83) ?_
  refine Y.aldI dX8_finish_85 (fun v2 => ?_)
  refine Y.putI fd_X8_35 rfl dX8_finish_86 (fun h3 => ?_)
  refine Y.op (pc' := 90) (fun _ => X.aloadn rfl dX8_finish_89) ?_
  refine Y.op (pc' := 91) (fun _ => X.aloadn rfl dX8_finish_90) ?_
  refine Y.getR fd_X8_15 rfl dX8_finish_91 (fun v4 => ?_)
  refine Y.op (pc' := 96) (fun _ => X.iload rfl dX8_finish_94) ?_
  refine Y.aldJ dX8_finish_96 (fun v5 => ?_)
  refine Y.putJ fd_X8_32 rfl dX8_finish_97 (fun h6 => ?_)
  refine Y.op (pc' := 101) (fun _ => X.aloadn rfl dX8_finish_100) ?_
  refine Y.getR fd_X8_18 rfl dX8_finish_101 (fun v7 => ?_)
  refine Y.op (pc' := 106) (fun _ => X.iload rfl dX8_finish_104) ?_
  refine Y.aldJ dX8_finish_106 (fun v8 => ?_)
  refine Y.op (pc' := 108) (loc' := [some (.ref x0), some (.int x1), some (.int x2), some (.long v8), none, some (.int x5)]) (fun _ => X.lstoren (Nat.le_of_ble_eq_true rfl) rfl dX8_finish_107) ?_
  refine Y.op (pc' := 153) (fun _ => X.goto 153 (by decide) dX8_finish_108) ?_
  exact y_X8_finish_J153 hkH hkE175 x0 x1 x2 v8 x5 h6
def f_X8_finish_L20 (kE175 : Nat → Int64 → xH → Option (xH)) : Nat → Nat → Int32 → Int32 → Int64 → Int32 → xH → Option (xH)
  | 0 => fun _ _ _ _ _ _ => none
  | n + 1 => fun x0 x1 x2 x3 x5 h =>
    if x5 ≥ x2 then
      kE175 x0 x3 h
    else
      if x5 ≥ (4096 : Int32) then
        kE175 x0 x3 h
      else
        (gR h 8 x0 0).bind fun v1 =>
        (aJ h v1 x5).bind fun v2 =>
        if (lg_cmp v2 (0 : Int64)) = (0 : Int32) then
          f_X8_finish_J169 (f_X8_finish_L20 kE175 n) kE175 x0 x1 x2 x3 x5 h
        else
          (f_J6_bitCount_0f7a4 x5 h).bind fun r3 =>
          if r3.1 = x1 then
            (gJ r3.2 8 x0 5).bind fun v4 =>
            if (lg_cmp v4 (0 : Int64)) = (0 : Int32) then
              f_X8_finish_J78 (f_X8_finish_L20 kE175 n) kE175 x0 x1 x2 x5 r3.2
            else
              (gR r3.2 8 x0 3).bind fun v5 =>
              (aI r3.2 v5 x5).bind fun v6 =>
              (gI r3.2 8 x0 7).bind fun v7 =>
              if v6 ≥ v7 then
                (gR r3.2 8 x0 3).bind fun v8 =>
                (aI r3.2 v8 x5).bind fun v9 =>
                (gI r3.2 8 x0 7).bind fun v10 =>
                if v9 = v10 then
                  (gJ r3.2 8 x0 6).bind fun v11 =>
                  (gR r3.2 8 x0 1).bind fun v12 =>
                  (aJ r3.2 v12 x5).bind fun v13 =>
                  (pJ r3.2 8 x0 6 (v11 + v13)).bind fun h14 =>
                  (gR h14 8 x0 2).bind fun v15 =>
                  (aJ h14 v15 x5).bind fun v16 =>
                  lt ((lmin x3 v16)) fun v17 =>
                  f_X8_finish_J153 (f_X8_finish_L20 kE175 n) kE175 x0 x1 x2 v17 x5 h14
                else
                  f_X8_finish_J153 (f_X8_finish_L20 kE175 n) kE175 x0 x1 x2 x3 x5 r3.2
              else
                f_X8_finish_J78 (f_X8_finish_L20 kE175 n) kE175 x0 x1 x2 x5 r3.2
          else
            f_X8_finish_J169 (f_X8_finish_L20 kE175 n) kE175 x0 x1 x2 x3 x5 r3.2
theorem y_X8_finish_L20 {g : xG} {h0 : xH} {cl : Bool} {kE175 : Nat → Int64 → xH → Option (xH)} (hkE175 : ∀ (x0 : Nat) (x3 : Int64) (h : xH), Y g DX8_finish h0 cl iV (kE175 x0 x3 h) 175 [some (.ref x0), none, none, some (.long x3), none, none] [] h) : ∀ (n : Nat) (x0 : Nat) (x1 : Int32) (x2 : Int32) (x3 : Int64) (x5 : Int32) (h : xH), Y g DX8_finish h0 cl iV (f_X8_finish_L20 kE175 n x0 x1 x2 x3 x5 h) 20 [some (.ref x0), some (.int x1), some (.int x2), some (.long x3), none, some (.int x5)] [] h := by
  intro n
  induction n with
  | zero => intro x0 x1 x2 x3 x5 h; exact Y.nothing
  | succ n ih =>
    intro x0 x1 x2 x3 x5 h
    unfold f_X8_finish_L20
    refine Y.op (pc' := 22) (fun _ => X.iload rfl dX8_finish_20) ?_
    refine Y.op (pc' := 23) (fun _ => X.iloadn rfl dX8_finish_22) ?_
    refine Y.cmpge 175 (by decide) dX8_finish_23 ?_ ?_
    · exact Y.fg (hkE175 x0 x3 h) (And.intro rfl (And.intro rfl trivial))
    · refine Y.op (pc' := 28) (fun _ => X.iload rfl dX8_finish_26) ?_
      refine Y.op (pc' := 31) (fun _ => X.sp ks_4096 dX8_finish_28) ?_
      refine Y.cmpge 175 (by decide) dX8_finish_31 ?_ ?_
      · exact Y.fg (hkE175 x0 x3 h) (And.intro rfl (And.intro rfl trivial))
      · refine Y.op (pc' := 35) (fun _ => X.aloadn rfl dX8_finish_34) ?_
        refine Y.getR fd_X8_9 rfl dX8_finish_35 (fun v1 => ?_)
        refine Y.op (pc' := 40) (fun _ => X.iload rfl dX8_finish_38) ?_
        refine Y.aldJ dX8_finish_40 (fun v2 => ?_)
        refine Y.op (pc' := 42) (fun _ => X.lc kl_0 dX8_finish_41) ?_
        refine Y.op (pc' := 43) (fun _ => X.lcmp dX8_finish_42) ?_
        refine Y.ifeq 169 (by decide) dX8_finish_43 ?_ ?_
        · exact y_X8_finish_J169 ih hkE175 x0 x1 x2 x3 x5 h
        · refine Y.op (pc' := 48) (fun _ => X.iload rfl dX8_finish_46) ?_
          refine Y.callSi (As := [.int x5]) lk_X8_57 rfl cal_J6_bitCount_0f7a4 sta_J6_bitCount_0f7a4 (Nat.le_of_ble_eq_true rfl) rfl rfl (Nat.le_of_ble_eq_true rfl) dX8_finish_48 (fun _ e => m_J6_bitCount_0f7a4 x5 h _ _ e) (fun r3 => ?_)
          refine Y.op (pc' := 52) (fun _ => X.iloadn rfl dX8_finish_51) ?_
          refine Y.cmpne 169 (by decide) dX8_finish_52 ?_ ?_
          · exact y_X8_finish_J169 ih hkE175 x0 x1 x2 x3 x5 r3.2
          · refine Y.op (pc' := 56) (fun _ => X.aloadn rfl dX8_finish_55) ?_
            refine Y.getJ fd_X8_28 rfl dX8_finish_56 (fun v4 => ?_)
            refine Y.op (pc' := 60) (fun _ => X.lc kl_0 dX8_finish_59) ?_
            refine Y.op (pc' := 61) (fun _ => X.lcmp dX8_finish_60) ?_
            refine Y.ifeq 78 (by decide) dX8_finish_61 ?_ ?_
            · exact Y.fg (y_X8_finish_J78 ih hkE175 x0 x1 x2 x5 r3.2) (And.intro rfl (And.intro rfl (And.intro rfl (And.intro rfl trivial))))
            · refine Y.op (pc' := 65) (fun _ => X.aloadn rfl dX8_finish_64) ?_
              refine Y.getR fd_X8_21 rfl dX8_finish_65 (fun v5 => ?_)
              refine Y.op (pc' := 70) (fun _ => X.iload rfl dX8_finish_68) ?_
              refine Y.aldI dX8_finish_70 (fun v6 => ?_)
              refine Y.op (pc' := 72) (fun _ => X.aloadn rfl dX8_finish_71) ?_
              refine Y.getI fd_X8_35 rfl dX8_finish_72 (fun v7 => ?_)
              refine Y.cmpge 111 (by decide) dX8_finish_75 ?_ ?_
              · refine Y.op (pc' := 112) (fun _ => X.aloadn rfl dX8_finish_111) ?_
                refine Y.getR fd_X8_21 rfl dX8_finish_112 (fun v8 => ?_)
                refine Y.op (pc' := 117) (fun _ => X.iload rfl dX8_finish_115) ?_
                refine Y.aldI dX8_finish_117 (fun v9 => ?_)
                refine Y.op (pc' := 119) (fun _ => X.aloadn rfl dX8_finish_118) ?_
                refine Y.getI fd_X8_35 rfl dX8_finish_119 (fun v10 => ?_)
                refine Y.cmpne 153 (by decide) dX8_finish_122 ?_ ?_
                · exact y_X8_finish_J153 ih hkE175 x0 x1 x2 x3 x5 r3.2
                · refine Y.op (pc' := 126) (fun _ => X.aloadn rfl dX8_finish_125) ?_
                  refine Y.op (pc' := 127) (fun _ => X.dup rfl dX8_finish_126) ?_
                  refine Y.getJ fd_X8_32 rfl dX8_finish_127 (fun v11 => ?_)
                  refine Y.op (pc' := 131) (fun _ => X.aloadn rfl dX8_finish_130) ?_
                  refine Y.getR fd_X8_15 rfl dX8_finish_131 (fun v12 => ?_)
                  refine Y.op (pc' := 136) (fun _ => X.iload rfl dX8_finish_134) ?_
                  refine Y.aldJ dX8_finish_136 (fun v13 => ?_)
                  refine Y.op (pc' := 138) (fun _ => X.ladd dX8_finish_137) ?_
                  refine Y.putJ fd_X8_32 rfl dX8_finish_138 (fun h14 => ?_)
                  refine Y.op (pc' := 142) (fun _ => X.lloadn rfl dX8_finish_141) ?_
                  refine Y.op (pc' := 143) (fun _ => X.aloadn rfl dX8_finish_142) ?_
                  refine Y.getR fd_X8_18 rfl dX8_finish_143 (fun v15 => ?_)
                  refine Y.op (pc' := 148) (fun _ => X.iload rfl dX8_finish_146) ?_
                  refine Y.aldJ dX8_finish_148 (fun v16 => ?_)
                  refine Y.mminJ mw_X8_90 rfl (Nat.le_of_ble_eq_true rfl) (Nat.le_of_ble_eq_true rfl) dX8_finish_149 ?_
                  refine Y.topl (fun v17 => ?_)
                  refine Y.op (pc' := 153) (loc' := [some (.ref x0), some (.int x1), some (.int x2), some (.long v17), none, some (.int x5)]) (fun _ => X.lstoren (Nat.le_of_ble_eq_true rfl) rfl dX8_finish_152) ?_
                  exact y_X8_finish_J153 ih hkE175 x0 x1 x2 v17 x5 h14
              · exact Y.fg (y_X8_finish_J78 ih hkE175 x0 x1 x2 x5 r3.2) (And.intro rfl (And.intro rfl (And.intro rfl (And.intro rfl trivial))))
def f_X8_finish (a0 : Nat) (p1 : Int32) (p2 : Int32) (h : xH) : Option (xH) :=
  (pJ h 8 a0 5 (0 : Int64)).bind fun h1 =>
  (pJ h1 8 a0 6 (0 : Int64)).bind fun h2 =>
  (pI h2 8 a0 7 (0 : Int32)).bind fun h3 =>
  f_X8_finish_L20 (f_X8_finish_J175) 5000 a0 p1 p2 (0 : Int64) (0 : Int32) h3
theorem y_X8_finish {g : xG} {h0 : xH} {cl : Bool} (a0 : Nat) (p1 : Int32) (p2 : Int32) (h : xH) : Y g DX8_finish h0 cl iV (f_X8_finish a0 p1 p2 h) 0 [some (.ref a0), some (.int p1), some (.int p2), none, none, none] [] h := by
  unfold f_X8_finish
  refine Y.op (pc' := 1) (fun _ => X.aloadn rfl dX8_finish_0) ?_
  refine Y.op (pc' := 2) (fun _ => X.lc kl_0 dX8_finish_1) ?_
  refine Y.putJ fd_X8_28 rfl dX8_finish_2 (fun h1 => ?_)
  refine Y.op (pc' := 6) (fun _ => X.aloadn rfl dX8_finish_5) ?_
  refine Y.op (pc' := 7) (fun _ => X.lc kl_0 dX8_finish_6) ?_
  refine Y.putJ fd_X8_32 rfl dX8_finish_7 (fun h2 => ?_)
  refine Y.op (pc' := 11) (fun _ => X.aloadn rfl dX8_finish_10) ?_
  refine Y.op (pc' := 12) (fun _ => X.ic ki_0 dX8_finish_11) ?_
  refine Y.putI fd_X8_35 rfl dX8_finish_12 (fun h3 => ?_)
  refine Y.op (pc' := 16) (fun _ => X.lc kl_0 dX8_finish_15) ?_
  refine Y.op (pc' := 17) (loc' := [some (.ref a0), some (.int p1), some (.int p2), some (.long (0 : Int64)), none, none]) (fun _ => X.lstoren (Nat.le_of_ble_eq_true rfl) rfl dX8_finish_16) ?_
  refine Y.op (pc' := 18) (fun _ => X.ic ki_0 dX8_finish_17) ?_
  refine Y.op (pc' := 20) (loc' := [some (.ref a0), some (.int p1), some (.int p2), some (.long (0 : Int64)), none, some (.int (0 : Int32))]) (fun _ => X.istore (Nat.le_of_ble_eq_true rfl) rfl dX8_finish_18) ?_
  exact y_X8_finish_L20 (y_X8_finish_J175) 5000 a0 p1 p2 (0 : Int64) (0 : Int32) h3
theorem m_X8_finish {g : xG} (a0 : Nat) (p1 : Int32) (p2 : Int32) (h : xH) (cl : Bool) (r : xH) (e : f_X8_finish a0 p1 p2 h = some r) : XM g DX8_finish [.ref a0, .int p1, .int p2] h cl (iV r) := YM.of rfl rfl (Nat.le_of_ble_eq_true rfl) (y_X8_finish a0 p1 p2 h) e
def f_X8_run_J148 (x0 : Nat) (x3 : Int32) (x4 : Int32) (h : xH) : Option (xH) :=
  (vc h 8 x0 (f_X8_finish x0 x3 x4 h)).bind fun h1 =>
  some h1
theorem y_X8_run_J148 {g : xG} {h0 : xH} {cl : Bool} (x0 : Nat) (x3 : Int32) (x4 : Int32) (h : xH) : Y g DX8_run h0 cl iV (f_X8_run_J148 x0 x3 x4 h) 148 [some (.ref x0), none, none, some (.int x3), some (.int x4), none, none, none, none] [] h := by
  unfold f_X8_run_J148
  refine Y.op (pc' := 149) (fun _ => X.aloadn rfl dX8_run_148) ?_
  refine Y.op (pc' := 150) (fun _ => X.iloadn rfl dX8_run_149) ?_
  refine Y.op (pc' := 152) (fun _ => X.iload rfl dX8_run_150) ?_
  refine Y.callVv (As := [.int x3, .int x4]) lk_X8_77 rfl cal_X8_finish vir_X8_finish (Nat.le_of_ble_eq_true rfl) (Nat.le_of_ble_eq_true rfl) rfl rfl rfl (Nat.le_of_ble_eq_true rfl) dX8_run_152 (fun _ e => m_X8_finish x0 x3 x4 h _ _ e) (fun h1 => ?_)
  exact Y.vreturn rfl dX8_run_155
def f_X8_run_J134 (kH : Nat → Nat → Nat → Int32 → Int32 → Int32 → Int64 → Int32 → xH → Option (xH)) (kE148 : Nat → Int32 → Int32 → xH → Option (xH)) (x0 : Nat) (x1 : Nat) (x2 : Nat) (x3 : Int32) (x4 : Int32) (x5 : Int32) (x6 : Int64) (x8 : Int32) (h : xH) : Option (xH) :=
  lt ((x6 / (13 : Int64))) fun v1 =>
  lt (x8 + (1 : Int32)) fun v2 =>
  kH x0 x1 x2 x3 x4 x5 v1 v2 h
theorem y_X8_run_J134 {g : xG} {h0 : xH} {cl : Bool} {kH : Nat → Nat → Nat → Int32 → Int32 → Int32 → Int64 → Int32 → xH → Option (xH)} {kE148 : Nat → Int32 → Int32 → xH → Option (xH)} (hkH : ∀ (x0 : Nat) (x1 : Nat) (x2 : Nat) (x3 : Int32) (x4 : Int32) (x5 : Int32) (x6 : Int64) (x8 : Int32) (h : xH), Y g DX8_run h0 cl iV (kH x0 x1 x2 x3 x4 x5 x6 x8 h) 91 [some (.ref x0), some (.ref x1), some (.ref x2), some (.int x3), some (.int x4), some (.int x5), some (.long x6), none, some (.int x8)] [] h) (hkE148 : ∀ (x0 : Nat) (x3 : Int32) (x4 : Int32) (h : xH), Y g DX8_run h0 cl iV (kE148 x0 x3 x4 h) 148 [some (.ref x0), none, none, some (.int x3), some (.int x4), none, none, none, none] [] h) (x0 : Nat) (x1 : Nat) (x2 : Nat) (x3 : Int32) (x4 : Int32) (x5 : Int32) (x6 : Int64) (x8 : Int32) (h : xH) : Y g DX8_run h0 cl iV (f_X8_run_J134 kH kE148 x0 x1 x2 x3 x4 x5 x6 x8 h) 134 [some (.ref x0), some (.ref x1), some (.ref x2), some (.int x3), some (.int x4), some (.int x5), some (.long x6), none, some (.int x8)] [] h := by
  unfold f_X8_run_J134
  refine Y.op (pc' := 136) (fun _ => X.lload rfl dX8_run_134) ?_
  refine Y.op (pc' := 139) (fun _ => X.ldcL wl_X8_75 rfl dX8_run_136) ?_
  refine Y.op (pc' := 140) (fun _ => X.ldiv (by decide) dX8_run_139) ?_
  refine Y.topl (fun v1 => ?_)
  refine Y.op (pc' := 142) (loc' := [some (.ref x0), some (.ref x1), some (.ref x2), some (.int x3), some (.int x4), some (.int x5), some (.long v1), none, some (.int x8)]) (fun _ => X.lstore (Nat.le_of_ble_eq_true rfl) rfl dX8_run_140) ?_
  refine Y.iinc (i := 8) (loc' := fun v2 => [some (.ref x0), some (.ref x1), some (.ref x2), some (.int x3), some (.int x4), some (.int x5), some (.long v1), none, some (.int v2)]) rfl (Nat.le_of_ble_eq_true rfl) ki_1 (fun _ => rfl) dX8_run_142 (fun v2 => ?_)
  refine Y.op (pc' := 91) (fun _ => X.goto 91 (by decide) dX8_run_145) ?_
  exact hkH x0 x1 x2 x3 x4 x5 v1 v2 h
def f_X8_run_L91 (kE148 : Nat → Int32 → Int32 → xH → Option (xH)) : Nat → Nat → Nat → Nat → Int32 → Int32 → Int32 → Int64 → Int32 → xH → Option (xH)
  | 0 => fun _ _ _ _ _ _ _ _ _ => none
  | n + 1 => fun x0 x1 x2 x3 x4 x5 x6 x8 h =>
    if x8 ≥ (12 : Int32) then
      kE148 x0 x3 x4 h
    else
      (gI h 7 x2 8).bind fun v1 =>
      (f_X9_has v1 x8 h).bind fun r2 =>
      if r2.1 = (0 : Int32) then
        f_X8_run_J134 (f_X8_run_L91 kE148 n) kE148 x0 x1 x2 x3 x4 x5 x6 x8 r2.2
      else
        (vc r2.2 7 x2 (f_X7_row x2 x8 r2.2)).bind fun r3 =>
        (vc r3.2 8 x0 (f_X8_extend x0 x1 r3.1 x8 x6 (x3 - x5) x4 r3.2)).bind fun h4 =>
        lt (x5 + (-1 : Int32)) fun v5 =>
        f_X8_run_J134 (f_X8_run_L91 kE148 n) kE148 x0 x1 x2 x3 x4 v5 x6 x8 h4
theorem y_X8_run_L91 {g : xG} {h0 : xH} {cl : Bool} {kE148 : Nat → Int32 → Int32 → xH → Option (xH)} (hkE148 : ∀ (x0 : Nat) (x3 : Int32) (x4 : Int32) (h : xH), Y g DX8_run h0 cl iV (kE148 x0 x3 x4 h) 148 [some (.ref x0), none, none, some (.int x3), some (.int x4), none, none, none, none] [] h) : ∀ (n : Nat) (x0 : Nat) (x1 : Nat) (x2 : Nat) (x3 : Int32) (x4 : Int32) (x5 : Int32) (x6 : Int64) (x8 : Int32) (h : xH), Y g DX8_run h0 cl iV (f_X8_run_L91 kE148 n x0 x1 x2 x3 x4 x5 x6 x8 h) 91 [some (.ref x0), some (.ref x1), some (.ref x2), some (.int x3), some (.int x4), some (.int x5), some (.long x6), none, some (.int x8)] [] h := by
  intro n
  induction n with
  | zero => intro x0 x1 x2 x3 x4 x5 x6 x8 h; exact Y.nothing
  | succ n ih =>
    intro x0 x1 x2 x3 x4 x5 x6 x8 h
    unfold f_X8_run_L91
    refine Y.op (pc' := 93) (fun _ => X.iload rfl dX8_run_91) ?_
    refine Y.op (pc' := 95) (fun _ => X.bp kb_12 dX8_run_93) ?_
    refine Y.cmpge 148 (by decide) dX8_run_95 ?_ ?_
    · exact Y.fg (hkE148 x0 x3 x4 h) (And.intro rfl (And.intro rfl (And.intro rfl trivial)))
    · refine Y.op (pc' := 99) (fun _ => X.aloadn rfl dX8_run_98) ?_
      refine Y.getI fd_X8_54 rfl dX8_run_99 (fun v1 => ?_)
      refine Y.op (pc' := 104) (fun _ => X.iload rfl dX8_run_102) ?_
      refine Y.callSi (As := [.int v1, .int x8]) lk_X8_64 rfl cal_X9_has sta_X9_has (Nat.le_of_ble_eq_true rfl) rfl rfl (Nat.le_of_ble_eq_true rfl) dX8_run_104 (fun _ e => m_X9_has v1 x8 h _ _ e) (fun r2 => ?_)
      refine Y.ifeq 134 (by decide) dX8_run_107 ?_ ?_
      · exact y_X8_run_J134 ih hkE148 x0 x1 x2 x3 x4 x5 x6 x8 r2.2
      · refine Y.op (pc' := 111) (fun _ => X.aloadn rfl dX8_run_110) ?_
        refine Y.op (pc' := 112) (fun _ => X.aloadn rfl dX8_run_111) ?_
        refine Y.op (pc' := 113) (fun _ => X.aloadn rfl dX8_run_112) ?_
        refine Y.op (pc' := 115) (fun _ => X.iload rfl dX8_run_113) ?_
        refine Y.callVi (As := [.int x8]) lk_X8_68 rfl cal_X7_row vir_X7_row (Nat.le_of_ble_eq_true rfl) (Nat.le_of_ble_eq_true rfl) rfl rfl rfl (Nat.le_of_ble_eq_true rfl) dX8_run_115 (fun _ e => m_X7_row x2 x8 r2.2 _ _ e) (fun r3 => ?_)
        refine Y.op (pc' := 120) (fun _ => X.iload rfl dX8_run_118) ?_
        refine Y.op (pc' := 122) (fun _ => X.lload rfl dX8_run_120) ?_
        refine Y.op (pc' := 123) (fun _ => X.iloadn rfl dX8_run_122) ?_
        refine Y.op (pc' := 125) (fun _ => X.iload rfl dX8_run_123) ?_
        refine Y.op (pc' := 126) (fun _ => X.isub dX8_run_125) ?_
        refine Y.op (pc' := 128) (fun _ => X.iload rfl dX8_run_126) ?_
        refine Y.callVv (As := [.ref x1, .int r3.1, .int x8, .long x6, .int (x3 - x5), .int x4]) lk_X8_71 rfl cal_X8_extend vir_X8_extend (Nat.le_of_ble_eq_true rfl) (Nat.le_of_ble_eq_true rfl) rfl rfl rfl (Nat.le_of_ble_eq_true rfl) dX8_run_128 (fun _ e => m_X8_extend x0 x1 r3.1 x8 x6 (x3 - x5) x4 r3.2 _ _ e) (fun h4 => ?_)
        refine Y.iinc (i := 5) (loc' := fun v5 => [some (.ref x0), some (.ref x1), some (.ref x2), some (.int x3), some (.int x4), some (.int v5), some (.long x6), none, some (.int x8)]) rfl (Nat.le_of_ble_eq_true rfl) ki_m1 (fun _ => rfl) dX8_run_131 (fun v5 => ?_)
        exact y_X8_run_J134 ih hkE148 x0 x1 x2 x3 x4 v5 x6 x8 h4
def f_X8_run_J46 (x0 : Nat) (x1 : Nat) (x2 : Nat) (x3 : Int32) (x4 : Int32) (h : xH) : Option (xH) :=
  (gR h 8 x0 0).bind fun v1 =>
  (sJ h v1 (0 : Int32) (1 : Int64)).bind fun h2 =>
  (gR h2 8 x0 1).bind fun v3 =>
  (sJ h2 v3 (0 : Int32) (1 : Int64)).bind fun h4 =>
  (gR h4 8 x0 2).bind fun v5 =>
  (sJ h4 v5 (0 : Int32) (0 : Int64)).bind fun h6 =>
  (gR h6 8 x0 3).bind fun v7 =>
  (sI h6 v7 (0 : Int32) (0 : Int32)).bind fun h8 =>
  (gI h8 7 x2 8).bind fun v9 =>
  (f_J6_bitCount_0f7a4 v9 h8).bind fun r10 =>
  f_X8_run_L91 (f_X8_run_J148) 5000 x0 x1 x2 x3 x4 r10.1 (1792160394037 : Int64) (0 : Int32) r10.2
theorem y_X8_run_J46 {g : xG} {h0 : xH} {cl : Bool} (x0 : Nat) (x1 : Nat) (x2 : Nat) (x3 : Int32) (x4 : Int32) (h : xH) : Y g DX8_run h0 cl iV (f_X8_run_J46 x0 x1 x2 x3 x4 h) 46 [some (.ref x0), some (.ref x1), some (.ref x2), some (.int x3), some (.int x4), none, none, none, none] [] h := by
  unfold f_X8_run_J46
  refine Y.op (pc' := 47) (fun _ => X.aloadn rfl dX8_run_46) ?_
  refine Y.getR fd_X8_9 rfl dX8_run_47 (fun v1 => ?_)
  refine Y.op (pc' := 51) (fun _ => X.ic ki_0 dX8_run_50) ?_
  refine Y.op (pc' := 52) (fun _ => X.lc kl_1 dX8_run_51) ?_
  refine Y.astJ dX8_run_52 (fun h2 => ?_)
  refine Y.op (pc' := 54) (fun _ => X.aloadn rfl dX8_run_53) ?_
  refine Y.getR fd_X8_15 rfl dX8_run_54 (fun v3 => ?_)
  refine Y.op (pc' := 58) (fun _ => X.ic ki_0 dX8_run_57) ?_
  refine Y.op (pc' := 59) (fun _ => X.lc kl_1 dX8_run_58) ?_
  refine Y.astJ dX8_run_59 (fun h4 => ?_)
  refine Y.op (pc' := 61) (fun _ => X.aloadn rfl dX8_run_60) ?_
  refine Y.getR fd_X8_18 rfl dX8_run_61 (fun v5 => ?_)
  refine Y.op (pc' := 65) (fun _ => X.ic ki_0 dX8_run_64) ?_
  refine Y.op (pc' := 66) (fun _ => X.lc kl_0 dX8_run_65) ?_
  refine Y.astJ dX8_run_66 (fun h6 => ?_)
  refine Y.op (pc' := 68) (fun _ => X.aloadn rfl dX8_run_67) ?_
  refine Y.getR fd_X8_21 rfl dX8_run_68 (fun v7 => ?_)
  refine Y.op (pc' := 72) (fun _ => X.ic ki_0 dX8_run_71) ?_
  refine Y.op (pc' := 73) (fun _ => X.ic ki_0 dX8_run_72) ?_
  refine Y.astI dX8_run_73 (fun h8 => ?_)
  refine Y.op (pc' := 75) (fun _ => X.aloadn rfl dX8_run_74) ?_
  refine Y.getI fd_X8_54 rfl dX8_run_75 (fun v9 => ?_)
  refine Y.callSi (As := [.int v9]) lk_X8_57 rfl cal_J6_bitCount_0f7a4 sta_J6_bitCount_0f7a4 (Nat.le_of_ble_eq_true rfl) rfl rfl (Nat.le_of_ble_eq_true rfl) dX8_run_78 (fun _ e => m_J6_bitCount_0f7a4 v9 h8 _ _ e) (fun r10 => ?_)
  refine Y.op (pc' := 83) (loc' := [some (.ref x0), some (.ref x1), some (.ref x2), some (.int x3), some (.int x4), some (.int r10.1), none, none, none]) (fun _ => X.istore (Nat.le_of_ble_eq_true rfl) rfl dX8_run_81) ?_
  refine Y.op (pc' := 86) (fun _ => X.ldcL wl_X8_62 rfl dX8_run_83) ?_
  refine Y.op (pc' := 88) (loc' := [some (.ref x0), some (.ref x1), some (.ref x2), some (.int x3), some (.int x4), some (.int r10.1), some (.long (1792160394037 : Int64)), none, none]) (fun _ => X.lstore (Nat.le_of_ble_eq_true rfl) rfl dX8_run_86) ?_
  refine Y.op (pc' := 89) (fun _ => X.ic ki_0 dX8_run_88) ?_
  refine Y.op (pc' := 91) (loc' := [some (.ref x0), some (.ref x1), some (.ref x2), some (.int x3), some (.int x4), some (.int r10.1), some (.long (1792160394037 : Int64)), none, some (.int (0 : Int32))]) (fun _ => X.istore (Nat.le_of_ble_eq_true rfl) rfl dX8_run_89) ?_
  exact y_X8_run_L91 (y_X8_run_J148) 5000 x0 x1 x2 x3 x4 r10.1 (1792160394037 : Int64) (0 : Int32) r10.2
def f_X8_run_L17 (kE46 : Nat → Nat → Nat → Int32 → Int32 → xH → Option (xH)) : Nat → Nat → Nat → Nat → Int32 → Int32 → Int32 → xH → Option (xH)
  | 0 => fun _ _ _ _ _ _ _ => none
  | n + 1 => fun x0 x1 x2 x3 x4 x5 h =>
    if x5 ≥ x4 then
      kE46 x0 x1 x2 x3 x4 h
    else
      if x5 ≥ (4096 : Int32) then
        kE46 x0 x1 x2 x3 x4 h
      else
        (gR h 8 x0 0).bind fun v1 =>
        (sJ h v1 x5 (0 : Int64)).bind fun h2 =>
        lt (x5 + (1 : Int32)) fun v3 =>
        f_X8_run_L17 kE46 n x0 x1 x2 x3 x4 v3 h2
theorem y_X8_run_L17 {g : xG} {h0 : xH} {cl : Bool} {kE46 : Nat → Nat → Nat → Int32 → Int32 → xH → Option (xH)} (hkE46 : ∀ (x0 : Nat) (x1 : Nat) (x2 : Nat) (x3 : Int32) (x4 : Int32) (h : xH), Y g DX8_run h0 cl iV (kE46 x0 x1 x2 x3 x4 h) 46 [some (.ref x0), some (.ref x1), some (.ref x2), some (.int x3), some (.int x4), none, none, none, none] [] h) : ∀ (n : Nat) (x0 : Nat) (x1 : Nat) (x2 : Nat) (x3 : Int32) (x4 : Int32) (x5 : Int32) (h : xH), Y g DX8_run h0 cl iV (f_X8_run_L17 kE46 n x0 x1 x2 x3 x4 x5 h) 17 [some (.ref x0), some (.ref x1), some (.ref x2), some (.int x3), some (.int x4), some (.int x5), none, none, none] [] h := by
  intro n
  induction n with
  | zero => intro x0 x1 x2 x3 x4 x5 h; exact Y.nothing
  | succ n ih =>
    intro x0 x1 x2 x3 x4 x5 h
    unfold f_X8_run_L17
    refine Y.op (pc' := 19) (fun _ => X.iload rfl dX8_run_17) ?_
    refine Y.op (pc' := 21) (fun _ => X.iload rfl dX8_run_19) ?_
    refine Y.cmpge 46 (by decide) dX8_run_21 ?_ ?_
    · exact Y.fg (hkE46 x0 x1 x2 x3 x4 h) (And.intro rfl (And.intro rfl (And.intro rfl (And.intro rfl (And.intro rfl trivial)))))
    · refine Y.op (pc' := 26) (fun _ => X.iload rfl dX8_run_24) ?_
      refine Y.op (pc' := 29) (fun _ => X.sp ks_4096 dX8_run_26) ?_
      refine Y.cmpge 46 (by decide) dX8_run_29 ?_ ?_
      · exact Y.fg (hkE46 x0 x1 x2 x3 x4 h) (And.intro rfl (And.intro rfl (And.intro rfl (And.intro rfl (And.intro rfl trivial)))))
      · refine Y.op (pc' := 33) (fun _ => X.aloadn rfl dX8_run_32) ?_
        refine Y.getR fd_X8_9 rfl dX8_run_33 (fun v1 => ?_)
        refine Y.op (pc' := 38) (fun _ => X.iload rfl dX8_run_36) ?_
        refine Y.op (pc' := 39) (fun _ => X.lc kl_0 dX8_run_38) ?_
        refine Y.astJ dX8_run_39 (fun h2 => ?_)
        refine Y.iinc (i := 5) (loc' := fun v3 => [some (.ref x0), some (.ref x1), some (.ref x2), some (.int x3), some (.int x4), some (.int v3), none, none, none]) rfl (Nat.le_of_ble_eq_true rfl) ki_1 (fun _ => rfl) dX8_run_40 (fun v3 => ?_)
        refine Y.op (pc' := 17) (fun _ => X.goto 17 (by decide) dX8_run_43) ?_
        exact ih x0 x1 x2 x3 x4 v3 h2
def f_X8_run (a0 : Nat) (p1 : Nat) (p2 : Nat) (p3 : Int32) (h : xH) : Option (xH) :=
  (gI h 7 p2 7).bind fun v1 =>
  (f_X9_bit (imin (12 : Int32) v1) h).bind fun r2 =>
  f_X8_run_L17 (f_X8_run_J46) 5000 a0 p1 p2 p3 r2.1 (0 : Int32) r2.2
theorem y_X8_run {g : xG} {h0 : xH} {cl : Bool} (a0 : Nat) (p1 : Nat) (p2 : Nat) (p3 : Int32) (h : xH) : Y g DX8_run h0 cl iV (f_X8_run a0 p1 p2 p3 h) 0 [some (.ref a0), some (.ref p1), some (.ref p2), some (.int p3), none, none, none, none, none] [] h := by
  unfold f_X8_run
  refine Y.op (pc' := 2) (fun _ => X.bp kb_12 dX8_run_0) ?_
  refine Y.op (pc' := 3) (fun _ => X.aloadn rfl dX8_run_2) ?_
  refine Y.getI fd_X8_39 rfl dX8_run_3 (fun v1 => ?_)
  refine Y.mmin mw_X8_44 rfl (Nat.le_of_ble_eq_true rfl) (Nat.le_of_ble_eq_true rfl) dX8_run_6 ?_
  refine Y.callSi (As := [.int (imin (12 : Int32) v1)]) lk_X8_50 rfl cal_X9_bit sta_X9_bit (Nat.le_of_ble_eq_true rfl) rfl rfl (Nat.le_of_ble_eq_true rfl) dX8_run_9 (fun _ e => m_X9_bit (imin (12 : Int32) v1) h _ _ e) (fun r2 => ?_)
  refine Y.op (pc' := 14) (loc' := [some (.ref a0), some (.ref p1), some (.ref p2), some (.int p3), some (.int r2.1), none, none, none, none]) (fun _ => X.istore (Nat.le_of_ble_eq_true rfl) rfl dX8_run_12) ?_
  refine Y.op (pc' := 15) (fun _ => X.ic ki_0 dX8_run_14) ?_
  refine Y.op (pc' := 17) (loc' := [some (.ref a0), some (.ref p1), some (.ref p2), some (.int p3), some (.int r2.1), some (.int (0 : Int32)), none, none, none]) (fun _ => X.istore (Nat.le_of_ble_eq_true rfl) rfl dX8_run_15) ?_
  exact y_X8_run_L17 (y_X8_run_J46) 5000 a0 p1 p2 p3 r2.1 (0 : Int32) r2.2
theorem m_X8_run {g : xG} (a0 : Nat) (p1 : Nat) (p2 : Nat) (p3 : Int32) (h : xH) (cl : Bool) (r : xH) (e : f_X8_run a0 p1 p2 p3 h = some r) : XM g DX8_run [.ref a0, .ref p1, .ref p2, .int p3] h cl (iV r) := YM.of rfl rfl (Nat.le_of_ble_eq_true rfl) (y_X8_run a0 p1 p2 p3 h) e
def f_X9_init (a0 : Nat) (h : xH) : Option (xH) :=
  (nwC h (0, dv_X0)).bind fun r1 =>
  (ic r1.2 r1.1 (f_X0_init r1.1 r1.2)).bind fun h2 =>
  (pR h2 9 a0 0 r1.1).bind fun h3 =>
  (nwC h3 (0, dv_X0)).bind fun r4 =>
  (ic r4.2 r4.1 (f_X0_init r4.1 r4.2)).bind fun h5 =>
  (pR h5 9 a0 1 r4.1).bind fun h6 =>
  (nwC h6 (2, dv_X2)).bind fun r7 =>
  (ic r7.2 r7.1 (f_X2_init r7.1 r7.2)).bind fun h8 =>
  (pR h8 9 a0 2 r7.1).bind fun h9 =>
  (nwC h9 (6, dv_X6)).bind fun r10 =>
  (ic r10.2 r10.1 (f_X6_init r10.1 r10.2)).bind fun h11 =>
  (pR h11 9 a0 3 r10.1).bind fun h12 =>
  (nwC h12 (7, dv_X7)).bind fun r13 =>
  (ic r13.2 r13.1 (f_X7_init r13.1 r13.2)).bind fun h14 =>
  (pR h14 9 a0 4 r13.1).bind fun h15 =>
  (nwC h15 (5, dv_X5)).bind fun r16 =>
  (ic r16.2 r16.1 (f_X5_init r16.1 r16.2)).bind fun h17 =>
  (pR h17 9 a0 5 r16.1).bind fun h18 =>
  (nwC h18 (4, dv_X4)).bind fun r19 =>
  (ic r19.2 r19.1 (f_X4_init r19.1 r19.2)).bind fun h20 =>
  (pR h20 9 a0 6 r19.1).bind fun h21 =>
  (nwC h21 (8, dv_X8)).bind fun r22 =>
  (ic r22.2 r22.1 (f_X8_init r22.1 r22.2)).bind fun h23 =>
  (pR h23 9 a0 7 r22.1).bind fun h24 =>
  (nwC h24 (1, dv_X1)).bind fun r25 =>
  (ic r25.2 r25.1 (f_X1_init r25.1 r25.2)).bind fun h26 =>
  (pR h26 9 a0 8 r25.1).bind fun h27 =>
  (pZ h27 9 a0 9 (0 : Int32)).bind fun h28 =>
  (pI h28 9 a0 10 (0 : Int32)).bind fun h29 =>
  (pI h29 9 a0 11 (0 : Int32)).bind fun h30 =>
  some h30
theorem y_X9_init {g : xG} {h0 : xH} (a0 : Nat) (h : xH) : Y g DX9_init h0 false iV (f_X9_init a0 h) 0 [some (.ref a0)] [] h := by
  unfold f_X9_init
  refine Y.op (pc' := 1) (fun _ => X.aloadn rfl dX9_init_0) ?_
  refine Y.op (pc' := 4) (fun _ => X.objInit wo_X9 rfl (Nat.le_of_ble_eq_true rfl) (Nat.le_of_ble_eq_true rfl) dX9_init_1) ?_
  refine Y.op (pc' := 5) (fun _ => X.aloadn rfl dX9_init_4) ?_
  refine Y.new wn_X9_9 rfl rfl dX9_init_5 (fun r1 => ?_)
  refine Y.op (pc' := 9) (fun _ => X.dup rfl dX9_init_8) ?_
  refine Y.callIv (As := []) lk_X9_11 rfl cal_X0_init ini_X0_init (Nat.le_of_ble_eq_true rfl) rfl rfl (Nat.le_of_ble_eq_true rfl) dX9_init_9 (fun _ e => m_X0_init r1.1 r1.2 _ e) (fun h2 => ?_)
  refine Y.putR ff_X9_12 rfl rfl (fun _ => rfl) (fun _ => rfl) dX9_init_12 (fun h3 => ?_)
  refine Y.op (pc' := 16) (fun _ => X.aloadn rfl dX9_init_15) ?_
  refine Y.new wn_X9_9 rfl rfl dX9_init_16 (fun r4 => ?_)
  refine Y.op (pc' := 20) (fun _ => X.dup rfl dX9_init_19) ?_
  refine Y.callIv (As := []) lk_X9_11 rfl cal_X0_init ini_X0_init (Nat.le_of_ble_eq_true rfl) rfl rfl (Nat.le_of_ble_eq_true rfl) dX9_init_20 (fun _ e => m_X0_init r4.1 r4.2 _ e) (fun h5 => ?_)
  refine Y.putR ff_X9_16 rfl rfl (fun _ => rfl) (fun _ => rfl) dX9_init_23 (fun h6 => ?_)
  refine Y.op (pc' := 27) (fun _ => X.aloadn rfl dX9_init_26) ?_
  refine Y.new wn_X9_19 rfl rfl dX9_init_27 (fun r7 => ?_)
  refine Y.op (pc' := 31) (fun _ => X.dup rfl dX9_init_30) ?_
  refine Y.callIv (As := []) lk_X9_21 rfl cal_X2_init ini_X2_init (Nat.le_of_ble_eq_true rfl) rfl rfl (Nat.le_of_ble_eq_true rfl) dX9_init_31 (fun _ e => m_X2_init r7.1 r7.2 _ e) (fun h8 => ?_)
  refine Y.putR ff_X9_22 rfl rfl (fun _ => rfl) (fun _ => rfl) dX9_init_34 (fun h9 => ?_)
  refine Y.op (pc' := 38) (fun _ => X.aloadn rfl dX9_init_37) ?_
  refine Y.new wn_X9_26 rfl rfl dX9_init_38 (fun r10 => ?_)
  refine Y.op (pc' := 42) (fun _ => X.dup rfl dX9_init_41) ?_
  refine Y.callIv (As := []) lk_X9_28 rfl cal_X6_init ini_X6_init (Nat.le_of_ble_eq_true rfl) rfl rfl (Nat.le_of_ble_eq_true rfl) dX9_init_42 (fun _ e => m_X6_init r10.1 r10.2 _ e) (fun h11 => ?_)
  refine Y.putR ff_X9_29 rfl rfl (fun _ => rfl) (fun _ => rfl) dX9_init_45 (fun h12 => ?_)
  refine Y.op (pc' := 49) (fun _ => X.aloadn rfl dX9_init_48) ?_
  refine Y.new wn_X9_33 rfl rfl dX9_init_49 (fun r13 => ?_)
  refine Y.op (pc' := 53) (fun _ => X.dup rfl dX9_init_52) ?_
  refine Y.callIv (As := []) lk_X9_35 rfl cal_X7_init ini_X7_init (Nat.le_of_ble_eq_true rfl) rfl rfl (Nat.le_of_ble_eq_true rfl) dX9_init_53 (fun _ e => m_X7_init r13.1 r13.2 _ e) (fun h14 => ?_)
  refine Y.putR ff_X9_36 rfl rfl (fun _ => rfl) (fun _ => rfl) dX9_init_56 (fun h15 => ?_)
  refine Y.op (pc' := 60) (fun _ => X.aloadn rfl dX9_init_59) ?_
  refine Y.new wn_X9_40 rfl rfl dX9_init_60 (fun r16 => ?_)
  refine Y.op (pc' := 64) (fun _ => X.dup rfl dX9_init_63) ?_
  refine Y.callIv (As := []) lk_X9_42 rfl cal_X5_init ini_X5_init (Nat.le_of_ble_eq_true rfl) rfl rfl (Nat.le_of_ble_eq_true rfl) dX9_init_64 (fun _ e => m_X5_init r16.1 r16.2 _ e) (fun h17 => ?_)
  refine Y.putR ff_X9_43 rfl rfl (fun _ => rfl) (fun _ => rfl) dX9_init_67 (fun h18 => ?_)
  refine Y.op (pc' := 71) (fun _ => X.aloadn rfl dX9_init_70) ?_
  refine Y.new wn_X9_47 rfl rfl dX9_init_71 (fun r19 => ?_)
  refine Y.op (pc' := 75) (fun _ => X.dup rfl dX9_init_74) ?_
  refine Y.callIv (As := []) lk_X9_49 rfl cal_X4_init ini_X4_init (Nat.le_of_ble_eq_true rfl) rfl rfl (Nat.le_of_ble_eq_true rfl) dX9_init_75 (fun _ e => m_X4_init r19.1 r19.2 _ e) (fun h20 => ?_)
  refine Y.putR ff_X9_50 rfl rfl (fun _ => rfl) (fun _ => rfl) dX9_init_78 (fun h21 => ?_)
  refine Y.op (pc' := 82) (fun _ => X.aloadn rfl dX9_init_81) ?_
  refine Y.new wn_X9_54 rfl rfl dX9_init_82 (fun r22 => ?_)
  refine Y.op (pc' := 86) (fun _ => X.dup rfl dX9_init_85) ?_
  refine Y.callIv (As := []) lk_X9_56 rfl cal_X8_init ini_X8_init (Nat.le_of_ble_eq_true rfl) rfl rfl (Nat.le_of_ble_eq_true rfl) dX9_init_86 (fun _ e => m_X8_init r22.1 r22.2 _ e) (fun h23 => ?_)
  refine Y.putR ff_X9_57 rfl rfl (fun _ => rfl) (fun _ => rfl) dX9_init_89 (fun h24 => ?_)
  refine Y.op (pc' := 93) (fun _ => X.aloadn rfl dX9_init_92) ?_
  refine Y.new wn_X9_61 rfl rfl dX9_init_93 (fun r25 => ?_)
  refine Y.op (pc' := 97) (fun _ => X.dup rfl dX9_init_96) ?_
  refine Y.callIv (As := []) lk_X9_63 rfl cal_X1_init ini_X1_init (Nat.le_of_ble_eq_true rfl) rfl rfl (Nat.le_of_ble_eq_true rfl) dX9_init_97 (fun _ e => m_X1_init r25.1 r25.2 _ e) (fun h26 => ?_)
  refine Y.putR ff_X9_64 rfl rfl (fun _ => rfl) (fun _ => rfl) dX9_init_100 (fun h27 => ?_)
  refine Y.op (pc' := 104) (fun _ => X.aloadn rfl dX9_init_103) ?_
  refine Y.op (pc' := 105) (fun _ => X.ic ki_0 dX9_init_104) ?_
  refine Y.putZ fd_X9_68 rfl dX9_init_105 (fun h28 => ?_)
  refine Y.op (pc' := 109) (fun _ => X.aloadn rfl dX9_init_108) ?_
  refine Y.op (pc' := 110) (fun _ => X.ic ki_0 dX9_init_109) ?_
  refine Y.putI fd_X9_72 rfl dX9_init_110 (fun h29 => ?_)
  refine Y.op (pc' := 114) (fun _ => X.aloadn rfl dX9_init_113) ?_
  refine Y.op (pc' := 115) (fun _ => X.ic ki_0 dX9_init_114) ?_
  refine Y.putI fd_X9_76 rfl dX9_init_115 (fun h30 => ?_)
  exact Y.vreturn rfl dX9_init_118
theorem m_X9_init {g : xG} (a0 : Nat) (h : xH) (r : xH) (e : f_X9_init a0 h = some r) : XM g DX9_init [.ref a0] h false (iV r) := YM.of rfl rfl (Nat.le_of_ble_eq_true rfl) (y_X9_init a0 h) e
def f_X9_feed (a0 : Nat) (p1 : Int32) (p2 : Int32) (p3 : Int32) (p4 : Int32) (p5 : Int32) (h : xH) : Option (Int32 × xH) :=
  (gR h 9 a0 3).bind fun v1 =>
  (vc h 6 v1 (f_X6_hasRoom v1 h)).bind fun r2 =>
  if r2.1 = (0 : Int32) then
    some ((-1 : Int32), r2.2)
  else
    (gR r2.2 9 a0 3).bind fun v3 =>
    (vc r2.2 6 v3 (f_X6_put v3 p1 r2.2)).bind fun h4 =>
    (gR h4 9 a0 3).bind fun v5 =>
    (vc h4 6 v5 (f_X6_put v5 p2 h4)).bind fun h6 =>
    (gR h6 9 a0 3).bind fun v7 =>
    (vc h6 6 v7 (f_X6_put v7 p3 h6)).bind fun h8 =>
    (gR h8 9 a0 3).bind fun v9 =>
    (vc h8 6 v9 (f_X6_put v9 p4 h8)).bind fun h10 =>
    (gR h10 9 a0 3).bind fun v11 =>
    (vc h10 6 v11 (f_X6_put v11 p5 h10)).bind fun h12 =>
    (gR h12 9 a0 3).bind fun v13 =>
    (gI h12 6 v13 1).bind fun v14 =>
    some (v14, h12)
theorem y_X9_feed {g : xG} {h0 : xH} {cl : Bool} (a0 : Nat) (p1 : Int32) (p2 : Int32) (p3 : Int32) (p4 : Int32) (p5 : Int32) (h : xH) : Y g DX9_feed h0 cl iI (f_X9_feed a0 p1 p2 p3 p4 p5 h) 0 [some (.ref a0), some (.int p1), some (.int p2), some (.int p3), some (.int p4), some (.int p5)] [] h := by
  unfold f_X9_feed
  refine Y.op (pc' := 1) (fun _ => X.aloadn rfl dX9_feed_0) ?_
  refine Y.getR fd_X9_29 rfl dX9_feed_1 (fun v1 => ?_)
  refine Y.callVi (As := []) lk_X9_79 rfl cal_X6_hasRoom vir_X6_hasRoom (Nat.le_of_ble_eq_true rfl) (Nat.le_of_ble_eq_true rfl) rfl rfl rfl (Nat.le_of_ble_eq_true rfl) dX9_feed_4 (fun _ e => m_X6_hasRoom v1 h _ _ e) (fun r2 => ?_)
  refine Y.ifne 12 (by decide) dX9_feed_7 ?_ ?_
  · refine Y.op (pc' := 13) (fun _ => X.aloadn rfl dX9_feed_12) ?_
    refine Y.getR fd_X9_29 rfl dX9_feed_13 (fun v3 => ?_)
    refine Y.op (pc' := 17) (fun _ => X.iloadn rfl dX9_feed_16) ?_
    refine Y.callVv (As := [.int p1]) lk_X9_83 rfl cal_X6_put vir_X6_put (Nat.le_of_ble_eq_true rfl) (Nat.le_of_ble_eq_true rfl) rfl rfl rfl (Nat.le_of_ble_eq_true rfl) dX9_feed_17 (fun _ e => m_X6_put v3 p1 r2.2 _ _ e) (fun h4 => ?_)
    refine Y.op (pc' := 21) (fun _ => X.aloadn rfl dX9_feed_20) ?_
    refine Y.getR fd_X9_29 rfl dX9_feed_21 (fun v5 => ?_)
    refine Y.op (pc' := 25) (fun _ => X.iloadn rfl dX9_feed_24) ?_
    refine Y.callVv (As := [.int p2]) lk_X9_83 rfl cal_X6_put vir_X6_put (Nat.le_of_ble_eq_true rfl) (Nat.le_of_ble_eq_true rfl) rfl rfl rfl (Nat.le_of_ble_eq_true rfl) dX9_feed_25 (fun _ e => m_X6_put v5 p2 h4 _ _ e) (fun h6 => ?_)
    refine Y.op (pc' := 29) (fun _ => X.aloadn rfl dX9_feed_28) ?_
    refine Y.getR fd_X9_29 rfl dX9_feed_29 (fun v7 => ?_)
    refine Y.op (pc' := 33) (fun _ => X.iloadn rfl dX9_feed_32) ?_
    refine Y.callVv (As := [.int p3]) lk_X9_83 rfl cal_X6_put vir_X6_put (Nat.le_of_ble_eq_true rfl) (Nat.le_of_ble_eq_true rfl) rfl rfl rfl (Nat.le_of_ble_eq_true rfl) dX9_feed_33 (fun _ e => m_X6_put v7 p3 h6 _ _ e) (fun h8 => ?_)
    refine Y.op (pc' := 37) (fun _ => X.aloadn rfl dX9_feed_36) ?_
    refine Y.getR fd_X9_29 rfl dX9_feed_37 (fun v9 => ?_)
    refine Y.op (pc' := 42) (fun _ => X.iload rfl dX9_feed_40) ?_
    refine Y.callVv (As := [.int p4]) lk_X9_83 rfl cal_X6_put vir_X6_put (Nat.le_of_ble_eq_true rfl) (Nat.le_of_ble_eq_true rfl) rfl rfl rfl (Nat.le_of_ble_eq_true rfl) dX9_feed_42 (fun _ e => m_X6_put v9 p4 h8 _ _ e) (fun h10 => ?_)
    refine Y.op (pc' := 46) (fun _ => X.aloadn rfl dX9_feed_45) ?_
    refine Y.getR fd_X9_29 rfl dX9_feed_46 (fun v11 => ?_)
    refine Y.op (pc' := 51) (fun _ => X.iload rfl dX9_feed_49) ?_
    refine Y.callVv (As := [.int p5]) lk_X9_83 rfl cal_X6_put vir_X6_put (Nat.le_of_ble_eq_true rfl) (Nat.le_of_ble_eq_true rfl) rfl rfl rfl (Nat.le_of_ble_eq_true rfl) dX9_feed_51 (fun _ e => m_X6_put v11 p5 h10 _ _ e) (fun h12 => ?_)
    refine Y.op (pc' := 55) (fun _ => X.aloadn rfl dX9_feed_54) ?_
    refine Y.getR fd_X9_29 rfl dX9_feed_55 (fun v13 => ?_)
    refine Y.getI fd_X9_87 rfl dX9_feed_58 (fun v14 => ?_)
    exact Y.ireturn rfl dX9_feed_61
  · refine Y.op (pc' := 11) (fun _ => X.ic ki_m1 dX9_feed_10) ?_
    exact Y.ireturn rfl dX9_feed_11
theorem m_X9_feed {g : xG} (a0 : Nat) (p1 : Int32) (p2 : Int32) (p3 : Int32) (p4 : Int32) (p5 : Int32) (h : xH) (cl : Bool) (r : Int32 × xH) (e : f_X9_feed a0 p1 p2 p3 p4 p5 h = some r) : XM g DX9_feed [.ref a0, .int p1, .int p2, .int p3, .int p4, .int p5] h cl (iI r) := YM.of rfl rfl (Nat.le_of_ble_eq_true rfl) (y_X9_feed a0 p1 p2 p3 p4 p5 h) e
def f_X9_keepUp_J49 (h : xH) : Option (xH) :=
  some h
theorem y_X9_keepUp_J49 {g : xG} {h0 : xH} {cl : Bool} (h : xH) : Y g DX9_keepUp h0 cl iV (f_X9_keepUp_J49 h) 49 [none] [] h := by
  unfold f_X9_keepUp_J49
  exact Y.vreturn rfl dX9_keepUp_49
def f_X9_keepUp (a0 : Nat) (h : xH) : Option (xH) :=
  (gR h 9 a0 0).bind fun v1 =>
  (gI h 0 v1 4).bind fun v2 =>
  if v2 = (1 : Int32) then
    (gR h 9 a0 4).bind fun v3 =>
    (gR h 9 a0 0).bind fun v4 =>
    (vc h 7 v3 (f_X7_load v3 v4 h)).bind fun h5 =>
    (gR h5 9 a0 4).bind fun v6 =>
    (vc h5 7 v6 (f_X7_grow v6 (12 : Int32) h5)).bind fun r7 =>
    (gR r7.2 9 a0 0).bind fun v8 =>
    (gR r7.2 0 v8 9).bind fun v9 =>
    (gR r7.2 9 a0 4).bind fun v10 =>
    (gR r7.2 7 v10 0).bind fun v11 =>
    (vc r7.2 3 v9 (f_X3_copy v9 v11 r7.2)).bind fun h12 =>
    f_X9_keepUp_J49 h12
  else
    f_X9_keepUp_J49 h
theorem y_X9_keepUp {g : xG} {h0 : xH} {cl : Bool} (a0 : Nat) (h : xH) : Y g DX9_keepUp h0 cl iV (f_X9_keepUp a0 h) 0 [some (.ref a0)] [] h := by
  unfold f_X9_keepUp
  refine Y.op (pc' := 1) (fun _ => X.aloadn rfl dX9_keepUp_0) ?_
  refine Y.getR fd_X9_12 rfl dX9_keepUp_1 (fun v1 => ?_)
  refine Y.getI fd_X9_128 rfl dX9_keepUp_4 (fun v2 => ?_)
  refine Y.op (pc' := 8) (fun _ => X.ic ki_1 dX9_keepUp_7) ?_
  refine Y.cmpne 49 (by decide) dX9_keepUp_8 ?_ ?_
  · exact Y.fg (y_X9_keepUp_J49 h) trivial
  · refine Y.op (pc' := 12) (fun _ => X.aloadn rfl dX9_keepUp_11) ?_
    refine Y.getR fd_X9_36 rfl dX9_keepUp_12 (fun v3 => ?_)
    refine Y.op (pc' := 16) (fun _ => X.aloadn rfl dX9_keepUp_15) ?_
    refine Y.getR fd_X9_12 rfl dX9_keepUp_16 (fun v4 => ?_)
    refine Y.callVv (As := [.ref v4]) lk_X9_170 rfl cal_X7_load vir_X7_load (Nat.le_of_ble_eq_true rfl) (Nat.le_of_ble_eq_true rfl) rfl rfl rfl (Nat.le_of_ble_eq_true rfl) dX9_keepUp_19 (fun _ e => m_X7_load v3 v4 h _ _ e) (fun h5 => ?_)
    refine Y.op (pc' := 23) (fun _ => X.aloadn rfl dX9_keepUp_22) ?_
    refine Y.getR fd_X9_36 rfl dX9_keepUp_23 (fun v6 => ?_)
    refine Y.op (pc' := 28) (fun _ => X.bp kb_12 dX9_keepUp_26) ?_
    refine Y.callVi (As := [.int (12 : Int32)]) lk_X9_217 rfl cal_X7_grow vir_X7_grow (Nat.le_of_ble_eq_true rfl) (Nat.le_of_ble_eq_true rfl) rfl rfl rfl (Nat.le_of_ble_eq_true rfl) dX9_keepUp_28 (fun _ e => m_X7_grow v6 (12 : Int32) h5 _ _ e) (fun r7 => ?_)
    refine Y.op (pc' := 32) (fun _ => X.pop rfl dX9_keepUp_31) ?_
    refine Y.op (pc' := 33) (fun _ => X.aloadn rfl dX9_keepUp_32) ?_
    refine Y.getR fd_X9_12 rfl dX9_keepUp_33 (fun v8 => ?_)
    refine Y.getR fd_X9_106 rfl dX9_keepUp_36 (fun v9 => ?_)
    refine Y.op (pc' := 40) (fun _ => X.aloadn rfl dX9_keepUp_39) ?_
    refine Y.getR fd_X9_36 rfl dX9_keepUp_40 (fun v10 => ?_)
    refine Y.getR fd_X9_197 rfl dX9_keepUp_43 (fun v11 => ?_)
    refine Y.callVv (As := [.ref v11]) lk_X9_331 rfl cal_X3_copy vir_X3_copy (Nat.le_of_ble_eq_true rfl) (Nat.le_of_ble_eq_true rfl) rfl rfl rfl (Nat.le_of_ble_eq_true rfl) dX9_keepUp_46 (fun _ e => m_X3_copy v9 v11 r7.2 _ _ e) (fun h12 => ?_)
    exact Y.fg (y_X9_keepUp_J49 h12) trivial
theorem m_X9_keepUp {g : xG} (a0 : Nat) (h : xH) (cl : Bool) (r : xH) (e : f_X9_keepUp a0 h = some r) : XM g DX9_keepUp [.ref a0] h cl (iV r) := YM.of rfl rfl (Nat.le_of_ble_eq_true rfl) (y_X9_keepUp a0 h) e
