def f_X3_clear_J28 (h : xH) : Option (xH) :=
  some h
theorem y_X3_clear_J28 {g : xG} {h0 : xH} {cl : Bool} (h : xH) : Y g DX3_clear h0 cl iV (f_X3_clear_J28 h) 28 [none, none] [] h := by
  unfold f_X3_clear_J28
  exact Y.vreturn rfl dX3_clear_28
def f_X3_clear_L2 (kE28 : xH → Option (xH)) : Nat → Nat → Int32 → xH → Option (xH)
  | 0 => fun _ _ _ => none
  | n + 1 => fun x0 x1 h =>
    if x1 ≥ (12 : Int32) then
      kE28 h
    else
      (gR h 3 x0 0).bind fun v1 =>
      (sI h v1 x1 (-1 : Int32)).bind fun h2 =>
      (gR h2 3 x0 1).bind fun v3 =>
      (sI h2 v3 x1 (-1 : Int32)).bind fun h4 =>
      lt (x1 + (1 : Int32)) fun v5 =>
      f_X3_clear_L2 kE28 n x0 v5 h4
theorem y_X3_clear_L2 {g : xG} {h0 : xH} {cl : Bool} {kE28 : xH → Option (xH)} (hkE28 : ∀  (h : xH), Y g DX3_clear h0 cl iV (kE28  h) 28 [none, none] [] h) : ∀ (n : Nat) (x0 : Nat) (x1 : Int32) (h : xH), Y g DX3_clear h0 cl iV (f_X3_clear_L2 kE28 n x0 x1 h) 2 [some (.ref x0), some (.int x1)] [] h := by
  intro n
  induction n with
  | zero => intro x0 x1 h; exact Y.nothing
  | succ n ih =>
    intro x0 x1 h
    unfold f_X3_clear_L2
    refine Y.op (pc' := 3) (fun _ => X.iloadn rfl dX3_clear_2) ?_
    refine Y.op (pc' := 5) (fun _ => X.bp kb_12 dX3_clear_3) ?_
    refine Y.cmpge 28 (by decide) dX3_clear_5 ?_ ?_
    · exact Y.fg (hkE28 h) trivial
    · refine Y.op (pc' := 9) (fun _ => X.aloadn rfl dX3_clear_8) ?_
      refine Y.getR fd_X3_9 rfl dX3_clear_9 (fun v1 => ?_)
      refine Y.op (pc' := 13) (fun _ => X.iloadn rfl dX3_clear_12) ?_
      refine Y.op (pc' := 14) (fun _ => X.ic ki_m1 dX3_clear_13) ?_
      refine Y.astI dX3_clear_14 (fun h2 => ?_)
      refine Y.op (pc' := 16) (fun _ => X.aloadn rfl dX3_clear_15) ?_
      refine Y.getR fd_X3_15 rfl dX3_clear_16 (fun v3 => ?_)
      refine Y.op (pc' := 20) (fun _ => X.iloadn rfl dX3_clear_19) ?_
      refine Y.op (pc' := 21) (fun _ => X.ic ki_m1 dX3_clear_20) ?_
      refine Y.astI dX3_clear_21 (fun h4 => ?_)
      refine Y.iinc (i := 1) (loc' := fun v5 => [some (.ref x0), some (.int v5)]) rfl (Nat.le_of_ble_eq_true rfl) ki_1 (fun _ => rfl) dX3_clear_22 (fun v5 => ?_)
      refine Y.op (pc' := 2) (fun _ => X.goto 2 (by decide) dX3_clear_25) ?_
      exact ih x0 v5 h4
def f_X3_clear (a0 : Nat) (h : xH) : Option (xH) :=
  f_X3_clear_L2 (f_X3_clear_J28) 5000 a0 (0 : Int32) h
theorem y_X3_clear {g : xG} {h0 : xH} {cl : Bool} (a0 : Nat) (h : xH) : Y g DX3_clear h0 cl iV (f_X3_clear a0 h) 0 [some (.ref a0), none] [] h := by
  unfold f_X3_clear
  refine Y.op (pc' := 1) (fun _ => X.ic ki_0 dX3_clear_0) ?_
  refine Y.op (pc' := 2) (loc' := [some (.ref a0), some (.int (0 : Int32))]) (fun _ => X.istoren (Nat.le_of_ble_eq_true rfl) rfl dX3_clear_1) ?_
  exact y_X3_clear_L2 (y_X3_clear_J28) 5000 a0 (0 : Int32) h
theorem m_X3_clear {g : xG} (a0 : Nat) (h : xH) (cl : Bool) (r : xH) (e : f_X3_clear a0 h = some r) : XM g DX3_clear [.ref a0] h cl (iV r) := YM.of rfl rfl (Nat.le_of_ble_eq_true rfl) (y_X3_clear a0 h) e
def f_X9_bit (p1 : Int32) (h : xH) : Option (Int32 × xH) :=
  some (((1 : Int32) <<< (p1 &&& 31)), h)
theorem y_X9_bit {g : xG} {h0 : xH} {cl : Bool} (p1 : Int32) (h : xH) : Y g DX9_bit h0 cl iI (f_X9_bit p1 h) 0 [some (.int p1)] [] h := by
  unfold f_X9_bit
  refine Y.op (pc' := 1) (fun _ => X.ic ki_1 dX9_bit_0) ?_
  refine Y.op (pc' := 2) (fun _ => X.iloadn rfl dX9_bit_1) ?_
  refine Y.op (pc' := 3) (fun _ => X.ishl dX9_bit_2) ?_
  exact Y.ireturn rfl dX9_bit_3
theorem m_X9_bit {g : xG} (p1 : Int32) (h : xH) (cl : Bool) (r : Int32 × xH) (e : f_X9_bit p1 h = some r) : XM g DX9_bit [.int p1] h cl (iI r) := YM.of rfl rfl (Nat.le_of_ble_eq_true rfl) (y_X9_bit p1 h) e
def f_X0_begin_J92 (x0 : Nat) (h : xH) : Option (xH) :=
  (gR h 0 x0 9).bind fun v1 =>
  (vc h 3 v1 (f_X3_clear v1 h)).bind fun h2 =>
  some h2
theorem y_X0_begin_J92 {g : xG} {h0 : xH} {cl : Bool} (x0 : Nat) (h : xH) : Y g DX0_begin h0 cl iV (f_X0_begin_J92 x0 h) 92 [some (.ref x0), none, none, none] [] h := by
  unfold f_X0_begin_J92
  refine Y.op (pc' := 93) (fun _ => X.aloadn rfl dX0_begin_92) ?_
  refine Y.getR fd_X0_27 rfl dX0_begin_93 (fun v1 => ?_)
  refine Y.callVv (As := []) lk_X0_55 rfl cal_X3_clear vir_X3_clear (Nat.le_of_ble_eq_true rfl) (Nat.le_of_ble_eq_true rfl) rfl rfl rfl (Nat.le_of_ble_eq_true rfl) dX0_begin_96 (fun _ e => m_X3_clear v1 h _ _ e) (fun h2 => ?_)
  exact Y.vreturn rfl dX0_begin_99
def f_X0_begin_L72 (kE92 : Nat → xH → Option (xH)) : Nat → Nat → Int32 → xH → Option (xH)
  | 0 => fun _ _ _ => none
  | n + 1 => fun x0 x3 h =>
    if x3 ≥ (144 : Int32) then
      kE92 x0 h
    else
      (gR h 0 x0 8).bind fun v1 =>
      (sI h v1 x3 (-1 : Int32)).bind fun h2 =>
      lt (x3 + (1 : Int32)) fun v3 =>
      f_X0_begin_L72 kE92 n x0 v3 h2
theorem y_X0_begin_L72 {g : xG} {h0 : xH} {cl : Bool} {kE92 : Nat → xH → Option (xH)} (hkE92 : ∀ (x0 : Nat) (h : xH), Y g DX0_begin h0 cl iV (kE92 x0 h) 92 [some (.ref x0), none, none, none] [] h) : ∀ (n : Nat) (x0 : Nat) (x3 : Int32) (h : xH), Y g DX0_begin h0 cl iV (f_X0_begin_L72 kE92 n x0 x3 h) 72 [some (.ref x0), none, none, some (.int x3)] [] h := by
  intro n
  induction n with
  | zero => intro x0 x3 h; exact Y.nothing
  | succ n ih =>
    intro x0 x3 h
    unfold f_X0_begin_L72
    refine Y.op (pc' := 73) (fun _ => X.iloadn rfl dX0_begin_72) ?_
    refine Y.op (pc' := 76) (fun _ => X.sp ks_144 dX0_begin_73) ?_
    refine Y.cmpge 92 (by decide) dX0_begin_76 ?_ ?_
    · exact Y.fg (hkE92 x0 h) (And.intro rfl trivial)
    · refine Y.op (pc' := 80) (fun _ => X.aloadn rfl dX0_begin_79) ?_
      refine Y.getR fd_X0_21 rfl dX0_begin_80 (fun v1 => ?_)
      refine Y.op (pc' := 84) (fun _ => X.iloadn rfl dX0_begin_83) ?_
      refine Y.op (pc' := 85) (fun _ => X.ic ki_m1 dX0_begin_84) ?_
      refine Y.astI dX0_begin_85 (fun h2 => ?_)
      refine Y.iinc (i := 3) (loc' := fun v3 => [some (.ref x0), none, none, some (.int v3)]) rfl (Nat.le_of_ble_eq_true rfl) ki_1 (fun _ => rfl) dX0_begin_86 (fun v3 => ?_)
      refine Y.op (pc' := 72) (fun _ => X.goto 72 (by decide) dX0_begin_89) ?_
      exact ih x0 v3 h2
def f_X0_begin_J70 (x0 : Nat) (h : xH) : Option (xH) :=
  f_X0_begin_L72 (f_X0_begin_J92) 5000 x0 (0 : Int32) h
theorem y_X0_begin_J70 {g : xG} {h0 : xH} {cl : Bool} (x0 : Nat) (h : xH) : Y g DX0_begin h0 cl iV (f_X0_begin_J70 x0 h) 70 [some (.ref x0), none, none, none] [] h := by
  unfold f_X0_begin_J70
  refine Y.op (pc' := 71) (fun _ => X.ic ki_0 dX0_begin_70) ?_
  refine Y.op (pc' := 72) (loc' := [some (.ref x0), none, none, some (.int (0 : Int32))]) (fun _ => X.istoren (Nat.le_of_ble_eq_true rfl) rfl dX0_begin_71) ?_
  exact y_X0_begin_L72 (y_X0_begin_J92) 5000 x0 (0 : Int32) h
def f_X0_begin_L37 (kE70 : Nat → xH → Option (xH)) : Nat → Nat → Int32 → xH → Option (xH)
  | 0 => fun _ _ _ => none
  | n + 1 => fun x0 x3 h =>
    if x3 ≥ (12 : Int32) then
      kE70 x0 h
    else
      (gR h 0 x0 5).bind fun v1 =>
      (sI h v1 x3 (1 : Int32)).bind fun h2 =>
      (gR h2 0 x0 6).bind fun v3 =>
      (sI h2 v3 x3 (0 : Int32)).bind fun h4 =>
      (gR h4 0 x0 7).bind fun v5 =>
      (sI h4 v5 x3 (0 : Int32)).bind fun h6 =>
      lt (x3 + (1 : Int32)) fun v7 =>
      f_X0_begin_L37 kE70 n x0 v7 h6
theorem y_X0_begin_L37 {g : xG} {h0 : xH} {cl : Bool} {kE70 : Nat → xH → Option (xH)} (hkE70 : ∀ (x0 : Nat) (h : xH), Y g DX0_begin h0 cl iV (kE70 x0 h) 70 [some (.ref x0), none, none, none] [] h) : ∀ (n : Nat) (x0 : Nat) (x3 : Int32) (h : xH), Y g DX0_begin h0 cl iV (f_X0_begin_L37 kE70 n x0 x3 h) 37 [some (.ref x0), none, none, some (.int x3)] [] h := by
  intro n
  induction n with
  | zero => intro x0 x3 h; exact Y.nothing
  | succ n ih =>
    intro x0 x3 h
    unfold f_X0_begin_L37
    refine Y.op (pc' := 38) (fun _ => X.iloadn rfl dX0_begin_37) ?_
    refine Y.op (pc' := 40) (fun _ => X.bp kb_12 dX0_begin_38) ?_
    refine Y.cmpge 70 (by decide) dX0_begin_40 ?_ ?_
    · exact Y.fg (hkE70 x0 h) (And.intro rfl trivial)
    · refine Y.op (pc' := 44) (fun _ => X.aloadn rfl dX0_begin_43) ?_
      refine Y.getR fd_X0_9 rfl dX0_begin_44 (fun v1 => ?_)
      refine Y.op (pc' := 48) (fun _ => X.iloadn rfl dX0_begin_47) ?_
      refine Y.op (pc' := 49) (fun _ => X.ic ki_1 dX0_begin_48) ?_
      refine Y.astI dX0_begin_49 (fun h2 => ?_)
      refine Y.op (pc' := 51) (fun _ => X.aloadn rfl dX0_begin_50) ?_
      refine Y.getR fd_X0_15 rfl dX0_begin_51 (fun v3 => ?_)
      refine Y.op (pc' := 55) (fun _ => X.iloadn rfl dX0_begin_54) ?_
      refine Y.op (pc' := 56) (fun _ => X.ic ki_0 dX0_begin_55) ?_
      refine Y.astI dX0_begin_56 (fun h4 => ?_)
      refine Y.op (pc' := 58) (fun _ => X.aloadn rfl dX0_begin_57) ?_
      refine Y.getR fd_X0_18 rfl dX0_begin_58 (fun v5 => ?_)
      refine Y.op (pc' := 62) (fun _ => X.iloadn rfl dX0_begin_61) ?_
      refine Y.op (pc' := 63) (fun _ => X.ic ki_0 dX0_begin_62) ?_
      refine Y.astI dX0_begin_63 (fun h6 => ?_)
      refine Y.iinc (i := 3) (loc' := fun v7 => [some (.ref x0), none, none, some (.int v7)]) rfl (Nat.le_of_ble_eq_true rfl) ki_1 (fun _ => rfl) dX0_begin_64 (fun v7 => ?_)
      refine Y.op (pc' := 37) (fun _ => X.goto 37 (by decide) dX0_begin_67) ?_
      exact ih x0 v7 h6
def f_X0_begin (a0 : Nat) (p1 : Int32) (p2 : Int32) (h : xH) : Option (xH) :=
  (pI h 0 a0 0 p1).bind fun h1 =>
  (pI h1 0 a0 1 p2).bind fun h2 =>
  (f_X9_bit p1 h2).bind fun r3 =>
  (pI r3.2 0 a0 2 (r3.1 - (1 : Int32))).bind fun h4 =>
  (f_X9_bit p2 h4).bind fun r5 =>
  (pI r5.2 0 a0 3 (r5.1 - (1 : Int32))).bind fun h6 =>
  (pI h6 0 a0 4 (1 : Int32)).bind fun h7 =>
  f_X0_begin_L37 (f_X0_begin_J70) 5000 a0 (0 : Int32) h7
theorem y_X0_begin {g : xG} {h0 : xH} {cl : Bool} (a0 : Nat) (p1 : Int32) (p2 : Int32) (h : xH) : Y g DX0_begin h0 cl iV (f_X0_begin a0 p1 p2 h) 0 [some (.ref a0), some (.int p1), some (.int p2), none] [] h := by
  unfold f_X0_begin
  refine Y.op (pc' := 1) (fun _ => X.aloadn rfl dX0_begin_0) ?_
  refine Y.op (pc' := 2) (fun _ => X.iloadn rfl dX0_begin_1) ?_
  refine Y.putI fd_X0_35 rfl dX0_begin_2 (fun h1 => ?_)
  refine Y.op (pc' := 6) (fun _ => X.aloadn rfl dX0_begin_5) ?_
  refine Y.op (pc' := 7) (fun _ => X.iloadn rfl dX0_begin_6) ?_
  refine Y.putI fd_X0_39 rfl dX0_begin_7 (fun h2 => ?_)
  refine Y.op (pc' := 11) (fun _ => X.aloadn rfl dX0_begin_10) ?_
  refine Y.op (pc' := 12) (fun _ => X.iloadn rfl dX0_begin_11) ?_
  refine Y.callSi (As := [.int p1]) lk_X0_42 rfl cal_X9_bit sta_X9_bit (Nat.le_of_ble_eq_true rfl) rfl rfl (Nat.le_of_ble_eq_true rfl) dX0_begin_12 (fun _ e => m_X9_bit p1 h2 _ _ e) (fun r3 => ?_)
  refine Y.op (pc' := 16) (fun _ => X.ic ki_1 dX0_begin_15) ?_
  refine Y.op (pc' := 17) (fun _ => X.isub dX0_begin_16) ?_
  refine Y.putI fd_X0_46 rfl dX0_begin_17 (fun h4 => ?_)
  refine Y.op (pc' := 21) (fun _ => X.aloadn rfl dX0_begin_20) ?_
  refine Y.op (pc' := 22) (fun _ => X.iloadn rfl dX0_begin_21) ?_
  refine Y.callSi (As := [.int p2]) lk_X0_42 rfl cal_X9_bit sta_X9_bit (Nat.le_of_ble_eq_true rfl) rfl rfl (Nat.le_of_ble_eq_true rfl) dX0_begin_22 (fun _ e => m_X9_bit p2 h4 _ _ e) (fun r5 => ?_)
  refine Y.op (pc' := 26) (fun _ => X.ic ki_1 dX0_begin_25) ?_
  refine Y.op (pc' := 27) (fun _ => X.isub dX0_begin_26) ?_
  refine Y.putI fd_X0_49 rfl dX0_begin_27 (fun h6 => ?_)
  refine Y.op (pc' := 31) (fun _ => X.aloadn rfl dX0_begin_30) ?_
  refine Y.op (pc' := 32) (fun _ => X.ic ki_1 dX0_begin_31) ?_
  refine Y.putI fd_X0_52 rfl dX0_begin_32 (fun h7 => ?_)
  refine Y.op (pc' := 36) (fun _ => X.ic ki_0 dX0_begin_35) ?_
  refine Y.op (pc' := 37) (loc' := [some (.ref a0), some (.int p1), some (.int p2), some (.int (0 : Int32))]) (fun _ => X.istoren (Nat.le_of_ble_eq_true rfl) rfl dX0_begin_36) ?_
  exact Y.fg (y_X0_begin_L37 (y_X0_begin_J70) 5000 a0 (0 : Int32) h7) (And.intro rfl (And.intro rfl trivial))
theorem m_X0_begin {g : xG} (a0 : Nat) (p1 : Int32) (p2 : Int32) (h : xH) (cl : Bool) (r : xH) (e : f_X0_begin a0 p1 p2 h = some r) : XM g DX0_begin [.ref a0, .int p1, .int p2] h cl (iV r) := YM.of rfl rfl (Nat.le_of_ble_eq_true rfl) (y_X0_begin a0 p1 p2 h) e
def f_X3_init (a0 : Nat) (h : xH) : Option (xH) :=
  (nwI h (12 : Int32)).bind fun r1 =>
  (pR r1.2 3 a0 0 r1.1).bind fun h2 =>
  (nwI h2 (12 : Int32)).bind fun r3 =>
  (pR r3.2 3 a0 1 r3.1).bind fun h4 =>
  (vc h4 3 a0 (f_X3_clear a0 h4)).bind fun h5 =>
  some h5
theorem y_X3_init {g : xG} {h0 : xH} (a0 : Nat) (h : xH) : Y g DX3_init h0 false iV (f_X3_init a0 h) 0 [some (.ref a0)] [] h := by
  unfold f_X3_init
  refine Y.op (pc' := 1) (fun _ => X.aloadn rfl dX3_init_0) ?_
  refine Y.op (pc' := 4) (fun _ => X.objInit wo_X3 rfl (Nat.le_of_ble_eq_true rfl) (Nat.le_of_ble_eq_true rfl) dX3_init_1) ?_
  refine Y.op (pc' := 5) (fun _ => X.aloadn rfl dX3_init_4) ?_
  refine Y.op (pc' := 7) (fun _ => X.bp kb_12 dX3_init_5) ?_
  refine Y.newI waI dX3_init_7 (fun r1 => ?_)
  refine Y.putR ff_X3_9 rfl rfl (fun _ => rfl) (fun _ => rfl) dX3_init_9 (fun h2 => ?_)
  refine Y.op (pc' := 13) (fun _ => X.aloadn rfl dX3_init_12) ?_
  refine Y.op (pc' := 15) (fun _ => X.bp kb_12 dX3_init_13) ?_
  refine Y.newI waI dX3_init_15 (fun r3 => ?_)
  refine Y.putR ff_X3_15 rfl rfl (fun _ => rfl) (fun _ => rfl) dX3_init_17 (fun h4 => ?_)
  refine Y.op (pc' := 21) (fun _ => X.aloadn rfl dX3_init_20) ?_
  refine Y.callVv (As := []) lk_X3_18 rfl cal_X3_clear vir_X3_clear (Nat.le_of_ble_eq_true rfl) (Nat.le_of_ble_eq_true rfl) rfl rfl rfl (Nat.le_of_ble_eq_true rfl) dX3_init_21 (fun _ e => m_X3_clear a0 h4 _ _ e) (fun h5 => ?_)
  exact Y.vreturn rfl dX3_init_24
theorem m_X3_init {g : xG} (a0 : Nat) (h : xH) (r : xH) (e : f_X3_init a0 h = some r) : XM g DX3_init [.ref a0] h false (iV r) := YM.of rfl rfl (Nat.le_of_ble_eq_true rfl) (y_X3_init a0 h) e
def f_X0_init (a0 : Nat) (h : xH) : Option (xH) :=
  (nwI h (12 : Int32)).bind fun r1 =>
  (pR r1.2 0 a0 5 r1.1).bind fun h2 =>
  (nwI h2 (12 : Int32)).bind fun r3 =>
  (pR r3.2 0 a0 6 r3.1).bind fun h4 =>
  (nwI h4 (12 : Int32)).bind fun r5 =>
  (pR r5.2 0 a0 7 r5.1).bind fun h6 =>
  (nwI h6 (144 : Int32)).bind fun r7 =>
  (pR r7.2 0 a0 8 r7.1).bind fun h8 =>
  (nwC h8 (3, dv_X3)).bind fun r9 =>
  (ic r9.2 r9.1 (f_X3_init r9.1 r9.2)).bind fun h10 =>
  (pR h10 0 a0 9 r9.1).bind fun h11 =>
  (vc h11 0 a0 (f_X0_begin a0 (1 : Int32) (1 : Int32) h11)).bind fun h12 =>
  some h12
theorem y_X0_init {g : xG} {h0 : xH} (a0 : Nat) (h : xH) : Y g DX0_init h0 false iV (f_X0_init a0 h) 0 [some (.ref a0)] [] h := by
  unfold f_X0_init
  refine Y.op (pc' := 1) (fun _ => X.aloadn rfl dX0_init_0) ?_
  refine Y.op (pc' := 4) (fun _ => X.objInit wo_X0 rfl (Nat.le_of_ble_eq_true rfl) (Nat.le_of_ble_eq_true rfl) dX0_init_1) ?_
  refine Y.op (pc' := 5) (fun _ => X.aloadn rfl dX0_init_4) ?_
  refine Y.op (pc' := 7) (fun _ => X.bp kb_12 dX0_init_5) ?_
  refine Y.newI waI dX0_init_7 (fun r1 => ?_)
  refine Y.putR ff_X0_9 rfl rfl (fun _ => rfl) (fun _ => rfl) dX0_init_9 (fun h2 => ?_)
  refine Y.op (pc' := 13) (fun _ => X.aloadn rfl dX0_init_12) ?_
  refine Y.op (pc' := 15) (fun _ => X.bp kb_12 dX0_init_13) ?_
  refine Y.newI waI dX0_init_15 (fun r3 => ?_)
  refine Y.putR ff_X0_15 rfl rfl (fun _ => rfl) (fun _ => rfl) dX0_init_17 (fun h4 => ?_)
  refine Y.op (pc' := 21) (fun _ => X.aloadn rfl dX0_init_20) ?_
  refine Y.op (pc' := 23) (fun _ => X.bp kb_12 dX0_init_21) ?_
  refine Y.newI waI dX0_init_23 (fun r5 => ?_)
  refine Y.putR ff_X0_18 rfl rfl (fun _ => rfl) (fun _ => rfl) dX0_init_25 (fun h6 => ?_)
  refine Y.op (pc' := 29) (fun _ => X.aloadn rfl dX0_init_28) ?_
  refine Y.op (pc' := 32) (fun _ => X.sp ks_144 dX0_init_29) ?_
  refine Y.newI waI dX0_init_32 (fun r7 => ?_)
  refine Y.putR ff_X0_21 rfl rfl (fun _ => rfl) (fun _ => rfl) dX0_init_34 (fun h8 => ?_)
  refine Y.op (pc' := 38) (fun _ => X.aloadn rfl dX0_init_37) ?_
  refine Y.new wn_X0_24 rfl rfl dX0_init_38 (fun r9 => ?_)
  refine Y.op (pc' := 42) (fun _ => X.dup rfl dX0_init_41) ?_
  refine Y.callIv (As := []) lk_X0_26 rfl cal_X3_init ini_X3_init (Nat.le_of_ble_eq_true rfl) rfl rfl (Nat.le_of_ble_eq_true rfl) dX0_init_42 (fun _ e => m_X3_init r9.1 r9.2 _ e) (fun h10 => ?_)
  refine Y.putR ff_X0_27 rfl rfl (fun _ => rfl) (fun _ => rfl) dX0_init_45 (fun h11 => ?_)
  refine Y.op (pc' := 49) (fun _ => X.aloadn rfl dX0_init_48) ?_
  refine Y.op (pc' := 50) (fun _ => X.ic ki_1 dX0_init_49) ?_
  refine Y.op (pc' := 51) (fun _ => X.ic ki_1 dX0_init_50) ?_
  refine Y.callVv (As := [.int (1 : Int32), .int (1 : Int32)]) lk_X0_31 rfl cal_X0_begin vir_X0_begin (Nat.le_of_ble_eq_true rfl) (Nat.le_of_ble_eq_true rfl) rfl rfl rfl (Nat.le_of_ble_eq_true rfl) dX0_init_51 (fun _ e => m_X0_begin a0 (1 : Int32) (1 : Int32) h11 _ _ e) (fun h12 => ?_)
  exact Y.vreturn rfl dX0_init_54
theorem m_X0_init {g : xG} (a0 : Nat) (h : xH) (r : xH) (e : f_X0_init a0 h = some r) : XM g DX0_init [.ref a0] h false (iV r) := YM.of rfl rfl (Nat.le_of_ble_eq_true rfl) (y_X0_init a0 h) e
def f_X3_copy_J38 (h : xH) : Option (xH) :=
  some h
theorem y_X3_copy_J38 {g : xG} {h0 : xH} {cl : Bool} (h : xH) : Y g DX3_copy h0 cl iV (f_X3_copy_J38 h) 38 [none, none, none] [] h := by
  unfold f_X3_copy_J38
  exact Y.vreturn rfl dX3_copy_38
def f_X3_copy_L2 (kE38 : xH → Option (xH)) : Nat → Nat → Nat → Int32 → xH → Option (xH)
  | 0 => fun _ _ _ _ => none
  | n + 1 => fun x0 x1 x2 h =>
    if x2 ≥ (12 : Int32) then
      kE38 h
    else
      (gR h 3 x0 0).bind fun v1 =>
      (gR h 3 x1 0).bind fun v2 =>
      (aI h v2 x2).bind fun v3 =>
      (sI h v1 x2 v3).bind fun h4 =>
      (gR h4 3 x0 1).bind fun v5 =>
      (gR h4 3 x1 1).bind fun v6 =>
      (aI h4 v6 x2).bind fun v7 =>
      (sI h4 v5 x2 v7).bind fun h8 =>
      lt (x2 + (1 : Int32)) fun v9 =>
      f_X3_copy_L2 kE38 n x0 x1 v9 h8
theorem y_X3_copy_L2 {g : xG} {h0 : xH} {cl : Bool} {kE38 : xH → Option (xH)} (hkE38 : ∀  (h : xH), Y g DX3_copy h0 cl iV (kE38  h) 38 [none, none, none] [] h) : ∀ (n : Nat) (x0 : Nat) (x1 : Nat) (x2 : Int32) (h : xH), Y g DX3_copy h0 cl iV (f_X3_copy_L2 kE38 n x0 x1 x2 h) 2 [some (.ref x0), some (.ref x1), some (.int x2)] [] h := by
  intro n
  induction n with
  | zero => intro x0 x1 x2 h; exact Y.nothing
  | succ n ih =>
    intro x0 x1 x2 h
    unfold f_X3_copy_L2
    refine Y.op (pc' := 3) (fun _ => X.iloadn rfl dX3_copy_2) ?_
    refine Y.op (pc' := 5) (fun _ => X.bp kb_12 dX3_copy_3) ?_
    refine Y.cmpge 38 (by decide) dX3_copy_5 ?_ ?_
    · exact Y.fg (hkE38 h) trivial
    · refine Y.op (pc' := 9) (fun _ => X.aloadn rfl dX3_copy_8) ?_
      refine Y.getR fd_X3_9 rfl dX3_copy_9 (fun v1 => ?_)
      refine Y.op (pc' := 13) (fun _ => X.iloadn rfl dX3_copy_12) ?_
      refine Y.op (pc' := 14) (fun _ => X.aloadn rfl dX3_copy_13) ?_
      refine Y.getR fd_X3_9 rfl dX3_copy_14 (fun v2 => ?_)
      refine Y.op (pc' := 18) (fun _ => X.iloadn rfl dX3_copy_17) ?_
      refine Y.aldI dX3_copy_18 (fun v3 => ?_)
      refine Y.astI dX3_copy_19 (fun h4 => ?_)
      refine Y.op (pc' := 21) (fun _ => X.aloadn rfl dX3_copy_20) ?_
      refine Y.getR fd_X3_15 rfl dX3_copy_21 (fun v5 => ?_)
      refine Y.op (pc' := 25) (fun _ => X.iloadn rfl dX3_copy_24) ?_
      refine Y.op (pc' := 26) (fun _ => X.aloadn rfl dX3_copy_25) ?_
      refine Y.getR fd_X3_15 rfl dX3_copy_26 (fun v6 => ?_)
      refine Y.op (pc' := 30) (fun _ => X.iloadn rfl dX3_copy_29) ?_
      refine Y.aldI dX3_copy_30 (fun v7 => ?_)
      refine Y.astI dX3_copy_31 (fun h8 => ?_)
      refine Y.iinc (i := 2) (loc' := fun v9 => [some (.ref x0), some (.ref x1), some (.int v9)]) rfl (Nat.le_of_ble_eq_true rfl) ki_1 (fun _ => rfl) dX3_copy_32 (fun v9 => ?_)
      refine Y.op (pc' := 2) (fun _ => X.goto 2 (by decide) dX3_copy_35) ?_
      exact ih x0 x1 v9 h8
def f_X3_copy (a0 : Nat) (p1 : Nat) (h : xH) : Option (xH) :=
  f_X3_copy_L2 (f_X3_copy_J38) 5000 a0 p1 (0 : Int32) h
theorem y_X3_copy {g : xG} {h0 : xH} {cl : Bool} (a0 : Nat) (p1 : Nat) (h : xH) : Y g DX3_copy h0 cl iV (f_X3_copy a0 p1 h) 0 [some (.ref a0), some (.ref p1), none] [] h := by
  unfold f_X3_copy
  refine Y.op (pc' := 1) (fun _ => X.ic ki_0 dX3_copy_0) ?_
  refine Y.op (pc' := 2) (loc' := [some (.ref a0), some (.ref p1), some (.int (0 : Int32))]) (fun _ => X.istoren (Nat.le_of_ble_eq_true rfl) rfl dX3_copy_1) ?_
  exact y_X3_copy_L2 (y_X3_copy_J38) 5000 a0 p1 (0 : Int32) h
theorem m_X3_copy {g : xG} (a0 : Nat) (p1 : Nat) (h : xH) (cl : Bool) (r : xH) (e : f_X3_copy a0 p1 h = some r) : XM g DX3_copy [.ref a0, .ref p1] h cl (iV r) := YM.of rfl rfl (Nat.le_of_ble_eq_true rfl) (y_X3_copy a0 p1 h) e
def f_X0_copy_J90 (x0 : Nat) (x1 : Nat) (h : xH) : Option (xH) :=
  (gR h 0 x1 8).bind fun v1 =>
  (gR h 0 x0 8).bind fun v2 =>
  (cpI h v1 (0 : Int32) v2 (0 : Int32) (144 : Int32)).bind fun h3 =>
  (gR h3 0 x0 9).bind fun v4 =>
  (gR h3 0 x1 9).bind fun v5 =>
  (vc h3 3 v4 (f_X3_copy v4 v5 h3)).bind fun h6 =>
  some h6
theorem y_X0_copy_J90 {g : xG} {h0 : xH} {cl : Bool} (x0 : Nat) (x1 : Nat) (h : xH) : Y g DX0_copy h0 cl iV (f_X0_copy_J90 x0 x1 h) 90 [some (.ref x0), some (.ref x1), none] [] h := by
  unfold f_X0_copy_J90
  refine Y.op (pc' := 91) (fun _ => X.aloadn rfl dX0_copy_90) ?_
  refine Y.getR fd_X0_21 rfl dX0_copy_91 (fun v1 => ?_)
  refine Y.op (pc' := 95) (fun _ => X.ic ki_0 dX0_copy_94) ?_
  refine Y.op (pc' := 96) (fun _ => X.aloadn rfl dX0_copy_95) ?_
  refine Y.getR fd_X0_21 rfl dX0_copy_96 (fun v2 => ?_)
  refine Y.op (pc' := 100) (fun _ => X.ic ki_0 dX0_copy_99) ?_
  refine Y.op (pc' := 103) (fun _ => X.sp ks_144 dX0_copy_100) ?_
  refine Y.copyI cw_X0_58 rfl (Nat.le_of_ble_eq_true rfl) (Nat.le_of_ble_eq_true rfl) dX0_copy_103 (fun h3 => ?_)
  refine Y.op (pc' := 107) (fun _ => X.aloadn rfl dX0_copy_106) ?_
  refine Y.getR fd_X0_27 rfl dX0_copy_107 (fun v4 => ?_)
  refine Y.op (pc' := 111) (fun _ => X.aloadn rfl dX0_copy_110) ?_
  refine Y.getR fd_X0_27 rfl dX0_copy_111 (fun v5 => ?_)
  refine Y.callVv (As := [.ref v5]) lk_X0_64 rfl cal_X3_copy vir_X3_copy (Nat.le_of_ble_eq_true rfl) (Nat.le_of_ble_eq_true rfl) rfl rfl rfl (Nat.le_of_ble_eq_true rfl) dX0_copy_114 (fun _ e => m_X3_copy v4 v5 h3 _ _ e) (fun h6 => ?_)
  exact Y.vreturn rfl dX0_copy_117
def f_X0_copy_L42 (kE90 : Nat → Nat → xH → Option (xH)) : Nat → Nat → Nat → Int32 → xH → Option (xH)
  | 0 => fun _ _ _ _ => none
  | n + 1 => fun x0 x1 x2 h =>
    if x2 ≥ (12 : Int32) then
      kE90 x0 x1 h
    else
      (gR h 0 x0 5).bind fun v1 =>
      (gR h 0 x1 5).bind fun v2 =>
      (aI h v2 x2).bind fun v3 =>
      (sI h v1 x2 v3).bind fun h4 =>
      (gR h4 0 x0 6).bind fun v5 =>
      (gR h4 0 x1 6).bind fun v6 =>
      (aI h4 v6 x2).bind fun v7 =>
      (sI h4 v5 x2 v7).bind fun h8 =>
      (gR h8 0 x0 7).bind fun v9 =>
      (gR h8 0 x1 7).bind fun v10 =>
      (aI h8 v10 x2).bind fun v11 =>
      (sI h8 v9 x2 v11).bind fun h12 =>
      lt (x2 + (1 : Int32)) fun v13 =>
      f_X0_copy_L42 kE90 n x0 x1 v13 h12
theorem y_X0_copy_L42 {g : xG} {h0 : xH} {cl : Bool} {kE90 : Nat → Nat → xH → Option (xH)} (hkE90 : ∀ (x0 : Nat) (x1 : Nat) (h : xH), Y g DX0_copy h0 cl iV (kE90 x0 x1 h) 90 [some (.ref x0), some (.ref x1), none] [] h) : ∀ (n : Nat) (x0 : Nat) (x1 : Nat) (x2 : Int32) (h : xH), Y g DX0_copy h0 cl iV (f_X0_copy_L42 kE90 n x0 x1 x2 h) 42 [some (.ref x0), some (.ref x1), some (.int x2)] [] h := by
  intro n
  induction n with
  | zero => intro x0 x1 x2 h; exact Y.nothing
  | succ n ih =>
    intro x0 x1 x2 h
    unfold f_X0_copy_L42
    refine Y.op (pc' := 43) (fun _ => X.iloadn rfl dX0_copy_42) ?_
    refine Y.op (pc' := 45) (fun _ => X.bp kb_12 dX0_copy_43) ?_
    refine Y.cmpge 90 (by decide) dX0_copy_45 ?_ ?_
    · exact Y.fg (hkE90 x0 x1 h) (And.intro rfl (And.intro rfl trivial))
    · refine Y.op (pc' := 49) (fun _ => X.aloadn rfl dX0_copy_48) ?_
      refine Y.getR fd_X0_9 rfl dX0_copy_49 (fun v1 => ?_)
      refine Y.op (pc' := 53) (fun _ => X.iloadn rfl dX0_copy_52) ?_
      refine Y.op (pc' := 54) (fun _ => X.aloadn rfl dX0_copy_53) ?_
      refine Y.getR fd_X0_9 rfl dX0_copy_54 (fun v2 => ?_)
      refine Y.op (pc' := 58) (fun _ => X.iloadn rfl dX0_copy_57) ?_
      refine Y.aldI dX0_copy_58 (fun v3 => ?_)
      refine Y.astI dX0_copy_59 (fun h4 => ?_)
      refine Y.op (pc' := 61) (fun _ => X.aloadn rfl dX0_copy_60) ?_
      refine Y.getR fd_X0_15 rfl dX0_copy_61 (fun v5 => ?_)
      refine Y.op (pc' := 65) (fun _ => X.iloadn rfl dX0_copy_64) ?_
      refine Y.op (pc' := 66) (fun _ => X.aloadn rfl dX0_copy_65) ?_
      refine Y.getR fd_X0_15 rfl dX0_copy_66 (fun v6 => ?_)
      refine Y.op (pc' := 70) (fun _ => X.iloadn rfl dX0_copy_69) ?_
      refine Y.aldI dX0_copy_70 (fun v7 => ?_)
      refine Y.astI dX0_copy_71 (fun h8 => ?_)
      refine Y.op (pc' := 73) (fun _ => X.aloadn rfl dX0_copy_72) ?_
      refine Y.getR fd_X0_18 rfl dX0_copy_73 (fun v9 => ?_)
      refine Y.op (pc' := 77) (fun _ => X.iloadn rfl dX0_copy_76) ?_
      refine Y.op (pc' := 78) (fun _ => X.aloadn rfl dX0_copy_77) ?_
      refine Y.getR fd_X0_18 rfl dX0_copy_78 (fun v10 => ?_)
      refine Y.op (pc' := 82) (fun _ => X.iloadn rfl dX0_copy_81) ?_
      refine Y.aldI dX0_copy_82 (fun v11 => ?_)
      refine Y.astI dX0_copy_83 (fun h12 => ?_)
      refine Y.iinc (i := 2) (loc' := fun v13 => [some (.ref x0), some (.ref x1), some (.int v13)]) rfl (Nat.le_of_ble_eq_true rfl) ki_1 (fun _ => rfl) dX0_copy_84 (fun v13 => ?_)
      refine Y.op (pc' := 42) (fun _ => X.goto 42 (by decide) dX0_copy_87) ?_
      exact ih x0 x1 v13 h12
def f_X0_copy (a0 : Nat) (p1 : Nat) (h : xH) : Option (xH) :=
  (gI h 0 p1 0).bind fun v1 =>
  (pI h 0 a0 0 v1).bind fun h2 =>
  (gI h2 0 p1 1).bind fun v3 =>
  (pI h2 0 a0 1 v3).bind fun h4 =>
  (gI h4 0 p1 2).bind fun v5 =>
  (pI h4 0 a0 2 v5).bind fun h6 =>
  (gI h6 0 p1 3).bind fun v7 =>
  (pI h6 0 a0 3 v7).bind fun h8 =>
  (gI h8 0 p1 4).bind fun v9 =>
  (pI h8 0 a0 4 v9).bind fun h10 =>
  f_X0_copy_L42 (f_X0_copy_J90) 5000 a0 p1 (0 : Int32) h10
theorem y_X0_copy {g : xG} {h0 : xH} {cl : Bool} (a0 : Nat) (p1 : Nat) (h : xH) : Y g DX0_copy h0 cl iV (f_X0_copy a0 p1 h) 0 [some (.ref a0), some (.ref p1), none] [] h := by
  unfold f_X0_copy
  refine Y.op (pc' := 1) (fun _ => X.aloadn rfl dX0_copy_0) ?_
  refine Y.op (pc' := 2) (fun _ => X.aloadn rfl dX0_copy_1) ?_
  refine Y.getI fd_X0_35 rfl dX0_copy_2 (fun v1 => ?_)
  refine Y.putI fd_X0_35 rfl dX0_copy_5 (fun h2 => ?_)
  refine Y.op (pc' := 9) (fun _ => X.aloadn rfl dX0_copy_8) ?_
  refine Y.op (pc' := 10) (fun _ => X.aloadn rfl dX0_copy_9) ?_
  refine Y.getI fd_X0_39 rfl dX0_copy_10 (fun v3 => ?_)
  refine Y.putI fd_X0_39 rfl dX0_copy_13 (fun h4 => ?_)
  refine Y.op (pc' := 17) (fun _ => X.aloadn rfl dX0_copy_16) ?_
  refine Y.op (pc' := 18) (fun _ => X.aloadn rfl dX0_copy_17) ?_
  refine Y.getI fd_X0_46 rfl dX0_copy_18 (fun v5 => ?_)
  refine Y.putI fd_X0_46 rfl dX0_copy_21 (fun h6 => ?_)
  refine Y.op (pc' := 25) (fun _ => X.aloadn rfl dX0_copy_24) ?_
  refine Y.op (pc' := 26) (fun _ => X.aloadn rfl dX0_copy_25) ?_
  refine Y.getI fd_X0_49 rfl dX0_copy_26 (fun v7 => ?_)
  refine Y.putI fd_X0_49 rfl dX0_copy_29 (fun h8 => ?_)
  refine Y.op (pc' := 33) (fun _ => X.aloadn rfl dX0_copy_32) ?_
  refine Y.op (pc' := 34) (fun _ => X.aloadn rfl dX0_copy_33) ?_
  refine Y.getI fd_X0_52 rfl dX0_copy_34 (fun v9 => ?_)
  refine Y.putI fd_X0_52 rfl dX0_copy_37 (fun h10 => ?_)
  refine Y.op (pc' := 41) (fun _ => X.ic ki_0 dX0_copy_40) ?_
  refine Y.op (pc' := 42) (loc' := [some (.ref a0), some (.ref p1), some (.int (0 : Int32))]) (fun _ => X.istoren (Nat.le_of_ble_eq_true rfl) rfl dX0_copy_41) ?_
  exact y_X0_copy_L42 (y_X0_copy_J90) 5000 a0 p1 (0 : Int32) h10
theorem m_X0_copy {g : xG} (a0 : Nat) (p1 : Nat) (h : xH) (cl : Bool) (r : xH) (e : f_X0_copy a0 p1 h = some r) : XM g DX0_copy [.ref a0, .ref p1] h cl (iV r) := YM.of rfl rfl (Nat.le_of_ble_eq_true rfl) (y_X0_copy a0 p1 h) e
def f_X0_knows_J34 (s0 : Int32) (h : xH) : Option (Int32 × xH) :=
  if s0 = 0 ∨ s0 = 1 then some (s0, h) else none
theorem y_X0_knows_J34 {g : xG} {h0 : xH} {cl : Bool} (s0 : Int32) (h : xH) : Y g DX0_knows h0 cl iI (f_X0_knows_J34 s0 h) 34 [none, none, none] [.int s0] h := by
  unfold f_X0_knows_J34
  exact Y.zreturn rfl dX0_knows_34
def f_X0_knows_J33 (h : xH) : Option (Int32 × xH) :=
  f_X0_knows_J34 (0 : Int32) h
theorem y_X0_knows_J33 {g : xG} {h0 : xH} {cl : Bool} (h : xH) : Y g DX0_knows h0 cl iI (f_X0_knows_J33 h) 33 [none, none, none] [] h := by
  unfold f_X0_knows_J33
  refine Y.op (pc' := 34) (fun _ => X.ic ki_0 dX0_knows_33) ?_
  exact y_X0_knows_J34 (0 : Int32) h
def f_X0_knows_J29 (h : xH) : Option (Int32 × xH) :=
  f_X0_knows_J34 (1 : Int32) h
theorem y_X0_knows_J29 {g : xG} {h0 : xH} {cl : Bool} (h : xH) : Y g DX0_knows h0 cl iI (f_X0_knows_J29 h) 29 [none, none, none] [] h := by
  unfold f_X0_knows_J29
  refine Y.op (pc' := 30) (fun _ => X.ic ki_1 dX0_knows_29) ?_
  refine Y.op (pc' := 34) (fun _ => X.goto 34 (by decide) dX0_knows_30) ?_
  exact y_X0_knows_J34 (1 : Int32) h
def f_X0_knows_J16 (x0 : Nat) (x1 : Int32) (x2 : Int32) (h : xH) : Option (Int32 × xH) :=
  if x1 = (1 : Int32) then
    (gI h 0 x0 1).bind fun v1 =>
    if x2 ≥ v1 then
      f_X0_knows_J33 h
    else
      f_X0_knows_J29 h
  else
    f_X0_knows_J33 h
theorem y_X0_knows_J16 {g : xG} {h0 : xH} {cl : Bool} (x0 : Nat) (x1 : Int32) (x2 : Int32) (h : xH) : Y g DX0_knows h0 cl iI (f_X0_knows_J16 x0 x1 x2 h) 16 [some (.ref x0), some (.int x1), some (.int x2)] [] h := by
  unfold f_X0_knows_J16
  refine Y.op (pc' := 17) (fun _ => X.iloadn rfl dX0_knows_16) ?_
  refine Y.op (pc' := 18) (fun _ => X.ic ki_1 dX0_knows_17) ?_
  refine Y.cmpne 33 (by decide) dX0_knows_18 ?_ ?_
  · exact Y.fg (y_X0_knows_J33 h) trivial
  · refine Y.op (pc' := 22) (fun _ => X.iloadn rfl dX0_knows_21) ?_
    refine Y.op (pc' := 23) (fun _ => X.aloadn rfl dX0_knows_22) ?_
    refine Y.getI fd_X0_39 rfl dX0_knows_23 (fun v1 => ?_)
    refine Y.cmpge 33 (by decide) dX0_knows_26 ?_ ?_
    · exact Y.fg (y_X0_knows_J33 h) trivial
    · exact Y.fg (y_X0_knows_J29 h) trivial
def f_X0_knows (a0 : Nat) (p1 : Int32) (p2 : Int32) (h : xH) : Option (Int32 × xH) :=
  if p2 < (0 : Int32) then
    f_X0_knows_J33 h
  else
    if p1 = (0 : Int32) then
      (gI h 0 a0 0).bind fun v1 =>
      if p2 < v1 then
        f_X0_knows_J29 h
      else
        f_X0_knows_J16 a0 p1 p2 h
    else
      f_X0_knows_J16 a0 p1 p2 h
theorem y_X0_knows {g : xG} {h0 : xH} {cl : Bool} (a0 : Nat) (p1 : Int32) (p2 : Int32) (h : xH) : Y g DX0_knows h0 cl iI (f_X0_knows a0 p1 p2 h) 0 [some (.ref a0), some (.int p1), some (.int p2)] [] h := by
  unfold f_X0_knows
  refine Y.op (pc' := 1) (fun _ => X.iloadn rfl dX0_knows_0) ?_
  refine Y.iflt 33 (by decide) dX0_knows_1 ?_ ?_
  · exact Y.fg (y_X0_knows_J33 h) trivial
  · refine Y.op (pc' := 5) (fun _ => X.iloadn rfl dX0_knows_4) ?_
    refine Y.ifne 16 (by decide) dX0_knows_5 ?_ ?_
    · exact y_X0_knows_J16 a0 p1 p2 h
    · refine Y.op (pc' := 9) (fun _ => X.iloadn rfl dX0_knows_8) ?_
      refine Y.op (pc' := 10) (fun _ => X.aloadn rfl dX0_knows_9) ?_
      refine Y.getI fd_X0_35 rfl dX0_knows_10 (fun v1 => ?_)
      refine Y.cmplt 29 (by decide) dX0_knows_13 ?_ ?_
      · exact Y.fg (y_X0_knows_J29 h) trivial
      · exact y_X0_knows_J16 a0 p1 p2 h
theorem m_X0_knows {g : xG} (a0 : Nat) (p1 : Int32) (p2 : Int32) (h : xH) (cl : Bool) (r : Int32 × xH) (e : f_X0_knows a0 p1 p2 h = some r) : XM g DX0_knows [.ref a0, .int p1, .int p2] h cl (iI r) := YM.of rfl rfl (Nat.le_of_ble_eq_true rfl) (y_X0_knows a0 p1 p2 h) e
def f_X0_knowsBoth_J23 (s0 : Int32) (h : xH) : Option (Int32 × xH) :=
  if s0 = 0 ∨ s0 = 1 then some (s0, h) else none
theorem y_X0_knowsBoth_J23 {g : xG} {h0 : xH} {cl : Bool} (s0 : Int32) (h : xH) : Y g DX0_knowsBoth h0 cl iI (f_X0_knowsBoth_J23 s0 h) 23 [none, none, none] [.int s0] h := by
  unfold f_X0_knowsBoth_J23
  exact Y.zreturn rfl dX0_knowsBoth_23
def f_X0_knowsBoth_J22 (h : xH) : Option (Int32 × xH) :=
  f_X0_knowsBoth_J23 (0 : Int32) h
theorem y_X0_knowsBoth_J22 {g : xG} {h0 : xH} {cl : Bool} (h : xH) : Y g DX0_knowsBoth h0 cl iI (f_X0_knowsBoth_J22 h) 22 [none, none, none] [] h := by
  unfold f_X0_knowsBoth_J22
  refine Y.op (pc' := 23) (fun _ => X.ic ki_0 dX0_knowsBoth_22) ?_
  exact y_X0_knowsBoth_J23 (0 : Int32) h
def f_X0_knowsBoth (a0 : Nat) (p1 : Int32) (p2 : Int32) (h : xH) : Option (Int32 × xH) :=
  (vc h 0 a0 (f_X0_knows a0 (0 : Int32) p1 h)).bind fun r1 =>
  if r1.1 = (0 : Int32) then
    f_X0_knowsBoth_J22 r1.2
  else
    (vc r1.2 0 a0 (f_X0_knows a0 (1 : Int32) p2 r1.2)).bind fun r2 =>
    if r2.1 = (0 : Int32) then
      f_X0_knowsBoth_J22 r2.2
    else
      f_X0_knowsBoth_J23 (1 : Int32) r2.2
theorem y_X0_knowsBoth {g : xG} {h0 : xH} {cl : Bool} (a0 : Nat) (p1 : Int32) (p2 : Int32) (h : xH) : Y g DX0_knowsBoth h0 cl iI (f_X0_knowsBoth a0 p1 p2 h) 0 [some (.ref a0), some (.int p1), some (.int p2)] [] h := by
  unfold f_X0_knowsBoth
  refine Y.op (pc' := 1) (fun _ => X.aloadn rfl dX0_knowsBoth_0) ?_
  refine Y.op (pc' := 2) (fun _ => X.ic ki_0 dX0_knowsBoth_1) ?_
  refine Y.op (pc' := 3) (fun _ => X.iloadn rfl dX0_knowsBoth_2) ?_
  refine Y.callVi (As := [.int (0 : Int32), .int p1]) lk_X0_68 rfl cal_X0_knows vir_X0_knows (Nat.le_of_ble_eq_true rfl) (Nat.le_of_ble_eq_true rfl) rfl rfl rfl (Nat.le_of_ble_eq_true rfl) dX0_knowsBoth_3 (fun _ e => m_X0_knows a0 (0 : Int32) p1 h _ _ e) (fun r1 => ?_)
  refine Y.ifeq 22 (by decide) dX0_knowsBoth_6 ?_ ?_
  · exact Y.fg (y_X0_knowsBoth_J22 r1.2) trivial
  · refine Y.op (pc' := 10) (fun _ => X.aloadn rfl dX0_knowsBoth_9) ?_
    refine Y.op (pc' := 11) (fun _ => X.ic ki_1 dX0_knowsBoth_10) ?_
    refine Y.op (pc' := 12) (fun _ => X.iloadn rfl dX0_knowsBoth_11) ?_
    refine Y.callVi (As := [.int (1 : Int32), .int p2]) lk_X0_68 rfl cal_X0_knows vir_X0_knows (Nat.le_of_ble_eq_true rfl) (Nat.le_of_ble_eq_true rfl) rfl rfl rfl (Nat.le_of_ble_eq_true rfl) dX0_knowsBoth_12 (fun _ e => m_X0_knows a0 (1 : Int32) p2 r1.2 _ _ e) (fun r2 => ?_)
    refine Y.ifeq 22 (by decide) dX0_knowsBoth_15 ?_ ?_
    · exact Y.fg (y_X0_knowsBoth_J22 r2.2) trivial
    · refine Y.op (pc' := 19) (fun _ => X.ic ki_1 dX0_knowsBoth_18) ?_
      refine Y.op (pc' := 23) (fun _ => X.goto 23 (by decide) dX0_knowsBoth_19) ?_
      exact Y.fg (y_X0_knowsBoth_J23 (1 : Int32) r2.2) trivial
theorem m_X0_knowsBoth {g : xG} (a0 : Nat) (p1 : Int32) (p2 : Int32) (h : xH) (cl : Bool) (r : Int32 × xH) (e : f_X0_knowsBoth a0 p1 p2 h = some r) : XM g DX0_knowsBoth [.ref a0, .int p1, .int p2] h cl (iI r) := YM.of rfl rfl (Nat.le_of_ble_eq_true rfl) (y_X0_knowsBoth a0 p1 p2 h) e
def f_X9_has_J13 (s0 : Int32) (h : xH) : Option (Int32 × xH) :=
  if s0 = 0 ∨ s0 = 1 then some (s0, h) else none
theorem y_X9_has_J13 {g : xG} {h0 : xH} {cl : Bool} (s0 : Int32) (h : xH) : Y g DX9_has h0 cl iI (f_X9_has_J13 s0 h) 13 [none, none] [.int s0] h := by
  unfold f_X9_has_J13
  exact Y.zreturn rfl dX9_has_13
def f_X9_has (p1 : Int32) (p2 : Int32) (h : xH) : Option (Int32 × xH) :=
  if ((p1 >>> (p2 &&& 31)) &&& (1 : Int32)) = (0 : Int32) then
    f_X9_has_J13 (0 : Int32) h
  else
    f_X9_has_J13 (1 : Int32) h
theorem y_X9_has {g : xG} {h0 : xH} {cl : Bool} (p1 : Int32) (p2 : Int32) (h : xH) : Y g DX9_has h0 cl iI (f_X9_has p1 p2 h) 0 [some (.int p1), some (.int p2)] [] h := by
  unfold f_X9_has
  refine Y.op (pc' := 1) (fun _ => X.iloadn rfl dX9_has_0) ?_
  refine Y.op (pc' := 2) (fun _ => X.iloadn rfl dX9_has_1) ?_
  refine Y.op (pc' := 3) (fun _ => X.ishr dX9_has_2) ?_
  refine Y.op (pc' := 4) (fun _ => X.ic ki_1 dX9_has_3) ?_
  refine Y.op (pc' := 5) (fun _ => X.iand dX9_has_4) ?_
  refine Y.ifeq 12 (by decide) dX9_has_5 ?_ ?_
  · refine Y.op (pc' := 13) (fun _ => X.ic ki_0 dX9_has_12) ?_
    exact Y.fg (y_X9_has_J13 (0 : Int32) h) trivial
  · refine Y.op (pc' := 9) (fun _ => X.ic ki_1 dX9_has_8) ?_
    refine Y.op (pc' := 13) (fun _ => X.goto 13 (by decide) dX9_has_9) ?_
    exact Y.fg (y_X9_has_J13 (1 : Int32) h) trivial
theorem m_X9_has {g : xG} (p1 : Int32) (p2 : Int32) (h : xH) (cl : Bool) (r : Int32 × xH) (e : f_X9_has p1 p2 h = some r) : XM g DX9_has [.int p1, .int p2] h cl (iI r) := YM.of rfl rfl (Nat.le_of_ble_eq_true rfl) (y_X9_has p1 p2 h) e
def f_X0_isThere_J36 (s0 : Int32) (h : xH) : Option (Int32 × xH) :=
  if s0 = 0 ∨ s0 = 1 then some (s0, h) else none
theorem y_X0_isThere_J36 {g : xG} {h0 : xH} {cl : Bool} (s0 : Int32) (h : xH) : Y g DX0_isThere h0 cl iI (f_X0_isThere_J36 s0 h) 36 [none, none, none] [.int s0] h := by
  unfold f_X0_isThere_J36
  exact Y.zreturn rfl dX0_isThere_36
def f_X0_isThere_J35 (h : xH) : Option (Int32 × xH) :=
  f_X0_isThere_J36 (0 : Int32) h
theorem y_X0_isThere_J35 {g : xG} {h0 : xH} {cl : Bool} (h : xH) : Y g DX0_isThere h0 cl iI (f_X0_isThere_J35 h) 35 [none, none, none] [] h := by
  unfold f_X0_isThere_J35
  refine Y.op (pc' := 36) (fun _ => X.ic ki_0 dX0_isThere_35) ?_
  exact y_X0_isThere_J36 (0 : Int32) h
def f_X0_isThere_J24 (x2 : Int32) (s0 : Int32) (h : xH) : Option (Int32 × xH) :=
  (f_X9_has s0 x2 h).bind fun r1 =>
  if r1.1 = (0 : Int32) then
    f_X0_isThere_J35 r1.2
  else
    f_X0_isThere_J36 (1 : Int32) r1.2
theorem y_X0_isThere_J24 {g : xG} {h0 : xH} {cl : Bool} (x2 : Int32) (s0 : Int32) (h : xH) : Y g DX0_isThere h0 cl iI (f_X0_isThere_J24 x2 s0 h) 24 [none, none, some (.int x2)] [.int s0] h := by
  unfold f_X0_isThere_J24
  refine Y.op (pc' := 25) (fun _ => X.iloadn rfl dX0_isThere_24) ?_
  refine Y.callSi (As := [.int s0, .int x2]) lk_X0_72 rfl cal_X9_has sta_X9_has (Nat.le_of_ble_eq_true rfl) rfl rfl (Nat.le_of_ble_eq_true rfl) dX0_isThere_25 (fun _ e => m_X9_has s0 x2 h _ _ e) (fun r1 => ?_)
  refine Y.ifeq 35 (by decide) dX0_isThere_28 ?_ ?_
  · exact Y.fg (y_X0_isThere_J35 r1.2) trivial
  · refine Y.op (pc' := 32) (fun _ => X.ic ki_1 dX0_isThere_31) ?_
    refine Y.op (pc' := 36) (fun _ => X.goto 36 (by decide) dX0_isThere_32) ?_
    exact Y.fg (y_X0_isThere_J36 (1 : Int32) r1.2) trivial
def f_X0_isThere (a0 : Nat) (p1 : Int32) (p2 : Int32) (h : xH) : Option (Int32 × xH) :=
  (vc h 0 a0 (f_X0_knows a0 p1 p2 h)).bind fun r1 =>
  if r1.1 = (0 : Int32) then
    f_X0_isThere_J35 r1.2
  else
    if p1 = (0 : Int32) then
      (gI r1.2 0 a0 2).bind fun v3 =>
      f_X0_isThere_J24 p2 v3 r1.2
    else
      (gI r1.2 0 a0 3).bind fun v2 =>
      f_X0_isThere_J24 p2 v2 r1.2
theorem y_X0_isThere {g : xG} {h0 : xH} {cl : Bool} (a0 : Nat) (p1 : Int32) (p2 : Int32) (h : xH) : Y g DX0_isThere h0 cl iI (f_X0_isThere a0 p1 p2 h) 0 [some (.ref a0), some (.int p1), some (.int p2)] [] h := by
  unfold f_X0_isThere
  refine Y.op (pc' := 1) (fun _ => X.aloadn rfl dX0_isThere_0) ?_
  refine Y.op (pc' := 2) (fun _ => X.iloadn rfl dX0_isThere_1) ?_
  refine Y.op (pc' := 3) (fun _ => X.iloadn rfl dX0_isThere_2) ?_
  refine Y.callVi (As := [.int p1, .int p2]) lk_X0_68 rfl cal_X0_knows vir_X0_knows (Nat.le_of_ble_eq_true rfl) (Nat.le_of_ble_eq_true rfl) rfl rfl rfl (Nat.le_of_ble_eq_true rfl) dX0_isThere_3 (fun _ e => m_X0_knows a0 p1 p2 h _ _ e) (fun r1 => ?_)
  refine Y.ifeq 35 (by decide) dX0_isThere_6 ?_ ?_
  · exact Y.fg (y_X0_isThere_J35 r1.2) trivial
  · refine Y.op (pc' := 10) (fun _ => X.iloadn rfl dX0_isThere_9) ?_
    refine Y.ifne 20 (by decide) dX0_isThere_10 ?_ ?_
    · refine Y.op (pc' := 21) (fun _ => X.aloadn rfl dX0_isThere_20) ?_
      refine Y.getI fd_X0_49 rfl dX0_isThere_21 (fun v2 => ?_)
      exact Y.fg (y_X0_isThere_J24 p2 v2 r1.2) (And.intro rfl trivial)
    · refine Y.op (pc' := 14) (fun _ => X.aloadn rfl dX0_isThere_13) ?_
      refine Y.getI fd_X0_46 rfl dX0_isThere_14 (fun v3 => ?_)
      refine Y.op (pc' := 24) (fun _ => X.goto 24 (by decide) dX0_isThere_17) ?_
      exact Y.fg (y_X0_isThere_J24 p2 v3 r1.2) (And.intro rfl trivial)
theorem m_X0_isThere {g : xG} (a0 : Nat) (p1 : Int32) (p2 : Int32) (h : xH) (cl : Bool) (r : Int32 × xH) (e : f_X0_isThere a0 p1 p2 h = some r) : XM g DX0_isThere [.ref a0, .int p1, .int p2] h cl (iI r) := YM.of rfl rfl (Nat.le_of_ble_eq_true rfl) (y_X0_isThere a0 p1 p2 h) e
def f_X3_taskOf_J20 (s0 : Int32) (h : xH) : Option (Int32 × xH) :=
  some (s0, h)
theorem y_X3_taskOf_J20 {g : xG} {h0 : xH} {cl : Bool} (s0 : Int32) (h : xH) : Y g DX3_taskOf h0 cl iI (f_X3_taskOf_J20 s0 h) 20 [none, none] [.int s0] h := by
  unfold f_X3_taskOf_J20
  exact Y.ireturn rfl dX3_taskOf_20
def f_X3_taskOf_J19 (h : xH) : Option (Int32 × xH) :=
  f_X3_taskOf_J20 (-1 : Int32) h
theorem y_X3_taskOf_J19 {g : xG} {h0 : xH} {cl : Bool} (h : xH) : Y g DX3_taskOf h0 cl iI (f_X3_taskOf_J19 h) 19 [none, none] [] h := by
  unfold f_X3_taskOf_J19
  refine Y.op (pc' := 20) (fun _ => X.ic ki_m1 dX3_taskOf_19) ?_
  exact y_X3_taskOf_J20 (-1 : Int32) h
def f_X3_taskOf (a0 : Nat) (p1 : Int32) (h : xH) : Option (Int32 × xH) :=
  if p1 < (0 : Int32) then
    f_X3_taskOf_J19 h
  else
    if p1 ≥ (12 : Int32) then
      f_X3_taskOf_J19 h
    else
      (gR h 3 a0 0).bind fun v1 =>
      (aI h v1 p1).bind fun v2 =>
      f_X3_taskOf_J20 v2 h
theorem y_X3_taskOf {g : xG} {h0 : xH} {cl : Bool} (a0 : Nat) (p1 : Int32) (h : xH) : Y g DX3_taskOf h0 cl iI (f_X3_taskOf a0 p1 h) 0 [some (.ref a0), some (.int p1)] [] h := by
  unfold f_X3_taskOf
  refine Y.op (pc' := 1) (fun _ => X.iloadn rfl dX3_taskOf_0) ?_
  refine Y.iflt 19 (by decide) dX3_taskOf_1 ?_ ?_
  · exact Y.fg (y_X3_taskOf_J19 h) trivial
  · refine Y.op (pc' := 5) (fun _ => X.iloadn rfl dX3_taskOf_4) ?_
    refine Y.op (pc' := 7) (fun _ => X.bp kb_12 dX3_taskOf_5) ?_
    refine Y.cmpge 19 (by decide) dX3_taskOf_7 ?_ ?_
    · exact Y.fg (y_X3_taskOf_J19 h) trivial
    · refine Y.op (pc' := 11) (fun _ => X.aloadn rfl dX3_taskOf_10) ?_
      refine Y.getR fd_X3_9 rfl dX3_taskOf_11 (fun v1 => ?_)
      refine Y.op (pc' := 15) (fun _ => X.iloadn rfl dX3_taskOf_14) ?_
      refine Y.aldI dX3_taskOf_15 (fun v2 => ?_)
      refine Y.op (pc' := 20) (fun _ => X.goto 20 (by decide) dX3_taskOf_16) ?_
      exact Y.fg (y_X3_taskOf_J20 v2 h) trivial
theorem m_X3_taskOf {g : xG} (a0 : Nat) (p1 : Int32) (h : xH) (cl : Bool) (r : Int32 × xH) (e : f_X3_taskOf a0 p1 h = some r) : XM g DX3_taskOf [.ref a0, .int p1] h cl (iI r) := YM.of rfl rfl (Nat.le_of_ble_eq_true rfl) (y_X3_taskOf a0 p1 h) e
def f_X3_workerOf_J20 (s0 : Int32) (h : xH) : Option (Int32 × xH) :=
  some (s0, h)
theorem y_X3_workerOf_J20 {g : xG} {h0 : xH} {cl : Bool} (s0 : Int32) (h : xH) : Y g DX3_workerOf h0 cl iI (f_X3_workerOf_J20 s0 h) 20 [none, none] [.int s0] h := by
  unfold f_X3_workerOf_J20
  exact Y.ireturn rfl dX3_workerOf_20
def f_X3_workerOf_J19 (h : xH) : Option (Int32 × xH) :=
  f_X3_workerOf_J20 (-1 : Int32) h
theorem y_X3_workerOf_J19 {g : xG} {h0 : xH} {cl : Bool} (h : xH) : Y g DX3_workerOf h0 cl iI (f_X3_workerOf_J19 h) 19 [none, none] [] h := by
  unfold f_X3_workerOf_J19
  refine Y.op (pc' := 20) (fun _ => X.ic ki_m1 dX3_workerOf_19) ?_
  exact y_X3_workerOf_J20 (-1 : Int32) h
def f_X3_workerOf (a0 : Nat) (p1 : Int32) (h : xH) : Option (Int32 × xH) :=
  if p1 < (0 : Int32) then
    f_X3_workerOf_J19 h
  else
    if p1 ≥ (12 : Int32) then
      f_X3_workerOf_J19 h
    else
      (gR h 3 a0 1).bind fun v1 =>
      (aI h v1 p1).bind fun v2 =>
      f_X3_workerOf_J20 v2 h
theorem y_X3_workerOf {g : xG} {h0 : xH} {cl : Bool} (a0 : Nat) (p1 : Int32) (h : xH) : Y g DX3_workerOf h0 cl iI (f_X3_workerOf a0 p1 h) 0 [some (.ref a0), some (.int p1)] [] h := by
  unfold f_X3_workerOf
  refine Y.op (pc' := 1) (fun _ => X.iloadn rfl dX3_workerOf_0) ?_
  refine Y.iflt 19 (by decide) dX3_workerOf_1 ?_ ?_
  · exact Y.fg (y_X3_workerOf_J19 h) trivial
  · refine Y.op (pc' := 5) (fun _ => X.iloadn rfl dX3_workerOf_4) ?_
    refine Y.op (pc' := 7) (fun _ => X.bp kb_12 dX3_workerOf_5) ?_
    refine Y.cmpge 19 (by decide) dX3_workerOf_7 ?_ ?_
    · exact Y.fg (y_X3_workerOf_J19 h) trivial
    · refine Y.op (pc' := 11) (fun _ => X.aloadn rfl dX3_workerOf_10) ?_
      refine Y.getR fd_X3_15 rfl dX3_workerOf_11 (fun v1 => ?_)
      refine Y.op (pc' := 15) (fun _ => X.iloadn rfl dX3_workerOf_14) ?_
      refine Y.aldI dX3_workerOf_15 (fun v2 => ?_)
      refine Y.op (pc' := 20) (fun _ => X.goto 20 (by decide) dX3_workerOf_16) ?_
      exact Y.fg (y_X3_workerOf_J20 v2 h) trivial
theorem m_X3_workerOf {g : xG} (a0 : Nat) (p1 : Int32) (h : xH) (cl : Bool) (r : Int32 × xH) (e : f_X3_workerOf a0 p1 h = some r) : XM g DX3_workerOf [.ref a0, .int p1] h cl (iI r) := YM.of rfl rfl (Nat.le_of_ble_eq_true rfl) (y_X3_workerOf a0 p1 h) e
def f_X0_partnerOf_J23 (s0 : Int32) (h : xH) : Option (Int32 × xH) :=
  some (s0, h)
theorem y_X0_partnerOf_J23 {g : xG} {h0 : xH} {cl : Bool} (s0 : Int32) (h : xH) : Y g DX0_partnerOf h0 cl iI (f_X0_partnerOf_J23 s0 h) 23 [none, none, none] [.int s0] h := by
  unfold f_X0_partnerOf_J23
  exact Y.ireturn rfl dX0_partnerOf_23
def f_X0_partnerOf (a0 : Nat) (p1 : Int32) (p2 : Int32) (h : xH) : Option (Int32 × xH) :=
  if p1 = (0 : Int32) then
    (gR h 0 a0 9).bind fun v3 =>
    (vc h 3 v3 (f_X3_taskOf v3 p2 h)).bind fun r4 =>
    f_X0_partnerOf_J23 r4.1 r4.2
  else
    (gR h 0 a0 9).bind fun v1 =>
    (vc h 3 v1 (f_X3_workerOf v1 p2 h)).bind fun r2 =>
    f_X0_partnerOf_J23 r2.1 r2.2
theorem y_X0_partnerOf {g : xG} {h0 : xH} {cl : Bool} (a0 : Nat) (p1 : Int32) (p2 : Int32) (h : xH) : Y g DX0_partnerOf h0 cl iI (f_X0_partnerOf a0 p1 p2 h) 0 [some (.ref a0), some (.int p1), some (.int p2)] [] h := by
  unfold f_X0_partnerOf
  refine Y.op (pc' := 1) (fun _ => X.iloadn rfl dX0_partnerOf_0) ?_
  refine Y.ifne 15 (by decide) dX0_partnerOf_1 ?_ ?_
  · refine Y.op (pc' := 16) (fun _ => X.aloadn rfl dX0_partnerOf_15) ?_
    refine Y.getR fd_X0_27 rfl dX0_partnerOf_16 (fun v1 => ?_)
    refine Y.op (pc' := 20) (fun _ => X.iloadn rfl dX0_partnerOf_19) ?_
    refine Y.callVi (As := [.int p2]) lk_X0_78 rfl cal_X3_workerOf vir_X3_workerOf (Nat.le_of_ble_eq_true rfl) (Nat.le_of_ble_eq_true rfl) rfl rfl rfl (Nat.le_of_ble_eq_true rfl) dX0_partnerOf_20 (fun _ e => m_X3_workerOf v1 p2 h _ _ e) (fun r2 => ?_)
    exact Y.fg (y_X0_partnerOf_J23 r2.1 r2.2) trivial
  · refine Y.op (pc' := 5) (fun _ => X.aloadn rfl dX0_partnerOf_4) ?_
    refine Y.getR fd_X0_27 rfl dX0_partnerOf_5 (fun v3 => ?_)
    refine Y.op (pc' := 9) (fun _ => X.iloadn rfl dX0_partnerOf_8) ?_
    refine Y.callVi (As := [.int p2]) lk_X0_75 rfl cal_X3_taskOf vir_X3_taskOf (Nat.le_of_ble_eq_true rfl) (Nat.le_of_ble_eq_true rfl) rfl rfl rfl (Nat.le_of_ble_eq_true rfl) dX0_partnerOf_9 (fun _ e => m_X3_taskOf v3 p2 h _ _ e) (fun r4 => ?_)
    refine Y.op (pc' := 23) (fun _ => X.goto 23 (by decide) dX0_partnerOf_12) ?_
    exact Y.fg (y_X0_partnerOf_J23 r4.1 r4.2) trivial
theorem m_X0_partnerOf {g : xG} (a0 : Nat) (p1 : Int32) (p2 : Int32) (h : xH) (cl : Bool) (r : Int32 × xH) (e : f_X0_partnerOf a0 p1 p2 h = some r) : XM g DX0_partnerOf [.ref a0, .int p1, .int p2] h cl (iI r) := YM.of rfl rfl (Nat.le_of_ble_eq_true rfl) (y_X0_partnerOf a0 p1 p2 h) e
def f_X0_isFree_J24 (s0 : Int32) (h : xH) : Option (Int32 × xH) :=
  if s0 = 0 ∨ s0 = 1 then some (s0, h) else none
theorem y_X0_isFree_J24 {g : xG} {h0 : xH} {cl : Bool} (s0 : Int32) (h : xH) : Y g DX0_isFree h0 cl iI (f_X0_isFree_J24 s0 h) 24 [none, none, none] [.int s0] h := by
  unfold f_X0_isFree_J24
  exact Y.zreturn rfl dX0_isFree_24
def f_X0_isFree_J23 (h : xH) : Option (Int32 × xH) :=
  f_X0_isFree_J24 (0 : Int32) h
theorem y_X0_isFree_J23 {g : xG} {h0 : xH} {cl : Bool} (h : xH) : Y g DX0_isFree h0 cl iI (f_X0_isFree_J23 h) 23 [none, none, none] [] h := by
  unfold f_X0_isFree_J23
  refine Y.op (pc' := 24) (fun _ => X.ic ki_0 dX0_isFree_23) ?_
  exact y_X0_isFree_J24 (0 : Int32) h
def f_X0_isFree (a0 : Nat) (p1 : Int32) (p2 : Int32) (h : xH) : Option (Int32 × xH) :=
  (vc h 0 a0 (f_X0_isThere a0 p1 p2 h)).bind fun r1 =>
  if r1.1 = (0 : Int32) then
    f_X0_isFree_J23 r1.2
  else
    (vc r1.2 0 a0 (f_X0_partnerOf a0 p1 p2 r1.2)).bind fun r2 =>
    if r2.1 = (-1 : Int32) then
      f_X0_isFree_J24 (1 : Int32) r2.2
    else
      f_X0_isFree_J23 r2.2
theorem y_X0_isFree {g : xG} {h0 : xH} {cl : Bool} (a0 : Nat) (p1 : Int32) (p2 : Int32) (h : xH) : Y g DX0_isFree h0 cl iI (f_X0_isFree a0 p1 p2 h) 0 [some (.ref a0), some (.int p1), some (.int p2)] [] h := by
  unfold f_X0_isFree
  refine Y.op (pc' := 1) (fun _ => X.aloadn rfl dX0_isFree_0) ?_
  refine Y.op (pc' := 2) (fun _ => X.iloadn rfl dX0_isFree_1) ?_
  refine Y.op (pc' := 3) (fun _ => X.iloadn rfl dX0_isFree_2) ?_
  refine Y.callVi (As := [.int p1, .int p2]) lk_X0_81 rfl cal_X0_isThere vir_X0_isThere (Nat.le_of_ble_eq_true rfl) (Nat.le_of_ble_eq_true rfl) rfl rfl rfl (Nat.le_of_ble_eq_true rfl) dX0_isFree_3 (fun _ e => m_X0_isThere a0 p1 p2 h _ _ e) (fun r1 => ?_)
  refine Y.ifeq 23 (by decide) dX0_isFree_6 ?_ ?_
  · exact Y.fg (y_X0_isFree_J23 r1.2) trivial
  · refine Y.op (pc' := 10) (fun _ => X.aloadn rfl dX0_isFree_9) ?_
    refine Y.op (pc' := 11) (fun _ => X.iloadn rfl dX0_isFree_10) ?_
    refine Y.op (pc' := 12) (fun _ => X.iloadn rfl dX0_isFree_11) ?_
    refine Y.callVi (As := [.int p1, .int p2]) lk_X0_84 rfl cal_X0_partnerOf vir_X0_partnerOf (Nat.le_of_ble_eq_true rfl) (Nat.le_of_ble_eq_true rfl) rfl rfl rfl (Nat.le_of_ble_eq_true rfl) dX0_isFree_12 (fun _ e => m_X0_partnerOf a0 p1 p2 r1.2 _ _ e) (fun r2 => ?_)
    refine Y.op (pc' := 16) (fun _ => X.ic ki_m1 dX0_isFree_15) ?_
    refine Y.cmpne 23 (by decide) dX0_isFree_16 ?_ ?_
    · exact Y.fg (y_X0_isFree_J23 r2.2) trivial
    · refine Y.op (pc' := 20) (fun _ => X.ic ki_1 dX0_isFree_19) ?_
      refine Y.op (pc' := 24) (fun _ => X.goto 24 (by decide) dX0_isFree_20) ?_
      exact Y.fg (y_X0_isFree_J24 (1 : Int32) r2.2) trivial
theorem m_X0_isFree {g : xG} (a0 : Nat) (p1 : Int32) (p2 : Int32) (h : xH) (cl : Bool) (r : Int32 × xH) (e : f_X0_isFree a0 p1 p2 h = some r) : XM g DX0_isFree [.ref a0, .int p1, .int p2] h cl (iI r) := YM.of rfl rfl (Nat.le_of_ble_eq_true rfl) (y_X0_isFree a0 p1 p2 h) e
def f_X9_inLimit_J15 (s0 : Int32) (h : xH) : Option (Int32 × xH) :=
  if s0 = 0 ∨ s0 = 1 then some (s0, h) else none
theorem y_X9_inLimit_J15 {g : xG} {h0 : xH} {cl : Bool} (s0 : Int32) (h : xH) : Y g DX9_inLimit h0 cl iI (f_X9_inLimit_J15 s0 h) 15 [none] [.int s0] h := by
  unfold f_X9_inLimit_J15
  exact Y.zreturn rfl dX9_inLimit_15
def f_X9_inLimit_J14 (h : xH) : Option (Int32 × xH) :=
  f_X9_inLimit_J15 (0 : Int32) h
theorem y_X9_inLimit_J14 {g : xG} {h0 : xH} {cl : Bool} (h : xH) : Y g DX9_inLimit h0 cl iI (f_X9_inLimit_J14 h) 14 [none] [] h := by
  unfold f_X9_inLimit_J14
  refine Y.op (pc' := 15) (fun _ => X.ic ki_0 dX9_inLimit_14) ?_
  exact y_X9_inLimit_J15 (0 : Int32) h
def f_X9_inLimit (p1 : Int32) (h : xH) : Option (Int32 × xH) :=
  if p1 < (0 : Int32) then
    f_X9_inLimit_J14 h
  else
    if p1 ≥ (12 : Int32) then
      f_X9_inLimit_J14 h
    else
      f_X9_inLimit_J15 (1 : Int32) h
theorem y_X9_inLimit {g : xG} {h0 : xH} {cl : Bool} (p1 : Int32) (h : xH) : Y g DX9_inLimit h0 cl iI (f_X9_inLimit p1 h) 0 [some (.int p1)] [] h := by
  unfold f_X9_inLimit
  refine Y.op (pc' := 1) (fun _ => X.iloadn rfl dX9_inLimit_0) ?_
  refine Y.iflt 14 (by decide) dX9_inLimit_1 ?_ ?_
  · exact Y.fg (y_X9_inLimit_J14 h) trivial
  · refine Y.op (pc' := 5) (fun _ => X.iloadn rfl dX9_inLimit_4) ?_
    refine Y.op (pc' := 7) (fun _ => X.bp kb_12 dX9_inLimit_5) ?_
    refine Y.cmpge 14 (by decide) dX9_inLimit_7 ?_ ?_
    · exact Y.fg (y_X9_inLimit_J14 h) trivial
    · refine Y.op (pc' := 11) (fun _ => X.ic ki_1 dX9_inLimit_10) ?_
      refine Y.op (pc' := 15) (fun _ => X.goto 15 (by decide) dX9_inLimit_11) ?_
      exact Y.fg (y_X9_inLimit_J15 (1 : Int32) h) trivial
theorem m_X9_inLimit {g : xG} (p1 : Int32) (h : xH) (cl : Bool) (r : Int32 × xH) (e : f_X9_inLimit p1 h = some r) : XM g DX9_inLimit [.int p1] h cl (iI r) := YM.of rfl rfl (Nat.le_of_ble_eq_true rfl) (y_X9_inLimit p1 h) e
def f_X0_costOf_J29 (s0 : Int32) (h : xH) : Option (Int32 × xH) :=
  some (s0, h)
theorem y_X0_costOf_J29 {g : xG} {h0 : xH} {cl : Bool} (s0 : Int32) (h : xH) : Y g DX0_costOf h0 cl iI (f_X0_costOf_J29 s0 h) 29 [none, none, none] [.int s0] h := by
  unfold f_X0_costOf_J29
  exact Y.ireturn rfl dX0_costOf_29
def f_X0_costOf_J28 (h : xH) : Option (Int32 × xH) :=
  f_X0_costOf_J29 (-1 : Int32) h
theorem y_X0_costOf_J28 {g : xG} {h0 : xH} {cl : Bool} (h : xH) : Y g DX0_costOf h0 cl iI (f_X0_costOf_J28 h) 28 [none, none, none] [] h := by
  unfold f_X0_costOf_J28
  refine Y.op (pc' := 29) (fun _ => X.ic ki_m1 dX0_costOf_28) ?_
  exact y_X0_costOf_J29 (-1 : Int32) h
def f_X0_costOf (a0 : Nat) (p1 : Int32) (p2 : Int32) (h : xH) : Option (Int32 × xH) :=
  (f_X9_inLimit p1 h).bind fun r1 =>
  if r1.1 = (0 : Int32) then
    f_X0_costOf_J28 r1.2
  else
    (f_X9_inLimit p2 r1.2).bind fun r2 =>
    if r2.1 = (0 : Int32) then
      f_X0_costOf_J28 r2.2
    else
      (gR r2.2 0 a0 8).bind fun v3 =>
      (aI r2.2 v3 ((p1 * (12 : Int32)) + p2)).bind fun v4 =>
      f_X0_costOf_J29 v4 r2.2
theorem y_X0_costOf {g : xG} {h0 : xH} {cl : Bool} (a0 : Nat) (p1 : Int32) (p2 : Int32) (h : xH) : Y g DX0_costOf h0 cl iI (f_X0_costOf a0 p1 p2 h) 0 [some (.ref a0), some (.int p1), some (.int p2)] [] h := by
  unfold f_X0_costOf
  refine Y.op (pc' := 1) (fun _ => X.iloadn rfl dX0_costOf_0) ?_
  refine Y.callSi (As := [.int p1]) lk_X0_88 rfl cal_X9_inLimit sta_X9_inLimit (Nat.le_of_ble_eq_true rfl) rfl rfl (Nat.le_of_ble_eq_true rfl) dX0_costOf_1 (fun _ e => m_X9_inLimit p1 h _ _ e) (fun r1 => ?_)
  refine Y.ifeq 28 (by decide) dX0_costOf_4 ?_ ?_
  · exact Y.fg (y_X0_costOf_J28 r1.2) trivial
  · refine Y.op (pc' := 8) (fun _ => X.iloadn rfl dX0_costOf_7) ?_
    refine Y.callSi (As := [.int p2]) lk_X0_88 rfl cal_X9_inLimit sta_X9_inLimit (Nat.le_of_ble_eq_true rfl) rfl rfl (Nat.le_of_ble_eq_true rfl) dX0_costOf_8 (fun _ e => m_X9_inLimit p2 r1.2 _ _ e) (fun r2 => ?_)
    refine Y.ifeq 28 (by decide) dX0_costOf_11 ?_ ?_
    · exact Y.fg (y_X0_costOf_J28 r2.2) trivial
    · refine Y.op (pc' := 15) (fun _ => X.aloadn rfl dX0_costOf_14) ?_
      refine Y.getR fd_X0_21 rfl dX0_costOf_15 (fun v3 => ?_)
      refine Y.op (pc' := 19) (fun _ => X.iloadn rfl dX0_costOf_18) ?_
      refine Y.op (pc' := 21) (fun _ => X.bp kb_12 dX0_costOf_19) ?_
      refine Y.op (pc' := 22) (fun _ => X.imul dX0_costOf_21) ?_
      refine Y.op (pc' := 23) (fun _ => X.iloadn rfl dX0_costOf_22) ?_
      refine Y.op (pc' := 24) (fun _ => X.iadd dX0_costOf_23) ?_
      refine Y.aldI dX0_costOf_24 (fun v4 => ?_)
      refine Y.op (pc' := 29) (fun _ => X.goto 29 (by decide) dX0_costOf_25) ?_
      exact Y.fg (y_X0_costOf_J29 v4 r2.2) trivial
theorem m_X0_costOf {g : xG} (a0 : Nat) (p1 : Int32) (p2 : Int32) (h : xH) (cl : Bool) (r : Int32 × xH) (e : f_X0_costOf a0 p1 p2 h = some r) : XM g DX0_costOf [.ref a0, .int p1, .int p2] h cl (iI r) := YM.of rfl rfl (Nat.le_of_ble_eq_true rfl) (y_X0_costOf a0 p1 p2 h) e
def f_X0_isFit_J15 (s0 : Int32) (h : xH) : Option (Int32 × xH) :=
  if s0 = 0 ∨ s0 = 1 then some (s0, h) else none
theorem y_X0_isFit_J15 {g : xG} {h0 : xH} {cl : Bool} (s0 : Int32) (h : xH) : Y g DX0_isFit h0 cl iI (f_X0_isFit_J15 s0 h) 15 [none, none, none] [.int s0] h := by
  unfold f_X0_isFit_J15
  exact Y.zreturn rfl dX0_isFit_15
def f_X0_isFit (a0 : Nat) (p1 : Int32) (p2 : Int32) (h : xH) : Option (Int32 × xH) :=
  (vc h 0 a0 (f_X0_costOf a0 p1 p2 h)).bind fun r1 =>
  if r1.1 = (-1 : Int32) then
    f_X0_isFit_J15 (0 : Int32) r1.2
  else
    f_X0_isFit_J15 (1 : Int32) r1.2
theorem y_X0_isFit {g : xG} {h0 : xH} {cl : Bool} (a0 : Nat) (p1 : Int32) (p2 : Int32) (h : xH) : Y g DX0_isFit h0 cl iI (f_X0_isFit a0 p1 p2 h) 0 [some (.ref a0), some (.int p1), some (.int p2)] [] h := by
  unfold f_X0_isFit
  refine Y.op (pc' := 1) (fun _ => X.aloadn rfl dX0_isFit_0) ?_
  refine Y.op (pc' := 2) (fun _ => X.iloadn rfl dX0_isFit_1) ?_
  refine Y.op (pc' := 3) (fun _ => X.iloadn rfl dX0_isFit_2) ?_
  refine Y.callVi (As := [.int p1, .int p2]) lk_X0_92 rfl cal_X0_costOf vir_X0_costOf (Nat.le_of_ble_eq_true rfl) (Nat.le_of_ble_eq_true rfl) rfl rfl rfl (Nat.le_of_ble_eq_true rfl) dX0_isFit_3 (fun _ e => m_X0_costOf a0 p1 p2 h _ _ e) (fun r1 => ?_)
  refine Y.op (pc' := 7) (fun _ => X.ic ki_m1 dX0_isFit_6) ?_
  refine Y.cmpeq 14 (by decide) dX0_isFit_7 ?_ ?_
  · refine Y.op (pc' := 15) (fun _ => X.ic ki_0 dX0_isFit_14) ?_
    exact Y.fg (y_X0_isFit_J15 (0 : Int32) r1.2) trivial
  · refine Y.op (pc' := 11) (fun _ => X.ic ki_1 dX0_isFit_10) ?_
    refine Y.op (pc' := 15) (fun _ => X.goto 15 (by decide) dX0_isFit_11) ?_
    exact Y.fg (y_X0_isFit_J15 (1 : Int32) r1.2) trivial
theorem m_X0_isFit {g : xG} (a0 : Nat) (p1 : Int32) (p2 : Int32) (h : xH) (cl : Bool) (r : Int32 × xH) (e : f_X0_isFit a0 p1 p2 h = some r) : XM g DX0_isFit [.ref a0, .int p1, .int p2] h cl (iI r) := YM.of rfl rfl (Nat.le_of_ble_eq_true rfl) (y_X0_isFit a0 p1 p2 h) e
def f_X0_tasksFor_J17 (s0 : Int32) (h : xH) : Option (Int32 × xH) :=
  some (s0, h)
theorem y_X0_tasksFor_J17 {g : xG} {h0 : xH} {cl : Bool} (s0 : Int32) (h : xH) : Y g DX0_tasksFor h0 cl iI (f_X0_tasksFor_J17 s0 h) 17 [none, none] [.int s0] h := by
  unfold f_X0_tasksFor_J17
  exact Y.ireturn rfl dX0_tasksFor_17
def f_X0_tasksFor (a0 : Nat) (p1 : Int32) (h : xH) : Option (Int32 × xH) :=
  (f_X9_inLimit p1 h).bind fun r1 =>
  if r1.1 = (0 : Int32) then
    f_X0_tasksFor_J17 (0 : Int32) r1.2
  else
    (gR r1.2 0 a0 6).bind fun v2 =>
    (aI r1.2 v2 p1).bind fun v3 =>
    f_X0_tasksFor_J17 v3 r1.2
theorem y_X0_tasksFor {g : xG} {h0 : xH} {cl : Bool} (a0 : Nat) (p1 : Int32) (h : xH) : Y g DX0_tasksFor h0 cl iI (f_X0_tasksFor a0 p1 h) 0 [some (.ref a0), some (.int p1)] [] h := by
  unfold f_X0_tasksFor
  refine Y.op (pc' := 1) (fun _ => X.iloadn rfl dX0_tasksFor_0) ?_
  refine Y.callSi (As := [.int p1]) lk_X0_88 rfl cal_X9_inLimit sta_X9_inLimit (Nat.le_of_ble_eq_true rfl) rfl rfl (Nat.le_of_ble_eq_true rfl) dX0_tasksFor_1 (fun _ e => m_X9_inLimit p1 h _ _ e) (fun r1 => ?_)
  refine Y.ifeq 16 (by decide) dX0_tasksFor_4 ?_ ?_
  · refine Y.op (pc' := 17) (fun _ => X.ic ki_0 dX0_tasksFor_16) ?_
    exact Y.fg (y_X0_tasksFor_J17 (0 : Int32) r1.2) trivial
  · refine Y.op (pc' := 8) (fun _ => X.aloadn rfl dX0_tasksFor_7) ?_
    refine Y.getR fd_X0_15 rfl dX0_tasksFor_8 (fun v2 => ?_)
    refine Y.op (pc' := 12) (fun _ => X.iloadn rfl dX0_tasksFor_11) ?_
    refine Y.aldI dX0_tasksFor_12 (fun v3 => ?_)
    refine Y.op (pc' := 17) (fun _ => X.goto 17 (by decide) dX0_tasksFor_13) ?_
    exact Y.fg (y_X0_tasksFor_J17 v3 r1.2) trivial
theorem m_X0_tasksFor {g : xG} (a0 : Nat) (p1 : Int32) (h : xH) (cl : Bool) (r : Int32 × xH) (e : f_X0_tasksFor a0 p1 h = some r) : XM g DX0_tasksFor [.ref a0, .int p1] h cl (iI r) := YM.of rfl rfl (Nat.le_of_ble_eq_true rfl) (y_X0_tasksFor a0 p1 h) e
def f_X0_workersFor_J17 (s0 : Int32) (h : xH) : Option (Int32 × xH) :=
  some (s0, h)
theorem y_X0_workersFor_J17 {g : xG} {h0 : xH} {cl : Bool} (s0 : Int32) (h : xH) : Y g DX0_workersFor h0 cl iI (f_X0_workersFor_J17 s0 h) 17 [none, none] [.int s0] h := by
  unfold f_X0_workersFor_J17
  exact Y.ireturn rfl dX0_workersFor_17
def f_X0_workersFor (a0 : Nat) (p1 : Int32) (h : xH) : Option (Int32 × xH) :=
  (f_X9_inLimit p1 h).bind fun r1 =>
  if r1.1 = (0 : Int32) then
    f_X0_workersFor_J17 (0 : Int32) r1.2
  else
    (gR r1.2 0 a0 7).bind fun v2 =>
    (aI r1.2 v2 p1).bind fun v3 =>
    f_X0_workersFor_J17 v3 r1.2
theorem y_X0_workersFor {g : xG} {h0 : xH} {cl : Bool} (a0 : Nat) (p1 : Int32) (h : xH) : Y g DX0_workersFor h0 cl iI (f_X0_workersFor a0 p1 h) 0 [some (.ref a0), some (.int p1)] [] h := by
  unfold f_X0_workersFor
  refine Y.op (pc' := 1) (fun _ => X.iloadn rfl dX0_workersFor_0) ?_
  refine Y.callSi (As := [.int p1]) lk_X0_88 rfl cal_X9_inLimit sta_X9_inLimit (Nat.le_of_ble_eq_true rfl) rfl rfl (Nat.le_of_ble_eq_true rfl) dX0_workersFor_1 (fun _ e => m_X9_inLimit p1 h _ _ e) (fun r1 => ?_)
  refine Y.ifeq 16 (by decide) dX0_workersFor_4 ?_ ?_
  · refine Y.op (pc' := 17) (fun _ => X.ic ki_0 dX0_workersFor_16) ?_
    exact Y.fg (y_X0_workersFor_J17 (0 : Int32) r1.2) trivial
  · refine Y.op (pc' := 8) (fun _ => X.aloadn rfl dX0_workersFor_7) ?_
    refine Y.getR fd_X0_18 rfl dX0_workersFor_8 (fun v2 => ?_)
    refine Y.op (pc' := 12) (fun _ => X.iloadn rfl dX0_workersFor_11) ?_
    refine Y.aldI dX0_workersFor_12 (fun v3 => ?_)
    refine Y.op (pc' := 17) (fun _ => X.goto 17 (by decide) dX0_workersFor_13) ?_
    exact Y.fg (y_X0_workersFor_J17 v3 r1.2) trivial
theorem m_X0_workersFor {g : xG} (a0 : Nat) (p1 : Int32) (h : xH) (cl : Bool) (r : Int32 × xH) (e : f_X0_workersFor a0 p1 h = some r) : XM g DX0_workersFor [.ref a0, .int p1] h cl (iI r) := YM.of rfl rfl (Nat.le_of_ble_eq_true rfl) (y_X0_workersFor a0 p1 h) e
def f_X0_setFit_J52 (h : xH) : Option (xH) :=
  some h
theorem y_X0_setFit_J52 {g : xG} {h0 : xH} {cl : Bool} (h : xH) : Y g DX0_setFit h0 cl iV (f_X0_setFit_J52 h) 52 [none, none, none, none] [] h := by
  unfold f_X0_setFit_J52
  exact Y.vreturn rfl dX0_setFit_52
def f_X0_setFit (a0 : Nat) (p1 : Int32) (p2 : Int32) (p3 : Int32) (h : xH) : Option (xH) :=
  (f_X9_inLimit p1 h).bind fun r1 =>
  if r1.1 = (0 : Int32) then
    f_X0_setFit_J52 r1.2
  else
    (f_X9_inLimit p2 r1.2).bind fun r2 =>
    if r2.1 = (0 : Int32) then
      f_X0_setFit_J52 r2.2
    else
      (gR r2.2 0 a0 8).bind fun v3 =>
      (sI r2.2 v3 ((p1 * (12 : Int32)) + p2) p3).bind fun h4 =>
      (gR h4 0 a0 6).bind fun v5 =>
      (aI h4 v5 p1).bind fun v6 =>
      (f_X9_bit p2 h4).bind fun r7 =>
      (sI r7.2 v5 p1 (v6 ||| r7.1)).bind fun h8 =>
      (gR h8 0 a0 7).bind fun v9 =>
      (aI h8 v9 p2).bind fun v10 =>
      (f_X9_bit p1 h8).bind fun r11 =>
      (sI r11.2 v9 p2 (v10 ||| r11.1)).bind fun h12 =>
      f_X0_setFit_J52 h12
theorem y_X0_setFit {g : xG} {h0 : xH} {cl : Bool} (a0 : Nat) (p1 : Int32) (p2 : Int32) (p3 : Int32) (h : xH) : Y g DX0_setFit h0 cl iV (f_X0_setFit a0 p1 p2 p3 h) 0 [some (.ref a0), some (.int p1), some (.int p2), some (.int p3)] [] h := by
  unfold f_X0_setFit
  refine Y.op (pc' := 1) (fun _ => X.iloadn rfl dX0_setFit_0) ?_
  refine Y.callSi (As := [.int p1]) lk_X0_88 rfl cal_X9_inLimit sta_X9_inLimit (Nat.le_of_ble_eq_true rfl) rfl rfl (Nat.le_of_ble_eq_true rfl) dX0_setFit_1 (fun _ e => m_X9_inLimit p1 h _ _ e) (fun r1 => ?_)
  refine Y.ifeq 52 (by decide) dX0_setFit_4 ?_ ?_
  · exact Y.fg (y_X0_setFit_J52 r1.2) trivial
  · refine Y.op (pc' := 8) (fun _ => X.iloadn rfl dX0_setFit_7) ?_
    refine Y.callSi (As := [.int p2]) lk_X0_88 rfl cal_X9_inLimit sta_X9_inLimit (Nat.le_of_ble_eq_true rfl) rfl rfl (Nat.le_of_ble_eq_true rfl) dX0_setFit_8 (fun _ e => m_X9_inLimit p2 r1.2 _ _ e) (fun r2 => ?_)
    refine Y.ifeq 52 (by decide) dX0_setFit_11 ?_ ?_
    · exact Y.fg (y_X0_setFit_J52 r2.2) trivial
    · refine Y.op (pc' := 15) (fun _ => X.aloadn rfl dX0_setFit_14) ?_
      refine Y.getR fd_X0_21 rfl dX0_setFit_15 (fun v3 => ?_)
      refine Y.op (pc' := 19) (fun _ => X.iloadn rfl dX0_setFit_18) ?_
      refine Y.op (pc' := 21) (fun _ => X.bp kb_12 dX0_setFit_19) ?_
      refine Y.op (pc' := 22) (fun _ => X.imul dX0_setFit_21) ?_
      refine Y.op (pc' := 23) (fun _ => X.iloadn rfl dX0_setFit_22) ?_
      refine Y.op (pc' := 24) (fun _ => X.iadd dX0_setFit_23) ?_
      refine Y.op (pc' := 25) (fun _ => X.iloadn rfl dX0_setFit_24) ?_
      refine Y.astI dX0_setFit_25 (fun h4 => ?_)
      refine Y.op (pc' := 27) (fun _ => X.aloadn rfl dX0_setFit_26) ?_
      refine Y.getR fd_X0_15 rfl dX0_setFit_27 (fun v5 => ?_)
      refine Y.op (pc' := 31) (fun _ => X.iloadn rfl dX0_setFit_30) ?_
      refine Y.op (pc' := 32) (fun _ => X.dup2 rfl rfl dX0_setFit_31) ?_
      refine Y.aldI dX0_setFit_32 (fun v6 => ?_)
      refine Y.op (pc' := 34) (fun _ => X.iloadn rfl dX0_setFit_33) ?_
      refine Y.callSi (As := [.int p2]) lk_X0_42 rfl cal_X9_bit sta_X9_bit (Nat.le_of_ble_eq_true rfl) rfl rfl (Nat.le_of_ble_eq_true rfl) dX0_setFit_34 (fun _ e => m_X9_bit p2 h4 _ _ e) (fun r7 => ?_)
      refine Y.op (pc' := 38) (fun _ => X.ior dX0_setFit_37) ?_
      refine Y.astI dX0_setFit_38 (fun h8 => ?_)
      refine Y.op (pc' := 40) (fun _ => X.aloadn rfl dX0_setFit_39) ?_
      refine Y.getR fd_X0_18 rfl dX0_setFit_40 (fun v9 => ?_)
      refine Y.op (pc' := 44) (fun _ => X.iloadn rfl dX0_setFit_43) ?_
      refine Y.op (pc' := 45) (fun _ => X.dup2 rfl rfl dX0_setFit_44) ?_
      refine Y.aldI dX0_setFit_45 (fun v10 => ?_)
      refine Y.op (pc' := 47) (fun _ => X.iloadn rfl dX0_setFit_46) ?_
      refine Y.callSi (As := [.int p1]) lk_X0_42 rfl cal_X9_bit sta_X9_bit (Nat.le_of_ble_eq_true rfl) rfl rfl (Nat.le_of_ble_eq_true rfl) dX0_setFit_47 (fun _ e => m_X9_bit p1 h8 _ _ e) (fun r11 => ?_)
      refine Y.op (pc' := 51) (fun _ => X.ior dX0_setFit_50) ?_
      refine Y.astI dX0_setFit_51 (fun h12 => ?_)
      exact Y.fg (y_X0_setFit_J52 h12) trivial
theorem m_X0_setFit {g : xG} (a0 : Nat) (p1 : Int32) (p2 : Int32) (p3 : Int32) (h : xH) (cl : Bool) (r : xH) (e : f_X0_setFit a0 p1 p2 p3 h = some r) : XM g DX0_setFit [.ref a0, .int p1, .int p2, .int p3] h cl (iV r) := YM.of rfl rfl (Nat.le_of_ble_eq_true rfl) (y_X0_setFit a0 p1 p2 p3 h) e
def f_X3_loosenWorker_J34 (h : xH) : Option (xH) :=
  some h
theorem y_X3_loosenWorker_J34 {g : xG} {h0 : xH} {cl : Bool} (h : xH) : Y g DX3_loosenWorker h0 cl iV (f_X3_loosenWorker_J34 h) 34 [none, none, none] [] h := by
  unfold f_X3_loosenWorker_J34
  exact Y.vreturn rfl dX3_loosenWorker_34
def f_X3_loosenWorker (a0 : Nat) (p1 : Int32) (h : xH) : Option (xH) :=
  (vc h 3 a0 (f_X3_taskOf a0 p1 h)).bind fun r1 =>
  (f_X9_inLimit p1 r1.2).bind fun r2 =>
  if r2.1 = (0 : Int32) then
    f_X3_loosenWorker_J34 r2.2
  else
    (f_X9_inLimit r1.1 r2.2).bind fun r3 =>
    if r3.1 = (0 : Int32) then
      f_X3_loosenWorker_J34 r3.2
    else
      (gR r3.2 3 a0 0).bind fun v4 =>
      (sI r3.2 v4 p1 (-1 : Int32)).bind fun h5 =>
      (gR h5 3 a0 1).bind fun v6 =>
      (sI h5 v6 r1.1 (-1 : Int32)).bind fun h7 =>
      f_X3_loosenWorker_J34 h7
theorem y_X3_loosenWorker {g : xG} {h0 : xH} {cl : Bool} (a0 : Nat) (p1 : Int32) (h : xH) : Y g DX3_loosenWorker h0 cl iV (f_X3_loosenWorker a0 p1 h) 0 [some (.ref a0), some (.int p1), none] [] h := by
  unfold f_X3_loosenWorker
  refine Y.op (pc' := 1) (fun _ => X.aloadn rfl dX3_loosenWorker_0) ?_
  refine Y.op (pc' := 2) (fun _ => X.iloadn rfl dX3_loosenWorker_1) ?_
  refine Y.callVi (As := [.int p1]) lk_X3_25 rfl cal_X3_taskOf vir_X3_taskOf (Nat.le_of_ble_eq_true rfl) (Nat.le_of_ble_eq_true rfl) rfl rfl rfl (Nat.le_of_ble_eq_true rfl) dX3_loosenWorker_2 (fun _ e => m_X3_taskOf a0 p1 h _ _ e) (fun r1 => ?_)
  refine Y.op (pc' := 6) (loc' := [some (.ref a0), some (.int p1), some (.int r1.1)]) (fun _ => X.istoren (Nat.le_of_ble_eq_true rfl) rfl dX3_loosenWorker_5) ?_
  refine Y.op (pc' := 7) (fun _ => X.iloadn rfl dX3_loosenWorker_6) ?_
  refine Y.callSi (As := [.int p1]) lk_X3_21 rfl cal_X9_inLimit sta_X9_inLimit (Nat.le_of_ble_eq_true rfl) rfl rfl (Nat.le_of_ble_eq_true rfl) dX3_loosenWorker_7 (fun _ e => m_X9_inLimit p1 r1.2 _ _ e) (fun r2 => ?_)
  refine Y.ifeq 34 (by decide) dX3_loosenWorker_10 ?_ ?_
  · exact Y.fg (y_X3_loosenWorker_J34 r2.2) trivial
  · refine Y.op (pc' := 14) (fun _ => X.iloadn rfl dX3_loosenWorker_13) ?_
    refine Y.callSi (As := [.int r1.1]) lk_X3_21 rfl cal_X9_inLimit sta_X9_inLimit (Nat.le_of_ble_eq_true rfl) rfl rfl (Nat.le_of_ble_eq_true rfl) dX3_loosenWorker_14 (fun _ e => m_X9_inLimit r1.1 r2.2 _ _ e) (fun r3 => ?_)
    refine Y.ifeq 34 (by decide) dX3_loosenWorker_17 ?_ ?_
    · exact Y.fg (y_X3_loosenWorker_J34 r3.2) trivial
    · refine Y.op (pc' := 21) (fun _ => X.aloadn rfl dX3_loosenWorker_20) ?_
      refine Y.getR fd_X3_9 rfl dX3_loosenWorker_21 (fun v4 => ?_)
      refine Y.op (pc' := 25) (fun _ => X.iloadn rfl dX3_loosenWorker_24) ?_
      refine Y.op (pc' := 26) (fun _ => X.ic ki_m1 dX3_loosenWorker_25) ?_
      refine Y.astI dX3_loosenWorker_26 (fun h5 => ?_)
      refine Y.op (pc' := 28) (fun _ => X.aloadn rfl dX3_loosenWorker_27) ?_
      refine Y.getR fd_X3_15 rfl dX3_loosenWorker_28 (fun v6 => ?_)
      refine Y.op (pc' := 32) (fun _ => X.iloadn rfl dX3_loosenWorker_31) ?_
      refine Y.op (pc' := 33) (fun _ => X.ic ki_m1 dX3_loosenWorker_32) ?_
      refine Y.astI dX3_loosenWorker_33 (fun h7 => ?_)
      exact Y.fg (y_X3_loosenWorker_J34 h7) trivial
theorem m_X3_loosenWorker {g : xG} (a0 : Nat) (p1 : Int32) (h : xH) (cl : Bool) (r : xH) (e : f_X3_loosenWorker a0 p1 h = some r) : XM g DX3_loosenWorker [.ref a0, .int p1] h cl (iV r) := YM.of rfl rfl (Nat.le_of_ble_eq_true rfl) (y_X3_loosenWorker a0 p1 h) e
def f_X0_removeFit_J76 (h : xH) : Option (xH) :=
  some h
theorem y_X0_removeFit_J76 {g : xG} {h0 : xH} {cl : Bool} (h : xH) : Y g DX0_removeFit h0 cl iV (f_X0_removeFit_J76 h) 76 [none, none, none] [] h := by
  unfold f_X0_removeFit_J76
  exact Y.vreturn rfl dX0_removeFit_76
def f_X0_removeFit (a0 : Nat) (p1 : Int32) (p2 : Int32) (h : xH) : Option (xH) :=
  (f_X9_inLimit p1 h).bind fun r1 =>
  if r1.1 = (0 : Int32) then
    f_X0_removeFit_J76 r1.2
  else
    (f_X9_inLimit p2 r1.2).bind fun r2 =>
    if r2.1 = (0 : Int32) then
      f_X0_removeFit_J76 r2.2
    else
      (gR r2.2 0 a0 8).bind fun v3 =>
      (sI r2.2 v3 ((p1 * (12 : Int32)) + p2) (-1 : Int32)).bind fun h4 =>
      (gR h4 0 a0 6).bind fun v5 =>
      (aI h4 v5 p1).bind fun v6 =>
      (f_X9_bit p2 h4).bind fun r7 =>
      (sI r7.2 v5 p1 (v6 &&& (r7.1 ^^^ (-1 : Int32)))).bind fun h8 =>
      (gR h8 0 a0 7).bind fun v9 =>
      (aI h8 v9 p2).bind fun v10 =>
      (f_X9_bit p1 h8).bind fun r11 =>
      (sI r11.2 v9 p2 (v10 &&& (r11.1 ^^^ (-1 : Int32)))).bind fun h12 =>
      (gR h12 0 a0 9).bind fun v13 =>
      (vc h12 3 v13 (f_X3_taskOf v13 p1 h12)).bind fun r14 =>
      if r14.1 = p2 then
        (gR r14.2 0 a0 9).bind fun v15 =>
        (vc r14.2 3 v15 (f_X3_loosenWorker v15 p1 r14.2)).bind fun h16 =>
        f_X0_removeFit_J76 h16
      else
        f_X0_removeFit_J76 r14.2
theorem y_X0_removeFit {g : xG} {h0 : xH} {cl : Bool} (a0 : Nat) (p1 : Int32) (p2 : Int32) (h : xH) : Y g DX0_removeFit h0 cl iV (f_X0_removeFit a0 p1 p2 h) 0 [some (.ref a0), some (.int p1), some (.int p2)] [] h := by
  unfold f_X0_removeFit
  refine Y.op (pc' := 1) (fun _ => X.iloadn rfl dX0_removeFit_0) ?_
  refine Y.callSi (As := [.int p1]) lk_X0_88 rfl cal_X9_inLimit sta_X9_inLimit (Nat.le_of_ble_eq_true rfl) rfl rfl (Nat.le_of_ble_eq_true rfl) dX0_removeFit_1 (fun _ e => m_X9_inLimit p1 h _ _ e) (fun r1 => ?_)
  refine Y.ifeq 76 (by decide) dX0_removeFit_4 ?_ ?_
  · exact Y.fg (y_X0_removeFit_J76 r1.2) trivial
  · refine Y.op (pc' := 8) (fun _ => X.iloadn rfl dX0_removeFit_7) ?_
    refine Y.callSi (As := [.int p2]) lk_X0_88 rfl cal_X9_inLimit sta_X9_inLimit (Nat.le_of_ble_eq_true rfl) rfl rfl (Nat.le_of_ble_eq_true rfl) dX0_removeFit_8 (fun _ e => m_X9_inLimit p2 r1.2 _ _ e) (fun r2 => ?_)
    refine Y.ifeq 76 (by decide) dX0_removeFit_11 ?_ ?_
    · exact Y.fg (y_X0_removeFit_J76 r2.2) trivial
    · refine Y.op (pc' := 15) (fun _ => X.aloadn rfl dX0_removeFit_14) ?_
      refine Y.getR fd_X0_21 rfl dX0_removeFit_15 (fun v3 => ?_)
      refine Y.op (pc' := 19) (fun _ => X.iloadn rfl dX0_removeFit_18) ?_
      refine Y.op (pc' := 21) (fun _ => X.bp kb_12 dX0_removeFit_19) ?_
      refine Y.op (pc' := 22) (fun _ => X.imul dX0_removeFit_21) ?_
      refine Y.op (pc' := 23) (fun _ => X.iloadn rfl dX0_removeFit_22) ?_
      refine Y.op (pc' := 24) (fun _ => X.iadd dX0_removeFit_23) ?_
      refine Y.op (pc' := 25) (fun _ => X.ic ki_m1 dX0_removeFit_24) ?_
      refine Y.astI dX0_removeFit_25 (fun h4 => ?_)
      refine Y.op (pc' := 27) (fun _ => X.aloadn rfl dX0_removeFit_26) ?_
      refine Y.getR fd_X0_15 rfl dX0_removeFit_27 (fun v5 => ?_)
      refine Y.op (pc' := 31) (fun _ => X.iloadn rfl dX0_removeFit_30) ?_
      refine Y.op (pc' := 32) (fun _ => X.dup2 rfl rfl dX0_removeFit_31) ?_
      refine Y.aldI dX0_removeFit_32 (fun v6 => ?_)
      refine Y.op (pc' := 34) (fun _ => X.iloadn rfl dX0_removeFit_33) ?_
      refine Y.callSi (As := [.int p2]) lk_X0_42 rfl cal_X9_bit sta_X9_bit (Nat.le_of_ble_eq_true rfl) rfl rfl (Nat.le_of_ble_eq_true rfl) dX0_removeFit_34 (fun _ e => m_X9_bit p2 h4 _ _ e) (fun r7 => ?_)
      refine Y.op (pc' := 38) (fun _ => X.ic ki_m1 dX0_removeFit_37) ?_
      refine Y.op (pc' := 39) (fun _ => X.ixor dX0_removeFit_38) ?_
      refine Y.op (pc' := 40) (fun _ => X.iand dX0_removeFit_39) ?_
      refine Y.astI dX0_removeFit_40 (fun h8 => ?_)
      refine Y.op (pc' := 42) (fun _ => X.aloadn rfl dX0_removeFit_41) ?_
      refine Y.getR fd_X0_18 rfl dX0_removeFit_42 (fun v9 => ?_)
      refine Y.op (pc' := 46) (fun _ => X.iloadn rfl dX0_removeFit_45) ?_
      refine Y.op (pc' := 47) (fun _ => X.dup2 rfl rfl dX0_removeFit_46) ?_
      refine Y.aldI dX0_removeFit_47 (fun v10 => ?_)
      refine Y.op (pc' := 49) (fun _ => X.iloadn rfl dX0_removeFit_48) ?_
      refine Y.callSi (As := [.int p1]) lk_X0_42 rfl cal_X9_bit sta_X9_bit (Nat.le_of_ble_eq_true rfl) rfl rfl (Nat.le_of_ble_eq_true rfl) dX0_removeFit_49 (fun _ e => m_X9_bit p1 h8 _ _ e) (fun r11 => ?_)
      refine Y.op (pc' := 53) (fun _ => X.ic ki_m1 dX0_removeFit_52) ?_
      refine Y.op (pc' := 54) (fun _ => X.ixor dX0_removeFit_53) ?_
      refine Y.op (pc' := 55) (fun _ => X.iand dX0_removeFit_54) ?_
      refine Y.astI dX0_removeFit_55 (fun h12 => ?_)
      refine Y.op (pc' := 57) (fun _ => X.aloadn rfl dX0_removeFit_56) ?_
      refine Y.getR fd_X0_27 rfl dX0_removeFit_57 (fun v13 => ?_)
      refine Y.op (pc' := 61) (fun _ => X.iloadn rfl dX0_removeFit_60) ?_
      refine Y.callVi (As := [.int p1]) lk_X0_75 rfl cal_X3_taskOf vir_X3_taskOf (Nat.le_of_ble_eq_true rfl) (Nat.le_of_ble_eq_true rfl) rfl rfl rfl (Nat.le_of_ble_eq_true rfl) dX0_removeFit_61 (fun _ e => m_X3_taskOf v13 p1 h12 _ _ e) (fun r14 => ?_)
      refine Y.op (pc' := 65) (fun _ => X.iloadn rfl dX0_removeFit_64) ?_
      refine Y.cmpne 76 (by decide) dX0_removeFit_65 ?_ ?_
      · exact Y.fg (y_X0_removeFit_J76 r14.2) trivial
      · refine Y.op (pc' := 69) (fun _ => X.aloadn rfl dX0_removeFit_68) ?_
        refine Y.getR fd_X0_27 rfl dX0_removeFit_69 (fun v15 => ?_)
        refine Y.op (pc' := 73) (fun _ => X.iloadn rfl dX0_removeFit_72) ?_
        refine Y.callVv (As := [.int p1]) lk_X0_95 rfl cal_X3_loosenWorker vir_X3_loosenWorker (Nat.le_of_ble_eq_true rfl) (Nat.le_of_ble_eq_true rfl) rfl rfl rfl (Nat.le_of_ble_eq_true rfl) dX0_removeFit_73 (fun _ e => m_X3_loosenWorker v15 p1 r14.2 _ _ e) (fun h16 => ?_)
        exact Y.fg (y_X0_removeFit_J76 h16) trivial
theorem m_X0_removeFit {g : xG} (a0 : Nat) (p1 : Int32) (p2 : Int32) (h : xH) (cl : Bool) (r : xH) (e : f_X0_removeFit a0 p1 p2 h = some r) : XM g DX0_removeFit [.ref a0, .int p1, .int p2] h cl (iV r) := YM.of rfl rfl (Nat.le_of_ble_eq_true rfl) (y_X0_removeFit a0 p1 p2 h) e
def f_X3_loosenTask (a0 : Nat) (p1 : Int32) (h : xH) : Option (xH) :=
  (vc h 3 a0 (f_X3_workerOf a0 p1 h)).bind fun r1 =>
  (vc r1.2 3 a0 (f_X3_loosenWorker a0 r1.1 r1.2)).bind fun h2 =>
  some h2
theorem y_X3_loosenTask {g : xG} {h0 : xH} {cl : Bool} (a0 : Nat) (p1 : Int32) (h : xH) : Y g DX3_loosenTask h0 cl iV (f_X3_loosenTask a0 p1 h) 0 [some (.ref a0), some (.int p1)] [] h := by
  unfold f_X3_loosenTask
  refine Y.op (pc' := 1) (fun _ => X.aloadn rfl dX3_loosenTask_0) ?_
  refine Y.op (pc' := 2) (fun _ => X.aloadn rfl dX3_loosenTask_1) ?_
  refine Y.op (pc' := 3) (fun _ => X.iloadn rfl dX3_loosenTask_2) ?_
  refine Y.callVi (As := [.int p1]) lk_X3_29 rfl cal_X3_workerOf vir_X3_workerOf (Nat.le_of_ble_eq_true rfl) (Nat.le_of_ble_eq_true rfl) rfl rfl rfl (Nat.le_of_ble_eq_true rfl) dX3_loosenTask_3 (fun _ e => m_X3_workerOf a0 p1 h _ _ e) (fun r1 => ?_)
  refine Y.callVv (As := [.int r1.1]) lk_X3_32 rfl cal_X3_loosenWorker vir_X3_loosenWorker (Nat.le_of_ble_eq_true rfl) (Nat.le_of_ble_eq_true rfl) rfl rfl rfl (Nat.le_of_ble_eq_true rfl) dX3_loosenTask_6 (fun _ e => m_X3_loosenWorker a0 r1.1 r1.2 _ _ e) (fun h2 => ?_)
  exact Y.vreturn rfl dX3_loosenTask_9
theorem m_X3_loosenTask {g : xG} (a0 : Nat) (p1 : Int32) (h : xH) (cl : Bool) (r : xH) (e : f_X3_loosenTask a0 p1 h = some r) : XM g DX3_loosenTask [.ref a0, .int p1] h cl (iV r) := YM.of rfl rfl (Nat.le_of_ble_eq_true rfl) (y_X3_loosenTask a0 p1 h) e
def f_X0_setThere_J85 (h : xH) : Option (xH) :=
  some h
theorem y_X0_setThere_J85 {g : xG} {h0 : xH} {cl : Bool} (h : xH) : Y g DX0_setThere h0 cl iV (f_X0_setThere_J85 h) 85 [none, none, none, none] [] h := by
  unfold f_X0_setThere_J85
  exact Y.vreturn rfl dX0_setThere_85
def f_X0_setThere_J74 (x0 : Nat) (x2 : Int32) (s0 : Nat) (s1 : Int32) (h : xH) : Option (xH) :=
  (pI h 0 s0 3 s1).bind fun h1 =>
  (gR h1 0 x0 9).bind fun v2 =>
  (vc h1 3 v2 (f_X3_loosenTask v2 x2 h1)).bind fun h3 =>
  f_X0_setThere_J85 h3
theorem y_X0_setThere_J74 {g : xG} {h0 : xH} {cl : Bool} (x0 : Nat) (x2 : Int32) (s0 : Nat) (s1 : Int32) (h : xH) : Y g DX0_setThere h0 cl iV (f_X0_setThere_J74 x0 x2 s0 s1 h) 74 [some (.ref x0), none, some (.int x2), none] [.int s1, .ref s0] h := by
  unfold f_X0_setThere_J74
  refine Y.putI fd_X0_49 rfl dX0_setThere_74 (fun h1 => ?_)
  refine Y.op (pc' := 78) (fun _ => X.aloadn rfl dX0_setThere_77) ?_
  refine Y.getR fd_X0_27 rfl dX0_setThere_78 (fun v2 => ?_)
  refine Y.op (pc' := 82) (fun _ => X.iloadn rfl dX0_setThere_81) ?_
  refine Y.callVv (As := [.int x2]) lk_X0_99 rfl cal_X3_loosenTask vir_X3_loosenTask (Nat.le_of_ble_eq_true rfl) (Nat.le_of_ble_eq_true rfl) rfl rfl rfl (Nat.le_of_ble_eq_true rfl) dX0_setThere_82 (fun _ e => m_X3_loosenTask v2 x2 h1 _ _ e) (fun h3 => ?_)
  exact Y.fg (y_X0_setThere_J85 h3) trivial
def f_X0_setThere_J32 (x0 : Nat) (x2 : Int32) (s0 : Nat) (s1 : Int32) (h : xH) : Option (xH) :=
  (pI h 0 s0 2 s1).bind fun h1 =>
  (gR h1 0 x0 9).bind fun v2 =>
  (vc h1 3 v2 (f_X3_loosenWorker v2 x2 h1)).bind fun h3 =>
  f_X0_setThere_J85 h3
theorem y_X0_setThere_J32 {g : xG} {h0 : xH} {cl : Bool} (x0 : Nat) (x2 : Int32) (s0 : Nat) (s1 : Int32) (h : xH) : Y g DX0_setThere h0 cl iV (f_X0_setThere_J32 x0 x2 s0 s1 h) 32 [some (.ref x0), none, some (.int x2), none] [.int s1, .ref s0] h := by
  unfold f_X0_setThere_J32
  refine Y.putI fd_X0_46 rfl dX0_setThere_32 (fun h1 => ?_)
  refine Y.op (pc' := 36) (fun _ => X.aloadn rfl dX0_setThere_35) ?_
  refine Y.getR fd_X0_27 rfl dX0_setThere_36 (fun v2 => ?_)
  refine Y.op (pc' := 40) (fun _ => X.iloadn rfl dX0_setThere_39) ?_
  refine Y.callVv (As := [.int x2]) lk_X0_95 rfl cal_X3_loosenWorker vir_X3_loosenWorker (Nat.le_of_ble_eq_true rfl) (Nat.le_of_ble_eq_true rfl) rfl rfl rfl (Nat.le_of_ble_eq_true rfl) dX0_setThere_40 (fun _ e => m_X3_loosenWorker v2 x2 h1 _ _ e) (fun h3 => ?_)
  refine Y.op (pc' := 85) (fun _ => X.goto 85 (by decide) dX0_setThere_43) ?_
  exact Y.fg (y_X0_setThere_J85 h3) trivial
def f_X0_setThere (a0 : Nat) (p1 : Int32) (p2 : Int32) (p3 : Int32) (h : xH) : Option (xH) :=
  if p1 = (0 : Int32) then
    if p3 = (0 : Int32) then
      (gI h 0 a0 2).bind fun v5 =>
      (f_X9_bit p2 h).bind fun r6 =>
      f_X0_setThere_J32 a0 p2 a0 (v5 &&& (r6.1 ^^^ (-1 : Int32))) r6.2
    else
      (gI h 0 a0 2).bind fun v7 =>
      (f_X9_bit p2 h).bind fun r8 =>
      f_X0_setThere_J32 a0 p2 a0 (v7 ||| r8.1) r8.2
  else
    if p3 = (0 : Int32) then
      (gI h 0 a0 3).bind fun v1 =>
      (f_X9_bit p2 h).bind fun r2 =>
      f_X0_setThere_J74 a0 p2 a0 (v1 &&& (r2.1 ^^^ (-1 : Int32))) r2.2
    else
      (gI h 0 a0 3).bind fun v3 =>
      (f_X9_bit p2 h).bind fun r4 =>
      f_X0_setThere_J74 a0 p2 a0 (v3 ||| r4.1) r4.2
theorem y_X0_setThere {g : xG} {h0 : xH} {cl : Bool} (a0 : Nat) (p1 : Int32) (p2 : Int32) (p3 : Int32) (h : xH) : Y g DX0_setThere h0 cl iV (f_X0_setThere a0 p1 p2 p3 h) 0 [some (.ref a0), some (.int p1), some (.int p2), some (.int p3)] [] h := by
  unfold f_X0_setThere
  refine Y.op (pc' := 1) (fun _ => X.iloadn rfl dX0_setThere_0) ?_
  refine Y.ifne 46 (by decide) dX0_setThere_1 ?_ ?_
  · refine Y.op (pc' := 47) (fun _ => X.aloadn rfl dX0_setThere_46) ?_
    refine Y.op (pc' := 48) (fun _ => X.iloadn rfl dX0_setThere_47) ?_
    refine Y.ifeq 63 (by decide) dX0_setThere_48 ?_ ?_
    · refine Y.op (pc' := 64) (fun _ => X.aloadn rfl dX0_setThere_63) ?_
      refine Y.getI fd_X0_49 rfl dX0_setThere_64 (fun v1 => ?_)
      refine Y.op (pc' := 68) (fun _ => X.iloadn rfl dX0_setThere_67) ?_
      refine Y.callSi (As := [.int p2]) lk_X0_42 rfl cal_X9_bit sta_X9_bit (Nat.le_of_ble_eq_true rfl) rfl rfl (Nat.le_of_ble_eq_true rfl) dX0_setThere_68 (fun _ e => m_X9_bit p2 h _ _ e) (fun r2 => ?_)
      refine Y.op (pc' := 72) (fun _ => X.ic ki_m1 dX0_setThere_71) ?_
      refine Y.op (pc' := 73) (fun _ => X.ixor dX0_setThere_72) ?_
      refine Y.op (pc' := 74) (fun _ => X.iand dX0_setThere_73) ?_
      exact Y.fg (y_X0_setThere_J74 a0 p2 a0 (v1 &&& (r2.1 ^^^ (-1 : Int32))) r2.2) (And.intro rfl (And.intro rfl trivial))
    · refine Y.op (pc' := 52) (fun _ => X.aloadn rfl dX0_setThere_51) ?_
      refine Y.getI fd_X0_49 rfl dX0_setThere_52 (fun v3 => ?_)
      refine Y.op (pc' := 56) (fun _ => X.iloadn rfl dX0_setThere_55) ?_
      refine Y.callSi (As := [.int p2]) lk_X0_42 rfl cal_X9_bit sta_X9_bit (Nat.le_of_ble_eq_true rfl) rfl rfl (Nat.le_of_ble_eq_true rfl) dX0_setThere_56 (fun _ e => m_X9_bit p2 h _ _ e) (fun r4 => ?_)
      refine Y.op (pc' := 60) (fun _ => X.ior dX0_setThere_59) ?_
      refine Y.op (pc' := 74) (fun _ => X.goto 74 (by decide) dX0_setThere_60) ?_
      exact Y.fg (y_X0_setThere_J74 a0 p2 a0 (v3 ||| r4.1) r4.2) (And.intro rfl (And.intro rfl trivial))
  · refine Y.op (pc' := 5) (fun _ => X.aloadn rfl dX0_setThere_4) ?_
    refine Y.op (pc' := 6) (fun _ => X.iloadn rfl dX0_setThere_5) ?_
    refine Y.ifeq 21 (by decide) dX0_setThere_6 ?_ ?_
    · refine Y.op (pc' := 22) (fun _ => X.aloadn rfl dX0_setThere_21) ?_
      refine Y.getI fd_X0_46 rfl dX0_setThere_22 (fun v5 => ?_)
      refine Y.op (pc' := 26) (fun _ => X.iloadn rfl dX0_setThere_25) ?_
      refine Y.callSi (As := [.int p2]) lk_X0_42 rfl cal_X9_bit sta_X9_bit (Nat.le_of_ble_eq_true rfl) rfl rfl (Nat.le_of_ble_eq_true rfl) dX0_setThere_26 (fun _ e => m_X9_bit p2 h _ _ e) (fun r6 => ?_)
      refine Y.op (pc' := 30) (fun _ => X.ic ki_m1 dX0_setThere_29) ?_
      refine Y.op (pc' := 31) (fun _ => X.ixor dX0_setThere_30) ?_
      refine Y.op (pc' := 32) (fun _ => X.iand dX0_setThere_31) ?_
      exact Y.fg (y_X0_setThere_J32 a0 p2 a0 (v5 &&& (r6.1 ^^^ (-1 : Int32))) r6.2) (And.intro rfl (And.intro rfl trivial))
    · refine Y.op (pc' := 10) (fun _ => X.aloadn rfl dX0_setThere_9) ?_
      refine Y.getI fd_X0_46 rfl dX0_setThere_10 (fun v7 => ?_)
      refine Y.op (pc' := 14) (fun _ => X.iloadn rfl dX0_setThere_13) ?_
      refine Y.callSi (As := [.int p2]) lk_X0_42 rfl cal_X9_bit sta_X9_bit (Nat.le_of_ble_eq_true rfl) rfl rfl (Nat.le_of_ble_eq_true rfl) dX0_setThere_14 (fun _ e => m_X9_bit p2 h _ _ e) (fun r8 => ?_)
      refine Y.op (pc' := 18) (fun _ => X.ior dX0_setThere_17) ?_
      refine Y.op (pc' := 32) (fun _ => X.goto 32 (by decide) dX0_setThere_18) ?_
      exact Y.fg (y_X0_setThere_J32 a0 p2 a0 (v7 ||| r8.1) r8.2) (And.intro rfl (And.intro rfl trivial))
theorem m_X0_setThere {g : xG} (a0 : Nat) (p1 : Int32) (p2 : Int32) (p3 : Int32) (h : xH) (cl : Bool) (r : xH) (e : f_X0_setThere a0 p1 p2 p3 h = some r) : XM g DX0_setThere [.ref a0, .int p1, .int p2, .int p3] h cl (iV r) := YM.of rfl rfl (Nat.le_of_ble_eq_true rfl) (y_X0_setThere a0 p1 p2 p3 h) e
def f_X0_weightOf_J17 (s0 : Int32) (h : xH) : Option (Int32 × xH) :=
  some (s0, h)
theorem y_X0_weightOf_J17 {g : xG} {h0 : xH} {cl : Bool} (s0 : Int32) (h : xH) : Y g DX0_weightOf h0 cl iI (f_X0_weightOf_J17 s0 h) 17 [none, none] [.int s0] h := by
  unfold f_X0_weightOf_J17
  exact Y.ireturn rfl dX0_weightOf_17
def f_X0_weightOf (a0 : Nat) (p1 : Int32) (h : xH) : Option (Int32 × xH) :=
  (f_X9_inLimit p1 h).bind fun r1 =>
  if r1.1 = (0 : Int32) then
    f_X0_weightOf_J17 (0 : Int32) r1.2
  else
    (gR r1.2 0 a0 5).bind fun v2 =>
    (aI r1.2 v2 p1).bind fun v3 =>
    f_X0_weightOf_J17 v3 r1.2
theorem y_X0_weightOf {g : xG} {h0 : xH} {cl : Bool} (a0 : Nat) (p1 : Int32) (h : xH) : Y g DX0_weightOf h0 cl iI (f_X0_weightOf a0 p1 h) 0 [some (.ref a0), some (.int p1)] [] h := by
  unfold f_X0_weightOf
  refine Y.op (pc' := 1) (fun _ => X.iloadn rfl dX0_weightOf_0) ?_
  refine Y.callSi (As := [.int p1]) lk_X0_88 rfl cal_X9_inLimit sta_X9_inLimit (Nat.le_of_ble_eq_true rfl) rfl rfl (Nat.le_of_ble_eq_true rfl) dX0_weightOf_1 (fun _ e => m_X9_inLimit p1 h _ _ e) (fun r1 => ?_)
  refine Y.ifeq 16 (by decide) dX0_weightOf_4 ?_ ?_
  · refine Y.op (pc' := 17) (fun _ => X.ic ki_0 dX0_weightOf_16) ?_
    exact Y.fg (y_X0_weightOf_J17 (0 : Int32) r1.2) trivial
  · refine Y.op (pc' := 8) (fun _ => X.aloadn rfl dX0_weightOf_7) ?_
    refine Y.getR fd_X0_9 rfl dX0_weightOf_8 (fun v2 => ?_)
    refine Y.op (pc' := 12) (fun _ => X.iloadn rfl dX0_weightOf_11) ?_
    refine Y.aldI dX0_weightOf_12 (fun v3 => ?_)
    refine Y.op (pc' := 17) (fun _ => X.goto 17 (by decide) dX0_weightOf_13) ?_
    exact Y.fg (y_X0_weightOf_J17 v3 r1.2) trivial
theorem m_X0_weightOf {g : xG} (a0 : Nat) (p1 : Int32) (h : xH) (cl : Bool) (r : Int32 × xH) (e : f_X0_weightOf a0 p1 h = some r) : XM g DX0_weightOf [.ref a0, .int p1] h cl (iI r) := YM.of rfl rfl (Nat.le_of_ble_eq_true rfl) (y_X0_weightOf a0 p1 h) e
def f_X0_setWeight_J14 (h : xH) : Option (xH) :=
  some h
theorem y_X0_setWeight_J14 {g : xG} {h0 : xH} {cl : Bool} (h : xH) : Y g DX0_setWeight h0 cl iV (f_X0_setWeight_J14 h) 14 [none, none, none] [] h := by
  unfold f_X0_setWeight_J14
  exact Y.vreturn rfl dX0_setWeight_14
def f_X0_setWeight (a0 : Nat) (p1 : Int32) (p2 : Int32) (h : xH) : Option (xH) :=
  (f_X9_inLimit p1 h).bind fun r1 =>
  if r1.1 = (0 : Int32) then
    f_X0_setWeight_J14 r1.2
  else
    (gR r1.2 0 a0 5).bind fun v2 =>
    (sI r1.2 v2 p1 p2).bind fun h3 =>
    f_X0_setWeight_J14 h3
theorem y_X0_setWeight {g : xG} {h0 : xH} {cl : Bool} (a0 : Nat) (p1 : Int32) (p2 : Int32) (h : xH) : Y g DX0_setWeight h0 cl iV (f_X0_setWeight a0 p1 p2 h) 0 [some (.ref a0), some (.int p1), some (.int p2)] [] h := by
  unfold f_X0_setWeight
  refine Y.op (pc' := 1) (fun _ => X.iloadn rfl dX0_setWeight_0) ?_
  refine Y.callSi (As := [.int p1]) lk_X0_88 rfl cal_X9_inLimit sta_X9_inLimit (Nat.le_of_ble_eq_true rfl) rfl rfl (Nat.le_of_ble_eq_true rfl) dX0_setWeight_1 (fun _ e => m_X9_inLimit p1 h _ _ e) (fun r1 => ?_)
  refine Y.ifeq 14 (by decide) dX0_setWeight_4 ?_ ?_
  · exact Y.fg (y_X0_setWeight_J14 r1.2) trivial
  · refine Y.op (pc' := 8) (fun _ => X.aloadn rfl dX0_setWeight_7) ?_
    refine Y.getR fd_X0_9 rfl dX0_setWeight_8 (fun v2 => ?_)
    refine Y.op (pc' := 12) (fun _ => X.iloadn rfl dX0_setWeight_11) ?_
    refine Y.op (pc' := 13) (fun _ => X.iloadn rfl dX0_setWeight_12) ?_
    refine Y.astI dX0_setWeight_13 (fun h3 => ?_)
    exact Y.fg (y_X0_setWeight_J14 h3) trivial
theorem m_X0_setWeight {g : xG} (a0 : Nat) (p1 : Int32) (p2 : Int32) (h : xH) (cl : Bool) (r : xH) (e : f_X0_setWeight a0 p1 p2 h = some r) : XM g DX0_setWeight [.ref a0, .int p1, .int p2] h cl (iV r) := YM.of rfl rfl (Nat.le_of_ble_eq_true rfl) (y_X0_setWeight a0 p1 p2 h) e
def f_X0_heaviest_J56 (s0 : Int32) (h : xH) : Option (Int32 × xH) :=
  some (s0, h)
theorem y_X0_heaviest_J56 {g : xG} {h0 : xH} {cl : Bool} (s0 : Int32) (h : xH) : Y g DX0_heaviest h0 cl iI (f_X0_heaviest_J56 s0 h) 56 [none, none, none, none] [.int s0] h := by
  unfold f_X0_heaviest_J56
  exact Y.ireturn rfl dX0_heaviest_56
def f_X0_heaviest_J46 (x2 : Int32) (h : xH) : Option (Int32 × xH) :=
  if x2 = (-1 : Int32) then
    f_X0_heaviest_J56 (0 : Int32) h
  else
    f_X0_heaviest_J56 x2 h
theorem y_X0_heaviest_J46 {g : xG} {h0 : xH} {cl : Bool} (x2 : Int32) (h : xH) : Y g DX0_heaviest h0 cl iI (f_X0_heaviest_J46 x2 h) 46 [none, none, some (.int x2), none] [] h := by
  unfold f_X0_heaviest_J46
  refine Y.op (pc' := 47) (fun _ => X.iloadn rfl dX0_heaviest_46) ?_
  refine Y.op (pc' := 48) (fun _ => X.ic ki_m1 dX0_heaviest_47) ?_
  refine Y.cmpne 55 (by decide) dX0_heaviest_48 ?_ ?_
  · refine Y.op (pc' := 56) (fun _ => X.iloadn rfl dX0_heaviest_55) ?_
    exact Y.fg (y_X0_heaviest_J56 x2 h) trivial
  · refine Y.op (pc' := 52) (fun _ => X.ic ki_0 dX0_heaviest_51) ?_
    refine Y.op (pc' := 56) (fun _ => X.goto 56 (by decide) dX0_heaviest_52) ?_
    exact Y.fg (y_X0_heaviest_J56 (0 : Int32) h) trivial
def f_X0_heaviest_J40 (kH : Nat → Int32 → Int32 → Int32 → xH → Option (Int32 × xH)) (kE46 : Int32 → xH → Option (Int32 × xH)) (x0 : Nat) (x1 : Int32) (x2 : Int32) (x3 : Int32) (h : xH) : Option (Int32 × xH) :=
  lt (x3 + (1 : Int32)) fun v1 =>
  kH x0 x1 x2 v1 h
theorem y_X0_heaviest_J40 {g : xG} {h0 : xH} {cl : Bool} {kH : Nat → Int32 → Int32 → Int32 → xH → Option (Int32 × xH)} {kE46 : Int32 → xH → Option (Int32 × xH)} (hkH : ∀ (x0 : Nat) (x1 : Int32) (x2 : Int32) (x3 : Int32) (h : xH), Y g DX0_heaviest h0 cl iI (kH x0 x1 x2 x3 h) 4 [some (.ref x0), some (.int x1), some (.int x2), some (.int x3)] [] h) (hkE46 : ∀ (x2 : Int32) (h : xH), Y g DX0_heaviest h0 cl iI (kE46 x2 h) 46 [none, none, some (.int x2), none] [] h) (x0 : Nat) (x1 : Int32) (x2 : Int32) (x3 : Int32) (h : xH) : Y g DX0_heaviest h0 cl iI (f_X0_heaviest_J40 kH kE46 x0 x1 x2 x3 h) 40 [some (.ref x0), some (.int x1), some (.int x2), some (.int x3)] [] h := by
  unfold f_X0_heaviest_J40
  refine Y.iinc (i := 3) (loc' := fun v1 => [some (.ref x0), some (.int x1), some (.int x2), some (.int v1)]) rfl (Nat.le_of_ble_eq_true rfl) ki_1 (fun _ => rfl) dX0_heaviest_40 (fun v1 => ?_)
  refine Y.op (pc' := 4) (fun _ => X.goto 4 (by decide) dX0_heaviest_43) ?_
  exact hkH x0 x1 x2 v1 h
def f_X0_heaviest_J38 (kH : Nat → Int32 → Int32 → Int32 → xH → Option (Int32 × xH)) (kE46 : Int32 → xH → Option (Int32 × xH)) (x0 : Nat) (x1 : Int32) (x3 : Int32) (h : xH) : Option (Int32 × xH) :=
  f_X0_heaviest_J40 (kH) kE46 x0 x1 x3 x3 h
theorem y_X0_heaviest_J38 {g : xG} {h0 : xH} {cl : Bool} {kH : Nat → Int32 → Int32 → Int32 → xH → Option (Int32 × xH)} {kE46 : Int32 → xH → Option (Int32 × xH)} (hkH : ∀ (x0 : Nat) (x1 : Int32) (x2 : Int32) (x3 : Int32) (h : xH), Y g DX0_heaviest h0 cl iI (kH x0 x1 x2 x3 h) 4 [some (.ref x0), some (.int x1), some (.int x2), some (.int x3)] [] h) (hkE46 : ∀ (x2 : Int32) (h : xH), Y g DX0_heaviest h0 cl iI (kE46 x2 h) 46 [none, none, some (.int x2), none] [] h) (x0 : Nat) (x1 : Int32) (x3 : Int32) (h : xH) : Y g DX0_heaviest h0 cl iI (f_X0_heaviest_J38 kH kE46 x0 x1 x3 h) 38 [some (.ref x0), some (.int x1), none, some (.int x3)] [] h := by
  unfold f_X0_heaviest_J38
  refine Y.op (pc' := 39) (fun _ => X.iloadn rfl dX0_heaviest_38) ?_
  refine Y.op (pc' := 40) (loc' := [some (.ref x0), some (.int x1), some (.int x3), some (.int x3)]) (fun _ => X.istoren (Nat.le_of_ble_eq_true rfl) rfl dX0_heaviest_39) ?_
  exact y_X0_heaviest_J40 hkH hkE46 x0 x1 x3 x3 h
def f_X0_heaviest_L4 (kE46 : Int32 → xH → Option (Int32 × xH)) : Nat → Nat → Int32 → Int32 → Int32 → xH → Option (Int32 × xH)
  | 0 => fun _ _ _ _ _ => none
  | n + 1 => fun x0 x1 x2 x3 h =>
    (gI h 0 x0 0).bind fun v1 =>
    if x3 ≥ v1 then
      kE46 x2 h
    else
      (f_X9_has x1 x3 h).bind fun r2 =>
      if r2.1 = (0 : Int32) then
        f_X0_heaviest_J40 (f_X0_heaviest_L4 kE46 n) kE46 x0 x1 x2 x3 r2.2
      else
        if x2 = (-1 : Int32) then
          f_X0_heaviest_J38 (f_X0_heaviest_L4 kE46 n) kE46 x0 x1 x3 r2.2
        else
          (vc r2.2 0 x0 (f_X0_weightOf x0 x3 r2.2)).bind fun r3 =>
          (vc r3.2 0 x0 (f_X0_weightOf x0 x2 r3.2)).bind fun r4 =>
          if r3.1 ≤ r4.1 then
            f_X0_heaviest_J40 (f_X0_heaviest_L4 kE46 n) kE46 x0 x1 x2 x3 r4.2
          else
            f_X0_heaviest_J38 (f_X0_heaviest_L4 kE46 n) kE46 x0 x1 x3 r4.2
theorem y_X0_heaviest_L4 {g : xG} {h0 : xH} {cl : Bool} {kE46 : Int32 → xH → Option (Int32 × xH)} (hkE46 : ∀ (x2 : Int32) (h : xH), Y g DX0_heaviest h0 cl iI (kE46 x2 h) 46 [none, none, some (.int x2), none] [] h) : ∀ (n : Nat) (x0 : Nat) (x1 : Int32) (x2 : Int32) (x3 : Int32) (h : xH), Y g DX0_heaviest h0 cl iI (f_X0_heaviest_L4 kE46 n x0 x1 x2 x3 h) 4 [some (.ref x0), some (.int x1), some (.int x2), some (.int x3)] [] h := by
  intro n
  induction n with
  | zero => intro x0 x1 x2 x3 h; exact Y.nothing
  | succ n ih =>
    intro x0 x1 x2 x3 h
    unfold f_X0_heaviest_L4
    refine Y.op (pc' := 5) (fun _ => X.iloadn rfl dX0_heaviest_4) ?_
    refine Y.op (pc' := 6) (fun _ => X.aloadn rfl dX0_heaviest_5) ?_
    refine Y.getI fd_X0_35 rfl dX0_heaviest_6 (fun v1 => ?_)
    refine Y.cmpge 46 (by decide) dX0_heaviest_9 ?_ ?_
    · exact Y.fg (hkE46 x2 h) (And.intro rfl trivial)
    · refine Y.op (pc' := 13) (fun _ => X.iloadn rfl dX0_heaviest_12) ?_
      refine Y.op (pc' := 14) (fun _ => X.iloadn rfl dX0_heaviest_13) ?_
      refine Y.callSi (As := [.int x1, .int x3]) lk_X0_72 rfl cal_X9_has sta_X9_has (Nat.le_of_ble_eq_true rfl) rfl rfl (Nat.le_of_ble_eq_true rfl) dX0_heaviest_14 (fun _ e => m_X9_has x1 x3 h _ _ e) (fun r2 => ?_)
      refine Y.ifeq 40 (by decide) dX0_heaviest_17 ?_ ?_
      · exact y_X0_heaviest_J40 ih hkE46 x0 x1 x2 x3 r2.2
      · refine Y.op (pc' := 21) (fun _ => X.iloadn rfl dX0_heaviest_20) ?_
        refine Y.op (pc' := 22) (fun _ => X.ic ki_m1 dX0_heaviest_21) ?_
        refine Y.cmpeq 38 (by decide) dX0_heaviest_22 ?_ ?_
        · exact Y.fg (y_X0_heaviest_J38 ih hkE46 x0 x1 x3 r2.2) (And.intro rfl (And.intro rfl (And.intro rfl trivial)))
        · refine Y.op (pc' := 26) (fun _ => X.aloadn rfl dX0_heaviest_25) ?_
          refine Y.op (pc' := 27) (fun _ => X.iloadn rfl dX0_heaviest_26) ?_
          refine Y.callVi (As := [.int x3]) lk_X0_102 rfl cal_X0_weightOf vir_X0_weightOf (Nat.le_of_ble_eq_true rfl) (Nat.le_of_ble_eq_true rfl) rfl rfl rfl (Nat.le_of_ble_eq_true rfl) dX0_heaviest_27 (fun _ e => m_X0_weightOf x0 x3 r2.2 _ _ e) (fun r3 => ?_)
          refine Y.op (pc' := 31) (fun _ => X.aloadn rfl dX0_heaviest_30) ?_
          refine Y.op (pc' := 32) (fun _ => X.iloadn rfl dX0_heaviest_31) ?_
          refine Y.callVi (As := [.int x2]) lk_X0_102 rfl cal_X0_weightOf vir_X0_weightOf (Nat.le_of_ble_eq_true rfl) (Nat.le_of_ble_eq_true rfl) rfl rfl rfl (Nat.le_of_ble_eq_true rfl) dX0_heaviest_32 (fun _ e => m_X0_weightOf x0 x2 r3.2 _ _ e) (fun r4 => ?_)
          refine Y.cmple 40 (by decide) dX0_heaviest_35 ?_ ?_
          · exact y_X0_heaviest_J40 ih hkE46 x0 x1 x2 x3 r4.2
          · exact Y.fg (y_X0_heaviest_J38 ih hkE46 x0 x1 x3 r4.2) (And.intro rfl (And.intro rfl (And.intro rfl trivial)))
def f_X0_heaviest (a0 : Nat) (p1 : Int32) (h : xH) : Option (Int32 × xH) :=
  f_X0_heaviest_L4 (f_X0_heaviest_J46) 5000 a0 p1 (-1 : Int32) (0 : Int32) h
theorem y_X0_heaviest {g : xG} {h0 : xH} {cl : Bool} (a0 : Nat) (p1 : Int32) (h : xH) : Y g DX0_heaviest h0 cl iI (f_X0_heaviest a0 p1 h) 0 [some (.ref a0), some (.int p1), none, none] [] h := by
  unfold f_X0_heaviest
  refine Y.op (pc' := 1) (fun _ => X.ic ki_m1 dX0_heaviest_0) ?_
  refine Y.op (pc' := 2) (loc' := [some (.ref a0), some (.int p1), some (.int (-1 : Int32)), none]) (fun _ => X.istoren (Nat.le_of_ble_eq_true rfl) rfl dX0_heaviest_1) ?_
  refine Y.op (pc' := 3) (fun _ => X.ic ki_0 dX0_heaviest_2) ?_
  refine Y.op (pc' := 4) (loc' := [some (.ref a0), some (.int p1), some (.int (-1 : Int32)), some (.int (0 : Int32))]) (fun _ => X.istoren (Nat.le_of_ble_eq_true rfl) rfl dX0_heaviest_3) ?_
  exact y_X0_heaviest_L4 (y_X0_heaviest_J46) 5000 a0 p1 (-1 : Int32) (0 : Int32) h
theorem m_X0_heaviest {g : xG} (a0 : Nat) (p1 : Int32) (h : xH) (cl : Bool) (r : Int32 × xH) (e : f_X0_heaviest a0 p1 h = some r) : XM g DX0_heaviest [.ref a0, .int p1] h cl (iI r) := YM.of rfl rfl (Nat.le_of_ble_eq_true rfl) (y_X0_heaviest a0 p1 h) e
def f_J6_bitCount_0f7a4 (p1 : Int32) (h : xH) : Option (Int32 × xH) :=
  lt ((p1 - (((p1.toUInt32 >>> ((1 : Int32).toUInt32 &&& (31 : Int32).toUInt32)).toInt32) &&& (1431655765 : Int32)))) fun v1 =>
  lt (((v1 &&& (858993459 : Int32)) + (((v1.toUInt32 >>> ((2 : Int32).toUInt32 &&& (31 : Int32).toUInt32)).toInt32) &&& (858993459 : Int32)))) fun v2 =>
  lt (((v2 + ((v2.toUInt32 >>> ((4 : Int32).toUInt32 &&& (31 : Int32).toUInt32)).toInt32)) &&& (252645135 : Int32))) fun v3 =>
  lt ((v3 + ((v3.toUInt32 >>> ((8 : Int32).toUInt32 &&& (31 : Int32).toUInt32)).toInt32))) fun v4 =>
  lt ((v4 + ((v4.toUInt32 >>> ((16 : Int32).toUInt32 &&& (31 : Int32).toUInt32)).toInt32))) fun v5 =>
  some ((v5 &&& (63 : Int32)), h)
theorem y_J6_bitCount_0f7a4 {g : xG} {h0 : xH} {cl : Bool} (p1 : Int32) (h : xH) : Y g DJ6_bitCount_0f7a4 h0 cl iI (f_J6_bitCount_0f7a4 p1 h) 0 [some (.int p1)] [] h := by
  unfold f_J6_bitCount_0f7a4
  refine Y.op (pc' := 1) (fun _ => X.iloadn rfl dJ6_bitCount_0f7a4_0) ?_
  refine Y.op (pc' := 2) (fun _ => X.iloadn rfl dJ6_bitCount_0f7a4_1) ?_
  refine Y.op (pc' := 3) (fun _ => X.ic ki_1 dJ6_bitCount_0f7a4_2) ?_
  refine Y.op (pc' := 4) (fun _ => X.iushr dJ6_bitCount_0f7a4_3) ?_
  refine Y.op (pc' := 7) (fun _ => X.ldcwI wc_J6_265 rfl dJ6_bitCount_0f7a4_4) ?_
  refine Y.op (pc' := 8) (fun _ => X.iand dJ6_bitCount_0f7a4_7) ?_
  refine Y.op (pc' := 9) (fun _ => X.isub dJ6_bitCount_0f7a4_8) ?_
  refine Y.top (fun v1 => ?_)
  refine Y.op (pc' := 10) (loc' := [some (.int v1)]) (fun _ => X.istoren (Nat.le_of_ble_eq_true rfl) rfl dJ6_bitCount_0f7a4_9) ?_
  refine Y.op (pc' := 11) (fun _ => X.iloadn rfl dJ6_bitCount_0f7a4_10) ?_
  refine Y.op (pc' := 14) (fun _ => X.ldcwI wc_J6_266 rfl dJ6_bitCount_0f7a4_11) ?_
  refine Y.op (pc' := 15) (fun _ => X.iand dJ6_bitCount_0f7a4_14) ?_
  refine Y.op (pc' := 16) (fun _ => X.iloadn rfl dJ6_bitCount_0f7a4_15) ?_
  refine Y.op (pc' := 17) (fun _ => X.ic ki_2 dJ6_bitCount_0f7a4_16) ?_
  refine Y.op (pc' := 18) (fun _ => X.iushr dJ6_bitCount_0f7a4_17) ?_
  refine Y.op (pc' := 21) (fun _ => X.ldcwI wc_J6_266 rfl dJ6_bitCount_0f7a4_18) ?_
  refine Y.op (pc' := 22) (fun _ => X.iand dJ6_bitCount_0f7a4_21) ?_
  refine Y.op (pc' := 23) (fun _ => X.iadd dJ6_bitCount_0f7a4_22) ?_
  refine Y.top (fun v2 => ?_)
  refine Y.op (pc' := 24) (loc' := [some (.int v2)]) (fun _ => X.istoren (Nat.le_of_ble_eq_true rfl) rfl dJ6_bitCount_0f7a4_23) ?_
  refine Y.op (pc' := 25) (fun _ => X.iloadn rfl dJ6_bitCount_0f7a4_24) ?_
  refine Y.op (pc' := 26) (fun _ => X.iloadn rfl dJ6_bitCount_0f7a4_25) ?_
  refine Y.op (pc' := 27) (fun _ => X.ic ki_4 dJ6_bitCount_0f7a4_26) ?_
  refine Y.op (pc' := 28) (fun _ => X.iushr dJ6_bitCount_0f7a4_27) ?_
  refine Y.op (pc' := 29) (fun _ => X.iadd dJ6_bitCount_0f7a4_28) ?_
  refine Y.op (pc' := 32) (fun _ => X.ldcwI wc_J6_267 rfl dJ6_bitCount_0f7a4_29) ?_
  refine Y.op (pc' := 33) (fun _ => X.iand dJ6_bitCount_0f7a4_32) ?_
  refine Y.top (fun v3 => ?_)
  refine Y.op (pc' := 34) (loc' := [some (.int v3)]) (fun _ => X.istoren (Nat.le_of_ble_eq_true rfl) rfl dJ6_bitCount_0f7a4_33) ?_
  refine Y.op (pc' := 35) (fun _ => X.iloadn rfl dJ6_bitCount_0f7a4_34) ?_
  refine Y.op (pc' := 36) (fun _ => X.iloadn rfl dJ6_bitCount_0f7a4_35) ?_
  refine Y.op (pc' := 38) (fun _ => X.bp kb_8 dJ6_bitCount_0f7a4_36) ?_
  refine Y.op (pc' := 39) (fun _ => X.iushr dJ6_bitCount_0f7a4_38) ?_
  refine Y.op (pc' := 40) (fun _ => X.iadd dJ6_bitCount_0f7a4_39) ?_
  refine Y.top (fun v4 => ?_)
  refine Y.op (pc' := 41) (loc' := [some (.int v4)]) (fun _ => X.istoren (Nat.le_of_ble_eq_true rfl) rfl dJ6_bitCount_0f7a4_40) ?_
  refine Y.op (pc' := 42) (fun _ => X.iloadn rfl dJ6_bitCount_0f7a4_41) ?_
  refine Y.op (pc' := 43) (fun _ => X.iloadn rfl dJ6_bitCount_0f7a4_42) ?_
  refine Y.op (pc' := 45) (fun _ => X.bp kb_16 dJ6_bitCount_0f7a4_43) ?_
  refine Y.op (pc' := 46) (fun _ => X.iushr dJ6_bitCount_0f7a4_45) ?_
  refine Y.op (pc' := 47) (fun _ => X.iadd dJ6_bitCount_0f7a4_46) ?_
  refine Y.top (fun v5 => ?_)
  refine Y.op (pc' := 48) (loc' := [some (.int v5)]) (fun _ => X.istoren (Nat.le_of_ble_eq_true rfl) rfl dJ6_bitCount_0f7a4_47) ?_
  refine Y.op (pc' := 49) (fun _ => X.iloadn rfl dJ6_bitCount_0f7a4_48) ?_
  refine Y.op (pc' := 51) (fun _ => X.bp kb_63 dJ6_bitCount_0f7a4_49) ?_
  refine Y.op (pc' := 52) (fun _ => X.iand dJ6_bitCount_0f7a4_51) ?_
  exact Y.ireturn rfl dJ6_bitCount_0f7a4_52
theorem m_J6_bitCount_0f7a4 {g : xG} (p1 : Int32) (h : xH) (cl : Bool) (r : Int32 × xH) (e : f_J6_bitCount_0f7a4 p1 h = some r) : XM g DJ6_bitCount_0f7a4 [.int p1] h cl (iI r) := YM.of rfl rfl (Nat.le_of_ble_eq_true rfl) (y_J6_bitCount_0f7a4 p1 h) e
def f_X0_fitCount_J28 (x1 : Int32) (h : xH) : Option (Int32 × xH) :=
  some (x1, h)
theorem y_X0_fitCount_J28 {g : xG} {h0 : xH} {cl : Bool} (x1 : Int32) (h : xH) : Y g DX0_fitCount h0 cl iI (f_X0_fitCount_J28 x1 h) 28 [none, some (.int x1), none] [] h := by
  unfold f_X0_fitCount_J28
  refine Y.op (pc' := 29) (fun _ => X.iloadn rfl dX0_fitCount_28) ?_
  exact Y.ireturn rfl dX0_fitCount_29
def f_X0_fitCount_L4 (kE28 : Int32 → xH → Option (Int32 × xH)) : Nat → Nat → Int32 → Int32 → xH → Option (Int32 × xH)
  | 0 => fun _ _ _ _ => none
  | n + 1 => fun x0 x1 x2 h =>
    if x2 ≥ (12 : Int32) then
      kE28 x1 h
    else
      (gR h 0 x0 6).bind fun v1 =>
      (aI h v1 x2).bind fun v2 =>
      (f_J6_bitCount_0f7a4 v2 h).bind fun r3 =>
      lt ((x1 + r3.1)) fun v4 =>
      lt (x2 + (1 : Int32)) fun v5 =>
      f_X0_fitCount_L4 kE28 n x0 v4 v5 r3.2
theorem y_X0_fitCount_L4 {g : xG} {h0 : xH} {cl : Bool} {kE28 : Int32 → xH → Option (Int32 × xH)} (hkE28 : ∀ (x1 : Int32) (h : xH), Y g DX0_fitCount h0 cl iI (kE28 x1 h) 28 [none, some (.int x1), none] [] h) : ∀ (n : Nat) (x0 : Nat) (x1 : Int32) (x2 : Int32) (h : xH), Y g DX0_fitCount h0 cl iI (f_X0_fitCount_L4 kE28 n x0 x1 x2 h) 4 [some (.ref x0), some (.int x1), some (.int x2)] [] h := by
  intro n
  induction n with
  | zero => intro x0 x1 x2 h; exact Y.nothing
  | succ n ih =>
    intro x0 x1 x2 h
    unfold f_X0_fitCount_L4
    refine Y.op (pc' := 5) (fun _ => X.iloadn rfl dX0_fitCount_4) ?_
    refine Y.op (pc' := 7) (fun _ => X.bp kb_12 dX0_fitCount_5) ?_
    refine Y.cmpge 28 (by decide) dX0_fitCount_7 ?_ ?_
    · exact Y.fg (hkE28 x1 h) (And.intro rfl trivial)
    · refine Y.op (pc' := 11) (fun _ => X.iloadn rfl dX0_fitCount_10) ?_
      refine Y.op (pc' := 12) (fun _ => X.aloadn rfl dX0_fitCount_11) ?_
      refine Y.getR fd_X0_15 rfl dX0_fitCount_12 (fun v1 => ?_)
      refine Y.op (pc' := 16) (fun _ => X.iloadn rfl dX0_fitCount_15) ?_
      refine Y.aldI dX0_fitCount_16 (fun v2 => ?_)
      refine Y.callSi (As := [.int v2]) lk_X0_105 rfl cal_J6_bitCount_0f7a4 sta_J6_bitCount_0f7a4 (Nat.le_of_ble_eq_true rfl) rfl rfl (Nat.le_of_ble_eq_true rfl) dX0_fitCount_17 (fun _ e => m_J6_bitCount_0f7a4 v2 h _ _ e) (fun r3 => ?_)
      refine Y.op (pc' := 21) (fun _ => X.iadd dX0_fitCount_20) ?_
      refine Y.top (fun v4 => ?_)
      refine Y.op (pc' := 22) (loc' := [some (.ref x0), some (.int v4), some (.int x2)]) (fun _ => X.istoren (Nat.le_of_ble_eq_true rfl) rfl dX0_fitCount_21) ?_
      refine Y.iinc (i := 2) (loc' := fun v5 => [some (.ref x0), some (.int v4), some (.int v5)]) rfl (Nat.le_of_ble_eq_true rfl) ki_1 (fun _ => rfl) dX0_fitCount_22 (fun v5 => ?_)
      refine Y.op (pc' := 4) (fun _ => X.goto 4 (by decide) dX0_fitCount_25) ?_
      exact ih x0 v4 v5 r3.2
def f_X0_fitCount (a0 : Nat) (h : xH) : Option (Int32 × xH) :=
  f_X0_fitCount_L4 (f_X0_fitCount_J28) 5000 a0 (0 : Int32) (0 : Int32) h
theorem y_X0_fitCount {g : xG} {h0 : xH} {cl : Bool} (a0 : Nat) (h : xH) : Y g DX0_fitCount h0 cl iI (f_X0_fitCount a0 h) 0 [some (.ref a0), none, none] [] h := by
  unfold f_X0_fitCount
  refine Y.op (pc' := 1) (fun _ => X.ic ki_0 dX0_fitCount_0) ?_
  refine Y.op (pc' := 2) (loc' := [some (.ref a0), some (.int (0 : Int32)), none]) (fun _ => X.istoren (Nat.le_of_ble_eq_true rfl) rfl dX0_fitCount_1) ?_
  refine Y.op (pc' := 3) (fun _ => X.ic ki_0 dX0_fitCount_2) ?_
  refine Y.op (pc' := 4) (loc' := [some (.ref a0), some (.int (0 : Int32)), some (.int (0 : Int32))]) (fun _ => X.istoren (Nat.le_of_ble_eq_true rfl) rfl dX0_fitCount_3) ?_
  exact y_X0_fitCount_L4 (y_X0_fitCount_J28) 5000 a0 (0 : Int32) (0 : Int32) h
theorem m_X0_fitCount {g : xG} (a0 : Nat) (h : xH) (cl : Bool) (r : Int32 × xH) (e : f_X0_fitCount a0 h = some r) : XM g DX0_fitCount [.ref a0] h cl (iI r) := YM.of rfl rfl (Nat.le_of_ble_eq_true rfl) (y_X0_fitCount a0 h) e
def f_X0_pairCost_J41 (x1 : Int32) (h : xH) : Option (Int32 × xH) :=
  some (x1, h)
theorem y_X0_pairCost_J41 {g : xG} {h0 : xH} {cl : Bool} (x1 : Int32) (h : xH) : Y g DX0_pairCost h0 cl iI (f_X0_pairCost_J41 x1 h) 41 [none, some (.int x1), none, none] [] h := by
  unfold f_X0_pairCost_J41
  refine Y.op (pc' := 42) (fun _ => X.iloadn rfl dX0_pairCost_41) ?_
  exact Y.ireturn rfl dX0_pairCost_42
def f_X0_pairCost_J35 (kH : Nat → Int32 → Int32 → xH → Option (Int32 × xH)) (kE41 : Int32 → xH → Option (Int32 × xH)) (x0 : Nat) (x1 : Int32) (x2 : Int32) (h : xH) : Option (Int32 × xH) :=
  lt (x2 + (1 : Int32)) fun v1 =>
  kH x0 x1 v1 h
theorem y_X0_pairCost_J35 {g : xG} {h0 : xH} {cl : Bool} {kH : Nat → Int32 → Int32 → xH → Option (Int32 × xH)} {kE41 : Int32 → xH → Option (Int32 × xH)} (hkH : ∀ (x0 : Nat) (x1 : Int32) (x2 : Int32) (h : xH), Y g DX0_pairCost h0 cl iI (kH x0 x1 x2 h) 4 [some (.ref x0), some (.int x1), some (.int x2), none] [] h) (hkE41 : ∀ (x1 : Int32) (h : xH), Y g DX0_pairCost h0 cl iI (kE41 x1 h) 41 [none, some (.int x1), none, none] [] h) (x0 : Nat) (x1 : Int32) (x2 : Int32) (h : xH) : Y g DX0_pairCost h0 cl iI (f_X0_pairCost_J35 kH kE41 x0 x1 x2 h) 35 [some (.ref x0), some (.int x1), some (.int x2), none] [] h := by
  unfold f_X0_pairCost_J35
  refine Y.iinc (i := 2) (loc' := fun v1 => [some (.ref x0), some (.int x1), some (.int v1), none]) rfl (Nat.le_of_ble_eq_true rfl) ki_1 (fun _ => rfl) dX0_pairCost_35 (fun v1 => ?_)
  refine Y.op (pc' := 4) (fun _ => X.goto 4 (by decide) dX0_pairCost_38) ?_
  exact hkH x0 x1 v1 h
def f_X0_pairCost_L4 (kE41 : Int32 → xH → Option (Int32 × xH)) : Nat → Nat → Int32 → Int32 → xH → Option (Int32 × xH)
  | 0 => fun _ _ _ _ => none
  | n + 1 => fun x0 x1 x2 h =>
    (gI h 0 x0 0).bind fun v1 =>
    if x2 ≥ v1 then
      kE41 x1 h
    else
      (gR h 0 x0 9).bind fun v2 =>
      (vc h 3 v2 (f_X3_taskOf v2 x2 h)).bind fun r3 =>
      if r3.1 = (-1 : Int32) then
        f_X0_pairCost_J35 (f_X0_pairCost_L4 kE41 n) kE41 x0 x1 x2 r3.2
      else
        (vc r3.2 0 x0 (f_X0_costOf x0 x2 r3.1 r3.2)).bind fun r4 =>
        lt ((x1 + r4.1)) fun v5 =>
        f_X0_pairCost_J35 (f_X0_pairCost_L4 kE41 n) kE41 x0 v5 x2 r4.2
theorem y_X0_pairCost_L4 {g : xG} {h0 : xH} {cl : Bool} {kE41 : Int32 → xH → Option (Int32 × xH)} (hkE41 : ∀ (x1 : Int32) (h : xH), Y g DX0_pairCost h0 cl iI (kE41 x1 h) 41 [none, some (.int x1), none, none] [] h) : ∀ (n : Nat) (x0 : Nat) (x1 : Int32) (x2 : Int32) (h : xH), Y g DX0_pairCost h0 cl iI (f_X0_pairCost_L4 kE41 n x0 x1 x2 h) 4 [some (.ref x0), some (.int x1), some (.int x2), none] [] h := by
  intro n
  induction n with
  | zero => intro x0 x1 x2 h; exact Y.nothing
  | succ n ih =>
    intro x0 x1 x2 h
    unfold f_X0_pairCost_L4
    refine Y.op (pc' := 5) (fun _ => X.iloadn rfl dX0_pairCost_4) ?_
    refine Y.op (pc' := 6) (fun _ => X.aloadn rfl dX0_pairCost_5) ?_
    refine Y.getI fd_X0_35 rfl dX0_pairCost_6 (fun v1 => ?_)
    refine Y.cmpge 41 (by decide) dX0_pairCost_9 ?_ ?_
    · exact Y.fg (hkE41 x1 h) (And.intro rfl trivial)
    · refine Y.op (pc' := 13) (fun _ => X.aloadn rfl dX0_pairCost_12) ?_
      refine Y.getR fd_X0_27 rfl dX0_pairCost_13 (fun v2 => ?_)
      refine Y.op (pc' := 17) (fun _ => X.iloadn rfl dX0_pairCost_16) ?_
      refine Y.callVi (As := [.int x2]) lk_X0_75 rfl cal_X3_taskOf vir_X3_taskOf (Nat.le_of_ble_eq_true rfl) (Nat.le_of_ble_eq_true rfl) rfl rfl rfl (Nat.le_of_ble_eq_true rfl) dX0_pairCost_17 (fun _ e => m_X3_taskOf v2 x2 h _ _ e) (fun r3 => ?_)
      refine Y.op (pc' := 21) (loc' := [some (.ref x0), some (.int x1), some (.int x2), some (.int r3.1)]) (fun _ => X.istoren (Nat.le_of_ble_eq_true rfl) rfl dX0_pairCost_20) ?_
      refine Y.op (pc' := 22) (fun _ => X.iloadn rfl dX0_pairCost_21) ?_
      refine Y.op (pc' := 23) (fun _ => X.ic ki_m1 dX0_pairCost_22) ?_
      refine Y.cmpeq 35 (by decide) dX0_pairCost_23 ?_ ?_
      · exact Y.fg (y_X0_pairCost_J35 ih hkE41 x0 x1 x2 r3.2) (And.intro rfl (And.intro rfl (And.intro rfl trivial)))
      · refine Y.op (pc' := 27) (fun _ => X.iloadn rfl dX0_pairCost_26) ?_
        refine Y.op (pc' := 28) (fun _ => X.aloadn rfl dX0_pairCost_27) ?_
        refine Y.op (pc' := 29) (fun _ => X.iloadn rfl dX0_pairCost_28) ?_
        refine Y.op (pc' := 30) (fun _ => X.iloadn rfl dX0_pairCost_29) ?_
        refine Y.callVi (As := [.int x2, .int r3.1]) lk_X0_92 rfl cal_X0_costOf vir_X0_costOf (Nat.le_of_ble_eq_true rfl) (Nat.le_of_ble_eq_true rfl) rfl rfl rfl (Nat.le_of_ble_eq_true rfl) dX0_pairCost_30 (fun _ e => m_X0_costOf x0 x2 r3.1 r3.2 _ _ e) (fun r4 => ?_)
        refine Y.op (pc' := 34) (fun _ => X.iadd dX0_pairCost_33) ?_
        refine Y.top (fun v5 => ?_)
        refine Y.op (pc' := 35) (loc' := [some (.ref x0), some (.int v5), some (.int x2), some (.int r3.1)]) (fun _ => X.istoren (Nat.le_of_ble_eq_true rfl) rfl dX0_pairCost_34) ?_
        exact Y.fg (y_X0_pairCost_J35 ih hkE41 x0 v5 x2 r4.2) (And.intro rfl (And.intro rfl (And.intro rfl trivial)))
def f_X0_pairCost (a0 : Nat) (h : xH) : Option (Int32 × xH) :=
  f_X0_pairCost_L4 (f_X0_pairCost_J41) 5000 a0 (0 : Int32) (0 : Int32) h
theorem y_X0_pairCost {g : xG} {h0 : xH} {cl : Bool} (a0 : Nat) (h : xH) : Y g DX0_pairCost h0 cl iI (f_X0_pairCost a0 h) 0 [some (.ref a0), none, none, none] [] h := by
  unfold f_X0_pairCost
  refine Y.op (pc' := 1) (fun _ => X.ic ki_0 dX0_pairCost_0) ?_
  refine Y.op (pc' := 2) (loc' := [some (.ref a0), some (.int (0 : Int32)), none, none]) (fun _ => X.istoren (Nat.le_of_ble_eq_true rfl) rfl dX0_pairCost_1) ?_
  refine Y.op (pc' := 3) (fun _ => X.ic ki_0 dX0_pairCost_2) ?_
  refine Y.op (pc' := 4) (loc' := [some (.ref a0), some (.int (0 : Int32)), some (.int (0 : Int32)), none]) (fun _ => X.istoren (Nat.le_of_ble_eq_true rfl) rfl dX0_pairCost_3) ?_
  exact y_X0_pairCost_L4 (y_X0_pairCost_J41) 5000 a0 (0 : Int32) (0 : Int32) h
theorem m_X0_pairCost {g : xG} (a0 : Nat) (h : xH) (cl : Bool) (r : Int32 × xH) (e : f_X0_pairCost a0 h = some r) : XM g DX0_pairCost [.ref a0] h cl (iI r) := YM.of rfl rfl (Nat.le_of_ble_eq_true rfl) (y_X0_pairCost a0 h) e
def f_X0_tradeGain_J38 (h : xH) : Option (Int32 × xH) :=
  some ((0 : Int32), h)
theorem y_X0_tradeGain_J38 {g : xG} {h0 : xH} {cl : Bool} (h : xH) : Y g DX0_tradeGain h0 cl iI (f_X0_tradeGain_J38 h) 38 [none, none, none, none, none] [] h := by
  unfold f_X0_tradeGain_J38
  refine Y.op (pc' := 39) (fun _ => X.ic ki_0 dX0_tradeGain_38) ?_
  exact Y.ireturn rfl dX0_tradeGain_39
def f_X0_tradeGain (a0 : Nat) (p1 : Int32) (p2 : Int32) (h : xH) : Option (Int32 × xH) :=
  (gR h 0 a0 9).bind fun v1 =>
  (vc h 3 v1 (f_X3_taskOf v1 p1 h)).bind fun r2 =>
  (gR r2.2 0 a0 9).bind fun v3 =>
  (vc r2.2 3 v3 (f_X3_taskOf v3 p2 r2.2)).bind fun r4 =>
  (vc r4.2 0 a0 (f_X0_isFit a0 p1 r4.1 r4.2)).bind fun r5 =>
  if r5.1 = (0 : Int32) then
    f_X0_tradeGain_J38 r5.2
  else
    (vc r5.2 0 a0 (f_X0_isFit a0 p2 r2.1 r5.2)).bind fun r6 =>
    if r6.1 = (0 : Int32) then
      f_X0_tradeGain_J38 r6.2
    else
      (vc r6.2 0 a0 (f_X0_costOf a0 p1 r2.1 r6.2)).bind fun r7 =>
      (vc r7.2 0 a0 (f_X0_costOf a0 p2 r4.1 r7.2)).bind fun r8 =>
      (vc r8.2 0 a0 (f_X0_costOf a0 p1 r4.1 r8.2)).bind fun r9 =>
      (vc r9.2 0 a0 (f_X0_costOf a0 p2 r2.1 r9.2)).bind fun r10 =>
      some ((((r7.1 + r8.1) - r9.1) - r10.1), r10.2)
theorem y_X0_tradeGain {g : xG} {h0 : xH} {cl : Bool} (a0 : Nat) (p1 : Int32) (p2 : Int32) (h : xH) : Y g DX0_tradeGain h0 cl iI (f_X0_tradeGain a0 p1 p2 h) 0 [some (.ref a0), some (.int p1), some (.int p2), none, none] [] h := by
  unfold f_X0_tradeGain
  refine Y.op (pc' := 1) (fun _ => X.aloadn rfl dX0_tradeGain_0) ?_
  refine Y.getR fd_X0_27 rfl dX0_tradeGain_1 (fun v1 => ?_)
  refine Y.op (pc' := 5) (fun _ => X.iloadn rfl dX0_tradeGain_4) ?_
  refine Y.callVi (As := [.int p1]) lk_X0_75 rfl cal_X3_taskOf vir_X3_taskOf (Nat.le_of_ble_eq_true rfl) (Nat.le_of_ble_eq_true rfl) rfl rfl rfl (Nat.le_of_ble_eq_true rfl) dX0_tradeGain_5 (fun _ e => m_X3_taskOf v1 p1 h _ _ e) (fun r2 => ?_)
  refine Y.op (pc' := 9) (loc' := [some (.ref a0), some (.int p1), some (.int p2), some (.int r2.1), none]) (fun _ => X.istoren (Nat.le_of_ble_eq_true rfl) rfl dX0_tradeGain_8) ?_
  refine Y.op (pc' := 10) (fun _ => X.aloadn rfl dX0_tradeGain_9) ?_
  refine Y.getR fd_X0_27 rfl dX0_tradeGain_10 (fun v3 => ?_)
  refine Y.op (pc' := 14) (fun _ => X.iloadn rfl dX0_tradeGain_13) ?_
  refine Y.callVi (As := [.int p2]) lk_X0_75 rfl cal_X3_taskOf vir_X3_taskOf (Nat.le_of_ble_eq_true rfl) (Nat.le_of_ble_eq_true rfl) rfl rfl rfl (Nat.le_of_ble_eq_true rfl) dX0_tradeGain_14 (fun _ e => m_X3_taskOf v3 p2 r2.2 _ _ e) (fun r4 => ?_)
  refine Y.op (pc' := 19) (loc' := [some (.ref a0), some (.int p1), some (.int p2), some (.int r2.1), some (.int r4.1)]) (fun _ => X.istore (Nat.le_of_ble_eq_true rfl) rfl dX0_tradeGain_17) ?_
  refine Y.op (pc' := 20) (fun _ => X.aloadn rfl dX0_tradeGain_19) ?_
  refine Y.op (pc' := 21) (fun _ => X.iloadn rfl dX0_tradeGain_20) ?_
  refine Y.op (pc' := 23) (fun _ => X.iload rfl dX0_tradeGain_21) ?_
  refine Y.callVi (As := [.int p1, .int r4.1]) lk_X0_110 rfl cal_X0_isFit vir_X0_isFit (Nat.le_of_ble_eq_true rfl) (Nat.le_of_ble_eq_true rfl) rfl rfl rfl (Nat.le_of_ble_eq_true rfl) dX0_tradeGain_23 (fun _ e => m_X0_isFit a0 p1 r4.1 r4.2 _ _ e) (fun r5 => ?_)
  refine Y.ifeq 38 (by decide) dX0_tradeGain_26 ?_ ?_
  · exact Y.fg (y_X0_tradeGain_J38 r5.2) trivial
  · refine Y.op (pc' := 30) (fun _ => X.aloadn rfl dX0_tradeGain_29) ?_
    refine Y.op (pc' := 31) (fun _ => X.iloadn rfl dX0_tradeGain_30) ?_
    refine Y.op (pc' := 32) (fun _ => X.iloadn rfl dX0_tradeGain_31) ?_
    refine Y.callVi (As := [.int p2, .int r2.1]) lk_X0_110 rfl cal_X0_isFit vir_X0_isFit (Nat.le_of_ble_eq_true rfl) (Nat.le_of_ble_eq_true rfl) rfl rfl rfl (Nat.le_of_ble_eq_true rfl) dX0_tradeGain_32 (fun _ e => m_X0_isFit a0 p2 r2.1 r5.2 _ _ e) (fun r6 => ?_)
    refine Y.ifne 40 (by decide) dX0_tradeGain_35 ?_ ?_
    · refine Y.op (pc' := 41) (fun _ => X.aloadn rfl dX0_tradeGain_40) ?_
      refine Y.op (pc' := 42) (fun _ => X.iloadn rfl dX0_tradeGain_41) ?_
      refine Y.op (pc' := 43) (fun _ => X.iloadn rfl dX0_tradeGain_42) ?_
      refine Y.callVi (As := [.int p1, .int r2.1]) lk_X0_92 rfl cal_X0_costOf vir_X0_costOf (Nat.le_of_ble_eq_true rfl) (Nat.le_of_ble_eq_true rfl) rfl rfl rfl (Nat.le_of_ble_eq_true rfl) dX0_tradeGain_43 (fun _ e => m_X0_costOf a0 p1 r2.1 r6.2 _ _ e) (fun r7 => ?_)
      refine Y.op (pc' := 47) (fun _ => X.aloadn rfl dX0_tradeGain_46) ?_
      refine Y.op (pc' := 48) (fun _ => X.iloadn rfl dX0_tradeGain_47) ?_
      refine Y.op (pc' := 50) (fun _ => X.iload rfl dX0_tradeGain_48) ?_
      refine Y.callVi (As := [.int p2, .int r4.1]) lk_X0_92 rfl cal_X0_costOf vir_X0_costOf (Nat.le_of_ble_eq_true rfl) (Nat.le_of_ble_eq_true rfl) rfl rfl rfl (Nat.le_of_ble_eq_true rfl) dX0_tradeGain_50 (fun _ e => m_X0_costOf a0 p2 r4.1 r7.2 _ _ e) (fun r8 => ?_)
      refine Y.op (pc' := 54) (fun _ => X.iadd dX0_tradeGain_53) ?_
      refine Y.op (pc' := 55) (fun _ => X.aloadn rfl dX0_tradeGain_54) ?_
      refine Y.op (pc' := 56) (fun _ => X.iloadn rfl dX0_tradeGain_55) ?_
      refine Y.op (pc' := 58) (fun _ => X.iload rfl dX0_tradeGain_56) ?_
      refine Y.callVi (As := [.int p1, .int r4.1]) lk_X0_92 rfl cal_X0_costOf vir_X0_costOf (Nat.le_of_ble_eq_true rfl) (Nat.le_of_ble_eq_true rfl) rfl rfl rfl (Nat.le_of_ble_eq_true rfl) dX0_tradeGain_58 (fun _ e => m_X0_costOf a0 p1 r4.1 r8.2 _ _ e) (fun r9 => ?_)
      refine Y.op (pc' := 62) (fun _ => X.isub dX0_tradeGain_61) ?_
      refine Y.op (pc' := 63) (fun _ => X.aloadn rfl dX0_tradeGain_62) ?_
      refine Y.op (pc' := 64) (fun _ => X.iloadn rfl dX0_tradeGain_63) ?_
      refine Y.op (pc' := 65) (fun _ => X.iloadn rfl dX0_tradeGain_64) ?_
      refine Y.callVi (As := [.int p2, .int r2.1]) lk_X0_92 rfl cal_X0_costOf vir_X0_costOf (Nat.le_of_ble_eq_true rfl) (Nat.le_of_ble_eq_true rfl) rfl rfl rfl (Nat.le_of_ble_eq_true rfl) dX0_tradeGain_65 (fun _ e => m_X0_costOf a0 p2 r2.1 r9.2 _ _ e) (fun r10 => ?_)
      refine Y.op (pc' := 69) (fun _ => X.isub dX0_tradeGain_68) ?_
      exact Y.ireturn rfl dX0_tradeGain_69
    · exact Y.fg (y_X0_tradeGain_J38 r6.2) trivial
theorem m_X0_tradeGain {g : xG} (a0 : Nat) (p1 : Int32) (p2 : Int32) (h : xH) (cl : Bool) (r : Int32 × xH) (e : f_X0_tradeGain a0 p1 p2 h = some r) : XM g DX0_tradeGain [.ref a0, .int p1, .int p2] h cl (iI r) := YM.of rfl rfl (Nat.le_of_ble_eq_true rfl) (y_X0_tradeGain a0 p1 p2 h) e
def f_X1_init (a0 : Nat) (h : xH) : Option (xH) :=
  (nwI h (144 : Int32)).bind fun r1 =>
  (pR r1.2 1 a0 0 r1.1).bind fun h2 =>
  (nwI h2 (144 : Int32)).bind fun r3 =>
  (pR r3.2 1 a0 1 r3.1).bind fun h4 =>
  (nwI h4 (144 : Int32)).bind fun r5 =>
  (pR r5.2 1 a0 2 r5.1).bind fun h6 =>
  (nwI h6 (24 : Int32)).bind fun r7 =>
  (pR r7.2 1 a0 3 r7.1).bind fun h8 =>
  (nwI h8 (24 : Int32)).bind fun r9 =>
  (pR r9.2 1 a0 4 r9.1).bind fun h10 =>
  (pI h10 1 a0 5 (0 : Int32)).bind fun h11 =>
  some h11
theorem y_X1_init {g : xG} {h0 : xH} (a0 : Nat) (h : xH) : Y g DX1_init h0 false iV (f_X1_init a0 h) 0 [some (.ref a0)] [] h := by
  unfold f_X1_init
  refine Y.op (pc' := 1) (fun _ => X.aloadn rfl dX1_init_0) ?_
  refine Y.op (pc' := 4) (fun _ => X.objInit wo_X1 rfl (Nat.le_of_ble_eq_true rfl) (Nat.le_of_ble_eq_true rfl) dX1_init_1) ?_
  refine Y.op (pc' := 5) (fun _ => X.aloadn rfl dX1_init_4) ?_
  refine Y.op (pc' := 8) (fun _ => X.sp ks_144 dX1_init_5) ?_
  refine Y.newI waI dX1_init_8 (fun r1 => ?_)
  refine Y.putR ff_X1_9 rfl rfl (fun _ => rfl) (fun _ => rfl) dX1_init_10 (fun h2 => ?_)
  refine Y.op (pc' := 14) (fun _ => X.aloadn rfl dX1_init_13) ?_
  refine Y.op (pc' := 17) (fun _ => X.sp ks_144 dX1_init_14) ?_
  refine Y.newI waI dX1_init_17 (fun r3 => ?_)
  refine Y.putR ff_X1_15 rfl rfl (fun _ => rfl) (fun _ => rfl) dX1_init_19 (fun h4 => ?_)
  refine Y.op (pc' := 23) (fun _ => X.aloadn rfl dX1_init_22) ?_
  refine Y.op (pc' := 26) (fun _ => X.sp ks_144 dX1_init_23) ?_
  refine Y.newI waI dX1_init_26 (fun r5 => ?_)
  refine Y.putR ff_X1_18 rfl rfl (fun _ => rfl) (fun _ => rfl) dX1_init_28 (fun h6 => ?_)
  refine Y.op (pc' := 32) (fun _ => X.aloadn rfl dX1_init_31) ?_
  refine Y.op (pc' := 34) (fun _ => X.bp kb_24 dX1_init_32) ?_
  refine Y.newI waI dX1_init_34 (fun r7 => ?_)
  refine Y.putR ff_X1_21 rfl rfl (fun _ => rfl) (fun _ => rfl) dX1_init_36 (fun h8 => ?_)
  refine Y.op (pc' := 40) (fun _ => X.aloadn rfl dX1_init_39) ?_
  refine Y.op (pc' := 42) (fun _ => X.bp kb_24 dX1_init_40) ?_
  refine Y.newI waI dX1_init_42 (fun r9 => ?_)
  refine Y.putR ff_X1_24 rfl rfl (fun _ => rfl) (fun _ => rfl) dX1_init_44 (fun h10 => ?_)
  refine Y.op (pc' := 48) (fun _ => X.aloadn rfl dX1_init_47) ?_
  refine Y.op (pc' := 49) (fun _ => X.ic ki_0 dX1_init_48) ?_
  refine Y.putI fd_X1_27 rfl dX1_init_49 (fun h11 => ?_)
  exact Y.vreturn rfl dX1_init_52
theorem m_X1_init {g : xG} (a0 : Nat) (h : xH) (r : xH) (e : f_X1_init a0 h = some r) : XM g DX1_init [.ref a0] h false (iV r) := YM.of rfl rfl (Nat.le_of_ble_eq_true rfl) (y_X1_init a0 h) e
def f_X1_cellOf_J26 (s0 : Int32) (h : xH) : Option (Int32 × xH) :=
  some (s0, h)
theorem y_X1_cellOf_J26 {g : xG} {h0 : xH} {cl : Bool} (s0 : Int32) (h : xH) : Y g DX1_cellOf h0 cl iI (f_X1_cellOf_J26 s0 h) 26 [none, none, none] [.int s0] h := by
  unfold f_X1_cellOf_J26
  exact Y.ireturn rfl dX1_cellOf_26
def f_X1_cellOf_J25 (h : xH) : Option (Int32 × xH) :=
  f_X1_cellOf_J26 (-1 : Int32) h
theorem y_X1_cellOf_J25 {g : xG} {h0 : xH} {cl : Bool} (h : xH) : Y g DX1_cellOf h0 cl iI (f_X1_cellOf_J25 h) 25 [none, none, none] [] h := by
  unfold f_X1_cellOf_J25
  refine Y.op (pc' := 26) (fun _ => X.ic ki_m1 dX1_cellOf_25) ?_
  exact y_X1_cellOf_J26 (-1 : Int32) h
def f_X1_cellOf (p1 : Nat) (p2 : Int32) (p3 : Int32) (h : xH) : Option (Int32 × xH) :=
  (f_X9_inLimit p2 h).bind fun r1 =>
  if r1.1 = (0 : Int32) then
    f_X1_cellOf_J25 r1.2
  else
    (f_X9_inLimit p3 r1.2).bind fun r2 =>
    if r2.1 = (0 : Int32) then
      f_X1_cellOf_J25 r2.2
    else
      (aI r2.2 p1 ((p2 * (12 : Int32)) + p3)).bind fun v3 =>
      f_X1_cellOf_J26 v3 r2.2
theorem y_X1_cellOf {g : xG} {h0 : xH} {cl : Bool} (p1 : Nat) (p2 : Int32) (p3 : Int32) (h : xH) : Y g DX1_cellOf h0 cl iI (f_X1_cellOf p1 p2 p3 h) 0 [some (.ref p1), some (.int p2), some (.int p3)] [] h := by
  unfold f_X1_cellOf
  refine Y.op (pc' := 1) (fun _ => X.iloadn rfl dX1_cellOf_0) ?_
  refine Y.callSi (As := [.int p2]) lk_X1_54 rfl cal_X9_inLimit sta_X9_inLimit (Nat.le_of_ble_eq_true rfl) rfl rfl (Nat.le_of_ble_eq_true rfl) dX1_cellOf_1 (fun _ e => m_X9_inLimit p2 h _ _ e) (fun r1 => ?_)
  refine Y.ifeq 25 (by decide) dX1_cellOf_4 ?_ ?_
  · exact Y.fg (y_X1_cellOf_J25 r1.2) trivial
  · refine Y.op (pc' := 8) (fun _ => X.iloadn rfl dX1_cellOf_7) ?_
    refine Y.callSi (As := [.int p3]) lk_X1_54 rfl cal_X9_inLimit sta_X9_inLimit (Nat.le_of_ble_eq_true rfl) rfl rfl (Nat.le_of_ble_eq_true rfl) dX1_cellOf_8 (fun _ e => m_X9_inLimit p3 r1.2 _ _ e) (fun r2 => ?_)
    refine Y.ifeq 25 (by decide) dX1_cellOf_11 ?_ ?_
    · exact Y.fg (y_X1_cellOf_J25 r2.2) trivial
    · refine Y.op (pc' := 15) (fun _ => X.aloadn rfl dX1_cellOf_14) ?_
      refine Y.op (pc' := 16) (fun _ => X.iloadn rfl dX1_cellOf_15) ?_
      refine Y.op (pc' := 18) (fun _ => X.bp kb_12 dX1_cellOf_16) ?_
      refine Y.op (pc' := 19) (fun _ => X.imul dX1_cellOf_18) ?_
      refine Y.op (pc' := 20) (fun _ => X.iloadn rfl dX1_cellOf_19) ?_
      refine Y.op (pc' := 21) (fun _ => X.iadd dX1_cellOf_20) ?_
      refine Y.aldI dX1_cellOf_21 (fun v3 => ?_)
      refine Y.op (pc' := 26) (fun _ => X.goto 26 (by decide) dX1_cellOf_22) ?_
      exact Y.fg (y_X1_cellOf_J26 v3 r2.2) trivial
theorem m_X1_cellOf {g : xG} (p1 : Nat) (p2 : Int32) (p3 : Int32) (h : xH) (cl : Bool) (r : Int32 × xH) (e : f_X1_cellOf p1 p2 p3 h = some r) : XM g DX1_cellOf [.ref p1, .int p2, .int p3] h cl (iI r) := YM.of rfl rfl (Nat.le_of_ble_eq_true rfl) (y_X1_cellOf p1 p2 p3 h) e
def f_X1_setCell_J23 (h : xH) : Option (xH) :=
  some h
theorem y_X1_setCell_J23 {g : xG} {h0 : xH} {cl : Bool} (h : xH) : Y g DX1_setCell h0 cl iV (f_X1_setCell_J23 h) 23 [none, none, none, none] [] h := by
  unfold f_X1_setCell_J23
  exact Y.vreturn rfl dX1_setCell_23
def f_X1_setCell (p1 : Nat) (p2 : Int32) (p3 : Int32) (p4 : Int32) (h : xH) : Option (xH) :=
  (f_X9_inLimit p2 h).bind fun r1 =>
  if r1.1 = (0 : Int32) then
    f_X1_setCell_J23 r1.2
  else
    (f_X9_inLimit p3 r1.2).bind fun r2 =>
    if r2.1 = (0 : Int32) then
      f_X1_setCell_J23 r2.2
    else
      (sI r2.2 p1 ((p2 * (12 : Int32)) + p3) p4).bind fun h3 =>
      f_X1_setCell_J23 h3
theorem y_X1_setCell {g : xG} {h0 : xH} {cl : Bool} (p1 : Nat) (p2 : Int32) (p3 : Int32) (p4 : Int32) (h : xH) : Y g DX1_setCell h0 cl iV (f_X1_setCell p1 p2 p3 p4 h) 0 [some (.ref p1), some (.int p2), some (.int p3), some (.int p4)] [] h := by
  unfold f_X1_setCell
  refine Y.op (pc' := 1) (fun _ => X.iloadn rfl dX1_setCell_0) ?_
  refine Y.callSi (As := [.int p2]) lk_X1_54 rfl cal_X9_inLimit sta_X9_inLimit (Nat.le_of_ble_eq_true rfl) rfl rfl (Nat.le_of_ble_eq_true rfl) dX1_setCell_1 (fun _ e => m_X9_inLimit p2 h _ _ e) (fun r1 => ?_)
  refine Y.ifeq 23 (by decide) dX1_setCell_4 ?_ ?_
  · exact Y.fg (y_X1_setCell_J23 r1.2) trivial
  · refine Y.op (pc' := 8) (fun _ => X.iloadn rfl dX1_setCell_7) ?_
    refine Y.callSi (As := [.int p3]) lk_X1_54 rfl cal_X9_inLimit sta_X9_inLimit (Nat.le_of_ble_eq_true rfl) rfl rfl (Nat.le_of_ble_eq_true rfl) dX1_setCell_8 (fun _ e => m_X9_inLimit p3 r1.2 _ _ e) (fun r2 => ?_)
    refine Y.ifeq 23 (by decide) dX1_setCell_11 ?_ ?_
    · exact Y.fg (y_X1_setCell_J23 r2.2) trivial
    · refine Y.op (pc' := 15) (fun _ => X.aloadn rfl dX1_setCell_14) ?_
      refine Y.op (pc' := 16) (fun _ => X.iloadn rfl dX1_setCell_15) ?_
      refine Y.op (pc' := 18) (fun _ => X.bp kb_12 dX1_setCell_16) ?_
      refine Y.op (pc' := 19) (fun _ => X.imul dX1_setCell_18) ?_
      refine Y.op (pc' := 20) (fun _ => X.iloadn rfl dX1_setCell_19) ?_
      refine Y.op (pc' := 21) (fun _ => X.iadd dX1_setCell_20) ?_
      refine Y.op (pc' := 22) (fun _ => X.iloadn rfl dX1_setCell_21) ?_
      refine Y.astI dX1_setCell_22 (fun h3 => ?_)
      exact Y.fg (y_X1_setCell_J23 h3) trivial
theorem m_X1_setCell {g : xG} (p1 : Nat) (p2 : Int32) (p3 : Int32) (p4 : Int32) (h : xH) (cl : Bool) (r : xH) (e : f_X1_setCell p1 p2 p3 p4 h = some r) : XM g DX1_setCell [.ref p1, .int p2, .int p3, .int p4] h cl (iV r) := YM.of rfl rfl (Nat.le_of_ble_eq_true rfl) (y_X1_setCell p1 p2 p3 p4 h) e
def f_X1_clear (a0 : Nat) (p1 : Int32) (p2 : Int32) (p3 : Int32) (h : xH) : Option (xH) :=
  (gR h 1 a0 0).bind fun v1 =>
  (f_X1_setCell v1 p1 p3 (-1 : Int32) h).bind fun h2 =>
  (gR h2 1 a0 1).bind fun v3 =>
  (f_X1_setCell v3 p2 p3 (-1 : Int32) h2).bind fun h4 =>
  some h4
theorem y_X1_clear {g : xG} {h0 : xH} {cl : Bool} (a0 : Nat) (p1 : Int32) (p2 : Int32) (p3 : Int32) (h : xH) : Y g DX1_clear h0 cl iV (f_X1_clear a0 p1 p2 p3 h) 0 [some (.ref a0), some (.int p1), some (.int p2), some (.int p3)] [] h := by
  unfold f_X1_clear
  refine Y.op (pc' := 1) (fun _ => X.aloadn rfl dX1_clear_0) ?_
  refine Y.getR fd_X1_9 rfl dX1_clear_1 (fun v1 => ?_)
  refine Y.op (pc' := 5) (fun _ => X.iloadn rfl dX1_clear_4) ?_
  refine Y.op (pc' := 6) (fun _ => X.iloadn rfl dX1_clear_5) ?_
  refine Y.op (pc' := 7) (fun _ => X.ic ki_m1 dX1_clear_6) ?_
  refine Y.callSv (As := [.ref v1, .int p1, .int p3, .int (-1 : Int32)]) lk_X1_69 rfl cal_X1_setCell sta_X1_setCell (Nat.le_of_ble_eq_true rfl) rfl rfl (Nat.le_of_ble_eq_true rfl) dX1_clear_7 (fun _ e => m_X1_setCell v1 p1 p3 (-1 : Int32) h _ _ e) (fun h2 => ?_)
  refine Y.op (pc' := 11) (fun _ => X.aloadn rfl dX1_clear_10) ?_
  refine Y.getR fd_X1_15 rfl dX1_clear_11 (fun v3 => ?_)
  refine Y.op (pc' := 15) (fun _ => X.iloadn rfl dX1_clear_14) ?_
  refine Y.op (pc' := 16) (fun _ => X.iloadn rfl dX1_clear_15) ?_
  refine Y.op (pc' := 17) (fun _ => X.ic ki_m1 dX1_clear_16) ?_
  refine Y.callSv (As := [.ref v3, .int p2, .int p3, .int (-1 : Int32)]) lk_X1_69 rfl cal_X1_setCell sta_X1_setCell (Nat.le_of_ble_eq_true rfl) rfl rfl (Nat.le_of_ble_eq_true rfl) dX1_clear_17 (fun _ e => m_X1_setCell v3 p2 p3 (-1 : Int32) h2 _ _ e) (fun h4 => ?_)
  exact Y.vreturn rfl dX1_clear_20
theorem m_X1_clear {g : xG} (a0 : Nat) (p1 : Int32) (p2 : Int32) (p3 : Int32) (h : xH) (cl : Bool) (r : xH) (e : f_X1_clear a0 p1 p2 p3 h = some r) : XM g DX1_clear [.ref a0, .int p1, .int p2, .int p3] h cl (iV r) := YM.of rfl rfl (Nat.le_of_ble_eq_true rfl) (y_X1_clear a0 p1 p2 p3 h) e
def f_X1_followChain_J101 (x4 : Int32) (h : xH) : Option (Int32 × xH) :=
  some (x4, h)
theorem y_X1_followChain_J101 {g : xG} {h0 : xH} {cl : Bool} (x4 : Int32) (h : xH) : Y g DX1_followChain h0 cl iI (f_X1_followChain_J101 x4 h) 101 [none, none, none, none, some (.int x4), none, none, none] [] h := by
  unfold f_X1_followChain_J101
  refine Y.op (pc' := 103) (fun _ => X.iload rfl dX1_followChain_101) ?_
  exact Y.ireturn rfl dX1_followChain_103
def f_X1_followChain_J95 (kH : Nat → Int32 → Int32 → Int32 → Int32 → Int32 → Int32 → xH → Option (Int32 × xH)) (kE101 : Int32 → xH → Option (Int32 × xH)) (x0 : Nat) (x2 : Int32) (x3 : Int32) (x4 : Int32) (x5 : Int32) (x6 : Int32) (x7 : Int32) (h : xH) : Option (Int32 × xH) :=
  lt (x7 + (1 : Int32)) fun v1 =>
  kH x0 x2 x3 x4 x5 x6 v1 h
theorem y_X1_followChain_J95 {g : xG} {h0 : xH} {cl : Bool} {kH : Nat → Int32 → Int32 → Int32 → Int32 → Int32 → Int32 → xH → Option (Int32 × xH)} {kE101 : Int32 → xH → Option (Int32 × xH)} (hkH : ∀ (x0 : Nat) (x2 : Int32) (x3 : Int32) (x4 : Int32) (x5 : Int32) (x6 : Int32) (x7 : Int32) (h : xH), Y g DX1_followChain h0 cl iI (kH x0 x2 x3 x4 x5 x6 x7 h) 21 [some (.ref x0), none, some (.int x2), some (.int x3), some (.int x4), some (.int x5), some (.int x6), some (.int x7)] [] h) (hkE101 : ∀ (x4 : Int32) (h : xH), Y g DX1_followChain h0 cl iI (kE101 x4 h) 101 [none, none, none, none, some (.int x4), none, none, none] [] h) (x0 : Nat) (x2 : Int32) (x3 : Int32) (x4 : Int32) (x5 : Int32) (x6 : Int32) (x7 : Int32) (h : xH) : Y g DX1_followChain h0 cl iI (f_X1_followChain_J95 kH kE101 x0 x2 x3 x4 x5 x6 x7 h) 95 [some (.ref x0), none, some (.int x2), some (.int x3), some (.int x4), some (.int x5), some (.int x6), some (.int x7)] [] h := by
  unfold f_X1_followChain_J95
  refine Y.iinc (i := 7) (loc' := fun v1 => [some (.ref x0), none, some (.int x2), some (.int x3), some (.int x4), some (.int x5), some (.int x6), some (.int v1)]) rfl (Nat.le_of_ble_eq_true rfl) ki_1 (fun _ => rfl) dX1_followChain_95 (fun v1 => ?_)
  refine Y.op (pc' := 21) (fun _ => X.goto 21 (by decide) dX1_followChain_98) ?_
  exact hkH x0 x2 x3 x4 x5 x6 v1 h
def f_X1_followChain_L21 (kE101 : Int32 → xH → Option (Int32 × xH)) : Nat → Nat → Int32 → Int32 → Int32 → Int32 → Int32 → Int32 → xH → Option (Int32 × xH)
  | 0 => fun _ _ _ _ _ _ _ _ => none
  | n + 1 => fun x0 x2 x3 x4 x5 x6 x7 h =>
    if x7 ≥ (24 : Int32) then
      kE101 x4 h
    else
      if x5 = (-1 : Int32) then
        kE101 x4 h
      else
        if x6 = (-1 : Int32) then
          kE101 x4 h
        else
          (gR h 1 x0 3).bind fun v1 =>
          (sI h v1 x7 x6).bind fun h2 =>
          (gR h2 1 x0 4).bind fun v3 =>
          (sI h2 v3 x7 x5).bind fun h4 =>
          lt (x4 + (1 : Int32)) fun v5 =>
          if (x7 - x7 / (2 : Int32) * (2 : Int32)) = (0 : Int32) then
            (gR h4 1 x0 0).bind fun v8 =>
            (f_X1_cellOf v8 x6 x3 h4).bind fun r9 =>
            f_X1_followChain_J95 (f_X1_followChain_L21 kE101 n) kE101 x0 x2 x3 v5 r9.1 x6 x7 r9.2
          else
            (gR h4 1 x0 1).bind fun v6 =>
            (f_X1_cellOf v6 x5 x2 h4).bind fun r7 =>
            f_X1_followChain_J95 (f_X1_followChain_L21 kE101 n) kE101 x0 x2 x3 v5 x5 r7.1 x7 r7.2
theorem y_X1_followChain_L21 {g : xG} {h0 : xH} {cl : Bool} {kE101 : Int32 → xH → Option (Int32 × xH)} (hkE101 : ∀ (x4 : Int32) (h : xH), Y g DX1_followChain h0 cl iI (kE101 x4 h) 101 [none, none, none, none, some (.int x4), none, none, none] [] h) : ∀ (n : Nat) (x0 : Nat) (x2 : Int32) (x3 : Int32) (x4 : Int32) (x5 : Int32) (x6 : Int32) (x7 : Int32) (h : xH), Y g DX1_followChain h0 cl iI (f_X1_followChain_L21 kE101 n x0 x2 x3 x4 x5 x6 x7 h) 21 [some (.ref x0), none, some (.int x2), some (.int x3), some (.int x4), some (.int x5), some (.int x6), some (.int x7)] [] h := by
  intro n
  induction n with
  | zero => intro x0 x2 x3 x4 x5 x6 x7 h; exact Y.nothing
  | succ n ih =>
    intro x0 x2 x3 x4 x5 x6 x7 h
    unfold f_X1_followChain_L21
    refine Y.op (pc' := 23) (fun _ => X.iload rfl dX1_followChain_21) ?_
    refine Y.op (pc' := 25) (fun _ => X.bp kb_24 dX1_followChain_23) ?_
    refine Y.cmpge 101 (by decide) dX1_followChain_25 ?_ ?_
    · exact Y.fg (hkE101 x4 h) (And.intro rfl trivial)
    · refine Y.op (pc' := 30) (fun _ => X.iload rfl dX1_followChain_28) ?_
      refine Y.op (pc' := 31) (fun _ => X.ic ki_m1 dX1_followChain_30) ?_
      refine Y.cmpeq 101 (by decide) dX1_followChain_31 ?_ ?_
      · exact Y.fg (hkE101 x4 h) (And.intro rfl trivial)
      · refine Y.op (pc' := 36) (fun _ => X.iload rfl dX1_followChain_34) ?_
        refine Y.op (pc' := 37) (fun _ => X.ic ki_m1 dX1_followChain_36) ?_
        refine Y.cmpeq 101 (by decide) dX1_followChain_37 ?_ ?_
        · exact Y.fg (hkE101 x4 h) (And.intro rfl trivial)
        · refine Y.op (pc' := 41) (fun _ => X.aloadn rfl dX1_followChain_40) ?_
          refine Y.getR fd_X1_21 rfl dX1_followChain_41 (fun v1 => ?_)
          refine Y.op (pc' := 46) (fun _ => X.iload rfl dX1_followChain_44) ?_
          refine Y.op (pc' := 48) (fun _ => X.iload rfl dX1_followChain_46) ?_
          refine Y.astI dX1_followChain_48 (fun h2 => ?_)
          refine Y.op (pc' := 50) (fun _ => X.aloadn rfl dX1_followChain_49) ?_
          refine Y.getR fd_X1_24 rfl dX1_followChain_50 (fun v3 => ?_)
          refine Y.op (pc' := 55) (fun _ => X.iload rfl dX1_followChain_53) ?_
          refine Y.op (pc' := 57) (fun _ => X.iload rfl dX1_followChain_55) ?_
          refine Y.astI dX1_followChain_57 (fun h4 => ?_)
          refine Y.iinc (i := 4) (loc' := fun v5 => [some (.ref x0), none, some (.int x2), some (.int x3), some (.int v5), some (.int x5), some (.int x6), some (.int x7)]) rfl (Nat.le_of_ble_eq_true rfl) ki_1 (fun _ => rfl) dX1_followChain_58 (fun v5 => ?_)
          refine Y.op (pc' := 63) (fun _ => X.iload rfl dX1_followChain_61) ?_
          refine Y.op (pc' := 64) (fun _ => X.ic ki_2 dX1_followChain_63) ?_
          refine Y.op (pc' := 65) (fun _ => X.irem (by decide) dX1_followChain_64) ?_
          refine Y.ifne 83 (by decide) dX1_followChain_65 ?_ ?_
          · refine Y.op (pc' := 84) (fun _ => X.aloadn rfl dX1_followChain_83) ?_
            refine Y.getR fd_X1_15 rfl dX1_followChain_84 (fun v6 => ?_)
            refine Y.op (pc' := 89) (fun _ => X.iload rfl dX1_followChain_87) ?_
            refine Y.op (pc' := 90) (fun _ => X.iloadn rfl dX1_followChain_89) ?_
            refine Y.callSi (As := [.ref v6, .int x5, .int x2]) lk_X1_50 rfl cal_X1_cellOf sta_X1_cellOf (Nat.le_of_ble_eq_true rfl) rfl rfl (Nat.le_of_ble_eq_true rfl) dX1_followChain_90 (fun _ e => m_X1_cellOf v6 x5 x2 h4 _ _ e) (fun r7 => ?_)
            refine Y.op (pc' := 95) (loc' := [some (.ref x0), none, some (.int x2), some (.int x3), some (.int v5), some (.int x5), some (.int r7.1), some (.int x7)]) (fun _ => X.istore (Nat.le_of_ble_eq_true rfl) rfl dX1_followChain_93) ?_
            exact y_X1_followChain_J95 ih hkE101 x0 x2 x3 v5 x5 r7.1 x7 r7.2
          · refine Y.op (pc' := 69) (fun _ => X.aloadn rfl dX1_followChain_68) ?_
            refine Y.getR fd_X1_9 rfl dX1_followChain_69 (fun v8 => ?_)
            refine Y.op (pc' := 74) (fun _ => X.iload rfl dX1_followChain_72) ?_
            refine Y.op (pc' := 75) (fun _ => X.iloadn rfl dX1_followChain_74) ?_
            refine Y.callSi (As := [.ref v8, .int x6, .int x3]) lk_X1_50 rfl cal_X1_cellOf sta_X1_cellOf (Nat.le_of_ble_eq_true rfl) rfl rfl (Nat.le_of_ble_eq_true rfl) dX1_followChain_75 (fun _ e => m_X1_cellOf v8 x6 x3 h4 _ _ e) (fun r9 => ?_)
            refine Y.op (pc' := 80) (loc' := [some (.ref x0), none, some (.int x2), some (.int x3), some (.int v5), some (.int r9.1), some (.int x6), some (.int x7)]) (fun _ => X.istore (Nat.le_of_ble_eq_true rfl) rfl dX1_followChain_78) ?_
            refine Y.op (pc' := 95) (fun _ => X.goto 95 (by decide) dX1_followChain_80) ?_
            exact y_X1_followChain_J95 ih hkE101 x0 x2 x3 v5 r9.1 x6 x7 r9.2
def f_X1_followChain (a0 : Nat) (p1 : Int32) (p2 : Int32) (p3 : Int32) (h : xH) : Option (Int32 × xH) :=
  (gR h 1 a0 1).bind fun v1 =>
  (f_X1_cellOf v1 p1 p2 h).bind fun r2 =>
  f_X1_followChain_L21 (f_X1_followChain_J101) 5000 a0 p2 p3 (0 : Int32) p1 r2.1 (0 : Int32) r2.2
theorem y_X1_followChain {g : xG} {h0 : xH} {cl : Bool} (a0 : Nat) (p1 : Int32) (p2 : Int32) (p3 : Int32) (h : xH) : Y g DX1_followChain h0 cl iI (f_X1_followChain a0 p1 p2 p3 h) 0 [some (.ref a0), some (.int p1), some (.int p2), some (.int p3), none, none, none, none] [] h := by
  unfold f_X1_followChain
  refine Y.op (pc' := 1) (fun _ => X.ic ki_0 dX1_followChain_0) ?_
  refine Y.op (pc' := 3) (loc' := [some (.ref a0), some (.int p1), some (.int p2), some (.int p3), some (.int (0 : Int32)), none, none, none]) (fun _ => X.istore (Nat.le_of_ble_eq_true rfl) rfl dX1_followChain_1) ?_
  refine Y.op (pc' := 4) (fun _ => X.iloadn rfl dX1_followChain_3) ?_
  refine Y.op (pc' := 6) (loc' := [some (.ref a0), some (.int p1), some (.int p2), some (.int p3), some (.int (0 : Int32)), some (.int p1), none, none]) (fun _ => X.istore (Nat.le_of_ble_eq_true rfl) rfl dX1_followChain_4) ?_
  refine Y.op (pc' := 7) (fun _ => X.aloadn rfl dX1_followChain_6) ?_
  refine Y.getR fd_X1_15 rfl dX1_followChain_7 (fun v1 => ?_)
  refine Y.op (pc' := 12) (fun _ => X.iload rfl dX1_followChain_10) ?_
  refine Y.op (pc' := 13) (fun _ => X.iloadn rfl dX1_followChain_12) ?_
  refine Y.callSi (As := [.ref v1, .int p1, .int p2]) lk_X1_50 rfl cal_X1_cellOf sta_X1_cellOf (Nat.le_of_ble_eq_true rfl) rfl rfl (Nat.le_of_ble_eq_true rfl) dX1_followChain_13 (fun _ e => m_X1_cellOf v1 p1 p2 h _ _ e) (fun r2 => ?_)
  refine Y.op (pc' := 18) (loc' := [some (.ref a0), some (.int p1), some (.int p2), some (.int p3), some (.int (0 : Int32)), some (.int p1), some (.int r2.1), none]) (fun _ => X.istore (Nat.le_of_ble_eq_true rfl) rfl dX1_followChain_16) ?_
  refine Y.op (pc' := 19) (fun _ => X.ic ki_0 dX1_followChain_18) ?_
  refine Y.op (pc' := 21) (loc' := [some (.ref a0), some (.int p1), some (.int p2), some (.int p3), some (.int (0 : Int32)), some (.int p1), some (.int r2.1), some (.int (0 : Int32))]) (fun _ => X.istore (Nat.le_of_ble_eq_true rfl) rfl dX1_followChain_19) ?_
  exact Y.fg (y_X1_followChain_L21 (y_X1_followChain_J101) 5000 a0 p2 p3 (0 : Int32) p1 r2.1 (0 : Int32) r2.2) (And.intro rfl (And.intro rfl (And.intro rfl (And.intro rfl (And.intro rfl (And.intro rfl (And.intro rfl trivial)))))))
theorem m_X1_followChain {g : xG} (a0 : Nat) (p1 : Int32) (p2 : Int32) (p3 : Int32) (h : xH) (cl : Bool) (r : Int32 × xH) (e : f_X1_followChain a0 p1 p2 p3 h = some r) : XM g DX1_followChain [.ref a0, .int p1, .int p2, .int p3] h cl (iI r) := YM.of rfl rfl (Nat.le_of_ble_eq_true rfl) (y_X1_followChain a0 p1 p2 p3 h) e
def f_X1_put (a0 : Nat) (p1 : Int32) (p2 : Int32) (p3 : Int32) (h : xH) : Option (xH) :=
  (gR h 1 a0 0).bind fun v1 =>
  (f_X1_setCell v1 p1 p3 p2 h).bind fun h2 =>
  (gR h2 1 a0 1).bind fun v3 =>
  (f_X1_setCell v3 p2 p3 p1 h2).bind fun h4 =>
  (gR h4 1 a0 2).bind fun v5 =>
  (f_X1_setCell v5 p1 p2 p3 h4).bind fun h6 =>
  (gI h6 1 a0 5).bind fun v7 =>
  (pI h6 1 a0 5 (imax v7 (p3 + (1 : Int32)))).bind fun h8 =>
  some h8
theorem y_X1_put {g : xG} {h0 : xH} {cl : Bool} (a0 : Nat) (p1 : Int32) (p2 : Int32) (p3 : Int32) (h : xH) : Y g DX1_put h0 cl iV (f_X1_put a0 p1 p2 p3 h) 0 [some (.ref a0), some (.int p1), some (.int p2), some (.int p3)] [] h := by
  unfold f_X1_put
  refine Y.op (pc' := 1) (fun _ => X.aloadn rfl dX1_put_0) ?_
  refine Y.getR fd_X1_9 rfl dX1_put_1 (fun v1 => ?_)
  refine Y.op (pc' := 5) (fun _ => X.iloadn rfl dX1_put_4) ?_
  refine Y.op (pc' := 6) (fun _ => X.iloadn rfl dX1_put_5) ?_
  refine Y.op (pc' := 7) (fun _ => X.iloadn rfl dX1_put_6) ?_
  refine Y.callSv (As := [.ref v1, .int p1, .int p3, .int p2]) lk_X1_69 rfl cal_X1_setCell sta_X1_setCell (Nat.le_of_ble_eq_true rfl) rfl rfl (Nat.le_of_ble_eq_true rfl) dX1_put_7 (fun _ e => m_X1_setCell v1 p1 p3 p2 h _ _ e) (fun h2 => ?_)
  refine Y.op (pc' := 11) (fun _ => X.aloadn rfl dX1_put_10) ?_
  refine Y.getR fd_X1_15 rfl dX1_put_11 (fun v3 => ?_)
  refine Y.op (pc' := 15) (fun _ => X.iloadn rfl dX1_put_14) ?_
  refine Y.op (pc' := 16) (fun _ => X.iloadn rfl dX1_put_15) ?_
  refine Y.op (pc' := 17) (fun _ => X.iloadn rfl dX1_put_16) ?_
  refine Y.callSv (As := [.ref v3, .int p2, .int p3, .int p1]) lk_X1_69 rfl cal_X1_setCell sta_X1_setCell (Nat.le_of_ble_eq_true rfl) rfl rfl (Nat.le_of_ble_eq_true rfl) dX1_put_17 (fun _ e => m_X1_setCell v3 p2 p3 p1 h2 _ _ e) (fun h4 => ?_)
  refine Y.op (pc' := 21) (fun _ => X.aloadn rfl dX1_put_20) ?_
  refine Y.getR fd_X1_18 rfl dX1_put_21 (fun v5 => ?_)
  refine Y.op (pc' := 25) (fun _ => X.iloadn rfl dX1_put_24) ?_
  refine Y.op (pc' := 26) (fun _ => X.iloadn rfl dX1_put_25) ?_
  refine Y.op (pc' := 27) (fun _ => X.iloadn rfl dX1_put_26) ?_
  refine Y.callSv (As := [.ref v5, .int p1, .int p2, .int p3]) lk_X1_69 rfl cal_X1_setCell sta_X1_setCell (Nat.le_of_ble_eq_true rfl) rfl rfl (Nat.le_of_ble_eq_true rfl) dX1_put_27 (fun _ e => m_X1_setCell v5 p1 p2 p3 h4 _ _ e) (fun h6 => ?_)
  refine Y.op (pc' := 31) (fun _ => X.aloadn rfl dX1_put_30) ?_
  refine Y.op (pc' := 32) (fun _ => X.aloadn rfl dX1_put_31) ?_
  refine Y.getI fd_X1_27 rfl dX1_put_32 (fun v7 => ?_)
  refine Y.op (pc' := 36) (fun _ => X.iloadn rfl dX1_put_35) ?_
  refine Y.op (pc' := 37) (fun _ => X.ic ki_1 dX1_put_36) ?_
  refine Y.op (pc' := 38) (fun _ => X.iadd dX1_put_37) ?_
  refine Y.mmax mw_X1_73 rfl (Nat.le_of_ble_eq_true rfl) (Nat.le_of_ble_eq_true rfl) dX1_put_38 ?_
  refine Y.putI fd_X1_27 rfl dX1_put_41 (fun h8 => ?_)
  exact Y.vreturn rfl dX1_put_44
theorem m_X1_put {g : xG} (a0 : Nat) (p1 : Int32) (p2 : Int32) (p3 : Int32) (h : xH) (cl : Bool) (r : xH) (e : f_X1_put a0 p1 p2 p3 h = some r) : XM g DX1_put [.ref a0, .int p1, .int p2, .int p3] h cl (iV r) := YM.of rfl rfl (Nat.le_of_ble_eq_true rfl) (y_X1_put a0 p1 p2 p3 h) e
def f_X1_change_J115 (h : xH) : Option (xH) :=
  some h
theorem y_X1_change_J115 {g : xG} {h0 : xH} {cl : Bool} (h : xH) : Y g DX1_change h0 cl iV (f_X1_change_J115 h) 115 [none, none, none, none, none, none] [] h := by
  unfold f_X1_change_J115
  exact Y.vreturn rfl dX1_change_115
def f_X1_change_J106 (kH : Nat → Int32 → Int32 → Int32 → Int32 → xH → Option (xH)) (kE115 : xH → Option (xH)) (x0 : Nat) (x2 : Int32) (x3 : Int32) (x4 : Int32) (x5 : Int32) (s0 : Nat) (s1 : Int32) (s2 : Int32) (s3 : Int32) (h : xH) : Option (xH) :=
  (vc h 1 s0 (f_X1_put s0 s1 s2 s3 h)).bind fun h1 =>
  lt (x5 + (1 : Int32)) fun v2 =>
  kH x0 x2 x3 x4 v2 h1
theorem y_X1_change_J106 {g : xG} {h0 : xH} {cl : Bool} {kH : Nat → Int32 → Int32 → Int32 → Int32 → xH → Option (xH)} {kE115 : xH → Option (xH)} (hkH : ∀ (x0 : Nat) (x2 : Int32) (x3 : Int32) (x4 : Int32) (x5 : Int32) (h : xH), Y g DX1_change h0 cl iV (kH x0 x2 x3 x4 x5 h) 65 [some (.ref x0), none, some (.int x2), some (.int x3), some (.int x4), some (.int x5)] [] h) (hkE115 : ∀  (h : xH), Y g DX1_change h0 cl iV (kE115  h) 115 [none, none, none, none, none, none] [] h) (x0 : Nat) (x2 : Int32) (x3 : Int32) (x4 : Int32) (x5 : Int32) (s0 : Nat) (s1 : Int32) (s2 : Int32) (s3 : Int32) (h : xH) : Y g DX1_change h0 cl iV (f_X1_change_J106 kH kE115 x0 x2 x3 x4 x5 s0 s1 s2 s3 h) 106 [some (.ref x0), none, some (.int x2), some (.int x3), some (.int x4), some (.int x5)] [.int s3, .int s2, .int s1, .ref s0] h := by
  unfold f_X1_change_J106
  refine Y.callVv (As := [.int s1, .int s2, .int s3]) lk_X1_66 rfl cal_X1_put vir_X1_put (Nat.le_of_ble_eq_true rfl) (Nat.le_of_ble_eq_true rfl) rfl rfl rfl (Nat.le_of_ble_eq_true rfl) dX1_change_106 (fun _ e => m_X1_put s0 s1 s2 s3 h _ _ e) (fun h1 => ?_)
  refine Y.iinc (i := 5) (loc' := fun v2 => [some (.ref x0), none, some (.int x2), some (.int x3), some (.int x4), some (.int v2)]) rfl (Nat.le_of_ble_eq_true rfl) ki_1 (fun _ => rfl) dX1_change_109 (fun v2 => ?_)
  refine Y.op (pc' := 65) (fun _ => X.goto 65 (by decide) dX1_change_112) ?_
  exact hkH x0 x2 x3 x4 v2 h1
def f_X1_change_L65 (kE115 : xH → Option (xH)) : Nat → Nat → Int32 → Int32 → Int32 → Int32 → xH → Option (xH)
  | 0 => fun _ _ _ _ _ _ => none
  | n + 1 => fun x0 x2 x3 x4 x5 h =>
    if x5 ≥ x4 then
      kE115 h
    else
      if x5 ≥ (24 : Int32) then
        kE115 h
      else
        (gR h 1 x0 3).bind fun v1 =>
        (aI h v1 x5).bind fun v2 =>
        (gR h 1 x0 4).bind fun v3 =>
        (aI h v3 x5).bind fun v4 =>
        if (x5 - x5 / (2 : Int32) * (2 : Int32)) = (0 : Int32) then
          f_X1_change_J106 (f_X1_change_L65 kE115 n) kE115 x0 x2 x3 x4 x5 x0 v2 v4 x3 h
        else
          f_X1_change_J106 (f_X1_change_L65 kE115 n) kE115 x0 x2 x3 x4 x5 x0 v2 v4 x2 h
theorem y_X1_change_L65 {g : xG} {h0 : xH} {cl : Bool} {kE115 : xH → Option (xH)} (hkE115 : ∀  (h : xH), Y g DX1_change h0 cl iV (kE115  h) 115 [none, none, none, none, none, none] [] h) : ∀ (n : Nat) (x0 : Nat) (x2 : Int32) (x3 : Int32) (x4 : Int32) (x5 : Int32) (h : xH), Y g DX1_change h0 cl iV (f_X1_change_L65 kE115 n x0 x2 x3 x4 x5 h) 65 [some (.ref x0), none, some (.int x2), some (.int x3), some (.int x4), some (.int x5)] [] h := by
  intro n
  induction n with
  | zero => intro x0 x2 x3 x4 x5 h; exact Y.nothing
  | succ n ih =>
    intro x0 x2 x3 x4 x5 h
    unfold f_X1_change_L65
    refine Y.op (pc' := 67) (fun _ => X.iload rfl dX1_change_65) ?_
    refine Y.op (pc' := 69) (fun _ => X.iload rfl dX1_change_67) ?_
    refine Y.cmpge 115 (by decide) dX1_change_69 ?_ ?_
    · exact Y.fg (hkE115 h) trivial
    · refine Y.op (pc' := 74) (fun _ => X.iload rfl dX1_change_72) ?_
      refine Y.op (pc' := 76) (fun _ => X.bp kb_24 dX1_change_74) ?_
      refine Y.cmpge 115 (by decide) dX1_change_76 ?_ ?_
      · exact Y.fg (hkE115 h) trivial
      · refine Y.op (pc' := 80) (fun _ => X.aloadn rfl dX1_change_79) ?_
        refine Y.op (pc' := 81) (fun _ => X.aloadn rfl dX1_change_80) ?_
        refine Y.getR fd_X1_21 rfl dX1_change_81 (fun v1 => ?_)
        refine Y.op (pc' := 86) (fun _ => X.iload rfl dX1_change_84) ?_
        refine Y.aldI dX1_change_86 (fun v2 => ?_)
        refine Y.op (pc' := 88) (fun _ => X.aloadn rfl dX1_change_87) ?_
        refine Y.getR fd_X1_24 rfl dX1_change_88 (fun v3 => ?_)
        refine Y.op (pc' := 93) (fun _ => X.iload rfl dX1_change_91) ?_
        refine Y.aldI dX1_change_93 (fun v4 => ?_)
        refine Y.op (pc' := 96) (fun _ => X.iload rfl dX1_change_94) ?_
        refine Y.op (pc' := 97) (fun _ => X.ic ki_2 dX1_change_96) ?_
        refine Y.op (pc' := 98) (fun _ => X.irem (by decide) dX1_change_97) ?_
        refine Y.ifne 105 (by decide) dX1_change_98 ?_ ?_
        · refine Y.op (pc' := 106) (fun _ => X.iloadn rfl dX1_change_105) ?_
          exact y_X1_change_J106 ih hkE115 x0 x2 x3 x4 x5 x0 v2 v4 x2 h
        · refine Y.op (pc' := 102) (fun _ => X.iloadn rfl dX1_change_101) ?_
          refine Y.op (pc' := 106) (fun _ => X.goto 106 (by decide) dX1_change_102) ?_
          exact y_X1_change_J106 ih hkE115 x0 x2 x3 x4 x5 x0 v2 v4 x3 h
def f_X1_change_J62 (x0 : Nat) (x2 : Int32) (x3 : Int32) (x4 : Int32) (h : xH) : Option (xH) :=
  f_X1_change_L65 (f_X1_change_J115) 5000 x0 x2 x3 x4 (0 : Int32) h
theorem y_X1_change_J62 {g : xG} {h0 : xH} {cl : Bool} (x0 : Nat) (x2 : Int32) (x3 : Int32) (x4 : Int32) (h : xH) : Y g DX1_change h0 cl iV (f_X1_change_J62 x0 x2 x3 x4 h) 62 [some (.ref x0), none, some (.int x2), some (.int x3), some (.int x4), none] [] h := by
  unfold f_X1_change_J62
  refine Y.op (pc' := 63) (fun _ => X.ic ki_0 dX1_change_62) ?_
  refine Y.op (pc' := 65) (loc' := [some (.ref x0), none, some (.int x2), some (.int x3), some (.int x4), some (.int (0 : Int32))]) (fun _ => X.istore (Nat.le_of_ble_eq_true rfl) rfl dX1_change_63) ?_
  exact y_X1_change_L65 (y_X1_change_J115) 5000 x0 x2 x3 x4 (0 : Int32) h
def f_X1_change_J53 (kH : Nat → Int32 → Int32 → Int32 → Int32 → xH → Option (xH)) (kE62 : Nat → Int32 → Int32 → Int32 → xH → Option (xH)) (x0 : Nat) (x2 : Int32) (x3 : Int32) (x4 : Int32) (x5 : Int32) (s0 : Nat) (s1 : Int32) (s2 : Int32) (s3 : Int32) (h : xH) : Option (xH) :=
  (vc h 1 s0 (f_X1_clear s0 s1 s2 s3 h)).bind fun h1 =>
  lt (x5 + (1 : Int32)) fun v2 =>
  kH x0 x2 x3 x4 v2 h1
theorem y_X1_change_J53 {g : xG} {h0 : xH} {cl : Bool} {kH : Nat → Int32 → Int32 → Int32 → Int32 → xH → Option (xH)} {kE62 : Nat → Int32 → Int32 → Int32 → xH → Option (xH)} (hkH : ∀ (x0 : Nat) (x2 : Int32) (x3 : Int32) (x4 : Int32) (x5 : Int32) (h : xH), Y g DX1_change h0 cl iV (kH x0 x2 x3 x4 x5 h) 12 [some (.ref x0), none, some (.int x2), some (.int x3), some (.int x4), some (.int x5)] [] h) (hkE62 : ∀ (x0 : Nat) (x2 : Int32) (x3 : Int32) (x4 : Int32) (h : xH), Y g DX1_change h0 cl iV (kE62 x0 x2 x3 x4 h) 62 [some (.ref x0), none, some (.int x2), some (.int x3), some (.int x4), none] [] h) (x0 : Nat) (x2 : Int32) (x3 : Int32) (x4 : Int32) (x5 : Int32) (s0 : Nat) (s1 : Int32) (s2 : Int32) (s3 : Int32) (h : xH) : Y g DX1_change h0 cl iV (f_X1_change_J53 kH kE62 x0 x2 x3 x4 x5 s0 s1 s2 s3 h) 53 [some (.ref x0), none, some (.int x2), some (.int x3), some (.int x4), some (.int x5)] [.int s3, .int s2, .int s1, .ref s0] h := by
  unfold f_X1_change_J53
  refine Y.callVv (As := [.int s1, .int s2, .int s3]) lk_X1_83 rfl cal_X1_clear vir_X1_clear (Nat.le_of_ble_eq_true rfl) (Nat.le_of_ble_eq_true rfl) rfl rfl rfl (Nat.le_of_ble_eq_true rfl) dX1_change_53 (fun _ e => m_X1_clear s0 s1 s2 s3 h _ _ e) (fun h1 => ?_)
  refine Y.iinc (i := 5) (loc' := fun v2 => [some (.ref x0), none, some (.int x2), some (.int x3), some (.int x4), some (.int v2)]) rfl (Nat.le_of_ble_eq_true rfl) ki_1 (fun _ => rfl) dX1_change_56 (fun v2 => ?_)
  refine Y.op (pc' := 12) (fun _ => X.goto 12 (by decide) dX1_change_59) ?_
  exact hkH x0 x2 x3 x4 v2 h1
def f_X1_change_L12 (kE62 : Nat → Int32 → Int32 → Int32 → xH → Option (xH)) : Nat → Nat → Int32 → Int32 → Int32 → Int32 → xH → Option (xH)
  | 0 => fun _ _ _ _ _ _ => none
  | n + 1 => fun x0 x2 x3 x4 x5 h =>
    if x5 ≥ x4 then
      kE62 x0 x2 x3 x4 h
    else
      if x5 ≥ (24 : Int32) then
        kE62 x0 x2 x3 x4 h
      else
        (gR h 1 x0 3).bind fun v1 =>
        (aI h v1 x5).bind fun v2 =>
        (gR h 1 x0 4).bind fun v3 =>
        (aI h v3 x5).bind fun v4 =>
        if (x5 - x5 / (2 : Int32) * (2 : Int32)) = (0 : Int32) then
          f_X1_change_J53 (f_X1_change_L12 kE62 n) kE62 x0 x2 x3 x4 x5 x0 v2 v4 x2 h
        else
          f_X1_change_J53 (f_X1_change_L12 kE62 n) kE62 x0 x2 x3 x4 x5 x0 v2 v4 x3 h
theorem y_X1_change_L12 {g : xG} {h0 : xH} {cl : Bool} {kE62 : Nat → Int32 → Int32 → Int32 → xH → Option (xH)} (hkE62 : ∀ (x0 : Nat) (x2 : Int32) (x3 : Int32) (x4 : Int32) (h : xH), Y g DX1_change h0 cl iV (kE62 x0 x2 x3 x4 h) 62 [some (.ref x0), none, some (.int x2), some (.int x3), some (.int x4), none] [] h) : ∀ (n : Nat) (x0 : Nat) (x2 : Int32) (x3 : Int32) (x4 : Int32) (x5 : Int32) (h : xH), Y g DX1_change h0 cl iV (f_X1_change_L12 kE62 n x0 x2 x3 x4 x5 h) 12 [some (.ref x0), none, some (.int x2), some (.int x3), some (.int x4), some (.int x5)] [] h := by
  intro n
  induction n with
  | zero => intro x0 x2 x3 x4 x5 h; exact Y.nothing
  | succ n ih =>
    intro x0 x2 x3 x4 x5 h
    unfold f_X1_change_L12
    refine Y.op (pc' := 14) (fun _ => X.iload rfl dX1_change_12) ?_
    refine Y.op (pc' := 16) (fun _ => X.iload rfl dX1_change_14) ?_
    refine Y.cmpge 62 (by decide) dX1_change_16 ?_ ?_
    · exact Y.fg (hkE62 x0 x2 x3 x4 h) (And.intro rfl (And.intro rfl (And.intro rfl (And.intro rfl trivial))))
    · refine Y.op (pc' := 21) (fun _ => X.iload rfl dX1_change_19) ?_
      refine Y.op (pc' := 23) (fun _ => X.bp kb_24 dX1_change_21) ?_
      refine Y.cmpge 62 (by decide) dX1_change_23 ?_ ?_
      · exact Y.fg (hkE62 x0 x2 x3 x4 h) (And.intro rfl (And.intro rfl (And.intro rfl (And.intro rfl trivial))))
      · refine Y.op (pc' := 27) (fun _ => X.aloadn rfl dX1_change_26) ?_
        refine Y.op (pc' := 28) (fun _ => X.aloadn rfl dX1_change_27) ?_
        refine Y.getR fd_X1_21 rfl dX1_change_28 (fun v1 => ?_)
        refine Y.op (pc' := 33) (fun _ => X.iload rfl dX1_change_31) ?_
        refine Y.aldI dX1_change_33 (fun v2 => ?_)
        refine Y.op (pc' := 35) (fun _ => X.aloadn rfl dX1_change_34) ?_
        refine Y.getR fd_X1_24 rfl dX1_change_35 (fun v3 => ?_)
        refine Y.op (pc' := 40) (fun _ => X.iload rfl dX1_change_38) ?_
        refine Y.aldI dX1_change_40 (fun v4 => ?_)
        refine Y.op (pc' := 43) (fun _ => X.iload rfl dX1_change_41) ?_
        refine Y.op (pc' := 44) (fun _ => X.ic ki_2 dX1_change_43) ?_
        refine Y.op (pc' := 45) (fun _ => X.irem (by decide) dX1_change_44) ?_
        refine Y.ifne 52 (by decide) dX1_change_45 ?_ ?_
        · refine Y.op (pc' := 53) (fun _ => X.iloadn rfl dX1_change_52) ?_
          exact y_X1_change_J53 ih hkE62 x0 x2 x3 x4 x5 x0 v2 v4 x3 h
        · refine Y.op (pc' := 49) (fun _ => X.iloadn rfl dX1_change_48) ?_
          refine Y.op (pc' := 53) (fun _ => X.goto 53 (by decide) dX1_change_49) ?_
          exact y_X1_change_J53 ih hkE62 x0 x2 x3 x4 x5 x0 v2 v4 x2 h
def f_X1_change (a0 : Nat) (p1 : Int32) (p2 : Int32) (p3 : Int32) (h : xH) : Option (xH) :=
  (vc h 1 a0 (f_X1_followChain a0 p1 p2 p3 h)).bind fun r1 =>
  f_X1_change_L12 (f_X1_change_J62) 5000 a0 p2 p3 r1.1 (0 : Int32) r1.2
theorem y_X1_change {g : xG} {h0 : xH} {cl : Bool} (a0 : Nat) (p1 : Int32) (p2 : Int32) (p3 : Int32) (h : xH) : Y g DX1_change h0 cl iV (f_X1_change a0 p1 p2 p3 h) 0 [some (.ref a0), some (.int p1), some (.int p2), some (.int p3), none, none] [] h := by
  unfold f_X1_change
  refine Y.op (pc' := 1) (fun _ => X.aloadn rfl dX1_change_0) ?_
  refine Y.op (pc' := 2) (fun _ => X.iloadn rfl dX1_change_1) ?_
  refine Y.op (pc' := 3) (fun _ => X.iloadn rfl dX1_change_2) ?_
  refine Y.op (pc' := 4) (fun _ => X.iloadn rfl dX1_change_3) ?_
  refine Y.callVi (As := [.int p1, .int p2, .int p3]) lk_X1_79 rfl cal_X1_followChain vir_X1_followChain (Nat.le_of_ble_eq_true rfl) (Nat.le_of_ble_eq_true rfl) rfl rfl rfl (Nat.le_of_ble_eq_true rfl) dX1_change_4 (fun _ e => m_X1_followChain a0 p1 p2 p3 h _ _ e) (fun r1 => ?_)
  refine Y.op (pc' := 9) (loc' := [some (.ref a0), some (.int p1), some (.int p2), some (.int p3), some (.int r1.1), none]) (fun _ => X.istore (Nat.le_of_ble_eq_true rfl) rfl dX1_change_7) ?_
  refine Y.op (pc' := 10) (fun _ => X.ic ki_0 dX1_change_9) ?_
  refine Y.op (pc' := 12) (loc' := [some (.ref a0), some (.int p1), some (.int p2), some (.int p3), some (.int r1.1), some (.int (0 : Int32))]) (fun _ => X.istore (Nat.le_of_ble_eq_true rfl) rfl dX1_change_10) ?_
  exact Y.fg (y_X1_change_L12 (y_X1_change_J62) 5000 a0 p2 p3 r1.1 (0 : Int32) r1.2) (And.intro rfl (And.intro rfl (And.intro rfl (And.intro rfl (And.intro rfl trivial)))))
theorem m_X1_change {g : xG} (a0 : Nat) (p1 : Int32) (p2 : Int32) (p3 : Int32) (h : xH) (cl : Bool) (r : xH) (e : f_X1_change a0 p1 p2 p3 h = some r) : XM g DX1_change [.ref a0, .int p1, .int p2, .int p3] h cl (iV r) := YM.of rfl rfl (Nat.le_of_ble_eq_true rfl) (y_X1_change a0 p1 p2 p3 h) e
def f_X1_leastLeft_J26 (h : xH) : Option (Int32 × xH) :=
  some ((-1 : Int32), h)
theorem y_X1_leastLeft_J26 {g : xG} {h0 : xH} {cl : Bool} (h : xH) : Y g DX1_leastLeft h0 cl iI (f_X1_leastLeft_J26 h) 26 [none, none, none] [] h := by
  unfold f_X1_leastLeft_J26
  refine Y.op (pc' := 27) (fun _ => X.ic ki_m1 dX1_leastLeft_26) ?_
  exact Y.ireturn rfl dX1_leastLeft_27
def f_X1_leastLeft_J18 (x2 : Int32) (h : xH) : Option (Int32 × xH) :=
  some (x2, h)
theorem y_X1_leastLeft_J18 {g : xG} {h0 : xH} {cl : Bool} (x2 : Int32) (h : xH) : Y g DX1_leastLeft h0 cl iI (f_X1_leastLeft_J18 x2 h) 18 [none, none, some (.int x2)] [] h := by
  unfold f_X1_leastLeft_J18
  refine Y.op (pc' := 19) (fun _ => X.iloadn rfl dX1_leastLeft_18) ?_
  exact Y.ireturn rfl dX1_leastLeft_19
def f_X1_leastLeft_L2 (kE18 : Int32 → xH → Option (Int32 × xH)) (kE26 : xH → Option (Int32 × xH)) : Nat → Nat → Int32 → Int32 → xH → Option (Int32 × xH)
  | 0 => fun _ _ _ _ => none
  | n + 1 => fun x0 x1 x2 h =>
    if x2 ≥ (12 : Int32) then
      kE26 h
    else
      (f_X1_cellOf x0 x1 x2 h).bind fun r1 =>
      if r1.1 = (-1 : Int32) then
        kE18 x2 r1.2
      else
        lt (x2 + (1 : Int32)) fun v2 =>
        f_X1_leastLeft_L2 kE18 kE26 n x0 x1 v2 r1.2
theorem y_X1_leastLeft_L2 {g : xG} {h0 : xH} {cl : Bool} {kE18 : Int32 → xH → Option (Int32 × xH)} {kE26 : xH → Option (Int32 × xH)} (hkE18 : ∀ (x2 : Int32) (h : xH), Y g DX1_leastLeft h0 cl iI (kE18 x2 h) 18 [none, none, some (.int x2)] [] h) (hkE26 : ∀  (h : xH), Y g DX1_leastLeft h0 cl iI (kE26  h) 26 [none, none, none] [] h) : ∀ (n : Nat) (x0 : Nat) (x1 : Int32) (x2 : Int32) (h : xH), Y g DX1_leastLeft h0 cl iI (f_X1_leastLeft_L2 kE18 kE26 n x0 x1 x2 h) 2 [some (.ref x0), some (.int x1), some (.int x2)] [] h := by
  intro n
  induction n with
  | zero => intro x0 x1 x2 h; exact Y.nothing
  | succ n ih =>
    intro x0 x1 x2 h
    unfold f_X1_leastLeft_L2
    refine Y.op (pc' := 3) (fun _ => X.iloadn rfl dX1_leastLeft_2) ?_
    refine Y.op (pc' := 5) (fun _ => X.bp kb_12 dX1_leastLeft_3) ?_
    refine Y.cmpge 26 (by decide) dX1_leastLeft_5 ?_ ?_
    · exact Y.fg (hkE26 h) trivial
    · refine Y.op (pc' := 9) (fun _ => X.aloadn rfl dX1_leastLeft_8) ?_
      refine Y.op (pc' := 10) (fun _ => X.iloadn rfl dX1_leastLeft_9) ?_
      refine Y.op (pc' := 11) (fun _ => X.iloadn rfl dX1_leastLeft_10) ?_
      refine Y.callSi (As := [.ref x0, .int x1, .int x2]) lk_X1_50 rfl cal_X1_cellOf sta_X1_cellOf (Nat.le_of_ble_eq_true rfl) rfl rfl (Nat.le_of_ble_eq_true rfl) dX1_leastLeft_11 (fun _ e => m_X1_cellOf x0 x1 x2 h _ _ e) (fun r1 => ?_)
      refine Y.op (pc' := 15) (fun _ => X.ic ki_m1 dX1_leastLeft_14) ?_
      refine Y.cmpne 20 (by decide) dX1_leastLeft_15 ?_ ?_
      · refine Y.iinc (i := 2) (loc' := fun v2 => [some (.ref x0), some (.int x1), some (.int v2)]) rfl (Nat.le_of_ble_eq_true rfl) ki_1 (fun _ => rfl) dX1_leastLeft_20 (fun v2 => ?_)
        refine Y.op (pc' := 2) (fun _ => X.goto 2 (by decide) dX1_leastLeft_23) ?_
        exact ih x0 x1 v2 r1.2
      · exact Y.fg (hkE18 x2 r1.2) (And.intro rfl trivial)
def f_X1_leastLeft (p1 : Nat) (p2 : Int32) (h : xH) : Option (Int32 × xH) :=
  f_X1_leastLeft_L2 (f_X1_leastLeft_J18) (f_X1_leastLeft_J26) 5000 p1 p2 (0 : Int32) h
theorem y_X1_leastLeft {g : xG} {h0 : xH} {cl : Bool} (p1 : Nat) (p2 : Int32) (h : xH) : Y g DX1_leastLeft h0 cl iI (f_X1_leastLeft p1 p2 h) 0 [some (.ref p1), some (.int p2), none] [] h := by
  unfold f_X1_leastLeft
  refine Y.op (pc' := 1) (fun _ => X.ic ki_0 dX1_leastLeft_0) ?_
  refine Y.op (pc' := 2) (loc' := [some (.ref p1), some (.int p2), some (.int (0 : Int32))]) (fun _ => X.istoren (Nat.le_of_ble_eq_true rfl) rfl dX1_leastLeft_1) ?_
  exact y_X1_leastLeft_L2 (y_X1_leastLeft_J18) (y_X1_leastLeft_J26) 5000 p1 p2 (0 : Int32) h
theorem m_X1_leastLeft {g : xG} (p1 : Nat) (p2 : Int32) (h : xH) (cl : Bool) (r : Int32 × xH) (e : f_X1_leastLeft p1 p2 h = some r) : XM g DX1_leastLeft [.ref p1, .int p2] h cl (iI r) := YM.of rfl rfl (Nat.le_of_ble_eq_true rfl) (y_X1_leastLeft p1 p2 h) e
