def f_X5_look_J116 (h : xH) : Option (xH) :=
  some h
theorem y_X5_look_J116 {g : xG} {h0 : xH} {cl : Bool} (h : xH) : Y g DX5_look h0 cl iV (f_X5_look_J116 h) 116 [none, none, none, none] [] h := by
  unfold f_X5_look_J116
  exact Y.vreturn rfl dX5_look_116
def f_X5_look_J107 (h : xH) : Option (xH) :=
  f_X5_look_J116 h
theorem y_X5_look_J107 {g : xG} {h0 : xH} {cl : Bool} (h : xH) : Y g DX5_look h0 cl iV (f_X5_look_J107 h) 107 [none, none, none, none] [] h := by
  unfold f_X5_look_J107
  refine Y.op (pc' := 116) (fun _ => X.goto 116 (by decide) dX5_look_107) ?_
  exact y_X5_look_J116 h
def f_X5_look_L83 (kE107 : xH → Option (xH)) (kE116 : xH → Option (xH)) : Nat → Nat → Nat → Int32 → xH → Option (xH)
  | 0 => fun _ _ _ _ => none
  | n + 1 => fun x0 x1 x2 h =>
    if x2 ≥ (12 : Int32) then
      kE116 h
    else
      (gI h 5 x0 3).bind fun v1 =>
      (vc h 5 x0 (f_X5_lookBack x0 x1 h)).bind fun h2 =>
      (gI h2 5 x0 3).bind fun v3 =>
      if v3 = v1 then
        kE107 h2
      else
        lt (x2 + (1 : Int32)) fun v4 =>
        f_X5_look_L83 kE107 kE116 n x0 x1 v4 h2
theorem y_X5_look_L83 {g : xG} {h0 : xH} {cl : Bool} {kE107 : xH → Option (xH)} {kE116 : xH → Option (xH)} (hkE107 : ∀  (h : xH), Y g DX5_look h0 cl iV (kE107  h) 107 [none, none, none, none] [] h) (hkE116 : ∀  (h : xH), Y g DX5_look h0 cl iV (kE116  h) 116 [none, none, none, none] [] h) : ∀ (n : Nat) (x0 : Nat) (x1 : Nat) (x2 : Int32) (h : xH), Y g DX5_look h0 cl iV (f_X5_look_L83 kE107 kE116 n x0 x1 x2 h) 83 [some (.ref x0), some (.ref x1), some (.int x2), none] [] h := by
  intro n
  induction n with
  | zero => intro x0 x1 x2 h; exact Y.nothing
  | succ n ih =>
    intro x0 x1 x2 h
    unfold f_X5_look_L83
    refine Y.op (pc' := 84) (fun _ => X.iloadn rfl dX5_look_83) ?_
    refine Y.op (pc' := 86) (fun _ => X.bp kb_12 dX5_look_84) ?_
    refine Y.cmpge 116 (by decide) dX5_look_86 ?_ ?_
    · exact Y.fg (hkE116 h) trivial
    · refine Y.op (pc' := 90) (fun _ => X.aloadn rfl dX5_look_89) ?_
      refine Y.getI fd_X5_21 rfl dX5_look_90 (fun v1 => ?_)
      refine Y.op (pc' := 94) (loc' := [some (.ref x0), some (.ref x1), some (.int x2), some (.int v1)]) (fun _ => X.istoren (Nat.le_of_ble_eq_true rfl) rfl dX5_look_93) ?_
      refine Y.op (pc' := 95) (fun _ => X.aloadn rfl dX5_look_94) ?_
      refine Y.op (pc' := 96) (fun _ => X.aloadn rfl dX5_look_95) ?_
      refine Y.callVv (As := [.ref x1]) lk_X5_53 rfl cal_X5_lookBack vir_X5_lookBack (Nat.le_of_ble_eq_true rfl) (Nat.le_of_ble_eq_true rfl) rfl rfl rfl (Nat.le_of_ble_eq_true rfl) dX5_look_96 (fun _ e => m_X5_lookBack x0 x1 h _ _ e) (fun h2 => ?_)
      refine Y.op (pc' := 100) (fun _ => X.aloadn rfl dX5_look_99) ?_
      refine Y.getI fd_X5_21 rfl dX5_look_100 (fun v3 => ?_)
      refine Y.op (pc' := 104) (fun _ => X.iloadn rfl dX5_look_103) ?_
      refine Y.cmpne 110 (by decide) dX5_look_104 ?_ ?_
      · refine Y.iinc (i := 2) (loc' := fun v4 => [some (.ref x0), some (.ref x1), some (.int v4), some (.int v1)]) rfl (Nat.le_of_ble_eq_true rfl) ki_1 (fun _ => rfl) dX5_look_110 (fun v4 => ?_)
        refine Y.op (pc' := 83) (fun _ => X.goto 83 (by decide) dX5_look_113) ?_
        exact Y.fg (ih x0 x1 v4 h2) (And.intro rfl (And.intro rfl (And.intro rfl trivial)))
      · exact Y.fg (hkE107 h2) trivial
def f_X5_look_J58 (x0 : Nat) (x1 : Nat) (h : xH) : Option (xH) :=
  (gI h 7 x1 9).bind fun v1 =>
  (gR h 7 x1 0).bind fun v2 =>
  (vc h 3 v2 (f_X3_tasksIn v2 h)).bind fun r3 =>
  (pI r3.2 5 x0 3 (v1 &&& (r3.1 ^^^ (-1 : Int32)))).bind fun h4 =>
  (pI h4 5 x0 2 (0 : Int32)).bind fun h5 =>
  f_X5_look_L83 (f_X5_look_J107) (f_X5_look_J116) 5000 x0 x1 (0 : Int32) h5
theorem y_X5_look_J58 {g : xG} {h0 : xH} {cl : Bool} (x0 : Nat) (x1 : Nat) (h : xH) : Y g DX5_look h0 cl iV (f_X5_look_J58 x0 x1 h) 58 [some (.ref x0), some (.ref x1), none, none] [] h := by
  unfold f_X5_look_J58
  refine Y.op (pc' := 59) (fun _ => X.aloadn rfl dX5_look_58) ?_
  refine Y.op (pc' := 60) (fun _ => X.aloadn rfl dX5_look_59) ?_
  refine Y.getI fd_X5_47 rfl dX5_look_60 (fun v1 => ?_)
  refine Y.op (pc' := 64) (fun _ => X.aloadn rfl dX5_look_63) ?_
  refine Y.getR fd_X5_33 rfl dX5_look_64 (fun v2 => ?_)
  refine Y.callVi (As := []) lk_X5_50 rfl cal_X3_tasksIn vir_X3_tasksIn (Nat.le_of_ble_eq_true rfl) (Nat.le_of_ble_eq_true rfl) rfl rfl rfl (Nat.le_of_ble_eq_true rfl) dX5_look_67 (fun _ e => m_X3_tasksIn v2 h _ _ e) (fun r3 => ?_)
  refine Y.op (pc' := 71) (fun _ => X.ic ki_m1 dX5_look_70) ?_
  refine Y.op (pc' := 72) (fun _ => X.ixor dX5_look_71) ?_
  refine Y.op (pc' := 73) (fun _ => X.iand dX5_look_72) ?_
  refine Y.putI fd_X5_21 rfl dX5_look_73 (fun h4 => ?_)
  refine Y.op (pc' := 77) (fun _ => X.aloadn rfl dX5_look_76) ?_
  refine Y.op (pc' := 78) (fun _ => X.ic ki_0 dX5_look_77) ?_
  refine Y.putI fd_X5_18 rfl dX5_look_78 (fun h5 => ?_)
  refine Y.op (pc' := 82) (fun _ => X.ic ki_0 dX5_look_81) ?_
  refine Y.op (pc' := 83) (loc' := [some (.ref x0), some (.ref x1), some (.int (0 : Int32)), none]) (fun _ => X.istoren (Nat.le_of_ble_eq_true rfl) rfl dX5_look_82) ?_
  exact y_X5_look_L83 (y_X5_look_J107) (y_X5_look_J116) 5000 x0 x1 (0 : Int32) h5
def f_X5_look_J49 (x0 : Nat) (x1 : Nat) (h : xH) : Option (xH) :=
  f_X5_look_J58 x0 x1 h
theorem y_X5_look_J49 {g : xG} {h0 : xH} {cl : Bool} (x0 : Nat) (x1 : Nat) (h : xH) : Y g DX5_look h0 cl iV (f_X5_look_J49 x0 x1 h) 49 [some (.ref x0), some (.ref x1), none, none] [] h := by
  unfold f_X5_look_J49
  refine Y.op (pc' := 58) (fun _ => X.goto 58 (by decide) dX5_look_49) ?_
  exact y_X5_look_J58 x0 x1 h
def f_X5_look_L25 (kE49 : Nat → Nat → xH → Option (xH)) (kE58 : Nat → Nat → xH → Option (xH)) : Nat → Nat → Nat → Int32 → xH → Option (xH)
  | 0 => fun _ _ _ _ => none
  | n + 1 => fun x0 x1 x2 h =>
    if x2 ≥ (12 : Int32) then
      kE58 x0 x1 h
    else
      (gI h 5 x0 0).bind fun v1 =>
      (vc h 5 x0 (f_X5_lookOn x0 x1 h)).bind fun h2 =>
      (gI h2 5 x0 0).bind fun v3 =>
      if v3 = v1 then
        kE49 x0 x1 h2
      else
        lt (x2 + (1 : Int32)) fun v4 =>
        f_X5_look_L25 kE49 kE58 n x0 x1 v4 h2
theorem y_X5_look_L25 {g : xG} {h0 : xH} {cl : Bool} {kE49 : Nat → Nat → xH → Option (xH)} {kE58 : Nat → Nat → xH → Option (xH)} (hkE49 : ∀ (x0 : Nat) (x1 : Nat) (h : xH), Y g DX5_look h0 cl iV (kE49 x0 x1 h) 49 [some (.ref x0), some (.ref x1), none, none] [] h) (hkE58 : ∀ (x0 : Nat) (x1 : Nat) (h : xH), Y g DX5_look h0 cl iV (kE58 x0 x1 h) 58 [some (.ref x0), some (.ref x1), none, none] [] h) : ∀ (n : Nat) (x0 : Nat) (x1 : Nat) (x2 : Int32) (h : xH), Y g DX5_look h0 cl iV (f_X5_look_L25 kE49 kE58 n x0 x1 x2 h) 25 [some (.ref x0), some (.ref x1), some (.int x2), none] [] h := by
  intro n
  induction n with
  | zero => intro x0 x1 x2 h; exact Y.nothing
  | succ n ih =>
    intro x0 x1 x2 h
    unfold f_X5_look_L25
    refine Y.op (pc' := 26) (fun _ => X.iloadn rfl dX5_look_25) ?_
    refine Y.op (pc' := 28) (fun _ => X.bp kb_12 dX5_look_26) ?_
    refine Y.cmpge 58 (by decide) dX5_look_28 ?_ ?_
    · exact Y.fg (hkE58 x0 x1 h) (And.intro rfl (And.intro rfl trivial))
    · refine Y.op (pc' := 32) (fun _ => X.aloadn rfl dX5_look_31) ?_
      refine Y.getI fd_X5_9 rfl dX5_look_32 (fun v1 => ?_)
      refine Y.op (pc' := 36) (loc' := [some (.ref x0), some (.ref x1), some (.int x2), some (.int v1)]) (fun _ => X.istoren (Nat.le_of_ble_eq_true rfl) rfl dX5_look_35) ?_
      refine Y.op (pc' := 37) (fun _ => X.aloadn rfl dX5_look_36) ?_
      refine Y.op (pc' := 38) (fun _ => X.aloadn rfl dX5_look_37) ?_
      refine Y.callVv (As := [.ref x1]) lk_X5_43 rfl cal_X5_lookOn vir_X5_lookOn (Nat.le_of_ble_eq_true rfl) (Nat.le_of_ble_eq_true rfl) rfl rfl rfl (Nat.le_of_ble_eq_true rfl) dX5_look_38 (fun _ e => m_X5_lookOn x0 x1 h _ _ e) (fun h2 => ?_)
      refine Y.op (pc' := 42) (fun _ => X.aloadn rfl dX5_look_41) ?_
      refine Y.getI fd_X5_9 rfl dX5_look_42 (fun v3 => ?_)
      refine Y.op (pc' := 46) (fun _ => X.iloadn rfl dX5_look_45) ?_
      refine Y.cmpne 52 (by decide) dX5_look_46 ?_ ?_
      · refine Y.iinc (i := 2) (loc' := fun v4 => [some (.ref x0), some (.ref x1), some (.int v4), some (.int v1)]) rfl (Nat.le_of_ble_eq_true rfl) ki_1 (fun _ => rfl) dX5_look_52 (fun v4 => ?_)
        refine Y.op (pc' := 25) (fun _ => X.goto 25 (by decide) dX5_look_55) ?_
        exact Y.fg (ih x0 x1 v4 h2) (And.intro rfl (And.intro rfl (And.intro rfl trivial)))
      · exact Y.fg (hkE49 x0 x1 h2) (And.intro rfl (And.intro rfl trivial))
def f_X5_look (a0 : Nat) (p1 : Nat) (h : xH) : Option (xH) :=
  (gI h 7 p1 8).bind fun v1 =>
  (gR h 7 p1 0).bind fun v2 =>
  (vc h 3 v2 (f_X3_workersIn v2 h)).bind fun r3 =>
  (pI r3.2 5 a0 0 (v1 &&& (r3.1 ^^^ (-1 : Int32)))).bind fun h4 =>
  (pI h4 5 a0 1 (0 : Int32)).bind fun h5 =>
  f_X5_look_L25 (f_X5_look_J49) (f_X5_look_J58) 5000 a0 p1 (0 : Int32) h5
theorem y_X5_look {g : xG} {h0 : xH} {cl : Bool} (a0 : Nat) (p1 : Nat) (h : xH) : Y g DX5_look h0 cl iV (f_X5_look a0 p1 h) 0 [some (.ref a0), some (.ref p1), none, none] [] h := by
  unfold f_X5_look
  refine Y.op (pc' := 1) (fun _ => X.aloadn rfl dX5_look_0) ?_
  refine Y.op (pc' := 2) (fun _ => X.aloadn rfl dX5_look_1) ?_
  refine Y.getI fd_X5_28 rfl dX5_look_2 (fun v1 => ?_)
  refine Y.op (pc' := 6) (fun _ => X.aloadn rfl dX5_look_5) ?_
  refine Y.getR fd_X5_33 rfl dX5_look_6 (fun v2 => ?_)
  refine Y.callVi (As := []) lk_X5_37 rfl cal_X3_workersIn vir_X3_workersIn (Nat.le_of_ble_eq_true rfl) (Nat.le_of_ble_eq_true rfl) rfl rfl rfl (Nat.le_of_ble_eq_true rfl) dX5_look_9 (fun _ e => m_X3_workersIn v2 h _ _ e) (fun r3 => ?_)
  refine Y.op (pc' := 13) (fun _ => X.ic ki_m1 dX5_look_12) ?_
  refine Y.op (pc' := 14) (fun _ => X.ixor dX5_look_13) ?_
  refine Y.op (pc' := 15) (fun _ => X.iand dX5_look_14) ?_
  refine Y.putI fd_X5_9 rfl dX5_look_15 (fun h4 => ?_)
  refine Y.op (pc' := 19) (fun _ => X.aloadn rfl dX5_look_18) ?_
  refine Y.op (pc' := 20) (fun _ => X.ic ki_0 dX5_look_19) ?_
  refine Y.putI fd_X5_15 rfl dX5_look_20 (fun h5 => ?_)
  refine Y.op (pc' := 24) (fun _ => X.ic ki_0 dX5_look_23) ?_
  refine Y.op (pc' := 25) (loc' := [some (.ref a0), some (.ref p1), some (.int (0 : Int32)), none]) (fun _ => X.istoren (Nat.le_of_ble_eq_true rfl) rfl dX5_look_24) ?_
  exact y_X5_look_L25 (y_X5_look_J49) (y_X5_look_J58) 5000 a0 p1 (0 : Int32) h5
theorem m_X5_look {g : xG} (a0 : Nat) (p1 : Nat) (h : xH) (cl : Bool) (r : xH) (e : f_X5_look a0 p1 h = some r) : XM g DX5_look [.ref a0, .ref p1] h cl (iV r) := YM.of rfl rfl (Nat.le_of_ble_eq_true rfl) (y_X5_look a0 p1 h) e
def f_X5_close_J175 (h : xH) : Option (xH) :=
  some h
theorem y_X5_close_J175 {g : xG} {h0 : xH} {cl : Bool} (h : xH) : Y g DX5_close h0 cl iV (f_X5_close_J175 h) 175 [none, none, none, none, none, none, none] [] h := by
  unfold f_X5_close_J175
  exact Y.vreturn rfl dX5_close_175
def f_X5_close_J169 (kH : Nat → Int32 → xH → Option (xH)) (kE175 : xH → Option (xH)) (x0 : Nat) (x2 : Int32) (h : xH) : Option (xH) :=
  lt (x2 + (1 : Int32)) fun v1 =>
  kH x0 v1 h
theorem y_X5_close_J169 {g : xG} {h0 : xH} {cl : Bool} {kH : Nat → Int32 → xH → Option (xH)} {kE175 : xH → Option (xH)} (hkH : ∀ (x0 : Nat) (x2 : Int32) (h : xH), Y g DX5_close h0 cl iV (kH x0 x2 h) 121 [some (.ref x0), none, some (.int x2), none, none, none, none] [] h) (hkE175 : ∀  (h : xH), Y g DX5_close h0 cl iV (kE175  h) 175 [none, none, none, none, none, none, none] [] h) (x0 : Nat) (x2 : Int32) (h : xH) : Y g DX5_close h0 cl iV (f_X5_close_J169 kH kE175 x0 x2 h) 169 [some (.ref x0), none, some (.int x2), none, none, none, none] [] h := by
  unfold f_X5_close_J169
  refine Y.iinc (i := 2) (loc' := fun v1 => [some (.ref x0), none, some (.int v1), none, none, none, none]) rfl (Nat.le_of_ble_eq_true rfl) ki_1 (fun _ => rfl) dX5_close_169 (fun v1 => ?_)
  refine Y.op (pc' := 121) (fun _ => X.goto 121 (by decide) dX5_close_172) ?_
  exact hkH x0 v1 h
def f_X5_close_J163 (kH : Nat → Int32 → Int32 → xH → Option (xH)) (kE169 : Nat → Int32 → xH → Option (xH)) (x0 : Nat) (x2 : Int32) (x3 : Int32) (h : xH) : Option (xH) :=
  lt (x3 + (1 : Int32)) fun v1 =>
  kH x0 x2 v1 h
theorem y_X5_close_J163 {g : xG} {h0 : xH} {cl : Bool} {kH : Nat → Int32 → Int32 → xH → Option (xH)} {kE169 : Nat → Int32 → xH → Option (xH)} (hkH : ∀ (x0 : Nat) (x2 : Int32) (x3 : Int32) (h : xH), Y g DX5_close h0 cl iV (kH x0 x2 x3 h) 129 [some (.ref x0), none, some (.int x2), some (.int x3), none, none, none] [] h) (hkE169 : ∀ (x0 : Nat) (x2 : Int32) (h : xH), Y g DX5_close h0 cl iV (kE169 x0 x2 h) 169 [some (.ref x0), none, some (.int x2), none, none, none, none] [] h) (x0 : Nat) (x2 : Int32) (x3 : Int32) (h : xH) : Y g DX5_close h0 cl iV (f_X5_close_J163 kH kE169 x0 x2 x3 h) 163 [some (.ref x0), none, some (.int x2), some (.int x3), none, none, none] [] h := by
  unfold f_X5_close_J163
  refine Y.iinc (i := 3) (loc' := fun v1 => [some (.ref x0), none, some (.int x2), some (.int v1), none, none, none]) rfl (Nat.le_of_ble_eq_true rfl) ki_1 (fun _ => rfl) dX5_close_163 (fun v1 => ?_)
  refine Y.op (pc' := 129) (fun _ => X.goto 129 (by decide) dX5_close_166) ?_
  exact hkH x0 x2 v1 h
def f_X5_close_L129 (kE169 : Nat → Int32 → xH → Option (xH)) : Nat → Nat → Int32 → Int32 → xH → Option (xH)
  | 0 => fun _ _ _ _ => none
  | n + 1 => fun x0 x2 x3 h =>
    if x3 ≥ (12 : Int32) then
      kE169 x0 x2 h
    else
      (gR h 5 x0 4).bind fun v1 =>
      (aI h v1 x3).bind fun v2 =>
      (f_X9_has v2 x2 h).bind fun r3 =>
      if r3.1 = (0 : Int32) then
        f_X5_close_J163 (f_X5_close_L129 kE169 n) kE169 x0 x2 x3 r3.2
      else
        (gR r3.2 5 x0 4).bind fun v4 =>
        (aI r3.2 v4 x3).bind fun v5 =>
        (gR r3.2 5 x0 4).bind fun v6 =>
        (aI r3.2 v6 x2).bind fun v7 =>
        (sI r3.2 v4 x3 (v5 ||| v7)).bind fun h8 =>
        f_X5_close_J163 (f_X5_close_L129 kE169 n) kE169 x0 x2 x3 h8
theorem y_X5_close_L129 {g : xG} {h0 : xH} {cl : Bool} {kE169 : Nat → Int32 → xH → Option (xH)} (hkE169 : ∀ (x0 : Nat) (x2 : Int32) (h : xH), Y g DX5_close h0 cl iV (kE169 x0 x2 h) 169 [some (.ref x0), none, some (.int x2), none, none, none, none] [] h) : ∀ (n : Nat) (x0 : Nat) (x2 : Int32) (x3 : Int32) (h : xH), Y g DX5_close h0 cl iV (f_X5_close_L129 kE169 n x0 x2 x3 h) 129 [some (.ref x0), none, some (.int x2), some (.int x3), none, none, none] [] h := by
  intro n
  induction n with
  | zero => intro x0 x2 x3 h; exact Y.nothing
  | succ n ih =>
    intro x0 x2 x3 h
    unfold f_X5_close_L129
    refine Y.op (pc' := 130) (fun _ => X.iloadn rfl dX5_close_129) ?_
    refine Y.op (pc' := 132) (fun _ => X.bp kb_12 dX5_close_130) ?_
    refine Y.cmpge 169 (by decide) dX5_close_132 ?_ ?_
    · exact Y.fg (hkE169 x0 x2 h) (And.intro rfl (And.intro rfl trivial))
    · refine Y.op (pc' := 136) (fun _ => X.aloadn rfl dX5_close_135) ?_
      refine Y.getR fd_X5_24 rfl dX5_close_136 (fun v1 => ?_)
      refine Y.op (pc' := 140) (fun _ => X.iloadn rfl dX5_close_139) ?_
      refine Y.aldI dX5_close_140 (fun v2 => ?_)
      refine Y.op (pc' := 142) (fun _ => X.iloadn rfl dX5_close_141) ?_
      refine Y.callSi (As := [.int v2, .int x2]) lk_X5_56 rfl cal_X9_has sta_X9_has (Nat.le_of_ble_eq_true rfl) rfl rfl (Nat.le_of_ble_eq_true rfl) dX5_close_142 (fun _ e => m_X9_has v2 x2 h _ _ e) (fun r3 => ?_)
      refine Y.ifeq 163 (by decide) dX5_close_145 ?_ ?_
      · exact y_X5_close_J163 ih hkE169 x0 x2 x3 r3.2
      · refine Y.op (pc' := 149) (fun _ => X.aloadn rfl dX5_close_148) ?_
        refine Y.getR fd_X5_24 rfl dX5_close_149 (fun v4 => ?_)
        refine Y.op (pc' := 153) (fun _ => X.iloadn rfl dX5_close_152) ?_
        refine Y.op (pc' := 154) (fun _ => X.dup2 rfl rfl dX5_close_153) ?_
        refine Y.aldI dX5_close_154 (fun v5 => ?_)
        refine Y.op (pc' := 156) (fun _ => X.aloadn rfl dX5_close_155) ?_
        refine Y.getR fd_X5_24 rfl dX5_close_156 (fun v6 => ?_)
        refine Y.op (pc' := 160) (fun _ => X.iloadn rfl dX5_close_159) ?_
        refine Y.aldI dX5_close_160 (fun v7 => ?_)
        refine Y.op (pc' := 162) (fun _ => X.ior dX5_close_161) ?_
        refine Y.astI dX5_close_162 (fun h8 => ?_)
        exact y_X5_close_J163 ih hkE169 x0 x2 x3 h8
def f_X5_close_L121 (kE175 : xH → Option (xH)) : Nat → Nat → Int32 → xH → Option (xH)
  | 0 => fun _ _ _ => none
  | n + 1 => fun x0 x2 h =>
    if x2 ≥ (12 : Int32) then
      kE175 h
    else
      f_X5_close_L129 (f_X5_close_J169 (f_X5_close_L121 kE175 n) kE175) 5000 x0 x2 (0 : Int32) h
theorem y_X5_close_L121 {g : xG} {h0 : xH} {cl : Bool} {kE175 : xH → Option (xH)} (hkE175 : ∀  (h : xH), Y g DX5_close h0 cl iV (kE175  h) 175 [none, none, none, none, none, none, none] [] h) : ∀ (n : Nat) (x0 : Nat) (x2 : Int32) (h : xH), Y g DX5_close h0 cl iV (f_X5_close_L121 kE175 n x0 x2 h) 121 [some (.ref x0), none, some (.int x2), none, none, none, none] [] h := by
  intro n
  induction n with
  | zero => intro x0 x2 h; exact Y.nothing
  | succ n ih =>
    intro x0 x2 h
    unfold f_X5_close_L121
    refine Y.op (pc' := 122) (fun _ => X.iloadn rfl dX5_close_121) ?_
    refine Y.op (pc' := 124) (fun _ => X.bp kb_12 dX5_close_122) ?_
    refine Y.cmpge 175 (by decide) dX5_close_124 ?_ ?_
    · exact Y.fg (hkE175 h) trivial
    · refine Y.op (pc' := 128) (fun _ => X.ic ki_0 dX5_close_127) ?_
      refine Y.op (pc' := 129) (loc' := [some (.ref x0), none, some (.int x2), some (.int (0 : Int32)), none, none, none]) (fun _ => X.istoren (Nat.le_of_ble_eq_true rfl) rfl dX5_close_128) ?_
      exact y_X5_close_L129 (y_X5_close_J169 ih hkE175) 5000 x0 x2 (0 : Int32) h
def f_X5_close_J119 (x0 : Nat) (h : xH) : Option (xH) :=
  f_X5_close_L121 (f_X5_close_J175) 5000 x0 (0 : Int32) h
theorem y_X5_close_J119 {g : xG} {h0 : xH} {cl : Bool} (x0 : Nat) (h : xH) : Y g DX5_close h0 cl iV (f_X5_close_J119 x0 h) 119 [some (.ref x0), none, none, none, none, none, none] [] h := by
  unfold f_X5_close_J119
  refine Y.op (pc' := 120) (fun _ => X.ic ki_0 dX5_close_119) ?_
  refine Y.op (pc' := 121) (loc' := [some (.ref x0), none, some (.int (0 : Int32)), none, none, none, none]) (fun _ => X.istoren (Nat.le_of_ble_eq_true rfl) rfl dX5_close_120) ?_
  exact y_X5_close_L121 (y_X5_close_J175) 5000 x0 (0 : Int32) h
def f_X5_close_J113 (kH : Nat → Nat → Int32 → xH → Option (xH)) (kE119 : Nat → xH → Option (xH)) (x0 : Nat) (x1 : Nat) (x2 : Int32) (h : xH) : Option (xH) :=
  lt (x2 + (1 : Int32)) fun v1 =>
  kH x0 x1 v1 h
theorem y_X5_close_J113 {g : xG} {h0 : xH} {cl : Bool} {kH : Nat → Nat → Int32 → xH → Option (xH)} {kE119 : Nat → xH → Option (xH)} (hkH : ∀ (x0 : Nat) (x1 : Nat) (x2 : Int32) (h : xH), Y g DX5_close h0 cl iV (kH x0 x1 x2 h) 2 [some (.ref x0), some (.ref x1), some (.int x2), none, none, none, none] [] h) (hkE119 : ∀ (x0 : Nat) (h : xH), Y g DX5_close h0 cl iV (kE119 x0 h) 119 [some (.ref x0), none, none, none, none, none, none] [] h) (x0 : Nat) (x1 : Nat) (x2 : Int32) (h : xH) : Y g DX5_close h0 cl iV (f_X5_close_J113 kH kE119 x0 x1 x2 h) 113 [some (.ref x0), some (.ref x1), some (.int x2), none, none, none, none] [] h := by
  unfold f_X5_close_J113
  refine Y.iinc (i := 2) (loc' := fun v1 => [some (.ref x0), some (.ref x1), some (.int v1), none, none, none, none]) rfl (Nat.le_of_ble_eq_true rfl) ki_1 (fun _ => rfl) dX5_close_113 (fun v1 => ?_)
  refine Y.op (pc' := 2) (fun _ => X.goto 2 (by decide) dX5_close_116) ?_
  exact hkH x0 x1 v1 h
def f_X5_close_J107 (kH : Nat → Nat → Int32 → Int32 → Int32 → xH → Option (xH)) (kE113 : Nat → Nat → Int32 → xH → Option (xH)) (x0 : Nat) (x1 : Nat) (x2 : Int32) (x4 : Int32) (x5 : Int32) (h : xH) : Option (xH) :=
  lt (x5 + (1 : Int32)) fun v1 =>
  kH x0 x1 x2 x4 v1 h
theorem y_X5_close_J107 {g : xG} {h0 : xH} {cl : Bool} {kH : Nat → Nat → Int32 → Int32 → Int32 → xH → Option (xH)} {kE113 : Nat → Nat → Int32 → xH → Option (xH)} (hkH : ∀ (x0 : Nat) (x1 : Nat) (x2 : Int32) (x4 : Int32) (x5 : Int32) (h : xH), Y g DX5_close h0 cl iV (kH x0 x1 x2 x4 x5 h) 54 [some (.ref x0), some (.ref x1), some (.int x2), none, some (.int x4), some (.int x5), none] [] h) (hkE113 : ∀ (x0 : Nat) (x1 : Nat) (x2 : Int32) (h : xH), Y g DX5_close h0 cl iV (kE113 x0 x1 x2 h) 113 [some (.ref x0), some (.ref x1), some (.int x2), none, none, none, none] [] h) (x0 : Nat) (x1 : Nat) (x2 : Int32) (x4 : Int32) (x5 : Int32) (h : xH) : Y g DX5_close h0 cl iV (f_X5_close_J107 kH kE113 x0 x1 x2 x4 x5 h) 107 [some (.ref x0), some (.ref x1), some (.int x2), none, some (.int x4), some (.int x5), none] [] h := by
  unfold f_X5_close_J107
  refine Y.iinc (i := 5) (loc' := fun v1 => [some (.ref x0), some (.ref x1), some (.int x2), none, some (.int x4), some (.int v1), none]) rfl (Nat.le_of_ble_eq_true rfl) ki_1 (fun _ => rfl) dX5_close_107 (fun v1 => ?_)
  refine Y.op (pc' := 54) (fun _ => X.goto 54 (by decide) dX5_close_110) ?_
  exact hkH x0 x1 x2 x4 v1 h
def f_X5_close_L54 (kE113 : Nat → Nat → Int32 → xH → Option (xH)) : Nat → Nat → Nat → Int32 → Int32 → Int32 → xH → Option (xH)
  | 0 => fun _ _ _ _ _ _ => none
  | n + 1 => fun x0 x1 x2 x4 x5 h =>
    if x5 ≥ (12 : Int32) then
      kE113 x0 x1 x2 h
    else
      if x4 = (0 : Int32) then
        kE113 x0 x1 x2 h
      else
        (gR h 7 x1 0).bind fun v1 =>
        (vc h 3 v1 (f_X3_workerOf v1 x5 h)).bind fun r2 =>
        (f_X9_has x4 x5 r2.2).bind fun r3 =>
        if r3.1 = (0 : Int32) then
          f_X5_close_J107 (f_X5_close_L54 kE113 n) kE113 x0 x1 x2 x4 x5 r3.2
        else
          if r2.1 = (-1 : Int32) then
            f_X5_close_J107 (f_X5_close_L54 kE113 n) kE113 x0 x1 x2 x4 x5 r3.2
          else
            (gR r3.2 5 x0 4).bind fun v4 =>
            (aI r3.2 v4 x2).bind fun v5 =>
            (f_X9_bit r2.1 r3.2).bind fun r6 =>
            (sI r6.2 v4 x2 (v5 ||| r6.1)).bind fun h7 =>
            f_X5_close_J107 (f_X5_close_L54 kE113 n) kE113 x0 x1 x2 x4 x5 h7
theorem y_X5_close_L54 {g : xG} {h0 : xH} {cl : Bool} {kE113 : Nat → Nat → Int32 → xH → Option (xH)} (hkE113 : ∀ (x0 : Nat) (x1 : Nat) (x2 : Int32) (h : xH), Y g DX5_close h0 cl iV (kE113 x0 x1 x2 h) 113 [some (.ref x0), some (.ref x1), some (.int x2), none, none, none, none] [] h) : ∀ (n : Nat) (x0 : Nat) (x1 : Nat) (x2 : Int32) (x4 : Int32) (x5 : Int32) (h : xH), Y g DX5_close h0 cl iV (f_X5_close_L54 kE113 n x0 x1 x2 x4 x5 h) 54 [some (.ref x0), some (.ref x1), some (.int x2), none, some (.int x4), some (.int x5), none] [] h := by
  intro n
  induction n with
  | zero => intro x0 x1 x2 x4 x5 h; exact Y.nothing
  | succ n ih =>
    intro x0 x1 x2 x4 x5 h
    unfold f_X5_close_L54
    refine Y.op (pc' := 56) (fun _ => X.iload rfl dX5_close_54) ?_
    refine Y.op (pc' := 58) (fun _ => X.bp kb_12 dX5_close_56) ?_
    refine Y.cmpge 113 (by decide) dX5_close_58 ?_ ?_
    · exact Y.fg (hkE113 x0 x1 x2 h) (And.intro rfl (And.intro rfl (And.intro rfl trivial)))
    · refine Y.op (pc' := 63) (fun _ => X.iload rfl dX5_close_61) ?_
      refine Y.ifeq 113 (by decide) dX5_close_63 ?_ ?_
      · exact Y.fg (hkE113 x0 x1 x2 h) (And.intro rfl (And.intro rfl (And.intro rfl trivial)))
      · refine Y.op (pc' := 67) (fun _ => X.aloadn rfl dX5_close_66) ?_
        refine Y.getR fd_X5_33 rfl dX5_close_67 (fun v1 => ?_)
        refine Y.op (pc' := 72) (fun _ => X.iload rfl dX5_close_70) ?_
        refine Y.callVi (As := [.int x5]) lk_X5_70 rfl cal_X3_workerOf vir_X3_workerOf (Nat.le_of_ble_eq_true rfl) (Nat.le_of_ble_eq_true rfl) rfl rfl rfl (Nat.le_of_ble_eq_true rfl) dX5_close_72 (fun _ e => m_X3_workerOf v1 x5 h _ _ e) (fun r2 => ?_)
        refine Y.op (pc' := 77) (loc' := [some (.ref x0), some (.ref x1), some (.int x2), none, some (.int x4), some (.int x5), some (.int r2.1)]) (fun _ => X.istore (Nat.le_of_ble_eq_true rfl) rfl dX5_close_75) ?_
        refine Y.op (pc' := 79) (fun _ => X.iload rfl dX5_close_77) ?_
        refine Y.op (pc' := 81) (fun _ => X.iload rfl dX5_close_79) ?_
        refine Y.callSi (As := [.int x4, .int x5]) lk_X5_56 rfl cal_X9_has sta_X9_has (Nat.le_of_ble_eq_true rfl) rfl rfl (Nat.le_of_ble_eq_true rfl) dX5_close_81 (fun _ e => m_X9_has x4 x5 r2.2 _ _ e) (fun r3 => ?_)
        refine Y.ifeq 107 (by decide) dX5_close_84 ?_ ?_
        · exact Y.fg (y_X5_close_J107 ih hkE113 x0 x1 x2 x4 x5 r3.2) (And.intro rfl (And.intro rfl (And.intro rfl (And.intro rfl (And.intro rfl trivial)))))
        · refine Y.op (pc' := 89) (fun _ => X.iload rfl dX5_close_87) ?_
          refine Y.op (pc' := 90) (fun _ => X.ic ki_m1 dX5_close_89) ?_
          refine Y.cmpeq 107 (by decide) dX5_close_90 ?_ ?_
          · exact Y.fg (y_X5_close_J107 ih hkE113 x0 x1 x2 x4 x5 r3.2) (And.intro rfl (And.intro rfl (And.intro rfl (And.intro rfl (And.intro rfl trivial)))))
          · refine Y.op (pc' := 94) (fun _ => X.aloadn rfl dX5_close_93) ?_
            refine Y.getR fd_X5_24 rfl dX5_close_94 (fun v4 => ?_)
            refine Y.op (pc' := 98) (fun _ => X.iloadn rfl dX5_close_97) ?_
            refine Y.op (pc' := 99) (fun _ => X.dup2 rfl rfl dX5_close_98) ?_
            refine Y.aldI dX5_close_99 (fun v5 => ?_)
            refine Y.op (pc' := 102) (fun _ => X.iload rfl dX5_close_100) ?_
            refine Y.callSi (As := [.int r2.1]) lk_X5_67 rfl cal_X9_bit sta_X9_bit (Nat.le_of_ble_eq_true rfl) rfl rfl (Nat.le_of_ble_eq_true rfl) dX5_close_102 (fun _ e => m_X9_bit r2.1 r3.2 _ _ e) (fun r6 => ?_)
            refine Y.op (pc' := 106) (fun _ => X.ior dX5_close_105) ?_
            refine Y.astI dX5_close_106 (fun h7 => ?_)
            exact Y.fg (y_X5_close_J107 ih hkE113 x0 x1 x2 x4 x5 h7) (And.intro rfl (And.intro rfl (And.intro rfl (And.intro rfl (And.intro rfl trivial)))))
def f_X5_close_J42 (kH : Nat → Nat → Int32 → xH → Option (xH)) (kE119 : Nat → xH → Option (xH)) (x0 : Nat) (x1 : Nat) (x2 : Int32) (s0 : Int32) (h : xH) : Option (xH) :=
  (gR h 5 x0 4).bind fun v1 =>
  (sI h v1 x2 (0 : Int32)).bind fun h2 =>
  f_X5_close_L54 (f_X5_close_J113 (kH) kE119) 5000 x0 x1 x2 s0 (0 : Int32) h2
theorem y_X5_close_J42 {g : xG} {h0 : xH} {cl : Bool} {kH : Nat → Nat → Int32 → xH → Option (xH)} {kE119 : Nat → xH → Option (xH)} (hkH : ∀ (x0 : Nat) (x1 : Nat) (x2 : Int32) (h : xH), Y g DX5_close h0 cl iV (kH x0 x1 x2 h) 2 [some (.ref x0), some (.ref x1), some (.int x2), none, none, none, none] [] h) (hkE119 : ∀ (x0 : Nat) (h : xH), Y g DX5_close h0 cl iV (kE119 x0 h) 119 [some (.ref x0), none, none, none, none, none, none] [] h) (x0 : Nat) (x1 : Nat) (x2 : Int32) (s0 : Int32) (h : xH) : Y g DX5_close h0 cl iV (f_X5_close_J42 kH kE119 x0 x1 x2 s0 h) 42 [some (.ref x0), some (.ref x1), some (.int x2), none, none, none, none] [.int s0] h := by
  unfold f_X5_close_J42
  refine Y.op (pc' := 44) (loc' := [some (.ref x0), some (.ref x1), some (.int x2), none, some (.int s0), none, none]) (fun _ => X.istore (Nat.le_of_ble_eq_true rfl) rfl dX5_close_42) ?_
  refine Y.op (pc' := 45) (fun _ => X.aloadn rfl dX5_close_44) ?_
  refine Y.getR fd_X5_24 rfl dX5_close_45 (fun v1 => ?_)
  refine Y.op (pc' := 49) (fun _ => X.iloadn rfl dX5_close_48) ?_
  refine Y.op (pc' := 50) (fun _ => X.ic ki_0 dX5_close_49) ?_
  refine Y.astI dX5_close_50 (fun h2 => ?_)
  refine Y.op (pc' := 52) (fun _ => X.ic ki_0 dX5_close_51) ?_
  refine Y.op (pc' := 54) (loc' := [some (.ref x0), some (.ref x1), some (.int x2), none, some (.int s0), some (.int (0 : Int32)), none]) (fun _ => X.istore (Nat.le_of_ble_eq_true rfl) rfl dX5_close_52) ?_
  exact y_X5_close_L54 (y_X5_close_J113 hkH hkE119) 5000 x0 x1 x2 s0 (0 : Int32) h2
def f_X5_close_L2 (kE119 : Nat → xH → Option (xH)) : Nat → Nat → Nat → Int32 → xH → Option (xH)
  | 0 => fun _ _ _ _ => none
  | n + 1 => fun x0 x1 x2 h =>
    if x2 ≥ (12 : Int32) then
      kE119 x0 h
    else
      (gR h 7 x1 0).bind fun v1 =>
      (vc h 3 v1 (f_X3_taskOf v1 x2 h)).bind fun r2 =>
      if r2.1 = (-1 : Int32) then
        (vc r2.2 7 x1 (f_X7_row x1 x2 r2.2)).bind fun r5 =>
        f_X5_close_J42 (f_X5_close_L2 kE119 n) kE119 x0 x1 x2 r5.1 r5.2
      else
        (vc r2.2 7 x1 (f_X7_row x1 x2 r2.2)).bind fun r3 =>
        (f_X9_bit r2.1 r3.2).bind fun r4 =>
        f_X5_close_J42 (f_X5_close_L2 kE119 n) kE119 x0 x1 x2 (r3.1 &&& (r4.1 ^^^ (-1 : Int32))) r4.2
theorem y_X5_close_L2 {g : xG} {h0 : xH} {cl : Bool} {kE119 : Nat → xH → Option (xH)} (hkE119 : ∀ (x0 : Nat) (h : xH), Y g DX5_close h0 cl iV (kE119 x0 h) 119 [some (.ref x0), none, none, none, none, none, none] [] h) : ∀ (n : Nat) (x0 : Nat) (x1 : Nat) (x2 : Int32) (h : xH), Y g DX5_close h0 cl iV (f_X5_close_L2 kE119 n x0 x1 x2 h) 2 [some (.ref x0), some (.ref x1), some (.int x2), none, none, none, none] [] h := by
  intro n
  induction n with
  | zero => intro x0 x1 x2 h; exact Y.nothing
  | succ n ih =>
    intro x0 x1 x2 h
    unfold f_X5_close_L2
    refine Y.op (pc' := 3) (fun _ => X.iloadn rfl dX5_close_2) ?_
    refine Y.op (pc' := 5) (fun _ => X.bp kb_12 dX5_close_3) ?_
    refine Y.cmpge 119 (by decide) dX5_close_5 ?_ ?_
    · exact Y.fg (hkE119 x0 h) (And.intro rfl trivial)
    · refine Y.op (pc' := 9) (fun _ => X.aloadn rfl dX5_close_8) ?_
      refine Y.getR fd_X5_33 rfl dX5_close_9 (fun v1 => ?_)
      refine Y.op (pc' := 13) (fun _ => X.iloadn rfl dX5_close_12) ?_
      refine Y.callVi (As := [.int x2]) lk_X5_64 rfl cal_X3_taskOf vir_X3_taskOf (Nat.le_of_ble_eq_true rfl) (Nat.le_of_ble_eq_true rfl) rfl rfl rfl (Nat.le_of_ble_eq_true rfl) dX5_close_13 (fun _ e => m_X3_taskOf v1 x2 h _ _ e) (fun r2 => ?_)
      refine Y.op (pc' := 17) (loc' := [some (.ref x0), some (.ref x1), some (.int x2), some (.int r2.1), none, none, none]) (fun _ => X.istoren (Nat.le_of_ble_eq_true rfl) rfl dX5_close_16) ?_
      refine Y.op (pc' := 18) (fun _ => X.iloadn rfl dX5_close_17) ?_
      refine Y.op (pc' := 19) (fun _ => X.ic ki_m1 dX5_close_18) ?_
      refine Y.cmpne 30 (by decide) dX5_close_19 ?_ ?_
      · refine Y.op (pc' := 31) (fun _ => X.aloadn rfl dX5_close_30) ?_
        refine Y.op (pc' := 32) (fun _ => X.iloadn rfl dX5_close_31) ?_
        refine Y.callVi (As := [.int x2]) lk_X5_60 rfl cal_X7_row vir_X7_row (Nat.le_of_ble_eq_true rfl) (Nat.le_of_ble_eq_true rfl) rfl rfl rfl (Nat.le_of_ble_eq_true rfl) dX5_close_32 (fun _ e => m_X7_row x1 x2 r2.2 _ _ e) (fun r3 => ?_)
        refine Y.op (pc' := 36) (fun _ => X.iloadn rfl dX5_close_35) ?_
        refine Y.callSi (As := [.int r2.1]) lk_X5_67 rfl cal_X9_bit sta_X9_bit (Nat.le_of_ble_eq_true rfl) rfl rfl (Nat.le_of_ble_eq_true rfl) dX5_close_36 (fun _ e => m_X9_bit r2.1 r3.2 _ _ e) (fun r4 => ?_)
        refine Y.op (pc' := 40) (fun _ => X.ic ki_m1 dX5_close_39) ?_
        refine Y.op (pc' := 41) (fun _ => X.ixor dX5_close_40) ?_
        refine Y.op (pc' := 42) (fun _ => X.iand dX5_close_41) ?_
        exact Y.fg (y_X5_close_J42 ih hkE119 x0 x1 x2 (r3.1 &&& (r4.1 ^^^ (-1 : Int32))) r4.2) (And.intro rfl (And.intro rfl (And.intro rfl trivial)))
      · refine Y.op (pc' := 23) (fun _ => X.aloadn rfl dX5_close_22) ?_
        refine Y.op (pc' := 24) (fun _ => X.iloadn rfl dX5_close_23) ?_
        refine Y.callVi (As := [.int x2]) lk_X5_60 rfl cal_X7_row vir_X7_row (Nat.le_of_ble_eq_true rfl) (Nat.le_of_ble_eq_true rfl) rfl rfl rfl (Nat.le_of_ble_eq_true rfl) dX5_close_24 (fun _ e => m_X7_row x1 x2 r2.2 _ _ e) (fun r5 => ?_)
        refine Y.op (pc' := 42) (fun _ => X.goto 42 (by decide) dX5_close_27) ?_
        exact Y.fg (y_X5_close_J42 ih hkE119 x0 x1 x2 r5.1 r5.2) (And.intro rfl (And.intro rfl (And.intro rfl trivial)))
def f_X5_close (a0 : Nat) (p1 : Nat) (h : xH) : Option (xH) :=
  f_X5_close_L2 (f_X5_close_J119) 5000 a0 p1 (0 : Int32) h
theorem y_X5_close {g : xG} {h0 : xH} {cl : Bool} (a0 : Nat) (p1 : Nat) (h : xH) : Y g DX5_close h0 cl iV (f_X5_close a0 p1 h) 0 [some (.ref a0), some (.ref p1), none, none, none, none, none] [] h := by
  unfold f_X5_close
  refine Y.op (pc' := 1) (fun _ => X.ic ki_0 dX5_close_0) ?_
  refine Y.op (pc' := 2) (loc' := [some (.ref a0), some (.ref p1), some (.int (0 : Int32)), none, none, none, none]) (fun _ => X.istoren (Nat.le_of_ble_eq_true rfl) rfl dX5_close_1) ?_
  exact y_X5_close_L2 (y_X5_close_J119) 5000 a0 p1 (0 : Int32) h
theorem m_X5_close {g : xG} (a0 : Nat) (p1 : Nat) (h : xH) (cl : Bool) (r : xH) (e : f_X5_close a0 p1 h = some r) : XM g DX5_close [.ref a0, .ref p1] h cl (iV r) := YM.of rfl rfl (Nat.le_of_ble_eq_true rfl) (y_X5_close a0 p1 h) e
def f_X5_comesTo_J32 (s0 : Int32) (h : xH) : Option (Int32 × xH) :=
  if s0 = 0 ∨ s0 = 1 then some (s0, h) else none
theorem y_X5_comesTo_J32 {g : xG} {h0 : xH} {cl : Bool} (s0 : Int32) (h : xH) : Y g DX5_comesTo h0 cl iI (f_X5_comesTo_J32 s0 h) 32 [none, none, none] [.int s0] h := by
  unfold f_X5_comesTo_J32
  exact Y.zreturn rfl dX5_comesTo_32
def f_X5_comesTo_J31 (h : xH) : Option (Int32 × xH) :=
  f_X5_comesTo_J32 (0 : Int32) h
theorem y_X5_comesTo_J31 {g : xG} {h0 : xH} {cl : Bool} (h : xH) : Y g DX5_comesTo h0 cl iI (f_X5_comesTo_J31 h) 31 [none, none, none] [] h := by
  unfold f_X5_comesTo_J31
  refine Y.op (pc' := 32) (fun _ => X.ic ki_0 dX5_comesTo_31) ?_
  exact y_X5_comesTo_J32 (0 : Int32) h
def f_X5_comesTo (a0 : Nat) (p1 : Int32) (p2 : Int32) (h : xH) : Option (Int32 × xH) :=
  (f_X9_inLimit p1 h).bind fun r1 =>
  if r1.1 = (0 : Int32) then
    f_X5_comesTo_J31 r1.2
  else
    (f_X9_inLimit p2 r1.2).bind fun r2 =>
    if r2.1 = (0 : Int32) then
      f_X5_comesTo_J31 r2.2
    else
      (gR r2.2 5 a0 4).bind fun v3 =>
      (aI r2.2 v3 p1).bind fun v4 =>
      (f_X9_has v4 p2 r2.2).bind fun r5 =>
      if r5.1 = (0 : Int32) then
        f_X5_comesTo_J31 r5.2
      else
        f_X5_comesTo_J32 (1 : Int32) r5.2
theorem y_X5_comesTo {g : xG} {h0 : xH} {cl : Bool} (a0 : Nat) (p1 : Int32) (p2 : Int32) (h : xH) : Y g DX5_comesTo h0 cl iI (f_X5_comesTo a0 p1 p2 h) 0 [some (.ref a0), some (.int p1), some (.int p2)] [] h := by
  unfold f_X5_comesTo
  refine Y.op (pc' := 1) (fun _ => X.iloadn rfl dX5_comesTo_0) ?_
  refine Y.callSi (As := [.int p1]) lk_X5_73 rfl cal_X9_inLimit sta_X9_inLimit (Nat.le_of_ble_eq_true rfl) rfl rfl (Nat.le_of_ble_eq_true rfl) dX5_comesTo_1 (fun _ e => m_X9_inLimit p1 h _ _ e) (fun r1 => ?_)
  refine Y.ifeq 31 (by decide) dX5_comesTo_4 ?_ ?_
  · exact Y.fg (y_X5_comesTo_J31 r1.2) trivial
  · refine Y.op (pc' := 8) (fun _ => X.iloadn rfl dX5_comesTo_7) ?_
    refine Y.callSi (As := [.int p2]) lk_X5_73 rfl cal_X9_inLimit sta_X9_inLimit (Nat.le_of_ble_eq_true rfl) rfl rfl (Nat.le_of_ble_eq_true rfl) dX5_comesTo_8 (fun _ e => m_X9_inLimit p2 r1.2 _ _ e) (fun r2 => ?_)
    refine Y.ifeq 31 (by decide) dX5_comesTo_11 ?_ ?_
    · exact Y.fg (y_X5_comesTo_J31 r2.2) trivial
    · refine Y.op (pc' := 15) (fun _ => X.aloadn rfl dX5_comesTo_14) ?_
      refine Y.getR fd_X5_24 rfl dX5_comesTo_15 (fun v3 => ?_)
      refine Y.op (pc' := 19) (fun _ => X.iloadn rfl dX5_comesTo_18) ?_
      refine Y.aldI dX5_comesTo_19 (fun v4 => ?_)
      refine Y.op (pc' := 21) (fun _ => X.iloadn rfl dX5_comesTo_20) ?_
      refine Y.callSi (As := [.int v4, .int p2]) lk_X5_56 rfl cal_X9_has sta_X9_has (Nat.le_of_ble_eq_true rfl) rfl rfl (Nat.le_of_ble_eq_true rfl) dX5_comesTo_21 (fun _ e => m_X9_has v4 p2 r2.2 _ _ e) (fun r5 => ?_)
      refine Y.ifeq 31 (by decide) dX5_comesTo_24 ?_ ?_
      · exact Y.fg (y_X5_comesTo_J31 r5.2) trivial
      · refine Y.op (pc' := 28) (fun _ => X.ic ki_1 dX5_comesTo_27) ?_
        refine Y.op (pc' := 32) (fun _ => X.goto 32 (by decide) dX5_comesTo_28) ?_
        exact Y.fg (y_X5_comesTo_J32 (1 : Int32) r5.2) trivial
theorem m_X5_comesTo {g : xG} (a0 : Nat) (p1 : Int32) (p2 : Int32) (h : xH) (cl : Bool) (r : Int32 × xH) (e : f_X5_comesTo a0 p1 p2 h = some r) : XM g DX5_comesTo [.ref a0, .int p1, .int p2] h cl (iI r) := YM.of rfl rfl (Nat.le_of_ble_eq_true rfl) (y_X5_comesTo a0 p1 p2 h) e
def f_X5_kindOf_J72 (s0 : Int32) (h : xH) : Option (Int32 × xH) :=
  some (s0, h)
theorem y_X5_kindOf_J72 {g : xG} {h0 : xH} {cl : Bool} (s0 : Int32) (h : xH) : Y g DX5_kindOf h0 cl iI (f_X5_kindOf_J72 s0 h) 72 [none, none, none, none, none] [.int s0] h := by
  unfold f_X5_kindOf_J72
  exact Y.ireturn rfl dX5_kindOf_72
def f_X5_kindOf_J61 (s0 : Int32) (h : xH) : Option (Int32 × xH) :=
  some (s0, h)
theorem y_X5_kindOf_J61 {g : xG} {h0 : xH} {cl : Bool} (s0 : Int32) (h : xH) : Y g DX5_kindOf h0 cl iI (f_X5_kindOf_J61 s0 h) 61 [none, none, none, none, none] [.int s0] h := by
  unfold f_X5_kindOf_J61
  exact Y.ireturn rfl dX5_kindOf_61
def f_X5_kindOf_J22 (h : xH) : Option (Int32 × xH) :=
  some ((2 : Int32), h)
theorem y_X5_kindOf_J22 {g : xG} {h0 : xH} {cl : Bool} (h : xH) : Y g DX5_kindOf h0 cl iI (f_X5_kindOf_J22 h) 22 [none, none, none, none, none] [] h := by
  unfold f_X5_kindOf_J22
  refine Y.op (pc' := 23) (fun _ => X.ic ki_2 dX5_kindOf_22) ?_
  exact Y.ireturn rfl dX5_kindOf_23
def f_X5_kindOf (a0 : Nat) (p1 : Nat) (p2 : Int32) (p3 : Int32) (h : xH) : Option (Int32 × xH) :=
  (gI h 5 a0 0).bind fun v1 =>
  (f_X9_has v1 p2 h).bind fun r2 =>
  if r2.1 = (0 : Int32) then
    (gI r2.2 5 a0 3).bind fun v3 =>
    (f_X9_has v3 p3 r2.2).bind fun r4 =>
    if r4.1 = (0 : Int32) then
      (gR r4.2 7 p1 0).bind fun v5 =>
      (vc r4.2 3 v5 (f_X3_workerOf v5 p3 r4.2)).bind fun r6 =>
      (vc r6.2 5 a0 (f_X5_comesTo a0 r6.1 p2 r6.2)).bind fun r7 =>
      (gR r7.2 7 p1 0).bind fun v8 =>
      (vc r7.2 3 v8 (f_X3_taskOf v8 p2 r7.2)).bind fun r9 =>
      if r9.1 = p3 then
        if r7.1 = (0 : Int32) then
          f_X5_kindOf_J61 (3 : Int32) r9.2
        else
          f_X5_kindOf_J61 (2 : Int32) r9.2
      else
        if r7.1 = (0 : Int32) then
          f_X5_kindOf_J72 (1 : Int32) r9.2
        else
          f_X5_kindOf_J72 (2 : Int32) r9.2
    else
      f_X5_kindOf_J22 r4.2
  else
    f_X5_kindOf_J22 r2.2
theorem y_X5_kindOf {g : xG} {h0 : xH} {cl : Bool} (a0 : Nat) (p1 : Nat) (p2 : Int32) (p3 : Int32) (h : xH) : Y g DX5_kindOf h0 cl iI (f_X5_kindOf a0 p1 p2 p3 h) 0 [some (.ref a0), some (.ref p1), some (.int p2), some (.int p3), none] [] h := by
  unfold f_X5_kindOf
  refine Y.op (pc' := 1) (fun _ => X.aloadn rfl dX5_kindOf_0) ?_
  refine Y.getI fd_X5_9 rfl dX5_kindOf_1 (fun v1 => ?_)
  refine Y.op (pc' := 5) (fun _ => X.iloadn rfl dX5_kindOf_4) ?_
  refine Y.callSi (As := [.int v1, .int p2]) lk_X5_56 rfl cal_X9_has sta_X9_has (Nat.le_of_ble_eq_true rfl) rfl rfl (Nat.le_of_ble_eq_true rfl) dX5_kindOf_5 (fun _ e => m_X9_has v1 p2 h _ _ e) (fun r2 => ?_)
  refine Y.ifne 22 (by decide) dX5_kindOf_8 ?_ ?_
  · exact Y.fg (y_X5_kindOf_J22 r2.2) trivial
  · refine Y.op (pc' := 12) (fun _ => X.aloadn rfl dX5_kindOf_11) ?_
    refine Y.getI fd_X5_21 rfl dX5_kindOf_12 (fun v3 => ?_)
    refine Y.op (pc' := 16) (fun _ => X.iloadn rfl dX5_kindOf_15) ?_
    refine Y.callSi (As := [.int v3, .int p3]) lk_X5_56 rfl cal_X9_has sta_X9_has (Nat.le_of_ble_eq_true rfl) rfl rfl (Nat.le_of_ble_eq_true rfl) dX5_kindOf_16 (fun _ e => m_X9_has v3 p3 r2.2 _ _ e) (fun r4 => ?_)
    refine Y.ifeq 24 (by decide) dX5_kindOf_19 ?_ ?_
    · refine Y.op (pc' := 25) (fun _ => X.aloadn rfl dX5_kindOf_24) ?_
      refine Y.op (pc' := 26) (fun _ => X.aloadn rfl dX5_kindOf_25) ?_
      refine Y.getR fd_X5_33 rfl dX5_kindOf_26 (fun v5 => ?_)
      refine Y.op (pc' := 30) (fun _ => X.iloadn rfl dX5_kindOf_29) ?_
      refine Y.callVi (As := [.int p3]) lk_X5_70 rfl cal_X3_workerOf vir_X3_workerOf (Nat.le_of_ble_eq_true rfl) (Nat.le_of_ble_eq_true rfl) rfl rfl rfl (Nat.le_of_ble_eq_true rfl) dX5_kindOf_30 (fun _ e => m_X3_workerOf v5 p3 r4.2 _ _ e) (fun r6 => ?_)
      refine Y.op (pc' := 34) (fun _ => X.iloadn rfl dX5_kindOf_33) ?_
      refine Y.callVi (As := [.int r6.1, .int p2]) lk_X5_77 rfl cal_X5_comesTo vir_X5_comesTo (Nat.le_of_ble_eq_true rfl) (Nat.le_of_ble_eq_true rfl) rfl rfl rfl (Nat.le_of_ble_eq_true rfl) dX5_kindOf_34 (fun _ e => m_X5_comesTo a0 r6.1 p2 r6.2 _ _ e) (fun r7 => ?_)
      refine Y.op (pc' := 39) (loc' := [some (.ref a0), some (.ref p1), some (.int p2), some (.int p3), some (.int r7.1)]) (fun _ => X.istore (Nat.le_of_ble_eq_true rfl) rfl dX5_kindOf_37) ?_
      refine Y.op (pc' := 40) (fun _ => X.aloadn rfl dX5_kindOf_39) ?_
      refine Y.getR fd_X5_33 rfl dX5_kindOf_40 (fun v8 => ?_)
      refine Y.op (pc' := 44) (fun _ => X.iloadn rfl dX5_kindOf_43) ?_
      refine Y.callVi (As := [.int p2]) lk_X5_64 rfl cal_X3_taskOf vir_X3_taskOf (Nat.le_of_ble_eq_true rfl) (Nat.le_of_ble_eq_true rfl) rfl rfl rfl (Nat.le_of_ble_eq_true rfl) dX5_kindOf_44 (fun _ e => m_X3_taskOf v8 p2 r7.2 _ _ e) (fun r9 => ?_)
      refine Y.op (pc' := 48) (fun _ => X.iloadn rfl dX5_kindOf_47) ?_
      refine Y.cmpne 62 (by decide) dX5_kindOf_48 ?_ ?_
      · refine Y.op (pc' := 64) (fun _ => X.iload rfl dX5_kindOf_62) ?_
        refine Y.ifeq 71 (by decide) dX5_kindOf_64 ?_ ?_
        · refine Y.op (pc' := 72) (fun _ => X.ic ki_1 dX5_kindOf_71) ?_
          exact Y.fg (y_X5_kindOf_J72 (1 : Int32) r9.2) trivial
        · refine Y.op (pc' := 68) (fun _ => X.ic ki_2 dX5_kindOf_67) ?_
          refine Y.op (pc' := 72) (fun _ => X.goto 72 (by decide) dX5_kindOf_68) ?_
          exact Y.fg (y_X5_kindOf_J72 (2 : Int32) r9.2) trivial
      · refine Y.op (pc' := 53) (fun _ => X.iload rfl dX5_kindOf_51) ?_
        refine Y.ifeq 60 (by decide) dX5_kindOf_53 ?_ ?_
        · refine Y.op (pc' := 61) (fun _ => X.ic ki_3 dX5_kindOf_60) ?_
          exact Y.fg (y_X5_kindOf_J61 (3 : Int32) r9.2) trivial
        · refine Y.op (pc' := 57) (fun _ => X.ic ki_2 dX5_kindOf_56) ?_
          refine Y.op (pc' := 61) (fun _ => X.goto 61 (by decide) dX5_kindOf_57) ?_
          exact Y.fg (y_X5_kindOf_J61 (2 : Int32) r9.2) trivial
    · exact Y.fg (y_X5_kindOf_J22 r4.2) trivial
theorem m_X5_kindOf {g : xG} (a0 : Nat) (p1 : Nat) (p2 : Int32) (p3 : Int32) (h : xH) (cl : Bool) (r : Int32 × xH) (e : f_X5_kindOf a0 p1 p2 p3 h = some r) : XM g DX5_kindOf [.ref a0, .ref p1, .int p2, .int p3] h cl (iI r) := YM.of rfl rfl (Nat.le_of_ble_eq_true rfl) (y_X5_kindOf a0 p1 p2 p3 h) e
def f_X6_init (a0 : Nat) (h : xH) : Option (xH) :=
  (nwI h (300 : Int32)).bind fun r1 =>
  (pR r1.2 6 a0 0 r1.1).bind fun h2 =>
  (pI h2 6 a0 1 (0 : Int32)).bind fun h3 =>
  (pI h3 6 a0 2 (-1 : Int32)).bind fun h4 =>
  (pI h4 6 a0 3 (0 : Int32)).bind fun h5 =>
  (pI h5 6 a0 4 (0 : Int32)).bind fun h6 =>
  (pI h6 6 a0 5 (0 : Int32)).bind fun h7 =>
  (pI h7 6 a0 6 (0 : Int32)).bind fun h8 =>
  (pZ h8 6 a0 7 (0 : Int32)).bind fun h9 =>
  some h9
theorem y_X6_init {g : xG} {h0 : xH} (a0 : Nat) (h : xH) : Y g DX6_init h0 false iV (f_X6_init a0 h) 0 [some (.ref a0)] [] h := by
  unfold f_X6_init
  refine Y.op (pc' := 1) (fun _ => X.aloadn rfl dX6_init_0) ?_
  refine Y.op (pc' := 4) (fun _ => X.objInit wo_X6 rfl (Nat.le_of_ble_eq_true rfl) (Nat.le_of_ble_eq_true rfl) dX6_init_1) ?_
  refine Y.op (pc' := 5) (fun _ => X.aloadn rfl dX6_init_4) ?_
  refine Y.op (pc' := 8) (fun _ => X.sp ks_300 dX6_init_5) ?_
  refine Y.newI waI dX6_init_8 (fun r1 => ?_)
  refine Y.putR ff_X6_9 rfl rfl (fun _ => rfl) (fun _ => rfl) dX6_init_10 (fun h2 => ?_)
  refine Y.op (pc' := 14) (fun _ => X.aloadn rfl dX6_init_13) ?_
  refine Y.op (pc' := 15) (fun _ => X.ic ki_0 dX6_init_14) ?_
  refine Y.putI fd_X6_15 rfl dX6_init_15 (fun h3 => ?_)
  refine Y.op (pc' := 19) (fun _ => X.aloadn rfl dX6_init_18) ?_
  refine Y.op (pc' := 20) (fun _ => X.ic ki_m1 dX6_init_19) ?_
  refine Y.putI fd_X6_19 rfl dX6_init_20 (fun h4 => ?_)
  refine Y.op (pc' := 24) (fun _ => X.aloadn rfl dX6_init_23) ?_
  refine Y.op (pc' := 25) (fun _ => X.ic ki_0 dX6_init_24) ?_
  refine Y.putI fd_X6_22 rfl dX6_init_25 (fun h5 => ?_)
  refine Y.op (pc' := 29) (fun _ => X.aloadn rfl dX6_init_28) ?_
  refine Y.op (pc' := 30) (fun _ => X.ic ki_0 dX6_init_29) ?_
  refine Y.putI fd_X6_25 rfl dX6_init_30 (fun h6 => ?_)
  refine Y.op (pc' := 34) (fun _ => X.aloadn rfl dX6_init_33) ?_
  refine Y.op (pc' := 35) (fun _ => X.ic ki_0 dX6_init_34) ?_
  refine Y.putI fd_X6_28 rfl dX6_init_35 (fun h7 => ?_)
  refine Y.op (pc' := 39) (fun _ => X.aloadn rfl dX6_init_38) ?_
  refine Y.op (pc' := 40) (fun _ => X.ic ki_0 dX6_init_39) ?_
  refine Y.putI fd_X6_31 rfl dX6_init_40 (fun h8 => ?_)
  refine Y.op (pc' := 44) (fun _ => X.aloadn rfl dX6_init_43) ?_
  refine Y.op (pc' := 45) (fun _ => X.ic ki_0 dX6_init_44) ?_
  refine Y.putZ fd_X6_34 rfl dX6_init_45 (fun h9 => ?_)
  exact Y.vreturn rfl dX6_init_48
theorem m_X6_init {g : xG} (a0 : Nat) (h : xH) (r : xH) (e : f_X6_init a0 h = some r) : XM g DX6_init [.ref a0] h false (iV r) := YM.of rfl rfl (Nat.le_of_ble_eq_true rfl) (y_X6_init a0 h) e
def f_X6_hasRoom_J18 (s0 : Int32) (h : xH) : Option (Int32 × xH) :=
  if s0 = 0 ∨ s0 = 1 then some (s0, h) else none
theorem y_X6_hasRoom_J18 {g : xG} {h0 : xH} {cl : Bool} (s0 : Int32) (h : xH) : Y g DX6_hasRoom h0 cl iI (f_X6_hasRoom_J18 s0 h) 18 [none] [.int s0] h := by
  unfold f_X6_hasRoom_J18
  exact Y.zreturn rfl dX6_hasRoom_18
def f_X6_hasRoom (a0 : Nat) (h : xH) : Option (Int32 × xH) :=
  (gI h 6 a0 1).bind fun v1 =>
  if (v1 + (20 : Int32)) > (300 : Int32) then
    f_X6_hasRoom_J18 (0 : Int32) h
  else
    f_X6_hasRoom_J18 (1 : Int32) h
theorem y_X6_hasRoom {g : xG} {h0 : xH} {cl : Bool} (a0 : Nat) (h : xH) : Y g DX6_hasRoom h0 cl iI (f_X6_hasRoom a0 h) 0 [some (.ref a0)] [] h := by
  unfold f_X6_hasRoom
  refine Y.op (pc' := 1) (fun _ => X.aloadn rfl dX6_hasRoom_0) ?_
  refine Y.getI fd_X6_15 rfl dX6_hasRoom_1 (fun v1 => ?_)
  refine Y.op (pc' := 6) (fun _ => X.bp kb_20 dX6_hasRoom_4) ?_
  refine Y.op (pc' := 7) (fun _ => X.iadd dX6_hasRoom_6) ?_
  refine Y.op (pc' := 10) (fun _ => X.sp ks_300 dX6_hasRoom_7) ?_
  refine Y.cmpgt 17 (by decide) dX6_hasRoom_10 ?_ ?_
  · refine Y.op (pc' := 18) (fun _ => X.ic ki_0 dX6_hasRoom_17) ?_
    exact Y.fg (y_X6_hasRoom_J18 (0 : Int32) h) trivial
  · refine Y.op (pc' := 14) (fun _ => X.ic ki_1 dX6_hasRoom_13) ?_
    refine Y.op (pc' := 18) (fun _ => X.goto 18 (by decide) dX6_hasRoom_14) ?_
    exact Y.fg (y_X6_hasRoom_J18 (1 : Int32) h) trivial
theorem m_X6_hasRoom {g : xG} (a0 : Nat) (h : xH) (cl : Bool) (r : Int32 × xH) (e : f_X6_hasRoom a0 h = some r) : XM g DX6_hasRoom [.ref a0] h cl (iI r) := YM.of rfl rfl (Nat.le_of_ble_eq_true rfl) (y_X6_hasRoom a0 h) e
def f_X6_put_J56 (h : xH) : Option (xH) :=
  some h
theorem y_X6_put_J56 {g : xG} {h0 : xH} {cl : Bool} (h : xH) : Y g DX6_put h0 cl iV (f_X6_put_J56 h) 56 [none, none, none] [] h := by
  unfold f_X6_put_J56
  exact Y.vreturn rfl dX6_put_56
def f_X6_put_J50 (kH : Nat → Int32 → Int32 → xH → Option (xH)) (kE56 : xH → Option (xH)) (x0 : Nat) (x1 : Int32) (x2 : Int32) (h : xH) : Option (xH) :=
  lt (x2 + (-8 : Int32)) fun v1 =>
  kH x0 x1 v1 h
theorem y_X6_put_J50 {g : xG} {h0 : xH} {cl : Bool} {kH : Nat → Int32 → Int32 → xH → Option (xH)} {kE56 : xH → Option (xH)} (hkH : ∀ (x0 : Nat) (x1 : Int32) (x2 : Int32) (h : xH), Y g DX6_put h0 cl iV (kH x0 x1 x2 h) 3 [some (.ref x0), some (.int x1), some (.int x2)] [] h) (hkE56 : ∀  (h : xH), Y g DX6_put h0 cl iV (kE56  h) 56 [none, none, none] [] h) (x0 : Nat) (x1 : Int32) (x2 : Int32) (h : xH) : Y g DX6_put h0 cl iV (f_X6_put_J50 kH kE56 x0 x1 x2 h) 50 [some (.ref x0), some (.int x1), some (.int x2)] [] h := by
  unfold f_X6_put_J50
  refine Y.iinc (i := 2) (loc' := fun v1 => [some (.ref x0), some (.int x1), some (.int v1)]) rfl (Nat.le_of_ble_eq_true rfl) ki_m8 (fun _ => rfl) dX6_put_50 (fun v1 => ?_)
  refine Y.op (pc' := 3) (fun _ => X.goto 3 (by decide) dX6_put_53) ?_
  exact hkH x0 x1 v1 h
def f_X6_put_L3 (kE56 : xH → Option (xH)) : Nat → Nat → Int32 → Int32 → xH → Option (xH)
  | 0 => fun _ _ _ _ => none
  | n + 1 => fun x0 x1 x2 h =>
    if x2 < (0 : Int32) then
      kE56 h
    else
      (gI h 6 x0 1).bind fun v1 =>
      if v1 < (0 : Int32) then
        f_X6_put_J50 (f_X6_put_L3 kE56 n) kE56 x0 x1 x2 h
      else
        (gI h 6 x0 1).bind fun v2 =>
        if v2 ≥ (300 : Int32) then
          f_X6_put_J50 (f_X6_put_L3 kE56 n) kE56 x0 x1 x2 h
        else
          (gR h 6 x0 0).bind fun v3 =>
          (gI h 6 x0 1).bind fun v4 =>
          (sI h v3 v4 ((x1 >>> (x2 &&& 31)) &&& (255 : Int32))).bind fun h5 =>
          (gI h5 6 x0 1).bind fun v6 =>
          (pI h5 6 x0 1 (v6 + (1 : Int32))).bind fun h7 =>
          f_X6_put_J50 (f_X6_put_L3 kE56 n) kE56 x0 x1 x2 h7
theorem y_X6_put_L3 {g : xG} {h0 : xH} {cl : Bool} {kE56 : xH → Option (xH)} (hkE56 : ∀  (h : xH), Y g DX6_put h0 cl iV (kE56  h) 56 [none, none, none] [] h) : ∀ (n : Nat) (x0 : Nat) (x1 : Int32) (x2 : Int32) (h : xH), Y g DX6_put h0 cl iV (f_X6_put_L3 kE56 n x0 x1 x2 h) 3 [some (.ref x0), some (.int x1), some (.int x2)] [] h := by
  intro n
  induction n with
  | zero => intro x0 x1 x2 h; exact Y.nothing
  | succ n ih =>
    intro x0 x1 x2 h
    unfold f_X6_put_L3
    refine Y.op (pc' := 4) (fun _ => X.iloadn rfl dX6_put_3) ?_
    refine Y.iflt 56 (by decide) dX6_put_4 ?_ ?_
    · exact Y.fg (hkE56 h) trivial
    · refine Y.op (pc' := 8) (fun _ => X.aloadn rfl dX6_put_7) ?_
      refine Y.getI fd_X6_15 rfl dX6_put_8 (fun v1 => ?_)
      refine Y.iflt 50 (by decide) dX6_put_11 ?_ ?_
      · exact y_X6_put_J50 ih hkE56 x0 x1 x2 h
      · refine Y.op (pc' := 15) (fun _ => X.aloadn rfl dX6_put_14) ?_
        refine Y.getI fd_X6_15 rfl dX6_put_15 (fun v2 => ?_)
        refine Y.op (pc' := 21) (fun _ => X.sp ks_300 dX6_put_18) ?_
        refine Y.cmpge 50 (by decide) dX6_put_21 ?_ ?_
        · exact y_X6_put_J50 ih hkE56 x0 x1 x2 h
        · refine Y.op (pc' := 25) (fun _ => X.aloadn rfl dX6_put_24) ?_
          refine Y.getR fd_X6_9 rfl dX6_put_25 (fun v3 => ?_)
          refine Y.op (pc' := 29) (fun _ => X.aloadn rfl dX6_put_28) ?_
          refine Y.getI fd_X6_15 rfl dX6_put_29 (fun v4 => ?_)
          refine Y.op (pc' := 33) (fun _ => X.iloadn rfl dX6_put_32) ?_
          refine Y.op (pc' := 34) (fun _ => X.iloadn rfl dX6_put_33) ?_
          refine Y.op (pc' := 35) (fun _ => X.ishr dX6_put_34) ?_
          refine Y.op (pc' := 38) (fun _ => X.sp ks_255 dX6_put_35) ?_
          refine Y.op (pc' := 39) (fun _ => X.iand dX6_put_38) ?_
          refine Y.astI dX6_put_39 (fun h5 => ?_)
          refine Y.op (pc' := 41) (fun _ => X.aloadn rfl dX6_put_40) ?_
          refine Y.op (pc' := 42) (fun _ => X.dup rfl dX6_put_41) ?_
          refine Y.getI fd_X6_15 rfl dX6_put_42 (fun v6 => ?_)
          refine Y.op (pc' := 46) (fun _ => X.ic ki_1 dX6_put_45) ?_
          refine Y.op (pc' := 47) (fun _ => X.iadd dX6_put_46) ?_
          refine Y.putI fd_X6_15 rfl dX6_put_47 (fun h7 => ?_)
          exact y_X6_put_J50 ih hkE56 x0 x1 x2 h7
def f_X6_put (a0 : Nat) (p1 : Int32) (h : xH) : Option (xH) :=
  f_X6_put_L3 (f_X6_put_J56) 5000 a0 p1 (24 : Int32) h
theorem y_X6_put {g : xG} {h0 : xH} {cl : Bool} (a0 : Nat) (p1 : Int32) (h : xH) : Y g DX6_put h0 cl iV (f_X6_put a0 p1 h) 0 [some (.ref a0), some (.int p1), none] [] h := by
  unfold f_X6_put
  refine Y.op (pc' := 2) (fun _ => X.bp kb_24 dX6_put_0) ?_
  refine Y.op (pc' := 3) (loc' := [some (.ref a0), some (.int p1), some (.int (24 : Int32))]) (fun _ => X.istoren (Nat.le_of_ble_eq_true rfl) rfl dX6_put_2) ?_
  exact y_X6_put_L3 (y_X6_put_J56) 5000 a0 p1 (24 : Int32) h
theorem m_X6_put {g : xG} (a0 : Nat) (p1 : Int32) (h : xH) (cl : Bool) (r : xH) (e : f_X6_put a0 p1 h = some r) : XM g DX6_put [.ref a0, .int p1] h cl (iV r) := YM.of rfl rfl (Nat.le_of_ble_eq_true rfl) (y_X6_put a0 p1 h) e
def f_X6_byteAt_J29 (s0 : Int32) (h : xH) : Option (Int32 × xH) :=
  some (s0, h)
theorem y_X6_byteAt_J29 {g : xG} {h0 : xH} {cl : Bool} (s0 : Int32) (h : xH) : Y g DX6_byteAt h0 cl iI (f_X6_byteAt_J29 s0 h) 29 [none, none] [.int s0] h := by
  unfold f_X6_byteAt_J29
  exact Y.ireturn rfl dX6_byteAt_29
def f_X6_byteAt_J28 (h : xH) : Option (Int32 × xH) :=
  f_X6_byteAt_J29 (-1 : Int32) h
theorem y_X6_byteAt_J28 {g : xG} {h0 : xH} {cl : Bool} (h : xH) : Y g DX6_byteAt h0 cl iI (f_X6_byteAt_J28 h) 28 [none, none] [] h := by
  unfold f_X6_byteAt_J28
  refine Y.op (pc' := 29) (fun _ => X.ic ki_m1 dX6_byteAt_28) ?_
  exact y_X6_byteAt_J29 (-1 : Int32) h
def f_X6_byteAt (a0 : Nat) (p1 : Int32) (h : xH) : Option (Int32 × xH) :=
  if p1 < (0 : Int32) then
    f_X6_byteAt_J28 h
  else
    (gI h 6 a0 4).bind fun v1 =>
    if p1 ≥ v1 then
      f_X6_byteAt_J28 h
    else
      if p1 ≥ (300 : Int32) then
        f_X6_byteAt_J28 h
      else
        (gR h 6 a0 0).bind fun v2 =>
        (aI h v2 p1).bind fun v3 =>
        f_X6_byteAt_J29 v3 h
theorem y_X6_byteAt {g : xG} {h0 : xH} {cl : Bool} (a0 : Nat) (p1 : Int32) (h : xH) : Y g DX6_byteAt h0 cl iI (f_X6_byteAt a0 p1 h) 0 [some (.ref a0), some (.int p1)] [] h := by
  unfold f_X6_byteAt
  refine Y.op (pc' := 1) (fun _ => X.iloadn rfl dX6_byteAt_0) ?_
  refine Y.iflt 28 (by decide) dX6_byteAt_1 ?_ ?_
  · exact Y.fg (y_X6_byteAt_J28 h) trivial
  · refine Y.op (pc' := 5) (fun _ => X.iloadn rfl dX6_byteAt_4) ?_
    refine Y.op (pc' := 6) (fun _ => X.aloadn rfl dX6_byteAt_5) ?_
    refine Y.getI fd_X6_25 rfl dX6_byteAt_6 (fun v1 => ?_)
    refine Y.cmpge 28 (by decide) dX6_byteAt_9 ?_ ?_
    · exact Y.fg (y_X6_byteAt_J28 h) trivial
    · refine Y.op (pc' := 13) (fun _ => X.iloadn rfl dX6_byteAt_12) ?_
      refine Y.op (pc' := 16) (fun _ => X.sp ks_300 dX6_byteAt_13) ?_
      refine Y.cmpge 28 (by decide) dX6_byteAt_16 ?_ ?_
      · exact Y.fg (y_X6_byteAt_J28 h) trivial
      · refine Y.op (pc' := 20) (fun _ => X.aloadn rfl dX6_byteAt_19) ?_
        refine Y.getR fd_X6_9 rfl dX6_byteAt_20 (fun v2 => ?_)
        refine Y.op (pc' := 24) (fun _ => X.iloadn rfl dX6_byteAt_23) ?_
        refine Y.aldI dX6_byteAt_24 (fun v3 => ?_)
        refine Y.op (pc' := 29) (fun _ => X.goto 29 (by decide) dX6_byteAt_25) ?_
        exact Y.fg (y_X6_byteAt_J29 v3 h) trivial
theorem m_X6_byteAt {g : xG} (a0 : Nat) (p1 : Int32) (h : xH) (cl : Bool) (r : Int32 × xH) (e : f_X6_byteAt a0 p1 h = some r) : XM g DX6_byteAt [.ref a0, .int p1] h cl (iI r) := YM.of rfl rfl (Nat.le_of_ble_eq_true rfl) (y_X6_byteAt a0 p1 h) e
def f_X6_skipBlanks_J37 (h : xH) : Option (xH) :=
  some h
theorem y_X6_skipBlanks_J37 {g : xG} {h0 : xH} {cl : Bool} (h : xH) : Y g DX6_skipBlanks h0 cl iV (f_X6_skipBlanks_J37 h) 37 [none] [] h := by
  unfold f_X6_skipBlanks_J37
  exact Y.vreturn rfl dX6_skipBlanks_37
def f_X6_skipBlanks_L0 (kE37 : xH → Option (xH)) : Nat → Nat → xH → Option (xH)
  | 0 => fun _ _ => none
  | n + 1 => fun x0 h =>
    (gI h 6 x0 5).bind fun v1 =>
    (gI h 6 x0 4).bind fun v2 =>
    if v1 ≥ v2 then
      kE37 h
    else
      (gI h 6 x0 5).bind fun v3 =>
      (vc h 6 x0 (f_X6_byteAt x0 v3 h)).bind fun r4 =>
      if r4.1 = (32 : Int32) then
        (gI r4.2 6 x0 5).bind fun v5 =>
        (pI r4.2 6 x0 5 (v5 + (1 : Int32))).bind fun h6 =>
        f_X6_skipBlanks_L0 kE37 n x0 h6
      else
        kE37 r4.2
theorem y_X6_skipBlanks_L0 {g : xG} {h0 : xH} {cl : Bool} {kE37 : xH → Option (xH)} (hkE37 : ∀  (h : xH), Y g DX6_skipBlanks h0 cl iV (kE37  h) 37 [none] [] h) : ∀ (n : Nat) (x0 : Nat) (h : xH), Y g DX6_skipBlanks h0 cl iV (f_X6_skipBlanks_L0 kE37 n x0 h) 0 [some (.ref x0)] [] h := by
  intro n
  induction n with
  | zero => intro x0 h; exact Y.nothing
  | succ n ih =>
    intro x0 h
    unfold f_X6_skipBlanks_L0
    refine Y.op (pc' := 1) (fun _ => X.aloadn rfl dX6_skipBlanks_0) ?_
    refine Y.getI fd_X6_28 rfl dX6_skipBlanks_1 (fun v1 => ?_)
    refine Y.op (pc' := 5) (fun _ => X.aloadn rfl dX6_skipBlanks_4) ?_
    refine Y.getI fd_X6_25 rfl dX6_skipBlanks_5 (fun v2 => ?_)
    refine Y.cmpge 37 (by decide) dX6_skipBlanks_8 ?_ ?_
    · exact Y.fg (hkE37 h) trivial
    · refine Y.op (pc' := 12) (fun _ => X.aloadn rfl dX6_skipBlanks_11) ?_
      refine Y.op (pc' := 13) (fun _ => X.aloadn rfl dX6_skipBlanks_12) ?_
      refine Y.getI fd_X6_28 rfl dX6_skipBlanks_13 (fun v3 => ?_)
      refine Y.callVi (As := [.int v3]) lk_X6_115 rfl cal_X6_byteAt vir_X6_byteAt (Nat.le_of_ble_eq_true rfl) (Nat.le_of_ble_eq_true rfl) rfl rfl rfl (Nat.le_of_ble_eq_true rfl) dX6_skipBlanks_16 (fun _ e => m_X6_byteAt x0 v3 h _ _ e) (fun r4 => ?_)
      refine Y.op (pc' := 21) (fun _ => X.bp kb_32 dX6_skipBlanks_19) ?_
      refine Y.cmpne 37 (by decide) dX6_skipBlanks_21 ?_ ?_
      · exact Y.fg (hkE37 r4.2) trivial
      · refine Y.op (pc' := 25) (fun _ => X.aloadn rfl dX6_skipBlanks_24) ?_
        refine Y.op (pc' := 26) (fun _ => X.dup rfl dX6_skipBlanks_25) ?_
        refine Y.getI fd_X6_28 rfl dX6_skipBlanks_26 (fun v5 => ?_)
        refine Y.op (pc' := 30) (fun _ => X.ic ki_1 dX6_skipBlanks_29) ?_
        refine Y.op (pc' := 31) (fun _ => X.iadd dX6_skipBlanks_30) ?_
        refine Y.putI fd_X6_28 rfl dX6_skipBlanks_31 (fun h6 => ?_)
        refine Y.op (pc' := 0) (fun _ => X.goto 0 (by decide) dX6_skipBlanks_34) ?_
        exact ih x0 h6
def f_X6_skipBlanks (a0 : Nat) (h : xH) : Option (xH) :=
  f_X6_skipBlanks_L0 (f_X6_skipBlanks_J37) 5000 a0 h
theorem y_X6_skipBlanks {g : xG} {h0 : xH} {cl : Bool} (a0 : Nat) (h : xH) : Y g DX6_skipBlanks h0 cl iV (f_X6_skipBlanks a0 h) 0 [some (.ref a0)] [] h := by
  unfold f_X6_skipBlanks
  exact y_X6_skipBlanks_L0 (y_X6_skipBlanks_J37) 5000 a0 h
theorem m_X6_skipBlanks {g : xG} (a0 : Nat) (h : xH) (cl : Bool) (r : xH) (e : f_X6_skipBlanks a0 h = some r) : XM g DX6_skipBlanks [.ref a0] h cl (iV r) := YM.of rfl rfl (Nat.le_of_ble_eq_true rfl) (y_X6_skipBlanks a0 h) e
def f_X6_moreStands_J20 (s0 : Int32) (h : xH) : Option (Int32 × xH) :=
  if s0 = 0 ∨ s0 = 1 then some (s0, h) else none
theorem y_X6_moreStands_J20 {g : xG} {h0 : xH} {cl : Bool} (s0 : Int32) (h : xH) : Y g DX6_moreStands h0 cl iI (f_X6_moreStands_J20 s0 h) 20 [none] [.int s0] h := by
  unfold f_X6_moreStands_J20
  exact Y.zreturn rfl dX6_moreStands_20
def f_X6_moreStands (a0 : Nat) (h : xH) : Option (Int32 × xH) :=
  (vc h 6 a0 (f_X6_skipBlanks a0 h)).bind fun h1 =>
  (gI h1 6 a0 5).bind fun v2 =>
  (gI h1 6 a0 4).bind fun v3 =>
  if v2 ≥ v3 then
    f_X6_moreStands_J20 (0 : Int32) h1
  else
    f_X6_moreStands_J20 (1 : Int32) h1
theorem y_X6_moreStands {g : xG} {h0 : xH} {cl : Bool} (a0 : Nat) (h : xH) : Y g DX6_moreStands h0 cl iI (f_X6_moreStands a0 h) 0 [some (.ref a0)] [] h := by
  unfold f_X6_moreStands
  refine Y.op (pc' := 1) (fun _ => X.aloadn rfl dX6_moreStands_0) ?_
  refine Y.callVv (As := []) lk_X6_112 rfl cal_X6_skipBlanks vir_X6_skipBlanks (Nat.le_of_ble_eq_true rfl) (Nat.le_of_ble_eq_true rfl) rfl rfl rfl (Nat.le_of_ble_eq_true rfl) dX6_moreStands_1 (fun _ e => m_X6_skipBlanks a0 h _ _ e) (fun h1 => ?_)
  refine Y.op (pc' := 5) (fun _ => X.aloadn rfl dX6_moreStands_4) ?_
  refine Y.getI fd_X6_28 rfl dX6_moreStands_5 (fun v2 => ?_)
  refine Y.op (pc' := 9) (fun _ => X.aloadn rfl dX6_moreStands_8) ?_
  refine Y.getI fd_X6_25 rfl dX6_moreStands_9 (fun v3 => ?_)
  refine Y.cmpge 19 (by decide) dX6_moreStands_12 ?_ ?_
  · refine Y.op (pc' := 20) (fun _ => X.ic ki_0 dX6_moreStands_19) ?_
    exact Y.fg (y_X6_moreStands_J20 (0 : Int32) h1) trivial
  · refine Y.op (pc' := 16) (fun _ => X.ic ki_1 dX6_moreStands_15) ?_
    refine Y.op (pc' := 20) (fun _ => X.goto 20 (by decide) dX6_moreStands_16) ?_
    exact Y.fg (y_X6_moreStands_J20 (1 : Int32) h1) trivial
theorem m_X6_moreStands {g : xG} (a0 : Nat) (h : xH) (cl : Bool) (r : Int32 × xH) (e : f_X6_moreStands a0 h = some r) : XM g DX6_moreStands [.ref a0] h cl (iI r) := YM.of rfl rfl (Nat.le_of_ble_eq_true rfl) (y_X6_moreStands a0 h) e
def f_X6_isFault (a0 : Nat) (p1 : Int32) (p2 : Int32) (h : xH) : Option (Int32 × xH) :=
  (pI h 6 a0 3 p1).bind fun h1 =>
  (pI h1 6 a0 2 p2).bind fun h2 =>
  if (0 : Int32) = 0 ∨ (0 : Int32) = 1 then some ((0 : Int32), h2) else none
theorem y_X6_isFault {g : xG} {h0 : xH} {cl : Bool} (a0 : Nat) (p1 : Int32) (p2 : Int32) (h : xH) : Y g DX6_isFault h0 cl iI (f_X6_isFault a0 p1 p2 h) 0 [some (.ref a0), some (.int p1), some (.int p2)] [] h := by
  unfold f_X6_isFault
  refine Y.op (pc' := 1) (fun _ => X.aloadn rfl dX6_isFault_0) ?_
  refine Y.op (pc' := 2) (fun _ => X.iloadn rfl dX6_isFault_1) ?_
  refine Y.putI fd_X6_22 rfl dX6_isFault_2 (fun h1 => ?_)
  refine Y.op (pc' := 6) (fun _ => X.aloadn rfl dX6_isFault_5) ?_
  refine Y.op (pc' := 7) (fun _ => X.iloadn rfl dX6_isFault_6) ?_
  refine Y.putI fd_X6_19 rfl dX6_isFault_7 (fun h2 => ?_)
  refine Y.op (pc' := 11) (fun _ => X.ic ki_0 dX6_isFault_10) ?_
  exact Y.zreturn rfl dX6_isFault_11
theorem m_X6_isFault {g : xG} (a0 : Nat) (p1 : Int32) (p2 : Int32) (h : xH) (cl : Bool) (r : Int32 × xH) (e : f_X6_isFault a0 p1 p2 h = some r) : XM g DX6_isFault [.ref a0, .int p1, .int p2] h cl (iI r) := YM.of rfl rfl (Nat.le_of_ble_eq_true rfl) (y_X6_isFault a0 p1 p2 h) e
def f_X6_readEnd (a0 : Nat) (h : xH) : Option (Int32 × xH) :=
  (vc h 6 a0 (f_X6_skipBlanks a0 h)).bind fun h1 =>
  (gI h1 6 a0 5).bind fun v2 =>
  (vc h1 6 a0 (f_X6_byteAt a0 v2 h1)).bind fun r3 =>
  if r3.1 = (59 : Int32) then
    (gI r3.2 6 a0 5).bind fun v4 =>
    (pI r3.2 6 a0 5 (v4 + (1 : Int32))).bind fun h5 =>
    if (1 : Int32) = 0 ∨ (1 : Int32) = 1 then some ((1 : Int32), h5) else none
  else
    (gI r3.2 6 a0 5).bind fun v6 =>
    (vc r3.2 6 a0 (f_X6_isFault a0 (1 : Int32) v6 r3.2)).bind fun r7 =>
    if r7.1 = 0 ∨ r7.1 = 1 then some (r7.1, r7.2) else none
theorem y_X6_readEnd {g : xG} {h0 : xH} {cl : Bool} (a0 : Nat) (h : xH) : Y g DX6_readEnd h0 cl iI (f_X6_readEnd a0 h) 0 [some (.ref a0)] [] h := by
  unfold f_X6_readEnd
  refine Y.op (pc' := 1) (fun _ => X.aloadn rfl dX6_readEnd_0) ?_
  refine Y.callVv (As := []) lk_X6_112 rfl cal_X6_skipBlanks vir_X6_skipBlanks (Nat.le_of_ble_eq_true rfl) (Nat.le_of_ble_eq_true rfl) rfl rfl rfl (Nat.le_of_ble_eq_true rfl) dX6_readEnd_1 (fun _ e => m_X6_skipBlanks a0 h _ _ e) (fun h1 => ?_)
  refine Y.op (pc' := 5) (fun _ => X.aloadn rfl dX6_readEnd_4) ?_
  refine Y.op (pc' := 6) (fun _ => X.aloadn rfl dX6_readEnd_5) ?_
  refine Y.getI fd_X6_28 rfl dX6_readEnd_6 (fun v2 => ?_)
  refine Y.callVi (As := [.int v2]) lk_X6_115 rfl cal_X6_byteAt vir_X6_byteAt (Nat.le_of_ble_eq_true rfl) (Nat.le_of_ble_eq_true rfl) rfl rfl rfl (Nat.le_of_ble_eq_true rfl) dX6_readEnd_9 (fun _ e => m_X6_byteAt a0 v2 h1 _ _ e) (fun r3 => ?_)
  refine Y.op (pc' := 14) (fun _ => X.bp kb_59 dX6_readEnd_12) ?_
  refine Y.cmpeq 27 (by decide) dX6_readEnd_14 ?_ ?_
  · refine Y.op (pc' := 28) (fun _ => X.aloadn rfl dX6_readEnd_27) ?_
    refine Y.op (pc' := 29) (fun _ => X.dup rfl dX6_readEnd_28) ?_
    refine Y.getI fd_X6_28 rfl dX6_readEnd_29 (fun v4 => ?_)
    refine Y.op (pc' := 33) (fun _ => X.ic ki_1 dX6_readEnd_32) ?_
    refine Y.op (pc' := 34) (fun _ => X.iadd dX6_readEnd_33) ?_
    refine Y.putI fd_X6_28 rfl dX6_readEnd_34 (fun h5 => ?_)
    refine Y.op (pc' := 38) (fun _ => X.ic ki_1 dX6_readEnd_37) ?_
    exact Y.zreturn rfl dX6_readEnd_38
  · refine Y.op (pc' := 18) (fun _ => X.aloadn rfl dX6_readEnd_17) ?_
    refine Y.op (pc' := 19) (fun _ => X.ic ki_1 dX6_readEnd_18) ?_
    refine Y.op (pc' := 20) (fun _ => X.aloadn rfl dX6_readEnd_19) ?_
    refine Y.getI fd_X6_28 rfl dX6_readEnd_20 (fun v6 => ?_)
    refine Y.callVi (As := [.int (1 : Int32), .int v6]) lk_X6_105 rfl cal_X6_isFault vir_X6_isFault (Nat.le_of_ble_eq_true rfl) (Nat.le_of_ble_eq_true rfl) rfl rfl rfl (Nat.le_of_ble_eq_true rfl) dX6_readEnd_23 (fun _ e => m_X6_isFault a0 (1 : Int32) v6 r3.2 _ _ e) (fun r7 => ?_)
    exact Y.zreturn rfl dX6_readEnd_26
theorem m_X6_readEnd {g : xG} (a0 : Nat) (h : xH) (cl : Bool) (r : Int32 × xH) (e : f_X6_readEnd a0 h = some r) : XM g DX6_readEnd [.ref a0] h cl (iI r) := YM.of rfl rfl (Nat.le_of_ble_eq_true rfl) (y_X6_readEnd a0 h) e
def f_X6_isDigit_J17 (s0 : Int32) (h : xH) : Option (Int32 × xH) :=
  if s0 = 0 ∨ s0 = 1 then some (s0, h) else none
theorem y_X6_isDigit_J17 {g : xG} {h0 : xH} {cl : Bool} (s0 : Int32) (h : xH) : Y g DX6_isDigit h0 cl iI (f_X6_isDigit_J17 s0 h) 17 [none] [.int s0] h := by
  unfold f_X6_isDigit_J17
  exact Y.zreturn rfl dX6_isDigit_17
def f_X6_isDigit_J16 (h : xH) : Option (Int32 × xH) :=
  f_X6_isDigit_J17 (0 : Int32) h
theorem y_X6_isDigit_J16 {g : xG} {h0 : xH} {cl : Bool} (h : xH) : Y g DX6_isDigit h0 cl iI (f_X6_isDigit_J16 h) 16 [none] [] h := by
  unfold f_X6_isDigit_J16
  refine Y.op (pc' := 17) (fun _ => X.ic ki_0 dX6_isDigit_16) ?_
  exact y_X6_isDigit_J17 (0 : Int32) h
def f_X6_isDigit (p1 : Int32) (h : xH) : Option (Int32 × xH) :=
  if p1 < (48 : Int32) then
    f_X6_isDigit_J16 h
  else
    if p1 > (57 : Int32) then
      f_X6_isDigit_J16 h
    else
      f_X6_isDigit_J17 (1 : Int32) h
theorem y_X6_isDigit {g : xG} {h0 : xH} {cl : Bool} (p1 : Int32) (h : xH) : Y g DX6_isDigit h0 cl iI (f_X6_isDigit p1 h) 0 [some (.int p1)] [] h := by
  unfold f_X6_isDigit
  refine Y.op (pc' := 1) (fun _ => X.iloadn rfl dX6_isDigit_0) ?_
  refine Y.op (pc' := 3) (fun _ => X.bp kb_48 dX6_isDigit_1) ?_
  refine Y.cmplt 16 (by decide) dX6_isDigit_3 ?_ ?_
  · exact Y.fg (y_X6_isDigit_J16 h) trivial
  · refine Y.op (pc' := 7) (fun _ => X.iloadn rfl dX6_isDigit_6) ?_
    refine Y.op (pc' := 9) (fun _ => X.bp kb_57 dX6_isDigit_7) ?_
    refine Y.cmpgt 16 (by decide) dX6_isDigit_9 ?_ ?_
    · exact Y.fg (y_X6_isDigit_J16 h) trivial
    · refine Y.op (pc' := 13) (fun _ => X.ic ki_1 dX6_isDigit_12) ?_
      refine Y.op (pc' := 17) (fun _ => X.goto 17 (by decide) dX6_isDigit_13) ?_
      exact Y.fg (y_X6_isDigit_J17 (1 : Int32) h) trivial
theorem m_X6_isDigit {g : xG} (p1 : Int32) (h : xH) (cl : Bool) (r : Int32 × xH) (e : f_X6_isDigit p1 h = some r) : XM g DX6_isDigit [.int p1] h cl (iI r) := YM.of rfl rfl (Nat.le_of_ble_eq_true rfl) (y_X6_isDigit p1 h) e
def f_X6_value_J52 (x1 : Int32) (h : xH) : Option (Int32 × xH) :=
  some (x1, h)
theorem y_X6_value_J52 {g : xG} {h0 : xH} {cl : Bool} (x1 : Int32) (h : xH) : Y g DX6_value h0 cl iI (f_X6_value_J52 x1 h) 52 [none, some (.int x1), none] [] h := by
  unfold f_X6_value_J52
  refine Y.op (pc' := 53) (fun _ => X.iloadn rfl dX6_value_52) ?_
  exact Y.ireturn rfl dX6_value_53
def f_X6_value_L7 (kE52 : Int32 → xH → Option (Int32 × xH)) : Nat → Nat → Int32 → Int32 → xH → Option (Int32 × xH)
  | 0 => fun _ _ _ _ => none
  | n + 1 => fun x0 x1 x2 h =>
    (gI h 6 x0 4).bind fun v1 =>
    if x2 ≥ v1 then
      kE52 x1 h
    else
      (vc h 6 x0 (f_X6_byteAt x0 x2 h)).bind fun r2 =>
      (f_X6_isDigit r2.1 r2.2).bind fun r3 =>
      if r3.1 = (0 : Int32) then
        kE52 x1 r3.2
      else
        (vc r3.2 6 x0 (f_X6_byteAt x0 x2 r3.2)).bind fun r4 =>
        lt ((imin (1000 : Int32) (((x1 * (10 : Int32)) + r4.1) - (48 : Int32)))) fun v5 =>
        lt (x2 + (1 : Int32)) fun v6 =>
        f_X6_value_L7 kE52 n x0 v5 v6 r4.2
theorem y_X6_value_L7 {g : xG} {h0 : xH} {cl : Bool} {kE52 : Int32 → xH → Option (Int32 × xH)} (hkE52 : ∀ (x1 : Int32) (h : xH), Y g DX6_value h0 cl iI (kE52 x1 h) 52 [none, some (.int x1), none] [] h) : ∀ (n : Nat) (x0 : Nat) (x1 : Int32) (x2 : Int32) (h : xH), Y g DX6_value h0 cl iI (f_X6_value_L7 kE52 n x0 x1 x2 h) 7 [some (.ref x0), some (.int x1), some (.int x2)] [] h := by
  intro n
  induction n with
  | zero => intro x0 x1 x2 h; exact Y.nothing
  | succ n ih =>
    intro x0 x1 x2 h
    unfold f_X6_value_L7
    refine Y.op (pc' := 8) (fun _ => X.iloadn rfl dX6_value_7) ?_
    refine Y.op (pc' := 9) (fun _ => X.aloadn rfl dX6_value_8) ?_
    refine Y.getI fd_X6_25 rfl dX6_value_9 (fun v1 => ?_)
    refine Y.cmpge 52 (by decide) dX6_value_12 ?_ ?_
    · exact Y.fg (hkE52 x1 h) (And.intro rfl trivial)
    · refine Y.op (pc' := 16) (fun _ => X.aloadn rfl dX6_value_15) ?_
      refine Y.op (pc' := 17) (fun _ => X.iloadn rfl dX6_value_16) ?_
      refine Y.callVi (As := [.int x2]) lk_X6_115 rfl cal_X6_byteAt vir_X6_byteAt (Nat.le_of_ble_eq_true rfl) (Nat.le_of_ble_eq_true rfl) rfl rfl rfl (Nat.le_of_ble_eq_true rfl) dX6_value_17 (fun _ e => m_X6_byteAt x0 x2 h _ _ e) (fun r2 => ?_)
      refine Y.callSi (As := [.int r2.1]) lk_X6_119 rfl cal_X6_isDigit sta_X6_isDigit (Nat.le_of_ble_eq_true rfl) rfl rfl (Nat.le_of_ble_eq_true rfl) dX6_value_20 (fun _ e => m_X6_isDigit r2.1 r2.2 _ _ e) (fun r3 => ?_)
      refine Y.ifeq 52 (by decide) dX6_value_23 ?_ ?_
      · exact Y.fg (hkE52 x1 r3.2) (And.intro rfl trivial)
      · refine Y.op (pc' := 29) (fun _ => X.sp ks_1000 dX6_value_26) ?_
        refine Y.op (pc' := 30) (fun _ => X.iloadn rfl dX6_value_29) ?_
        refine Y.op (pc' := 32) (fun _ => X.bp kb_10 dX6_value_30) ?_
        refine Y.op (pc' := 33) (fun _ => X.imul dX6_value_32) ?_
        refine Y.op (pc' := 34) (fun _ => X.aloadn rfl dX6_value_33) ?_
        refine Y.op (pc' := 35) (fun _ => X.iloadn rfl dX6_value_34) ?_
        refine Y.callVi (As := [.int x2]) lk_X6_115 rfl cal_X6_byteAt vir_X6_byteAt (Nat.le_of_ble_eq_true rfl) (Nat.le_of_ble_eq_true rfl) rfl rfl rfl (Nat.le_of_ble_eq_true rfl) dX6_value_35 (fun _ e => m_X6_byteAt x0 x2 r3.2 _ _ e) (fun r4 => ?_)
        refine Y.op (pc' := 39) (fun _ => X.iadd dX6_value_38) ?_
        refine Y.op (pc' := 41) (fun _ => X.bp kb_48 dX6_value_39) ?_
        refine Y.op (pc' := 42) (fun _ => X.isub dX6_value_41) ?_
        refine Y.mmin mw_X6_165 rfl (Nat.le_of_ble_eq_true rfl) (Nat.le_of_ble_eq_true rfl) dX6_value_42 ?_
        refine Y.top (fun v5 => ?_)
        refine Y.op (pc' := 46) (loc' := [some (.ref x0), some (.int v5), some (.int x2)]) (fun _ => X.istoren (Nat.le_of_ble_eq_true rfl) rfl dX6_value_45) ?_
        refine Y.iinc (i := 2) (loc' := fun v6 => [some (.ref x0), some (.int v5), some (.int v6)]) rfl (Nat.le_of_ble_eq_true rfl) ki_1 (fun _ => rfl) dX6_value_46 (fun v6 => ?_)
        refine Y.op (pc' := 7) (fun _ => X.goto 7 (by decide) dX6_value_49) ?_
        exact ih x0 v5 v6 r4.2
def f_X6_value (a0 : Nat) (h : xH) : Option (Int32 × xH) :=
  (gI h 6 a0 6).bind fun v1 =>
  f_X6_value_L7 (f_X6_value_J52) 5000 a0 (0 : Int32) v1 h
theorem y_X6_value {g : xG} {h0 : xH} {cl : Bool} (a0 : Nat) (h : xH) : Y g DX6_value h0 cl iI (f_X6_value a0 h) 0 [some (.ref a0), none, none] [] h := by
  unfold f_X6_value
  refine Y.op (pc' := 1) (fun _ => X.ic ki_0 dX6_value_0) ?_
  refine Y.op (pc' := 2) (loc' := [some (.ref a0), some (.int (0 : Int32)), none]) (fun _ => X.istoren (Nat.le_of_ble_eq_true rfl) rfl dX6_value_1) ?_
  refine Y.op (pc' := 3) (fun _ => X.aloadn rfl dX6_value_2) ?_
  refine Y.getI fd_X6_31 rfl dX6_value_3 (fun v1 => ?_)
  refine Y.op (pc' := 7) (loc' := [some (.ref a0), some (.int (0 : Int32)), some (.int v1)]) (fun _ => X.istoren (Nat.le_of_ble_eq_true rfl) rfl dX6_value_6) ?_
  exact y_X6_value_L7 (y_X6_value_J52) 5000 a0 (0 : Int32) v1 h
theorem m_X6_value {g : xG} (a0 : Nat) (h : xH) (cl : Bool) (r : Int32 × xH) (e : f_X6_value a0 h = some r) : XM g DX6_value [.ref a0] h cl (iI r) := YM.of rfl rfl (Nat.le_of_ble_eq_true rfl) (y_X6_value a0 h) e
def f_X6_readNumber_J103 (s0 : Int32) (h : xH) : Option (Int32 × xH) :=
  if s0 = 0 ∨ s0 = 1 then some (s0, h) else none
theorem y_X6_readNumber_J103 {g : xG} {h0 : xH} {cl : Bool} (s0 : Int32) (h : xH) : Y g DX6_readNumber h0 cl iI (f_X6_readNumber_J103 s0 h) 103 [none, none, none, none] [.int s0] h := by
  unfold f_X6_readNumber_J103
  exact Y.zreturn rfl dX6_readNumber_103
def f_X6_readNumber_J98 (h : xH) : Option (Int32 × xH) :=
  f_X6_readNumber_J103 (1 : Int32) h
theorem y_X6_readNumber_J98 {g : xG} {h0 : xH} {cl : Bool} (h : xH) : Y g DX6_readNumber h0 cl iI (f_X6_readNumber_J98 h) 98 [none, none, none, none] [] h := by
  unfold f_X6_readNumber_J98
  refine Y.op (pc' := 99) (fun _ => X.ic ki_1 dX6_readNumber_98) ?_
  refine Y.op (pc' := 103) (fun _ => X.goto 103 (by decide) dX6_readNumber_99) ?_
  exact y_X6_readNumber_J103 (1 : Int32) h
def f_X6_readNumber_J86 (x0 : Nat) (h : xH) : Option (Int32 × xH) :=
  (gI h 6 x0 6).bind fun v1 =>
  (vc h 6 x0 (f_X6_isFault x0 (2 : Int32) v1 h)).bind fun r2 =>
  if r2.1 = (0 : Int32) then
    f_X6_readNumber_J103 (0 : Int32) r2.2
  else
    f_X6_readNumber_J98 r2.2
theorem y_X6_readNumber_J86 {g : xG} {h0 : xH} {cl : Bool} (x0 : Nat) (h : xH) : Y g DX6_readNumber h0 cl iI (f_X6_readNumber_J86 x0 h) 86 [some (.ref x0), none, none, none] [] h := by
  unfold f_X6_readNumber_J86
  refine Y.op (pc' := 87) (fun _ => X.aloadn rfl dX6_readNumber_86) ?_
  refine Y.op (pc' := 88) (fun _ => X.ic ki_2 dX6_readNumber_87) ?_
  refine Y.op (pc' := 89) (fun _ => X.aloadn rfl dX6_readNumber_88) ?_
  refine Y.getI fd_X6_31 rfl dX6_readNumber_89 (fun v1 => ?_)
  refine Y.callVi (As := [.int (2 : Int32), .int v1]) lk_X6_105 rfl cal_X6_isFault vir_X6_isFault (Nat.le_of_ble_eq_true rfl) (Nat.le_of_ble_eq_true rfl) rfl rfl rfl (Nat.le_of_ble_eq_true rfl) dX6_readNumber_92 (fun _ e => m_X6_isFault x0 (2 : Int32) v1 h _ _ e) (fun r2 => ?_)
  refine Y.ifeq 102 (by decide) dX6_readNumber_95 ?_ ?_
  · refine Y.op (pc' := 103) (fun _ => X.ic ki_0 dX6_readNumber_102) ?_
    exact Y.fg (y_X6_readNumber_J103 (0 : Int32) r2.2) trivial
  · exact Y.fg (y_X6_readNumber_J98 r2.2) trivial
def f_X6_readNumber_J50 (x0 : Nat) (x1 : Int32) (x2 : Int32) (h : xH) : Option (Int32 × xH) :=
  (gI h 6 x0 5).bind fun v1 =>
  (gI h 6 x0 6).bind fun v2 =>
  if v1 = v2 then
    (gI h 6 x0 6).bind fun v4 =>
    (vc h 6 x0 (f_X6_isFault x0 (1 : Int32) v4 h)).bind fun r5 =>
    if r5.1 = 0 ∨ r5.1 = 1 then some (r5.1, r5.2) else none
  else
    (vc h 6 x0 (f_X6_value x0 h)).bind fun r3 =>
    if r3.1 < x1 then
      f_X6_readNumber_J86 x0 r3.2
    else
      if r3.1 ≤ x2 then
        f_X6_readNumber_J98 r3.2
      else
        f_X6_readNumber_J86 x0 r3.2
theorem y_X6_readNumber_J50 {g : xG} {h0 : xH} {cl : Bool} (x0 : Nat) (x1 : Int32) (x2 : Int32) (h : xH) : Y g DX6_readNumber h0 cl iI (f_X6_readNumber_J50 x0 x1 x2 h) 50 [some (.ref x0), some (.int x1), some (.int x2), none] [] h := by
  unfold f_X6_readNumber_J50
  refine Y.op (pc' := 51) (fun _ => X.aloadn rfl dX6_readNumber_50) ?_
  refine Y.getI fd_X6_28 rfl dX6_readNumber_51 (fun v1 => ?_)
  refine Y.op (pc' := 55) (fun _ => X.aloadn rfl dX6_readNumber_54) ?_
  refine Y.getI fd_X6_31 rfl dX6_readNumber_55 (fun v2 => ?_)
  refine Y.cmpne 71 (by decide) dX6_readNumber_58 ?_ ?_
  · refine Y.op (pc' := 72) (fun _ => X.aloadn rfl dX6_readNumber_71) ?_
    refine Y.callVi (As := []) lk_X6_62 rfl cal_X6_value vir_X6_value (Nat.le_of_ble_eq_true rfl) (Nat.le_of_ble_eq_true rfl) rfl rfl rfl (Nat.le_of_ble_eq_true rfl) dX6_readNumber_72 (fun _ e => m_X6_value x0 h _ _ e) (fun r3 => ?_)
    refine Y.op (pc' := 76) (loc' := [some (.ref x0), some (.int x1), some (.int x2), some (.int r3.1)]) (fun _ => X.istoren (Nat.le_of_ble_eq_true rfl) rfl dX6_readNumber_75) ?_
    refine Y.op (pc' := 77) (fun _ => X.iloadn rfl dX6_readNumber_76) ?_
    refine Y.op (pc' := 78) (fun _ => X.iloadn rfl dX6_readNumber_77) ?_
    refine Y.cmplt 86 (by decide) dX6_readNumber_78 ?_ ?_
    · exact Y.fg (y_X6_readNumber_J86 x0 r3.2) (And.intro rfl trivial)
    · refine Y.op (pc' := 82) (fun _ => X.iloadn rfl dX6_readNumber_81) ?_
      refine Y.op (pc' := 83) (fun _ => X.iloadn rfl dX6_readNumber_82) ?_
      refine Y.cmple 98 (by decide) dX6_readNumber_83 ?_ ?_
      · exact Y.fg (y_X6_readNumber_J98 r3.2) trivial
      · exact Y.fg (y_X6_readNumber_J86 x0 r3.2) (And.intro rfl trivial)
  · refine Y.op (pc' := 62) (fun _ => X.aloadn rfl dX6_readNumber_61) ?_
    refine Y.op (pc' := 63) (fun _ => X.ic ki_1 dX6_readNumber_62) ?_
    refine Y.op (pc' := 64) (fun _ => X.aloadn rfl dX6_readNumber_63) ?_
    refine Y.getI fd_X6_31 rfl dX6_readNumber_64 (fun v4 => ?_)
    refine Y.callVi (As := [.int (1 : Int32), .int v4]) lk_X6_105 rfl cal_X6_isFault vir_X6_isFault (Nat.le_of_ble_eq_true rfl) (Nat.le_of_ble_eq_true rfl) rfl rfl rfl (Nat.le_of_ble_eq_true rfl) dX6_readNumber_67 (fun _ e => m_X6_isFault x0 (1 : Int32) v4 h _ _ e) (fun r5 => ?_)
    exact Y.zreturn rfl dX6_readNumber_70
def f_X6_readNumber_L12 (kE50 : Nat → Int32 → Int32 → xH → Option (Int32 × xH)) : Nat → Nat → Int32 → Int32 → xH → Option (Int32 × xH)
  | 0 => fun _ _ _ _ => none
  | n + 1 => fun x0 x1 x2 h =>
    (gI h 6 x0 5).bind fun v1 =>
    (gI h 6 x0 4).bind fun v2 =>
    if v1 ≥ v2 then
      kE50 x0 x1 x2 h
    else
      (gI h 6 x0 5).bind fun v3 =>
      (vc h 6 x0 (f_X6_byteAt x0 v3 h)).bind fun r4 =>
      (f_X6_isDigit r4.1 r4.2).bind fun r5 =>
      if r5.1 = (0 : Int32) then
        kE50 x0 x1 x2 r5.2
      else
        (gI r5.2 6 x0 5).bind fun v6 =>
        (pI r5.2 6 x0 5 (v6 + (1 : Int32))).bind fun h7 =>
        f_X6_readNumber_L12 kE50 n x0 x1 x2 h7
theorem y_X6_readNumber_L12 {g : xG} {h0 : xH} {cl : Bool} {kE50 : Nat → Int32 → Int32 → xH → Option (Int32 × xH)} (hkE50 : ∀ (x0 : Nat) (x1 : Int32) (x2 : Int32) (h : xH), Y g DX6_readNumber h0 cl iI (kE50 x0 x1 x2 h) 50 [some (.ref x0), some (.int x1), some (.int x2), none] [] h) : ∀ (n : Nat) (x0 : Nat) (x1 : Int32) (x2 : Int32) (h : xH), Y g DX6_readNumber h0 cl iI (f_X6_readNumber_L12 kE50 n x0 x1 x2 h) 12 [some (.ref x0), some (.int x1), some (.int x2), none] [] h := by
  intro n
  induction n with
  | zero => intro x0 x1 x2 h; exact Y.nothing
  | succ n ih =>
    intro x0 x1 x2 h
    unfold f_X6_readNumber_L12
    refine Y.op (pc' := 13) (fun _ => X.aloadn rfl dX6_readNumber_12) ?_
    refine Y.getI fd_X6_28 rfl dX6_readNumber_13 (fun v1 => ?_)
    refine Y.op (pc' := 17) (fun _ => X.aloadn rfl dX6_readNumber_16) ?_
    refine Y.getI fd_X6_25 rfl dX6_readNumber_17 (fun v2 => ?_)
    refine Y.cmpge 50 (by decide) dX6_readNumber_20 ?_ ?_
    · exact hkE50 x0 x1 x2 h
    · refine Y.op (pc' := 24) (fun _ => X.aloadn rfl dX6_readNumber_23) ?_
      refine Y.op (pc' := 25) (fun _ => X.aloadn rfl dX6_readNumber_24) ?_
      refine Y.getI fd_X6_28 rfl dX6_readNumber_25 (fun v3 => ?_)
      refine Y.callVi (As := [.int v3]) lk_X6_115 rfl cal_X6_byteAt vir_X6_byteAt (Nat.le_of_ble_eq_true rfl) (Nat.le_of_ble_eq_true rfl) rfl rfl rfl (Nat.le_of_ble_eq_true rfl) dX6_readNumber_28 (fun _ e => m_X6_byteAt x0 v3 h _ _ e) (fun r4 => ?_)
      refine Y.callSi (As := [.int r4.1]) lk_X6_119 rfl cal_X6_isDigit sta_X6_isDigit (Nat.le_of_ble_eq_true rfl) rfl rfl (Nat.le_of_ble_eq_true rfl) dX6_readNumber_31 (fun _ e => m_X6_isDigit r4.1 r4.2 _ _ e) (fun r5 => ?_)
      refine Y.ifeq 50 (by decide) dX6_readNumber_34 ?_ ?_
      · exact hkE50 x0 x1 x2 r5.2
      · refine Y.op (pc' := 38) (fun _ => X.aloadn rfl dX6_readNumber_37) ?_
        refine Y.op (pc' := 39) (fun _ => X.dup rfl dX6_readNumber_38) ?_
        refine Y.getI fd_X6_28 rfl dX6_readNumber_39 (fun v6 => ?_)
        refine Y.op (pc' := 43) (fun _ => X.ic ki_1 dX6_readNumber_42) ?_
        refine Y.op (pc' := 44) (fun _ => X.iadd dX6_readNumber_43) ?_
        refine Y.putI fd_X6_28 rfl dX6_readNumber_44 (fun h7 => ?_)
        refine Y.op (pc' := 12) (fun _ => X.goto 12 (by decide) dX6_readNumber_47) ?_
        exact ih x0 x1 x2 h7
def f_X6_readNumber (a0 : Nat) (p1 : Int32) (p2 : Int32) (h : xH) : Option (Int32 × xH) :=
  (vc h 6 a0 (f_X6_skipBlanks a0 h)).bind fun h1 =>
  (gI h1 6 a0 5).bind fun v2 =>
  (pI h1 6 a0 6 v2).bind fun h3 =>
  f_X6_readNumber_L12 (f_X6_readNumber_J50) 5000 a0 p1 p2 h3
theorem y_X6_readNumber {g : xG} {h0 : xH} {cl : Bool} (a0 : Nat) (p1 : Int32) (p2 : Int32) (h : xH) : Y g DX6_readNumber h0 cl iI (f_X6_readNumber a0 p1 p2 h) 0 [some (.ref a0), some (.int p1), some (.int p2), none] [] h := by
  unfold f_X6_readNumber
  refine Y.op (pc' := 1) (fun _ => X.aloadn rfl dX6_readNumber_0) ?_
  refine Y.callVv (As := []) lk_X6_112 rfl cal_X6_skipBlanks vir_X6_skipBlanks (Nat.le_of_ble_eq_true rfl) (Nat.le_of_ble_eq_true rfl) rfl rfl rfl (Nat.le_of_ble_eq_true rfl) dX6_readNumber_1 (fun _ e => m_X6_skipBlanks a0 h _ _ e) (fun h1 => ?_)
  refine Y.op (pc' := 5) (fun _ => X.aloadn rfl dX6_readNumber_4) ?_
  refine Y.op (pc' := 6) (fun _ => X.aloadn rfl dX6_readNumber_5) ?_
  refine Y.getI fd_X6_28 rfl dX6_readNumber_6 (fun v2 => ?_)
  refine Y.putI fd_X6_31 rfl dX6_readNumber_9 (fun h3 => ?_)
  exact y_X6_readNumber_L12 (y_X6_readNumber_J50) 5000 a0 p1 p2 h3
theorem m_X6_readNumber {g : xG} (a0 : Nat) (p1 : Int32) (p2 : Int32) (h : xH) (cl : Bool) (r : Int32 × xH) (e : f_X6_readNumber a0 p1 p2 h = some r) : XM g DX6_readNumber [.ref a0, .int p1, .int p2] h cl (iI r) := YM.of rfl rfl (Nat.le_of_ble_eq_true rfl) (y_X6_readNumber a0 p1 p2 h) e
def f_X6_takeWord_J62 (h : xH) : Option (xH) :=
  some h
theorem y_X6_takeWord_J62 {g : xG} {h0 : xH} {cl : Bool} (h : xH) : Y g DX6_takeWord h0 cl iV (f_X6_takeWord_J62 h) 62 [none] [] h := by
  unfold f_X6_takeWord_J62
  exact Y.vreturn rfl dX6_takeWord_62
def f_X6_takeWord_L12 (kE62 : xH → Option (xH)) : Nat → Nat → xH → Option (xH)
  | 0 => fun _ _ => none
  | n + 1 => fun x0 h =>
    (gI h 6 x0 5).bind fun v1 =>
    (gI h 6 x0 4).bind fun v2 =>
    if v1 ≥ v2 then
      kE62 h
    else
      (gI h 6 x0 5).bind fun v3 =>
      (vc h 6 x0 (f_X6_byteAt x0 v3 h)).bind fun r4 =>
      if r4.1 < (97 : Int32) then
        kE62 r4.2
      else
        (gI r4.2 6 x0 5).bind fun v5 =>
        (vc r4.2 6 x0 (f_X6_byteAt x0 v5 r4.2)).bind fun r6 =>
        if r6.1 > (122 : Int32) then
          kE62 r6.2
        else
          (gI r6.2 6 x0 5).bind fun v7 =>
          (pI r6.2 6 x0 5 (v7 + (1 : Int32))).bind fun h8 =>
          f_X6_takeWord_L12 kE62 n x0 h8
theorem y_X6_takeWord_L12 {g : xG} {h0 : xH} {cl : Bool} {kE62 : xH → Option (xH)} (hkE62 : ∀  (h : xH), Y g DX6_takeWord h0 cl iV (kE62  h) 62 [none] [] h) : ∀ (n : Nat) (x0 : Nat) (h : xH), Y g DX6_takeWord h0 cl iV (f_X6_takeWord_L12 kE62 n x0 h) 12 [some (.ref x0)] [] h := by
  intro n
  induction n with
  | zero => intro x0 h; exact Y.nothing
  | succ n ih =>
    intro x0 h
    unfold f_X6_takeWord_L12
    refine Y.op (pc' := 13) (fun _ => X.aloadn rfl dX6_takeWord_12) ?_
    refine Y.getI fd_X6_28 rfl dX6_takeWord_13 (fun v1 => ?_)
    refine Y.op (pc' := 17) (fun _ => X.aloadn rfl dX6_takeWord_16) ?_
    refine Y.getI fd_X6_25 rfl dX6_takeWord_17 (fun v2 => ?_)
    refine Y.cmpge 62 (by decide) dX6_takeWord_20 ?_ ?_
    · exact Y.fg (hkE62 h) trivial
    · refine Y.op (pc' := 24) (fun _ => X.aloadn rfl dX6_takeWord_23) ?_
      refine Y.op (pc' := 25) (fun _ => X.aloadn rfl dX6_takeWord_24) ?_
      refine Y.getI fd_X6_28 rfl dX6_takeWord_25 (fun v3 => ?_)
      refine Y.callVi (As := [.int v3]) lk_X6_115 rfl cal_X6_byteAt vir_X6_byteAt (Nat.le_of_ble_eq_true rfl) (Nat.le_of_ble_eq_true rfl) rfl rfl rfl (Nat.le_of_ble_eq_true rfl) dX6_takeWord_28 (fun _ e => m_X6_byteAt x0 v3 h _ _ e) (fun r4 => ?_)
      refine Y.op (pc' := 33) (fun _ => X.bp kb_97 dX6_takeWord_31) ?_
      refine Y.cmplt 62 (by decide) dX6_takeWord_33 ?_ ?_
      · exact Y.fg (hkE62 r4.2) trivial
      · refine Y.op (pc' := 37) (fun _ => X.aloadn rfl dX6_takeWord_36) ?_
        refine Y.op (pc' := 38) (fun _ => X.aloadn rfl dX6_takeWord_37) ?_
        refine Y.getI fd_X6_28 rfl dX6_takeWord_38 (fun v5 => ?_)
        refine Y.callVi (As := [.int v5]) lk_X6_115 rfl cal_X6_byteAt vir_X6_byteAt (Nat.le_of_ble_eq_true rfl) (Nat.le_of_ble_eq_true rfl) rfl rfl rfl (Nat.le_of_ble_eq_true rfl) dX6_takeWord_41 (fun _ e => m_X6_byteAt x0 v5 r4.2 _ _ e) (fun r6 => ?_)
        refine Y.op (pc' := 46) (fun _ => X.bp kb_122 dX6_takeWord_44) ?_
        refine Y.cmpgt 62 (by decide) dX6_takeWord_46 ?_ ?_
        · exact Y.fg (hkE62 r6.2) trivial
        · refine Y.op (pc' := 50) (fun _ => X.aloadn rfl dX6_takeWord_49) ?_
          refine Y.op (pc' := 51) (fun _ => X.dup rfl dX6_takeWord_50) ?_
          refine Y.getI fd_X6_28 rfl dX6_takeWord_51 (fun v7 => ?_)
          refine Y.op (pc' := 55) (fun _ => X.ic ki_1 dX6_takeWord_54) ?_
          refine Y.op (pc' := 56) (fun _ => X.iadd dX6_takeWord_55) ?_
          refine Y.putI fd_X6_28 rfl dX6_takeWord_56 (fun h8 => ?_)
          refine Y.op (pc' := 12) (fun _ => X.goto 12 (by decide) dX6_takeWord_59) ?_
          exact ih x0 h8
def f_X6_takeWord (a0 : Nat) (h : xH) : Option (xH) :=
  (vc h 6 a0 (f_X6_skipBlanks a0 h)).bind fun h1 =>
  (gI h1 6 a0 5).bind fun v2 =>
  (pI h1 6 a0 6 v2).bind fun h3 =>
  f_X6_takeWord_L12 (f_X6_takeWord_J62) 5000 a0 h3
theorem y_X6_takeWord {g : xG} {h0 : xH} {cl : Bool} (a0 : Nat) (h : xH) : Y g DX6_takeWord h0 cl iV (f_X6_takeWord a0 h) 0 [some (.ref a0)] [] h := by
  unfold f_X6_takeWord
  refine Y.op (pc' := 1) (fun _ => X.aloadn rfl dX6_takeWord_0) ?_
  refine Y.callVv (As := []) lk_X6_112 rfl cal_X6_skipBlanks vir_X6_skipBlanks (Nat.le_of_ble_eq_true rfl) (Nat.le_of_ble_eq_true rfl) rfl rfl rfl (Nat.le_of_ble_eq_true rfl) dX6_takeWord_1 (fun _ e => m_X6_skipBlanks a0 h _ _ e) (fun h1 => ?_)
  refine Y.op (pc' := 5) (fun _ => X.aloadn rfl dX6_takeWord_4) ?_
  refine Y.op (pc' := 6) (fun _ => X.aloadn rfl dX6_takeWord_5) ?_
  refine Y.getI fd_X6_28 rfl dX6_takeWord_6 (fun v2 => ?_)
  refine Y.putI fd_X6_31 rfl dX6_takeWord_9 (fun h3 => ?_)
  exact y_X6_takeWord_L12 (y_X6_takeWord_J62) 5000 a0 h3
theorem m_X6_takeWord {g : xG} (a0 : Nat) (h : xH) (cl : Bool) (r : xH) (e : f_X6_takeWord a0 h = some r) : XM g DX6_takeWord [.ref a0] h cl (iV r) := YM.of rfl rfl (Nat.le_of_ble_eq_true rfl) (y_X6_takeWord a0 h) e
def f_X6_wordIs_J54 (h : xH) : Option (Int32 × xH) :=
  if (1 : Int32) = 0 ∨ (1 : Int32) = 1 then some ((1 : Int32), h) else none
theorem y_X6_wordIs_J54 {g : xG} {h0 : xH} {cl : Bool} (h : xH) : Y g DX6_wordIs h0 cl iI (f_X6_wordIs_J54 h) 54 [none, none, none] [] h := by
  unfold f_X6_wordIs_J54
  refine Y.op (pc' := 55) (fun _ => X.ic ki_1 dX6_wordIs_54) ?_
  exact Y.zreturn rfl dX6_wordIs_55
def f_X6_wordIs_J46 (h : xH) : Option (Int32 × xH) :=
  if (0 : Int32) = 0 ∨ (0 : Int32) = 1 then some ((0 : Int32), h) else none
theorem y_X6_wordIs_J46 {g : xG} {h0 : xH} {cl : Bool} (h : xH) : Y g DX6_wordIs h0 cl iI (f_X6_wordIs_J46 h) 46 [none, none, none] [] h := by
  unfold f_X6_wordIs_J46
  refine Y.op (pc' := 47) (fun _ => X.ic ki_0 dX6_wordIs_46) ?_
  exact Y.zreturn rfl dX6_wordIs_47
def f_X6_wordIs_L20 (kE46 : xH → Option (Int32 × xH)) (kE54 : xH → Option (Int32 × xH)) : Nat → Nat → Nat → Int32 → xH → Option (Int32 × xH)
  | 0 => fun _ _ _ _ => none
  | n + 1 => fun x0 x1 x2 h =>
    (f_J0_length_8abf5 x1 h).bind fun r1 =>
    if x2 ≥ r1.1 then
      kE54 r1.2
    else
      (gI r1.2 6 x0 6).bind fun v2 =>
      (vc r1.2 6 x0 (f_X6_byteAt x0 (v2 + x2) r1.2)).bind fun r3 =>
      (f_J0_charAt_5068e x1 x2 r3.2).bind fun r4 =>
      if r3.1 = r4.1 then
        lt (x2 + (1 : Int32)) fun v5 =>
        f_X6_wordIs_L20 kE46 kE54 n x0 x1 v5 r4.2
      else
        kE46 r4.2
theorem y_X6_wordIs_L20 {g : xG} {h0 : xH} {cl : Bool} {kE46 : xH → Option (Int32 × xH)} {kE54 : xH → Option (Int32 × xH)} (hkE46 : ∀  (h : xH), Y g DX6_wordIs h0 cl iI (kE46  h) 46 [none, none, none] [] h) (hkE54 : ∀  (h : xH), Y g DX6_wordIs h0 cl iI (kE54  h) 54 [none, none, none] [] h) : ∀ (n : Nat) (x0 : Nat) (x1 : Nat) (x2 : Int32) (h : xH), Y g DX6_wordIs h0 cl iI (f_X6_wordIs_L20 kE46 kE54 n x0 x1 x2 h) 20 [some (.ref x0), some (.ref x1), some (.int x2)] [] h := by
  intro n
  induction n with
  | zero => intro x0 x1 x2 h; exact Y.nothing
  | succ n ih =>
    intro x0 x1 x2 h
    unfold f_X6_wordIs_L20
    refine Y.op (pc' := 21) (fun _ => X.iloadn rfl dX6_wordIs_20) ?_
    refine Y.op (pc' := 22) (fun _ => X.aloadn rfl dX6_wordIs_21) ?_
    refine Y.str_J0_length_8abf5 lk_X6_156 rfl (Nat.le_of_ble_eq_true rfl) (Nat.le_of_ble_eq_true rfl) dX6_wordIs_22 (fun r1 => ?_)
    refine Y.cmpge 54 (by decide) dX6_wordIs_25 ?_ ?_
    · exact Y.fg (hkE54 r1.2) trivial
    · refine Y.op (pc' := 29) (fun _ => X.aloadn rfl dX6_wordIs_28) ?_
      refine Y.op (pc' := 30) (fun _ => X.aloadn rfl dX6_wordIs_29) ?_
      refine Y.getI fd_X6_31 rfl dX6_wordIs_30 (fun v2 => ?_)
      refine Y.op (pc' := 34) (fun _ => X.iloadn rfl dX6_wordIs_33) ?_
      refine Y.op (pc' := 35) (fun _ => X.iadd dX6_wordIs_34) ?_
      refine Y.callVi (As := [.int (v2 + x2)]) lk_X6_115 rfl cal_X6_byteAt vir_X6_byteAt (Nat.le_of_ble_eq_true rfl) (Nat.le_of_ble_eq_true rfl) rfl rfl rfl (Nat.le_of_ble_eq_true rfl) dX6_wordIs_35 (fun _ e => m_X6_byteAt x0 (v2 + x2) r1.2 _ _ e) (fun r3 => ?_)
      refine Y.op (pc' := 39) (fun _ => X.aloadn rfl dX6_wordIs_38) ?_
      refine Y.op (pc' := 40) (fun _ => X.iloadn rfl dX6_wordIs_39) ?_
      refine Y.str_J0_charAt_5068e lk_X6_161 rfl (Nat.le_of_ble_eq_true rfl) (Nat.le_of_ble_eq_true rfl) dX6_wordIs_40 (fun r4 => ?_)
      refine Y.cmpeq 48 (by decide) dX6_wordIs_43 ?_ ?_
      · refine Y.iinc (i := 2) (loc' := fun v5 => [some (.ref x0), some (.ref x1), some (.int v5)]) rfl (Nat.le_of_ble_eq_true rfl) ki_1 (fun _ => rfl) dX6_wordIs_48 (fun v5 => ?_)
        refine Y.op (pc' := 20) (fun _ => X.goto 20 (by decide) dX6_wordIs_51) ?_
        exact ih x0 x1 v5 r4.2
      · exact Y.fg (hkE46 r4.2) trivial
def f_X6_wordIs (a0 : Nat) (p1 : Nat) (h : xH) : Option (Int32 × xH) :=
  (gI h 6 a0 5).bind fun v1 =>
  (gI h 6 a0 6).bind fun v2 =>
  (f_J0_length_8abf5 p1 h).bind fun r3 =>
  if (v1 - v2) = r3.1 then
    f_X6_wordIs_L20 (f_X6_wordIs_J46) (f_X6_wordIs_J54) 5000 a0 p1 (0 : Int32) r3.2
  else
    if (0 : Int32) = 0 ∨ (0 : Int32) = 1 then some ((0 : Int32), r3.2) else none
theorem y_X6_wordIs {g : xG} {h0 : xH} {cl : Bool} (a0 : Nat) (p1 : Nat) (h : xH) : Y g DX6_wordIs h0 cl iI (f_X6_wordIs a0 p1 h) 0 [some (.ref a0), some (.ref p1), none] [] h := by
  unfold f_X6_wordIs
  refine Y.op (pc' := 1) (fun _ => X.aloadn rfl dX6_wordIs_0) ?_
  refine Y.getI fd_X6_28 rfl dX6_wordIs_1 (fun v1 => ?_)
  refine Y.op (pc' := 5) (fun _ => X.aloadn rfl dX6_wordIs_4) ?_
  refine Y.getI fd_X6_31 rfl dX6_wordIs_5 (fun v2 => ?_)
  refine Y.op (pc' := 9) (fun _ => X.isub dX6_wordIs_8) ?_
  refine Y.op (pc' := 10) (fun _ => X.aloadn rfl dX6_wordIs_9) ?_
  refine Y.str_J0_length_8abf5 lk_X6_156 rfl (Nat.le_of_ble_eq_true rfl) (Nat.le_of_ble_eq_true rfl) dX6_wordIs_10 (fun r3 => ?_)
  refine Y.cmpeq 18 (by decide) dX6_wordIs_13 ?_ ?_
  · refine Y.op (pc' := 19) (fun _ => X.ic ki_0 dX6_wordIs_18) ?_
    refine Y.op (pc' := 20) (loc' := [some (.ref a0), some (.ref p1), some (.int (0 : Int32))]) (fun _ => X.istoren (Nat.le_of_ble_eq_true rfl) rfl dX6_wordIs_19) ?_
    exact y_X6_wordIs_L20 (y_X6_wordIs_J46) (y_X6_wordIs_J54) 5000 a0 p1 (0 : Int32) r3.2
  · refine Y.op (pc' := 17) (fun _ => X.ic ki_0 dX6_wordIs_16) ?_
    exact Y.zreturn rfl dX6_wordIs_17
theorem m_X6_wordIs {g : xG} (a0 : Nat) (p1 : Nat) (h : xH) (cl : Bool) (r : Int32 × xH) (e : f_X6_wordIs a0 p1 h = some r) : XM g DX6_wordIs [.ref a0, .ref p1] h cl (iI r) := YM.of rfl rfl (Nat.le_of_ble_eq_true rfl) (y_X6_wordIs a0 p1 h) e
def f_X6_readWord_J29 (s0 : Int32) (h : xH) : Option (Int32 × xH) :=
  if s0 = 0 ∨ s0 = 1 then some (s0, h) else none
theorem y_X6_readWord_J29 {g : xG} {h0 : xH} {cl : Bool} (s0 : Int32) (h : xH) : Y g DX6_readWord h0 cl iI (f_X6_readWord_J29 s0 h) 29 [none, none] [.int s0] h := by
  unfold f_X6_readWord_J29
  exact Y.zreturn rfl dX6_readWord_29
def f_X6_readWord_J24 (h : xH) : Option (Int32 × xH) :=
  f_X6_readWord_J29 (1 : Int32) h
theorem y_X6_readWord_J24 {g : xG} {h0 : xH} {cl : Bool} (h : xH) : Y g DX6_readWord h0 cl iI (f_X6_readWord_J24 h) 24 [none, none] [] h := by
  unfold f_X6_readWord_J24
  refine Y.op (pc' := 25) (fun _ => X.ic ki_1 dX6_readWord_24) ?_
  refine Y.op (pc' := 29) (fun _ => X.goto 29 (by decide) dX6_readWord_25) ?_
  exact y_X6_readWord_J29 (1 : Int32) h
def f_X6_readWord (a0 : Nat) (p1 : Nat) (h : xH) : Option (Int32 × xH) :=
  (vc h 6 a0 (f_X6_takeWord a0 h)).bind fun h1 =>
  (vc h1 6 a0 (f_X6_wordIs a0 p1 h1)).bind fun r2 =>
  if r2.1 = (0 : Int32) then
    (gI r2.2 6 a0 6).bind fun v3 =>
    (vc r2.2 6 a0 (f_X6_isFault a0 (1 : Int32) v3 r2.2)).bind fun r4 =>
    if r4.1 = (0 : Int32) then
      f_X6_readWord_J29 (0 : Int32) r4.2
    else
      f_X6_readWord_J24 r4.2
  else
    f_X6_readWord_J24 r2.2
theorem y_X6_readWord {g : xG} {h0 : xH} {cl : Bool} (a0 : Nat) (p1 : Nat) (h : xH) : Y g DX6_readWord h0 cl iI (f_X6_readWord a0 p1 h) 0 [some (.ref a0), some (.ref p1)] [] h := by
  unfold f_X6_readWord
  refine Y.op (pc' := 1) (fun _ => X.aloadn rfl dX6_readWord_0) ?_
  refine Y.callVv (As := []) lk_X6_74 rfl cal_X6_takeWord vir_X6_takeWord (Nat.le_of_ble_eq_true rfl) (Nat.le_of_ble_eq_true rfl) rfl rfl rfl (Nat.le_of_ble_eq_true rfl) dX6_readWord_1 (fun _ e => m_X6_takeWord a0 h _ _ e) (fun h1 => ?_)
  refine Y.op (pc' := 5) (fun _ => X.aloadn rfl dX6_readWord_4) ?_
  refine Y.op (pc' := 6) (fun _ => X.aloadn rfl dX6_readWord_5) ?_
  refine Y.callVi (As := [.ref p1]) lk_X6_79 rfl cal_X6_wordIs vir_X6_wordIs (Nat.le_of_ble_eq_true rfl) (Nat.le_of_ble_eq_true rfl) rfl rfl rfl (Nat.le_of_ble_eq_true rfl) dX6_readWord_6 (fun _ e => m_X6_wordIs a0 p1 h1 _ _ e) (fun r2 => ?_)
  refine Y.ifne 24 (by decide) dX6_readWord_9 ?_ ?_
  · exact Y.fg (y_X6_readWord_J24 r2.2) trivial
  · refine Y.op (pc' := 13) (fun _ => X.aloadn rfl dX6_readWord_12) ?_
    refine Y.op (pc' := 14) (fun _ => X.ic ki_1 dX6_readWord_13) ?_
    refine Y.op (pc' := 15) (fun _ => X.aloadn rfl dX6_readWord_14) ?_
    refine Y.getI fd_X6_31 rfl dX6_readWord_15 (fun v3 => ?_)
    refine Y.callVi (As := [.int (1 : Int32), .int v3]) lk_X6_105 rfl cal_X6_isFault vir_X6_isFault (Nat.le_of_ble_eq_true rfl) (Nat.le_of_ble_eq_true rfl) rfl rfl rfl (Nat.le_of_ble_eq_true rfl) dX6_readWord_18 (fun _ e => m_X6_isFault a0 (1 : Int32) v3 r2.2 _ _ e) (fun r4 => ?_)
    refine Y.ifeq 28 (by decide) dX6_readWord_21 ?_ ?_
    · refine Y.op (pc' := 29) (fun _ => X.ic ki_0 dX6_readWord_28) ?_
      exact Y.fg (y_X6_readWord_J29 (0 : Int32) r4.2) trivial
    · exact Y.fg (y_X6_readWord_J24 r4.2) trivial
theorem m_X6_readWord {g : xG} (a0 : Nat) (p1 : Nat) (h : xH) (cl : Bool) (r : Int32 × xH) (e : f_X6_readWord a0 p1 h = some r) : XM g DX6_readWord [.ref a0, .ref p1] h cl (iI r) := YM.of rfl rfl (Nat.le_of_ble_eq_true rfl) (y_X6_readWord a0 p1 h) e
def f_X6_readHead_J52 (h : xH) : Option (Int32 × xH) :=
  if (0 : Int32) = 0 ∨ (0 : Int32) = 1 then some ((0 : Int32), h) else none
theorem y_X6_readHead_J52 {g : xG} {h0 : xH} {cl : Bool} (h : xH) : Y g DX6_readHead h0 cl iI (f_X6_readHead_J52 h) 52 [none, none, none] [] h := by
  unfold f_X6_readHead_J52
  refine Y.op (pc' := 53) (fun _ => X.ic ki_0 dX6_readHead_52) ?_
  exact Y.zreturn rfl dX6_readHead_53
def f_X6_readHead_J19 (h : xH) : Option (Int32 × xH) :=
  if (0 : Int32) = 0 ∨ (0 : Int32) = 1 then some ((0 : Int32), h) else none
theorem y_X6_readHead_J19 {g : xG} {h0 : xH} {cl : Bool} (h : xH) : Y g DX6_readHead h0 cl iI (f_X6_readHead_J19 h) 19 [none, none, none] [] h := by
  unfold f_X6_readHead_J19
  refine Y.op (pc' := 20) (fun _ => X.ic ki_0 dX6_readHead_19) ?_
  exact Y.zreturn rfl dX6_readHead_20
def f_X6_readHead (a0 : Nat) (p1 : Nat) (h : xH) : Option (Int32 × xH) :=
  (vc h 6 a0 (f_X6_readWord a0 (1000003 : Nat) h)).bind fun r1 =>
  if r1.1 = (0 : Int32) then
    f_X6_readHead_J19 r1.2
  else
    (vc r1.2 6 a0 (f_X6_readNumber a0 (1 : Int32) (12 : Int32) r1.2)).bind fun r2 =>
    if r2.1 = (0 : Int32) then
      f_X6_readHead_J19 r2.2
    else
      (vc r2.2 6 a0 (f_X6_value a0 r2.2)).bind fun r3 =>
      (vc r3.2 6 a0 (f_X6_readEnd a0 r3.2)).bind fun r4 =>
      if r4.1 = (0 : Int32) then
        f_X6_readHead_J52 r4.2
      else
        (vc r4.2 6 a0 (f_X6_readWord a0 (1000004 : Nat) r4.2)).bind fun r5 =>
        if r5.1 = (0 : Int32) then
          f_X6_readHead_J52 r5.2
        else
          (vc r5.2 6 a0 (f_X6_readNumber a0 (1 : Int32) (12 : Int32) r5.2)).bind fun r6 =>
          if r6.1 = (0 : Int32) then
            f_X6_readHead_J52 r6.2
          else
            (vc r6.2 6 a0 (f_X6_value a0 r6.2)).bind fun r7 =>
            (vc r7.2 0 p1 (f_X0_begin p1 r3.1 r7.1 r7.2)).bind fun h8 =>
            (vc h8 6 a0 (f_X6_readEnd a0 h8)).bind fun r9 =>
            if r9.1 = 0 ∨ r9.1 = 1 then some (r9.1, r9.2) else none
theorem y_X6_readHead {g : xG} {h0 : xH} {cl : Bool} (a0 : Nat) (p1 : Nat) (h : xH) : Y g DX6_readHead h0 cl iI (f_X6_readHead a0 p1 h) 0 [some (.ref a0), some (.ref p1), none] [] h := by
  unfold f_X6_readHead
  refine Y.op (pc' := 1) (fun _ => X.aloadn rfl dX6_readHead_0) ?_
  refine Y.op (pc' := 3) (fun _ => X.ldcS ws_X6_52 rfl dX6_readHead_1) ?_
  refine Y.callVi (As := [.ref (1000003 : Nat)]) lk_X6_54 rfl cal_X6_readWord vir_X6_readWord (Nat.le_of_ble_eq_true rfl) (Nat.le_of_ble_eq_true rfl) rfl rfl rfl (Nat.le_of_ble_eq_true rfl) dX6_readHead_3 (fun _ e => m_X6_readWord a0 (1000003 : Nat) h _ _ e) (fun r1 => ?_)
  refine Y.ifeq 19 (by decide) dX6_readHead_6 ?_ ?_
  · exact Y.fg (y_X6_readHead_J19 r1.2) trivial
  · refine Y.op (pc' := 10) (fun _ => X.aloadn rfl dX6_readHead_9) ?_
    refine Y.op (pc' := 11) (fun _ => X.ic ki_1 dX6_readHead_10) ?_
    refine Y.op (pc' := 13) (fun _ => X.bp kb_12 dX6_readHead_11) ?_
    refine Y.callVi (As := [.int (1 : Int32), .int (12 : Int32)]) lk_X6_58 rfl cal_X6_readNumber vir_X6_readNumber (Nat.le_of_ble_eq_true rfl) (Nat.le_of_ble_eq_true rfl) rfl rfl rfl (Nat.le_of_ble_eq_true rfl) dX6_readHead_13 (fun _ e => m_X6_readNumber a0 (1 : Int32) (12 : Int32) r1.2 _ _ e) (fun r2 => ?_)
    refine Y.ifne 21 (by decide) dX6_readHead_16 ?_ ?_
    · refine Y.op (pc' := 22) (fun _ => X.aloadn rfl dX6_readHead_21) ?_
      refine Y.callVi (As := []) lk_X6_62 rfl cal_X6_value vir_X6_value (Nat.le_of_ble_eq_true rfl) (Nat.le_of_ble_eq_true rfl) rfl rfl rfl (Nat.le_of_ble_eq_true rfl) dX6_readHead_22 (fun _ e => m_X6_value a0 r2.2 _ _ e) (fun r3 => ?_)
      refine Y.op (pc' := 26) (loc' := [some (.ref a0), some (.ref p1), some (.int r3.1)]) (fun _ => X.istoren (Nat.le_of_ble_eq_true rfl) rfl dX6_readHead_25) ?_
      refine Y.op (pc' := 27) (fun _ => X.aloadn rfl dX6_readHead_26) ?_
      refine Y.callVi (As := []) lk_X6_49 rfl cal_X6_readEnd vir_X6_readEnd (Nat.le_of_ble_eq_true rfl) (Nat.le_of_ble_eq_true rfl) rfl rfl rfl (Nat.le_of_ble_eq_true rfl) dX6_readHead_27 (fun _ e => m_X6_readEnd a0 r3.2 _ _ e) (fun r4 => ?_)
      refine Y.ifeq 52 (by decide) dX6_readHead_30 ?_ ?_
      · exact Y.fg (y_X6_readHead_J52 r4.2) trivial
      · refine Y.op (pc' := 34) (fun _ => X.aloadn rfl dX6_readHead_33) ?_
        refine Y.op (pc' := 36) (fun _ => X.ldcS ws_X6_66 rfl dX6_readHead_34) ?_
        refine Y.callVi (As := [.ref (1000004 : Nat)]) lk_X6_54 rfl cal_X6_readWord vir_X6_readWord (Nat.le_of_ble_eq_true rfl) (Nat.le_of_ble_eq_true rfl) rfl rfl rfl (Nat.le_of_ble_eq_true rfl) dX6_readHead_36 (fun _ e => m_X6_readWord a0 (1000004 : Nat) r4.2 _ _ e) (fun r5 => ?_)
        refine Y.ifeq 52 (by decide) dX6_readHead_39 ?_ ?_
        · exact Y.fg (y_X6_readHead_J52 r5.2) trivial
        · refine Y.op (pc' := 43) (fun _ => X.aloadn rfl dX6_readHead_42) ?_
          refine Y.op (pc' := 44) (fun _ => X.ic ki_1 dX6_readHead_43) ?_
          refine Y.op (pc' := 46) (fun _ => X.bp kb_12 dX6_readHead_44) ?_
          refine Y.callVi (As := [.int (1 : Int32), .int (12 : Int32)]) lk_X6_58 rfl cal_X6_readNumber vir_X6_readNumber (Nat.le_of_ble_eq_true rfl) (Nat.le_of_ble_eq_true rfl) rfl rfl rfl (Nat.le_of_ble_eq_true rfl) dX6_readHead_46 (fun _ e => m_X6_readNumber a0 (1 : Int32) (12 : Int32) r5.2 _ _ e) (fun r6 => ?_)
          refine Y.ifne 54 (by decide) dX6_readHead_49 ?_ ?_
          · refine Y.op (pc' := 55) (fun _ => X.aloadn rfl dX6_readHead_54) ?_
            refine Y.op (pc' := 56) (fun _ => X.iloadn rfl dX6_readHead_55) ?_
            refine Y.op (pc' := 57) (fun _ => X.aloadn rfl dX6_readHead_56) ?_
            refine Y.callVi (As := []) lk_X6_62 rfl cal_X6_value vir_X6_value (Nat.le_of_ble_eq_true rfl) (Nat.le_of_ble_eq_true rfl) rfl rfl rfl (Nat.le_of_ble_eq_true rfl) dX6_readHead_57 (fun _ e => m_X6_value a0 r6.2 _ _ e) (fun r7 => ?_)
            refine Y.callVv (As := [.int r3.1, .int r7.1]) lk_X6_68 rfl cal_X0_begin vir_X0_begin (Nat.le_of_ble_eq_true rfl) (Nat.le_of_ble_eq_true rfl) rfl rfl rfl (Nat.le_of_ble_eq_true rfl) dX6_readHead_60 (fun _ e => m_X0_begin p1 r3.1 r7.1 r7.2 _ _ e) (fun h8 => ?_)
            refine Y.op (pc' := 64) (fun _ => X.aloadn rfl dX6_readHead_63) ?_
            refine Y.callVi (As := []) lk_X6_49 rfl cal_X6_readEnd vir_X6_readEnd (Nat.le_of_ble_eq_true rfl) (Nat.le_of_ble_eq_true rfl) rfl rfl rfl (Nat.le_of_ble_eq_true rfl) dX6_readHead_64 (fun _ e => m_X6_readEnd a0 h8 _ _ e) (fun r9 => ?_)
            exact Y.zreturn rfl dX6_readHead_67
          · exact Y.fg (y_X6_readHead_J52 r6.2) trivial
    · exact Y.fg (y_X6_readHead_J19 r2.2) trivial
theorem m_X6_readHead {g : xG} (a0 : Nat) (p1 : Nat) (h : xH) (cl : Bool) (r : Int32 × xH) (e : f_X6_readHead a0 p1 h = some r) : XM g DX6_readHead [.ref a0, .ref p1] h cl (iI r) := YM.of rfl rfl (Nat.le_of_ble_eq_true rfl) (y_X6_readHead a0 p1 h) e
def f_X6_readAway_J64 (x0 : Nat) (x1 : Nat) (x2 : Int32) (s0 : Nat) (s1 : Int32) (s2 : Int32) (h : xH) : Option (Int32 × xH) :=
  (vc h 6 s0 (f_X6_readNumber s0 s1 (s2 - (1 : Int32)) h)).bind fun r1 =>
  if r1.1 = (0 : Int32) then
    if (0 : Int32) = 0 ∨ (0 : Int32) = 1 then some ((0 : Int32), r1.2) else none
  else
    (vc r1.2 6 x0 (f_X6_value x0 r1.2)).bind fun r2 =>
    (vc r2.2 0 x1 (f_X0_isFree x1 x2 r2.1 r2.2)).bind fun r3 =>
    if r3.1 = (0 : Int32) then
      (gI r3.2 6 x0 6).bind fun v5 =>
      (vc r3.2 6 x0 (f_X6_isFault x0 (5 : Int32) v5 r3.2)).bind fun r6 =>
      if r6.1 = 0 ∨ r6.1 = 1 then some (r6.1, r6.2) else none
    else
      (vc r3.2 0 x1 (f_X0_setThere x1 x2 r2.1 (0 : Int32) r3.2)).bind fun h4 =>
      if (1 : Int32) = 0 ∨ (1 : Int32) = 1 then some ((1 : Int32), h4) else none
theorem y_X6_readAway_J64 {g : xG} {h0 : xH} {cl : Bool} (x0 : Nat) (x1 : Nat) (x2 : Int32) (s0 : Nat) (s1 : Int32) (s2 : Int32) (h : xH) : Y g DX6_readAway h0 cl iI (f_X6_readAway_J64 x0 x1 x2 s0 s1 s2 h) 64 [some (.ref x0), some (.ref x1), some (.int x2), none] [.int s2, .int s1, .ref s0] h := by
  unfold f_X6_readAway_J64
  refine Y.op (pc' := 65) (fun _ => X.ic ki_1 dX6_readAway_64) ?_
  refine Y.op (pc' := 66) (fun _ => X.isub dX6_readAway_65) ?_
  refine Y.callVi (As := [.int s1, .int (s2 - (1 : Int32))]) lk_X6_58 rfl cal_X6_readNumber vir_X6_readNumber (Nat.le_of_ble_eq_true rfl) (Nat.le_of_ble_eq_true rfl) rfl rfl rfl (Nat.le_of_ble_eq_true rfl) dX6_readAway_66 (fun _ e => m_X6_readNumber s0 s1 (s2 - (1 : Int32)) h _ _ e) (fun r1 => ?_)
  refine Y.ifne 74 (by decide) dX6_readAway_69 ?_ ?_
  · refine Y.op (pc' := 75) (fun _ => X.aloadn rfl dX6_readAway_74) ?_
    refine Y.callVi (As := []) lk_X6_62 rfl cal_X6_value vir_X6_value (Nat.le_of_ble_eq_true rfl) (Nat.le_of_ble_eq_true rfl) rfl rfl rfl (Nat.le_of_ble_eq_true rfl) dX6_readAway_75 (fun _ e => m_X6_value x0 r1.2 _ _ e) (fun r2 => ?_)
    refine Y.op (pc' := 79) (loc' := [some (.ref x0), some (.ref x1), some (.int x2), some (.int r2.1)]) (fun _ => X.istoren (Nat.le_of_ble_eq_true rfl) rfl dX6_readAway_78) ?_
    refine Y.op (pc' := 80) (fun _ => X.aloadn rfl dX6_readAway_79) ?_
    refine Y.op (pc' := 81) (fun _ => X.iloadn rfl dX6_readAway_80) ?_
    refine Y.op (pc' := 82) (fun _ => X.iloadn rfl dX6_readAway_81) ?_
    refine Y.callVi (As := [.int x2, .int r2.1]) lk_X6_131 rfl cal_X0_isFree vir_X0_isFree (Nat.le_of_ble_eq_true rfl) (Nat.le_of_ble_eq_true rfl) rfl rfl rfl (Nat.le_of_ble_eq_true rfl) dX6_readAway_82 (fun _ e => m_X0_isFree x1 x2 r2.1 r2.2 _ _ e) (fun r3 => ?_)
    refine Y.ifne 98 (by decide) dX6_readAway_85 ?_ ?_
    · refine Y.op (pc' := 99) (fun _ => X.aloadn rfl dX6_readAway_98) ?_
      refine Y.op (pc' := 100) (fun _ => X.iloadn rfl dX6_readAway_99) ?_
      refine Y.op (pc' := 101) (fun _ => X.iloadn rfl dX6_readAway_100) ?_
      refine Y.op (pc' := 102) (fun _ => X.ic ki_0 dX6_readAway_101) ?_
      refine Y.callVv (As := [.int x2, .int r2.1, .int (0 : Int32)]) lk_X6_134 rfl cal_X0_setThere vir_X0_setThere (Nat.le_of_ble_eq_true rfl) (Nat.le_of_ble_eq_true rfl) rfl rfl rfl (Nat.le_of_ble_eq_true rfl) dX6_readAway_102 (fun _ e => m_X0_setThere x1 x2 r2.1 (0 : Int32) r3.2 _ _ e) (fun h4 => ?_)
      refine Y.op (pc' := 106) (fun _ => X.ic ki_1 dX6_readAway_105) ?_
      exact Y.zreturn rfl dX6_readAway_106
    · refine Y.op (pc' := 89) (fun _ => X.aloadn rfl dX6_readAway_88) ?_
      refine Y.op (pc' := 90) (fun _ => X.ic ki_5 dX6_readAway_89) ?_
      refine Y.op (pc' := 91) (fun _ => X.aloadn rfl dX6_readAway_90) ?_
      refine Y.getI fd_X6_31 rfl dX6_readAway_91 (fun v5 => ?_)
      refine Y.callVi (As := [.int (5 : Int32), .int v5]) lk_X6_105 rfl cal_X6_isFault vir_X6_isFault (Nat.le_of_ble_eq_true rfl) (Nat.le_of_ble_eq_true rfl) rfl rfl rfl (Nat.le_of_ble_eq_true rfl) dX6_readAway_94 (fun _ e => m_X6_isFault x0 (5 : Int32) v5 r3.2 _ _ e) (fun r6 => ?_)
      exact Y.zreturn rfl dX6_readAway_97
  · refine Y.op (pc' := 73) (fun _ => X.ic ki_0 dX6_readAway_72) ?_
    exact Y.zreturn rfl dX6_readAway_73
def f_X6_readAway_J31 (x0 : Nat) (x1 : Nat) (s0 : Int32) (h : xH) : Option (Int32 × xH) :=
  if s0 = (-1 : Int32) then
    (gI h 6 x0 6).bind fun v3 =>
    (vc h 6 x0 (f_X6_isFault x0 (1 : Int32) v3 h)).bind fun r4 =>
    if r4.1 = 0 ∨ r4.1 = 1 then some (r4.1, r4.2) else none
  else
    if s0 = (0 : Int32) then
      (gI h 0 x1 0).bind fun v2 =>
      f_X6_readAway_J64 x0 x1 s0 x0 (0 : Int32) v2 h
    else
      (gI h 0 x1 1).bind fun v1 =>
      f_X6_readAway_J64 x0 x1 s0 x0 (0 : Int32) v1 h
theorem y_X6_readAway_J31 {g : xG} {h0 : xH} {cl : Bool} (x0 : Nat) (x1 : Nat) (s0 : Int32) (h : xH) : Y g DX6_readAway h0 cl iI (f_X6_readAway_J31 x0 x1 s0 h) 31 [some (.ref x0), some (.ref x1), none, none] [.int s0] h := by
  unfold f_X6_readAway_J31
  refine Y.op (pc' := 32) (loc' := [some (.ref x0), some (.ref x1), some (.int s0), none]) (fun _ => X.istoren (Nat.le_of_ble_eq_true rfl) rfl dX6_readAway_31) ?_
  refine Y.op (pc' := 33) (fun _ => X.iloadn rfl dX6_readAway_32) ?_
  refine Y.op (pc' := 34) (fun _ => X.ic ki_m1 dX6_readAway_33) ?_
  refine Y.cmpne 47 (by decide) dX6_readAway_34 ?_ ?_
  · refine Y.op (pc' := 48) (fun _ => X.aloadn rfl dX6_readAway_47) ?_
    refine Y.op (pc' := 49) (fun _ => X.ic ki_0 dX6_readAway_48) ?_
    refine Y.op (pc' := 50) (fun _ => X.iloadn rfl dX6_readAway_49) ?_
    refine Y.ifne 60 (by decide) dX6_readAway_50 ?_ ?_
    · refine Y.op (pc' := 61) (fun _ => X.aloadn rfl dX6_readAway_60) ?_
      refine Y.getI fd_X6_110 rfl dX6_readAway_61 (fun v1 => ?_)
      exact y_X6_readAway_J64 x0 x1 s0 x0 (0 : Int32) v1 h
    · refine Y.op (pc' := 54) (fun _ => X.aloadn rfl dX6_readAway_53) ?_
      refine Y.getI fd_X6_108 rfl dX6_readAway_54 (fun v2 => ?_)
      refine Y.op (pc' := 64) (fun _ => X.goto 64 (by decide) dX6_readAway_57) ?_
      exact y_X6_readAway_J64 x0 x1 s0 x0 (0 : Int32) v2 h
  · refine Y.op (pc' := 38) (fun _ => X.aloadn rfl dX6_readAway_37) ?_
    refine Y.op (pc' := 39) (fun _ => X.ic ki_1 dX6_readAway_38) ?_
    refine Y.op (pc' := 40) (fun _ => X.aloadn rfl dX6_readAway_39) ?_
    refine Y.getI fd_X6_31 rfl dX6_readAway_40 (fun v3 => ?_)
    refine Y.callVi (As := [.int (1 : Int32), .int v3]) lk_X6_105 rfl cal_X6_isFault vir_X6_isFault (Nat.le_of_ble_eq_true rfl) (Nat.le_of_ble_eq_true rfl) rfl rfl rfl (Nat.le_of_ble_eq_true rfl) dX6_readAway_43 (fun _ e => m_X6_isFault x0 (1 : Int32) v3 h _ _ e) (fun r4 => ?_)
    exact Y.zreturn rfl dX6_readAway_46
def f_X6_readAway (a0 : Nat) (p1 : Nat) (h : xH) : Option (Int32 × xH) :=
  (vc h 6 a0 (f_X6_takeWord a0 h)).bind fun h1 =>
  (vc h1 6 a0 (f_X6_wordIs a0 (1000010 : Nat) h1)).bind fun r2 =>
  if r2.1 = (0 : Int32) then
    (vc r2.2 6 a0 (f_X6_wordIs a0 (1000011 : Nat) r2.2)).bind fun r3 =>
    if r3.1 = (0 : Int32) then
      f_X6_readAway_J31 a0 p1 (-1 : Int32) r3.2
    else
      f_X6_readAway_J31 a0 p1 (1 : Int32) r3.2
  else
    f_X6_readAway_J31 a0 p1 (0 : Int32) r2.2
theorem y_X6_readAway {g : xG} {h0 : xH} {cl : Bool} (a0 : Nat) (p1 : Nat) (h : xH) : Y g DX6_readAway h0 cl iI (f_X6_readAway a0 p1 h) 0 [some (.ref a0), some (.ref p1), none, none] [] h := by
  unfold f_X6_readAway
  refine Y.op (pc' := 1) (fun _ => X.aloadn rfl dX6_readAway_0) ?_
  refine Y.callVv (As := []) lk_X6_74 rfl cal_X6_takeWord vir_X6_takeWord (Nat.le_of_ble_eq_true rfl) (Nat.le_of_ble_eq_true rfl) rfl rfl rfl (Nat.le_of_ble_eq_true rfl) dX6_readAway_1 (fun _ e => m_X6_takeWord a0 h _ _ e) (fun h1 => ?_)
  refine Y.op (pc' := 5) (fun _ => X.aloadn rfl dX6_readAway_4) ?_
  refine Y.op (pc' := 7) (fun _ => X.ldcS ws_X6_127 rfl dX6_readAway_5) ?_
  refine Y.callVi (As := [.ref (1000010 : Nat)]) lk_X6_79 rfl cal_X6_wordIs vir_X6_wordIs (Nat.le_of_ble_eq_true rfl) (Nat.le_of_ble_eq_true rfl) rfl rfl rfl (Nat.le_of_ble_eq_true rfl) dX6_readAway_7 (fun _ e => m_X6_wordIs a0 (1000010 : Nat) h1 _ _ e) (fun r2 => ?_)
  refine Y.ifeq 17 (by decide) dX6_readAway_10 ?_ ?_
  · refine Y.op (pc' := 18) (fun _ => X.aloadn rfl dX6_readAway_17) ?_
    refine Y.op (pc' := 20) (fun _ => X.ldcS ws_X6_129 rfl dX6_readAway_18) ?_
    refine Y.callVi (As := [.ref (1000011 : Nat)]) lk_X6_79 rfl cal_X6_wordIs vir_X6_wordIs (Nat.le_of_ble_eq_true rfl) (Nat.le_of_ble_eq_true rfl) rfl rfl rfl (Nat.le_of_ble_eq_true rfl) dX6_readAway_20 (fun _ e => m_X6_wordIs a0 (1000011 : Nat) r2.2 _ _ e) (fun r3 => ?_)
    refine Y.ifeq 30 (by decide) dX6_readAway_23 ?_ ?_
    · refine Y.op (pc' := 31) (fun _ => X.ic ki_m1 dX6_readAway_30) ?_
      exact y_X6_readAway_J31 a0 p1 (-1 : Int32) r3.2
    · refine Y.op (pc' := 27) (fun _ => X.ic ki_1 dX6_readAway_26) ?_
      refine Y.op (pc' := 31) (fun _ => X.goto 31 (by decide) dX6_readAway_27) ?_
      exact y_X6_readAway_J31 a0 p1 (1 : Int32) r3.2
  · refine Y.op (pc' := 14) (fun _ => X.ic ki_0 dX6_readAway_13) ?_
    refine Y.op (pc' := 31) (fun _ => X.goto 31 (by decide) dX6_readAway_14) ?_
    exact y_X6_readAway_J31 a0 p1 (0 : Int32) r2.2
theorem m_X6_readAway {g : xG} (a0 : Nat) (p1 : Nat) (h : xH) (cl : Bool) (r : Int32 × xH) (e : f_X6_readAway a0 p1 h = some r) : XM g DX6_readAway [.ref a0, .ref p1] h cl (iI r) := YM.of rfl rfl (Nat.le_of_ble_eq_true rfl) (y_X6_readAway a0 p1 h) e
def f_X6_readFit_J81 (x1 : Nat) (x2 : Int32) (x3 : Int32) (x4 : Int32) (h : xH) : Option (Int32 × xH) :=
  (vc h 0 x1 (f_X0_setFit x1 x2 x3 x4 h)).bind fun h1 =>
  if (1 : Int32) = 0 ∨ (1 : Int32) = 1 then some ((1 : Int32), h1) else none
theorem y_X6_readFit_J81 {g : xG} {h0 : xH} {cl : Bool} (x1 : Nat) (x2 : Int32) (x3 : Int32) (x4 : Int32) (h : xH) : Y g DX6_readFit h0 cl iI (f_X6_readFit_J81 x1 x2 x3 x4 h) 81 [none, some (.ref x1), some (.int x2), some (.int x3), some (.int x4)] [] h := by
  unfold f_X6_readFit_J81
  refine Y.op (pc' := 82) (fun _ => X.aloadn rfl dX6_readFit_81) ?_
  refine Y.op (pc' := 83) (fun _ => X.iloadn rfl dX6_readFit_82) ?_
  refine Y.op (pc' := 84) (fun _ => X.iloadn rfl dX6_readFit_83) ?_
  refine Y.op (pc' := 86) (fun _ => X.iload rfl dX6_readFit_84) ?_
  refine Y.callVv (As := [.int x2, .int x3, .int x4]) lk_X6_123 rfl cal_X0_setFit vir_X0_setFit (Nat.le_of_ble_eq_true rfl) (Nat.le_of_ble_eq_true rfl) rfl rfl rfl (Nat.le_of_ble_eq_true rfl) dX6_readFit_86 (fun _ e => m_X0_setFit x1 x2 x3 x4 h _ _ e) (fun h1 => ?_)
  refine Y.op (pc' := 90) (fun _ => X.ic ki_1 dX6_readFit_89) ?_
  exact Y.zreturn rfl dX6_readFit_90
def f_X6_readFit (a0 : Nat) (p1 : Nat) (h : xH) : Option (Int32 × xH) :=
  (gI h 0 p1 0).bind fun v1 =>
  (vc h 6 a0 (f_X6_readNumber a0 (0 : Int32) (v1 - (1 : Int32)) h)).bind fun r2 =>
  if r2.1 = (0 : Int32) then
    if (0 : Int32) = 0 ∨ (0 : Int32) = 1 then some ((0 : Int32), r2.2) else none
  else
    (vc r2.2 6 a0 (f_X6_value a0 r2.2)).bind fun r3 =>
    (gI r3.2 0 p1 1).bind fun v4 =>
    (vc r3.2 6 a0 (f_X6_readNumber a0 (0 : Int32) (v4 - (1 : Int32)) r3.2)).bind fun r5 =>
    if r5.1 = (0 : Int32) then
      if (0 : Int32) = 0 ∨ (0 : Int32) = 1 then some ((0 : Int32), r5.2) else none
    else
      (vc r5.2 6 a0 (f_X6_value a0 r5.2)).bind fun r6 =>
      (vc r6.2 6 a0 (f_X6_skipBlanks a0 r6.2)).bind fun h7 =>
      (gI h7 6 a0 5).bind fun v8 =>
      (vc h7 6 a0 (f_X6_byteAt a0 v8 h7)).bind fun r9 =>
      (f_X6_isDigit r9.1 r9.2).bind fun r10 =>
      if r10.1 = (0 : Int32) then
        f_X6_readFit_J81 p1 r3.1 r6.1 (0 : Int32) r10.2
      else
        (vc r10.2 6 a0 (f_X6_readNumber a0 (0 : Int32) (99 : Int32) r10.2)).bind fun r11 =>
        if r11.1 = (0 : Int32) then
          if (0 : Int32) = 0 ∨ (0 : Int32) = 1 then some ((0 : Int32), r11.2) else none
        else
          (vc r11.2 6 a0 (f_X6_value a0 r11.2)).bind fun r12 =>
          f_X6_readFit_J81 p1 r3.1 r6.1 r12.1 r12.2
theorem y_X6_readFit {g : xG} {h0 : xH} {cl : Bool} (a0 : Nat) (p1 : Nat) (h : xH) : Y g DX6_readFit h0 cl iI (f_X6_readFit a0 p1 h) 0 [some (.ref a0), some (.ref p1), none, none, none] [] h := by
  unfold f_X6_readFit
  refine Y.op (pc' := 1) (fun _ => X.aloadn rfl dX6_readFit_0) ?_
  refine Y.op (pc' := 2) (fun _ => X.ic ki_0 dX6_readFit_1) ?_
  refine Y.op (pc' := 3) (fun _ => X.aloadn rfl dX6_readFit_2) ?_
  refine Y.getI fd_X6_108 rfl dX6_readFit_3 (fun v1 => ?_)
  refine Y.op (pc' := 7) (fun _ => X.ic ki_1 dX6_readFit_6) ?_
  refine Y.op (pc' := 8) (fun _ => X.isub dX6_readFit_7) ?_
  refine Y.callVi (As := [.int (0 : Int32), .int (v1 - (1 : Int32))]) lk_X6_58 rfl cal_X6_readNumber vir_X6_readNumber (Nat.le_of_ble_eq_true rfl) (Nat.le_of_ble_eq_true rfl) rfl rfl rfl (Nat.le_of_ble_eq_true rfl) dX6_readFit_8 (fun _ e => m_X6_readNumber a0 (0 : Int32) (v1 - (1 : Int32)) h _ _ e) (fun r2 => ?_)
  refine Y.ifne 16 (by decide) dX6_readFit_11 ?_ ?_
  · refine Y.op (pc' := 17) (fun _ => X.aloadn rfl dX6_readFit_16) ?_
    refine Y.callVi (As := []) lk_X6_62 rfl cal_X6_value vir_X6_value (Nat.le_of_ble_eq_true rfl) (Nat.le_of_ble_eq_true rfl) rfl rfl rfl (Nat.le_of_ble_eq_true rfl) dX6_readFit_17 (fun _ e => m_X6_value a0 r2.2 _ _ e) (fun r3 => ?_)
    refine Y.op (pc' := 21) (loc' := [some (.ref a0), some (.ref p1), some (.int r3.1), none, none]) (fun _ => X.istoren (Nat.le_of_ble_eq_true rfl) rfl dX6_readFit_20) ?_
    refine Y.op (pc' := 22) (fun _ => X.aloadn rfl dX6_readFit_21) ?_
    refine Y.op (pc' := 23) (fun _ => X.ic ki_0 dX6_readFit_22) ?_
    refine Y.op (pc' := 24) (fun _ => X.aloadn rfl dX6_readFit_23) ?_
    refine Y.getI fd_X6_110 rfl dX6_readFit_24 (fun v4 => ?_)
    refine Y.op (pc' := 28) (fun _ => X.ic ki_1 dX6_readFit_27) ?_
    refine Y.op (pc' := 29) (fun _ => X.isub dX6_readFit_28) ?_
    refine Y.callVi (As := [.int (0 : Int32), .int (v4 - (1 : Int32))]) lk_X6_58 rfl cal_X6_readNumber vir_X6_readNumber (Nat.le_of_ble_eq_true rfl) (Nat.le_of_ble_eq_true rfl) rfl rfl rfl (Nat.le_of_ble_eq_true rfl) dX6_readFit_29 (fun _ e => m_X6_readNumber a0 (0 : Int32) (v4 - (1 : Int32)) r3.2 _ _ e) (fun r5 => ?_)
    refine Y.ifne 37 (by decide) dX6_readFit_32 ?_ ?_
    · refine Y.op (pc' := 38) (fun _ => X.aloadn rfl dX6_readFit_37) ?_
      refine Y.callVi (As := []) lk_X6_62 rfl cal_X6_value vir_X6_value (Nat.le_of_ble_eq_true rfl) (Nat.le_of_ble_eq_true rfl) rfl rfl rfl (Nat.le_of_ble_eq_true rfl) dX6_readFit_38 (fun _ e => m_X6_value a0 r5.2 _ _ e) (fun r6 => ?_)
      refine Y.op (pc' := 42) (loc' := [some (.ref a0), some (.ref p1), some (.int r3.1), some (.int r6.1), none]) (fun _ => X.istoren (Nat.le_of_ble_eq_true rfl) rfl dX6_readFit_41) ?_
      refine Y.op (pc' := 43) (fun _ => X.ic ki_0 dX6_readFit_42) ?_
      refine Y.op (pc' := 45) (loc' := [some (.ref a0), some (.ref p1), some (.int r3.1), some (.int r6.1), some (.int (0 : Int32))]) (fun _ => X.istore (Nat.le_of_ble_eq_true rfl) rfl dX6_readFit_43) ?_
      refine Y.op (pc' := 46) (fun _ => X.aloadn rfl dX6_readFit_45) ?_
      refine Y.callVv (As := []) lk_X6_112 rfl cal_X6_skipBlanks vir_X6_skipBlanks (Nat.le_of_ble_eq_true rfl) (Nat.le_of_ble_eq_true rfl) rfl rfl rfl (Nat.le_of_ble_eq_true rfl) dX6_readFit_46 (fun _ e => m_X6_skipBlanks a0 r6.2 _ _ e) (fun h7 => ?_)
      refine Y.op (pc' := 50) (fun _ => X.aloadn rfl dX6_readFit_49) ?_
      refine Y.op (pc' := 51) (fun _ => X.aloadn rfl dX6_readFit_50) ?_
      refine Y.getI fd_X6_28 rfl dX6_readFit_51 (fun v8 => ?_)
      refine Y.callVi (As := [.int v8]) lk_X6_115 rfl cal_X6_byteAt vir_X6_byteAt (Nat.le_of_ble_eq_true rfl) (Nat.le_of_ble_eq_true rfl) rfl rfl rfl (Nat.le_of_ble_eq_true rfl) dX6_readFit_54 (fun _ e => m_X6_byteAt a0 v8 h7 _ _ e) (fun r9 => ?_)
      refine Y.callSi (As := [.int r9.1]) lk_X6_119 rfl cal_X6_isDigit sta_X6_isDigit (Nat.le_of_ble_eq_true rfl) rfl rfl (Nat.le_of_ble_eq_true rfl) dX6_readFit_57 (fun _ e => m_X6_isDigit r9.1 r9.2 _ _ e) (fun r10 => ?_)
      refine Y.ifeq 81 (by decide) dX6_readFit_60 ?_ ?_
      · exact Y.fg (y_X6_readFit_J81 p1 r3.1 r6.1 (0 : Int32) r10.2) (And.intro rfl (And.intro rfl (And.intro rfl (And.intro rfl trivial))))
      · refine Y.op (pc' := 64) (fun _ => X.aloadn rfl dX6_readFit_63) ?_
        refine Y.op (pc' := 65) (fun _ => X.ic ki_0 dX6_readFit_64) ?_
        refine Y.op (pc' := 67) (fun _ => X.bp kb_99 dX6_readFit_65) ?_
        refine Y.callVi (As := [.int (0 : Int32), .int (99 : Int32)]) lk_X6_58 rfl cal_X6_readNumber vir_X6_readNumber (Nat.le_of_ble_eq_true rfl) (Nat.le_of_ble_eq_true rfl) rfl rfl rfl (Nat.le_of_ble_eq_true rfl) dX6_readFit_67 (fun _ e => m_X6_readNumber a0 (0 : Int32) (99 : Int32) r10.2 _ _ e) (fun r11 => ?_)
        refine Y.ifne 75 (by decide) dX6_readFit_70 ?_ ?_
        · refine Y.op (pc' := 76) (fun _ => X.aloadn rfl dX6_readFit_75) ?_
          refine Y.callVi (As := []) lk_X6_62 rfl cal_X6_value vir_X6_value (Nat.le_of_ble_eq_true rfl) (Nat.le_of_ble_eq_true rfl) rfl rfl rfl (Nat.le_of_ble_eq_true rfl) dX6_readFit_76 (fun _ e => m_X6_value a0 r11.2 _ _ e) (fun r12 => ?_)
          refine Y.op (pc' := 81) (loc' := [some (.ref a0), some (.ref p1), some (.int r3.1), some (.int r6.1), some (.int r12.1)]) (fun _ => X.istore (Nat.le_of_ble_eq_true rfl) rfl dX6_readFit_79) ?_
          exact Y.fg (y_X6_readFit_J81 p1 r3.1 r6.1 r12.1 r12.2) (And.intro rfl (And.intro rfl (And.intro rfl (And.intro rfl trivial))))
        · refine Y.op (pc' := 74) (fun _ => X.ic ki_0 dX6_readFit_73) ?_
          exact Y.zreturn rfl dX6_readFit_74
    · refine Y.op (pc' := 36) (fun _ => X.ic ki_0 dX6_readFit_35) ?_
      exact Y.zreturn rfl dX6_readFit_36
  · refine Y.op (pc' := 15) (fun _ => X.ic ki_0 dX6_readFit_14) ?_
    exact Y.zreturn rfl dX6_readFit_15
theorem m_X6_readFit {g : xG} (a0 : Nat) (p1 : Nat) (h : xH) (cl : Bool) (r : Int32 × xH) (e : f_X6_readFit a0 p1 h = some r) : XM g DX6_readFit [.ref a0, .ref p1] h cl (iI r) := YM.of rfl rfl (Nat.le_of_ble_eq_true rfl) (y_X6_readFit a0 p1 h) e
def f_X6_readKeep (a0 : Nat) (p1 : Nat) (h : xH) : Option (Int32 × xH) :=
  (gI h 6 a0 7).bind fun v1 =>
  if v1 = (0 : Int32) then
    (pZ h 6 a0 7 (1 : Int32)).bind fun h2 =>
    (vc h2 6 a0 (f_X6_readNumber a0 (0 : Int32) (1 : Int32) h2)).bind fun r3 =>
    if r3.1 = (0 : Int32) then
      if (0 : Int32) = 0 ∨ (0 : Int32) = 1 then some ((0 : Int32), r3.2) else none
    else
      (vc r3.2 6 a0 (f_X6_value a0 r3.2)).bind fun r4 =>
      (pI r4.2 0 p1 4 r4.1).bind fun h5 =>
      if (1 : Int32) = 0 ∨ (1 : Int32) = 1 then some ((1 : Int32), h5) else none
  else
    (gI h 6 a0 6).bind fun v6 =>
    (vc h 6 a0 (f_X6_isFault a0 (3 : Int32) v6 h)).bind fun r7 =>
    if r7.1 = 0 ∨ r7.1 = 1 then some (r7.1, r7.2) else none
theorem y_X6_readKeep {g : xG} {h0 : xH} {cl : Bool} (a0 : Nat) (p1 : Nat) (h : xH) : Y g DX6_readKeep h0 cl iI (f_X6_readKeep a0 p1 h) 0 [some (.ref a0), some (.ref p1)] [] h := by
  unfold f_X6_readKeep
  refine Y.op (pc' := 1) (fun _ => X.aloadn rfl dX6_readKeep_0) ?_
  refine Y.getI fd_X6_34 rfl dX6_readKeep_1 (fun v1 => ?_)
  refine Y.ifeq 17 (by decide) dX6_readKeep_4 ?_ ?_
  · refine Y.op (pc' := 18) (fun _ => X.aloadn rfl dX6_readKeep_17) ?_
    refine Y.op (pc' := 19) (fun _ => X.ic ki_1 dX6_readKeep_18) ?_
    refine Y.putZ fd_X6_34 rfl dX6_readKeep_19 (fun h2 => ?_)
    refine Y.op (pc' := 23) (fun _ => X.aloadn rfl dX6_readKeep_22) ?_
    refine Y.op (pc' := 24) (fun _ => X.ic ki_0 dX6_readKeep_23) ?_
    refine Y.op (pc' := 25) (fun _ => X.ic ki_1 dX6_readKeep_24) ?_
    refine Y.callVi (As := [.int (0 : Int32), .int (1 : Int32)]) lk_X6_58 rfl cal_X6_readNumber vir_X6_readNumber (Nat.le_of_ble_eq_true rfl) (Nat.le_of_ble_eq_true rfl) rfl rfl rfl (Nat.le_of_ble_eq_true rfl) dX6_readKeep_25 (fun _ e => m_X6_readNumber a0 (0 : Int32) (1 : Int32) h2 _ _ e) (fun r3 => ?_)
    refine Y.ifne 33 (by decide) dX6_readKeep_28 ?_ ?_
    · refine Y.op (pc' := 34) (fun _ => X.aloadn rfl dX6_readKeep_33) ?_
      refine Y.op (pc' := 35) (fun _ => X.aloadn rfl dX6_readKeep_34) ?_
      refine Y.callVi (As := []) lk_X6_62 rfl cal_X6_value vir_X6_value (Nat.le_of_ble_eq_true rfl) (Nat.le_of_ble_eq_true rfl) rfl rfl rfl (Nat.le_of_ble_eq_true rfl) dX6_readKeep_35 (fun _ e => m_X6_value a0 r3.2 _ _ e) (fun r4 => ?_)
      refine Y.putI fd_X6_153 rfl dX6_readKeep_38 (fun h5 => ?_)
      refine Y.op (pc' := 42) (fun _ => X.ic ki_1 dX6_readKeep_41) ?_
      exact Y.zreturn rfl dX6_readKeep_42
    · refine Y.op (pc' := 32) (fun _ => X.ic ki_0 dX6_readKeep_31) ?_
      exact Y.zreturn rfl dX6_readKeep_32
  · refine Y.op (pc' := 8) (fun _ => X.aloadn rfl dX6_readKeep_7) ?_
    refine Y.op (pc' := 9) (fun _ => X.ic ki_3 dX6_readKeep_8) ?_
    refine Y.op (pc' := 10) (fun _ => X.aloadn rfl dX6_readKeep_9) ?_
    refine Y.getI fd_X6_31 rfl dX6_readKeep_10 (fun v6 => ?_)
    refine Y.callVi (As := [.int (3 : Int32), .int v6]) lk_X6_105 rfl cal_X6_isFault vir_X6_isFault (Nat.le_of_ble_eq_true rfl) (Nat.le_of_ble_eq_true rfl) rfl rfl rfl (Nat.le_of_ble_eq_true rfl) dX6_readKeep_13 (fun _ e => m_X6_isFault a0 (3 : Int32) v6 h _ _ e) (fun r7 => ?_)
    exact Y.zreturn rfl dX6_readKeep_16
theorem m_X6_readKeep {g : xG} (a0 : Nat) (p1 : Nat) (h : xH) (cl : Bool) (r : Int32 × xH) (e : f_X6_readKeep a0 p1 h = some r) : XM g DX6_readKeep [.ref a0, .ref p1] h cl (iI r) := YM.of rfl rfl (Nat.le_of_ble_eq_true rfl) (y_X6_readKeep a0 p1 h) e
def f_X6_readPair_J84 (x0 : Nat) (x3 : Int32) (h : xH) : Option (Int32 × xH) :=
  (vc h 6 x0 (f_X6_isFault x0 (4 : Int32) x3 h)).bind fun r1 =>
  if r1.1 = 0 ∨ r1.1 = 1 then some (r1.1, r1.2) else none
theorem y_X6_readPair_J84 {g : xG} {h0 : xH} {cl : Bool} (x0 : Nat) (x3 : Int32) (h : xH) : Y g DX6_readPair h0 cl iI (f_X6_readPair_J84 x0 x3 h) 84 [some (.ref x0), none, none, some (.int x3), none] [] h := by
  unfold f_X6_readPair_J84
  refine Y.op (pc' := 85) (fun _ => X.aloadn rfl dX6_readPair_84) ?_
  refine Y.op (pc' := 86) (fun _ => X.ic ki_4 dX6_readPair_85) ?_
  refine Y.op (pc' := 87) (fun _ => X.iloadn rfl dX6_readPair_86) ?_
  refine Y.callVi (As := [.int (4 : Int32), .int x3]) lk_X6_105 rfl cal_X6_isFault vir_X6_isFault (Nat.le_of_ble_eq_true rfl) (Nat.le_of_ble_eq_true rfl) rfl rfl rfl (Nat.le_of_ble_eq_true rfl) dX6_readPair_87 (fun _ e => m_X6_isFault x0 (4 : Int32) x3 h _ _ e) (fun r1 => ?_)
  exact Y.zreturn rfl dX6_readPair_90
def f_X6_readPair (a0 : Nat) (p1 : Nat) (h : xH) : Option (Int32 × xH) :=
  (gI h 0 p1 0).bind fun v1 =>
  (vc h 6 a0 (f_X6_readNumber a0 (0 : Int32) (v1 - (1 : Int32)) h)).bind fun r2 =>
  if r2.1 = (0 : Int32) then
    if (0 : Int32) = 0 ∨ (0 : Int32) = 1 then some ((0 : Int32), r2.2) else none
  else
    (vc r2.2 6 a0 (f_X6_value a0 r2.2)).bind fun r3 =>
    (gI r3.2 6 a0 6).bind fun v4 =>
    (vc r3.2 0 p1 (f_X0_isFree p1 (0 : Int32) r3.1 r3.2)).bind fun r5 =>
    if r5.1 = (0 : Int32) then
      (vc r5.2 6 a0 (f_X6_isFault a0 (4 : Int32) v4 r5.2)).bind fun r13 =>
      if r13.1 = 0 ∨ r13.1 = 1 then some (r13.1, r13.2) else none
    else
      (gI r5.2 0 p1 1).bind fun v6 =>
      (vc r5.2 6 a0 (f_X6_readNumber a0 (0 : Int32) (v6 - (1 : Int32)) r5.2)).bind fun r7 =>
      if r7.1 = (0 : Int32) then
        if (0 : Int32) = 0 ∨ (0 : Int32) = 1 then some ((0 : Int32), r7.2) else none
      else
        (vc r7.2 6 a0 (f_X6_value a0 r7.2)).bind fun r8 =>
        (vc r8.2 0 p1 (f_X0_isFree p1 (1 : Int32) r8.1 r8.2)).bind fun r9 =>
        if r9.1 = (0 : Int32) then
          f_X6_readPair_J84 a0 v4 r9.2
        else
          (vc r9.2 0 p1 (f_X0_isFit p1 r3.1 r8.1 r9.2)).bind fun r10 =>
          if r10.1 = (0 : Int32) then
            f_X6_readPair_J84 a0 v4 r10.2
          else
            (gR r10.2 0 p1 9).bind fun v11 =>
            (vc r10.2 3 v11 (f_X3_join v11 r3.1 r8.1 r10.2)).bind fun h12 =>
            if (1 : Int32) = 0 ∨ (1 : Int32) = 1 then some ((1 : Int32), h12) else none
theorem y_X6_readPair {g : xG} {h0 : xH} {cl : Bool} (a0 : Nat) (p1 : Nat) (h : xH) : Y g DX6_readPair h0 cl iI (f_X6_readPair a0 p1 h) 0 [some (.ref a0), some (.ref p1), none, none, none] [] h := by
  unfold f_X6_readPair
  refine Y.op (pc' := 1) (fun _ => X.aloadn rfl dX6_readPair_0) ?_
  refine Y.op (pc' := 2) (fun _ => X.ic ki_0 dX6_readPair_1) ?_
  refine Y.op (pc' := 3) (fun _ => X.aloadn rfl dX6_readPair_2) ?_
  refine Y.getI fd_X6_108 rfl dX6_readPair_3 (fun v1 => ?_)
  refine Y.op (pc' := 7) (fun _ => X.ic ki_1 dX6_readPair_6) ?_
  refine Y.op (pc' := 8) (fun _ => X.isub dX6_readPair_7) ?_
  refine Y.callVi (As := [.int (0 : Int32), .int (v1 - (1 : Int32))]) lk_X6_58 rfl cal_X6_readNumber vir_X6_readNumber (Nat.le_of_ble_eq_true rfl) (Nat.le_of_ble_eq_true rfl) rfl rfl rfl (Nat.le_of_ble_eq_true rfl) dX6_readPair_8 (fun _ e => m_X6_readNumber a0 (0 : Int32) (v1 - (1 : Int32)) h _ _ e) (fun r2 => ?_)
  refine Y.ifne 16 (by decide) dX6_readPair_11 ?_ ?_
  · refine Y.op (pc' := 17) (fun _ => X.aloadn rfl dX6_readPair_16) ?_
    refine Y.callVi (As := []) lk_X6_62 rfl cal_X6_value vir_X6_value (Nat.le_of_ble_eq_true rfl) (Nat.le_of_ble_eq_true rfl) rfl rfl rfl (Nat.le_of_ble_eq_true rfl) dX6_readPair_17 (fun _ e => m_X6_value a0 r2.2 _ _ e) (fun r3 => ?_)
    refine Y.op (pc' := 21) (loc' := [some (.ref a0), some (.ref p1), some (.int r3.1), none, none]) (fun _ => X.istoren (Nat.le_of_ble_eq_true rfl) rfl dX6_readPair_20) ?_
    refine Y.op (pc' := 22) (fun _ => X.aloadn rfl dX6_readPair_21) ?_
    refine Y.getI fd_X6_31 rfl dX6_readPair_22 (fun v4 => ?_)
    refine Y.op (pc' := 26) (loc' := [some (.ref a0), some (.ref p1), some (.int r3.1), some (.int v4), none]) (fun _ => X.istoren (Nat.le_of_ble_eq_true rfl) rfl dX6_readPair_25) ?_
    refine Y.op (pc' := 27) (fun _ => X.aloadn rfl dX6_readPair_26) ?_
    refine Y.op (pc' := 28) (fun _ => X.ic ki_0 dX6_readPair_27) ?_
    refine Y.op (pc' := 29) (fun _ => X.iloadn rfl dX6_readPair_28) ?_
    refine Y.callVi (As := [.int (0 : Int32), .int r3.1]) lk_X6_131 rfl cal_X0_isFree vir_X0_isFree (Nat.le_of_ble_eq_true rfl) (Nat.le_of_ble_eq_true rfl) rfl rfl rfl (Nat.le_of_ble_eq_true rfl) dX6_readPair_29 (fun _ e => m_X0_isFree p1 (0 : Int32) r3.1 r3.2 _ _ e) (fun r5 => ?_)
    refine Y.ifne 42 (by decide) dX6_readPair_32 ?_ ?_
    · refine Y.op (pc' := 43) (fun _ => X.aloadn rfl dX6_readPair_42) ?_
      refine Y.op (pc' := 44) (fun _ => X.ic ki_0 dX6_readPair_43) ?_
      refine Y.op (pc' := 45) (fun _ => X.aloadn rfl dX6_readPair_44) ?_
      refine Y.getI fd_X6_110 rfl dX6_readPair_45 (fun v6 => ?_)
      refine Y.op (pc' := 49) (fun _ => X.ic ki_1 dX6_readPair_48) ?_
      refine Y.op (pc' := 50) (fun _ => X.isub dX6_readPair_49) ?_
      refine Y.callVi (As := [.int (0 : Int32), .int (v6 - (1 : Int32))]) lk_X6_58 rfl cal_X6_readNumber vir_X6_readNumber (Nat.le_of_ble_eq_true rfl) (Nat.le_of_ble_eq_true rfl) rfl rfl rfl (Nat.le_of_ble_eq_true rfl) dX6_readPair_50 (fun _ e => m_X6_readNumber a0 (0 : Int32) (v6 - (1 : Int32)) r5.2 _ _ e) (fun r7 => ?_)
      refine Y.ifne 58 (by decide) dX6_readPair_53 ?_ ?_
      · refine Y.op (pc' := 59) (fun _ => X.aloadn rfl dX6_readPair_58) ?_
        refine Y.callVi (As := []) lk_X6_62 rfl cal_X6_value vir_X6_value (Nat.le_of_ble_eq_true rfl) (Nat.le_of_ble_eq_true rfl) rfl rfl rfl (Nat.le_of_ble_eq_true rfl) dX6_readPair_59 (fun _ e => m_X6_value a0 r7.2 _ _ e) (fun r8 => ?_)
        refine Y.op (pc' := 64) (loc' := [some (.ref a0), some (.ref p1), some (.int r3.1), some (.int v4), some (.int r8.1)]) (fun _ => X.istore (Nat.le_of_ble_eq_true rfl) rfl dX6_readPair_62) ?_
        refine Y.op (pc' := 65) (fun _ => X.aloadn rfl dX6_readPair_64) ?_
        refine Y.op (pc' := 66) (fun _ => X.ic ki_1 dX6_readPair_65) ?_
        refine Y.op (pc' := 68) (fun _ => X.iload rfl dX6_readPair_66) ?_
        refine Y.callVi (As := [.int (1 : Int32), .int r8.1]) lk_X6_131 rfl cal_X0_isFree vir_X0_isFree (Nat.le_of_ble_eq_true rfl) (Nat.le_of_ble_eq_true rfl) rfl rfl rfl (Nat.le_of_ble_eq_true rfl) dX6_readPair_68 (fun _ e => m_X0_isFree p1 (1 : Int32) r8.1 r8.2 _ _ e) (fun r9 => ?_)
        refine Y.ifeq 84 (by decide) dX6_readPair_71 ?_ ?_
        · exact Y.fg (y_X6_readPair_J84 a0 v4 r9.2) (And.intro rfl (And.intro rfl trivial))
        · refine Y.op (pc' := 75) (fun _ => X.aloadn rfl dX6_readPair_74) ?_
          refine Y.op (pc' := 76) (fun _ => X.iloadn rfl dX6_readPair_75) ?_
          refine Y.op (pc' := 78) (fun _ => X.iload rfl dX6_readPair_76) ?_
          refine Y.callVi (As := [.int r3.1, .int r8.1]) lk_X6_138 rfl cal_X0_isFit vir_X0_isFit (Nat.le_of_ble_eq_true rfl) (Nat.le_of_ble_eq_true rfl) rfl rfl rfl (Nat.le_of_ble_eq_true rfl) dX6_readPair_78 (fun _ e => m_X0_isFit p1 r3.1 r8.1 r9.2 _ _ e) (fun r10 => ?_)
          refine Y.ifne 91 (by decide) dX6_readPair_81 ?_ ?_
          · refine Y.op (pc' := 92) (fun _ => X.aloadn rfl dX6_readPair_91) ?_
            refine Y.getR fd_X6_141 rfl dX6_readPair_92 (fun v11 => ?_)
            refine Y.op (pc' := 96) (fun _ => X.iloadn rfl dX6_readPair_95) ?_
            refine Y.op (pc' := 98) (fun _ => X.iload rfl dX6_readPair_96) ?_
            refine Y.callVv (As := [.int r3.1, .int r8.1]) lk_X6_145 rfl cal_X3_join vir_X3_join (Nat.le_of_ble_eq_true rfl) (Nat.le_of_ble_eq_true rfl) rfl rfl rfl (Nat.le_of_ble_eq_true rfl) dX6_readPair_98 (fun _ e => m_X3_join v11 r3.1 r8.1 r10.2 _ _ e) (fun h12 => ?_)
            refine Y.op (pc' := 102) (fun _ => X.ic ki_1 dX6_readPair_101) ?_
            exact Y.zreturn rfl dX6_readPair_102
          · exact Y.fg (y_X6_readPair_J84 a0 v4 r10.2) (And.intro rfl (And.intro rfl trivial))
      · refine Y.op (pc' := 57) (fun _ => X.ic ki_0 dX6_readPair_56) ?_
        exact Y.zreturn rfl dX6_readPair_57
    · refine Y.op (pc' := 36) (fun _ => X.aloadn rfl dX6_readPair_35) ?_
      refine Y.op (pc' := 37) (fun _ => X.ic ki_4 dX6_readPair_36) ?_
      refine Y.op (pc' := 38) (fun _ => X.iloadn rfl dX6_readPair_37) ?_
      refine Y.callVi (As := [.int (4 : Int32), .int v4]) lk_X6_105 rfl cal_X6_isFault vir_X6_isFault (Nat.le_of_ble_eq_true rfl) (Nat.le_of_ble_eq_true rfl) rfl rfl rfl (Nat.le_of_ble_eq_true rfl) dX6_readPair_38 (fun _ e => m_X6_isFault a0 (4 : Int32) v4 r5.2 _ _ e) (fun r13 => ?_)
      exact Y.zreturn rfl dX6_readPair_41
  · refine Y.op (pc' := 15) (fun _ => X.ic ki_0 dX6_readPair_14) ?_
    exact Y.zreturn rfl dX6_readPair_15
theorem m_X6_readPair {g : xG} (a0 : Nat) (p1 : Nat) (h : xH) (cl : Bool) (r : Int32 × xH) (e : f_X6_readPair a0 p1 h = some r) : XM g DX6_readPair [.ref a0, .ref p1] h cl (iI r) := YM.of rfl rfl (Nat.le_of_ble_eq_true rfl) (y_X6_readPair a0 p1 h) e
def f_X6_readWeight (a0 : Nat) (p1 : Nat) (h : xH) : Option (Int32 × xH) :=
  (gI h 0 p1 0).bind fun v1 =>
  (vc h 6 a0 (f_X6_readNumber a0 (0 : Int32) (v1 - (1 : Int32)) h)).bind fun r2 =>
  if r2.1 = (0 : Int32) then
    if (0 : Int32) = 0 ∨ (0 : Int32) = 1 then some ((0 : Int32), r2.2) else none
  else
    (vc r2.2 6 a0 (f_X6_value a0 r2.2)).bind fun r3 =>
    (vc r3.2 6 a0 (f_X6_readNumber a0 (0 : Int32) (99 : Int32) r3.2)).bind fun r4 =>
    if r4.1 = (0 : Int32) then
      if (0 : Int32) = 0 ∨ (0 : Int32) = 1 then some ((0 : Int32), r4.2) else none
    else
      (vc r4.2 6 a0 (f_X6_value a0 r4.2)).bind fun r5 =>
      (vc r5.2 0 p1 (f_X0_setWeight p1 r3.1 r5.1 r5.2)).bind fun h6 =>
      if (1 : Int32) = 0 ∨ (1 : Int32) = 1 then some ((1 : Int32), h6) else none
theorem y_X6_readWeight {g : xG} {h0 : xH} {cl : Bool} (a0 : Nat) (p1 : Nat) (h : xH) : Y g DX6_readWeight h0 cl iI (f_X6_readWeight a0 p1 h) 0 [some (.ref a0), some (.ref p1), none] [] h := by
  unfold f_X6_readWeight
  refine Y.op (pc' := 1) (fun _ => X.aloadn rfl dX6_readWeight_0) ?_
  refine Y.op (pc' := 2) (fun _ => X.ic ki_0 dX6_readWeight_1) ?_
  refine Y.op (pc' := 3) (fun _ => X.aloadn rfl dX6_readWeight_2) ?_
  refine Y.getI fd_X6_108 rfl dX6_readWeight_3 (fun v1 => ?_)
  refine Y.op (pc' := 7) (fun _ => X.ic ki_1 dX6_readWeight_6) ?_
  refine Y.op (pc' := 8) (fun _ => X.isub dX6_readWeight_7) ?_
  refine Y.callVi (As := [.int (0 : Int32), .int (v1 - (1 : Int32))]) lk_X6_58 rfl cal_X6_readNumber vir_X6_readNumber (Nat.le_of_ble_eq_true rfl) (Nat.le_of_ble_eq_true rfl) rfl rfl rfl (Nat.le_of_ble_eq_true rfl) dX6_readWeight_8 (fun _ e => m_X6_readNumber a0 (0 : Int32) (v1 - (1 : Int32)) h _ _ e) (fun r2 => ?_)
  refine Y.ifne 16 (by decide) dX6_readWeight_11 ?_ ?_
  · refine Y.op (pc' := 17) (fun _ => X.aloadn rfl dX6_readWeight_16) ?_
    refine Y.callVi (As := []) lk_X6_62 rfl cal_X6_value vir_X6_value (Nat.le_of_ble_eq_true rfl) (Nat.le_of_ble_eq_true rfl) rfl rfl rfl (Nat.le_of_ble_eq_true rfl) dX6_readWeight_17 (fun _ e => m_X6_value a0 r2.2 _ _ e) (fun r3 => ?_)
    refine Y.op (pc' := 21) (loc' := [some (.ref a0), some (.ref p1), some (.int r3.1)]) (fun _ => X.istoren (Nat.le_of_ble_eq_true rfl) rfl dX6_readWeight_20) ?_
    refine Y.op (pc' := 22) (fun _ => X.aloadn rfl dX6_readWeight_21) ?_
    refine Y.op (pc' := 23) (fun _ => X.ic ki_0 dX6_readWeight_22) ?_
    refine Y.op (pc' := 25) (fun _ => X.bp kb_99 dX6_readWeight_23) ?_
    refine Y.callVi (As := [.int (0 : Int32), .int (99 : Int32)]) lk_X6_58 rfl cal_X6_readNumber vir_X6_readNumber (Nat.le_of_ble_eq_true rfl) (Nat.le_of_ble_eq_true rfl) rfl rfl rfl (Nat.le_of_ble_eq_true rfl) dX6_readWeight_25 (fun _ e => m_X6_readNumber a0 (0 : Int32) (99 : Int32) r3.2 _ _ e) (fun r4 => ?_)
    refine Y.ifne 33 (by decide) dX6_readWeight_28 ?_ ?_
    · refine Y.op (pc' := 34) (fun _ => X.aloadn rfl dX6_readWeight_33) ?_
      refine Y.op (pc' := 35) (fun _ => X.iloadn rfl dX6_readWeight_34) ?_
      refine Y.op (pc' := 36) (fun _ => X.aloadn rfl dX6_readWeight_35) ?_
      refine Y.callVi (As := []) lk_X6_62 rfl cal_X6_value vir_X6_value (Nat.le_of_ble_eq_true rfl) (Nat.le_of_ble_eq_true rfl) rfl rfl rfl (Nat.le_of_ble_eq_true rfl) dX6_readWeight_36 (fun _ e => m_X6_value a0 r4.2 _ _ e) (fun r5 => ?_)
      refine Y.callVv (As := [.int r3.1, .int r5.1]) lk_X6_150 rfl cal_X0_setWeight vir_X0_setWeight (Nat.le_of_ble_eq_true rfl) (Nat.le_of_ble_eq_true rfl) rfl rfl rfl (Nat.le_of_ble_eq_true rfl) dX6_readWeight_39 (fun _ e => m_X0_setWeight p1 r3.1 r5.1 r5.2 _ _ e) (fun h6 => ?_)
      refine Y.op (pc' := 43) (fun _ => X.ic ki_1 dX6_readWeight_42) ?_
      exact Y.zreturn rfl dX6_readWeight_43
    · refine Y.op (pc' := 32) (fun _ => X.ic ki_0 dX6_readWeight_31) ?_
      exact Y.zreturn rfl dX6_readWeight_32
  · refine Y.op (pc' := 15) (fun _ => X.ic ki_0 dX6_readWeight_14) ?_
    exact Y.zreturn rfl dX6_readWeight_15
theorem m_X6_readWeight {g : xG} (a0 : Nat) (p1 : Nat) (h : xH) (cl : Bool) (r : Int32 × xH) (e : f_X6_readWeight a0 p1 h = some r) : XM g DX6_readWeight [.ref a0, .ref p1] h cl (iI r) := YM.of rfl rfl (Nat.le_of_ble_eq_true rfl) (y_X6_readWeight a0 p1 h) e
def f_X6_readLine (a0 : Nat) (p1 : Nat) (h : xH) : Option (Int32 × xH) :=
  (vc h 6 a0 (f_X6_takeWord a0 h)).bind fun h1 =>
  (vc h1 6 a0 (f_X6_wordIs a0 (1000005 : Nat) h1)).bind fun r2 =>
  if r2.1 = (0 : Int32) then
    (vc r2.2 6 a0 (f_X6_wordIs a0 (1000006 : Nat) r2.2)).bind fun r3 =>
    if r3.1 = (0 : Int32) then
      (vc r3.2 6 a0 (f_X6_wordIs a0 (1000007 : Nat) r3.2)).bind fun r4 =>
      if r4.1 = (0 : Int32) then
        (vc r4.2 6 a0 (f_X6_wordIs a0 (1000008 : Nat) r4.2)).bind fun r5 =>
        if r5.1 = (0 : Int32) then
          (vc r5.2 6 a0 (f_X6_wordIs a0 (1000009 : Nat) r5.2)).bind fun r6 =>
          if r6.1 = (0 : Int32) then
            (gI r6.2 6 a0 6).bind fun v7 =>
            (vc r6.2 6 a0 (f_X6_isFault a0 (1 : Int32) v7 r6.2)).bind fun r8 =>
            if r8.1 = 0 ∨ r8.1 = 1 then some (r8.1, r8.2) else none
          else
            (vc r6.2 6 a0 (f_X6_readKeep a0 p1 r6.2)).bind fun r9 =>
            if r9.1 = 0 ∨ r9.1 = 1 then some (r9.1, r9.2) else none
        else
          (vc r5.2 6 a0 (f_X6_readWeight a0 p1 r5.2)).bind fun r10 =>
          if r10.1 = 0 ∨ r10.1 = 1 then some (r10.1, r10.2) else none
      else
        (vc r4.2 6 a0 (f_X6_readPair a0 p1 r4.2)).bind fun r11 =>
        if r11.1 = 0 ∨ r11.1 = 1 then some (r11.1, r11.2) else none
    else
      (vc r3.2 6 a0 (f_X6_readAway a0 p1 r3.2)).bind fun r12 =>
      if r12.1 = 0 ∨ r12.1 = 1 then some (r12.1, r12.2) else none
  else
    (vc r2.2 6 a0 (f_X6_readFit a0 p1 r2.2)).bind fun r13 =>
    if r13.1 = 0 ∨ r13.1 = 1 then some (r13.1, r13.2) else none
theorem y_X6_readLine {g : xG} {h0 : xH} {cl : Bool} (a0 : Nat) (p1 : Nat) (h : xH) : Y g DX6_readLine h0 cl iI (f_X6_readLine a0 p1 h) 0 [some (.ref a0), some (.ref p1)] [] h := by
  unfold f_X6_readLine
  refine Y.op (pc' := 1) (fun _ => X.aloadn rfl dX6_readLine_0) ?_
  refine Y.callVv (As := []) lk_X6_74 rfl cal_X6_takeWord vir_X6_takeWord (Nat.le_of_ble_eq_true rfl) (Nat.le_of_ble_eq_true rfl) rfl rfl rfl (Nat.le_of_ble_eq_true rfl) dX6_readLine_1 (fun _ e => m_X6_takeWord a0 h _ _ e) (fun h1 => ?_)
  refine Y.op (pc' := 5) (fun _ => X.aloadn rfl dX6_readLine_4) ?_
  refine Y.op (pc' := 7) (fun _ => X.ldcS ws_X6_77 rfl dX6_readLine_5) ?_
  refine Y.callVi (As := [.ref (1000005 : Nat)]) lk_X6_79 rfl cal_X6_wordIs vir_X6_wordIs (Nat.le_of_ble_eq_true rfl) (Nat.le_of_ble_eq_true rfl) rfl rfl rfl (Nat.le_of_ble_eq_true rfl) dX6_readLine_7 (fun _ e => m_X6_wordIs a0 (1000005 : Nat) h1 _ _ e) (fun r2 => ?_)
  refine Y.ifeq 19 (by decide) dX6_readLine_10 ?_ ?_
  · refine Y.op (pc' := 20) (fun _ => X.aloadn rfl dX6_readLine_19) ?_
    refine Y.op (pc' := 22) (fun _ => X.ldcS ws_X6_85 rfl dX6_readLine_20) ?_
    refine Y.callVi (As := [.ref (1000006 : Nat)]) lk_X6_79 rfl cal_X6_wordIs vir_X6_wordIs (Nat.le_of_ble_eq_true rfl) (Nat.le_of_ble_eq_true rfl) rfl rfl rfl (Nat.le_of_ble_eq_true rfl) dX6_readLine_22 (fun _ e => m_X6_wordIs a0 (1000006 : Nat) r2.2 _ _ e) (fun r3 => ?_)
    refine Y.ifeq 34 (by decide) dX6_readLine_25 ?_ ?_
    · refine Y.op (pc' := 35) (fun _ => X.aloadn rfl dX6_readLine_34) ?_
      refine Y.op (pc' := 37) (fun _ => X.ldcS ws_X6_90 rfl dX6_readLine_35) ?_
      refine Y.callVi (As := [.ref (1000007 : Nat)]) lk_X6_79 rfl cal_X6_wordIs vir_X6_wordIs (Nat.le_of_ble_eq_true rfl) (Nat.le_of_ble_eq_true rfl) rfl rfl rfl (Nat.le_of_ble_eq_true rfl) dX6_readLine_37 (fun _ e => m_X6_wordIs a0 (1000007 : Nat) r3.2 _ _ e) (fun r4 => ?_)
      refine Y.ifeq 49 (by decide) dX6_readLine_40 ?_ ?_
      · refine Y.op (pc' := 50) (fun _ => X.aloadn rfl dX6_readLine_49) ?_
        refine Y.op (pc' := 52) (fun _ => X.ldcS ws_X6_95 rfl dX6_readLine_50) ?_
        refine Y.callVi (As := [.ref (1000008 : Nat)]) lk_X6_79 rfl cal_X6_wordIs vir_X6_wordIs (Nat.le_of_ble_eq_true rfl) (Nat.le_of_ble_eq_true rfl) rfl rfl rfl (Nat.le_of_ble_eq_true rfl) dX6_readLine_52 (fun _ e => m_X6_wordIs a0 (1000008 : Nat) r4.2 _ _ e) (fun r5 => ?_)
        refine Y.ifeq 64 (by decide) dX6_readLine_55 ?_ ?_
        · refine Y.op (pc' := 65) (fun _ => X.aloadn rfl dX6_readLine_64) ?_
          refine Y.op (pc' := 67) (fun _ => X.ldcS ws_X6_100 rfl dX6_readLine_65) ?_
          refine Y.callVi (As := [.ref (1000009 : Nat)]) lk_X6_79 rfl cal_X6_wordIs vir_X6_wordIs (Nat.le_of_ble_eq_true rfl) (Nat.le_of_ble_eq_true rfl) rfl rfl rfl (Nat.le_of_ble_eq_true rfl) dX6_readLine_67 (fun _ e => m_X6_wordIs a0 (1000009 : Nat) r5.2 _ _ e) (fun r6 => ?_)
          refine Y.ifeq 79 (by decide) dX6_readLine_70 ?_ ?_
          · refine Y.op (pc' := 80) (fun _ => X.aloadn rfl dX6_readLine_79) ?_
            refine Y.op (pc' := 81) (fun _ => X.ic ki_1 dX6_readLine_80) ?_
            refine Y.op (pc' := 82) (fun _ => X.aloadn rfl dX6_readLine_81) ?_
            refine Y.getI fd_X6_31 rfl dX6_readLine_82 (fun v7 => ?_)
            refine Y.callVi (As := [.int (1 : Int32), .int v7]) lk_X6_105 rfl cal_X6_isFault vir_X6_isFault (Nat.le_of_ble_eq_true rfl) (Nat.le_of_ble_eq_true rfl) rfl rfl rfl (Nat.le_of_ble_eq_true rfl) dX6_readLine_85 (fun _ e => m_X6_isFault a0 (1 : Int32) v7 r6.2 _ _ e) (fun r8 => ?_)
            exact Y.zreturn rfl dX6_readLine_88
          · refine Y.op (pc' := 74) (fun _ => X.aloadn rfl dX6_readLine_73) ?_
            refine Y.op (pc' := 75) (fun _ => X.aloadn rfl dX6_readLine_74) ?_
            refine Y.callVi (As := [.ref p1]) lk_X6_102 rfl cal_X6_readKeep vir_X6_readKeep (Nat.le_of_ble_eq_true rfl) (Nat.le_of_ble_eq_true rfl) rfl rfl rfl (Nat.le_of_ble_eq_true rfl) dX6_readLine_75 (fun _ e => m_X6_readKeep a0 p1 r6.2 _ _ e) (fun r9 => ?_)
            exact Y.zreturn rfl dX6_readLine_78
        · refine Y.op (pc' := 59) (fun _ => X.aloadn rfl dX6_readLine_58) ?_
          refine Y.op (pc' := 60) (fun _ => X.aloadn rfl dX6_readLine_59) ?_
          refine Y.callVi (As := [.ref p1]) lk_X6_97 rfl cal_X6_readWeight vir_X6_readWeight (Nat.le_of_ble_eq_true rfl) (Nat.le_of_ble_eq_true rfl) rfl rfl rfl (Nat.le_of_ble_eq_true rfl) dX6_readLine_60 (fun _ e => m_X6_readWeight a0 p1 r5.2 _ _ e) (fun r10 => ?_)
          exact Y.zreturn rfl dX6_readLine_63
      · refine Y.op (pc' := 44) (fun _ => X.aloadn rfl dX6_readLine_43) ?_
        refine Y.op (pc' := 45) (fun _ => X.aloadn rfl dX6_readLine_44) ?_
        refine Y.callVi (As := [.ref p1]) lk_X6_92 rfl cal_X6_readPair vir_X6_readPair (Nat.le_of_ble_eq_true rfl) (Nat.le_of_ble_eq_true rfl) rfl rfl rfl (Nat.le_of_ble_eq_true rfl) dX6_readLine_45 (fun _ e => m_X6_readPair a0 p1 r4.2 _ _ e) (fun r11 => ?_)
        exact Y.zreturn rfl dX6_readLine_48
    · refine Y.op (pc' := 29) (fun _ => X.aloadn rfl dX6_readLine_28) ?_
      refine Y.op (pc' := 30) (fun _ => X.aloadn rfl dX6_readLine_29) ?_
      refine Y.callVi (As := [.ref p1]) lk_X6_87 rfl cal_X6_readAway vir_X6_readAway (Nat.le_of_ble_eq_true rfl) (Nat.le_of_ble_eq_true rfl) rfl rfl rfl (Nat.le_of_ble_eq_true rfl) dX6_readLine_30 (fun _ e => m_X6_readAway a0 p1 r3.2 _ _ e) (fun r12 => ?_)
      exact Y.zreturn rfl dX6_readLine_33
  · refine Y.op (pc' := 14) (fun _ => X.aloadn rfl dX6_readLine_13) ?_
    refine Y.op (pc' := 15) (fun _ => X.aloadn rfl dX6_readLine_14) ?_
    refine Y.callVi (As := [.ref p1]) lk_X6_82 rfl cal_X6_readFit vir_X6_readFit (Nat.le_of_ble_eq_true rfl) (Nat.le_of_ble_eq_true rfl) rfl rfl rfl (Nat.le_of_ble_eq_true rfl) dX6_readLine_15 (fun _ e => m_X6_readFit a0 p1 r2.2 _ _ e) (fun r13 => ?_)
    exact Y.zreturn rfl dX6_readLine_18
theorem m_X6_readLine {g : xG} (a0 : Nat) (p1 : Nat) (h : xH) (cl : Bool) (r : Int32 × xH) (e : f_X6_readLine a0 p1 h = some r) : XM g DX6_readLine [.ref a0, .ref p1] h cl (iI r) := YM.of rfl rfl (Nat.le_of_ble_eq_true rfl) (y_X6_readLine a0 p1 h) e
def f_X6_read_J85 (x0 : Nat) (h : xH) : Option (Int32 × xH) :=
  (gI h 6 x0 3).bind fun v1 =>
  some (v1, h)
theorem y_X6_read_J85 {g : xG} {h0 : xH} {cl : Bool} (x0 : Nat) (h : xH) : Y g DX6_read h0 cl iI (f_X6_read_J85 x0 h) 85 [some (.ref x0), none, none, none, none] [] h := by
  unfold f_X6_read_J85
  refine Y.op (pc' := 86) (fun _ => X.aloadn rfl dX6_read_85) ?_
  refine Y.getI fd_X6_22 rfl dX6_read_86 (fun v1 => ?_)
  exact Y.ireturn rfl dX6_read_89
def f_X6_read_J78 (kH : Nat → Nat → Int32 → Int32 → xH → Option (Int32 × xH)) (kE85 : Nat → xH → Option (Int32 × xH)) (x0 : Nat) (x2 : Nat) (x4 : Int32) (s0 : Int32) (h : xH) : Option (Int32 × xH) :=
  lt (x4 + (1 : Int32)) fun v1 =>
  kH x0 x2 s0 v1 h
theorem y_X6_read_J78 {g : xG} {h0 : xH} {cl : Bool} {kH : Nat → Nat → Int32 → Int32 → xH → Option (Int32 × xH)} {kE85 : Nat → xH → Option (Int32 × xH)} (hkH : ∀ (x0 : Nat) (x2 : Nat) (x3 : Int32) (x4 : Int32) (h : xH), Y g DX6_read h0 cl iI (kH x0 x2 x3 x4 h) 39 [some (.ref x0), none, some (.ref x2), some (.int x3), some (.int x4)] [] h) (hkE85 : ∀ (x0 : Nat) (h : xH), Y g DX6_read h0 cl iI (kE85 x0 h) 85 [some (.ref x0), none, none, none, none] [] h) (x0 : Nat) (x2 : Nat) (x4 : Int32) (s0 : Int32) (h : xH) : Y g DX6_read h0 cl iI (f_X6_read_J78 kH kE85 x0 x2 x4 s0 h) 78 [some (.ref x0), none, some (.ref x2), none, some (.int x4)] [.int s0] h := by
  unfold f_X6_read_J78
  refine Y.op (pc' := 79) (loc' := [some (.ref x0), none, some (.ref x2), some (.int s0), some (.int x4)]) (fun _ => X.istoren (Nat.le_of_ble_eq_true rfl) rfl dX6_read_78) ?_
  refine Y.iinc (i := 4) (loc' := fun v1 => [some (.ref x0), none, some (.ref x2), some (.int s0), some (.int v1)]) rfl (Nat.le_of_ble_eq_true rfl) ki_1 (fun _ => rfl) dX6_read_79 (fun v1 => ?_)
  refine Y.op (pc' := 39) (fun _ => X.goto 39 (by decide) dX6_read_82) ?_
  exact hkH x0 x2 s0 v1 h
def f_X6_read_J77 (kH : Nat → Nat → Int32 → Int32 → xH → Option (Int32 × xH)) (kE85 : Nat → xH → Option (Int32 × xH)) (x0 : Nat) (x2 : Nat) (x4 : Int32) (h : xH) : Option (Int32 × xH) :=
  f_X6_read_J78 (kH) kE85 x0 x2 x4 (0 : Int32) h
theorem y_X6_read_J77 {g : xG} {h0 : xH} {cl : Bool} {kH : Nat → Nat → Int32 → Int32 → xH → Option (Int32 × xH)} {kE85 : Nat → xH → Option (Int32 × xH)} (hkH : ∀ (x0 : Nat) (x2 : Nat) (x3 : Int32) (x4 : Int32) (h : xH), Y g DX6_read h0 cl iI (kH x0 x2 x3 x4 h) 39 [some (.ref x0), none, some (.ref x2), some (.int x3), some (.int x4)] [] h) (hkE85 : ∀ (x0 : Nat) (h : xH), Y g DX6_read h0 cl iI (kE85 x0 h) 85 [some (.ref x0), none, none, none, none] [] h) (x0 : Nat) (x2 : Nat) (x4 : Int32) (h : xH) : Y g DX6_read h0 cl iI (f_X6_read_J77 kH kE85 x0 x2 x4 h) 77 [some (.ref x0), none, some (.ref x2), none, some (.int x4)] [] h := by
  unfold f_X6_read_J77
  refine Y.op (pc' := 78) (fun _ => X.ic ki_0 dX6_read_77) ?_
  exact y_X6_read_J78 hkH hkE85 x0 x2 x4 (0 : Int32) h
def f_X6_read_L39 (kE85 : Nat → xH → Option (Int32 × xH)) : Nat → Nat → Nat → Int32 → Int32 → xH → Option (Int32 × xH)
  | 0 => fun _ _ _ _ _ => none
  | n + 1 => fun x0 x2 x3 x4 h =>
    if x4 ≥ (300 : Int32) then
      kE85 x0 h
    else
      if x3 = (0 : Int32) then
        kE85 x0 h
      else
        (vc h 6 x0 (f_X6_moreStands x0 h)).bind fun r1 =>
        if r1.1 = (0 : Int32) then
          kE85 x0 r1.2
        else
          (vc r1.2 6 x0 (f_X6_readLine x0 x2 r1.2)).bind fun r2 =>
          if r2.1 = (0 : Int32) then
            f_X6_read_J77 (f_X6_read_L39 kE85 n) kE85 x0 x2 x4 r2.2
          else
            (vc r2.2 6 x0 (f_X6_readEnd x0 r2.2)).bind fun r3 =>
            if r3.1 = (0 : Int32) then
              f_X6_read_J77 (f_X6_read_L39 kE85 n) kE85 x0 x2 x4 r3.2
            else
              f_X6_read_J78 (f_X6_read_L39 kE85 n) kE85 x0 x2 x4 (1 : Int32) r3.2
theorem y_X6_read_L39 {g : xG} {h0 : xH} {cl : Bool} {kE85 : Nat → xH → Option (Int32 × xH)} (hkE85 : ∀ (x0 : Nat) (h : xH), Y g DX6_read h0 cl iI (kE85 x0 h) 85 [some (.ref x0), none, none, none, none] [] h) : ∀ (n : Nat) (x0 : Nat) (x2 : Nat) (x3 : Int32) (x4 : Int32) (h : xH), Y g DX6_read h0 cl iI (f_X6_read_L39 kE85 n x0 x2 x3 x4 h) 39 [some (.ref x0), none, some (.ref x2), some (.int x3), some (.int x4)] [] h := by
  intro n
  induction n with
  | zero => intro x0 x2 x3 x4 h; exact Y.nothing
  | succ n ih =>
    intro x0 x2 x3 x4 h
    unfold f_X6_read_L39
    refine Y.op (pc' := 41) (fun _ => X.iload rfl dX6_read_39) ?_
    refine Y.op (pc' := 44) (fun _ => X.sp ks_300 dX6_read_41) ?_
    refine Y.cmpge 85 (by decide) dX6_read_44 ?_ ?_
    · exact Y.fg (hkE85 x0 h) (And.intro rfl trivial)
    · refine Y.op (pc' := 48) (fun _ => X.iloadn rfl dX6_read_47) ?_
      refine Y.ifeq 85 (by decide) dX6_read_48 ?_ ?_
      · exact Y.fg (hkE85 x0 h) (And.intro rfl trivial)
      · refine Y.op (pc' := 52) (fun _ => X.aloadn rfl dX6_read_51) ?_
        refine Y.callVi (As := []) lk_X6_42 rfl cal_X6_moreStands vir_X6_moreStands (Nat.le_of_ble_eq_true rfl) (Nat.le_of_ble_eq_true rfl) rfl rfl rfl (Nat.le_of_ble_eq_true rfl) dX6_read_52 (fun _ e => m_X6_moreStands x0 h _ _ e) (fun r1 => ?_)
        refine Y.ifeq 85 (by decide) dX6_read_55 ?_ ?_
        · exact Y.fg (hkE85 x0 r1.2) (And.intro rfl trivial)
        · refine Y.op (pc' := 59) (fun _ => X.aloadn rfl dX6_read_58) ?_
          refine Y.op (pc' := 60) (fun _ => X.aloadn rfl dX6_read_59) ?_
          refine Y.callVi (As := [.ref x2]) lk_X6_46 rfl cal_X6_readLine vir_X6_readLine (Nat.le_of_ble_eq_true rfl) (Nat.le_of_ble_eq_true rfl) rfl rfl rfl (Nat.le_of_ble_eq_true rfl) dX6_read_60 (fun _ e => m_X6_readLine x0 x2 r1.2 _ _ e) (fun r2 => ?_)
          refine Y.ifeq 77 (by decide) dX6_read_63 ?_ ?_
          · exact Y.fg (y_X6_read_J77 ih hkE85 x0 x2 x4 r2.2) (And.intro rfl (And.intro rfl (And.intro rfl trivial)))
          · refine Y.op (pc' := 67) (fun _ => X.aloadn rfl dX6_read_66) ?_
            refine Y.callVi (As := []) lk_X6_49 rfl cal_X6_readEnd vir_X6_readEnd (Nat.le_of_ble_eq_true rfl) (Nat.le_of_ble_eq_true rfl) rfl rfl rfl (Nat.le_of_ble_eq_true rfl) dX6_read_67 (fun _ e => m_X6_readEnd x0 r2.2 _ _ e) (fun r3 => ?_)
            refine Y.ifeq 77 (by decide) dX6_read_70 ?_ ?_
            · exact Y.fg (y_X6_read_J77 ih hkE85 x0 x2 x4 r3.2) (And.intro rfl (And.intro rfl (And.intro rfl trivial)))
            · refine Y.op (pc' := 74) (fun _ => X.ic ki_1 dX6_read_73) ?_
              refine Y.op (pc' := 78) (fun _ => X.goto 78 (by decide) dX6_read_74) ?_
              exact Y.fg (y_X6_read_J78 ih hkE85 x0 x2 x4 (1 : Int32) r3.2) (And.intro rfl (And.intro rfl (And.intro rfl trivial)))
def f_X6_read (a0 : Nat) (p1 : Int32) (p2 : Nat) (h : xH) : Option (Int32 × xH) :=
  (pI h 6 a0 4 p1).bind fun h1 =>
  (pI h1 6 a0 5 (0 : Int32)).bind fun h2 =>
  (pI h2 6 a0 2 (-1 : Int32)).bind fun h3 =>
  (pI h3 6 a0 3 (0 : Int32)).bind fun h4 =>
  (pZ h4 6 a0 7 (0 : Int32)).bind fun h5 =>
  (pI h5 6 a0 1 (0 : Int32)).bind fun h6 =>
  (vc h6 6 a0 (f_X6_readHead a0 p2 h6)).bind fun r7 =>
  f_X6_read_L39 (f_X6_read_J85) 5000 a0 p2 r7.1 (0 : Int32) r7.2
theorem y_X6_read {g : xG} {h0 : xH} {cl : Bool} (a0 : Nat) (p1 : Int32) (p2 : Nat) (h : xH) : Y g DX6_read h0 cl iI (f_X6_read a0 p1 p2 h) 0 [some (.ref a0), some (.int p1), some (.ref p2), none, none] [] h := by
  unfold f_X6_read
  refine Y.op (pc' := 1) (fun _ => X.aloadn rfl dX6_read_0) ?_
  refine Y.op (pc' := 2) (fun _ => X.iloadn rfl dX6_read_1) ?_
  refine Y.putI fd_X6_25 rfl dX6_read_2 (fun h1 => ?_)
  refine Y.op (pc' := 6) (fun _ => X.aloadn rfl dX6_read_5) ?_
  refine Y.op (pc' := 7) (fun _ => X.ic ki_0 dX6_read_6) ?_
  refine Y.putI fd_X6_28 rfl dX6_read_7 (fun h2 => ?_)
  refine Y.op (pc' := 11) (fun _ => X.aloadn rfl dX6_read_10) ?_
  refine Y.op (pc' := 12) (fun _ => X.ic ki_m1 dX6_read_11) ?_
  refine Y.putI fd_X6_19 rfl dX6_read_12 (fun h3 => ?_)
  refine Y.op (pc' := 16) (fun _ => X.aloadn rfl dX6_read_15) ?_
  refine Y.op (pc' := 17) (fun _ => X.ic ki_0 dX6_read_16) ?_
  refine Y.putI fd_X6_22 rfl dX6_read_17 (fun h4 => ?_)
  refine Y.op (pc' := 21) (fun _ => X.aloadn rfl dX6_read_20) ?_
  refine Y.op (pc' := 22) (fun _ => X.ic ki_0 dX6_read_21) ?_
  refine Y.putZ fd_X6_34 rfl dX6_read_22 (fun h5 => ?_)
  refine Y.op (pc' := 26) (fun _ => X.aloadn rfl dX6_read_25) ?_
  refine Y.op (pc' := 27) (fun _ => X.ic ki_0 dX6_read_26) ?_
  refine Y.putI fd_X6_15 rfl dX6_read_27 (fun h6 => ?_)
  refine Y.op (pc' := 31) (fun _ => X.aloadn rfl dX6_read_30) ?_
  refine Y.op (pc' := 32) (fun _ => X.aloadn rfl dX6_read_31) ?_
  refine Y.callVi (As := [.ref p2]) lk_X6_38 rfl cal_X6_readHead vir_X6_readHead (Nat.le_of_ble_eq_true rfl) (Nat.le_of_ble_eq_true rfl) rfl rfl rfl (Nat.le_of_ble_eq_true rfl) dX6_read_32 (fun _ e => m_X6_readHead a0 p2 h6 _ _ e) (fun r7 => ?_)
  refine Y.op (pc' := 36) (loc' := [some (.ref a0), some (.int p1), some (.ref p2), some (.int r7.1), none]) (fun _ => X.istoren (Nat.le_of_ble_eq_true rfl) rfl dX6_read_35) ?_
  refine Y.op (pc' := 37) (fun _ => X.ic ki_0 dX6_read_36) ?_
  refine Y.op (pc' := 39) (loc' := [some (.ref a0), some (.int p1), some (.ref p2), some (.int r7.1), some (.int (0 : Int32))]) (fun _ => X.istore (Nat.le_of_ble_eq_true rfl) rfl dX6_read_37) ?_
  exact Y.fg (y_X6_read_L39 (y_X6_read_J85) 5000 a0 p2 r7.1 (0 : Int32) r7.2) (And.intro rfl (And.intro rfl (And.intro rfl (And.intro rfl trivial))))
theorem m_X6_read {g : xG} (a0 : Nat) (p1 : Int32) (p2 : Nat) (h : xH) (cl : Bool) (r : Int32 × xH) (e : f_X6_read a0 p1 p2 h = some r) : XM g DX6_read [.ref a0, .int p1, .ref p2] h cl (iI r) := YM.of rfl rfl (Nat.le_of_ble_eq_true rfl) (y_X6_read a0 p1 p2 h) e
def f_X7_init (a0 : Nat) (h : xH) : Option (xH) :=
  (nwC h (3, dv_X3)).bind fun r1 =>
  (ic r1.2 r1.1 (f_X3_init r1.1 r1.2)).bind fun h2 =>
  (pR h2 7 a0 0 r1.1).bind fun h3 =>
  (nwI h3 (12 : Int32)).bind fun r4 =>
  (pR r4.2 7 a0 1 r4.1).bind fun h5 =>
  (nwI h5 (12 : Int32)).bind fun r6 =>
  (pR r6.2 7 a0 2 r6.1).bind fun h7 =>
  (nwI h7 (12 : Int32)).bind fun r8 =>
  (pR r8.2 7 a0 3 r8.1).bind fun h9 =>
  (nwI h9 (24 : Int32)).bind fun r10 =>
  (pR r10.2 7 a0 4 r10.1).bind fun h11 =>
  (pI h11 7 a0 5 (0 : Int32)).bind fun h12 =>
  (pI h12 7 a0 6 (0 : Int32)).bind fun h13 =>
  (pI h13 7 a0 7 (0 : Int32)).bind fun h14 =>
  (pI h14 7 a0 8 (0 : Int32)).bind fun h15 =>
  (pI h15 7 a0 9 (0 : Int32)).bind fun h16 =>
  some h16
theorem y_X7_init {g : xG} {h0 : xH} (a0 : Nat) (h : xH) : Y g DX7_init h0 false iV (f_X7_init a0 h) 0 [some (.ref a0)] [] h := by
  unfold f_X7_init
  refine Y.op (pc' := 1) (fun _ => X.aloadn rfl dX7_init_0) ?_
  refine Y.op (pc' := 4) (fun _ => X.objInit wo_X7 rfl (Nat.le_of_ble_eq_true rfl) (Nat.le_of_ble_eq_true rfl) dX7_init_1) ?_
  refine Y.op (pc' := 5) (fun _ => X.aloadn rfl dX7_init_4) ?_
  refine Y.new wn_X7_9 rfl rfl dX7_init_5 (fun r1 => ?_)
  refine Y.op (pc' := 9) (fun _ => X.dup rfl dX7_init_8) ?_
  refine Y.callIv (As := []) lk_X7_11 rfl cal_X3_init ini_X3_init (Nat.le_of_ble_eq_true rfl) rfl rfl (Nat.le_of_ble_eq_true rfl) dX7_init_9 (fun _ e => m_X3_init r1.1 r1.2 _ e) (fun h2 => ?_)
  refine Y.putR ff_X7_12 rfl rfl (fun _ => rfl) (fun _ => rfl) dX7_init_12 (fun h3 => ?_)
  refine Y.op (pc' := 16) (fun _ => X.aloadn rfl dX7_init_15) ?_
  refine Y.op (pc' := 18) (fun _ => X.bp kb_12 dX7_init_16) ?_
  refine Y.newI waI dX7_init_18 (fun r4 => ?_)
  refine Y.putR ff_X7_18 rfl rfl (fun _ => rfl) (fun _ => rfl) dX7_init_20 (fun h5 => ?_)
  refine Y.op (pc' := 24) (fun _ => X.aloadn rfl dX7_init_23) ?_
  refine Y.op (pc' := 26) (fun _ => X.bp kb_12 dX7_init_24) ?_
  refine Y.newI waI dX7_init_26 (fun r6 => ?_)
  refine Y.putR ff_X7_22 rfl rfl (fun _ => rfl) (fun _ => rfl) dX7_init_28 (fun h7 => ?_)
  refine Y.op (pc' := 32) (fun _ => X.aloadn rfl dX7_init_31) ?_
  refine Y.op (pc' := 34) (fun _ => X.bp kb_12 dX7_init_32) ?_
  refine Y.newI waI dX7_init_34 (fun r8 => ?_)
  refine Y.putR ff_X7_25 rfl rfl (fun _ => rfl) (fun _ => rfl) dX7_init_36 (fun h9 => ?_)
  refine Y.op (pc' := 40) (fun _ => X.aloadn rfl dX7_init_39) ?_
  refine Y.op (pc' := 42) (fun _ => X.bp kb_24 dX7_init_40) ?_
  refine Y.newI waI dX7_init_42 (fun r10 => ?_)
  refine Y.putR ff_X7_28 rfl rfl (fun _ => rfl) (fun _ => rfl) dX7_init_44 (fun h11 => ?_)
  refine Y.op (pc' := 48) (fun _ => X.aloadn rfl dX7_init_47) ?_
  refine Y.op (pc' := 49) (fun _ => X.ic ki_0 dX7_init_48) ?_
  refine Y.putI fd_X7_31 rfl dX7_init_49 (fun h12 => ?_)
  refine Y.op (pc' := 53) (fun _ => X.aloadn rfl dX7_init_52) ?_
  refine Y.op (pc' := 54) (fun _ => X.ic ki_0 dX7_init_53) ?_
  refine Y.putI fd_X7_35 rfl dX7_init_54 (fun h13 => ?_)
  refine Y.op (pc' := 58) (fun _ => X.aloadn rfl dX7_init_57) ?_
  refine Y.op (pc' := 59) (fun _ => X.ic ki_0 dX7_init_58) ?_
  refine Y.putI fd_X7_38 rfl dX7_init_59 (fun h14 => ?_)
  refine Y.op (pc' := 63) (fun _ => X.aloadn rfl dX7_init_62) ?_
  refine Y.op (pc' := 64) (fun _ => X.ic ki_0 dX7_init_63) ?_
  refine Y.putI fd_X7_41 rfl dX7_init_64 (fun h15 => ?_)
  refine Y.op (pc' := 68) (fun _ => X.aloadn rfl dX7_init_67) ?_
  refine Y.op (pc' := 69) (fun _ => X.ic ki_0 dX7_init_68) ?_
  refine Y.putI fd_X7_44 rfl dX7_init_69 (fun h16 => ?_)
  exact Y.vreturn rfl dX7_init_72
theorem m_X7_init {g : xG} (a0 : Nat) (h : xH) (r : xH) (e : f_X7_init a0 h = some r) : XM g DX7_init [.ref a0] h false (iV r) := YM.of rfl rfl (Nat.le_of_ble_eq_true rfl) (y_X7_init a0 h) e
