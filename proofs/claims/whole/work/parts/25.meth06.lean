def f_X9_chosen_J143 (s0 : Int32) (h : xH) : Option ((Int32 ⊕ String) × xH) :=
  some (.inl s0, h)
theorem y_X9_chosen_J143 {g : xG} {h0 : xH} {cl : Bool} (s0 : Int32) (h : xH) : Y g DX9_chosen h0 cl iIx (f_X9_chosen_J143 s0 h) 143 [none, none, none, none, none, none, none] [.int s0] h := by
  unfold f_X9_chosen_J143
  exact Y.ireturnx rfl dX9_chosen_143
def f_X9_chosen_J133 (x1 : Int32) (x3 : Int32) (x4 : Int32) (h : xH) : Option ((Int32 ⊕ String) × xH) :=
  if x1 = (0 : Int32) then
    f_X9_chosen_J143 x3 h
  else
    f_X9_chosen_J143 x4 h
theorem y_X9_chosen_J133 {g : xG} {h0 : xH} {cl : Bool} (x1 : Int32) (x3 : Int32) (x4 : Int32) (h : xH) : Y g DX9_chosen h0 cl iIx (f_X9_chosen_J133 x1 x3 x4 h) 133 [none, some (.int x1), none, some (.int x3), some (.int x4), none, none] [] h := by
  unfold f_X9_chosen_J133
  refine Y.op (pc' := 134) (fun _ => X.iloadn rfl dX9_chosen_133) ?_
  refine Y.ifne 141 (by decide) dX9_chosen_134 ?_ ?_
  · refine Y.op (pc' := 143) (fun _ => X.iload rfl dX9_chosen_141) ?_
    exact Y.fg (y_X9_chosen_J143 x4 h) trivial
  · refine Y.op (pc' := 138) (fun _ => X.iloadn rfl dX9_chosen_137) ?_
    refine Y.op (pc' := 143) (fun _ => X.goto 143 (by decide) dX9_chosen_138) ?_
    exact Y.fg (y_X9_chosen_J143 x3 h) trivial
def f_X9_chosen_J127 (kH : Nat → Int32 → Int32 → Int32 → Int32 → Int32 → xH → Option ((Int32 ⊕ String) × xH)) (kE133 : Int32 → Int32 → Int32 → xH → Option ((Int32 ⊕ String) × xH)) (x0 : Nat) (x1 : Int32) (x2 : Int32) (x3 : Int32) (x4 : Int32) (x5 : Int32) (h : xH) : Option ((Int32 ⊕ String) × xH) :=
  lt (x5 + (1 : Int32)) fun v1 =>
  kH x0 x1 x2 x3 x4 v1 h
theorem y_X9_chosen_J127 {g : xG} {h0 : xH} {cl : Bool} {kH : Nat → Int32 → Int32 → Int32 → Int32 → Int32 → xH → Option ((Int32 ⊕ String) × xH)} {kE133 : Int32 → Int32 → Int32 → xH → Option ((Int32 ⊕ String) × xH)} (hkH : ∀ (x0 : Nat) (x1 : Int32) (x2 : Int32) (x3 : Int32) (x4 : Int32) (x5 : Int32) (h : xH), Y g DX9_chosen h0 cl iIx (kH x0 x1 x2 x3 x4 x5 h) 55 [some (.ref x0), some (.int x1), some (.int x2), some (.int x3), some (.int x4), some (.int x5), none] [] h) (hkE133 : ∀ (x1 : Int32) (x3 : Int32) (x4 : Int32) (h : xH), Y g DX9_chosen h0 cl iIx (kE133 x1 x3 x4 h) 133 [none, some (.int x1), none, some (.int x3), some (.int x4), none, none] [] h) (x0 : Nat) (x1 : Int32) (x2 : Int32) (x3 : Int32) (x4 : Int32) (x5 : Int32) (h : xH) : Y g DX9_chosen h0 cl iIx (f_X9_chosen_J127 kH kE133 x0 x1 x2 x3 x4 x5 h) 127 [some (.ref x0), some (.int x1), some (.int x2), some (.int x3), some (.int x4), some (.int x5), none] [] h := by
  unfold f_X9_chosen_J127
  refine Y.iinc (i := 5) (loc' := fun v1 => [some (.ref x0), some (.int x1), some (.int x2), some (.int x3), some (.int x4), some (.int v1), none]) rfl (Nat.le_of_ble_eq_true rfl) ki_1 (fun _ => rfl) dX9_chosen_127 (fun v1 => ?_)
  refine Y.op (pc' := 55) (fun _ => X.goto 55 (by decide) dX9_chosen_130) ?_
  exact hkH x0 x1 x2 x3 x4 v1 h
def f_X9_chosen_L55 (kE133 : Int32 → Int32 → Int32 → xH → Option ((Int32 ⊕ String) × xH)) : Nat → Nat → Int32 → Int32 → Int32 → Int32 → Int32 → xH → Option ((Int32 ⊕ String) × xH)
  | 0 => fun _ _ _ _ _ _ _ => none
  | n + 1 => fun x0 x1 x2 x3 x4 x5 h =>
    if x5 ≥ (12 : Int32) then
      kE133 x1 x3 x4 h
    else
      if x2 = (0 : Int32) then
        kE133 x1 x3 x4 h
      else
        (gR h 9 x0 0).bind fun v1 =>
        (vc h 0 v1 (f_X0_heaviest v1 x2 h)).bind fun r2 =>
        (f_X9_bit r2.1 r2.2).bind fun r3 =>
        lt ((x2 &&& (r3.1 ^^^ (-1 : Int32)))) fun v4 =>
        (gR r3.2 9 x0 4).bind fun v5 =>
        (vc r3.2 7 v5 (f_X7_find v5 r2.1 r3.2)).bind fun r6 =>
        if r6.1 ≤ (0 : Int32) then
          f_X9_chosen_J127 (f_X9_chosen_L55 kE133 n) kE133 x0 x1 v4 x3 x4 x5 r6.2
        else
          (gR r6.2 9 x0 4).bind fun v7 =>
          (vc r6.2 7 v7 (f_X7_follow v7 r6.2)).bind fun h8 =>
          (f_X9_bit r2.1 h8).bind fun r9 =>
          lt ((x3 ||| r9.1)) fun v10 =>
          (gR r9.2 9 x0 0).bind fun v11 =>
          (vc r9.2 0 v11 (f_X0_weightOf v11 r2.1 r9.2)).bind fun r12 =>
          lt ((x4 + r12.1)) fun v13 =>
          f_X9_chosen_J127 (f_X9_chosen_L55 kE133 n) kE133 x0 x1 v4 v10 v13 x5 r12.2
theorem y_X9_chosen_L55 {g : xG} {h0 : xH} {cl : Bool} {kE133 : Int32 → Int32 → Int32 → xH → Option ((Int32 ⊕ String) × xH)} (hkE133 : ∀ (x1 : Int32) (x3 : Int32) (x4 : Int32) (h : xH), Y g DX9_chosen h0 cl iIx (kE133 x1 x3 x4 h) 133 [none, some (.int x1), none, some (.int x3), some (.int x4), none, none] [] h) : ∀ (n : Nat) (x0 : Nat) (x1 : Int32) (x2 : Int32) (x3 : Int32) (x4 : Int32) (x5 : Int32) (h : xH), Y g DX9_chosen h0 cl iIx (f_X9_chosen_L55 kE133 n x0 x1 x2 x3 x4 x5 h) 55 [some (.ref x0), some (.int x1), some (.int x2), some (.int x3), some (.int x4), some (.int x5), none] [] h := by
  intro n
  induction n with
  | zero => intro x0 x1 x2 x3 x4 x5 h; exact Y.nothing
  | succ n ih =>
    intro x0 x1 x2 x3 x4 x5 h
    unfold f_X9_chosen_L55
    refine Y.op (pc' := 57) (fun _ => X.iload rfl dX9_chosen_55) ?_
    refine Y.op (pc' := 59) (fun _ => X.bp kb_12 dX9_chosen_57) ?_
    refine Y.cmpge 133 (by decide) dX9_chosen_59 ?_ ?_
    · exact Y.fg (hkE133 x1 x3 x4 h) (And.intro rfl (And.intro rfl (And.intro rfl trivial)))
    · refine Y.op (pc' := 63) (fun _ => X.iloadn rfl dX9_chosen_62) ?_
      refine Y.ifeq 133 (by decide) dX9_chosen_63 ?_ ?_
      · exact Y.fg (hkE133 x1 x3 x4 h) (And.intro rfl (And.intro rfl (And.intro rfl trivial)))
      · refine Y.op (pc' := 67) (fun _ => X.aloadn rfl dX9_chosen_66) ?_
        refine Y.getR fd_X9_12 rfl dX9_chosen_67 (fun v1 => ?_)
        refine Y.op (pc' := 71) (fun _ => X.iloadn rfl dX9_chosen_70) ?_
        refine Y.callVi (As := [.int x2]) lk_X9_275 rfl cal_X0_heaviest vir_X0_heaviest (Nat.le_of_ble_eq_true rfl) (Nat.le_of_ble_eq_true rfl) rfl rfl rfl (Nat.le_of_ble_eq_true rfl) dX9_chosen_71 (fun _ e => m_X0_heaviest v1 x2 h _ _ e) (fun r2 => ?_)
        refine Y.op (pc' := 76) (loc' := [some (.ref x0), some (.int x1), some (.int x2), some (.int x3), some (.int x4), some (.int x5), some (.int r2.1)]) (fun _ => X.istore (Nat.le_of_ble_eq_true rfl) rfl dX9_chosen_74) ?_
        refine Y.op (pc' := 77) (fun _ => X.iloadn rfl dX9_chosen_76) ?_
        refine Y.op (pc' := 79) (fun _ => X.iload rfl dX9_chosen_77) ?_
        refine Y.callSi (As := [.int r2.1]) lk_X9_278 rfl cal_X9_bit sta_X9_bit (Nat.le_of_ble_eq_true rfl) rfl rfl (Nat.le_of_ble_eq_true rfl) dX9_chosen_79 (fun _ e => m_X9_bit r2.1 r2.2 _ _ e) (fun r3 => ?_)
        refine Y.op (pc' := 83) (fun _ => X.ic ki_m1 dX9_chosen_82) ?_
        refine Y.op (pc' := 84) (fun _ => X.ixor dX9_chosen_83) ?_
        refine Y.op (pc' := 85) (fun _ => X.iand dX9_chosen_84) ?_
        refine Y.top (fun v4 => ?_)
        refine Y.op (pc' := 86) (loc' := [some (.ref x0), some (.int x1), some (.int v4), some (.int x3), some (.int x4), some (.int x5), some (.int r2.1)]) (fun _ => X.istoren (Nat.le_of_ble_eq_true rfl) rfl dX9_chosen_85) ?_
        refine Y.op (pc' := 87) (fun _ => X.aloadn rfl dX9_chosen_86) ?_
        refine Y.getR fd_X9_36 rfl dX9_chosen_87 (fun v5 => ?_)
        refine Y.op (pc' := 92) (fun _ => X.iload rfl dX9_chosen_90) ?_
        refine Y.callVi (As := [.int r2.1]) lk_X9_179 rfl cal_X7_find vir_X7_find (Nat.le_of_ble_eq_true rfl) (Nat.le_of_ble_eq_true rfl) rfl rfl rfl (Nat.le_of_ble_eq_true rfl) dX9_chosen_92 (fun _ e => m_X7_find v5 r2.1 r3.2 _ _ e) (fun r6 => ?_)
        refine Y.ifle 127 (by decide) dX9_chosen_95 ?_ ?_
        · exact Y.fg (y_X9_chosen_J127 ih hkE133 x0 x1 v4 x3 x4 x5 r6.2) (And.intro rfl (And.intro rfl (And.intro rfl (And.intro rfl (And.intro rfl (And.intro rfl trivial))))))
        · refine Y.op (pc' := 99) (fun _ => X.aloadn rfl dX9_chosen_98) ?_
          refine Y.getR fd_X9_36 rfl dX9_chosen_99 (fun v7 => ?_)
          refine Y.callVv (As := []) lk_X9_281 rfl cal_X7_follow vir_X7_follow (Nat.le_of_ble_eq_true rfl) (Nat.le_of_ble_eq_true rfl) rfl rfl rfl (Nat.le_of_ble_eq_true rfl) dX9_chosen_102 (fun _ e => m_X7_follow v7 r6.2 _ _ e) (fun h8 => ?_)
          refine Y.op (pc' := 106) (fun _ => X.iloadn rfl dX9_chosen_105) ?_
          refine Y.op (pc' := 108) (fun _ => X.iload rfl dX9_chosen_106) ?_
          refine Y.callSi (As := [.int r2.1]) lk_X9_278 rfl cal_X9_bit sta_X9_bit (Nat.le_of_ble_eq_true rfl) rfl rfl (Nat.le_of_ble_eq_true rfl) dX9_chosen_108 (fun _ e => m_X9_bit r2.1 h8 _ _ e) (fun r9 => ?_)
          refine Y.op (pc' := 112) (fun _ => X.ior dX9_chosen_111) ?_
          refine Y.top (fun v10 => ?_)
          refine Y.op (pc' := 113) (loc' := [some (.ref x0), some (.int x1), some (.int v4), some (.int v10), some (.int x4), some (.int x5), some (.int r2.1)]) (fun _ => X.istoren (Nat.le_of_ble_eq_true rfl) rfl dX9_chosen_112) ?_
          refine Y.op (pc' := 115) (fun _ => X.iload rfl dX9_chosen_113) ?_
          refine Y.op (pc' := 116) (fun _ => X.aloadn rfl dX9_chosen_115) ?_
          refine Y.getR fd_X9_12 rfl dX9_chosen_116 (fun v11 => ?_)
          refine Y.op (pc' := 121) (fun _ => X.iload rfl dX9_chosen_119) ?_
          refine Y.callVi (As := [.int r2.1]) lk_X9_284 rfl cal_X0_weightOf vir_X0_weightOf (Nat.le_of_ble_eq_true rfl) (Nat.le_of_ble_eq_true rfl) rfl rfl rfl (Nat.le_of_ble_eq_true rfl) dX9_chosen_121 (fun _ e => m_X0_weightOf v11 r2.1 r9.2 _ _ e) (fun r12 => ?_)
          refine Y.op (pc' := 125) (fun _ => X.iadd dX9_chosen_124) ?_
          refine Y.top (fun v13 => ?_)
          refine Y.op (pc' := 127) (loc' := [some (.ref x0), some (.int x1), some (.int v4), some (.int v10), some (.int v13), some (.int x5), some (.int r2.1)]) (fun _ => X.istore (Nat.le_of_ble_eq_true rfl) rfl dX9_chosen_125) ?_
          exact Y.fg (y_X9_chosen_J127 ih hkE133 x0 x1 v4 v10 v13 x5 r12.2) (And.intro rfl (And.intro rfl (And.intro rfl (And.intro rfl (And.intro rfl (And.intro rfl trivial))))))
def f_X9_chosen_J15 (x0 : Nat) (x1 : Int32) (s0 : Nat) (s1 : Int32) (h : xH) : Option ((Int32 ⊕ String) × xH) :=
  (vc h 9 s0 (f_X9_demand s0 s1 h)).bind fun r => thr r fun h1 =>
  (gR h1 9 x0 4).bind fun v2 =>
  (gR h1 9 x0 0).bind fun v3 =>
  (vc h1 7 v2 (f_X7_load v2 v3 h1)).bind fun h4 =>
  (gR h4 9 x0 4).bind fun v5 =>
  (gR h4 7 v5 0).bind fun v6 =>
  (vc h4 3 v6 (f_X3_clear v6 h4)).bind fun h7 =>
  (gR h7 9 x0 0).bind fun v8 =>
  (gI h7 0 v8 2).bind fun v9 =>
  f_X9_chosen_L55 (f_X9_chosen_J133) 5000 x0 x1 v9 (0 : Int32) (0 : Int32) (0 : Int32) h7
theorem y_X9_chosen_J15 {g : xG} {h0 : xH} {cl : Bool} (x0 : Nat) (x1 : Int32) (s0 : Nat) (s1 : Int32) (h : xH) : Y g DX9_chosen h0 cl iIx (f_X9_chosen_J15 x0 x1 s0 s1 h) 15 [some (.ref x0), some (.int x1), none, none, none, none, none] [.int s1, .ref s0] h := by
  unfold f_X9_chosen_J15
  refine Y.callVx (As := [.int s1]) lk_X9_90 rfl cal_X9_demand vir_X9_demand (Nat.le_of_ble_eq_true rfl) (Nat.le_of_ble_eq_true rfl) rfl rfl rfl (Nat.le_of_ble_eq_true rfl) rfl dX9_chosen_15 (fun _ e => m_X9_demand s0 s1 h _ _ e) (fun h1 => ?_)
  refine Y.op (pc' := 19) (fun _ => X.aloadn rfl dX9_chosen_18) ?_
  refine Y.getR fd_X9_36 rfl dX9_chosen_19 (fun v2 => ?_)
  refine Y.op (pc' := 23) (fun _ => X.aloadn rfl dX9_chosen_22) ?_
  refine Y.getR fd_X9_12 rfl dX9_chosen_23 (fun v3 => ?_)
  refine Y.callVv (As := [.ref v3]) lk_X9_170 rfl cal_X7_load vir_X7_load (Nat.le_of_ble_eq_true rfl) (Nat.le_of_ble_eq_true rfl) rfl rfl rfl (Nat.le_of_ble_eq_true rfl) dX9_chosen_26 (fun _ e => m_X7_load v2 v3 h1 _ _ e) (fun h4 => ?_)
  refine Y.op (pc' := 30) (fun _ => X.aloadn rfl dX9_chosen_29) ?_
  refine Y.getR fd_X9_36 rfl dX9_chosen_30 (fun v5 => ?_)
  refine Y.getR fd_X9_197 rfl dX9_chosen_33 (fun v6 => ?_)
  refine Y.callVv (As := []) lk_X9_272 rfl cal_X3_clear vir_X3_clear (Nat.le_of_ble_eq_true rfl) (Nat.le_of_ble_eq_true rfl) rfl rfl rfl (Nat.le_of_ble_eq_true rfl) dX9_chosen_36 (fun _ e => m_X3_clear v6 h4 _ _ e) (fun h7 => ?_)
  refine Y.op (pc' := 40) (fun _ => X.aloadn rfl dX9_chosen_39) ?_
  refine Y.getR fd_X9_12 rfl dX9_chosen_40 (fun v8 => ?_)
  refine Y.getI fd_X9_131 rfl dX9_chosen_43 (fun v9 => ?_)
  refine Y.op (pc' := 47) (loc' := [some (.ref x0), some (.int x1), some (.int v9), none, none, none, none]) (fun _ => X.istoren (Nat.le_of_ble_eq_true rfl) rfl dX9_chosen_46) ?_
  refine Y.op (pc' := 48) (fun _ => X.ic ki_0 dX9_chosen_47) ?_
  refine Y.op (pc' := 49) (loc' := [some (.ref x0), some (.int x1), some (.int v9), some (.int (0 : Int32)), none, none, none]) (fun _ => X.istoren (Nat.le_of_ble_eq_true rfl) rfl dX9_chosen_48) ?_
  refine Y.op (pc' := 50) (fun _ => X.ic ki_0 dX9_chosen_49) ?_
  refine Y.op (pc' := 52) (loc' := [some (.ref x0), some (.int x1), some (.int v9), some (.int (0 : Int32)), some (.int (0 : Int32)), none, none]) (fun _ => X.istore (Nat.le_of_ble_eq_true rfl) rfl dX9_chosen_50) ?_
  refine Y.op (pc' := 53) (fun _ => X.ic ki_0 dX9_chosen_52) ?_
  refine Y.op (pc' := 55) (loc' := [some (.ref x0), some (.int x1), some (.int v9), some (.int (0 : Int32)), some (.int (0 : Int32)), some (.int (0 : Int32)), none]) (fun _ => X.istore (Nat.le_of_ble_eq_true rfl) rfl dX9_chosen_53) ?_
  exact y_X9_chosen_L55 (y_X9_chosen_J133) 5000 x0 x1 v9 (0 : Int32) (0 : Int32) (0 : Int32) h7
def f_X9_chosen_J10 (x0 : Nat) (x1 : Int32) (s0 : Nat) (h : xH) : Option ((Int32 ⊕ String) × xH) :=
  f_X9_chosen_J15 x0 x1 s0 (1 : Int32) h
theorem y_X9_chosen_J10 {g : xG} {h0 : xH} {cl : Bool} (x0 : Nat) (x1 : Int32) (s0 : Nat) (h : xH) : Y g DX9_chosen h0 cl iIx (f_X9_chosen_J10 x0 x1 s0 h) 10 [some (.ref x0), some (.int x1), none, none, none, none, none] [.ref s0] h := by
  unfold f_X9_chosen_J10
  refine Y.op (pc' := 11) (fun _ => X.ic ki_1 dX9_chosen_10) ?_
  refine Y.op (pc' := 15) (fun _ => X.goto 15 (by decide) dX9_chosen_11) ?_
  exact y_X9_chosen_J15 x0 x1 s0 (1 : Int32) h
def f_X9_chosen (a0 : Nat) (p1 : Int32) (h : xH) : Option ((Int32 ⊕ String) × xH) :=
  if p1 = (0 : Int32) then
    f_X9_chosen_J10 a0 p1 a0 h
  else
    if p1 = (1 : Int32) then
      f_X9_chosen_J10 a0 p1 a0 h
    else
      f_X9_chosen_J15 a0 p1 a0 (0 : Int32) h
theorem y_X9_chosen {g : xG} {h0 : xH} {cl : Bool} (a0 : Nat) (p1 : Int32) (h : xH) : Y g DX9_chosen h0 cl iIx (f_X9_chosen a0 p1 h) 0 [some (.ref a0), some (.int p1), none, none, none, none, none] [] h := by
  unfold f_X9_chosen
  refine Y.op (pc' := 1) (fun _ => X.aloadn rfl dX9_chosen_0) ?_
  refine Y.op (pc' := 2) (fun _ => X.iloadn rfl dX9_chosen_1) ?_
  refine Y.ifeq 10 (by decide) dX9_chosen_2 ?_ ?_
  · exact y_X9_chosen_J10 a0 p1 a0 h
  · refine Y.op (pc' := 6) (fun _ => X.iloadn rfl dX9_chosen_5) ?_
    refine Y.op (pc' := 7) (fun _ => X.ic ki_1 dX9_chosen_6) ?_
    refine Y.cmpne 14 (by decide) dX9_chosen_7 ?_ ?_
    · refine Y.op (pc' := 15) (fun _ => X.ic ki_0 dX9_chosen_14) ?_
      exact y_X9_chosen_J15 a0 p1 a0 (0 : Int32) h
    · exact y_X9_chosen_J10 a0 p1 a0 h
theorem m_X9_chosen {g : xG} (a0 : Nat) (p1 : Int32) (h : xH) (cl : Bool) (r : (Int32 ⊕ String) × xH) (e : f_X9_chosen a0 p1 h = some r) : XM g DX9_chosen [.ref a0, .int p1] h cl (iIx r) := YM.of rfl rfl (Nat.le_of_ble_eq_true rfl) (y_X9_chosen a0 p1 h) e
def f_X9_rounds (a0 : Nat) (h : xH) : Option (Int32 × xH) :=
  (gR h 9 a0 8).bind fun v1 =>
  (gR h 9 a0 0).bind fun v2 =>
  (vc h 1 v1 (f_X1_fill v1 v2 h)).bind fun h3 =>
  (gR h3 9 a0 8).bind fun v4 =>
  (gI h3 1 v4 5).bind fun v5 =>
  some (v5, h3)
theorem y_X9_rounds {g : xG} {h0 : xH} {cl : Bool} (a0 : Nat) (h : xH) : Y g DX9_rounds h0 cl iI (f_X9_rounds a0 h) 0 [some (.ref a0)] [] h := by
  unfold f_X9_rounds
  refine Y.op (pc' := 1) (fun _ => X.aloadn rfl dX9_rounds_0) ?_
  refine Y.getR fd_X9_64 rfl dX9_rounds_1 (fun v1 => ?_)
  refine Y.op (pc' := 5) (fun _ => X.aloadn rfl dX9_rounds_4) ?_
  refine Y.getR fd_X9_12 rfl dX9_rounds_5 (fun v2 => ?_)
  refine Y.callVv (As := [.ref v2]) lk_X9_287 rfl cal_X1_fill vir_X1_fill (Nat.le_of_ble_eq_true rfl) (Nat.le_of_ble_eq_true rfl) rfl rfl rfl (Nat.le_of_ble_eq_true rfl) dX9_rounds_8 (fun _ e => m_X1_fill v1 v2 h _ _ e) (fun h3 => ?_)
  refine Y.op (pc' := 12) (fun _ => X.aloadn rfl dX9_rounds_11) ?_
  refine Y.getR fd_X9_64 rfl dX9_rounds_12 (fun v4 => ?_)
  refine Y.getI fd_X9_290 rfl dX9_rounds_15 (fun v5 => ?_)
  exact Y.ireturn rfl dX9_rounds_18
theorem m_X9_rounds {g : xG} (a0 : Nat) (h : xH) (cl : Bool) (r : Int32 × xH) (e : f_X9_rounds a0 h = some r) : XM g DX9_rounds [.ref a0] h cl (iI r) := YM.of rfl rfl (Nat.le_of_ble_eq_true rfl) (y_X9_rounds a0 h) e
def f_X9_round (a0 : Nat) (p1 : Int32) (p2 : Int32) (h : xH) : Option ((Int32 ⊕ String) × xH) :=
  (gR h 9 a0 0).bind fun v1 =>
  (vc h 0 v1 (f_X0_knowsBoth v1 p1 p2 h)).bind fun r2 =>
  (vc r2.2 9 a0 (f_X9_demandPlace a0 r2.1 r2.2)).bind fun r => thr r fun h3 =>
  (gR h3 9 a0 8).bind fun v4 =>
  (gR h3 9 a0 0).bind fun v5 =>
  (vc h3 1 v4 (f_X1_fill v4 v5 h3)).bind fun h6 =>
  (gR h6 9 a0 8).bind fun v7 =>
  (vc h6 1 v7 (f_X1_roundOf v7 p1 p2 h6)).bind fun r8 =>
  some (.inl r8.1, r8.2)
theorem y_X9_round {g : xG} {h0 : xH} {cl : Bool} (a0 : Nat) (p1 : Int32) (p2 : Int32) (h : xH) : Y g DX9_round h0 cl iIx (f_X9_round a0 p1 p2 h) 0 [some (.ref a0), some (.int p1), some (.int p2)] [] h := by
  unfold f_X9_round
  refine Y.op (pc' := 1) (fun _ => X.aloadn rfl dX9_round_0) ?_
  refine Y.op (pc' := 2) (fun _ => X.aloadn rfl dX9_round_1) ?_
  refine Y.getR fd_X9_12 rfl dX9_round_2 (fun v1 => ?_)
  refine Y.op (pc' := 6) (fun _ => X.iloadn rfl dX9_round_5) ?_
  refine Y.op (pc' := 7) (fun _ => X.iloadn rfl dX9_round_6) ?_
  refine Y.callVi (As := [.int p1, .int p2]) lk_X9_157 rfl cal_X0_knowsBoth vir_X0_knowsBoth (Nat.le_of_ble_eq_true rfl) (Nat.le_of_ble_eq_true rfl) rfl rfl rfl (Nat.le_of_ble_eq_true rfl) dX9_round_7 (fun _ e => m_X0_knowsBoth v1 p1 p2 h _ _ e) (fun r2 => ?_)
  refine Y.callVx (As := [.int r2.1]) lk_X9_150 rfl cal_X9_demandPlace vir_X9_demandPlace (Nat.le_of_ble_eq_true rfl) (Nat.le_of_ble_eq_true rfl) rfl rfl rfl (Nat.le_of_ble_eq_true rfl) rfl dX9_round_10 (fun _ e => m_X9_demandPlace a0 r2.1 r2.2 _ _ e) (fun h3 => ?_)
  refine Y.op (pc' := 14) (fun _ => X.aloadn rfl dX9_round_13) ?_
  refine Y.getR fd_X9_64 rfl dX9_round_14 (fun v4 => ?_)
  refine Y.op (pc' := 18) (fun _ => X.aloadn rfl dX9_round_17) ?_
  refine Y.getR fd_X9_12 rfl dX9_round_18 (fun v5 => ?_)
  refine Y.callVv (As := [.ref v5]) lk_X9_287 rfl cal_X1_fill vir_X1_fill (Nat.le_of_ble_eq_true rfl) (Nat.le_of_ble_eq_true rfl) rfl rfl rfl (Nat.le_of_ble_eq_true rfl) dX9_round_21 (fun _ e => m_X1_fill v4 v5 h3 _ _ e) (fun h6 => ?_)
  refine Y.op (pc' := 25) (fun _ => X.aloadn rfl dX9_round_24) ?_
  refine Y.getR fd_X9_64 rfl dX9_round_25 (fun v7 => ?_)
  refine Y.op (pc' := 29) (fun _ => X.iloadn rfl dX9_round_28) ?_
  refine Y.op (pc' := 30) (fun _ => X.iloadn rfl dX9_round_29) ?_
  refine Y.callVi (As := [.int p1, .int p2]) lk_X9_293 rfl cal_X1_roundOf vir_X1_roundOf (Nat.le_of_ble_eq_true rfl) (Nat.le_of_ble_eq_true rfl) rfl rfl rfl (Nat.le_of_ble_eq_true rfl) dX9_round_30 (fun _ e => m_X1_roundOf v7 p1 p2 h6 _ _ e) (fun r8 => ?_)
  exact Y.ireturnx rfl dX9_round_33
theorem m_X9_round {g : xG} (a0 : Nat) (p1 : Int32) (p2 : Int32) (h : xH) (cl : Bool) (r : (Int32 ⊕ String) × xH) (e : f_X9_round a0 p1 p2 h = some r) : XM g DX9_round [.ref a0, .int p1, .int p2] h cl (iIx r) := YM.of rfl rfl (Nat.le_of_ble_eq_true rfl) (y_X9_round a0 p1 p2 h) e
def f_X9_beginAct (a0 : Nat) (h : xH) : Option (xH) :=
  (gR h 9 a0 2).bind fun v1 =>
  (gR h 9 a0 0).bind fun v2 =>
  (vc h 2 v1 (f_X2_save v1 v2 h)).bind fun h3 =>
  (pZ h3 9 a0 9 (0 : Int32)).bind fun h4 =>
  some h4
theorem y_X9_beginAct {g : xG} {h0 : xH} {cl : Bool} (a0 : Nat) (h : xH) : Y g DX9_beginAct h0 cl iV (f_X9_beginAct a0 h) 0 [some (.ref a0)] [] h := by
  unfold f_X9_beginAct
  refine Y.op (pc' := 1) (fun _ => X.aloadn rfl dX9_beginAct_0) ?_
  refine Y.getR fd_X9_22 rfl dX9_beginAct_1 (fun v1 => ?_)
  refine Y.op (pc' := 5) (fun _ => X.aloadn rfl dX9_beginAct_4) ?_
  refine Y.getR fd_X9_12 rfl dX9_beginAct_5 (fun v2 => ?_)
  refine Y.callVv (As := [.ref v2]) lk_X9_352 rfl cal_X2_save vir_X2_save (Nat.le_of_ble_eq_true rfl) (Nat.le_of_ble_eq_true rfl) rfl rfl rfl (Nat.le_of_ble_eq_true rfl) dX9_beginAct_8 (fun _ e => m_X2_save v1 v2 h _ _ e) (fun h3 => ?_)
  refine Y.op (pc' := 12) (fun _ => X.aloadn rfl dX9_beginAct_11) ?_
  refine Y.op (pc' := 13) (fun _ => X.ic ki_0 dX9_beginAct_12) ?_
  refine Y.putZ fd_X9_68 rfl dX9_beginAct_13 (fun h4 => ?_)
  exact Y.vreturn rfl dX9_beginAct_16
theorem m_X9_beginAct {g : xG} (a0 : Nat) (h : xH) (cl : Bool) (r : xH) (e : f_X9_beginAct a0 h = some r) : XM g DX9_beginAct [.ref a0] h cl (iV r) := YM.of rfl rfl (Nat.le_of_ble_eq_true rfl) (y_X9_beginAct a0 h) e
def f_X9_add_J29 (x0 : Nat) (x1 : Int32) (x2 : Int32) (x3 : Int32) (s0 : Nat) (s1 : Int32) (h : xH) : Option ((Int32 ⊕ String) × xH) :=
  (vc h 9 s0 (f_X9_demand s0 s1 h)).bind fun r => thr r fun h1 =>
  (vc h1 9 x0 (f_X9_beginAct x0 h1)).bind fun h2 =>
  (gR h2 9 x0 0).bind fun v3 =>
  (vc h2 0 v3 (f_X0_costOf v3 x1 x2 h2)).bind fun r4 =>
  (gR r4.2 9 x0 0).bind fun v5 =>
  (vc r4.2 0 v5 (f_X0_setFit v5 x1 x2 x3 r4.2)).bind fun h6 =>
  (vc h6 9 x0 (f_X9_keepUp x0 h6)).bind fun h7 =>
  some (.inl r4.1, h7)
theorem y_X9_add_J29 {g : xG} {h0 : xH} {cl : Bool} (x0 : Nat) (x1 : Int32) (x2 : Int32) (x3 : Int32) (s0 : Nat) (s1 : Int32) (h : xH) : Y g DX9_add h0 cl iIx (f_X9_add_J29 x0 x1 x2 x3 s0 s1 h) 29 [some (.ref x0), some (.int x1), some (.int x2), some (.int x3), none] [.int s1, .ref s0] h := by
  unfold f_X9_add_J29
  refine Y.callVx (As := [.int s1]) lk_X9_90 rfl cal_X9_demand vir_X9_demand (Nat.le_of_ble_eq_true rfl) (Nat.le_of_ble_eq_true rfl) rfl rfl rfl (Nat.le_of_ble_eq_true rfl) rfl dX9_add_29 (fun _ e => m_X9_demand s0 s1 h _ _ e) (fun h1 => ?_)
  refine Y.op (pc' := 33) (fun _ => X.aloadn rfl dX9_add_32) ?_
  refine Y.callVv (As := []) lk_X9_296 rfl cal_X9_beginAct vir_X9_beginAct (Nat.le_of_ble_eq_true rfl) (Nat.le_of_ble_eq_true rfl) rfl rfl rfl (Nat.le_of_ble_eq_true rfl) dX9_add_33 (fun _ e => m_X9_beginAct x0 h1 _ _ e) (fun h2 => ?_)
  refine Y.op (pc' := 37) (fun _ => X.aloadn rfl dX9_add_36) ?_
  refine Y.getR fd_X9_12 rfl dX9_add_37 (fun v3 => ?_)
  refine Y.op (pc' := 41) (fun _ => X.iloadn rfl dX9_add_40) ?_
  refine Y.op (pc' := 42) (fun _ => X.iloadn rfl dX9_add_41) ?_
  refine Y.callVi (As := [.int x1, .int x2]) lk_X9_160 rfl cal_X0_costOf vir_X0_costOf (Nat.le_of_ble_eq_true rfl) (Nat.le_of_ble_eq_true rfl) rfl rfl rfl (Nat.le_of_ble_eq_true rfl) dX9_add_42 (fun _ e => m_X0_costOf v3 x1 x2 h2 _ _ e) (fun r4 => ?_)
  refine Y.op (pc' := 47) (loc' := [some (.ref x0), some (.int x1), some (.int x2), some (.int x3), some (.int r4.1)]) (fun _ => X.istore (Nat.le_of_ble_eq_true rfl) rfl dX9_add_45) ?_
  refine Y.op (pc' := 48) (fun _ => X.aloadn rfl dX9_add_47) ?_
  refine Y.getR fd_X9_12 rfl dX9_add_48 (fun v5 => ?_)
  refine Y.op (pc' := 52) (fun _ => X.iloadn rfl dX9_add_51) ?_
  refine Y.op (pc' := 53) (fun _ => X.iloadn rfl dX9_add_52) ?_
  refine Y.op (pc' := 54) (fun _ => X.iloadn rfl dX9_add_53) ?_
  refine Y.callVv (As := [.int x1, .int x2, .int x3]) lk_X9_299 rfl cal_X0_setFit vir_X0_setFit (Nat.le_of_ble_eq_true rfl) (Nat.le_of_ble_eq_true rfl) rfl rfl rfl (Nat.le_of_ble_eq_true rfl) dX9_add_54 (fun _ e => m_X0_setFit v5 x1 x2 x3 r4.2 _ _ e) (fun h6 => ?_)
  refine Y.op (pc' := 58) (fun _ => X.aloadn rfl dX9_add_57) ?_
  refine Y.callVv (As := []) lk_X9_103 rfl cal_X9_keepUp vir_X9_keepUp (Nat.le_of_ble_eq_true rfl) (Nat.le_of_ble_eq_true rfl) rfl rfl rfl (Nat.le_of_ble_eq_true rfl) dX9_add_58 (fun _ e => m_X9_keepUp x0 h6 _ _ e) (fun h7 => ?_)
  refine Y.op (pc' := 63) (fun _ => X.iload rfl dX9_add_61) ?_
  exact Y.ireturnx rfl dX9_add_63
def f_X9_add_J28 (x0 : Nat) (x1 : Int32) (x2 : Int32) (x3 : Int32) (s0 : Nat) (h : xH) : Option ((Int32 ⊕ String) × xH) :=
  f_X9_add_J29 x0 x1 x2 x3 s0 (0 : Int32) h
theorem y_X9_add_J28 {g : xG} {h0 : xH} {cl : Bool} (x0 : Nat) (x1 : Int32) (x2 : Int32) (x3 : Int32) (s0 : Nat) (h : xH) : Y g DX9_add h0 cl iIx (f_X9_add_J28 x0 x1 x2 x3 s0 h) 28 [some (.ref x0), some (.int x1), some (.int x2), some (.int x3), none] [.ref s0] h := by
  unfold f_X9_add_J28
  refine Y.op (pc' := 29) (fun _ => X.ic ki_0 dX9_add_28) ?_
  exact y_X9_add_J29 x0 x1 x2 x3 s0 (0 : Int32) h
def f_X9_add (a0 : Nat) (p1 : Int32) (p2 : Int32) (p3 : Int32) (h : xH) : Option ((Int32 ⊕ String) × xH) :=
  (gR h 9 a0 0).bind fun v1 =>
  (vc h 0 v1 (f_X0_knowsBoth v1 p1 p2 h)).bind fun r2 =>
  (vc r2.2 9 a0 (f_X9_demandPlace a0 r2.1 r2.2)).bind fun r => thr r fun h3 =>
  if p3 < (0 : Int32) then
    f_X9_add_J28 a0 p1 p2 p3 a0 h3
  else
    if p3 > (99 : Int32) then
      f_X9_add_J28 a0 p1 p2 p3 a0 h3
    else
      f_X9_add_J29 a0 p1 p2 p3 a0 (1 : Int32) h3
theorem y_X9_add {g : xG} {h0 : xH} {cl : Bool} (a0 : Nat) (p1 : Int32) (p2 : Int32) (p3 : Int32) (h : xH) : Y g DX9_add h0 cl iIx (f_X9_add a0 p1 p2 p3 h) 0 [some (.ref a0), some (.int p1), some (.int p2), some (.int p3), none] [] h := by
  unfold f_X9_add
  refine Y.op (pc' := 1) (fun _ => X.aloadn rfl dX9_add_0) ?_
  refine Y.op (pc' := 2) (fun _ => X.aloadn rfl dX9_add_1) ?_
  refine Y.getR fd_X9_12 rfl dX9_add_2 (fun v1 => ?_)
  refine Y.op (pc' := 6) (fun _ => X.iloadn rfl dX9_add_5) ?_
  refine Y.op (pc' := 7) (fun _ => X.iloadn rfl dX9_add_6) ?_
  refine Y.callVi (As := [.int p1, .int p2]) lk_X9_157 rfl cal_X0_knowsBoth vir_X0_knowsBoth (Nat.le_of_ble_eq_true rfl) (Nat.le_of_ble_eq_true rfl) rfl rfl rfl (Nat.le_of_ble_eq_true rfl) dX9_add_7 (fun _ e => m_X0_knowsBoth v1 p1 p2 h _ _ e) (fun r2 => ?_)
  refine Y.callVx (As := [.int r2.1]) lk_X9_150 rfl cal_X9_demandPlace vir_X9_demandPlace (Nat.le_of_ble_eq_true rfl) (Nat.le_of_ble_eq_true rfl) rfl rfl rfl (Nat.le_of_ble_eq_true rfl) rfl dX9_add_10 (fun _ e => m_X9_demandPlace a0 r2.1 r2.2 _ _ e) (fun h3 => ?_)
  refine Y.op (pc' := 14) (fun _ => X.aloadn rfl dX9_add_13) ?_
  refine Y.op (pc' := 15) (fun _ => X.iloadn rfl dX9_add_14) ?_
  refine Y.iflt 28 (by decide) dX9_add_15 ?_ ?_
  · exact y_X9_add_J28 a0 p1 p2 p3 a0 h3
  · refine Y.op (pc' := 19) (fun _ => X.iloadn rfl dX9_add_18) ?_
    refine Y.op (pc' := 21) (fun _ => X.bp kb_99 dX9_add_19) ?_
    refine Y.cmpgt 28 (by decide) dX9_add_21 ?_ ?_
    · exact y_X9_add_J28 a0 p1 p2 p3 a0 h3
    · refine Y.op (pc' := 25) (fun _ => X.ic ki_1 dX9_add_24) ?_
      refine Y.op (pc' := 29) (fun _ => X.goto 29 (by decide) dX9_add_25) ?_
      exact y_X9_add_J29 a0 p1 p2 p3 a0 (1 : Int32) h3
theorem m_X9_add {g : xG} (a0 : Nat) (p1 : Int32) (p2 : Int32) (p3 : Int32) (h : xH) (cl : Bool) (r : (Int32 ⊕ String) × xH) (e : f_X9_add a0 p1 p2 p3 h = some r) : XM g DX9_add [.ref a0, .int p1, .int p2, .int p3] h cl (iIx r) := YM.of rfl rfl (Nat.le_of_ble_eq_true rfl) (y_X9_add a0 p1 p2 p3 h) e
def f_X9_drop (a0 : Nat) (p1 : Int32) (p2 : Int32) (h : xH) : Option ((Int32 ⊕ String) × xH) :=
  (gR h 9 a0 0).bind fun v1 =>
  (vc h 0 v1 (f_X0_knowsBoth v1 p1 p2 h)).bind fun r2 =>
  (vc r2.2 9 a0 (f_X9_demandPlace a0 r2.1 r2.2)).bind fun r => thr r fun h3 =>
  (gR h3 9 a0 0).bind fun v4 =>
  (vc h3 0 v4 (f_X0_isFit v4 p1 p2 h3)).bind fun r5 =>
  (vc r5.2 9 a0 (f_X9_demand a0 r5.1 r5.2)).bind fun r => thr r fun h6 =>
  (vc h6 9 a0 (f_X9_beginAct a0 h6)).bind fun h7 =>
  (gR h7 9 a0 0).bind fun v8 =>
  (vc h7 0 v8 (f_X0_costOf v8 p1 p2 h7)).bind fun r9 =>
  (gR r9.2 9 a0 0).bind fun v10 =>
  (vc r9.2 0 v10 (f_X0_removeFit v10 p1 p2 r9.2)).bind fun h11 =>
  (vc h11 9 a0 (f_X9_keepUp a0 h11)).bind fun h12 =>
  some (.inl r9.1, h12)
theorem y_X9_drop {g : xG} {h0 : xH} {cl : Bool} (a0 : Nat) (p1 : Int32) (p2 : Int32) (h : xH) : Y g DX9_drop h0 cl iIx (f_X9_drop a0 p1 p2 h) 0 [some (.ref a0), some (.int p1), some (.int p2), none] [] h := by
  unfold f_X9_drop
  refine Y.op (pc' := 1) (fun _ => X.aloadn rfl dX9_drop_0) ?_
  refine Y.op (pc' := 2) (fun _ => X.aloadn rfl dX9_drop_1) ?_
  refine Y.getR fd_X9_12 rfl dX9_drop_2 (fun v1 => ?_)
  refine Y.op (pc' := 6) (fun _ => X.iloadn rfl dX9_drop_5) ?_
  refine Y.op (pc' := 7) (fun _ => X.iloadn rfl dX9_drop_6) ?_
  refine Y.callVi (As := [.int p1, .int p2]) lk_X9_157 rfl cal_X0_knowsBoth vir_X0_knowsBoth (Nat.le_of_ble_eq_true rfl) (Nat.le_of_ble_eq_true rfl) rfl rfl rfl (Nat.le_of_ble_eq_true rfl) dX9_drop_7 (fun _ e => m_X0_knowsBoth v1 p1 p2 h _ _ e) (fun r2 => ?_)
  refine Y.callVx (As := [.int r2.1]) lk_X9_150 rfl cal_X9_demandPlace vir_X9_demandPlace (Nat.le_of_ble_eq_true rfl) (Nat.le_of_ble_eq_true rfl) rfl rfl rfl (Nat.le_of_ble_eq_true rfl) rfl dX9_drop_10 (fun _ e => m_X9_demandPlace a0 r2.1 r2.2 _ _ e) (fun h3 => ?_)
  refine Y.op (pc' := 14) (fun _ => X.aloadn rfl dX9_drop_13) ?_
  refine Y.op (pc' := 15) (fun _ => X.aloadn rfl dX9_drop_14) ?_
  refine Y.getR fd_X9_12 rfl dX9_drop_15 (fun v4 => ?_)
  refine Y.op (pc' := 19) (fun _ => X.iloadn rfl dX9_drop_18) ?_
  refine Y.op (pc' := 20) (fun _ => X.iloadn rfl dX9_drop_19) ?_
  refine Y.callVi (As := [.int p1, .int p2]) lk_X9_303 rfl cal_X0_isFit vir_X0_isFit (Nat.le_of_ble_eq_true rfl) (Nat.le_of_ble_eq_true rfl) rfl rfl rfl (Nat.le_of_ble_eq_true rfl) dX9_drop_20 (fun _ e => m_X0_isFit v4 p1 p2 h3 _ _ e) (fun r5 => ?_)
  refine Y.callVx (As := [.int r5.1]) lk_X9_90 rfl cal_X9_demand vir_X9_demand (Nat.le_of_ble_eq_true rfl) (Nat.le_of_ble_eq_true rfl) rfl rfl rfl (Nat.le_of_ble_eq_true rfl) rfl dX9_drop_23 (fun _ e => m_X9_demand a0 r5.1 r5.2 _ _ e) (fun h6 => ?_)
  refine Y.op (pc' := 27) (fun _ => X.aloadn rfl dX9_drop_26) ?_
  refine Y.callVv (As := []) lk_X9_296 rfl cal_X9_beginAct vir_X9_beginAct (Nat.le_of_ble_eq_true rfl) (Nat.le_of_ble_eq_true rfl) rfl rfl rfl (Nat.le_of_ble_eq_true rfl) dX9_drop_27 (fun _ e => m_X9_beginAct a0 h6 _ _ e) (fun h7 => ?_)
  refine Y.op (pc' := 31) (fun _ => X.aloadn rfl dX9_drop_30) ?_
  refine Y.getR fd_X9_12 rfl dX9_drop_31 (fun v8 => ?_)
  refine Y.op (pc' := 35) (fun _ => X.iloadn rfl dX9_drop_34) ?_
  refine Y.op (pc' := 36) (fun _ => X.iloadn rfl dX9_drop_35) ?_
  refine Y.callVi (As := [.int p1, .int p2]) lk_X9_160 rfl cal_X0_costOf vir_X0_costOf (Nat.le_of_ble_eq_true rfl) (Nat.le_of_ble_eq_true rfl) rfl rfl rfl (Nat.le_of_ble_eq_true rfl) dX9_drop_36 (fun _ e => m_X0_costOf v8 p1 p2 h7 _ _ e) (fun r9 => ?_)
  refine Y.op (pc' := 40) (loc' := [some (.ref a0), some (.int p1), some (.int p2), some (.int r9.1)]) (fun _ => X.istoren (Nat.le_of_ble_eq_true rfl) rfl dX9_drop_39) ?_
  refine Y.op (pc' := 41) (fun _ => X.aloadn rfl dX9_drop_40) ?_
  refine Y.getR fd_X9_12 rfl dX9_drop_41 (fun v10 => ?_)
  refine Y.op (pc' := 45) (fun _ => X.iloadn rfl dX9_drop_44) ?_
  refine Y.op (pc' := 46) (fun _ => X.iloadn rfl dX9_drop_45) ?_
  refine Y.callVv (As := [.int p1, .int p2]) lk_X9_306 rfl cal_X0_removeFit vir_X0_removeFit (Nat.le_of_ble_eq_true rfl) (Nat.le_of_ble_eq_true rfl) rfl rfl rfl (Nat.le_of_ble_eq_true rfl) dX9_drop_46 (fun _ e => m_X0_removeFit v10 p1 p2 r9.2 _ _ e) (fun h11 => ?_)
  refine Y.op (pc' := 50) (fun _ => X.aloadn rfl dX9_drop_49) ?_
  refine Y.callVv (As := []) lk_X9_103 rfl cal_X9_keepUp vir_X9_keepUp (Nat.le_of_ble_eq_true rfl) (Nat.le_of_ble_eq_true rfl) rfl rfl rfl (Nat.le_of_ble_eq_true rfl) dX9_drop_50 (fun _ e => m_X9_keepUp a0 h11 _ _ e) (fun h12 => ?_)
  refine Y.op (pc' := 54) (fun _ => X.iloadn rfl dX9_drop_53) ?_
  exact Y.ireturnx rfl dX9_drop_54
theorem m_X9_drop {g : xG} (a0 : Nat) (p1 : Int32) (p2 : Int32) (h : xH) (cl : Bool) (r : (Int32 ⊕ String) × xH) (e : f_X9_drop a0 p1 p2 h = some r) : XM g DX9_drop [.ref a0, .int p1, .int p2] h cl (iIx r) := YM.of rfl rfl (Nat.le_of_ble_eq_true rfl) (y_X9_drop a0 p1 p2 h) e
def f_X9_is_J93 (x0 : Nat) (x4 : Int32) (s0 : Nat) (s1 : Int32) (s2 : Int32) (s3 : Int32) (h : xH) : Option ((Int32 ⊕ String) × xH) :=
  (vc h 0 s0 (f_X0_setThere s0 s1 s2 s3 h)).bind fun h1 =>
  (vc h1 9 x0 (f_X9_keepUp x0 h1)).bind fun h2 =>
  some (.inl x4, h2)
theorem y_X9_is_J93 {g : xG} {h0 : xH} {cl : Bool} (x0 : Nat) (x4 : Int32) (s0 : Nat) (s1 : Int32) (s2 : Int32) (s3 : Int32) (h : xH) : Y g DX9_is h0 cl iIx (f_X9_is_J93 x0 x4 s0 s1 s2 s3 h) 93 [some (.ref x0), none, none, none, some (.int x4)] [.int s3, .int s2, .int s1, .ref s0] h := by
  unfold f_X9_is_J93
  refine Y.callVv (As := [.int s1, .int s2, .int s3]) lk_X9_312 rfl cal_X0_setThere vir_X0_setThere (Nat.le_of_ble_eq_true rfl) (Nat.le_of_ble_eq_true rfl) rfl rfl rfl (Nat.le_of_ble_eq_true rfl) dX9_is_93 (fun _ e => m_X0_setThere s0 s1 s2 s3 h _ _ e) (fun h1 => ?_)
  refine Y.op (pc' := 97) (fun _ => X.aloadn rfl dX9_is_96) ?_
  refine Y.callVv (As := []) lk_X9_103 rfl cal_X9_keepUp vir_X9_keepUp (Nat.le_of_ble_eq_true rfl) (Nat.le_of_ble_eq_true rfl) rfl rfl rfl (Nat.le_of_ble_eq_true rfl) dX9_is_97 (fun _ e => m_X9_keepUp x0 h1 _ _ e) (fun h2 => ?_)
  refine Y.op (pc' := 102) (fun _ => X.iload rfl dX9_is_100) ?_
  exact Y.ireturnx rfl dX9_is_102
def f_X9_is_J59 (x0 : Nat) (x1 : Int32) (x2 : Int32) (x3 : Int32) (s0 : Nat) (s1 : Int32) (h : xH) : Option ((Int32 ⊕ String) × xH) :=
  (vc h 9 s0 (f_X9_demand s0 s1 h)).bind fun r => thr r fun h1 =>
  (vc h1 9 x0 (f_X9_beginAct x0 h1)).bind fun h2 =>
  (gR h2 9 x0 0).bind fun v3 =>
  (vc h2 0 v3 (f_X0_partnerOf v3 x1 x2 h2)).bind fun r4 =>
  (gR r4.2 9 x0 0).bind fun v5 =>
  if x3 = (1 : Int32) then
    f_X9_is_J93 x0 r4.1 v5 x1 x2 (1 : Int32) r4.2
  else
    f_X9_is_J93 x0 r4.1 v5 x1 x2 (0 : Int32) r4.2
theorem y_X9_is_J59 {g : xG} {h0 : xH} {cl : Bool} (x0 : Nat) (x1 : Int32) (x2 : Int32) (x3 : Int32) (s0 : Nat) (s1 : Int32) (h : xH) : Y g DX9_is h0 cl iIx (f_X9_is_J59 x0 x1 x2 x3 s0 s1 h) 59 [some (.ref x0), some (.int x1), some (.int x2), some (.int x3), none] [.int s1, .ref s0] h := by
  unfold f_X9_is_J59
  refine Y.callVx (As := [.int s1]) lk_X9_90 rfl cal_X9_demand vir_X9_demand (Nat.le_of_ble_eq_true rfl) (Nat.le_of_ble_eq_true rfl) rfl rfl rfl (Nat.le_of_ble_eq_true rfl) rfl dX9_is_59 (fun _ e => m_X9_demand s0 s1 h _ _ e) (fun h1 => ?_)
  refine Y.op (pc' := 63) (fun _ => X.aloadn rfl dX9_is_62) ?_
  refine Y.callVv (As := []) lk_X9_296 rfl cal_X9_beginAct vir_X9_beginAct (Nat.le_of_ble_eq_true rfl) (Nat.le_of_ble_eq_true rfl) rfl rfl rfl (Nat.le_of_ble_eq_true rfl) dX9_is_63 (fun _ e => m_X9_beginAct x0 h1 _ _ e) (fun h2 => ?_)
  refine Y.op (pc' := 67) (fun _ => X.aloadn rfl dX9_is_66) ?_
  refine Y.getR fd_X9_12 rfl dX9_is_67 (fun v3 => ?_)
  refine Y.op (pc' := 71) (fun _ => X.iloadn rfl dX9_is_70) ?_
  refine Y.op (pc' := 72) (fun _ => X.iloadn rfl dX9_is_71) ?_
  refine Y.callVi (As := [.int x1, .int x2]) lk_X9_153 rfl cal_X0_partnerOf vir_X0_partnerOf (Nat.le_of_ble_eq_true rfl) (Nat.le_of_ble_eq_true rfl) rfl rfl rfl (Nat.le_of_ble_eq_true rfl) dX9_is_72 (fun _ e => m_X0_partnerOf v3 x1 x2 h2 _ _ e) (fun r4 => ?_)
  refine Y.op (pc' := 77) (loc' := [some (.ref x0), some (.int x1), some (.int x2), some (.int x3), some (.int r4.1)]) (fun _ => X.istore (Nat.le_of_ble_eq_true rfl) rfl dX9_is_75) ?_
  refine Y.op (pc' := 78) (fun _ => X.aloadn rfl dX9_is_77) ?_
  refine Y.getR fd_X9_12 rfl dX9_is_78 (fun v5 => ?_)
  refine Y.op (pc' := 82) (fun _ => X.iloadn rfl dX9_is_81) ?_
  refine Y.op (pc' := 83) (fun _ => X.iloadn rfl dX9_is_82) ?_
  refine Y.op (pc' := 84) (fun _ => X.iloadn rfl dX9_is_83) ?_
  refine Y.op (pc' := 85) (fun _ => X.ic ki_1 dX9_is_84) ?_
  refine Y.cmpne 92 (by decide) dX9_is_85 ?_ ?_
  · refine Y.op (pc' := 93) (fun _ => X.ic ki_0 dX9_is_92) ?_
    exact Y.fg (y_X9_is_J93 x0 r4.1 v5 x1 x2 (0 : Int32) r4.2) (And.intro rfl (And.intro rfl trivial))
  · refine Y.op (pc' := 89) (fun _ => X.ic ki_1 dX9_is_88) ?_
    refine Y.op (pc' := 93) (fun _ => X.goto 93 (by decide) dX9_is_89) ?_
    exact Y.fg (y_X9_is_J93 x0 r4.1 v5 x1 x2 (1 : Int32) r4.2) (And.intro rfl (And.intro rfl trivial))
def f_X9_is_J51 (x0 : Nat) (x1 : Int32) (x2 : Int32) (x3 : Int32) (s0 : Nat) (s1 : Int32) (s2 : Int32) (h : xH) : Option ((Int32 ⊕ String) × xH) :=
  if s1 = s2 then
    f_X9_is_J59 x0 x1 x2 x3 s0 (0 : Int32) h
  else
    f_X9_is_J59 x0 x1 x2 x3 s0 (1 : Int32) h
theorem y_X9_is_J51 {g : xG} {h0 : xH} {cl : Bool} (x0 : Nat) (x1 : Int32) (x2 : Int32) (x3 : Int32) (s0 : Nat) (s1 : Int32) (s2 : Int32) (h : xH) : Y g DX9_is h0 cl iIx (f_X9_is_J51 x0 x1 x2 x3 s0 s1 s2 h) 51 [some (.ref x0), some (.int x1), some (.int x2), some (.int x3), none] [.int s2, .int s1, .ref s0] h := by
  unfold f_X9_is_J51
  refine Y.cmpeq 58 (by decide) dX9_is_51 ?_ ?_
  · refine Y.op (pc' := 59) (fun _ => X.ic ki_0 dX9_is_58) ?_
    exact y_X9_is_J59 x0 x1 x2 x3 s0 (0 : Int32) h
  · refine Y.op (pc' := 55) (fun _ => X.ic ki_1 dX9_is_54) ?_
    refine Y.op (pc' := 59) (fun _ => X.goto 59 (by decide) dX9_is_55) ?_
    exact y_X9_is_J59 x0 x1 x2 x3 s0 (1 : Int32) h
def f_X9_is_J28 (x0 : Nat) (x1 : Int32) (x2 : Int32) (x3 : Int32) (s0 : Nat) (s1 : Int32) (h : xH) : Option ((Int32 ⊕ String) × xH) :=
  (vc h 9 s0 (f_X9_demand s0 s1 h)).bind fun r => thr r fun h1 =>
  (gR h1 9 x0 0).bind fun v2 =>
  (vc h1 0 v2 (f_X0_isThere v2 x1 x2 h1)).bind fun r3 =>
  if x3 = (1 : Int32) then
    f_X9_is_J51 x0 x1 x2 x3 x0 r3.1 (1 : Int32) r3.2
  else
    f_X9_is_J51 x0 x1 x2 x3 x0 r3.1 (0 : Int32) r3.2
theorem y_X9_is_J28 {g : xG} {h0 : xH} {cl : Bool} (x0 : Nat) (x1 : Int32) (x2 : Int32) (x3 : Int32) (s0 : Nat) (s1 : Int32) (h : xH) : Y g DX9_is h0 cl iIx (f_X9_is_J28 x0 x1 x2 x3 s0 s1 h) 28 [some (.ref x0), some (.int x1), some (.int x2), some (.int x3), none] [.int s1, .ref s0] h := by
  unfold f_X9_is_J28
  refine Y.callVx (As := [.int s1]) lk_X9_90 rfl cal_X9_demand vir_X9_demand (Nat.le_of_ble_eq_true rfl) (Nat.le_of_ble_eq_true rfl) rfl rfl rfl (Nat.le_of_ble_eq_true rfl) rfl dX9_is_28 (fun _ e => m_X9_demand s0 s1 h _ _ e) (fun h1 => ?_)
  refine Y.op (pc' := 32) (fun _ => X.aloadn rfl dX9_is_31) ?_
  refine Y.op (pc' := 33) (fun _ => X.aloadn rfl dX9_is_32) ?_
  refine Y.getR fd_X9_12 rfl dX9_is_33 (fun v2 => ?_)
  refine Y.op (pc' := 37) (fun _ => X.iloadn rfl dX9_is_36) ?_
  refine Y.op (pc' := 38) (fun _ => X.iloadn rfl dX9_is_37) ?_
  refine Y.callVi (As := [.int x1, .int x2]) lk_X9_309 rfl cal_X0_isThere vir_X0_isThere (Nat.le_of_ble_eq_true rfl) (Nat.le_of_ble_eq_true rfl) rfl rfl rfl (Nat.le_of_ble_eq_true rfl) dX9_is_38 (fun _ e => m_X0_isThere v2 x1 x2 h1 _ _ e) (fun r3 => ?_)
  refine Y.op (pc' := 42) (fun _ => X.iloadn rfl dX9_is_41) ?_
  refine Y.op (pc' := 43) (fun _ => X.ic ki_1 dX9_is_42) ?_
  refine Y.cmpne 50 (by decide) dX9_is_43 ?_ ?_
  · refine Y.op (pc' := 51) (fun _ => X.ic ki_0 dX9_is_50) ?_
    exact y_X9_is_J51 x0 x1 x2 x3 x0 r3.1 (0 : Int32) r3.2
  · refine Y.op (pc' := 47) (fun _ => X.ic ki_1 dX9_is_46) ?_
    refine Y.op (pc' := 51) (fun _ => X.goto 51 (by decide) dX9_is_47) ?_
    exact y_X9_is_J51 x0 x1 x2 x3 x0 r3.1 (1 : Int32) r3.2
def f_X9_is_J23 (x0 : Nat) (x1 : Int32) (x2 : Int32) (x3 : Int32) (s0 : Nat) (h : xH) : Option ((Int32 ⊕ String) × xH) :=
  f_X9_is_J28 x0 x1 x2 x3 s0 (1 : Int32) h
theorem y_X9_is_J23 {g : xG} {h0 : xH} {cl : Bool} (x0 : Nat) (x1 : Int32) (x2 : Int32) (x3 : Int32) (s0 : Nat) (h : xH) : Y g DX9_is h0 cl iIx (f_X9_is_J23 x0 x1 x2 x3 s0 h) 23 [some (.ref x0), some (.int x1), some (.int x2), some (.int x3), none] [.ref s0] h := by
  unfold f_X9_is_J23
  refine Y.op (pc' := 24) (fun _ => X.ic ki_1 dX9_is_23) ?_
  refine Y.op (pc' := 28) (fun _ => X.goto 28 (by decide) dX9_is_24) ?_
  exact y_X9_is_J28 x0 x1 x2 x3 s0 (1 : Int32) h
def f_X9_is (a0 : Nat) (p1 : Int32) (p2 : Int32) (p3 : Int32) (h : xH) : Option ((Int32 ⊕ String) × xH) :=
  (gR h 9 a0 0).bind fun v1 =>
  (vc h 0 v1 (f_X0_knows v1 p1 p2 h)).bind fun r2 =>
  (vc r2.2 9 a0 (f_X9_demandPlace a0 r2.1 r2.2)).bind fun r => thr r fun h3 =>
  if p3 = (0 : Int32) then
    f_X9_is_J23 a0 p1 p2 p3 a0 h3
  else
    if p3 = (1 : Int32) then
      f_X9_is_J23 a0 p1 p2 p3 a0 h3
    else
      f_X9_is_J28 a0 p1 p2 p3 a0 (0 : Int32) h3
theorem y_X9_is {g : xG} {h0 : xH} {cl : Bool} (a0 : Nat) (p1 : Int32) (p2 : Int32) (p3 : Int32) (h : xH) : Y g DX9_is h0 cl iIx (f_X9_is a0 p1 p2 p3 h) 0 [some (.ref a0), some (.int p1), some (.int p2), some (.int p3), none] [] h := by
  unfold f_X9_is
  refine Y.op (pc' := 1) (fun _ => X.aloadn rfl dX9_is_0) ?_
  refine Y.op (pc' := 2) (fun _ => X.aloadn rfl dX9_is_1) ?_
  refine Y.getR fd_X9_12 rfl dX9_is_2 (fun v1 => ?_)
  refine Y.op (pc' := 6) (fun _ => X.iloadn rfl dX9_is_5) ?_
  refine Y.op (pc' := 7) (fun _ => X.iloadn rfl dX9_is_6) ?_
  refine Y.callVi (As := [.int p1, .int p2]) lk_X9_146 rfl cal_X0_knows vir_X0_knows (Nat.le_of_ble_eq_true rfl) (Nat.le_of_ble_eq_true rfl) rfl rfl rfl (Nat.le_of_ble_eq_true rfl) dX9_is_7 (fun _ e => m_X0_knows v1 p1 p2 h _ _ e) (fun r2 => ?_)
  refine Y.callVx (As := [.int r2.1]) lk_X9_150 rfl cal_X9_demandPlace vir_X9_demandPlace (Nat.le_of_ble_eq_true rfl) (Nat.le_of_ble_eq_true rfl) rfl rfl rfl (Nat.le_of_ble_eq_true rfl) rfl dX9_is_10 (fun _ e => m_X9_demandPlace a0 r2.1 r2.2 _ _ e) (fun h3 => ?_)
  refine Y.op (pc' := 14) (fun _ => X.aloadn rfl dX9_is_13) ?_
  refine Y.op (pc' := 15) (fun _ => X.iloadn rfl dX9_is_14) ?_
  refine Y.ifeq 23 (by decide) dX9_is_15 ?_ ?_
  · exact y_X9_is_J23 a0 p1 p2 p3 a0 h3
  · refine Y.op (pc' := 19) (fun _ => X.iloadn rfl dX9_is_18) ?_
    refine Y.op (pc' := 20) (fun _ => X.ic ki_1 dX9_is_19) ?_
    refine Y.cmpne 27 (by decide) dX9_is_20 ?_ ?_
    · refine Y.op (pc' := 28) (fun _ => X.ic ki_0 dX9_is_27) ?_
      exact y_X9_is_J28 a0 p1 p2 p3 a0 (0 : Int32) h3
    · exact y_X9_is_J23 a0 p1 p2 p3 a0 h3
theorem m_X9_is {g : xG} (a0 : Nat) (p1 : Int32) (p2 : Int32) (p3 : Int32) (h : xH) (cl : Bool) (r : (Int32 ⊕ String) × xH) (e : f_X9_is a0 p1 p2 p3 h = some r) : XM g DX9_is [.ref a0, .int p1, .int p2, .int p3] h cl (iIx r) := YM.of rfl rfl (Nat.le_of_ble_eq_true rfl) (y_X9_is a0 p1 p2 p3 h) e
def f_X9_pair_J79 (x0 : Nat) (x1 : Int32) (x2 : Int32) (s0 : Nat) (s1 : Int32) (h : xH) : Option ((Int32 ⊕ String) × xH) :=
  (vc h 9 s0 (f_X9_demand s0 s1 h)).bind fun r => thr r fun h1 =>
  (vc h1 9 x0 (f_X9_beginAct x0 h1)).bind fun h2 =>
  (gR h2 9 x0 0).bind fun v3 =>
  (gR h2 0 v3 9).bind fun v4 =>
  (vc h2 3 v4 (f_X3_join v4 x1 x2 h2)).bind fun h5 =>
  (gR h5 9 x0 0).bind fun v6 =>
  (gR h5 0 v6 9).bind fun v7 =>
  (vc h5 3 v7 (f_X3_size v7 h5)).bind fun r8 =>
  (vc r8.2 9 x0 (f_X9_keepUp x0 r8.2)).bind fun h9 =>
  some (.inl r8.1, h9)
theorem y_X9_pair_J79 {g : xG} {h0 : xH} {cl : Bool} (x0 : Nat) (x1 : Int32) (x2 : Int32) (s0 : Nat) (s1 : Int32) (h : xH) : Y g DX9_pair h0 cl iIx (f_X9_pair_J79 x0 x1 x2 s0 s1 h) 79 [some (.ref x0), some (.int x1), some (.int x2), none] [.int s1, .ref s0] h := by
  unfold f_X9_pair_J79
  refine Y.callVx (As := [.int s1]) lk_X9_90 rfl cal_X9_demand vir_X9_demand (Nat.le_of_ble_eq_true rfl) (Nat.le_of_ble_eq_true rfl) rfl rfl rfl (Nat.le_of_ble_eq_true rfl) rfl dX9_pair_79 (fun _ e => m_X9_demand s0 s1 h _ _ e) (fun h1 => ?_)
  refine Y.op (pc' := 83) (fun _ => X.aloadn rfl dX9_pair_82) ?_
  refine Y.callVv (As := []) lk_X9_296 rfl cal_X9_beginAct vir_X9_beginAct (Nat.le_of_ble_eq_true rfl) (Nat.le_of_ble_eq_true rfl) rfl rfl rfl (Nat.le_of_ble_eq_true rfl) dX9_pair_83 (fun _ e => m_X9_beginAct x0 h1 _ _ e) (fun h2 => ?_)
  refine Y.op (pc' := 87) (fun _ => X.aloadn rfl dX9_pair_86) ?_
  refine Y.getR fd_X9_12 rfl dX9_pair_87 (fun v3 => ?_)
  refine Y.getR fd_X9_106 rfl dX9_pair_90 (fun v4 => ?_)
  refine Y.op (pc' := 94) (fun _ => X.iloadn rfl dX9_pair_93) ?_
  refine Y.op (pc' := 95) (fun _ => X.iloadn rfl dX9_pair_94) ?_
  refine Y.callVv (As := [.int x1, .int x2]) lk_X9_316 rfl cal_X3_join vir_X3_join (Nat.le_of_ble_eq_true rfl) (Nat.le_of_ble_eq_true rfl) rfl rfl rfl (Nat.le_of_ble_eq_true rfl) dX9_pair_95 (fun _ e => m_X3_join v4 x1 x2 h2 _ _ e) (fun h5 => ?_)
  refine Y.op (pc' := 99) (fun _ => X.aloadn rfl dX9_pair_98) ?_
  refine Y.getR fd_X9_12 rfl dX9_pair_99 (fun v6 => ?_)
  refine Y.getR fd_X9_106 rfl dX9_pair_102 (fun v7 => ?_)
  refine Y.callVi (As := []) lk_X9_110 rfl cal_X3_size vir_X3_size (Nat.le_of_ble_eq_true rfl) (Nat.le_of_ble_eq_true rfl) rfl rfl rfl (Nat.le_of_ble_eq_true rfl) dX9_pair_105 (fun _ e => m_X3_size v7 h5 _ _ e) (fun r8 => ?_)
  refine Y.op (pc' := 109) (loc' := [some (.ref x0), some (.int x1), some (.int x2), some (.int r8.1)]) (fun _ => X.istoren (Nat.le_of_ble_eq_true rfl) rfl dX9_pair_108) ?_
  refine Y.op (pc' := 110) (fun _ => X.aloadn rfl dX9_pair_109) ?_
  refine Y.callVv (As := []) lk_X9_103 rfl cal_X9_keepUp vir_X9_keepUp (Nat.le_of_ble_eq_true rfl) (Nat.le_of_ble_eq_true rfl) rfl rfl rfl (Nat.le_of_ble_eq_true rfl) dX9_pair_110 (fun _ e => m_X9_keepUp x0 r8.2 _ _ e) (fun h9 => ?_)
  refine Y.op (pc' := 114) (fun _ => X.iloadn rfl dX9_pair_113) ?_
  exact Y.ireturnx rfl dX9_pair_114
def f_X9_pair_J55 (x0 : Nat) (x1 : Int32) (x2 : Int32) (s0 : Nat) (s1 : Int32) (h : xH) : Option ((Int32 ⊕ String) × xH) :=
  (vc h 9 s0 (f_X9_demand s0 s1 h)).bind fun r => thr r fun h1 =>
  (gR h1 9 x0 0).bind fun v2 =>
  (gR h1 0 v2 9).bind fun v3 =>
  (vc h1 3 v3 (f_X3_taskOf v3 x1 h1)).bind fun r4 =>
  if r4.1 = x2 then
    f_X9_pair_J79 x0 x1 x2 x0 (0 : Int32) r4.2
  else
    f_X9_pair_J79 x0 x1 x2 x0 (1 : Int32) r4.2
theorem y_X9_pair_J55 {g : xG} {h0 : xH} {cl : Bool} (x0 : Nat) (x1 : Int32) (x2 : Int32) (s0 : Nat) (s1 : Int32) (h : xH) : Y g DX9_pair h0 cl iIx (f_X9_pair_J55 x0 x1 x2 s0 s1 h) 55 [some (.ref x0), some (.int x1), some (.int x2), none] [.int s1, .ref s0] h := by
  unfold f_X9_pair_J55
  refine Y.callVx (As := [.int s1]) lk_X9_90 rfl cal_X9_demand vir_X9_demand (Nat.le_of_ble_eq_true rfl) (Nat.le_of_ble_eq_true rfl) rfl rfl rfl (Nat.le_of_ble_eq_true rfl) rfl dX9_pair_55 (fun _ e => m_X9_demand s0 s1 h _ _ e) (fun h1 => ?_)
  refine Y.op (pc' := 59) (fun _ => X.aloadn rfl dX9_pair_58) ?_
  refine Y.op (pc' := 60) (fun _ => X.aloadn rfl dX9_pair_59) ?_
  refine Y.getR fd_X9_12 rfl dX9_pair_60 (fun v2 => ?_)
  refine Y.getR fd_X9_106 rfl dX9_pair_63 (fun v3 => ?_)
  refine Y.op (pc' := 67) (fun _ => X.iloadn rfl dX9_pair_66) ?_
  refine Y.callVi (As := [.int x1]) lk_X9_198 rfl cal_X3_taskOf vir_X3_taskOf (Nat.le_of_ble_eq_true rfl) (Nat.le_of_ble_eq_true rfl) rfl rfl rfl (Nat.le_of_ble_eq_true rfl) dX9_pair_67 (fun _ e => m_X3_taskOf v3 x1 h1 _ _ e) (fun r4 => ?_)
  refine Y.op (pc' := 71) (fun _ => X.iloadn rfl dX9_pair_70) ?_
  refine Y.cmpeq 78 (by decide) dX9_pair_71 ?_ ?_
  · refine Y.op (pc' := 79) (fun _ => X.ic ki_0 dX9_pair_78) ?_
    exact y_X9_pair_J79 x0 x1 x2 x0 (0 : Int32) r4.2
  · refine Y.op (pc' := 75) (fun _ => X.ic ki_1 dX9_pair_74) ?_
    refine Y.op (pc' := 79) (fun _ => X.goto 79 (by decide) dX9_pair_75) ?_
    exact y_X9_pair_J79 x0 x1 x2 x0 (1 : Int32) r4.2
def f_X9_pair_J54 (x0 : Nat) (x1 : Int32) (x2 : Int32) (s0 : Nat) (h : xH) : Option ((Int32 ⊕ String) × xH) :=
  f_X9_pair_J55 x0 x1 x2 s0 (0 : Int32) h
theorem y_X9_pair_J54 {g : xG} {h0 : xH} {cl : Bool} (x0 : Nat) (x1 : Int32) (x2 : Int32) (s0 : Nat) (h : xH) : Y g DX9_pair h0 cl iIx (f_X9_pair_J54 x0 x1 x2 s0 h) 54 [some (.ref x0), some (.int x1), some (.int x2), none] [.ref s0] h := by
  unfold f_X9_pair_J54
  refine Y.op (pc' := 55) (fun _ => X.ic ki_0 dX9_pair_54) ?_
  exact y_X9_pair_J55 x0 x1 x2 s0 (0 : Int32) h
def f_X9_pair (a0 : Nat) (p1 : Int32) (p2 : Int32) (h : xH) : Option ((Int32 ⊕ String) × xH) :=
  (gR h 9 a0 0).bind fun v1 =>
  (vc h 0 v1 (f_X0_knowsBoth v1 p1 p2 h)).bind fun r2 =>
  (vc r2.2 9 a0 (f_X9_demandPlace a0 r2.1 r2.2)).bind fun r => thr r fun h3 =>
  (gR h3 9 a0 0).bind fun v4 =>
  (vc h3 0 v4 (f_X0_isFit v4 p1 p2 h3)).bind fun r5 =>
  if r5.1 = (0 : Int32) then
    f_X9_pair_J54 a0 p1 p2 a0 r5.2
  else
    (gR r5.2 9 a0 0).bind fun v6 =>
    (vc r5.2 0 v6 (f_X0_isThere v6 (0 : Int32) p1 r5.2)).bind fun r7 =>
    if r7.1 = (0 : Int32) then
      f_X9_pair_J54 a0 p1 p2 a0 r7.2
    else
      (gR r7.2 9 a0 0).bind fun v8 =>
      (vc r7.2 0 v8 (f_X0_isThere v8 (1 : Int32) p2 r7.2)).bind fun r9 =>
      if r9.1 = (0 : Int32) then
        f_X9_pair_J54 a0 p1 p2 a0 r9.2
      else
        f_X9_pair_J55 a0 p1 p2 a0 (1 : Int32) r9.2
theorem y_X9_pair {g : xG} {h0 : xH} {cl : Bool} (a0 : Nat) (p1 : Int32) (p2 : Int32) (h : xH) : Y g DX9_pair h0 cl iIx (f_X9_pair a0 p1 p2 h) 0 [some (.ref a0), some (.int p1), some (.int p2), none] [] h := by
  unfold f_X9_pair
  refine Y.op (pc' := 1) (fun _ => X.aloadn rfl dX9_pair_0) ?_
  refine Y.op (pc' := 2) (fun _ => X.aloadn rfl dX9_pair_1) ?_
  refine Y.getR fd_X9_12 rfl dX9_pair_2 (fun v1 => ?_)
  refine Y.op (pc' := 6) (fun _ => X.iloadn rfl dX9_pair_5) ?_
  refine Y.op (pc' := 7) (fun _ => X.iloadn rfl dX9_pair_6) ?_
  refine Y.callVi (As := [.int p1, .int p2]) lk_X9_157 rfl cal_X0_knowsBoth vir_X0_knowsBoth (Nat.le_of_ble_eq_true rfl) (Nat.le_of_ble_eq_true rfl) rfl rfl rfl (Nat.le_of_ble_eq_true rfl) dX9_pair_7 (fun _ e => m_X0_knowsBoth v1 p1 p2 h _ _ e) (fun r2 => ?_)
  refine Y.callVx (As := [.int r2.1]) lk_X9_150 rfl cal_X9_demandPlace vir_X9_demandPlace (Nat.le_of_ble_eq_true rfl) (Nat.le_of_ble_eq_true rfl) rfl rfl rfl (Nat.le_of_ble_eq_true rfl) rfl dX9_pair_10 (fun _ e => m_X9_demandPlace a0 r2.1 r2.2 _ _ e) (fun h3 => ?_)
  refine Y.op (pc' := 14) (fun _ => X.aloadn rfl dX9_pair_13) ?_
  refine Y.op (pc' := 15) (fun _ => X.aloadn rfl dX9_pair_14) ?_
  refine Y.getR fd_X9_12 rfl dX9_pair_15 (fun v4 => ?_)
  refine Y.op (pc' := 19) (fun _ => X.iloadn rfl dX9_pair_18) ?_
  refine Y.op (pc' := 20) (fun _ => X.iloadn rfl dX9_pair_19) ?_
  refine Y.callVi (As := [.int p1, .int p2]) lk_X9_303 rfl cal_X0_isFit vir_X0_isFit (Nat.le_of_ble_eq_true rfl) (Nat.le_of_ble_eq_true rfl) rfl rfl rfl (Nat.le_of_ble_eq_true rfl) dX9_pair_20 (fun _ e => m_X0_isFit v4 p1 p2 h3 _ _ e) (fun r5 => ?_)
  refine Y.ifeq 54 (by decide) dX9_pair_23 ?_ ?_
  · exact y_X9_pair_J54 a0 p1 p2 a0 r5.2
  · refine Y.op (pc' := 27) (fun _ => X.aloadn rfl dX9_pair_26) ?_
    refine Y.getR fd_X9_12 rfl dX9_pair_27 (fun v6 => ?_)
    refine Y.op (pc' := 31) (fun _ => X.ic ki_0 dX9_pair_30) ?_
    refine Y.op (pc' := 32) (fun _ => X.iloadn rfl dX9_pair_31) ?_
    refine Y.callVi (As := [.int (0 : Int32), .int p1]) lk_X9_309 rfl cal_X0_isThere vir_X0_isThere (Nat.le_of_ble_eq_true rfl) (Nat.le_of_ble_eq_true rfl) rfl rfl rfl (Nat.le_of_ble_eq_true rfl) dX9_pair_32 (fun _ e => m_X0_isThere v6 (0 : Int32) p1 r5.2 _ _ e) (fun r7 => ?_)
    refine Y.ifeq 54 (by decide) dX9_pair_35 ?_ ?_
    · exact y_X9_pair_J54 a0 p1 p2 a0 r7.2
    · refine Y.op (pc' := 39) (fun _ => X.aloadn rfl dX9_pair_38) ?_
      refine Y.getR fd_X9_12 rfl dX9_pair_39 (fun v8 => ?_)
      refine Y.op (pc' := 43) (fun _ => X.ic ki_1 dX9_pair_42) ?_
      refine Y.op (pc' := 44) (fun _ => X.iloadn rfl dX9_pair_43) ?_
      refine Y.callVi (As := [.int (1 : Int32), .int p2]) lk_X9_309 rfl cal_X0_isThere vir_X0_isThere (Nat.le_of_ble_eq_true rfl) (Nat.le_of_ble_eq_true rfl) rfl rfl rfl (Nat.le_of_ble_eq_true rfl) dX9_pair_44 (fun _ e => m_X0_isThere v8 (1 : Int32) p2 r7.2 _ _ e) (fun r9 => ?_)
      refine Y.ifeq 54 (by decide) dX9_pair_47 ?_ ?_
      · exact y_X9_pair_J54 a0 p1 p2 a0 r9.2
      · refine Y.op (pc' := 51) (fun _ => X.ic ki_1 dX9_pair_50) ?_
        refine Y.op (pc' := 55) (fun _ => X.goto 55 (by decide) dX9_pair_51) ?_
        exact y_X9_pair_J55 a0 p1 p2 a0 (1 : Int32) r9.2
theorem m_X9_pair {g : xG} (a0 : Nat) (p1 : Int32) (p2 : Int32) (h : xH) (cl : Bool) (r : (Int32 ⊕ String) × xH) (e : f_X9_pair a0 p1 p2 h = some r) : XM g DX9_pair [.ref a0, .int p1, .int p2] h cl (iIx r) := YM.of rfl rfl (Nat.le_of_ble_eq_true rfl) (y_X9_pair a0 p1 p2 h) e
def f_X9_part_J36 (x0 : Nat) (x1 : Int32) (x2 : Int32) (s0 : Nat) (s1 : Int32) (h : xH) : Option ((Int32 ⊕ String) × xH) :=
  (vc h 9 s0 (f_X9_demand s0 s1 h)).bind fun r => thr r fun h1 =>
  (vc h1 9 x0 (f_X9_beginAct x0 h1)).bind fun h2 =>
  (gR h2 9 x0 0).bind fun v3 =>
  (gR h2 0 v3 9).bind fun v4 =>
  (vc h2 3 v4 (f_X3_loosenWorker v4 x1 h2)).bind fun h5 =>
  (vc h5 9 x0 (f_X9_keepUp x0 h5)).bind fun h6 =>
  some (.inl x2, h6)
theorem y_X9_part_J36 {g : xG} {h0 : xH} {cl : Bool} (x0 : Nat) (x1 : Int32) (x2 : Int32) (s0 : Nat) (s1 : Int32) (h : xH) : Y g DX9_part h0 cl iIx (f_X9_part_J36 x0 x1 x2 s0 s1 h) 36 [some (.ref x0), some (.int x1), some (.int x2)] [.int s1, .ref s0] h := by
  unfold f_X9_part_J36
  refine Y.callVx (As := [.int s1]) lk_X9_90 rfl cal_X9_demand vir_X9_demand (Nat.le_of_ble_eq_true rfl) (Nat.le_of_ble_eq_true rfl) rfl rfl rfl (Nat.le_of_ble_eq_true rfl) rfl dX9_part_36 (fun _ e => m_X9_demand s0 s1 h _ _ e) (fun h1 => ?_)
  refine Y.op (pc' := 40) (fun _ => X.aloadn rfl dX9_part_39) ?_
  refine Y.callVv (As := []) lk_X9_296 rfl cal_X9_beginAct vir_X9_beginAct (Nat.le_of_ble_eq_true rfl) (Nat.le_of_ble_eq_true rfl) rfl rfl rfl (Nat.le_of_ble_eq_true rfl) dX9_part_40 (fun _ e => m_X9_beginAct x0 h1 _ _ e) (fun h2 => ?_)
  refine Y.op (pc' := 44) (fun _ => X.aloadn rfl dX9_part_43) ?_
  refine Y.getR fd_X9_12 rfl dX9_part_44 (fun v3 => ?_)
  refine Y.getR fd_X9_106 rfl dX9_part_47 (fun v4 => ?_)
  refine Y.op (pc' := 51) (fun _ => X.iloadn rfl dX9_part_50) ?_
  refine Y.callVv (As := [.int x1]) lk_X9_319 rfl cal_X3_loosenWorker vir_X3_loosenWorker (Nat.le_of_ble_eq_true rfl) (Nat.le_of_ble_eq_true rfl) rfl rfl rfl (Nat.le_of_ble_eq_true rfl) dX9_part_51 (fun _ e => m_X3_loosenWorker v4 x1 h2 _ _ e) (fun h5 => ?_)
  refine Y.op (pc' := 55) (fun _ => X.aloadn rfl dX9_part_54) ?_
  refine Y.callVv (As := []) lk_X9_103 rfl cal_X9_keepUp vir_X9_keepUp (Nat.le_of_ble_eq_true rfl) (Nat.le_of_ble_eq_true rfl) rfl rfl rfl (Nat.le_of_ble_eq_true rfl) dX9_part_55 (fun _ e => m_X9_keepUp x0 h5 _ _ e) (fun h6 => ?_)
  refine Y.op (pc' := 59) (fun _ => X.iloadn rfl dX9_part_58) ?_
  exact Y.ireturnx rfl dX9_part_59
def f_X9_part (a0 : Nat) (p1 : Int32) (h : xH) : Option ((Int32 ⊕ String) × xH) :=
  (gR h 9 a0 0).bind fun v1 =>
  (vc h 0 v1 (f_X0_knows v1 (0 : Int32) p1 h)).bind fun r2 =>
  (vc r2.2 9 a0 (f_X9_demandPlace a0 r2.1 r2.2)).bind fun r => thr r fun h3 =>
  (gR h3 9 a0 0).bind fun v4 =>
  (gR h3 0 v4 9).bind fun v5 =>
  (vc h3 3 v5 (f_X3_taskOf v5 p1 h3)).bind fun r6 =>
  if r6.1 = (-1 : Int32) then
    f_X9_part_J36 a0 p1 r6.1 a0 (0 : Int32) r6.2
  else
    f_X9_part_J36 a0 p1 r6.1 a0 (1 : Int32) r6.2
theorem y_X9_part {g : xG} {h0 : xH} {cl : Bool} (a0 : Nat) (p1 : Int32) (h : xH) : Y g DX9_part h0 cl iIx (f_X9_part a0 p1 h) 0 [some (.ref a0), some (.int p1), none] [] h := by
  unfold f_X9_part
  refine Y.op (pc' := 1) (fun _ => X.aloadn rfl dX9_part_0) ?_
  refine Y.op (pc' := 2) (fun _ => X.aloadn rfl dX9_part_1) ?_
  refine Y.getR fd_X9_12 rfl dX9_part_2 (fun v1 => ?_)
  refine Y.op (pc' := 6) (fun _ => X.ic ki_0 dX9_part_5) ?_
  refine Y.op (pc' := 7) (fun _ => X.iloadn rfl dX9_part_6) ?_
  refine Y.callVi (As := [.int (0 : Int32), .int p1]) lk_X9_146 rfl cal_X0_knows vir_X0_knows (Nat.le_of_ble_eq_true rfl) (Nat.le_of_ble_eq_true rfl) rfl rfl rfl (Nat.le_of_ble_eq_true rfl) dX9_part_7 (fun _ e => m_X0_knows v1 (0 : Int32) p1 h _ _ e) (fun r2 => ?_)
  refine Y.callVx (As := [.int r2.1]) lk_X9_150 rfl cal_X9_demandPlace vir_X9_demandPlace (Nat.le_of_ble_eq_true rfl) (Nat.le_of_ble_eq_true rfl) rfl rfl rfl (Nat.le_of_ble_eq_true rfl) rfl dX9_part_10 (fun _ e => m_X9_demandPlace a0 r2.1 r2.2 _ _ e) (fun h3 => ?_)
  refine Y.op (pc' := 14) (fun _ => X.aloadn rfl dX9_part_13) ?_
  refine Y.getR fd_X9_12 rfl dX9_part_14 (fun v4 => ?_)
  refine Y.getR fd_X9_106 rfl dX9_part_17 (fun v5 => ?_)
  refine Y.op (pc' := 21) (fun _ => X.iloadn rfl dX9_part_20) ?_
  refine Y.callVi (As := [.int p1]) lk_X9_198 rfl cal_X3_taskOf vir_X3_taskOf (Nat.le_of_ble_eq_true rfl) (Nat.le_of_ble_eq_true rfl) rfl rfl rfl (Nat.le_of_ble_eq_true rfl) dX9_part_21 (fun _ e => m_X3_taskOf v5 p1 h3 _ _ e) (fun r6 => ?_)
  refine Y.op (pc' := 25) (loc' := [some (.ref a0), some (.int p1), some (.int r6.1)]) (fun _ => X.istoren (Nat.le_of_ble_eq_true rfl) rfl dX9_part_24) ?_
  refine Y.op (pc' := 26) (fun _ => X.aloadn rfl dX9_part_25) ?_
  refine Y.op (pc' := 27) (fun _ => X.iloadn rfl dX9_part_26) ?_
  refine Y.op (pc' := 28) (fun _ => X.ic ki_m1 dX9_part_27) ?_
  refine Y.cmpeq 35 (by decide) dX9_part_28 ?_ ?_
  · refine Y.op (pc' := 36) (fun _ => X.ic ki_0 dX9_part_35) ?_
    exact y_X9_part_J36 a0 p1 r6.1 a0 (0 : Int32) r6.2
  · refine Y.op (pc' := 32) (fun _ => X.ic ki_1 dX9_part_31) ?_
    refine Y.op (pc' := 36) (fun _ => X.goto 36 (by decide) dX9_part_32) ?_
    exact y_X9_part_J36 a0 p1 r6.1 a0 (1 : Int32) r6.2
theorem m_X9_part {g : xG} (a0 : Nat) (p1 : Int32) (h : xH) (cl : Bool) (r : (Int32 ⊕ String) × xH) (e : f_X9_part a0 p1 h = some r) : XM g DX9_part [.ref a0, .int p1] h cl (iIx r) := YM.of rfl rfl (Nat.le_of_ble_eq_true rfl) (y_X9_part a0 p1 h) e
def f_X9_weight_J29 (x0 : Nat) (x1 : Int32) (x2 : Int32) (s0 : Nat) (s1 : Int32) (h : xH) : Option ((Int32 ⊕ String) × xH) :=
  (vc h 9 s0 (f_X9_demand s0 s1 h)).bind fun r => thr r fun h1 =>
  (vc h1 9 x0 (f_X9_beginAct x0 h1)).bind fun h2 =>
  (gR h2 9 x0 0).bind fun v3 =>
  (vc h2 0 v3 (f_X0_weightOf v3 x1 h2)).bind fun r4 =>
  (gR r4.2 9 x0 0).bind fun v5 =>
  (vc r4.2 0 v5 (f_X0_setWeight v5 x1 x2 r4.2)).bind fun h6 =>
  (vc h6 9 x0 (f_X9_keepUp x0 h6)).bind fun h7 =>
  some (.inl r4.1, h7)
theorem y_X9_weight_J29 {g : xG} {h0 : xH} {cl : Bool} (x0 : Nat) (x1 : Int32) (x2 : Int32) (s0 : Nat) (s1 : Int32) (h : xH) : Y g DX9_weight h0 cl iIx (f_X9_weight_J29 x0 x1 x2 s0 s1 h) 29 [some (.ref x0), some (.int x1), some (.int x2), none] [.int s1, .ref s0] h := by
  unfold f_X9_weight_J29
  refine Y.callVx (As := [.int s1]) lk_X9_90 rfl cal_X9_demand vir_X9_demand (Nat.le_of_ble_eq_true rfl) (Nat.le_of_ble_eq_true rfl) rfl rfl rfl (Nat.le_of_ble_eq_true rfl) rfl dX9_weight_29 (fun _ e => m_X9_demand s0 s1 h _ _ e) (fun h1 => ?_)
  refine Y.op (pc' := 33) (fun _ => X.aloadn rfl dX9_weight_32) ?_
  refine Y.callVv (As := []) lk_X9_296 rfl cal_X9_beginAct vir_X9_beginAct (Nat.le_of_ble_eq_true rfl) (Nat.le_of_ble_eq_true rfl) rfl rfl rfl (Nat.le_of_ble_eq_true rfl) dX9_weight_33 (fun _ e => m_X9_beginAct x0 h1 _ _ e) (fun h2 => ?_)
  refine Y.op (pc' := 37) (fun _ => X.aloadn rfl dX9_weight_36) ?_
  refine Y.getR fd_X9_12 rfl dX9_weight_37 (fun v3 => ?_)
  refine Y.op (pc' := 41) (fun _ => X.iloadn rfl dX9_weight_40) ?_
  refine Y.callVi (As := [.int x1]) lk_X9_284 rfl cal_X0_weightOf vir_X0_weightOf (Nat.le_of_ble_eq_true rfl) (Nat.le_of_ble_eq_true rfl) rfl rfl rfl (Nat.le_of_ble_eq_true rfl) dX9_weight_41 (fun _ e => m_X0_weightOf v3 x1 h2 _ _ e) (fun r4 => ?_)
  refine Y.op (pc' := 45) (loc' := [some (.ref x0), some (.int x1), some (.int x2), some (.int r4.1)]) (fun _ => X.istoren (Nat.le_of_ble_eq_true rfl) rfl dX9_weight_44) ?_
  refine Y.op (pc' := 46) (fun _ => X.aloadn rfl dX9_weight_45) ?_
  refine Y.getR fd_X9_12 rfl dX9_weight_46 (fun v5 => ?_)
  refine Y.op (pc' := 50) (fun _ => X.iloadn rfl dX9_weight_49) ?_
  refine Y.op (pc' := 51) (fun _ => X.iloadn rfl dX9_weight_50) ?_
  refine Y.callVv (As := [.int x1, .int x2]) lk_X9_322 rfl cal_X0_setWeight vir_X0_setWeight (Nat.le_of_ble_eq_true rfl) (Nat.le_of_ble_eq_true rfl) rfl rfl rfl (Nat.le_of_ble_eq_true rfl) dX9_weight_51 (fun _ e => m_X0_setWeight v5 x1 x2 r4.2 _ _ e) (fun h6 => ?_)
  refine Y.op (pc' := 55) (fun _ => X.aloadn rfl dX9_weight_54) ?_
  refine Y.callVv (As := []) lk_X9_103 rfl cal_X9_keepUp vir_X9_keepUp (Nat.le_of_ble_eq_true rfl) (Nat.le_of_ble_eq_true rfl) rfl rfl rfl (Nat.le_of_ble_eq_true rfl) dX9_weight_55 (fun _ e => m_X9_keepUp x0 h6 _ _ e) (fun h7 => ?_)
  refine Y.op (pc' := 59) (fun _ => X.iloadn rfl dX9_weight_58) ?_
  exact Y.ireturnx rfl dX9_weight_59
def f_X9_weight_J28 (x0 : Nat) (x1 : Int32) (x2 : Int32) (s0 : Nat) (h : xH) : Option ((Int32 ⊕ String) × xH) :=
  f_X9_weight_J29 x0 x1 x2 s0 (0 : Int32) h
theorem y_X9_weight_J28 {g : xG} {h0 : xH} {cl : Bool} (x0 : Nat) (x1 : Int32) (x2 : Int32) (s0 : Nat) (h : xH) : Y g DX9_weight h0 cl iIx (f_X9_weight_J28 x0 x1 x2 s0 h) 28 [some (.ref x0), some (.int x1), some (.int x2), none] [.ref s0] h := by
  unfold f_X9_weight_J28
  refine Y.op (pc' := 29) (fun _ => X.ic ki_0 dX9_weight_28) ?_
  exact y_X9_weight_J29 x0 x1 x2 s0 (0 : Int32) h
def f_X9_weight (a0 : Nat) (p1 : Int32) (p2 : Int32) (h : xH) : Option ((Int32 ⊕ String) × xH) :=
  (gR h 9 a0 0).bind fun v1 =>
  (vc h 0 v1 (f_X0_knows v1 (0 : Int32) p1 h)).bind fun r2 =>
  (vc r2.2 9 a0 (f_X9_demandPlace a0 r2.1 r2.2)).bind fun r => thr r fun h3 =>
  if p2 < (0 : Int32) then
    f_X9_weight_J28 a0 p1 p2 a0 h3
  else
    if p2 > (99 : Int32) then
      f_X9_weight_J28 a0 p1 p2 a0 h3
    else
      f_X9_weight_J29 a0 p1 p2 a0 (1 : Int32) h3
theorem y_X9_weight {g : xG} {h0 : xH} {cl : Bool} (a0 : Nat) (p1 : Int32) (p2 : Int32) (h : xH) : Y g DX9_weight h0 cl iIx (f_X9_weight a0 p1 p2 h) 0 [some (.ref a0), some (.int p1), some (.int p2), none] [] h := by
  unfold f_X9_weight
  refine Y.op (pc' := 1) (fun _ => X.aloadn rfl dX9_weight_0) ?_
  refine Y.op (pc' := 2) (fun _ => X.aloadn rfl dX9_weight_1) ?_
  refine Y.getR fd_X9_12 rfl dX9_weight_2 (fun v1 => ?_)
  refine Y.op (pc' := 6) (fun _ => X.ic ki_0 dX9_weight_5) ?_
  refine Y.op (pc' := 7) (fun _ => X.iloadn rfl dX9_weight_6) ?_
  refine Y.callVi (As := [.int (0 : Int32), .int p1]) lk_X9_146 rfl cal_X0_knows vir_X0_knows (Nat.le_of_ble_eq_true rfl) (Nat.le_of_ble_eq_true rfl) rfl rfl rfl (Nat.le_of_ble_eq_true rfl) dX9_weight_7 (fun _ e => m_X0_knows v1 (0 : Int32) p1 h _ _ e) (fun r2 => ?_)
  refine Y.callVx (As := [.int r2.1]) lk_X9_150 rfl cal_X9_demandPlace vir_X9_demandPlace (Nat.le_of_ble_eq_true rfl) (Nat.le_of_ble_eq_true rfl) rfl rfl rfl (Nat.le_of_ble_eq_true rfl) rfl dX9_weight_10 (fun _ e => m_X9_demandPlace a0 r2.1 r2.2 _ _ e) (fun h3 => ?_)
  refine Y.op (pc' := 14) (fun _ => X.aloadn rfl dX9_weight_13) ?_
  refine Y.op (pc' := 15) (fun _ => X.iloadn rfl dX9_weight_14) ?_
  refine Y.iflt 28 (by decide) dX9_weight_15 ?_ ?_
  · exact y_X9_weight_J28 a0 p1 p2 a0 h3
  · refine Y.op (pc' := 19) (fun _ => X.iloadn rfl dX9_weight_18) ?_
    refine Y.op (pc' := 21) (fun _ => X.bp kb_99 dX9_weight_19) ?_
    refine Y.cmpgt 28 (by decide) dX9_weight_21 ?_ ?_
    · exact y_X9_weight_J28 a0 p1 p2 a0 h3
    · refine Y.op (pc' := 25) (fun _ => X.ic ki_1 dX9_weight_24) ?_
      refine Y.op (pc' := 29) (fun _ => X.goto 29 (by decide) dX9_weight_25) ?_
      exact y_X9_weight_J29 a0 p1 p2 a0 (1 : Int32) h3
theorem m_X9_weight {g : xG} (a0 : Nat) (p1 : Int32) (p2 : Int32) (h : xH) (cl : Bool) (r : (Int32 ⊕ String) × xH) (e : f_X9_weight a0 p1 p2 h = some r) : XM g DX9_weight [.ref a0, .int p1, .int p2] h cl (iIx r) := YM.of rfl rfl (Nat.le_of_ble_eq_true rfl) (y_X9_weight a0 p1 p2 h) e
def f_X9_trade_J99 (x1 : Int32) (h : xH) : Option (Int32 × xH) :=
  some (x1, h)
theorem y_X9_trade_J99 {g : xG} {h0 : xH} {cl : Bool} (x1 : Int32) (h : xH) : Y g DX9_trade h0 cl iI (f_X9_trade_J99 x1 h) 99 [none, some (.int x1), none, none, none, none, none] [] h := by
  unfold f_X9_trade_J99
  refine Y.op (pc' := 100) (fun _ => X.iloadn rfl dX9_trade_99) ?_
  exact Y.ireturn rfl dX9_trade_100
def f_X9_trade_J79 (x0 : Nat) (x1 : Int32) (x2 : Int32) (x3 : Int32) (h : xH) : Option (Int32 × xH) :=
  if x1 ≤ (0 : Int32) then
    f_X9_trade_J99 x1 h
  else
    (vc h 9 x0 (f_X9_beginAct x0 h)).bind fun h1 =>
    (gR h1 9 x0 0).bind fun v2 =>
    (gR h1 0 v2 9).bind fun v3 =>
    (vc h1 3 v3 (f_X3_swap v3 x2 x3 h1)).bind fun h4 =>
    f_X9_trade_J99 x1 h4
theorem y_X9_trade_J79 {g : xG} {h0 : xH} {cl : Bool} (x0 : Nat) (x1 : Int32) (x2 : Int32) (x3 : Int32) (h : xH) : Y g DX9_trade h0 cl iI (f_X9_trade_J79 x0 x1 x2 x3 h) 79 [some (.ref x0), some (.int x1), some (.int x2), some (.int x3), none, none, none] [] h := by
  unfold f_X9_trade_J79
  refine Y.op (pc' := 80) (fun _ => X.iloadn rfl dX9_trade_79) ?_
  refine Y.ifle 99 (by decide) dX9_trade_80 ?_ ?_
  · exact Y.fg (y_X9_trade_J99 x1 h) (And.intro rfl trivial)
  · refine Y.op (pc' := 84) (fun _ => X.aloadn rfl dX9_trade_83) ?_
    refine Y.callVv (As := []) lk_X9_296 rfl cal_X9_beginAct vir_X9_beginAct (Nat.le_of_ble_eq_true rfl) (Nat.le_of_ble_eq_true rfl) rfl rfl rfl (Nat.le_of_ble_eq_true rfl) dX9_trade_84 (fun _ e => m_X9_beginAct x0 h _ _ e) (fun h1 => ?_)
    refine Y.op (pc' := 88) (fun _ => X.aloadn rfl dX9_trade_87) ?_
    refine Y.getR fd_X9_12 rfl dX9_trade_88 (fun v2 => ?_)
    refine Y.getR fd_X9_106 rfl dX9_trade_91 (fun v3 => ?_)
    refine Y.op (pc' := 95) (fun _ => X.iloadn rfl dX9_trade_94) ?_
    refine Y.op (pc' := 96) (fun _ => X.iloadn rfl dX9_trade_95) ?_
    refine Y.callVv (As := [.int x2, .int x3]) lk_X9_328 rfl cal_X3_swap vir_X3_swap (Nat.le_of_ble_eq_true rfl) (Nat.le_of_ble_eq_true rfl) rfl rfl rfl (Nat.le_of_ble_eq_true rfl) dX9_trade_96 (fun _ e => m_X3_swap v3 x2 x3 h1 _ _ e) (fun h4 => ?_)
    exact Y.fg (y_X9_trade_J99 x1 h4) (And.intro rfl trivial)
def f_X9_trade_J73 (kH : Nat → Int32 → Int32 → Int32 → Int32 → xH → Option (Int32 × xH)) (kE79 : Nat → Int32 → Int32 → Int32 → xH → Option (Int32 × xH)) (x0 : Nat) (x1 : Int32) (x2 : Int32) (x3 : Int32) (x4 : Int32) (h : xH) : Option (Int32 × xH) :=
  lt (x4 + (1 : Int32)) fun v1 =>
  kH x0 x1 x2 x3 v1 h
theorem y_X9_trade_J73 {g : xG} {h0 : xH} {cl : Bool} {kH : Nat → Int32 → Int32 → Int32 → Int32 → xH → Option (Int32 × xH)} {kE79 : Nat → Int32 → Int32 → Int32 → xH → Option (Int32 × xH)} (hkH : ∀ (x0 : Nat) (x1 : Int32) (x2 : Int32) (x3 : Int32) (x4 : Int32) (h : xH), Y g DX9_trade h0 cl iI (kH x0 x1 x2 x3 x4 h) 9 [some (.ref x0), some (.int x1), some (.int x2), some (.int x3), some (.int x4), none, none] [] h) (hkE79 : ∀ (x0 : Nat) (x1 : Int32) (x2 : Int32) (x3 : Int32) (h : xH), Y g DX9_trade h0 cl iI (kE79 x0 x1 x2 x3 h) 79 [some (.ref x0), some (.int x1), some (.int x2), some (.int x3), none, none, none] [] h) (x0 : Nat) (x1 : Int32) (x2 : Int32) (x3 : Int32) (x4 : Int32) (h : xH) : Y g DX9_trade h0 cl iI (f_X9_trade_J73 kH kE79 x0 x1 x2 x3 x4 h) 73 [some (.ref x0), some (.int x1), some (.int x2), some (.int x3), some (.int x4), none, none] [] h := by
  unfold f_X9_trade_J73
  refine Y.iinc (i := 4) (loc' := fun v1 => [some (.ref x0), some (.int x1), some (.int x2), some (.int x3), some (.int v1), none, none]) rfl (Nat.le_of_ble_eq_true rfl) ki_1 (fun _ => rfl) dX9_trade_73 (fun v1 => ?_)
  refine Y.op (pc' := 9) (fun _ => X.goto 9 (by decide) dX9_trade_76) ?_
  exact hkH x0 x1 x2 x3 v1 h
def f_X9_trade_J67 (kH : Nat → Int32 → Int32 → Int32 → Int32 → Int32 → xH → Option (Int32 × xH)) (kE73 : Nat → Int32 → Int32 → Int32 → Int32 → xH → Option (Int32 × xH)) (x0 : Nat) (x1 : Int32) (x2 : Int32) (x3 : Int32) (x4 : Int32) (x5 : Int32) (h : xH) : Option (Int32 × xH) :=
  lt (x5 + (1 : Int32)) fun v1 =>
  kH x0 x1 x2 x3 x4 v1 h
theorem y_X9_trade_J67 {g : xG} {h0 : xH} {cl : Bool} {kH : Nat → Int32 → Int32 → Int32 → Int32 → Int32 → xH → Option (Int32 × xH)} {kE73 : Nat → Int32 → Int32 → Int32 → Int32 → xH → Option (Int32 × xH)} (hkH : ∀ (x0 : Nat) (x1 : Int32) (x2 : Int32) (x3 : Int32) (x4 : Int32) (x5 : Int32) (h : xH), Y g DX9_trade h0 cl iI (kH x0 x1 x2 x3 x4 x5 h) 27 [some (.ref x0), some (.int x1), some (.int x2), some (.int x3), some (.int x4), some (.int x5), none] [] h) (hkE73 : ∀ (x0 : Nat) (x1 : Int32) (x2 : Int32) (x3 : Int32) (x4 : Int32) (h : xH), Y g DX9_trade h0 cl iI (kE73 x0 x1 x2 x3 x4 h) 73 [some (.ref x0), some (.int x1), some (.int x2), some (.int x3), some (.int x4), none, none] [] h) (x0 : Nat) (x1 : Int32) (x2 : Int32) (x3 : Int32) (x4 : Int32) (x5 : Int32) (h : xH) : Y g DX9_trade h0 cl iI (f_X9_trade_J67 kH kE73 x0 x1 x2 x3 x4 x5 h) 67 [some (.ref x0), some (.int x1), some (.int x2), some (.int x3), some (.int x4), some (.int x5), none] [] h := by
  unfold f_X9_trade_J67
  refine Y.iinc (i := 5) (loc' := fun v1 => [some (.ref x0), some (.int x1), some (.int x2), some (.int x3), some (.int x4), some (.int v1), none]) rfl (Nat.le_of_ble_eq_true rfl) ki_1 (fun _ => rfl) dX9_trade_67 (fun v1 => ?_)
  refine Y.op (pc' := 27) (fun _ => X.goto 27 (by decide) dX9_trade_70) ?_
  exact hkH x0 x1 x2 x3 x4 v1 h
def f_X9_trade_L27 (kE73 : Nat → Int32 → Int32 → Int32 → Int32 → xH → Option (Int32 × xH)) : Nat → Nat → Int32 → Int32 → Int32 → Int32 → Int32 → xH → Option (Int32 × xH)
  | 0 => fun _ _ _ _ _ _ _ => none
  | n + 1 => fun x0 x1 x2 x3 x4 x5 h =>
    (gR h 9 x0 0).bind fun v1 =>
    (gI h 0 v1 0).bind fun v2 =>
    if x5 ≥ v2 then
      kE73 x0 x1 x2 x3 x4 h
    else
      (gR h 9 x0 0).bind fun v3 =>
      (vc h 0 v3 (f_X0_tradeGain v3 x4 x5 h)).bind fun r4 =>
      if r4.1 ≤ x1 then
        f_X9_trade_J67 (f_X9_trade_L27 kE73 n) kE73 x0 x1 x2 x3 x4 x5 r4.2
      else
        f_X9_trade_J67 (f_X9_trade_L27 kE73 n) kE73 x0 r4.1 x4 x5 x4 x5 r4.2
theorem y_X9_trade_L27 {g : xG} {h0 : xH} {cl : Bool} {kE73 : Nat → Int32 → Int32 → Int32 → Int32 → xH → Option (Int32 × xH)} (hkE73 : ∀ (x0 : Nat) (x1 : Int32) (x2 : Int32) (x3 : Int32) (x4 : Int32) (h : xH), Y g DX9_trade h0 cl iI (kE73 x0 x1 x2 x3 x4 h) 73 [some (.ref x0), some (.int x1), some (.int x2), some (.int x3), some (.int x4), none, none] [] h) : ∀ (n : Nat) (x0 : Nat) (x1 : Int32) (x2 : Int32) (x3 : Int32) (x4 : Int32) (x5 : Int32) (h : xH), Y g DX9_trade h0 cl iI (f_X9_trade_L27 kE73 n x0 x1 x2 x3 x4 x5 h) 27 [some (.ref x0), some (.int x1), some (.int x2), some (.int x3), some (.int x4), some (.int x5), none] [] h := by
  intro n
  induction n with
  | zero => intro x0 x1 x2 x3 x4 x5 h; exact Y.nothing
  | succ n ih =>
    intro x0 x1 x2 x3 x4 x5 h
    unfold f_X9_trade_L27
    refine Y.op (pc' := 29) (fun _ => X.iload rfl dX9_trade_27) ?_
    refine Y.op (pc' := 30) (fun _ => X.aloadn rfl dX9_trade_29) ?_
    refine Y.getR fd_X9_12 rfl dX9_trade_30 (fun v1 => ?_)
    refine Y.getI fd_X9_119 rfl dX9_trade_33 (fun v2 => ?_)
    refine Y.cmpge 73 (by decide) dX9_trade_36 ?_ ?_
    · exact Y.fg (hkE73 x0 x1 x2 x3 x4 h) (And.intro rfl (And.intro rfl (And.intro rfl (And.intro rfl (And.intro rfl trivial)))))
    · refine Y.op (pc' := 40) (fun _ => X.aloadn rfl dX9_trade_39) ?_
      refine Y.getR fd_X9_12 rfl dX9_trade_40 (fun v3 => ?_)
      refine Y.op (pc' := 45) (fun _ => X.iload rfl dX9_trade_43) ?_
      refine Y.op (pc' := 47) (fun _ => X.iload rfl dX9_trade_45) ?_
      refine Y.callVi (As := [.int x4, .int x5]) lk_X9_325 rfl cal_X0_tradeGain vir_X0_tradeGain (Nat.le_of_ble_eq_true rfl) (Nat.le_of_ble_eq_true rfl) rfl rfl rfl (Nat.le_of_ble_eq_true rfl) dX9_trade_47 (fun _ e => m_X0_tradeGain v3 x4 x5 h _ _ e) (fun r4 => ?_)
      refine Y.op (pc' := 52) (loc' := [some (.ref x0), some (.int x1), some (.int x2), some (.int x3), some (.int x4), some (.int x5), some (.int r4.1)]) (fun _ => X.istore (Nat.le_of_ble_eq_true rfl) rfl dX9_trade_50) ?_
      refine Y.op (pc' := 54) (fun _ => X.iload rfl dX9_trade_52) ?_
      refine Y.op (pc' := 55) (fun _ => X.iloadn rfl dX9_trade_54) ?_
      refine Y.cmple 67 (by decide) dX9_trade_55 ?_ ?_
      · exact Y.fg (y_X9_trade_J67 ih hkE73 x0 x1 x2 x3 x4 x5 r4.2) (And.intro rfl (And.intro rfl (And.intro rfl (And.intro rfl (And.intro rfl (And.intro rfl trivial))))))
      · refine Y.op (pc' := 60) (fun _ => X.iload rfl dX9_trade_58) ?_
        refine Y.op (pc' := 61) (loc' := [some (.ref x0), some (.int r4.1), some (.int x2), some (.int x3), some (.int x4), some (.int x5), some (.int r4.1)]) (fun _ => X.istoren (Nat.le_of_ble_eq_true rfl) rfl dX9_trade_60) ?_
        refine Y.op (pc' := 63) (fun _ => X.iload rfl dX9_trade_61) ?_
        refine Y.op (pc' := 64) (loc' := [some (.ref x0), some (.int r4.1), some (.int x4), some (.int x3), some (.int x4), some (.int x5), some (.int r4.1)]) (fun _ => X.istoren (Nat.le_of_ble_eq_true rfl) rfl dX9_trade_63) ?_
        refine Y.op (pc' := 66) (fun _ => X.iload rfl dX9_trade_64) ?_
        refine Y.op (pc' := 67) (loc' := [some (.ref x0), some (.int r4.1), some (.int x4), some (.int x5), some (.int x4), some (.int x5), some (.int r4.1)]) (fun _ => X.istoren (Nat.le_of_ble_eq_true rfl) rfl dX9_trade_66) ?_
        exact Y.fg (y_X9_trade_J67 ih hkE73 x0 r4.1 x4 x5 x4 x5 r4.2) (And.intro rfl (And.intro rfl (And.intro rfl (And.intro rfl (And.intro rfl (And.intro rfl trivial))))))
def f_X9_trade_L9 (kE79 : Nat → Int32 → Int32 → Int32 → xH → Option (Int32 × xH)) : Nat → Nat → Int32 → Int32 → Int32 → Int32 → xH → Option (Int32 × xH)
  | 0 => fun _ _ _ _ _ _ => none
  | n + 1 => fun x0 x1 x2 x3 x4 h =>
    (gR h 9 x0 0).bind fun v1 =>
    (gI h 0 v1 0).bind fun v2 =>
    if x4 ≥ v2 then
      kE79 x0 x1 x2 x3 h
    else
      lt ((x4 + (1 : Int32))) fun v3 =>
      f_X9_trade_L27 (f_X9_trade_J73 (f_X9_trade_L9 kE79 n) kE79) 5000 x0 x1 x2 x3 x4 v3 h
theorem y_X9_trade_L9 {g : xG} {h0 : xH} {cl : Bool} {kE79 : Nat → Int32 → Int32 → Int32 → xH → Option (Int32 × xH)} (hkE79 : ∀ (x0 : Nat) (x1 : Int32) (x2 : Int32) (x3 : Int32) (h : xH), Y g DX9_trade h0 cl iI (kE79 x0 x1 x2 x3 h) 79 [some (.ref x0), some (.int x1), some (.int x2), some (.int x3), none, none, none] [] h) : ∀ (n : Nat) (x0 : Nat) (x1 : Int32) (x2 : Int32) (x3 : Int32) (x4 : Int32) (h : xH), Y g DX9_trade h0 cl iI (f_X9_trade_L9 kE79 n x0 x1 x2 x3 x4 h) 9 [some (.ref x0), some (.int x1), some (.int x2), some (.int x3), some (.int x4), none, none] [] h := by
  intro n
  induction n with
  | zero => intro x0 x1 x2 x3 x4 h; exact Y.nothing
  | succ n ih =>
    intro x0 x1 x2 x3 x4 h
    unfold f_X9_trade_L9
    refine Y.op (pc' := 11) (fun _ => X.iload rfl dX9_trade_9) ?_
    refine Y.op (pc' := 12) (fun _ => X.aloadn rfl dX9_trade_11) ?_
    refine Y.getR fd_X9_12 rfl dX9_trade_12 (fun v1 => ?_)
    refine Y.getI fd_X9_119 rfl dX9_trade_15 (fun v2 => ?_)
    refine Y.cmpge 79 (by decide) dX9_trade_18 ?_ ?_
    · exact Y.fg (hkE79 x0 x1 x2 x3 h) (And.intro rfl (And.intro rfl (And.intro rfl (And.intro rfl trivial))))
    · refine Y.op (pc' := 23) (fun _ => X.iload rfl dX9_trade_21) ?_
      refine Y.op (pc' := 24) (fun _ => X.ic ki_1 dX9_trade_23) ?_
      refine Y.op (pc' := 25) (fun _ => X.iadd dX9_trade_24) ?_
      refine Y.top (fun v3 => ?_)
      refine Y.op (pc' := 27) (loc' := [some (.ref x0), some (.int x1), some (.int x2), some (.int x3), some (.int x4), some (.int v3), none]) (fun _ => X.istore (Nat.le_of_ble_eq_true rfl) rfl dX9_trade_25) ?_
      exact y_X9_trade_L27 (y_X9_trade_J73 ih hkE79) 5000 x0 x1 x2 x3 x4 v3 h
def f_X9_trade (a0 : Nat) (h : xH) : Option (Int32 × xH) :=
  f_X9_trade_L9 (f_X9_trade_J79) 5000 a0 (0 : Int32) (-1 : Int32) (-1 : Int32) (0 : Int32) h
theorem y_X9_trade {g : xG} {h0 : xH} {cl : Bool} (a0 : Nat) (h : xH) : Y g DX9_trade h0 cl iI (f_X9_trade a0 h) 0 [some (.ref a0), none, none, none, none, none, none] [] h := by
  unfold f_X9_trade
  refine Y.op (pc' := 1) (fun _ => X.ic ki_0 dX9_trade_0) ?_
  refine Y.op (pc' := 2) (loc' := [some (.ref a0), some (.int (0 : Int32)), none, none, none, none, none]) (fun _ => X.istoren (Nat.le_of_ble_eq_true rfl) rfl dX9_trade_1) ?_
  refine Y.op (pc' := 3) (fun _ => X.ic ki_m1 dX9_trade_2) ?_
  refine Y.op (pc' := 4) (loc' := [some (.ref a0), some (.int (0 : Int32)), some (.int (-1 : Int32)), none, none, none, none]) (fun _ => X.istoren (Nat.le_of_ble_eq_true rfl) rfl dX9_trade_3) ?_
  refine Y.op (pc' := 5) (fun _ => X.ic ki_m1 dX9_trade_4) ?_
  refine Y.op (pc' := 6) (loc' := [some (.ref a0), some (.int (0 : Int32)), some (.int (-1 : Int32)), some (.int (-1 : Int32)), none, none, none]) (fun _ => X.istoren (Nat.le_of_ble_eq_true rfl) rfl dX9_trade_5) ?_
  refine Y.op (pc' := 7) (fun _ => X.ic ki_0 dX9_trade_6) ?_
  refine Y.op (pc' := 9) (loc' := [some (.ref a0), some (.int (0 : Int32)), some (.int (-1 : Int32)), some (.int (-1 : Int32)), some (.int (0 : Int32)), none, none]) (fun _ => X.istore (Nat.le_of_ble_eq_true rfl) rfl dX9_trade_7) ?_
  exact y_X9_trade_L9 (y_X9_trade_J79) 5000 a0 (0 : Int32) (-1 : Int32) (-1 : Int32) (0 : Int32) h
theorem m_X9_trade {g : xG} (a0 : Nat) (h : xH) (cl : Bool) (r : Int32 × xH) (e : f_X9_trade a0 h = some r) : XM g DX9_trade [.ref a0] h cl (iI r) := YM.of rfl rfl (Nat.le_of_ble_eq_true rfl) (y_X9_trade a0 h) e
def f_X9_keep_J15 (x0 : Nat) (x1 : Int32) (s0 : Nat) (s1 : Int32) (h : xH) : Option ((Int32 ⊕ String) × xH) :=
  (vc h 9 s0 (f_X9_demand s0 s1 h)).bind fun r => thr r fun h1 =>
  (vc h1 9 x0 (f_X9_beginAct x0 h1)).bind fun h2 =>
  (gR h2 9 x0 0).bind fun v3 =>
  (gI h2 0 v3 4).bind fun v4 =>
  (gR h2 9 x0 0).bind fun v5 =>
  (pI h2 0 v5 4 x1).bind fun h6 =>
  (vc h6 9 x0 (f_X9_keepUp x0 h6)).bind fun h7 =>
  some (.inl v4, h7)
theorem y_X9_keep_J15 {g : xG} {h0 : xH} {cl : Bool} (x0 : Nat) (x1 : Int32) (s0 : Nat) (s1 : Int32) (h : xH) : Y g DX9_keep h0 cl iIx (f_X9_keep_J15 x0 x1 s0 s1 h) 15 [some (.ref x0), some (.int x1), none] [.int s1, .ref s0] h := by
  unfold f_X9_keep_J15
  refine Y.callVx (As := [.int s1]) lk_X9_90 rfl cal_X9_demand vir_X9_demand (Nat.le_of_ble_eq_true rfl) (Nat.le_of_ble_eq_true rfl) rfl rfl rfl (Nat.le_of_ble_eq_true rfl) rfl dX9_keep_15 (fun _ e => m_X9_demand s0 s1 h _ _ e) (fun h1 => ?_)
  refine Y.op (pc' := 19) (fun _ => X.aloadn rfl dX9_keep_18) ?_
  refine Y.callVv (As := []) lk_X9_296 rfl cal_X9_beginAct vir_X9_beginAct (Nat.le_of_ble_eq_true rfl) (Nat.le_of_ble_eq_true rfl) rfl rfl rfl (Nat.le_of_ble_eq_true rfl) dX9_keep_19 (fun _ e => m_X9_beginAct x0 h1 _ _ e) (fun h2 => ?_)
  refine Y.op (pc' := 23) (fun _ => X.aloadn rfl dX9_keep_22) ?_
  refine Y.getR fd_X9_12 rfl dX9_keep_23 (fun v3 => ?_)
  refine Y.getI fd_X9_128 rfl dX9_keep_26 (fun v4 => ?_)
  refine Y.op (pc' := 30) (loc' := [some (.ref x0), some (.int x1), some (.int v4)]) (fun _ => X.istoren (Nat.le_of_ble_eq_true rfl) rfl dX9_keep_29) ?_
  refine Y.op (pc' := 31) (fun _ => X.aloadn rfl dX9_keep_30) ?_
  refine Y.getR fd_X9_12 rfl dX9_keep_31 (fun v5 => ?_)
  refine Y.op (pc' := 35) (fun _ => X.iloadn rfl dX9_keep_34) ?_
  refine Y.putI fd_X9_128 rfl dX9_keep_35 (fun h6 => ?_)
  refine Y.op (pc' := 39) (fun _ => X.aloadn rfl dX9_keep_38) ?_
  refine Y.callVv (As := []) lk_X9_103 rfl cal_X9_keepUp vir_X9_keepUp (Nat.le_of_ble_eq_true rfl) (Nat.le_of_ble_eq_true rfl) rfl rfl rfl (Nat.le_of_ble_eq_true rfl) dX9_keep_39 (fun _ e => m_X9_keepUp x0 h6 _ _ e) (fun h7 => ?_)
  refine Y.op (pc' := 43) (fun _ => X.iloadn rfl dX9_keep_42) ?_
  exact Y.ireturnx rfl dX9_keep_43
def f_X9_keep_J10 (x0 : Nat) (x1 : Int32) (s0 : Nat) (h : xH) : Option ((Int32 ⊕ String) × xH) :=
  f_X9_keep_J15 x0 x1 s0 (1 : Int32) h
theorem y_X9_keep_J10 {g : xG} {h0 : xH} {cl : Bool} (x0 : Nat) (x1 : Int32) (s0 : Nat) (h : xH) : Y g DX9_keep h0 cl iIx (f_X9_keep_J10 x0 x1 s0 h) 10 [some (.ref x0), some (.int x1), none] [.ref s0] h := by
  unfold f_X9_keep_J10
  refine Y.op (pc' := 11) (fun _ => X.ic ki_1 dX9_keep_10) ?_
  refine Y.op (pc' := 15) (fun _ => X.goto 15 (by decide) dX9_keep_11) ?_
  exact y_X9_keep_J15 x0 x1 s0 (1 : Int32) h
def f_X9_keep (a0 : Nat) (p1 : Int32) (h : xH) : Option ((Int32 ⊕ String) × xH) :=
  if p1 = (0 : Int32) then
    f_X9_keep_J10 a0 p1 a0 h
  else
    if p1 = (1 : Int32) then
      f_X9_keep_J10 a0 p1 a0 h
    else
      f_X9_keep_J15 a0 p1 a0 (0 : Int32) h
theorem y_X9_keep {g : xG} {h0 : xH} {cl : Bool} (a0 : Nat) (p1 : Int32) (h : xH) : Y g DX9_keep h0 cl iIx (f_X9_keep a0 p1 h) 0 [some (.ref a0), some (.int p1), none] [] h := by
  unfold f_X9_keep
  refine Y.op (pc' := 1) (fun _ => X.aloadn rfl dX9_keep_0) ?_
  refine Y.op (pc' := 2) (fun _ => X.iloadn rfl dX9_keep_1) ?_
  refine Y.ifeq 10 (by decide) dX9_keep_2 ?_ ?_
  · exact y_X9_keep_J10 a0 p1 a0 h
  · refine Y.op (pc' := 6) (fun _ => X.iloadn rfl dX9_keep_5) ?_
    refine Y.op (pc' := 7) (fun _ => X.ic ki_1 dX9_keep_6) ?_
    refine Y.cmpne 14 (by decide) dX9_keep_7 ?_ ?_
    · refine Y.op (pc' := 15) (fun _ => X.ic ki_0 dX9_keep_14) ?_
      exact y_X9_keep_J15 a0 p1 a0 (0 : Int32) h
    · exact y_X9_keep_J10 a0 p1 a0 h
theorem m_X9_keep {g : xG} (a0 : Nat) (p1 : Int32) (h : xH) (cl : Bool) (r : (Int32 ⊕ String) × xH) (e : f_X9_keep a0 p1 h = some r) : XM g DX9_keep [.ref a0, .int p1] h cl (iIx r) := YM.of rfl rfl (Nat.le_of_ble_eq_true rfl) (y_X9_keep a0 p1 h) e
def f_X9_settle_J65 (x2 : Int32) (h : xH) : Option ((Int32 ⊕ String) × xH) :=
  some (.inl x2, h)
theorem y_X9_settle_J65 {g : xG} {h0 : xH} {cl : Bool} (x2 : Int32) (h : xH) : Y g DX9_settle h0 cl iIx (f_X9_settle_J65 x2 h) 65 [none, none, some (.int x2)] [] h := by
  unfold f_X9_settle_J65
  refine Y.op (pc' := 66) (fun _ => X.iloadn rfl dX9_settle_65) ?_
  exact Y.ireturnx rfl dX9_settle_66
def f_X9_settle_J17 (x0 : Nat) (x1 : Int32) (s0 : Nat) (s1 : Int32) (h : xH) : Option ((Int32 ⊕ String) × xH) :=
  (vc h 9 s0 (f_X9_demand s0 s1 h)).bind fun r => thr r fun h1 =>
  (gR h1 9 x0 4).bind fun v2 =>
  (gR h1 9 x0 0).bind fun v3 =>
  (vc h1 7 v2 (f_X7_load v2 v3 h1)).bind fun h4 =>
  (gR h4 9 x0 4).bind fun v5 =>
  (vc h4 7 v5 (f_X7_grow v5 x1 h4)).bind fun r6 =>
  if r6.1 ≤ (0 : Int32) then
    f_X9_settle_J65 r6.1 r6.2
  else
    (vc r6.2 9 x0 (f_X9_beginAct x0 r6.2)).bind fun h7 =>
    (gR h7 9 x0 0).bind fun v8 =>
    (gR h7 0 v8 9).bind fun v9 =>
    (gR h7 9 x0 4).bind fun v10 =>
    (gR h7 7 v10 0).bind fun v11 =>
    (vc h7 3 v9 (f_X3_copy v9 v11 h7)).bind fun h12 =>
    f_X9_settle_J65 r6.1 h12
theorem y_X9_settle_J17 {g : xG} {h0 : xH} {cl : Bool} (x0 : Nat) (x1 : Int32) (s0 : Nat) (s1 : Int32) (h : xH) : Y g DX9_settle h0 cl iIx (f_X9_settle_J17 x0 x1 s0 s1 h) 17 [some (.ref x0), some (.int x1), none] [.int s1, .ref s0] h := by
  unfold f_X9_settle_J17
  refine Y.callVx (As := [.int s1]) lk_X9_90 rfl cal_X9_demand vir_X9_demand (Nat.le_of_ble_eq_true rfl) (Nat.le_of_ble_eq_true rfl) rfl rfl rfl (Nat.le_of_ble_eq_true rfl) rfl dX9_settle_17 (fun _ e => m_X9_demand s0 s1 h _ _ e) (fun h1 => ?_)
  refine Y.op (pc' := 21) (fun _ => X.aloadn rfl dX9_settle_20) ?_
  refine Y.getR fd_X9_36 rfl dX9_settle_21 (fun v2 => ?_)
  refine Y.op (pc' := 25) (fun _ => X.aloadn rfl dX9_settle_24) ?_
  refine Y.getR fd_X9_12 rfl dX9_settle_25 (fun v3 => ?_)
  refine Y.callVv (As := [.ref v3]) lk_X9_170 rfl cal_X7_load vir_X7_load (Nat.le_of_ble_eq_true rfl) (Nat.le_of_ble_eq_true rfl) rfl rfl rfl (Nat.le_of_ble_eq_true rfl) dX9_settle_28 (fun _ e => m_X7_load v2 v3 h1 _ _ e) (fun h4 => ?_)
  refine Y.op (pc' := 32) (fun _ => X.aloadn rfl dX9_settle_31) ?_
  refine Y.getR fd_X9_36 rfl dX9_settle_32 (fun v5 => ?_)
  refine Y.op (pc' := 36) (fun _ => X.iloadn rfl dX9_settle_35) ?_
  refine Y.callVi (As := [.int x1]) lk_X9_217 rfl cal_X7_grow vir_X7_grow (Nat.le_of_ble_eq_true rfl) (Nat.le_of_ble_eq_true rfl) rfl rfl rfl (Nat.le_of_ble_eq_true rfl) dX9_settle_36 (fun _ e => m_X7_grow v5 x1 h4 _ _ e) (fun r6 => ?_)
  refine Y.op (pc' := 40) (loc' := [some (.ref x0), some (.int x1), some (.int r6.1)]) (fun _ => X.istoren (Nat.le_of_ble_eq_true rfl) rfl dX9_settle_39) ?_
  refine Y.op (pc' := 41) (fun _ => X.iloadn rfl dX9_settle_40) ?_
  refine Y.ifle 65 (by decide) dX9_settle_41 ?_ ?_
  · exact Y.fg (y_X9_settle_J65 r6.1 r6.2) (And.intro rfl trivial)
  · refine Y.op (pc' := 45) (fun _ => X.aloadn rfl dX9_settle_44) ?_
    refine Y.callVv (As := []) lk_X9_296 rfl cal_X9_beginAct vir_X9_beginAct (Nat.le_of_ble_eq_true rfl) (Nat.le_of_ble_eq_true rfl) rfl rfl rfl (Nat.le_of_ble_eq_true rfl) dX9_settle_45 (fun _ e => m_X9_beginAct x0 r6.2 _ _ e) (fun h7 => ?_)
    refine Y.op (pc' := 49) (fun _ => X.aloadn rfl dX9_settle_48) ?_
    refine Y.getR fd_X9_12 rfl dX9_settle_49 (fun v8 => ?_)
    refine Y.getR fd_X9_106 rfl dX9_settle_52 (fun v9 => ?_)
    refine Y.op (pc' := 56) (fun _ => X.aloadn rfl dX9_settle_55) ?_
    refine Y.getR fd_X9_36 rfl dX9_settle_56 (fun v10 => ?_)
    refine Y.getR fd_X9_197 rfl dX9_settle_59 (fun v11 => ?_)
    refine Y.callVv (As := [.ref v11]) lk_X9_331 rfl cal_X3_copy vir_X3_copy (Nat.le_of_ble_eq_true rfl) (Nat.le_of_ble_eq_true rfl) rfl rfl rfl (Nat.le_of_ble_eq_true rfl) dX9_settle_62 (fun _ e => m_X3_copy v9 v11 h7 _ _ e) (fun h12 => ?_)
    exact Y.fg (y_X9_settle_J65 r6.1 h12) (And.intro rfl trivial)
def f_X9_settle_J16 (x0 : Nat) (x1 : Int32) (s0 : Nat) (h : xH) : Option ((Int32 ⊕ String) × xH) :=
  f_X9_settle_J17 x0 x1 s0 (0 : Int32) h
theorem y_X9_settle_J16 {g : xG} {h0 : xH} {cl : Bool} (x0 : Nat) (x1 : Int32) (s0 : Nat) (h : xH) : Y g DX9_settle h0 cl iIx (f_X9_settle_J16 x0 x1 s0 h) 16 [some (.ref x0), some (.int x1), none] [.ref s0] h := by
  unfold f_X9_settle_J16
  refine Y.op (pc' := 17) (fun _ => X.ic ki_0 dX9_settle_16) ?_
  exact y_X9_settle_J17 x0 x1 s0 (0 : Int32) h
def f_X9_settle (a0 : Nat) (p1 : Int32) (h : xH) : Option ((Int32 ⊕ String) × xH) :=
  if p1 < (1 : Int32) then
    f_X9_settle_J16 a0 p1 a0 h
  else
    if p1 > (12 : Int32) then
      f_X9_settle_J16 a0 p1 a0 h
    else
      f_X9_settle_J17 a0 p1 a0 (1 : Int32) h
theorem y_X9_settle {g : xG} {h0 : xH} {cl : Bool} (a0 : Nat) (p1 : Int32) (h : xH) : Y g DX9_settle h0 cl iIx (f_X9_settle a0 p1 h) 0 [some (.ref a0), some (.int p1), none] [] h := by
  unfold f_X9_settle
  refine Y.op (pc' := 1) (fun _ => X.aloadn rfl dX9_settle_0) ?_
  refine Y.op (pc' := 2) (fun _ => X.iloadn rfl dX9_settle_1) ?_
  refine Y.op (pc' := 3) (fun _ => X.ic ki_1 dX9_settle_2) ?_
  refine Y.cmplt 16 (by decide) dX9_settle_3 ?_ ?_
  · exact y_X9_settle_J16 a0 p1 a0 h
  · refine Y.op (pc' := 7) (fun _ => X.iloadn rfl dX9_settle_6) ?_
    refine Y.op (pc' := 9) (fun _ => X.bp kb_12 dX9_settle_7) ?_
    refine Y.cmpgt 16 (by decide) dX9_settle_9 ?_ ?_
    · exact y_X9_settle_J16 a0 p1 a0 h
    · refine Y.op (pc' := 13) (fun _ => X.ic ki_1 dX9_settle_12) ?_
      refine Y.op (pc' := 17) (fun _ => X.goto 17 (by decide) dX9_settle_13) ?_
      exact y_X9_settle_J17 a0 p1 a0 (1 : Int32) h
theorem m_X9_settle {g : xG} (a0 : Nat) (p1 : Int32) (h : xH) (cl : Bool) (r : (Int32 ⊕ String) × xH) (e : f_X9_settle a0 p1 h = some r) : XM g DX9_settle [.ref a0, .int p1] h cl (iIx r) := YM.of rfl rfl (Nat.le_of_ble_eq_true rfl) (y_X9_settle a0 p1 h) e
def f_X9_undo (a0 : Nat) (h : xH) : Option (Int32 × xH) :=
  (gR h 9 a0 2).bind fun v1 =>
  (gR h 9 a0 0).bind fun v2 =>
  (vc h 2 v1 (f_X2_takeBack v1 v2 h)).bind fun r3 =>
  if r3.1 = (0 : Int32) then
    some ((-1 : Int32), r3.2)
  else
    (pZ r3.2 9 a0 9 (0 : Int32)).bind fun h4 =>
    (gR h4 9 a0 2).bind fun v5 =>
    (gI h4 2 v5 2).bind fun v6 =>
    some (v6, h4)
theorem y_X9_undo {g : xG} {h0 : xH} {cl : Bool} (a0 : Nat) (h : xH) : Y g DX9_undo h0 cl iI (f_X9_undo a0 h) 0 [some (.ref a0)] [] h := by
  unfold f_X9_undo
  refine Y.op (pc' := 1) (fun _ => X.aloadn rfl dX9_undo_0) ?_
  refine Y.getR fd_X9_22 rfl dX9_undo_1 (fun v1 => ?_)
  refine Y.op (pc' := 5) (fun _ => X.aloadn rfl dX9_undo_4) ?_
  refine Y.getR fd_X9_12 rfl dX9_undo_5 (fun v2 => ?_)
  refine Y.callVi (As := [.ref v2]) lk_X9_334 rfl cal_X2_takeBack vir_X2_takeBack (Nat.le_of_ble_eq_true rfl) (Nat.le_of_ble_eq_true rfl) rfl rfl rfl (Nat.le_of_ble_eq_true rfl) dX9_undo_8 (fun _ e => m_X2_takeBack v1 v2 h _ _ e) (fun r3 => ?_)
  refine Y.ifne 16 (by decide) dX9_undo_11 ?_ ?_
  · refine Y.op (pc' := 17) (fun _ => X.aloadn rfl dX9_undo_16) ?_
    refine Y.op (pc' := 18) (fun _ => X.ic ki_0 dX9_undo_17) ?_
    refine Y.putZ fd_X9_68 rfl dX9_undo_18 (fun h4 => ?_)
    refine Y.op (pc' := 22) (fun _ => X.aloadn rfl dX9_undo_21) ?_
    refine Y.getR fd_X9_22 rfl dX9_undo_22 (fun v5 => ?_)
    refine Y.getI fd_X9_102 rfl dX9_undo_25 (fun v6 => ?_)
    exact Y.ireturn rfl dX9_undo_28
  · refine Y.op (pc' := 15) (fun _ => X.ic ki_m1 dX9_undo_14) ?_
    exact Y.ireturn rfl dX9_undo_15
theorem m_X9_undo {g : xG} (a0 : Nat) (h : xH) (cl : Bool) (r : Int32 × xH) (e : f_X9_undo a0 h = some r) : XM g DX9_undo [.ref a0] h cl (iI r) := YM.of rfl rfl (Nat.le_of_ble_eq_true rfl) (y_X9_undo a0 h) e
def f_X9_print_J42 (x1 : Int64) (h : xH) : Option (Int64 × xH) :=
  some (x1, h)
theorem y_X9_print_J42 {g : xG} {h0 : xH} {cl : Bool} (x1 : Int64) (h : xH) : Y g DX9_print h0 cl iJ (f_X9_print_J42 x1 h) 42 [none, some (.long x1), none, none] [] h := by
  unfold f_X9_print_J42
  refine Y.op (pc' := 43) (fun _ => X.lloadn rfl dX9_print_42) ?_
  exact Y.lreturn rfl dX9_print_43
def f_X9_print_L4 (kE42 : Int64 → xH → Option (Int64 × xH)) : Nat → Nat → Int64 → Int32 → xH → Option (Int64 × xH)
  | 0 => fun _ _ _ _ => none
  | n + 1 => fun x0 x1 x3 h =>
    (gR h 9 x0 0).bind fun v1 =>
    (gI h 0 v1 0).bind fun v2 =>
    if x3 ≥ v2 then
      kE42 x1 h
    else
      (gR h 9 x0 0).bind fun v3 =>
      (gR h 0 v3 9).bind fun v4 =>
      (vc h 3 v4 (f_X3_taskOf v4 x3 h)).bind fun r5 =>
      lt ((((x1 * (13 : Int64)) + r5.1.toInt64) + (1 : Int64))) fun v6 =>
      lt (x3 + (1 : Int32)) fun v7 =>
      f_X9_print_L4 kE42 n x0 v6 v7 r5.2
theorem y_X9_print_L4 {g : xG} {h0 : xH} {cl : Bool} {kE42 : Int64 → xH → Option (Int64 × xH)} (hkE42 : ∀ (x1 : Int64) (h : xH), Y g DX9_print h0 cl iJ (kE42 x1 h) 42 [none, some (.long x1), none, none] [] h) : ∀ (n : Nat) (x0 : Nat) (x1 : Int64) (x3 : Int32) (h : xH), Y g DX9_print h0 cl iJ (f_X9_print_L4 kE42 n x0 x1 x3 h) 4 [some (.ref x0), some (.long x1), none, some (.int x3)] [] h := by
  intro n
  induction n with
  | zero => intro x0 x1 x3 h; exact Y.nothing
  | succ n ih =>
    intro x0 x1 x3 h
    unfold f_X9_print_L4
    refine Y.op (pc' := 5) (fun _ => X.iloadn rfl dX9_print_4) ?_
    refine Y.op (pc' := 6) (fun _ => X.aloadn rfl dX9_print_5) ?_
    refine Y.getR fd_X9_12 rfl dX9_print_6 (fun v1 => ?_)
    refine Y.getI fd_X9_119 rfl dX9_print_9 (fun v2 => ?_)
    refine Y.cmpge 42 (by decide) dX9_print_12 ?_ ?_
    · exact Y.fg (hkE42 x1 h) (And.intro rfl trivial)
    · refine Y.op (pc' := 16) (fun _ => X.lloadn rfl dX9_print_15) ?_
      refine Y.op (pc' := 19) (fun _ => X.ldcL wl_X9_338 rfl dX9_print_16) ?_
      refine Y.op (pc' := 20) (fun _ => X.lmul dX9_print_19) ?_
      refine Y.op (pc' := 21) (fun _ => X.aloadn rfl dX9_print_20) ?_
      refine Y.getR fd_X9_12 rfl dX9_print_21 (fun v3 => ?_)
      refine Y.getR fd_X9_106 rfl dX9_print_24 (fun v4 => ?_)
      refine Y.op (pc' := 28) (fun _ => X.iloadn rfl dX9_print_27) ?_
      refine Y.callVi (As := [.int x3]) lk_X9_198 rfl cal_X3_taskOf vir_X3_taskOf (Nat.le_of_ble_eq_true rfl) (Nat.le_of_ble_eq_true rfl) rfl rfl rfl (Nat.le_of_ble_eq_true rfl) dX9_print_28 (fun _ e => m_X3_taskOf v4 x3 h _ _ e) (fun r5 => ?_)
      refine Y.op (pc' := 32) (fun _ => X.i2l dX9_print_31) ?_
      refine Y.op (pc' := 33) (fun _ => X.ladd dX9_print_32) ?_
      refine Y.op (pc' := 34) (fun _ => X.lc kl_1 dX9_print_33) ?_
      refine Y.op (pc' := 35) (fun _ => X.ladd dX9_print_34) ?_
      refine Y.topl (fun v6 => ?_)
      refine Y.op (pc' := 36) (loc' := [some (.ref x0), some (.long v6), none, some (.int x3)]) (fun _ => X.lstoren (Nat.le_of_ble_eq_true rfl) rfl dX9_print_35) ?_
      refine Y.iinc (i := 3) (loc' := fun v7 => [some (.ref x0), some (.long v6), none, some (.int v7)]) rfl (Nat.le_of_ble_eq_true rfl) ki_1 (fun _ => rfl) dX9_print_36 (fun v7 => ?_)
      refine Y.op (pc' := 4) (fun _ => X.goto 4 (by decide) dX9_print_39) ?_
      exact ih x0 v6 v7 r5.2
def f_X9_print (a0 : Nat) (h : xH) : Option (Int64 × xH) :=
  f_X9_print_L4 (f_X9_print_J42) 5000 a0 (0 : Int64) (0 : Int32) h
theorem y_X9_print {g : xG} {h0 : xH} {cl : Bool} (a0 : Nat) (h : xH) : Y g DX9_print h0 cl iJ (f_X9_print a0 h) 0 [some (.ref a0), none, none, none] [] h := by
  unfold f_X9_print
  refine Y.op (pc' := 1) (fun _ => X.lc kl_0 dX9_print_0) ?_
  refine Y.op (pc' := 2) (loc' := [some (.ref a0), some (.long (0 : Int64)), none, none]) (fun _ => X.lstoren (Nat.le_of_ble_eq_true rfl) rfl dX9_print_1) ?_
  refine Y.op (pc' := 3) (fun _ => X.ic ki_0 dX9_print_2) ?_
  refine Y.op (pc' := 4) (loc' := [some (.ref a0), some (.long (0 : Int64)), none, some (.int (0 : Int32))]) (fun _ => X.istoren (Nat.le_of_ble_eq_true rfl) rfl dX9_print_3) ?_
  exact y_X9_print_L4 (y_X9_print_J42) 5000 a0 (0 : Int64) (0 : Int32) h
theorem m_X9_print {g : xG} (a0 : Nat) (h : xH) (cl : Bool) (r : Int64 × xH) (e : f_X9_print a0 h = some r) : XM g DX9_print [.ref a0] h cl (iJ r) := YM.of rfl rfl (Nat.le_of_ble_eq_true rfl) (y_X9_print a0 h) e
def f_X9_status_J24 (s0 : Int32) (h : xH) : Option (Int32 × xH) :=
  some (s0, h)
theorem y_X9_status_J24 {g : xG} {h0 : xH} {cl : Bool} (s0 : Int32) (h : xH) : Y g DX9_status h0 cl iI (f_X9_status_J24 s0 h) 24 [none, none] [.int s0] h := by
  unfold f_X9_status_J24
  exact Y.ireturn rfl dX9_status_24
def f_X9_status (a0 : Nat) (p1 : Int32) (h : xH) : Option (Int32 × xH) :=
  if p1 = (0 : Int32) then
    (gI h 9 a0 10).bind fun v2 =>
    f_X9_status_J24 v2 h
  else
    if p1 = (1 : Int32) then
      (gI h 9 a0 11).bind fun v1 =>
      f_X9_status_J24 v1 h
    else
      f_X9_status_J24 (-1 : Int32) h
theorem y_X9_status {g : xG} {h0 : xH} {cl : Bool} (a0 : Nat) (p1 : Int32) (h : xH) : Y g DX9_status h0 cl iI (f_X9_status a0 p1 h) 0 [some (.ref a0), some (.int p1)] [] h := by
  unfold f_X9_status
  refine Y.op (pc' := 1) (fun _ => X.iloadn rfl dX9_status_0) ?_
  refine Y.ifne 11 (by decide) dX9_status_1 ?_ ?_
  · refine Y.op (pc' := 12) (fun _ => X.iloadn rfl dX9_status_11) ?_
    refine Y.op (pc' := 13) (fun _ => X.ic ki_1 dX9_status_12) ?_
    refine Y.cmpne 23 (by decide) dX9_status_13 ?_ ?_
    · refine Y.op (pc' := 24) (fun _ => X.ic ki_m1 dX9_status_23) ?_
      exact Y.fg (y_X9_status_J24 (-1 : Int32) h) trivial
    · refine Y.op (pc' := 17) (fun _ => X.aloadn rfl dX9_status_16) ?_
      refine Y.getI fd_X9_76 rfl dX9_status_17 (fun v1 => ?_)
      refine Y.op (pc' := 24) (fun _ => X.goto 24 (by decide) dX9_status_20) ?_
      exact Y.fg (y_X9_status_J24 v1 h) trivial
  · refine Y.op (pc' := 5) (fun _ => X.aloadn rfl dX9_status_4) ?_
    refine Y.getI fd_X9_72 rfl dX9_status_5 (fun v2 => ?_)
    refine Y.op (pc' := 24) (fun _ => X.goto 24 (by decide) dX9_status_8) ?_
    exact Y.fg (y_X9_status_J24 v2 h) trivial
theorem m_X9_status {g : xG} (a0 : Nat) (p1 : Int32) (h : xH) (cl : Bool) (r : Int32 × xH) (e : f_X9_status a0 p1 h = some r) : XM g DX9_status [.ref a0, .int p1] h cl (iI r) := YM.of rfl rfl (Nat.le_of_ble_eq_true rfl) (y_X9_status a0 p1 h) e
def f_X10_thrown (a0 : Nat) (h : xH) : Option (Int32 × xH) :=
  (gI h 10 a0 0).bind fun v1 =>
  some (v1, h)
theorem y_X10_thrown {g : xG} {h0 : xH} {cl : Bool} (a0 : Nat) (h : xH) : Y g DX10_thrown h0 cl iI (f_X10_thrown a0 h) 0 [some (.ref a0)] [] h := by
  unfold f_X10_thrown
  refine Y.op (pc' := 1) (fun _ => X.aloadn rfl dX10_thrown_0) ?_
  refine Y.getI fd_X10_82 rfl dX10_thrown_1 (fun v1 => ?_)
  exact Y.ireturn rfl dX10_thrown_4
theorem m_X10_thrown {g : xG} (a0 : Nat) (h : xH) (cl : Bool) (r : Int32 × xH) (e : f_X10_thrown a0 h = some r) : XM g DX10_thrown [.ref a0] h cl (iI r) := YM.of rfl rfl (Nat.le_of_ble_eq_true rfl) (y_X10_thrown a0 h) e
def f_X10_bad_J38 (s0 : Int32) (h : xH) : Option (Int32 × xH) :=
  if s0 = 0 ∨ s0 = 1 then some (s0, h) else none
theorem y_X10_bad_J38 {g : xG} {h0 : xH} {cl : Bool} (s0 : Int32) (h : xH) : Y g DX10_bad h0 cl iI (f_X10_bad_J38 s0 h) 38 [none, none, none, none] [.int s0] h := by
  unfold f_X10_bad_J38
  exact Y.zreturn rfl dX10_bad_38
def f_X10_bad_J26 (x0 : Nat) (h : xH) : Option (Int32 × xH) :=
  (gI h 10 x0 0).bind fun v1 =>
  if v1 = (0 : Int32) then
    f_X10_bad_J38 (0 : Int32) h
  else
    f_X10_bad_J38 (1 : Int32) h
theorem y_X10_bad_J26 {g : xG} {h0 : xH} {cl : Bool} (x0 : Nat) (h : xH) : Y g DX10_bad h0 cl iI (f_X10_bad_J26 x0 h) 26 [some (.ref x0), none, none, none] [] h := by
  unfold f_X10_bad_J26
  refine Y.op (pc' := 27) (fun _ => X.aloadn rfl dX10_bad_26) ?_
  refine Y.getI fd_X10_82 rfl dX10_bad_27 (fun v1 => ?_)
  refine Y.ifeq 37 (by decide) dX10_bad_30 ?_ ?_
  · refine Y.op (pc' := 38) (fun _ => X.ic ki_0 dX10_bad_37) ?_
    exact Y.fg (y_X10_bad_J38 (0 : Int32) h) trivial
  · refine Y.op (pc' := 34) (fun _ => X.ic ki_1 dX10_bad_33) ?_
    refine Y.op (pc' := 38) (fun _ => X.goto 38 (by decide) dX10_bad_34) ?_
    exact Y.fg (y_X10_bad_J38 (1 : Int32) h) trivial
def f_X10_bad (a0 : Nat) (p1 : Int32) (p2 : Int32) (p3 : Int32) (h : xH) : Option (Int32 × xH) :=
  if p1 = (0 : Int32) then
    f_X10_bad_J26 a0 h
  else
    (gI h 10 a0 0).bind fun v1 =>
    if v1 = (0 : Int32) then
      (pI h 10 a0 0 p2).bind fun h2 =>
      (gR h2 10 a0 1).bind fun v3 =>
      (aI h2 v3 p3).bind fun v4 =>
      (sI h2 v3 p3 (v4 + (1 : Int32))).bind fun h5 =>
      f_X10_bad_J26 a0 h5
    else
      f_X10_bad_J26 a0 h
theorem y_X10_bad {g : xG} {h0 : xH} {cl : Bool} (a0 : Nat) (p1 : Int32) (p2 : Int32) (p3 : Int32) (h : xH) : Y g DX10_bad h0 cl iI (f_X10_bad a0 p1 p2 p3 h) 0 [some (.ref a0), some (.int p1), some (.int p2), some (.int p3)] [] h := by
  unfold f_X10_bad
  refine Y.op (pc' := 1) (fun _ => X.iloadn rfl dX10_bad_0) ?_
  refine Y.ifeq 26 (by decide) dX10_bad_1 ?_ ?_
  · exact Y.fg (y_X10_bad_J26 a0 h) (And.intro rfl trivial)
  · refine Y.op (pc' := 5) (fun _ => X.aloadn rfl dX10_bad_4) ?_
    refine Y.getI fd_X10_82 rfl dX10_bad_5 (fun v1 => ?_)
    refine Y.ifne 26 (by decide) dX10_bad_8 ?_ ?_
    · exact Y.fg (y_X10_bad_J26 a0 h) (And.intro rfl trivial)
    · refine Y.op (pc' := 12) (fun _ => X.aloadn rfl dX10_bad_11) ?_
      refine Y.op (pc' := 13) (fun _ => X.iloadn rfl dX10_bad_12) ?_
      refine Y.putI fd_X10_82 rfl dX10_bad_13 (fun h2 => ?_)
      refine Y.op (pc' := 17) (fun _ => X.aloadn rfl dX10_bad_16) ?_
      refine Y.getR fd_X10_9 rfl dX10_bad_17 (fun v3 => ?_)
      refine Y.op (pc' := 21) (fun _ => X.iloadn rfl dX10_bad_20) ?_
      refine Y.op (pc' := 22) (fun _ => X.dup2 rfl rfl dX10_bad_21) ?_
      refine Y.aldI dX10_bad_22 (fun v4 => ?_)
      refine Y.op (pc' := 24) (fun _ => X.ic ki_1 dX10_bad_23) ?_
      refine Y.op (pc' := 25) (fun _ => X.iadd dX10_bad_24) ?_
      refine Y.astI dX10_bad_25 (fun h5 => ?_)
      exact Y.fg (y_X10_bad_J26 a0 h5) (And.intro rfl trivial)
theorem m_X10_bad {g : xG} (a0 : Nat) (p1 : Int32) (p2 : Int32) (p3 : Int32) (h : xH) (cl : Bool) (r : Int32 × xH) (e : f_X10_bad a0 p1 p2 p3 h = some r) : XM g DX10_bad [.ref a0, .int p1, .int p2, .int p3] h cl (iI r) := YM.of rfl rfl (Nat.le_of_ble_eq_true rfl) (y_X10_bad a0 p1 p2 p3 h) e
def f_X10_in_J15 (s0 : Int32) (h : xH) : Option (Int32 × xH) :=
  if s0 = 0 ∨ s0 = 1 then some (s0, h) else none
theorem y_X10_in_J15 {g : xG} {h0 : xH} {cl : Bool} (s0 : Int32) (h : xH) : Y g DX10_in h0 cl iI (f_X10_in_J15 s0 h) 15 [none, none, none] [.int s0] h := by
  unfold f_X10_in_J15
  exact Y.zreturn rfl dX10_in_15
def f_X10_in_J14 (h : xH) : Option (Int32 × xH) :=
  f_X10_in_J15 (0 : Int32) h
theorem y_X10_in_J14 {g : xG} {h0 : xH} {cl : Bool} (h : xH) : Y g DX10_in h0 cl iI (f_X10_in_J14 h) 14 [none, none, none] [] h := by
  unfold f_X10_in_J14
  refine Y.op (pc' := 15) (fun _ => X.ic ki_0 dX10_in_14) ?_
  exact y_X10_in_J15 (0 : Int32) h
def f_X10_in (p1 : Int32) (p2 : Int32) (p3 : Int32) (h : xH) : Option (Int32 × xH) :=
  if p1 < p2 then
    f_X10_in_J14 h
  else
    if p1 > p3 then
      f_X10_in_J14 h
    else
      f_X10_in_J15 (1 : Int32) h
theorem y_X10_in {g : xG} {h0 : xH} {cl : Bool} (p1 : Int32) (p2 : Int32) (p3 : Int32) (h : xH) : Y g DX10_in h0 cl iI (f_X10_in p1 p2 p3 h) 0 [some (.int p1), some (.int p2), some (.int p3)] [] h := by
  unfold f_X10_in
  refine Y.op (pc' := 1) (fun _ => X.iloadn rfl dX10_in_0) ?_
  refine Y.op (pc' := 2) (fun _ => X.iloadn rfl dX10_in_1) ?_
  refine Y.cmplt 14 (by decide) dX10_in_2 ?_ ?_
  · exact Y.fg (y_X10_in_J14 h) trivial
  · refine Y.op (pc' := 6) (fun _ => X.iloadn rfl dX10_in_5) ?_
    refine Y.op (pc' := 7) (fun _ => X.iloadn rfl dX10_in_6) ?_
    refine Y.cmpgt 14 (by decide) dX10_in_7 ?_ ?_
    · exact Y.fg (y_X10_in_J14 h) trivial
    · refine Y.op (pc' := 11) (fun _ => X.ic ki_1 dX10_in_10) ?_
      refine Y.op (pc' := 15) (fun _ => X.goto 15 (by decide) dX10_in_11) ?_
      exact Y.fg (y_X10_in_J15 (1 : Int32) h) trivial
theorem m_X10_in {g : xG} (p1 : Int32) (p2 : Int32) (p3 : Int32) (h : xH) (cl : Bool) (r : Int32 × xH) (e : f_X10_in p1 p2 p3 h = some r) : XM g DX10_in [.int p1, .int p2, .int p3] h cl (iI r) := YM.of rfl rfl (Nat.le_of_ble_eq_true rfl) (y_X10_in p1 p2 p3 h) e
def f_X10_less_J10 (s0 : Int32) (h : xH) : Option (Int32 × xH) :=
  some (s0, h)
theorem y_X10_less_J10 {g : xG} {h0 : xH} {cl : Bool} (s0 : Int32) (h : xH) : Y g DX10_less h0 cl iI (f_X10_less_J10 s0 h) 10 [none, none] [.int s0] h := by
  unfold f_X10_less_J10
  exact Y.ireturn rfl dX10_less_10
def f_X10_less (p1 : Int32) (p2 : Int32) (h : xH) : Option (Int32 × xH) :=
  if p1 ≥ p2 then
    f_X10_less_J10 p2 h
  else
    f_X10_less_J10 p1 h
theorem y_X10_less {g : xG} {h0 : xH} {cl : Bool} (p1 : Int32) (p2 : Int32) (h : xH) : Y g DX10_less h0 cl iI (f_X10_less p1 p2 h) 0 [some (.int p1), some (.int p2)] [] h := by
  unfold f_X10_less
  refine Y.op (pc' := 1) (fun _ => X.iloadn rfl dX10_less_0) ?_
  refine Y.op (pc' := 2) (fun _ => X.iloadn rfl dX10_less_1) ?_
  refine Y.cmpge 9 (by decide) dX10_less_2 ?_ ?_
  · refine Y.op (pc' := 10) (fun _ => X.iloadn rfl dX10_less_9) ?_
    exact Y.fg (y_X10_less_J10 p2 h) trivial
  · refine Y.op (pc' := 6) (fun _ => X.iloadn rfl dX10_less_5) ?_
    refine Y.op (pc' := 10) (fun _ => X.goto 10 (by decide) dX10_less_6) ?_
    exact Y.fg (y_X10_less_J10 p1 h) trivial
theorem m_X10_less {g : xG} (p1 : Int32) (p2 : Int32) (h : xH) (cl : Bool) (r : Int32 × xH) (e : f_X10_less p1 p2 h = some r) : XM g DX10_less [.int p1, .int p2] h cl (iI r) := YM.of rfl rfl (Nat.le_of_ble_eq_true rfl) (y_X10_less p1 p2 h) e
def f_X10_more_J10 (s0 : Int32) (h : xH) : Option (Int32 × xH) :=
  some (s0, h)
theorem y_X10_more_J10 {g : xG} {h0 : xH} {cl : Bool} (s0 : Int32) (h : xH) : Y g DX10_more h0 cl iI (f_X10_more_J10 s0 h) 10 [none, none] [.int s0] h := by
  unfold f_X10_more_J10
  exact Y.ireturn rfl dX10_more_10
def f_X10_more (p1 : Int32) (p2 : Int32) (h : xH) : Option (Int32 × xH) :=
  if p1 ≤ p2 then
    f_X10_more_J10 p2 h
  else
    f_X10_more_J10 p1 h
theorem y_X10_more {g : xG} {h0 : xH} {cl : Bool} (p1 : Int32) (p2 : Int32) (h : xH) : Y g DX10_more h0 cl iI (f_X10_more p1 p2 h) 0 [some (.int p1), some (.int p2)] [] h := by
  unfold f_X10_more
  refine Y.op (pc' := 1) (fun _ => X.iloadn rfl dX10_more_0) ?_
  refine Y.op (pc' := 2) (fun _ => X.iloadn rfl dX10_more_1) ?_
  refine Y.cmple 9 (by decide) dX10_more_2 ?_ ?_
  · refine Y.op (pc' := 10) (fun _ => X.iloadn rfl dX10_more_9) ?_
    exact Y.fg (y_X10_more_J10 p2 h) trivial
  · refine Y.op (pc' := 6) (fun _ => X.iloadn rfl dX10_more_5) ?_
    refine Y.op (pc' := 10) (fun _ => X.goto 10 (by decide) dX10_more_6) ?_
    exact Y.fg (y_X10_more_J10 p1 h) trivial
theorem m_X10_more {g : xG} (p1 : Int32) (p2 : Int32) (h : xH) (cl : Bool) (r : Int32 × xH) (e : f_X10_more p1 p2 h = some r) : XM g DX10_more [.int p1, .int p2] h cl (iI r) := YM.of rfl rfl (Nat.le_of_ble_eq_true rfl) (y_X10_more p1 p2 h) e
def f_X10_has_J14 (s0 : Int32) (h : xH) : Option (Int32 × xH) :=
  if s0 = 0 ∨ s0 = 1 then some (s0, h) else none
theorem y_X10_has_J14 {g : xG} {h0 : xH} {cl : Bool} (s0 : Int32) (h : xH) : Y g DX10_has h0 cl iI (f_X10_has_J14 s0 h) 14 [none, none] [.int s0] h := by
  unfold f_X10_has_J14
  exact Y.zreturn rfl dX10_has_14
def f_X10_has (p1 : Int32) (p2 : Int32) (h : xH) : Option (Int32 × xH) :=
  if ((p1 >>> (p2 &&& 31)) &&& (1 : Int32)) = (1 : Int32) then
    f_X10_has_J14 (1 : Int32) h
  else
    f_X10_has_J14 (0 : Int32) h
theorem y_X10_has {g : xG} {h0 : xH} {cl : Bool} (p1 : Int32) (p2 : Int32) (h : xH) : Y g DX10_has h0 cl iI (f_X10_has p1 p2 h) 0 [some (.int p1), some (.int p2)] [] h := by
  unfold f_X10_has
  refine Y.op (pc' := 1) (fun _ => X.iloadn rfl dX10_has_0) ?_
  refine Y.op (pc' := 2) (fun _ => X.iloadn rfl dX10_has_1) ?_
  refine Y.op (pc' := 3) (fun _ => X.ishr dX10_has_2) ?_
  refine Y.op (pc' := 4) (fun _ => X.ic ki_1 dX10_has_3) ?_
  refine Y.op (pc' := 5) (fun _ => X.iand dX10_has_4) ?_
  refine Y.op (pc' := 6) (fun _ => X.ic ki_1 dX10_has_5) ?_
  refine Y.cmpne 13 (by decide) dX10_has_6 ?_ ?_
  · refine Y.op (pc' := 14) (fun _ => X.ic ki_0 dX10_has_13) ?_
    exact Y.fg (y_X10_has_J14 (0 : Int32) h) trivial
  · refine Y.op (pc' := 10) (fun _ => X.ic ki_1 dX10_has_9) ?_
    refine Y.op (pc' := 14) (fun _ => X.goto 14 (by decide) dX10_has_10) ?_
    exact Y.fg (y_X10_has_J14 (1 : Int32) h) trivial
theorem m_X10_has {g : xG} (p1 : Int32) (p2 : Int32) (h : xH) (cl : Bool) (r : Int32 × xH) (e : f_X10_has p1 p2 h = some r) : XM g DX10_has [.int p1, .int p2] h cl (iI r) := YM.of rfl rfl (Nat.le_of_ble_eq_true rfl) (y_X10_has p1 p2 h) e
def f_X10_ones_J20 (x1 : Int32) (h : xH) : Option (Int32 × xH) :=
  some (x1, h)
theorem y_X10_ones_J20 {g : xG} {h0 : xH} {cl : Bool} (x1 : Int32) (h : xH) : Y g DX10_ones h0 cl iI (f_X10_ones_J20 x1 h) 20 [none, some (.int x1), none] [] h := by
  unfold f_X10_ones_J20
  refine Y.op (pc' := 21) (fun _ => X.iloadn rfl dX10_ones_20) ?_
  exact Y.ireturn rfl dX10_ones_21
def f_X10_ones_L4 (kE20 : Int32 → xH → Option (Int32 × xH)) : Nat → Int32 → Int32 → xH → Option (Int32 × xH)
  | 0 => fun _ _ _ => none
  | n + 1 => fun x1 x2 h =>
    if x2 = (0 : Int32) then
      kE20 x1 h
    else
      lt (x1 + (1 : Int32)) fun v1 =>
      lt ((x2 &&& (x2 - (1 : Int32)))) fun v2 =>
      f_X10_ones_L4 kE20 n v1 v2 h
theorem y_X10_ones_L4 {g : xG} {h0 : xH} {cl : Bool} {kE20 : Int32 → xH → Option (Int32 × xH)} (hkE20 : ∀ (x1 : Int32) (h : xH), Y g DX10_ones h0 cl iI (kE20 x1 h) 20 [none, some (.int x1), none] [] h) : ∀ (n : Nat) (x1 : Int32) (x2 : Int32) (h : xH), Y g DX10_ones h0 cl iI (f_X10_ones_L4 kE20 n x1 x2 h) 4 [none, some (.int x1), some (.int x2)] [] h := by
  intro n
  induction n with
  | zero => intro x1 x2 h; exact Y.nothing
  | succ n ih =>
    intro x1 x2 h
    unfold f_X10_ones_L4
    refine Y.op (pc' := 5) (fun _ => X.iloadn rfl dX10_ones_4) ?_
    refine Y.ifeq 20 (by decide) dX10_ones_5 ?_ ?_
    · exact Y.fg (hkE20 x1 h) (And.intro rfl trivial)
    · refine Y.iinc (i := 1) (loc' := fun v1 => [none, some (.int v1), some (.int x2)]) rfl (Nat.le_of_ble_eq_true rfl) ki_1 (fun _ => rfl) dX10_ones_8 (fun v1 => ?_)
      refine Y.op (pc' := 12) (fun _ => X.iloadn rfl dX10_ones_11) ?_
      refine Y.op (pc' := 13) (fun _ => X.iloadn rfl dX10_ones_12) ?_
      refine Y.op (pc' := 14) (fun _ => X.ic ki_1 dX10_ones_13) ?_
      refine Y.op (pc' := 15) (fun _ => X.isub dX10_ones_14) ?_
      refine Y.op (pc' := 16) (fun _ => X.iand dX10_ones_15) ?_
      refine Y.top (fun v2 => ?_)
      refine Y.op (pc' := 17) (loc' := [none, some (.int v1), some (.int v2)]) (fun _ => X.istoren (Nat.le_of_ble_eq_true rfl) rfl dX10_ones_16) ?_
      refine Y.op (pc' := 4) (fun _ => X.goto 4 (by decide) dX10_ones_17) ?_
      exact ih v1 v2 h
def f_X10_ones (p1 : Int32) (h : xH) : Option (Int32 × xH) :=
  f_X10_ones_L4 (f_X10_ones_J20) 5000 (0 : Int32) p1 h
theorem y_X10_ones {g : xG} {h0 : xH} {cl : Bool} (p1 : Int32) (h : xH) : Y g DX10_ones h0 cl iI (f_X10_ones p1 h) 0 [some (.int p1), none, none] [] h := by
  unfold f_X10_ones
  refine Y.op (pc' := 1) (fun _ => X.ic ki_0 dX10_ones_0) ?_
  refine Y.op (pc' := 2) (loc' := [some (.int p1), some (.int (0 : Int32)), none]) (fun _ => X.istoren (Nat.le_of_ble_eq_true rfl) rfl dX10_ones_1) ?_
  refine Y.op (pc' := 3) (fun _ => X.iloadn rfl dX10_ones_2) ?_
  refine Y.op (pc' := 4) (loc' := [some (.int p1), some (.int (0 : Int32)), some (.int p1)]) (fun _ => X.istoren (Nat.le_of_ble_eq_true rfl) rfl dX10_ones_3) ?_
  exact Y.fg (y_X10_ones_L4 (y_X10_ones_J20) 5000 (0 : Int32) p1 h) (And.intro rfl (And.intro rfl trivial))
theorem m_X10_ones {g : xG} (p1 : Int32) (h : xH) (cl : Bool) (r : Int32 × xH) (e : f_X10_ones p1 h = some r) : XM g DX10_ones [.int p1] h cl (iI r) := YM.of rfl rfl (Nat.le_of_ble_eq_true rfl) (y_X10_ones p1 h) e
def f_X10_begins_J128 (h : xH) : Option (xH) :=
  some h
theorem y_X10_begins_J128 {g : xG} {h0 : xH} {cl : Bool} (h : xH) : Y g DX10_begins h0 cl iV (f_X10_begins_J128 h) 128 [none, none, none, none, none, none] [] h := by
  unfold f_X10_begins_J128
  exact Y.vreturn rfl dX10_begins_128
def f_X10_begins_J122 (kH : Nat → Int32 → Int32 → xH → Option (xH)) (kE128 : xH → Option (xH)) (x0 : Nat) (x1 : Int32) (x4 : Int32) (h : xH) : Option (xH) :=
  lt (x4 + (1 : Int32)) fun v1 =>
  kH x0 x1 v1 h
theorem y_X10_begins_J122 {g : xG} {h0 : xH} {cl : Bool} {kH : Nat → Int32 → Int32 → xH → Option (xH)} {kE128 : xH → Option (xH)} (hkH : ∀ (x0 : Nat) (x1 : Int32) (x4 : Int32) (h : xH), Y g DX10_begins h0 cl iV (kH x0 x1 x4 h) 56 [some (.ref x0), some (.int x1), none, none, some (.int x4), none] [] h) (hkE128 : ∀  (h : xH), Y g DX10_begins h0 cl iV (kE128  h) 128 [none, none, none, none, none, none] [] h) (x0 : Nat) (x1 : Int32) (x4 : Int32) (h : xH) : Y g DX10_begins h0 cl iV (f_X10_begins_J122 kH kE128 x0 x1 x4 h) 122 [some (.ref x0), some (.int x1), none, none, some (.int x4), none] [] h := by
  unfold f_X10_begins_J122
  refine Y.iinc (i := 4) (loc' := fun v1 => [some (.ref x0), some (.int x1), none, none, some (.int v1), none]) rfl (Nat.le_of_ble_eq_true rfl) ki_1 (fun _ => rfl) dX10_begins_122 (fun v1 => ?_)
  refine Y.op (pc' := 56) (fun _ => X.goto 56 (by decide) dX10_begins_125) ?_
  exact hkH x0 x1 v1 h
def f_X10_begins_L96 (kE122 : Nat → Int32 → Int32 → xH → Option (xH)) : Nat → Nat → Int32 → Int32 → Int32 → xH → Option (xH)
  | 0 => fun _ _ _ _ _ => none
  | n + 1 => fun x0 x1 x4 x5 h =>
    if x5 ≥ (12 : Int32) then
      kE122 x0 x1 x4 h
    else
      (gR h 10 x0 13).bind fun v1 =>
      (aR 103 h v1 x1).bind fun v2 =>
      (aR 102 h v2 x4).bind fun v3 =>
      (sI h v3 x5 (0 : Int32)).bind fun h4 =>
      lt (x5 + (1 : Int32)) fun v5 =>
      f_X10_begins_L96 kE122 n x0 x1 x4 v5 h4
theorem y_X10_begins_L96 {g : xG} {h0 : xH} {cl : Bool} {kE122 : Nat → Int32 → Int32 → xH → Option (xH)} (hkE122 : ∀ (x0 : Nat) (x1 : Int32) (x4 : Int32) (h : xH), Y g DX10_begins h0 cl iV (kE122 x0 x1 x4 h) 122 [some (.ref x0), some (.int x1), none, none, some (.int x4), none] [] h) : ∀ (n : Nat) (x0 : Nat) (x1 : Int32) (x4 : Int32) (x5 : Int32) (h : xH), Y g DX10_begins h0 cl iV (f_X10_begins_L96 kE122 n x0 x1 x4 x5 h) 96 [some (.ref x0), some (.int x1), none, none, some (.int x4), some (.int x5)] [] h := by
  intro n
  induction n with
  | zero => intro x0 x1 x4 x5 h; exact Y.nothing
  | succ n ih =>
    intro x0 x1 x4 x5 h
    unfold f_X10_begins_L96
    refine Y.op (pc' := 98) (fun _ => X.iload rfl dX10_begins_96) ?_
    refine Y.op (pc' := 100) (fun _ => X.bp kb_12 dX10_begins_98) ?_
    refine Y.cmpge 122 (by decide) dX10_begins_100 ?_ ?_
    · exact Y.fg (hkE122 x0 x1 x4 h) (And.intro rfl (And.intro rfl (And.intro rfl trivial)))
    · refine Y.op (pc' := 104) (fun _ => X.aloadn rfl dX10_begins_103) ?_
      refine Y.getR fd_X10_36 rfl dX10_begins_104 (fun v1 => ?_)
      refine Y.op (pc' := 108) (fun _ => X.iloadn rfl dX10_begins_107) ?_
      refine Y.aldR 103 (by decide) (by decide) dX10_begins_108 (fun v2 => ?_)
      refine Y.op (pc' := 111) (fun _ => X.iload rfl dX10_begins_109) ?_
      refine Y.aldR 102 (by decide) (by decide) dX10_begins_111 (fun v3 => ?_)
      refine Y.op (pc' := 114) (fun _ => X.iload rfl dX10_begins_112) ?_
      refine Y.op (pc' := 115) (fun _ => X.ic ki_0 dX10_begins_114) ?_
      refine Y.astI dX10_begins_115 (fun h4 => ?_)
      refine Y.iinc (i := 5) (loc' := fun v5 => [some (.ref x0), some (.int x1), none, none, some (.int x4), some (.int v5)]) rfl (Nat.le_of_ble_eq_true rfl) ki_1 (fun _ => rfl) dX10_begins_116 (fun v5 => ?_)
      refine Y.op (pc' := 96) (fun _ => X.goto 96 (by decide) dX10_begins_119) ?_
      exact ih x0 x1 x4 v5 h4
def f_X10_begins_L56 (kE128 : xH → Option (xH)) : Nat → Nat → Int32 → Int32 → xH → Option (xH)
  | 0 => fun _ _ _ _ => none
  | n + 1 => fun x0 x1 x4 h =>
    if x4 ≥ (12 : Int32) then
      kE128 h
    else
      (gR h 10 x0 10).bind fun v1 =>
      (aR 102 h v1 x1).bind fun v2 =>
      (sI h v2 x4 (0 : Int32)).bind fun h3 =>
      (gR h3 10 x0 11).bind fun v4 =>
      (aR 102 h3 v4 x1).bind fun v5 =>
      (sI h3 v5 x4 (-1 : Int32)).bind fun h6 =>
      (gR h6 10 x0 12).bind fun v7 =>
      (aR 102 h6 v7 x1).bind fun v8 =>
      (sI h6 v8 x4 (1 : Int32)).bind fun h9 =>
      f_X10_begins_L96 (f_X10_begins_J122 (f_X10_begins_L56 kE128 n) kE128) 5000 x0 x1 x4 (0 : Int32) h9
theorem y_X10_begins_L56 {g : xG} {h0 : xH} {cl : Bool} {kE128 : xH → Option (xH)} (hkE128 : ∀  (h : xH), Y g DX10_begins h0 cl iV (kE128  h) 128 [none, none, none, none, none, none] [] h) : ∀ (n : Nat) (x0 : Nat) (x1 : Int32) (x4 : Int32) (h : xH), Y g DX10_begins h0 cl iV (f_X10_begins_L56 kE128 n x0 x1 x4 h) 56 [some (.ref x0), some (.int x1), none, none, some (.int x4), none] [] h := by
  intro n
  induction n with
  | zero => intro x0 x1 x4 h; exact Y.nothing
  | succ n ih =>
    intro x0 x1 x4 h
    unfold f_X10_begins_L56
    refine Y.op (pc' := 58) (fun _ => X.iload rfl dX10_begins_56) ?_
    refine Y.op (pc' := 60) (fun _ => X.bp kb_12 dX10_begins_58) ?_
    refine Y.cmpge 128 (by decide) dX10_begins_60 ?_ ?_
    · exact Y.fg (hkE128 h) trivial
    · refine Y.op (pc' := 64) (fun _ => X.aloadn rfl dX10_begins_63) ?_
      refine Y.getR fd_X10_25 rfl dX10_begins_64 (fun v1 => ?_)
      refine Y.op (pc' := 68) (fun _ => X.iloadn rfl dX10_begins_67) ?_
      refine Y.aldR 102 (by decide) (by decide) dX10_begins_68 (fun v2 => ?_)
      refine Y.op (pc' := 71) (fun _ => X.iload rfl dX10_begins_69) ?_
      refine Y.op (pc' := 72) (fun _ => X.ic ki_0 dX10_begins_71) ?_
      refine Y.astI dX10_begins_72 (fun h3 => ?_)
      refine Y.op (pc' := 74) (fun _ => X.aloadn rfl dX10_begins_73) ?_
      refine Y.getR fd_X10_28 rfl dX10_begins_74 (fun v4 => ?_)
      refine Y.op (pc' := 78) (fun _ => X.iloadn rfl dX10_begins_77) ?_
      refine Y.aldR 102 (by decide) (by decide) dX10_begins_78 (fun v5 => ?_)
      refine Y.op (pc' := 81) (fun _ => X.iload rfl dX10_begins_79) ?_
      refine Y.op (pc' := 82) (fun _ => X.ic ki_m1 dX10_begins_81) ?_
      refine Y.astI dX10_begins_82 (fun h6 => ?_)
      refine Y.op (pc' := 84) (fun _ => X.aloadn rfl dX10_begins_83) ?_
      refine Y.getR fd_X10_31 rfl dX10_begins_84 (fun v7 => ?_)
      refine Y.op (pc' := 88) (fun _ => X.iloadn rfl dX10_begins_87) ?_
      refine Y.aldR 102 (by decide) (by decide) dX10_begins_88 (fun v8 => ?_)
      refine Y.op (pc' := 91) (fun _ => X.iload rfl dX10_begins_89) ?_
      refine Y.op (pc' := 92) (fun _ => X.ic ki_1 dX10_begins_91) ?_
      refine Y.astI dX10_begins_92 (fun h9 => ?_)
      refine Y.op (pc' := 94) (fun _ => X.ic ki_0 dX10_begins_93) ?_
      refine Y.op (pc' := 96) (loc' := [some (.ref x0), some (.int x1), none, none, some (.int x4), some (.int (0 : Int32))]) (fun _ => X.istore (Nat.le_of_ble_eq_true rfl) rfl dX10_begins_94) ?_
      exact y_X10_begins_L96 (y_X10_begins_J122 ih hkE128) 5000 x0 x1 x4 (0 : Int32) h9
def f_X10_begins (a0 : Nat) (p1 : Int32) (p2 : Int32) (p3 : Int32) (h : xH) : Option (xH) :=
  (gR h 10 a0 9).bind fun v1 =>
  (aR 102 h v1 p1).bind fun v2 =>
  (sI h v2 (0 : Int32) p2).bind fun h3 =>
  (gR h3 10 a0 9).bind fun v4 =>
  (aR 102 h3 v4 p1).bind fun v5 =>
  (sI h3 v5 (1 : Int32) p3).bind fun h6 =>
  (gR h6 10 a0 9).bind fun v7 =>
  (aR 102 h6 v7 p1).bind fun v8 =>
  (sI h6 v8 (2 : Int32) (1 : Int32)).bind fun h9 =>
  (gR h9 10 a0 9).bind fun v10 =>
  (aR 102 h9 v10 p1).bind fun v11 =>
  (sI h9 v11 (3 : Int32) (((1 : Int32) <<< (p2 &&& 31)) - (1 : Int32))).bind fun h12 =>
  (gR h12 10 a0 9).bind fun v13 =>
  (aR 102 h12 v13 p1).bind fun v14 =>
  (sI h12 v14 (4 : Int32) (((1 : Int32) <<< (p3 &&& 31)) - (1 : Int32))).bind fun h15 =>
  f_X10_begins_L56 (f_X10_begins_J128) 5000 a0 p1 (0 : Int32) h15
theorem y_X10_begins {g : xG} {h0 : xH} {cl : Bool} (a0 : Nat) (p1 : Int32) (p2 : Int32) (p3 : Int32) (h : xH) : Y g DX10_begins h0 cl iV (f_X10_begins a0 p1 p2 p3 h) 0 [some (.ref a0), some (.int p1), some (.int p2), some (.int p3), none, none] [] h := by
  unfold f_X10_begins
  refine Y.op (pc' := 1) (fun _ => X.aloadn rfl dX10_begins_0) ?_
  refine Y.getR fd_X10_22 rfl dX10_begins_1 (fun v1 => ?_)
  refine Y.op (pc' := 5) (fun _ => X.iloadn rfl dX10_begins_4) ?_
  refine Y.aldR 102 (by decide) (by decide) dX10_begins_5 (fun v2 => ?_)
  refine Y.op (pc' := 7) (fun _ => X.ic ki_0 dX10_begins_6) ?_
  refine Y.op (pc' := 8) (fun _ => X.iloadn rfl dX10_begins_7) ?_
  refine Y.astI dX10_begins_8 (fun h3 => ?_)
  refine Y.op (pc' := 10) (fun _ => X.aloadn rfl dX10_begins_9) ?_
  refine Y.getR fd_X10_22 rfl dX10_begins_10 (fun v4 => ?_)
  refine Y.op (pc' := 14) (fun _ => X.iloadn rfl dX10_begins_13) ?_
  refine Y.aldR 102 (by decide) (by decide) dX10_begins_14 (fun v5 => ?_)
  refine Y.op (pc' := 16) (fun _ => X.ic ki_1 dX10_begins_15) ?_
  refine Y.op (pc' := 17) (fun _ => X.iloadn rfl dX10_begins_16) ?_
  refine Y.astI dX10_begins_17 (fun h6 => ?_)
  refine Y.op (pc' := 19) (fun _ => X.aloadn rfl dX10_begins_18) ?_
  refine Y.getR fd_X10_22 rfl dX10_begins_19 (fun v7 => ?_)
  refine Y.op (pc' := 23) (fun _ => X.iloadn rfl dX10_begins_22) ?_
  refine Y.aldR 102 (by decide) (by decide) dX10_begins_23 (fun v8 => ?_)
  refine Y.op (pc' := 25) (fun _ => X.ic ki_2 dX10_begins_24) ?_
  refine Y.op (pc' := 26) (fun _ => X.ic ki_1 dX10_begins_25) ?_
  refine Y.astI dX10_begins_26 (fun h9 => ?_)
  refine Y.op (pc' := 28) (fun _ => X.aloadn rfl dX10_begins_27) ?_
  refine Y.getR fd_X10_22 rfl dX10_begins_28 (fun v10 => ?_)
  refine Y.op (pc' := 32) (fun _ => X.iloadn rfl dX10_begins_31) ?_
  refine Y.aldR 102 (by decide) (by decide) dX10_begins_32 (fun v11 => ?_)
  refine Y.op (pc' := 34) (fun _ => X.ic ki_3 dX10_begins_33) ?_
  refine Y.op (pc' := 35) (fun _ => X.ic ki_1 dX10_begins_34) ?_
  refine Y.op (pc' := 36) (fun _ => X.iloadn rfl dX10_begins_35) ?_
  refine Y.op (pc' := 37) (fun _ => X.ishl dX10_begins_36) ?_
  refine Y.op (pc' := 38) (fun _ => X.ic ki_1 dX10_begins_37) ?_
  refine Y.op (pc' := 39) (fun _ => X.isub dX10_begins_38) ?_
  refine Y.astI dX10_begins_39 (fun h12 => ?_)
  refine Y.op (pc' := 41) (fun _ => X.aloadn rfl dX10_begins_40) ?_
  refine Y.getR fd_X10_22 rfl dX10_begins_41 (fun v13 => ?_)
  refine Y.op (pc' := 45) (fun _ => X.iloadn rfl dX10_begins_44) ?_
  refine Y.aldR 102 (by decide) (by decide) dX10_begins_45 (fun v14 => ?_)
  refine Y.op (pc' := 47) (fun _ => X.ic ki_4 dX10_begins_46) ?_
  refine Y.op (pc' := 48) (fun _ => X.ic ki_1 dX10_begins_47) ?_
  refine Y.op (pc' := 49) (fun _ => X.iloadn rfl dX10_begins_48) ?_
  refine Y.op (pc' := 50) (fun _ => X.ishl dX10_begins_49) ?_
  refine Y.op (pc' := 51) (fun _ => X.ic ki_1 dX10_begins_50) ?_
  refine Y.op (pc' := 52) (fun _ => X.isub dX10_begins_51) ?_
  refine Y.astI dX10_begins_52 (fun h15 => ?_)
  refine Y.op (pc' := 54) (fun _ => X.ic ki_0 dX10_begins_53) ?_
  refine Y.op (pc' := 56) (loc' := [some (.ref a0), some (.int p1), some (.int p2), some (.int p3), some (.int (0 : Int32)), none]) (fun _ => X.istore (Nat.le_of_ble_eq_true rfl) rfl dX10_begins_54) ?_
  exact Y.fg (y_X10_begins_L56 (y_X10_begins_J128) 5000 a0 p1 (0 : Int32) h15) (And.intro rfl (And.intro rfl (And.intro rfl trivial)))
theorem m_X10_begins {g : xG} (a0 : Nat) (p1 : Int32) (p2 : Int32) (p3 : Int32) (h : xH) (cl : Bool) (r : xH) (e : f_X10_begins a0 p1 p2 p3 h = some r) : XM g DX10_begins [.ref a0, .int p1, .int p2, .int p3] h cl (iV r) := YM.of rfl rfl (Nat.le_of_ble_eq_true rfl) (y_X10_begins a0 p1 p2 p3 h) e
def f_X10_copies_J129 (h : xH) : Option (xH) :=
  some h
theorem y_X10_copies_J129 {g : xG} {h0 : xH} {cl : Bool} (h : xH) : Y g DX10_copies h0 cl iV (f_X10_copies_J129 h) 129 [none, none, none, none, none] [] h := by
  unfold f_X10_copies_J129
  exact Y.vreturn rfl dX10_copies_129
def f_X10_copies_J123 (kH : Nat → Int32 → Int32 → Int32 → xH → Option (xH)) (kE129 : xH → Option (xH)) (x0 : Nat) (x1 : Int32) (x2 : Int32) (x3 : Int32) (h : xH) : Option (xH) :=
  lt (x3 + (1 : Int32)) fun v1 =>
  kH x0 x1 x2 v1 h
theorem y_X10_copies_J123 {g : xG} {h0 : xH} {cl : Bool} {kH : Nat → Int32 → Int32 → Int32 → xH → Option (xH)} {kE129 : xH → Option (xH)} (hkH : ∀ (x0 : Nat) (x1 : Int32) (x2 : Int32) (x3 : Int32) (h : xH), Y g DX10_copies h0 cl iV (kH x0 x1 x2 x3 h) 31 [some (.ref x0), some (.int x1), some (.int x2), some (.int x3), none] [] h) (hkE129 : ∀  (h : xH), Y g DX10_copies h0 cl iV (kE129  h) 129 [none, none, none, none, none] [] h) (x0 : Nat) (x1 : Int32) (x2 : Int32) (x3 : Int32) (h : xH) : Y g DX10_copies h0 cl iV (f_X10_copies_J123 kH kE129 x0 x1 x2 x3 h) 123 [some (.ref x0), some (.int x1), some (.int x2), some (.int x3), none] [] h := by
  unfold f_X10_copies_J123
  refine Y.iinc (i := 3) (loc' := fun v1 => [some (.ref x0), some (.int x1), some (.int x2), some (.int v1), none]) rfl (Nat.le_of_ble_eq_true rfl) ki_1 (fun _ => rfl) dX10_copies_123 (fun v1 => ?_)
  refine Y.op (pc' := 31) (fun _ => X.goto 31 (by decide) dX10_copies_126) ?_
  exact hkH x0 x1 x2 v1 h
def f_X10_copies_L88 (kE123 : Nat → Int32 → Int32 → Int32 → xH → Option (xH)) : Nat → Nat → Int32 → Int32 → Int32 → Int32 → xH → Option (xH)
  | 0 => fun _ _ _ _ _ _ => none
  | n + 1 => fun x0 x1 x2 x3 x4 h =>
    if x4 ≥ (12 : Int32) then
      kE123 x0 x1 x2 x3 h
    else
      (gR h 10 x0 13).bind fun v1 =>
      (aR 103 h v1 x2).bind fun v2 =>
      (aR 102 h v2 x3).bind fun v3 =>
      (gR h 10 x0 13).bind fun v4 =>
      (aR 103 h v4 x1).bind fun v5 =>
      (aR 102 h v5 x3).bind fun v6 =>
      (aI h v6 x4).bind fun v7 =>
      (sI h v3 x4 v7).bind fun h8 =>
      lt (x4 + (1 : Int32)) fun v9 =>
      f_X10_copies_L88 kE123 n x0 x1 x2 x3 v9 h8
theorem y_X10_copies_L88 {g : xG} {h0 : xH} {cl : Bool} {kE123 : Nat → Int32 → Int32 → Int32 → xH → Option (xH)} (hkE123 : ∀ (x0 : Nat) (x1 : Int32) (x2 : Int32) (x3 : Int32) (h : xH), Y g DX10_copies h0 cl iV (kE123 x0 x1 x2 x3 h) 123 [some (.ref x0), some (.int x1), some (.int x2), some (.int x3), none] [] h) : ∀ (n : Nat) (x0 : Nat) (x1 : Int32) (x2 : Int32) (x3 : Int32) (x4 : Int32) (h : xH), Y g DX10_copies h0 cl iV (f_X10_copies_L88 kE123 n x0 x1 x2 x3 x4 h) 88 [some (.ref x0), some (.int x1), some (.int x2), some (.int x3), some (.int x4)] [] h := by
  intro n
  induction n with
  | zero => intro x0 x1 x2 x3 x4 h; exact Y.nothing
  | succ n ih =>
    intro x0 x1 x2 x3 x4 h
    unfold f_X10_copies_L88
    refine Y.op (pc' := 90) (fun _ => X.iload rfl dX10_copies_88) ?_
    refine Y.op (pc' := 92) (fun _ => X.bp kb_12 dX10_copies_90) ?_
    refine Y.cmpge 123 (by decide) dX10_copies_92 ?_ ?_
    · exact Y.fg (hkE123 x0 x1 x2 x3 h) (And.intro rfl (And.intro rfl (And.intro rfl (And.intro rfl trivial))))
    · refine Y.op (pc' := 96) (fun _ => X.aloadn rfl dX10_copies_95) ?_
      refine Y.getR fd_X10_36 rfl dX10_copies_96 (fun v1 => ?_)
      refine Y.op (pc' := 100) (fun _ => X.iloadn rfl dX10_copies_99) ?_
      refine Y.aldR 103 (by decide) (by decide) dX10_copies_100 (fun v2 => ?_)
      refine Y.op (pc' := 102) (fun _ => X.iloadn rfl dX10_copies_101) ?_
      refine Y.aldR 102 (by decide) (by decide) dX10_copies_102 (fun v3 => ?_)
      refine Y.op (pc' := 105) (fun _ => X.iload rfl dX10_copies_103) ?_
      refine Y.op (pc' := 106) (fun _ => X.aloadn rfl dX10_copies_105) ?_
      refine Y.getR fd_X10_36 rfl dX10_copies_106 (fun v4 => ?_)
      refine Y.op (pc' := 110) (fun _ => X.iloadn rfl dX10_copies_109) ?_
      refine Y.aldR 103 (by decide) (by decide) dX10_copies_110 (fun v5 => ?_)
      refine Y.op (pc' := 112) (fun _ => X.iloadn rfl dX10_copies_111) ?_
      refine Y.aldR 102 (by decide) (by decide) dX10_copies_112 (fun v6 => ?_)
      refine Y.op (pc' := 115) (fun _ => X.iload rfl dX10_copies_113) ?_
      refine Y.aldI dX10_copies_115 (fun v7 => ?_)
      refine Y.astI dX10_copies_116 (fun h8 => ?_)
      refine Y.iinc (i := 4) (loc' := fun v9 => [some (.ref x0), some (.int x1), some (.int x2), some (.int x3), some (.int v9)]) rfl (Nat.le_of_ble_eq_true rfl) ki_1 (fun _ => rfl) dX10_copies_117 (fun v9 => ?_)
      refine Y.op (pc' := 88) (fun _ => X.goto 88 (by decide) dX10_copies_120) ?_
      exact ih x0 x1 x2 x3 v9 h8
def f_X10_copies_L31 (kE129 : xH → Option (xH)) : Nat → Nat → Int32 → Int32 → Int32 → xH → Option (xH)
  | 0 => fun _ _ _ _ _ => none
  | n + 1 => fun x0 x1 x2 x3 h =>
    if x3 ≥ (12 : Int32) then
      kE129 h
    else
      (gR h 10 x0 10).bind fun v1 =>
      (aR 102 h v1 x2).bind fun v2 =>
      (gR h 10 x0 10).bind fun v3 =>
      (aR 102 h v3 x1).bind fun v4 =>
      (aI h v4 x3).bind fun v5 =>
      (sI h v2 x3 v5).bind fun h6 =>
      (gR h6 10 x0 11).bind fun v7 =>
      (aR 102 h6 v7 x2).bind fun v8 =>
      (gR h6 10 x0 11).bind fun v9 =>
      (aR 102 h6 v9 x1).bind fun v10 =>
      (aI h6 v10 x3).bind fun v11 =>
      (sI h6 v8 x3 v11).bind fun h12 =>
      (gR h12 10 x0 12).bind fun v13 =>
      (aR 102 h12 v13 x2).bind fun v14 =>
      (gR h12 10 x0 12).bind fun v15 =>
      (aR 102 h12 v15 x1).bind fun v16 =>
      (aI h12 v16 x3).bind fun v17 =>
      (sI h12 v14 x3 v17).bind fun h18 =>
      f_X10_copies_L88 (f_X10_copies_J123 (f_X10_copies_L31 kE129 n) kE129) 5000 x0 x1 x2 x3 (0 : Int32) h18
theorem y_X10_copies_L31 {g : xG} {h0 : xH} {cl : Bool} {kE129 : xH → Option (xH)} (hkE129 : ∀  (h : xH), Y g DX10_copies h0 cl iV (kE129  h) 129 [none, none, none, none, none] [] h) : ∀ (n : Nat) (x0 : Nat) (x1 : Int32) (x2 : Int32) (x3 : Int32) (h : xH), Y g DX10_copies h0 cl iV (f_X10_copies_L31 kE129 n x0 x1 x2 x3 h) 31 [some (.ref x0), some (.int x1), some (.int x2), some (.int x3), none] [] h := by
  intro n
  induction n with
  | zero => intro x0 x1 x2 x3 h; exact Y.nothing
  | succ n ih =>
    intro x0 x1 x2 x3 h
    unfold f_X10_copies_L31
    refine Y.op (pc' := 32) (fun _ => X.iloadn rfl dX10_copies_31) ?_
    refine Y.op (pc' := 34) (fun _ => X.bp kb_12 dX10_copies_32) ?_
    refine Y.cmpge 129 (by decide) dX10_copies_34 ?_ ?_
    · exact Y.fg (hkE129 h) trivial
    · refine Y.op (pc' := 38) (fun _ => X.aloadn rfl dX10_copies_37) ?_
      refine Y.getR fd_X10_25 rfl dX10_copies_38 (fun v1 => ?_)
      refine Y.op (pc' := 42) (fun _ => X.iloadn rfl dX10_copies_41) ?_
      refine Y.aldR 102 (by decide) (by decide) dX10_copies_42 (fun v2 => ?_)
      refine Y.op (pc' := 44) (fun _ => X.iloadn rfl dX10_copies_43) ?_
      refine Y.op (pc' := 45) (fun _ => X.aloadn rfl dX10_copies_44) ?_
      refine Y.getR fd_X10_25 rfl dX10_copies_45 (fun v3 => ?_)
      refine Y.op (pc' := 49) (fun _ => X.iloadn rfl dX10_copies_48) ?_
      refine Y.aldR 102 (by decide) (by decide) dX10_copies_49 (fun v4 => ?_)
      refine Y.op (pc' := 51) (fun _ => X.iloadn rfl dX10_copies_50) ?_
      refine Y.aldI dX10_copies_51 (fun v5 => ?_)
      refine Y.astI dX10_copies_52 (fun h6 => ?_)
      refine Y.op (pc' := 54) (fun _ => X.aloadn rfl dX10_copies_53) ?_
      refine Y.getR fd_X10_28 rfl dX10_copies_54 (fun v7 => ?_)
      refine Y.op (pc' := 58) (fun _ => X.iloadn rfl dX10_copies_57) ?_
      refine Y.aldR 102 (by decide) (by decide) dX10_copies_58 (fun v8 => ?_)
      refine Y.op (pc' := 60) (fun _ => X.iloadn rfl dX10_copies_59) ?_
      refine Y.op (pc' := 61) (fun _ => X.aloadn rfl dX10_copies_60) ?_
      refine Y.getR fd_X10_28 rfl dX10_copies_61 (fun v9 => ?_)
      refine Y.op (pc' := 65) (fun _ => X.iloadn rfl dX10_copies_64) ?_
      refine Y.aldR 102 (by decide) (by decide) dX10_copies_65 (fun v10 => ?_)
      refine Y.op (pc' := 67) (fun _ => X.iloadn rfl dX10_copies_66) ?_
      refine Y.aldI dX10_copies_67 (fun v11 => ?_)
      refine Y.astI dX10_copies_68 (fun h12 => ?_)
      refine Y.op (pc' := 70) (fun _ => X.aloadn rfl dX10_copies_69) ?_
      refine Y.getR fd_X10_31 rfl dX10_copies_70 (fun v13 => ?_)
      refine Y.op (pc' := 74) (fun _ => X.iloadn rfl dX10_copies_73) ?_
      refine Y.aldR 102 (by decide) (by decide) dX10_copies_74 (fun v14 => ?_)
      refine Y.op (pc' := 76) (fun _ => X.iloadn rfl dX10_copies_75) ?_
      refine Y.op (pc' := 77) (fun _ => X.aloadn rfl dX10_copies_76) ?_
      refine Y.getR fd_X10_31 rfl dX10_copies_77 (fun v15 => ?_)
      refine Y.op (pc' := 81) (fun _ => X.iloadn rfl dX10_copies_80) ?_
      refine Y.aldR 102 (by decide) (by decide) dX10_copies_81 (fun v16 => ?_)
      refine Y.op (pc' := 83) (fun _ => X.iloadn rfl dX10_copies_82) ?_
      refine Y.aldI dX10_copies_83 (fun v17 => ?_)
      refine Y.astI dX10_copies_84 (fun h18 => ?_)
      refine Y.op (pc' := 86) (fun _ => X.ic ki_0 dX10_copies_85) ?_
      refine Y.op (pc' := 88) (loc' := [some (.ref x0), some (.int x1), some (.int x2), some (.int x3), some (.int (0 : Int32))]) (fun _ => X.istore (Nat.le_of_ble_eq_true rfl) rfl dX10_copies_86) ?_
      exact y_X10_copies_L88 (y_X10_copies_J123 ih hkE129) 5000 x0 x1 x2 x3 (0 : Int32) h18
def f_X10_copies_J29 (x0 : Nat) (x1 : Int32) (x2 : Int32) (h : xH) : Option (xH) :=
  f_X10_copies_L31 (f_X10_copies_J129) 5000 x0 x1 x2 (0 : Int32) h
theorem y_X10_copies_J29 {g : xG} {h0 : xH} {cl : Bool} (x0 : Nat) (x1 : Int32) (x2 : Int32) (h : xH) : Y g DX10_copies h0 cl iV (f_X10_copies_J29 x0 x1 x2 h) 29 [some (.ref x0), some (.int x1), some (.int x2), none, none] [] h := by
  unfold f_X10_copies_J29
  refine Y.op (pc' := 30) (fun _ => X.ic ki_0 dX10_copies_29) ?_
  refine Y.op (pc' := 31) (loc' := [some (.ref x0), some (.int x1), some (.int x2), some (.int (0 : Int32)), none]) (fun _ => X.istoren (Nat.le_of_ble_eq_true rfl) rfl dX10_copies_30) ?_
  exact y_X10_copies_L31 (y_X10_copies_J129) 5000 x0 x1 x2 (0 : Int32) h
def f_X10_copies_L2 (kE29 : Nat → Int32 → Int32 → xH → Option (xH)) : Nat → Nat → Int32 → Int32 → Int32 → xH → Option (xH)
  | 0 => fun _ _ _ _ _ => none
  | n + 1 => fun x0 x1 x2 x3 h =>
    if x3 ≥ (5 : Int32) then
      kE29 x0 x1 x2 h
    else
      (gR h 10 x0 9).bind fun v1 =>
      (aR 102 h v1 x2).bind fun v2 =>
      (gR h 10 x0 9).bind fun v3 =>
      (aR 102 h v3 x1).bind fun v4 =>
      (aI h v4 x3).bind fun v5 =>
      (sI h v2 x3 v5).bind fun h6 =>
      lt (x3 + (1 : Int32)) fun v7 =>
      f_X10_copies_L2 kE29 n x0 x1 x2 v7 h6
theorem y_X10_copies_L2 {g : xG} {h0 : xH} {cl : Bool} {kE29 : Nat → Int32 → Int32 → xH → Option (xH)} (hkE29 : ∀ (x0 : Nat) (x1 : Int32) (x2 : Int32) (h : xH), Y g DX10_copies h0 cl iV (kE29 x0 x1 x2 h) 29 [some (.ref x0), some (.int x1), some (.int x2), none, none] [] h) : ∀ (n : Nat) (x0 : Nat) (x1 : Int32) (x2 : Int32) (x3 : Int32) (h : xH), Y g DX10_copies h0 cl iV (f_X10_copies_L2 kE29 n x0 x1 x2 x3 h) 2 [some (.ref x0), some (.int x1), some (.int x2), some (.int x3), none] [] h := by
  intro n
  induction n with
  | zero => intro x0 x1 x2 x3 h; exact Y.nothing
  | succ n ih =>
    intro x0 x1 x2 x3 h
    unfold f_X10_copies_L2
    refine Y.op (pc' := 3) (fun _ => X.iloadn rfl dX10_copies_2) ?_
    refine Y.op (pc' := 4) (fun _ => X.ic ki_5 dX10_copies_3) ?_
    refine Y.cmpge 29 (by decide) dX10_copies_4 ?_ ?_
    · exact Y.fg (hkE29 x0 x1 x2 h) (And.intro rfl (And.intro rfl (And.intro rfl trivial)))
    · refine Y.op (pc' := 8) (fun _ => X.aloadn rfl dX10_copies_7) ?_
      refine Y.getR fd_X10_22 rfl dX10_copies_8 (fun v1 => ?_)
      refine Y.op (pc' := 12) (fun _ => X.iloadn rfl dX10_copies_11) ?_
      refine Y.aldR 102 (by decide) (by decide) dX10_copies_12 (fun v2 => ?_)
      refine Y.op (pc' := 14) (fun _ => X.iloadn rfl dX10_copies_13) ?_
      refine Y.op (pc' := 15) (fun _ => X.aloadn rfl dX10_copies_14) ?_
      refine Y.getR fd_X10_22 rfl dX10_copies_15 (fun v3 => ?_)
      refine Y.op (pc' := 19) (fun _ => X.iloadn rfl dX10_copies_18) ?_
      refine Y.aldR 102 (by decide) (by decide) dX10_copies_19 (fun v4 => ?_)
      refine Y.op (pc' := 21) (fun _ => X.iloadn rfl dX10_copies_20) ?_
      refine Y.aldI dX10_copies_21 (fun v5 => ?_)
      refine Y.astI dX10_copies_22 (fun h6 => ?_)
      refine Y.iinc (i := 3) (loc' := fun v7 => [some (.ref x0), some (.int x1), some (.int x2), some (.int v7), none]) rfl (Nat.le_of_ble_eq_true rfl) ki_1 (fun _ => rfl) dX10_copies_23 (fun v7 => ?_)
      refine Y.op (pc' := 2) (fun _ => X.goto 2 (by decide) dX10_copies_26) ?_
      exact ih x0 x1 x2 v7 h6
def f_X10_copies (a0 : Nat) (p1 : Int32) (p2 : Int32) (h : xH) : Option (xH) :=
  f_X10_copies_L2 (f_X10_copies_J29) 5000 a0 p1 p2 (0 : Int32) h
theorem y_X10_copies {g : xG} {h0 : xH} {cl : Bool} (a0 : Nat) (p1 : Int32) (p2 : Int32) (h : xH) : Y g DX10_copies h0 cl iV (f_X10_copies a0 p1 p2 h) 0 [some (.ref a0), some (.int p1), some (.int p2), none, none] [] h := by
  unfold f_X10_copies
  refine Y.op (pc' := 1) (fun _ => X.ic ki_0 dX10_copies_0) ?_
  refine Y.op (pc' := 2) (loc' := [some (.ref a0), some (.int p1), some (.int p2), some (.int (0 : Int32)), none]) (fun _ => X.istoren (Nat.le_of_ble_eq_true rfl) rfl dX10_copies_1) ?_
  exact y_X10_copies_L2 (y_X10_copies_J29) 5000 a0 p1 p2 (0 : Int32) h
theorem m_X10_copies {g : xG} (a0 : Nat) (p1 : Int32) (p2 : Int32) (h : xH) (cl : Bool) (r : xH) (e : f_X10_copies a0 p1 p2 h = some r) : XM g DX10_copies [.ref a0, .int p1, .int p2] h cl (iV r) := YM.of rfl rfl (Nat.le_of_ble_eq_true rfl) (y_X10_copies a0 p1 p2 h) e
def f_X10_feed_J120 (x0 : Nat) (h : xH) : Option (Int32 × xH) :=
  (gI h 10 x0 2).bind fun v1 =>
  some (v1, h)
theorem y_X10_feed_J120 {g : xG} {h0 : xH} {cl : Bool} (x0 : Nat) (h : xH) : Y g DX10_feed h0 cl iI (f_X10_feed_J120 x0 h) 120 [some (.ref x0), none, none, none, none, none, none, none] [] h := by
  unfold f_X10_feed_J120
  refine Y.op (pc' := 121) (fun _ => X.aloadn rfl dX10_feed_120) ?_
  refine Y.getI fd_X10_85 rfl dX10_feed_121 (fun v1 => ?_)
  exact Y.ireturn rfl dX10_feed_124
def f_X10_feed_J76 (kH : Nat → Int32 → Int32 → Int32 → Int32 → Int32 → Int32 → xH → Option (Int32 × xH)) (kE120 : Nat → xH → Option (Int32 × xH)) (x0 : Nat) (x1 : Int32) (x2 : Int32) (x3 : Int32) (x4 : Int32) (x5 : Int32) (x6 : Int32) (s0 : Int32) (h : xH) : Option (Int32 × xH) :=
  (gR h 10 x0 8).bind fun v1 =>
  (gI h 10 x0 2).bind fun v2 =>
  (sI h v1 v2 ((s0 >>> (((24 : Int32) - ((8 : Int32) * (x6 - x6 / (4 : Int32) * (4 : Int32)))) &&& 31)) &&& (255 : Int32))).bind fun h3 =>
  (gI h3 10 x0 2).bind fun v4 =>
  (pI h3 10 x0 2 (v4 + (1 : Int32))).bind fun h5 =>
  lt (x6 + (1 : Int32)) fun v6 =>
  kH x0 x1 x2 x3 x4 x5 v6 h5
theorem y_X10_feed_J76 {g : xG} {h0 : xH} {cl : Bool} {kH : Nat → Int32 → Int32 → Int32 → Int32 → Int32 → Int32 → xH → Option (Int32 × xH)} {kE120 : Nat → xH → Option (Int32 × xH)} (hkH : ∀ (x0 : Nat) (x1 : Int32) (x2 : Int32) (x3 : Int32) (x4 : Int32) (x5 : Int32) (x6 : Int32) (h : xH), Y g DX10_feed h0 cl iI (kH x0 x1 x2 x3 x4 x5 x6 h) 23 [some (.ref x0), some (.int x1), some (.int x2), some (.int x3), some (.int x4), some (.int x5), some (.int x6), none] [] h) (hkE120 : ∀ (x0 : Nat) (h : xH), Y g DX10_feed h0 cl iI (kE120 x0 h) 120 [some (.ref x0), none, none, none, none, none, none, none] [] h) (x0 : Nat) (x1 : Int32) (x2 : Int32) (x3 : Int32) (x4 : Int32) (x5 : Int32) (x6 : Int32) (s0 : Int32) (h : xH) : Y g DX10_feed h0 cl iI (f_X10_feed_J76 kH kE120 x0 x1 x2 x3 x4 x5 x6 s0 h) 76 [some (.ref x0), some (.int x1), some (.int x2), some (.int x3), some (.int x4), some (.int x5), some (.int x6), none] [.int s0] h := by
  unfold f_X10_feed_J76
  refine Y.op (pc' := 78) (loc' := [some (.ref x0), some (.int x1), some (.int x2), some (.int x3), some (.int x4), some (.int x5), some (.int x6), some (.int s0)]) (fun _ => X.istore (Nat.le_of_ble_eq_true rfl) rfl dX10_feed_76) ?_
  refine Y.op (pc' := 79) (fun _ => X.aloadn rfl dX10_feed_78) ?_
  refine Y.getR fd_X10_17 rfl dX10_feed_79 (fun v1 => ?_)
  refine Y.op (pc' := 83) (fun _ => X.aloadn rfl dX10_feed_82) ?_
  refine Y.getI fd_X10_85 rfl dX10_feed_83 (fun v2 => ?_)
  refine Y.op (pc' := 88) (fun _ => X.iload rfl dX10_feed_86) ?_
  refine Y.op (pc' := 90) (fun _ => X.bp kb_24 dX10_feed_88) ?_
  refine Y.op (pc' := 92) (fun _ => X.bp kb_8 dX10_feed_90) ?_
  refine Y.op (pc' := 94) (fun _ => X.iload rfl dX10_feed_92) ?_
  refine Y.op (pc' := 95) (fun _ => X.ic ki_4 dX10_feed_94) ?_
  refine Y.op (pc' := 96) (fun _ => X.irem (by decide) dX10_feed_95) ?_
  refine Y.op (pc' := 97) (fun _ => X.imul dX10_feed_96) ?_
  refine Y.op (pc' := 98) (fun _ => X.isub dX10_feed_97) ?_
  refine Y.op (pc' := 99) (fun _ => X.ishr dX10_feed_98) ?_
  refine Y.op (pc' := 102) (fun _ => X.sp ks_255 dX10_feed_99) ?_
  refine Y.op (pc' := 103) (fun _ => X.iand dX10_feed_102) ?_
  refine Y.astI dX10_feed_103 (fun h3 => ?_)
  refine Y.op (pc' := 105) (fun _ => X.aloadn rfl dX10_feed_104) ?_
  refine Y.op (pc' := 106) (fun _ => X.dup rfl dX10_feed_105) ?_
  refine Y.getI fd_X10_85 rfl dX10_feed_106 (fun v4 => ?_)
  refine Y.op (pc' := 110) (fun _ => X.ic ki_1 dX10_feed_109) ?_
  refine Y.op (pc' := 111) (fun _ => X.iadd dX10_feed_110) ?_
  refine Y.putI fd_X10_85 rfl dX10_feed_111 (fun h5 => ?_)
  refine Y.iinc (i := 6) (loc' := fun v6 => [some (.ref x0), some (.int x1), some (.int x2), some (.int x3), some (.int x4), some (.int x5), some (.int v6), some (.int s0)]) rfl (Nat.le_of_ble_eq_true rfl) ki_1 (fun _ => rfl) dX10_feed_114 (fun v6 => ?_)
  refine Y.op (pc' := 23) (fun _ => X.goto 23 (by decide) dX10_feed_117) ?_
  exact Y.fg (hkH x0 x1 x2 x3 x4 x5 v6 h5) (And.intro rfl (And.intro rfl (And.intro rfl (And.intro rfl (And.intro rfl (And.intro rfl (And.intro rfl trivial)))))))
def f_X10_feed_L23 (kE120 : Nat → xH → Option (Int32 × xH)) : Nat → Nat → Int32 → Int32 → Int32 → Int32 → Int32 → Int32 → xH → Option (Int32 × xH)
  | 0 => fun _ _ _ _ _ _ _ _ => none
  | n + 1 => fun x0 x1 x2 x3 x4 x5 x6 h =>
    if x6 ≥ (20 : Int32) then
      kE120 x0 h
    else
      if x6 ≥ (4 : Int32) then
        if x6 ≥ (8 : Int32) then
          if x6 ≥ (12 : Int32) then
            if x6 ≥ (16 : Int32) then
              f_X10_feed_J76 (f_X10_feed_L23 kE120 n) kE120 x0 x1 x2 x3 x4 x5 x6 x5 h
            else
              f_X10_feed_J76 (f_X10_feed_L23 kE120 n) kE120 x0 x1 x2 x3 x4 x5 x6 x4 h
          else
            f_X10_feed_J76 (f_X10_feed_L23 kE120 n) kE120 x0 x1 x2 x3 x4 x5 x6 x3 h
        else
          f_X10_feed_J76 (f_X10_feed_L23 kE120 n) kE120 x0 x1 x2 x3 x4 x5 x6 x2 h
      else
        f_X10_feed_J76 (f_X10_feed_L23 kE120 n) kE120 x0 x1 x2 x3 x4 x5 x6 x1 h
theorem y_X10_feed_L23 {g : xG} {h0 : xH} {cl : Bool} {kE120 : Nat → xH → Option (Int32 × xH)} (hkE120 : ∀ (x0 : Nat) (h : xH), Y g DX10_feed h0 cl iI (kE120 x0 h) 120 [some (.ref x0), none, none, none, none, none, none, none] [] h) : ∀ (n : Nat) (x0 : Nat) (x1 : Int32) (x2 : Int32) (x3 : Int32) (x4 : Int32) (x5 : Int32) (x6 : Int32) (h : xH), Y g DX10_feed h0 cl iI (f_X10_feed_L23 kE120 n x0 x1 x2 x3 x4 x5 x6 h) 23 [some (.ref x0), some (.int x1), some (.int x2), some (.int x3), some (.int x4), some (.int x5), some (.int x6), none] [] h := by
  intro n
  induction n with
  | zero => intro x0 x1 x2 x3 x4 x5 x6 h; exact Y.nothing
  | succ n ih =>
    intro x0 x1 x2 x3 x4 x5 x6 h
    unfold f_X10_feed_L23
    refine Y.op (pc' := 25) (fun _ => X.iload rfl dX10_feed_23) ?_
    refine Y.op (pc' := 27) (fun _ => X.bp kb_20 dX10_feed_25) ?_
    refine Y.cmpge 120 (by decide) dX10_feed_27 ?_ ?_
    · exact Y.fg (hkE120 x0 h) (And.intro rfl trivial)
    · refine Y.op (pc' := 32) (fun _ => X.iload rfl dX10_feed_30) ?_
      refine Y.op (pc' := 33) (fun _ => X.ic ki_4 dX10_feed_32) ?_
      refine Y.cmpge 40 (by decide) dX10_feed_33 ?_ ?_
      · refine Y.op (pc' := 42) (fun _ => X.iload rfl dX10_feed_40) ?_
        refine Y.op (pc' := 44) (fun _ => X.bp kb_8 dX10_feed_42) ?_
        refine Y.cmpge 51 (by decide) dX10_feed_44 ?_ ?_
        · refine Y.op (pc' := 53) (fun _ => X.iload rfl dX10_feed_51) ?_
          refine Y.op (pc' := 55) (fun _ => X.bp kb_12 dX10_feed_53) ?_
          refine Y.cmpge 62 (by decide) dX10_feed_55 ?_ ?_
          · refine Y.op (pc' := 64) (fun _ => X.iload rfl dX10_feed_62) ?_
            refine Y.op (pc' := 66) (fun _ => X.bp kb_16 dX10_feed_64) ?_
            refine Y.cmpge 74 (by decide) dX10_feed_66 ?_ ?_
            · refine Y.op (pc' := 76) (fun _ => X.iload rfl dX10_feed_74) ?_
              exact y_X10_feed_J76 ih hkE120 x0 x1 x2 x3 x4 x5 x6 x5 h
            · refine Y.op (pc' := 71) (fun _ => X.iload rfl dX10_feed_69) ?_
              refine Y.op (pc' := 76) (fun _ => X.goto 76 (by decide) dX10_feed_71) ?_
              exact y_X10_feed_J76 ih hkE120 x0 x1 x2 x3 x4 x5 x6 x4 h
          · refine Y.op (pc' := 59) (fun _ => X.iloadn rfl dX10_feed_58) ?_
            refine Y.op (pc' := 76) (fun _ => X.goto 76 (by decide) dX10_feed_59) ?_
            exact y_X10_feed_J76 ih hkE120 x0 x1 x2 x3 x4 x5 x6 x3 h
        · refine Y.op (pc' := 48) (fun _ => X.iloadn rfl dX10_feed_47) ?_
          refine Y.op (pc' := 76) (fun _ => X.goto 76 (by decide) dX10_feed_48) ?_
          exact y_X10_feed_J76 ih hkE120 x0 x1 x2 x3 x4 x5 x6 x2 h
      · refine Y.op (pc' := 37) (fun _ => X.iloadn rfl dX10_feed_36) ?_
        refine Y.op (pc' := 76) (fun _ => X.goto 76 (by decide) dX10_feed_37) ?_
        exact y_X10_feed_J76 ih hkE120 x0 x1 x2 x3 x4 x5 x6 x1 h
def f_X10_feed (a0 : Nat) (p1 : Int32) (p2 : Int32) (p3 : Int32) (p4 : Int32) (p5 : Int32) (h : xH) : Option (Int32 × xH) :=
  (pI h 10 a0 0 (0 : Int32)).bind fun h1 =>
  (gI h1 10 a0 2).bind fun v2 =>
  if (v2 + (20 : Int32)) ≤ (300 : Int32) then
    f_X10_feed_L23 (f_X10_feed_J120) 5000 a0 p1 p2 p3 p4 p5 (0 : Int32) h1
  else
    some ((-1 : Int32), h1)
theorem y_X10_feed {g : xG} {h0 : xH} {cl : Bool} (a0 : Nat) (p1 : Int32) (p2 : Int32) (p3 : Int32) (p4 : Int32) (p5 : Int32) (h : xH) : Y g DX10_feed h0 cl iI (f_X10_feed a0 p1 p2 p3 p4 p5 h) 0 [some (.ref a0), some (.int p1), some (.int p2), some (.int p3), some (.int p4), some (.int p5), none, none] [] h := by
  unfold f_X10_feed
  refine Y.op (pc' := 1) (fun _ => X.aloadn rfl dX10_feed_0) ?_
  refine Y.op (pc' := 2) (fun _ => X.ic ki_0 dX10_feed_1) ?_
  refine Y.putI fd_X10_82 rfl dX10_feed_2 (fun h1 => ?_)
  refine Y.op (pc' := 6) (fun _ => X.aloadn rfl dX10_feed_5) ?_
  refine Y.getI fd_X10_85 rfl dX10_feed_6 (fun v2 => ?_)
  refine Y.op (pc' := 11) (fun _ => X.bp kb_20 dX10_feed_9) ?_
  refine Y.op (pc' := 12) (fun _ => X.iadd dX10_feed_11) ?_
  refine Y.op (pc' := 15) (fun _ => X.sp ks_300 dX10_feed_12) ?_
  refine Y.cmple 20 (by decide) dX10_feed_15 ?_ ?_
  · refine Y.op (pc' := 21) (fun _ => X.ic ki_0 dX10_feed_20) ?_
    refine Y.op (pc' := 23) (loc' := [some (.ref a0), some (.int p1), some (.int p2), some (.int p3), some (.int p4), some (.int p5), some (.int (0 : Int32)), none]) (fun _ => X.istore (Nat.le_of_ble_eq_true rfl) rfl dX10_feed_21) ?_
    exact y_X10_feed_L23 (y_X10_feed_J120) 5000 a0 p1 p2 p3 p4 p5 (0 : Int32) h1
  · refine Y.op (pc' := 19) (fun _ => X.ic ki_m1 dX10_feed_18) ?_
    exact Y.ireturn rfl dX10_feed_19
theorem m_X10_feed {g : xG} (a0 : Nat) (p1 : Int32) (p2 : Int32) (p3 : Int32) (p4 : Int32) (p5 : Int32) (h : xH) (cl : Bool) (r : Int32 × xH) (e : f_X10_feed a0 p1 p2 p3 p4 p5 h = some r) : XM g DX10_feed [.ref a0, .int p1, .int p2, .int p3, .int p4, .int p5] h cl (iI r) := YM.of rfl rfl (Nat.le_of_ble_eq_true rfl) (y_X10_feed a0 p1 p2 p3 p4 p5 h) e
def f_X10_byteAt_J18 (s0 : Int32) (h : xH) : Option (Int32 × xH) :=
  some (s0, h)
theorem y_X10_byteAt_J18 {g : xG} {h0 : xH} {cl : Bool} (s0 : Int32) (h : xH) : Y g DX10_byteAt h0 cl iI (f_X10_byteAt_J18 s0 h) 18 [none, none] [.int s0] h := by
  unfold f_X10_byteAt_J18
  exact Y.ireturn rfl dX10_byteAt_18
def f_X10_byteAt (a0 : Nat) (p1 : Int32) (h : xH) : Option (Int32 × xH) :=
  (gI h 10 a0 3).bind fun v1 =>
  if p1 < v1 then
    (gR h 10 a0 8).bind fun v2 =>
    (aI h v2 p1).bind fun v3 =>
    f_X10_byteAt_J18 v3 h
  else
    f_X10_byteAt_J18 (-1 : Int32) h
theorem y_X10_byteAt {g : xG} {h0 : xH} {cl : Bool} (a0 : Nat) (p1 : Int32) (h : xH) : Y g DX10_byteAt h0 cl iI (f_X10_byteAt a0 p1 h) 0 [some (.ref a0), some (.int p1)] [] h := by
  unfold f_X10_byteAt
  refine Y.op (pc' := 1) (fun _ => X.iloadn rfl dX10_byteAt_0) ?_
  refine Y.op (pc' := 2) (fun _ => X.aloadn rfl dX10_byteAt_1) ?_
  refine Y.getI fd_X10_88 rfl dX10_byteAt_2 (fun v1 => ?_)
  refine Y.cmplt 12 (by decide) dX10_byteAt_5 ?_ ?_
  · refine Y.op (pc' := 13) (fun _ => X.aloadn rfl dX10_byteAt_12) ?_
    refine Y.getR fd_X10_17 rfl dX10_byteAt_13 (fun v2 => ?_)
    refine Y.op (pc' := 17) (fun _ => X.iloadn rfl dX10_byteAt_16) ?_
    refine Y.aldI dX10_byteAt_17 (fun v3 => ?_)
    exact Y.fg (y_X10_byteAt_J18 v3 h) trivial
  · refine Y.op (pc' := 9) (fun _ => X.ic ki_m1 dX10_byteAt_8) ?_
    refine Y.op (pc' := 18) (fun _ => X.goto 18 (by decide) dX10_byteAt_9) ?_
    exact Y.fg (y_X10_byteAt_J18 (-1 : Int32) h) trivial
theorem m_X10_byteAt {g : xG} (a0 : Nat) (p1 : Int32) (h : xH) (cl : Bool) (r : Int32 × xH) (e : f_X10_byteAt a0 p1 h = some r) : XM g DX10_byteAt [.ref a0, .int p1] h cl (iI r) := YM.of rfl rfl (Nat.le_of_ble_eq_true rfl) (y_X10_byteAt a0 p1 h) e
def f_X10_here_J26 (x0 : Nat) (h : xH) : Option (Int32 × xH) :=
  (gI h 10 x0 4).bind fun v1 =>
  (vc h 10 x0 (f_X10_byteAt x0 v1 h)).bind fun r2 =>
  some (r2.1, r2.2)
theorem y_X10_here_J26 {g : xG} {h0 : xH} {cl : Bool} (x0 : Nat) (h : xH) : Y g DX10_here h0 cl iI (f_X10_here_J26 x0 h) 26 [some (.ref x0)] [] h := by
  unfold f_X10_here_J26
  refine Y.op (pc' := 27) (fun _ => X.aloadn rfl dX10_here_26) ?_
  refine Y.op (pc' := 28) (fun _ => X.aloadn rfl dX10_here_27) ?_
  refine Y.getI fd_X10_91 rfl dX10_here_28 (fun v1 => ?_)
  refine Y.callVi (As := [.int v1]) lk_X10_94 rfl cal_X10_byteAt vir_X10_byteAt (Nat.le_of_ble_eq_true rfl) (Nat.le_of_ble_eq_true rfl) rfl rfl rfl (Nat.le_of_ble_eq_true rfl) dX10_here_31 (fun _ e => m_X10_byteAt x0 v1 h _ _ e) (fun r2 => ?_)
  exact Y.ireturn rfl dX10_here_34
def f_X10_here_L0 (kE26 : Nat → xH → Option (Int32 × xH)) : Nat → Nat → xH → Option (Int32 × xH)
  | 0 => fun _ _ => none
  | n + 1 => fun x0 h =>
    (gI h 10 x0 4).bind fun v1 =>
    (vc h 10 x0 (f_X10_byteAt x0 v1 h)).bind fun r2 =>
    if r2.1 = (32 : Int32) then
      (gI r2.2 10 x0 4).bind fun v3 =>
      (pI r2.2 10 x0 4 (v3 + (1 : Int32))).bind fun h4 =>
      f_X10_here_L0 kE26 n x0 h4
    else
      kE26 x0 r2.2
theorem y_X10_here_L0 {g : xG} {h0 : xH} {cl : Bool} {kE26 : Nat → xH → Option (Int32 × xH)} (hkE26 : ∀ (x0 : Nat) (h : xH), Y g DX10_here h0 cl iI (kE26 x0 h) 26 [some (.ref x0)] [] h) : ∀ (n : Nat) (x0 : Nat) (h : xH), Y g DX10_here h0 cl iI (f_X10_here_L0 kE26 n x0 h) 0 [some (.ref x0)] [] h := by
  intro n
  induction n with
  | zero => intro x0 h; exact Y.nothing
  | succ n ih =>
    intro x0 h
    unfold f_X10_here_L0
    refine Y.op (pc' := 1) (fun _ => X.aloadn rfl dX10_here_0) ?_
    refine Y.op (pc' := 2) (fun _ => X.aloadn rfl dX10_here_1) ?_
    refine Y.getI fd_X10_91 rfl dX10_here_2 (fun v1 => ?_)
    refine Y.callVi (As := [.int v1]) lk_X10_94 rfl cal_X10_byteAt vir_X10_byteAt (Nat.le_of_ble_eq_true rfl) (Nat.le_of_ble_eq_true rfl) rfl rfl rfl (Nat.le_of_ble_eq_true rfl) dX10_here_5 (fun _ e => m_X10_byteAt x0 v1 h _ _ e) (fun r2 => ?_)
    refine Y.op (pc' := 10) (fun _ => X.bp kb_32 dX10_here_8) ?_
    refine Y.cmpne 26 (by decide) dX10_here_10 ?_ ?_
    · exact hkE26 x0 r2.2
    · refine Y.op (pc' := 14) (fun _ => X.aloadn rfl dX10_here_13) ?_
      refine Y.op (pc' := 15) (fun _ => X.dup rfl dX10_here_14) ?_
      refine Y.getI fd_X10_91 rfl dX10_here_15 (fun v3 => ?_)
      refine Y.op (pc' := 19) (fun _ => X.ic ki_1 dX10_here_18) ?_
      refine Y.op (pc' := 20) (fun _ => X.iadd dX10_here_19) ?_
      refine Y.putI fd_X10_91 rfl dX10_here_20 (fun h4 => ?_)
      refine Y.op (pc' := 0) (fun _ => X.goto 0 (by decide) dX10_here_23) ?_
      exact ih x0 h4
def f_X10_here (a0 : Nat) (h : xH) : Option (Int32 × xH) :=
  f_X10_here_L0 (f_X10_here_J26) 5000 a0 h
theorem y_X10_here {g : xG} {h0 : xH} {cl : Bool} (a0 : Nat) (h : xH) : Y g DX10_here h0 cl iI (f_X10_here a0 h) 0 [some (.ref a0)] [] h := by
  unfold f_X10_here
  exact y_X10_here_L0 (y_X10_here_J26) 5000 a0 h
theorem m_X10_here {g : xG} (a0 : Nat) (h : xH) (cl : Bool) (r : Int32 × xH) (e : f_X10_here a0 h = some r) : XM g DX10_here [.ref a0] h cl (iI r) := YM.of rfl rfl (Nat.le_of_ble_eq_true rfl) (y_X10_here a0 h) e
def f_X10_fine_J12 (s0 : Int32) (h : xH) : Option (Int32 × xH) :=
  if s0 = 0 ∨ s0 = 1 then some (s0, h) else none
theorem y_X10_fine_J12 {g : xG} {h0 : xH} {cl : Bool} (s0 : Int32) (h : xH) : Y g DX10_fine h0 cl iI (f_X10_fine_J12 s0 h) 12 [none] [.int s0] h := by
  unfold f_X10_fine_J12
  exact Y.zreturn rfl dX10_fine_12
def f_X10_fine (a0 : Nat) (h : xH) : Option (Int32 × xH) :=
  (gI h 10 a0 6).bind fun v1 =>
  if v1 = (0 : Int32) then
    f_X10_fine_J12 (1 : Int32) h
  else
    f_X10_fine_J12 (0 : Int32) h
theorem y_X10_fine {g : xG} {h0 : xH} {cl : Bool} (a0 : Nat) (h : xH) : Y g DX10_fine h0 cl iI (f_X10_fine a0 h) 0 [some (.ref a0)] [] h := by
  unfold f_X10_fine
  refine Y.op (pc' := 1) (fun _ => X.aloadn rfl dX10_fine_0) ?_
  refine Y.getI fd_X10_98 rfl dX10_fine_1 (fun v1 => ?_)
  refine Y.ifne 11 (by decide) dX10_fine_4 ?_ ?_
  · refine Y.op (pc' := 12) (fun _ => X.ic ki_0 dX10_fine_11) ?_
    exact Y.fg (y_X10_fine_J12 (0 : Int32) h) trivial
  · refine Y.op (pc' := 8) (fun _ => X.ic ki_1 dX10_fine_7) ?_
    refine Y.op (pc' := 12) (fun _ => X.goto 12 (by decide) dX10_fine_8) ?_
    exact Y.fg (y_X10_fine_J12 (1 : Int32) h) trivial
theorem m_X10_fine {g : xG} (a0 : Nat) (h : xH) (cl : Bool) (r : Int32 × xH) (e : f_X10_fine a0 h = some r) : XM g DX10_fine [.ref a0] h cl (iI r) := YM.of rfl rfl (Nat.le_of_ble_eq_true rfl) (y_X10_fine a0 h) e
def f_X10_wrong_J17 (h : xH) : Option (xH) :=
  some h
theorem y_X10_wrong_J17 {g : xG} {h0 : xH} {cl : Bool} (h : xH) : Y g DX10_wrong h0 cl iV (f_X10_wrong_J17 h) 17 [none, none, none] [] h := by
  unfold f_X10_wrong_J17
  exact Y.vreturn rfl dX10_wrong_17
def f_X10_wrong (a0 : Nat) (p1 : Int32) (p2 : Int32) (h : xH) : Option (xH) :=
  (gI h 10 a0 6).bind fun v1 =>
  if v1 = (0 : Int32) then
    (pI h 10 a0 6 p1).bind fun h2 =>
    (pI h2 10 a0 7 p2).bind fun h3 =>
    f_X10_wrong_J17 h3
  else
    f_X10_wrong_J17 h
theorem y_X10_wrong {g : xG} {h0 : xH} {cl : Bool} (a0 : Nat) (p1 : Int32) (p2 : Int32) (h : xH) : Y g DX10_wrong h0 cl iV (f_X10_wrong a0 p1 p2 h) 0 [some (.ref a0), some (.int p1), some (.int p2)] [] h := by
  unfold f_X10_wrong
  refine Y.op (pc' := 1) (fun _ => X.aloadn rfl dX10_wrong_0) ?_
  refine Y.getI fd_X10_98 rfl dX10_wrong_1 (fun v1 => ?_)
  refine Y.ifne 17 (by decide) dX10_wrong_4 ?_ ?_
  · exact Y.fg (y_X10_wrong_J17 h) trivial
  · refine Y.op (pc' := 8) (fun _ => X.aloadn rfl dX10_wrong_7) ?_
    refine Y.op (pc' := 9) (fun _ => X.iloadn rfl dX10_wrong_8) ?_
    refine Y.putI fd_X10_98 rfl dX10_wrong_9 (fun h2 => ?_)
    refine Y.op (pc' := 13) (fun _ => X.aloadn rfl dX10_wrong_12) ?_
    refine Y.op (pc' := 14) (fun _ => X.iloadn rfl dX10_wrong_13) ?_
    refine Y.putI fd_X10_101 rfl dX10_wrong_14 (fun h3 => ?_)
    exact Y.fg (y_X10_wrong_J17 h3) trivial
theorem m_X10_wrong {g : xG} (a0 : Nat) (p1 : Int32) (p2 : Int32) (h : xH) (cl : Bool) (r : xH) (e : f_X10_wrong a0 p1 p2 h = some r) : XM g DX10_wrong [.ref a0, .int p1, .int p2] h cl (iV r) := YM.of rfl rfl (Nat.le_of_ble_eq_true rfl) (y_X10_wrong a0 p1 p2 h) e
def f_X10_isDigit_J17 (s0 : Int32) (h : xH) : Option (Int32 × xH) :=
  if s0 = 0 ∨ s0 = 1 then some (s0, h) else none
theorem y_X10_isDigit_J17 {g : xG} {h0 : xH} {cl : Bool} (s0 : Int32) (h : xH) : Y g DX10_isDigit h0 cl iI (f_X10_isDigit_J17 s0 h) 17 [none] [.int s0] h := by
  unfold f_X10_isDigit_J17
  exact Y.zreturn rfl dX10_isDigit_17
def f_X10_isDigit_J16 (h : xH) : Option (Int32 × xH) :=
  f_X10_isDigit_J17 (0 : Int32) h
theorem y_X10_isDigit_J16 {g : xG} {h0 : xH} {cl : Bool} (h : xH) : Y g DX10_isDigit h0 cl iI (f_X10_isDigit_J16 h) 16 [none] [] h := by
  unfold f_X10_isDigit_J16
  refine Y.op (pc' := 17) (fun _ => X.ic ki_0 dX10_isDigit_16) ?_
  exact y_X10_isDigit_J17 (0 : Int32) h
def f_X10_isDigit (p1 : Int32) (h : xH) : Option (Int32 × xH) :=
  if p1 < (48 : Int32) then
    f_X10_isDigit_J16 h
  else
    if p1 > (57 : Int32) then
      f_X10_isDigit_J16 h
    else
      f_X10_isDigit_J17 (1 : Int32) h
theorem y_X10_isDigit {g : xG} {h0 : xH} {cl : Bool} (p1 : Int32) (h : xH) : Y g DX10_isDigit h0 cl iI (f_X10_isDigit p1 h) 0 [some (.int p1)] [] h := by
  unfold f_X10_isDigit
  refine Y.op (pc' := 1) (fun _ => X.iloadn rfl dX10_isDigit_0) ?_
  refine Y.op (pc' := 3) (fun _ => X.bp kb_48 dX10_isDigit_1) ?_
  refine Y.cmplt 16 (by decide) dX10_isDigit_3 ?_ ?_
  · exact Y.fg (y_X10_isDigit_J16 h) trivial
  · refine Y.op (pc' := 7) (fun _ => X.iloadn rfl dX10_isDigit_6) ?_
    refine Y.op (pc' := 9) (fun _ => X.bp kb_57 dX10_isDigit_7) ?_
    refine Y.cmpgt 16 (by decide) dX10_isDigit_9 ?_ ?_
    · exact Y.fg (y_X10_isDigit_J16 h) trivial
    · refine Y.op (pc' := 13) (fun _ => X.ic ki_1 dX10_isDigit_12) ?_
      refine Y.op (pc' := 17) (fun _ => X.goto 17 (by decide) dX10_isDigit_13) ?_
      exact Y.fg (y_X10_isDigit_J17 (1 : Int32) h) trivial
theorem m_X10_isDigit {g : xG} (p1 : Int32) (h : xH) (cl : Bool) (r : Int32 × xH) (e : f_X10_isDigit p1 h = some r) : XM g DX10_isDigit [.int p1] h cl (iI r) := YM.of rfl rfl (Nat.le_of_ble_eq_true rfl) (y_X10_isDigit p1 h) e
def f_X10_isSmall_J17 (s0 : Int32) (h : xH) : Option (Int32 × xH) :=
  if s0 = 0 ∨ s0 = 1 then some (s0, h) else none
theorem y_X10_isSmall_J17 {g : xG} {h0 : xH} {cl : Bool} (s0 : Int32) (h : xH) : Y g DX10_isSmall h0 cl iI (f_X10_isSmall_J17 s0 h) 17 [none] [.int s0] h := by
  unfold f_X10_isSmall_J17
  exact Y.zreturn rfl dX10_isSmall_17
def f_X10_isSmall_J16 (h : xH) : Option (Int32 × xH) :=
  f_X10_isSmall_J17 (0 : Int32) h
theorem y_X10_isSmall_J16 {g : xG} {h0 : xH} {cl : Bool} (h : xH) : Y g DX10_isSmall h0 cl iI (f_X10_isSmall_J16 h) 16 [none] [] h := by
  unfold f_X10_isSmall_J16
  refine Y.op (pc' := 17) (fun _ => X.ic ki_0 dX10_isSmall_16) ?_
  exact y_X10_isSmall_J17 (0 : Int32) h
def f_X10_isSmall (p1 : Int32) (h : xH) : Option (Int32 × xH) :=
  if p1 < (97 : Int32) then
    f_X10_isSmall_J16 h
  else
    if p1 > (122 : Int32) then
      f_X10_isSmall_J16 h
    else
      f_X10_isSmall_J17 (1 : Int32) h
theorem y_X10_isSmall {g : xG} {h0 : xH} {cl : Bool} (p1 : Int32) (h : xH) : Y g DX10_isSmall h0 cl iI (f_X10_isSmall p1 h) 0 [some (.int p1)] [] h := by
  unfold f_X10_isSmall
  refine Y.op (pc' := 1) (fun _ => X.iloadn rfl dX10_isSmall_0) ?_
  refine Y.op (pc' := 3) (fun _ => X.bp kb_97 dX10_isSmall_1) ?_
  refine Y.cmplt 16 (by decide) dX10_isSmall_3 ?_ ?_
  · exact Y.fg (y_X10_isSmall_J16 h) trivial
  · refine Y.op (pc' := 7) (fun _ => X.iloadn rfl dX10_isSmall_6) ?_
    refine Y.op (pc' := 9) (fun _ => X.bp kb_122 dX10_isSmall_7) ?_
    refine Y.cmpgt 16 (by decide) dX10_isSmall_9 ?_ ?_
    · exact Y.fg (y_X10_isSmall_J16 h) trivial
    · refine Y.op (pc' := 13) (fun _ => X.ic ki_1 dX10_isSmall_12) ?_
      refine Y.op (pc' := 17) (fun _ => X.goto 17 (by decide) dX10_isSmall_13) ?_
      exact Y.fg (y_X10_isSmall_J17 (1 : Int32) h) trivial
theorem m_X10_isSmall {g : xG} (p1 : Int32) (h : xH) (cl : Bool) (r : Int32 × xH) (e : f_X10_isSmall p1 h = some r) : XM g DX10_isSmall [.int p1] h cl (iI r) := YM.of rfl rfl (Nat.le_of_ble_eq_true rfl) (y_X10_isSmall p1 h) e
