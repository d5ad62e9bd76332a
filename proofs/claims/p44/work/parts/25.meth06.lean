def f_X9_fewest_J66 (s0 : Int32) (h : xH) : Option ((Int32 ⊕ String) × xH) :=
  some (.inl s0, h)
theorem y_X9_fewest_J66 {g : xG} {h0 : xH} (s0 : Int32) (h : xH) : Y g DX9_fewest h0 false iIx (f_X9_fewest_J66 s0 h) 66 [none, none, none, none] [.int s0] h := by
  unfold f_X9_fewest_J66
  exact Y.ireturnx rfl dX9_fewest_66
def f_X9_fewest_J46 (s0 : Int32) (h : xH) : Option ((Int32 ⊕ String) × xH) :=
  some (.inl s0, h)
theorem y_X9_fewest_J46 {g : xG} {h0 : xH} (s0 : Int32) (h : xH) : Y g DX9_fewest h0 false iIx (f_X9_fewest_J46 s0 h) 46 [none, none, none, none] [.int s0] h := by
  unfold f_X9_fewest_J46
  exact Y.ireturnx rfl dX9_fewest_46
def f_X9_fewest_J15 (x0 : Nat) (x1 : Int32) (s0 : Nat) (s1 : Int32) (h : xH) : Option ((Int32 ⊕ String) × xH) :=
  (vc h 9 s0 (f_X9_demand s0 s1 h)).bind fun r => thr r fun h1 =>
  (vc h1 9 x0 (f_X9_makeMost x0 h1)).bind fun r2 =>
  if r2.1 = (0 : Int32) then
    some (.inl (-1 : Int32), r2.2)
  else
    (vc r2.2 9 x0 (f_X9_firstAlways x0 r2.2)).bind fun r3 =>
    if r3.1 = (-1 : Int32) then
      (vc r3.2 9 x0 (f_X9_firstOfTwo x0 r3.2)).bind fun r4 =>
      if r4.1 = (-1 : Int32) then
        some (.inl (-1 : Int32), r4.2)
      else
        if x1 = (0 : Int32) then
          f_X9_fewest_J66 (2 : Int32) r4.2
        else
          f_X9_fewest_J66 r4.1 r4.2
    else
      if x1 = (0 : Int32) then
        f_X9_fewest_J46 (1 : Int32) r3.2
      else
        f_X9_fewest_J46 r3.1 r3.2
theorem y_X9_fewest_J15 {g : xG} {h0 : xH} (x0 : Nat) (x1 : Int32) (s0 : Nat) (s1 : Int32) (h : xH) : Y g DX9_fewest h0 false iIx (f_X9_fewest_J15 x0 x1 s0 s1 h) 15 [some (.ref x0), some (.int x1), none, none] [.int s1, .ref s0] h := by
  unfold f_X9_fewest_J15
  refine Y.callVx (As := [.int s1]) lk_X9_90 rfl cal_X9_demand vir_X9_demand (Nat.le_of_ble_eq_true rfl) (Nat.le_of_ble_eq_true rfl) rfl rfl rfl (Nat.le_of_ble_eq_true rfl) rfl dX9_fewest_15 (fun _ e => m_X9_demand s0 s1 h _ e) (fun h1 => ?_)
  refine Y.op (pc' := 19) (fun _ => X.aloadn rfl dX9_fewest_18) ?_
  refine Y.callVi (As := []) lk_X9_201 rfl cal_X9_makeMost vir_X9_makeMost (Nat.le_of_ble_eq_true rfl) (Nat.le_of_ble_eq_true rfl) rfl rfl rfl (Nat.le_of_ble_eq_true rfl) dX9_fewest_19 (fun _ e => m_X9_makeMost x0 h1 _ _ e) (fun r2 => ?_)
  refine Y.ifne 27 (by decide) dX9_fewest_22 ?_ ?_
  · refine Y.op (pc' := 28) (fun _ => X.aloadn rfl dX9_fewest_27) ?_
    refine Y.callVi (As := []) lk_X9_266 rfl cal_X9_firstAlways vir_X9_firstAlways (Nat.le_of_ble_eq_true rfl) (Nat.le_of_ble_eq_true rfl) rfl rfl rfl (Nat.le_of_ble_eq_true rfl) dX9_fewest_28 (fun _ e => m_X9_firstAlways x0 r2.2 _ _ e) (fun r3 => ?_)
    refine Y.op (pc' := 32) (loc' := [some (.ref x0), some (.int x1), some (.int r3.1), none]) (fun _ => X.istoren (Nat.le_of_ble_eq_true rfl) rfl dX9_fewest_31) ?_
    refine Y.op (pc' := 33) (fun _ => X.iloadn rfl dX9_fewest_32) ?_
    refine Y.op (pc' := 34) (fun _ => X.ic ki_m1 dX9_fewest_33) ?_
    refine Y.cmpeq 47 (by decide) dX9_fewest_34 ?_ ?_
    · refine Y.op (pc' := 48) (fun _ => X.aloadn rfl dX9_fewest_47) ?_
      refine Y.callVi (As := []) lk_X9_269 rfl cal_X9_firstOfTwo vir_X9_firstOfTwo (Nat.le_of_ble_eq_true rfl) (Nat.le_of_ble_eq_true rfl) rfl rfl rfl (Nat.le_of_ble_eq_true rfl) dX9_fewest_48 (fun _ e => m_X9_firstOfTwo x0 r3.2 _ _ e) (fun r4 => ?_)
      refine Y.op (pc' := 52) (loc' := [some (.ref x0), some (.int x1), some (.int r3.1), some (.int r4.1)]) (fun _ => X.istoren (Nat.le_of_ble_eq_true rfl) rfl dX9_fewest_51) ?_
      refine Y.op (pc' := 53) (fun _ => X.iloadn rfl dX9_fewest_52) ?_
      refine Y.op (pc' := 54) (fun _ => X.ic ki_m1 dX9_fewest_53) ?_
      refine Y.cmpeq 67 (by decide) dX9_fewest_54 ?_ ?_
      · refine Y.op (pc' := 68) (fun _ => X.ic ki_m1 dX9_fewest_67) ?_
        exact Y.ireturnx rfl dX9_fewest_68
      · refine Y.op (pc' := 58) (fun _ => X.iloadn rfl dX9_fewest_57) ?_
        refine Y.ifne 65 (by decide) dX9_fewest_58 ?_ ?_
        · refine Y.op (pc' := 66) (fun _ => X.iloadn rfl dX9_fewest_65) ?_
          exact Y.fg (y_X9_fewest_J66 r4.1 r4.2) trivial
        · refine Y.op (pc' := 62) (fun _ => X.ic ki_2 dX9_fewest_61) ?_
          refine Y.op (pc' := 66) (fun _ => X.goto 66 (by decide) dX9_fewest_62) ?_
          exact Y.fg (y_X9_fewest_J66 (2 : Int32) r4.2) trivial
    · refine Y.op (pc' := 38) (fun _ => X.iloadn rfl dX9_fewest_37) ?_
      refine Y.ifne 45 (by decide) dX9_fewest_38 ?_ ?_
      · refine Y.op (pc' := 46) (fun _ => X.iloadn rfl dX9_fewest_45) ?_
        exact Y.fg (y_X9_fewest_J46 r3.1 r3.2) trivial
      · refine Y.op (pc' := 42) (fun _ => X.ic ki_1 dX9_fewest_41) ?_
        refine Y.op (pc' := 46) (fun _ => X.goto 46 (by decide) dX9_fewest_42) ?_
        exact Y.fg (y_X9_fewest_J46 (1 : Int32) r3.2) trivial
  · refine Y.op (pc' := 26) (fun _ => X.ic ki_m1 dX9_fewest_25) ?_
    exact Y.ireturnx rfl dX9_fewest_26
def f_X9_fewest_J10 (x0 : Nat) (x1 : Int32) (s0 : Nat) (h : xH) : Option ((Int32 ⊕ String) × xH) :=
  f_X9_fewest_J15 x0 x1 s0 (1 : Int32) h
theorem y_X9_fewest_J10 {g : xG} {h0 : xH} (x0 : Nat) (x1 : Int32) (s0 : Nat) (h : xH) : Y g DX9_fewest h0 false iIx (f_X9_fewest_J10 x0 x1 s0 h) 10 [some (.ref x0), some (.int x1), none, none] [.ref s0] h := by
  unfold f_X9_fewest_J10
  refine Y.op (pc' := 11) (fun _ => X.ic ki_1 dX9_fewest_10) ?_
  refine Y.op (pc' := 15) (fun _ => X.goto 15 (by decide) dX9_fewest_11) ?_
  exact y_X9_fewest_J15 x0 x1 s0 (1 : Int32) h
def f_X9_fewest (a0 : Nat) (p1 : Int32) (h : xH) : Option ((Int32 ⊕ String) × xH) :=
  if p1 = (0 : Int32) then
    f_X9_fewest_J10 a0 p1 a0 h
  else
    if p1 = (1 : Int32) then
      f_X9_fewest_J10 a0 p1 a0 h
    else
      f_X9_fewest_J15 a0 p1 a0 (0 : Int32) h
theorem y_X9_fewest {g : xG} {h0 : xH} (a0 : Nat) (p1 : Int32) (h : xH) : Y g DX9_fewest h0 false iIx (f_X9_fewest a0 p1 h) 0 [some (.ref a0), some (.int p1), none, none] [] h := by
  unfold f_X9_fewest
  refine Y.op (pc' := 1) (fun _ => X.aloadn rfl dX9_fewest_0) ?_
  refine Y.op (pc' := 2) (fun _ => X.iloadn rfl dX9_fewest_1) ?_
  refine Y.ifeq 10 (by decide) dX9_fewest_2 ?_ ?_
  · exact y_X9_fewest_J10 a0 p1 a0 h
  · refine Y.op (pc' := 6) (fun _ => X.iloadn rfl dX9_fewest_5) ?_
    refine Y.op (pc' := 7) (fun _ => X.ic ki_1 dX9_fewest_6) ?_
    refine Y.cmpne 14 (by decide) dX9_fewest_7 ?_ ?_
    · refine Y.op (pc' := 15) (fun _ => X.ic ki_0 dX9_fewest_14) ?_
      exact y_X9_fewest_J15 a0 p1 a0 (0 : Int32) h
    · exact y_X9_fewest_J10 a0 p1 a0 h
theorem m_X9_fewest {g : xG} (a0 : Nat) (p1 : Int32) (h : xH) (r : (Int32 ⊕ String) × xH) (e : f_X9_fewest a0 p1 h = some r) : XM g DX9_fewest [.ref a0, .int p1] h false (iIx r) := YM.of rfl rfl (Nat.le_of_ble_eq_true rfl) (y_X9_fewest a0 p1 h) e
def f_X9_chosen_J143 (s0 : Int32) (h : xH) : Option ((Int32 ⊕ String) × xH) :=
  some (.inl s0, h)
theorem y_X9_chosen_J143 {g : xG} {h0 : xH} (s0 : Int32) (h : xH) : Y g DX9_chosen h0 false iIx (f_X9_chosen_J143 s0 h) 143 [none, none, none, none, none, none, none] [.int s0] h := by
  unfold f_X9_chosen_J143
  exact Y.ireturnx rfl dX9_chosen_143
def f_X9_chosen_J133 (x1 : Int32) (x3 : Int32) (x4 : Int32) (h : xH) : Option ((Int32 ⊕ String) × xH) :=
  if x1 = (0 : Int32) then
    f_X9_chosen_J143 x3 h
  else
    f_X9_chosen_J143 x4 h
theorem y_X9_chosen_J133 {g : xG} {h0 : xH} (x1 : Int32) (x3 : Int32) (x4 : Int32) (h : xH) : Y g DX9_chosen h0 false iIx (f_X9_chosen_J133 x1 x3 x4 h) 133 [none, some (.int x1), none, some (.int x3), some (.int x4), none, none] [] h := by
  unfold f_X9_chosen_J133
  refine Y.op (pc' := 134) (fun _ => X.iloadn rfl dX9_chosen_133) ?_
  refine Y.ifne 141 (by decide) dX9_chosen_134 ?_ ?_
  · refine Y.op (pc' := 143) (fun _ => X.iload rfl dX9_chosen_141) ?_
    exact Y.fg (y_X9_chosen_J143 x4 h) trivial
  · refine Y.op (pc' := 138) (fun _ => X.iloadn rfl dX9_chosen_137) ?_
    refine Y.op (pc' := 143) (fun _ => X.goto 143 (by decide) dX9_chosen_138) ?_
    exact Y.fg (y_X9_chosen_J143 x3 h) trivial
def f_X9_chosen_J127 (kH : Nat → Int32 → Int32 → Int32 → Int32 → Int32 → xH → Option ((Int32 ⊕ String) × xH)) (kE133 : Int32 → Int32 → Int32 → xH → Option ((Int32 ⊕ String) × xH)) (x0 : Nat) (x1 : Int32) (x2 : Int32) (x3 : Int32) (x4 : Int32) (x5 : Int32) (h : xH) : Option ((Int32 ⊕ String) × xH) :=
  lt (x5 + (1 : Int32)) fun v1 =>
  kH x0 x1 x2 x3 x4 v1 h
theorem y_X9_chosen_J127 {g : xG} {h0 : xH} {kH : Nat → Int32 → Int32 → Int32 → Int32 → Int32 → xH → Option ((Int32 ⊕ String) × xH)} {kE133 : Int32 → Int32 → Int32 → xH → Option ((Int32 ⊕ String) × xH)} (hkH : ∀ (x0 : Nat) (x1 : Int32) (x2 : Int32) (x3 : Int32) (x4 : Int32) (x5 : Int32) (h : xH), Y g DX9_chosen h0 false iIx (kH x0 x1 x2 x3 x4 x5 h) 55 [some (.ref x0), some (.int x1), some (.int x2), some (.int x3), some (.int x4), some (.int x5), none] [] h) (hkE133 : ∀ (x1 : Int32) (x3 : Int32) (x4 : Int32) (h : xH), Y g DX9_chosen h0 false iIx (kE133 x1 x3 x4 h) 133 [none, some (.int x1), none, some (.int x3), some (.int x4), none, none] [] h) (x0 : Nat) (x1 : Int32) (x2 : Int32) (x3 : Int32) (x4 : Int32) (x5 : Int32) (h : xH) : Y g DX9_chosen h0 false iIx (f_X9_chosen_J127 kH kE133 x0 x1 x2 x3 x4 x5 h) 127 [some (.ref x0), some (.int x1), some (.int x2), some (.int x3), some (.int x4), some (.int x5), none] [] h := by
  unfold f_X9_chosen_J127
  refine Y.iinc (i := 5) (loc' := fun v1 => [some (.ref x0), some (.int x1), some (.int x2), some (.int x3), some (.int x4), some (.int v1), none]) rfl (Nat.le_of_ble_eq_true rfl) ki_1 (fun _ => rfl) dX9_chosen_127 (fun v1 => ?_)
  refine Y.op (pc' := 55) (fun _ => X.goto 55 (by decide) dX9_chosen_130) ?_
  exact hkH x0 x1 x2 x3 x4 v1 h
def f_X9_chosen_L55 (kE133 : Int32 → Int32 → Int32 → xH → Option ((Int32 ⊕ String) × xH)) : Nat → Nat → Int32 → Int32 → Int32 → Int32 → Int32 → xH → Option ((Int32 ⊕ String) × xH)
  | 0 => fun _ _ _ _ _ _ _ => none
  | n + 1 => fun x0 x1 x2 x3 x4 x5 h =>
    if x5 ≥ (12 : Int32) then
      kE133 x1 x3 x4 h
    else
      if x2 = (0 : Int32) then
        kE133 x1 x3 x4 h
      else
        (gR h 9 x0 0).bind fun v1 =>
        (vc h 0 v1 (f_X0_heaviest v1 x2 h)).bind fun r2 =>
        (f_X9_bit r2.1 r2.2).bind fun r3 =>
        lt ((x2 &&& (r3.1 ^^^ (-1 : Int32)))) fun v4 =>
        (gR r3.2 9 x0 4).bind fun v5 =>
        (vc r3.2 7 v5 (f_X7_find v5 r2.1 r3.2)).bind fun r6 =>
        if r6.1 ≤ (0 : Int32) then
          f_X9_chosen_J127 (f_X9_chosen_L55 kE133 n) kE133 x0 x1 v4 x3 x4 x5 r6.2
        else
          (gR r6.2 9 x0 4).bind fun v7 =>
          (vc r6.2 7 v7 (f_X7_follow v7 r6.2)).bind fun h8 =>
          (f_X9_bit r2.1 h8).bind fun r9 =>
          lt ((x3 ||| r9.1)) fun v10 =>
          (gR r9.2 9 x0 0).bind fun v11 =>
          (vc r9.2 0 v11 (f_X0_weightOf v11 r2.1 r9.2)).bind fun r12 =>
          lt ((x4 + r12.1)) fun v13 =>
          f_X9_chosen_J127 (f_X9_chosen_L55 kE133 n) kE133 x0 x1 v4 v10 v13 x5 r12.2
theorem y_X9_chosen_L55 {g : xG} {h0 : xH} {kE133 : Int32 → Int32 → Int32 → xH → Option ((Int32 ⊕ String) × xH)} (hkE133 : ∀ (x1 : Int32) (x3 : Int32) (x4 : Int32) (h : xH), Y g DX9_chosen h0 false iIx (kE133 x1 x3 x4 h) 133 [none, some (.int x1), none, some (.int x3), some (.int x4), none, none] [] h) : ∀ (n : Nat) (x0 : Nat) (x1 : Int32) (x2 : Int32) (x3 : Int32) (x4 : Int32) (x5 : Int32) (h : xH), Y g DX9_chosen h0 false iIx (f_X9_chosen_L55 kE133 n x0 x1 x2 x3 x4 x5 h) 55 [some (.ref x0), some (.int x1), some (.int x2), some (.int x3), some (.int x4), some (.int x5), none] [] h := by
  intro n
  induction n with
  | zero => intro x0 x1 x2 x3 x4 x5 h; exact Y.nothing
  | succ n ih =>
    intro x0 x1 x2 x3 x4 x5 h
    unfold f_X9_chosen_L55
    refine Y.op (pc' := 57) (fun _ => X.iload rfl dX9_chosen_55) ?_
    refine Y.op (pc' := 59) (fun _ => X.bp kb_12 dX9_chosen_57) ?_
    refine Y.cmpge 133 (by decide) dX9_chosen_59 ?_ ?_
    · exact Y.fg (hkE133 x1 x3 x4 h) (And.intro rfl (And.intro rfl (And.intro rfl trivial)))
    · refine Y.op (pc' := 63) (fun _ => X.iloadn rfl dX9_chosen_62) ?_
      refine Y.ifeq 133 (by decide) dX9_chosen_63 ?_ ?_
      · exact Y.fg (hkE133 x1 x3 x4 h) (And.intro rfl (And.intro rfl (And.intro rfl trivial)))
      · refine Y.op (pc' := 67) (fun _ => X.aloadn rfl dX9_chosen_66) ?_
        refine Y.getR fd_X9_12 rfl dX9_chosen_67 (fun v1 => ?_)
        refine Y.op (pc' := 71) (fun _ => X.iloadn rfl dX9_chosen_70) ?_
        refine Y.callVi (As := [.int x2]) lk_X9_275 rfl cal_X0_heaviest vir_X0_heaviest (Nat.le_of_ble_eq_true rfl) (Nat.le_of_ble_eq_true rfl) rfl rfl rfl (Nat.le_of_ble_eq_true rfl) dX9_chosen_71 (fun _ e => m_X0_heaviest v1 x2 h _ _ e) (fun r2 => ?_)
        refine Y.op (pc' := 76) (loc' := [some (.ref x0), some (.int x1), some (.int x2), some (.int x3), some (.int x4), some (.int x5), some (.int r2.1)]) (fun _ => X.istore (Nat.le_of_ble_eq_true rfl) rfl dX9_chosen_74) ?_
        refine Y.op (pc' := 77) (fun _ => X.iloadn rfl dX9_chosen_76) ?_
        refine Y.op (pc' := 79) (fun _ => X.iload rfl dX9_chosen_77) ?_
        refine Y.callSi (As := [.int r2.1]) lk_X9_278 rfl cal_X9_bit sta_X9_bit (Nat.le_of_ble_eq_true rfl) rfl rfl (Nat.le_of_ble_eq_true rfl) dX9_chosen_79 (fun _ e => m_X9_bit r2.1 r2.2 _ _ e) (fun r3 => ?_)
        refine Y.op (pc' := 83) (fun _ => X.ic ki_m1 dX9_chosen_82) ?_
        refine Y.op (pc' := 84) (fun _ => X.ixor dX9_chosen_83) ?_
        refine Y.op (pc' := 85) (fun _ => X.iand dX9_chosen_84) ?_
        refine Y.top (fun v4 => ?_)
        refine Y.op (pc' := 86) (loc' := [some (.ref x0), some (.int x1), some (.int v4), some (.int x3), some (.int x4), some (.int x5), some (.int r2.1)]) (fun _ => X.istoren (Nat.le_of_ble_eq_true rfl) rfl dX9_chosen_85) ?_
        refine Y.op (pc' := 87) (fun _ => X.aloadn rfl dX9_chosen_86) ?_
        refine Y.getR fd_X9_36 rfl dX9_chosen_87 (fun v5 => ?_)
        refine Y.op (pc' := 92) (fun _ => X.iload rfl dX9_chosen_90) ?_
        refine Y.callVi (As := [.int r2.1]) lk_X9_179 rfl cal_X7_find vir_X7_find (Nat.le_of_ble_eq_true rfl) (Nat.le_of_ble_eq_true rfl) rfl rfl rfl (Nat.le_of_ble_eq_true rfl) dX9_chosen_92 (fun _ e => m_X7_find v5 r2.1 r3.2 _ _ e) (fun r6 => ?_)
        refine Y.ifle 127 (by decide) dX9_chosen_95 ?_ ?_
        · exact Y.fg (y_X9_chosen_J127 ih hkE133 x0 x1 v4 x3 x4 x5 r6.2) (And.intro rfl (And.intro rfl (And.intro rfl (And.intro rfl (And.intro rfl (And.intro rfl trivial))))))
        · refine Y.op (pc' := 99) (fun _ => X.aloadn rfl dX9_chosen_98) ?_
          refine Y.getR fd_X9_36 rfl dX9_chosen_99 (fun v7 => ?_)
          refine Y.callVv (As := []) lk_X9_281 rfl cal_X7_follow vir_X7_follow (Nat.le_of_ble_eq_true rfl) (Nat.le_of_ble_eq_true rfl) rfl rfl rfl (Nat.le_of_ble_eq_true rfl) dX9_chosen_102 (fun _ e => m_X7_follow v7 r6.2 _ _ e) (fun h8 => ?_)
          refine Y.op (pc' := 106) (fun _ => X.iloadn rfl dX9_chosen_105) ?_
          refine Y.op (pc' := 108) (fun _ => X.iload rfl dX9_chosen_106) ?_
          refine Y.callSi (As := [.int r2.1]) lk_X9_278 rfl cal_X9_bit sta_X9_bit (Nat.le_of_ble_eq_true rfl) rfl rfl (Nat.le_of_ble_eq_true rfl) dX9_chosen_108 (fun _ e => m_X9_bit r2.1 h8 _ _ e) (fun r9 => ?_)
          refine Y.op (pc' := 112) (fun _ => X.ior dX9_chosen_111) ?_
          refine Y.top (fun v10 => ?_)
          refine Y.op (pc' := 113) (loc' := [some (.ref x0), some (.int x1), some (.int v4), some (.int v10), some (.int x4), some (.int x5), some (.int r2.1)]) (fun _ => X.istoren (Nat.le_of_ble_eq_true rfl) rfl dX9_chosen_112) ?_
          refine Y.op (pc' := 115) (fun _ => X.iload rfl dX9_chosen_113) ?_
          refine Y.op (pc' := 116) (fun _ => X.aloadn rfl dX9_chosen_115) ?_
          refine Y.getR fd_X9_12 rfl dX9_chosen_116 (fun v11 => ?_)
          refine Y.op (pc' := 121) (fun _ => X.iload rfl dX9_chosen_119) ?_
          refine Y.callVi (As := [.int r2.1]) lk_X9_284 rfl cal_X0_weightOf vir_X0_weightOf (Nat.le_of_ble_eq_true rfl) (Nat.le_of_ble_eq_true rfl) rfl rfl rfl (Nat.le_of_ble_eq_true rfl) dX9_chosen_121 (fun _ e => m_X0_weightOf v11 r2.1 r9.2 _ _ e) (fun r12 => ?_)
          refine Y.op (pc' := 125) (fun _ => X.iadd dX9_chosen_124) ?_
          refine Y.top (fun v13 => ?_)
          refine Y.op (pc' := 127) (loc' := [some (.ref x0), some (.int x1), some (.int v4), some (.int v10), some (.int v13), some (.int x5), some (.int r2.1)]) (fun _ => X.istore (Nat.le_of_ble_eq_true rfl) rfl dX9_chosen_125) ?_
          exact Y.fg (y_X9_chosen_J127 ih hkE133 x0 x1 v4 v10 v13 x5 r12.2) (And.intro rfl (And.intro rfl (And.intro rfl (And.intro rfl (And.intro rfl (And.intro rfl trivial))))))
def f_X9_chosen_J15 (x0 : Nat) (x1 : Int32) (s0 : Nat) (s1 : Int32) (h : xH) : Option ((Int32 ⊕ String) × xH) :=
  (vc h 9 s0 (f_X9_demand s0 s1 h)).bind fun r => thr r fun h1 =>
  (gR h1 9 x0 4).bind fun v2 =>
  (gR h1 9 x0 0).bind fun v3 =>
  (vc h1 7 v2 (f_X7_load v2 v3 h1)).bind fun h4 =>
  (gR h4 9 x0 4).bind fun v5 =>
  (gR h4 7 v5 0).bind fun v6 =>
  (vc h4 3 v6 (f_X3_clear v6 h4)).bind fun h7 =>
  (gR h7 9 x0 0).bind fun v8 =>
  (gI h7 0 v8 2).bind fun v9 =>
  f_X9_chosen_L55 (f_X9_chosen_J133) 5000 x0 x1 v9 (0 : Int32) (0 : Int32) (0 : Int32) h7
theorem y_X9_chosen_J15 {g : xG} {h0 : xH} (x0 : Nat) (x1 : Int32) (s0 : Nat) (s1 : Int32) (h : xH) : Y g DX9_chosen h0 false iIx (f_X9_chosen_J15 x0 x1 s0 s1 h) 15 [some (.ref x0), some (.int x1), none, none, none, none, none] [.int s1, .ref s0] h := by
  unfold f_X9_chosen_J15
  refine Y.callVx (As := [.int s1]) lk_X9_90 rfl cal_X9_demand vir_X9_demand (Nat.le_of_ble_eq_true rfl) (Nat.le_of_ble_eq_true rfl) rfl rfl rfl (Nat.le_of_ble_eq_true rfl) rfl dX9_chosen_15 (fun _ e => m_X9_demand s0 s1 h _ e) (fun h1 => ?_)
  refine Y.op (pc' := 19) (fun _ => X.aloadn rfl dX9_chosen_18) ?_
  refine Y.getR fd_X9_36 rfl dX9_chosen_19 (fun v2 => ?_)
  refine Y.op (pc' := 23) (fun _ => X.aloadn rfl dX9_chosen_22) ?_
  refine Y.getR fd_X9_12 rfl dX9_chosen_23 (fun v3 => ?_)
  refine Y.callVv (As := [.ref v3]) lk_X9_170 rfl cal_X7_load vir_X7_load (Nat.le_of_ble_eq_true rfl) (Nat.le_of_ble_eq_true rfl) rfl rfl rfl (Nat.le_of_ble_eq_true rfl) dX9_chosen_26 (fun _ e => m_X7_load v2 v3 h1 _ _ e) (fun h4 => ?_)
  refine Y.op (pc' := 30) (fun _ => X.aloadn rfl dX9_chosen_29) ?_
  refine Y.getR fd_X9_36 rfl dX9_chosen_30 (fun v5 => ?_)
  refine Y.getR fd_X9_197 rfl dX9_chosen_33 (fun v6 => ?_)
  refine Y.callVv (As := []) lk_X9_272 rfl cal_X3_clear vir_X3_clear (Nat.le_of_ble_eq_true rfl) (Nat.le_of_ble_eq_true rfl) rfl rfl rfl (Nat.le_of_ble_eq_true rfl) dX9_chosen_36 (fun _ e => m_X3_clear v6 h4 _ _ e) (fun h7 => ?_)
  refine Y.op (pc' := 40) (fun _ => X.aloadn rfl dX9_chosen_39) ?_
  refine Y.getR fd_X9_12 rfl dX9_chosen_40 (fun v8 => ?_)
  refine Y.getI fd_X9_131 rfl dX9_chosen_43 (fun v9 => ?_)
  refine Y.op (pc' := 47) (loc' := [some (.ref x0), some (.int x1), some (.int v9), none, none, none, none]) (fun _ => X.istoren (Nat.le_of_ble_eq_true rfl) rfl dX9_chosen_46) ?_
  refine Y.op (pc' := 48) (fun _ => X.ic ki_0 dX9_chosen_47) ?_
  refine Y.op (pc' := 49) (loc' := [some (.ref x0), some (.int x1), some (.int v9), some (.int (0 : Int32)), none, none, none]) (fun _ => X.istoren (Nat.le_of_ble_eq_true rfl) rfl dX9_chosen_48) ?_
  refine Y.op (pc' := 50) (fun _ => X.ic ki_0 dX9_chosen_49) ?_
  refine Y.op (pc' := 52) (loc' := [some (.ref x0), some (.int x1), some (.int v9), some (.int (0 : Int32)), some (.int (0 : Int32)), none, none]) (fun _ => X.istore (Nat.le_of_ble_eq_true rfl) rfl dX9_chosen_50) ?_
  refine Y.op (pc' := 53) (fun _ => X.ic ki_0 dX9_chosen_52) ?_
  refine Y.op (pc' := 55) (loc' := [some (.ref x0), some (.int x1), some (.int v9), some (.int (0 : Int32)), some (.int (0 : Int32)), some (.int (0 : Int32)), none]) (fun _ => X.istore (Nat.le_of_ble_eq_true rfl) rfl dX9_chosen_53) ?_
  exact y_X9_chosen_L55 (y_X9_chosen_J133) 5000 x0 x1 v9 (0 : Int32) (0 : Int32) (0 : Int32) h7
def f_X9_chosen_J10 (x0 : Nat) (x1 : Int32) (s0 : Nat) (h : xH) : Option ((Int32 ⊕ String) × xH) :=
  f_X9_chosen_J15 x0 x1 s0 (1 : Int32) h
theorem y_X9_chosen_J10 {g : xG} {h0 : xH} (x0 : Nat) (x1 : Int32) (s0 : Nat) (h : xH) : Y g DX9_chosen h0 false iIx (f_X9_chosen_J10 x0 x1 s0 h) 10 [some (.ref x0), some (.int x1), none, none, none, none, none] [.ref s0] h := by
  unfold f_X9_chosen_J10
  refine Y.op (pc' := 11) (fun _ => X.ic ki_1 dX9_chosen_10) ?_
  refine Y.op (pc' := 15) (fun _ => X.goto 15 (by decide) dX9_chosen_11) ?_
  exact y_X9_chosen_J15 x0 x1 s0 (1 : Int32) h
def f_X9_chosen (a0 : Nat) (p1 : Int32) (h : xH) : Option ((Int32 ⊕ String) × xH) :=
  if p1 = (0 : Int32) then
    f_X9_chosen_J10 a0 p1 a0 h
  else
    if p1 = (1 : Int32) then
      f_X9_chosen_J10 a0 p1 a0 h
    else
      f_X9_chosen_J15 a0 p1 a0 (0 : Int32) h
theorem y_X9_chosen {g : xG} {h0 : xH} (a0 : Nat) (p1 : Int32) (h : xH) : Y g DX9_chosen h0 false iIx (f_X9_chosen a0 p1 h) 0 [some (.ref a0), some (.int p1), none, none, none, none, none] [] h := by
  unfold f_X9_chosen
  refine Y.op (pc' := 1) (fun _ => X.aloadn rfl dX9_chosen_0) ?_
  refine Y.op (pc' := 2) (fun _ => X.iloadn rfl dX9_chosen_1) ?_
  refine Y.ifeq 10 (by decide) dX9_chosen_2 ?_ ?_
  · exact y_X9_chosen_J10 a0 p1 a0 h
  · refine Y.op (pc' := 6) (fun _ => X.iloadn rfl dX9_chosen_5) ?_
    refine Y.op (pc' := 7) (fun _ => X.ic ki_1 dX9_chosen_6) ?_
    refine Y.cmpne 14 (by decide) dX9_chosen_7 ?_ ?_
    · refine Y.op (pc' := 15) (fun _ => X.ic ki_0 dX9_chosen_14) ?_
      exact y_X9_chosen_J15 a0 p1 a0 (0 : Int32) h
    · exact y_X9_chosen_J10 a0 p1 a0 h
theorem m_X9_chosen {g : xG} (a0 : Nat) (p1 : Int32) (h : xH) (r : (Int32 ⊕ String) × xH) (e : f_X9_chosen a0 p1 h = some r) : XM g DX9_chosen [.ref a0, .int p1] h false (iIx r) := YM.of rfl rfl (Nat.le_of_ble_eq_true rfl) (y_X9_chosen a0 p1 h) e
def f_X9_rounds (a0 : Nat) (h : xH) : Option (Int32 × xH) :=
  (gR h 9 a0 8).bind fun v1 =>
  (gR h 9 a0 0).bind fun v2 =>
  (vc h 1 v1 (f_X1_fill v1 v2 h)).bind fun h3 =>
  (gR h3 9 a0 8).bind fun v4 =>
  (gI h3 1 v4 5).bind fun v5 =>
  some (v5, h3)
theorem y_X9_rounds {g : xG} {h0 : xH} {cl : Bool} (a0 : Nat) (h : xH) : Y g DX9_rounds h0 cl iI (f_X9_rounds a0 h) 0 [some (.ref a0)] [] h := by
  unfold f_X9_rounds
  refine Y.op (pc' := 1) (fun _ => X.aloadn rfl dX9_rounds_0) ?_
  refine Y.getR fd_X9_64 rfl dX9_rounds_1 (fun v1 => ?_)
  refine Y.op (pc' := 5) (fun _ => X.aloadn rfl dX9_rounds_4) ?_
  refine Y.getR fd_X9_12 rfl dX9_rounds_5 (fun v2 => ?_)
  refine Y.callVv (As := [.ref v2]) lk_X9_287 rfl cal_X1_fill vir_X1_fill (Nat.le_of_ble_eq_true rfl) (Nat.le_of_ble_eq_true rfl) rfl rfl rfl (Nat.le_of_ble_eq_true rfl) dX9_rounds_8 (fun _ e => m_X1_fill v1 v2 h _ _ e) (fun h3 => ?_)
  refine Y.op (pc' := 12) (fun _ => X.aloadn rfl dX9_rounds_11) ?_
  refine Y.getR fd_X9_64 rfl dX9_rounds_12 (fun v4 => ?_)
  refine Y.getI fd_X9_290 rfl dX9_rounds_15 (fun v5 => ?_)
  exact Y.ireturn rfl dX9_rounds_18
theorem m_X9_rounds {g : xG} (a0 : Nat) (h : xH) (cl : Bool) (r : Int32 × xH) (e : f_X9_rounds a0 h = some r) : XM g DX9_rounds [.ref a0] h cl (iI r) := YM.of rfl rfl (Nat.le_of_ble_eq_true rfl) (y_X9_rounds a0 h) e
def f_X9_round (a0 : Nat) (p1 : Int32) (p2 : Int32) (h : xH) : Option ((Int32 ⊕ String) × xH) :=
  (gR h 9 a0 0).bind fun v1 =>
  (vc h 0 v1 (f_X0_knowsBoth v1 p1 p2 h)).bind fun r2 =>
  (vc r2.2 9 a0 (f_X9_demandPlace a0 r2.1 r2.2)).bind fun r => thr r fun h3 =>
  (gR h3 9 a0 8).bind fun v4 =>
  (gR h3 9 a0 0).bind fun v5 =>
  (vc h3 1 v4 (f_X1_fill v4 v5 h3)).bind fun h6 =>
  (gR h6 9 a0 8).bind fun v7 =>
  (vc h6 1 v7 (f_X1_roundOf v7 p1 p2 h6)).bind fun r8 =>
  some (.inl r8.1, r8.2)
theorem y_X9_round {g : xG} {h0 : xH} (a0 : Nat) (p1 : Int32) (p2 : Int32) (h : xH) : Y g DX9_round h0 false iIx (f_X9_round a0 p1 p2 h) 0 [some (.ref a0), some (.int p1), some (.int p2)] [] h := by
  unfold f_X9_round
  refine Y.op (pc' := 1) (fun _ => X.aloadn rfl dX9_round_0) ?_
  refine Y.op (pc' := 2) (fun _ => X.aloadn rfl dX9_round_1) ?_
  refine Y.getR fd_X9_12 rfl dX9_round_2 (fun v1 => ?_)
  refine Y.op (pc' := 6) (fun _ => X.iloadn rfl dX9_round_5) ?_
  refine Y.op (pc' := 7) (fun _ => X.iloadn rfl dX9_round_6) ?_
  refine Y.callVi (As := [.int p1, .int p2]) lk_X9_157 rfl cal_X0_knowsBoth vir_X0_knowsBoth (Nat.le_of_ble_eq_true rfl) (Nat.le_of_ble_eq_true rfl) rfl rfl rfl (Nat.le_of_ble_eq_true rfl) dX9_round_7 (fun _ e => m_X0_knowsBoth v1 p1 p2 h _ _ e) (fun r2 => ?_)
  refine Y.callVx (As := [.int r2.1]) lk_X9_150 rfl cal_X9_demandPlace vir_X9_demandPlace (Nat.le_of_ble_eq_true rfl) (Nat.le_of_ble_eq_true rfl) rfl rfl rfl (Nat.le_of_ble_eq_true rfl) rfl dX9_round_10 (fun _ e => m_X9_demandPlace a0 r2.1 r2.2 _ e) (fun h3 => ?_)
  refine Y.op (pc' := 14) (fun _ => X.aloadn rfl dX9_round_13) ?_
  refine Y.getR fd_X9_64 rfl dX9_round_14 (fun v4 => ?_)
  refine Y.op (pc' := 18) (fun _ => X.aloadn rfl dX9_round_17) ?_
  refine Y.getR fd_X9_12 rfl dX9_round_18 (fun v5 => ?_)
  refine Y.callVv (As := [.ref v5]) lk_X9_287 rfl cal_X1_fill vir_X1_fill (Nat.le_of_ble_eq_true rfl) (Nat.le_of_ble_eq_true rfl) rfl rfl rfl (Nat.le_of_ble_eq_true rfl) dX9_round_21 (fun _ e => m_X1_fill v4 v5 h3 _ _ e) (fun h6 => ?_)
  refine Y.op (pc' := 25) (fun _ => X.aloadn rfl dX9_round_24) ?_
  refine Y.getR fd_X9_64 rfl dX9_round_25 (fun v7 => ?_)
  refine Y.op (pc' := 29) (fun _ => X.iloadn rfl dX9_round_28) ?_
  refine Y.op (pc' := 30) (fun _ => X.iloadn rfl dX9_round_29) ?_
  refine Y.callVi (As := [.int p1, .int p2]) lk_X9_293 rfl cal_X1_roundOf vir_X1_roundOf (Nat.le_of_ble_eq_true rfl) (Nat.le_of_ble_eq_true rfl) rfl rfl rfl (Nat.le_of_ble_eq_true rfl) dX9_round_30 (fun _ e => m_X1_roundOf v7 p1 p2 h6 _ _ e) (fun r8 => ?_)
  exact Y.ireturnx rfl dX9_round_33
theorem m_X9_round {g : xG} (a0 : Nat) (p1 : Int32) (p2 : Int32) (h : xH) (r : (Int32 ⊕ String) × xH) (e : f_X9_round a0 p1 p2 h = some r) : XM g DX9_round [.ref a0, .int p1, .int p2] h false (iIx r) := YM.of rfl rfl (Nat.le_of_ble_eq_true rfl) (y_X9_round a0 p1 p2 h) e
def f_X9_beginAct (a0 : Nat) (h : xH) : Option (xH) :=
  (gR h 9 a0 2).bind fun v1 =>
  (gR h 9 a0 0).bind fun v2 =>
  (vc h 2 v1 (f_X2_save v1 v2 h)).bind fun h3 =>
  (pZ h3 9 a0 9 (0 : Int32)).bind fun h4 =>
  some h4
theorem y_X9_beginAct {g : xG} {h0 : xH} {cl : Bool} (a0 : Nat) (h : xH) : Y g DX9_beginAct h0 cl iV (f_X9_beginAct a0 h) 0 [some (.ref a0)] [] h := by
  unfold f_X9_beginAct
  refine Y.op (pc' := 1) (fun _ => X.aloadn rfl dX9_beginAct_0) ?_
  refine Y.getR fd_X9_22 rfl dX9_beginAct_1 (fun v1 => ?_)
  refine Y.op (pc' := 5) (fun _ => X.aloadn rfl dX9_beginAct_4) ?_
  refine Y.getR fd_X9_12 rfl dX9_beginAct_5 (fun v2 => ?_)
  refine Y.callVv (As := [.ref v2]) lk_X9_352 rfl cal_X2_save vir_X2_save (Nat.le_of_ble_eq_true rfl) (Nat.le_of_ble_eq_true rfl) rfl rfl rfl (Nat.le_of_ble_eq_true rfl) dX9_beginAct_8 (fun _ e => m_X2_save v1 v2 h _ _ e) (fun h3 => ?_)
  refine Y.op (pc' := 12) (fun _ => X.aloadn rfl dX9_beginAct_11) ?_
  refine Y.op (pc' := 13) (fun _ => X.ic ki_0 dX9_beginAct_12) ?_
  refine Y.putZ fd_X9_68 rfl dX9_beginAct_13 (fun h4 => ?_)
  exact Y.vreturn rfl dX9_beginAct_16
theorem m_X9_beginAct {g : xG} (a0 : Nat) (h : xH) (cl : Bool) (r : xH) (e : f_X9_beginAct a0 h = some r) : XM g DX9_beginAct [.ref a0] h cl (iV r) := YM.of rfl rfl (Nat.le_of_ble_eq_true rfl) (y_X9_beginAct a0 h) e
def f_X9_add_J29 (x0 : Nat) (x1 : Int32) (x2 : Int32) (x3 : Int32) (s0 : Nat) (s1 : Int32) (h : xH) : Option ((Int32 ⊕ String) × xH) :=
  (vc h 9 s0 (f_X9_demand s0 s1 h)).bind fun r => thr r fun h1 =>
  (vc h1 9 x0 (f_X9_beginAct x0 h1)).bind fun h2 =>
  (gR h2 9 x0 0).bind fun v3 =>
  (vc h2 0 v3 (f_X0_costOf v3 x1 x2 h2)).bind fun r4 =>
  (gR r4.2 9 x0 0).bind fun v5 =>
  (vc r4.2 0 v5 (f_X0_setFit v5 x1 x2 x3 r4.2)).bind fun h6 =>
  (vc h6 9 x0 (f_X9_keepUp x0 h6)).bind fun h7 =>
  some (.inl r4.1, h7)
theorem y_X9_add_J29 {g : xG} {h0 : xH} (x0 : Nat) (x1 : Int32) (x2 : Int32) (x3 : Int32) (s0 : Nat) (s1 : Int32) (h : xH) : Y g DX9_add h0 false iIx (f_X9_add_J29 x0 x1 x2 x3 s0 s1 h) 29 [some (.ref x0), some (.int x1), some (.int x2), some (.int x3), none] [.int s1, .ref s0] h := by
  unfold f_X9_add_J29
  refine Y.callVx (As := [.int s1]) lk_X9_90 rfl cal_X9_demand vir_X9_demand (Nat.le_of_ble_eq_true rfl) (Nat.le_of_ble_eq_true rfl) rfl rfl rfl (Nat.le_of_ble_eq_true rfl) rfl dX9_add_29 (fun _ e => m_X9_demand s0 s1 h _ e) (fun h1 => ?_)
  refine Y.op (pc' := 33) (fun _ => X.aloadn rfl dX9_add_32) ?_
  refine Y.callVv (As := []) lk_X9_296 rfl cal_X9_beginAct vir_X9_beginAct (Nat.le_of_ble_eq_true rfl) (Nat.le_of_ble_eq_true rfl) rfl rfl rfl (Nat.le_of_ble_eq_true rfl) dX9_add_33 (fun _ e => m_X9_beginAct x0 h1 _ _ e) (fun h2 => ?_)
  refine Y.op (pc' := 37) (fun _ => X.aloadn rfl dX9_add_36) ?_
  refine Y.getR fd_X9_12 rfl dX9_add_37 (fun v3 => ?_)
  refine Y.op (pc' := 41) (fun _ => X.iloadn rfl dX9_add_40) ?_
  refine Y.op (pc' := 42) (fun _ => X.iloadn rfl dX9_add_41) ?_
  refine Y.callVi (As := [.int x1, .int x2]) lk_X9_160 rfl cal_X0_costOf vir_X0_costOf (Nat.le_of_ble_eq_true rfl) (Nat.le_of_ble_eq_true rfl) rfl rfl rfl (Nat.le_of_ble_eq_true rfl) dX9_add_42 (fun _ e => m_X0_costOf v3 x1 x2 h2 _ _ e) (fun r4 => ?_)
  refine Y.op (pc' := 47) (loc' := [some (.ref x0), some (.int x1), some (.int x2), some (.int x3), some (.int r4.1)]) (fun _ => X.istore (Nat.le_of_ble_eq_true rfl) rfl dX9_add_45) ?_
  refine Y.op (pc' := 48) (fun _ => X.aloadn rfl dX9_add_47) ?_
  refine Y.getR fd_X9_12 rfl dX9_add_48 (fun v5 => ?_)
  refine Y.op (pc' := 52) (fun _ => X.iloadn rfl dX9_add_51) ?_
  refine Y.op (pc' := 53) (fun _ => X.iloadn rfl dX9_add_52) ?_
  refine Y.op (pc' := 54) (fun _ => X.iloadn rfl dX9_add_53) ?_
  refine Y.callVv (As := [.int x1, .int x2, .int x3]) lk_X9_299 rfl cal_X0_setFit vir_X0_setFit (Nat.le_of_ble_eq_true rfl) (Nat.le_of_ble_eq_true rfl) rfl rfl rfl (Nat.le_of_ble_eq_true rfl) dX9_add_54 (fun _ e => m_X0_setFit v5 x1 x2 x3 r4.2 _ _ e) (fun h6 => ?_)
  refine Y.op (pc' := 58) (fun _ => X.aloadn rfl dX9_add_57) ?_
  refine Y.callVv (As := []) lk_X9_103 rfl cal_X9_keepUp vir_X9_keepUp (Nat.le_of_ble_eq_true rfl) (Nat.le_of_ble_eq_true rfl) rfl rfl rfl (Nat.le_of_ble_eq_true rfl) dX9_add_58 (fun _ e => m_X9_keepUp x0 h6 _ _ e) (fun h7 => ?_)
  refine Y.op (pc' := 63) (fun _ => X.iload rfl dX9_add_61) ?_
  exact Y.ireturnx rfl dX9_add_63
def f_X9_add_J28 (x0 : Nat) (x1 : Int32) (x2 : Int32) (x3 : Int32) (s0 : Nat) (h : xH) : Option ((Int32 ⊕ String) × xH) :=
  f_X9_add_J29 x0 x1 x2 x3 s0 (0 : Int32) h
theorem y_X9_add_J28 {g : xG} {h0 : xH} (x0 : Nat) (x1 : Int32) (x2 : Int32) (x3 : Int32) (s0 : Nat) (h : xH) : Y g DX9_add h0 false iIx (f_X9_add_J28 x0 x1 x2 x3 s0 h) 28 [some (.ref x0), some (.int x1), some (.int x2), some (.int x3), none] [.ref s0] h := by
  unfold f_X9_add_J28
  refine Y.op (pc' := 29) (fun _ => X.ic ki_0 dX9_add_28) ?_
  exact y_X9_add_J29 x0 x1 x2 x3 s0 (0 : Int32) h
def f_X9_add (a0 : Nat) (p1 : Int32) (p2 : Int32) (p3 : Int32) (h : xH) : Option ((Int32 ⊕ String) × xH) :=
  (gR h 9 a0 0).bind fun v1 =>
  (vc h 0 v1 (f_X0_knowsBoth v1 p1 p2 h)).bind fun r2 =>
  (vc r2.2 9 a0 (f_X9_demandPlace a0 r2.1 r2.2)).bind fun r => thr r fun h3 =>
  if p3 < (0 : Int32) then
    f_X9_add_J28 a0 p1 p2 p3 a0 h3
  else
    if p3 > (99 : Int32) then
      f_X9_add_J28 a0 p1 p2 p3 a0 h3
    else
      f_X9_add_J29 a0 p1 p2 p3 a0 (1 : Int32) h3
theorem y_X9_add {g : xG} {h0 : xH} (a0 : Nat) (p1 : Int32) (p2 : Int32) (p3 : Int32) (h : xH) : Y g DX9_add h0 false iIx (f_X9_add a0 p1 p2 p3 h) 0 [some (.ref a0), some (.int p1), some (.int p2), some (.int p3), none] [] h := by
  unfold f_X9_add
  refine Y.op (pc' := 1) (fun _ => X.aloadn rfl dX9_add_0) ?_
  refine Y.op (pc' := 2) (fun _ => X.aloadn rfl dX9_add_1) ?_
  refine Y.getR fd_X9_12 rfl dX9_add_2 (fun v1 => ?_)
  refine Y.op (pc' := 6) (fun _ => X.iloadn rfl dX9_add_5) ?_
  refine Y.op (pc' := 7) (fun _ => X.iloadn rfl dX9_add_6) ?_
  refine Y.callVi (As := [.int p1, .int p2]) lk_X9_157 rfl cal_X0_knowsBoth vir_X0_knowsBoth (Nat.le_of_ble_eq_true rfl) (Nat.le_of_ble_eq_true rfl) rfl rfl rfl (Nat.le_of_ble_eq_true rfl) dX9_add_7 (fun _ e => m_X0_knowsBoth v1 p1 p2 h _ _ e) (fun r2 => ?_)
  refine Y.callVx (As := [.int r2.1]) lk_X9_150 rfl cal_X9_demandPlace vir_X9_demandPlace (Nat.le_of_ble_eq_true rfl) (Nat.le_of_ble_eq_true rfl) rfl rfl rfl (Nat.le_of_ble_eq_true rfl) rfl dX9_add_10 (fun _ e => m_X9_demandPlace a0 r2.1 r2.2 _ e) (fun h3 => ?_)
  refine Y.op (pc' := 14) (fun _ => X.aloadn rfl dX9_add_13) ?_
  refine Y.op (pc' := 15) (fun _ => X.iloadn rfl dX9_add_14) ?_
  refine Y.iflt 28 (by decide) dX9_add_15 ?_ ?_
  · exact y_X9_add_J28 a0 p1 p2 p3 a0 h3
  · refine Y.op (pc' := 19) (fun _ => X.iloadn rfl dX9_add_18) ?_
    refine Y.op (pc' := 21) (fun _ => X.bp kb_99 dX9_add_19) ?_
    refine Y.cmpgt 28 (by decide) dX9_add_21 ?_ ?_
    · exact y_X9_add_J28 a0 p1 p2 p3 a0 h3
    · refine Y.op (pc' := 25) (fun _ => X.ic ki_1 dX9_add_24) ?_
      refine Y.op (pc' := 29) (fun _ => X.goto 29 (by decide) dX9_add_25) ?_
      exact y_X9_add_J29 a0 p1 p2 p3 a0 (1 : Int32) h3
theorem m_X9_add {g : xG} (a0 : Nat) (p1 : Int32) (p2 : Int32) (p3 : Int32) (h : xH) (r : (Int32 ⊕ String) × xH) (e : f_X9_add a0 p1 p2 p3 h = some r) : XM g DX9_add [.ref a0, .int p1, .int p2, .int p3] h false (iIx r) := YM.of rfl rfl (Nat.le_of_ble_eq_true rfl) (y_X9_add a0 p1 p2 p3 h) e
def f_X9_drop (a0 : Nat) (p1 : Int32) (p2 : Int32) (h : xH) : Option ((Int32 ⊕ String) × xH) :=
  (gR h 9 a0 0).bind fun v1 =>
  (vc h 0 v1 (f_X0_knowsBoth v1 p1 p2 h)).bind fun r2 =>
  (vc r2.2 9 a0 (f_X9_demandPlace a0 r2.1 r2.2)).bind fun r => thr r fun h3 =>
  (gR h3 9 a0 0).bind fun v4 =>
  (vc h3 0 v4 (f_X0_isFit v4 p1 p2 h3)).bind fun r5 =>
  (vc r5.2 9 a0 (f_X9_demand a0 r5.1 r5.2)).bind fun r => thr r fun h6 =>
  (vc h6 9 a0 (f_X9_beginAct a0 h6)).bind fun h7 =>
  (gR h7 9 a0 0).bind fun v8 =>
  (vc h7 0 v8 (f_X0_costOf v8 p1 p2 h7)).bind fun r9 =>
  (gR r9.2 9 a0 0).bind fun v10 =>
  (vc r9.2 0 v10 (f_X0_removeFit v10 p1 p2 r9.2)).bind fun h11 =>
  (vc h11 9 a0 (f_X9_keepUp a0 h11)).bind fun h12 =>
  some (.inl r9.1, h12)
theorem y_X9_drop {g : xG} {h0 : xH} (a0 : Nat) (p1 : Int32) (p2 : Int32) (h : xH) : Y g DX9_drop h0 false iIx (f_X9_drop a0 p1 p2 h) 0 [some (.ref a0), some (.int p1), some (.int p2), none] [] h := by
  unfold f_X9_drop
  refine Y.op (pc' := 1) (fun _ => X.aloadn rfl dX9_drop_0) ?_
  refine Y.op (pc' := 2) (fun _ => X.aloadn rfl dX9_drop_1) ?_
  refine Y.getR fd_X9_12 rfl dX9_drop_2 (fun v1 => ?_)
  refine Y.op (pc' := 6) (fun _ => X.iloadn rfl dX9_drop_5) ?_
  refine Y.op (pc' := 7) (fun _ => X.iloadn rfl dX9_drop_6) ?_
  refine Y.callVi (As := [.int p1, .int p2]) lk_X9_157 rfl cal_X0_knowsBoth vir_X0_knowsBoth (Nat.le_of_ble_eq_true rfl) (Nat.le_of_ble_eq_true rfl) rfl rfl rfl (Nat.le_of_ble_eq_true rfl) dX9_drop_7 (fun _ e => m_X0_knowsBoth v1 p1 p2 h _ _ e) (fun r2 => ?_)
  refine Y.callVx (As := [.int r2.1]) lk_X9_150 rfl cal_X9_demandPlace vir_X9_demandPlace (Nat.le_of_ble_eq_true rfl) (Nat.le_of_ble_eq_true rfl) rfl rfl rfl (Nat.le_of_ble_eq_true rfl) rfl dX9_drop_10 (fun _ e => m_X9_demandPlace a0 r2.1 r2.2 _ e) (fun h3 => ?_)
  refine Y.op (pc' := 14) (fun _ => X.aloadn rfl dX9_drop_13) ?_
  refine Y.op (pc' := 15) (fun _ => X.aloadn rfl dX9_drop_14) ?_
  refine Y.getR fd_X9_12 rfl dX9_drop_15 (fun v4 => ?_)
  refine Y.op (pc' := 19) (fun _ => X.iloadn rfl dX9_drop_18) ?_
  refine Y.op (pc' := 20) (fun _ => X.iloadn rfl dX9_drop_19) ?_
  refine Y.callVi (As := [.int p1, .int p2]) lk_X9_303 rfl cal_X0_isFit vir_X0_isFit (Nat.le_of_ble_eq_true rfl) (Nat.le_of_ble_eq_true rfl) rfl rfl rfl (Nat.le_of_ble_eq_true rfl) dX9_drop_20 (fun _ e => m_X0_isFit v4 p1 p2 h3 _ _ e) (fun r5 => ?_)
  refine Y.callVx (As := [.int r5.1]) lk_X9_90 rfl cal_X9_demand vir_X9_demand (Nat.le_of_ble_eq_true rfl) (Nat.le_of_ble_eq_true rfl) rfl rfl rfl (Nat.le_of_ble_eq_true rfl) rfl dX9_drop_23 (fun _ e => m_X9_demand a0 r5.1 r5.2 _ e) (fun h6 => ?_)
  refine Y.op (pc' := 27) (fun _ => X.aloadn rfl dX9_drop_26) ?_
  refine Y.callVv (As := []) lk_X9_296 rfl cal_X9_beginAct vir_X9_beginAct (Nat.le_of_ble_eq_true rfl) (Nat.le_of_ble_eq_true rfl) rfl rfl rfl (Nat.le_of_ble_eq_true rfl) dX9_drop_27 (fun _ e => m_X9_beginAct a0 h6 _ _ e) (fun h7 => ?_)
  refine Y.op (pc' := 31) (fun _ => X.aloadn rfl dX9_drop_30) ?_
  refine Y.getR fd_X9_12 rfl dX9_drop_31 (fun v8 => ?_)
  refine Y.op (pc' := 35) (fun _ => X.iloadn rfl dX9_drop_34) ?_
  refine Y.op (pc' := 36) (fun _ => X.iloadn rfl dX9_drop_35) ?_
  refine Y.callVi (As := [.int p1, .int p2]) lk_X9_160 rfl cal_X0_costOf vir_X0_costOf (Nat.le_of_ble_eq_true rfl) (Nat.le_of_ble_eq_true rfl) rfl rfl rfl (Nat.le_of_ble_eq_true rfl) dX9_drop_36 (fun _ e => m_X0_costOf v8 p1 p2 h7 _ _ e) (fun r9 => ?_)
  refine Y.op (pc' := 40) (loc' := [some (.ref a0), some (.int p1), some (.int p2), some (.int r9.1)]) (fun _ => X.istoren (Nat.le_of_ble_eq_true rfl) rfl dX9_drop_39) ?_
  refine Y.op (pc' := 41) (fun _ => X.aloadn rfl dX9_drop_40) ?_
  refine Y.getR fd_X9_12 rfl dX9_drop_41 (fun v10 => ?_)
  refine Y.op (pc' := 45) (fun _ => X.iloadn rfl dX9_drop_44) ?_
  refine Y.op (pc' := 46) (fun _ => X.iloadn rfl dX9_drop_45) ?_
  refine Y.callVv (As := [.int p1, .int p2]) lk_X9_306 rfl cal_X0_removeFit vir_X0_removeFit (Nat.le_of_ble_eq_true rfl) (Nat.le_of_ble_eq_true rfl) rfl rfl rfl (Nat.le_of_ble_eq_true rfl) dX9_drop_46 (fun _ e => m_X0_removeFit v10 p1 p2 r9.2 _ _ e) (fun h11 => ?_)
  refine Y.op (pc' := 50) (fun _ => X.aloadn rfl dX9_drop_49) ?_
  refine Y.callVv (As := []) lk_X9_103 rfl cal_X9_keepUp vir_X9_keepUp (Nat.le_of_ble_eq_true rfl) (Nat.le_of_ble_eq_true rfl) rfl rfl rfl (Nat.le_of_ble_eq_true rfl) dX9_drop_50 (fun _ e => m_X9_keepUp a0 h11 _ _ e) (fun h12 => ?_)
  refine Y.op (pc' := 54) (fun _ => X.iloadn rfl dX9_drop_53) ?_
  exact Y.ireturnx rfl dX9_drop_54
theorem m_X9_drop {g : xG} (a0 : Nat) (p1 : Int32) (p2 : Int32) (h : xH) (r : (Int32 ⊕ String) × xH) (e : f_X9_drop a0 p1 p2 h = some r) : XM g DX9_drop [.ref a0, .int p1, .int p2] h false (iIx r) := YM.of rfl rfl (Nat.le_of_ble_eq_true rfl) (y_X9_drop a0 p1 p2 h) e
def f_X9_is_J93 (x0 : Nat) (x4 : Int32) (s0 : Nat) (s1 : Int32) (s2 : Int32) (s3 : Int32) (h : xH) : Option ((Int32 ⊕ String) × xH) :=
  (vc h 0 s0 (f_X0_setThere s0 s1 s2 s3 h)).bind fun h1 =>
  (vc h1 9 x0 (f_X9_keepUp x0 h1)).bind fun h2 =>
  some (.inl x4, h2)
theorem y_X9_is_J93 {g : xG} {h0 : xH} (x0 : Nat) (x4 : Int32) (s0 : Nat) (s1 : Int32) (s2 : Int32) (s3 : Int32) (h : xH) : Y g DX9_is h0 false iIx (f_X9_is_J93 x0 x4 s0 s1 s2 s3 h) 93 [some (.ref x0), none, none, none, some (.int x4)] [.int s3, .int s2, .int s1, .ref s0] h := by
  unfold f_X9_is_J93
  refine Y.callVv (As := [.int s1, .int s2, .int s3]) lk_X9_312 rfl cal_X0_setThere vir_X0_setThere (Nat.le_of_ble_eq_true rfl) (Nat.le_of_ble_eq_true rfl) rfl rfl rfl (Nat.le_of_ble_eq_true rfl) dX9_is_93 (fun _ e => m_X0_setThere s0 s1 s2 s3 h _ _ e) (fun h1 => ?_)
  refine Y.op (pc' := 97) (fun _ => X.aloadn rfl dX9_is_96) ?_
  refine Y.callVv (As := []) lk_X9_103 rfl cal_X9_keepUp vir_X9_keepUp (Nat.le_of_ble_eq_true rfl) (Nat.le_of_ble_eq_true rfl) rfl rfl rfl (Nat.le_of_ble_eq_true rfl) dX9_is_97 (fun _ e => m_X9_keepUp x0 h1 _ _ e) (fun h2 => ?_)
  refine Y.op (pc' := 102) (fun _ => X.iload rfl dX9_is_100) ?_
  exact Y.ireturnx rfl dX9_is_102
def f_X9_is_J59 (x0 : Nat) (x1 : Int32) (x2 : Int32) (x3 : Int32) (s0 : Nat) (s1 : Int32) (h : xH) : Option ((Int32 ⊕ String) × xH) :=
  (vc h 9 s0 (f_X9_demand s0 s1 h)).bind fun r => thr r fun h1 =>
  (vc h1 9 x0 (f_X9_beginAct x0 h1)).bind fun h2 =>
  (gR h2 9 x0 0).bind fun v3 =>
  (vc h2 0 v3 (f_X0_partnerOf v3 x1 x2 h2)).bind fun r4 =>
  (gR r4.2 9 x0 0).bind fun v5 =>
  if x3 = (1 : Int32) then
    f_X9_is_J93 x0 r4.1 v5 x1 x2 (1 : Int32) r4.2
  else
    f_X9_is_J93 x0 r4.1 v5 x1 x2 (0 : Int32) r4.2
theorem y_X9_is_J59 {g : xG} {h0 : xH} (x0 : Nat) (x1 : Int32) (x2 : Int32) (x3 : Int32) (s0 : Nat) (s1 : Int32) (h : xH) : Y g DX9_is h0 false iIx (f_X9_is_J59 x0 x1 x2 x3 s0 s1 h) 59 [some (.ref x0), some (.int x1), some (.int x2), some (.int x3), none] [.int s1, .ref s0] h := by
  unfold f_X9_is_J59
  refine Y.callVx (As := [.int s1]) lk_X9_90 rfl cal_X9_demand vir_X9_demand (Nat.le_of_ble_eq_true rfl) (Nat.le_of_ble_eq_true rfl) rfl rfl rfl (Nat.le_of_ble_eq_true rfl) rfl dX9_is_59 (fun _ e => m_X9_demand s0 s1 h _ e) (fun h1 => ?_)
  refine Y.op (pc' := 63) (fun _ => X.aloadn rfl dX9_is_62) ?_
  refine Y.callVv (As := []) lk_X9_296 rfl cal_X9_beginAct vir_X9_beginAct (Nat.le_of_ble_eq_true rfl) (Nat.le_of_ble_eq_true rfl) rfl rfl rfl (Nat.le_of_ble_eq_true rfl) dX9_is_63 (fun _ e => m_X9_beginAct x0 h1 _ _ e) (fun h2 => ?_)
  refine Y.op (pc' := 67) (fun _ => X.aloadn rfl dX9_is_66) ?_
  refine Y.getR fd_X9_12 rfl dX9_is_67 (fun v3 => ?_)
  refine Y.op (pc' := 71) (fun _ => X.iloadn rfl dX9_is_70) ?_
  refine Y.op (pc' := 72) (fun _ => X.iloadn rfl dX9_is_71) ?_
  refine Y.callVi (As := [.int x1, .int x2]) lk_X9_153 rfl cal_X0_partnerOf vir_X0_partnerOf (Nat.le_of_ble_eq_true rfl) (Nat.le_of_ble_eq_true rfl) rfl rfl rfl (Nat.le_of_ble_eq_true rfl) dX9_is_72 (fun _ e => m_X0_partnerOf v3 x1 x2 h2 _ _ e) (fun r4 => ?_)
  refine Y.op (pc' := 77) (loc' := [some (.ref x0), some (.int x1), some (.int x2), some (.int x3), some (.int r4.1)]) (fun _ => X.istore (Nat.le_of_ble_eq_true rfl) rfl dX9_is_75) ?_
  refine Y.op (pc' := 78) (fun _ => X.aloadn rfl dX9_is_77) ?_
  refine Y.getR fd_X9_12 rfl dX9_is_78 (fun v5 => ?_)
  refine Y.op (pc' := 82) (fun _ => X.iloadn rfl dX9_is_81) ?_
  refine Y.op (pc' := 83) (fun _ => X.iloadn rfl dX9_is_82) ?_
  refine Y.op (pc' := 84) (fun _ => X.iloadn rfl dX9_is_83) ?_
  refine Y.op (pc' := 85) (fun _ => X.ic ki_1 dX9_is_84) ?_
  refine Y.cmpne 92 (by decide) dX9_is_85 ?_ ?_
  · refine Y.op (pc' := 93) (fun _ => X.ic ki_0 dX9_is_92) ?_
    exact Y.fg (y_X9_is_J93 x0 r4.1 v5 x1 x2 (0 : Int32) r4.2) (And.intro rfl (And.intro rfl trivial))
  · refine Y.op (pc' := 89) (fun _ => X.ic ki_1 dX9_is_88) ?_
    refine Y.op (pc' := 93) (fun _ => X.goto 93 (by decide) dX9_is_89) ?_
    exact Y.fg (y_X9_is_J93 x0 r4.1 v5 x1 x2 (1 : Int32) r4.2) (And.intro rfl (And.intro rfl trivial))
def f_X9_is_J51 (x0 : Nat) (x1 : Int32) (x2 : Int32) (x3 : Int32) (s0 : Nat) (s1 : Int32) (s2 : Int32) (h : xH) : Option ((Int32 ⊕ String) × xH) :=
  if s1 = s2 then
    f_X9_is_J59 x0 x1 x2 x3 s0 (0 : Int32) h
  else
    f_X9_is_J59 x0 x1 x2 x3 s0 (1 : Int32) h
theorem y_X9_is_J51 {g : xG} {h0 : xH} (x0 : Nat) (x1 : Int32) (x2 : Int32) (x3 : Int32) (s0 : Nat) (s1 : Int32) (s2 : Int32) (h : xH) : Y g DX9_is h0 false iIx (f_X9_is_J51 x0 x1 x2 x3 s0 s1 s2 h) 51 [some (.ref x0), some (.int x1), some (.int x2), some (.int x3), none] [.int s2, .int s1, .ref s0] h := by
  unfold f_X9_is_J51
  refine Y.cmpeq 58 (by decide) dX9_is_51 ?_ ?_
  · refine Y.op (pc' := 59) (fun _ => X.ic ki_0 dX9_is_58) ?_
    exact y_X9_is_J59 x0 x1 x2 x3 s0 (0 : Int32) h
  · refine Y.op (pc' := 55) (fun _ => X.ic ki_1 dX9_is_54) ?_
    refine Y.op (pc' := 59) (fun _ => X.goto 59 (by decide) dX9_is_55) ?_
    exact y_X9_is_J59 x0 x1 x2 x3 s0 (1 : Int32) h
def f_X9_is_J28 (x0 : Nat) (x1 : Int32) (x2 : Int32) (x3 : Int32) (s0 : Nat) (s1 : Int32) (h : xH) : Option ((Int32 ⊕ String) × xH) :=
  (vc h 9 s0 (f_X9_demand s0 s1 h)).bind fun r => thr r fun h1 =>
  (gR h1 9 x0 0).bind fun v2 =>
  (vc h1 0 v2 (f_X0_isThere v2 x1 x2 h1)).bind fun r3 =>
  if x3 = (1 : Int32) then
    f_X9_is_J51 x0 x1 x2 x3 x0 r3.1 (1 : Int32) r3.2
  else
    f_X9_is_J51 x0 x1 x2 x3 x0 r3.1 (0 : Int32) r3.2
theorem y_X9_is_J28 {g : xG} {h0 : xH} (x0 : Nat) (x1 : Int32) (x2 : Int32) (x3 : Int32) (s0 : Nat) (s1 : Int32) (h : xH) : Y g DX9_is h0 false iIx (f_X9_is_J28 x0 x1 x2 x3 s0 s1 h) 28 [some (.ref x0), some (.int x1), some (.int x2), some (.int x3), none] [.int s1, .ref s0] h := by
  unfold f_X9_is_J28
  refine Y.callVx (As := [.int s1]) lk_X9_90 rfl cal_X9_demand vir_X9_demand (Nat.le_of_ble_eq_true rfl) (Nat.le_of_ble_eq_true rfl) rfl rfl rfl (Nat.le_of_ble_eq_true rfl) rfl dX9_is_28 (fun _ e => m_X9_demand s0 s1 h _ e) (fun h1 => ?_)
  refine Y.op (pc' := 32) (fun _ => X.aloadn rfl dX9_is_31) ?_
  refine Y.op (pc' := 33) (fun _ => X.aloadn rfl dX9_is_32) ?_
  refine Y.getR fd_X9_12 rfl dX9_is_33 (fun v2 => ?_)
  refine Y.op (pc' := 37) (fun _ => X.iloadn rfl dX9_is_36) ?_
  refine Y.op (pc' := 38) (fun _ => X.iloadn rfl dX9_is_37) ?_
  refine Y.callVi (As := [.int x1, .int x2]) lk_X9_309 rfl cal_X0_isThere vir_X0_isThere (Nat.le_of_ble_eq_true rfl) (Nat.le_of_ble_eq_true rfl) rfl rfl rfl (Nat.le_of_ble_eq_true rfl) dX9_is_38 (fun _ e => m_X0_isThere v2 x1 x2 h1 _ _ e) (fun r3 => ?_)
  refine Y.op (pc' := 42) (fun _ => X.iloadn rfl dX9_is_41) ?_
  refine Y.op (pc' := 43) (fun _ => X.ic ki_1 dX9_is_42) ?_
  refine Y.cmpne 50 (by decide) dX9_is_43 ?_ ?_
  · refine Y.op (pc' := 51) (fun _ => X.ic ki_0 dX9_is_50) ?_
    exact y_X9_is_J51 x0 x1 x2 x3 x0 r3.1 (0 : Int32) r3.2
  · refine Y.op (pc' := 47) (fun _ => X.ic ki_1 dX9_is_46) ?_
    refine Y.op (pc' := 51) (fun _ => X.goto 51 (by decide) dX9_is_47) ?_
    exact y_X9_is_J51 x0 x1 x2 x3 x0 r3.1 (1 : Int32) r3.2
def f_X9_is_J23 (x0 : Nat) (x1 : Int32) (x2 : Int32) (x3 : Int32) (s0 : Nat) (h : xH) : Option ((Int32 ⊕ String) × xH) :=
  f_X9_is_J28 x0 x1 x2 x3 s0 (1 : Int32) h
theorem y_X9_is_J23 {g : xG} {h0 : xH} (x0 : Nat) (x1 : Int32) (x2 : Int32) (x3 : Int32) (s0 : Nat) (h : xH) : Y g DX9_is h0 false iIx (f_X9_is_J23 x0 x1 x2 x3 s0 h) 23 [some (.ref x0), some (.int x1), some (.int x2), some (.int x3), none] [.ref s0] h := by
  unfold f_X9_is_J23
  refine Y.op (pc' := 24) (fun _ => X.ic ki_1 dX9_is_23) ?_
  refine Y.op (pc' := 28) (fun _ => X.goto 28 (by decide) dX9_is_24) ?_
  exact y_X9_is_J28 x0 x1 x2 x3 s0 (1 : Int32) h
def f_X9_is (a0 : Nat) (p1 : Int32) (p2 : Int32) (p3 : Int32) (h : xH) : Option ((Int32 ⊕ String) × xH) :=
  (gR h 9 a0 0).bind fun v1 =>
  (vc h 0 v1 (f_X0_knows v1 p1 p2 h)).bind fun r2 =>
  (vc r2.2 9 a0 (f_X9_demandPlace a0 r2.1 r2.2)).bind fun r => thr r fun h3 =>
  if p3 = (0 : Int32) then
    f_X9_is_J23 a0 p1 p2 p3 a0 h3
  else
    if p3 = (1 : Int32) then
      f_X9_is_J23 a0 p1 p2 p3 a0 h3
    else
      f_X9_is_J28 a0 p1 p2 p3 a0 (0 : Int32) h3
theorem y_X9_is {g : xG} {h0 : xH} (a0 : Nat) (p1 : Int32) (p2 : Int32) (p3 : Int32) (h : xH) : Y g DX9_is h0 false iIx (f_X9_is a0 p1 p2 p3 h) 0 [some (.ref a0), some (.int p1), some (.int p2), some (.int p3), none] [] h := by
  unfold f_X9_is
  refine Y.op (pc' := 1) (fun _ => X.aloadn rfl dX9_is_0) ?_
  refine Y.op (pc' := 2) (fun _ => X.aloadn rfl dX9_is_1) ?_
  refine Y.getR fd_X9_12 rfl dX9_is_2 (fun v1 => ?_)
  refine Y.op (pc' := 6) (fun _ => X.iloadn rfl dX9_is_5) ?_
  refine Y.op (pc' := 7) (fun _ => X.iloadn rfl dX9_is_6) ?_
  refine Y.callVi (As := [.int p1, .int p2]) lk_X9_146 rfl cal_X0_knows vir_X0_knows (Nat.le_of_ble_eq_true rfl) (Nat.le_of_ble_eq_true rfl) rfl rfl rfl (Nat.le_of_ble_eq_true rfl) dX9_is_7 (fun _ e => m_X0_knows v1 p1 p2 h _ _ e) (fun r2 => ?_)
  refine Y.callVx (As := [.int r2.1]) lk_X9_150 rfl cal_X9_demandPlace vir_X9_demandPlace (Nat.le_of_ble_eq_true rfl) (Nat.le_of_ble_eq_true rfl) rfl rfl rfl (Nat.le_of_ble_eq_true rfl) rfl dX9_is_10 (fun _ e => m_X9_demandPlace a0 r2.1 r2.2 _ e) (fun h3 => ?_)
  refine Y.op (pc' := 14) (fun _ => X.aloadn rfl dX9_is_13) ?_
  refine Y.op (pc' := 15) (fun _ => X.iloadn rfl dX9_is_14) ?_
  refine Y.ifeq 23 (by decide) dX9_is_15 ?_ ?_
  · exact y_X9_is_J23 a0 p1 p2 p3 a0 h3
  · refine Y.op (pc' := 19) (fun _ => X.iloadn rfl dX9_is_18) ?_
    refine Y.op (pc' := 20) (fun _ => X.ic ki_1 dX9_is_19) ?_
    refine Y.cmpne 27 (by decide) dX9_is_20 ?_ ?_
    · refine Y.op (pc' := 28) (fun _ => X.ic ki_0 dX9_is_27) ?_
      exact y_X9_is_J28 a0 p1 p2 p3 a0 (0 : Int32) h3
    · exact y_X9_is_J23 a0 p1 p2 p3 a0 h3
theorem m_X9_is {g : xG} (a0 : Nat) (p1 : Int32) (p2 : Int32) (p3 : Int32) (h : xH) (r : (Int32 ⊕ String) × xH) (e : f_X9_is a0 p1 p2 p3 h = some r) : XM g DX9_is [.ref a0, .int p1, .int p2, .int p3] h false (iIx r) := YM.of rfl rfl (Nat.le_of_ble_eq_true rfl) (y_X9_is a0 p1 p2 p3 h) e
def f_X9_pair_J79 (x0 : Nat) (x1 : Int32) (x2 : Int32) (s0 : Nat) (s1 : Int32) (h : xH) : Option ((Int32 ⊕ String) × xH) :=
  (vc h 9 s0 (f_X9_demand s0 s1 h)).bind fun r => thr r fun h1 =>
  (vc h1 9 x0 (f_X9_beginAct x0 h1)).bind fun h2 =>
  (gR h2 9 x0 0).bind fun v3 =>
  (gR h2 0 v3 9).bind fun v4 =>
  (vc h2 3 v4 (f_X3_join v4 x1 x2 h2)).bind fun h5 =>
  (gR h5 9 x0 0).bind fun v6 =>
  (gR h5 0 v6 9).bind fun v7 =>
  (vc h5 3 v7 (f_X3_size v7 h5)).bind fun r8 =>
  (vc r8.2 9 x0 (f_X9_keepUp x0 r8.2)).bind fun h9 =>
  some (.inl r8.1, h9)
theorem y_X9_pair_J79 {g : xG} {h0 : xH} (x0 : Nat) (x1 : Int32) (x2 : Int32) (s0 : Nat) (s1 : Int32) (h : xH) : Y g DX9_pair h0 false iIx (f_X9_pair_J79 x0 x1 x2 s0 s1 h) 79 [some (.ref x0), some (.int x1), some (.int x2), none] [.int s1, .ref s0] h := by
  unfold f_X9_pair_J79
  refine Y.callVx (As := [.int s1]) lk_X9_90 rfl cal_X9_demand vir_X9_demand (Nat.le_of_ble_eq_true rfl) (Nat.le_of_ble_eq_true rfl) rfl rfl rfl (Nat.le_of_ble_eq_true rfl) rfl dX9_pair_79 (fun _ e => m_X9_demand s0 s1 h _ e) (fun h1 => ?_)
  refine Y.op (pc' := 83) (fun _ => X.aloadn rfl dX9_pair_82) ?_
  refine Y.callVv (As := []) lk_X9_296 rfl cal_X9_beginAct vir_X9_beginAct (Nat.le_of_ble_eq_true rfl) (Nat.le_of_ble_eq_true rfl) rfl rfl rfl (Nat.le_of_ble_eq_true rfl) dX9_pair_83 (fun _ e => m_X9_beginAct x0 h1 _ _ e) (fun h2 => ?_)
  refine Y.op (pc' := 87) (fun _ => X.aloadn rfl dX9_pair_86) ?_
  refine Y.getR fd_X9_12 rfl dX9_pair_87 (fun v3 => ?_)
  refine Y.getR fd_X9_106 rfl dX9_pair_90 (fun v4 => ?_)
  refine Y.op (pc' := 94) (fun _ => X.iloadn rfl dX9_pair_93) ?_
  refine Y.op (pc' := 95) (fun _ => X.iloadn rfl dX9_pair_94) ?_
  refine Y.callVv (As := [.int x1, .int x2]) lk_X9_316 rfl cal_X3_join vir_X3_join (Nat.le_of_ble_eq_true rfl) (Nat.le_of_ble_eq_true rfl) rfl rfl rfl (Nat.le_of_ble_eq_true rfl) dX9_pair_95 (fun _ e => m_X3_join v4 x1 x2 h2 _ _ e) (fun h5 => ?_)
  refine Y.op (pc' := 99) (fun _ => X.aloadn rfl dX9_pair_98) ?_
  refine Y.getR fd_X9_12 rfl dX9_pair_99 (fun v6 => ?_)
  refine Y.getR fd_X9_106 rfl dX9_pair_102 (fun v7 => ?_)
  refine Y.callVi (As := []) lk_X9_110 rfl cal_X3_size vir_X3_size (Nat.le_of_ble_eq_true rfl) (Nat.le_of_ble_eq_true rfl) rfl rfl rfl (Nat.le_of_ble_eq_true rfl) dX9_pair_105 (fun _ e => m_X3_size v7 h5 _ _ e) (fun r8 => ?_)
  refine Y.op (pc' := 109) (loc' := [some (.ref x0), some (.int x1), some (.int x2), some (.int r8.1)]) (fun _ => X.istoren (Nat.le_of_ble_eq_true rfl) rfl dX9_pair_108) ?_
  refine Y.op (pc' := 110) (fun _ => X.aloadn rfl dX9_pair_109) ?_
  refine Y.callVv (As := []) lk_X9_103 rfl cal_X9_keepUp vir_X9_keepUp (Nat.le_of_ble_eq_true rfl) (Nat.le_of_ble_eq_true rfl) rfl rfl rfl (Nat.le_of_ble_eq_true rfl) dX9_pair_110 (fun _ e => m_X9_keepUp x0 r8.2 _ _ e) (fun h9 => ?_)
  refine Y.op (pc' := 114) (fun _ => X.iloadn rfl dX9_pair_113) ?_
  exact Y.ireturnx rfl dX9_pair_114
def f_X9_pair_J55 (x0 : Nat) (x1 : Int32) (x2 : Int32) (s0 : Nat) (s1 : Int32) (h : xH) : Option ((Int32 ⊕ String) × xH) :=
  (vc h 9 s0 (f_X9_demand s0 s1 h)).bind fun r => thr r fun h1 =>
  (gR h1 9 x0 0).bind fun v2 =>
  (gR h1 0 v2 9).bind fun v3 =>
  (vc h1 3 v3 (f_X3_taskOf v3 x1 h1)).bind fun r4 =>
  if r4.1 = x2 then
    f_X9_pair_J79 x0 x1 x2 x0 (0 : Int32) r4.2
  else
    f_X9_pair_J79 x0 x1 x2 x0 (1 : Int32) r4.2
theorem y_X9_pair_J55 {g : xG} {h0 : xH} (x0 : Nat) (x1 : Int32) (x2 : Int32) (s0 : Nat) (s1 : Int32) (h : xH) : Y g DX9_pair h0 false iIx (f_X9_pair_J55 x0 x1 x2 s0 s1 h) 55 [some (.ref x0), some (.int x1), some (.int x2), none] [.int s1, .ref s0] h := by
  unfold f_X9_pair_J55
  refine Y.callVx (As := [.int s1]) lk_X9_90 rfl cal_X9_demand vir_X9_demand (Nat.le_of_ble_eq_true rfl) (Nat.le_of_ble_eq_true rfl) rfl rfl rfl (Nat.le_of_ble_eq_true rfl) rfl dX9_pair_55 (fun _ e => m_X9_demand s0 s1 h _ e) (fun h1 => ?_)
  refine Y.op (pc' := 59) (fun _ => X.aloadn rfl dX9_pair_58) ?_
  refine Y.op (pc' := 60) (fun _ => X.aloadn rfl dX9_pair_59) ?_
  refine Y.getR fd_X9_12 rfl dX9_pair_60 (fun v2 => ?_)
  refine Y.getR fd_X9_106 rfl dX9_pair_63 (fun v3 => ?_)
  refine Y.op (pc' := 67) (fun _ => X.iloadn rfl dX9_pair_66) ?_
  refine Y.callVi (As := [.int x1]) lk_X9_198 rfl cal_X3_taskOf vir_X3_taskOf (Nat.le_of_ble_eq_true rfl) (Nat.le_of_ble_eq_true rfl) rfl rfl rfl (Nat.le_of_ble_eq_true rfl) dX9_pair_67 (fun _ e => m_X3_taskOf v3 x1 h1 _ _ e) (fun r4 => ?_)
  refine Y.op (pc' := 71) (fun _ => X.iloadn rfl dX9_pair_70) ?_
  refine Y.cmpeq 78 (by decide) dX9_pair_71 ?_ ?_
  · refine Y.op (pc' := 79) (fun _ => X.ic ki_0 dX9_pair_78) ?_
    exact y_X9_pair_J79 x0 x1 x2 x0 (0 : Int32) r4.2
  · refine Y.op (pc' := 75) (fun _ => X.ic ki_1 dX9_pair_74) ?_
    refine Y.op (pc' := 79) (fun _ => X.goto 79 (by decide) dX9_pair_75) ?_
    exact y_X9_pair_J79 x0 x1 x2 x0 (1 : Int32) r4.2
def f_X9_pair_J54 (x0 : Nat) (x1 : Int32) (x2 : Int32) (s0 : Nat) (h : xH) : Option ((Int32 ⊕ String) × xH) :=
  f_X9_pair_J55 x0 x1 x2 s0 (0 : Int32) h
theorem y_X9_pair_J54 {g : xG} {h0 : xH} (x0 : Nat) (x1 : Int32) (x2 : Int32) (s0 : Nat) (h : xH) : Y g DX9_pair h0 false iIx (f_X9_pair_J54 x0 x1 x2 s0 h) 54 [some (.ref x0), some (.int x1), some (.int x2), none] [.ref s0] h := by
  unfold f_X9_pair_J54
  refine Y.op (pc' := 55) (fun _ => X.ic ki_0 dX9_pair_54) ?_
  exact y_X9_pair_J55 x0 x1 x2 s0 (0 : Int32) h
def f_X9_pair (a0 : Nat) (p1 : Int32) (p2 : Int32) (h : xH) : Option ((Int32 ⊕ String) × xH) :=
  (gR h 9 a0 0).bind fun v1 =>
  (vc h 0 v1 (f_X0_knowsBoth v1 p1 p2 h)).bind fun r2 =>
  (vc r2.2 9 a0 (f_X9_demandPlace a0 r2.1 r2.2)).bind fun r => thr r fun h3 =>
  (gR h3 9 a0 0).bind fun v4 =>
  (vc h3 0 v4 (f_X0_isFit v4 p1 p2 h3)).bind fun r5 =>
  if r5.1 = (0 : Int32) then
    f_X9_pair_J54 a0 p1 p2 a0 r5.2
  else
    (gR r5.2 9 a0 0).bind fun v6 =>
    (vc r5.2 0 v6 (f_X0_isThere v6 (0 : Int32) p1 r5.2)).bind fun r7 =>
    if r7.1 = (0 : Int32) then
      f_X9_pair_J54 a0 p1 p2 a0 r7.2
    else
      (gR r7.2 9 a0 0).bind fun v8 =>
      (vc r7.2 0 v8 (f_X0_isThere v8 (1 : Int32) p2 r7.2)).bind fun r9 =>
      if r9.1 = (0 : Int32) then
        f_X9_pair_J54 a0 p1 p2 a0 r9.2
      else
        f_X9_pair_J55 a0 p1 p2 a0 (1 : Int32) r9.2
theorem y_X9_pair {g : xG} {h0 : xH} (a0 : Nat) (p1 : Int32) (p2 : Int32) (h : xH) : Y g DX9_pair h0 false iIx (f_X9_pair a0 p1 p2 h) 0 [some (.ref a0), some (.int p1), some (.int p2), none] [] h := by
  unfold f_X9_pair
  refine Y.op (pc' := 1) (fun _ => X.aloadn rfl dX9_pair_0) ?_
  refine Y.op (pc' := 2) (fun _ => X.aloadn rfl dX9_pair_1) ?_
  refine Y.getR fd_X9_12 rfl dX9_pair_2 (fun v1 => ?_)
  refine Y.op (pc' := 6) (fun _ => X.iloadn rfl dX9_pair_5) ?_
  refine Y.op (pc' := 7) (fun _ => X.iloadn rfl dX9_pair_6) ?_
  refine Y.callVi (As := [.int p1, .int p2]) lk_X9_157 rfl cal_X0_knowsBoth vir_X0_knowsBoth (Nat.le_of_ble_eq_true rfl) (Nat.le_of_ble_eq_true rfl) rfl rfl rfl (Nat.le_of_ble_eq_true rfl) dX9_pair_7 (fun _ e => m_X0_knowsBoth v1 p1 p2 h _ _ e) (fun r2 => ?_)
  refine Y.callVx (As := [.int r2.1]) lk_X9_150 rfl cal_X9_demandPlace vir_X9_demandPlace (Nat.le_of_ble_eq_true rfl) (Nat.le_of_ble_eq_true rfl) rfl rfl rfl (Nat.le_of_ble_eq_true rfl) rfl dX9_pair_10 (fun _ e => m_X9_demandPlace a0 r2.1 r2.2 _ e) (fun h3 => ?_)
  refine Y.op (pc' := 14) (fun _ => X.aloadn rfl dX9_pair_13) ?_
  refine Y.op (pc' := 15) (fun _ => X.aloadn rfl dX9_pair_14) ?_
  refine Y.getR fd_X9_12 rfl dX9_pair_15 (fun v4 => ?_)
  refine Y.op (pc' := 19) (fun _ => X.iloadn rfl dX9_pair_18) ?_
  refine Y.op (pc' := 20) (fun _ => X.iloadn rfl dX9_pair_19) ?_
  refine Y.callVi (As := [.int p1, .int p2]) lk_X9_303 rfl cal_X0_isFit vir_X0_isFit (Nat.le_of_ble_eq_true rfl) (Nat.le_of_ble_eq_true rfl) rfl rfl rfl (Nat.le_of_ble_eq_true rfl) dX9_pair_20 (fun _ e => m_X0_isFit v4 p1 p2 h3 _ _ e) (fun r5 => ?_)
  refine Y.ifeq 54 (by decide) dX9_pair_23 ?_ ?_
  · exact y_X9_pair_J54 a0 p1 p2 a0 r5.2
  · refine Y.op (pc' := 27) (fun _ => X.aloadn rfl dX9_pair_26) ?_
    refine Y.getR fd_X9_12 rfl dX9_pair_27 (fun v6 => ?_)
    refine Y.op (pc' := 31) (fun _ => X.ic ki_0 dX9_pair_30) ?_
    refine Y.op (pc' := 32) (fun _ => X.iloadn rfl dX9_pair_31) ?_
    refine Y.callVi (As := [.int (0 : Int32), .int p1]) lk_X9_309 rfl cal_X0_isThere vir_X0_isThere (Nat.le_of_ble_eq_true rfl) (Nat.le_of_ble_eq_true rfl) rfl rfl rfl (Nat.le_of_ble_eq_true rfl) dX9_pair_32 (fun _ e => m_X0_isThere v6 (0 : Int32) p1 r5.2 _ _ e) (fun r7 => ?_)
    refine Y.ifeq 54 (by decide) dX9_pair_35 ?_ ?_
    · exact y_X9_pair_J54 a0 p1 p2 a0 r7.2
    · refine Y.op (pc' := 39) (fun _ => X.aloadn rfl dX9_pair_38) ?_
      refine Y.getR fd_X9_12 rfl dX9_pair_39 (fun v8 => ?_)
      refine Y.op (pc' := 43) (fun _ => X.ic ki_1 dX9_pair_42) ?_
      refine Y.op (pc' := 44) (fun _ => X.iloadn rfl dX9_pair_43) ?_
      refine Y.callVi (As := [.int (1 : Int32), .int p2]) lk_X9_309 rfl cal_X0_isThere vir_X0_isThere (Nat.le_of_ble_eq_true rfl) (Nat.le_of_ble_eq_true rfl) rfl rfl rfl (Nat.le_of_ble_eq_true rfl) dX9_pair_44 (fun _ e => m_X0_isThere v8 (1 : Int32) p2 r7.2 _ _ e) (fun r9 => ?_)
      refine Y.ifeq 54 (by decide) dX9_pair_47 ?_ ?_
      · exact y_X9_pair_J54 a0 p1 p2 a0 r9.2
      · refine Y.op (pc' := 51) (fun _ => X.ic ki_1 dX9_pair_50) ?_
        refine Y.op (pc' := 55) (fun _ => X.goto 55 (by decide) dX9_pair_51) ?_
        exact y_X9_pair_J55 a0 p1 p2 a0 (1 : Int32) r9.2
theorem m_X9_pair {g : xG} (a0 : Nat) (p1 : Int32) (p2 : Int32) (h : xH) (r : (Int32 ⊕ String) × xH) (e : f_X9_pair a0 p1 p2 h = some r) : XM g DX9_pair [.ref a0, .int p1, .int p2] h false (iIx r) := YM.of rfl rfl (Nat.le_of_ble_eq_true rfl) (y_X9_pair a0 p1 p2 h) e
def f_X9_part_J36 (x0 : Nat) (x1 : Int32) (x2 : Int32) (s0 : Nat) (s1 : Int32) (h : xH) : Option ((Int32 ⊕ String) × xH) :=
  (vc h 9 s0 (f_X9_demand s0 s1 h)).bind fun r => thr r fun h1 =>
  (vc h1 9 x0 (f_X9_beginAct x0 h1)).bind fun h2 =>
  (gR h2 9 x0 0).bind fun v3 =>
  (gR h2 0 v3 9).bind fun v4 =>
  (vc h2 3 v4 (f_X3_loosenWorker v4 x1 h2)).bind fun h5 =>
  (vc h5 9 x0 (f_X9_keepUp x0 h5)).bind fun h6 =>
  some (.inl x2, h6)
theorem y_X9_part_J36 {g : xG} {h0 : xH} (x0 : Nat) (x1 : Int32) (x2 : Int32) (s0 : Nat) (s1 : Int32) (h : xH) : Y g DX9_part h0 false iIx (f_X9_part_J36 x0 x1 x2 s0 s1 h) 36 [some (.ref x0), some (.int x1), some (.int x2)] [.int s1, .ref s0] h := by
  unfold f_X9_part_J36
  refine Y.callVx (As := [.int s1]) lk_X9_90 rfl cal_X9_demand vir_X9_demand (Nat.le_of_ble_eq_true rfl) (Nat.le_of_ble_eq_true rfl) rfl rfl rfl (Nat.le_of_ble_eq_true rfl) rfl dX9_part_36 (fun _ e => m_X9_demand s0 s1 h _ e) (fun h1 => ?_)
  refine Y.op (pc' := 40) (fun _ => X.aloadn rfl dX9_part_39) ?_
  refine Y.callVv (As := []) lk_X9_296 rfl cal_X9_beginAct vir_X9_beginAct (Nat.le_of_ble_eq_true rfl) (Nat.le_of_ble_eq_true rfl) rfl rfl rfl (Nat.le_of_ble_eq_true rfl) dX9_part_40 (fun _ e => m_X9_beginAct x0 h1 _ _ e) (fun h2 => ?_)
  refine Y.op (pc' := 44) (fun _ => X.aloadn rfl dX9_part_43) ?_
  refine Y.getR fd_X9_12 rfl dX9_part_44 (fun v3 => ?_)
  refine Y.getR fd_X9_106 rfl dX9_part_47 (fun v4 => ?_)
  refine Y.op (pc' := 51) (fun _ => X.iloadn rfl dX9_part_50) ?_
  refine Y.callVv (As := [.int x1]) lk_X9_319 rfl cal_X3_loosenWorker vir_X3_loosenWorker (Nat.le_of_ble_eq_true rfl) (Nat.le_of_ble_eq_true rfl) rfl rfl rfl (Nat.le_of_ble_eq_true rfl) dX9_part_51 (fun _ e => m_X3_loosenWorker v4 x1 h2 _ _ e) (fun h5 => ?_)
  refine Y.op (pc' := 55) (fun _ => X.aloadn rfl dX9_part_54) ?_
  refine Y.callVv (As := []) lk_X9_103 rfl cal_X9_keepUp vir_X9_keepUp (Nat.le_of_ble_eq_true rfl) (Nat.le_of_ble_eq_true rfl) rfl rfl rfl (Nat.le_of_ble_eq_true rfl) dX9_part_55 (fun _ e => m_X9_keepUp x0 h5 _ _ e) (fun h6 => ?_)
  refine Y.op (pc' := 59) (fun _ => X.iloadn rfl dX9_part_58) ?_
  exact Y.ireturnx rfl dX9_part_59
def f_X9_part (a0 : Nat) (p1 : Int32) (h : xH) : Option ((Int32 ⊕ String) × xH) :=
  (gR h 9 a0 0).bind fun v1 =>
  (vc h 0 v1 (f_X0_knows v1 (0 : Int32) p1 h)).bind fun r2 =>
  (vc r2.2 9 a0 (f_X9_demandPlace a0 r2.1 r2.2)).bind fun r => thr r fun h3 =>
  (gR h3 9 a0 0).bind fun v4 =>
  (gR h3 0 v4 9).bind fun v5 =>
  (vc h3 3 v5 (f_X3_taskOf v5 p1 h3)).bind fun r6 =>
  if r6.1 = (-1 : Int32) then
    f_X9_part_J36 a0 p1 r6.1 a0 (0 : Int32) r6.2
  else
    f_X9_part_J36 a0 p1 r6.1 a0 (1 : Int32) r6.2
theorem y_X9_part {g : xG} {h0 : xH} (a0 : Nat) (p1 : Int32) (h : xH) : Y g DX9_part h0 false iIx (f_X9_part a0 p1 h) 0 [some (.ref a0), some (.int p1), none] [] h := by
  unfold f_X9_part
  refine Y.op (pc' := 1) (fun _ => X.aloadn rfl dX9_part_0) ?_
  refine Y.op (pc' := 2) (fun _ => X.aloadn rfl dX9_part_1) ?_
  refine Y.getR fd_X9_12 rfl dX9_part_2 (fun v1 => ?_)
  refine Y.op (pc' := 6) (fun _ => X.ic ki_0 dX9_part_5) ?_
  refine Y.op (pc' := 7) (fun _ => X.iloadn rfl dX9_part_6) ?_
  refine Y.callVi (As := [.int (0 : Int32), .int p1]) lk_X9_146 rfl cal_X0_knows vir_X0_knows (Nat.le_of_ble_eq_true rfl) (Nat.le_of_ble_eq_true rfl) rfl rfl rfl (Nat.le_of_ble_eq_true rfl) dX9_part_7 (fun _ e => m_X0_knows v1 (0 : Int32) p1 h _ _ e) (fun r2 => ?_)
  refine Y.callVx (As := [.int r2.1]) lk_X9_150 rfl cal_X9_demandPlace vir_X9_demandPlace (Nat.le_of_ble_eq_true rfl) (Nat.le_of_ble_eq_true rfl) rfl rfl rfl (Nat.le_of_ble_eq_true rfl) rfl dX9_part_10 (fun _ e => m_X9_demandPlace a0 r2.1 r2.2 _ e) (fun h3 => ?_)
  refine Y.op (pc' := 14) (fun _ => X.aloadn rfl dX9_part_13) ?_
  refine Y.getR fd_X9_12 rfl dX9_part_14 (fun v4 => ?_)
  refine Y.getR fd_X9_106 rfl dX9_part_17 (fun v5 => ?_)
  refine Y.op (pc' := 21) (fun _ => X.iloadn rfl dX9_part_20) ?_
  refine Y.callVi (As := [.int p1]) lk_X9_198 rfl cal_X3_taskOf vir_X3_taskOf (Nat.le_of_ble_eq_true rfl) (Nat.le_of_ble_eq_true rfl) rfl rfl rfl (Nat.le_of_ble_eq_true rfl) dX9_part_21 (fun _ e => m_X3_taskOf v5 p1 h3 _ _ e) (fun r6 => ?_)
  refine Y.op (pc' := 25) (loc' := [some (.ref a0), some (.int p1), some (.int r6.1)]) (fun _ => X.istoren (Nat.le_of_ble_eq_true rfl) rfl dX9_part_24) ?_
  refine Y.op (pc' := 26) (fun _ => X.aloadn rfl dX9_part_25) ?_
  refine Y.op (pc' := 27) (fun _ => X.iloadn rfl dX9_part_26) ?_
  refine Y.op (pc' := 28) (fun _ => X.ic ki_m1 dX9_part_27) ?_
  refine Y.cmpeq 35 (by decide) dX9_part_28 ?_ ?_
  · refine Y.op (pc' := 36) (fun _ => X.ic ki_0 dX9_part_35) ?_
    exact y_X9_part_J36 a0 p1 r6.1 a0 (0 : Int32) r6.2
  · refine Y.op (pc' := 32) (fun _ => X.ic ki_1 dX9_part_31) ?_
    refine Y.op (pc' := 36) (fun _ => X.goto 36 (by decide) dX9_part_32) ?_
    exact y_X9_part_J36 a0 p1 r6.1 a0 (1 : Int32) r6.2
theorem m_X9_part {g : xG} (a0 : Nat) (p1 : Int32) (h : xH) (r : (Int32 ⊕ String) × xH) (e : f_X9_part a0 p1 h = some r) : XM g DX9_part [.ref a0, .int p1] h false (iIx r) := YM.of rfl rfl (Nat.le_of_ble_eq_true rfl) (y_X9_part a0 p1 h) e
def f_X9_weight_J29 (x0 : Nat) (x1 : Int32) (x2 : Int32) (s0 : Nat) (s1 : Int32) (h : xH) : Option ((Int32 ⊕ String) × xH) :=
  (vc h 9 s0 (f_X9_demand s0 s1 h)).bind fun r => thr r fun h1 =>
  (vc h1 9 x0 (f_X9_beginAct x0 h1)).bind fun h2 =>
  (gR h2 9 x0 0).bind fun v3 =>
  (vc h2 0 v3 (f_X0_weightOf v3 x1 h2)).bind fun r4 =>
  (gR r4.2 9 x0 0).bind fun v5 =>
  (vc r4.2 0 v5 (f_X0_setWeight v5 x1 x2 r4.2)).bind fun h6 =>
  (vc h6 9 x0 (f_X9_keepUp x0 h6)).bind fun h7 =>
  some (.inl r4.1, h7)
theorem y_X9_weight_J29 {g : xG} {h0 : xH} (x0 : Nat) (x1 : Int32) (x2 : Int32) (s0 : Nat) (s1 : Int32) (h : xH) : Y g DX9_weight h0 false iIx (f_X9_weight_J29 x0 x1 x2 s0 s1 h) 29 [some (.ref x0), some (.int x1), some (.int x2), none] [.int s1, .ref s0] h := by
  unfold f_X9_weight_J29
  refine Y.callVx (As := [.int s1]) lk_X9_90 rfl cal_X9_demand vir_X9_demand (Nat.le_of_ble_eq_true rfl) (Nat.le_of_ble_eq_true rfl) rfl rfl rfl (Nat.le_of_ble_eq_true rfl) rfl dX9_weight_29 (fun _ e => m_X9_demand s0 s1 h _ e) (fun h1 => ?_)
  refine Y.op (pc' := 33) (fun _ => X.aloadn rfl dX9_weight_32) ?_
  refine Y.callVv (As := []) lk_X9_296 rfl cal_X9_beginAct vir_X9_beginAct (Nat.le_of_ble_eq_true rfl) (Nat.le_of_ble_eq_true rfl) rfl rfl rfl (Nat.le_of_ble_eq_true rfl) dX9_weight_33 (fun _ e => m_X9_beginAct x0 h1 _ _ e) (fun h2 => ?_)
  refine Y.op (pc' := 37) (fun _ => X.aloadn rfl dX9_weight_36) ?_
  refine Y.getR fd_X9_12 rfl dX9_weight_37 (fun v3 => ?_)
  refine Y.op (pc' := 41) (fun _ => X.iloadn rfl dX9_weight_40) ?_
  refine Y.callVi (As := [.int x1]) lk_X9_284 rfl cal_X0_weightOf vir_X0_weightOf (Nat.le_of_ble_eq_true rfl) (Nat.le_of_ble_eq_true rfl) rfl rfl rfl (Nat.le_of_ble_eq_true rfl) dX9_weight_41 (fun _ e => m_X0_weightOf v3 x1 h2 _ _ e) (fun r4 => ?_)
  refine Y.op (pc' := 45) (loc' := [some (.ref x0), some (.int x1), some (.int x2), some (.int r4.1)]) (fun _ => X.istoren (Nat.le_of_ble_eq_true rfl) rfl dX9_weight_44) ?_
  refine Y.op (pc' := 46) (fun _ => X.aloadn rfl dX9_weight_45) ?_
  refine Y.getR fd_X9_12 rfl dX9_weight_46 (fun v5 => ?_)
  refine Y.op (pc' := 50) (fun _ => X.iloadn rfl dX9_weight_49) ?_
  refine Y.op (pc' := 51) (fun _ => X.iloadn rfl dX9_weight_50) ?_
  refine Y.callVv (As := [.int x1, .int x2]) lk_X9_322 rfl cal_X0_setWeight vir_X0_setWeight (Nat.le_of_ble_eq_true rfl) (Nat.le_of_ble_eq_true rfl) rfl rfl rfl (Nat.le_of_ble_eq_true rfl) dX9_weight_51 (fun _ e => m_X0_setWeight v5 x1 x2 r4.2 _ _ e) (fun h6 => ?_)
  refine Y.op (pc' := 55) (fun _ => X.aloadn rfl dX9_weight_54) ?_
  refine Y.callVv (As := []) lk_X9_103 rfl cal_X9_keepUp vir_X9_keepUp (Nat.le_of_ble_eq_true rfl) (Nat.le_of_ble_eq_true rfl) rfl rfl rfl (Nat.le_of_ble_eq_true rfl) dX9_weight_55 (fun _ e => m_X9_keepUp x0 h6 _ _ e) (fun h7 => ?_)
  refine Y.op (pc' := 59) (fun _ => X.iloadn rfl dX9_weight_58) ?_
  exact Y.ireturnx rfl dX9_weight_59
def f_X9_weight_J28 (x0 : Nat) (x1 : Int32) (x2 : Int32) (s0 : Nat) (h : xH) : Option ((Int32 ⊕ String) × xH) :=
  f_X9_weight_J29 x0 x1 x2 s0 (0 : Int32) h
theorem y_X9_weight_J28 {g : xG} {h0 : xH} (x0 : Nat) (x1 : Int32) (x2 : Int32) (s0 : Nat) (h : xH) : Y g DX9_weight h0 false iIx (f_X9_weight_J28 x0 x1 x2 s0 h) 28 [some (.ref x0), some (.int x1), some (.int x2), none] [.ref s0] h := by
  unfold f_X9_weight_J28
  refine Y.op (pc' := 29) (fun _ => X.ic ki_0 dX9_weight_28) ?_
  exact y_X9_weight_J29 x0 x1 x2 s0 (0 : Int32) h
def f_X9_weight (a0 : Nat) (p1 : Int32) (p2 : Int32) (h : xH) : Option ((Int32 ⊕ String) × xH) :=
  (gR h 9 a0 0).bind fun v1 =>
  (vc h 0 v1 (f_X0_knows v1 (0 : Int32) p1 h)).bind fun r2 =>
  (vc r2.2 9 a0 (f_X9_demandPlace a0 r2.1 r2.2)).bind fun r => thr r fun h3 =>
  if p2 < (0 : Int32) then
    f_X9_weight_J28 a0 p1 p2 a0 h3
  else
    if p2 > (99 : Int32) then
      f_X9_weight_J28 a0 p1 p2 a0 h3
    else
      f_X9_weight_J29 a0 p1 p2 a0 (1 : Int32) h3
theorem y_X9_weight {g : xG} {h0 : xH} (a0 : Nat) (p1 : Int32) (p2 : Int32) (h : xH) : Y g DX9_weight h0 false iIx (f_X9_weight a0 p1 p2 h) 0 [some (.ref a0), some (.int p1), some (.int p2), none] [] h := by
  unfold f_X9_weight
  refine Y.op (pc' := 1) (fun _ => X.aloadn rfl dX9_weight_0) ?_
  refine Y.op (pc' := 2) (fun _ => X.aloadn rfl dX9_weight_1) ?_
  refine Y.getR fd_X9_12 rfl dX9_weight_2 (fun v1 => ?_)
  refine Y.op (pc' := 6) (fun _ => X.ic ki_0 dX9_weight_5) ?_
  refine Y.op (pc' := 7) (fun _ => X.iloadn rfl dX9_weight_6) ?_
  refine Y.callVi (As := [.int (0 : Int32), .int p1]) lk_X9_146 rfl cal_X0_knows vir_X0_knows (Nat.le_of_ble_eq_true rfl) (Nat.le_of_ble_eq_true rfl) rfl rfl rfl (Nat.le_of_ble_eq_true rfl) dX9_weight_7 (fun _ e => m_X0_knows v1 (0 : Int32) p1 h _ _ e) (fun r2 => ?_)
  refine Y.callVx (As := [.int r2.1]) lk_X9_150 rfl cal_X9_demandPlace vir_X9_demandPlace (Nat.le_of_ble_eq_true rfl) (Nat.le_of_ble_eq_true rfl) rfl rfl rfl (Nat.le_of_ble_eq_true rfl) rfl dX9_weight_10 (fun _ e => m_X9_demandPlace a0 r2.1 r2.2 _ e) (fun h3 => ?_)
  refine Y.op (pc' := 14) (fun _ => X.aloadn rfl dX9_weight_13) ?_
  refine Y.op (pc' := 15) (fun _ => X.iloadn rfl dX9_weight_14) ?_
  refine Y.iflt 28 (by decide) dX9_weight_15 ?_ ?_
  · exact y_X9_weight_J28 a0 p1 p2 a0 h3
  · refine Y.op (pc' := 19) (fun _ => X.iloadn rfl dX9_weight_18) ?_
    refine Y.op (pc' := 21) (fun _ => X.bp kb_99 dX9_weight_19) ?_
    refine Y.cmpgt 28 (by decide) dX9_weight_21 ?_ ?_
    · exact y_X9_weight_J28 a0 p1 p2 a0 h3
    · refine Y.op (pc' := 25) (fun _ => X.ic ki_1 dX9_weight_24) ?_
      refine Y.op (pc' := 29) (fun _ => X.goto 29 (by decide) dX9_weight_25) ?_
      exact y_X9_weight_J29 a0 p1 p2 a0 (1 : Int32) h3
theorem m_X9_weight {g : xG} (a0 : Nat) (p1 : Int32) (p2 : Int32) (h : xH) (r : (Int32 ⊕ String) × xH) (e : f_X9_weight a0 p1 p2 h = some r) : XM g DX9_weight [.ref a0, .int p1, .int p2] h false (iIx r) := YM.of rfl rfl (Nat.le_of_ble_eq_true rfl) (y_X9_weight a0 p1 p2 h) e
def f_X9_trade_J99 (x1 : Int32) (h : xH) : Option (Int32 × xH) :=
  some (x1, h)
theorem y_X9_trade_J99 {g : xG} {h0 : xH} {cl : Bool} (x1 : Int32) (h : xH) : Y g DX9_trade h0 cl iI (f_X9_trade_J99 x1 h) 99 [none, some (.int x1), none, none, none, none, none] [] h := by
  unfold f_X9_trade_J99
  refine Y.op (pc' := 100) (fun _ => X.iloadn rfl dX9_trade_99) ?_
  exact Y.ireturn rfl dX9_trade_100
def f_X9_trade_J79 (x0 : Nat) (x1 : Int32) (x2 : Int32) (x3 : Int32) (h : xH) : Option (Int32 × xH) :=
  if x1 ≤ (0 : Int32) then
    f_X9_trade_J99 x1 h
  else
    (vc h 9 x0 (f_X9_beginAct x0 h)).bind fun h1 =>
    (gR h1 9 x0 0).bind fun v2 =>
    (gR h1 0 v2 9).bind fun v3 =>
    (vc h1 3 v3 (f_X3_swap v3 x2 x3 h1)).bind fun h4 =>
    f_X9_trade_J99 x1 h4
theorem y_X9_trade_J79 {g : xG} {h0 : xH} {cl : Bool} (x0 : Nat) (x1 : Int32) (x2 : Int32) (x3 : Int32) (h : xH) : Y g DX9_trade h0 cl iI (f_X9_trade_J79 x0 x1 x2 x3 h) 79 [some (.ref x0), some (.int x1), some (.int x2), some (.int x3), none, none, none] [] h := by
  unfold f_X9_trade_J79
  refine Y.op (pc' := 80) (fun _ => X.iloadn rfl dX9_trade_79) ?_
  refine Y.ifle 99 (by decide) dX9_trade_80 ?_ ?_
  · exact Y.fg (y_X9_trade_J99 x1 h) (And.intro rfl trivial)
  · refine Y.op (pc' := 84) (fun _ => X.aloadn rfl dX9_trade_83) ?_
    refine Y.callVv (As := []) lk_X9_296 rfl cal_X9_beginAct vir_X9_beginAct (Nat.le_of_ble_eq_true rfl) (Nat.le_of_ble_eq_true rfl) rfl rfl rfl (Nat.le_of_ble_eq_true rfl) dX9_trade_84 (fun _ e => m_X9_beginAct x0 h _ _ e) (fun h1 => ?_)
    refine Y.op (pc' := 88) (fun _ => X.aloadn rfl dX9_trade_87) ?_
    refine Y.getR fd_X9_12 rfl dX9_trade_88 (fun v2 => ?_)
    refine Y.getR fd_X9_106 rfl dX9_trade_91 (fun v3 => ?_)
    refine Y.op (pc' := 95) (fun _ => X.iloadn rfl dX9_trade_94) ?_
    refine Y.op (pc' := 96) (fun _ => X.iloadn rfl dX9_trade_95) ?_
    refine Y.callVv (As := [.int x2, .int x3]) lk_X9_328 rfl cal_X3_swap vir_X3_swap (Nat.le_of_ble_eq_true rfl) (Nat.le_of_ble_eq_true rfl) rfl rfl rfl (Nat.le_of_ble_eq_true rfl) dX9_trade_96 (fun _ e => m_X3_swap v3 x2 x3 h1 _ _ e) (fun h4 => ?_)
    exact Y.fg (y_X9_trade_J99 x1 h4) (And.intro rfl trivial)
def f_X9_trade_J73 (kH : Nat → Int32 → Int32 → Int32 → Int32 → xH → Option (Int32 × xH)) (kE79 : Nat → Int32 → Int32 → Int32 → xH → Option (Int32 × xH)) (x0 : Nat) (x1 : Int32) (x2 : Int32) (x3 : Int32) (x4 : Int32) (h : xH) : Option (Int32 × xH) :=
  lt (x4 + (1 : Int32)) fun v1 =>
  kH x0 x1 x2 x3 v1 h
theorem y_X9_trade_J73 {g : xG} {h0 : xH} {cl : Bool} {kH : Nat → Int32 → Int32 → Int32 → Int32 → xH → Option (Int32 × xH)} {kE79 : Nat → Int32 → Int32 → Int32 → xH → Option (Int32 × xH)} (hkH : ∀ (x0 : Nat) (x1 : Int32) (x2 : Int32) (x3 : Int32) (x4 : Int32) (h : xH), Y g DX9_trade h0 cl iI (kH x0 x1 x2 x3 x4 h) 9 [some (.ref x0), some (.int x1), some (.int x2), some (.int x3), some (.int x4), none, none] [] h) (hkE79 : ∀ (x0 : Nat) (x1 : Int32) (x2 : Int32) (x3 : Int32) (h : xH), Y g DX9_trade h0 cl iI (kE79 x0 x1 x2 x3 h) 79 [some (.ref x0), some (.int x1), some (.int x2), some (.int x3), none, none, none] [] h) (x0 : Nat) (x1 : Int32) (x2 : Int32) (x3 : Int32) (x4 : Int32) (h : xH) : Y g DX9_trade h0 cl iI (f_X9_trade_J73 kH kE79 x0 x1 x2 x3 x4 h) 73 [some (.ref x0), some (.int x1), some (.int x2), some (.int x3), some (.int x4), none, none] [] h := by
  unfold f_X9_trade_J73
  refine Y.iinc (i := 4) (loc' := fun v1 => [some (.ref x0), some (.int x1), some (.int x2), some (.int x3), some (.int v1), none, none]) rfl (Nat.le_of_ble_eq_true rfl) ki_1 (fun _ => rfl) dX9_trade_73 (fun v1 => ?_)
  refine Y.op (pc' := 9) (fun _ => X.goto 9 (by decide) dX9_trade_76) ?_
  exact hkH x0 x1 x2 x3 v1 h
def f_X9_trade_J67 (kH : Nat → Int32 → Int32 → Int32 → Int32 → Int32 → xH → Option (Int32 × xH)) (kE73 : Nat → Int32 → Int32 → Int32 → Int32 → xH → Option (Int32 × xH)) (x0 : Nat) (x1 : Int32) (x2 : Int32) (x3 : Int32) (x4 : Int32) (x5 : Int32) (h : xH) : Option (Int32 × xH) :=
  lt (x5 + (1 : Int32)) fun v1 =>
  kH x0 x1 x2 x3 x4 v1 h
theorem y_X9_trade_J67 {g : xG} {h0 : xH} {cl : Bool} {kH : Nat → Int32 → Int32 → Int32 → Int32 → Int32 → xH → Option (Int32 × xH)} {kE73 : Nat → Int32 → Int32 → Int32 → Int32 → xH → Option (Int32 × xH)} (hkH : ∀ (x0 : Nat) (x1 : Int32) (x2 : Int32) (x3 : Int32) (x4 : Int32) (x5 : Int32) (h : xH), Y g DX9_trade h0 cl iI (kH x0 x1 x2 x3 x4 x5 h) 27 [some (.ref x0), some (.int x1), some (.int x2), some (.int x3), some (.int x4), some (.int x5), none] [] h) (hkE73 : ∀ (x0 : Nat) (x1 : Int32) (x2 : Int32) (x3 : Int32) (x4 : Int32) (h : xH), Y g DX9_trade h0 cl iI (kE73 x0 x1 x2 x3 x4 h) 73 [some (.ref x0), some (.int x1), some (.int x2), some (.int x3), some (.int x4), none, none] [] h) (x0 : Nat) (x1 : Int32) (x2 : Int32) (x3 : Int32) (x4 : Int32) (x5 : Int32) (h : xH) : Y g DX9_trade h0 cl iI (f_X9_trade_J67 kH kE73 x0 x1 x2 x3 x4 x5 h) 67 [some (.ref x0), some (.int x1), some (.int x2), some (.int x3), some (.int x4), some (.int x5), none] [] h := by
  unfold f_X9_trade_J67
  refine Y.iinc (i := 5) (loc' := fun v1 => [some (.ref x0), some (.int x1), some (.int x2), some (.int x3), some (.int x4), some (.int v1), none]) rfl (Nat.le_of_ble_eq_true rfl) ki_1 (fun _ => rfl) dX9_trade_67 (fun v1 => ?_)
  refine Y.op (pc' := 27) (fun _ => X.goto 27 (by decide) dX9_trade_70) ?_
  exact hkH x0 x1 x2 x3 x4 v1 h
def f_X9_trade_L27 (kE73 : Nat → Int32 → Int32 → Int32 → Int32 → xH → Option (Int32 × xH)) : Nat → Nat → Int32 → Int32 → Int32 → Int32 → Int32 → xH → Option (Int32 × xH)
  | 0 => fun _ _ _ _ _ _ _ => none
  | n + 1 => fun x0 x1 x2 x3 x4 x5 h =>
    (gR h 9 x0 0).bind fun v1 =>
    (gI h 0 v1 0).bind fun v2 =>
    if x5 ≥ v2 then
      kE73 x0 x1 x2 x3 x4 h
    else
      (gR h 9 x0 0).bind fun v3 =>
      (vc h 0 v3 (f_X0_tradeGain v3 x4 x5 h)).bind fun r4 =>
      if r4.1 ≤ x1 then
        f_X9_trade_J67 (f_X9_trade_L27 kE73 n) kE73 x0 x1 x2 x3 x4 x5 r4.2
      else
        f_X9_trade_J67 (f_X9_trade_L27 kE73 n) kE73 x0 r4.1 x4 x5 x4 x5 r4.2
theorem y_X9_trade_L27 {g : xG} {h0 : xH} {cl : Bool} {kE73 : Nat → Int32 → Int32 → Int32 → Int32 → xH → Option (Int32 × xH)} (hkE73 : ∀ (x0 : Nat) (x1 : Int32) (x2 : Int32) (x3 : Int32) (x4 : Int32) (h : xH), Y g DX9_trade h0 cl iI (kE73 x0 x1 x2 x3 x4 h) 73 [some (.ref x0), some (.int x1), some (.int x2), some (.int x3), some (.int x4), none, none] [] h) : ∀ (n : Nat) (x0 : Nat) (x1 : Int32) (x2 : Int32) (x3 : Int32) (x4 : Int32) (x5 : Int32) (h : xH), Y g DX9_trade h0 cl iI (f_X9_trade_L27 kE73 n x0 x1 x2 x3 x4 x5 h) 27 [some (.ref x0), some (.int x1), some (.int x2), some (.int x3), some (.int x4), some (.int x5), none] [] h := by
  intro n
  induction n with
  | zero => intro x0 x1 x2 x3 x4 x5 h; exact Y.nothing
  | succ n ih =>
    intro x0 x1 x2 x3 x4 x5 h
    unfold f_X9_trade_L27
    refine Y.op (pc' := 29) (fun _ => X.iload rfl dX9_trade_27) ?_
    refine Y.op (pc' := 30) (fun _ => X.aloadn rfl dX9_trade_29) ?_
    refine Y.getR fd_X9_12 rfl dX9_trade_30 (fun v1 => ?_)
    refine Y.getI fd_X9_119 rfl dX9_trade_33 (fun v2 => ?_)
    refine Y.cmpge 73 (by decide) dX9_trade_36 ?_ ?_
    · exact Y.fg (hkE73 x0 x1 x2 x3 x4 h) (And.intro rfl (And.intro rfl (And.intro rfl (And.intro rfl (And.intro rfl trivial)))))
    · refine Y.op (pc' := 40) (fun _ => X.aloadn rfl dX9_trade_39) ?_
      refine Y.getR fd_X9_12 rfl dX9_trade_40 (fun v3 => ?_)
      refine Y.op (pc' := 45) (fun _ => X.iload rfl dX9_trade_43) ?_
      refine Y.op (pc' := 47) (fun _ => X.iload rfl dX9_trade_45) ?_
      refine Y.callVi (As := [.int x4, .int x5]) lk_X9_325 rfl cal_X0_tradeGain vir_X0_tradeGain (Nat.le_of_ble_eq_true rfl) (Nat.le_of_ble_eq_true rfl) rfl rfl rfl (Nat.le_of_ble_eq_true rfl) dX9_trade_47 (fun _ e => m_X0_tradeGain v3 x4 x5 h _ _ e) (fun r4 => ?_)
      refine Y.op (pc' := 52) (loc' := [some (.ref x0), some (.int x1), some (.int x2), some (.int x3), some (.int x4), some (.int x5), some (.int r4.1)]) (fun _ => X.istore (Nat.le_of_ble_eq_true rfl) rfl dX9_trade_50) ?_
      refine Y.op (pc' := 54) (fun _ => X.iload rfl dX9_trade_52) ?_
      refine Y.op (pc' := 55) (fun _ => X.iloadn rfl dX9_trade_54) ?_
      refine Y.cmple 67 (by decide) dX9_trade_55 ?_ ?_
      · exact Y.fg (y_X9_trade_J67 ih hkE73 x0 x1 x2 x3 x4 x5 r4.2) (And.intro rfl (And.intro rfl (And.intro rfl (And.intro rfl (And.intro rfl (And.intro rfl trivial))))))
      · refine Y.op (pc' := 60) (fun _ => X.iload rfl dX9_trade_58) ?_
        refine Y.op (pc' := 61) (loc' := [some (.ref x0), some (.int r4.1), some (.int x2), some (.int x3), some (.int x4), some (.int x5), some (.int r4.1)]) (fun _ => X.istoren (Nat.le_of_ble_eq_true rfl) rfl dX9_trade_60) ?_
        refine Y.op (pc' := 63) (fun _ => X.iload rfl dX9_trade_61) ?_
        refine Y.op (pc' := 64) (loc' := [some (.ref x0), some (.int r4.1), some (.int x4), some (.int x3), some (.int x4), some (.int x5), some (.int r4.1)]) (fun _ => X.istoren (Nat.le_of_ble_eq_true rfl) rfl dX9_trade_63) ?_
        refine Y.op (pc' := 66) (fun _ => X.iload rfl dX9_trade_64) ?_
        refine Y.op (pc' := 67) (loc' := [some (.ref x0), some (.int r4.1), some (.int x4), some (.int x5), some (.int x4), some (.int x5), some (.int r4.1)]) (fun _ => X.istoren (Nat.le_of_ble_eq_true rfl) rfl dX9_trade_66) ?_
        exact Y.fg (y_X9_trade_J67 ih hkE73 x0 r4.1 x4 x5 x4 x5 r4.2) (And.intro rfl (And.intro rfl (And.intro rfl (And.intro rfl (And.intro rfl (And.intro rfl trivial))))))
def f_X9_trade_L9 (kE79 : Nat → Int32 → Int32 → Int32 → xH → Option (Int32 × xH)) : Nat → Nat → Int32 → Int32 → Int32 → Int32 → xH → Option (Int32 × xH)
  | 0 => fun _ _ _ _ _ _ => none
  | n + 1 => fun x0 x1 x2 x3 x4 h =>
    (gR h 9 x0 0).bind fun v1 =>
    (gI h 0 v1 0).bind fun v2 =>
    if x4 ≥ v2 then
      kE79 x0 x1 x2 x3 h
    else
      lt ((x4 + (1 : Int32))) fun v3 =>
      f_X9_trade_L27 (f_X9_trade_J73 (f_X9_trade_L9 kE79 n) kE79) 5000 x0 x1 x2 x3 x4 v3 h
theorem y_X9_trade_L9 {g : xG} {h0 : xH} {cl : Bool} {kE79 : Nat → Int32 → Int32 → Int32 → xH → Option (Int32 × xH)} (hkE79 : ∀ (x0 : Nat) (x1 : Int32) (x2 : Int32) (x3 : Int32) (h : xH), Y g DX9_trade h0 cl iI (kE79 x0 x1 x2 x3 h) 79 [some (.ref x0), some (.int x1), some (.int x2), some (.int x3), none, none, none] [] h) : ∀ (n : Nat) (x0 : Nat) (x1 : Int32) (x2 : Int32) (x3 : Int32) (x4 : Int32) (h : xH), Y g DX9_trade h0 cl iI (f_X9_trade_L9 kE79 n x0 x1 x2 x3 x4 h) 9 [some (.ref x0), some (.int x1), some (.int x2), some (.int x3), some (.int x4), none, none] [] h := by
  intro n
  induction n with
  | zero => intro x0 x1 x2 x3 x4 h; exact Y.nothing
  | succ n ih =>
    intro x0 x1 x2 x3 x4 h
    unfold f_X9_trade_L9
    refine Y.op (pc' := 11) (fun _ => X.iload rfl dX9_trade_9) ?_
    refine Y.op (pc' := 12) (fun _ => X.aloadn rfl dX9_trade_11) ?_
    refine Y.getR fd_X9_12 rfl dX9_trade_12 (fun v1 => ?_)
    refine Y.getI fd_X9_119 rfl dX9_trade_15 (fun v2 => ?_)
    refine Y.cmpge 79 (by decide) dX9_trade_18 ?_ ?_
    · exact Y.fg (hkE79 x0 x1 x2 x3 h) (And.intro rfl (And.intro rfl (And.intro rfl (And.intro rfl trivial))))
    · refine Y.op (pc' := 23) (fun _ => X.iload rfl dX9_trade_21) ?_
      refine Y.op (pc' := 24) (fun _ => X.ic ki_1 dX9_trade_23) ?_
      refine Y.op (pc' := 25) (fun _ => X.iadd dX9_trade_24) ?_
      refine Y.top (fun v3 => ?_)
      refine Y.op (pc' := 27) (loc' := [some (.ref x0), some (.int x1), some (.int x2), some (.int x3), some (.int x4), some (.int v3), none]) (fun _ => X.istore (Nat.le_of_ble_eq_true rfl) rfl dX9_trade_25) ?_
      exact y_X9_trade_L27 (y_X9_trade_J73 ih hkE79) 5000 x0 x1 x2 x3 x4 v3 h
def f_X9_trade (a0 : Nat) (h : xH) : Option (Int32 × xH) :=
  f_X9_trade_L9 (f_X9_trade_J79) 5000 a0 (0 : Int32) (-1 : Int32) (-1 : Int32) (0 : Int32) h
theorem y_X9_trade {g : xG} {h0 : xH} {cl : Bool} (a0 : Nat) (h : xH) : Y g DX9_trade h0 cl iI (f_X9_trade a0 h) 0 [some (.ref a0), none, none, none, none, none, none] [] h := by
  unfold f_X9_trade
  refine Y.op (pc' := 1) (fun _ => X.ic ki_0 dX9_trade_0) ?_
  refine Y.op (pc' := 2) (loc' := [some (.ref a0), some (.int (0 : Int32)), none, none, none, none, none]) (fun _ => X.istoren (Nat.le_of_ble_eq_true rfl) rfl dX9_trade_1) ?_
  refine Y.op (pc' := 3) (fun _ => X.ic ki_m1 dX9_trade_2) ?_
  refine Y.op (pc' := 4) (loc' := [some (.ref a0), some (.int (0 : Int32)), some (.int (-1 : Int32)), none, none, none, none]) (fun _ => X.istoren (Nat.le_of_ble_eq_true rfl) rfl dX9_trade_3) ?_
  refine Y.op (pc' := 5) (fun _ => X.ic ki_m1 dX9_trade_4) ?_
  refine Y.op (pc' := 6) (loc' := [some (.ref a0), some (.int (0 : Int32)), some (.int (-1 : Int32)), some (.int (-1 : Int32)), none, none, none]) (fun _ => X.istoren (Nat.le_of_ble_eq_true rfl) rfl dX9_trade_5) ?_
  refine Y.op (pc' := 7) (fun _ => X.ic ki_0 dX9_trade_6) ?_
  refine Y.op (pc' := 9) (loc' := [some (.ref a0), some (.int (0 : Int32)), some (.int (-1 : Int32)), some (.int (-1 : Int32)), some (.int (0 : Int32)), none, none]) (fun _ => X.istore (Nat.le_of_ble_eq_true rfl) rfl dX9_trade_7) ?_
  exact y_X9_trade_L9 (y_X9_trade_J79) 5000 a0 (0 : Int32) (-1 : Int32) (-1 : Int32) (0 : Int32) h
theorem m_X9_trade {g : xG} (a0 : Nat) (h : xH) (cl : Bool) (r : Int32 × xH) (e : f_X9_trade a0 h = some r) : XM g DX9_trade [.ref a0] h cl (iI r) := YM.of rfl rfl (Nat.le_of_ble_eq_true rfl) (y_X9_trade a0 h) e
def f_X9_keep_J15 (x0 : Nat) (x1 : Int32) (s0 : Nat) (s1 : Int32) (h : xH) : Option ((Int32 ⊕ String) × xH) :=
  (vc h 9 s0 (f_X9_demand s0 s1 h)).bind fun r => thr r fun h1 =>
  (vc h1 9 x0 (f_X9_beginAct x0 h1)).bind fun h2 =>
  (gR h2 9 x0 0).bind fun v3 =>
  (gI h2 0 v3 4).bind fun v4 =>
  (gR h2 9 x0 0).bind fun v5 =>
  (pI h2 0 v5 4 x1).bind fun h6 =>
  (vc h6 9 x0 (f_X9_keepUp x0 h6)).bind fun h7 =>
  some (.inl v4, h7)
theorem y_X9_keep_J15 {g : xG} {h0 : xH} (x0 : Nat) (x1 : Int32) (s0 : Nat) (s1 : Int32) (h : xH) : Y g DX9_keep h0 false iIx (f_X9_keep_J15 x0 x1 s0 s1 h) 15 [some (.ref x0), some (.int x1), none] [.int s1, .ref s0] h := by
  unfold f_X9_keep_J15
  refine Y.callVx (As := [.int s1]) lk_X9_90 rfl cal_X9_demand vir_X9_demand (Nat.le_of_ble_eq_true rfl) (Nat.le_of_ble_eq_true rfl) rfl rfl rfl (Nat.le_of_ble_eq_true rfl) rfl dX9_keep_15 (fun _ e => m_X9_demand s0 s1 h _ e) (fun h1 => ?_)
  refine Y.op (pc' := 19) (fun _ => X.aloadn rfl dX9_keep_18) ?_
  refine Y.callVv (As := []) lk_X9_296 rfl cal_X9_beginAct vir_X9_beginAct (Nat.le_of_ble_eq_true rfl) (Nat.le_of_ble_eq_true rfl) rfl rfl rfl (Nat.le_of_ble_eq_true rfl) dX9_keep_19 (fun _ e => m_X9_beginAct x0 h1 _ _ e) (fun h2 => ?_)
  refine Y.op (pc' := 23) (fun _ => X.aloadn rfl dX9_keep_22) ?_
  refine Y.getR fd_X9_12 rfl dX9_keep_23 (fun v3 => ?_)
  refine Y.getI fd_X9_128 rfl dX9_keep_26 (fun v4 => ?_)
  refine Y.op (pc' := 30) (loc' := [some (.ref x0), some (.int x1), some (.int v4)]) (fun _ => X.istoren (Nat.le_of_ble_eq_true rfl) rfl dX9_keep_29) ?_
  refine Y.op (pc' := 31) (fun _ => X.aloadn rfl dX9_keep_30) ?_
  refine Y.getR fd_X9_12 rfl dX9_keep_31 (fun v5 => ?_)
  refine Y.op (pc' := 35) (fun _ => X.iloadn rfl dX9_keep_34) ?_
  refine Y.putI fd_X9_128 rfl dX9_keep_35 (fun h6 => ?_)
  refine Y.op (pc' := 39) (fun _ => X.aloadn rfl dX9_keep_38) ?_
  refine Y.callVv (As := []) lk_X9_103 rfl cal_X9_keepUp vir_X9_keepUp (Nat.le_of_ble_eq_true rfl) (Nat.le_of_ble_eq_true rfl) rfl rfl rfl (Nat.le_of_ble_eq_true rfl) dX9_keep_39 (fun _ e => m_X9_keepUp x0 h6 _ _ e) (fun h7 => ?_)
  refine Y.op (pc' := 43) (fun _ => X.iloadn rfl dX9_keep_42) ?_
  exact Y.ireturnx rfl dX9_keep_43
def f_X9_keep_J10 (x0 : Nat) (x1 : Int32) (s0 : Nat) (h : xH) : Option ((Int32 ⊕ String) × xH) :=
  f_X9_keep_J15 x0 x1 s0 (1 : Int32) h
theorem y_X9_keep_J10 {g : xG} {h0 : xH} (x0 : Nat) (x1 : Int32) (s0 : Nat) (h : xH) : Y g DX9_keep h0 false iIx (f_X9_keep_J10 x0 x1 s0 h) 10 [some (.ref x0), some (.int x1), none] [.ref s0] h := by
  unfold f_X9_keep_J10
  refine Y.op (pc' := 11) (fun _ => X.ic ki_1 dX9_keep_10) ?_
  refine Y.op (pc' := 15) (fun _ => X.goto 15 (by decide) dX9_keep_11) ?_
  exact y_X9_keep_J15 x0 x1 s0 (1 : Int32) h
def f_X9_keep (a0 : Nat) (p1 : Int32) (h : xH) : Option ((Int32 ⊕ String) × xH) :=
  if p1 = (0 : Int32) then
    f_X9_keep_J10 a0 p1 a0 h
  else
    if p1 = (1 : Int32) then
      f_X9_keep_J10 a0 p1 a0 h
    else
      f_X9_keep_J15 a0 p1 a0 (0 : Int32) h
theorem y_X9_keep {g : xG} {h0 : xH} (a0 : Nat) (p1 : Int32) (h : xH) : Y g DX9_keep h0 false iIx (f_X9_keep a0 p1 h) 0 [some (.ref a0), some (.int p1), none] [] h := by
  unfold f_X9_keep
  refine Y.op (pc' := 1) (fun _ => X.aloadn rfl dX9_keep_0) ?_
  refine Y.op (pc' := 2) (fun _ => X.iloadn rfl dX9_keep_1) ?_
  refine Y.ifeq 10 (by decide) dX9_keep_2 ?_ ?_
  · exact y_X9_keep_J10 a0 p1 a0 h
  · refine Y.op (pc' := 6) (fun _ => X.iloadn rfl dX9_keep_5) ?_
    refine Y.op (pc' := 7) (fun _ => X.ic ki_1 dX9_keep_6) ?_
    refine Y.cmpne 14 (by decide) dX9_keep_7 ?_ ?_
    · refine Y.op (pc' := 15) (fun _ => X.ic ki_0 dX9_keep_14) ?_
      exact y_X9_keep_J15 a0 p1 a0 (0 : Int32) h
    · exact y_X9_keep_J10 a0 p1 a0 h
theorem m_X9_keep {g : xG} (a0 : Nat) (p1 : Int32) (h : xH) (r : (Int32 ⊕ String) × xH) (e : f_X9_keep a0 p1 h = some r) : XM g DX9_keep [.ref a0, .int p1] h false (iIx r) := YM.of rfl rfl (Nat.le_of_ble_eq_true rfl) (y_X9_keep a0 p1 h) e
def f_X9_settle_J65 (x2 : Int32) (h : xH) : Option ((Int32 ⊕ String) × xH) :=
  some (.inl x2, h)
theorem y_X9_settle_J65 {g : xG} {h0 : xH} (x2 : Int32) (h : xH) : Y g DX9_settle h0 false iIx (f_X9_settle_J65 x2 h) 65 [none, none, some (.int x2)] [] h := by
  unfold f_X9_settle_J65
  refine Y.op (pc' := 66) (fun _ => X.iloadn rfl dX9_settle_65) ?_
  exact Y.ireturnx rfl dX9_settle_66
def f_X9_settle_J17 (x0 : Nat) (x1 : Int32) (s0 : Nat) (s1 : Int32) (h : xH) : Option ((Int32 ⊕ String) × xH) :=
  (vc h 9 s0 (f_X9_demand s0 s1 h)).bind fun r => thr r fun h1 =>
  (gR h1 9 x0 4).bind fun v2 =>
  (gR h1 9 x0 0).bind fun v3 =>
  (vc h1 7 v2 (f_X7_load v2 v3 h1)).bind fun h4 =>
  (gR h4 9 x0 4).bind fun v5 =>
  (vc h4 7 v5 (f_X7_grow v5 x1 h4)).bind fun r6 =>
  if r6.1 ≤ (0 : Int32) then
    f_X9_settle_J65 r6.1 r6.2
  else
    (vc r6.2 9 x0 (f_X9_beginAct x0 r6.2)).bind fun h7 =>
    (gR h7 9 x0 0).bind fun v8 =>
    (gR h7 0 v8 9).bind fun v9 =>
    (gR h7 9 x0 4).bind fun v10 =>
    (gR h7 7 v10 0).bind fun v11 =>
    (vc h7 3 v9 (f_X3_copy v9 v11 h7)).bind fun h12 =>
    f_X9_settle_J65 r6.1 h12
theorem y_X9_settle_J17 {g : xG} {h0 : xH} (x0 : Nat) (x1 : Int32) (s0 : Nat) (s1 : Int32) (h : xH) : Y g DX9_settle h0 false iIx (f_X9_settle_J17 x0 x1 s0 s1 h) 17 [some (.ref x0), some (.int x1), none] [.int s1, .ref s0] h := by
  unfold f_X9_settle_J17
  refine Y.callVx (As := [.int s1]) lk_X9_90 rfl cal_X9_demand vir_X9_demand (Nat.le_of_ble_eq_true rfl) (Nat.le_of_ble_eq_true rfl) rfl rfl rfl (Nat.le_of_ble_eq_true rfl) rfl dX9_settle_17 (fun _ e => m_X9_demand s0 s1 h _ e) (fun h1 => ?_)
  refine Y.op (pc' := 21) (fun _ => X.aloadn rfl dX9_settle_20) ?_
  refine Y.getR fd_X9_36 rfl dX9_settle_21 (fun v2 => ?_)
  refine Y.op (pc' := 25) (fun _ => X.aloadn rfl dX9_settle_24) ?_
  refine Y.getR fd_X9_12 rfl dX9_settle_25 (fun v3 => ?_)
  refine Y.callVv (As := [.ref v3]) lk_X9_170 rfl cal_X7_load vir_X7_load (Nat.le_of_ble_eq_true rfl) (Nat.le_of_ble_eq_true rfl) rfl rfl rfl (Nat.le_of_ble_eq_true rfl) dX9_settle_28 (fun _ e => m_X7_load v2 v3 h1 _ _ e) (fun h4 => ?_)
  refine Y.op (pc' := 32) (fun _ => X.aloadn rfl dX9_settle_31) ?_
  refine Y.getR fd_X9_36 rfl dX9_settle_32 (fun v5 => ?_)
  refine Y.op (pc' := 36) (fun _ => X.iloadn rfl dX9_settle_35) ?_
  refine Y.callVi (As := [.int x1]) lk_X9_217 rfl cal_X7_grow vir_X7_grow (Nat.le_of_ble_eq_true rfl) (Nat.le_of_ble_eq_true rfl) rfl rfl rfl (Nat.le_of_ble_eq_true rfl) dX9_settle_36 (fun _ e => m_X7_grow v5 x1 h4 _ _ e) (fun r6 => ?_)
  refine Y.op (pc' := 40) (loc' := [some (.ref x0), some (.int x1), some (.int r6.1)]) (fun _ => X.istoren (Nat.le_of_ble_eq_true rfl) rfl dX9_settle_39) ?_
  refine Y.op (pc' := 41) (fun _ => X.iloadn rfl dX9_settle_40) ?_
  refine Y.ifle 65 (by decide) dX9_settle_41 ?_ ?_
  · exact Y.fg (y_X9_settle_J65 r6.1 r6.2) (And.intro rfl trivial)
  · refine Y.op (pc' := 45) (fun _ => X.aloadn rfl dX9_settle_44) ?_
    refine Y.callVv (As := []) lk_X9_296 rfl cal_X9_beginAct vir_X9_beginAct (Nat.le_of_ble_eq_true rfl) (Nat.le_of_ble_eq_true rfl) rfl rfl rfl (Nat.le_of_ble_eq_true rfl) dX9_settle_45 (fun _ e => m_X9_beginAct x0 r6.2 _ _ e) (fun h7 => ?_)
    refine Y.op (pc' := 49) (fun _ => X.aloadn rfl dX9_settle_48) ?_
    refine Y.getR fd_X9_12 rfl dX9_settle_49 (fun v8 => ?_)
    refine Y.getR fd_X9_106 rfl dX9_settle_52 (fun v9 => ?_)
    refine Y.op (pc' := 56) (fun _ => X.aloadn rfl dX9_settle_55) ?_
    refine Y.getR fd_X9_36 rfl dX9_settle_56 (fun v10 => ?_)
    refine Y.getR fd_X9_197 rfl dX9_settle_59 (fun v11 => ?_)
    refine Y.callVv (As := [.ref v11]) lk_X9_331 rfl cal_X3_copy vir_X3_copy (Nat.le_of_ble_eq_true rfl) (Nat.le_of_ble_eq_true rfl) rfl rfl rfl (Nat.le_of_ble_eq_true rfl) dX9_settle_62 (fun _ e => m_X3_copy v9 v11 h7 _ _ e) (fun h12 => ?_)
    exact Y.fg (y_X9_settle_J65 r6.1 h12) (And.intro rfl trivial)
def f_X9_settle_J16 (x0 : Nat) (x1 : Int32) (s0 : Nat) (h : xH) : Option ((Int32 ⊕ String) × xH) :=
  f_X9_settle_J17 x0 x1 s0 (0 : Int32) h
theorem y_X9_settle_J16 {g : xG} {h0 : xH} (x0 : Nat) (x1 : Int32) (s0 : Nat) (h : xH) : Y g DX9_settle h0 false iIx (f_X9_settle_J16 x0 x1 s0 h) 16 [some (.ref x0), some (.int x1), none] [.ref s0] h := by
  unfold f_X9_settle_J16
  refine Y.op (pc' := 17) (fun _ => X.ic ki_0 dX9_settle_16) ?_
  exact y_X9_settle_J17 x0 x1 s0 (0 : Int32) h
def f_X9_settle (a0 : Nat) (p1 : Int32) (h : xH) : Option ((Int32 ⊕ String) × xH) :=
  if p1 < (1 : Int32) then
    f_X9_settle_J16 a0 p1 a0 h
  else
    if p1 > (12 : Int32) then
      f_X9_settle_J16 a0 p1 a0 h
    else
      f_X9_settle_J17 a0 p1 a0 (1 : Int32) h
theorem y_X9_settle {g : xG} {h0 : xH} (a0 : Nat) (p1 : Int32) (h : xH) : Y g DX9_settle h0 false iIx (f_X9_settle a0 p1 h) 0 [some (.ref a0), some (.int p1), none] [] h := by
  unfold f_X9_settle
  refine Y.op (pc' := 1) (fun _ => X.aloadn rfl dX9_settle_0) ?_
  refine Y.op (pc' := 2) (fun _ => X.iloadn rfl dX9_settle_1) ?_
  refine Y.op (pc' := 3) (fun _ => X.ic ki_1 dX9_settle_2) ?_
  refine Y.cmplt 16 (by decide) dX9_settle_3 ?_ ?_
  · exact y_X9_settle_J16 a0 p1 a0 h
  · refine Y.op (pc' := 7) (fun _ => X.iloadn rfl dX9_settle_6) ?_
    refine Y.op (pc' := 9) (fun _ => X.bp kb_12 dX9_settle_7) ?_
    refine Y.cmpgt 16 (by decide) dX9_settle_9 ?_ ?_
    · exact y_X9_settle_J16 a0 p1 a0 h
    · refine Y.op (pc' := 13) (fun _ => X.ic ki_1 dX9_settle_12) ?_
      refine Y.op (pc' := 17) (fun _ => X.goto 17 (by decide) dX9_settle_13) ?_
      exact y_X9_settle_J17 a0 p1 a0 (1 : Int32) h
theorem m_X9_settle {g : xG} (a0 : Nat) (p1 : Int32) (h : xH) (r : (Int32 ⊕ String) × xH) (e : f_X9_settle a0 p1 h = some r) : XM g DX9_settle [.ref a0, .int p1] h false (iIx r) := YM.of rfl rfl (Nat.le_of_ble_eq_true rfl) (y_X9_settle a0 p1 h) e
def f_X9_undo (a0 : Nat) (h : xH) : Option (Int32 × xH) :=
  (gR h 9 a0 2).bind fun v1 =>
  (gR h 9 a0 0).bind fun v2 =>
  (vc h 2 v1 (f_X2_takeBack v1 v2 h)).bind fun r3 =>
  if r3.1 = (0 : Int32) then
    some ((-1 : Int32), r3.2)
  else
    (pZ r3.2 9 a0 9 (0 : Int32)).bind fun h4 =>
    (gR h4 9 a0 2).bind fun v5 =>
    (gI h4 2 v5 2).bind fun v6 =>
    some (v6, h4)
theorem y_X9_undo {g : xG} {h0 : xH} {cl : Bool} (a0 : Nat) (h : xH) : Y g DX9_undo h0 cl iI (f_X9_undo a0 h) 0 [some (.ref a0)] [] h := by
  unfold f_X9_undo
  refine Y.op (pc' := 1) (fun _ => X.aloadn rfl dX9_undo_0) ?_
  refine Y.getR fd_X9_22 rfl dX9_undo_1 (fun v1 => ?_)
  refine Y.op (pc' := 5) (fun _ => X.aloadn rfl dX9_undo_4) ?_
  refine Y.getR fd_X9_12 rfl dX9_undo_5 (fun v2 => ?_)
  refine Y.callVi (As := [.ref v2]) lk_X9_334 rfl cal_X2_takeBack vir_X2_takeBack (Nat.le_of_ble_eq_true rfl) (Nat.le_of_ble_eq_true rfl) rfl rfl rfl (Nat.le_of_ble_eq_true rfl) dX9_undo_8 (fun _ e => m_X2_takeBack v1 v2 h _ _ e) (fun r3 => ?_)
  refine Y.ifne 16 (by decide) dX9_undo_11 ?_ ?_
  · refine Y.op (pc' := 17) (fun _ => X.aloadn rfl dX9_undo_16) ?_
    refine Y.op (pc' := 18) (fun _ => X.ic ki_0 dX9_undo_17) ?_
    refine Y.putZ fd_X9_68 rfl dX9_undo_18 (fun h4 => ?_)
    refine Y.op (pc' := 22) (fun _ => X.aloadn rfl dX9_undo_21) ?_
    refine Y.getR fd_X9_22 rfl dX9_undo_22 (fun v5 => ?_)
    refine Y.getI fd_X9_102 rfl dX9_undo_25 (fun v6 => ?_)
    exact Y.ireturn rfl dX9_undo_28
  · refine Y.op (pc' := 15) (fun _ => X.ic ki_m1 dX9_undo_14) ?_
    exact Y.ireturn rfl dX9_undo_15
theorem m_X9_undo {g : xG} (a0 : Nat) (h : xH) (cl : Bool) (r : Int32 × xH) (e : f_X9_undo a0 h = some r) : XM g DX9_undo [.ref a0] h cl (iI r) := YM.of rfl rfl (Nat.le_of_ble_eq_true rfl) (y_X9_undo a0 h) e
