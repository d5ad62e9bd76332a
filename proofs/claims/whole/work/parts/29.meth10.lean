def f_X10_laysRounds_J187 (x1 : Int32) (h : xH) : Option (Int32 × xH) :=
  some (x1, h)
theorem y_X10_laysRounds_J187 {g : xG} {h0 : xH} {cl : Bool} (x1 : Int32) (h : xH) : Y g DX10_laysRounds h0 cl iI (f_X10_laysRounds_J187 x1 h) 187 [none, some (.int x1), none, none, none, none] [] h := by
  unfold f_X10_laysRounds_J187
  refine Y.op (pc' := 188) (fun _ => X.iloadn rfl dX10_laysRounds_187) ?_
  exact Y.ireturn rfl dX10_laysRounds_188
def f_X10_laysRounds_J181 (kH : Nat → Int32 → Int32 → xH → Option (Int32 × xH)) (kE187 : Int32 → xH → Option (Int32 × xH)) (x0 : Nat) (x1 : Int32) (x2 : Int32) (h : xH) : Option (Int32 × xH) :=
  lt (x2 + (1 : Int32)) fun v1 =>
  kH x0 x1 v1 h
theorem y_X10_laysRounds_J181 {g : xG} {h0 : xH} {cl : Bool} {kH : Nat → Int32 → Int32 → xH → Option (Int32 × xH)} {kE187 : Int32 → xH → Option (Int32 × xH)} (hkH : ∀ (x0 : Nat) (x1 : Int32) (x2 : Int32) (h : xH), Y g DX10_laysRounds h0 cl iI (kH x0 x1 x2 h) 146 [some (.ref x0), some (.int x1), some (.int x2), none, none, none] [] h) (hkE187 : ∀ (x1 : Int32) (h : xH), Y g DX10_laysRounds h0 cl iI (kE187 x1 h) 187 [none, some (.int x1), none, none, none, none] [] h) (x0 : Nat) (x1 : Int32) (x2 : Int32) (h : xH) : Y g DX10_laysRounds h0 cl iI (f_X10_laysRounds_J181 kH kE187 x0 x1 x2 h) 181 [some (.ref x0), some (.int x1), some (.int x2), none, none, none] [] h := by
  unfold f_X10_laysRounds_J181
  refine Y.iinc (i := 2) (loc' := fun v1 => [some (.ref x0), some (.int x1), some (.int v1), none, none, none]) rfl (Nat.le_of_ble_eq_true rfl) ki_1 (fun _ => rfl) dX10_laysRounds_181 (fun v1 => ?_)
  refine Y.op (pc' := 146) (fun _ => X.goto 146 (by decide) dX10_laysRounds_184) ?_
  exact hkH x0 x1 v1 h
def f_X10_laysRounds_L154 (kE181 : Nat → Int32 → Int32 → xH → Option (Int32 × xH)) : Nat → Nat → Int32 → Int32 → Int32 → xH → Option (Int32 × xH)
  | 0 => fun _ _ _ _ _ => none
  | n + 1 => fun x0 x1 x2 x3 h =>
    if x3 ≥ (12 : Int32) then
      kE181 x0 x1 x2 h
    else
      (gR h 10 x0 32).bind fun v1 =>
      (aR 102 h v1 x2).bind fun v2 =>
      (aI h v2 x3).bind fun v3 =>
      (f_X10_more x1 ((1 : Int32) + v3) h).bind fun r4 =>
      lt (x3 + (1 : Int32)) fun v5 =>
      f_X10_laysRounds_L154 kE181 n x0 r4.1 x2 v5 r4.2
theorem y_X10_laysRounds_L154 {g : xG} {h0 : xH} {cl : Bool} {kE181 : Nat → Int32 → Int32 → xH → Option (Int32 × xH)} (hkE181 : ∀ (x0 : Nat) (x1 : Int32) (x2 : Int32) (h : xH), Y g DX10_laysRounds h0 cl iI (kE181 x0 x1 x2 h) 181 [some (.ref x0), some (.int x1), some (.int x2), none, none, none] [] h) : ∀ (n : Nat) (x0 : Nat) (x1 : Int32) (x2 : Int32) (x3 : Int32) (h : xH), Y g DX10_laysRounds h0 cl iI (f_X10_laysRounds_L154 kE181 n x0 x1 x2 x3 h) 154 [some (.ref x0), some (.int x1), some (.int x2), some (.int x3), none, none] [] h := by
  intro n
  induction n with
  | zero => intro x0 x1 x2 x3 h; exact Y.nothing
  | succ n ih =>
    intro x0 x1 x2 x3 h
    unfold f_X10_laysRounds_L154
    refine Y.op (pc' := 155) (fun _ => X.iloadn rfl dX10_laysRounds_154) ?_
    refine Y.op (pc' := 157) (fun _ => X.bp kb_12 dX10_laysRounds_155) ?_
    refine Y.cmpge 181 (by decide) dX10_laysRounds_157 ?_ ?_
    · exact Y.fg (hkE181 x0 x1 x2 h) (And.intro rfl (And.intro rfl (And.intro rfl trivial)))
    · refine Y.op (pc' := 161) (fun _ => X.iloadn rfl dX10_laysRounds_160) ?_
      refine Y.op (pc' := 162) (fun _ => X.ic ki_1 dX10_laysRounds_161) ?_
      refine Y.op (pc' := 163) (fun _ => X.aloadn rfl dX10_laysRounds_162) ?_
      refine Y.getR fd_X10_54 rfl dX10_laysRounds_163 (fun v1 => ?_)
      refine Y.op (pc' := 167) (fun _ => X.iloadn rfl dX10_laysRounds_166) ?_
      refine Y.aldR 102 (by decide) (by decide) dX10_laysRounds_167 (fun v2 => ?_)
      refine Y.op (pc' := 169) (fun _ => X.iloadn rfl dX10_laysRounds_168) ?_
      refine Y.aldI dX10_laysRounds_169 (fun v3 => ?_)
      refine Y.op (pc' := 171) (fun _ => X.iadd dX10_laysRounds_170) ?_
      refine Y.callSi (As := [.int x1, .int ((1 : Int32) + v3)]) lk_X10_353 rfl cal_X10_more sta_X10_more (Nat.le_of_ble_eq_true rfl) rfl rfl (Nat.le_of_ble_eq_true rfl) dX10_laysRounds_171 (fun _ e => m_X10_more x1 ((1 : Int32) + v3) h _ _ e) (fun r4 => ?_)
      refine Y.op (pc' := 175) (loc' := [some (.ref x0), some (.int r4.1), some (.int x2), some (.int x3), none, none]) (fun _ => X.istoren (Nat.le_of_ble_eq_true rfl) rfl dX10_laysRounds_174) ?_
      refine Y.iinc (i := 3) (loc' := fun v5 => [some (.ref x0), some (.int r4.1), some (.int x2), some (.int v5), none, none]) rfl (Nat.le_of_ble_eq_true rfl) ki_1 (fun _ => rfl) dX10_laysRounds_175 (fun v5 => ?_)
      refine Y.op (pc' := 154) (fun _ => X.goto 154 (by decide) dX10_laysRounds_178) ?_
      exact ih x0 r4.1 x2 v5 r4.2
def f_X10_laysRounds_L146 (kE187 : Int32 → xH → Option (Int32 × xH)) : Nat → Nat → Int32 → Int32 → xH → Option (Int32 × xH)
  | 0 => fun _ _ _ _ => none
  | n + 1 => fun x0 x1 x2 h =>
    if x2 ≥ (12 : Int32) then
      kE187 x1 h
    else
      f_X10_laysRounds_L154 (f_X10_laysRounds_J181 (f_X10_laysRounds_L146 kE187 n) kE187) 5000 x0 x1 x2 (0 : Int32) h
theorem y_X10_laysRounds_L146 {g : xG} {h0 : xH} {cl : Bool} {kE187 : Int32 → xH → Option (Int32 × xH)} (hkE187 : ∀ (x1 : Int32) (h : xH), Y g DX10_laysRounds h0 cl iI (kE187 x1 h) 187 [none, some (.int x1), none, none, none, none] [] h) : ∀ (n : Nat) (x0 : Nat) (x1 : Int32) (x2 : Int32) (h : xH), Y g DX10_laysRounds h0 cl iI (f_X10_laysRounds_L146 kE187 n x0 x1 x2 h) 146 [some (.ref x0), some (.int x1), some (.int x2), none, none, none] [] h := by
  intro n
  induction n with
  | zero => intro x0 x1 x2 h; exact Y.nothing
  | succ n ih =>
    intro x0 x1 x2 h
    unfold f_X10_laysRounds_L146
    refine Y.op (pc' := 147) (fun _ => X.iloadn rfl dX10_laysRounds_146) ?_
    refine Y.op (pc' := 149) (fun _ => X.bp kb_12 dX10_laysRounds_147) ?_
    refine Y.cmpge 187 (by decide) dX10_laysRounds_149 ?_ ?_
    · exact Y.fg (hkE187 x1 h) (And.intro rfl trivial)
    · refine Y.op (pc' := 153) (fun _ => X.ic ki_0 dX10_laysRounds_152) ?_
      refine Y.op (pc' := 154) (loc' := [some (.ref x0), some (.int x1), some (.int x2), some (.int (0 : Int32)), none, none]) (fun _ => X.istoren (Nat.le_of_ble_eq_true rfl) rfl dX10_laysRounds_153) ?_
      exact y_X10_laysRounds_L154 (y_X10_laysRounds_J181 ih hkE187) 5000 x0 x1 x2 (0 : Int32) h
def f_X10_laysRounds_J144 (x0 : Nat) (x1 : Int32) (h : xH) : Option (Int32 × xH) :=
  f_X10_laysRounds_L146 (f_X10_laysRounds_J187) 5000 x0 x1 (0 : Int32) h
theorem y_X10_laysRounds_J144 {g : xG} {h0 : xH} {cl : Bool} (x0 : Nat) (x1 : Int32) (h : xH) : Y g DX10_laysRounds h0 cl iI (f_X10_laysRounds_J144 x0 x1 h) 144 [some (.ref x0), some (.int x1), none, none, none, none] [] h := by
  unfold f_X10_laysRounds_J144
  refine Y.op (pc' := 145) (fun _ => X.ic ki_0 dX10_laysRounds_144) ?_
  refine Y.op (pc' := 146) (loc' := [some (.ref x0), some (.int x1), some (.int (0 : Int32)), none, none, none]) (fun _ => X.istoren (Nat.le_of_ble_eq_true rfl) rfl dX10_laysRounds_145) ?_
  exact y_X10_laysRounds_L146 (y_X10_laysRounds_J187) 5000 x0 x1 (0 : Int32) h
def f_X10_laysRounds_J138 (kH : Nat → Int32 → Int32 → xH → Option (Int32 × xH)) (kE144 : Nat → Int32 → xH → Option (Int32 × xH)) (x0 : Nat) (x1 : Int32) (x2 : Int32) (h : xH) : Option (Int32 × xH) :=
  lt (x2 + (1 : Int32)) fun v1 =>
  kH x0 x1 v1 h
theorem y_X10_laysRounds_J138 {g : xG} {h0 : xH} {cl : Bool} {kH : Nat → Int32 → Int32 → xH → Option (Int32 × xH)} {kE144 : Nat → Int32 → xH → Option (Int32 × xH)} (hkH : ∀ (x0 : Nat) (x1 : Int32) (x2 : Int32) (h : xH), Y g DX10_laysRounds h0 cl iI (kH x0 x1 x2 h) 41 [some (.ref x0), some (.int x1), some (.int x2), none, none, none] [] h) (hkE144 : ∀ (x0 : Nat) (x1 : Int32) (h : xH), Y g DX10_laysRounds h0 cl iI (kE144 x0 x1 h) 144 [some (.ref x0), some (.int x1), none, none, none, none] [] h) (x0 : Nat) (x1 : Int32) (x2 : Int32) (h : xH) : Y g DX10_laysRounds h0 cl iI (f_X10_laysRounds_J138 kH kE144 x0 x1 x2 h) 138 [some (.ref x0), some (.int x1), some (.int x2), none, none, none] [] h := by
  unfold f_X10_laysRounds_J138
  refine Y.iinc (i := 2) (loc' := fun v1 => [some (.ref x0), some (.int x1), some (.int v1), none, none, none]) rfl (Nat.le_of_ble_eq_true rfl) ki_1 (fun _ => rfl) dX10_laysRounds_138 (fun v1 => ?_)
  refine Y.op (pc' := 41) (fun _ => X.goto 41 (by decide) dX10_laysRounds_141) ?_
  exact hkH x0 x1 v1 h
def f_X10_laysRounds_J132 (kH : Nat → Int32 → Int32 → Int32 → xH → Option (Int32 × xH)) (kE138 : Nat → Int32 → Int32 → xH → Option (Int32 × xH)) (x0 : Nat) (x1 : Int32) (x2 : Int32) (x3 : Int32) (h : xH) : Option (Int32 × xH) :=
  lt (x3 + (1 : Int32)) fun v1 =>
  kH x0 x1 x2 v1 h
theorem y_X10_laysRounds_J132 {g : xG} {h0 : xH} {cl : Bool} {kH : Nat → Int32 → Int32 → Int32 → xH → Option (Int32 × xH)} {kE138 : Nat → Int32 → Int32 → xH → Option (Int32 × xH)} (hkH : ∀ (x0 : Nat) (x1 : Int32) (x2 : Int32) (x3 : Int32) (h : xH), Y g DX10_laysRounds h0 cl iI (kH x0 x1 x2 x3 h) 55 [some (.ref x0), some (.int x1), some (.int x2), some (.int x3), none, none] [] h) (hkE138 : ∀ (x0 : Nat) (x1 : Int32) (x2 : Int32) (h : xH), Y g DX10_laysRounds h0 cl iI (kE138 x0 x1 x2 h) 138 [some (.ref x0), some (.int x1), some (.int x2), none, none, none] [] h) (x0 : Nat) (x1 : Int32) (x2 : Int32) (x3 : Int32) (h : xH) : Y g DX10_laysRounds h0 cl iI (f_X10_laysRounds_J132 kH kE138 x0 x1 x2 x3 h) 132 [some (.ref x0), some (.int x1), some (.int x2), some (.int x3), none, none] [] h := by
  unfold f_X10_laysRounds_J132
  refine Y.iinc (i := 3) (loc' := fun v1 => [some (.ref x0), some (.int x1), some (.int x2), some (.int v1), none, none]) rfl (Nat.le_of_ble_eq_true rfl) ki_1 (fun _ => rfl) dX10_laysRounds_132 (fun v1 => ?_)
  refine Y.op (pc' := 55) (fun _ => X.goto 55 (by decide) dX10_laysRounds_135) ?_
  exact hkH x0 x1 x2 v1 h
def f_X10_laysRounds_L55 (kE138 : Nat → Int32 → Int32 → xH → Option (Int32 × xH)) : Nat → Nat → Int32 → Int32 → Int32 → xH → Option (Int32 × xH)
  | 0 => fun _ _ _ _ _ => none
  | n + 1 => fun x0 x1 x2 x3 h =>
    (gR h 10 x0 9).bind fun v1 =>
    (aR 102 h v1 (0 : Int32)).bind fun v2 =>
    (aI h v2 (1 : Int32)).bind fun v3 =>
    if x3 ≥ v3 then
      kE138 x0 x1 x2 h
    else
      (vc h 10 x0 (f_X10_isFit x0 x2 x3 h)).bind fun r4 =>
      if r4.1 = (0 : Int32) then
        f_X10_laysRounds_J132 (f_X10_laysRounds_L55 kE138 n) kE138 x0 x1 x2 x3 r4.2
      else
        (vc r4.2 10 x0 (f_X10_isThere x0 (0 : Int32) x2 r4.2)).bind fun r5 =>
        if r5.1 = (0 : Int32) then
          f_X10_laysRounds_J132 (f_X10_laysRounds_L55 kE138 n) kE138 x0 x1 x2 x3 r5.2
        else
          (vc r5.2 10 x0 (f_X10_isThere x0 (1 : Int32) x3 r5.2)).bind fun r6 =>
          if r6.1 = (0 : Int32) then
            f_X10_laysRounds_J132 (f_X10_laysRounds_L55 kE138 n) kE138 x0 x1 x2 x3 r6.2
          else
            (vc r6.2 10 x0 (f_X10_leastRound x0 (0 : Int32) x2 r6.2)).bind fun r7 =>
            (vc r7.2 10 x0 (f_X10_leastRound x0 (1 : Int32) x3 r7.2)).bind fun r8 =>
            (vc r8.2 10 x0 (f_X10_changes x0 x3 r7.1 r8.1 r8.2)).bind fun h9 =>
            (gR h9 10 x0 32).bind fun v10 =>
            (aR 102 h9 v10 x2).bind fun v11 =>
            (sI h9 v11 x3 r7.1).bind fun h12 =>
            f_X10_laysRounds_J132 (f_X10_laysRounds_L55 kE138 n) kE138 x0 x1 x2 x3 h12
theorem y_X10_laysRounds_L55 {g : xG} {h0 : xH} {cl : Bool} {kE138 : Nat → Int32 → Int32 → xH → Option (Int32 × xH)} (hkE138 : ∀ (x0 : Nat) (x1 : Int32) (x2 : Int32) (h : xH), Y g DX10_laysRounds h0 cl iI (kE138 x0 x1 x2 h) 138 [some (.ref x0), some (.int x1), some (.int x2), none, none, none] [] h) : ∀ (n : Nat) (x0 : Nat) (x1 : Int32) (x2 : Int32) (x3 : Int32) (h : xH), Y g DX10_laysRounds h0 cl iI (f_X10_laysRounds_L55 kE138 n x0 x1 x2 x3 h) 55 [some (.ref x0), some (.int x1), some (.int x2), some (.int x3), none, none] [] h := by
  intro n
  induction n with
  | zero => intro x0 x1 x2 x3 h; exact Y.nothing
  | succ n ih =>
    intro x0 x1 x2 x3 h
    unfold f_X10_laysRounds_L55
    refine Y.op (pc' := 56) (fun _ => X.iloadn rfl dX10_laysRounds_55) ?_
    refine Y.op (pc' := 57) (fun _ => X.aloadn rfl dX10_laysRounds_56) ?_
    refine Y.getR fd_X10_22 rfl dX10_laysRounds_57 (fun v1 => ?_)
    refine Y.op (pc' := 61) (fun _ => X.ic ki_0 dX10_laysRounds_60) ?_
    refine Y.aldR 102 (by decide) (by decide) dX10_laysRounds_61 (fun v2 => ?_)
    refine Y.op (pc' := 63) (fun _ => X.ic ki_1 dX10_laysRounds_62) ?_
    refine Y.aldI dX10_laysRounds_63 (fun v3 => ?_)
    refine Y.cmpge 138 (by decide) dX10_laysRounds_64 ?_ ?_
    · exact Y.fg (hkE138 x0 x1 x2 h) (And.intro rfl (And.intro rfl (And.intro rfl trivial)))
    · refine Y.op (pc' := 68) (fun _ => X.aloadn rfl dX10_laysRounds_67) ?_
      refine Y.op (pc' := 69) (fun _ => X.iloadn rfl dX10_laysRounds_68) ?_
      refine Y.op (pc' := 70) (fun _ => X.iloadn rfl dX10_laysRounds_69) ?_
      refine Y.callVi (As := [.int x2, .int x3]) lk_X10_285 rfl cal_X10_isFit vir_X10_isFit (Nat.le_of_ble_eq_true rfl) (Nat.le_of_ble_eq_true rfl) rfl rfl rfl (Nat.le_of_ble_eq_true rfl) dX10_laysRounds_70 (fun _ e => m_X10_isFit x0 x2 x3 h _ _ e) (fun r4 => ?_)
      refine Y.ifeq 132 (by decide) dX10_laysRounds_73 ?_ ?_
      · exact y_X10_laysRounds_J132 ih hkE138 x0 x1 x2 x3 r4.2
      · refine Y.op (pc' := 77) (fun _ => X.aloadn rfl dX10_laysRounds_76) ?_
        refine Y.op (pc' := 78) (fun _ => X.ic ki_0 dX10_laysRounds_77) ?_
        refine Y.op (pc' := 79) (fun _ => X.iloadn rfl dX10_laysRounds_78) ?_
        refine Y.callVi (As := [.int (0 : Int32), .int x2]) lk_X10_240 rfl cal_X10_isThere vir_X10_isThere (Nat.le_of_ble_eq_true rfl) (Nat.le_of_ble_eq_true rfl) rfl rfl rfl (Nat.le_of_ble_eq_true rfl) dX10_laysRounds_79 (fun _ e => m_X10_isThere x0 (0 : Int32) x2 r4.2 _ _ e) (fun r5 => ?_)
        refine Y.ifeq 132 (by decide) dX10_laysRounds_82 ?_ ?_
        · exact y_X10_laysRounds_J132 ih hkE138 x0 x1 x2 x3 r5.2
        · refine Y.op (pc' := 86) (fun _ => X.aloadn rfl dX10_laysRounds_85) ?_
          refine Y.op (pc' := 87) (fun _ => X.ic ki_1 dX10_laysRounds_86) ?_
          refine Y.op (pc' := 88) (fun _ => X.iloadn rfl dX10_laysRounds_87) ?_
          refine Y.callVi (As := [.int (1 : Int32), .int x3]) lk_X10_240 rfl cal_X10_isThere vir_X10_isThere (Nat.le_of_ble_eq_true rfl) (Nat.le_of_ble_eq_true rfl) rfl rfl rfl (Nat.le_of_ble_eq_true rfl) dX10_laysRounds_88 (fun _ e => m_X10_isThere x0 (1 : Int32) x3 r5.2 _ _ e) (fun r6 => ?_)
          refine Y.ifne 97 (by decide) dX10_laysRounds_91 ?_ ?_
          · refine Y.op (pc' := 98) (fun _ => X.aloadn rfl dX10_laysRounds_97) ?_
            refine Y.op (pc' := 99) (fun _ => X.ic ki_0 dX10_laysRounds_98) ?_
            refine Y.op (pc' := 100) (fun _ => X.iloadn rfl dX10_laysRounds_99) ?_
            refine Y.callVi (As := [.int (0 : Int32), .int x2]) lk_X10_347 rfl cal_X10_leastRound vir_X10_leastRound (Nat.le_of_ble_eq_true rfl) (Nat.le_of_ble_eq_true rfl) rfl rfl rfl (Nat.le_of_ble_eq_true rfl) dX10_laysRounds_100 (fun _ e => m_X10_leastRound x0 (0 : Int32) x2 r6.2 _ _ e) (fun r7 => ?_)
            refine Y.op (pc' := 105) (loc' := [some (.ref x0), some (.int x1), some (.int x2), some (.int x3), some (.int r7.1), none]) (fun _ => X.istore (Nat.le_of_ble_eq_true rfl) rfl dX10_laysRounds_103) ?_
            refine Y.op (pc' := 106) (fun _ => X.aloadn rfl dX10_laysRounds_105) ?_
            refine Y.op (pc' := 107) (fun _ => X.ic ki_1 dX10_laysRounds_106) ?_
            refine Y.op (pc' := 108) (fun _ => X.iloadn rfl dX10_laysRounds_107) ?_
            refine Y.callVi (As := [.int (1 : Int32), .int x3]) lk_X10_347 rfl cal_X10_leastRound vir_X10_leastRound (Nat.le_of_ble_eq_true rfl) (Nat.le_of_ble_eq_true rfl) rfl rfl rfl (Nat.le_of_ble_eq_true rfl) dX10_laysRounds_108 (fun _ e => m_X10_leastRound x0 (1 : Int32) x3 r7.2 _ _ e) (fun r8 => ?_)
            refine Y.op (pc' := 113) (loc' := [some (.ref x0), some (.int x1), some (.int x2), some (.int x3), some (.int r7.1), some (.int r8.1)]) (fun _ => X.istore (Nat.le_of_ble_eq_true rfl) rfl dX10_laysRounds_111) ?_
            refine Y.op (pc' := 114) (fun _ => X.aloadn rfl dX10_laysRounds_113) ?_
            refine Y.op (pc' := 115) (fun _ => X.iloadn rfl dX10_laysRounds_114) ?_
            refine Y.op (pc' := 117) (fun _ => X.iload rfl dX10_laysRounds_115) ?_
            refine Y.op (pc' := 119) (fun _ => X.iload rfl dX10_laysRounds_117) ?_
            refine Y.callVv (As := [.int x3, .int r7.1, .int r8.1]) lk_X10_350 rfl cal_X10_changes vir_X10_changes (Nat.le_of_ble_eq_true rfl) (Nat.le_of_ble_eq_true rfl) rfl rfl rfl (Nat.le_of_ble_eq_true rfl) dX10_laysRounds_119 (fun _ e => m_X10_changes x0 x3 r7.1 r8.1 r8.2 _ _ e) (fun h9 => ?_)
            refine Y.op (pc' := 123) (fun _ => X.aloadn rfl dX10_laysRounds_122) ?_
            refine Y.getR fd_X10_54 rfl dX10_laysRounds_123 (fun v10 => ?_)
            refine Y.op (pc' := 127) (fun _ => X.iloadn rfl dX10_laysRounds_126) ?_
            refine Y.aldR 102 (by decide) (by decide) dX10_laysRounds_127 (fun v11 => ?_)
            refine Y.op (pc' := 129) (fun _ => X.iloadn rfl dX10_laysRounds_128) ?_
            refine Y.op (pc' := 131) (fun _ => X.iload rfl dX10_laysRounds_129) ?_
            refine Y.astI dX10_laysRounds_131 (fun h12 => ?_)
            exact Y.fg (y_X10_laysRounds_J132 ih hkE138 x0 x1 x2 x3 h12) (And.intro rfl (And.intro rfl (And.intro rfl (And.intro rfl trivial))))
          · refine Y.op (pc' := 132) (fun _ => X.goto 132 (by decide) dX10_laysRounds_94) ?_
            exact y_X10_laysRounds_J132 ih hkE138 x0 x1 x2 x3 r6.2
def f_X10_laysRounds_L41 (kE144 : Nat → Int32 → xH → Option (Int32 × xH)) : Nat → Nat → Int32 → Int32 → xH → Option (Int32 × xH)
  | 0 => fun _ _ _ _ => none
  | n + 1 => fun x0 x1 x2 h =>
    (gR h 10 x0 9).bind fun v1 =>
    (aR 102 h v1 (0 : Int32)).bind fun v2 =>
    (aI h v2 (0 : Int32)).bind fun v3 =>
    if x2 ≥ v3 then
      kE144 x0 x1 h
    else
      f_X10_laysRounds_L55 (f_X10_laysRounds_J138 (f_X10_laysRounds_L41 kE144 n) kE144) 5000 x0 x1 x2 (0 : Int32) h
theorem y_X10_laysRounds_L41 {g : xG} {h0 : xH} {cl : Bool} {kE144 : Nat → Int32 → xH → Option (Int32 × xH)} (hkE144 : ∀ (x0 : Nat) (x1 : Int32) (h : xH), Y g DX10_laysRounds h0 cl iI (kE144 x0 x1 h) 144 [some (.ref x0), some (.int x1), none, none, none, none] [] h) : ∀ (n : Nat) (x0 : Nat) (x1 : Int32) (x2 : Int32) (h : xH), Y g DX10_laysRounds h0 cl iI (f_X10_laysRounds_L41 kE144 n x0 x1 x2 h) 41 [some (.ref x0), some (.int x1), some (.int x2), none, none, none] [] h := by
  intro n
  induction n with
  | zero => intro x0 x1 x2 h; exact Y.nothing
  | succ n ih =>
    intro x0 x1 x2 h
    unfold f_X10_laysRounds_L41
    refine Y.op (pc' := 42) (fun _ => X.iloadn rfl dX10_laysRounds_41) ?_
    refine Y.op (pc' := 43) (fun _ => X.aloadn rfl dX10_laysRounds_42) ?_
    refine Y.getR fd_X10_22 rfl dX10_laysRounds_43 (fun v1 => ?_)
    refine Y.op (pc' := 47) (fun _ => X.ic ki_0 dX10_laysRounds_46) ?_
    refine Y.aldR 102 (by decide) (by decide) dX10_laysRounds_47 (fun v2 => ?_)
    refine Y.op (pc' := 49) (fun _ => X.ic ki_0 dX10_laysRounds_48) ?_
    refine Y.aldI dX10_laysRounds_49 (fun v3 => ?_)
    refine Y.cmpge 144 (by decide) dX10_laysRounds_50 ?_ ?_
    · exact Y.fg (hkE144 x0 x1 h) (And.intro rfl (And.intro rfl trivial))
    · refine Y.op (pc' := 54) (fun _ => X.ic ki_0 dX10_laysRounds_53) ?_
      refine Y.op (pc' := 55) (loc' := [some (.ref x0), some (.int x1), some (.int x2), some (.int (0 : Int32)), none, none]) (fun _ => X.istoren (Nat.le_of_ble_eq_true rfl) rfl dX10_laysRounds_54) ?_
      exact y_X10_laysRounds_L55 (y_X10_laysRounds_J138 ih hkE144) 5000 x0 x1 x2 (0 : Int32) h
def f_X10_laysRounds_J39 (x0 : Nat) (x1 : Int32) (h : xH) : Option (Int32 × xH) :=
  f_X10_laysRounds_L41 (f_X10_laysRounds_J144) 5000 x0 x1 (0 : Int32) h
theorem y_X10_laysRounds_J39 {g : xG} {h0 : xH} {cl : Bool} (x0 : Nat) (x1 : Int32) (h : xH) : Y g DX10_laysRounds h0 cl iI (f_X10_laysRounds_J39 x0 x1 h) 39 [some (.ref x0), some (.int x1), none, none, none, none] [] h := by
  unfold f_X10_laysRounds_J39
  refine Y.op (pc' := 40) (fun _ => X.ic ki_0 dX10_laysRounds_39) ?_
  refine Y.op (pc' := 41) (loc' := [some (.ref x0), some (.int x1), some (.int (0 : Int32)), none, none, none]) (fun _ => X.istoren (Nat.le_of_ble_eq_true rfl) rfl dX10_laysRounds_40) ?_
  exact y_X10_laysRounds_L41 (y_X10_laysRounds_J144) 5000 x0 x1 (0 : Int32) h
def f_X10_laysRounds_J33 (kH : Nat → Int32 → Int32 → xH → Option (Int32 × xH)) (kE39 : Nat → Int32 → xH → Option (Int32 × xH)) (x0 : Nat) (x1 : Int32) (x2 : Int32) (h : xH) : Option (Int32 × xH) :=
  lt (x2 + (1 : Int32)) fun v1 =>
  kH x0 x1 v1 h
theorem y_X10_laysRounds_J33 {g : xG} {h0 : xH} {cl : Bool} {kH : Nat → Int32 → Int32 → xH → Option (Int32 × xH)} {kE39 : Nat → Int32 → xH → Option (Int32 × xH)} (hkH : ∀ (x0 : Nat) (x1 : Int32) (x2 : Int32) (h : xH), Y g DX10_laysRounds h0 cl iI (kH x0 x1 x2 h) 4 [some (.ref x0), some (.int x1), some (.int x2), none, none, none] [] h) (hkE39 : ∀ (x0 : Nat) (x1 : Int32) (h : xH), Y g DX10_laysRounds h0 cl iI (kE39 x0 x1 h) 39 [some (.ref x0), some (.int x1), none, none, none, none] [] h) (x0 : Nat) (x1 : Int32) (x2 : Int32) (h : xH) : Y g DX10_laysRounds h0 cl iI (f_X10_laysRounds_J33 kH kE39 x0 x1 x2 h) 33 [some (.ref x0), some (.int x1), some (.int x2), none, none, none] [] h := by
  unfold f_X10_laysRounds_J33
  refine Y.iinc (i := 2) (loc' := fun v1 => [some (.ref x0), some (.int x1), some (.int v1), none, none, none]) rfl (Nat.le_of_ble_eq_true rfl) ki_1 (fun _ => rfl) dX10_laysRounds_33 (fun v1 => ?_)
  refine Y.op (pc' := 4) (fun _ => X.goto 4 (by decide) dX10_laysRounds_36) ?_
  exact hkH x0 x1 v1 h
def f_X10_laysRounds_L12 (kE33 : Nat → Int32 → Int32 → xH → Option (Int32 × xH)) : Nat → Nat → Int32 → Int32 → Int32 → xH → Option (Int32 × xH)
  | 0 => fun _ _ _ _ _ => none
  | n + 1 => fun x0 x1 x2 x3 h =>
    if x3 ≥ (12 : Int32) then
      kE33 x0 x1 x2 h
    else
      (gR h 10 x0 32).bind fun v1 =>
      (aR 102 h v1 x2).bind fun v2 =>
      (sI h v2 x3 (-1 : Int32)).bind fun h3 =>
      lt (x3 + (1 : Int32)) fun v4 =>
      f_X10_laysRounds_L12 kE33 n x0 x1 x2 v4 h3
theorem y_X10_laysRounds_L12 {g : xG} {h0 : xH} {cl : Bool} {kE33 : Nat → Int32 → Int32 → xH → Option (Int32 × xH)} (hkE33 : ∀ (x0 : Nat) (x1 : Int32) (x2 : Int32) (h : xH), Y g DX10_laysRounds h0 cl iI (kE33 x0 x1 x2 h) 33 [some (.ref x0), some (.int x1), some (.int x2), none, none, none] [] h) : ∀ (n : Nat) (x0 : Nat) (x1 : Int32) (x2 : Int32) (x3 : Int32) (h : xH), Y g DX10_laysRounds h0 cl iI (f_X10_laysRounds_L12 kE33 n x0 x1 x2 x3 h) 12 [some (.ref x0), some (.int x1), some (.int x2), some (.int x3), none, none] [] h := by
  intro n
  induction n with
  | zero => intro x0 x1 x2 x3 h; exact Y.nothing
  | succ n ih =>
    intro x0 x1 x2 x3 h
    unfold f_X10_laysRounds_L12
    refine Y.op (pc' := 13) (fun _ => X.iloadn rfl dX10_laysRounds_12) ?_
    refine Y.op (pc' := 15) (fun _ => X.bp kb_12 dX10_laysRounds_13) ?_
    refine Y.cmpge 33 (by decide) dX10_laysRounds_15 ?_ ?_
    · exact Y.fg (hkE33 x0 x1 x2 h) (And.intro rfl (And.intro rfl (And.intro rfl trivial)))
    · refine Y.op (pc' := 19) (fun _ => X.aloadn rfl dX10_laysRounds_18) ?_
      refine Y.getR fd_X10_54 rfl dX10_laysRounds_19 (fun v1 => ?_)
      refine Y.op (pc' := 23) (fun _ => X.iloadn rfl dX10_laysRounds_22) ?_
      refine Y.aldR 102 (by decide) (by decide) dX10_laysRounds_23 (fun v2 => ?_)
      refine Y.op (pc' := 25) (fun _ => X.iloadn rfl dX10_laysRounds_24) ?_
      refine Y.op (pc' := 26) (fun _ => X.ic ki_m1 dX10_laysRounds_25) ?_
      refine Y.astI dX10_laysRounds_26 (fun h3 => ?_)
      refine Y.iinc (i := 3) (loc' := fun v4 => [some (.ref x0), some (.int x1), some (.int x2), some (.int v4), none, none]) rfl (Nat.le_of_ble_eq_true rfl) ki_1 (fun _ => rfl) dX10_laysRounds_27 (fun v4 => ?_)
      refine Y.op (pc' := 12) (fun _ => X.goto 12 (by decide) dX10_laysRounds_30) ?_
      exact ih x0 x1 x2 v4 h3
def f_X10_laysRounds_L4 (kE39 : Nat → Int32 → xH → Option (Int32 × xH)) : Nat → Nat → Int32 → Int32 → xH → Option (Int32 × xH)
  | 0 => fun _ _ _ _ => none
  | n + 1 => fun x0 x1 x2 h =>
    if x2 ≥ (12 : Int32) then
      kE39 x0 x1 h
    else
      f_X10_laysRounds_L12 (f_X10_laysRounds_J33 (f_X10_laysRounds_L4 kE39 n) kE39) 5000 x0 x1 x2 (0 : Int32) h
theorem y_X10_laysRounds_L4 {g : xG} {h0 : xH} {cl : Bool} {kE39 : Nat → Int32 → xH → Option (Int32 × xH)} (hkE39 : ∀ (x0 : Nat) (x1 : Int32) (h : xH), Y g DX10_laysRounds h0 cl iI (kE39 x0 x1 h) 39 [some (.ref x0), some (.int x1), none, none, none, none] [] h) : ∀ (n : Nat) (x0 : Nat) (x1 : Int32) (x2 : Int32) (h : xH), Y g DX10_laysRounds h0 cl iI (f_X10_laysRounds_L4 kE39 n x0 x1 x2 h) 4 [some (.ref x0), some (.int x1), some (.int x2), none, none, none] [] h := by
  intro n
  induction n with
  | zero => intro x0 x1 x2 h; exact Y.nothing
  | succ n ih =>
    intro x0 x1 x2 h
    unfold f_X10_laysRounds_L4
    refine Y.op (pc' := 5) (fun _ => X.iloadn rfl dX10_laysRounds_4) ?_
    refine Y.op (pc' := 7) (fun _ => X.bp kb_12 dX10_laysRounds_5) ?_
    refine Y.cmpge 39 (by decide) dX10_laysRounds_7 ?_ ?_
    · exact Y.fg (hkE39 x0 x1 h) (And.intro rfl (And.intro rfl trivial))
    · refine Y.op (pc' := 11) (fun _ => X.ic ki_0 dX10_laysRounds_10) ?_
      refine Y.op (pc' := 12) (loc' := [some (.ref x0), some (.int x1), some (.int x2), some (.int (0 : Int32)), none, none]) (fun _ => X.istoren (Nat.le_of_ble_eq_true rfl) rfl dX10_laysRounds_11) ?_
      exact y_X10_laysRounds_L12 (y_X10_laysRounds_J33 ih hkE39) 5000 x0 x1 x2 (0 : Int32) h
def f_X10_laysRounds (a0 : Nat) (h : xH) : Option (Int32 × xH) :=
  f_X10_laysRounds_L4 (f_X10_laysRounds_J39) 5000 a0 (0 : Int32) (0 : Int32) h
theorem y_X10_laysRounds {g : xG} {h0 : xH} {cl : Bool} (a0 : Nat) (h : xH) : Y g DX10_laysRounds h0 cl iI (f_X10_laysRounds a0 h) 0 [some (.ref a0), none, none, none, none, none] [] h := by
  unfold f_X10_laysRounds
  refine Y.op (pc' := 1) (fun _ => X.ic ki_0 dX10_laysRounds_0) ?_
  refine Y.op (pc' := 2) (loc' := [some (.ref a0), some (.int (0 : Int32)), none, none, none, none]) (fun _ => X.istoren (Nat.le_of_ble_eq_true rfl) rfl dX10_laysRounds_1) ?_
  refine Y.op (pc' := 3) (fun _ => X.ic ki_0 dX10_laysRounds_2) ?_
  refine Y.op (pc' := 4) (loc' := [some (.ref a0), some (.int (0 : Int32)), some (.int (0 : Int32)), none, none, none]) (fun _ => X.istoren (Nat.le_of_ble_eq_true rfl) rfl dX10_laysRounds_3) ?_
  exact y_X10_laysRounds_L4 (y_X10_laysRounds_J39) 5000 a0 (0 : Int32) (0 : Int32) h
theorem m_X10_laysRounds {g : xG} (a0 : Nat) (h : xH) (cl : Bool) (r : Int32 × xH) (e : f_X10_laysRounds a0 h = some r) : XM g DX10_laysRounds [.ref a0] h cl (iI r) := YM.of rfl rfl (Nat.le_of_ble_eq_true rfl) (y_X10_laysRounds a0 h) e
def f_X10_rounds (a0 : Nat) (h : xH) : Option (Int32 × xH) :=
  (pI h 10 a0 0 (0 : Int32)).bind fun h1 =>
  (vc h1 10 a0 (f_X10_laysRounds a0 h1)).bind fun r2 =>
  some (r2.1, r2.2)
theorem y_X10_rounds {g : xG} {h0 : xH} {cl : Bool} (a0 : Nat) (h : xH) : Y g DX10_rounds h0 cl iI (f_X10_rounds a0 h) 0 [some (.ref a0)] [] h := by
  unfold f_X10_rounds
  refine Y.op (pc' := 1) (fun _ => X.aloadn rfl dX10_rounds_0) ?_
  refine Y.op (pc' := 2) (fun _ => X.ic ki_0 dX10_rounds_1) ?_
  refine Y.putI fd_X10_82 rfl dX10_rounds_2 (fun h1 => ?_)
  refine Y.op (pc' := 6) (fun _ => X.aloadn rfl dX10_rounds_5) ?_
  refine Y.callVi (As := []) lk_X10_356 rfl cal_X10_laysRounds vir_X10_laysRounds (Nat.le_of_ble_eq_true rfl) (Nat.le_of_ble_eq_true rfl) rfl rfl rfl (Nat.le_of_ble_eq_true rfl) dX10_rounds_6 (fun _ e => m_X10_laysRounds a0 h1 _ _ e) (fun r2 => ?_)
  exact Y.ireturn rfl dX10_rounds_9
theorem m_X10_rounds {g : xG} (a0 : Nat) (h : xH) (cl : Bool) (r : Int32 × xH) (e : f_X10_rounds a0 h = some r) : XM g DX10_rounds [.ref a0] h cl (iI r) := YM.of rfl rfl (Nat.le_of_ble_eq_true rfl) (y_X10_rounds a0 h) e
def f_X10_round_J29 (x0 : Nat) (x1 : Int32) (x2 : Int32) (s0 : Nat) (s1 : Int32) (h : xH) : Option (Int32 × xH) :=
  (vc h 10 s0 (f_X10_bad s0 s1 (1 : Int32) (0 : Int32) h)).bind fun r1 =>
  if r1.1 = (0 : Int32) then
    (vc r1.2 10 x0 (f_X10_laysRounds x0 r1.2)).bind fun r2 =>
    (gR r2.2 10 x0 32).bind fun v3 =>
    (aR 102 r2.2 v3 x1).bind fun v4 =>
    (aI r2.2 v4 x2).bind fun v5 =>
    some (v5, r2.2)
  else
    some ((0 : Int32), r1.2)
theorem y_X10_round_J29 {g : xG} {h0 : xH} {cl : Bool} (x0 : Nat) (x1 : Int32) (x2 : Int32) (s0 : Nat) (s1 : Int32) (h : xH) : Y g DX10_round h0 cl iI (f_X10_round_J29 x0 x1 x2 s0 s1 h) 29 [some (.ref x0), some (.int x1), some (.int x2)] [.int s1, .ref s0] h := by
  unfold f_X10_round_J29
  refine Y.op (pc' := 30) (fun _ => X.ic ki_1 dX10_round_29) ?_
  refine Y.op (pc' := 31) (fun _ => X.ic ki_0 dX10_round_30) ?_
  refine Y.callVi (As := [.int s1, .int (1 : Int32), .int (0 : Int32)]) lk_X10_217 rfl cal_X10_bad vir_X10_bad (Nat.le_of_ble_eq_true rfl) (Nat.le_of_ble_eq_true rfl) rfl rfl rfl (Nat.le_of_ble_eq_true rfl) dX10_round_31 (fun _ e => m_X10_bad s0 s1 (1 : Int32) (0 : Int32) h _ _ e) (fun r1 => ?_)
  refine Y.ifeq 39 (by decide) dX10_round_34 ?_ ?_
  · refine Y.op (pc' := 40) (fun _ => X.aloadn rfl dX10_round_39) ?_
    refine Y.callVi (As := []) lk_X10_356 rfl cal_X10_laysRounds vir_X10_laysRounds (Nat.le_of_ble_eq_true rfl) (Nat.le_of_ble_eq_true rfl) rfl rfl rfl (Nat.le_of_ble_eq_true rfl) dX10_round_40 (fun _ e => m_X10_laysRounds x0 r1.2 _ _ e) (fun r2 => ?_)
    refine Y.op (pc' := 44) (fun _ => X.pop rfl dX10_round_43) ?_
    refine Y.op (pc' := 45) (fun _ => X.aloadn rfl dX10_round_44) ?_
    refine Y.getR fd_X10_54 rfl dX10_round_45 (fun v3 => ?_)
    refine Y.op (pc' := 49) (fun _ => X.iloadn rfl dX10_round_48) ?_
    refine Y.aldR 102 (by decide) (by decide) dX10_round_49 (fun v4 => ?_)
    refine Y.op (pc' := 51) (fun _ => X.iloadn rfl dX10_round_50) ?_
    refine Y.aldI dX10_round_51 (fun v5 => ?_)
    exact Y.ireturn rfl dX10_round_52
  · refine Y.op (pc' := 38) (fun _ => X.ic ki_0 dX10_round_37) ?_
    exact Y.ireturn rfl dX10_round_38
def f_X10_round_J24 (x0 : Nat) (x1 : Int32) (x2 : Int32) (s0 : Nat) (h : xH) : Option (Int32 × xH) :=
  f_X10_round_J29 x0 x1 x2 s0 (1 : Int32) h
theorem y_X10_round_J24 {g : xG} {h0 : xH} {cl : Bool} (x0 : Nat) (x1 : Int32) (x2 : Int32) (s0 : Nat) (h : xH) : Y g DX10_round h0 cl iI (f_X10_round_J24 x0 x1 x2 s0 h) 24 [some (.ref x0), some (.int x1), some (.int x2)] [.ref s0] h := by
  unfold f_X10_round_J24
  refine Y.op (pc' := 25) (fun _ => X.ic ki_1 dX10_round_24) ?_
  refine Y.op (pc' := 29) (fun _ => X.goto 29 (by decide) dX10_round_25) ?_
  exact y_X10_round_J29 x0 x1 x2 s0 (1 : Int32) h
def f_X10_round (a0 : Nat) (p1 : Int32) (p2 : Int32) (h : xH) : Option (Int32 × xH) :=
  (pI h 10 a0 0 (0 : Int32)).bind fun h1 =>
  (vc h1 10 a0 (f_X10_isOne a0 (0 : Int32) p1 h1)).bind fun r2 =>
  if r2.1 = (0 : Int32) then
    f_X10_round_J24 a0 p1 p2 a0 r2.2
  else
    (vc r2.2 10 a0 (f_X10_isOne a0 (1 : Int32) p2 r2.2)).bind fun r3 =>
    if r3.1 = (0 : Int32) then
      f_X10_round_J24 a0 p1 p2 a0 r3.2
    else
      f_X10_round_J29 a0 p1 p2 a0 (0 : Int32) r3.2
theorem y_X10_round {g : xG} {h0 : xH} {cl : Bool} (a0 : Nat) (p1 : Int32) (p2 : Int32) (h : xH) : Y g DX10_round h0 cl iI (f_X10_round a0 p1 p2 h) 0 [some (.ref a0), some (.int p1), some (.int p2)] [] h := by
  unfold f_X10_round
  refine Y.op (pc' := 1) (fun _ => X.aloadn rfl dX10_round_0) ?_
  refine Y.op (pc' := 2) (fun _ => X.ic ki_0 dX10_round_1) ?_
  refine Y.putI fd_X10_82 rfl dX10_round_2 (fun h1 => ?_)
  refine Y.op (pc' := 6) (fun _ => X.aloadn rfl dX10_round_5) ?_
  refine Y.op (pc' := 7) (fun _ => X.aloadn rfl dX10_round_6) ?_
  refine Y.op (pc' := 8) (fun _ => X.ic ki_0 dX10_round_7) ?_
  refine Y.op (pc' := 9) (fun _ => X.iloadn rfl dX10_round_8) ?_
  refine Y.callVi (As := [.int (0 : Int32), .int p1]) lk_X10_282 rfl cal_X10_isOne vir_X10_isOne (Nat.le_of_ble_eq_true rfl) (Nat.le_of_ble_eq_true rfl) rfl rfl rfl (Nat.le_of_ble_eq_true rfl) dX10_round_9 (fun _ e => m_X10_isOne a0 (0 : Int32) p1 h1 _ _ e) (fun r2 => ?_)
  refine Y.ifeq 24 (by decide) dX10_round_12 ?_ ?_
  · exact y_X10_round_J24 a0 p1 p2 a0 r2.2
  · refine Y.op (pc' := 16) (fun _ => X.aloadn rfl dX10_round_15) ?_
    refine Y.op (pc' := 17) (fun _ => X.ic ki_1 dX10_round_16) ?_
    refine Y.op (pc' := 18) (fun _ => X.iloadn rfl dX10_round_17) ?_
    refine Y.callVi (As := [.int (1 : Int32), .int p2]) lk_X10_282 rfl cal_X10_isOne vir_X10_isOne (Nat.le_of_ble_eq_true rfl) (Nat.le_of_ble_eq_true rfl) rfl rfl rfl (Nat.le_of_ble_eq_true rfl) dX10_round_18 (fun _ e => m_X10_isOne a0 (1 : Int32) p2 r2.2 _ _ e) (fun r3 => ?_)
    refine Y.ifne 28 (by decide) dX10_round_21 ?_ ?_
    · refine Y.op (pc' := 29) (fun _ => X.ic ki_0 dX10_round_28) ?_
      exact y_X10_round_J29 a0 p1 p2 a0 (0 : Int32) r3.2
    · exact y_X10_round_J24 a0 p1 p2 a0 r3.2
theorem m_X10_round {g : xG} (a0 : Nat) (p1 : Int32) (p2 : Int32) (h : xH) (cl : Bool) (r : Int32 × xH) (e : f_X10_round a0 p1 p2 h = some r) : XM g DX10_round [.ref a0, .int p1, .int p2] h cl (iI r) := YM.of rfl rfl (Nat.le_of_ble_eq_true rfl) (y_X10_round a0 p1 p2 h) e
def f_X10_laysReach_J250 (x0 : Nat) (h : xH) : Option (xH) :=
  (vc h 10 x0 (f_X10_copies x0 (17 : Int32) (0 : Int32) h)).bind fun h1 =>
  some h1
theorem y_X10_laysReach_J250 {g : xG} {h0 : xH} {cl : Bool} (x0 : Nat) (h : xH) : Y g DX10_laysReach h0 cl iV (f_X10_laysReach_J250 x0 h) 250 [some (.ref x0), none, none] [] h := by
  unfold f_X10_laysReach_J250
  refine Y.op (pc' := 251) (fun _ => X.aloadn rfl dX10_laysReach_250) ?_
  refine Y.op (pc' := 253) (fun _ => X.bp kb_17 dX10_laysReach_251) ?_
  refine Y.op (pc' := 254) (fun _ => X.ic ki_0 dX10_laysReach_253) ?_
  refine Y.callVv (As := [.int (17 : Int32), .int (0 : Int32)]) lk_X10_228 rfl cal_X10_copies vir_X10_copies (Nat.le_of_ble_eq_true rfl) (Nat.le_of_ble_eq_true rfl) rfl rfl rfl (Nat.le_of_ble_eq_true rfl) dX10_laysReach_254 (fun _ e => m_X10_copies x0 (17 : Int32) (0 : Int32) h _ _ e) (fun h1 => ?_)
  exact Y.vreturn rfl dX10_laysReach_257
def f_X10_laysReach_J244 (kH : Nat → Int32 → xH → Option (xH)) (kE250 : Nat → xH → Option (xH)) (x0 : Nat) (x1 : Int32) (h : xH) : Option (xH) :=
  lt (x1 + (1 : Int32)) fun v1 =>
  kH x0 v1 h
theorem y_X10_laysReach_J244 {g : xG} {h0 : xH} {cl : Bool} {kH : Nat → Int32 → xH → Option (xH)} {kE250 : Nat → xH → Option (xH)} (hkH : ∀ (x0 : Nat) (x1 : Int32) (h : xH), Y g DX10_laysReach h0 cl iV (kH x0 x1 h) 52 [some (.ref x0), some (.int x1), none] [] h) (hkE250 : ∀ (x0 : Nat) (h : xH), Y g DX10_laysReach h0 cl iV (kE250 x0 h) 250 [some (.ref x0), none, none] [] h) (x0 : Nat) (x1 : Int32) (h : xH) : Y g DX10_laysReach h0 cl iV (f_X10_laysReach_J244 kH kE250 x0 x1 h) 244 [some (.ref x0), some (.int x1), none] [] h := by
  unfold f_X10_laysReach_J244
  refine Y.iinc (i := 1) (loc' := fun v1 => [some (.ref x0), some (.int v1), none]) rfl (Nat.le_of_ble_eq_true rfl) ki_1 (fun _ => rfl) dX10_laysReach_244 (fun v1 => ?_)
  refine Y.op (pc' := 52) (fun _ => X.goto 52 (by decide) dX10_laysReach_247) ?_
  exact hkH x0 v1 h
def f_X10_laysReach_J238 (kH : Nat → Int32 → Int32 → xH → Option (xH)) (kE244 : Nat → Int32 → xH → Option (xH)) (x0 : Nat) (x1 : Int32) (x2 : Int32) (h : xH) : Option (xH) :=
  lt (x2 + (1 : Int32)) fun v1 =>
  kH x0 x1 v1 h
theorem y_X10_laysReach_J238 {g : xG} {h0 : xH} {cl : Bool} {kH : Nat → Int32 → Int32 → xH → Option (xH)} {kE244 : Nat → Int32 → xH → Option (xH)} (hkH : ∀ (x0 : Nat) (x1 : Int32) (x2 : Int32) (h : xH), Y g DX10_laysReach h0 cl iV (kH x0 x1 x2 h) 60 [some (.ref x0), some (.int x1), some (.int x2)] [] h) (hkE244 : ∀ (x0 : Nat) (x1 : Int32) (h : xH), Y g DX10_laysReach h0 cl iV (kE244 x0 x1 h) 244 [some (.ref x0), some (.int x1), none] [] h) (x0 : Nat) (x1 : Int32) (x2 : Int32) (h : xH) : Y g DX10_laysReach h0 cl iV (f_X10_laysReach_J238 kH kE244 x0 x1 x2 h) 238 [some (.ref x0), some (.int x1), some (.int x2)] [] h := by
  unfold f_X10_laysReach_J238
  refine Y.iinc (i := 2) (loc' := fun v1 => [some (.ref x0), some (.int x1), some (.int v1)]) rfl (Nat.le_of_ble_eq_true rfl) ki_1 (fun _ => rfl) dX10_laysReach_238 (fun v1 => ?_)
  refine Y.op (pc' := 60) (fun _ => X.goto 60 (by decide) dX10_laysReach_241) ?_
  exact hkH x0 x1 v1 h
def f_X10_laysReach_J194 (kH : Nat → Int32 → Int32 → xH → Option (xH)) (kE244 : Nat → Int32 → xH → Option (xH)) (x0 : Nat) (x1 : Int32) (x2 : Int32) (h : xH) : Option (xH) :=
  (gR h 10 x0 11).bind fun v1 =>
  (aR 102 h v1 (0 : Int32)).bind fun v2 =>
  (aI h v2 x2).bind fun v3 =>
  if v3 = (-1 : Int32) then
    f_X10_laysReach_J238 (kH) kE244 x0 x1 x2 h
  else
    (gR h 10 x0 34).bind fun v4 =>
    (aI h v4 (0 : Int32)).bind fun v5 =>
    (f_X10_has v5 x2 h).bind fun r6 =>
    if r6.1 = (0 : Int32) then
      f_X10_laysReach_J238 (kH) kE244 x0 x1 x2 r6.2
    else
      (gR r6.2 10 x0 34).bind fun v7 =>
      (aI r6.2 v7 (1 : Int32)).bind fun v8 =>
      (gR r6.2 10 x0 11).bind fun v9 =>
      (aR 102 r6.2 v9 (0 : Int32)).bind fun v10 =>
      (aI r6.2 v10 x2).bind fun v11 =>
      (sI r6.2 v7 (1 : Int32) (v8 ||| ((1 : Int32) <<< (v11 &&& 31)))).bind fun h12 =>
      f_X10_laysReach_J238 (kH) kE244 x0 x1 x2 h12
theorem y_X10_laysReach_J194 {g : xG} {h0 : xH} {cl : Bool} {kH : Nat → Int32 → Int32 → xH → Option (xH)} {kE244 : Nat → Int32 → xH → Option (xH)} (hkH : ∀ (x0 : Nat) (x1 : Int32) (x2 : Int32) (h : xH), Y g DX10_laysReach h0 cl iV (kH x0 x1 x2 h) 60 [some (.ref x0), some (.int x1), some (.int x2)] [] h) (hkE244 : ∀ (x0 : Nat) (x1 : Int32) (h : xH), Y g DX10_laysReach h0 cl iV (kE244 x0 x1 h) 244 [some (.ref x0), some (.int x1), none] [] h) (x0 : Nat) (x1 : Int32) (x2 : Int32) (h : xH) : Y g DX10_laysReach h0 cl iV (f_X10_laysReach_J194 kH kE244 x0 x1 x2 h) 194 [some (.ref x0), some (.int x1), some (.int x2)] [] h := by
  unfold f_X10_laysReach_J194
  refine Y.op (pc' := 195) (fun _ => X.aloadn rfl dX10_laysReach_194) ?_
  refine Y.getR fd_X10_28 rfl dX10_laysReach_195 (fun v1 => ?_)
  refine Y.op (pc' := 199) (fun _ => X.ic ki_0 dX10_laysReach_198) ?_
  refine Y.aldR 102 (by decide) (by decide) dX10_laysReach_199 (fun v2 => ?_)
  refine Y.op (pc' := 201) (fun _ => X.iloadn rfl dX10_laysReach_200) ?_
  refine Y.aldI dX10_laysReach_201 (fun v3 => ?_)
  refine Y.op (pc' := 203) (fun _ => X.ic ki_m1 dX10_laysReach_202) ?_
  refine Y.cmpeq 238 (by decide) dX10_laysReach_203 ?_ ?_
  · exact y_X10_laysReach_J238 hkH hkE244 x0 x1 x2 h
  · refine Y.op (pc' := 207) (fun _ => X.aloadn rfl dX10_laysReach_206) ?_
    refine Y.getR fd_X10_60 rfl dX10_laysReach_207 (fun v4 => ?_)
    refine Y.op (pc' := 211) (fun _ => X.ic ki_0 dX10_laysReach_210) ?_
    refine Y.aldI dX10_laysReach_211 (fun v5 => ?_)
    refine Y.op (pc' := 213) (fun _ => X.iloadn rfl dX10_laysReach_212) ?_
    refine Y.callSi (As := [.int v5, .int x2]) lk_X10_182 rfl cal_X10_has sta_X10_has (Nat.le_of_ble_eq_true rfl) rfl rfl (Nat.le_of_ble_eq_true rfl) dX10_laysReach_213 (fun _ e => m_X10_has v5 x2 h _ _ e) (fun r6 => ?_)
    refine Y.ifeq 238 (by decide) dX10_laysReach_216 ?_ ?_
    · exact y_X10_laysReach_J238 hkH hkE244 x0 x1 x2 r6.2
    · refine Y.op (pc' := 220) (fun _ => X.aloadn rfl dX10_laysReach_219) ?_
      refine Y.getR fd_X10_60 rfl dX10_laysReach_220 (fun v7 => ?_)
      refine Y.op (pc' := 224) (fun _ => X.ic ki_1 dX10_laysReach_223) ?_
      refine Y.op (pc' := 225) (fun _ => X.dup2 rfl rfl dX10_laysReach_224) ?_
      refine Y.aldI dX10_laysReach_225 (fun v8 => ?_)
      refine Y.op (pc' := 227) (fun _ => X.ic ki_1 dX10_laysReach_226) ?_
      refine Y.op (pc' := 228) (fun _ => X.aloadn rfl dX10_laysReach_227) ?_
      refine Y.getR fd_X10_28 rfl dX10_laysReach_228 (fun v9 => ?_)
      refine Y.op (pc' := 232) (fun _ => X.ic ki_0 dX10_laysReach_231) ?_
      refine Y.aldR 102 (by decide) (by decide) dX10_laysReach_232 (fun v10 => ?_)
      refine Y.op (pc' := 234) (fun _ => X.iloadn rfl dX10_laysReach_233) ?_
      refine Y.aldI dX10_laysReach_234 (fun v11 => ?_)
      refine Y.op (pc' := 236) (fun _ => X.ishl dX10_laysReach_235) ?_
      refine Y.op (pc' := 237) (fun _ => X.ior dX10_laysReach_236) ?_
      refine Y.astI dX10_laysReach_237 (fun h12 => ?_)
      exact y_X10_laysReach_J238 hkH hkE244 x0 x1 x2 h12
def f_X10_laysReach_J155 (kH : Nat → Int32 → Int32 → xH → Option (xH)) (kE244 : Nat → Int32 → xH → Option (xH)) (x0 : Nat) (x1 : Int32) (x2 : Int32) (h : xH) : Option (xH) :=
  (vc h 10 x0 (f_X10_isThere x0 (0 : Int32) x2 h)).bind fun r1 =>
  if r1.1 = (0 : Int32) then
    f_X10_laysReach_J194 (kH) kE244 x0 x1 x2 r1.2
  else
    (gR r1.2 10 x0 10).bind fun v2 =>
    (aR 102 r1.2 v2 (0 : Int32)).bind fun v3 =>
    (aI r1.2 v3 x2).bind fun v4 =>
    (gR r1.2 10 x0 34).bind fun v5 =>
    (aI r1.2 v5 (1 : Int32)).bind fun v6 =>
    if (v4 &&& v6) = (0 : Int32) then
      f_X10_laysReach_J194 (kH) kE244 x0 x1 x2 r1.2
    else
      (gR r1.2 10 x0 34).bind fun v7 =>
      (aI r1.2 v7 (0 : Int32)).bind fun v8 =>
      (sI r1.2 v7 (0 : Int32) (v8 ||| ((1 : Int32) <<< (x2 &&& 31)))).bind fun h9 =>
      f_X10_laysReach_J194 (kH) kE244 x0 x1 x2 h9
theorem y_X10_laysReach_J155 {g : xG} {h0 : xH} {cl : Bool} {kH : Nat → Int32 → Int32 → xH → Option (xH)} {kE244 : Nat → Int32 → xH → Option (xH)} (hkH : ∀ (x0 : Nat) (x1 : Int32) (x2 : Int32) (h : xH), Y g DX10_laysReach h0 cl iV (kH x0 x1 x2 h) 60 [some (.ref x0), some (.int x1), some (.int x2)] [] h) (hkE244 : ∀ (x0 : Nat) (x1 : Int32) (h : xH), Y g DX10_laysReach h0 cl iV (kE244 x0 x1 h) 244 [some (.ref x0), some (.int x1), none] [] h) (x0 : Nat) (x1 : Int32) (x2 : Int32) (h : xH) : Y g DX10_laysReach h0 cl iV (f_X10_laysReach_J155 kH kE244 x0 x1 x2 h) 155 [some (.ref x0), some (.int x1), some (.int x2)] [] h := by
  unfold f_X10_laysReach_J155
  refine Y.op (pc' := 156) (fun _ => X.aloadn rfl dX10_laysReach_155) ?_
  refine Y.op (pc' := 157) (fun _ => X.ic ki_0 dX10_laysReach_156) ?_
  refine Y.op (pc' := 158) (fun _ => X.iloadn rfl dX10_laysReach_157) ?_
  refine Y.callVi (As := [.int (0 : Int32), .int x2]) lk_X10_240 rfl cal_X10_isThere vir_X10_isThere (Nat.le_of_ble_eq_true rfl) (Nat.le_of_ble_eq_true rfl) rfl rfl rfl (Nat.le_of_ble_eq_true rfl) dX10_laysReach_158 (fun _ e => m_X10_isThere x0 (0 : Int32) x2 h _ _ e) (fun r1 => ?_)
  refine Y.ifeq 194 (by decide) dX10_laysReach_161 ?_ ?_
  · exact y_X10_laysReach_J194 hkH hkE244 x0 x1 x2 r1.2
  · refine Y.op (pc' := 165) (fun _ => X.aloadn rfl dX10_laysReach_164) ?_
    refine Y.getR fd_X10_25 rfl dX10_laysReach_165 (fun v2 => ?_)
    refine Y.op (pc' := 169) (fun _ => X.ic ki_0 dX10_laysReach_168) ?_
    refine Y.aldR 102 (by decide) (by decide) dX10_laysReach_169 (fun v3 => ?_)
    refine Y.op (pc' := 171) (fun _ => X.iloadn rfl dX10_laysReach_170) ?_
    refine Y.aldI dX10_laysReach_171 (fun v4 => ?_)
    refine Y.op (pc' := 173) (fun _ => X.aloadn rfl dX10_laysReach_172) ?_
    refine Y.getR fd_X10_60 rfl dX10_laysReach_173 (fun v5 => ?_)
    refine Y.op (pc' := 177) (fun _ => X.ic ki_1 dX10_laysReach_176) ?_
    refine Y.aldI dX10_laysReach_177 (fun v6 => ?_)
    refine Y.op (pc' := 179) (fun _ => X.iand dX10_laysReach_178) ?_
    refine Y.ifeq 194 (by decide) dX10_laysReach_179 ?_ ?_
    · exact y_X10_laysReach_J194 hkH hkE244 x0 x1 x2 r1.2
    · refine Y.op (pc' := 183) (fun _ => X.aloadn rfl dX10_laysReach_182) ?_
      refine Y.getR fd_X10_60 rfl dX10_laysReach_183 (fun v7 => ?_)
      refine Y.op (pc' := 187) (fun _ => X.ic ki_0 dX10_laysReach_186) ?_
      refine Y.op (pc' := 188) (fun _ => X.dup2 rfl rfl dX10_laysReach_187) ?_
      refine Y.aldI dX10_laysReach_188 (fun v8 => ?_)
      refine Y.op (pc' := 190) (fun _ => X.ic ki_1 dX10_laysReach_189) ?_
      refine Y.op (pc' := 191) (fun _ => X.iloadn rfl dX10_laysReach_190) ?_
      refine Y.op (pc' := 192) (fun _ => X.ishl dX10_laysReach_191) ?_
      refine Y.op (pc' := 193) (fun _ => X.ior dX10_laysReach_192) ?_
      refine Y.astI dX10_laysReach_193 (fun h9 => ?_)
      exact y_X10_laysReach_J194 hkH hkE244 x0 x1 x2 h9
def f_X10_laysReach_J111 (kH : Nat → Int32 → Int32 → xH → Option (xH)) (kE244 : Nat → Int32 → xH → Option (xH)) (x0 : Nat) (x1 : Int32) (x2 : Int32) (h : xH) : Option (xH) :=
  (gR h 10 x0 11).bind fun v1 =>
  (aR 102 h v1 (0 : Int32)).bind fun v2 =>
  (aI h v2 x2).bind fun v3 =>
  if v3 = (-1 : Int32) then
    f_X10_laysReach_J155 (kH) kE244 x0 x1 x2 h
  else
    (gR h 10 x0 33).bind fun v4 =>
    (aI h v4 (1 : Int32)).bind fun v5 =>
    (gR h 10 x0 11).bind fun v6 =>
    (aR 102 h v6 (0 : Int32)).bind fun v7 =>
    (aI h v7 x2).bind fun v8 =>
    (f_X10_has v5 v8 h).bind fun r9 =>
    if r9.1 = (0 : Int32) then
      f_X10_laysReach_J155 (kH) kE244 x0 x1 x2 r9.2
    else
      (gR r9.2 10 x0 33).bind fun v10 =>
      (aI r9.2 v10 (0 : Int32)).bind fun v11 =>
      (sI r9.2 v10 (0 : Int32) (v11 ||| ((1 : Int32) <<< (x2 &&& 31)))).bind fun h12 =>
      f_X10_laysReach_J155 (kH) kE244 x0 x1 x2 h12
theorem y_X10_laysReach_J111 {g : xG} {h0 : xH} {cl : Bool} {kH : Nat → Int32 → Int32 → xH → Option (xH)} {kE244 : Nat → Int32 → xH → Option (xH)} (hkH : ∀ (x0 : Nat) (x1 : Int32) (x2 : Int32) (h : xH), Y g DX10_laysReach h0 cl iV (kH x0 x1 x2 h) 60 [some (.ref x0), some (.int x1), some (.int x2)] [] h) (hkE244 : ∀ (x0 : Nat) (x1 : Int32) (h : xH), Y g DX10_laysReach h0 cl iV (kE244 x0 x1 h) 244 [some (.ref x0), some (.int x1), none] [] h) (x0 : Nat) (x1 : Int32) (x2 : Int32) (h : xH) : Y g DX10_laysReach h0 cl iV (f_X10_laysReach_J111 kH kE244 x0 x1 x2 h) 111 [some (.ref x0), some (.int x1), some (.int x2)] [] h := by
  unfold f_X10_laysReach_J111
  refine Y.op (pc' := 112) (fun _ => X.aloadn rfl dX10_laysReach_111) ?_
  refine Y.getR fd_X10_28 rfl dX10_laysReach_112 (fun v1 => ?_)
  refine Y.op (pc' := 116) (fun _ => X.ic ki_0 dX10_laysReach_115) ?_
  refine Y.aldR 102 (by decide) (by decide) dX10_laysReach_116 (fun v2 => ?_)
  refine Y.op (pc' := 118) (fun _ => X.iloadn rfl dX10_laysReach_117) ?_
  refine Y.aldI dX10_laysReach_118 (fun v3 => ?_)
  refine Y.op (pc' := 120) (fun _ => X.ic ki_m1 dX10_laysReach_119) ?_
  refine Y.cmpeq 155 (by decide) dX10_laysReach_120 ?_ ?_
  · exact y_X10_laysReach_J155 hkH hkE244 x0 x1 x2 h
  · refine Y.op (pc' := 124) (fun _ => X.aloadn rfl dX10_laysReach_123) ?_
    refine Y.getR fd_X10_57 rfl dX10_laysReach_124 (fun v4 => ?_)
    refine Y.op (pc' := 128) (fun _ => X.ic ki_1 dX10_laysReach_127) ?_
    refine Y.aldI dX10_laysReach_128 (fun v5 => ?_)
    refine Y.op (pc' := 130) (fun _ => X.aloadn rfl dX10_laysReach_129) ?_
    refine Y.getR fd_X10_28 rfl dX10_laysReach_130 (fun v6 => ?_)
    refine Y.op (pc' := 134) (fun _ => X.ic ki_0 dX10_laysReach_133) ?_
    refine Y.aldR 102 (by decide) (by decide) dX10_laysReach_134 (fun v7 => ?_)
    refine Y.op (pc' := 136) (fun _ => X.iloadn rfl dX10_laysReach_135) ?_
    refine Y.aldI dX10_laysReach_136 (fun v8 => ?_)
    refine Y.callSi (As := [.int v5, .int v8]) lk_X10_182 rfl cal_X10_has sta_X10_has (Nat.le_of_ble_eq_true rfl) rfl rfl (Nat.le_of_ble_eq_true rfl) dX10_laysReach_137 (fun _ e => m_X10_has v5 v8 h _ _ e) (fun r9 => ?_)
    refine Y.ifeq 155 (by decide) dX10_laysReach_140 ?_ ?_
    · exact y_X10_laysReach_J155 hkH hkE244 x0 x1 x2 r9.2
    · refine Y.op (pc' := 144) (fun _ => X.aloadn rfl dX10_laysReach_143) ?_
      refine Y.getR fd_X10_57 rfl dX10_laysReach_144 (fun v10 => ?_)
      refine Y.op (pc' := 148) (fun _ => X.ic ki_0 dX10_laysReach_147) ?_
      refine Y.op (pc' := 149) (fun _ => X.dup2 rfl rfl dX10_laysReach_148) ?_
      refine Y.aldI dX10_laysReach_149 (fun v11 => ?_)
      refine Y.op (pc' := 151) (fun _ => X.ic ki_1 dX10_laysReach_150) ?_
      refine Y.op (pc' := 152) (fun _ => X.iloadn rfl dX10_laysReach_151) ?_
      refine Y.op (pc' := 153) (fun _ => X.ishl dX10_laysReach_152) ?_
      refine Y.op (pc' := 154) (fun _ => X.ior dX10_laysReach_153) ?_
      refine Y.astI dX10_laysReach_154 (fun h12 => ?_)
      exact y_X10_laysReach_J155 hkH hkE244 x0 x1 x2 h12
def f_X10_laysReach_L60 (kE244 : Nat → Int32 → xH → Option (xH)) : Nat → Nat → Int32 → Int32 → xH → Option (xH)
  | 0 => fun _ _ _ _ => none
  | n + 1 => fun x0 x1 x2 h =>
    (gR h 10 x0 9).bind fun v1 =>
    (aR 102 h v1 (0 : Int32)).bind fun v2 =>
    (aI h v2 (0 : Int32)).bind fun v3 =>
    if x2 ≥ v3 then
      kE244 x0 x1 h
    else
      (gR h 10 x0 33).bind fun v4 =>
      (aI h v4 (0 : Int32)).bind fun v5 =>
      (f_X10_has v5 x2 h).bind fun r6 =>
      if r6.1 = (0 : Int32) then
        f_X10_laysReach_J111 (f_X10_laysReach_L60 kE244 n) kE244 x0 x1 x2 r6.2
      else
        (gR r6.2 10 x0 33).bind fun v7 =>
        (aI r6.2 v7 (1 : Int32)).bind fun v8 =>
        (gR r6.2 10 x0 10).bind fun v9 =>
        (aR 102 r6.2 v9 (0 : Int32)).bind fun v10 =>
        (aI r6.2 v10 x2).bind fun v11 =>
        (gR r6.2 10 x0 9).bind fun v12 =>
        (aR 102 r6.2 v12 (0 : Int32)).bind fun v13 =>
        (aI r6.2 v13 (4 : Int32)).bind fun v14 =>
        (sI r6.2 v7 (1 : Int32) (v8 ||| (v11 &&& v14))).bind fun h15 =>
        f_X10_laysReach_J111 (f_X10_laysReach_L60 kE244 n) kE244 x0 x1 x2 h15
theorem y_X10_laysReach_L60 {g : xG} {h0 : xH} {cl : Bool} {kE244 : Nat → Int32 → xH → Option (xH)} (hkE244 : ∀ (x0 : Nat) (x1 : Int32) (h : xH), Y g DX10_laysReach h0 cl iV (kE244 x0 x1 h) 244 [some (.ref x0), some (.int x1), none] [] h) : ∀ (n : Nat) (x0 : Nat) (x1 : Int32) (x2 : Int32) (h : xH), Y g DX10_laysReach h0 cl iV (f_X10_laysReach_L60 kE244 n x0 x1 x2 h) 60 [some (.ref x0), some (.int x1), some (.int x2)] [] h := by
  intro n
  induction n with
  | zero => intro x0 x1 x2 h; exact Y.nothing
  | succ n ih =>
    intro x0 x1 x2 h
    unfold f_X10_laysReach_L60
    refine Y.op (pc' := 61) (fun _ => X.iloadn rfl dX10_laysReach_60) ?_
    refine Y.op (pc' := 62) (fun _ => X.aloadn rfl dX10_laysReach_61) ?_
    refine Y.getR fd_X10_22 rfl dX10_laysReach_62 (fun v1 => ?_)
    refine Y.op (pc' := 66) (fun _ => X.ic ki_0 dX10_laysReach_65) ?_
    refine Y.aldR 102 (by decide) (by decide) dX10_laysReach_66 (fun v2 => ?_)
    refine Y.op (pc' := 68) (fun _ => X.ic ki_0 dX10_laysReach_67) ?_
    refine Y.aldI dX10_laysReach_68 (fun v3 => ?_)
    refine Y.cmpge 244 (by decide) dX10_laysReach_69 ?_ ?_
    · exact Y.fg (hkE244 x0 x1 h) (And.intro rfl (And.intro rfl trivial))
    · refine Y.op (pc' := 73) (fun _ => X.aloadn rfl dX10_laysReach_72) ?_
      refine Y.getR fd_X10_57 rfl dX10_laysReach_73 (fun v4 => ?_)
      refine Y.op (pc' := 77) (fun _ => X.ic ki_0 dX10_laysReach_76) ?_
      refine Y.aldI dX10_laysReach_77 (fun v5 => ?_)
      refine Y.op (pc' := 79) (fun _ => X.iloadn rfl dX10_laysReach_78) ?_
      refine Y.callSi (As := [.int v5, .int x2]) lk_X10_182 rfl cal_X10_has sta_X10_has (Nat.le_of_ble_eq_true rfl) rfl rfl (Nat.le_of_ble_eq_true rfl) dX10_laysReach_79 (fun _ e => m_X10_has v5 x2 h _ _ e) (fun r6 => ?_)
      refine Y.ifeq 111 (by decide) dX10_laysReach_82 ?_ ?_
      · exact y_X10_laysReach_J111 ih hkE244 x0 x1 x2 r6.2
      · refine Y.op (pc' := 86) (fun _ => X.aloadn rfl dX10_laysReach_85) ?_
        refine Y.getR fd_X10_57 rfl dX10_laysReach_86 (fun v7 => ?_)
        refine Y.op (pc' := 90) (fun _ => X.ic ki_1 dX10_laysReach_89) ?_
        refine Y.op (pc' := 91) (fun _ => X.dup2 rfl rfl dX10_laysReach_90) ?_
        refine Y.aldI dX10_laysReach_91 (fun v8 => ?_)
        refine Y.op (pc' := 93) (fun _ => X.aloadn rfl dX10_laysReach_92) ?_
        refine Y.getR fd_X10_25 rfl dX10_laysReach_93 (fun v9 => ?_)
        refine Y.op (pc' := 97) (fun _ => X.ic ki_0 dX10_laysReach_96) ?_
        refine Y.aldR 102 (by decide) (by decide) dX10_laysReach_97 (fun v10 => ?_)
        refine Y.op (pc' := 99) (fun _ => X.iloadn rfl dX10_laysReach_98) ?_
        refine Y.aldI dX10_laysReach_99 (fun v11 => ?_)
        refine Y.op (pc' := 101) (fun _ => X.aloadn rfl dX10_laysReach_100) ?_
        refine Y.getR fd_X10_22 rfl dX10_laysReach_101 (fun v12 => ?_)
        refine Y.op (pc' := 105) (fun _ => X.ic ki_0 dX10_laysReach_104) ?_
        refine Y.aldR 102 (by decide) (by decide) dX10_laysReach_105 (fun v13 => ?_)
        refine Y.op (pc' := 107) (fun _ => X.ic ki_4 dX10_laysReach_106) ?_
        refine Y.aldI dX10_laysReach_107 (fun v14 => ?_)
        refine Y.op (pc' := 109) (fun _ => X.iand dX10_laysReach_108) ?_
        refine Y.op (pc' := 110) (fun _ => X.ior dX10_laysReach_109) ?_
        refine Y.astI dX10_laysReach_110 (fun h15 => ?_)
        exact y_X10_laysReach_J111 ih hkE244 x0 x1 x2 h15
def f_X10_laysReach_L52 (kE250 : Nat → xH → Option (xH)) : Nat → Nat → Int32 → xH → Option (xH)
  | 0 => fun _ _ _ => none
  | n + 1 => fun x0 x1 h =>
    if x1 ≥ (24 : Int32) then
      kE250 x0 h
    else
      f_X10_laysReach_L60 (f_X10_laysReach_J244 (f_X10_laysReach_L52 kE250 n) kE250) 5000 x0 x1 (0 : Int32) h
theorem y_X10_laysReach_L52 {g : xG} {h0 : xH} {cl : Bool} {kE250 : Nat → xH → Option (xH)} (hkE250 : ∀ (x0 : Nat) (h : xH), Y g DX10_laysReach h0 cl iV (kE250 x0 h) 250 [some (.ref x0), none, none] [] h) : ∀ (n : Nat) (x0 : Nat) (x1 : Int32) (h : xH), Y g DX10_laysReach h0 cl iV (f_X10_laysReach_L52 kE250 n x0 x1 h) 52 [some (.ref x0), some (.int x1), none] [] h := by
  intro n
  induction n with
  | zero => intro x0 x1 h; exact Y.nothing
  | succ n ih =>
    intro x0 x1 h
    unfold f_X10_laysReach_L52
    refine Y.op (pc' := 53) (fun _ => X.iloadn rfl dX10_laysReach_52) ?_
    refine Y.op (pc' := 55) (fun _ => X.bp kb_24 dX10_laysReach_53) ?_
    refine Y.cmpge 250 (by decide) dX10_laysReach_55 ?_ ?_
    · exact Y.fg (hkE250 x0 h) (And.intro rfl trivial)
    · refine Y.op (pc' := 59) (fun _ => X.ic ki_0 dX10_laysReach_58) ?_
      refine Y.op (pc' := 60) (loc' := [some (.ref x0), some (.int x1), some (.int (0 : Int32))]) (fun _ => X.istoren (Nat.le_of_ble_eq_true rfl) rfl dX10_laysReach_59) ?_
      exact y_X10_laysReach_L60 (y_X10_laysReach_J244 ih hkE250) 5000 x0 x1 (0 : Int32) h
def f_X10_laysReach (a0 : Nat) (h : xH) : Option (xH) :=
  (vc h 10 a0 (f_X10_copies a0 (0 : Int32) (17 : Int32) h)).bind fun h1 =>
  (vc h1 10 a0 (f_X10_settles a0 (12 : Int32) h1)).bind fun r2 =>
  (gR r2.2 10 a0 33).bind fun v3 =>
  (vc r2.2 10 a0 (f_X10_freeOf a0 (0 : Int32) r2.2)).bind fun r4 =>
  (sI r4.2 v3 (0 : Int32) r4.1).bind fun h5 =>
  (gR h5 10 a0 33).bind fun v6 =>
  (sI h5 v6 (1 : Int32) (0 : Int32)).bind fun h7 =>
  (gR h7 10 a0 34).bind fun v8 =>
  (vc h7 10 a0 (f_X10_freeOf a0 (1 : Int32) h7)).bind fun r9 =>
  (sI r9.2 v8 (1 : Int32) r9.1).bind fun h10 =>
  (gR h10 10 a0 34).bind fun v11 =>
  (sI h10 v11 (0 : Int32) (0 : Int32)).bind fun h12 =>
  f_X10_laysReach_L52 (f_X10_laysReach_J250) 5000 a0 (0 : Int32) h12
theorem y_X10_laysReach {g : xG} {h0 : xH} {cl : Bool} (a0 : Nat) (h : xH) : Y g DX10_laysReach h0 cl iV (f_X10_laysReach a0 h) 0 [some (.ref a0), none, none] [] h := by
  unfold f_X10_laysReach
  refine Y.op (pc' := 1) (fun _ => X.aloadn rfl dX10_laysReach_0) ?_
  refine Y.op (pc' := 2) (fun _ => X.ic ki_0 dX10_laysReach_1) ?_
  refine Y.op (pc' := 4) (fun _ => X.bp kb_17 dX10_laysReach_2) ?_
  refine Y.callVv (As := [.int (0 : Int32), .int (17 : Int32)]) lk_X10_228 rfl cal_X10_copies vir_X10_copies (Nat.le_of_ble_eq_true rfl) (Nat.le_of_ble_eq_true rfl) rfl rfl rfl (Nat.le_of_ble_eq_true rfl) dX10_laysReach_4 (fun _ e => m_X10_copies a0 (0 : Int32) (17 : Int32) h _ _ e) (fun h1 => ?_)
  refine Y.op (pc' := 8) (fun _ => X.aloadn rfl dX10_laysReach_7) ?_
  refine Y.op (pc' := 10) (fun _ => X.bp kb_12 dX10_laysReach_8) ?_
  refine Y.callVi (As := [.int (12 : Int32)]) lk_X10_267 rfl cal_X10_settles vir_X10_settles (Nat.le_of_ble_eq_true rfl) (Nat.le_of_ble_eq_true rfl) rfl rfl rfl (Nat.le_of_ble_eq_true rfl) dX10_laysReach_10 (fun _ e => m_X10_settles a0 (12 : Int32) h1 _ _ e) (fun r2 => ?_)
  refine Y.op (pc' := 14) (fun _ => X.pop rfl dX10_laysReach_13) ?_
  refine Y.op (pc' := 15) (fun _ => X.aloadn rfl dX10_laysReach_14) ?_
  refine Y.getR fd_X10_57 rfl dX10_laysReach_15 (fun v3 => ?_)
  refine Y.op (pc' := 19) (fun _ => X.ic ki_0 dX10_laysReach_18) ?_
  refine Y.op (pc' := 20) (fun _ => X.aloadn rfl dX10_laysReach_19) ?_
  refine Y.op (pc' := 21) (fun _ => X.ic ki_0 dX10_laysReach_20) ?_
  refine Y.callVi (As := [.int (0 : Int32)]) lk_X10_276 rfl cal_X10_freeOf vir_X10_freeOf (Nat.le_of_ble_eq_true rfl) (Nat.le_of_ble_eq_true rfl) rfl rfl rfl (Nat.le_of_ble_eq_true rfl) dX10_laysReach_21 (fun _ e => m_X10_freeOf a0 (0 : Int32) r2.2 _ _ e) (fun r4 => ?_)
  refine Y.astI dX10_laysReach_24 (fun h5 => ?_)
  refine Y.op (pc' := 26) (fun _ => X.aloadn rfl dX10_laysReach_25) ?_
  refine Y.getR fd_X10_57 rfl dX10_laysReach_26 (fun v6 => ?_)
  refine Y.op (pc' := 30) (fun _ => X.ic ki_1 dX10_laysReach_29) ?_
  refine Y.op (pc' := 31) (fun _ => X.ic ki_0 dX10_laysReach_30) ?_
  refine Y.astI dX10_laysReach_31 (fun h7 => ?_)
  refine Y.op (pc' := 33) (fun _ => X.aloadn rfl dX10_laysReach_32) ?_
  refine Y.getR fd_X10_60 rfl dX10_laysReach_33 (fun v8 => ?_)
  refine Y.op (pc' := 37) (fun _ => X.ic ki_1 dX10_laysReach_36) ?_
  refine Y.op (pc' := 38) (fun _ => X.aloadn rfl dX10_laysReach_37) ?_
  refine Y.op (pc' := 39) (fun _ => X.ic ki_1 dX10_laysReach_38) ?_
  refine Y.callVi (As := [.int (1 : Int32)]) lk_X10_276 rfl cal_X10_freeOf vir_X10_freeOf (Nat.le_of_ble_eq_true rfl) (Nat.le_of_ble_eq_true rfl) rfl rfl rfl (Nat.le_of_ble_eq_true rfl) dX10_laysReach_39 (fun _ e => m_X10_freeOf a0 (1 : Int32) h7 _ _ e) (fun r9 => ?_)
  refine Y.astI dX10_laysReach_42 (fun h10 => ?_)
  refine Y.op (pc' := 44) (fun _ => X.aloadn rfl dX10_laysReach_43) ?_
  refine Y.getR fd_X10_60 rfl dX10_laysReach_44 (fun v11 => ?_)
  refine Y.op (pc' := 48) (fun _ => X.ic ki_0 dX10_laysReach_47) ?_
  refine Y.op (pc' := 49) (fun _ => X.ic ki_0 dX10_laysReach_48) ?_
  refine Y.astI dX10_laysReach_49 (fun h12 => ?_)
  refine Y.op (pc' := 51) (fun _ => X.ic ki_0 dX10_laysReach_50) ?_
  refine Y.op (pc' := 52) (loc' := [some (.ref a0), some (.int (0 : Int32)), none]) (fun _ => X.istoren (Nat.le_of_ble_eq_true rfl) rfl dX10_laysReach_51) ?_
  exact y_X10_laysReach_L52 (y_X10_laysReach_J250) 5000 a0 (0 : Int32) h12
theorem m_X10_laysReach {g : xG} (a0 : Nat) (h : xH) (cl : Bool) (r : xH) (e : f_X10_laysReach a0 h = some r) : XM g DX10_laysReach [.ref a0] h cl (iV r) := YM.of rfl rfl (Nat.le_of_ble_eq_true rfl) (y_X10_laysReach a0 h) e
def f_X10_reached_J20 (x0 : Nat) (x1 : Int32) (s0 : Nat) (s1 : Int32) (h : xH) : Option (Int32 × xH) :=
  (vc h 10 s0 (f_X10_bad s0 s1 (1 : Int32) (0 : Int32) h)).bind fun r1 =>
  if r1.1 = (0 : Int32) then
    (vc r1.2 10 x0 (f_X10_laysReach x0 r1.2)).bind fun h2 =>
    (gR h2 10 x0 33).bind fun v3 =>
    (aI h2 v3 x1).bind fun v4 =>
    some (v4, h2)
  else
    some ((0 : Int32), r1.2)
theorem y_X10_reached_J20 {g : xG} {h0 : xH} {cl : Bool} (x0 : Nat) (x1 : Int32) (s0 : Nat) (s1 : Int32) (h : xH) : Y g DX10_reached h0 cl iI (f_X10_reached_J20 x0 x1 s0 s1 h) 20 [some (.ref x0), some (.int x1)] [.int s1, .ref s0] h := by
  unfold f_X10_reached_J20
  refine Y.op (pc' := 21) (fun _ => X.ic ki_1 dX10_reached_20) ?_
  refine Y.op (pc' := 22) (fun _ => X.ic ki_0 dX10_reached_21) ?_
  refine Y.callVi (As := [.int s1, .int (1 : Int32), .int (0 : Int32)]) lk_X10_217 rfl cal_X10_bad vir_X10_bad (Nat.le_of_ble_eq_true rfl) (Nat.le_of_ble_eq_true rfl) rfl rfl rfl (Nat.le_of_ble_eq_true rfl) dX10_reached_22 (fun _ e => m_X10_bad s0 s1 (1 : Int32) (0 : Int32) h _ _ e) (fun r1 => ?_)
  refine Y.ifeq 30 (by decide) dX10_reached_25 ?_ ?_
  · refine Y.op (pc' := 31) (fun _ => X.aloadn rfl dX10_reached_30) ?_
    refine Y.callVv (As := []) lk_X10_359 rfl cal_X10_laysReach vir_X10_laysReach (Nat.le_of_ble_eq_true rfl) (Nat.le_of_ble_eq_true rfl) rfl rfl rfl (Nat.le_of_ble_eq_true rfl) dX10_reached_31 (fun _ e => m_X10_laysReach x0 r1.2 _ _ e) (fun h2 => ?_)
    refine Y.op (pc' := 35) (fun _ => X.aloadn rfl dX10_reached_34) ?_
    refine Y.getR fd_X10_57 rfl dX10_reached_35 (fun v3 => ?_)
    refine Y.op (pc' := 39) (fun _ => X.iloadn rfl dX10_reached_38) ?_
    refine Y.aldI dX10_reached_39 (fun v4 => ?_)
    exact Y.ireturn rfl dX10_reached_40
  · refine Y.op (pc' := 29) (fun _ => X.ic ki_0 dX10_reached_28) ?_
    exact Y.ireturn rfl dX10_reached_29
def f_X10_reached (a0 : Nat) (p1 : Int32) (h : xH) : Option (Int32 × xH) :=
  (pI h 10 a0 0 (0 : Int32)).bind fun h1 =>
  (f_X10_in p1 (0 : Int32) (1 : Int32) h1).bind fun r2 =>
  if r2.1 = (0 : Int32) then
    f_X10_reached_J20 a0 p1 a0 (1 : Int32) r2.2
  else
    f_X10_reached_J20 a0 p1 a0 (0 : Int32) r2.2
theorem y_X10_reached {g : xG} {h0 : xH} {cl : Bool} (a0 : Nat) (p1 : Int32) (h : xH) : Y g DX10_reached h0 cl iI (f_X10_reached a0 p1 h) 0 [some (.ref a0), some (.int p1)] [] h := by
  unfold f_X10_reached
  refine Y.op (pc' := 1) (fun _ => X.aloadn rfl dX10_reached_0) ?_
  refine Y.op (pc' := 2) (fun _ => X.ic ki_0 dX10_reached_1) ?_
  refine Y.putI fd_X10_82 rfl dX10_reached_2 (fun h1 => ?_)
  refine Y.op (pc' := 6) (fun _ => X.aloadn rfl dX10_reached_5) ?_
  refine Y.op (pc' := 7) (fun _ => X.iloadn rfl dX10_reached_6) ?_
  refine Y.op (pc' := 8) (fun _ => X.ic ki_0 dX10_reached_7) ?_
  refine Y.op (pc' := 9) (fun _ => X.ic ki_1 dX10_reached_8) ?_
  refine Y.callSi (As := [.int p1, .int (0 : Int32), .int (1 : Int32)]) lk_X10_127 rfl cal_X10_in sta_X10_in (Nat.le_of_ble_eq_true rfl) rfl rfl (Nat.le_of_ble_eq_true rfl) dX10_reached_9 (fun _ e => m_X10_in p1 (0 : Int32) (1 : Int32) h1 _ _ e) (fun r2 => ?_)
  refine Y.ifne 19 (by decide) dX10_reached_12 ?_ ?_
  · refine Y.op (pc' := 20) (fun _ => X.ic ki_0 dX10_reached_19) ?_
    exact y_X10_reached_J20 a0 p1 a0 (0 : Int32) r2.2
  · refine Y.op (pc' := 16) (fun _ => X.ic ki_1 dX10_reached_15) ?_
    refine Y.op (pc' := 20) (fun _ => X.goto 20 (by decide) dX10_reached_16) ?_
    exact y_X10_reached_J20 a0 p1 a0 (1 : Int32) r2.2
theorem m_X10_reached {g : xG} (a0 : Nat) (p1 : Int32) (h : xH) (cl : Bool) (r : Int32 × xH) (e : f_X10_reached a0 p1 h = some r) : XM g DX10_reached [.ref a0, .int p1] h cl (iI r) := YM.of rfl rfl (Nat.le_of_ble_eq_true rfl) (y_X10_reached a0 p1 h) e
def f_X10_cover_J64 (s0 : Int32) (h : xH) : Option (Int32 × xH) :=
  some (s0, h)
theorem y_X10_cover_J64 {g : xG} {h0 : xH} {cl : Bool} (s0 : Int32) (h : xH) : Y g DX10_cover h0 cl iI (f_X10_cover_J64 s0 h) 64 [none, none] [.int s0] h := by
  unfold f_X10_cover_J64
  exact Y.ireturn rfl dX10_cover_64
def f_X10_cover_J20 (x0 : Nat) (x1 : Int32) (s0 : Nat) (s1 : Int32) (h : xH) : Option (Int32 × xH) :=
  (vc h 10 s0 (f_X10_bad s0 s1 (1 : Int32) (0 : Int32) h)).bind fun r1 =>
  if r1.1 = (0 : Int32) then
    (vc r1.2 10 x0 (f_X10_laysReach x0 r1.2)).bind fun h2 =>
    if x1 = (0 : Int32) then
      (gR h2 10 x0 9).bind fun v5 =>
      (aR 102 h2 v5 (0 : Int32)).bind fun v6 =>
      (aI h2 v6 (3 : Int32)).bind fun v7 =>
      (gR h2 10 x0 33).bind fun v8 =>
      (aI h2 v8 (0 : Int32)).bind fun v9 =>
      f_X10_cover_J64 (v7 &&& (v9 ^^^ (-1 : Int32))) h2
    else
      (gR h2 10 x0 33).bind fun v3 =>
      (aI h2 v3 (1 : Int32)).bind fun v4 =>
      f_X10_cover_J64 v4 h2
  else
    some ((0 : Int32), r1.2)
theorem y_X10_cover_J20 {g : xG} {h0 : xH} {cl : Bool} (x0 : Nat) (x1 : Int32) (s0 : Nat) (s1 : Int32) (h : xH) : Y g DX10_cover h0 cl iI (f_X10_cover_J20 x0 x1 s0 s1 h) 20 [some (.ref x0), some (.int x1)] [.int s1, .ref s0] h := by
  unfold f_X10_cover_J20
  refine Y.op (pc' := 21) (fun _ => X.ic ki_1 dX10_cover_20) ?_
  refine Y.op (pc' := 22) (fun _ => X.ic ki_0 dX10_cover_21) ?_
  refine Y.callVi (As := [.int s1, .int (1 : Int32), .int (0 : Int32)]) lk_X10_217 rfl cal_X10_bad vir_X10_bad (Nat.le_of_ble_eq_true rfl) (Nat.le_of_ble_eq_true rfl) rfl rfl rfl (Nat.le_of_ble_eq_true rfl) dX10_cover_22 (fun _ e => m_X10_bad s0 s1 (1 : Int32) (0 : Int32) h _ _ e) (fun r1 => ?_)
  refine Y.ifeq 30 (by decide) dX10_cover_25 ?_ ?_
  · refine Y.op (pc' := 31) (fun _ => X.aloadn rfl dX10_cover_30) ?_
    refine Y.callVv (As := []) lk_X10_359 rfl cal_X10_laysReach vir_X10_laysReach (Nat.le_of_ble_eq_true rfl) (Nat.le_of_ble_eq_true rfl) rfl rfl rfl (Nat.le_of_ble_eq_true rfl) dX10_cover_31 (fun _ e => m_X10_laysReach x0 r1.2 _ _ e) (fun h2 => ?_)
    refine Y.op (pc' := 35) (fun _ => X.iloadn rfl dX10_cover_34) ?_
    refine Y.ifne 58 (by decide) dX10_cover_35 ?_ ?_
    · refine Y.op (pc' := 59) (fun _ => X.aloadn rfl dX10_cover_58) ?_
      refine Y.getR fd_X10_57 rfl dX10_cover_59 (fun v3 => ?_)
      refine Y.op (pc' := 63) (fun _ => X.ic ki_1 dX10_cover_62) ?_
      refine Y.aldI dX10_cover_63 (fun v4 => ?_)
      exact Y.fg (y_X10_cover_J64 v4 h2) trivial
    · refine Y.op (pc' := 39) (fun _ => X.aloadn rfl dX10_cover_38) ?_
      refine Y.getR fd_X10_22 rfl dX10_cover_39 (fun v5 => ?_)
      refine Y.op (pc' := 43) (fun _ => X.ic ki_0 dX10_cover_42) ?_
      refine Y.aldR 102 (by decide) (by decide) dX10_cover_43 (fun v6 => ?_)
      refine Y.op (pc' := 45) (fun _ => X.ic ki_3 dX10_cover_44) ?_
      refine Y.aldI dX10_cover_45 (fun v7 => ?_)
      refine Y.op (pc' := 47) (fun _ => X.aloadn rfl dX10_cover_46) ?_
      refine Y.getR fd_X10_57 rfl dX10_cover_47 (fun v8 => ?_)
      refine Y.op (pc' := 51) (fun _ => X.ic ki_0 dX10_cover_50) ?_
      refine Y.aldI dX10_cover_51 (fun v9 => ?_)
      refine Y.op (pc' := 53) (fun _ => X.ic ki_m1 dX10_cover_52) ?_
      refine Y.op (pc' := 54) (fun _ => X.ixor dX10_cover_53) ?_
      refine Y.op (pc' := 55) (fun _ => X.iand dX10_cover_54) ?_
      refine Y.op (pc' := 64) (fun _ => X.goto 64 (by decide) dX10_cover_55) ?_
      exact Y.fg (y_X10_cover_J64 (v7 &&& (v9 ^^^ (-1 : Int32))) h2) trivial
  · refine Y.op (pc' := 29) (fun _ => X.ic ki_0 dX10_cover_28) ?_
    exact Y.ireturn rfl dX10_cover_29
def f_X10_cover (a0 : Nat) (p1 : Int32) (h : xH) : Option (Int32 × xH) :=
  (pI h 10 a0 0 (0 : Int32)).bind fun h1 =>
  (f_X10_in p1 (0 : Int32) (1 : Int32) h1).bind fun r2 =>
  if r2.1 = (0 : Int32) then
    f_X10_cover_J20 a0 p1 a0 (1 : Int32) r2.2
  else
    f_X10_cover_J20 a0 p1 a0 (0 : Int32) r2.2
theorem y_X10_cover {g : xG} {h0 : xH} {cl : Bool} (a0 : Nat) (p1 : Int32) (h : xH) : Y g DX10_cover h0 cl iI (f_X10_cover a0 p1 h) 0 [some (.ref a0), some (.int p1)] [] h := by
  unfold f_X10_cover
  refine Y.op (pc' := 1) (fun _ => X.aloadn rfl dX10_cover_0) ?_
  refine Y.op (pc' := 2) (fun _ => X.ic ki_0 dX10_cover_1) ?_
  refine Y.putI fd_X10_82 rfl dX10_cover_2 (fun h1 => ?_)
  refine Y.op (pc' := 6) (fun _ => X.aloadn rfl dX10_cover_5) ?_
  refine Y.op (pc' := 7) (fun _ => X.iloadn rfl dX10_cover_6) ?_
  refine Y.op (pc' := 8) (fun _ => X.ic ki_0 dX10_cover_7) ?_
  refine Y.op (pc' := 9) (fun _ => X.ic ki_1 dX10_cover_8) ?_
  refine Y.callSi (As := [.int p1, .int (0 : Int32), .int (1 : Int32)]) lk_X10_127 rfl cal_X10_in sta_X10_in (Nat.le_of_ble_eq_true rfl) rfl rfl (Nat.le_of_ble_eq_true rfl) dX10_cover_9 (fun _ e => m_X10_in p1 (0 : Int32) (1 : Int32) h1 _ _ e) (fun r2 => ?_)
  refine Y.ifne 19 (by decide) dX10_cover_12 ?_ ?_
  · refine Y.op (pc' := 20) (fun _ => X.ic ki_0 dX10_cover_19) ?_
    exact y_X10_cover_J20 a0 p1 a0 (0 : Int32) r2.2
  · refine Y.op (pc' := 16) (fun _ => X.ic ki_1 dX10_cover_15) ?_
    refine Y.op (pc' := 20) (fun _ => X.goto 20 (by decide) dX10_cover_16) ?_
    exact y_X10_cover_J20 a0 p1 a0 (1 : Int32) r2.2
theorem m_X10_cover {g : xG} (a0 : Nat) (p1 : Int32) (h : xH) (cl : Bool) (r : Int32 × xH) (e : f_X10_cover a0 p1 h = some r) : XM g DX10_cover [.ref a0, .int p1] h cl (iI r) := YM.of rfl rfl (Nat.le_of_ble_eq_true rfl) (y_X10_cover a0 p1 h) e
def f_X10_without_J9 (x0 : Nat) (x2 : Int32) (s0 : Int32) (h : xH) : Option (Int32 × xH) :=
  (gR h 10 x0 9).bind fun v1 =>
  (aR 102 h v1 (0 : Int32)).bind fun v2 =>
  (aI h v2 s0).bind fun v3 =>
  (gR h 10 x0 9).bind fun v4 =>
  (aR 102 h v4 (0 : Int32)).bind fun v5 =>
  (aI h v5 s0).bind fun v6 =>
  (sI h v5 s0 (v6 &&& (((1 : Int32) <<< (x2 &&& 31)) ^^^ (-1 : Int32)))).bind fun h7 =>
  (vc h7 10 x0 (f_X10_nu x0 h7)).bind fun r8 =>
  (gR r8.2 10 x0 9).bind fun v9 =>
  (aR 102 r8.2 v9 (0 : Int32)).bind fun v10 =>
  (sI r8.2 v10 s0 v3).bind fun h11 =>
  some (r8.1, h11)
theorem y_X10_without_J9 {g : xG} {h0 : xH} {cl : Bool} (x0 : Nat) (x2 : Int32) (s0 : Int32) (h : xH) : Y g DX10_without h0 cl iI (f_X10_without_J9 x0 x2 s0 h) 9 [some (.ref x0), none, some (.int x2), none, none, none] [.int s0] h := by
  unfold f_X10_without_J9
  refine Y.op (pc' := 10) (loc' := [some (.ref x0), none, some (.int x2), some (.int s0), none, none]) (fun _ => X.istoren (Nat.le_of_ble_eq_true rfl) rfl dX10_without_9) ?_
  refine Y.op (pc' := 11) (fun _ => X.aloadn rfl dX10_without_10) ?_
  refine Y.getR fd_X10_22 rfl dX10_without_11 (fun v1 => ?_)
  refine Y.op (pc' := 15) (fun _ => X.ic ki_0 dX10_without_14) ?_
  refine Y.aldR 102 (by decide) (by decide) dX10_without_15 (fun v2 => ?_)
  refine Y.op (pc' := 17) (fun _ => X.iloadn rfl dX10_without_16) ?_
  refine Y.aldI dX10_without_17 (fun v3 => ?_)
  refine Y.op (pc' := 20) (loc' := [some (.ref x0), none, some (.int x2), some (.int s0), some (.int v3), none]) (fun _ => X.istore (Nat.le_of_ble_eq_true rfl) rfl dX10_without_18) ?_
  refine Y.op (pc' := 21) (fun _ => X.aloadn rfl dX10_without_20) ?_
  refine Y.getR fd_X10_22 rfl dX10_without_21 (fun v4 => ?_)
  refine Y.op (pc' := 25) (fun _ => X.ic ki_0 dX10_without_24) ?_
  refine Y.aldR 102 (by decide) (by decide) dX10_without_25 (fun v5 => ?_)
  refine Y.op (pc' := 27) (fun _ => X.iloadn rfl dX10_without_26) ?_
  refine Y.op (pc' := 28) (fun _ => X.dup2 rfl rfl dX10_without_27) ?_
  refine Y.aldI dX10_without_28 (fun v6 => ?_)
  refine Y.op (pc' := 30) (fun _ => X.ic ki_1 dX10_without_29) ?_
  refine Y.op (pc' := 31) (fun _ => X.iloadn rfl dX10_without_30) ?_
  refine Y.op (pc' := 32) (fun _ => X.ishl dX10_without_31) ?_
  refine Y.op (pc' := 33) (fun _ => X.ic ki_m1 dX10_without_32) ?_
  refine Y.op (pc' := 34) (fun _ => X.ixor dX10_without_33) ?_
  refine Y.op (pc' := 35) (fun _ => X.iand dX10_without_34) ?_
  refine Y.astI dX10_without_35 (fun h7 => ?_)
  refine Y.op (pc' := 37) (fun _ => X.aloadn rfl dX10_without_36) ?_
  refine Y.callVi (As := []) lk_X10_327 rfl cal_X10_nu vir_X10_nu (Nat.le_of_ble_eq_true rfl) (Nat.le_of_ble_eq_true rfl) rfl rfl rfl (Nat.le_of_ble_eq_true rfl) dX10_without_37 (fun _ e => m_X10_nu x0 h7 _ _ e) (fun r8 => ?_)
  refine Y.op (pc' := 42) (loc' := [some (.ref x0), none, some (.int x2), some (.int s0), some (.int v3), some (.int r8.1)]) (fun _ => X.istore (Nat.le_of_ble_eq_true rfl) rfl dX10_without_40) ?_
  refine Y.op (pc' := 43) (fun _ => X.aloadn rfl dX10_without_42) ?_
  refine Y.getR fd_X10_22 rfl dX10_without_43 (fun v9 => ?_)
  refine Y.op (pc' := 47) (fun _ => X.ic ki_0 dX10_without_46) ?_
  refine Y.aldR 102 (by decide) (by decide) dX10_without_47 (fun v10 => ?_)
  refine Y.op (pc' := 49) (fun _ => X.iloadn rfl dX10_without_48) ?_
  refine Y.op (pc' := 51) (fun _ => X.iload rfl dX10_without_49) ?_
  refine Y.astI dX10_without_51 (fun h11 => ?_)
  refine Y.op (pc' := 54) (fun _ => X.iload rfl dX10_without_52) ?_
  exact Y.ireturn rfl dX10_without_54
def f_X10_without (a0 : Nat) (p1 : Int32) (p2 : Int32) (h : xH) : Option (Int32 × xH) :=
  if p1 = (0 : Int32) then
    f_X10_without_J9 a0 p2 (3 : Int32) h
  else
    f_X10_without_J9 a0 p2 (4 : Int32) h
theorem y_X10_without {g : xG} {h0 : xH} {cl : Bool} (a0 : Nat) (p1 : Int32) (p2 : Int32) (h : xH) : Y g DX10_without h0 cl iI (f_X10_without a0 p1 p2 h) 0 [some (.ref a0), some (.int p1), some (.int p2), none, none, none] [] h := by
  unfold f_X10_without
  refine Y.op (pc' := 1) (fun _ => X.iloadn rfl dX10_without_0) ?_
  refine Y.ifne 8 (by decide) dX10_without_1 ?_ ?_
  · refine Y.op (pc' := 9) (fun _ => X.ic ki_4 dX10_without_8) ?_
    exact Y.fg (y_X10_without_J9 a0 p2 (4 : Int32) h) (And.intro rfl (And.intro rfl trivial))
  · refine Y.op (pc' := 5) (fun _ => X.ic ki_3 dX10_without_4) ?_
    refine Y.op (pc' := 9) (fun _ => X.goto 9 (by decide) dX10_without_5) ?_
    exact Y.fg (y_X10_without_J9 a0 p2 (3 : Int32) h) (And.intro rfl (And.intro rfl trivial))
theorem m_X10_without {g : xG} (a0 : Nat) (p1 : Int32) (p2 : Int32) (h : xH) (cl : Bool) (r : Int32 × xH) (e : f_X10_without a0 p1 p2 h = some r) : XM g DX10_without [.ref a0, .int p1, .int p2] h cl (iI r) := YM.of rfl rfl (Nat.le_of_ble_eq_true rfl) (y_X10_without a0 p1 p2 h) e
def f_X10_partOf_J50 (s0 : Int32) (h : xH) : Option (Int32 × xH) :=
  some (s0, h)
theorem y_X10_partOf_J50 {g : xG} {h0 : xH} {cl : Bool} (s0 : Int32) (h : xH) : Y g DX10_partOf h0 cl iI (f_X10_partOf_J50 s0 h) 50 [none, none, none] [.int s0] h := by
  unfold f_X10_partOf_J50
  exact Y.ireturn rfl dX10_partOf_50
def f_X10_partOf (a0 : Nat) (p1 : Int32) (p2 : Int32) (h : xH) : Option (Int32 × xH) :=
  (vc h 10 a0 (f_X10_isThere a0 p1 p2 h)).bind fun r1 =>
  if r1.1 = (0 : Int32) then
    some ((0 : Int32), r1.2)
  else
    (vc r1.2 10 a0 (f_X10_laysReach a0 r1.2)).bind fun h2 =>
    (gR h2 10 a0 33).bind fun v3 =>
    (aI h2 v3 p1).bind fun v4 =>
    (f_X10_has v4 p2 h2).bind fun r5 =>
    if r5.1 = (0 : Int32) then
      (gR r5.2 10 a0 34).bind fun v6 =>
      (aI r5.2 v6 p1).bind fun v7 =>
      (f_X10_has v7 p2 r5.2).bind fun r8 =>
      if r8.1 = (0 : Int32) then
        f_X10_partOf_J50 (3 : Int32) r8.2
      else
        f_X10_partOf_J50 (2 : Int32) r8.2
    else
      f_X10_partOf_J50 (1 : Int32) r5.2
theorem y_X10_partOf {g : xG} {h0 : xH} {cl : Bool} (a0 : Nat) (p1 : Int32) (p2 : Int32) (h : xH) : Y g DX10_partOf h0 cl iI (f_X10_partOf a0 p1 p2 h) 0 [some (.ref a0), some (.int p1), some (.int p2)] [] h := by
  unfold f_X10_partOf
  refine Y.op (pc' := 1) (fun _ => X.aloadn rfl dX10_partOf_0) ?_
  refine Y.op (pc' := 2) (fun _ => X.iloadn rfl dX10_partOf_1) ?_
  refine Y.op (pc' := 3) (fun _ => X.iloadn rfl dX10_partOf_2) ?_
  refine Y.callVi (As := [.int p1, .int p2]) lk_X10_240 rfl cal_X10_isThere vir_X10_isThere (Nat.le_of_ble_eq_true rfl) (Nat.le_of_ble_eq_true rfl) rfl rfl rfl (Nat.le_of_ble_eq_true rfl) dX10_partOf_3 (fun _ e => m_X10_isThere a0 p1 p2 h _ _ e) (fun r1 => ?_)
  refine Y.ifne 11 (by decide) dX10_partOf_6 ?_ ?_
  · refine Y.op (pc' := 12) (fun _ => X.aloadn rfl dX10_partOf_11) ?_
    refine Y.callVv (As := []) lk_X10_359 rfl cal_X10_laysReach vir_X10_laysReach (Nat.le_of_ble_eq_true rfl) (Nat.le_of_ble_eq_true rfl) rfl rfl rfl (Nat.le_of_ble_eq_true rfl) dX10_partOf_12 (fun _ e => m_X10_laysReach a0 r1.2 _ _ e) (fun h2 => ?_)
    refine Y.op (pc' := 16) (fun _ => X.aloadn rfl dX10_partOf_15) ?_
    refine Y.getR fd_X10_57 rfl dX10_partOf_16 (fun v3 => ?_)
    refine Y.op (pc' := 20) (fun _ => X.iloadn rfl dX10_partOf_19) ?_
    refine Y.aldI dX10_partOf_20 (fun v4 => ?_)
    refine Y.op (pc' := 22) (fun _ => X.iloadn rfl dX10_partOf_21) ?_
    refine Y.callSi (As := [.int v4, .int p2]) lk_X10_182 rfl cal_X10_has sta_X10_has (Nat.le_of_ble_eq_true rfl) rfl rfl (Nat.le_of_ble_eq_true rfl) dX10_partOf_22 (fun _ e => m_X10_has v4 p2 h2 _ _ e) (fun r5 => ?_)
    refine Y.ifeq 32 (by decide) dX10_partOf_25 ?_ ?_
    · refine Y.op (pc' := 33) (fun _ => X.aloadn rfl dX10_partOf_32) ?_
      refine Y.getR fd_X10_60 rfl dX10_partOf_33 (fun v6 => ?_)
      refine Y.op (pc' := 37) (fun _ => X.iloadn rfl dX10_partOf_36) ?_
      refine Y.aldI dX10_partOf_37 (fun v7 => ?_)
      refine Y.op (pc' := 39) (fun _ => X.iloadn rfl dX10_partOf_38) ?_
      refine Y.callSi (As := [.int v7, .int p2]) lk_X10_182 rfl cal_X10_has sta_X10_has (Nat.le_of_ble_eq_true rfl) rfl rfl (Nat.le_of_ble_eq_true rfl) dX10_partOf_39 (fun _ e => m_X10_has v7 p2 r5.2 _ _ e) (fun r8 => ?_)
      refine Y.ifeq 49 (by decide) dX10_partOf_42 ?_ ?_
      · refine Y.op (pc' := 50) (fun _ => X.ic ki_3 dX10_partOf_49) ?_
        exact Y.fg (y_X10_partOf_J50 (3 : Int32) r8.2) trivial
      · refine Y.op (pc' := 46) (fun _ => X.ic ki_2 dX10_partOf_45) ?_
        refine Y.op (pc' := 50) (fun _ => X.goto 50 (by decide) dX10_partOf_46) ?_
        exact Y.fg (y_X10_partOf_J50 (2 : Int32) r8.2) trivial
    · refine Y.op (pc' := 29) (fun _ => X.ic ki_1 dX10_partOf_28) ?_
      refine Y.op (pc' := 50) (fun _ => X.goto 50 (by decide) dX10_partOf_29) ?_
      exact Y.fg (y_X10_partOf_J50 (1 : Int32) r5.2) trivial
  · refine Y.op (pc' := 10) (fun _ => X.ic ki_0 dX10_partOf_9) ?_
    exact Y.ireturn rfl dX10_partOf_10
theorem m_X10_partOf {g : xG} (a0 : Nat) (p1 : Int32) (p2 : Int32) (h : xH) (cl : Bool) (r : Int32 × xH) (e : f_X10_partOf a0 p1 p2 h = some r) : XM g DX10_partOf [.ref a0, .int p1, .int p2] h cl (iI r) := YM.of rfl rfl (Nat.le_of_ble_eq_true rfl) (y_X10_partOf a0 p1 p2 h) e
def f_X10_of_J98 (s0 : Int32) (h : xH) : Option (Int32 × xH) :=
  some (s0, h)
theorem y_X10_of_J98 {g : xG} {h0 : xH} {cl : Bool} (s0 : Int32) (h : xH) : Y g DX10_of h0 cl iI (f_X10_of_J98 s0 h) 98 [none, none, none, none] [.int s0] h := by
  unfold f_X10_of_J98
  exact Y.ireturn rfl dX10_of_98
def f_X10_of_J51 (h : xH) : Option (Int32 × xH) :=
  some ((0 : Int32), h)
theorem y_X10_of_J51 {g : xG} {h0 : xH} {cl : Bool} (h : xH) : Y g DX10_of h0 cl iI (f_X10_of_J51 h) 51 [none, none, none, none] [] h := by
  unfold f_X10_of_J51
  refine Y.op (pc' := 52) (fun _ => X.ic ki_0 dX10_of_51) ?_
  exact Y.ireturn rfl dX10_of_52
def f_X10_of_J43 (x0 : Nat) (x1 : Int32) (x2 : Int32) (x3 : Int32) (s0 : Nat) (s1 : Int32) (h : xH) : Option (Int32 × xH) :=
  (vc h 10 s0 (f_X10_bad s0 s1 (2 : Int32) (1 : Int32) h)).bind fun r1 =>
  if r1.1 = (0 : Int32) then
    if x3 = (0 : Int32) then
      (vc r1.2 10 x0 (f_X10_without x0 x1 x2 r1.2)).bind fun r4 =>
      (vc r4.2 10 x0 (f_X10_nu x0 r4.2)).bind fun r5 =>
      if r4.1 ≥ r5.1 then
        f_X10_of_J98 (0 : Int32) r5.2
      else
        f_X10_of_J98 (1 : Int32) r5.2
    else
      if x3 = (1 : Int32) then
        (vc r1.2 10 x0 (f_X10_without x0 x1 x2 r1.2)).bind fun r3 =>
        f_X10_of_J98 r3.1 r3.2
      else
        (vc r1.2 10 x0 (f_X10_partOf x0 x1 x2 r1.2)).bind fun r2 =>
        f_X10_of_J98 r2.1 r2.2
  else
    f_X10_of_J51 r1.2
theorem y_X10_of_J43 {g : xG} {h0 : xH} {cl : Bool} (x0 : Nat) (x1 : Int32) (x2 : Int32) (x3 : Int32) (s0 : Nat) (s1 : Int32) (h : xH) : Y g DX10_of h0 cl iI (f_X10_of_J43 x0 x1 x2 x3 s0 s1 h) 43 [some (.ref x0), some (.int x1), some (.int x2), some (.int x3)] [.int s1, .ref s0] h := by
  unfold f_X10_of_J43
  refine Y.op (pc' := 44) (fun _ => X.ic ki_2 dX10_of_43) ?_
  refine Y.op (pc' := 45) (fun _ => X.ic ki_1 dX10_of_44) ?_
  refine Y.callVi (As := [.int s1, .int (2 : Int32), .int (1 : Int32)]) lk_X10_217 rfl cal_X10_bad vir_X10_bad (Nat.le_of_ble_eq_true rfl) (Nat.le_of_ble_eq_true rfl) rfl rfl rfl (Nat.le_of_ble_eq_true rfl) dX10_of_45 (fun _ e => m_X10_bad s0 s1 (2 : Int32) (1 : Int32) h _ _ e) (fun r1 => ?_)
  refine Y.ifeq 53 (by decide) dX10_of_48 ?_ ?_
  · refine Y.op (pc' := 54) (fun _ => X.iloadn rfl dX10_of_53) ?_
    refine Y.ifne 78 (by decide) dX10_of_54 ?_ ?_
    · refine Y.op (pc' := 79) (fun _ => X.iloadn rfl dX10_of_78) ?_
      refine Y.op (pc' := 80) (fun _ => X.ic ki_1 dX10_of_79) ?_
      refine Y.cmpne 92 (by decide) dX10_of_80 ?_ ?_
      · refine Y.op (pc' := 93) (fun _ => X.aloadn rfl dX10_of_92) ?_
        refine Y.op (pc' := 94) (fun _ => X.iloadn rfl dX10_of_93) ?_
        refine Y.op (pc' := 95) (fun _ => X.iloadn rfl dX10_of_94) ?_
        refine Y.callVi (As := [.int x1, .int x2]) lk_X10_365 rfl cal_X10_partOf vir_X10_partOf (Nat.le_of_ble_eq_true rfl) (Nat.le_of_ble_eq_true rfl) rfl rfl rfl (Nat.le_of_ble_eq_true rfl) dX10_of_95 (fun _ e => m_X10_partOf x0 x1 x2 r1.2 _ _ e) (fun r2 => ?_)
        exact Y.fg (y_X10_of_J98 r2.1 r2.2) trivial
      · refine Y.op (pc' := 84) (fun _ => X.aloadn rfl dX10_of_83) ?_
        refine Y.op (pc' := 85) (fun _ => X.iloadn rfl dX10_of_84) ?_
        refine Y.op (pc' := 86) (fun _ => X.iloadn rfl dX10_of_85) ?_
        refine Y.callVi (As := [.int x1, .int x2]) lk_X10_362 rfl cal_X10_without vir_X10_without (Nat.le_of_ble_eq_true rfl) (Nat.le_of_ble_eq_true rfl) rfl rfl rfl (Nat.le_of_ble_eq_true rfl) dX10_of_86 (fun _ e => m_X10_without x0 x1 x2 r1.2 _ _ e) (fun r3 => ?_)
        refine Y.op (pc' := 98) (fun _ => X.goto 98 (by decide) dX10_of_89) ?_
        exact Y.fg (y_X10_of_J98 r3.1 r3.2) trivial
    · refine Y.op (pc' := 58) (fun _ => X.aloadn rfl dX10_of_57) ?_
      refine Y.op (pc' := 59) (fun _ => X.iloadn rfl dX10_of_58) ?_
      refine Y.op (pc' := 60) (fun _ => X.iloadn rfl dX10_of_59) ?_
      refine Y.callVi (As := [.int x1, .int x2]) lk_X10_362 rfl cal_X10_without vir_X10_without (Nat.le_of_ble_eq_true rfl) (Nat.le_of_ble_eq_true rfl) rfl rfl rfl (Nat.le_of_ble_eq_true rfl) dX10_of_60 (fun _ e => m_X10_without x0 x1 x2 r1.2 _ _ e) (fun r4 => ?_)
      refine Y.op (pc' := 64) (fun _ => X.aloadn rfl dX10_of_63) ?_
      refine Y.callVi (As := []) lk_X10_327 rfl cal_X10_nu vir_X10_nu (Nat.le_of_ble_eq_true rfl) (Nat.le_of_ble_eq_true rfl) rfl rfl rfl (Nat.le_of_ble_eq_true rfl) dX10_of_64 (fun _ e => m_X10_nu x0 r4.2 _ _ e) (fun r5 => ?_)
      refine Y.cmpge 74 (by decide) dX10_of_67 ?_ ?_
      · refine Y.op (pc' := 75) (fun _ => X.ic ki_0 dX10_of_74) ?_
        refine Y.op (pc' := 98) (fun _ => X.goto 98 (by decide) dX10_of_75) ?_
        exact Y.fg (y_X10_of_J98 (0 : Int32) r5.2) trivial
      · refine Y.op (pc' := 71) (fun _ => X.ic ki_1 dX10_of_70) ?_
        refine Y.op (pc' := 98) (fun _ => X.goto 98 (by decide) dX10_of_71) ?_
        exact Y.fg (y_X10_of_J98 (1 : Int32) r5.2) trivial
  · exact Y.fg (y_X10_of_J51 r1.2) trivial
def f_X10_of_J20 (x0 : Nat) (x1 : Int32) (x2 : Int32) (x3 : Int32) (s0 : Nat) (s1 : Int32) (h : xH) : Option (Int32 × xH) :=
  (vc h 10 s0 (f_X10_bad s0 s1 (1 : Int32) (0 : Int32) h)).bind fun r1 =>
  if r1.1 = (0 : Int32) then
    (f_X10_in x3 (0 : Int32) (2 : Int32) r1.2).bind fun r2 =>
    if r2.1 = (0 : Int32) then
      f_X10_of_J43 x0 x1 x2 x3 x0 (1 : Int32) r2.2
    else
      f_X10_of_J43 x0 x1 x2 x3 x0 (0 : Int32) r2.2
  else
    f_X10_of_J51 r1.2
theorem y_X10_of_J20 {g : xG} {h0 : xH} {cl : Bool} (x0 : Nat) (x1 : Int32) (x2 : Int32) (x3 : Int32) (s0 : Nat) (s1 : Int32) (h : xH) : Y g DX10_of h0 cl iI (f_X10_of_J20 x0 x1 x2 x3 s0 s1 h) 20 [some (.ref x0), some (.int x1), some (.int x2), some (.int x3)] [.int s1, .ref s0] h := by
  unfold f_X10_of_J20
  refine Y.op (pc' := 21) (fun _ => X.ic ki_1 dX10_of_20) ?_
  refine Y.op (pc' := 22) (fun _ => X.ic ki_0 dX10_of_21) ?_
  refine Y.callVi (As := [.int s1, .int (1 : Int32), .int (0 : Int32)]) lk_X10_217 rfl cal_X10_bad vir_X10_bad (Nat.le_of_ble_eq_true rfl) (Nat.le_of_ble_eq_true rfl) rfl rfl rfl (Nat.le_of_ble_eq_true rfl) dX10_of_22 (fun _ e => m_X10_bad s0 s1 (1 : Int32) (0 : Int32) h _ _ e) (fun r1 => ?_)
  refine Y.ifne 51 (by decide) dX10_of_25 ?_ ?_
  · exact Y.fg (y_X10_of_J51 r1.2) trivial
  · refine Y.op (pc' := 29) (fun _ => X.aloadn rfl dX10_of_28) ?_
    refine Y.op (pc' := 30) (fun _ => X.iloadn rfl dX10_of_29) ?_
    refine Y.op (pc' := 31) (fun _ => X.ic ki_0 dX10_of_30) ?_
    refine Y.op (pc' := 32) (fun _ => X.ic ki_2 dX10_of_31) ?_
    refine Y.callSi (As := [.int x3, .int (0 : Int32), .int (2 : Int32)]) lk_X10_127 rfl cal_X10_in sta_X10_in (Nat.le_of_ble_eq_true rfl) rfl rfl (Nat.le_of_ble_eq_true rfl) dX10_of_32 (fun _ e => m_X10_in x3 (0 : Int32) (2 : Int32) r1.2 _ _ e) (fun r2 => ?_)
    refine Y.ifne 42 (by decide) dX10_of_35 ?_ ?_
    · refine Y.op (pc' := 43) (fun _ => X.ic ki_0 dX10_of_42) ?_
      exact y_X10_of_J43 x0 x1 x2 x3 x0 (0 : Int32) r2.2
    · refine Y.op (pc' := 39) (fun _ => X.ic ki_1 dX10_of_38) ?_
      refine Y.op (pc' := 43) (fun _ => X.goto 43 (by decide) dX10_of_39) ?_
      exact y_X10_of_J43 x0 x1 x2 x3 x0 (1 : Int32) r2.2
def f_X10_of (a0 : Nat) (p1 : Int32) (p2 : Int32) (p3 : Int32) (h : xH) : Option (Int32 × xH) :=
  (pI h 10 a0 0 (0 : Int32)).bind fun h1 =>
  (vc h1 10 a0 (f_X10_isOne a0 p1 p2 h1)).bind fun r2 =>
  if r2.1 = (0 : Int32) then
    f_X10_of_J20 a0 p1 p2 p3 a0 (1 : Int32) r2.2
  else
    f_X10_of_J20 a0 p1 p2 p3 a0 (0 : Int32) r2.2
theorem y_X10_of {g : xG} {h0 : xH} {cl : Bool} (a0 : Nat) (p1 : Int32) (p2 : Int32) (p3 : Int32) (h : xH) : Y g DX10_of h0 cl iI (f_X10_of a0 p1 p2 p3 h) 0 [some (.ref a0), some (.int p1), some (.int p2), some (.int p3)] [] h := by
  unfold f_X10_of
  refine Y.op (pc' := 1) (fun _ => X.aloadn rfl dX10_of_0) ?_
  refine Y.op (pc' := 2) (fun _ => X.ic ki_0 dX10_of_1) ?_
  refine Y.putI fd_X10_82 rfl dX10_of_2 (fun h1 => ?_)
  refine Y.op (pc' := 6) (fun _ => X.aloadn rfl dX10_of_5) ?_
  refine Y.op (pc' := 7) (fun _ => X.aloadn rfl dX10_of_6) ?_
  refine Y.op (pc' := 8) (fun _ => X.iloadn rfl dX10_of_7) ?_
  refine Y.op (pc' := 9) (fun _ => X.iloadn rfl dX10_of_8) ?_
  refine Y.callVi (As := [.int p1, .int p2]) lk_X10_282 rfl cal_X10_isOne vir_X10_isOne (Nat.le_of_ble_eq_true rfl) (Nat.le_of_ble_eq_true rfl) rfl rfl rfl (Nat.le_of_ble_eq_true rfl) dX10_of_9 (fun _ e => m_X10_isOne a0 p1 p2 h1 _ _ e) (fun r2 => ?_)
  refine Y.ifne 19 (by decide) dX10_of_12 ?_ ?_
  · refine Y.op (pc' := 20) (fun _ => X.ic ki_0 dX10_of_19) ?_
    exact y_X10_of_J20 a0 p1 p2 p3 a0 (0 : Int32) r2.2
  · refine Y.op (pc' := 16) (fun _ => X.ic ki_1 dX10_of_15) ?_
    refine Y.op (pc' := 20) (fun _ => X.goto 20 (by decide) dX10_of_16) ?_
    exact y_X10_of_J20 a0 p1 p2 p3 a0 (1 : Int32) r2.2
theorem m_X10_of {g : xG} (a0 : Nat) (p1 : Int32) (p2 : Int32) (p3 : Int32) (h : xH) (cl : Bool) (r : Int32 × xH) (e : f_X10_of a0 p1 p2 p3 h = some r) : XM g DX10_of [.ref a0, .int p1, .int p2, .int p3] h cl (iI r) := YM.of rfl rfl (Nat.le_of_ble_eq_true rfl) (y_X10_of a0 p1 p2 p3 h) e
def f_X10_nuBut (a0 : Nat) (p1 : Int32) (p2 : Int32) (h : xH) : Option (Int32 × xH) :=
  (gR h 10 a0 10).bind fun v1 =>
  (aR 102 h v1 (0 : Int32)).bind fun v2 =>
  (aI h v2 p1).bind fun v3 =>
  (sI h v2 p1 (v3 &&& (((1 : Int32) <<< (p2 &&& 31)) ^^^ (-1 : Int32)))).bind fun h4 =>
  (vc h4 10 a0 (f_X10_nu a0 h4)).bind fun r5 =>
  (gR r5.2 10 a0 10).bind fun v6 =>
  (aR 102 r5.2 v6 (0 : Int32)).bind fun v7 =>
  (aI r5.2 v7 p1).bind fun v8 =>
  (sI r5.2 v7 p1 (v8 ||| ((1 : Int32) <<< (p2 &&& 31)))).bind fun h9 =>
  some (r5.1, h9)
theorem y_X10_nuBut {g : xG} {h0 : xH} {cl : Bool} (a0 : Nat) (p1 : Int32) (p2 : Int32) (h : xH) : Y g DX10_nuBut h0 cl iI (f_X10_nuBut a0 p1 p2 h) 0 [some (.ref a0), some (.int p1), some (.int p2), none] [] h := by
  unfold f_X10_nuBut
  refine Y.op (pc' := 1) (fun _ => X.aloadn rfl dX10_nuBut_0) ?_
  refine Y.getR fd_X10_25 rfl dX10_nuBut_1 (fun v1 => ?_)
  refine Y.op (pc' := 5) (fun _ => X.ic ki_0 dX10_nuBut_4) ?_
  refine Y.aldR 102 (by decide) (by decide) dX10_nuBut_5 (fun v2 => ?_)
  refine Y.op (pc' := 7) (fun _ => X.iloadn rfl dX10_nuBut_6) ?_
  refine Y.op (pc' := 8) (fun _ => X.dup2 rfl rfl dX10_nuBut_7) ?_
  refine Y.aldI dX10_nuBut_8 (fun v3 => ?_)
  refine Y.op (pc' := 10) (fun _ => X.ic ki_1 dX10_nuBut_9) ?_
  refine Y.op (pc' := 11) (fun _ => X.iloadn rfl dX10_nuBut_10) ?_
  refine Y.op (pc' := 12) (fun _ => X.ishl dX10_nuBut_11) ?_
  refine Y.op (pc' := 13) (fun _ => X.ic ki_m1 dX10_nuBut_12) ?_
  refine Y.op (pc' := 14) (fun _ => X.ixor dX10_nuBut_13) ?_
  refine Y.op (pc' := 15) (fun _ => X.iand dX10_nuBut_14) ?_
  refine Y.astI dX10_nuBut_15 (fun h4 => ?_)
  refine Y.op (pc' := 17) (fun _ => X.aloadn rfl dX10_nuBut_16) ?_
  refine Y.callVi (As := []) lk_X10_327 rfl cal_X10_nu vir_X10_nu (Nat.le_of_ble_eq_true rfl) (Nat.le_of_ble_eq_true rfl) rfl rfl rfl (Nat.le_of_ble_eq_true rfl) dX10_nuBut_17 (fun _ e => m_X10_nu a0 h4 _ _ e) (fun r5 => ?_)
  refine Y.op (pc' := 21) (loc' := [some (.ref a0), some (.int p1), some (.int p2), some (.int r5.1)]) (fun _ => X.istoren (Nat.le_of_ble_eq_true rfl) rfl dX10_nuBut_20) ?_
  refine Y.op (pc' := 22) (fun _ => X.aloadn rfl dX10_nuBut_21) ?_
  refine Y.getR fd_X10_25 rfl dX10_nuBut_22 (fun v6 => ?_)
  refine Y.op (pc' := 26) (fun _ => X.ic ki_0 dX10_nuBut_25) ?_
  refine Y.aldR 102 (by decide) (by decide) dX10_nuBut_26 (fun v7 => ?_)
  refine Y.op (pc' := 28) (fun _ => X.iloadn rfl dX10_nuBut_27) ?_
  refine Y.op (pc' := 29) (fun _ => X.dup2 rfl rfl dX10_nuBut_28) ?_
  refine Y.aldI dX10_nuBut_29 (fun v8 => ?_)
  refine Y.op (pc' := 31) (fun _ => X.ic ki_1 dX10_nuBut_30) ?_
  refine Y.op (pc' := 32) (fun _ => X.iloadn rfl dX10_nuBut_31) ?_
  refine Y.op (pc' := 33) (fun _ => X.ishl dX10_nuBut_32) ?_
  refine Y.op (pc' := 34) (fun _ => X.ior dX10_nuBut_33) ?_
  refine Y.astI dX10_nuBut_34 (fun h9 => ?_)
  refine Y.op (pc' := 36) (fun _ => X.iloadn rfl dX10_nuBut_35) ?_
  exact Y.ireturn rfl dX10_nuBut_36
theorem m_X10_nuBut {g : xG} (a0 : Nat) (p1 : Int32) (p2 : Int32) (h : xH) (cl : Bool) (r : Int32 × xH) (e : f_X10_nuBut a0 p1 p2 h = some r) : XM g DX10_nuBut [.ref a0, .int p1, .int p2] h cl (iI r) := YM.of rfl rfl (Nat.le_of_ble_eq_true rfl) (y_X10_nuBut a0 p1 p2 h) e
def f_X10_fitOf_J105 (s0 : Int32) (h : xH) : Option (Int32 × xH) :=
  some (s0, h)
theorem y_X10_fitOf_J105 {g : xG} {h0 : xH} {cl : Bool} (s0 : Int32) (h : xH) : Y g DX10_fitOf h0 cl iI (f_X10_fitOf_J105 s0 h) 105 [none, none, none, none, none, none] [.int s0] h := by
  unfold f_X10_fitOf_J105
  exact Y.ireturn rfl dX10_fitOf_105
def f_X10_fitOf_J29 (h : xH) : Option (Int32 × xH) :=
  some ((1 : Int32), h)
theorem y_X10_fitOf_J29 {g : xG} {h0 : xH} {cl : Bool} (h : xH) : Y g DX10_fitOf h0 cl iI (f_X10_fitOf_J29 h) 29 [none, none, none, none, none, none] [] h := by
  unfold f_X10_fitOf_J29
  refine Y.op (pc' := 30) (fun _ => X.ic ki_1 dX10_fitOf_29) ?_
  exact Y.ireturn rfl dX10_fitOf_30
def f_X10_fitOf (a0 : Nat) (p1 : Int32) (p2 : Int32) (h : xH) : Option (Int32 × xH) :=
  (vc h 10 a0 (f_X10_isFit a0 p1 p2 h)).bind fun r1 =>
  if r1.1 = (0 : Int32) then
    some ((0 : Int32), r1.2)
  else
    (vc r1.2 10 a0 (f_X10_isThere a0 (0 : Int32) p1 r1.2)).bind fun r2 =>
    if r2.1 = (0 : Int32) then
      f_X10_fitOf_J29 r2.2
    else
      (vc r2.2 10 a0 (f_X10_isThere a0 (1 : Int32) p2 r2.2)).bind fun r3 =>
      if r3.1 = (0 : Int32) then
        f_X10_fitOf_J29 r3.2
      else
        (vc r3.2 10 a0 (f_X10_nu a0 r3.2)).bind fun r4 =>
        (vc r4.2 10 a0 (f_X10_nuBut a0 p1 p2 r4.2)).bind fun r5 =>
        if r5.1 ≥ r4.1 then
          (gR r5.2 10 a0 9).bind fun v6 =>
          (aR 102 r5.2 v6 (0 : Int32)).bind fun v7 =>
          (aI r5.2 v7 (3 : Int32)).bind fun v8 =>
          (gR r5.2 10 a0 9).bind fun v9 =>
          (aR 102 r5.2 v9 (0 : Int32)).bind fun v10 =>
          (aI r5.2 v10 (3 : Int32)).bind fun v11 =>
          (sI r5.2 v10 (3 : Int32) (v11 &&& (((1 : Int32) <<< (p1 &&& 31)) ^^^ (-1 : Int32)))).bind fun h12 =>
          (vc h12 10 a0 (f_X10_without a0 (1 : Int32) p2 h12)).bind fun r13 =>
          (gR r13.2 10 a0 9).bind fun v14 =>
          (aR 102 r13.2 v14 (0 : Int32)).bind fun v15 =>
          (sI r13.2 v15 (3 : Int32) v8).bind fun h16 =>
          if (r13.1 + (1 : Int32)) = r4.1 then
            f_X10_fitOf_J105 (2 : Int32) h16
          else
            f_X10_fitOf_J105 (1 : Int32) h16
        else
          some ((3 : Int32), r5.2)
theorem y_X10_fitOf {g : xG} {h0 : xH} {cl : Bool} (a0 : Nat) (p1 : Int32) (p2 : Int32) (h : xH) : Y g DX10_fitOf h0 cl iI (f_X10_fitOf a0 p1 p2 h) 0 [some (.ref a0), some (.int p1), some (.int p2), none, none, none] [] h := by
  unfold f_X10_fitOf
  refine Y.op (pc' := 1) (fun _ => X.aloadn rfl dX10_fitOf_0) ?_
  refine Y.op (pc' := 2) (fun _ => X.iloadn rfl dX10_fitOf_1) ?_
  refine Y.op (pc' := 3) (fun _ => X.iloadn rfl dX10_fitOf_2) ?_
  refine Y.callVi (As := [.int p1, .int p2]) lk_X10_285 rfl cal_X10_isFit vir_X10_isFit (Nat.le_of_ble_eq_true rfl) (Nat.le_of_ble_eq_true rfl) rfl rfl rfl (Nat.le_of_ble_eq_true rfl) dX10_fitOf_3 (fun _ e => m_X10_isFit a0 p1 p2 h _ _ e) (fun r1 => ?_)
  refine Y.ifne 11 (by decide) dX10_fitOf_6 ?_ ?_
  · refine Y.op (pc' := 12) (fun _ => X.aloadn rfl dX10_fitOf_11) ?_
    refine Y.op (pc' := 13) (fun _ => X.ic ki_0 dX10_fitOf_12) ?_
    refine Y.op (pc' := 14) (fun _ => X.iloadn rfl dX10_fitOf_13) ?_
    refine Y.callVi (As := [.int (0 : Int32), .int p1]) lk_X10_240 rfl cal_X10_isThere vir_X10_isThere (Nat.le_of_ble_eq_true rfl) (Nat.le_of_ble_eq_true rfl) rfl rfl rfl (Nat.le_of_ble_eq_true rfl) dX10_fitOf_14 (fun _ e => m_X10_isThere a0 (0 : Int32) p1 r1.2 _ _ e) (fun r2 => ?_)
    refine Y.ifeq 29 (by decide) dX10_fitOf_17 ?_ ?_
    · exact Y.fg (y_X10_fitOf_J29 r2.2) trivial
    · refine Y.op (pc' := 21) (fun _ => X.aloadn rfl dX10_fitOf_20) ?_
      refine Y.op (pc' := 22) (fun _ => X.ic ki_1 dX10_fitOf_21) ?_
      refine Y.op (pc' := 23) (fun _ => X.iloadn rfl dX10_fitOf_22) ?_
      refine Y.callVi (As := [.int (1 : Int32), .int p2]) lk_X10_240 rfl cal_X10_isThere vir_X10_isThere (Nat.le_of_ble_eq_true rfl) (Nat.le_of_ble_eq_true rfl) rfl rfl rfl (Nat.le_of_ble_eq_true rfl) dX10_fitOf_23 (fun _ e => m_X10_isThere a0 (1 : Int32) p2 r2.2 _ _ e) (fun r3 => ?_)
      refine Y.ifne 31 (by decide) dX10_fitOf_26 ?_ ?_
      · refine Y.op (pc' := 32) (fun _ => X.aloadn rfl dX10_fitOf_31) ?_
        refine Y.callVi (As := []) lk_X10_327 rfl cal_X10_nu vir_X10_nu (Nat.le_of_ble_eq_true rfl) (Nat.le_of_ble_eq_true rfl) rfl rfl rfl (Nat.le_of_ble_eq_true rfl) dX10_fitOf_32 (fun _ e => m_X10_nu a0 r3.2 _ _ e) (fun r4 => ?_)
        refine Y.op (pc' := 36) (loc' := [some (.ref a0), some (.int p1), some (.int p2), some (.int r4.1), none, none]) (fun _ => X.istoren (Nat.le_of_ble_eq_true rfl) rfl dX10_fitOf_35) ?_
        refine Y.op (pc' := 37) (fun _ => X.aloadn rfl dX10_fitOf_36) ?_
        refine Y.op (pc' := 38) (fun _ => X.iloadn rfl dX10_fitOf_37) ?_
        refine Y.op (pc' := 39) (fun _ => X.iloadn rfl dX10_fitOf_38) ?_
        refine Y.callVi (As := [.int p1, .int p2]) lk_X10_368 rfl cal_X10_nuBut vir_X10_nuBut (Nat.le_of_ble_eq_true rfl) (Nat.le_of_ble_eq_true rfl) rfl rfl rfl (Nat.le_of_ble_eq_true rfl) dX10_fitOf_39 (fun _ e => m_X10_nuBut a0 p1 p2 r4.2 _ _ e) (fun r5 => ?_)
        refine Y.op (pc' := 43) (fun _ => X.iloadn rfl dX10_fitOf_42) ?_
        refine Y.cmpge 48 (by decide) dX10_fitOf_43 ?_ ?_
        · refine Y.op (pc' := 49) (fun _ => X.aloadn rfl dX10_fitOf_48) ?_
          refine Y.getR fd_X10_22 rfl dX10_fitOf_49 (fun v6 => ?_)
          refine Y.op (pc' := 53) (fun _ => X.ic ki_0 dX10_fitOf_52) ?_
          refine Y.aldR 102 (by decide) (by decide) dX10_fitOf_53 (fun v7 => ?_)
          refine Y.op (pc' := 55) (fun _ => X.ic ki_3 dX10_fitOf_54) ?_
          refine Y.aldI dX10_fitOf_55 (fun v8 => ?_)
          refine Y.op (pc' := 58) (loc' := [some (.ref a0), some (.int p1), some (.int p2), some (.int r4.1), some (.int v8), none]) (fun _ => X.istore (Nat.le_of_ble_eq_true rfl) rfl dX10_fitOf_56) ?_
          refine Y.op (pc' := 59) (fun _ => X.aloadn rfl dX10_fitOf_58) ?_
          refine Y.getR fd_X10_22 rfl dX10_fitOf_59 (fun v9 => ?_)
          refine Y.op (pc' := 63) (fun _ => X.ic ki_0 dX10_fitOf_62) ?_
          refine Y.aldR 102 (by decide) (by decide) dX10_fitOf_63 (fun v10 => ?_)
          refine Y.op (pc' := 65) (fun _ => X.ic ki_3 dX10_fitOf_64) ?_
          refine Y.op (pc' := 66) (fun _ => X.dup2 rfl rfl dX10_fitOf_65) ?_
          refine Y.aldI dX10_fitOf_66 (fun v11 => ?_)
          refine Y.op (pc' := 68) (fun _ => X.ic ki_1 dX10_fitOf_67) ?_
          refine Y.op (pc' := 69) (fun _ => X.iloadn rfl dX10_fitOf_68) ?_
          refine Y.op (pc' := 70) (fun _ => X.ishl dX10_fitOf_69) ?_
          refine Y.op (pc' := 71) (fun _ => X.ic ki_m1 dX10_fitOf_70) ?_
          refine Y.op (pc' := 72) (fun _ => X.ixor dX10_fitOf_71) ?_
          refine Y.op (pc' := 73) (fun _ => X.iand dX10_fitOf_72) ?_
          refine Y.astI dX10_fitOf_73 (fun h12 => ?_)
          refine Y.op (pc' := 75) (fun _ => X.aloadn rfl dX10_fitOf_74) ?_
          refine Y.op (pc' := 76) (fun _ => X.ic ki_1 dX10_fitOf_75) ?_
          refine Y.op (pc' := 77) (fun _ => X.iloadn rfl dX10_fitOf_76) ?_
          refine Y.callVi (As := [.int (1 : Int32), .int p2]) lk_X10_362 rfl cal_X10_without vir_X10_without (Nat.le_of_ble_eq_true rfl) (Nat.le_of_ble_eq_true rfl) rfl rfl rfl (Nat.le_of_ble_eq_true rfl) dX10_fitOf_77 (fun _ e => m_X10_without a0 (1 : Int32) p2 h12 _ _ e) (fun r13 => ?_)
          refine Y.op (pc' := 82) (loc' := [some (.ref a0), some (.int p1), some (.int p2), some (.int r4.1), some (.int v8), some (.int r13.1)]) (fun _ => X.istore (Nat.le_of_ble_eq_true rfl) rfl dX10_fitOf_80) ?_
          refine Y.op (pc' := 83) (fun _ => X.aloadn rfl dX10_fitOf_82) ?_
          refine Y.getR fd_X10_22 rfl dX10_fitOf_83 (fun v14 => ?_)
          refine Y.op (pc' := 87) (fun _ => X.ic ki_0 dX10_fitOf_86) ?_
          refine Y.aldR 102 (by decide) (by decide) dX10_fitOf_87 (fun v15 => ?_)
          refine Y.op (pc' := 89) (fun _ => X.ic ki_3 dX10_fitOf_88) ?_
          refine Y.op (pc' := 91) (fun _ => X.iload rfl dX10_fitOf_89) ?_
          refine Y.astI dX10_fitOf_91 (fun h16 => ?_)
          refine Y.op (pc' := 94) (fun _ => X.iload rfl dX10_fitOf_92) ?_
          refine Y.op (pc' := 95) (fun _ => X.ic ki_1 dX10_fitOf_94) ?_
          refine Y.op (pc' := 96) (fun _ => X.iadd dX10_fitOf_95) ?_
          refine Y.op (pc' := 97) (fun _ => X.iloadn rfl dX10_fitOf_96) ?_
          refine Y.cmpne 104 (by decide) dX10_fitOf_97 ?_ ?_
          · refine Y.op (pc' := 105) (fun _ => X.ic ki_1 dX10_fitOf_104) ?_
            exact Y.fg (y_X10_fitOf_J105 (1 : Int32) h16) trivial
          · refine Y.op (pc' := 101) (fun _ => X.ic ki_2 dX10_fitOf_100) ?_
            refine Y.op (pc' := 105) (fun _ => X.goto 105 (by decide) dX10_fitOf_101) ?_
            exact Y.fg (y_X10_fitOf_J105 (2 : Int32) h16) trivial
        · refine Y.op (pc' := 47) (fun _ => X.ic ki_3 dX10_fitOf_46) ?_
          exact Y.ireturn rfl dX10_fitOf_47
      · exact Y.fg (y_X10_fitOf_J29 r3.2) trivial
  · refine Y.op (pc' := 10) (fun _ => X.ic ki_0 dX10_fitOf_9) ?_
    exact Y.ireturn rfl dX10_fitOf_10
theorem m_X10_fitOf {g : xG} (a0 : Nat) (p1 : Int32) (p2 : Int32) (h : xH) (cl : Bool) (r : Int32 × xH) (e : f_X10_fitOf a0 p1 p2 h = some r) : XM g DX10_fitOf [.ref a0, .int p1, .int p2] h cl (iI r) := YM.of rfl rfl (Nat.le_of_ble_eq_true rfl) (y_X10_fitOf a0 p1 p2 h) e
def f_X10_fit_J29 (x0 : Nat) (x1 : Int32) (x2 : Int32) (s0 : Nat) (s1 : Int32) (h : xH) : Option (Int32 × xH) :=
  (vc h 10 s0 (f_X10_bad s0 s1 (1 : Int32) (0 : Int32) h)).bind fun r1 =>
  if r1.1 = (0 : Int32) then
    (vc r1.2 10 x0 (f_X10_fitOf x0 x1 x2 r1.2)).bind fun r2 =>
    some (r2.1, r2.2)
  else
    some ((0 : Int32), r1.2)
theorem y_X10_fit_J29 {g : xG} {h0 : xH} {cl : Bool} (x0 : Nat) (x1 : Int32) (x2 : Int32) (s0 : Nat) (s1 : Int32) (h : xH) : Y g DX10_fit h0 cl iI (f_X10_fit_J29 x0 x1 x2 s0 s1 h) 29 [some (.ref x0), some (.int x1), some (.int x2)] [.int s1, .ref s0] h := by
  unfold f_X10_fit_J29
  refine Y.op (pc' := 30) (fun _ => X.ic ki_1 dX10_fit_29) ?_
  refine Y.op (pc' := 31) (fun _ => X.ic ki_0 dX10_fit_30) ?_
  refine Y.callVi (As := [.int s1, .int (1 : Int32), .int (0 : Int32)]) lk_X10_217 rfl cal_X10_bad vir_X10_bad (Nat.le_of_ble_eq_true rfl) (Nat.le_of_ble_eq_true rfl) rfl rfl rfl (Nat.le_of_ble_eq_true rfl) dX10_fit_31 (fun _ e => m_X10_bad s0 s1 (1 : Int32) (0 : Int32) h _ _ e) (fun r1 => ?_)
  refine Y.ifeq 39 (by decide) dX10_fit_34 ?_ ?_
  · refine Y.op (pc' := 40) (fun _ => X.aloadn rfl dX10_fit_39) ?_
    refine Y.op (pc' := 41) (fun _ => X.iloadn rfl dX10_fit_40) ?_
    refine Y.op (pc' := 42) (fun _ => X.iloadn rfl dX10_fit_41) ?_
    refine Y.callVi (As := [.int x1, .int x2]) lk_X10_371 rfl cal_X10_fitOf vir_X10_fitOf (Nat.le_of_ble_eq_true rfl) (Nat.le_of_ble_eq_true rfl) rfl rfl rfl (Nat.le_of_ble_eq_true rfl) dX10_fit_42 (fun _ e => m_X10_fitOf x0 x1 x2 r1.2 _ _ e) (fun r2 => ?_)
    exact Y.ireturn rfl dX10_fit_45
  · refine Y.op (pc' := 38) (fun _ => X.ic ki_0 dX10_fit_37) ?_
    exact Y.ireturn rfl dX10_fit_38
def f_X10_fit_J24 (x0 : Nat) (x1 : Int32) (x2 : Int32) (s0 : Nat) (h : xH) : Option (Int32 × xH) :=
  f_X10_fit_J29 x0 x1 x2 s0 (1 : Int32) h
theorem y_X10_fit_J24 {g : xG} {h0 : xH} {cl : Bool} (x0 : Nat) (x1 : Int32) (x2 : Int32) (s0 : Nat) (h : xH) : Y g DX10_fit h0 cl iI (f_X10_fit_J24 x0 x1 x2 s0 h) 24 [some (.ref x0), some (.int x1), some (.int x2)] [.ref s0] h := by
  unfold f_X10_fit_J24
  refine Y.op (pc' := 25) (fun _ => X.ic ki_1 dX10_fit_24) ?_
  refine Y.op (pc' := 29) (fun _ => X.goto 29 (by decide) dX10_fit_25) ?_
  exact y_X10_fit_J29 x0 x1 x2 s0 (1 : Int32) h
def f_X10_fit (a0 : Nat) (p1 : Int32) (p2 : Int32) (h : xH) : Option (Int32 × xH) :=
  (pI h 10 a0 0 (0 : Int32)).bind fun h1 =>
  (vc h1 10 a0 (f_X10_isOne a0 (0 : Int32) p1 h1)).bind fun r2 =>
  if r2.1 = (0 : Int32) then
    f_X10_fit_J24 a0 p1 p2 a0 r2.2
  else
    (vc r2.2 10 a0 (f_X10_isOne a0 (1 : Int32) p2 r2.2)).bind fun r3 =>
    if r3.1 = (0 : Int32) then
      f_X10_fit_J24 a0 p1 p2 a0 r3.2
    else
      f_X10_fit_J29 a0 p1 p2 a0 (0 : Int32) r3.2
theorem y_X10_fit {g : xG} {h0 : xH} {cl : Bool} (a0 : Nat) (p1 : Int32) (p2 : Int32) (h : xH) : Y g DX10_fit h0 cl iI (f_X10_fit a0 p1 p2 h) 0 [some (.ref a0), some (.int p1), some (.int p2)] [] h := by
  unfold f_X10_fit
  refine Y.op (pc' := 1) (fun _ => X.aloadn rfl dX10_fit_0) ?_
  refine Y.op (pc' := 2) (fun _ => X.ic ki_0 dX10_fit_1) ?_
  refine Y.putI fd_X10_82 rfl dX10_fit_2 (fun h1 => ?_)
  refine Y.op (pc' := 6) (fun _ => X.aloadn rfl dX10_fit_5) ?_
  refine Y.op (pc' := 7) (fun _ => X.aloadn rfl dX10_fit_6) ?_
  refine Y.op (pc' := 8) (fun _ => X.ic ki_0 dX10_fit_7) ?_
  refine Y.op (pc' := 9) (fun _ => X.iloadn rfl dX10_fit_8) ?_
  refine Y.callVi (As := [.int (0 : Int32), .int p1]) lk_X10_282 rfl cal_X10_isOne vir_X10_isOne (Nat.le_of_ble_eq_true rfl) (Nat.le_of_ble_eq_true rfl) rfl rfl rfl (Nat.le_of_ble_eq_true rfl) dX10_fit_9 (fun _ e => m_X10_isOne a0 (0 : Int32) p1 h1 _ _ e) (fun r2 => ?_)
  refine Y.ifeq 24 (by decide) dX10_fit_12 ?_ ?_
  · exact y_X10_fit_J24 a0 p1 p2 a0 r2.2
  · refine Y.op (pc' := 16) (fun _ => X.aloadn rfl dX10_fit_15) ?_
    refine Y.op (pc' := 17) (fun _ => X.ic ki_1 dX10_fit_16) ?_
    refine Y.op (pc' := 18) (fun _ => X.iloadn rfl dX10_fit_17) ?_
    refine Y.callVi (As := [.int (1 : Int32), .int p2]) lk_X10_282 rfl cal_X10_isOne vir_X10_isOne (Nat.le_of_ble_eq_true rfl) (Nat.le_of_ble_eq_true rfl) rfl rfl rfl (Nat.le_of_ble_eq_true rfl) dX10_fit_18 (fun _ e => m_X10_isOne a0 (1 : Int32) p2 r2.2 _ _ e) (fun r3 => ?_)
    refine Y.ifne 28 (by decide) dX10_fit_21 ?_ ?_
    · refine Y.op (pc' := 29) (fun _ => X.ic ki_0 dX10_fit_28) ?_
      exact y_X10_fit_J29 a0 p1 p2 a0 (0 : Int32) r3.2
    · exact y_X10_fit_J24 a0 p1 p2 a0 r3.2
theorem m_X10_fit {g : xG} (a0 : Nat) (p1 : Int32) (p2 : Int32) (h : xH) (cl : Bool) (r : Int32 × xH) (e : f_X10_fit a0 p1 p2 h = some r) : XM g DX10_fit [.ref a0, .int p1, .int p2] h cl (iI r) := YM.of rfl rfl (Nat.le_of_ble_eq_true rfl) (y_X10_fit a0 p1 p2 h) e
def f_X10_fitMany_J93 (x2 : Int32) (h : xH) : Option (Int32 × xH) :=
  some (x2, h)
theorem y_X10_fitMany_J93 {g : xG} {h0 : xH} {cl : Bool} (x2 : Int32) (h : xH) : Y g DX10_fitMany h0 cl iI (f_X10_fitMany_J93 x2 h) 93 [none, none, some (.int x2), none, none] [] h := by
  unfold f_X10_fitMany_J93
  refine Y.op (pc' := 94) (fun _ => X.iloadn rfl dX10_fitMany_93) ?_
  exact Y.ireturn rfl dX10_fitMany_94
def f_X10_fitMany_J87 (kH : Nat → Int32 → Int32 → Int32 → xH → Option (Int32 × xH)) (kE93 : Int32 → xH → Option (Int32 × xH)) (x0 : Nat) (x1 : Int32) (x2 : Int32) (x3 : Int32) (h : xH) : Option (Int32 × xH) :=
  lt (x3 + (1 : Int32)) fun v1 =>
  kH x0 x1 x2 v1 h
theorem y_X10_fitMany_J87 {g : xG} {h0 : xH} {cl : Bool} {kH : Nat → Int32 → Int32 → Int32 → xH → Option (Int32 × xH)} {kE93 : Int32 → xH → Option (Int32 × xH)} (hkH : ∀ (x0 : Nat) (x1 : Int32) (x2 : Int32) (x3 : Int32) (h : xH), Y g DX10_fitMany h0 cl iI (kH x0 x1 x2 x3 h) 34 [some (.ref x0), some (.int x1), some (.int x2), some (.int x3), none] [] h) (hkE93 : ∀ (x2 : Int32) (h : xH), Y g DX10_fitMany h0 cl iI (kE93 x2 h) 93 [none, none, some (.int x2), none, none] [] h) (x0 : Nat) (x1 : Int32) (x2 : Int32) (x3 : Int32) (h : xH) : Y g DX10_fitMany h0 cl iI (f_X10_fitMany_J87 kH kE93 x0 x1 x2 x3 h) 87 [some (.ref x0), some (.int x1), some (.int x2), some (.int x3), none] [] h := by
  unfold f_X10_fitMany_J87
  refine Y.iinc (i := 3) (loc' := fun v1 => [some (.ref x0), some (.int x1), some (.int x2), some (.int v1), none]) rfl (Nat.le_of_ble_eq_true rfl) ki_1 (fun _ => rfl) dX10_fitMany_87 (fun v1 => ?_)
  refine Y.op (pc' := 34) (fun _ => X.goto 34 (by decide) dX10_fitMany_90) ?_
  exact hkH x0 x1 x2 v1 h
def f_X10_fitMany_J79 (kH : Nat → Int32 → Int32 → Int32 → Int32 → xH → Option (Int32 × xH)) (kE87 : Nat → Int32 → Int32 → Int32 → xH → Option (Int32 × xH)) (x0 : Nat) (x1 : Int32) (x3 : Int32) (x4 : Int32) (s0 : Int32) (s1 : Int32) (h : xH) : Option (Int32 × xH) :=
  lt ((s0 + s1)) fun v1 =>
  lt (x4 + (1 : Int32)) fun v2 =>
  kH x0 x1 v1 x3 v2 h
theorem y_X10_fitMany_J79 {g : xG} {h0 : xH} {cl : Bool} {kH : Nat → Int32 → Int32 → Int32 → Int32 → xH → Option (Int32 × xH)} {kE87 : Nat → Int32 → Int32 → Int32 → xH → Option (Int32 × xH)} (hkH : ∀ (x0 : Nat) (x1 : Int32) (x2 : Int32) (x3 : Int32) (x4 : Int32) (h : xH), Y g DX10_fitMany h0 cl iI (kH x0 x1 x2 x3 x4 h) 49 [some (.ref x0), some (.int x1), some (.int x2), some (.int x3), some (.int x4)] [] h) (hkE87 : ∀ (x0 : Nat) (x1 : Int32) (x2 : Int32) (x3 : Int32) (h : xH), Y g DX10_fitMany h0 cl iI (kE87 x0 x1 x2 x3 h) 87 [some (.ref x0), some (.int x1), some (.int x2), some (.int x3), none] [] h) (x0 : Nat) (x1 : Int32) (x3 : Int32) (x4 : Int32) (s0 : Int32) (s1 : Int32) (h : xH) : Y g DX10_fitMany h0 cl iI (f_X10_fitMany_J79 kH kE87 x0 x1 x3 x4 s0 s1 h) 79 [some (.ref x0), some (.int x1), none, some (.int x3), some (.int x4)] [.int s1, .int s0] h := by
  unfold f_X10_fitMany_J79
  refine Y.op (pc' := 80) (fun _ => X.iadd dX10_fitMany_79) ?_
  refine Y.top (fun v1 => ?_)
  refine Y.op (pc' := 81) (loc' := [some (.ref x0), some (.int x1), some (.int v1), some (.int x3), some (.int x4)]) (fun _ => X.istoren (Nat.le_of_ble_eq_true rfl) rfl dX10_fitMany_80) ?_
  refine Y.iinc (i := 4) (loc' := fun v2 => [some (.ref x0), some (.int x1), some (.int v1), some (.int x3), some (.int v2)]) rfl (Nat.le_of_ble_eq_true rfl) ki_1 (fun _ => rfl) dX10_fitMany_81 (fun v2 => ?_)
  refine Y.op (pc' := 49) (fun _ => X.goto 49 (by decide) dX10_fitMany_84) ?_
  exact hkH x0 x1 v1 x3 v2 h
def f_X10_fitMany_L49 (kE87 : Nat → Int32 → Int32 → Int32 → xH → Option (Int32 × xH)) : Nat → Nat → Int32 → Int32 → Int32 → Int32 → xH → Option (Int32 × xH)
  | 0 => fun _ _ _ _ _ _ => none
  | n + 1 => fun x0 x1 x2 x3 x4 h =>
    (gR h 10 x0 9).bind fun v1 =>
    (aR 102 h v1 (0 : Int32)).bind fun v2 =>
    (aI h v2 (1 : Int32)).bind fun v3 =>
    if x4 ≥ v3 then
      kE87 x0 x1 x2 x3 h
    else
      (vc h 10 x0 (f_X10_fitOf x0 x3 x4 h)).bind fun r4 =>
      if r4.1 = x1 then
        f_X10_fitMany_J79 (f_X10_fitMany_L49 kE87 n) kE87 x0 x1 x3 x4 x2 (1 : Int32) r4.2
      else
        f_X10_fitMany_J79 (f_X10_fitMany_L49 kE87 n) kE87 x0 x1 x3 x4 x2 (0 : Int32) r4.2
theorem y_X10_fitMany_L49 {g : xG} {h0 : xH} {cl : Bool} {kE87 : Nat → Int32 → Int32 → Int32 → xH → Option (Int32 × xH)} (hkE87 : ∀ (x0 : Nat) (x1 : Int32) (x2 : Int32) (x3 : Int32) (h : xH), Y g DX10_fitMany h0 cl iI (kE87 x0 x1 x2 x3 h) 87 [some (.ref x0), some (.int x1), some (.int x2), some (.int x3), none] [] h) : ∀ (n : Nat) (x0 : Nat) (x1 : Int32) (x2 : Int32) (x3 : Int32) (x4 : Int32) (h : xH), Y g DX10_fitMany h0 cl iI (f_X10_fitMany_L49 kE87 n x0 x1 x2 x3 x4 h) 49 [some (.ref x0), some (.int x1), some (.int x2), some (.int x3), some (.int x4)] [] h := by
  intro n
  induction n with
  | zero => intro x0 x1 x2 x3 x4 h; exact Y.nothing
  | succ n ih =>
    intro x0 x1 x2 x3 x4 h
    unfold f_X10_fitMany_L49
    refine Y.op (pc' := 51) (fun _ => X.iload rfl dX10_fitMany_49) ?_
    refine Y.op (pc' := 52) (fun _ => X.aloadn rfl dX10_fitMany_51) ?_
    refine Y.getR fd_X10_22 rfl dX10_fitMany_52 (fun v1 => ?_)
    refine Y.op (pc' := 56) (fun _ => X.ic ki_0 dX10_fitMany_55) ?_
    refine Y.aldR 102 (by decide) (by decide) dX10_fitMany_56 (fun v2 => ?_)
    refine Y.op (pc' := 58) (fun _ => X.ic ki_1 dX10_fitMany_57) ?_
    refine Y.aldI dX10_fitMany_58 (fun v3 => ?_)
    refine Y.cmpge 87 (by decide) dX10_fitMany_59 ?_ ?_
    · exact Y.fg (hkE87 x0 x1 x2 x3 h) (And.intro rfl (And.intro rfl (And.intro rfl (And.intro rfl trivial))))
    · refine Y.op (pc' := 63) (fun _ => X.iloadn rfl dX10_fitMany_62) ?_
      refine Y.op (pc' := 64) (fun _ => X.aloadn rfl dX10_fitMany_63) ?_
      refine Y.op (pc' := 65) (fun _ => X.iloadn rfl dX10_fitMany_64) ?_
      refine Y.op (pc' := 67) (fun _ => X.iload rfl dX10_fitMany_65) ?_
      refine Y.callVi (As := [.int x3, .int x4]) lk_X10_371 rfl cal_X10_fitOf vir_X10_fitOf (Nat.le_of_ble_eq_true rfl) (Nat.le_of_ble_eq_true rfl) rfl rfl rfl (Nat.le_of_ble_eq_true rfl) dX10_fitMany_67 (fun _ e => m_X10_fitOf x0 x3 x4 h _ _ e) (fun r4 => ?_)
      refine Y.op (pc' := 71) (fun _ => X.iloadn rfl dX10_fitMany_70) ?_
      refine Y.cmpne 78 (by decide) dX10_fitMany_71 ?_ ?_
      · refine Y.op (pc' := 79) (fun _ => X.ic ki_0 dX10_fitMany_78) ?_
        exact Y.fg (y_X10_fitMany_J79 ih hkE87 x0 x1 x3 x4 x2 (0 : Int32) r4.2) (And.intro rfl (And.intro rfl (And.intro rfl (And.intro rfl trivial))))
      · refine Y.op (pc' := 75) (fun _ => X.ic ki_1 dX10_fitMany_74) ?_
        refine Y.op (pc' := 79) (fun _ => X.goto 79 (by decide) dX10_fitMany_75) ?_
        exact Y.fg (y_X10_fitMany_J79 ih hkE87 x0 x1 x3 x4 x2 (1 : Int32) r4.2) (And.intro rfl (And.intro rfl (And.intro rfl (And.intro rfl trivial))))
def f_X10_fitMany_L34 (kE93 : Int32 → xH → Option (Int32 × xH)) : Nat → Nat → Int32 → Int32 → Int32 → xH → Option (Int32 × xH)
  | 0 => fun _ _ _ _ _ => none
  | n + 1 => fun x0 x1 x2 x3 h =>
    (gR h 10 x0 9).bind fun v1 =>
    (aR 102 h v1 (0 : Int32)).bind fun v2 =>
    (aI h v2 (0 : Int32)).bind fun v3 =>
    if x3 ≥ v3 then
      kE93 x2 h
    else
      f_X10_fitMany_L49 (f_X10_fitMany_J87 (f_X10_fitMany_L34 kE93 n) kE93) 5000 x0 x1 x2 x3 (0 : Int32) h
theorem y_X10_fitMany_L34 {g : xG} {h0 : xH} {cl : Bool} {kE93 : Int32 → xH → Option (Int32 × xH)} (hkE93 : ∀ (x2 : Int32) (h : xH), Y g DX10_fitMany h0 cl iI (kE93 x2 h) 93 [none, none, some (.int x2), none, none] [] h) : ∀ (n : Nat) (x0 : Nat) (x1 : Int32) (x2 : Int32) (x3 : Int32) (h : xH), Y g DX10_fitMany h0 cl iI (f_X10_fitMany_L34 kE93 n x0 x1 x2 x3 h) 34 [some (.ref x0), some (.int x1), some (.int x2), some (.int x3), none] [] h := by
  intro n
  induction n with
  | zero => intro x0 x1 x2 x3 h; exact Y.nothing
  | succ n ih =>
    intro x0 x1 x2 x3 h
    unfold f_X10_fitMany_L34
    refine Y.op (pc' := 35) (fun _ => X.iloadn rfl dX10_fitMany_34) ?_
    refine Y.op (pc' := 36) (fun _ => X.aloadn rfl dX10_fitMany_35) ?_
    refine Y.getR fd_X10_22 rfl dX10_fitMany_36 (fun v1 => ?_)
    refine Y.op (pc' := 40) (fun _ => X.ic ki_0 dX10_fitMany_39) ?_
    refine Y.aldR 102 (by decide) (by decide) dX10_fitMany_40 (fun v2 => ?_)
    refine Y.op (pc' := 42) (fun _ => X.ic ki_0 dX10_fitMany_41) ?_
    refine Y.aldI dX10_fitMany_42 (fun v3 => ?_)
    refine Y.cmpge 93 (by decide) dX10_fitMany_43 ?_ ?_
    · exact Y.fg (hkE93 x2 h) (And.intro rfl trivial)
    · refine Y.op (pc' := 47) (fun _ => X.ic ki_0 dX10_fitMany_46) ?_
      refine Y.op (pc' := 49) (loc' := [some (.ref x0), some (.int x1), some (.int x2), some (.int x3), some (.int (0 : Int32))]) (fun _ => X.istore (Nat.le_of_ble_eq_true rfl) rfl dX10_fitMany_47) ?_
      exact y_X10_fitMany_L49 (y_X10_fitMany_J87 ih hkE93) 5000 x0 x1 x2 x3 (0 : Int32) h
def f_X10_fitMany_J20 (x0 : Nat) (x1 : Int32) (s0 : Nat) (s1 : Int32) (h : xH) : Option (Int32 × xH) :=
  (vc h 10 s0 (f_X10_bad s0 s1 (1 : Int32) (1 : Int32) h)).bind fun r1 =>
  if r1.1 = (0 : Int32) then
    f_X10_fitMany_L34 (f_X10_fitMany_J93) 5000 x0 x1 (0 : Int32) (0 : Int32) r1.2
  else
    some ((0 : Int32), r1.2)
theorem y_X10_fitMany_J20 {g : xG} {h0 : xH} {cl : Bool} (x0 : Nat) (x1 : Int32) (s0 : Nat) (s1 : Int32) (h : xH) : Y g DX10_fitMany h0 cl iI (f_X10_fitMany_J20 x0 x1 s0 s1 h) 20 [some (.ref x0), some (.int x1), none, none, none] [.int s1, .ref s0] h := by
  unfold f_X10_fitMany_J20
  refine Y.op (pc' := 21) (fun _ => X.ic ki_1 dX10_fitMany_20) ?_
  refine Y.op (pc' := 22) (fun _ => X.ic ki_1 dX10_fitMany_21) ?_
  refine Y.callVi (As := [.int s1, .int (1 : Int32), .int (1 : Int32)]) lk_X10_217 rfl cal_X10_bad vir_X10_bad (Nat.le_of_ble_eq_true rfl) (Nat.le_of_ble_eq_true rfl) rfl rfl rfl (Nat.le_of_ble_eq_true rfl) dX10_fitMany_22 (fun _ e => m_X10_bad s0 s1 (1 : Int32) (1 : Int32) h _ _ e) (fun r1 => ?_)
  refine Y.ifeq 30 (by decide) dX10_fitMany_25 ?_ ?_
  · refine Y.op (pc' := 31) (fun _ => X.ic ki_0 dX10_fitMany_30) ?_
    refine Y.op (pc' := 32) (loc' := [some (.ref x0), some (.int x1), some (.int (0 : Int32)), none, none]) (fun _ => X.istoren (Nat.le_of_ble_eq_true rfl) rfl dX10_fitMany_31) ?_
    refine Y.op (pc' := 33) (fun _ => X.ic ki_0 dX10_fitMany_32) ?_
    refine Y.op (pc' := 34) (loc' := [some (.ref x0), some (.int x1), some (.int (0 : Int32)), some (.int (0 : Int32)), none]) (fun _ => X.istoren (Nat.le_of_ble_eq_true rfl) rfl dX10_fitMany_33) ?_
    exact y_X10_fitMany_L34 (y_X10_fitMany_J93) 5000 x0 x1 (0 : Int32) (0 : Int32) r1.2
  · refine Y.op (pc' := 29) (fun _ => X.ic ki_0 dX10_fitMany_28) ?_
    exact Y.ireturn rfl dX10_fitMany_29
def f_X10_fitMany (a0 : Nat) (p1 : Int32) (h : xH) : Option (Int32 × xH) :=
  (pI h 10 a0 0 (0 : Int32)).bind fun h1 =>
  (f_X10_in p1 (1 : Int32) (3 : Int32) h1).bind fun r2 =>
  if r2.1 = (0 : Int32) then
    f_X10_fitMany_J20 a0 p1 a0 (1 : Int32) r2.2
  else
    f_X10_fitMany_J20 a0 p1 a0 (0 : Int32) r2.2
theorem y_X10_fitMany {g : xG} {h0 : xH} {cl : Bool} (a0 : Nat) (p1 : Int32) (h : xH) : Y g DX10_fitMany h0 cl iI (f_X10_fitMany a0 p1 h) 0 [some (.ref a0), some (.int p1), none, none, none] [] h := by
  unfold f_X10_fitMany
  refine Y.op (pc' := 1) (fun _ => X.aloadn rfl dX10_fitMany_0) ?_
  refine Y.op (pc' := 2) (fun _ => X.ic ki_0 dX10_fitMany_1) ?_
  refine Y.putI fd_X10_82 rfl dX10_fitMany_2 (fun h1 => ?_)
  refine Y.op (pc' := 6) (fun _ => X.aloadn rfl dX10_fitMany_5) ?_
  refine Y.op (pc' := 7) (fun _ => X.iloadn rfl dX10_fitMany_6) ?_
  refine Y.op (pc' := 8) (fun _ => X.ic ki_1 dX10_fitMany_7) ?_
  refine Y.op (pc' := 9) (fun _ => X.ic ki_3 dX10_fitMany_8) ?_
  refine Y.callSi (As := [.int p1, .int (1 : Int32), .int (3 : Int32)]) lk_X10_127 rfl cal_X10_in sta_X10_in (Nat.le_of_ble_eq_true rfl) rfl rfl (Nat.le_of_ble_eq_true rfl) dX10_fitMany_9 (fun _ e => m_X10_in p1 (1 : Int32) (3 : Int32) h1 _ _ e) (fun r2 => ?_)
  refine Y.ifne 19 (by decide) dX10_fitMany_12 ?_ ?_
  · refine Y.op (pc' := 20) (fun _ => X.ic ki_0 dX10_fitMany_19) ?_
    exact y_X10_fitMany_J20 a0 p1 a0 (0 : Int32) r2.2
  · refine Y.op (pc' := 16) (fun _ => X.ic ki_1 dX10_fitMany_15) ?_
    refine Y.op (pc' := 20) (fun _ => X.goto 20 (by decide) dX10_fitMany_16) ?_
    exact y_X10_fitMany_J20 a0 p1 a0 (1 : Int32) r2.2
theorem m_X10_fitMany {g : xG} (a0 : Nat) (p1 : Int32) (h : xH) (cl : Bool) (r : Int32 × xH) (e : f_X10_fitMany a0 p1 h = some r) : XM g DX10_fitMany [.ref a0, .int p1] h cl (iI r) := YM.of rfl rfl (Nat.le_of_ble_eq_true rfl) (y_X10_fitMany a0 p1 h) e
def f_X10_lack_J104 (x2 : Int32) (x3 : Int32) (h : xH) : Option (Int32 × xH) :=
  (f_X10_ones x3 h).bind fun r1 =>
  (f_X10_ones x2 r1.2).bind fun r2 =>
  some ((r1.1 - r2.1), r2.2)
theorem y_X10_lack_J104 {g : xG} {h0 : xH} {cl : Bool} (x2 : Int32) (x3 : Int32) (h : xH) : Y g DX10_lack h0 cl iI (f_X10_lack_J104 x2 x3 h) 104 [none, none, some (.int x2), some (.int x3), none] [] h := by
  unfold f_X10_lack_J104
  refine Y.op (pc' := 105) (fun _ => X.iloadn rfl dX10_lack_104) ?_
  refine Y.callSi (As := [.int x3]) lk_X10_270 rfl cal_X10_ones sta_X10_ones (Nat.le_of_ble_eq_true rfl) rfl rfl (Nat.le_of_ble_eq_true rfl) dX10_lack_105 (fun _ e => m_X10_ones x3 h _ _ e) (fun r1 => ?_)
  refine Y.op (pc' := 109) (fun _ => X.iloadn rfl dX10_lack_108) ?_
  refine Y.callSi (As := [.int x2]) lk_X10_270 rfl cal_X10_ones sta_X10_ones (Nat.le_of_ble_eq_true rfl) rfl rfl (Nat.le_of_ble_eq_true rfl) dX10_lack_109 (fun _ e => m_X10_ones x2 r1.2 _ _ e) (fun r2 => ?_)
  refine Y.op (pc' := 113) (fun _ => X.isub dX10_lack_112) ?_
  exact Y.ireturn rfl dX10_lack_113
def f_X10_lack_J96 (kH : Nat → Int32 → Int32 → Int32 → xH → Option (Int32 × xH)) (kE104 : Int32 → Int32 → xH → Option (Int32 × xH)) (x0 : Nat) (x3 : Int32) (x4 : Int32) (s0 : Int32) (s1 : Int32) (h : xH) : Option (Int32 × xH) :=
  lt ((s0 ||| s1)) fun v1 =>
  lt (x4 + (1 : Int32)) fun v2 =>
  kH x0 v1 x3 v2 h
theorem y_X10_lack_J96 {g : xG} {h0 : xH} {cl : Bool} {kH : Nat → Int32 → Int32 → Int32 → xH → Option (Int32 × xH)} {kE104 : Int32 → Int32 → xH → Option (Int32 × xH)} (hkH : ∀ (x0 : Nat) (x2 : Int32) (x3 : Int32) (x4 : Int32) (h : xH), Y g DX10_lack h0 cl iI (kH x0 x2 x3 x4 h) 57 [some (.ref x0), none, some (.int x2), some (.int x3), some (.int x4)] [] h) (hkE104 : ∀ (x2 : Int32) (x3 : Int32) (h : xH), Y g DX10_lack h0 cl iI (kE104 x2 x3 h) 104 [none, none, some (.int x2), some (.int x3), none] [] h) (x0 : Nat) (x3 : Int32) (x4 : Int32) (s0 : Int32) (s1 : Int32) (h : xH) : Y g DX10_lack h0 cl iI (f_X10_lack_J96 kH kE104 x0 x3 x4 s0 s1 h) 96 [some (.ref x0), none, none, some (.int x3), some (.int x4)] [.int s1, .int s0] h := by
  unfold f_X10_lack_J96
  refine Y.op (pc' := 97) (fun _ => X.ior dX10_lack_96) ?_
  refine Y.top (fun v1 => ?_)
  refine Y.op (pc' := 98) (loc' := [some (.ref x0), none, some (.int v1), some (.int x3), some (.int x4)]) (fun _ => X.istoren (Nat.le_of_ble_eq_true rfl) rfl dX10_lack_97) ?_
  refine Y.iinc (i := 4) (loc' := fun v2 => [some (.ref x0), none, some (.int v1), some (.int x3), some (.int v2)]) rfl (Nat.le_of_ble_eq_true rfl) ki_1 (fun _ => rfl) dX10_lack_98 (fun v2 => ?_)
  refine Y.op (pc' := 57) (fun _ => X.goto 57 (by decide) dX10_lack_101) ?_
  exact hkH x0 v1 x3 v2 h
def f_X10_lack_L57 (kE104 : Int32 → Int32 → xH → Option (Int32 × xH)) : Nat → Nat → Int32 → Int32 → Int32 → xH → Option (Int32 × xH)
  | 0 => fun _ _ _ _ _ => none
  | n + 1 => fun x0 x2 x3 x4 h =>
    if x4 ≥ (12 : Int32) then
      kE104 x2 x3 h
    else
      (f_X10_has x3 x4 h).bind fun r1 =>
      if r1.1 = (0 : Int32) then
        f_X10_lack_J96 (f_X10_lack_L57 kE104 n) kE104 x0 x3 x4 x2 (0 : Int32) r1.2
      else
        (gR r1.2 10 x0 10).bind fun v2 =>
        (aR 102 r1.2 v2 (0 : Int32)).bind fun v3 =>
        (aI r1.2 v3 x4).bind fun v4 =>
        (gR r1.2 10 x0 9).bind fun v5 =>
        (aR 102 r1.2 v5 (0 : Int32)).bind fun v6 =>
        (aI r1.2 v6 (4 : Int32)).bind fun v7 =>
        f_X10_lack_J96 (f_X10_lack_L57 kE104 n) kE104 x0 x3 x4 x2 (v4 &&& v7) r1.2
theorem y_X10_lack_L57 {g : xG} {h0 : xH} {cl : Bool} {kE104 : Int32 → Int32 → xH → Option (Int32 × xH)} (hkE104 : ∀ (x2 : Int32) (x3 : Int32) (h : xH), Y g DX10_lack h0 cl iI (kE104 x2 x3 h) 104 [none, none, some (.int x2), some (.int x3), none] [] h) : ∀ (n : Nat) (x0 : Nat) (x2 : Int32) (x3 : Int32) (x4 : Int32) (h : xH), Y g DX10_lack h0 cl iI (f_X10_lack_L57 kE104 n x0 x2 x3 x4 h) 57 [some (.ref x0), none, some (.int x2), some (.int x3), some (.int x4)] [] h := by
  intro n
  induction n with
  | zero => intro x0 x2 x3 x4 h; exact Y.nothing
  | succ n ih =>
    intro x0 x2 x3 x4 h
    unfold f_X10_lack_L57
    refine Y.op (pc' := 59) (fun _ => X.iload rfl dX10_lack_57) ?_
    refine Y.op (pc' := 61) (fun _ => X.bp kb_12 dX10_lack_59) ?_
    refine Y.cmpge 104 (by decide) dX10_lack_61 ?_ ?_
    · exact Y.fg (hkE104 x2 x3 h) (And.intro rfl (And.intro rfl trivial))
    · refine Y.op (pc' := 65) (fun _ => X.iloadn rfl dX10_lack_64) ?_
      refine Y.op (pc' := 66) (fun _ => X.iloadn rfl dX10_lack_65) ?_
      refine Y.op (pc' := 68) (fun _ => X.iload rfl dX10_lack_66) ?_
      refine Y.callSi (As := [.int x3, .int x4]) lk_X10_182 rfl cal_X10_has sta_X10_has (Nat.le_of_ble_eq_true rfl) rfl rfl (Nat.le_of_ble_eq_true rfl) dX10_lack_68 (fun _ e => m_X10_has x3 x4 h _ _ e) (fun r1 => ?_)
      refine Y.ifeq 95 (by decide) dX10_lack_71 ?_ ?_
      · refine Y.op (pc' := 96) (fun _ => X.ic ki_0 dX10_lack_95) ?_
        exact Y.fg (y_X10_lack_J96 ih hkE104 x0 x3 x4 x2 (0 : Int32) r1.2) (And.intro rfl (And.intro rfl (And.intro rfl trivial)))
      · refine Y.op (pc' := 75) (fun _ => X.aloadn rfl dX10_lack_74) ?_
        refine Y.getR fd_X10_25 rfl dX10_lack_75 (fun v2 => ?_)
        refine Y.op (pc' := 79) (fun _ => X.ic ki_0 dX10_lack_78) ?_
        refine Y.aldR 102 (by decide) (by decide) dX10_lack_79 (fun v3 => ?_)
        refine Y.op (pc' := 82) (fun _ => X.iload rfl dX10_lack_80) ?_
        refine Y.aldI dX10_lack_82 (fun v4 => ?_)
        refine Y.op (pc' := 84) (fun _ => X.aloadn rfl dX10_lack_83) ?_
        refine Y.getR fd_X10_22 rfl dX10_lack_84 (fun v5 => ?_)
        refine Y.op (pc' := 88) (fun _ => X.ic ki_0 dX10_lack_87) ?_
        refine Y.aldR 102 (by decide) (by decide) dX10_lack_88 (fun v6 => ?_)
        refine Y.op (pc' := 90) (fun _ => X.ic ki_4 dX10_lack_89) ?_
        refine Y.aldI dX10_lack_90 (fun v7 => ?_)
        refine Y.op (pc' := 92) (fun _ => X.iand dX10_lack_91) ?_
        refine Y.op (pc' := 96) (fun _ => X.goto 96 (by decide) dX10_lack_92) ?_
        exact Y.fg (y_X10_lack_J96 ih hkE104 x0 x3 x4 x2 (v4 &&& v7) r1.2) (And.intro rfl (And.intro rfl (And.intro rfl trivial)))
def f_X10_lack_J31 (x0 : Nat) (x1 : Int32) (s0 : Nat) (s1 : Int32) (h : xH) : Option (Int32 × xH) :=
  (vc h 10 s0 (f_X10_bad s0 s1 (1 : Int32) (1 : Int32) h)).bind fun r1 =>
  if r1.1 = (0 : Int32) then
    (gR r1.2 10 x0 9).bind fun v2 =>
    (aR 102 r1.2 v2 (0 : Int32)).bind fun v3 =>
    (aI r1.2 v3 (3 : Int32)).bind fun v4 =>
    lt ((x1 &&& v4)) fun v5 =>
    f_X10_lack_L57 (f_X10_lack_J104) 5000 x0 (0 : Int32) v5 (0 : Int32) r1.2
  else
    some ((0 : Int32), r1.2)
theorem y_X10_lack_J31 {g : xG} {h0 : xH} {cl : Bool} (x0 : Nat) (x1 : Int32) (s0 : Nat) (s1 : Int32) (h : xH) : Y g DX10_lack h0 cl iI (f_X10_lack_J31 x0 x1 s0 s1 h) 31 [some (.ref x0), some (.int x1), none, none, none] [.int s1, .ref s0] h := by
  unfold f_X10_lack_J31
  refine Y.op (pc' := 32) (fun _ => X.ic ki_1 dX10_lack_31) ?_
  refine Y.op (pc' := 33) (fun _ => X.ic ki_1 dX10_lack_32) ?_
  refine Y.callVi (As := [.int s1, .int (1 : Int32), .int (1 : Int32)]) lk_X10_217 rfl cal_X10_bad vir_X10_bad (Nat.le_of_ble_eq_true rfl) (Nat.le_of_ble_eq_true rfl) rfl rfl rfl (Nat.le_of_ble_eq_true rfl) dX10_lack_33 (fun _ e => m_X10_bad s0 s1 (1 : Int32) (1 : Int32) h _ _ e) (fun r1 => ?_)
  refine Y.ifeq 41 (by decide) dX10_lack_36 ?_ ?_
  · refine Y.op (pc' := 42) (fun _ => X.ic ki_0 dX10_lack_41) ?_
    refine Y.op (pc' := 43) (loc' := [some (.ref x0), some (.int x1), some (.int (0 : Int32)), none, none]) (fun _ => X.istoren (Nat.le_of_ble_eq_true rfl) rfl dX10_lack_42) ?_
    refine Y.op (pc' := 44) (fun _ => X.iloadn rfl dX10_lack_43) ?_
    refine Y.op (pc' := 45) (fun _ => X.aloadn rfl dX10_lack_44) ?_
    refine Y.getR fd_X10_22 rfl dX10_lack_45 (fun v2 => ?_)
    refine Y.op (pc' := 49) (fun _ => X.ic ki_0 dX10_lack_48) ?_
    refine Y.aldR 102 (by decide) (by decide) dX10_lack_49 (fun v3 => ?_)
    refine Y.op (pc' := 51) (fun _ => X.ic ki_3 dX10_lack_50) ?_
    refine Y.aldI dX10_lack_51 (fun v4 => ?_)
    refine Y.op (pc' := 53) (fun _ => X.iand dX10_lack_52) ?_
    refine Y.top (fun v5 => ?_)
    refine Y.op (pc' := 54) (loc' := [some (.ref x0), some (.int x1), some (.int (0 : Int32)), some (.int v5), none]) (fun _ => X.istoren (Nat.le_of_ble_eq_true rfl) rfl dX10_lack_53) ?_
    refine Y.op (pc' := 55) (fun _ => X.ic ki_0 dX10_lack_54) ?_
    refine Y.op (pc' := 57) (loc' := [some (.ref x0), some (.int x1), some (.int (0 : Int32)), some (.int v5), some (.int (0 : Int32))]) (fun _ => X.istore (Nat.le_of_ble_eq_true rfl) rfl dX10_lack_55) ?_
    exact Y.fg (y_X10_lack_L57 (y_X10_lack_J104) 5000 x0 (0 : Int32) v5 (0 : Int32) r1.2) (And.intro rfl (And.intro rfl (And.intro rfl (And.intro rfl trivial))))
  · refine Y.op (pc' := 40) (fun _ => X.ic ki_0 dX10_lack_39) ?_
    exact Y.ireturn rfl dX10_lack_40
def f_X10_lack (a0 : Nat) (p1 : Int32) (h : xH) : Option (Int32 × xH) :=
  (pI h 10 a0 0 (0 : Int32)).bind fun h1 =>
  (gR h1 10 a0 9).bind fun v2 =>
  (aR 102 h1 v2 (0 : Int32)).bind fun v3 =>
  (aI h1 v3 (0 : Int32)).bind fun v4 =>
  (f_X10_in p1 (0 : Int32) (((1 : Int32) <<< (v4 &&& 31)) - (1 : Int32)) h1).bind fun r5 =>
  if r5.1 = (0 : Int32) then
    f_X10_lack_J31 a0 p1 a0 (1 : Int32) r5.2
  else
    f_X10_lack_J31 a0 p1 a0 (0 : Int32) r5.2
theorem y_X10_lack {g : xG} {h0 : xH} {cl : Bool} (a0 : Nat) (p1 : Int32) (h : xH) : Y g DX10_lack h0 cl iI (f_X10_lack a0 p1 h) 0 [some (.ref a0), some (.int p1), none, none, none] [] h := by
  unfold f_X10_lack
  refine Y.op (pc' := 1) (fun _ => X.aloadn rfl dX10_lack_0) ?_
  refine Y.op (pc' := 2) (fun _ => X.ic ki_0 dX10_lack_1) ?_
  refine Y.putI fd_X10_82 rfl dX10_lack_2 (fun h1 => ?_)
  refine Y.op (pc' := 6) (fun _ => X.aloadn rfl dX10_lack_5) ?_
  refine Y.op (pc' := 7) (fun _ => X.iloadn rfl dX10_lack_6) ?_
  refine Y.op (pc' := 8) (fun _ => X.ic ki_0 dX10_lack_7) ?_
  refine Y.op (pc' := 9) (fun _ => X.ic ki_1 dX10_lack_8) ?_
  refine Y.op (pc' := 10) (fun _ => X.aloadn rfl dX10_lack_9) ?_
  refine Y.getR fd_X10_22 rfl dX10_lack_10 (fun v2 => ?_)
  refine Y.op (pc' := 14) (fun _ => X.ic ki_0 dX10_lack_13) ?_
  refine Y.aldR 102 (by decide) (by decide) dX10_lack_14 (fun v3 => ?_)
  refine Y.op (pc' := 16) (fun _ => X.ic ki_0 dX10_lack_15) ?_
  refine Y.aldI dX10_lack_16 (fun v4 => ?_)
  refine Y.op (pc' := 18) (fun _ => X.ishl dX10_lack_17) ?_
  refine Y.op (pc' := 19) (fun _ => X.ic ki_1 dX10_lack_18) ?_
  refine Y.op (pc' := 20) (fun _ => X.isub dX10_lack_19) ?_
  refine Y.callSi (As := [.int p1, .int (0 : Int32), .int (((1 : Int32) <<< (v4 &&& 31)) - (1 : Int32))]) lk_X10_127 rfl cal_X10_in sta_X10_in (Nat.le_of_ble_eq_true rfl) rfl rfl (Nat.le_of_ble_eq_true rfl) dX10_lack_20 (fun _ e => m_X10_in p1 (0 : Int32) (((1 : Int32) <<< (v4 &&& 31)) - (1 : Int32)) h1 _ _ e) (fun r5 => ?_)
  refine Y.ifne 30 (by decide) dX10_lack_23 ?_ ?_
  · refine Y.op (pc' := 31) (fun _ => X.ic ki_0 dX10_lack_30) ?_
    exact y_X10_lack_J31 a0 p1 a0 (0 : Int32) r5.2
  · refine Y.op (pc' := 27) (fun _ => X.ic ki_1 dX10_lack_26) ?_
    refine Y.op (pc' := 31) (fun _ => X.goto 31 (by decide) dX10_lack_27) ?_
    exact y_X10_lack_J31 a0 p1 a0 (1 : Int32) r5.2
theorem m_X10_lack {g : xG} (a0 : Nat) (p1 : Int32) (h : xH) (cl : Bool) (r : Int32 × xH) (e : f_X10_lack a0 p1 h = some r) : XM g DX10_lack [.ref a0, .int p1] h cl (iI r) := YM.of rfl rfl (Nat.le_of_ble_eq_true rfl) (y_X10_lack a0 p1 h) e
def f_X10_hall_J63 (s0 : Int32) (h : xH) : Option (Int32 × xH) :=
  some (s0, h)
theorem y_X10_hall_J63 {g : xG} {h0 : xH} {cl : Bool} (s0 : Int32) (h : xH) : Y g DX10_hall h0 cl iI (f_X10_hall_J63 s0 h) 63 [none, none] [.int s0] h := by
  unfold f_X10_hall_J63
  exact Y.ireturn rfl dX10_hall_63
def f_X10_hall_J20 (x0 : Nat) (x1 : Int32) (s0 : Nat) (s1 : Int32) (h : xH) : Option (Int32 × xH) :=
  (vc h 10 s0 (f_X10_bad s0 s1 (1 : Int32) (1 : Int32) h)).bind fun r1 =>
  if r1.1 = (0 : Int32) then
    (vc r1.2 10 x0 (f_X10_laysReach x0 r1.2)).bind fun h2 =>
    if x1 = (0 : Int32) then
      (gR h2 10 x0 9).bind fun v5 =>
      (aR 102 h2 v5 (0 : Int32)).bind fun v6 =>
      (aI h2 v6 (3 : Int32)).bind fun v7 =>
      (f_X10_ones v7 h2).bind fun r8 =>
      (vc r8.2 10 x0 (f_X10_nu x0 r8.2)).bind fun r9 =>
      f_X10_hall_J63 (r8.1 - r9.1) r9.2
    else
      (gR h2 10 x0 33).bind fun v3 =>
      (aI h2 v3 (0 : Int32)).bind fun v4 =>
      f_X10_hall_J63 v4 h2
  else
    some ((0 : Int32), r1.2)
theorem y_X10_hall_J20 {g : xG} {h0 : xH} {cl : Bool} (x0 : Nat) (x1 : Int32) (s0 : Nat) (s1 : Int32) (h : xH) : Y g DX10_hall h0 cl iI (f_X10_hall_J20 x0 x1 s0 s1 h) 20 [some (.ref x0), some (.int x1)] [.int s1, .ref s0] h := by
  unfold f_X10_hall_J20
  refine Y.op (pc' := 21) (fun _ => X.ic ki_1 dX10_hall_20) ?_
  refine Y.op (pc' := 22) (fun _ => X.ic ki_1 dX10_hall_21) ?_
  refine Y.callVi (As := [.int s1, .int (1 : Int32), .int (1 : Int32)]) lk_X10_217 rfl cal_X10_bad vir_X10_bad (Nat.le_of_ble_eq_true rfl) (Nat.le_of_ble_eq_true rfl) rfl rfl rfl (Nat.le_of_ble_eq_true rfl) dX10_hall_22 (fun _ e => m_X10_bad s0 s1 (1 : Int32) (1 : Int32) h _ _ e) (fun r1 => ?_)
  refine Y.ifeq 30 (by decide) dX10_hall_25 ?_ ?_
  · refine Y.op (pc' := 31) (fun _ => X.aloadn rfl dX10_hall_30) ?_
    refine Y.callVv (As := []) lk_X10_359 rfl cal_X10_laysReach vir_X10_laysReach (Nat.le_of_ble_eq_true rfl) (Nat.le_of_ble_eq_true rfl) rfl rfl rfl (Nat.le_of_ble_eq_true rfl) dX10_hall_31 (fun _ e => m_X10_laysReach x0 r1.2 _ _ e) (fun h2 => ?_)
    refine Y.op (pc' := 35) (fun _ => X.iloadn rfl dX10_hall_34) ?_
    refine Y.ifne 57 (by decide) dX10_hall_35 ?_ ?_
    · refine Y.op (pc' := 58) (fun _ => X.aloadn rfl dX10_hall_57) ?_
      refine Y.getR fd_X10_57 rfl dX10_hall_58 (fun v3 => ?_)
      refine Y.op (pc' := 62) (fun _ => X.ic ki_0 dX10_hall_61) ?_
      refine Y.aldI dX10_hall_62 (fun v4 => ?_)
      exact Y.fg (y_X10_hall_J63 v4 h2) trivial
    · refine Y.op (pc' := 39) (fun _ => X.aloadn rfl dX10_hall_38) ?_
      refine Y.getR fd_X10_22 rfl dX10_hall_39 (fun v5 => ?_)
      refine Y.op (pc' := 43) (fun _ => X.ic ki_0 dX10_hall_42) ?_
      refine Y.aldR 102 (by decide) (by decide) dX10_hall_43 (fun v6 => ?_)
      refine Y.op (pc' := 45) (fun _ => X.ic ki_3 dX10_hall_44) ?_
      refine Y.aldI dX10_hall_45 (fun v7 => ?_)
      refine Y.callSi (As := [.int v7]) lk_X10_270 rfl cal_X10_ones sta_X10_ones (Nat.le_of_ble_eq_true rfl) rfl rfl (Nat.le_of_ble_eq_true rfl) dX10_hall_46 (fun _ e => m_X10_ones v7 h2 _ _ e) (fun r8 => ?_)
      refine Y.op (pc' := 50) (fun _ => X.aloadn rfl dX10_hall_49) ?_
      refine Y.callVi (As := []) lk_X10_327 rfl cal_X10_nu vir_X10_nu (Nat.le_of_ble_eq_true rfl) (Nat.le_of_ble_eq_true rfl) rfl rfl rfl (Nat.le_of_ble_eq_true rfl) dX10_hall_50 (fun _ e => m_X10_nu x0 r8.2 _ _ e) (fun r9 => ?_)
      refine Y.op (pc' := 54) (fun _ => X.isub dX10_hall_53) ?_
      refine Y.op (pc' := 63) (fun _ => X.goto 63 (by decide) dX10_hall_54) ?_
      exact Y.fg (y_X10_hall_J63 (r8.1 - r9.1) r9.2) trivial
  · refine Y.op (pc' := 29) (fun _ => X.ic ki_0 dX10_hall_28) ?_
    exact Y.ireturn rfl dX10_hall_29
def f_X10_hall (a0 : Nat) (p1 : Int32) (h : xH) : Option (Int32 × xH) :=
  (pI h 10 a0 0 (0 : Int32)).bind fun h1 =>
  (f_X10_in p1 (0 : Int32) (1 : Int32) h1).bind fun r2 =>
  if r2.1 = (0 : Int32) then
    f_X10_hall_J20 a0 p1 a0 (1 : Int32) r2.2
  else
    f_X10_hall_J20 a0 p1 a0 (0 : Int32) r2.2
theorem y_X10_hall {g : xG} {h0 : xH} {cl : Bool} (a0 : Nat) (p1 : Int32) (h : xH) : Y g DX10_hall h0 cl iI (f_X10_hall a0 p1 h) 0 [some (.ref a0), some (.int p1)] [] h := by
  unfold f_X10_hall
  refine Y.op (pc' := 1) (fun _ => X.aloadn rfl dX10_hall_0) ?_
  refine Y.op (pc' := 2) (fun _ => X.ic ki_0 dX10_hall_1) ?_
  refine Y.putI fd_X10_82 rfl dX10_hall_2 (fun h1 => ?_)
  refine Y.op (pc' := 6) (fun _ => X.aloadn rfl dX10_hall_5) ?_
  refine Y.op (pc' := 7) (fun _ => X.iloadn rfl dX10_hall_6) ?_
  refine Y.op (pc' := 8) (fun _ => X.ic ki_0 dX10_hall_7) ?_
  refine Y.op (pc' := 9) (fun _ => X.ic ki_1 dX10_hall_8) ?_
  refine Y.callSi (As := [.int p1, .int (0 : Int32), .int (1 : Int32)]) lk_X10_127 rfl cal_X10_in sta_X10_in (Nat.le_of_ble_eq_true rfl) rfl rfl (Nat.le_of_ble_eq_true rfl) dX10_hall_9 (fun _ e => m_X10_in p1 (0 : Int32) (1 : Int32) h1 _ _ e) (fun r2 => ?_)
  refine Y.ifne 19 (by decide) dX10_hall_12 ?_ ?_
  · refine Y.op (pc' := 20) (fun _ => X.ic ki_0 dX10_hall_19) ?_
    exact y_X10_hall_J20 a0 p1 a0 (0 : Int32) r2.2
  · refine Y.op (pc' := 16) (fun _ => X.ic ki_1 dX10_hall_15) ?_
    refine Y.op (pc' := 20) (fun _ => X.goto 20 (by decide) dX10_hall_16) ?_
    exact y_X10_hall_J20 a0 p1 a0 (1 : Int32) r2.2
theorem m_X10_hall {g : xG} (a0 : Nat) (p1 : Int32) (h : xH) (cl : Bool) (r : Int32 × xH) (e : f_X10_hall a0 p1 h = some r) : XM g DX10_hall [.ref a0, .int p1] h cl (iI r) := YM.of rfl rfl (Nat.le_of_ble_eq_true rfl) (y_X10_hall a0 p1 h) e
