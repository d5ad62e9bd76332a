def f_X10_firstBut_J128 (rec : Nat → Int32 → Int32 → Int32 → xH → Option (Int32 × xH)) (h : xH) : Option (Int32 × xH) :=
  some ((-1 : Int32), h)
theorem y_X10_firstBut_J128 {g : xG} {l : Nat} {h0 : xH} {cl : Bool} {rec : Nat → Int32 → Int32 → Int32 → xH → Option (Int32 × xH)} (hrec : ∀ (a0 : Nat) (p1 : Int32) (p2 : Int32) (p3 : Int32) (h : xH) (cl : Bool) (r : Int32 × xH), rec a0 p1 p2 p3 h = some r → XM g (DX10_firstBut (l + 43)) [.ref a0, .int p1, .int p2, .int p3] h cl (iI r)) (h : xH) : Y g (DX10_firstBut (l + 43 + 1)) h0 cl iI (f_X10_firstBut_J128 rec h) 128 [none, none, none, none, none, none, none, none] [] h := by
  unfold f_X10_firstBut_J128
  refine Y.op (pc' := 129) (fun _ => X.ic ki_m1 dX10_firstBut_128) ?_
  exact Y.ireturn rfl dX10_firstBut_129
def f_X10_firstBut_J119 (rec : Nat → Int32 → Int32 → Int32 → xH → Option (Int32 × xH)) (x4 : Int32) (h : xH) : Option (Int32 × xH) :=
  some (x4, h)
theorem y_X10_firstBut_J119 {g : xG} {l : Nat} {h0 : xH} {cl : Bool} {rec : Nat → Int32 → Int32 → Int32 → xH → Option (Int32 × xH)} (hrec : ∀ (a0 : Nat) (p1 : Int32) (p2 : Int32) (p3 : Int32) (h : xH) (cl : Bool) (r : Int32 × xH), rec a0 p1 p2 p3 h = some r → XM g (DX10_firstBut (l + 43)) [.ref a0, .int p1, .int p2, .int p3] h cl (iI r)) (x4 : Int32) (h : xH) : Y g (DX10_firstBut (l + 43 + 1)) h0 cl iI (f_X10_firstBut_J119 rec x4 h) 119 [none, none, none, none, some (.int x4), none, none, none] [] h := by
  unfold f_X10_firstBut_J119
  refine Y.op (pc' := 121) (fun _ => X.iload rfl dX10_firstBut_119) ?_
  exact Y.ireturn rfl dX10_firstBut_121
def f_X10_firstBut_J122 (rec : Nat → Int32 → Int32 → Int32 → xH → Option (Int32 × xH)) (kH : Nat → Int32 → Int32 → Int32 → xH → Option (Int32 × xH)) (kE119 : Int32 → xH → Option (Int32 × xH)) (kE128 : xH → Option (Int32 × xH)) (x0 : Nat) (x2 : Int32) (x3 : Int32) (x4 : Int32) (h : xH) : Option (Int32 × xH) :=
  lt (x4 + (1 : Int32)) fun v1 =>
  kH x0 x2 x3 v1 h
theorem y_X10_firstBut_J122 {g : xG} {l : Nat} {h0 : xH} {cl : Bool} {rec : Nat → Int32 → Int32 → Int32 → xH → Option (Int32 × xH)} {kH : Nat → Int32 → Int32 → Int32 → xH → Option (Int32 × xH)} {kE119 : Int32 → xH → Option (Int32 × xH)} {kE128 : xH → Option (Int32 × xH)} (hrec : ∀ (a0 : Nat) (p1 : Int32) (p2 : Int32) (p3 : Int32) (h : xH) (cl : Bool) (r : Int32 × xH), rec a0 p1 p2 p3 h = some r → XM g (DX10_firstBut (l + 43)) [.ref a0, .int p1, .int p2, .int p3] h cl (iI r)) (hkH : ∀ (x0 : Nat) (x2 : Int32) (x3 : Int32) (x4 : Int32) (h : xH), Y g (DX10_firstBut (l + 43 + 1)) h0 cl iI (kH x0 x2 x3 x4 h) 3 [some (.ref x0), none, some (.int x2), some (.int x3), some (.int x4), none, none, none] [] h) (hkE119 : ∀ (x4 : Int32) (h : xH), Y g (DX10_firstBut (l + 43 + 1)) h0 cl iI (kE119 x4 h) 119 [none, none, none, none, some (.int x4), none, none, none] [] h) (hkE128 : ∀  (h : xH), Y g (DX10_firstBut (l + 43 + 1)) h0 cl iI (kE128  h) 128 [none, none, none, none, none, none, none, none] [] h) (x0 : Nat) (x2 : Int32) (x3 : Int32) (x4 : Int32) (h : xH) : Y g (DX10_firstBut (l + 43 + 1)) h0 cl iI (f_X10_firstBut_J122 rec kH kE119 kE128 x0 x2 x3 x4 h) 122 [some (.ref x0), none, some (.int x2), some (.int x3), some (.int x4), none, none, none] [] h := by
  unfold f_X10_firstBut_J122
  refine Y.iinc (i := 4) (loc' := fun v1 => [some (.ref x0), none, some (.int x2), some (.int x3), some (.int v1), none, none, none]) rfl (Nat.le_of_ble_eq_true rfl) ki_1 (fun _ => rfl) dX10_firstBut_122 (fun v1 => ?_)
  refine Y.op (pc' := 3) (fun _ => X.goto 3 (by decide) dX10_firstBut_125) ?_
  exact hkH x0 x2 x3 v1 h
def f_X10_firstBut_J96 (rec : Nat → Int32 → Int32 → Int32 → xH → Option (Int32 × xH)) (kH : Nat → Int32 → Int32 → Int32 → xH → Option (Int32 × xH)) (kE119 : Int32 → xH → Option (Int32 × xH)) (kE128 : xH → Option (Int32 × xH)) (x0 : Nat) (x2 : Int32) (x3 : Int32) (x4 : Int32) (x5 : Int32) (x6 : Int32) (s0 : Int32) (h : xH) : Option (Int32 × xH) :=
  (gR h 10 x0 10).bind fun v1 =>
  (aR 102 h v1 (0 : Int32)).bind fun v2 =>
  (aI h v2 x5).bind fun v3 =>
  (sI h v2 x5 (v3 ||| ((1 : Int32) <<< (x6 &&& 31)))).bind fun h4 =>
  if s0 = (0 : Int32) then
    f_X10_firstBut_J122 rec (kH) kE119 kE128 x0 x2 x3 x4 h4
  else
    kE119 x4 h4
theorem y_X10_firstBut_J96 {g : xG} {l : Nat} {h0 : xH} {cl : Bool} {rec : Nat → Int32 → Int32 → Int32 → xH → Option (Int32 × xH)} {kH : Nat → Int32 → Int32 → Int32 → xH → Option (Int32 × xH)} {kE119 : Int32 → xH → Option (Int32 × xH)} {kE128 : xH → Option (Int32 × xH)} (hrec : ∀ (a0 : Nat) (p1 : Int32) (p2 : Int32) (p3 : Int32) (h : xH) (cl : Bool) (r : Int32 × xH), rec a0 p1 p2 p3 h = some r → XM g (DX10_firstBut (l + 43)) [.ref a0, .int p1, .int p2, .int p3] h cl (iI r)) (hkH : ∀ (x0 : Nat) (x2 : Int32) (x3 : Int32) (x4 : Int32) (h : xH), Y g (DX10_firstBut (l + 43 + 1)) h0 cl iI (kH x0 x2 x3 x4 h) 3 [some (.ref x0), none, some (.int x2), some (.int x3), some (.int x4), none, none, none] [] h) (hkE119 : ∀ (x4 : Int32) (h : xH), Y g (DX10_firstBut (l + 43 + 1)) h0 cl iI (kE119 x4 h) 119 [none, none, none, none, some (.int x4), none, none, none] [] h) (hkE128 : ∀  (h : xH), Y g (DX10_firstBut (l + 43 + 1)) h0 cl iI (kE128  h) 128 [none, none, none, none, none, none, none, none] [] h) (x0 : Nat) (x2 : Int32) (x3 : Int32) (x4 : Int32) (x5 : Int32) (x6 : Int32) (s0 : Int32) (h : xH) : Y g (DX10_firstBut (l + 43 + 1)) h0 cl iI (f_X10_firstBut_J96 rec kH kE119 kE128 x0 x2 x3 x4 x5 x6 s0 h) 96 [some (.ref x0), none, some (.int x2), some (.int x3), some (.int x4), some (.int x5), some (.int x6), none] [.int s0] h := by
  unfold f_X10_firstBut_J96
  refine Y.op (pc' := 98) (loc' := [some (.ref x0), none, some (.int x2), some (.int x3), some (.int x4), some (.int x5), some (.int x6), some (.int s0)]) (fun _ => X.istore (Nat.le_of_ble_eq_true rfl) rfl dX10_firstBut_96) ?_
  refine Y.op (pc' := 99) (fun _ => X.aloadn rfl dX10_firstBut_98) ?_
  refine Y.getR fd_X10_25 rfl dX10_firstBut_99 (fun v1 => ?_)
  refine Y.op (pc' := 103) (fun _ => X.ic ki_0 dX10_firstBut_102) ?_
  refine Y.aldR 102 (by decide) (by decide) dX10_firstBut_103 (fun v2 => ?_)
  refine Y.op (pc' := 106) (fun _ => X.iload rfl dX10_firstBut_104) ?_
  refine Y.op (pc' := 107) (fun _ => X.dup2 rfl rfl dX10_firstBut_106) ?_
  refine Y.aldI dX10_firstBut_107 (fun v3 => ?_)
  refine Y.op (pc' := 109) (fun _ => X.ic ki_1 dX10_firstBut_108) ?_
  refine Y.op (pc' := 111) (fun _ => X.iload rfl dX10_firstBut_109) ?_
  refine Y.op (pc' := 112) (fun _ => X.ishl dX10_firstBut_111) ?_
  refine Y.op (pc' := 113) (fun _ => X.ior dX10_firstBut_112) ?_
  refine Y.astI dX10_firstBut_113 (fun h4 => ?_)
  refine Y.op (pc' := 116) (fun _ => X.iload rfl dX10_firstBut_114) ?_
  refine Y.ifeq 122 (by decide) dX10_firstBut_116 ?_ ?_
  · exact Y.fg (y_X10_firstBut_J122 hrec hkH hkE119 hkE128 x0 x2 x3 x4 h4) (And.intro rfl (And.intro rfl (And.intro rfl (And.intro rfl trivial))))
  · exact Y.fg (hkE119 x4 h4) (And.intro rfl trivial)
def f_X10_firstBut_L3 (rec : Nat → Int32 → Int32 → Int32 → xH → Option (Int32 × xH)) (kE119 : Int32 → xH → Option (Int32 × xH)) (kE128 : xH → Option (Int32 × xH)) : Nat → Nat → Int32 → Int32 → Int32 → xH → Option (Int32 × xH)
  | 0 => fun _ _ _ _ _ => none
  | n + 1 => fun x0 x2 x3 x4 h =>
    if x4 ≥ (144 : Int32) then
      kE128 h
    else
      lt ((x4 / (12 : Int32))) fun v1 =>
      lt ((x4 - x4 / (12 : Int32) * (12 : Int32))) fun v2 =>
      (vc h 10 x0 (f_X10_isFit x0 v1 v2 h)).bind fun r3 =>
      if r3.1 = (0 : Int32) then
        f_X10_firstBut_J122 rec (f_X10_firstBut_L3 rec kE119 kE128 n) kE119 kE128 x0 x2 x3 x4 r3.2
      else
        (gR r3.2 10 x0 10).bind fun v4 =>
        (aR 102 r3.2 v4 (0 : Int32)).bind fun v5 =>
        (aI r3.2 v5 v1).bind fun v6 =>
        (sI r3.2 v5 v1 (v6 &&& (((1 : Int32) <<< (v2 &&& 31)) ^^^ (-1 : Int32)))).bind fun h7 =>
        if x3 = (0 : Int32) then
          (vc h7 10 x0 (f_X10_nu x0 h7)).bind fun r8 =>
          if r8.1 ≥ x2 then
            f_X10_firstBut_J96 rec (f_X10_firstBut_L3 rec kE119 kE128 n) kE119 kE128 x0 x2 x3 x4 v1 v2 (0 : Int32) r8.2
          else
            f_X10_firstBut_J96 rec (f_X10_firstBut_L3 rec kE119 kE128 n) kE119 kE128 x0 x2 x3 x4 v1 v2 (1 : Int32) r8.2
        else
          (vc h7 10 x0 (rec x0 (x4 + (1 : Int32)) x2 (0 : Int32) h7)).bind fun r9 =>
          if r9.1 = (-1 : Int32) then
            f_X10_firstBut_J96 rec (f_X10_firstBut_L3 rec kE119 kE128 n) kE119 kE128 x0 x2 x3 x4 v1 v2 (0 : Int32) r9.2
          else
            f_X10_firstBut_J96 rec (f_X10_firstBut_L3 rec kE119 kE128 n) kE119 kE128 x0 x2 x3 x4 v1 v2 (1 : Int32) r9.2
theorem y_X10_firstBut_L3 {g : xG} {l : Nat} {h0 : xH} {cl : Bool} {rec : Nat → Int32 → Int32 → Int32 → xH → Option (Int32 × xH)} {kE119 : Int32 → xH → Option (Int32 × xH)} {kE128 : xH → Option (Int32 × xH)} (hrec : ∀ (a0 : Nat) (p1 : Int32) (p2 : Int32) (p3 : Int32) (h : xH) (cl : Bool) (r : Int32 × xH), rec a0 p1 p2 p3 h = some r → XM g (DX10_firstBut (l + 43)) [.ref a0, .int p1, .int p2, .int p3] h cl (iI r)) (hkE119 : ∀ (x4 : Int32) (h : xH), Y g (DX10_firstBut (l + 43 + 1)) h0 cl iI (kE119 x4 h) 119 [none, none, none, none, some (.int x4), none, none, none] [] h) (hkE128 : ∀  (h : xH), Y g (DX10_firstBut (l + 43 + 1)) h0 cl iI (kE128  h) 128 [none, none, none, none, none, none, none, none] [] h) : ∀ (n : Nat) (x0 : Nat) (x2 : Int32) (x3 : Int32) (x4 : Int32) (h : xH), Y g (DX10_firstBut (l + 43 + 1)) h0 cl iI (f_X10_firstBut_L3 rec kE119 kE128 n x0 x2 x3 x4 h) 3 [some (.ref x0), none, some (.int x2), some (.int x3), some (.int x4), none, none, none] [] h := by
  intro n
  induction n with
  | zero => intro x0 x2 x3 x4 h; exact Y.nothing
  | succ n ih =>
    intro x0 x2 x3 x4 h
    unfold f_X10_firstBut_L3
    refine Y.op (pc' := 5) (fun _ => X.iload rfl dX10_firstBut_3) ?_
    refine Y.op (pc' := 8) (fun _ => X.sp ks_144 dX10_firstBut_5) ?_
    refine Y.cmpge 128 (by decide) dX10_firstBut_8 ?_ ?_
    · exact Y.fg (hkE128 h) trivial
    · refine Y.op (pc' := 13) (fun _ => X.iload rfl dX10_firstBut_11) ?_
      refine Y.op (pc' := 15) (fun _ => X.bp kb_12 dX10_firstBut_13) ?_
      refine Y.op (pc' := 16) (fun _ => X.idiv (by decide) dX10_firstBut_15) ?_
      refine Y.top (fun v1 => ?_)
      refine Y.op (pc' := 18) (loc' := [some (.ref x0), none, some (.int x2), some (.int x3), some (.int x4), some (.int v1), none, none]) (fun _ => X.istore (Nat.le_of_ble_eq_true rfl) rfl dX10_firstBut_16) ?_
      refine Y.op (pc' := 20) (fun _ => X.iload rfl dX10_firstBut_18) ?_
      refine Y.op (pc' := 22) (fun _ => X.bp kb_12 dX10_firstBut_20) ?_
      refine Y.op (pc' := 23) (fun _ => X.irem (by decide) dX10_firstBut_22) ?_
      refine Y.top (fun v2 => ?_)
      refine Y.op (pc' := 25) (loc' := [some (.ref x0), none, some (.int x2), some (.int x3), some (.int x4), some (.int v1), some (.int v2), none]) (fun _ => X.istore (Nat.le_of_ble_eq_true rfl) rfl dX10_firstBut_23) ?_
      refine Y.op (pc' := 26) (fun _ => X.aloadn rfl dX10_firstBut_25) ?_
      refine Y.op (pc' := 28) (fun _ => X.iload rfl dX10_firstBut_26) ?_
      refine Y.op (pc' := 30) (fun _ => X.iload rfl dX10_firstBut_28) ?_
      refine Y.callVi (As := [.int v1, .int v2]) lk_X10_285 rfl cal_X10_isFit vir_X10_isFit (by show 2 + 1 ≤ l + 43 + 1; omega) (Nat.le_of_ble_eq_true rfl) rfl rfl rfl (Nat.le_of_ble_eq_true rfl) dX10_firstBut_30 (fun _ e => m_X10_isFit x0 v1 v2 h _ _ e) (fun r3 => ?_)
      refine Y.ifne 39 (by decide) dX10_firstBut_33 ?_ ?_
      · refine Y.op (pc' := 40) (fun _ => X.aloadn rfl dX10_firstBut_39) ?_
        refine Y.getR fd_X10_25 rfl dX10_firstBut_40 (fun v4 => ?_)
        refine Y.op (pc' := 44) (fun _ => X.ic ki_0 dX10_firstBut_43) ?_
        refine Y.aldR 102 (by decide) (by decide) dX10_firstBut_44 (fun v5 => ?_)
        refine Y.op (pc' := 47) (fun _ => X.iload rfl dX10_firstBut_45) ?_
        refine Y.op (pc' := 48) (fun _ => X.dup2 rfl rfl dX10_firstBut_47) ?_
        refine Y.aldI dX10_firstBut_48 (fun v6 => ?_)
        refine Y.op (pc' := 50) (fun _ => X.ic ki_1 dX10_firstBut_49) ?_
        refine Y.op (pc' := 52) (fun _ => X.iload rfl dX10_firstBut_50) ?_
        refine Y.op (pc' := 53) (fun _ => X.ishl dX10_firstBut_52) ?_
        refine Y.op (pc' := 54) (fun _ => X.ic ki_m1 dX10_firstBut_53) ?_
        refine Y.op (pc' := 55) (fun _ => X.ixor dX10_firstBut_54) ?_
        refine Y.op (pc' := 56) (fun _ => X.iand dX10_firstBut_55) ?_
        refine Y.astI dX10_firstBut_56 (fun h7 => ?_)
        refine Y.op (pc' := 58) (fun _ => X.iloadn rfl dX10_firstBut_57) ?_
        refine Y.ifeq 83 (by decide) dX10_firstBut_58 ?_ ?_
        · refine Y.op (pc' := 84) (fun _ => X.aloadn rfl dX10_firstBut_83) ?_
          refine Y.callVi (As := []) lk_X10_327 rfl cal_X10_nu vir_X10_nu (by show 43 + 1 ≤ l + 43 + 1; omega) (Nat.le_of_ble_eq_true rfl) rfl rfl rfl (Nat.le_of_ble_eq_true rfl) dX10_firstBut_84 (fun _ e => m_X10_nu x0 h7 _ _ e) (fun r8 => ?_)
          refine Y.op (pc' := 88) (fun _ => X.iloadn rfl dX10_firstBut_87) ?_
          refine Y.cmpge 95 (by decide) dX10_firstBut_88 ?_ ?_
          · refine Y.op (pc' := 96) (fun _ => X.ic ki_0 dX10_firstBut_95) ?_
            exact y_X10_firstBut_J96 hrec ih hkE119 hkE128 x0 x2 x3 x4 v1 v2 (0 : Int32) r8.2
          · refine Y.op (pc' := 92) (fun _ => X.ic ki_1 dX10_firstBut_91) ?_
            refine Y.op (pc' := 96) (fun _ => X.goto 96 (by decide) dX10_firstBut_92) ?_
            exact y_X10_firstBut_J96 hrec ih hkE119 hkE128 x0 x2 x3 x4 v1 v2 (1 : Int32) r8.2
        · refine Y.op (pc' := 62) (fun _ => X.aloadn rfl dX10_firstBut_61) ?_
          refine Y.op (pc' := 64) (fun _ => X.iload rfl dX10_firstBut_62) ?_
          refine Y.op (pc' := 65) (fun _ => X.ic ki_1 dX10_firstBut_64) ?_
          refine Y.op (pc' := 66) (fun _ => X.iadd dX10_firstBut_65) ?_
          refine Y.op (pc' := 67) (fun _ => X.iloadn rfl dX10_firstBut_66) ?_
          refine Y.op (pc' := 68) (fun _ => X.ic ki_0 dX10_firstBut_67) ?_
          refine Y.callVi (As := [.int (x4 + (1 : Int32)), .int x2, .int (0 : Int32)]) lk_X10_379 rfl (cal_X10_firstBut _) (vir_X10_firstBut _) (Nat.le_refl _) (Nat.le_of_ble_eq_true rfl) rfl rfl rfl (Nat.le_of_ble_eq_true rfl) dX10_firstBut_68 (fun _ e => hrec x0 (x4 + (1 : Int32)) x2 (0 : Int32) h7 _ _ e) (fun r9 => ?_)
          refine Y.op (pc' := 72) (fun _ => X.ic ki_m1 dX10_firstBut_71) ?_
          refine Y.cmpeq 79 (by decide) dX10_firstBut_72 ?_ ?_
          · refine Y.op (pc' := 80) (fun _ => X.ic ki_0 dX10_firstBut_79) ?_
            refine Y.op (pc' := 96) (fun _ => X.goto 96 (by decide) dX10_firstBut_80) ?_
            exact y_X10_firstBut_J96 hrec ih hkE119 hkE128 x0 x2 x3 x4 v1 v2 (0 : Int32) r9.2
          · refine Y.op (pc' := 76) (fun _ => X.ic ki_1 dX10_firstBut_75) ?_
            refine Y.op (pc' := 96) (fun _ => X.goto 96 (by decide) dX10_firstBut_76) ?_
            exact y_X10_firstBut_J96 hrec ih hkE119 hkE128 x0 x2 x3 x4 v1 v2 (1 : Int32) r9.2
      · refine Y.op (pc' := 122) (fun _ => X.goto 122 (by decide) dX10_firstBut_36) ?_
        exact Y.fg (y_X10_firstBut_J122 hrec ih hkE119 hkE128 x0 x2 x3 x4 r3.2) (And.intro rfl (And.intro rfl (And.intro rfl (And.intro rfl trivial))))
def f_X10_firstBut_B (rec : Nat → Int32 → Int32 → Int32 → xH → Option (Int32 × xH)) (a0 : Nat) (p1 : Int32) (p2 : Int32) (p3 : Int32) (h : xH) : Option (Int32 × xH) :=
  f_X10_firstBut_L3 rec (f_X10_firstBut_J119 rec) (f_X10_firstBut_J128 rec) 5000 a0 p2 p3 p1 h
def f_X10_firstBut : Nat → Nat → Int32 → Int32 → Int32 → xH → Option (Int32 × xH)
  | 0 => fun _ _ _ _ _ => none
  | d + 1 => f_X10_firstBut_B (f_X10_firstBut d)
theorem y_X10_firstBut {g : xG} {l : Nat} {h0 : xH} {cl : Bool} {rec : Nat → Int32 → Int32 → Int32 → xH → Option (Int32 × xH)} (hrec : ∀ (a0 : Nat) (p1 : Int32) (p2 : Int32) (p3 : Int32) (h : xH) (cl : Bool) (r : Int32 × xH), rec a0 p1 p2 p3 h = some r → XM g (DX10_firstBut (l + 43)) [.ref a0, .int p1, .int p2, .int p3] h cl (iI r)) (a0 : Nat) (p1 : Int32) (p2 : Int32) (p3 : Int32) (h : xH) : Y g (DX10_firstBut (l + 43 + 1)) h0 cl iI (f_X10_firstBut_B rec a0 p1 p2 p3 h) 0 [some (.ref a0), some (.int p1), some (.int p2), some (.int p3), none, none, none, none] [] h := by
  unfold f_X10_firstBut_B
  refine Y.op (pc' := 1) (fun _ => X.iloadn rfl dX10_firstBut_0) ?_
  refine Y.op (pc' := 3) (loc' := [some (.ref a0), some (.int p1), some (.int p2), some (.int p3), some (.int p1), none, none, none]) (fun _ => X.istore (Nat.le_of_ble_eq_true rfl) rfl dX10_firstBut_1) ?_
  exact Y.fg (y_X10_firstBut_L3 hrec (y_X10_firstBut_J119 hrec) (y_X10_firstBut_J128 hrec) 5000 a0 p2 p3 p1 h) (And.intro rfl (And.intro rfl (And.intro rfl (And.intro rfl trivial))))
theorem m_X10_firstBut {g : xG} : ∀ (d : Nat) (a0 : Nat) (p1 : Int32) (p2 : Int32) (p3 : Int32) (h : xH) (cl : Bool) (r : Int32 × xH), f_X10_firstBut d a0 p1 p2 p3 h = some r → XM g (DX10_firstBut (d + 43)) [.ref a0, .int p1, .int p2, .int p3] h cl (iI r) := by
  intro d
  induction d with
  | zero => intro a0 p1 p2 p3 h cl r e; cases e
  | succ d ih =>
    intro a0 p1 p2 p3 h cl r e
    have e : f_X10_firstBut_B (f_X10_firstBut d) a0 p1 p2 p3 h = some r := e
    rw [show d + 1 + 43 = d + 43 + 1 by omega]
    exact YM.of rfl rfl (Nat.le_of_ble_eq_true rfl) (y_X10_firstBut (l := d) ih a0 p1 p2 p3 h) e
def f_X10_fewest_J104 (s0 : Int32) (h : xH) : Option (Int32 × xH) :=
  some (s0, h)
theorem y_X10_fewest_J104 {g : xG} {h0 : xH} {cl : Bool} (s0 : Int32) (h : xH) : Y g DX10_fewest h0 cl iI (f_X10_fewest_J104 s0 h) 104 [none, none, none, none, none] [.int s0] h := by
  unfold f_X10_fewest_J104
  exact Y.ireturn rfl dX10_fewest_104
def f_X10_fewest_J74 (x1 : Int32) (x3 : Int32) (x4 : Int32) (h : xH) : Option (Int32 × xH) :=
  if x3 = (-1 : Int32) then
    f_X10_fewest_J104 (-1 : Int32) h
  else
    if x1 = (0 : Int32) then
      f_X10_fewest_J104 x4 h
    else
      f_X10_fewest_J104 (((100 : Int32) * (x3 / (12 : Int32))) + (x3 - x3 / (12 : Int32) * (12 : Int32))) h
theorem y_X10_fewest_J74 {g : xG} {h0 : xH} {cl : Bool} (x1 : Int32) (x3 : Int32) (x4 : Int32) (h : xH) : Y g DX10_fewest h0 cl iI (f_X10_fewest_J74 x1 x3 x4 h) 74 [none, some (.int x1), none, some (.int x3), some (.int x4)] [] h := by
  unfold f_X10_fewest_J74
  refine Y.op (pc' := 75) (fun _ => X.iloadn rfl dX10_fewest_74) ?_
  refine Y.op (pc' := 76) (fun _ => X.ic ki_m1 dX10_fewest_75) ?_
  refine Y.cmpne 83 (by decide) dX10_fewest_76 ?_ ?_
  · refine Y.op (pc' := 84) (fun _ => X.iloadn rfl dX10_fewest_83) ?_
    refine Y.ifne 92 (by decide) dX10_fewest_84 ?_ ?_
    · refine Y.op (pc' := 94) (fun _ => X.bp kb_100 dX10_fewest_92) ?_
      refine Y.op (pc' := 95) (fun _ => X.iloadn rfl dX10_fewest_94) ?_
      refine Y.op (pc' := 97) (fun _ => X.bp kb_12 dX10_fewest_95) ?_
      refine Y.op (pc' := 98) (fun _ => X.idiv (by decide) dX10_fewest_97) ?_
      refine Y.op (pc' := 99) (fun _ => X.imul dX10_fewest_98) ?_
      refine Y.op (pc' := 100) (fun _ => X.iloadn rfl dX10_fewest_99) ?_
      refine Y.op (pc' := 102) (fun _ => X.bp kb_12 dX10_fewest_100) ?_
      refine Y.op (pc' := 103) (fun _ => X.irem (by decide) dX10_fewest_102) ?_
      refine Y.op (pc' := 104) (fun _ => X.iadd dX10_fewest_103) ?_
      exact Y.fg (y_X10_fewest_J104 (((100 : Int32) * (x3 / (12 : Int32))) + (x3 - x3 / (12 : Int32) * (12 : Int32))) h) trivial
    · refine Y.op (pc' := 89) (fun _ => X.iload rfl dX10_fewest_87) ?_
      refine Y.op (pc' := 104) (fun _ => X.goto 104 (by decide) dX10_fewest_89) ?_
      exact Y.fg (y_X10_fewest_J104 x4 h) trivial
  · refine Y.op (pc' := 80) (fun _ => X.ic ki_m1 dX10_fewest_79) ?_
    refine Y.op (pc' := 104) (fun _ => X.goto 104 (by decide) dX10_fewest_80) ?_
    exact Y.fg (y_X10_fewest_J104 (-1 : Int32) h) trivial
def f_X10_fewest_J50 (x0 : Nat) (x1 : Int32) (x2 : Int32) (s0 : Int32) (h : xH) : Option (Int32 × xH) :=
  if s0 = (-1 : Int32) then
    if x2 ≤ (0 : Int32) then
      f_X10_fewest_J74 x1 s0 (1 : Int32) h
    else
      (vc h 10 x0 (f_X10_firstBut 40 x0 (0 : Int32) x2 (1 : Int32) h)).bind fun r1 =>
      f_X10_fewest_J74 x1 r1.1 (2 : Int32) r1.2
  else
    f_X10_fewest_J74 x1 s0 (1 : Int32) h
theorem y_X10_fewest_J50 {g : xG} {h0 : xH} {cl : Bool} (x0 : Nat) (x1 : Int32) (x2 : Int32) (s0 : Int32) (h : xH) : Y g DX10_fewest h0 cl iI (f_X10_fewest_J50 x0 x1 x2 s0 h) 50 [some (.ref x0), some (.int x1), some (.int x2), none, none] [.int s0] h := by
  unfold f_X10_fewest_J50
  refine Y.op (pc' := 51) (loc' := [some (.ref x0), some (.int x1), some (.int x2), some (.int s0), none]) (fun _ => X.istoren (Nat.le_of_ble_eq_true rfl) rfl dX10_fewest_50) ?_
  refine Y.op (pc' := 52) (fun _ => X.ic ki_1 dX10_fewest_51) ?_
  refine Y.op (pc' := 54) (loc' := [some (.ref x0), some (.int x1), some (.int x2), some (.int s0), some (.int (1 : Int32))]) (fun _ => X.istore (Nat.le_of_ble_eq_true rfl) rfl dX10_fewest_52) ?_
  refine Y.op (pc' := 55) (fun _ => X.iloadn rfl dX10_fewest_54) ?_
  refine Y.op (pc' := 56) (fun _ => X.ic ki_m1 dX10_fewest_55) ?_
  refine Y.cmpne 74 (by decide) dX10_fewest_56 ?_ ?_
  · exact Y.fg (y_X10_fewest_J74 x1 s0 (1 : Int32) h) (And.intro rfl (And.intro rfl (And.intro rfl trivial)))
  · refine Y.op (pc' := 60) (fun _ => X.iloadn rfl dX10_fewest_59) ?_
    refine Y.ifle 74 (by decide) dX10_fewest_60 ?_ ?_
    · exact Y.fg (y_X10_fewest_J74 x1 s0 (1 : Int32) h) (And.intro rfl (And.intro rfl (And.intro rfl trivial)))
    · refine Y.op (pc' := 64) (fun _ => X.ic ki_2 dX10_fewest_63) ?_
      refine Y.op (pc' := 66) (loc' := [some (.ref x0), some (.int x1), some (.int x2), some (.int s0), some (.int (2 : Int32))]) (fun _ => X.istore (Nat.le_of_ble_eq_true rfl) rfl dX10_fewest_64) ?_
      refine Y.op (pc' := 67) (fun _ => X.aloadn rfl dX10_fewest_66) ?_
      refine Y.op (pc' := 68) (fun _ => X.ic ki_0 dX10_fewest_67) ?_
      refine Y.op (pc' := 69) (fun _ => X.iloadn rfl dX10_fewest_68) ?_
      refine Y.op (pc' := 70) (fun _ => X.ic ki_1 dX10_fewest_69) ?_
      refine Y.callVi (As := [.int (0 : Int32), .int x2, .int (1 : Int32)]) lk_X10_379 rfl (cal_X10_firstBut _) (vir_X10_firstBut _) (Nat.le_of_ble_eq_true rfl) (Nat.le_of_ble_eq_true rfl) rfl rfl rfl (Nat.le_of_ble_eq_true rfl) dX10_fewest_70 (fun _ e => m_X10_firstBut 40 x0 (0 : Int32) x2 (1 : Int32) h _ _ e) (fun r1 => ?_)
      refine Y.op (pc' := 74) (loc' := [some (.ref x0), some (.int x1), some (.int x2), some (.int r1.1), some (.int (2 : Int32))]) (fun _ => X.istoren (Nat.le_of_ble_eq_true rfl) rfl dX10_fewest_73) ?_
      exact Y.fg (y_X10_fewest_J74 x1 r1.1 (2 : Int32) r1.2) (And.intro rfl (And.intro rfl (And.intro rfl trivial)))
def f_X10_fewest_J20 (x0 : Nat) (x1 : Int32) (s0 : Nat) (s1 : Int32) (h : xH) : Option (Int32 × xH) :=
  (vc h 10 s0 (f_X10_bad s0 s1 (1 : Int32) (1 : Int32) h)).bind fun r1 =>
  if r1.1 = (0 : Int32) then
    (vc r1.2 10 x0 (f_X10_nu x0 r1.2)).bind fun r2 =>
    if r2.1 = (0 : Int32) then
      f_X10_fewest_J50 x0 x1 r2.1 (-1 : Int32) r2.2
    else
      (vc r2.2 10 x0 (f_X10_firstBut 40 x0 (0 : Int32) r2.1 (0 : Int32) r2.2)).bind fun r3 =>
      f_X10_fewest_J50 x0 x1 r2.1 r3.1 r3.2
  else
    some ((0 : Int32), r1.2)
theorem y_X10_fewest_J20 {g : xG} {h0 : xH} {cl : Bool} (x0 : Nat) (x1 : Int32) (s0 : Nat) (s1 : Int32) (h : xH) : Y g DX10_fewest h0 cl iI (f_X10_fewest_J20 x0 x1 s0 s1 h) 20 [some (.ref x0), some (.int x1), none, none, none] [.int s1, .ref s0] h := by
  unfold f_X10_fewest_J20
  refine Y.op (pc' := 21) (fun _ => X.ic ki_1 dX10_fewest_20) ?_
  refine Y.op (pc' := 22) (fun _ => X.ic ki_1 dX10_fewest_21) ?_
  refine Y.callVi (As := [.int s1, .int (1 : Int32), .int (1 : Int32)]) lk_X10_217 rfl cal_X10_bad vir_X10_bad (Nat.le_of_ble_eq_true rfl) (Nat.le_of_ble_eq_true rfl) rfl rfl rfl (Nat.le_of_ble_eq_true rfl) dX10_fewest_22 (fun _ e => m_X10_bad s0 s1 (1 : Int32) (1 : Int32) h _ _ e) (fun r1 => ?_)
  refine Y.ifeq 30 (by decide) dX10_fewest_25 ?_ ?_
  · refine Y.op (pc' := 31) (fun _ => X.aloadn rfl dX10_fewest_30) ?_
    refine Y.callVi (As := []) lk_X10_327 rfl cal_X10_nu vir_X10_nu (Nat.le_of_ble_eq_true rfl) (Nat.le_of_ble_eq_true rfl) rfl rfl rfl (Nat.le_of_ble_eq_true rfl) dX10_fewest_31 (fun _ e => m_X10_nu x0 r1.2 _ _ e) (fun r2 => ?_)
    refine Y.op (pc' := 35) (loc' := [some (.ref x0), some (.int x1), some (.int r2.1), none, none]) (fun _ => X.istoren (Nat.le_of_ble_eq_true rfl) rfl dX10_fewest_34) ?_
    refine Y.op (pc' := 36) (fun _ => X.iloadn rfl dX10_fewest_35) ?_
    refine Y.ifne 43 (by decide) dX10_fewest_36 ?_ ?_
    · refine Y.op (pc' := 44) (fun _ => X.aloadn rfl dX10_fewest_43) ?_
      refine Y.op (pc' := 45) (fun _ => X.ic ki_0 dX10_fewest_44) ?_
      refine Y.op (pc' := 46) (fun _ => X.iloadn rfl dX10_fewest_45) ?_
      refine Y.op (pc' := 47) (fun _ => X.ic ki_0 dX10_fewest_46) ?_
      refine Y.callVi (As := [.int (0 : Int32), .int r2.1, .int (0 : Int32)]) lk_X10_379 rfl (cal_X10_firstBut _) (vir_X10_firstBut _) (Nat.le_of_ble_eq_true rfl) (Nat.le_of_ble_eq_true rfl) rfl rfl rfl (Nat.le_of_ble_eq_true rfl) dX10_fewest_47 (fun _ e => m_X10_firstBut 40 x0 (0 : Int32) r2.1 (0 : Int32) r2.2 _ _ e) (fun r3 => ?_)
      exact y_X10_fewest_J50 x0 x1 r2.1 r3.1 r3.2
    · refine Y.op (pc' := 40) (fun _ => X.ic ki_m1 dX10_fewest_39) ?_
      refine Y.op (pc' := 50) (fun _ => X.goto 50 (by decide) dX10_fewest_40) ?_
      exact y_X10_fewest_J50 x0 x1 r2.1 (-1 : Int32) r2.2
  · refine Y.op (pc' := 29) (fun _ => X.ic ki_0 dX10_fewest_28) ?_
    exact Y.ireturn rfl dX10_fewest_29
def f_X10_fewest (a0 : Nat) (p1 : Int32) (h : xH) : Option (Int32 × xH) :=
  (pI h 10 a0 0 (0 : Int32)).bind fun h1 =>
  (f_X10_in p1 (0 : Int32) (1 : Int32) h1).bind fun r2 =>
  if r2.1 = (0 : Int32) then
    f_X10_fewest_J20 a0 p1 a0 (1 : Int32) r2.2
  else
    f_X10_fewest_J20 a0 p1 a0 (0 : Int32) r2.2
theorem y_X10_fewest {g : xG} {h0 : xH} {cl : Bool} (a0 : Nat) (p1 : Int32) (h : xH) : Y g DX10_fewest h0 cl iI (f_X10_fewest a0 p1 h) 0 [some (.ref a0), some (.int p1), none, none, none] [] h := by
  unfold f_X10_fewest
  refine Y.op (pc' := 1) (fun _ => X.aloadn rfl dX10_fewest_0) ?_
  refine Y.op (pc' := 2) (fun _ => X.ic ki_0 dX10_fewest_1) ?_
  refine Y.putI fd_X10_82 rfl dX10_fewest_2 (fun h1 => ?_)
  refine Y.op (pc' := 6) (fun _ => X.aloadn rfl dX10_fewest_5) ?_
  refine Y.op (pc' := 7) (fun _ => X.iloadn rfl dX10_fewest_6) ?_
  refine Y.op (pc' := 8) (fun _ => X.ic ki_0 dX10_fewest_7) ?_
  refine Y.op (pc' := 9) (fun _ => X.ic ki_1 dX10_fewest_8) ?_
  refine Y.callSi (As := [.int p1, .int (0 : Int32), .int (1 : Int32)]) lk_X10_127 rfl cal_X10_in sta_X10_in (Nat.le_of_ble_eq_true rfl) rfl rfl (Nat.le_of_ble_eq_true rfl) dX10_fewest_9 (fun _ e => m_X10_in p1 (0 : Int32) (1 : Int32) h1 _ _ e) (fun r2 => ?_)
  refine Y.ifne 19 (by decide) dX10_fewest_12 ?_ ?_
  · refine Y.op (pc' := 20) (fun _ => X.ic ki_0 dX10_fewest_19) ?_
    exact y_X10_fewest_J20 a0 p1 a0 (0 : Int32) r2.2
  · refine Y.op (pc' := 16) (fun _ => X.ic ki_1 dX10_fewest_15) ?_
    refine Y.op (pc' := 20) (fun _ => X.goto 20 (by decide) dX10_fewest_16) ?_
    exact y_X10_fewest_J20 a0 p1 a0 (1 : Int32) r2.2
theorem m_X10_fewest {g : xG} (a0 : Nat) (p1 : Int32) (h : xH) (cl : Bool) (r : Int32 × xH) (e : f_X10_fewest a0 p1 h = some r) : XM g DX10_fewest [.ref a0, .int p1] h cl (iI r) := YM.of rfl rfl (Nat.le_of_ble_eq_true rfl) (y_X10_fewest a0 p1 h) e
def f_X10_remembers_J43 (x0 : Nat) (h : xH) : Option (xH) :=
  (gI h 10 x0 14).bind fun v1 =>
  (vc h 10 x0 (f_X10_copies x0 (0 : Int32) ((2 : Int32) + v1) h)).bind fun h2 =>
  (gI h2 10 x0 14).bind fun v3 =>
  (pI h2 10 x0 14 (v3 + (1 : Int32))).bind fun h4 =>
  some h4
theorem y_X10_remembers_J43 {g : xG} {h0 : xH} {cl : Bool} (x0 : Nat) (h : xH) : Y g DX10_remembers h0 cl iV (f_X10_remembers_J43 x0 h) 43 [some (.ref x0), none] [] h := by
  unfold f_X10_remembers_J43
  refine Y.op (pc' := 44) (fun _ => X.aloadn rfl dX10_remembers_43) ?_
  refine Y.op (pc' := 45) (fun _ => X.ic ki_0 dX10_remembers_44) ?_
  refine Y.op (pc' := 46) (fun _ => X.ic ki_2 dX10_remembers_45) ?_
  refine Y.op (pc' := 47) (fun _ => X.aloadn rfl dX10_remembers_46) ?_
  refine Y.getI fd_X10_231 rfl dX10_remembers_47 (fun v1 => ?_)
  refine Y.op (pc' := 51) (fun _ => X.iadd dX10_remembers_50) ?_
  refine Y.callVv (As := [.int (0 : Int32), .int ((2 : Int32) + v1)]) lk_X10_228 rfl cal_X10_copies vir_X10_copies (Nat.le_of_ble_eq_true rfl) (Nat.le_of_ble_eq_true rfl) rfl rfl rfl (Nat.le_of_ble_eq_true rfl) dX10_remembers_51 (fun _ e => m_X10_copies x0 (0 : Int32) ((2 : Int32) + v1) h _ _ e) (fun h2 => ?_)
  refine Y.op (pc' := 55) (fun _ => X.aloadn rfl dX10_remembers_54) ?_
  refine Y.op (pc' := 56) (fun _ => X.dup rfl dX10_remembers_55) ?_
  refine Y.getI fd_X10_231 rfl dX10_remembers_56 (fun v3 => ?_)
  refine Y.op (pc' := 60) (fun _ => X.ic ki_1 dX10_remembers_59) ?_
  refine Y.op (pc' := 61) (fun _ => X.iadd dX10_remembers_60) ?_
  refine Y.putI fd_X10_231 rfl dX10_remembers_61 (fun h4 => ?_)
  exact Y.vreturn rfl dX10_remembers_64
def f_X10_remembers_J33 (x0 : Nat) (h : xH) : Option (xH) :=
  (gI h 10 x0 14).bind fun v1 =>
  (pI h 10 x0 14 (v1 - (1 : Int32))).bind fun h2 =>
  f_X10_remembers_J43 x0 h2
theorem y_X10_remembers_J33 {g : xG} {h0 : xH} {cl : Bool} (x0 : Nat) (h : xH) : Y g DX10_remembers h0 cl iV (f_X10_remembers_J33 x0 h) 33 [some (.ref x0), none] [] h := by
  unfold f_X10_remembers_J33
  refine Y.op (pc' := 34) (fun _ => X.aloadn rfl dX10_remembers_33) ?_
  refine Y.op (pc' := 35) (fun _ => X.dup rfl dX10_remembers_34) ?_
  refine Y.getI fd_X10_231 rfl dX10_remembers_35 (fun v1 => ?_)
  refine Y.op (pc' := 39) (fun _ => X.ic ki_1 dX10_remembers_38) ?_
  refine Y.op (pc' := 40) (fun _ => X.isub dX10_remembers_39) ?_
  refine Y.putI fd_X10_231 rfl dX10_remembers_40 (fun h2 => ?_)
  exact y_X10_remembers_J43 x0 h2
def f_X10_remembers_L11 (kE33 : Nat → xH → Option (xH)) : Nat → Nat → Int32 → xH → Option (xH)
  | 0 => fun _ _ _ => none
  | n + 1 => fun x0 x1 h =>
    if x1 ≥ (15 : Int32) then
      kE33 x0 h
    else
      (vc h 10 x0 (f_X10_copies x0 ((2 : Int32) + x1) ((1 : Int32) + x1) h)).bind fun h1 =>
      lt (x1 + (1 : Int32)) fun v2 =>
      f_X10_remembers_L11 kE33 n x0 v2 h1
theorem y_X10_remembers_L11 {g : xG} {h0 : xH} {cl : Bool} {kE33 : Nat → xH → Option (xH)} (hkE33 : ∀ (x0 : Nat) (h : xH), Y g DX10_remembers h0 cl iV (kE33 x0 h) 33 [some (.ref x0), none] [] h) : ∀ (n : Nat) (x0 : Nat) (x1 : Int32) (h : xH), Y g DX10_remembers h0 cl iV (f_X10_remembers_L11 kE33 n x0 x1 h) 11 [some (.ref x0), some (.int x1)] [] h := by
  intro n
  induction n with
  | zero => intro x0 x1 h; exact Y.nothing
  | succ n ih =>
    intro x0 x1 h
    unfold f_X10_remembers_L11
    refine Y.op (pc' := 12) (fun _ => X.iloadn rfl dX10_remembers_11) ?_
    refine Y.op (pc' := 14) (fun _ => X.bp kb_15 dX10_remembers_12) ?_
    refine Y.cmpge 33 (by decide) dX10_remembers_14 ?_ ?_
    · exact Y.fg (hkE33 x0 h) (And.intro rfl trivial)
    · refine Y.op (pc' := 18) (fun _ => X.aloadn rfl dX10_remembers_17) ?_
      refine Y.op (pc' := 19) (fun _ => X.ic ki_2 dX10_remembers_18) ?_
      refine Y.op (pc' := 20) (fun _ => X.iloadn rfl dX10_remembers_19) ?_
      refine Y.op (pc' := 21) (fun _ => X.iadd dX10_remembers_20) ?_
      refine Y.op (pc' := 22) (fun _ => X.ic ki_1 dX10_remembers_21) ?_
      refine Y.op (pc' := 23) (fun _ => X.iloadn rfl dX10_remembers_22) ?_
      refine Y.op (pc' := 24) (fun _ => X.iadd dX10_remembers_23) ?_
      refine Y.callVv (As := [.int ((2 : Int32) + x1), .int ((1 : Int32) + x1)]) lk_X10_228 rfl cal_X10_copies vir_X10_copies (Nat.le_of_ble_eq_true rfl) (Nat.le_of_ble_eq_true rfl) rfl rfl rfl (Nat.le_of_ble_eq_true rfl) dX10_remembers_24 (fun _ e => m_X10_copies x0 ((2 : Int32) + x1) ((1 : Int32) + x1) h _ _ e) (fun h1 => ?_)
      refine Y.iinc (i := 1) (loc' := fun v2 => [some (.ref x0), some (.int v2)]) rfl (Nat.le_of_ble_eq_true rfl) ki_1 (fun _ => rfl) dX10_remembers_27 (fun v2 => ?_)
      refine Y.op (pc' := 11) (fun _ => X.goto 11 (by decide) dX10_remembers_30) ?_
      exact ih x0 v2 h1
def f_X10_remembers (a0 : Nat) (h : xH) : Option (xH) :=
  (gI h 10 a0 14).bind fun v1 =>
  if v1 = (15 : Int32) then
    f_X10_remembers_L11 (f_X10_remembers_J33) 5000 a0 (1 : Int32) h
  else
    f_X10_remembers_J43 a0 h
theorem y_X10_remembers {g : xG} {h0 : xH} {cl : Bool} (a0 : Nat) (h : xH) : Y g DX10_remembers h0 cl iV (f_X10_remembers a0 h) 0 [some (.ref a0), none] [] h := by
  unfold f_X10_remembers
  refine Y.op (pc' := 1) (fun _ => X.aloadn rfl dX10_remembers_0) ?_
  refine Y.getI fd_X10_231 rfl dX10_remembers_1 (fun v1 => ?_)
  refine Y.op (pc' := 6) (fun _ => X.bp kb_15 dX10_remembers_4) ?_
  refine Y.cmpne 43 (by decide) dX10_remembers_6 ?_ ?_
  · exact y_X10_remembers_J43 a0 h
  · refine Y.op (pc' := 10) (fun _ => X.ic ki_1 dX10_remembers_9) ?_
    refine Y.op (pc' := 11) (loc' := [some (.ref a0), some (.int (1 : Int32))]) (fun _ => X.istoren (Nat.le_of_ble_eq_true rfl) rfl dX10_remembers_10) ?_
    exact y_X10_remembers_L11 (y_X10_remembers_J33) 5000 a0 (1 : Int32) h
theorem m_X10_remembers {g : xG} (a0 : Nat) (h : xH) (cl : Bool) (r : xH) (e : f_X10_remembers a0 h = some r) : XM g DX10_remembers [.ref a0] h cl (iV r) := YM.of rfl rfl (Nat.le_of_ble_eq_true rfl) (y_X10_remembers a0 h) e
def f_X10_add_J90 (x0 : Nat) (x1 : Int32) (x2 : Int32) (x3 : Int32) (s0 : Int32) (h : xH) : Option (Int32 × xH) :=
  (gR h 10 x0 10).bind fun v1 =>
  (aR 102 h v1 (0 : Int32)).bind fun v2 =>
  (aI h v2 x1).bind fun v3 =>
  (sI h v2 x1 (v3 ||| ((1 : Int32) <<< (x2 &&& 31)))).bind fun h4 =>
  (gR h4 10 x0 13).bind fun v5 =>
  (aR 103 h4 v5 (0 : Int32)).bind fun v6 =>
  (aR 102 h4 v6 x1).bind fun v7 =>
  (sI h4 v7 x2 x3).bind fun h8 =>
  (vc h8 10 x0 (f_X10_keeps x0 h8)).bind fun h9 =>
  some (s0, h9)
theorem y_X10_add_J90 {g : xG} {h0 : xH} {cl : Bool} (x0 : Nat) (x1 : Int32) (x2 : Int32) (x3 : Int32) (s0 : Int32) (h : xH) : Y g DX10_add h0 cl iI (f_X10_add_J90 x0 x1 x2 x3 s0 h) 90 [some (.ref x0), some (.int x1), some (.int x2), some (.int x3), none] [.int s0] h := by
  unfold f_X10_add_J90
  refine Y.op (pc' := 92) (loc' := [some (.ref x0), some (.int x1), some (.int x2), some (.int x3), some (.int s0)]) (fun _ => X.istore (Nat.le_of_ble_eq_true rfl) rfl dX10_add_90) ?_
  refine Y.op (pc' := 93) (fun _ => X.aloadn rfl dX10_add_92) ?_
  refine Y.getR fd_X10_25 rfl dX10_add_93 (fun v1 => ?_)
  refine Y.op (pc' := 97) (fun _ => X.ic ki_0 dX10_add_96) ?_
  refine Y.aldR 102 (by decide) (by decide) dX10_add_97 (fun v2 => ?_)
  refine Y.op (pc' := 99) (fun _ => X.iloadn rfl dX10_add_98) ?_
  refine Y.op (pc' := 100) (fun _ => X.dup2 rfl rfl dX10_add_99) ?_
  refine Y.aldI dX10_add_100 (fun v3 => ?_)
  refine Y.op (pc' := 102) (fun _ => X.ic ki_1 dX10_add_101) ?_
  refine Y.op (pc' := 103) (fun _ => X.iloadn rfl dX10_add_102) ?_
  refine Y.op (pc' := 104) (fun _ => X.ishl dX10_add_103) ?_
  refine Y.op (pc' := 105) (fun _ => X.ior dX10_add_104) ?_
  refine Y.astI dX10_add_105 (fun h4 => ?_)
  refine Y.op (pc' := 107) (fun _ => X.aloadn rfl dX10_add_106) ?_
  refine Y.getR fd_X10_36 rfl dX10_add_107 (fun v5 => ?_)
  refine Y.op (pc' := 111) (fun _ => X.ic ki_0 dX10_add_110) ?_
  refine Y.aldR 103 (by decide) (by decide) dX10_add_111 (fun v6 => ?_)
  refine Y.op (pc' := 113) (fun _ => X.iloadn rfl dX10_add_112) ?_
  refine Y.aldR 102 (by decide) (by decide) dX10_add_113 (fun v7 => ?_)
  refine Y.op (pc' := 115) (fun _ => X.iloadn rfl dX10_add_114) ?_
  refine Y.op (pc' := 116) (fun _ => X.iloadn rfl dX10_add_115) ?_
  refine Y.astI dX10_add_116 (fun h8 => ?_)
  refine Y.op (pc' := 118) (fun _ => X.aloadn rfl dX10_add_117) ?_
  refine Y.callVv (As := []) lk_X10_234 rfl cal_X10_keeps vir_X10_keeps (Nat.le_of_ble_eq_true rfl) (Nat.le_of_ble_eq_true rfl) rfl rfl rfl (Nat.le_of_ble_eq_true rfl) dX10_add_118 (fun _ e => m_X10_keeps x0 h8 _ _ e) (fun h9 => ?_)
  refine Y.op (pc' := 123) (fun _ => X.iload rfl dX10_add_121) ?_
  exact Y.ireturn rfl dX10_add_123
def f_X10_add_J61 (h : xH) : Option (Int32 × xH) :=
  some ((0 : Int32), h)
theorem y_X10_add_J61 {g : xG} {h0 : xH} {cl : Bool} (h : xH) : Y g DX10_add h0 cl iI (f_X10_add_J61 h) 61 [none, none, none, none, none] [] h := by
  unfold f_X10_add_J61
  refine Y.op (pc' := 62) (fun _ => X.ic ki_0 dX10_add_61) ?_
  exact Y.ireturn rfl dX10_add_62
def f_X10_add_J53 (x0 : Nat) (x1 : Int32) (x2 : Int32) (x3 : Int32) (s0 : Nat) (s1 : Int32) (h : xH) : Option (Int32 × xH) :=
  (vc h 10 s0 (f_X10_bad s0 s1 (2 : Int32) (1 : Int32) h)).bind fun r1 =>
  if r1.1 = (0 : Int32) then
    (vc r1.2 10 x0 (f_X10_remembers x0 r1.2)).bind fun h2 =>
    (vc h2 10 x0 (f_X10_isFit x0 x1 x2 h2)).bind fun r3 =>
    if r3.1 = (0 : Int32) then
      f_X10_add_J90 x0 x1 x2 x3 (-1 : Int32) r3.2
    else
      (gR r3.2 10 x0 13).bind fun v4 =>
      (aR 103 r3.2 v4 (0 : Int32)).bind fun v5 =>
      (aR 102 r3.2 v5 x1).bind fun v6 =>
      (aI r3.2 v6 x2).bind fun v7 =>
      f_X10_add_J90 x0 x1 x2 x3 v7 r3.2
  else
    f_X10_add_J61 r1.2
theorem y_X10_add_J53 {g : xG} {h0 : xH} {cl : Bool} (x0 : Nat) (x1 : Int32) (x2 : Int32) (x3 : Int32) (s0 : Nat) (s1 : Int32) (h : xH) : Y g DX10_add h0 cl iI (f_X10_add_J53 x0 x1 x2 x3 s0 s1 h) 53 [some (.ref x0), some (.int x1), some (.int x2), some (.int x3), none] [.int s1, .ref s0] h := by
  unfold f_X10_add_J53
  refine Y.op (pc' := 54) (fun _ => X.ic ki_2 dX10_add_53) ?_
  refine Y.op (pc' := 55) (fun _ => X.ic ki_1 dX10_add_54) ?_
  refine Y.callVi (As := [.int s1, .int (2 : Int32), .int (1 : Int32)]) lk_X10_217 rfl cal_X10_bad vir_X10_bad (Nat.le_of_ble_eq_true rfl) (Nat.le_of_ble_eq_true rfl) rfl rfl rfl (Nat.le_of_ble_eq_true rfl) dX10_add_55 (fun _ e => m_X10_bad s0 s1 (2 : Int32) (1 : Int32) h _ _ e) (fun r1 => ?_)
  refine Y.ifeq 63 (by decide) dX10_add_58 ?_ ?_
  · refine Y.op (pc' := 64) (fun _ => X.aloadn rfl dX10_add_63) ?_
    refine Y.callVv (As := []) lk_X10_383 rfl cal_X10_remembers vir_X10_remembers (Nat.le_of_ble_eq_true rfl) (Nat.le_of_ble_eq_true rfl) rfl rfl rfl (Nat.le_of_ble_eq_true rfl) dX10_add_64 (fun _ e => m_X10_remembers x0 r1.2 _ _ e) (fun h2 => ?_)
    refine Y.op (pc' := 68) (fun _ => X.aloadn rfl dX10_add_67) ?_
    refine Y.op (pc' := 69) (fun _ => X.iloadn rfl dX10_add_68) ?_
    refine Y.op (pc' := 70) (fun _ => X.iloadn rfl dX10_add_69) ?_
    refine Y.callVi (As := [.int x1, .int x2]) lk_X10_285 rfl cal_X10_isFit vir_X10_isFit (Nat.le_of_ble_eq_true rfl) (Nat.le_of_ble_eq_true rfl) rfl rfl rfl (Nat.le_of_ble_eq_true rfl) dX10_add_70 (fun _ e => m_X10_isFit x0 x1 x2 h2 _ _ e) (fun r3 => ?_)
    refine Y.ifeq 89 (by decide) dX10_add_73 ?_ ?_
    · refine Y.op (pc' := 90) (fun _ => X.ic ki_m1 dX10_add_89) ?_
      exact y_X10_add_J90 x0 x1 x2 x3 (-1 : Int32) r3.2
    · refine Y.op (pc' := 77) (fun _ => X.aloadn rfl dX10_add_76) ?_
      refine Y.getR fd_X10_36 rfl dX10_add_77 (fun v4 => ?_)
      refine Y.op (pc' := 81) (fun _ => X.ic ki_0 dX10_add_80) ?_
      refine Y.aldR 103 (by decide) (by decide) dX10_add_81 (fun v5 => ?_)
      refine Y.op (pc' := 83) (fun _ => X.iloadn rfl dX10_add_82) ?_
      refine Y.aldR 102 (by decide) (by decide) dX10_add_83 (fun v6 => ?_)
      refine Y.op (pc' := 85) (fun _ => X.iloadn rfl dX10_add_84) ?_
      refine Y.aldI dX10_add_85 (fun v7 => ?_)
      refine Y.op (pc' := 90) (fun _ => X.goto 90 (by decide) dX10_add_86) ?_
      exact y_X10_add_J90 x0 x1 x2 x3 v7 r3.2
  · exact Y.fg (y_X10_add_J61 r1.2) trivial
def f_X10_add_J29 (x0 : Nat) (x1 : Int32) (x2 : Int32) (x3 : Int32) (s0 : Nat) (s1 : Int32) (h : xH) : Option (Int32 × xH) :=
  (vc h 10 s0 (f_X10_bad s0 s1 (1 : Int32) (0 : Int32) h)).bind fun r1 =>
  if r1.1 = (0 : Int32) then
    (f_X10_in x3 (0 : Int32) (99 : Int32) r1.2).bind fun r2 =>
    if r2.1 = (0 : Int32) then
      f_X10_add_J53 x0 x1 x2 x3 x0 (1 : Int32) r2.2
    else
      f_X10_add_J53 x0 x1 x2 x3 x0 (0 : Int32) r2.2
  else
    f_X10_add_J61 r1.2
theorem y_X10_add_J29 {g : xG} {h0 : xH} {cl : Bool} (x0 : Nat) (x1 : Int32) (x2 : Int32) (x3 : Int32) (s0 : Nat) (s1 : Int32) (h : xH) : Y g DX10_add h0 cl iI (f_X10_add_J29 x0 x1 x2 x3 s0 s1 h) 29 [some (.ref x0), some (.int x1), some (.int x2), some (.int x3), none] [.int s1, .ref s0] h := by
  unfold f_X10_add_J29
  refine Y.op (pc' := 30) (fun _ => X.ic ki_1 dX10_add_29) ?_
  refine Y.op (pc' := 31) (fun _ => X.ic ki_0 dX10_add_30) ?_
  refine Y.callVi (As := [.int s1, .int (1 : Int32), .int (0 : Int32)]) lk_X10_217 rfl cal_X10_bad vir_X10_bad (Nat.le_of_ble_eq_true rfl) (Nat.le_of_ble_eq_true rfl) rfl rfl rfl (Nat.le_of_ble_eq_true rfl) dX10_add_31 (fun _ e => m_X10_bad s0 s1 (1 : Int32) (0 : Int32) h _ _ e) (fun r1 => ?_)
  refine Y.ifne 61 (by decide) dX10_add_34 ?_ ?_
  · exact Y.fg (y_X10_add_J61 r1.2) trivial
  · refine Y.op (pc' := 38) (fun _ => X.aloadn rfl dX10_add_37) ?_
    refine Y.op (pc' := 39) (fun _ => X.iloadn rfl dX10_add_38) ?_
    refine Y.op (pc' := 40) (fun _ => X.ic ki_0 dX10_add_39) ?_
    refine Y.op (pc' := 42) (fun _ => X.bp kb_99 dX10_add_40) ?_
    refine Y.callSi (As := [.int x3, .int (0 : Int32), .int (99 : Int32)]) lk_X10_127 rfl cal_X10_in sta_X10_in (Nat.le_of_ble_eq_true rfl) rfl rfl (Nat.le_of_ble_eq_true rfl) dX10_add_42 (fun _ e => m_X10_in x3 (0 : Int32) (99 : Int32) r1.2 _ _ e) (fun r2 => ?_)
    refine Y.ifne 52 (by decide) dX10_add_45 ?_ ?_
    · refine Y.op (pc' := 53) (fun _ => X.ic ki_0 dX10_add_52) ?_
      exact y_X10_add_J53 x0 x1 x2 x3 x0 (0 : Int32) r2.2
    · refine Y.op (pc' := 49) (fun _ => X.ic ki_1 dX10_add_48) ?_
      refine Y.op (pc' := 53) (fun _ => X.goto 53 (by decide) dX10_add_49) ?_
      exact y_X10_add_J53 x0 x1 x2 x3 x0 (1 : Int32) r2.2
def f_X10_add_J24 (x0 : Nat) (x1 : Int32) (x2 : Int32) (x3 : Int32) (s0 : Nat) (h : xH) : Option (Int32 × xH) :=
  f_X10_add_J29 x0 x1 x2 x3 s0 (1 : Int32) h
theorem y_X10_add_J24 {g : xG} {h0 : xH} {cl : Bool} (x0 : Nat) (x1 : Int32) (x2 : Int32) (x3 : Int32) (s0 : Nat) (h : xH) : Y g DX10_add h0 cl iI (f_X10_add_J24 x0 x1 x2 x3 s0 h) 24 [some (.ref x0), some (.int x1), some (.int x2), some (.int x3), none] [.ref s0] h := by
  unfold f_X10_add_J24
  refine Y.op (pc' := 25) (fun _ => X.ic ki_1 dX10_add_24) ?_
  refine Y.op (pc' := 29) (fun _ => X.goto 29 (by decide) dX10_add_25) ?_
  exact y_X10_add_J29 x0 x1 x2 x3 s0 (1 : Int32) h
def f_X10_add (a0 : Nat) (p1 : Int32) (p2 : Int32) (p3 : Int32) (h : xH) : Option (Int32 × xH) :=
  (pI h 10 a0 0 (0 : Int32)).bind fun h1 =>
  (vc h1 10 a0 (f_X10_isOne a0 (0 : Int32) p1 h1)).bind fun r2 =>
  if r2.1 = (0 : Int32) then
    f_X10_add_J24 a0 p1 p2 p3 a0 r2.2
  else
    (vc r2.2 10 a0 (f_X10_isOne a0 (1 : Int32) p2 r2.2)).bind fun r3 =>
    if r3.1 = (0 : Int32) then
      f_X10_add_J24 a0 p1 p2 p3 a0 r3.2
    else
      f_X10_add_J29 a0 p1 p2 p3 a0 (0 : Int32) r3.2
theorem y_X10_add {g : xG} {h0 : xH} {cl : Bool} (a0 : Nat) (p1 : Int32) (p2 : Int32) (p3 : Int32) (h : xH) : Y g DX10_add h0 cl iI (f_X10_add a0 p1 p2 p3 h) 0 [some (.ref a0), some (.int p1), some (.int p2), some (.int p3), none] [] h := by
  unfold f_X10_add
  refine Y.op (pc' := 1) (fun _ => X.aloadn rfl dX10_add_0) ?_
  refine Y.op (pc' := 2) (fun _ => X.ic ki_0 dX10_add_1) ?_
  refine Y.putI fd_X10_82 rfl dX10_add_2 (fun h1 => ?_)
  refine Y.op (pc' := 6) (fun _ => X.aloadn rfl dX10_add_5) ?_
  refine Y.op (pc' := 7) (fun _ => X.aloadn rfl dX10_add_6) ?_
  refine Y.op (pc' := 8) (fun _ => X.ic ki_0 dX10_add_7) ?_
  refine Y.op (pc' := 9) (fun _ => X.iloadn rfl dX10_add_8) ?_
  refine Y.callVi (As := [.int (0 : Int32), .int p1]) lk_X10_282 rfl cal_X10_isOne vir_X10_isOne (Nat.le_of_ble_eq_true rfl) (Nat.le_of_ble_eq_true rfl) rfl rfl rfl (Nat.le_of_ble_eq_true rfl) dX10_add_9 (fun _ e => m_X10_isOne a0 (0 : Int32) p1 h1 _ _ e) (fun r2 => ?_)
  refine Y.ifeq 24 (by decide) dX10_add_12 ?_ ?_
  · exact y_X10_add_J24 a0 p1 p2 p3 a0 r2.2
  · refine Y.op (pc' := 16) (fun _ => X.aloadn rfl dX10_add_15) ?_
    refine Y.op (pc' := 17) (fun _ => X.ic ki_1 dX10_add_16) ?_
    refine Y.op (pc' := 18) (fun _ => X.iloadn rfl dX10_add_17) ?_
    refine Y.callVi (As := [.int (1 : Int32), .int p2]) lk_X10_282 rfl cal_X10_isOne vir_X10_isOne (Nat.le_of_ble_eq_true rfl) (Nat.le_of_ble_eq_true rfl) rfl rfl rfl (Nat.le_of_ble_eq_true rfl) dX10_add_18 (fun _ e => m_X10_isOne a0 (1 : Int32) p2 r2.2 _ _ e) (fun r3 => ?_)
    refine Y.ifne 28 (by decide) dX10_add_21 ?_ ?_
    · refine Y.op (pc' := 29) (fun _ => X.ic ki_0 dX10_add_28) ?_
      exact y_X10_add_J29 a0 p1 p2 p3 a0 (0 : Int32) r3.2
    · exact y_X10_add_J24 a0 p1 p2 p3 a0 r3.2
theorem m_X10_add {g : xG} (a0 : Nat) (p1 : Int32) (p2 : Int32) (p3 : Int32) (h : xH) (cl : Bool) (r : Int32 × xH) (e : f_X10_add a0 p1 p2 p3 h = some r) : XM g DX10_add [.ref a0, .int p1, .int p2, .int p3] h cl (iI r) := YM.of rfl rfl (Nat.le_of_ble_eq_true rfl) (y_X10_add a0 p1 p2 p3 h) e
def f_X10_drop_J114 (x0 : Nat) (x3 : Int32) (h : xH) : Option (Int32 × xH) :=
  (vc h 10 x0 (f_X10_keeps x0 h)).bind fun h1 =>
  some (x3, h1)
theorem y_X10_drop_J114 {g : xG} {h0 : xH} {cl : Bool} (x0 : Nat) (x3 : Int32) (h : xH) : Y g DX10_drop h0 cl iI (f_X10_drop_J114 x0 x3 h) 114 [some (.ref x0), none, none, some (.int x3)] [] h := by
  unfold f_X10_drop_J114
  refine Y.op (pc' := 115) (fun _ => X.aloadn rfl dX10_drop_114) ?_
  refine Y.callVv (As := []) lk_X10_234 rfl cal_X10_keeps vir_X10_keeps (Nat.le_of_ble_eq_true rfl) (Nat.le_of_ble_eq_true rfl) rfl rfl rfl (Nat.le_of_ble_eq_true rfl) dX10_drop_115 (fun _ e => m_X10_keeps x0 h _ _ e) (fun h1 => ?_)
  refine Y.op (pc' := 119) (fun _ => X.iloadn rfl dX10_drop_118) ?_
  exact Y.ireturn rfl dX10_drop_119
def f_X10_drop_J60 (h : xH) : Option (Int32 × xH) :=
  some ((0 : Int32), h)
theorem y_X10_drop_J60 {g : xG} {h0 : xH} {cl : Bool} (h : xH) : Y g DX10_drop h0 cl iI (f_X10_drop_J60 h) 60 [none, none, none, none] [] h := by
  unfold f_X10_drop_J60
  refine Y.op (pc' := 61) (fun _ => X.ic ki_0 dX10_drop_60) ?_
  exact Y.ireturn rfl dX10_drop_61
def f_X10_drop_J52 (x0 : Nat) (x1 : Int32) (x2 : Int32) (s0 : Nat) (s1 : Int32) (h : xH) : Option (Int32 × xH) :=
  (vc h 10 s0 (f_X10_bad s0 s1 (2 : Int32) (1 : Int32) h)).bind fun r1 =>
  if r1.1 = (0 : Int32) then
    (vc r1.2 10 x0 (f_X10_remembers x0 r1.2)).bind fun h2 =>
    (gR h2 10 x0 13).bind fun v3 =>
    (aR 103 h2 v3 (0 : Int32)).bind fun v4 =>
    (aR 102 h2 v4 x1).bind fun v5 =>
    (aI h2 v5 x2).bind fun v6 =>
    (gR h2 10 x0 10).bind fun v7 =>
    (aR 102 h2 v7 (0 : Int32)).bind fun v8 =>
    (aI h2 v8 x1).bind fun v9 =>
    (sI h2 v8 x1 (v9 &&& (((1 : Int32) <<< (x2 &&& 31)) ^^^ (-1 : Int32)))).bind fun h10 =>
    (gR h10 10 x0 11).bind fun v11 =>
    (aR 102 h10 v11 (0 : Int32)).bind fun v12 =>
    (aI h10 v12 x1).bind fun v13 =>
    if v13 = x2 then
      (gR h10 10 x0 11).bind fun v14 =>
      (aR 102 h10 v14 (0 : Int32)).bind fun v15 =>
      (sI h10 v15 x1 (-1 : Int32)).bind fun h16 =>
      f_X10_drop_J114 x0 v6 h16
    else
      f_X10_drop_J114 x0 v6 h10
  else
    f_X10_drop_J60 r1.2
theorem y_X10_drop_J52 {g : xG} {h0 : xH} {cl : Bool} (x0 : Nat) (x1 : Int32) (x2 : Int32) (s0 : Nat) (s1 : Int32) (h : xH) : Y g DX10_drop h0 cl iI (f_X10_drop_J52 x0 x1 x2 s0 s1 h) 52 [some (.ref x0), some (.int x1), some (.int x2), none] [.int s1, .ref s0] h := by
  unfold f_X10_drop_J52
  refine Y.op (pc' := 53) (fun _ => X.ic ki_2 dX10_drop_52) ?_
  refine Y.op (pc' := 54) (fun _ => X.ic ki_1 dX10_drop_53) ?_
  refine Y.callVi (As := [.int s1, .int (2 : Int32), .int (1 : Int32)]) lk_X10_217 rfl cal_X10_bad vir_X10_bad (Nat.le_of_ble_eq_true rfl) (Nat.le_of_ble_eq_true rfl) rfl rfl rfl (Nat.le_of_ble_eq_true rfl) dX10_drop_54 (fun _ e => m_X10_bad s0 s1 (2 : Int32) (1 : Int32) h _ _ e) (fun r1 => ?_)
  refine Y.ifeq 62 (by decide) dX10_drop_57 ?_ ?_
  · refine Y.op (pc' := 63) (fun _ => X.aloadn rfl dX10_drop_62) ?_
    refine Y.callVv (As := []) lk_X10_383 rfl cal_X10_remembers vir_X10_remembers (Nat.le_of_ble_eq_true rfl) (Nat.le_of_ble_eq_true rfl) rfl rfl rfl (Nat.le_of_ble_eq_true rfl) dX10_drop_63 (fun _ e => m_X10_remembers x0 r1.2 _ _ e) (fun h2 => ?_)
    refine Y.op (pc' := 67) (fun _ => X.aloadn rfl dX10_drop_66) ?_
    refine Y.getR fd_X10_36 rfl dX10_drop_67 (fun v3 => ?_)
    refine Y.op (pc' := 71) (fun _ => X.ic ki_0 dX10_drop_70) ?_
    refine Y.aldR 103 (by decide) (by decide) dX10_drop_71 (fun v4 => ?_)
    refine Y.op (pc' := 73) (fun _ => X.iloadn rfl dX10_drop_72) ?_
    refine Y.aldR 102 (by decide) (by decide) dX10_drop_73 (fun v5 => ?_)
    refine Y.op (pc' := 75) (fun _ => X.iloadn rfl dX10_drop_74) ?_
    refine Y.aldI dX10_drop_75 (fun v6 => ?_)
    refine Y.op (pc' := 77) (loc' := [some (.ref x0), some (.int x1), some (.int x2), some (.int v6)]) (fun _ => X.istoren (Nat.le_of_ble_eq_true rfl) rfl dX10_drop_76) ?_
    refine Y.op (pc' := 78) (fun _ => X.aloadn rfl dX10_drop_77) ?_
    refine Y.getR fd_X10_25 rfl dX10_drop_78 (fun v7 => ?_)
    refine Y.op (pc' := 82) (fun _ => X.ic ki_0 dX10_drop_81) ?_
    refine Y.aldR 102 (by decide) (by decide) dX10_drop_82 (fun v8 => ?_)
    refine Y.op (pc' := 84) (fun _ => X.iloadn rfl dX10_drop_83) ?_
    refine Y.op (pc' := 85) (fun _ => X.dup2 rfl rfl dX10_drop_84) ?_
    refine Y.aldI dX10_drop_85 (fun v9 => ?_)
    refine Y.op (pc' := 87) (fun _ => X.ic ki_1 dX10_drop_86) ?_
    refine Y.op (pc' := 88) (fun _ => X.iloadn rfl dX10_drop_87) ?_
    refine Y.op (pc' := 89) (fun _ => X.ishl dX10_drop_88) ?_
    refine Y.op (pc' := 90) (fun _ => X.ic ki_m1 dX10_drop_89) ?_
    refine Y.op (pc' := 91) (fun _ => X.ixor dX10_drop_90) ?_
    refine Y.op (pc' := 92) (fun _ => X.iand dX10_drop_91) ?_
    refine Y.astI dX10_drop_92 (fun h10 => ?_)
    refine Y.op (pc' := 94) (fun _ => X.aloadn rfl dX10_drop_93) ?_
    refine Y.getR fd_X10_28 rfl dX10_drop_94 (fun v11 => ?_)
    refine Y.op (pc' := 98) (fun _ => X.ic ki_0 dX10_drop_97) ?_
    refine Y.aldR 102 (by decide) (by decide) dX10_drop_98 (fun v12 => ?_)
    refine Y.op (pc' := 100) (fun _ => X.iloadn rfl dX10_drop_99) ?_
    refine Y.aldI dX10_drop_100 (fun v13 => ?_)
    refine Y.op (pc' := 102) (fun _ => X.iloadn rfl dX10_drop_101) ?_
    refine Y.cmpne 114 (by decide) dX10_drop_102 ?_ ?_
    · exact Y.fg (y_X10_drop_J114 x0 v6 h10) (And.intro rfl (And.intro rfl trivial))
    · refine Y.op (pc' := 106) (fun _ => X.aloadn rfl dX10_drop_105) ?_
      refine Y.getR fd_X10_28 rfl dX10_drop_106 (fun v14 => ?_)
      refine Y.op (pc' := 110) (fun _ => X.ic ki_0 dX10_drop_109) ?_
      refine Y.aldR 102 (by decide) (by decide) dX10_drop_110 (fun v15 => ?_)
      refine Y.op (pc' := 112) (fun _ => X.iloadn rfl dX10_drop_111) ?_
      refine Y.op (pc' := 113) (fun _ => X.ic ki_m1 dX10_drop_112) ?_
      refine Y.astI dX10_drop_113 (fun h16 => ?_)
      exact Y.fg (y_X10_drop_J114 x0 v6 h16) (And.intro rfl (And.intro rfl trivial))
  · exact Y.fg (y_X10_drop_J60 r1.2) trivial
def f_X10_drop_J29 (x0 : Nat) (x1 : Int32) (x2 : Int32) (s0 : Nat) (s1 : Int32) (h : xH) : Option (Int32 × xH) :=
  (vc h 10 s0 (f_X10_bad s0 s1 (1 : Int32) (0 : Int32) h)).bind fun r1 =>
  if r1.1 = (0 : Int32) then
    (vc r1.2 10 x0 (f_X10_isFit x0 x1 x2 r1.2)).bind fun r2 =>
    if r2.1 = (0 : Int32) then
      f_X10_drop_J52 x0 x1 x2 x0 (1 : Int32) r2.2
    else
      f_X10_drop_J52 x0 x1 x2 x0 (0 : Int32) r2.2
  else
    f_X10_drop_J60 r1.2
theorem y_X10_drop_J29 {g : xG} {h0 : xH} {cl : Bool} (x0 : Nat) (x1 : Int32) (x2 : Int32) (s0 : Nat) (s1 : Int32) (h : xH) : Y g DX10_drop h0 cl iI (f_X10_drop_J29 x0 x1 x2 s0 s1 h) 29 [some (.ref x0), some (.int x1), some (.int x2), none] [.int s1, .ref s0] h := by
  unfold f_X10_drop_J29
  refine Y.op (pc' := 30) (fun _ => X.ic ki_1 dX10_drop_29) ?_
  refine Y.op (pc' := 31) (fun _ => X.ic ki_0 dX10_drop_30) ?_
  refine Y.callVi (As := [.int s1, .int (1 : Int32), .int (0 : Int32)]) lk_X10_217 rfl cal_X10_bad vir_X10_bad (Nat.le_of_ble_eq_true rfl) (Nat.le_of_ble_eq_true rfl) rfl rfl rfl (Nat.le_of_ble_eq_true rfl) dX10_drop_31 (fun _ e => m_X10_bad s0 s1 (1 : Int32) (0 : Int32) h _ _ e) (fun r1 => ?_)
  refine Y.ifne 60 (by decide) dX10_drop_34 ?_ ?_
  · exact Y.fg (y_X10_drop_J60 r1.2) trivial
  · refine Y.op (pc' := 38) (fun _ => X.aloadn rfl dX10_drop_37) ?_
    refine Y.op (pc' := 39) (fun _ => X.aloadn rfl dX10_drop_38) ?_
    refine Y.op (pc' := 40) (fun _ => X.iloadn rfl dX10_drop_39) ?_
    refine Y.op (pc' := 41) (fun _ => X.iloadn rfl dX10_drop_40) ?_
    refine Y.callVi (As := [.int x1, .int x2]) lk_X10_285 rfl cal_X10_isFit vir_X10_isFit (Nat.le_of_ble_eq_true rfl) (Nat.le_of_ble_eq_true rfl) rfl rfl rfl (Nat.le_of_ble_eq_true rfl) dX10_drop_41 (fun _ e => m_X10_isFit x0 x1 x2 r1.2 _ _ e) (fun r2 => ?_)
    refine Y.ifne 51 (by decide) dX10_drop_44 ?_ ?_
    · refine Y.op (pc' := 52) (fun _ => X.ic ki_0 dX10_drop_51) ?_
      exact y_X10_drop_J52 x0 x1 x2 x0 (0 : Int32) r2.2
    · refine Y.op (pc' := 48) (fun _ => X.ic ki_1 dX10_drop_47) ?_
      refine Y.op (pc' := 52) (fun _ => X.goto 52 (by decide) dX10_drop_48) ?_
      exact y_X10_drop_J52 x0 x1 x2 x0 (1 : Int32) r2.2
def f_X10_drop_J24 (x0 : Nat) (x1 : Int32) (x2 : Int32) (s0 : Nat) (h : xH) : Option (Int32 × xH) :=
  f_X10_drop_J29 x0 x1 x2 s0 (1 : Int32) h
theorem y_X10_drop_J24 {g : xG} {h0 : xH} {cl : Bool} (x0 : Nat) (x1 : Int32) (x2 : Int32) (s0 : Nat) (h : xH) : Y g DX10_drop h0 cl iI (f_X10_drop_J24 x0 x1 x2 s0 h) 24 [some (.ref x0), some (.int x1), some (.int x2), none] [.ref s0] h := by
  unfold f_X10_drop_J24
  refine Y.op (pc' := 25) (fun _ => X.ic ki_1 dX10_drop_24) ?_
  refine Y.op (pc' := 29) (fun _ => X.goto 29 (by decide) dX10_drop_25) ?_
  exact y_X10_drop_J29 x0 x1 x2 s0 (1 : Int32) h
def f_X10_drop (a0 : Nat) (p1 : Int32) (p2 : Int32) (h : xH) : Option (Int32 × xH) :=
  (pI h 10 a0 0 (0 : Int32)).bind fun h1 =>
  (vc h1 10 a0 (f_X10_isOne a0 (0 : Int32) p1 h1)).bind fun r2 =>
  if r2.1 = (0 : Int32) then
    f_X10_drop_J24 a0 p1 p2 a0 r2.2
  else
    (vc r2.2 10 a0 (f_X10_isOne a0 (1 : Int32) p2 r2.2)).bind fun r3 =>
    if r3.1 = (0 : Int32) then
      f_X10_drop_J24 a0 p1 p2 a0 r3.2
    else
      f_X10_drop_J29 a0 p1 p2 a0 (0 : Int32) r3.2
theorem y_X10_drop {g : xG} {h0 : xH} {cl : Bool} (a0 : Nat) (p1 : Int32) (p2 : Int32) (h : xH) : Y g DX10_drop h0 cl iI (f_X10_drop a0 p1 p2 h) 0 [some (.ref a0), some (.int p1), some (.int p2), none] [] h := by
  unfold f_X10_drop
  refine Y.op (pc' := 1) (fun _ => X.aloadn rfl dX10_drop_0) ?_
  refine Y.op (pc' := 2) (fun _ => X.ic ki_0 dX10_drop_1) ?_
  refine Y.putI fd_X10_82 rfl dX10_drop_2 (fun h1 => ?_)
  refine Y.op (pc' := 6) (fun _ => X.aloadn rfl dX10_drop_5) ?_
  refine Y.op (pc' := 7) (fun _ => X.aloadn rfl dX10_drop_6) ?_
  refine Y.op (pc' := 8) (fun _ => X.ic ki_0 dX10_drop_7) ?_
  refine Y.op (pc' := 9) (fun _ => X.iloadn rfl dX10_drop_8) ?_
  refine Y.callVi (As := [.int (0 : Int32), .int p1]) lk_X10_282 rfl cal_X10_isOne vir_X10_isOne (Nat.le_of_ble_eq_true rfl) (Nat.le_of_ble_eq_true rfl) rfl rfl rfl (Nat.le_of_ble_eq_true rfl) dX10_drop_9 (fun _ e => m_X10_isOne a0 (0 : Int32) p1 h1 _ _ e) (fun r2 => ?_)
  refine Y.ifeq 24 (by decide) dX10_drop_12 ?_ ?_
  · exact y_X10_drop_J24 a0 p1 p2 a0 r2.2
  · refine Y.op (pc' := 16) (fun _ => X.aloadn rfl dX10_drop_15) ?_
    refine Y.op (pc' := 17) (fun _ => X.ic ki_1 dX10_drop_16) ?_
    refine Y.op (pc' := 18) (fun _ => X.iloadn rfl dX10_drop_17) ?_
    refine Y.callVi (As := [.int (1 : Int32), .int p2]) lk_X10_282 rfl cal_X10_isOne vir_X10_isOne (Nat.le_of_ble_eq_true rfl) (Nat.le_of_ble_eq_true rfl) rfl rfl rfl (Nat.le_of_ble_eq_true rfl) dX10_drop_18 (fun _ e => m_X10_isOne a0 (1 : Int32) p2 r2.2 _ _ e) (fun r3 => ?_)
    refine Y.ifne 28 (by decide) dX10_drop_21 ?_ ?_
    · refine Y.op (pc' := 29) (fun _ => X.ic ki_0 dX10_drop_28) ?_
      exact y_X10_drop_J29 a0 p1 p2 a0 (0 : Int32) r3.2
    · exact y_X10_drop_J24 a0 p1 p2 a0 r3.2
theorem m_X10_drop {g : xG} (a0 : Nat) (p1 : Int32) (p2 : Int32) (h : xH) (cl : Bool) (r : Int32 × xH) (e : f_X10_drop a0 p1 p2 h = some r) : XM g DX10_drop [.ref a0, .int p1, .int p2] h cl (iI r) := YM.of rfl rfl (Nat.le_of_ble_eq_true rfl) (y_X10_drop a0 p1 p2 h) e
def f_X10_parts_J29 (h : xH) : Option (xH) :=
  some h
theorem y_X10_parts_J29 {g : xG} {h0 : xH} {cl : Bool} (h : xH) : Y g DX10_parts h0 cl iV (f_X10_parts_J29 h) 29 [none, none, none, none] [] h := by
  unfold f_X10_parts_J29
  exact Y.vreturn rfl dX10_parts_29
def f_X10_parts_J14 (x0 : Nat) (s0 : Int32) (h : xH) : Option (xH) :=
  if s0 = (-1 : Int32) then
    f_X10_parts_J29 h
  else
    (gR h 10 x0 11).bind fun v1 =>
    (aR 102 h v1 (0 : Int32)).bind fun v2 =>
    (sI h v2 s0 (-1 : Int32)).bind fun h3 =>
    f_X10_parts_J29 h3
theorem y_X10_parts_J14 {g : xG} {h0 : xH} {cl : Bool} (x0 : Nat) (s0 : Int32) (h : xH) : Y g DX10_parts h0 cl iV (f_X10_parts_J14 x0 s0 h) 14 [some (.ref x0), none, none, none] [.int s0] h := by
  unfold f_X10_parts_J14
  refine Y.op (pc' := 15) (loc' := [some (.ref x0), none, none, some (.int s0)]) (fun _ => X.istoren (Nat.le_of_ble_eq_true rfl) rfl dX10_parts_14) ?_
  refine Y.op (pc' := 16) (fun _ => X.iloadn rfl dX10_parts_15) ?_
  refine Y.op (pc' := 17) (fun _ => X.ic ki_m1 dX10_parts_16) ?_
  refine Y.cmpeq 29 (by decide) dX10_parts_17 ?_ ?_
  · exact Y.fg (y_X10_parts_J29 h) trivial
  · refine Y.op (pc' := 21) (fun _ => X.aloadn rfl dX10_parts_20) ?_
    refine Y.getR fd_X10_28 rfl dX10_parts_21 (fun v1 => ?_)
    refine Y.op (pc' := 25) (fun _ => X.ic ki_0 dX10_parts_24) ?_
    refine Y.aldR 102 (by decide) (by decide) dX10_parts_25 (fun v2 => ?_)
    refine Y.op (pc' := 27) (fun _ => X.iloadn rfl dX10_parts_26) ?_
    refine Y.op (pc' := 28) (fun _ => X.ic ki_m1 dX10_parts_27) ?_
    refine Y.astI dX10_parts_28 (fun h3 => ?_)
    exact Y.fg (y_X10_parts_J29 h3) trivial
def f_X10_parts (a0 : Nat) (p1 : Int32) (p2 : Int32) (h : xH) : Option (xH) :=
  if p1 = (0 : Int32) then
    f_X10_parts_J14 a0 p2 h
  else
    (vc h 10 a0 (f_X10_partnerOf a0 (1 : Int32) p2 h)).bind fun r1 =>
    f_X10_parts_J14 a0 r1.1 r1.2
theorem y_X10_parts {g : xG} {h0 : xH} {cl : Bool} (a0 : Nat) (p1 : Int32) (p2 : Int32) (h : xH) : Y g DX10_parts h0 cl iV (f_X10_parts a0 p1 p2 h) 0 [some (.ref a0), some (.int p1), some (.int p2), none] [] h := by
  unfold f_X10_parts
  refine Y.op (pc' := 1) (fun _ => X.iloadn rfl dX10_parts_0) ?_
  refine Y.ifne 8 (by decide) dX10_parts_1 ?_ ?_
  · refine Y.op (pc' := 9) (fun _ => X.aloadn rfl dX10_parts_8) ?_
    refine Y.op (pc' := 10) (fun _ => X.ic ki_1 dX10_parts_9) ?_
    refine Y.op (pc' := 11) (fun _ => X.iloadn rfl dX10_parts_10) ?_
    refine Y.callVi (As := [.int (1 : Int32), .int p2]) lk_X10_243 rfl cal_X10_partnerOf vir_X10_partnerOf (Nat.le_of_ble_eq_true rfl) (Nat.le_of_ble_eq_true rfl) rfl rfl rfl (Nat.le_of_ble_eq_true rfl) dX10_parts_11 (fun _ e => m_X10_partnerOf a0 (1 : Int32) p2 h _ _ e) (fun r1 => ?_)
    exact Y.fg (y_X10_parts_J14 a0 r1.1 r1.2) (And.intro rfl trivial)
  · refine Y.op (pc' := 5) (fun _ => X.iloadn rfl dX10_parts_4) ?_
    refine Y.op (pc' := 14) (fun _ => X.goto 14 (by decide) dX10_parts_5) ?_
    exact Y.fg (y_X10_parts_J14 a0 p2 h) (And.intro rfl trivial)
theorem m_X10_parts {g : xG} (a0 : Nat) (p1 : Int32) (p2 : Int32) (h : xH) (cl : Bool) (r : xH) (e : f_X10_parts a0 p1 p2 h = some r) : XM g DX10_parts [.ref a0, .int p1, .int p2] h cl (iV r) := YM.of rfl rfl (Nat.le_of_ble_eq_true rfl) (y_X10_parts a0 p1 p2 h) e
def f_X10_is_J105 (x0 : Nat) (x2 : Int32) (x4 : Int32) (s0 : Nat) (s1 : Int32) (h : xH) : Option (Int32 × xH) :=
  (aI h s0 s1).bind fun v1 =>
  (sI h s0 s1 (v1 ^^^ ((1 : Int32) <<< (x2 &&& 31)))).bind fun h2 =>
  (vc h2 10 x0 (f_X10_keeps x0 h2)).bind fun h3 =>
  some (x4, h3)
theorem y_X10_is_J105 {g : xG} {h0 : xH} {cl : Bool} (x0 : Nat) (x2 : Int32) (x4 : Int32) (s0 : Nat) (s1 : Int32) (h : xH) : Y g DX10_is h0 cl iI (f_X10_is_J105 x0 x2 x4 s0 s1 h) 105 [some (.ref x0), none, some (.int x2), none, some (.int x4)] [.int s1, .ref s0] h := by
  unfold f_X10_is_J105
  refine Y.op (pc' := 106) (fun _ => X.dup2 rfl rfl dX10_is_105) ?_
  refine Y.aldI dX10_is_106 (fun v1 => ?_)
  refine Y.op (pc' := 108) (fun _ => X.ic ki_1 dX10_is_107) ?_
  refine Y.op (pc' := 109) (fun _ => X.iloadn rfl dX10_is_108) ?_
  refine Y.op (pc' := 110) (fun _ => X.ishl dX10_is_109) ?_
  refine Y.op (pc' := 111) (fun _ => X.ixor dX10_is_110) ?_
  refine Y.astI dX10_is_111 (fun h2 => ?_)
  refine Y.op (pc' := 113) (fun _ => X.aloadn rfl dX10_is_112) ?_
  refine Y.callVv (As := []) lk_X10_234 rfl cal_X10_keeps vir_X10_keeps (Nat.le_of_ble_eq_true rfl) (Nat.le_of_ble_eq_true rfl) rfl rfl rfl (Nat.le_of_ble_eq_true rfl) dX10_is_113 (fun _ e => m_X10_keeps x0 h2 _ _ e) (fun h3 => ?_)
  refine Y.op (pc' := 118) (fun _ => X.iload rfl dX10_is_116) ?_
  exact Y.ireturn rfl dX10_is_118
def f_X10_is_J70 (h : xH) : Option (Int32 × xH) :=
  some ((0 : Int32), h)
theorem y_X10_is_J70 {g : xG} {h0 : xH} {cl : Bool} (h : xH) : Y g DX10_is h0 cl iI (f_X10_is_J70 h) 70 [none, none, none, none, none] [] h := by
  unfold f_X10_is_J70
  refine Y.op (pc' := 71) (fun _ => X.ic ki_0 dX10_is_70) ?_
  exact Y.ireturn rfl dX10_is_71
def f_X10_is_J62 (x0 : Nat) (x1 : Int32) (x2 : Int32) (s0 : Nat) (s1 : Int32) (h : xH) : Option (Int32 × xH) :=
  (vc h 10 s0 (f_X10_bad s0 s1 (2 : Int32) (1 : Int32) h)).bind fun r1 =>
  if r1.1 = (0 : Int32) then
    (vc r1.2 10 x0 (f_X10_remembers x0 r1.2)).bind fun h2 =>
    (vc h2 10 x0 (f_X10_partnerOf x0 x1 x2 h2)).bind fun r3 =>
    (vc r3.2 10 x0 (f_X10_parts x0 x1 x2 r3.2)).bind fun h4 =>
    (gR h4 10 x0 9).bind fun v5 =>
    (aR 102 h4 v5 (0 : Int32)).bind fun v6 =>
    if x1 = (0 : Int32) then
      f_X10_is_J105 x0 x2 r3.1 v6 (3 : Int32) h4
    else
      f_X10_is_J105 x0 x2 r3.1 v6 (4 : Int32) h4
  else
    f_X10_is_J70 r1.2
theorem y_X10_is_J62 {g : xG} {h0 : xH} {cl : Bool} (x0 : Nat) (x1 : Int32) (x2 : Int32) (s0 : Nat) (s1 : Int32) (h : xH) : Y g DX10_is h0 cl iI (f_X10_is_J62 x0 x1 x2 s0 s1 h) 62 [some (.ref x0), some (.int x1), some (.int x2), none, none] [.int s1, .ref s0] h := by
  unfold f_X10_is_J62
  refine Y.op (pc' := 63) (fun _ => X.ic ki_2 dX10_is_62) ?_
  refine Y.op (pc' := 64) (fun _ => X.ic ki_1 dX10_is_63) ?_
  refine Y.callVi (As := [.int s1, .int (2 : Int32), .int (1 : Int32)]) lk_X10_217 rfl cal_X10_bad vir_X10_bad (Nat.le_of_ble_eq_true rfl) (Nat.le_of_ble_eq_true rfl) rfl rfl rfl (Nat.le_of_ble_eq_true rfl) dX10_is_64 (fun _ e => m_X10_bad s0 s1 (2 : Int32) (1 : Int32) h _ _ e) (fun r1 => ?_)
  refine Y.ifeq 72 (by decide) dX10_is_67 ?_ ?_
  · refine Y.op (pc' := 73) (fun _ => X.aloadn rfl dX10_is_72) ?_
    refine Y.callVv (As := []) lk_X10_383 rfl cal_X10_remembers vir_X10_remembers (Nat.le_of_ble_eq_true rfl) (Nat.le_of_ble_eq_true rfl) rfl rfl rfl (Nat.le_of_ble_eq_true rfl) dX10_is_73 (fun _ e => m_X10_remembers x0 r1.2 _ _ e) (fun h2 => ?_)
    refine Y.op (pc' := 77) (fun _ => X.aloadn rfl dX10_is_76) ?_
    refine Y.op (pc' := 78) (fun _ => X.iloadn rfl dX10_is_77) ?_
    refine Y.op (pc' := 79) (fun _ => X.iloadn rfl dX10_is_78) ?_
    refine Y.callVi (As := [.int x1, .int x2]) lk_X10_243 rfl cal_X10_partnerOf vir_X10_partnerOf (Nat.le_of_ble_eq_true rfl) (Nat.le_of_ble_eq_true rfl) rfl rfl rfl (Nat.le_of_ble_eq_true rfl) dX10_is_79 (fun _ e => m_X10_partnerOf x0 x1 x2 h2 _ _ e) (fun r3 => ?_)
    refine Y.op (pc' := 84) (loc' := [some (.ref x0), some (.int x1), some (.int x2), none, some (.int r3.1)]) (fun _ => X.istore (Nat.le_of_ble_eq_true rfl) rfl dX10_is_82) ?_
    refine Y.op (pc' := 85) (fun _ => X.aloadn rfl dX10_is_84) ?_
    refine Y.op (pc' := 86) (fun _ => X.iloadn rfl dX10_is_85) ?_
    refine Y.op (pc' := 87) (fun _ => X.iloadn rfl dX10_is_86) ?_
    refine Y.callVv (As := [.int x1, .int x2]) lk_X10_386 rfl cal_X10_parts vir_X10_parts (Nat.le_of_ble_eq_true rfl) (Nat.le_of_ble_eq_true rfl) rfl rfl rfl (Nat.le_of_ble_eq_true rfl) dX10_is_87 (fun _ e => m_X10_parts x0 x1 x2 r3.2 _ _ e) (fun h4 => ?_)
    refine Y.op (pc' := 91) (fun _ => X.aloadn rfl dX10_is_90) ?_
    refine Y.getR fd_X10_22 rfl dX10_is_91 (fun v5 => ?_)
    refine Y.op (pc' := 95) (fun _ => X.ic ki_0 dX10_is_94) ?_
    refine Y.aldR 102 (by decide) (by decide) dX10_is_95 (fun v6 => ?_)
    refine Y.op (pc' := 97) (fun _ => X.iloadn rfl dX10_is_96) ?_
    refine Y.ifne 104 (by decide) dX10_is_97 ?_ ?_
    · refine Y.op (pc' := 105) (fun _ => X.ic ki_4 dX10_is_104) ?_
      exact Y.fg (y_X10_is_J105 x0 x2 r3.1 v6 (4 : Int32) h4) (And.intro rfl (And.intro rfl (And.intro rfl trivial)))
    · refine Y.op (pc' := 101) (fun _ => X.ic ki_3 dX10_is_100) ?_
      refine Y.op (pc' := 105) (fun _ => X.goto 105 (by decide) dX10_is_101) ?_
      exact Y.fg (y_X10_is_J105 x0 x2 r3.1 v6 (3 : Int32) h4) (And.intro rfl (And.intro rfl (And.intro rfl trivial)))
  · exact Y.fg (y_X10_is_J70 r1.2) trivial
def f_X10_is_J57 (x0 : Nat) (x1 : Int32) (x2 : Int32) (s0 : Nat) (h : xH) : Option (Int32 × xH) :=
  f_X10_is_J62 x0 x1 x2 s0 (1 : Int32) h
theorem y_X10_is_J57 {g : xG} {h0 : xH} {cl : Bool} (x0 : Nat) (x1 : Int32) (x2 : Int32) (s0 : Nat) (h : xH) : Y g DX10_is h0 cl iI (f_X10_is_J57 x0 x1 x2 s0 h) 57 [some (.ref x0), some (.int x1), some (.int x2), none, none] [.ref s0] h := by
  unfold f_X10_is_J57
  refine Y.op (pc' := 58) (fun _ => X.ic ki_1 dX10_is_57) ?_
  refine Y.op (pc' := 62) (fun _ => X.goto 62 (by decide) dX10_is_58) ?_
  exact y_X10_is_J62 x0 x1 x2 s0 (1 : Int32) h
def f_X10_is_J54 (x0 : Nat) (x1 : Int32) (x2 : Int32) (s0 : Nat) (s1 : Int32) (s2 : Int32) (h : xH) : Option (Int32 × xH) :=
  if s1 = s2 then
    f_X10_is_J57 x0 x1 x2 s0 h
  else
    f_X10_is_J62 x0 x1 x2 s0 (0 : Int32) h
theorem y_X10_is_J54 {g : xG} {h0 : xH} {cl : Bool} (x0 : Nat) (x1 : Int32) (x2 : Int32) (s0 : Nat) (s1 : Int32) (s2 : Int32) (h : xH) : Y g DX10_is h0 cl iI (f_X10_is_J54 x0 x1 x2 s0 s1 s2 h) 54 [some (.ref x0), some (.int x1), some (.int x2), none, none] [.int s2, .int s1, .ref s0] h := by
  unfold f_X10_is_J54
  refine Y.cmpne 61 (by decide) dX10_is_54 ?_ ?_
  · refine Y.op (pc' := 62) (fun _ => X.ic ki_0 dX10_is_61) ?_
    exact y_X10_is_J62 x0 x1 x2 s0 (0 : Int32) h
  · exact y_X10_is_J57 x0 x1 x2 s0 h
def f_X10_is_J20 (x0 : Nat) (x1 : Int32) (x2 : Int32) (x3 : Int32) (s0 : Nat) (s1 : Int32) (h : xH) : Option (Int32 × xH) :=
  (vc h 10 s0 (f_X10_bad s0 s1 (1 : Int32) (0 : Int32) h)).bind fun r1 =>
  if r1.1 = (0 : Int32) then
    (f_X10_in x3 (0 : Int32) (1 : Int32) r1.2).bind fun r2 =>
    if r2.1 = (0 : Int32) then
      f_X10_is_J57 x0 x1 x2 x0 r2.2
    else
      (vc r2.2 10 x0 (f_X10_isThere x0 x1 x2 r2.2)).bind fun r3 =>
      if x3 = (1 : Int32) then
        f_X10_is_J54 x0 x1 x2 x0 r3.1 (1 : Int32) r3.2
      else
        f_X10_is_J54 x0 x1 x2 x0 r3.1 (0 : Int32) r3.2
  else
    f_X10_is_J70 r1.2
theorem y_X10_is_J20 {g : xG} {h0 : xH} {cl : Bool} (x0 : Nat) (x1 : Int32) (x2 : Int32) (x3 : Int32) (s0 : Nat) (s1 : Int32) (h : xH) : Y g DX10_is h0 cl iI (f_X10_is_J20 x0 x1 x2 x3 s0 s1 h) 20 [some (.ref x0), some (.int x1), some (.int x2), some (.int x3), none] [.int s1, .ref s0] h := by
  unfold f_X10_is_J20
  refine Y.op (pc' := 21) (fun _ => X.ic ki_1 dX10_is_20) ?_
  refine Y.op (pc' := 22) (fun _ => X.ic ki_0 dX10_is_21) ?_
  refine Y.callVi (As := [.int s1, .int (1 : Int32), .int (0 : Int32)]) lk_X10_217 rfl cal_X10_bad vir_X10_bad (Nat.le_of_ble_eq_true rfl) (Nat.le_of_ble_eq_true rfl) rfl rfl rfl (Nat.le_of_ble_eq_true rfl) dX10_is_22 (fun _ e => m_X10_bad s0 s1 (1 : Int32) (0 : Int32) h _ _ e) (fun r1 => ?_)
  refine Y.ifne 70 (by decide) dX10_is_25 ?_ ?_
  · exact Y.fg (y_X10_is_J70 r1.2) trivial
  · refine Y.op (pc' := 29) (fun _ => X.aloadn rfl dX10_is_28) ?_
    refine Y.op (pc' := 30) (fun _ => X.iloadn rfl dX10_is_29) ?_
    refine Y.op (pc' := 31) (fun _ => X.ic ki_0 dX10_is_30) ?_
    refine Y.op (pc' := 32) (fun _ => X.ic ki_1 dX10_is_31) ?_
    refine Y.callSi (As := [.int x3, .int (0 : Int32), .int (1 : Int32)]) lk_X10_127 rfl cal_X10_in sta_X10_in (Nat.le_of_ble_eq_true rfl) rfl rfl (Nat.le_of_ble_eq_true rfl) dX10_is_32 (fun _ e => m_X10_in x3 (0 : Int32) (1 : Int32) r1.2 _ _ e) (fun r2 => ?_)
    refine Y.ifeq 57 (by decide) dX10_is_35 ?_ ?_
    · exact Y.fg (y_X10_is_J57 x0 x1 x2 x0 r2.2) (And.intro rfl (And.intro rfl (And.intro rfl trivial)))
    · refine Y.op (pc' := 39) (fun _ => X.aloadn rfl dX10_is_38) ?_
      refine Y.op (pc' := 40) (fun _ => X.iloadn rfl dX10_is_39) ?_
      refine Y.op (pc' := 41) (fun _ => X.iloadn rfl dX10_is_40) ?_
      refine Y.callVi (As := [.int x1, .int x2]) lk_X10_240 rfl cal_X10_isThere vir_X10_isThere (Nat.le_of_ble_eq_true rfl) (Nat.le_of_ble_eq_true rfl) rfl rfl rfl (Nat.le_of_ble_eq_true rfl) dX10_is_41 (fun _ e => m_X10_isThere x0 x1 x2 r2.2 _ _ e) (fun r3 => ?_)
      refine Y.op (pc' := 45) (fun _ => X.iloadn rfl dX10_is_44) ?_
      refine Y.op (pc' := 46) (fun _ => X.ic ki_1 dX10_is_45) ?_
      refine Y.cmpne 53 (by decide) dX10_is_46 ?_ ?_
      · refine Y.op (pc' := 54) (fun _ => X.ic ki_0 dX10_is_53) ?_
        exact Y.fg (y_X10_is_J54 x0 x1 x2 x0 r3.1 (0 : Int32) r3.2) (And.intro rfl (And.intro rfl (And.intro rfl trivial)))
      · refine Y.op (pc' := 50) (fun _ => X.ic ki_1 dX10_is_49) ?_
        refine Y.op (pc' := 54) (fun _ => X.goto 54 (by decide) dX10_is_50) ?_
        exact Y.fg (y_X10_is_J54 x0 x1 x2 x0 r3.1 (1 : Int32) r3.2) (And.intro rfl (And.intro rfl (And.intro rfl trivial)))
def f_X10_is (a0 : Nat) (p1 : Int32) (p2 : Int32) (p3 : Int32) (h : xH) : Option (Int32 × xH) :=
  (pI h 10 a0 0 (0 : Int32)).bind fun h1 =>
  (vc h1 10 a0 (f_X10_isOne a0 p1 p2 h1)).bind fun r2 =>
  if r2.1 = (0 : Int32) then
    f_X10_is_J20 a0 p1 p2 p3 a0 (1 : Int32) r2.2
  else
    f_X10_is_J20 a0 p1 p2 p3 a0 (0 : Int32) r2.2
theorem y_X10_is {g : xG} {h0 : xH} {cl : Bool} (a0 : Nat) (p1 : Int32) (p2 : Int32) (p3 : Int32) (h : xH) : Y g DX10_is h0 cl iI (f_X10_is a0 p1 p2 p3 h) 0 [some (.ref a0), some (.int p1), some (.int p2), some (.int p3), none] [] h := by
  unfold f_X10_is
  refine Y.op (pc' := 1) (fun _ => X.aloadn rfl dX10_is_0) ?_
  refine Y.op (pc' := 2) (fun _ => X.ic ki_0 dX10_is_1) ?_
  refine Y.putI fd_X10_82 rfl dX10_is_2 (fun h1 => ?_)
  refine Y.op (pc' := 6) (fun _ => X.aloadn rfl dX10_is_5) ?_
  refine Y.op (pc' := 7) (fun _ => X.aloadn rfl dX10_is_6) ?_
  refine Y.op (pc' := 8) (fun _ => X.iloadn rfl dX10_is_7) ?_
  refine Y.op (pc' := 9) (fun _ => X.iloadn rfl dX10_is_8) ?_
  refine Y.callVi (As := [.int p1, .int p2]) lk_X10_282 rfl cal_X10_isOne vir_X10_isOne (Nat.le_of_ble_eq_true rfl) (Nat.le_of_ble_eq_true rfl) rfl rfl rfl (Nat.le_of_ble_eq_true rfl) dX10_is_9 (fun _ e => m_X10_isOne a0 p1 p2 h1 _ _ e) (fun r2 => ?_)
  refine Y.ifne 19 (by decide) dX10_is_12 ?_ ?_
  · refine Y.op (pc' := 20) (fun _ => X.ic ki_0 dX10_is_19) ?_
    exact y_X10_is_J20 a0 p1 p2 p3 a0 (0 : Int32) r2.2
  · refine Y.op (pc' := 16) (fun _ => X.ic ki_1 dX10_is_15) ?_
    refine Y.op (pc' := 20) (fun _ => X.goto 20 (by decide) dX10_is_16) ?_
    exact y_X10_is_J20 a0 p1 p2 p3 a0 (1 : Int32) r2.2
theorem m_X10_is {g : xG} (a0 : Nat) (p1 : Int32) (p2 : Int32) (p3 : Int32) (h : xH) (cl : Bool) (r : Int32 × xH) (e : f_X10_is a0 p1 p2 p3 h = some r) : XM g DX10_is [.ref a0, .int p1, .int p2, .int p3] h cl (iI r) := YM.of rfl rfl (Nat.le_of_ble_eq_true rfl) (y_X10_is a0 p1 p2 p3 h) e
def f_X10_pair_J90 (h : xH) : Option (Int32 × xH) :=
  some ((0 : Int32), h)
theorem y_X10_pair_J90 {g : xG} {h0 : xH} {cl : Bool} (h : xH) : Y g DX10_pair h0 cl iI (f_X10_pair_J90 h) 90 [none, none, none, none] [] h := by
  unfold f_X10_pair_J90
  refine Y.op (pc' := 91) (fun _ => X.ic ki_0 dX10_pair_90) ?_
  exact Y.ireturn rfl dX10_pair_91
def f_X10_pair_J82 (x0 : Nat) (x1 : Int32) (x2 : Int32) (s0 : Nat) (s1 : Int32) (h : xH) : Option (Int32 × xH) :=
  (vc h 10 s0 (f_X10_bad s0 s1 (2 : Int32) (1 : Int32) h)).bind fun r1 =>
  if r1.1 = (0 : Int32) then
    (vc r1.2 10 x0 (f_X10_remembers x0 r1.2)).bind fun h2 =>
    (vc h2 10 x0 (f_X10_parts x0 (0 : Int32) x1 h2)).bind fun h3 =>
    (vc h3 10 x0 (f_X10_parts x0 (1 : Int32) x2 h3)).bind fun h4 =>
    (gR h4 10 x0 11).bind fun v5 =>
    (aR 102 h4 v5 (0 : Int32)).bind fun v6 =>
    (sI h4 v6 x1 x2).bind fun h7 =>
    (vc h7 10 x0 (f_X10_pairs x0 h7)).bind fun r8 =>
    (vc r8.2 10 x0 (f_X10_keeps x0 r8.2)).bind fun h9 =>
    some (r8.1, h9)
  else
    f_X10_pair_J90 r1.2
theorem y_X10_pair_J82 {g : xG} {h0 : xH} {cl : Bool} (x0 : Nat) (x1 : Int32) (x2 : Int32) (s0 : Nat) (s1 : Int32) (h : xH) : Y g DX10_pair h0 cl iI (f_X10_pair_J82 x0 x1 x2 s0 s1 h) 82 [some (.ref x0), some (.int x1), some (.int x2), none] [.int s1, .ref s0] h := by
  unfold f_X10_pair_J82
  refine Y.op (pc' := 83) (fun _ => X.ic ki_2 dX10_pair_82) ?_
  refine Y.op (pc' := 84) (fun _ => X.ic ki_1 dX10_pair_83) ?_
  refine Y.callVi (As := [.int s1, .int (2 : Int32), .int (1 : Int32)]) lk_X10_217 rfl cal_X10_bad vir_X10_bad (Nat.le_of_ble_eq_true rfl) (Nat.le_of_ble_eq_true rfl) rfl rfl rfl (Nat.le_of_ble_eq_true rfl) dX10_pair_84 (fun _ e => m_X10_bad s0 s1 (2 : Int32) (1 : Int32) h _ _ e) (fun r1 => ?_)
  refine Y.ifeq 92 (by decide) dX10_pair_87 ?_ ?_
  · refine Y.op (pc' := 93) (fun _ => X.aloadn rfl dX10_pair_92) ?_
    refine Y.callVv (As := []) lk_X10_383 rfl cal_X10_remembers vir_X10_remembers (Nat.le_of_ble_eq_true rfl) (Nat.le_of_ble_eq_true rfl) rfl rfl rfl (Nat.le_of_ble_eq_true rfl) dX10_pair_93 (fun _ e => m_X10_remembers x0 r1.2 _ _ e) (fun h2 => ?_)
    refine Y.op (pc' := 97) (fun _ => X.aloadn rfl dX10_pair_96) ?_
    refine Y.op (pc' := 98) (fun _ => X.ic ki_0 dX10_pair_97) ?_
    refine Y.op (pc' := 99) (fun _ => X.iloadn rfl dX10_pair_98) ?_
    refine Y.callVv (As := [.int (0 : Int32), .int x1]) lk_X10_386 rfl cal_X10_parts vir_X10_parts (Nat.le_of_ble_eq_true rfl) (Nat.le_of_ble_eq_true rfl) rfl rfl rfl (Nat.le_of_ble_eq_true rfl) dX10_pair_99 (fun _ e => m_X10_parts x0 (0 : Int32) x1 h2 _ _ e) (fun h3 => ?_)
    refine Y.op (pc' := 103) (fun _ => X.aloadn rfl dX10_pair_102) ?_
    refine Y.op (pc' := 104) (fun _ => X.ic ki_1 dX10_pair_103) ?_
    refine Y.op (pc' := 105) (fun _ => X.iloadn rfl dX10_pair_104) ?_
    refine Y.callVv (As := [.int (1 : Int32), .int x2]) lk_X10_386 rfl cal_X10_parts vir_X10_parts (Nat.le_of_ble_eq_true rfl) (Nat.le_of_ble_eq_true rfl) rfl rfl rfl (Nat.le_of_ble_eq_true rfl) dX10_pair_105 (fun _ e => m_X10_parts x0 (1 : Int32) x2 h3 _ _ e) (fun h4 => ?_)
    refine Y.op (pc' := 109) (fun _ => X.aloadn rfl dX10_pair_108) ?_
    refine Y.getR fd_X10_28 rfl dX10_pair_109 (fun v5 => ?_)
    refine Y.op (pc' := 113) (fun _ => X.ic ki_0 dX10_pair_112) ?_
    refine Y.aldR 102 (by decide) (by decide) dX10_pair_113 (fun v6 => ?_)
    refine Y.op (pc' := 115) (fun _ => X.iloadn rfl dX10_pair_114) ?_
    refine Y.op (pc' := 116) (fun _ => X.iloadn rfl dX10_pair_115) ?_
    refine Y.astI dX10_pair_116 (fun h7 => ?_)
    refine Y.op (pc' := 118) (fun _ => X.aloadn rfl dX10_pair_117) ?_
    refine Y.callVi (As := []) lk_X10_237 rfl cal_X10_pairs vir_X10_pairs (Nat.le_of_ble_eq_true rfl) (Nat.le_of_ble_eq_true rfl) rfl rfl rfl (Nat.le_of_ble_eq_true rfl) dX10_pair_118 (fun _ e => m_X10_pairs x0 h7 _ _ e) (fun r8 => ?_)
    refine Y.op (pc' := 122) (loc' := [some (.ref x0), some (.int x1), some (.int x2), some (.int r8.1)]) (fun _ => X.istoren (Nat.le_of_ble_eq_true rfl) rfl dX10_pair_121) ?_
    refine Y.op (pc' := 123) (fun _ => X.aloadn rfl dX10_pair_122) ?_
    refine Y.callVv (As := []) lk_X10_234 rfl cal_X10_keeps vir_X10_keeps (Nat.le_of_ble_eq_true rfl) (Nat.le_of_ble_eq_true rfl) rfl rfl rfl (Nat.le_of_ble_eq_true rfl) dX10_pair_123 (fun _ e => m_X10_keeps x0 r8.2 _ _ e) (fun h9 => ?_)
    refine Y.op (pc' := 127) (fun _ => X.iloadn rfl dX10_pair_126) ?_
    exact Y.ireturn rfl dX10_pair_127
  · exact Y.fg (y_X10_pair_J90 r1.2) trivial
def f_X10_pair_J77 (x0 : Nat) (x1 : Int32) (x2 : Int32) (s0 : Nat) (h : xH) : Option (Int32 × xH) :=
  f_X10_pair_J82 x0 x1 x2 s0 (1 : Int32) h
theorem y_X10_pair_J77 {g : xG} {h0 : xH} {cl : Bool} (x0 : Nat) (x1 : Int32) (x2 : Int32) (s0 : Nat) (h : xH) : Y g DX10_pair h0 cl iI (f_X10_pair_J77 x0 x1 x2 s0 h) 77 [some (.ref x0), some (.int x1), some (.int x2), none] [.ref s0] h := by
  unfold f_X10_pair_J77
  refine Y.op (pc' := 78) (fun _ => X.ic ki_1 dX10_pair_77) ?_
  refine Y.op (pc' := 82) (fun _ => X.goto 82 (by decide) dX10_pair_78) ?_
  exact y_X10_pair_J82 x0 x1 x2 s0 (1 : Int32) h
def f_X10_pair_J29 (x0 : Nat) (x1 : Int32) (x2 : Int32) (s0 : Nat) (s1 : Int32) (h : xH) : Option (Int32 × xH) :=
  (vc h 10 s0 (f_X10_bad s0 s1 (1 : Int32) (0 : Int32) h)).bind fun r1 =>
  if r1.1 = (0 : Int32) then
    (vc r1.2 10 x0 (f_X10_isFit x0 x1 x2 r1.2)).bind fun r2 =>
    if r2.1 = (0 : Int32) then
      f_X10_pair_J77 x0 x1 x2 x0 r2.2
    else
      (vc r2.2 10 x0 (f_X10_isThere x0 (0 : Int32) x1 r2.2)).bind fun r3 =>
      if r3.1 = (0 : Int32) then
        f_X10_pair_J77 x0 x1 x2 x0 r3.2
      else
        (vc r3.2 10 x0 (f_X10_isThere x0 (1 : Int32) x2 r3.2)).bind fun r4 =>
        if r4.1 = (0 : Int32) then
          f_X10_pair_J77 x0 x1 x2 x0 r4.2
        else
          (gR r4.2 10 x0 11).bind fun v5 =>
          (aR 102 r4.2 v5 (0 : Int32)).bind fun v6 =>
          (aI r4.2 v6 x1).bind fun v7 =>
          if v7 = x2 then
            f_X10_pair_J77 x0 x1 x2 x0 r4.2
          else
            f_X10_pair_J82 x0 x1 x2 x0 (0 : Int32) r4.2
  else
    f_X10_pair_J90 r1.2
theorem y_X10_pair_J29 {g : xG} {h0 : xH} {cl : Bool} (x0 : Nat) (x1 : Int32) (x2 : Int32) (s0 : Nat) (s1 : Int32) (h : xH) : Y g DX10_pair h0 cl iI (f_X10_pair_J29 x0 x1 x2 s0 s1 h) 29 [some (.ref x0), some (.int x1), some (.int x2), none] [.int s1, .ref s0] h := by
  unfold f_X10_pair_J29
  refine Y.op (pc' := 30) (fun _ => X.ic ki_1 dX10_pair_29) ?_
  refine Y.op (pc' := 31) (fun _ => X.ic ki_0 dX10_pair_30) ?_
  refine Y.callVi (As := [.int s1, .int (1 : Int32), .int (0 : Int32)]) lk_X10_217 rfl cal_X10_bad vir_X10_bad (Nat.le_of_ble_eq_true rfl) (Nat.le_of_ble_eq_true rfl) rfl rfl rfl (Nat.le_of_ble_eq_true rfl) dX10_pair_31 (fun _ e => m_X10_bad s0 s1 (1 : Int32) (0 : Int32) h _ _ e) (fun r1 => ?_)
  refine Y.ifne 90 (by decide) dX10_pair_34 ?_ ?_
  · exact Y.fg (y_X10_pair_J90 r1.2) trivial
  · refine Y.op (pc' := 38) (fun _ => X.aloadn rfl dX10_pair_37) ?_
    refine Y.op (pc' := 39) (fun _ => X.aloadn rfl dX10_pair_38) ?_
    refine Y.op (pc' := 40) (fun _ => X.iloadn rfl dX10_pair_39) ?_
    refine Y.op (pc' := 41) (fun _ => X.iloadn rfl dX10_pair_40) ?_
    refine Y.callVi (As := [.int x1, .int x2]) lk_X10_285 rfl cal_X10_isFit vir_X10_isFit (Nat.le_of_ble_eq_true rfl) (Nat.le_of_ble_eq_true rfl) rfl rfl rfl (Nat.le_of_ble_eq_true rfl) dX10_pair_41 (fun _ e => m_X10_isFit x0 x1 x2 r1.2 _ _ e) (fun r2 => ?_)
    refine Y.ifeq 77 (by decide) dX10_pair_44 ?_ ?_
    · exact y_X10_pair_J77 x0 x1 x2 x0 r2.2
    · refine Y.op (pc' := 48) (fun _ => X.aloadn rfl dX10_pair_47) ?_
      refine Y.op (pc' := 49) (fun _ => X.ic ki_0 dX10_pair_48) ?_
      refine Y.op (pc' := 50) (fun _ => X.iloadn rfl dX10_pair_49) ?_
      refine Y.callVi (As := [.int (0 : Int32), .int x1]) lk_X10_240 rfl cal_X10_isThere vir_X10_isThere (Nat.le_of_ble_eq_true rfl) (Nat.le_of_ble_eq_true rfl) rfl rfl rfl (Nat.le_of_ble_eq_true rfl) dX10_pair_50 (fun _ e => m_X10_isThere x0 (0 : Int32) x1 r2.2 _ _ e) (fun r3 => ?_)
      refine Y.ifeq 77 (by decide) dX10_pair_53 ?_ ?_
      · exact y_X10_pair_J77 x0 x1 x2 x0 r3.2
      · refine Y.op (pc' := 57) (fun _ => X.aloadn rfl dX10_pair_56) ?_
        refine Y.op (pc' := 58) (fun _ => X.ic ki_1 dX10_pair_57) ?_
        refine Y.op (pc' := 59) (fun _ => X.iloadn rfl dX10_pair_58) ?_
        refine Y.callVi (As := [.int (1 : Int32), .int x2]) lk_X10_240 rfl cal_X10_isThere vir_X10_isThere (Nat.le_of_ble_eq_true rfl) (Nat.le_of_ble_eq_true rfl) rfl rfl rfl (Nat.le_of_ble_eq_true rfl) dX10_pair_59 (fun _ e => m_X10_isThere x0 (1 : Int32) x2 r3.2 _ _ e) (fun r4 => ?_)
        refine Y.ifeq 77 (by decide) dX10_pair_62 ?_ ?_
        · exact y_X10_pair_J77 x0 x1 x2 x0 r4.2
        · refine Y.op (pc' := 66) (fun _ => X.aloadn rfl dX10_pair_65) ?_
          refine Y.getR fd_X10_28 rfl dX10_pair_66 (fun v5 => ?_)
          refine Y.op (pc' := 70) (fun _ => X.ic ki_0 dX10_pair_69) ?_
          refine Y.aldR 102 (by decide) (by decide) dX10_pair_70 (fun v6 => ?_)
          refine Y.op (pc' := 72) (fun _ => X.iloadn rfl dX10_pair_71) ?_
          refine Y.aldI dX10_pair_72 (fun v7 => ?_)
          refine Y.op (pc' := 74) (fun _ => X.iloadn rfl dX10_pair_73) ?_
          refine Y.cmpne 81 (by decide) dX10_pair_74 ?_ ?_
          · refine Y.op (pc' := 82) (fun _ => X.ic ki_0 dX10_pair_81) ?_
            exact y_X10_pair_J82 x0 x1 x2 x0 (0 : Int32) r4.2
          · exact y_X10_pair_J77 x0 x1 x2 x0 r4.2
def f_X10_pair_J24 (x0 : Nat) (x1 : Int32) (x2 : Int32) (s0 : Nat) (h : xH) : Option (Int32 × xH) :=
  f_X10_pair_J29 x0 x1 x2 s0 (1 : Int32) h
theorem y_X10_pair_J24 {g : xG} {h0 : xH} {cl : Bool} (x0 : Nat) (x1 : Int32) (x2 : Int32) (s0 : Nat) (h : xH) : Y g DX10_pair h0 cl iI (f_X10_pair_J24 x0 x1 x2 s0 h) 24 [some (.ref x0), some (.int x1), some (.int x2), none] [.ref s0] h := by
  unfold f_X10_pair_J24
  refine Y.op (pc' := 25) (fun _ => X.ic ki_1 dX10_pair_24) ?_
  refine Y.op (pc' := 29) (fun _ => X.goto 29 (by decide) dX10_pair_25) ?_
  exact y_X10_pair_J29 x0 x1 x2 s0 (1 : Int32) h
def f_X10_pair (a0 : Nat) (p1 : Int32) (p2 : Int32) (h : xH) : Option (Int32 × xH) :=
  (pI h 10 a0 0 (0 : Int32)).bind fun h1 =>
  (vc h1 10 a0 (f_X10_isOne a0 (0 : Int32) p1 h1)).bind fun r2 =>
  if r2.1 = (0 : Int32) then
    f_X10_pair_J24 a0 p1 p2 a0 r2.2
  else
    (vc r2.2 10 a0 (f_X10_isOne a0 (1 : Int32) p2 r2.2)).bind fun r3 =>
    if r3.1 = (0 : Int32) then
      f_X10_pair_J24 a0 p1 p2 a0 r3.2
    else
      f_X10_pair_J29 a0 p1 p2 a0 (0 : Int32) r3.2
theorem y_X10_pair {g : xG} {h0 : xH} {cl : Bool} (a0 : Nat) (p1 : Int32) (p2 : Int32) (h : xH) : Y g DX10_pair h0 cl iI (f_X10_pair a0 p1 p2 h) 0 [some (.ref a0), some (.int p1), some (.int p2), none] [] h := by
  unfold f_X10_pair
  refine Y.op (pc' := 1) (fun _ => X.aloadn rfl dX10_pair_0) ?_
  refine Y.op (pc' := 2) (fun _ => X.ic ki_0 dX10_pair_1) ?_
  refine Y.putI fd_X10_82 rfl dX10_pair_2 (fun h1 => ?_)
  refine Y.op (pc' := 6) (fun _ => X.aloadn rfl dX10_pair_5) ?_
  refine Y.op (pc' := 7) (fun _ => X.aloadn rfl dX10_pair_6) ?_
  refine Y.op (pc' := 8) (fun _ => X.ic ki_0 dX10_pair_7) ?_
  refine Y.op (pc' := 9) (fun _ => X.iloadn rfl dX10_pair_8) ?_
  refine Y.callVi (As := [.int (0 : Int32), .int p1]) lk_X10_282 rfl cal_X10_isOne vir_X10_isOne (Nat.le_of_ble_eq_true rfl) (Nat.le_of_ble_eq_true rfl) rfl rfl rfl (Nat.le_of_ble_eq_true rfl) dX10_pair_9 (fun _ e => m_X10_isOne a0 (0 : Int32) p1 h1 _ _ e) (fun r2 => ?_)
  refine Y.ifeq 24 (by decide) dX10_pair_12 ?_ ?_
  · exact y_X10_pair_J24 a0 p1 p2 a0 r2.2
  · refine Y.op (pc' := 16) (fun _ => X.aloadn rfl dX10_pair_15) ?_
    refine Y.op (pc' := 17) (fun _ => X.ic ki_1 dX10_pair_16) ?_
    refine Y.op (pc' := 18) (fun _ => X.iloadn rfl dX10_pair_17) ?_
    refine Y.callVi (As := [.int (1 : Int32), .int p2]) lk_X10_282 rfl cal_X10_isOne vir_X10_isOne (Nat.le_of_ble_eq_true rfl) (Nat.le_of_ble_eq_true rfl) rfl rfl rfl (Nat.le_of_ble_eq_true rfl) dX10_pair_18 (fun _ e => m_X10_isOne a0 (1 : Int32) p2 r2.2 _ _ e) (fun r3 => ?_)
    refine Y.ifne 28 (by decide) dX10_pair_21 ?_ ?_
    · refine Y.op (pc' := 29) (fun _ => X.ic ki_0 dX10_pair_28) ?_
      exact y_X10_pair_J29 a0 p1 p2 a0 (0 : Int32) r3.2
    · exact y_X10_pair_J24 a0 p1 p2 a0 r3.2
theorem m_X10_pair {g : xG} (a0 : Nat) (p1 : Int32) (p2 : Int32) (h : xH) (cl : Bool) (r : Int32 × xH) (e : f_X10_pair a0 p1 p2 h = some r) : XM g DX10_pair [.ref a0, .int p1, .int p2] h cl (iI r) := YM.of rfl rfl (Nat.le_of_ble_eq_true rfl) (y_X10_pair a0 p1 p2 h) e
def f_X10_part_J54 (h : xH) : Option (Int32 × xH) :=
  some ((0 : Int32), h)
theorem y_X10_part_J54 {g : xG} {h0 : xH} {cl : Bool} (h : xH) : Y g DX10_part h0 cl iI (f_X10_part_J54 h) 54 [none, none, none] [] h := by
  unfold f_X10_part_J54
  refine Y.op (pc' := 55) (fun _ => X.ic ki_0 dX10_part_54) ?_
  exact Y.ireturn rfl dX10_part_55
def f_X10_part_J46 (x0 : Nat) (x1 : Int32) (s0 : Nat) (s1 : Int32) (h : xH) : Option (Int32 × xH) :=
  (vc h 10 s0 (f_X10_bad s0 s1 (2 : Int32) (1 : Int32) h)).bind fun r1 =>
  if r1.1 = (0 : Int32) then
    (vc r1.2 10 x0 (f_X10_remembers x0 r1.2)).bind fun h2 =>
    (gR h2 10 x0 11).bind fun v3 =>
    (aR 102 h2 v3 (0 : Int32)).bind fun v4 =>
    (aI h2 v4 x1).bind fun v5 =>
    (gR h2 10 x0 11).bind fun v6 =>
    (aR 102 h2 v6 (0 : Int32)).bind fun v7 =>
    (sI h2 v7 x1 (-1 : Int32)).bind fun h8 =>
    (vc h8 10 x0 (f_X10_keeps x0 h8)).bind fun h9 =>
    some (v5, h9)
  else
    f_X10_part_J54 r1.2
theorem y_X10_part_J46 {g : xG} {h0 : xH} {cl : Bool} (x0 : Nat) (x1 : Int32) (s0 : Nat) (s1 : Int32) (h : xH) : Y g DX10_part h0 cl iI (f_X10_part_J46 x0 x1 s0 s1 h) 46 [some (.ref x0), some (.int x1), none] [.int s1, .ref s0] h := by
  unfold f_X10_part_J46
  refine Y.op (pc' := 47) (fun _ => X.ic ki_2 dX10_part_46) ?_
  refine Y.op (pc' := 48) (fun _ => X.ic ki_1 dX10_part_47) ?_
  refine Y.callVi (As := [.int s1, .int (2 : Int32), .int (1 : Int32)]) lk_X10_217 rfl cal_X10_bad vir_X10_bad (Nat.le_of_ble_eq_true rfl) (Nat.le_of_ble_eq_true rfl) rfl rfl rfl (Nat.le_of_ble_eq_true rfl) dX10_part_48 (fun _ e => m_X10_bad s0 s1 (2 : Int32) (1 : Int32) h _ _ e) (fun r1 => ?_)
  refine Y.ifeq 56 (by decide) dX10_part_51 ?_ ?_
  · refine Y.op (pc' := 57) (fun _ => X.aloadn rfl dX10_part_56) ?_
    refine Y.callVv (As := []) lk_X10_383 rfl cal_X10_remembers vir_X10_remembers (Nat.le_of_ble_eq_true rfl) (Nat.le_of_ble_eq_true rfl) rfl rfl rfl (Nat.le_of_ble_eq_true rfl) dX10_part_57 (fun _ e => m_X10_remembers x0 r1.2 _ _ e) (fun h2 => ?_)
    refine Y.op (pc' := 61) (fun _ => X.aloadn rfl dX10_part_60) ?_
    refine Y.getR fd_X10_28 rfl dX10_part_61 (fun v3 => ?_)
    refine Y.op (pc' := 65) (fun _ => X.ic ki_0 dX10_part_64) ?_
    refine Y.aldR 102 (by decide) (by decide) dX10_part_65 (fun v4 => ?_)
    refine Y.op (pc' := 67) (fun _ => X.iloadn rfl dX10_part_66) ?_
    refine Y.aldI dX10_part_67 (fun v5 => ?_)
    refine Y.op (pc' := 69) (loc' := [some (.ref x0), some (.int x1), some (.int v5)]) (fun _ => X.istoren (Nat.le_of_ble_eq_true rfl) rfl dX10_part_68) ?_
    refine Y.op (pc' := 70) (fun _ => X.aloadn rfl dX10_part_69) ?_
    refine Y.getR fd_X10_28 rfl dX10_part_70 (fun v6 => ?_)
    refine Y.op (pc' := 74) (fun _ => X.ic ki_0 dX10_part_73) ?_
    refine Y.aldR 102 (by decide) (by decide) dX10_part_74 (fun v7 => ?_)
    refine Y.op (pc' := 76) (fun _ => X.iloadn rfl dX10_part_75) ?_
    refine Y.op (pc' := 77) (fun _ => X.ic ki_m1 dX10_part_76) ?_
    refine Y.astI dX10_part_77 (fun h8 => ?_)
    refine Y.op (pc' := 79) (fun _ => X.aloadn rfl dX10_part_78) ?_
    refine Y.callVv (As := []) lk_X10_234 rfl cal_X10_keeps vir_X10_keeps (Nat.le_of_ble_eq_true rfl) (Nat.le_of_ble_eq_true rfl) rfl rfl rfl (Nat.le_of_ble_eq_true rfl) dX10_part_79 (fun _ e => m_X10_keeps x0 h8 _ _ e) (fun h9 => ?_)
    refine Y.op (pc' := 83) (fun _ => X.iloadn rfl dX10_part_82) ?_
    exact Y.ireturn rfl dX10_part_83
  · exact Y.fg (y_X10_part_J54 r1.2) trivial
def f_X10_part_J20 (x0 : Nat) (x1 : Int32) (s0 : Nat) (s1 : Int32) (h : xH) : Option (Int32 × xH) :=
  (vc h 10 s0 (f_X10_bad s0 s1 (1 : Int32) (0 : Int32) h)).bind fun r1 =>
  if r1.1 = (0 : Int32) then
    (gR r1.2 10 x0 11).bind fun v2 =>
    (aR 102 r1.2 v2 (0 : Int32)).bind fun v3 =>
    (aI r1.2 v3 x1).bind fun v4 =>
    if v4 = (-1 : Int32) then
      f_X10_part_J46 x0 x1 x0 (1 : Int32) r1.2
    else
      f_X10_part_J46 x0 x1 x0 (0 : Int32) r1.2
  else
    f_X10_part_J54 r1.2
theorem y_X10_part_J20 {g : xG} {h0 : xH} {cl : Bool} (x0 : Nat) (x1 : Int32) (s0 : Nat) (s1 : Int32) (h : xH) : Y g DX10_part h0 cl iI (f_X10_part_J20 x0 x1 s0 s1 h) 20 [some (.ref x0), some (.int x1), none] [.int s1, .ref s0] h := by
  unfold f_X10_part_J20
  refine Y.op (pc' := 21) (fun _ => X.ic ki_1 dX10_part_20) ?_
  refine Y.op (pc' := 22) (fun _ => X.ic ki_0 dX10_part_21) ?_
  refine Y.callVi (As := [.int s1, .int (1 : Int32), .int (0 : Int32)]) lk_X10_217 rfl cal_X10_bad vir_X10_bad (Nat.le_of_ble_eq_true rfl) (Nat.le_of_ble_eq_true rfl) rfl rfl rfl (Nat.le_of_ble_eq_true rfl) dX10_part_22 (fun _ e => m_X10_bad s0 s1 (1 : Int32) (0 : Int32) h _ _ e) (fun r1 => ?_)
  refine Y.ifne 54 (by decide) dX10_part_25 ?_ ?_
  · exact Y.fg (y_X10_part_J54 r1.2) trivial
  · refine Y.op (pc' := 29) (fun _ => X.aloadn rfl dX10_part_28) ?_
    refine Y.op (pc' := 30) (fun _ => X.aloadn rfl dX10_part_29) ?_
    refine Y.getR fd_X10_28 rfl dX10_part_30 (fun v2 => ?_)
    refine Y.op (pc' := 34) (fun _ => X.ic ki_0 dX10_part_33) ?_
    refine Y.aldR 102 (by decide) (by decide) dX10_part_34 (fun v3 => ?_)
    refine Y.op (pc' := 36) (fun _ => X.iloadn rfl dX10_part_35) ?_
    refine Y.aldI dX10_part_36 (fun v4 => ?_)
    refine Y.op (pc' := 38) (fun _ => X.ic ki_m1 dX10_part_37) ?_
    refine Y.cmpne 45 (by decide) dX10_part_38 ?_ ?_
    · refine Y.op (pc' := 46) (fun _ => X.ic ki_0 dX10_part_45) ?_
      exact y_X10_part_J46 x0 x1 x0 (0 : Int32) r1.2
    · refine Y.op (pc' := 42) (fun _ => X.ic ki_1 dX10_part_41) ?_
      refine Y.op (pc' := 46) (fun _ => X.goto 46 (by decide) dX10_part_42) ?_
      exact y_X10_part_J46 x0 x1 x0 (1 : Int32) r1.2
def f_X10_part (a0 : Nat) (p1 : Int32) (h : xH) : Option (Int32 × xH) :=
  (pI h 10 a0 0 (0 : Int32)).bind fun h1 =>
  (vc h1 10 a0 (f_X10_isOne a0 (0 : Int32) p1 h1)).bind fun r2 =>
  if r2.1 = (0 : Int32) then
    f_X10_part_J20 a0 p1 a0 (1 : Int32) r2.2
  else
    f_X10_part_J20 a0 p1 a0 (0 : Int32) r2.2
theorem y_X10_part {g : xG} {h0 : xH} {cl : Bool} (a0 : Nat) (p1 : Int32) (h : xH) : Y g DX10_part h0 cl iI (f_X10_part a0 p1 h) 0 [some (.ref a0), some (.int p1), none] [] h := by
  unfold f_X10_part
  refine Y.op (pc' := 1) (fun _ => X.aloadn rfl dX10_part_0) ?_
  refine Y.op (pc' := 2) (fun _ => X.ic ki_0 dX10_part_1) ?_
  refine Y.putI fd_X10_82 rfl dX10_part_2 (fun h1 => ?_)
  refine Y.op (pc' := 6) (fun _ => X.aloadn rfl dX10_part_5) ?_
  refine Y.op (pc' := 7) (fun _ => X.aloadn rfl dX10_part_6) ?_
  refine Y.op (pc' := 8) (fun _ => X.ic ki_0 dX10_part_7) ?_
  refine Y.op (pc' := 9) (fun _ => X.iloadn rfl dX10_part_8) ?_
  refine Y.callVi (As := [.int (0 : Int32), .int p1]) lk_X10_282 rfl cal_X10_isOne vir_X10_isOne (Nat.le_of_ble_eq_true rfl) (Nat.le_of_ble_eq_true rfl) rfl rfl rfl (Nat.le_of_ble_eq_true rfl) dX10_part_9 (fun _ e => m_X10_isOne a0 (0 : Int32) p1 h1 _ _ e) (fun r2 => ?_)
  refine Y.ifne 19 (by decide) dX10_part_12 ?_ ?_
  · refine Y.op (pc' := 20) (fun _ => X.ic ki_0 dX10_part_19) ?_
    exact y_X10_part_J20 a0 p1 a0 (0 : Int32) r2.2
  · refine Y.op (pc' := 16) (fun _ => X.ic ki_1 dX10_part_15) ?_
    refine Y.op (pc' := 20) (fun _ => X.goto 20 (by decide) dX10_part_16) ?_
    exact y_X10_part_J20 a0 p1 a0 (1 : Int32) r2.2
theorem m_X10_part {g : xG} (a0 : Nat) (p1 : Int32) (h : xH) (cl : Bool) (r : Int32 × xH) (e : f_X10_part a0 p1 h = some r) : XM g DX10_part [.ref a0, .int p1] h cl (iI r) := YM.of rfl rfl (Nat.le_of_ble_eq_true rfl) (y_X10_part a0 p1 h) e
def f_X10_keep_J20 (x0 : Nat) (x1 : Int32) (s0 : Nat) (s1 : Int32) (h : xH) : Option (Int32 × xH) :=
  (vc h 10 s0 (f_X10_bad s0 s1 (1 : Int32) (1 : Int32) h)).bind fun r1 =>
  if r1.1 = (0 : Int32) then
    (vc r1.2 10 x0 (f_X10_remembers x0 r1.2)).bind fun h2 =>
    (gR h2 10 x0 9).bind fun v3 =>
    (aR 102 h2 v3 (0 : Int32)).bind fun v4 =>
    (aI h2 v4 (2 : Int32)).bind fun v5 =>
    (gR h2 10 x0 9).bind fun v6 =>
    (aR 102 h2 v6 (0 : Int32)).bind fun v7 =>
    (sI h2 v7 (2 : Int32) x1).bind fun h8 =>
    (vc h8 10 x0 (f_X10_keeps x0 h8)).bind fun h9 =>
    some (v5, h9)
  else
    some ((0 : Int32), r1.2)
theorem y_X10_keep_J20 {g : xG} {h0 : xH} {cl : Bool} (x0 : Nat) (x1 : Int32) (s0 : Nat) (s1 : Int32) (h : xH) : Y g DX10_keep h0 cl iI (f_X10_keep_J20 x0 x1 s0 s1 h) 20 [some (.ref x0), some (.int x1), none] [.int s1, .ref s0] h := by
  unfold f_X10_keep_J20
  refine Y.op (pc' := 21) (fun _ => X.ic ki_1 dX10_keep_20) ?_
  refine Y.op (pc' := 22) (fun _ => X.ic ki_1 dX10_keep_21) ?_
  refine Y.callVi (As := [.int s1, .int (1 : Int32), .int (1 : Int32)]) lk_X10_217 rfl cal_X10_bad vir_X10_bad (Nat.le_of_ble_eq_true rfl) (Nat.le_of_ble_eq_true rfl) rfl rfl rfl (Nat.le_of_ble_eq_true rfl) dX10_keep_22 (fun _ e => m_X10_bad s0 s1 (1 : Int32) (1 : Int32) h _ _ e) (fun r1 => ?_)
  refine Y.ifeq 30 (by decide) dX10_keep_25 ?_ ?_
  · refine Y.op (pc' := 31) (fun _ => X.aloadn rfl dX10_keep_30) ?_
    refine Y.callVv (As := []) lk_X10_383 rfl cal_X10_remembers vir_X10_remembers (Nat.le_of_ble_eq_true rfl) (Nat.le_of_ble_eq_true rfl) rfl rfl rfl (Nat.le_of_ble_eq_true rfl) dX10_keep_31 (fun _ e => m_X10_remembers x0 r1.2 _ _ e) (fun h2 => ?_)
    refine Y.op (pc' := 35) (fun _ => X.aloadn rfl dX10_keep_34) ?_
    refine Y.getR fd_X10_22 rfl dX10_keep_35 (fun v3 => ?_)
    refine Y.op (pc' := 39) (fun _ => X.ic ki_0 dX10_keep_38) ?_
    refine Y.aldR 102 (by decide) (by decide) dX10_keep_39 (fun v4 => ?_)
    refine Y.op (pc' := 41) (fun _ => X.ic ki_2 dX10_keep_40) ?_
    refine Y.aldI dX10_keep_41 (fun v5 => ?_)
    refine Y.op (pc' := 43) (loc' := [some (.ref x0), some (.int x1), some (.int v5)]) (fun _ => X.istoren (Nat.le_of_ble_eq_true rfl) rfl dX10_keep_42) ?_
    refine Y.op (pc' := 44) (fun _ => X.aloadn rfl dX10_keep_43) ?_
    refine Y.getR fd_X10_22 rfl dX10_keep_44 (fun v6 => ?_)
    refine Y.op (pc' := 48) (fun _ => X.ic ki_0 dX10_keep_47) ?_
    refine Y.aldR 102 (by decide) (by decide) dX10_keep_48 (fun v7 => ?_)
    refine Y.op (pc' := 50) (fun _ => X.ic ki_2 dX10_keep_49) ?_
    refine Y.op (pc' := 51) (fun _ => X.iloadn rfl dX10_keep_50) ?_
    refine Y.astI dX10_keep_51 (fun h8 => ?_)
    refine Y.op (pc' := 53) (fun _ => X.aloadn rfl dX10_keep_52) ?_
    refine Y.callVv (As := []) lk_X10_234 rfl cal_X10_keeps vir_X10_keeps (Nat.le_of_ble_eq_true rfl) (Nat.le_of_ble_eq_true rfl) rfl rfl rfl (Nat.le_of_ble_eq_true rfl) dX10_keep_53 (fun _ e => m_X10_keeps x0 h8 _ _ e) (fun h9 => ?_)
    refine Y.op (pc' := 57) (fun _ => X.iloadn rfl dX10_keep_56) ?_
    exact Y.ireturn rfl dX10_keep_57
  · refine Y.op (pc' := 29) (fun _ => X.ic ki_0 dX10_keep_28) ?_
    exact Y.ireturn rfl dX10_keep_29
def f_X10_keep (a0 : Nat) (p1 : Int32) (h : xH) : Option (Int32 × xH) :=
  (pI h 10 a0 0 (0 : Int32)).bind fun h1 =>
  (f_X10_in p1 (0 : Int32) (1 : Int32) h1).bind fun r2 =>
  if r2.1 = (0 : Int32) then
    f_X10_keep_J20 a0 p1 a0 (1 : Int32) r2.2
  else
    f_X10_keep_J20 a0 p1 a0 (0 : Int32) r2.2
theorem y_X10_keep {g : xG} {h0 : xH} {cl : Bool} (a0 : Nat) (p1 : Int32) (h : xH) : Y g DX10_keep h0 cl iI (f_X10_keep a0 p1 h) 0 [some (.ref a0), some (.int p1), none] [] h := by
  unfold f_X10_keep
  refine Y.op (pc' := 1) (fun _ => X.aloadn rfl dX10_keep_0) ?_
  refine Y.op (pc' := 2) (fun _ => X.ic ki_0 dX10_keep_1) ?_
  refine Y.putI fd_X10_82 rfl dX10_keep_2 (fun h1 => ?_)
  refine Y.op (pc' := 6) (fun _ => X.aloadn rfl dX10_keep_5) ?_
  refine Y.op (pc' := 7) (fun _ => X.iloadn rfl dX10_keep_6) ?_
  refine Y.op (pc' := 8) (fun _ => X.ic ki_0 dX10_keep_7) ?_
  refine Y.op (pc' := 9) (fun _ => X.ic ki_1 dX10_keep_8) ?_
  refine Y.callSi (As := [.int p1, .int (0 : Int32), .int (1 : Int32)]) lk_X10_127 rfl cal_X10_in sta_X10_in (Nat.le_of_ble_eq_true rfl) rfl rfl (Nat.le_of_ble_eq_true rfl) dX10_keep_9 (fun _ e => m_X10_in p1 (0 : Int32) (1 : Int32) h1 _ _ e) (fun r2 => ?_)
  refine Y.ifne 19 (by decide) dX10_keep_12 ?_ ?_
  · refine Y.op (pc' := 20) (fun _ => X.ic ki_0 dX10_keep_19) ?_
    exact y_X10_keep_J20 a0 p1 a0 (0 : Int32) r2.2
  · refine Y.op (pc' := 16) (fun _ => X.ic ki_1 dX10_keep_15) ?_
    refine Y.op (pc' := 20) (fun _ => X.goto 20 (by decide) dX10_keep_16) ?_
    exact y_X10_keep_J20 a0 p1 a0 (1 : Int32) r2.2
theorem m_X10_keep {g : xG} (a0 : Nat) (p1 : Int32) (h : xH) (cl : Bool) (r : Int32 × xH) (e : f_X10_keep a0 p1 h = some r) : XM g DX10_keep [.ref a0, .int p1] h cl (iI r) := YM.of rfl rfl (Nat.le_of_ble_eq_true rfl) (y_X10_keep a0 p1 h) e
def f_X10_weight_J52 (h : xH) : Option (Int32 × xH) :=
  some ((0 : Int32), h)
theorem y_X10_weight_J52 {g : xG} {h0 : xH} {cl : Bool} (h : xH) : Y g DX10_weight h0 cl iI (f_X10_weight_J52 h) 52 [none, none, none, none] [] h := by
  unfold f_X10_weight_J52
  refine Y.op (pc' := 53) (fun _ => X.ic ki_0 dX10_weight_52) ?_
  exact Y.ireturn rfl dX10_weight_53
def f_X10_weight_J44 (x0 : Nat) (x1 : Int32) (x2 : Int32) (s0 : Nat) (s1 : Int32) (h : xH) : Option (Int32 × xH) :=
  (vc h 10 s0 (f_X10_bad s0 s1 (2 : Int32) (1 : Int32) h)).bind fun r1 =>
  if r1.1 = (0 : Int32) then
    (vc r1.2 10 x0 (f_X10_remembers x0 r1.2)).bind fun h2 =>
    (gR h2 10 x0 12).bind fun v3 =>
    (aR 102 h2 v3 (0 : Int32)).bind fun v4 =>
    (aI h2 v4 x1).bind fun v5 =>
    (gR h2 10 x0 12).bind fun v6 =>
    (aR 102 h2 v6 (0 : Int32)).bind fun v7 =>
    (sI h2 v7 x1 x2).bind fun h8 =>
    (vc h8 10 x0 (f_X10_keeps x0 h8)).bind fun h9 =>
    some (v5, h9)
  else
    f_X10_weight_J52 r1.2
theorem y_X10_weight_J44 {g : xG} {h0 : xH} {cl : Bool} (x0 : Nat) (x1 : Int32) (x2 : Int32) (s0 : Nat) (s1 : Int32) (h : xH) : Y g DX10_weight h0 cl iI (f_X10_weight_J44 x0 x1 x2 s0 s1 h) 44 [some (.ref x0), some (.int x1), some (.int x2), none] [.int s1, .ref s0] h := by
  unfold f_X10_weight_J44
  refine Y.op (pc' := 45) (fun _ => X.ic ki_2 dX10_weight_44) ?_
  refine Y.op (pc' := 46) (fun _ => X.ic ki_1 dX10_weight_45) ?_
  refine Y.callVi (As := [.int s1, .int (2 : Int32), .int (1 : Int32)]) lk_X10_217 rfl cal_X10_bad vir_X10_bad (Nat.le_of_ble_eq_true rfl) (Nat.le_of_ble_eq_true rfl) rfl rfl rfl (Nat.le_of_ble_eq_true rfl) dX10_weight_46 (fun _ e => m_X10_bad s0 s1 (2 : Int32) (1 : Int32) h _ _ e) (fun r1 => ?_)
  refine Y.ifeq 54 (by decide) dX10_weight_49 ?_ ?_
  · refine Y.op (pc' := 55) (fun _ => X.aloadn rfl dX10_weight_54) ?_
    refine Y.callVv (As := []) lk_X10_383 rfl cal_X10_remembers vir_X10_remembers (Nat.le_of_ble_eq_true rfl) (Nat.le_of_ble_eq_true rfl) rfl rfl rfl (Nat.le_of_ble_eq_true rfl) dX10_weight_55 (fun _ e => m_X10_remembers x0 r1.2 _ _ e) (fun h2 => ?_)
    refine Y.op (pc' := 59) (fun _ => X.aloadn rfl dX10_weight_58) ?_
    refine Y.getR fd_X10_31 rfl dX10_weight_59 (fun v3 => ?_)
    refine Y.op (pc' := 63) (fun _ => X.ic ki_0 dX10_weight_62) ?_
    refine Y.aldR 102 (by decide) (by decide) dX10_weight_63 (fun v4 => ?_)
    refine Y.op (pc' := 65) (fun _ => X.iloadn rfl dX10_weight_64) ?_
    refine Y.aldI dX10_weight_65 (fun v5 => ?_)
    refine Y.op (pc' := 67) (loc' := [some (.ref x0), some (.int x1), some (.int x2), some (.int v5)]) (fun _ => X.istoren (Nat.le_of_ble_eq_true rfl) rfl dX10_weight_66) ?_
    refine Y.op (pc' := 68) (fun _ => X.aloadn rfl dX10_weight_67) ?_
    refine Y.getR fd_X10_31 rfl dX10_weight_68 (fun v6 => ?_)
    refine Y.op (pc' := 72) (fun _ => X.ic ki_0 dX10_weight_71) ?_
    refine Y.aldR 102 (by decide) (by decide) dX10_weight_72 (fun v7 => ?_)
    refine Y.op (pc' := 74) (fun _ => X.iloadn rfl dX10_weight_73) ?_
    refine Y.op (pc' := 75) (fun _ => X.iloadn rfl dX10_weight_74) ?_
    refine Y.astI dX10_weight_75 (fun h8 => ?_)
    refine Y.op (pc' := 77) (fun _ => X.aloadn rfl dX10_weight_76) ?_
    refine Y.callVv (As := []) lk_X10_234 rfl cal_X10_keeps vir_X10_keeps (Nat.le_of_ble_eq_true rfl) (Nat.le_of_ble_eq_true rfl) rfl rfl rfl (Nat.le_of_ble_eq_true rfl) dX10_weight_77 (fun _ e => m_X10_keeps x0 h8 _ _ e) (fun h9 => ?_)
    refine Y.op (pc' := 81) (fun _ => X.iloadn rfl dX10_weight_80) ?_
    exact Y.ireturn rfl dX10_weight_81
  · exact Y.fg (y_X10_weight_J52 r1.2) trivial
def f_X10_weight_J20 (x0 : Nat) (x1 : Int32) (x2 : Int32) (s0 : Nat) (s1 : Int32) (h : xH) : Option (Int32 × xH) :=
  (vc h 10 s0 (f_X10_bad s0 s1 (1 : Int32) (0 : Int32) h)).bind fun r1 =>
  if r1.1 = (0 : Int32) then
    (f_X10_in x2 (0 : Int32) (99 : Int32) r1.2).bind fun r2 =>
    if r2.1 = (0 : Int32) then
      f_X10_weight_J44 x0 x1 x2 x0 (1 : Int32) r2.2
    else
      f_X10_weight_J44 x0 x1 x2 x0 (0 : Int32) r2.2
  else
    f_X10_weight_J52 r1.2
theorem y_X10_weight_J20 {g : xG} {h0 : xH} {cl : Bool} (x0 : Nat) (x1 : Int32) (x2 : Int32) (s0 : Nat) (s1 : Int32) (h : xH) : Y g DX10_weight h0 cl iI (f_X10_weight_J20 x0 x1 x2 s0 s1 h) 20 [some (.ref x0), some (.int x1), some (.int x2), none] [.int s1, .ref s0] h := by
  unfold f_X10_weight_J20
  refine Y.op (pc' := 21) (fun _ => X.ic ki_1 dX10_weight_20) ?_
  refine Y.op (pc' := 22) (fun _ => X.ic ki_0 dX10_weight_21) ?_
  refine Y.callVi (As := [.int s1, .int (1 : Int32), .int (0 : Int32)]) lk_X10_217 rfl cal_X10_bad vir_X10_bad (Nat.le_of_ble_eq_true rfl) (Nat.le_of_ble_eq_true rfl) rfl rfl rfl (Nat.le_of_ble_eq_true rfl) dX10_weight_22 (fun _ e => m_X10_bad s0 s1 (1 : Int32) (0 : Int32) h _ _ e) (fun r1 => ?_)
  refine Y.ifne 52 (by decide) dX10_weight_25 ?_ ?_
  · exact Y.fg (y_X10_weight_J52 r1.2) trivial
  · refine Y.op (pc' := 29) (fun _ => X.aloadn rfl dX10_weight_28) ?_
    refine Y.op (pc' := 30) (fun _ => X.iloadn rfl dX10_weight_29) ?_
    refine Y.op (pc' := 31) (fun _ => X.ic ki_0 dX10_weight_30) ?_
    refine Y.op (pc' := 33) (fun _ => X.bp kb_99 dX10_weight_31) ?_
    refine Y.callSi (As := [.int x2, .int (0 : Int32), .int (99 : Int32)]) lk_X10_127 rfl cal_X10_in sta_X10_in (Nat.le_of_ble_eq_true rfl) rfl rfl (Nat.le_of_ble_eq_true rfl) dX10_weight_33 (fun _ e => m_X10_in x2 (0 : Int32) (99 : Int32) r1.2 _ _ e) (fun r2 => ?_)
    refine Y.ifne 43 (by decide) dX10_weight_36 ?_ ?_
    · refine Y.op (pc' := 44) (fun _ => X.ic ki_0 dX10_weight_43) ?_
      exact y_X10_weight_J44 x0 x1 x2 x0 (0 : Int32) r2.2
    · refine Y.op (pc' := 40) (fun _ => X.ic ki_1 dX10_weight_39) ?_
      refine Y.op (pc' := 44) (fun _ => X.goto 44 (by decide) dX10_weight_40) ?_
      exact y_X10_weight_J44 x0 x1 x2 x0 (1 : Int32) r2.2
def f_X10_weight (a0 : Nat) (p1 : Int32) (p2 : Int32) (h : xH) : Option (Int32 × xH) :=
  (pI h 10 a0 0 (0 : Int32)).bind fun h1 =>
  (vc h1 10 a0 (f_X10_isOne a0 (0 : Int32) p1 h1)).bind fun r2 =>
  if r2.1 = (0 : Int32) then
    f_X10_weight_J20 a0 p1 p2 a0 (1 : Int32) r2.2
  else
    f_X10_weight_J20 a0 p1 p2 a0 (0 : Int32) r2.2
theorem y_X10_weight {g : xG} {h0 : xH} {cl : Bool} (a0 : Nat) (p1 : Int32) (p2 : Int32) (h : xH) : Y g DX10_weight h0 cl iI (f_X10_weight a0 p1 p2 h) 0 [some (.ref a0), some (.int p1), some (.int p2), none] [] h := by
  unfold f_X10_weight
  refine Y.op (pc' := 1) (fun _ => X.aloadn rfl dX10_weight_0) ?_
  refine Y.op (pc' := 2) (fun _ => X.ic ki_0 dX10_weight_1) ?_
  refine Y.putI fd_X10_82 rfl dX10_weight_2 (fun h1 => ?_)
  refine Y.op (pc' := 6) (fun _ => X.aloadn rfl dX10_weight_5) ?_
  refine Y.op (pc' := 7) (fun _ => X.aloadn rfl dX10_weight_6) ?_
  refine Y.op (pc' := 8) (fun _ => X.ic ki_0 dX10_weight_7) ?_
  refine Y.op (pc' := 9) (fun _ => X.iloadn rfl dX10_weight_8) ?_
  refine Y.callVi (As := [.int (0 : Int32), .int p1]) lk_X10_282 rfl cal_X10_isOne vir_X10_isOne (Nat.le_of_ble_eq_true rfl) (Nat.le_of_ble_eq_true rfl) rfl rfl rfl (Nat.le_of_ble_eq_true rfl) dX10_weight_9 (fun _ e => m_X10_isOne a0 (0 : Int32) p1 h1 _ _ e) (fun r2 => ?_)
  refine Y.ifne 19 (by decide) dX10_weight_12 ?_ ?_
  · refine Y.op (pc' := 20) (fun _ => X.ic ki_0 dX10_weight_19) ?_
    exact y_X10_weight_J20 a0 p1 p2 a0 (0 : Int32) r2.2
  · refine Y.op (pc' := 16) (fun _ => X.ic ki_1 dX10_weight_15) ?_
    refine Y.op (pc' := 20) (fun _ => X.goto 20 (by decide) dX10_weight_16) ?_
    exact y_X10_weight_J20 a0 p1 p2 a0 (1 : Int32) r2.2
theorem m_X10_weight {g : xG} (a0 : Nat) (p1 : Int32) (p2 : Int32) (h : xH) (cl : Bool) (r : Int32 × xH) (e : f_X10_weight a0 p1 p2 h = some r) : XM g DX10_weight [.ref a0, .int p1, .int p2] h cl (iI r) := YM.of rfl rfl (Nat.le_of_ble_eq_true rfl) (y_X10_weight a0 p1 p2 h) e
def f_X10_gain_J49 (h : xH) : Option (Int32 × xH) :=
  some ((0 : Int32), h)
theorem y_X10_gain_J49 {g : xG} {h0 : xH} {cl : Bool} (h : xH) : Y g DX10_gain h0 cl iI (f_X10_gain_J49 h) 49 [none, none, none, none, none] [] h := by
  unfold f_X10_gain_J49
  refine Y.op (pc' := 50) (fun _ => X.ic ki_0 dX10_gain_49) ?_
  exact Y.ireturn rfl dX10_gain_50
def f_X10_gain (a0 : Nat) (p1 : Int32) (p2 : Int32) (h : xH) : Option (Int32 × xH) :=
  (gR h 10 a0 11).bind fun v1 =>
  (aR 102 h v1 (0 : Int32)).bind fun v2 =>
  (aI h v2 p1).bind fun v3 =>
  (gR h 10 a0 11).bind fun v4 =>
  (aR 102 h v4 (0 : Int32)).bind fun v5 =>
  (aI h v5 p2).bind fun v6 =>
  if v3 = (-1 : Int32) then
    f_X10_gain_J49 h
  else
    if v6 = (-1 : Int32) then
      f_X10_gain_J49 h
    else
      (vc h 10 a0 (f_X10_isFit a0 p1 v6 h)).bind fun r7 =>
      if r7.1 = (0 : Int32) then
        f_X10_gain_J49 r7.2
      else
        (vc r7.2 10 a0 (f_X10_isFit a0 p2 v3 r7.2)).bind fun r8 =>
        if r8.1 = (0 : Int32) then
          f_X10_gain_J49 r8.2
        else
          (gR r8.2 10 a0 13).bind fun v9 =>
          (aR 103 r8.2 v9 (0 : Int32)).bind fun v10 =>
          (aR 102 r8.2 v10 p1).bind fun v11 =>
          (aI r8.2 v11 v3).bind fun v12 =>
          (gR r8.2 10 a0 13).bind fun v13 =>
          (aR 103 r8.2 v13 (0 : Int32)).bind fun v14 =>
          (aR 102 r8.2 v14 p2).bind fun v15 =>
          (aI r8.2 v15 v6).bind fun v16 =>
          (gR r8.2 10 a0 13).bind fun v17 =>
          (aR 103 r8.2 v17 (0 : Int32)).bind fun v18 =>
          (aR 102 r8.2 v18 p1).bind fun v19 =>
          (aI r8.2 v19 v6).bind fun v20 =>
          (gR r8.2 10 a0 13).bind fun v21 =>
          (aR 103 r8.2 v21 (0 : Int32)).bind fun v22 =>
          (aR 102 r8.2 v22 p2).bind fun v23 =>
          (aI r8.2 v23 v3).bind fun v24 =>
          some ((((v12 + v16) - v20) - v24), r8.2)
theorem y_X10_gain {g : xG} {h0 : xH} {cl : Bool} (a0 : Nat) (p1 : Int32) (p2 : Int32) (h : xH) : Y g DX10_gain h0 cl iI (f_X10_gain a0 p1 p2 h) 0 [some (.ref a0), some (.int p1), some (.int p2), none, none] [] h := by
  unfold f_X10_gain
  refine Y.op (pc' := 1) (fun _ => X.aloadn rfl dX10_gain_0) ?_
  refine Y.getR fd_X10_28 rfl dX10_gain_1 (fun v1 => ?_)
  refine Y.op (pc' := 5) (fun _ => X.ic ki_0 dX10_gain_4) ?_
  refine Y.aldR 102 (by decide) (by decide) dX10_gain_5 (fun v2 => ?_)
  refine Y.op (pc' := 7) (fun _ => X.iloadn rfl dX10_gain_6) ?_
  refine Y.aldI dX10_gain_7 (fun v3 => ?_)
  refine Y.op (pc' := 9) (loc' := [some (.ref a0), some (.int p1), some (.int p2), some (.int v3), none]) (fun _ => X.istoren (Nat.le_of_ble_eq_true rfl) rfl dX10_gain_8) ?_
  refine Y.op (pc' := 10) (fun _ => X.aloadn rfl dX10_gain_9) ?_
  refine Y.getR fd_X10_28 rfl dX10_gain_10 (fun v4 => ?_)
  refine Y.op (pc' := 14) (fun _ => X.ic ki_0 dX10_gain_13) ?_
  refine Y.aldR 102 (by decide) (by decide) dX10_gain_14 (fun v5 => ?_)
  refine Y.op (pc' := 16) (fun _ => X.iloadn rfl dX10_gain_15) ?_
  refine Y.aldI dX10_gain_16 (fun v6 => ?_)
  refine Y.op (pc' := 19) (loc' := [some (.ref a0), some (.int p1), some (.int p2), some (.int v3), some (.int v6)]) (fun _ => X.istore (Nat.le_of_ble_eq_true rfl) rfl dX10_gain_17) ?_
  refine Y.op (pc' := 20) (fun _ => X.iloadn rfl dX10_gain_19) ?_
  refine Y.op (pc' := 21) (fun _ => X.ic ki_m1 dX10_gain_20) ?_
  refine Y.cmpeq 49 (by decide) dX10_gain_21 ?_ ?_
  · exact Y.fg (y_X10_gain_J49 h) trivial
  · refine Y.op (pc' := 26) (fun _ => X.iload rfl dX10_gain_24) ?_
    refine Y.op (pc' := 27) (fun _ => X.ic ki_m1 dX10_gain_26) ?_
    refine Y.cmpeq 49 (by decide) dX10_gain_27 ?_ ?_
    · exact Y.fg (y_X10_gain_J49 h) trivial
    · refine Y.op (pc' := 31) (fun _ => X.aloadn rfl dX10_gain_30) ?_
      refine Y.op (pc' := 32) (fun _ => X.iloadn rfl dX10_gain_31) ?_
      refine Y.op (pc' := 34) (fun _ => X.iload rfl dX10_gain_32) ?_
      refine Y.callVi (As := [.int p1, .int v6]) lk_X10_285 rfl cal_X10_isFit vir_X10_isFit (Nat.le_of_ble_eq_true rfl) (Nat.le_of_ble_eq_true rfl) rfl rfl rfl (Nat.le_of_ble_eq_true rfl) dX10_gain_34 (fun _ e => m_X10_isFit a0 p1 v6 h _ _ e) (fun r7 => ?_)
      refine Y.ifeq 49 (by decide) dX10_gain_37 ?_ ?_
      · exact Y.fg (y_X10_gain_J49 r7.2) trivial
      · refine Y.op (pc' := 41) (fun _ => X.aloadn rfl dX10_gain_40) ?_
        refine Y.op (pc' := 42) (fun _ => X.iloadn rfl dX10_gain_41) ?_
        refine Y.op (pc' := 43) (fun _ => X.iloadn rfl dX10_gain_42) ?_
        refine Y.callVi (As := [.int p2, .int v3]) lk_X10_285 rfl cal_X10_isFit vir_X10_isFit (Nat.le_of_ble_eq_true rfl) (Nat.le_of_ble_eq_true rfl) rfl rfl rfl (Nat.le_of_ble_eq_true rfl) dX10_gain_43 (fun _ e => m_X10_isFit a0 p2 v3 r7.2 _ _ e) (fun r8 => ?_)
        refine Y.ifne 51 (by decide) dX10_gain_46 ?_ ?_
        · refine Y.op (pc' := 52) (fun _ => X.aloadn rfl dX10_gain_51) ?_
          refine Y.getR fd_X10_36 rfl dX10_gain_52 (fun v9 => ?_)
          refine Y.op (pc' := 56) (fun _ => X.ic ki_0 dX10_gain_55) ?_
          refine Y.aldR 103 (by decide) (by decide) dX10_gain_56 (fun v10 => ?_)
          refine Y.op (pc' := 58) (fun _ => X.iloadn rfl dX10_gain_57) ?_
          refine Y.aldR 102 (by decide) (by decide) dX10_gain_58 (fun v11 => ?_)
          refine Y.op (pc' := 60) (fun _ => X.iloadn rfl dX10_gain_59) ?_
          refine Y.aldI dX10_gain_60 (fun v12 => ?_)
          refine Y.op (pc' := 62) (fun _ => X.aloadn rfl dX10_gain_61) ?_
          refine Y.getR fd_X10_36 rfl dX10_gain_62 (fun v13 => ?_)
          refine Y.op (pc' := 66) (fun _ => X.ic ki_0 dX10_gain_65) ?_
          refine Y.aldR 103 (by decide) (by decide) dX10_gain_66 (fun v14 => ?_)
          refine Y.op (pc' := 68) (fun _ => X.iloadn rfl dX10_gain_67) ?_
          refine Y.aldR 102 (by decide) (by decide) dX10_gain_68 (fun v15 => ?_)
          refine Y.op (pc' := 71) (fun _ => X.iload rfl dX10_gain_69) ?_
          refine Y.aldI dX10_gain_71 (fun v16 => ?_)
          refine Y.op (pc' := 73) (fun _ => X.iadd dX10_gain_72) ?_
          refine Y.op (pc' := 74) (fun _ => X.aloadn rfl dX10_gain_73) ?_
          refine Y.getR fd_X10_36 rfl dX10_gain_74 (fun v17 => ?_)
          refine Y.op (pc' := 78) (fun _ => X.ic ki_0 dX10_gain_77) ?_
          refine Y.aldR 103 (by decide) (by decide) dX10_gain_78 (fun v18 => ?_)
          refine Y.op (pc' := 80) (fun _ => X.iloadn rfl dX10_gain_79) ?_
          refine Y.aldR 102 (by decide) (by decide) dX10_gain_80 (fun v19 => ?_)
          refine Y.op (pc' := 83) (fun _ => X.iload rfl dX10_gain_81) ?_
          refine Y.aldI dX10_gain_83 (fun v20 => ?_)
          refine Y.op (pc' := 85) (fun _ => X.isub dX10_gain_84) ?_
          refine Y.op (pc' := 86) (fun _ => X.aloadn rfl dX10_gain_85) ?_
          refine Y.getR fd_X10_36 rfl dX10_gain_86 (fun v21 => ?_)
          refine Y.op (pc' := 90) (fun _ => X.ic ki_0 dX10_gain_89) ?_
          refine Y.aldR 103 (by decide) (by decide) dX10_gain_90 (fun v22 => ?_)
          refine Y.op (pc' := 92) (fun _ => X.iloadn rfl dX10_gain_91) ?_
          refine Y.aldR 102 (by decide) (by decide) dX10_gain_92 (fun v23 => ?_)
          refine Y.op (pc' := 94) (fun _ => X.iloadn rfl dX10_gain_93) ?_
          refine Y.aldI dX10_gain_94 (fun v24 => ?_)
          refine Y.op (pc' := 96) (fun _ => X.isub dX10_gain_95) ?_
          exact Y.ireturn rfl dX10_gain_96
        · exact Y.fg (y_X10_gain_J49 r8.2) trivial
theorem m_X10_gain {g : xG} (a0 : Nat) (p1 : Int32) (p2 : Int32) (h : xH) (cl : Bool) (r : Int32 × xH) (e : f_X10_gain a0 p1 p2 h = some r) : XM g DX10_gain [.ref a0, .int p1, .int p2] h cl (iI r) := YM.of rfl rfl (Nat.le_of_ble_eq_true rfl) (y_X10_gain a0 p1 p2 h) e
def f_X10_trade_J88 (x0 : Nat) (x1 : Int32) (x2 : Int32) (x3 : Int32) (h : xH) : Option (Int32 × xH) :=
  if x1 = (0 : Int32) then
    some ((0 : Int32), h)
  else
    (vc h 10 x0 (f_X10_remembers x0 h)).bind fun h1 =>
    (gR h1 10 x0 11).bind fun v2 =>
    (aR 102 h1 v2 (0 : Int32)).bind fun v3 =>
    (aI h1 v3 x2).bind fun v4 =>
    (gR h1 10 x0 11).bind fun v5 =>
    (aR 102 h1 v5 (0 : Int32)).bind fun v6 =>
    (gR h1 10 x0 11).bind fun v7 =>
    (aR 102 h1 v7 (0 : Int32)).bind fun v8 =>
    (aI h1 v8 x3).bind fun v9 =>
    (sI h1 v6 x2 v9).bind fun h10 =>
    (gR h10 10 x0 11).bind fun v11 =>
    (aR 102 h10 v11 (0 : Int32)).bind fun v12 =>
    (sI h10 v12 x3 v4).bind fun h13 =>
    some (x1, h13)
theorem y_X10_trade_J88 {g : xG} {h0 : xH} {cl : Bool} (x0 : Nat) (x1 : Int32) (x2 : Int32) (x3 : Int32) (h : xH) : Y g DX10_trade h0 cl iI (f_X10_trade_J88 x0 x1 x2 x3 h) 88 [some (.ref x0), some (.int x1), some (.int x2), some (.int x3), none, none] [] h := by
  unfold f_X10_trade_J88
  refine Y.op (pc' := 89) (fun _ => X.iloadn rfl dX10_trade_88) ?_
  refine Y.ifne 94 (by decide) dX10_trade_89 ?_ ?_
  · refine Y.op (pc' := 95) (fun _ => X.aloadn rfl dX10_trade_94) ?_
    refine Y.callVv (As := []) lk_X10_383 rfl cal_X10_remembers vir_X10_remembers (Nat.le_of_ble_eq_true rfl) (Nat.le_of_ble_eq_true rfl) rfl rfl rfl (Nat.le_of_ble_eq_true rfl) dX10_trade_95 (fun _ e => m_X10_remembers x0 h _ _ e) (fun h1 => ?_)
    refine Y.op (pc' := 99) (fun _ => X.aloadn rfl dX10_trade_98) ?_
    refine Y.getR fd_X10_28 rfl dX10_trade_99 (fun v2 => ?_)
    refine Y.op (pc' := 103) (fun _ => X.ic ki_0 dX10_trade_102) ?_
    refine Y.aldR 102 (by decide) (by decide) dX10_trade_103 (fun v3 => ?_)
    refine Y.op (pc' := 105) (fun _ => X.iloadn rfl dX10_trade_104) ?_
    refine Y.aldI dX10_trade_105 (fun v4 => ?_)
    refine Y.op (pc' := 108) (loc' := [some (.ref x0), some (.int x1), some (.int x2), some (.int x3), some (.int v4), none]) (fun _ => X.istore (Nat.le_of_ble_eq_true rfl) rfl dX10_trade_106) ?_
    refine Y.op (pc' := 109) (fun _ => X.aloadn rfl dX10_trade_108) ?_
    refine Y.getR fd_X10_28 rfl dX10_trade_109 (fun v5 => ?_)
    refine Y.op (pc' := 113) (fun _ => X.ic ki_0 dX10_trade_112) ?_
    refine Y.aldR 102 (by decide) (by decide) dX10_trade_113 (fun v6 => ?_)
    refine Y.op (pc' := 115) (fun _ => X.iloadn rfl dX10_trade_114) ?_
    refine Y.op (pc' := 116) (fun _ => X.aloadn rfl dX10_trade_115) ?_
    refine Y.getR fd_X10_28 rfl dX10_trade_116 (fun v7 => ?_)
    refine Y.op (pc' := 120) (fun _ => X.ic ki_0 dX10_trade_119) ?_
    refine Y.aldR 102 (by decide) (by decide) dX10_trade_120 (fun v8 => ?_)
    refine Y.op (pc' := 122) (fun _ => X.iloadn rfl dX10_trade_121) ?_
    refine Y.aldI dX10_trade_122 (fun v9 => ?_)
    refine Y.astI dX10_trade_123 (fun h10 => ?_)
    refine Y.op (pc' := 125) (fun _ => X.aloadn rfl dX10_trade_124) ?_
    refine Y.getR fd_X10_28 rfl dX10_trade_125 (fun v11 => ?_)
    refine Y.op (pc' := 129) (fun _ => X.ic ki_0 dX10_trade_128) ?_
    refine Y.aldR 102 (by decide) (by decide) dX10_trade_129 (fun v12 => ?_)
    refine Y.op (pc' := 131) (fun _ => X.iloadn rfl dX10_trade_130) ?_
    refine Y.op (pc' := 133) (fun _ => X.iload rfl dX10_trade_131) ?_
    refine Y.astI dX10_trade_133 (fun h13 => ?_)
    refine Y.op (pc' := 135) (fun _ => X.iloadn rfl dX10_trade_134) ?_
    exact Y.ireturn rfl dX10_trade_135
  · refine Y.op (pc' := 93) (fun _ => X.ic ki_0 dX10_trade_92) ?_
    exact Y.ireturn rfl dX10_trade_93
def f_X10_trade_J82 (kH : Nat → Int32 → Int32 → Int32 → Int32 → xH → Option (Int32 × xH)) (kE88 : Nat → Int32 → Int32 → Int32 → xH → Option (Int32 × xH)) (x0 : Nat) (x1 : Int32) (x2 : Int32) (x3 : Int32) (x4 : Int32) (h : xH) : Option (Int32 × xH) :=
  lt (x4 + (1 : Int32)) fun v1 =>
  kH x0 x1 x2 x3 v1 h
theorem y_X10_trade_J82 {g : xG} {h0 : xH} {cl : Bool} {kH : Nat → Int32 → Int32 → Int32 → Int32 → xH → Option (Int32 × xH)} {kE88 : Nat → Int32 → Int32 → Int32 → xH → Option (Int32 × xH)} (hkH : ∀ (x0 : Nat) (x1 : Int32) (x2 : Int32) (x3 : Int32) (x4 : Int32) (h : xH), Y g DX10_trade h0 cl iI (kH x0 x1 x2 x3 x4 h) 14 [some (.ref x0), some (.int x1), some (.int x2), some (.int x3), some (.int x4), none] [] h) (hkE88 : ∀ (x0 : Nat) (x1 : Int32) (x2 : Int32) (x3 : Int32) (h : xH), Y g DX10_trade h0 cl iI (kE88 x0 x1 x2 x3 h) 88 [some (.ref x0), some (.int x1), some (.int x2), some (.int x3), none, none] [] h) (x0 : Nat) (x1 : Int32) (x2 : Int32) (x3 : Int32) (x4 : Int32) (h : xH) : Y g DX10_trade h0 cl iI (f_X10_trade_J82 kH kE88 x0 x1 x2 x3 x4 h) 82 [some (.ref x0), some (.int x1), some (.int x2), some (.int x3), some (.int x4), none] [] h := by
  unfold f_X10_trade_J82
  refine Y.iinc (i := 4) (loc' := fun v1 => [some (.ref x0), some (.int x1), some (.int x2), some (.int x3), some (.int v1), none]) rfl (Nat.le_of_ble_eq_true rfl) ki_1 (fun _ => rfl) dX10_trade_82 (fun v1 => ?_)
  refine Y.op (pc' := 14) (fun _ => X.goto 14 (by decide) dX10_trade_85) ?_
  exact hkH x0 x1 x2 x3 v1 h
def f_X10_trade_J76 (kH : Nat → Int32 → Int32 → Int32 → Int32 → Int32 → xH → Option (Int32 × xH)) (kE82 : Nat → Int32 → Int32 → Int32 → Int32 → xH → Option (Int32 × xH)) (x0 : Nat) (x1 : Int32) (x2 : Int32) (x3 : Int32) (x4 : Int32) (x5 : Int32) (h : xH) : Option (Int32 × xH) :=
  lt (x5 + (1 : Int32)) fun v1 =>
  kH x0 x1 x2 x3 x4 v1 h
theorem y_X10_trade_J76 {g : xG} {h0 : xH} {cl : Bool} {kH : Nat → Int32 → Int32 → Int32 → Int32 → Int32 → xH → Option (Int32 × xH)} {kE82 : Nat → Int32 → Int32 → Int32 → Int32 → xH → Option (Int32 × xH)} (hkH : ∀ (x0 : Nat) (x1 : Int32) (x2 : Int32) (x3 : Int32) (x4 : Int32) (x5 : Int32) (h : xH), Y g DX10_trade h0 cl iI (kH x0 x1 x2 x3 x4 x5 h) 33 [some (.ref x0), some (.int x1), some (.int x2), some (.int x3), some (.int x4), some (.int x5)] [] h) (hkE82 : ∀ (x0 : Nat) (x1 : Int32) (x2 : Int32) (x3 : Int32) (x4 : Int32) (h : xH), Y g DX10_trade h0 cl iI (kE82 x0 x1 x2 x3 x4 h) 82 [some (.ref x0), some (.int x1), some (.int x2), some (.int x3), some (.int x4), none] [] h) (x0 : Nat) (x1 : Int32) (x2 : Int32) (x3 : Int32) (x4 : Int32) (x5 : Int32) (h : xH) : Y g DX10_trade h0 cl iI (f_X10_trade_J76 kH kE82 x0 x1 x2 x3 x4 x5 h) 76 [some (.ref x0), some (.int x1), some (.int x2), some (.int x3), some (.int x4), some (.int x5)] [] h := by
  unfold f_X10_trade_J76
  refine Y.iinc (i := 5) (loc' := fun v1 => [some (.ref x0), some (.int x1), some (.int x2), some (.int x3), some (.int x4), some (.int v1)]) rfl (Nat.le_of_ble_eq_true rfl) ki_1 (fun _ => rfl) dX10_trade_76 (fun v1 => ?_)
  refine Y.op (pc' := 33) (fun _ => X.goto 33 (by decide) dX10_trade_79) ?_
  exact hkH x0 x1 x2 x3 x4 v1 h
def f_X10_trade_L33 (kE82 : Nat → Int32 → Int32 → Int32 → Int32 → xH → Option (Int32 × xH)) : Nat → Nat → Int32 → Int32 → Int32 → Int32 → Int32 → xH → Option (Int32 × xH)
  | 0 => fun _ _ _ _ _ _ _ => none
  | n + 1 => fun x0 x1 x2 x3 x4 x5 h =>
    (gR h 10 x0 9).bind fun v1 =>
    (aR 102 h v1 (0 : Int32)).bind fun v2 =>
    (aI h v2 (0 : Int32)).bind fun v3 =>
    if x5 ≥ v3 then
      kE82 x0 x1 x2 x3 x4 h
    else
      (vc h 10 x0 (f_X10_gain x0 x4 x5 h)).bind fun r4 =>
      if r4.1 > x1 then
        (vc r4.2 10 x0 (f_X10_gain x0 x4 x5 r4.2)).bind fun r5 =>
        f_X10_trade_J76 (f_X10_trade_L33 kE82 n) kE82 x0 r5.1 x4 x5 x4 x5 r5.2
      else
        f_X10_trade_J76 (f_X10_trade_L33 kE82 n) kE82 x0 x1 x2 x3 x4 x5 r4.2
theorem y_X10_trade_L33 {g : xG} {h0 : xH} {cl : Bool} {kE82 : Nat → Int32 → Int32 → Int32 → Int32 → xH → Option (Int32 × xH)} (hkE82 : ∀ (x0 : Nat) (x1 : Int32) (x2 : Int32) (x3 : Int32) (x4 : Int32) (h : xH), Y g DX10_trade h0 cl iI (kE82 x0 x1 x2 x3 x4 h) 82 [some (.ref x0), some (.int x1), some (.int x2), some (.int x3), some (.int x4), none] [] h) : ∀ (n : Nat) (x0 : Nat) (x1 : Int32) (x2 : Int32) (x3 : Int32) (x4 : Int32) (x5 : Int32) (h : xH), Y g DX10_trade h0 cl iI (f_X10_trade_L33 kE82 n x0 x1 x2 x3 x4 x5 h) 33 [some (.ref x0), some (.int x1), some (.int x2), some (.int x3), some (.int x4), some (.int x5)] [] h := by
  intro n
  induction n with
  | zero => intro x0 x1 x2 x3 x4 x5 h; exact Y.nothing
  | succ n ih =>
    intro x0 x1 x2 x3 x4 x5 h
    unfold f_X10_trade_L33
    refine Y.op (pc' := 35) (fun _ => X.iload rfl dX10_trade_33) ?_
    refine Y.op (pc' := 36) (fun _ => X.aloadn rfl dX10_trade_35) ?_
    refine Y.getR fd_X10_22 rfl dX10_trade_36 (fun v1 => ?_)
    refine Y.op (pc' := 40) (fun _ => X.ic ki_0 dX10_trade_39) ?_
    refine Y.aldR 102 (by decide) (by decide) dX10_trade_40 (fun v2 => ?_)
    refine Y.op (pc' := 42) (fun _ => X.ic ki_0 dX10_trade_41) ?_
    refine Y.aldI dX10_trade_42 (fun v3 => ?_)
    refine Y.cmpge 82 (by decide) dX10_trade_43 ?_ ?_
    · exact Y.fg (hkE82 x0 x1 x2 x3 x4 h) (And.intro rfl (And.intro rfl (And.intro rfl (And.intro rfl (And.intro rfl trivial)))))
    · refine Y.op (pc' := 47) (fun _ => X.aloadn rfl dX10_trade_46) ?_
      refine Y.op (pc' := 49) (fun _ => X.iload rfl dX10_trade_47) ?_
      refine Y.op (pc' := 51) (fun _ => X.iload rfl dX10_trade_49) ?_
      refine Y.callVi (As := [.int x4, .int x5]) lk_X10_389 rfl cal_X10_gain vir_X10_gain (Nat.le_of_ble_eq_true rfl) (Nat.le_of_ble_eq_true rfl) rfl rfl rfl (Nat.le_of_ble_eq_true rfl) dX10_trade_51 (fun _ e => m_X10_gain x0 x4 x5 h _ _ e) (fun r4 => ?_)
      refine Y.op (pc' := 55) (fun _ => X.iloadn rfl dX10_trade_54) ?_
      refine Y.cmpgt 61 (by decide) dX10_trade_55 ?_ ?_
      · refine Y.op (pc' := 62) (fun _ => X.aloadn rfl dX10_trade_61) ?_
        refine Y.op (pc' := 64) (fun _ => X.iload rfl dX10_trade_62) ?_
        refine Y.op (pc' := 66) (fun _ => X.iload rfl dX10_trade_64) ?_
        refine Y.callVi (As := [.int x4, .int x5]) lk_X10_389 rfl cal_X10_gain vir_X10_gain (Nat.le_of_ble_eq_true rfl) (Nat.le_of_ble_eq_true rfl) rfl rfl rfl (Nat.le_of_ble_eq_true rfl) dX10_trade_66 (fun _ e => m_X10_gain x0 x4 x5 r4.2 _ _ e) (fun r5 => ?_)
        refine Y.op (pc' := 70) (loc' := [some (.ref x0), some (.int r5.1), some (.int x2), some (.int x3), some (.int x4), some (.int x5)]) (fun _ => X.istoren (Nat.le_of_ble_eq_true rfl) rfl dX10_trade_69) ?_
        refine Y.op (pc' := 72) (fun _ => X.iload rfl dX10_trade_70) ?_
        refine Y.op (pc' := 73) (loc' := [some (.ref x0), some (.int r5.1), some (.int x4), some (.int x3), some (.int x4), some (.int x5)]) (fun _ => X.istoren (Nat.le_of_ble_eq_true rfl) rfl dX10_trade_72) ?_
        refine Y.op (pc' := 75) (fun _ => X.iload rfl dX10_trade_73) ?_
        refine Y.op (pc' := 76) (loc' := [some (.ref x0), some (.int r5.1), some (.int x4), some (.int x5), some (.int x4), some (.int x5)]) (fun _ => X.istoren (Nat.le_of_ble_eq_true rfl) rfl dX10_trade_75) ?_
        exact y_X10_trade_J76 ih hkE82 x0 r5.1 x4 x5 x4 x5 r5.2
      · refine Y.op (pc' := 76) (fun _ => X.goto 76 (by decide) dX10_trade_58) ?_
        exact y_X10_trade_J76 ih hkE82 x0 x1 x2 x3 x4 x5 r4.2
def f_X10_trade_L14 (kE88 : Nat → Int32 → Int32 → Int32 → xH → Option (Int32 × xH)) : Nat → Nat → Int32 → Int32 → Int32 → Int32 → xH → Option (Int32 × xH)
  | 0 => fun _ _ _ _ _ _ => none
  | n + 1 => fun x0 x1 x2 x3 x4 h =>
    (gR h 10 x0 9).bind fun v1 =>
    (aR 102 h v1 (0 : Int32)).bind fun v2 =>
    (aI h v2 (0 : Int32)).bind fun v3 =>
    if x4 ≥ v3 then
      kE88 x0 x1 x2 x3 h
    else
      lt ((x4 + (1 : Int32))) fun v4 =>
      f_X10_trade_L33 (f_X10_trade_J82 (f_X10_trade_L14 kE88 n) kE88) 5000 x0 x1 x2 x3 x4 v4 h
theorem y_X10_trade_L14 {g : xG} {h0 : xH} {cl : Bool} {kE88 : Nat → Int32 → Int32 → Int32 → xH → Option (Int32 × xH)} (hkE88 : ∀ (x0 : Nat) (x1 : Int32) (x2 : Int32) (x3 : Int32) (h : xH), Y g DX10_trade h0 cl iI (kE88 x0 x1 x2 x3 h) 88 [some (.ref x0), some (.int x1), some (.int x2), some (.int x3), none, none] [] h) : ∀ (n : Nat) (x0 : Nat) (x1 : Int32) (x2 : Int32) (x3 : Int32) (x4 : Int32) (h : xH), Y g DX10_trade h0 cl iI (f_X10_trade_L14 kE88 n x0 x1 x2 x3 x4 h) 14 [some (.ref x0), some (.int x1), some (.int x2), some (.int x3), some (.int x4), none] [] h := by
  intro n
  induction n with
  | zero => intro x0 x1 x2 x3 x4 h; exact Y.nothing
  | succ n ih =>
    intro x0 x1 x2 x3 x4 h
    unfold f_X10_trade_L14
    refine Y.op (pc' := 16) (fun _ => X.iload rfl dX10_trade_14) ?_
    refine Y.op (pc' := 17) (fun _ => X.aloadn rfl dX10_trade_16) ?_
    refine Y.getR fd_X10_22 rfl dX10_trade_17 (fun v1 => ?_)
    refine Y.op (pc' := 21) (fun _ => X.ic ki_0 dX10_trade_20) ?_
    refine Y.aldR 102 (by decide) (by decide) dX10_trade_21 (fun v2 => ?_)
    refine Y.op (pc' := 23) (fun _ => X.ic ki_0 dX10_trade_22) ?_
    refine Y.aldI dX10_trade_23 (fun v3 => ?_)
    refine Y.cmpge 88 (by decide) dX10_trade_24 ?_ ?_
    · exact Y.fg (hkE88 x0 x1 x2 x3 h) (And.intro rfl (And.intro rfl (And.intro rfl (And.intro rfl trivial))))
    · refine Y.op (pc' := 29) (fun _ => X.iload rfl dX10_trade_27) ?_
      refine Y.op (pc' := 30) (fun _ => X.ic ki_1 dX10_trade_29) ?_
      refine Y.op (pc' := 31) (fun _ => X.iadd dX10_trade_30) ?_
      refine Y.top (fun v4 => ?_)
      refine Y.op (pc' := 33) (loc' := [some (.ref x0), some (.int x1), some (.int x2), some (.int x3), some (.int x4), some (.int v4)]) (fun _ => X.istore (Nat.le_of_ble_eq_true rfl) rfl dX10_trade_31) ?_
      exact y_X10_trade_L33 (y_X10_trade_J82 ih hkE88) 5000 x0 x1 x2 x3 x4 v4 h
def f_X10_trade (a0 : Nat) (h : xH) : Option (Int32 × xH) :=
  (pI h 10 a0 0 (0 : Int32)).bind fun h1 =>
  f_X10_trade_L14 (f_X10_trade_J88) 5000 a0 (0 : Int32) (-1 : Int32) (-1 : Int32) (0 : Int32) h1
theorem y_X10_trade {g : xG} {h0 : xH} {cl : Bool} (a0 : Nat) (h : xH) : Y g DX10_trade h0 cl iI (f_X10_trade a0 h) 0 [some (.ref a0), none, none, none, none, none] [] h := by
  unfold f_X10_trade
  refine Y.op (pc' := 1) (fun _ => X.aloadn rfl dX10_trade_0) ?_
  refine Y.op (pc' := 2) (fun _ => X.ic ki_0 dX10_trade_1) ?_
  refine Y.putI fd_X10_82 rfl dX10_trade_2 (fun h1 => ?_)
  refine Y.op (pc' := 6) (fun _ => X.ic ki_0 dX10_trade_5) ?_
  refine Y.op (pc' := 7) (loc' := [some (.ref a0), some (.int (0 : Int32)), none, none, none, none]) (fun _ => X.istoren (Nat.le_of_ble_eq_true rfl) rfl dX10_trade_6) ?_
  refine Y.op (pc' := 8) (fun _ => X.ic ki_m1 dX10_trade_7) ?_
  refine Y.op (pc' := 9) (loc' := [some (.ref a0), some (.int (0 : Int32)), some (.int (-1 : Int32)), none, none, none]) (fun _ => X.istoren (Nat.le_of_ble_eq_true rfl) rfl dX10_trade_8) ?_
  refine Y.op (pc' := 10) (fun _ => X.ic ki_m1 dX10_trade_9) ?_
  refine Y.op (pc' := 11) (loc' := [some (.ref a0), some (.int (0 : Int32)), some (.int (-1 : Int32)), some (.int (-1 : Int32)), none, none]) (fun _ => X.istoren (Nat.le_of_ble_eq_true rfl) rfl dX10_trade_10) ?_
  refine Y.op (pc' := 12) (fun _ => X.ic ki_0 dX10_trade_11) ?_
  refine Y.op (pc' := 14) (loc' := [some (.ref a0), some (.int (0 : Int32)), some (.int (-1 : Int32)), some (.int (-1 : Int32)), some (.int (0 : Int32)), none]) (fun _ => X.istore (Nat.le_of_ble_eq_true rfl) rfl dX10_trade_12) ?_
  exact y_X10_trade_L14 (y_X10_trade_J88) 5000 a0 (0 : Int32) (-1 : Int32) (-1 : Int32) (0 : Int32) h1
theorem m_X10_trade {g : xG} (a0 : Nat) (h : xH) (cl : Bool) (r : Int32 × xH) (e : f_X10_trade a0 h = some r) : XM g DX10_trade [.ref a0] h cl (iI r) := YM.of rfl rfl (Nat.le_of_ble_eq_true rfl) (y_X10_trade a0 h) e
def f_X10_settle_J21 (x0 : Nat) (x1 : Int32) (s0 : Nat) (s1 : Int32) (h : xH) : Option (Int32 × xH) :=
  (vc h 10 s0 (f_X10_bad s0 s1 (1 : Int32) (1 : Int32) h)).bind fun r1 =>
  if r1.1 = (0 : Int32) then
    (vc r1.2 10 x0 (f_X10_hasWay x0 r1.2)).bind fun r2 =>
    if r2.1 = (0 : Int32) then
      some ((0 : Int32), r2.2)
    else
      (vc r2.2 10 x0 (f_X10_remembers x0 r2.2)).bind fun h3 =>
      (vc h3 10 x0 (f_X10_settles x0 x1 h3)).bind fun r4 =>
      some (r4.1, r4.2)
  else
    some ((0 : Int32), r1.2)
theorem y_X10_settle_J21 {g : xG} {h0 : xH} {cl : Bool} (x0 : Nat) (x1 : Int32) (s0 : Nat) (s1 : Int32) (h : xH) : Y g DX10_settle h0 cl iI (f_X10_settle_J21 x0 x1 s0 s1 h) 21 [some (.ref x0), some (.int x1)] [.int s1, .ref s0] h := by
  unfold f_X10_settle_J21
  refine Y.op (pc' := 22) (fun _ => X.ic ki_1 dX10_settle_21) ?_
  refine Y.op (pc' := 23) (fun _ => X.ic ki_1 dX10_settle_22) ?_
  refine Y.callVi (As := [.int s1, .int (1 : Int32), .int (1 : Int32)]) lk_X10_217 rfl cal_X10_bad vir_X10_bad (Nat.le_of_ble_eq_true rfl) (Nat.le_of_ble_eq_true rfl) rfl rfl rfl (Nat.le_of_ble_eq_true rfl) dX10_settle_23 (fun _ e => m_X10_bad s0 s1 (1 : Int32) (1 : Int32) h _ _ e) (fun r1 => ?_)
  refine Y.ifeq 31 (by decide) dX10_settle_26 ?_ ?_
  · refine Y.op (pc' := 32) (fun _ => X.aloadn rfl dX10_settle_31) ?_
    refine Y.callVi (As := []) lk_X10_261 rfl cal_X10_hasWay vir_X10_hasWay (Nat.le_of_ble_eq_true rfl) (Nat.le_of_ble_eq_true rfl) rfl rfl rfl (Nat.le_of_ble_eq_true rfl) dX10_settle_32 (fun _ e => m_X10_hasWay x0 r1.2 _ _ e) (fun r2 => ?_)
    refine Y.ifne 40 (by decide) dX10_settle_35 ?_ ?_
    · refine Y.op (pc' := 41) (fun _ => X.aloadn rfl dX10_settle_40) ?_
      refine Y.callVv (As := []) lk_X10_383 rfl cal_X10_remembers vir_X10_remembers (Nat.le_of_ble_eq_true rfl) (Nat.le_of_ble_eq_true rfl) rfl rfl rfl (Nat.le_of_ble_eq_true rfl) dX10_settle_41 (fun _ e => m_X10_remembers x0 r2.2 _ _ e) (fun h3 => ?_)
      refine Y.op (pc' := 45) (fun _ => X.aloadn rfl dX10_settle_44) ?_
      refine Y.op (pc' := 46) (fun _ => X.iloadn rfl dX10_settle_45) ?_
      refine Y.callVi (As := [.int x1]) lk_X10_267 rfl cal_X10_settles vir_X10_settles (Nat.le_of_ble_eq_true rfl) (Nat.le_of_ble_eq_true rfl) rfl rfl rfl (Nat.le_of_ble_eq_true rfl) dX10_settle_46 (fun _ e => m_X10_settles x0 x1 h3 _ _ e) (fun r4 => ?_)
      exact Y.ireturn rfl dX10_settle_49
    · refine Y.op (pc' := 39) (fun _ => X.ic ki_0 dX10_settle_38) ?_
      exact Y.ireturn rfl dX10_settle_39
  · refine Y.op (pc' := 30) (fun _ => X.ic ki_0 dX10_settle_29) ?_
    exact Y.ireturn rfl dX10_settle_30
def f_X10_settle (a0 : Nat) (p1 : Int32) (h : xH) : Option (Int32 × xH) :=
  (pI h 10 a0 0 (0 : Int32)).bind fun h1 =>
  (f_X10_in p1 (1 : Int32) (12 : Int32) h1).bind fun r2 =>
  if r2.1 = (0 : Int32) then
    f_X10_settle_J21 a0 p1 a0 (1 : Int32) r2.2
  else
    f_X10_settle_J21 a0 p1 a0 (0 : Int32) r2.2
theorem y_X10_settle {g : xG} {h0 : xH} {cl : Bool} (a0 : Nat) (p1 : Int32) (h : xH) : Y g DX10_settle h0 cl iI (f_X10_settle a0 p1 h) 0 [some (.ref a0), some (.int p1)] [] h := by
  unfold f_X10_settle
  refine Y.op (pc' := 1) (fun _ => X.aloadn rfl dX10_settle_0) ?_
  refine Y.op (pc' := 2) (fun _ => X.ic ki_0 dX10_settle_1) ?_
  refine Y.putI fd_X10_82 rfl dX10_settle_2 (fun h1 => ?_)
  refine Y.op (pc' := 6) (fun _ => X.aloadn rfl dX10_settle_5) ?_
  refine Y.op (pc' := 7) (fun _ => X.iloadn rfl dX10_settle_6) ?_
  refine Y.op (pc' := 8) (fun _ => X.ic ki_1 dX10_settle_7) ?_
  refine Y.op (pc' := 10) (fun _ => X.bp kb_12 dX10_settle_8) ?_
  refine Y.callSi (As := [.int p1, .int (1 : Int32), .int (12 : Int32)]) lk_X10_127 rfl cal_X10_in sta_X10_in (Nat.le_of_ble_eq_true rfl) rfl rfl (Nat.le_of_ble_eq_true rfl) dX10_settle_10 (fun _ e => m_X10_in p1 (1 : Int32) (12 : Int32) h1 _ _ e) (fun r2 => ?_)
  refine Y.ifne 20 (by decide) dX10_settle_13 ?_ ?_
  · refine Y.op (pc' := 21) (fun _ => X.ic ki_0 dX10_settle_20) ?_
    exact y_X10_settle_J21 a0 p1 a0 (0 : Int32) r2.2
  · refine Y.op (pc' := 17) (fun _ => X.ic ki_1 dX10_settle_16) ?_
    refine Y.op (pc' := 21) (fun _ => X.goto 21 (by decide) dX10_settle_17) ?_
    exact y_X10_settle_J21 a0 p1 a0 (1 : Int32) r2.2
theorem m_X10_settle {g : xG} (a0 : Nat) (p1 : Int32) (h : xH) (cl : Bool) (r : Int32 × xH) (e : f_X10_settle a0 p1 h = some r) : XM g DX10_settle [.ref a0, .int p1] h cl (iI r) := YM.of rfl rfl (Nat.le_of_ble_eq_true rfl) (y_X10_settle a0 p1 h) e
def f_X10_undo (a0 : Nat) (h : xH) : Option (Int32 × xH) :=
  (pI h 10 a0 0 (0 : Int32)).bind fun h1 =>
  (gI h1 10 a0 14).bind fun v2 =>
  if v2 = (0 : Int32) then
    some ((-1 : Int32), h1)
  else
    (gI h1 10 a0 14).bind fun v3 =>
    (pI h1 10 a0 14 (v3 - (1 : Int32))).bind fun h4 =>
    (gI h4 10 a0 14).bind fun v5 =>
    (vc h4 10 a0 (f_X10_copies a0 ((2 : Int32) + v5) (0 : Int32) h4)).bind fun h6 =>
    (gI h6 10 a0 14).bind fun v7 =>
    some (v7, h6)
theorem y_X10_undo {g : xG} {h0 : xH} {cl : Bool} (a0 : Nat) (h : xH) : Y g DX10_undo h0 cl iI (f_X10_undo a0 h) 0 [some (.ref a0)] [] h := by
  unfold f_X10_undo
  refine Y.op (pc' := 1) (fun _ => X.aloadn rfl dX10_undo_0) ?_
  refine Y.op (pc' := 2) (fun _ => X.ic ki_0 dX10_undo_1) ?_
  refine Y.putI fd_X10_82 rfl dX10_undo_2 (fun h1 => ?_)
  refine Y.op (pc' := 6) (fun _ => X.aloadn rfl dX10_undo_5) ?_
  refine Y.getI fd_X10_231 rfl dX10_undo_6 (fun v2 => ?_)
  refine Y.ifne 14 (by decide) dX10_undo_9 ?_ ?_
  · refine Y.op (pc' := 15) (fun _ => X.aloadn rfl dX10_undo_14) ?_
    refine Y.op (pc' := 16) (fun _ => X.dup rfl dX10_undo_15) ?_
    refine Y.getI fd_X10_231 rfl dX10_undo_16 (fun v3 => ?_)
    refine Y.op (pc' := 20) (fun _ => X.ic ki_1 dX10_undo_19) ?_
    refine Y.op (pc' := 21) (fun _ => X.isub dX10_undo_20) ?_
    refine Y.putI fd_X10_231 rfl dX10_undo_21 (fun h4 => ?_)
    refine Y.op (pc' := 25) (fun _ => X.aloadn rfl dX10_undo_24) ?_
    refine Y.op (pc' := 26) (fun _ => X.ic ki_2 dX10_undo_25) ?_
    refine Y.op (pc' := 27) (fun _ => X.aloadn rfl dX10_undo_26) ?_
    refine Y.getI fd_X10_231 rfl dX10_undo_27 (fun v5 => ?_)
    refine Y.op (pc' := 31) (fun _ => X.iadd dX10_undo_30) ?_
    refine Y.op (pc' := 32) (fun _ => X.ic ki_0 dX10_undo_31) ?_
    refine Y.callVv (As := [.int ((2 : Int32) + v5), .int (0 : Int32)]) lk_X10_228 rfl cal_X10_copies vir_X10_copies (Nat.le_of_ble_eq_true rfl) (Nat.le_of_ble_eq_true rfl) rfl rfl rfl (Nat.le_of_ble_eq_true rfl) dX10_undo_32 (fun _ e => m_X10_copies a0 ((2 : Int32) + v5) (0 : Int32) h4 _ _ e) (fun h6 => ?_)
    refine Y.op (pc' := 36) (fun _ => X.aloadn rfl dX10_undo_35) ?_
    refine Y.getI fd_X10_231 rfl dX10_undo_36 (fun v7 => ?_)
    exact Y.ireturn rfl dX10_undo_39
  · refine Y.op (pc' := 13) (fun _ => X.ic ki_m1 dX10_undo_12) ?_
    exact Y.ireturn rfl dX10_undo_13
theorem m_X10_undo {g : xG} (a0 : Nat) (h : xH) (cl : Bool) (r : Int32 × xH) (e : f_X10_undo a0 h = some r) : XM g DX10_undo [.ref a0] h cl (iI r) := YM.of rfl rfl (Nat.le_of_ble_eq_true rfl) (y_X10_undo a0 h) e
def f_X10_print_J45 (x1 : Int64) (h : xH) : Option (Int64 × xH) :=
  some (x1, h)
theorem y_X10_print_J45 {g : xG} {h0 : xH} {cl : Bool} (x1 : Int64) (h : xH) : Y g DX10_print h0 cl iJ (f_X10_print_J45 x1 h) 45 [none, some (.long x1), none, none] [] h := by
  unfold f_X10_print_J45
  refine Y.op (pc' := 46) (fun _ => X.lloadn rfl dX10_print_45) ?_
  exact Y.lreturn rfl dX10_print_46
def f_X10_print_L9 (kE45 : Int64 → xH → Option (Int64 × xH)) : Nat → Nat → Int64 → Int32 → xH → Option (Int64 × xH)
  | 0 => fun _ _ _ _ => none
  | n + 1 => fun x0 x1 x3 h =>
    (gR h 10 x0 9).bind fun v1 =>
    (aR 102 h v1 (0 : Int32)).bind fun v2 =>
    (aI h v2 (0 : Int32)).bind fun v3 =>
    if x3 ≥ v3 then
      kE45 x1 h
    else
      (gR h 10 x0 11).bind fun v4 =>
      (aR 102 h v4 (0 : Int32)).bind fun v5 =>
      (aI h v5 x3).bind fun v6 =>
      lt (((((13 : Int64) * x1) + v6.toInt64) + (1 : Int64))) fun v7 =>
      lt (x3 + (1 : Int32)) fun v8 =>
      f_X10_print_L9 kE45 n x0 v7 v8 h
theorem y_X10_print_L9 {g : xG} {h0 : xH} {cl : Bool} {kE45 : Int64 → xH → Option (Int64 × xH)} (hkE45 : ∀ (x1 : Int64) (h : xH), Y g DX10_print h0 cl iJ (kE45 x1 h) 45 [none, some (.long x1), none, none] [] h) : ∀ (n : Nat) (x0 : Nat) (x1 : Int64) (x3 : Int32) (h : xH), Y g DX10_print h0 cl iJ (f_X10_print_L9 kE45 n x0 x1 x3 h) 9 [some (.ref x0), some (.long x1), none, some (.int x3)] [] h := by
  intro n
  induction n with
  | zero => intro x0 x1 x3 h; exact Y.nothing
  | succ n ih =>
    intro x0 x1 x3 h
    unfold f_X10_print_L9
    refine Y.op (pc' := 10) (fun _ => X.iloadn rfl dX10_print_9) ?_
    refine Y.op (pc' := 11) (fun _ => X.aloadn rfl dX10_print_10) ?_
    refine Y.getR fd_X10_22 rfl dX10_print_11 (fun v1 => ?_)
    refine Y.op (pc' := 15) (fun _ => X.ic ki_0 dX10_print_14) ?_
    refine Y.aldR 102 (by decide) (by decide) dX10_print_15 (fun v2 => ?_)
    refine Y.op (pc' := 17) (fun _ => X.ic ki_0 dX10_print_16) ?_
    refine Y.aldI dX10_print_17 (fun v3 => ?_)
    refine Y.cmpge 45 (by decide) dX10_print_18 ?_ ?_
    · exact Y.fg (hkE45 x1 h) (And.intro rfl trivial)
    · refine Y.op (pc' := 24) (fun _ => X.ldcL wl_X10_392 rfl dX10_print_21) ?_
      refine Y.op (pc' := 25) (fun _ => X.lloadn rfl dX10_print_24) ?_
      refine Y.op (pc' := 26) (fun _ => X.lmul dX10_print_25) ?_
      refine Y.op (pc' := 27) (fun _ => X.aloadn rfl dX10_print_26) ?_
      refine Y.getR fd_X10_28 rfl dX10_print_27 (fun v4 => ?_)
      refine Y.op (pc' := 31) (fun _ => X.ic ki_0 dX10_print_30) ?_
      refine Y.aldR 102 (by decide) (by decide) dX10_print_31 (fun v5 => ?_)
      refine Y.op (pc' := 33) (fun _ => X.iloadn rfl dX10_print_32) ?_
      refine Y.aldI dX10_print_33 (fun v6 => ?_)
      refine Y.op (pc' := 35) (fun _ => X.i2l dX10_print_34) ?_
      refine Y.op (pc' := 36) (fun _ => X.ladd dX10_print_35) ?_
      refine Y.op (pc' := 37) (fun _ => X.lc kl_1 dX10_print_36) ?_
      refine Y.op (pc' := 38) (fun _ => X.ladd dX10_print_37) ?_
      refine Y.topl (fun v7 => ?_)
      refine Y.op (pc' := 39) (loc' := [some (.ref x0), some (.long v7), none, some (.int x3)]) (fun _ => X.lstoren (Nat.le_of_ble_eq_true rfl) rfl dX10_print_38) ?_
      refine Y.iinc (i := 3) (loc' := fun v8 => [some (.ref x0), some (.long v7), none, some (.int v8)]) rfl (Nat.le_of_ble_eq_true rfl) ki_1 (fun _ => rfl) dX10_print_39 (fun v8 => ?_)
      refine Y.op (pc' := 9) (fun _ => X.goto 9 (by decide) dX10_print_42) ?_
      exact ih x0 v7 v8 h
def f_X10_print (a0 : Nat) (h : xH) : Option (Int64 × xH) :=
  (pI h 10 a0 0 (0 : Int32)).bind fun h1 =>
  f_X10_print_L9 (f_X10_print_J45) 5000 a0 (0 : Int64) (0 : Int32) h1
theorem y_X10_print {g : xG} {h0 : xH} {cl : Bool} (a0 : Nat) (h : xH) : Y g DX10_print h0 cl iJ (f_X10_print a0 h) 0 [some (.ref a0), none, none, none] [] h := by
  unfold f_X10_print
  refine Y.op (pc' := 1) (fun _ => X.aloadn rfl dX10_print_0) ?_
  refine Y.op (pc' := 2) (fun _ => X.ic ki_0 dX10_print_1) ?_
  refine Y.putI fd_X10_82 rfl dX10_print_2 (fun h1 => ?_)
  refine Y.op (pc' := 6) (fun _ => X.lc kl_0 dX10_print_5) ?_
  refine Y.op (pc' := 7) (loc' := [some (.ref a0), some (.long (0 : Int64)), none, none]) (fun _ => X.lstoren (Nat.le_of_ble_eq_true rfl) rfl dX10_print_6) ?_
  refine Y.op (pc' := 8) (fun _ => X.ic ki_0 dX10_print_7) ?_
  refine Y.op (pc' := 9) (loc' := [some (.ref a0), some (.long (0 : Int64)), none, some (.int (0 : Int32))]) (fun _ => X.istoren (Nat.le_of_ble_eq_true rfl) rfl dX10_print_8) ?_
  exact y_X10_print_L9 (y_X10_print_J45) 5000 a0 (0 : Int64) (0 : Int32) h1
theorem m_X10_print {g : xG} (a0 : Nat) (h : xH) (cl : Bool) (r : Int64 × xH) (e : f_X10_print a0 h = some r) : XM g DX10_print [.ref a0] h cl (iJ r) := YM.of rfl rfl (Nat.le_of_ble_eq_true rfl) (y_X10_print a0 h) e
def f_X10_status_J24 (s0 : Int32) (h : xH) : Option (Int32 × xH) :=
  some (s0, h)
theorem y_X10_status_J24 {g : xG} {h0 : xH} {cl : Bool} (s0 : Int32) (h : xH) : Y g DX10_status h0 cl iI (f_X10_status_J24 s0 h) 24 [none, none] [.int s0] h := by
  unfold f_X10_status_J24
  exact Y.ireturn rfl dX10_status_24
def f_X10_status (a0 : Nat) (p1 : Int32) (h : xH) : Option (Int32 × xH) :=
  (pI h 10 a0 0 (0 : Int32)).bind fun h1 =>
  (f_X10_in p1 (0 : Int32) (1 : Int32) h1).bind fun r2 =>
  if r2.1 = (0 : Int32) then
    f_X10_status_J24 (-1 : Int32) r2.2
  else
    (gR r2.2 10 a0 1).bind fun v3 =>
    (aI r2.2 v3 p1).bind fun v4 =>
    f_X10_status_J24 v4 r2.2
theorem y_X10_status {g : xG} {h0 : xH} {cl : Bool} (a0 : Nat) (p1 : Int32) (h : xH) : Y g DX10_status h0 cl iI (f_X10_status a0 p1 h) 0 [some (.ref a0), some (.int p1)] [] h := by
  unfold f_X10_status
  refine Y.op (pc' := 1) (fun _ => X.aloadn rfl dX10_status_0) ?_
  refine Y.op (pc' := 2) (fun _ => X.ic ki_0 dX10_status_1) ?_
  refine Y.putI fd_X10_82 rfl dX10_status_2 (fun h1 => ?_)
  refine Y.op (pc' := 6) (fun _ => X.iloadn rfl dX10_status_5) ?_
  refine Y.op (pc' := 7) (fun _ => X.ic ki_0 dX10_status_6) ?_
  refine Y.op (pc' := 8) (fun _ => X.ic ki_1 dX10_status_7) ?_
  refine Y.callSi (As := [.int p1, .int (0 : Int32), .int (1 : Int32)]) lk_X10_127 rfl cal_X10_in sta_X10_in (Nat.le_of_ble_eq_true rfl) rfl rfl (Nat.le_of_ble_eq_true rfl) dX10_status_8 (fun _ e => m_X10_in p1 (0 : Int32) (1 : Int32) h1 _ _ e) (fun r2 => ?_)
  refine Y.ifeq 23 (by decide) dX10_status_11 ?_ ?_
  · refine Y.op (pc' := 24) (fun _ => X.ic ki_m1 dX10_status_23) ?_
    exact Y.fg (y_X10_status_J24 (-1 : Int32) r2.2) trivial
  · refine Y.op (pc' := 15) (fun _ => X.aloadn rfl dX10_status_14) ?_
    refine Y.getR fd_X10_9 rfl dX10_status_15 (fun v3 => ?_)
    refine Y.op (pc' := 19) (fun _ => X.iloadn rfl dX10_status_18) ?_
    refine Y.aldI dX10_status_19 (fun v4 => ?_)
    refine Y.op (pc' := 24) (fun _ => X.goto 24 (by decide) dX10_status_20) ?_
    exact Y.fg (y_X10_status_J24 v4 r2.2) trivial
theorem m_X10_status {g : xG} (a0 : Nat) (p1 : Int32) (h : xH) (cl : Bool) (r : Int32 × xH) (e : f_X10_status a0 p1 h = some r) : XM g DX10_status [.ref a0, .int p1] h cl (iI r) := YM.of rfl rfl (Nat.le_of_ble_eq_true rfl) (y_X10_status a0 p1 h) e
