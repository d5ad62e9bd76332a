def f_X10_phased_J20 (x0 : Nat) (x1 : Int32) (s0 : Nat) (s1 : Int32) (h : xH) : Option (Int32 × xH) :=
  (vc h 10 s0 (f_X10_bad s0 s1 (1 : Int32) (0 : Int32) h)).bind fun r1 =>
  if r1.1 = (0 : Int32) then
    (vc r1.2 10 x0 (f_X10_thinks x0 r1.2)).bind fun h2 =>
    (gR h2 10 x0 11).bind fun v3 =>
    (aR 102 h2 v3 (0 : Int32)).bind fun v4 =>
    (aI h2 v4 x1).bind fun v5 =>
    (vc h2 10 x0 (f_X10_copies x0 (17 : Int32) (0 : Int32) h2)).bind fun h6 =>
    some (v5, h6)
  else
    some ((0 : Int32), r1.2)
theorem y_X10_phased_J20 {g : xG} {h0 : xH} {cl : Bool} (x0 : Nat) (x1 : Int32) (s0 : Nat) (s1 : Int32) (h : xH) : Y g DX10_phased h0 cl iI (f_X10_phased_J20 x0 x1 s0 s1 h) 20 [some (.ref x0), some (.int x1), none] [.int s1, .ref s0] h := by
  unfold f_X10_phased_J20
  refine Y.op (pc' := 21) (fun _ => X.ic ki_1 dX10_phased_20) ?_
  refine Y.op (pc' := 22) (fun _ => X.ic ki_0 dX10_phased_21) ?_
  refine Y.callVi (As := [.int s1, .int (1 : Int32), .int (0 : Int32)]) lk_X10_217 rfl cal_X10_bad vir_X10_bad (Nat.le_of_ble_eq_true rfl) (Nat.le_of_ble_eq_true rfl) rfl rfl rfl (Nat.le_of_ble_eq_true rfl) dX10_phased_22 (fun _ e => m_X10_bad s0 s1 (1 : Int32) (0 : Int32) h _ _ e) (fun r1 => ?_)
  refine Y.ifeq 30 (by decide) dX10_phased_25 ?_ ?_
  · refine Y.op (pc' := 31) (fun _ => X.aloadn rfl dX10_phased_30) ?_
    refine Y.callVv (As := []) lk_X10_318 rfl cal_X10_thinks vir_X10_thinks (Nat.le_of_ble_eq_true rfl) (Nat.le_of_ble_eq_true rfl) rfl rfl rfl (Nat.le_of_ble_eq_true rfl) dX10_phased_31 (fun _ e => m_X10_thinks x0 r1.2 _ _ e) (fun h2 => ?_)
    refine Y.op (pc' := 35) (fun _ => X.aloadn rfl dX10_phased_34) ?_
    refine Y.getR fd_X10_28 rfl dX10_phased_35 (fun v3 => ?_)
    refine Y.op (pc' := 39) (fun _ => X.ic ki_0 dX10_phased_38) ?_
    refine Y.aldR 102 (by decide) (by decide) dX10_phased_39 (fun v4 => ?_)
    refine Y.op (pc' := 41) (fun _ => X.iloadn rfl dX10_phased_40) ?_
    refine Y.aldI dX10_phased_41 (fun v5 => ?_)
    refine Y.op (pc' := 43) (loc' := [some (.ref x0), some (.int x1), some (.int v5)]) (fun _ => X.istoren (Nat.le_of_ble_eq_true rfl) rfl dX10_phased_42) ?_
    refine Y.op (pc' := 44) (fun _ => X.aloadn rfl dX10_phased_43) ?_
    refine Y.op (pc' := 46) (fun _ => X.bp kb_17 dX10_phased_44) ?_
    refine Y.op (pc' := 47) (fun _ => X.ic ki_0 dX10_phased_46) ?_
    refine Y.callVv (As := [.int (17 : Int32), .int (0 : Int32)]) lk_X10_228 rfl cal_X10_copies vir_X10_copies (Nat.le_of_ble_eq_true rfl) (Nat.le_of_ble_eq_true rfl) rfl rfl rfl (Nat.le_of_ble_eq_true rfl) dX10_phased_47 (fun _ e => m_X10_copies x0 (17 : Int32) (0 : Int32) h2 _ _ e) (fun h6 => ?_)
    refine Y.op (pc' := 51) (fun _ => X.iloadn rfl dX10_phased_50) ?_
    exact Y.ireturn rfl dX10_phased_51
  · refine Y.op (pc' := 29) (fun _ => X.ic ki_0 dX10_phased_28) ?_
    exact Y.ireturn rfl dX10_phased_29
def f_X10_phased (a0 : Nat) (p1 : Int32) (h : xH) : Option (Int32 × xH) :=
  (pI h 10 a0 0 (0 : Int32)).bind fun h1 =>
  (vc h1 10 a0 (f_X10_isOne a0 (0 : Int32) p1 h1)).bind fun r2 =>
  if r2.1 = (0 : Int32) then
    f_X10_phased_J20 a0 p1 a0 (1 : Int32) r2.2
  else
    f_X10_phased_J20 a0 p1 a0 (0 : Int32) r2.2
theorem y_X10_phased {g : xG} {h0 : xH} {cl : Bool} (a0 : Nat) (p1 : Int32) (h : xH) : Y g DX10_phased h0 cl iI (f_X10_phased a0 p1 h) 0 [some (.ref a0), some (.int p1), none] [] h := by
  unfold f_X10_phased
  refine Y.op (pc' := 1) (fun _ => X.aloadn rfl dX10_phased_0) ?_
  refine Y.op (pc' := 2) (fun _ => X.ic ki_0 dX10_phased_1) ?_
  refine Y.putI fd_X10_82 rfl dX10_phased_2 (fun h1 => ?_)
  refine Y.op (pc' := 6) (fun _ => X.aloadn rfl dX10_phased_5) ?_
  refine Y.op (pc' := 7) (fun _ => X.aloadn rfl dX10_phased_6) ?_
  refine Y.op (pc' := 8) (fun _ => X.ic ki_0 dX10_phased_7) ?_
  refine Y.op (pc' := 9) (fun _ => X.iloadn rfl dX10_phased_8) ?_
  refine Y.callVi (As := [.int (0 : Int32), .int p1]) lk_X10_282 rfl cal_X10_isOne vir_X10_isOne (Nat.le_of_ble_eq_true rfl) (Nat.le_of_ble_eq_true rfl) rfl rfl rfl (Nat.le_of_ble_eq_true rfl) dX10_phased_9 (fun _ e => m_X10_isOne a0 (0 : Int32) p1 h1 _ _ e) (fun r2 => ?_)
  refine Y.ifne 19 (by decide) dX10_phased_12 ?_ ?_
  · refine Y.op (pc' := 20) (fun _ => X.ic ki_0 dX10_phased_19) ?_
    exact y_X10_phased_J20 a0 p1 a0 (0 : Int32) r2.2
  · refine Y.op (pc' := 16) (fun _ => X.ic ki_1 dX10_phased_15) ?_
    refine Y.op (pc' := 20) (fun _ => X.goto 20 (by decide) dX10_phased_16) ?_
    exact y_X10_phased_J20 a0 p1 a0 (1 : Int32) r2.2
theorem m_X10_phased {g : xG} (a0 : Nat) (p1 : Int32) (h : xH) (cl : Bool) (r : Int32 × xH) (e : f_X10_phased a0 p1 h = some r) : XM g DX10_phased [.ref a0, .int p1] h cl (iI r) := YM.of rfl rfl (Nat.le_of_ble_eq_true rfl) (y_X10_phased a0 p1 h) e
def f_X10_moves_J99 (rec : Nat → Int32 → xH → Option (Int32 × xH)) (h : xH) : Option (Int32 × xH) :=
  if (0 : Int32) = 0 ∨ (0 : Int32) = 1 then some ((0 : Int32), h) else none
theorem y_X10_moves_J99 {g : xG} {l : Nat} {h0 : xH} {cl : Bool} {rec : Nat → Int32 → xH → Option (Int32 × xH)} (hrec : ∀ (a0 : Nat) (p1 : Int32) (h : xH) (cl : Bool) (r : Int32 × xH), rec a0 p1 h = some r → XM g (DX10_moves (l + 1)) [.ref a0, .int p1] h cl (iI r)) (h : xH) : Y g (DX10_moves (l + 1 + 1)) h0 cl iI (f_X10_moves_J99 rec h) 99 [none, none, none] [] h := by
  unfold f_X10_moves_J99
  refine Y.op (pc' := 100) (fun _ => X.ic ki_0 dX10_moves_99) ?_
  exact Y.zreturn rfl dX10_moves_100
def f_X10_moves_J84 (rec : Nat → Int32 → xH → Option (Int32 × xH)) (x0 : Nat) (x1 : Int32) (x2 : Int32) (h : xH) : Option (Int32 × xH) :=
  (gR h 10 x0 28).bind fun v1 =>
  (sI h v1 x2 x1).bind fun h2 =>
  if (1 : Int32) = 0 ∨ (1 : Int32) = 1 then some ((1 : Int32), h2) else none
theorem y_X10_moves_J84 {g : xG} {l : Nat} {h0 : xH} {cl : Bool} {rec : Nat → Int32 → xH → Option (Int32 × xH)} (hrec : ∀ (a0 : Nat) (p1 : Int32) (h : xH) (cl : Bool) (r : Int32 × xH), rec a0 p1 h = some r → XM g (DX10_moves (l + 1)) [.ref a0, .int p1] h cl (iI r)) (x0 : Nat) (x1 : Int32) (x2 : Int32) (h : xH) : Y g (DX10_moves (l + 1 + 1)) h0 cl iI (f_X10_moves_J84 rec x0 x1 x2 h) 84 [some (.ref x0), some (.int x1), some (.int x2)] [] h := by
  unfold f_X10_moves_J84
  refine Y.op (pc' := 85) (fun _ => X.aloadn rfl dX10_moves_84) ?_
  refine Y.getR fd_X10_51 rfl dX10_moves_85 (fun v1 => ?_)
  refine Y.op (pc' := 89) (fun _ => X.iloadn rfl dX10_moves_88) ?_
  refine Y.op (pc' := 90) (fun _ => X.iloadn rfl dX10_moves_89) ?_
  refine Y.astI dX10_moves_90 (fun h2 => ?_)
  refine Y.op (pc' := 92) (fun _ => X.ic ki_1 dX10_moves_91) ?_
  exact Y.zreturn rfl dX10_moves_92
def f_X10_moves_J93 (rec : Nat → Int32 → xH → Option (Int32 × xH)) (kH : Nat → Int32 → Int32 → xH → Option (Int32 × xH)) (kE84 : Nat → Int32 → Int32 → xH → Option (Int32 × xH)) (kE99 : xH → Option (Int32 × xH)) (x0 : Nat) (x1 : Int32) (x2 : Int32) (h : xH) : Option (Int32 × xH) :=
  lt (x2 + (1 : Int32)) fun v1 =>
  kH x0 x1 v1 h
theorem y_X10_moves_J93 {g : xG} {l : Nat} {h0 : xH} {cl : Bool} {rec : Nat → Int32 → xH → Option (Int32 × xH)} {kH : Nat → Int32 → Int32 → xH → Option (Int32 × xH)} {kE84 : Nat → Int32 → Int32 → xH → Option (Int32 × xH)} {kE99 : xH → Option (Int32 × xH)} (hrec : ∀ (a0 : Nat) (p1 : Int32) (h : xH) (cl : Bool) (r : Int32 × xH), rec a0 p1 h = some r → XM g (DX10_moves (l + 1)) [.ref a0, .int p1] h cl (iI r)) (hkH : ∀ (x0 : Nat) (x1 : Int32) (x2 : Int32) (h : xH), Y g (DX10_moves (l + 1 + 1)) h0 cl iI (kH x0 x1 x2 h) 2 [some (.ref x0), some (.int x1), some (.int x2)] [] h) (hkE84 : ∀ (x0 : Nat) (x1 : Int32) (x2 : Int32) (h : xH), Y g (DX10_moves (l + 1 + 1)) h0 cl iI (kE84 x0 x1 x2 h) 84 [some (.ref x0), some (.int x1), some (.int x2)] [] h) (hkE99 : ∀  (h : xH), Y g (DX10_moves (l + 1 + 1)) h0 cl iI (kE99  h) 99 [none, none, none] [] h) (x0 : Nat) (x1 : Int32) (x2 : Int32) (h : xH) : Y g (DX10_moves (l + 1 + 1)) h0 cl iI (f_X10_moves_J93 rec kH kE84 kE99 x0 x1 x2 h) 93 [some (.ref x0), some (.int x1), some (.int x2)] [] h := by
  unfold f_X10_moves_J93
  refine Y.iinc (i := 2) (loc' := fun v1 => [some (.ref x0), some (.int x1), some (.int v1)]) rfl (Nat.le_of_ble_eq_true rfl) ki_1 (fun _ => rfl) dX10_moves_93 (fun v1 => ?_)
  refine Y.op (pc' := 2) (fun _ => X.goto 2 (by decide) dX10_moves_96) ?_
  exact hkH x0 x1 v1 h
def f_X10_moves_L2 (rec : Nat → Int32 → xH → Option (Int32 × xH)) (kE84 : Nat → Int32 → Int32 → xH → Option (Int32 × xH)) (kE99 : xH → Option (Int32 × xH)) : Nat → Nat → Int32 → Int32 → xH → Option (Int32 × xH)
  | 0 => fun _ _ _ _ => none
  | n + 1 => fun x0 x1 x2 h =>
    if x2 ≥ (12 : Int32) then
      kE99 h
    else
      (gR h 10 x0 10).bind fun v1 =>
      (aR 102 h v1 (0 : Int32)).bind fun v2 =>
      (aI h v2 x1).bind fun v3 =>
      (gR h 10 x0 9).bind fun v4 =>
      (aR 102 h v4 (0 : Int32)).bind fun v5 =>
      (aI h v5 (4 : Int32)).bind fun v6 =>
      (f_X10_has (v3 &&& v6) x2 h).bind fun r7 =>
      if r7.1 = (0 : Int32) then
        f_X10_moves_J93 rec (f_X10_moves_L2 rec kE84 kE99 n) kE84 kE99 x0 x1 x2 r7.2
      else
        (gI r7.2 10 x0 29).bind fun v8 =>
        (f_X10_has v8 x2 r7.2).bind fun r9 =>
        if r9.1 = (0 : Int32) then
          (gI r9.2 10 x0 29).bind fun v10 =>
          (pI r9.2 10 x0 29 (v10 ||| ((1 : Int32) <<< (x2 &&& 31)))).bind fun h11 =>
          (gR h11 10 x0 28).bind fun v12 =>
          (aI h11 v12 x2).bind fun v13 =>
          if v13 = (-1 : Int32) then
            kE84 x0 x1 x2 h11
          else
            (gR h11 10 x0 28).bind fun v14 =>
            (aI h11 v14 x2).bind fun v15 =>
            (vc h11 10 x0 (rec x0 v15 h11)).bind fun r16 =>
            if r16.1 = (0 : Int32) then
              f_X10_moves_J93 rec (f_X10_moves_L2 rec kE84 kE99 n) kE84 kE99 x0 x1 x2 r16.2
            else
              kE84 x0 x1 x2 r16.2
        else
          f_X10_moves_J93 rec (f_X10_moves_L2 rec kE84 kE99 n) kE84 kE99 x0 x1 x2 r9.2
theorem y_X10_moves_L2 {g : xG} {l : Nat} {h0 : xH} {cl : Bool} {rec : Nat → Int32 → xH → Option (Int32 × xH)} {kE84 : Nat → Int32 → Int32 → xH → Option (Int32 × xH)} {kE99 : xH → Option (Int32 × xH)} (hrec : ∀ (a0 : Nat) (p1 : Int32) (h : xH) (cl : Bool) (r : Int32 × xH), rec a0 p1 h = some r → XM g (DX10_moves (l + 1)) [.ref a0, .int p1] h cl (iI r)) (hkE84 : ∀ (x0 : Nat) (x1 : Int32) (x2 : Int32) (h : xH), Y g (DX10_moves (l + 1 + 1)) h0 cl iI (kE84 x0 x1 x2 h) 84 [some (.ref x0), some (.int x1), some (.int x2)] [] h) (hkE99 : ∀  (h : xH), Y g (DX10_moves (l + 1 + 1)) h0 cl iI (kE99  h) 99 [none, none, none] [] h) : ∀ (n : Nat) (x0 : Nat) (x1 : Int32) (x2 : Int32) (h : xH), Y g (DX10_moves (l + 1 + 1)) h0 cl iI (f_X10_moves_L2 rec kE84 kE99 n x0 x1 x2 h) 2 [some (.ref x0), some (.int x1), some (.int x2)] [] h := by
  intro n
  induction n with
  | zero => intro x0 x1 x2 h; exact Y.nothing
  | succ n ih =>
    intro x0 x1 x2 h
    unfold f_X10_moves_L2
    refine Y.op (pc' := 3) (fun _ => X.iloadn rfl dX10_moves_2) ?_
    refine Y.op (pc' := 5) (fun _ => X.bp kb_12 dX10_moves_3) ?_
    refine Y.cmpge 99 (by decide) dX10_moves_5 ?_ ?_
    · exact Y.fg (hkE99 h) trivial
    · refine Y.op (pc' := 9) (fun _ => X.aloadn rfl dX10_moves_8) ?_
      refine Y.getR fd_X10_25 rfl dX10_moves_9 (fun v1 => ?_)
      refine Y.op (pc' := 13) (fun _ => X.ic ki_0 dX10_moves_12) ?_
      refine Y.aldR 102 (by decide) (by decide) dX10_moves_13 (fun v2 => ?_)
      refine Y.op (pc' := 15) (fun _ => X.iloadn rfl dX10_moves_14) ?_
      refine Y.aldI dX10_moves_15 (fun v3 => ?_)
      refine Y.op (pc' := 17) (fun _ => X.aloadn rfl dX10_moves_16) ?_
      refine Y.getR fd_X10_22 rfl dX10_moves_17 (fun v4 => ?_)
      refine Y.op (pc' := 21) (fun _ => X.ic ki_0 dX10_moves_20) ?_
      refine Y.aldR 102 (by decide) (by decide) dX10_moves_21 (fun v5 => ?_)
      refine Y.op (pc' := 23) (fun _ => X.ic ki_4 dX10_moves_22) ?_
      refine Y.aldI dX10_moves_23 (fun v6 => ?_)
      refine Y.op (pc' := 25) (fun _ => X.iand dX10_moves_24) ?_
      refine Y.op (pc' := 26) (fun _ => X.iloadn rfl dX10_moves_25) ?_
      refine Y.callSi (As := [.int (v3 &&& v6), .int x2]) lk_X10_182 rfl cal_X10_has sta_X10_has (by show 1 + 1 ≤ l + 1 + 1; omega) rfl rfl (Nat.le_of_ble_eq_true rfl) dX10_moves_26 (fun _ e => m_X10_has (v3 &&& v6) x2 h _ _ e) (fun r7 => ?_)
      refine Y.ifeq 93 (by decide) dX10_moves_29 ?_ ?_
      · exact y_X10_moves_J93 hrec ih hkE84 hkE99 x0 x1 x2 r7.2
      · refine Y.op (pc' := 33) (fun _ => X.aloadn rfl dX10_moves_32) ?_
        refine Y.getI fd_X10_321 rfl dX10_moves_33 (fun v8 => ?_)
        refine Y.op (pc' := 37) (fun _ => X.iloadn rfl dX10_moves_36) ?_
        refine Y.callSi (As := [.int v8, .int x2]) lk_X10_182 rfl cal_X10_has sta_X10_has (by show 1 + 1 ≤ l + 1 + 1; omega) rfl rfl (Nat.le_of_ble_eq_true rfl) dX10_moves_37 (fun _ e => m_X10_has v8 x2 r7.2 _ _ e) (fun r9 => ?_)
        refine Y.ifeq 46 (by decide) dX10_moves_40 ?_ ?_
        · refine Y.op (pc' := 47) (fun _ => X.aloadn rfl dX10_moves_46) ?_
          refine Y.op (pc' := 48) (fun _ => X.dup rfl dX10_moves_47) ?_
          refine Y.getI fd_X10_321 rfl dX10_moves_48 (fun v10 => ?_)
          refine Y.op (pc' := 52) (fun _ => X.ic ki_1 dX10_moves_51) ?_
          refine Y.op (pc' := 53) (fun _ => X.iloadn rfl dX10_moves_52) ?_
          refine Y.op (pc' := 54) (fun _ => X.ishl dX10_moves_53) ?_
          refine Y.op (pc' := 55) (fun _ => X.ior dX10_moves_54) ?_
          refine Y.putI fd_X10_321 rfl dX10_moves_55 (fun h11 => ?_)
          refine Y.op (pc' := 59) (fun _ => X.aloadn rfl dX10_moves_58) ?_
          refine Y.getR fd_X10_51 rfl dX10_moves_59 (fun v12 => ?_)
          refine Y.op (pc' := 63) (fun _ => X.iloadn rfl dX10_moves_62) ?_
          refine Y.aldI dX10_moves_63 (fun v13 => ?_)
          refine Y.op (pc' := 65) (fun _ => X.ic ki_m1 dX10_moves_64) ?_
          refine Y.cmpeq 84 (by decide) dX10_moves_65 ?_ ?_
          · exact hkE84 x0 x1 x2 h11
          · refine Y.op (pc' := 69) (fun _ => X.aloadn rfl dX10_moves_68) ?_
            refine Y.op (pc' := 70) (fun _ => X.aloadn rfl dX10_moves_69) ?_
            refine Y.getR fd_X10_51 rfl dX10_moves_70 (fun v14 => ?_)
            refine Y.op (pc' := 74) (fun _ => X.iloadn rfl dX10_moves_73) ?_
            refine Y.aldI dX10_moves_74 (fun v15 => ?_)
            refine Y.callVi (As := [.int v15]) lk_X10_324 rfl (cal_X10_moves _) (vir_X10_moves _) (Nat.le_refl _) (Nat.le_of_ble_eq_true rfl) rfl rfl rfl (Nat.le_of_ble_eq_true rfl) dX10_moves_75 (fun _ e => hrec x0 v15 h11 _ _ e) (fun r16 => ?_)
            refine Y.ifne 84 (by decide) dX10_moves_78 ?_ ?_
            · exact hkE84 x0 x1 x2 r16.2
            · refine Y.op (pc' := 93) (fun _ => X.goto 93 (by decide) dX10_moves_81) ?_
              exact y_X10_moves_J93 hrec ih hkE84 hkE99 x0 x1 x2 r16.2
        · refine Y.op (pc' := 93) (fun _ => X.goto 93 (by decide) dX10_moves_43) ?_
          exact y_X10_moves_J93 hrec ih hkE84 hkE99 x0 x1 x2 r9.2
def f_X10_moves_B (rec : Nat → Int32 → xH → Option (Int32 × xH)) (a0 : Nat) (p1 : Int32) (h : xH) : Option (Int32 × xH) :=
  f_X10_moves_L2 rec (f_X10_moves_J84 rec) (f_X10_moves_J99 rec) 5000 a0 p1 (0 : Int32) h
def f_X10_moves : Nat → Nat → Int32 → xH → Option (Int32 × xH)
  | 0 => fun _ _ _ => none
  | d + 1 => f_X10_moves_B (f_X10_moves d)
theorem y_X10_moves {g : xG} {l : Nat} {h0 : xH} {cl : Bool} {rec : Nat → Int32 → xH → Option (Int32 × xH)} (hrec : ∀ (a0 : Nat) (p1 : Int32) (h : xH) (cl : Bool) (r : Int32 × xH), rec a0 p1 h = some r → XM g (DX10_moves (l + 1)) [.ref a0, .int p1] h cl (iI r)) (a0 : Nat) (p1 : Int32) (h : xH) : Y g (DX10_moves (l + 1 + 1)) h0 cl iI (f_X10_moves_B rec a0 p1 h) 0 [some (.ref a0), some (.int p1), none] [] h := by
  unfold f_X10_moves_B
  refine Y.op (pc' := 1) (fun _ => X.ic ki_0 dX10_moves_0) ?_
  refine Y.op (pc' := 2) (loc' := [some (.ref a0), some (.int p1), some (.int (0 : Int32))]) (fun _ => X.istoren (Nat.le_of_ble_eq_true rfl) rfl dX10_moves_1) ?_
  exact y_X10_moves_L2 hrec (y_X10_moves_J84 hrec) (y_X10_moves_J99 hrec) 5000 a0 p1 (0 : Int32) h
theorem m_X10_moves {g : xG} : ∀ (d : Nat) (a0 : Nat) (p1 : Int32) (h : xH) (cl : Bool) (r : Int32 × xH), f_X10_moves d a0 p1 h = some r → XM g (DX10_moves (d + 1)) [.ref a0, .int p1] h cl (iI r) := by
  intro d
  induction d with
  | zero => intro a0 p1 h cl r e; cases e
  | succ d ih =>
    intro a0 p1 h cl r e
    have e : f_X10_moves_B (f_X10_moves d) a0 p1 h = some r := e
    rw [show d + 1 + 1 = d + 1 + 1 by omega]
    exact YM.of rfl rfl (Nat.le_of_ble_eq_true rfl) (y_X10_moves (l := d) ih a0 p1 h) e
def f_X10_nu_J73 (x1 : Int32) (h : xH) : Option (Int32 × xH) :=
  some (x1, h)
theorem y_X10_nu_J73 {g : xG} {h0 : xH} {cl : Bool} (x1 : Int32) (h : xH) : Y g DX10_nu h0 cl iI (f_X10_nu_J73 x1 h) 73 [none, some (.int x1), none] [] h := by
  unfold f_X10_nu_J73
  refine Y.op (pc' := 74) (fun _ => X.iloadn rfl dX10_nu_73) ?_
  exact Y.ireturn rfl dX10_nu_74
def f_X10_nu_J65 (kH : Nat → Int32 → Int32 → xH → Option (Int32 × xH)) (kE73 : Int32 → xH → Option (Int32 × xH)) (x0 : Nat) (x2 : Int32) (s0 : Int32) (s1 : Int32) (h : xH) : Option (Int32 × xH) :=
  lt ((s0 + s1)) fun v1 =>
  lt (x2 + (1 : Int32)) fun v2 =>
  kH x0 v1 v2 h
theorem y_X10_nu_J65 {g : xG} {h0 : xH} {cl : Bool} {kH : Nat → Int32 → Int32 → xH → Option (Int32 × xH)} {kE73 : Int32 → xH → Option (Int32 × xH)} (hkH : ∀ (x0 : Nat) (x1 : Int32) (x2 : Int32) (h : xH), Y g DX10_nu h0 cl iI (kH x0 x1 x2 h) 25 [some (.ref x0), some (.int x1), some (.int x2)] [] h) (hkE73 : ∀ (x1 : Int32) (h : xH), Y g DX10_nu h0 cl iI (kE73 x1 h) 73 [none, some (.int x1), none] [] h) (x0 : Nat) (x2 : Int32) (s0 : Int32) (s1 : Int32) (h : xH) : Y g DX10_nu h0 cl iI (f_X10_nu_J65 kH kE73 x0 x2 s0 s1 h) 65 [some (.ref x0), none, some (.int x2)] [.int s1, .int s0] h := by
  unfold f_X10_nu_J65
  refine Y.op (pc' := 66) (fun _ => X.iadd dX10_nu_65) ?_
  refine Y.top (fun v1 => ?_)
  refine Y.op (pc' := 67) (loc' := [some (.ref x0), some (.int v1), some (.int x2)]) (fun _ => X.istoren (Nat.le_of_ble_eq_true rfl) rfl dX10_nu_66) ?_
  refine Y.iinc (i := 2) (loc' := fun v2 => [some (.ref x0), some (.int v1), some (.int v2)]) rfl (Nat.le_of_ble_eq_true rfl) ki_1 (fun _ => rfl) dX10_nu_67 (fun v2 => ?_)
  refine Y.op (pc' := 25) (fun _ => X.goto 25 (by decide) dX10_nu_70) ?_
  exact hkH x0 v1 v2 h
def f_X10_nu_J64 (kH : Nat → Int32 → Int32 → xH → Option (Int32 × xH)) (kE73 : Int32 → xH → Option (Int32 × xH)) (x0 : Nat) (x2 : Int32) (s0 : Int32) (h : xH) : Option (Int32 × xH) :=
  f_X10_nu_J65 (kH) kE73 x0 x2 s0 (0 : Int32) h
theorem y_X10_nu_J64 {g : xG} {h0 : xH} {cl : Bool} {kH : Nat → Int32 → Int32 → xH → Option (Int32 × xH)} {kE73 : Int32 → xH → Option (Int32 × xH)} (hkH : ∀ (x0 : Nat) (x1 : Int32) (x2 : Int32) (h : xH), Y g DX10_nu h0 cl iI (kH x0 x1 x2 h) 25 [some (.ref x0), some (.int x1), some (.int x2)] [] h) (hkE73 : ∀ (x1 : Int32) (h : xH), Y g DX10_nu h0 cl iI (kE73 x1 h) 73 [none, some (.int x1), none] [] h) (x0 : Nat) (x2 : Int32) (s0 : Int32) (h : xH) : Y g DX10_nu h0 cl iI (f_X10_nu_J64 kH kE73 x0 x2 s0 h) 64 [some (.ref x0), none, some (.int x2)] [.int s0] h := by
  unfold f_X10_nu_J64
  refine Y.op (pc' := 65) (fun _ => X.ic ki_0 dX10_nu_64) ?_
  exact y_X10_nu_J65 hkH hkE73 x0 x2 s0 (0 : Int32) h
def f_X10_nu_L25 (kE73 : Int32 → xH → Option (Int32 × xH)) : Nat → Nat → Int32 → Int32 → xH → Option (Int32 × xH)
  | 0 => fun _ _ _ _ => none
  | n + 1 => fun x0 x1 x2 h =>
    if x2 ≥ (12 : Int32) then
      kE73 x1 h
    else
      (pI h 10 x0 29 (0 : Int32)).bind fun h1 =>
      (gR h1 10 x0 9).bind fun v2 =>
      (aR 102 h1 v2 (0 : Int32)).bind fun v3 =>
      (aI h1 v3 (3 : Int32)).bind fun v4 =>
      (f_X10_has v4 x2 h1).bind fun r5 =>
      if r5.1 = (0 : Int32) then
        f_X10_nu_J64 (f_X10_nu_L25 kE73 n) kE73 x0 x2 x1 r5.2
      else
        (vc r5.2 10 x0 (f_X10_moves 40 x0 x2 r5.2)).bind fun r6 =>
        if r6.1 = (0 : Int32) then
          f_X10_nu_J64 (f_X10_nu_L25 kE73 n) kE73 x0 x2 x1 r6.2
        else
          f_X10_nu_J65 (f_X10_nu_L25 kE73 n) kE73 x0 x2 x1 (1 : Int32) r6.2
theorem y_X10_nu_L25 {g : xG} {h0 : xH} {cl : Bool} {kE73 : Int32 → xH → Option (Int32 × xH)} (hkE73 : ∀ (x1 : Int32) (h : xH), Y g DX10_nu h0 cl iI (kE73 x1 h) 73 [none, some (.int x1), none] [] h) : ∀ (n : Nat) (x0 : Nat) (x1 : Int32) (x2 : Int32) (h : xH), Y g DX10_nu h0 cl iI (f_X10_nu_L25 kE73 n x0 x1 x2 h) 25 [some (.ref x0), some (.int x1), some (.int x2)] [] h := by
  intro n
  induction n with
  | zero => intro x0 x1 x2 h; exact Y.nothing
  | succ n ih =>
    intro x0 x1 x2 h
    unfold f_X10_nu_L25
    refine Y.op (pc' := 26) (fun _ => X.iloadn rfl dX10_nu_25) ?_
    refine Y.op (pc' := 28) (fun _ => X.bp kb_12 dX10_nu_26) ?_
    refine Y.cmpge 73 (by decide) dX10_nu_28 ?_ ?_
    · exact Y.fg (hkE73 x1 h) (And.intro rfl trivial)
    · refine Y.op (pc' := 32) (fun _ => X.aloadn rfl dX10_nu_31) ?_
      refine Y.op (pc' := 33) (fun _ => X.ic ki_0 dX10_nu_32) ?_
      refine Y.putI fd_X10_321 rfl dX10_nu_33 (fun h1 => ?_)
      refine Y.op (pc' := 37) (fun _ => X.iloadn rfl dX10_nu_36) ?_
      refine Y.op (pc' := 38) (fun _ => X.aloadn rfl dX10_nu_37) ?_
      refine Y.getR fd_X10_22 rfl dX10_nu_38 (fun v2 => ?_)
      refine Y.op (pc' := 42) (fun _ => X.ic ki_0 dX10_nu_41) ?_
      refine Y.aldR 102 (by decide) (by decide) dX10_nu_42 (fun v3 => ?_)
      refine Y.op (pc' := 44) (fun _ => X.ic ki_3 dX10_nu_43) ?_
      refine Y.aldI dX10_nu_44 (fun v4 => ?_)
      refine Y.op (pc' := 46) (fun _ => X.iloadn rfl dX10_nu_45) ?_
      refine Y.callSi (As := [.int v4, .int x2]) lk_X10_182 rfl cal_X10_has sta_X10_has (Nat.le_of_ble_eq_true rfl) rfl rfl (Nat.le_of_ble_eq_true rfl) dX10_nu_46 (fun _ e => m_X10_has v4 x2 h1 _ _ e) (fun r5 => ?_)
      refine Y.ifeq 64 (by decide) dX10_nu_49 ?_ ?_
      · exact Y.fg (y_X10_nu_J64 ih hkE73 x0 x2 x1 r5.2) (And.intro rfl (And.intro rfl trivial))
      · refine Y.op (pc' := 53) (fun _ => X.aloadn rfl dX10_nu_52) ?_
        refine Y.op (pc' := 54) (fun _ => X.iloadn rfl dX10_nu_53) ?_
        refine Y.callVi (As := [.int x2]) lk_X10_324 rfl (cal_X10_moves _) (vir_X10_moves _) (Nat.le_of_ble_eq_true rfl) (Nat.le_of_ble_eq_true rfl) rfl rfl rfl (Nat.le_of_ble_eq_true rfl) dX10_nu_54 (fun _ e => m_X10_moves 40 x0 x2 r5.2 _ _ e) (fun r6 => ?_)
        refine Y.ifeq 64 (by decide) dX10_nu_57 ?_ ?_
        · exact Y.fg (y_X10_nu_J64 ih hkE73 x0 x2 x1 r6.2) (And.intro rfl (And.intro rfl trivial))
        · refine Y.op (pc' := 61) (fun _ => X.ic ki_1 dX10_nu_60) ?_
          refine Y.op (pc' := 65) (fun _ => X.goto 65 (by decide) dX10_nu_61) ?_
          exact Y.fg (y_X10_nu_J65 ih hkE73 x0 x2 x1 (1 : Int32) r6.2) (And.intro rfl (And.intro rfl trivial))
def f_X10_nu_J23 (x0 : Nat) (x1 : Int32) (h : xH) : Option (Int32 × xH) :=
  f_X10_nu_L25 (f_X10_nu_J73) 5000 x0 x1 (0 : Int32) h
theorem y_X10_nu_J23 {g : xG} {h0 : xH} {cl : Bool} (x0 : Nat) (x1 : Int32) (h : xH) : Y g DX10_nu h0 cl iI (f_X10_nu_J23 x0 x1 h) 23 [some (.ref x0), some (.int x1), none] [] h := by
  unfold f_X10_nu_J23
  refine Y.op (pc' := 24) (fun _ => X.ic ki_0 dX10_nu_23) ?_
  refine Y.op (pc' := 25) (loc' := [some (.ref x0), some (.int x1), some (.int (0 : Int32))]) (fun _ => X.istoren (Nat.le_of_ble_eq_true rfl) rfl dX10_nu_24) ?_
  exact y_X10_nu_L25 (y_X10_nu_J73) 5000 x0 x1 (0 : Int32) h
def f_X10_nu_L4 (kE23 : Nat → Int32 → xH → Option (Int32 × xH)) : Nat → Nat → Int32 → Int32 → xH → Option (Int32 × xH)
  | 0 => fun _ _ _ _ => none
  | n + 1 => fun x0 x1 x2 h =>
    if x2 ≥ (12 : Int32) then
      kE23 x0 x1 h
    else
      (gR h 10 x0 28).bind fun v1 =>
      (sI h v1 x2 (-1 : Int32)).bind fun h2 =>
      lt (x2 + (1 : Int32)) fun v3 =>
      f_X10_nu_L4 kE23 n x0 x1 v3 h2
theorem y_X10_nu_L4 {g : xG} {h0 : xH} {cl : Bool} {kE23 : Nat → Int32 → xH → Option (Int32 × xH)} (hkE23 : ∀ (x0 : Nat) (x1 : Int32) (h : xH), Y g DX10_nu h0 cl iI (kE23 x0 x1 h) 23 [some (.ref x0), some (.int x1), none] [] h) : ∀ (n : Nat) (x0 : Nat) (x1 : Int32) (x2 : Int32) (h : xH), Y g DX10_nu h0 cl iI (f_X10_nu_L4 kE23 n x0 x1 x2 h) 4 [some (.ref x0), some (.int x1), some (.int x2)] [] h := by
  intro n
  induction n with
  | zero => intro x0 x1 x2 h; exact Y.nothing
  | succ n ih =>
    intro x0 x1 x2 h
    unfold f_X10_nu_L4
    refine Y.op (pc' := 5) (fun _ => X.iloadn rfl dX10_nu_4) ?_
    refine Y.op (pc' := 7) (fun _ => X.bp kb_12 dX10_nu_5) ?_
    refine Y.cmpge 23 (by decide) dX10_nu_7 ?_ ?_
    · exact Y.fg (hkE23 x0 x1 h) (And.intro rfl (And.intro rfl trivial))
    · refine Y.op (pc' := 11) (fun _ => X.aloadn rfl dX10_nu_10) ?_
      refine Y.getR fd_X10_51 rfl dX10_nu_11 (fun v1 => ?_)
      refine Y.op (pc' := 15) (fun _ => X.iloadn rfl dX10_nu_14) ?_
      refine Y.op (pc' := 16) (fun _ => X.ic ki_m1 dX10_nu_15) ?_
      refine Y.astI dX10_nu_16 (fun h2 => ?_)
      refine Y.iinc (i := 2) (loc' := fun v3 => [some (.ref x0), some (.int x1), some (.int v3)]) rfl (Nat.le_of_ble_eq_true rfl) ki_1 (fun _ => rfl) dX10_nu_17 (fun v3 => ?_)
      refine Y.op (pc' := 4) (fun _ => X.goto 4 (by decide) dX10_nu_20) ?_
      exact ih x0 x1 v3 h2
def f_X10_nu (a0 : Nat) (h : xH) : Option (Int32 × xH) :=
  f_X10_nu_L4 (f_X10_nu_J23) 5000 a0 (0 : Int32) (0 : Int32) h
theorem y_X10_nu {g : xG} {h0 : xH} {cl : Bool} (a0 : Nat) (h : xH) : Y g DX10_nu h0 cl iI (f_X10_nu a0 h) 0 [some (.ref a0), none, none] [] h := by
  unfold f_X10_nu
  refine Y.op (pc' := 1) (fun _ => X.ic ki_0 dX10_nu_0) ?_
  refine Y.op (pc' := 2) (loc' := [some (.ref a0), some (.int (0 : Int32)), none]) (fun _ => X.istoren (Nat.le_of_ble_eq_true rfl) rfl dX10_nu_1) ?_
  refine Y.op (pc' := 3) (fun _ => X.ic ki_0 dX10_nu_2) ?_
  refine Y.op (pc' := 4) (loc' := [some (.ref a0), some (.int (0 : Int32)), some (.int (0 : Int32))]) (fun _ => X.istoren (Nat.le_of_ble_eq_true rfl) rfl dX10_nu_3) ?_
  exact y_X10_nu_L4 (y_X10_nu_J23) 5000 a0 (0 : Int32) (0 : Int32) h
theorem m_X10_nu {g : xG} (a0 : Nat) (h : xH) (cl : Bool) (r : Int32 × xH) (e : f_X10_nu a0 h = some r) : XM g DX10_nu [.ref a0] h cl (iI r) := YM.of rfl rfl (Nat.le_of_ble_eq_true rfl) (y_X10_nu a0 h) e
def f_X10_most (a0 : Nat) (h : xH) : Option (Int32 × xH) :=
  (pI h 10 a0 0 (0 : Int32)).bind fun h1 =>
  (vc h1 10 a0 (f_X10_nu a0 h1)).bind fun r2 =>
  some (r2.1, r2.2)
theorem y_X10_most {g : xG} {h0 : xH} {cl : Bool} (a0 : Nat) (h : xH) : Y g DX10_most h0 cl iI (f_X10_most a0 h) 0 [some (.ref a0)] [] h := by
  unfold f_X10_most
  refine Y.op (pc' := 1) (fun _ => X.aloadn rfl dX10_most_0) ?_
  refine Y.op (pc' := 2) (fun _ => X.ic ki_0 dX10_most_1) ?_
  refine Y.putI fd_X10_82 rfl dX10_most_2 (fun h1 => ?_)
  refine Y.op (pc' := 6) (fun _ => X.aloadn rfl dX10_most_5) ?_
  refine Y.callVi (As := []) lk_X10_327 rfl cal_X10_nu vir_X10_nu (Nat.le_of_ble_eq_true rfl) (Nat.le_of_ble_eq_true rfl) rfl rfl rfl (Nat.le_of_ble_eq_true rfl) dX10_most_6 (fun _ e => m_X10_nu a0 h1 _ _ e) (fun r2 => ?_)
  exact Y.ireturn rfl dX10_most_9
theorem m_X10_most {g : xG} (a0 : Nat) (h : xH) (cl : Bool) (r : Int32 × xH) (e : f_X10_most a0 h = some r) : XM g DX10_most [.ref a0] h cl (iI r) := YM.of rfl rfl (Nat.le_of_ble_eq_true rfl) (y_X10_most a0 h) e
def f_X10_chooses_J126 (h : xH) : Option (xH) :=
  some h
theorem y_X10_chooses_J126 {g : xG} {h0 : xH} {cl : Bool} (h : xH) : Y g DX10_chooses h0 cl iV (f_X10_chooses_J126 h) 126 [none, none, none] [] h := by
  unfold f_X10_chooses_J126
  exact Y.vreturn rfl dX10_chooses_126
def f_X10_chooses_J120 (kH : Nat → Int32 → xH → Option (xH)) (kE126 : xH → Option (xH)) (x0 : Nat) (x1 : Int32) (h : xH) : Option (xH) :=
  lt (x1 + (-1 : Int32)) fun v1 =>
  kH x0 v1 h
theorem y_X10_chooses_J120 {g : xG} {h0 : xH} {cl : Bool} {kH : Nat → Int32 → xH → Option (xH)} {kE126 : xH → Option (xH)} (hkH : ∀ (x0 : Nat) (x1 : Int32) (h : xH), Y g DX10_chooses h0 cl iV (kH x0 x1 h) 34 [some (.ref x0), some (.int x1), none] [] h) (hkE126 : ∀  (h : xH), Y g DX10_chooses h0 cl iV (kE126  h) 126 [none, none, none] [] h) (x0 : Nat) (x1 : Int32) (h : xH) : Y g DX10_chooses h0 cl iV (f_X10_chooses_J120 kH kE126 x0 x1 h) 120 [some (.ref x0), some (.int x1), none] [] h := by
  unfold f_X10_chooses_J120
  refine Y.iinc (i := 1) (loc' := fun v1 => [some (.ref x0), some (.int v1), none]) rfl (Nat.le_of_ble_eq_true rfl) ki_m1 (fun _ => rfl) dX10_chooses_120 (fun v1 => ?_)
  refine Y.op (pc' := 34) (fun _ => X.goto 34 (by decide) dX10_chooses_123) ?_
  exact hkH x0 v1 h
def f_X10_chooses_J114 (kH : Nat → Int32 → Int32 → xH → Option (xH)) (kE120 : Nat → Int32 → xH → Option (xH)) (x0 : Nat) (x1 : Int32) (x2 : Int32) (h : xH) : Option (xH) :=
  lt (x2 + (1 : Int32)) fun v1 =>
  kH x0 x1 v1 h
theorem y_X10_chooses_J114 {g : xG} {h0 : xH} {cl : Bool} {kH : Nat → Int32 → Int32 → xH → Option (xH)} {kE120 : Nat → Int32 → xH → Option (xH)} (hkH : ∀ (x0 : Nat) (x1 : Int32) (x2 : Int32) (h : xH), Y g DX10_chooses h0 cl iV (kH x0 x1 x2 h) 40 [some (.ref x0), some (.int x1), some (.int x2)] [] h) (hkE120 : ∀ (x0 : Nat) (x1 : Int32) (h : xH), Y g DX10_chooses h0 cl iV (kE120 x0 x1 h) 120 [some (.ref x0), some (.int x1), none] [] h) (x0 : Nat) (x1 : Int32) (x2 : Int32) (h : xH) : Y g DX10_chooses h0 cl iV (f_X10_chooses_J114 kH kE120 x0 x1 x2 h) 114 [some (.ref x0), some (.int x1), some (.int x2)] [] h := by
  unfold f_X10_chooses_J114
  refine Y.iinc (i := 2) (loc' := fun v1 => [some (.ref x0), some (.int x1), some (.int v1)]) rfl (Nat.le_of_ble_eq_true rfl) ki_1 (fun _ => rfl) dX10_chooses_114 (fun v1 => ?_)
  refine Y.op (pc' := 40) (fun _ => X.goto 40 (by decide) dX10_chooses_117) ?_
  exact hkH x0 x1 v1 h
def f_X10_chooses_L40 (kE120 : Nat → Int32 → xH → Option (xH)) : Nat → Nat → Int32 → Int32 → xH → Option (xH)
  | 0 => fun _ _ _ _ => none
  | n + 1 => fun x0 x1 x2 h =>
    (gR h 10 x0 9).bind fun v1 =>
    (aR 102 h v1 (0 : Int32)).bind fun v2 =>
    (aI h v2 (0 : Int32)).bind fun v3 =>
    if x2 ≥ v3 then
      kE120 x0 x1 h
    else
      (vc h 10 x0 (f_X10_isThere x0 (0 : Int32) x2 h)).bind fun r4 =>
      if r4.1 = (0 : Int32) then
        f_X10_chooses_J114 (f_X10_chooses_L40 kE120 n) kE120 x0 x1 x2 r4.2
      else
        (gR r4.2 10 x0 12).bind fun v5 =>
        (aR 102 r4.2 v5 (0 : Int32)).bind fun v6 =>
        (aI r4.2 v6 x2).bind fun v7 =>
        if v7 = x1 then
          (pI r4.2 10 x0 29 (0 : Int32)).bind fun h8 =>
          (vc h8 10 x0 (f_X10_moves 40 x0 x2 h8)).bind fun r9 =>
          if r9.1 = (0 : Int32) then
            f_X10_chooses_J114 (f_X10_chooses_L40 kE120 n) kE120 x0 x1 x2 r9.2
          else
            (gI r9.2 10 x0 30).bind fun v10 =>
            (pI r9.2 10 x0 30 (v10 ||| ((1 : Int32) <<< (x2 &&& 31)))).bind fun h11 =>
            (gI h11 10 x0 31).bind fun v12 =>
            (pI h11 10 x0 31 (v12 + x1)).bind fun h13 =>
            f_X10_chooses_J114 (f_X10_chooses_L40 kE120 n) kE120 x0 x1 x2 h13
        else
          f_X10_chooses_J114 (f_X10_chooses_L40 kE120 n) kE120 x0 x1 x2 r4.2
theorem y_X10_chooses_L40 {g : xG} {h0 : xH} {cl : Bool} {kE120 : Nat → Int32 → xH → Option (xH)} (hkE120 : ∀ (x0 : Nat) (x1 : Int32) (h : xH), Y g DX10_chooses h0 cl iV (kE120 x0 x1 h) 120 [some (.ref x0), some (.int x1), none] [] h) : ∀ (n : Nat) (x0 : Nat) (x1 : Int32) (x2 : Int32) (h : xH), Y g DX10_chooses h0 cl iV (f_X10_chooses_L40 kE120 n x0 x1 x2 h) 40 [some (.ref x0), some (.int x1), some (.int x2)] [] h := by
  intro n
  induction n with
  | zero => intro x0 x1 x2 h; exact Y.nothing
  | succ n ih =>
    intro x0 x1 x2 h
    unfold f_X10_chooses_L40
    refine Y.op (pc' := 41) (fun _ => X.iloadn rfl dX10_chooses_40) ?_
    refine Y.op (pc' := 42) (fun _ => X.aloadn rfl dX10_chooses_41) ?_
    refine Y.getR fd_X10_22 rfl dX10_chooses_42 (fun v1 => ?_)
    refine Y.op (pc' := 46) (fun _ => X.ic ki_0 dX10_chooses_45) ?_
    refine Y.aldR 102 (by decide) (by decide) dX10_chooses_46 (fun v2 => ?_)
    refine Y.op (pc' := 48) (fun _ => X.ic ki_0 dX10_chooses_47) ?_
    refine Y.aldI dX10_chooses_48 (fun v3 => ?_)
    refine Y.cmpge 120 (by decide) dX10_chooses_49 ?_ ?_
    · exact Y.fg (hkE120 x0 x1 h) (And.intro rfl (And.intro rfl trivial))
    · refine Y.op (pc' := 53) (fun _ => X.aloadn rfl dX10_chooses_52) ?_
      refine Y.op (pc' := 54) (fun _ => X.ic ki_0 dX10_chooses_53) ?_
      refine Y.op (pc' := 55) (fun _ => X.iloadn rfl dX10_chooses_54) ?_
      refine Y.callVi (As := [.int (0 : Int32), .int x2]) lk_X10_240 rfl cal_X10_isThere vir_X10_isThere (Nat.le_of_ble_eq_true rfl) (Nat.le_of_ble_eq_true rfl) rfl rfl rfl (Nat.le_of_ble_eq_true rfl) dX10_chooses_55 (fun _ e => m_X10_isThere x0 (0 : Int32) x2 h _ _ e) (fun r4 => ?_)
      refine Y.ifeq 114 (by decide) dX10_chooses_58 ?_ ?_
      · exact y_X10_chooses_J114 ih hkE120 x0 x1 x2 r4.2
      · refine Y.op (pc' := 62) (fun _ => X.aloadn rfl dX10_chooses_61) ?_
        refine Y.getR fd_X10_31 rfl dX10_chooses_62 (fun v5 => ?_)
        refine Y.op (pc' := 66) (fun _ => X.ic ki_0 dX10_chooses_65) ?_
        refine Y.aldR 102 (by decide) (by decide) dX10_chooses_66 (fun v6 => ?_)
        refine Y.op (pc' := 68) (fun _ => X.iloadn rfl dX10_chooses_67) ?_
        refine Y.aldI dX10_chooses_68 (fun v7 => ?_)
        refine Y.op (pc' := 70) (fun _ => X.iloadn rfl dX10_chooses_69) ?_
        refine Y.cmpeq 76 (by decide) dX10_chooses_70 ?_ ?_
        · refine Y.op (pc' := 77) (fun _ => X.aloadn rfl dX10_chooses_76) ?_
          refine Y.op (pc' := 78) (fun _ => X.ic ki_0 dX10_chooses_77) ?_
          refine Y.putI fd_X10_321 rfl dX10_chooses_78 (fun h8 => ?_)
          refine Y.op (pc' := 82) (fun _ => X.aloadn rfl dX10_chooses_81) ?_
          refine Y.op (pc' := 83) (fun _ => X.iloadn rfl dX10_chooses_82) ?_
          refine Y.callVi (As := [.int x2]) lk_X10_324 rfl (cal_X10_moves _) (vir_X10_moves _) (Nat.le_of_ble_eq_true rfl) (Nat.le_of_ble_eq_true rfl) rfl rfl rfl (Nat.le_of_ble_eq_true rfl) dX10_chooses_83 (fun _ e => m_X10_moves 40 x0 x2 h8 _ _ e) (fun r9 => ?_)
          refine Y.ifne 92 (by decide) dX10_chooses_86 ?_ ?_
          · refine Y.op (pc' := 93) (fun _ => X.aloadn rfl dX10_chooses_92) ?_
            refine Y.op (pc' := 94) (fun _ => X.dup rfl dX10_chooses_93) ?_
            refine Y.getI fd_X10_330 rfl dX10_chooses_94 (fun v10 => ?_)
            refine Y.op (pc' := 98) (fun _ => X.ic ki_1 dX10_chooses_97) ?_
            refine Y.op (pc' := 99) (fun _ => X.iloadn rfl dX10_chooses_98) ?_
            refine Y.op (pc' := 100) (fun _ => X.ishl dX10_chooses_99) ?_
            refine Y.op (pc' := 101) (fun _ => X.ior dX10_chooses_100) ?_
            refine Y.putI fd_X10_330 rfl dX10_chooses_101 (fun h11 => ?_)
            refine Y.op (pc' := 105) (fun _ => X.aloadn rfl dX10_chooses_104) ?_
            refine Y.op (pc' := 106) (fun _ => X.dup rfl dX10_chooses_105) ?_
            refine Y.getI fd_X10_333 rfl dX10_chooses_106 (fun v12 => ?_)
            refine Y.op (pc' := 110) (fun _ => X.iloadn rfl dX10_chooses_109) ?_
            refine Y.op (pc' := 111) (fun _ => X.iadd dX10_chooses_110) ?_
            refine Y.putI fd_X10_333 rfl dX10_chooses_111 (fun h13 => ?_)
            exact y_X10_chooses_J114 ih hkE120 x0 x1 x2 h13
          · refine Y.op (pc' := 114) (fun _ => X.goto 114 (by decide) dX10_chooses_89) ?_
            exact y_X10_chooses_J114 ih hkE120 x0 x1 x2 r9.2
        · refine Y.op (pc' := 114) (fun _ => X.goto 114 (by decide) dX10_chooses_73) ?_
          exact y_X10_chooses_J114 ih hkE120 x0 x1 x2 r4.2
def f_X10_chooses_L34 (kE126 : xH → Option (xH)) : Nat → Nat → Int32 → xH → Option (xH)
  | 0 => fun _ _ _ => none
  | n + 1 => fun x0 x1 h =>
    if x1 < (0 : Int32) then
      kE126 h
    else
      f_X10_chooses_L40 (f_X10_chooses_J120 (f_X10_chooses_L34 kE126 n) kE126) 5000 x0 x1 (0 : Int32) h
theorem y_X10_chooses_L34 {g : xG} {h0 : xH} {cl : Bool} {kE126 : xH → Option (xH)} (hkE126 : ∀  (h : xH), Y g DX10_chooses h0 cl iV (kE126  h) 126 [none, none, none] [] h) : ∀ (n : Nat) (x0 : Nat) (x1 : Int32) (h : xH), Y g DX10_chooses h0 cl iV (f_X10_chooses_L34 kE126 n x0 x1 h) 34 [some (.ref x0), some (.int x1), none] [] h := by
  intro n
  induction n with
  | zero => intro x0 x1 h; exact Y.nothing
  | succ n ih =>
    intro x0 x1 h
    unfold f_X10_chooses_L34
    refine Y.op (pc' := 35) (fun _ => X.iloadn rfl dX10_chooses_34) ?_
    refine Y.iflt 126 (by decide) dX10_chooses_35 ?_ ?_
    · exact Y.fg (hkE126 h) trivial
    · refine Y.op (pc' := 39) (fun _ => X.ic ki_0 dX10_chooses_38) ?_
      refine Y.op (pc' := 40) (loc' := [some (.ref x0), some (.int x1), some (.int (0 : Int32))]) (fun _ => X.istoren (Nat.le_of_ble_eq_true rfl) rfl dX10_chooses_39) ?_
      exact y_X10_chooses_L40 (y_X10_chooses_J120 ih hkE126) 5000 x0 x1 (0 : Int32) h
def f_X10_chooses_J31 (x0 : Nat) (h : xH) : Option (xH) :=
  f_X10_chooses_L34 (f_X10_chooses_J126) 5000 x0 (99 : Int32) h
theorem y_X10_chooses_J31 {g : xG} {h0 : xH} {cl : Bool} (x0 : Nat) (h : xH) : Y g DX10_chooses h0 cl iV (f_X10_chooses_J31 x0 h) 31 [some (.ref x0), none, none] [] h := by
  unfold f_X10_chooses_J31
  refine Y.op (pc' := 33) (fun _ => X.bp kb_99 dX10_chooses_31) ?_
  refine Y.op (pc' := 34) (loc' := [some (.ref x0), some (.int (99 : Int32)), none]) (fun _ => X.istoren (Nat.le_of_ble_eq_true rfl) rfl dX10_chooses_33) ?_
  exact y_X10_chooses_L34 (y_X10_chooses_J126) 5000 x0 (99 : Int32) h
def f_X10_chooses_L12 (kE31 : Nat → xH → Option (xH)) : Nat → Nat → Int32 → xH → Option (xH)
  | 0 => fun _ _ _ => none
  | n + 1 => fun x0 x1 h =>
    if x1 ≥ (12 : Int32) then
      kE31 x0 h
    else
      (gR h 10 x0 28).bind fun v1 =>
      (sI h v1 x1 (-1 : Int32)).bind fun h2 =>
      lt (x1 + (1 : Int32)) fun v3 =>
      f_X10_chooses_L12 kE31 n x0 v3 h2
theorem y_X10_chooses_L12 {g : xG} {h0 : xH} {cl : Bool} {kE31 : Nat → xH → Option (xH)} (hkE31 : ∀ (x0 : Nat) (h : xH), Y g DX10_chooses h0 cl iV (kE31 x0 h) 31 [some (.ref x0), none, none] [] h) : ∀ (n : Nat) (x0 : Nat) (x1 : Int32) (h : xH), Y g DX10_chooses h0 cl iV (f_X10_chooses_L12 kE31 n x0 x1 h) 12 [some (.ref x0), some (.int x1), none] [] h := by
  intro n
  induction n with
  | zero => intro x0 x1 h; exact Y.nothing
  | succ n ih =>
    intro x0 x1 h
    unfold f_X10_chooses_L12
    refine Y.op (pc' := 13) (fun _ => X.iloadn rfl dX10_chooses_12) ?_
    refine Y.op (pc' := 15) (fun _ => X.bp kb_12 dX10_chooses_13) ?_
    refine Y.cmpge 31 (by decide) dX10_chooses_15 ?_ ?_
    · exact Y.fg (hkE31 x0 h) (And.intro rfl trivial)
    · refine Y.op (pc' := 19) (fun _ => X.aloadn rfl dX10_chooses_18) ?_
      refine Y.getR fd_X10_51 rfl dX10_chooses_19 (fun v1 => ?_)
      refine Y.op (pc' := 23) (fun _ => X.iloadn rfl dX10_chooses_22) ?_
      refine Y.op (pc' := 24) (fun _ => X.ic ki_m1 dX10_chooses_23) ?_
      refine Y.astI dX10_chooses_24 (fun h2 => ?_)
      refine Y.iinc (i := 1) (loc' := fun v3 => [some (.ref x0), some (.int v3), none]) rfl (Nat.le_of_ble_eq_true rfl) ki_1 (fun _ => rfl) dX10_chooses_25 (fun v3 => ?_)
      refine Y.op (pc' := 12) (fun _ => X.goto 12 (by decide) dX10_chooses_28) ?_
      exact ih x0 v3 h2
def f_X10_chooses (a0 : Nat) (h : xH) : Option (xH) :=
  (pI h 10 a0 30 (0 : Int32)).bind fun h1 =>
  (pI h1 10 a0 31 (0 : Int32)).bind fun h2 =>
  f_X10_chooses_L12 (f_X10_chooses_J31) 5000 a0 (0 : Int32) h2
theorem y_X10_chooses {g : xG} {h0 : xH} {cl : Bool} (a0 : Nat) (h : xH) : Y g DX10_chooses h0 cl iV (f_X10_chooses a0 h) 0 [some (.ref a0), none, none] [] h := by
  unfold f_X10_chooses
  refine Y.op (pc' := 1) (fun _ => X.aloadn rfl dX10_chooses_0) ?_
  refine Y.op (pc' := 2) (fun _ => X.ic ki_0 dX10_chooses_1) ?_
  refine Y.putI fd_X10_330 rfl dX10_chooses_2 (fun h1 => ?_)
  refine Y.op (pc' := 6) (fun _ => X.aloadn rfl dX10_chooses_5) ?_
  refine Y.op (pc' := 7) (fun _ => X.ic ki_0 dX10_chooses_6) ?_
  refine Y.putI fd_X10_333 rfl dX10_chooses_7 (fun h2 => ?_)
  refine Y.op (pc' := 11) (fun _ => X.ic ki_0 dX10_chooses_10) ?_
  refine Y.op (pc' := 12) (loc' := [some (.ref a0), some (.int (0 : Int32)), none]) (fun _ => X.istoren (Nat.le_of_ble_eq_true rfl) rfl dX10_chooses_11) ?_
  exact y_X10_chooses_L12 (y_X10_chooses_J31) 5000 a0 (0 : Int32) h2
theorem m_X10_chooses {g : xG} (a0 : Nat) (h : xH) (cl : Bool) (r : xH) (e : f_X10_chooses a0 h = some r) : XM g DX10_chooses [.ref a0] h cl (iV r) := YM.of rfl rfl (Nat.le_of_ble_eq_true rfl) (y_X10_chooses a0 h) e
def f_X10_chosen_J49 (s0 : Int32) (h : xH) : Option (Int32 × xH) :=
  some (s0, h)
theorem y_X10_chosen_J49 {g : xG} {h0 : xH} {cl : Bool} (s0 : Int32) (h : xH) : Y g DX10_chosen h0 cl iI (f_X10_chosen_J49 s0 h) 49 [none, none] [.int s0] h := by
  unfold f_X10_chosen_J49
  exact Y.ireturn rfl dX10_chosen_49
def f_X10_chosen_J20 (x0 : Nat) (x1 : Int32) (s0 : Nat) (s1 : Int32) (h : xH) : Option (Int32 × xH) :=
  (vc h 10 s0 (f_X10_bad s0 s1 (1 : Int32) (1 : Int32) h)).bind fun r1 =>
  if r1.1 = (0 : Int32) then
    (vc r1.2 10 x0 (f_X10_chooses x0 r1.2)).bind fun h2 =>
    if x1 = (0 : Int32) then
      (gI h2 10 x0 30).bind fun v4 =>
      f_X10_chosen_J49 v4 h2
    else
      (gI h2 10 x0 31).bind fun v3 =>
      f_X10_chosen_J49 v3 h2
  else
    some ((0 : Int32), r1.2)
theorem y_X10_chosen_J20 {g : xG} {h0 : xH} {cl : Bool} (x0 : Nat) (x1 : Int32) (s0 : Nat) (s1 : Int32) (h : xH) : Y g DX10_chosen h0 cl iI (f_X10_chosen_J20 x0 x1 s0 s1 h) 20 [some (.ref x0), some (.int x1)] [.int s1, .ref s0] h := by
  unfold f_X10_chosen_J20
  refine Y.op (pc' := 21) (fun _ => X.ic ki_1 dX10_chosen_20) ?_
  refine Y.op (pc' := 22) (fun _ => X.ic ki_1 dX10_chosen_21) ?_
  refine Y.callVi (As := [.int s1, .int (1 : Int32), .int (1 : Int32)]) lk_X10_217 rfl cal_X10_bad vir_X10_bad (Nat.le_of_ble_eq_true rfl) (Nat.le_of_ble_eq_true rfl) rfl rfl rfl (Nat.le_of_ble_eq_true rfl) dX10_chosen_22 (fun _ e => m_X10_bad s0 s1 (1 : Int32) (1 : Int32) h _ _ e) (fun r1 => ?_)
  refine Y.ifeq 30 (by decide) dX10_chosen_25 ?_ ?_
  · refine Y.op (pc' := 31) (fun _ => X.aloadn rfl dX10_chosen_30) ?_
    refine Y.callVv (As := []) lk_X10_336 rfl cal_X10_chooses vir_X10_chooses (Nat.le_of_ble_eq_true rfl) (Nat.le_of_ble_eq_true rfl) rfl rfl rfl (Nat.le_of_ble_eq_true rfl) dX10_chosen_31 (fun _ e => m_X10_chooses x0 r1.2 _ _ e) (fun h2 => ?_)
    refine Y.op (pc' := 35) (fun _ => X.iloadn rfl dX10_chosen_34) ?_
    refine Y.ifne 45 (by decide) dX10_chosen_35 ?_ ?_
    · refine Y.op (pc' := 46) (fun _ => X.aloadn rfl dX10_chosen_45) ?_
      refine Y.getI fd_X10_333 rfl dX10_chosen_46 (fun v3 => ?_)
      exact Y.fg (y_X10_chosen_J49 v3 h2) trivial
    · refine Y.op (pc' := 39) (fun _ => X.aloadn rfl dX10_chosen_38) ?_
      refine Y.getI fd_X10_330 rfl dX10_chosen_39 (fun v4 => ?_)
      refine Y.op (pc' := 49) (fun _ => X.goto 49 (by decide) dX10_chosen_42) ?_
      exact Y.fg (y_X10_chosen_J49 v4 h2) trivial
  · refine Y.op (pc' := 29) (fun _ => X.ic ki_0 dX10_chosen_28) ?_
    exact Y.ireturn rfl dX10_chosen_29
def f_X10_chosen (a0 : Nat) (p1 : Int32) (h : xH) : Option (Int32 × xH) :=
  (pI h 10 a0 0 (0 : Int32)).bind fun h1 =>
  (f_X10_in p1 (0 : Int32) (1 : Int32) h1).bind fun r2 =>
  if r2.1 = (0 : Int32) then
    f_X10_chosen_J20 a0 p1 a0 (1 : Int32) r2.2
  else
    f_X10_chosen_J20 a0 p1 a0 (0 : Int32) r2.2
theorem y_X10_chosen {g : xG} {h0 : xH} {cl : Bool} (a0 : Nat) (p1 : Int32) (h : xH) : Y g DX10_chosen h0 cl iI (f_X10_chosen a0 p1 h) 0 [some (.ref a0), some (.int p1)] [] h := by
  unfold f_X10_chosen
  refine Y.op (pc' := 1) (fun _ => X.aloadn rfl dX10_chosen_0) ?_
  refine Y.op (pc' := 2) (fun _ => X.ic ki_0 dX10_chosen_1) ?_
  refine Y.putI fd_X10_82 rfl dX10_chosen_2 (fun h1 => ?_)
  refine Y.op (pc' := 6) (fun _ => X.aloadn rfl dX10_chosen_5) ?_
  refine Y.op (pc' := 7) (fun _ => X.iloadn rfl dX10_chosen_6) ?_
  refine Y.op (pc' := 8) (fun _ => X.ic ki_0 dX10_chosen_7) ?_
  refine Y.op (pc' := 9) (fun _ => X.ic ki_1 dX10_chosen_8) ?_
  refine Y.callSi (As := [.int p1, .int (0 : Int32), .int (1 : Int32)]) lk_X10_127 rfl cal_X10_in sta_X10_in (Nat.le_of_ble_eq_true rfl) rfl rfl (Nat.le_of_ble_eq_true rfl) dX10_chosen_9 (fun _ e => m_X10_in p1 (0 : Int32) (1 : Int32) h1 _ _ e) (fun r2 => ?_)
  refine Y.ifne 19 (by decide) dX10_chosen_12 ?_ ?_
  · refine Y.op (pc' := 20) (fun _ => X.ic ki_0 dX10_chosen_19) ?_
    exact y_X10_chosen_J20 a0 p1 a0 (0 : Int32) r2.2
  · refine Y.op (pc' := 16) (fun _ => X.ic ki_1 dX10_chosen_15) ?_
    refine Y.op (pc' := 20) (fun _ => X.goto 20 (by decide) dX10_chosen_16) ?_
    exact y_X10_chosen_J20 a0 p1 a0 (1 : Int32) r2.2
theorem m_X10_chosen {g : xG} (a0 : Nat) (p1 : Int32) (h : xH) (cl : Bool) (r : Int32 × xH) (e : f_X10_chosen a0 p1 h = some r) : XM g DX10_chosen [.ref a0, .int p1] h cl (iI r) := YM.of rfl rfl (Nat.le_of_ble_eq_true rfl) (y_X10_chosen a0 p1 h) e
def f_X10_withRound_J48 (h : xH) : Option (Int32 × xH) :=
  some ((-1 : Int32), h)
theorem y_X10_withRound_J48 {g : xG} {h0 : xH} {cl : Bool} (h : xH) : Y g DX10_withRound h0 cl iI (f_X10_withRound_J48 h) 48 [none, none, none, none, none] [] h := by
  unfold f_X10_withRound_J48
  refine Y.op (pc' := 49) (fun _ => X.ic ki_m1 dX10_withRound_48) ?_
  exact Y.ireturn rfl dX10_withRound_49
def f_X10_withRound_J39 (x4 : Int32) (h : xH) : Option (Int32 × xH) :=
  some (x4, h)
theorem y_X10_withRound_J39 {g : xG} {h0 : xH} {cl : Bool} (x4 : Int32) (h : xH) : Y g DX10_withRound h0 cl iI (f_X10_withRound_J39 x4 h) 39 [none, none, none, none, some (.int x4)] [] h := by
  unfold f_X10_withRound_J39
  refine Y.op (pc' := 41) (fun _ => X.iload rfl dX10_withRound_39) ?_
  exact Y.ireturn rfl dX10_withRound_41
def f_X10_withRound_J35 (kH : Nat → Int32 → Int32 → Int32 → Int32 → xH → Option (Int32 × xH)) (kE39 : Int32 → xH → Option (Int32 × xH)) (kE48 : xH → Option (Int32 × xH)) (x0 : Nat) (x1 : Int32) (x2 : Int32) (x3 : Int32) (x4 : Int32) (s0 : Int32) (h : xH) : Option (Int32 × xH) :=
  if s0 = x3 then
    kE39 x4 h
  else
    lt (x4 + (1 : Int32)) fun v1 =>
    kH x0 x1 x2 x3 v1 h
theorem y_X10_withRound_J35 {g : xG} {h0 : xH} {cl : Bool} {kH : Nat → Int32 → Int32 → Int32 → Int32 → xH → Option (Int32 × xH)} {kE39 : Int32 → xH → Option (Int32 × xH)} {kE48 : xH → Option (Int32 × xH)} (hkH : ∀ (x0 : Nat) (x1 : Int32) (x2 : Int32) (x3 : Int32) (x4 : Int32) (h : xH), Y g DX10_withRound h0 cl iI (kH x0 x1 x2 x3 x4 h) 3 [some (.ref x0), some (.int x1), some (.int x2), some (.int x3), some (.int x4)] [] h) (hkE39 : ∀ (x4 : Int32) (h : xH), Y g DX10_withRound h0 cl iI (kE39 x4 h) 39 [none, none, none, none, some (.int x4)] [] h) (hkE48 : ∀  (h : xH), Y g DX10_withRound h0 cl iI (kE48  h) 48 [none, none, none, none, none] [] h) (x0 : Nat) (x1 : Int32) (x2 : Int32) (x3 : Int32) (x4 : Int32) (s0 : Int32) (h : xH) : Y g DX10_withRound h0 cl iI (f_X10_withRound_J35 kH kE39 kE48 x0 x1 x2 x3 x4 s0 h) 35 [some (.ref x0), some (.int x1), some (.int x2), some (.int x3), some (.int x4)] [.int s0] h := by
  unfold f_X10_withRound_J35
  refine Y.op (pc' := 36) (fun _ => X.iloadn rfl dX10_withRound_35) ?_
  refine Y.cmpne 42 (by decide) dX10_withRound_36 ?_ ?_
  · refine Y.iinc (i := 4) (loc' := fun v1 => [some (.ref x0), some (.int x1), some (.int x2), some (.int x3), some (.int v1)]) rfl (Nat.le_of_ble_eq_true rfl) ki_1 (fun _ => rfl) dX10_withRound_42 (fun v1 => ?_)
    refine Y.op (pc' := 3) (fun _ => X.goto 3 (by decide) dX10_withRound_45) ?_
    exact hkH x0 x1 x2 x3 v1 h
  · exact Y.fg (hkE39 x4 h) (And.intro rfl trivial)
def f_X10_withRound_L3 (kE39 : Int32 → xH → Option (Int32 × xH)) (kE48 : xH → Option (Int32 × xH)) : Nat → Nat → Int32 → Int32 → Int32 → Int32 → xH → Option (Int32 × xH)
  | 0 => fun _ _ _ _ _ _ => none
  | n + 1 => fun x0 x1 x2 x3 x4 h =>
    if x4 ≥ (12 : Int32) then
      kE48 h
    else
      if x1 = (0 : Int32) then
        (gR h 10 x0 32).bind fun v4 =>
        (aR 102 h v4 x2).bind fun v5 =>
        (aI h v5 x4).bind fun v6 =>
        f_X10_withRound_J35 (f_X10_withRound_L3 kE39 kE48 n) kE39 kE48 x0 x1 x2 x3 x4 v6 h
      else
        (gR h 10 x0 32).bind fun v1 =>
        (aR 102 h v1 x4).bind fun v2 =>
        (aI h v2 x2).bind fun v3 =>
        f_X10_withRound_J35 (f_X10_withRound_L3 kE39 kE48 n) kE39 kE48 x0 x1 x2 x3 x4 v3 h
theorem y_X10_withRound_L3 {g : xG} {h0 : xH} {cl : Bool} {kE39 : Int32 → xH → Option (Int32 × xH)} {kE48 : xH → Option (Int32 × xH)} (hkE39 : ∀ (x4 : Int32) (h : xH), Y g DX10_withRound h0 cl iI (kE39 x4 h) 39 [none, none, none, none, some (.int x4)] [] h) (hkE48 : ∀  (h : xH), Y g DX10_withRound h0 cl iI (kE48  h) 48 [none, none, none, none, none] [] h) : ∀ (n : Nat) (x0 : Nat) (x1 : Int32) (x2 : Int32) (x3 : Int32) (x4 : Int32) (h : xH), Y g DX10_withRound h0 cl iI (f_X10_withRound_L3 kE39 kE48 n x0 x1 x2 x3 x4 h) 3 [some (.ref x0), some (.int x1), some (.int x2), some (.int x3), some (.int x4)] [] h := by
  intro n
  induction n with
  | zero => intro x0 x1 x2 x3 x4 h; exact Y.nothing
  | succ n ih =>
    intro x0 x1 x2 x3 x4 h
    unfold f_X10_withRound_L3
    refine Y.op (pc' := 5) (fun _ => X.iload rfl dX10_withRound_3) ?_
    refine Y.op (pc' := 7) (fun _ => X.bp kb_12 dX10_withRound_5) ?_
    refine Y.cmpge 48 (by decide) dX10_withRound_7 ?_ ?_
    · exact Y.fg (hkE48 h) trivial
    · refine Y.op (pc' := 11) (fun _ => X.iloadn rfl dX10_withRound_10) ?_
      refine Y.ifne 26 (by decide) dX10_withRound_11 ?_ ?_
      · refine Y.op (pc' := 27) (fun _ => X.aloadn rfl dX10_withRound_26) ?_
        refine Y.getR fd_X10_54 rfl dX10_withRound_27 (fun v1 => ?_)
        refine Y.op (pc' := 32) (fun _ => X.iload rfl dX10_withRound_30) ?_
        refine Y.aldR 102 (by decide) (by decide) dX10_withRound_32 (fun v2 => ?_)
        refine Y.op (pc' := 34) (fun _ => X.iloadn rfl dX10_withRound_33) ?_
        refine Y.aldI dX10_withRound_34 (fun v3 => ?_)
        exact y_X10_withRound_J35 ih hkE39 hkE48 x0 x1 x2 x3 x4 v3 h
      · refine Y.op (pc' := 15) (fun _ => X.aloadn rfl dX10_withRound_14) ?_
        refine Y.getR fd_X10_54 rfl dX10_withRound_15 (fun v4 => ?_)
        refine Y.op (pc' := 19) (fun _ => X.iloadn rfl dX10_withRound_18) ?_
        refine Y.aldR 102 (by decide) (by decide) dX10_withRound_19 (fun v5 => ?_)
        refine Y.op (pc' := 22) (fun _ => X.iload rfl dX10_withRound_20) ?_
        refine Y.aldI dX10_withRound_22 (fun v6 => ?_)
        refine Y.op (pc' := 35) (fun _ => X.goto 35 (by decide) dX10_withRound_23) ?_
        exact y_X10_withRound_J35 ih hkE39 hkE48 x0 x1 x2 x3 x4 v6 h
def f_X10_withRound (a0 : Nat) (p1 : Int32) (p2 : Int32) (p3 : Int32) (h : xH) : Option (Int32 × xH) :=
  f_X10_withRound_L3 (f_X10_withRound_J39) (f_X10_withRound_J48) 5000 a0 p1 p2 p3 (0 : Int32) h
theorem y_X10_withRound {g : xG} {h0 : xH} {cl : Bool} (a0 : Nat) (p1 : Int32) (p2 : Int32) (p3 : Int32) (h : xH) : Y g DX10_withRound h0 cl iI (f_X10_withRound a0 p1 p2 p3 h) 0 [some (.ref a0), some (.int p1), some (.int p2), some (.int p3), none] [] h := by
  unfold f_X10_withRound
  refine Y.op (pc' := 1) (fun _ => X.ic ki_0 dX10_withRound_0) ?_
  refine Y.op (pc' := 3) (loc' := [some (.ref a0), some (.int p1), some (.int p2), some (.int p3), some (.int (0 : Int32))]) (fun _ => X.istore (Nat.le_of_ble_eq_true rfl) rfl dX10_withRound_1) ?_
  exact y_X10_withRound_L3 (y_X10_withRound_J39) (y_X10_withRound_J48) 5000 a0 p1 p2 p3 (0 : Int32) h
theorem m_X10_withRound {g : xG} (a0 : Nat) (p1 : Int32) (p2 : Int32) (p3 : Int32) (h : xH) (cl : Bool) (r : Int32 × xH) (e : f_X10_withRound a0 p1 p2 p3 h = some r) : XM g DX10_withRound [.ref a0, .int p1, .int p2, .int p3] h cl (iI r) := YM.of rfl rfl (Nat.le_of_ble_eq_true rfl) (y_X10_withRound a0 p1 p2 p3 h) e
def f_X10_leastRound_J19 (x3 : Int32) (h : xH) : Option (Int32 × xH) :=
  some (x3, h)
theorem y_X10_leastRound_J19 {g : xG} {h0 : xH} {cl : Bool} (x3 : Int32) (h : xH) : Y g DX10_leastRound h0 cl iI (f_X10_leastRound_J19 x3 h) 19 [none, none, none, some (.int x3)] [] h := by
  unfold f_X10_leastRound_J19
  refine Y.op (pc' := 20) (fun _ => X.iloadn rfl dX10_leastRound_19) ?_
  exact Y.ireturn rfl dX10_leastRound_20
def f_X10_leastRound_L2 (kE19 : Int32 → xH → Option (Int32 × xH)) : Nat → Nat → Int32 → Int32 → Int32 → xH → Option (Int32 × xH)
  | 0 => fun _ _ _ _ _ => none
  | n + 1 => fun x0 x1 x2 x3 h =>
    (vc h 10 x0 (f_X10_withRound x0 x1 x2 x3 h)).bind fun r1 =>
    if r1.1 = (-1 : Int32) then
      kE19 x3 r1.2
    else
      lt (x3 + (1 : Int32)) fun v2 =>
      f_X10_leastRound_L2 kE19 n x0 x1 x2 v2 r1.2
theorem y_X10_leastRound_L2 {g : xG} {h0 : xH} {cl : Bool} {kE19 : Int32 → xH → Option (Int32 × xH)} (hkE19 : ∀ (x3 : Int32) (h : xH), Y g DX10_leastRound h0 cl iI (kE19 x3 h) 19 [none, none, none, some (.int x3)] [] h) : ∀ (n : Nat) (x0 : Nat) (x1 : Int32) (x2 : Int32) (x3 : Int32) (h : xH), Y g DX10_leastRound h0 cl iI (f_X10_leastRound_L2 kE19 n x0 x1 x2 x3 h) 2 [some (.ref x0), some (.int x1), some (.int x2), some (.int x3)] [] h := by
  intro n
  induction n with
  | zero => intro x0 x1 x2 x3 h; exact Y.nothing
  | succ n ih =>
    intro x0 x1 x2 x3 h
    unfold f_X10_leastRound_L2
    refine Y.op (pc' := 3) (fun _ => X.aloadn rfl dX10_leastRound_2) ?_
    refine Y.op (pc' := 4) (fun _ => X.iloadn rfl dX10_leastRound_3) ?_
    refine Y.op (pc' := 5) (fun _ => X.iloadn rfl dX10_leastRound_4) ?_
    refine Y.op (pc' := 6) (fun _ => X.iloadn rfl dX10_leastRound_5) ?_
    refine Y.callVi (As := [.int x1, .int x2, .int x3]) lk_X10_339 rfl cal_X10_withRound vir_X10_withRound (Nat.le_of_ble_eq_true rfl) (Nat.le_of_ble_eq_true rfl) rfl rfl rfl (Nat.le_of_ble_eq_true rfl) dX10_leastRound_6 (fun _ e => m_X10_withRound x0 x1 x2 x3 h _ _ e) (fun r1 => ?_)
    refine Y.op (pc' := 10) (fun _ => X.ic ki_m1 dX10_leastRound_9) ?_
    refine Y.cmpeq 19 (by decide) dX10_leastRound_10 ?_ ?_
    · exact Y.fg (hkE19 x3 r1.2) (And.intro rfl trivial)
    · refine Y.iinc (i := 3) (loc' := fun v2 => [some (.ref x0), some (.int x1), some (.int x2), some (.int v2)]) rfl (Nat.le_of_ble_eq_true rfl) ki_1 (fun _ => rfl) dX10_leastRound_13 (fun v2 => ?_)
      refine Y.op (pc' := 2) (fun _ => X.goto 2 (by decide) dX10_leastRound_16) ?_
      exact ih x0 x1 x2 v2 r1.2
def f_X10_leastRound (a0 : Nat) (p1 : Int32) (p2 : Int32) (h : xH) : Option (Int32 × xH) :=
  f_X10_leastRound_L2 (f_X10_leastRound_J19) 5000 a0 p1 p2 (0 : Int32) h
theorem y_X10_leastRound {g : xG} {h0 : xH} {cl : Bool} (a0 : Nat) (p1 : Int32) (p2 : Int32) (h : xH) : Y g DX10_leastRound h0 cl iI (f_X10_leastRound a0 p1 p2 h) 0 [some (.ref a0), some (.int p1), some (.int p2), none] [] h := by
  unfold f_X10_leastRound
  refine Y.op (pc' := 1) (fun _ => X.ic ki_0 dX10_leastRound_0) ?_
  refine Y.op (pc' := 2) (loc' := [some (.ref a0), some (.int p1), some (.int p2), some (.int (0 : Int32))]) (fun _ => X.istoren (Nat.le_of_ble_eq_true rfl) rfl dX10_leastRound_1) ?_
  exact y_X10_leastRound_L2 (y_X10_leastRound_J19) 5000 a0 p1 p2 (0 : Int32) h
theorem m_X10_leastRound {g : xG} (a0 : Nat) (p1 : Int32) (p2 : Int32) (h : xH) (cl : Bool) (r : Int32 × xH) (e : f_X10_leastRound a0 p1 p2 h = some r) : XM g DX10_leastRound [.ref a0, .int p1, .int p2] h cl (iI r) := YM.of rfl rfl (Nat.le_of_ble_eq_true rfl) (y_X10_leastRound a0 p1 p2 h) e
def f_X10_changesFrom_J62 (rec : Nat → Int32 → Int32 → Int32 → Int32 → Int32 → xH → Option (xH)) (h : xH) : Option (xH) :=
  some h
theorem y_X10_changesFrom_J62 {g : xG} {l : Nat} {h0 : xH} {cl : Bool} {rec : Nat → Int32 → Int32 → Int32 → Int32 → Int32 → xH → Option (xH)} (hrec : ∀ (a0 : Nat) (p1 : Int32) (p2 : Int32) (p3 : Int32) (p4 : Int32) (p5 : Int32) (h : xH) (cl : Bool) (r : xH), rec a0 p1 p2 p3 p4 p5 h = some r → XM g (DX10_changesFrom (l + 1)) [.ref a0, .int p1, .int p2, .int p3, .int p4, .int p5] h cl (iV r)) (h : xH) : Y g (DX10_changesFrom (l + 1 + 1)) h0 cl iV (f_X10_changesFrom_J62 rec h) 62 [none, none, none, none, none, none, none] [] h := by
  unfold f_X10_changesFrom_J62
  exact Y.vreturn rfl dX10_changesFrom_62
def f_X10_changesFrom_J33 (rec : Nat → Int32 → Int32 → Int32 → Int32 → Int32 → xH → Option (xH)) (x0 : Nat) (x1 : Int32) (x2 : Int32) (x4 : Int32) (x5 : Int32) (h : xH) : Option (xH) :=
  if x1 = (0 : Int32) then
    (gR h 10 x0 32).bind fun v4 =>
    (aR 102 h v4 x2).bind fun v5 =>
    (sI h v5 x5 x4).bind fun h6 =>
    f_X10_changesFrom_J62 rec h6
  else
    (gR h 10 x0 32).bind fun v1 =>
    (aR 102 h v1 x5).bind fun v2 =>
    (sI h v2 x2 x4).bind fun h3 =>
    f_X10_changesFrom_J62 rec h3
theorem y_X10_changesFrom_J33 {g : xG} {l : Nat} {h0 : xH} {cl : Bool} {rec : Nat → Int32 → Int32 → Int32 → Int32 → Int32 → xH → Option (xH)} (hrec : ∀ (a0 : Nat) (p1 : Int32) (p2 : Int32) (p3 : Int32) (p4 : Int32) (p5 : Int32) (h : xH) (cl : Bool) (r : xH), rec a0 p1 p2 p3 p4 p5 h = some r → XM g (DX10_changesFrom (l + 1)) [.ref a0, .int p1, .int p2, .int p3, .int p4, .int p5] h cl (iV r)) (x0 : Nat) (x1 : Int32) (x2 : Int32) (x4 : Int32) (x5 : Int32) (h : xH) : Y g (DX10_changesFrom (l + 1 + 1)) h0 cl iV (f_X10_changesFrom_J33 rec x0 x1 x2 x4 x5 h) 33 [some (.ref x0), some (.int x1), some (.int x2), none, some (.int x4), some (.int x5), none] [] h := by
  unfold f_X10_changesFrom_J33
  refine Y.op (pc' := 34) (fun _ => X.iloadn rfl dX10_changesFrom_33) ?_
  refine Y.ifne 51 (by decide) dX10_changesFrom_34 ?_ ?_
  · refine Y.op (pc' := 52) (fun _ => X.aloadn rfl dX10_changesFrom_51) ?_
    refine Y.getR fd_X10_54 rfl dX10_changesFrom_52 (fun v1 => ?_)
    refine Y.op (pc' := 57) (fun _ => X.iload rfl dX10_changesFrom_55) ?_
    refine Y.aldR 102 (by decide) (by decide) dX10_changesFrom_57 (fun v2 => ?_)
    refine Y.op (pc' := 59) (fun _ => X.iloadn rfl dX10_changesFrom_58) ?_
    refine Y.op (pc' := 61) (fun _ => X.iload rfl dX10_changesFrom_59) ?_
    refine Y.astI dX10_changesFrom_61 (fun h3 => ?_)
    exact Y.fg (y_X10_changesFrom_J62 hrec h3) trivial
  · refine Y.op (pc' := 38) (fun _ => X.aloadn rfl dX10_changesFrom_37) ?_
    refine Y.getR fd_X10_54 rfl dX10_changesFrom_38 (fun v4 => ?_)
    refine Y.op (pc' := 42) (fun _ => X.iloadn rfl dX10_changesFrom_41) ?_
    refine Y.aldR 102 (by decide) (by decide) dX10_changesFrom_42 (fun v5 => ?_)
    refine Y.op (pc' := 45) (fun _ => X.iload rfl dX10_changesFrom_43) ?_
    refine Y.op (pc' := 47) (fun _ => X.iload rfl dX10_changesFrom_45) ?_
    refine Y.astI dX10_changesFrom_47 (fun h6 => ?_)
    refine Y.op (pc' := 62) (fun _ => X.goto 62 (by decide) dX10_changesFrom_48) ?_
    exact Y.fg (y_X10_changesFrom_J62 hrec h6) trivial
def f_X10_changesFrom_B (rec : Nat → Int32 → Int32 → Int32 → Int32 → Int32 → xH → Option (xH)) (a0 : Nat) (p1 : Int32) (p2 : Int32) (p3 : Int32) (p4 : Int32) (p5 : Int32) (h : xH) : Option (xH) :=
  (vc h 10 a0 (f_X10_withRound a0 ((1 : Int32) - p1) p5 p4 h)).bind fun r1 =>
  if r1.1 = (-1 : Int32) then
    f_X10_changesFrom_J33 rec a0 p1 p2 p4 p5 r1.2
  else
    (vc r1.2 10 a0 (rec a0 ((1 : Int32) - p1) p5 p4 p3 r1.1 r1.2)).bind fun h2 =>
    f_X10_changesFrom_J33 rec a0 p1 p2 p4 p5 h2
def f_X10_changesFrom : Nat → Nat → Int32 → Int32 → Int32 → Int32 → Int32 → xH → Option (xH)
  | 0 => fun _ _ _ _ _ _ _ => none
  | d + 1 => f_X10_changesFrom_B (f_X10_changesFrom d)
theorem y_X10_changesFrom {g : xG} {l : Nat} {h0 : xH} {cl : Bool} {rec : Nat → Int32 → Int32 → Int32 → Int32 → Int32 → xH → Option (xH)} (hrec : ∀ (a0 : Nat) (p1 : Int32) (p2 : Int32) (p3 : Int32) (p4 : Int32) (p5 : Int32) (h : xH) (cl : Bool) (r : xH), rec a0 p1 p2 p3 p4 p5 h = some r → XM g (DX10_changesFrom (l + 1)) [.ref a0, .int p1, .int p2, .int p3, .int p4, .int p5] h cl (iV r)) (a0 : Nat) (p1 : Int32) (p2 : Int32) (p3 : Int32) (p4 : Int32) (p5 : Int32) (h : xH) : Y g (DX10_changesFrom (l + 1 + 1)) h0 cl iV (f_X10_changesFrom_B rec a0 p1 p2 p3 p4 p5 h) 0 [some (.ref a0), some (.int p1), some (.int p2), some (.int p3), some (.int p4), some (.int p5), none] [] h := by
  unfold f_X10_changesFrom_B
  refine Y.op (pc' := 1) (fun _ => X.aloadn rfl dX10_changesFrom_0) ?_
  refine Y.op (pc' := 2) (fun _ => X.ic ki_1 dX10_changesFrom_1) ?_
  refine Y.op (pc' := 3) (fun _ => X.iloadn rfl dX10_changesFrom_2) ?_
  refine Y.op (pc' := 4) (fun _ => X.isub dX10_changesFrom_3) ?_
  refine Y.op (pc' := 6) (fun _ => X.iload rfl dX10_changesFrom_4) ?_
  refine Y.op (pc' := 8) (fun _ => X.iload rfl dX10_changesFrom_6) ?_
  refine Y.callVi (As := [.int ((1 : Int32) - p1), .int p5, .int p4]) lk_X10_339 rfl cal_X10_withRound vir_X10_withRound (by show 1 + 1 ≤ l + 1 + 1; omega) (Nat.le_of_ble_eq_true rfl) rfl rfl rfl (Nat.le_of_ble_eq_true rfl) dX10_changesFrom_8 (fun _ e => m_X10_withRound a0 ((1 : Int32) - p1) p5 p4 h _ _ e) (fun r1 => ?_)
  refine Y.op (pc' := 13) (loc' := [some (.ref a0), some (.int p1), some (.int p2), some (.int p3), some (.int p4), some (.int p5), some (.int r1.1)]) (fun _ => X.istore (Nat.le_of_ble_eq_true rfl) rfl dX10_changesFrom_11) ?_
  refine Y.op (pc' := 15) (fun _ => X.iload rfl dX10_changesFrom_13) ?_
  refine Y.op (pc' := 16) (fun _ => X.ic ki_m1 dX10_changesFrom_15) ?_
  refine Y.cmpeq 33 (by decide) dX10_changesFrom_16 ?_ ?_
  · exact Y.fg (y_X10_changesFrom_J33 hrec a0 p1 p2 p4 p5 r1.2) (And.intro rfl (And.intro rfl (And.intro rfl (And.intro rfl (And.intro rfl trivial)))))
  · refine Y.op (pc' := 20) (fun _ => X.aloadn rfl dX10_changesFrom_19) ?_
    refine Y.op (pc' := 21) (fun _ => X.ic ki_1 dX10_changesFrom_20) ?_
    refine Y.op (pc' := 22) (fun _ => X.iloadn rfl dX10_changesFrom_21) ?_
    refine Y.op (pc' := 23) (fun _ => X.isub dX10_changesFrom_22) ?_
    refine Y.op (pc' := 25) (fun _ => X.iload rfl dX10_changesFrom_23) ?_
    refine Y.op (pc' := 27) (fun _ => X.iload rfl dX10_changesFrom_25) ?_
    refine Y.op (pc' := 28) (fun _ => X.iloadn rfl dX10_changesFrom_27) ?_
    refine Y.op (pc' := 30) (fun _ => X.iload rfl dX10_changesFrom_28) ?_
    refine Y.callVv (As := [.int ((1 : Int32) - p1), .int p5, .int p4, .int p3, .int r1.1]) lk_X10_343 rfl (cal_X10_changesFrom _) (vir_X10_changesFrom _) (Nat.le_refl _) (Nat.le_of_ble_eq_true rfl) rfl rfl rfl (Nat.le_of_ble_eq_true rfl) dX10_changesFrom_30 (fun _ e => hrec a0 ((1 : Int32) - p1) p5 p4 p3 r1.1 r1.2 _ _ e) (fun h2 => ?_)
    exact Y.fg (y_X10_changesFrom_J33 hrec a0 p1 p2 p4 p5 h2) (And.intro rfl (And.intro rfl (And.intro rfl (And.intro rfl (And.intro rfl trivial)))))
theorem m_X10_changesFrom {g : xG} : ∀ (d : Nat) (a0 : Nat) (p1 : Int32) (p2 : Int32) (p3 : Int32) (p4 : Int32) (p5 : Int32) (h : xH) (cl : Bool) (r : xH), f_X10_changesFrom d a0 p1 p2 p3 p4 p5 h = some r → XM g (DX10_changesFrom (d + 1)) [.ref a0, .int p1, .int p2, .int p3, .int p4, .int p5] h cl (iV r) := by
  intro d
  induction d with
  | zero => intro a0 p1 p2 p3 p4 p5 h cl r e; cases e
  | succ d ih =>
    intro a0 p1 p2 p3 p4 p5 h cl r e
    have e : f_X10_changesFrom_B (f_X10_changesFrom d) a0 p1 p2 p3 p4 p5 h = some r := e
    rw [show d + 1 + 1 = d + 1 + 1 by omega]
    exact YM.of rfl rfl (Nat.le_of_ble_eq_true rfl) (y_X10_changesFrom (l := d) ih a0 p1 p2 p3 p4 p5 h) e
def f_X10_changes_J25 (h : xH) : Option (xH) :=
  some h
theorem y_X10_changes_J25 {g : xG} {h0 : xH} {cl : Bool} (h : xH) : Y g DX10_changes h0 cl iV (f_X10_changes_J25 h) 25 [none, none, none, none, none] [] h := by
  unfold f_X10_changes_J25
  exact Y.vreturn rfl dX10_changes_25
def f_X10_changes (a0 : Nat) (p1 : Int32) (p2 : Int32) (p3 : Int32) (h : xH) : Option (xH) :=
  (vc h 10 a0 (f_X10_withRound a0 (1 : Int32) p1 p2 h)).bind fun r1 =>
  if r1.1 = (-1 : Int32) then
    f_X10_changes_J25 r1.2
  else
    (vc r1.2 10 a0 (f_X10_changesFrom 40 a0 (1 : Int32) p1 p2 p3 r1.1 r1.2)).bind fun h2 =>
    f_X10_changes_J25 h2
theorem y_X10_changes {g : xG} {h0 : xH} {cl : Bool} (a0 : Nat) (p1 : Int32) (p2 : Int32) (p3 : Int32) (h : xH) : Y g DX10_changes h0 cl iV (f_X10_changes a0 p1 p2 p3 h) 0 [some (.ref a0), some (.int p1), some (.int p2), some (.int p3), none] [] h := by
  unfold f_X10_changes
  refine Y.op (pc' := 1) (fun _ => X.aloadn rfl dX10_changes_0) ?_
  refine Y.op (pc' := 2) (fun _ => X.ic ki_1 dX10_changes_1) ?_
  refine Y.op (pc' := 3) (fun _ => X.iloadn rfl dX10_changes_2) ?_
  refine Y.op (pc' := 4) (fun _ => X.iloadn rfl dX10_changes_3) ?_
  refine Y.callVi (As := [.int (1 : Int32), .int p1, .int p2]) lk_X10_339 rfl cal_X10_withRound vir_X10_withRound (Nat.le_of_ble_eq_true rfl) (Nat.le_of_ble_eq_true rfl) rfl rfl rfl (Nat.le_of_ble_eq_true rfl) dX10_changes_4 (fun _ e => m_X10_withRound a0 (1 : Int32) p1 p2 h _ _ e) (fun r1 => ?_)
  refine Y.op (pc' := 9) (loc' := [some (.ref a0), some (.int p1), some (.int p2), some (.int p3), some (.int r1.1)]) (fun _ => X.istore (Nat.le_of_ble_eq_true rfl) rfl dX10_changes_7) ?_
  refine Y.op (pc' := 11) (fun _ => X.iload rfl dX10_changes_9) ?_
  refine Y.op (pc' := 12) (fun _ => X.ic ki_m1 dX10_changes_11) ?_
  refine Y.cmpeq 25 (by decide) dX10_changes_12 ?_ ?_
  · exact Y.fg (y_X10_changes_J25 r1.2) trivial
  · refine Y.op (pc' := 16) (fun _ => X.aloadn rfl dX10_changes_15) ?_
    refine Y.op (pc' := 17) (fun _ => X.ic ki_1 dX10_changes_16) ?_
    refine Y.op (pc' := 18) (fun _ => X.iloadn rfl dX10_changes_17) ?_
    refine Y.op (pc' := 19) (fun _ => X.iloadn rfl dX10_changes_18) ?_
    refine Y.op (pc' := 20) (fun _ => X.iloadn rfl dX10_changes_19) ?_
    refine Y.op (pc' := 22) (fun _ => X.iload rfl dX10_changes_20) ?_
    refine Y.callVv (As := [.int (1 : Int32), .int p1, .int p2, .int p3, .int r1.1]) lk_X10_343 rfl (cal_X10_changesFrom _) (vir_X10_changesFrom _) (Nat.le_of_ble_eq_true rfl) (Nat.le_of_ble_eq_true rfl) rfl rfl rfl (Nat.le_of_ble_eq_true rfl) dX10_changes_22 (fun _ e => m_X10_changesFrom 40 a0 (1 : Int32) p1 p2 p3 r1.1 r1.2 _ _ e) (fun h2 => ?_)
    exact Y.fg (y_X10_changes_J25 h2) trivial
theorem m_X10_changes {g : xG} (a0 : Nat) (p1 : Int32) (p2 : Int32) (p3 : Int32) (h : xH) (cl : Bool) (r : xH) (e : f_X10_changes a0 p1 p2 p3 h = some r) : XM g DX10_changes [.ref a0, .int p1, .int p2, .int p3] h cl (iV r) := YM.of rfl rfl (Nat.le_of_ble_eq_true rfl) (y_X10_changes a0 p1 p2 p3 h) e
def f_X10_laysRounds_J187 (x1 : Int32) (h : xH) : Option (Int32 × xH) :=
  some (x1, h)
theorem y_X10_laysRounds_J187 {g : xG} {h0 : xH} {cl : Bool} (x1 : Int32) (h : xH) : Y g DX10_laysRounds h0 cl iI (f_X10_laysRounds_J187 x1 h) 187 [none, some (.int x1), none, none, none, none] [] h := by
  unfold f_X10_laysRounds_J187
  refine Y.op (pc' := 188) (fun _ => X.iloadn rfl dX10_laysRounds_187) ?_
  exact Y.ireturn rfl dX10_laysRounds_188
def f_X10_laysRounds_J181 (kH : Nat → Int32 → Int32 → xH → Option (Int32 × xH)) (kE187 : Int32 → xH → Option (Int32 × xH)) (x0 : Nat) (x1 : Int32) (x2 : Int32) (h : xH) : Option (Int32 × xH) :=
  lt (x2 + (1 : Int32)) fun v1 =>
  kH x0 x1 v1 h
theorem y_X10_laysRounds_J181 {g : xG} {h0 : xH} {cl : Bool} {kH : Nat → Int32 → Int32 → xH → Option (Int32 × xH)} {kE187 : Int32 → xH → Option (Int32 × xH)} (hkH : ∀ (x0 : Nat) (x1 : Int32) (x2 : Int32) (h : xH), Y g DX10_laysRounds h0 cl iI (kH x0 x1 x2 h) 146 [some (.ref x0), some (.int x1), some (.int x2), none, none, none] [] h) (hkE187 : ∀ (x1 : Int32) (h : xH), Y g DX10_laysRounds h0 cl iI (kE187 x1 h) 187 [none, some (.int x1), none, none, none, none] [] h) (x0 : Nat) (x1 : Int32) (x2 : Int32) (h : xH) : Y g DX10_laysRounds h0 cl iI (f_X10_laysRounds_J181 kH kE187 x0 x1 x2 h) 181 [some (.ref x0), some (.int x1), some (.int x2), none, none, none] [] h := by
  unfold f_X10_laysRounds_J181
  refine Y.iinc (i := 2) (loc' := fun v1 => [some (.ref x0), some (.int x1), some (.int v1), none, none, none]) rfl (Nat.le_of_ble_eq_true rfl) ki_1 (fun _ => rfl) dX10_laysRounds_181 (fun v1 => ?_)
  refine Y.op (pc' := 146) (fun _ => X.goto 146 (by decide) dX10_laysRounds_184) ?_
  exact hkH x0 x1 v1 h
def f_X10_laysRounds_L154 (kE181 : Nat → Int32 → Int32 → xH → Option (Int32 × xH)) : Nat → Nat → Int32 → Int32 → Int32 → xH → Option (Int32 × xH)
  | 0 => fun _ _ _ _ _ => none
  | n + 1 => fun x0 x1 x2 x3 h =>
    if x3 ≥ (12 : Int32) then
      kE181 x0 x1 x2 h
    else
      (gR h 10 x0 32).bind fun v1 =>
      (aR 102 h v1 x2).bind fun v2 =>
      (aI h v2 x3).bind fun v3 =>
      (f_X10_more x1 ((1 : Int32) + v3) h).bind fun r4 =>
      lt (x3 + (1 : Int32)) fun v5 =>
      f_X10_laysRounds_L154 kE181 n x0 r4.1 x2 v5 r4.2
theorem y_X10_laysRounds_L154 {g : xG} {h0 : xH} {cl : Bool} {kE181 : Nat → Int32 → Int32 → xH → Option (Int32 × xH)} (hkE181 : ∀ (x0 : Nat) (x1 : Int32) (x2 : Int32) (h : xH), Y g DX10_laysRounds h0 cl iI (kE181 x0 x1 x2 h) 181 [some (.ref x0), some (.int x1), some (.int x2), none, none, none] [] h) : ∀ (n : Nat) (x0 : Nat) (x1 : Int32) (x2 : Int32) (x3 : Int32) (h : xH), Y g DX10_laysRounds h0 cl iI (f_X10_laysRounds_L154 kE181 n x0 x1 x2 x3 h) 154 [some (.ref x0), some (.int x1), some (.int x2), some (.int x3), none, none] [] h := by
  intro n
  induction n with
  | zero => intro x0 x1 x2 x3 h; exact Y.nothing
  | succ n ih =>
    intro x0 x1 x2 x3 h
    unfold f_X10_laysRounds_L154
    refine Y.op (pc' := 155) (fun _ => X.iloadn rfl dX10_laysRounds_154) ?_
    refine Y.op (pc' := 157) (fun _ => X.bp kb_12 dX10_laysRounds_155) ?_
    refine Y.cmpge 181 (by decide) dX10_laysRounds_157 ?_ ?_
    · exact Y.fg (hkE181 x0 x1 x2 h) (And.intro rfl (And.intro rfl (And.intro rfl trivial)))
    · refine Y.op (pc' := 161) (fun _ => X.iloadn rfl dX10_laysRounds_160) ?_
      refine Y.op (pc' := 162) (fun _ => X.ic ki_1 dX10_laysRounds_161) ?_
      refine Y.op (pc' := 163) (fun _ => X.aloadn rfl dX10_laysRounds_162) ?_
      refine Y.getR fd_X10_54 rfl dX10_laysRounds_163 (fun v1 => ?_)
      refine Y.op (pc' := 167) (fun _ => X.iloadn rfl dX10_laysRounds_166) ?_
      refine Y.aldR 102 (by decide) (by decide) dX10_laysRounds_167 (fun v2 => ?_)
      refine Y.op (pc' := 169) (fun _ => X.iloadn rfl dX10_laysRounds_168) ?_
      refine Y.aldI dX10_laysRounds_169 (fun v3 => ?_)
      refine Y.op (pc' := 171) (fun _ => X.iadd dX10_laysRounds_170) ?_
      refine Y.callSi (As := [.int x1, .int ((1 : Int32) + v3)]) lk_X10_353 rfl cal_X10_more sta_X10_more (Nat.le_of_ble_eq_true rfl) rfl rfl (Nat.le_of_ble_eq_true rfl) dX10_laysRounds_171 (fun _ e => m_X10_more x1 ((1 : Int32) + v3) h _ _ e) (fun r4 => ?_)
      refine Y.op (pc' := 175) (loc' := [some (.ref x0), some (.int r4.1), some (.int x2), some (.int x3), none, none]) (fun _ => X.istoren (Nat.le_of_ble_eq_true rfl) rfl dX10_laysRounds_174) ?_
      refine Y.iinc (i := 3) (loc' := fun v5 => [some (.ref x0), some (.int r4.1), some (.int x2), some (.int v5), none, none]) rfl (Nat.le_of_ble_eq_true rfl) ki_1 (fun _ => rfl) dX10_laysRounds_175 (fun v5 => ?_)
      refine Y.op (pc' := 154) (fun _ => X.goto 154 (by decide) dX10_laysRounds_178) ?_
      exact ih x0 r4.1 x2 v5 r4.2
def f_X10_laysRounds_L146 (kE187 : Int32 → xH → Option (Int32 × xH)) : Nat → Nat → Int32 → Int32 → xH → Option (Int32 × xH)
  | 0 => fun _ _ _ _ => none
  | n + 1 => fun x0 x1 x2 h =>
    if x2 ≥ (12 : Int32) then
      kE187 x1 h
    else
      f_X10_laysRounds_L154 (f_X10_laysRounds_J181 (f_X10_laysRounds_L146 kE187 n) kE187) 5000 x0 x1 x2 (0 : Int32) h
theorem y_X10_laysRounds_L146 {g : xG} {h0 : xH} {cl : Bool} {kE187 : Int32 → xH → Option (Int32 × xH)} (hkE187 : ∀ (x1 : Int32) (h : xH), Y g DX10_laysRounds h0 cl iI (kE187 x1 h) 187 [none, some (.int x1), none, none, none, none] [] h) : ∀ (n : Nat) (x0 : Nat) (x1 : Int32) (x2 : Int32) (h : xH), Y g DX10_laysRounds h0 cl iI (f_X10_laysRounds_L146 kE187 n x0 x1 x2 h) 146 [some (.ref x0), some (.int x1), some (.int x2), none, none, none] [] h := by
  intro n
  induction n with
  | zero => intro x0 x1 x2 h; exact Y.nothing
  | succ n ih =>
    intro x0 x1 x2 h
    unfold f_X10_laysRounds_L146
    refine Y.op (pc' := 147) (fun _ => X.iloadn rfl dX10_laysRounds_146) ?_
    refine Y.op (pc' := 149) (fun _ => X.bp kb_12 dX10_laysRounds_147) ?_
    refine Y.cmpge 187 (by decide) dX10_laysRounds_149 ?_ ?_
    · exact Y.fg (hkE187 x1 h) (And.intro rfl trivial)
    · refine Y.op (pc' := 153) (fun _ => X.ic ki_0 dX10_laysRounds_152) ?_
      refine Y.op (pc' := 154) (loc' := [some (.ref x0), some (.int x1), some (.int x2), some (.int (0 : Int32)), none, none]) (fun _ => X.istoren (Nat.le_of_ble_eq_true rfl) rfl dX10_laysRounds_153) ?_
      exact y_X10_laysRounds_L154 (y_X10_laysRounds_J181 ih hkE187) 5000 x0 x1 x2 (0 : Int32) h
def f_X10_laysRounds_J144 (x0 : Nat) (x1 : Int32) (h : xH) : Option (Int32 × xH) :=
  f_X10_laysRounds_L146 (f_X10_laysRounds_J187) 5000 x0 x1 (0 : Int32) h
theorem y_X10_laysRounds_J144 {g : xG} {h0 : xH} {cl : Bool} (x0 : Nat) (x1 : Int32) (h : xH) : Y g DX10_laysRounds h0 cl iI (f_X10_laysRounds_J144 x0 x1 h) 144 [some (.ref x0), some (.int x1), none, none, none, none] [] h := by
  unfold f_X10_laysRounds_J144
  refine Y.op (pc' := 145) (fun _ => X.ic ki_0 dX10_laysRounds_144) ?_
  refine Y.op (pc' := 146) (loc' := [some (.ref x0), some (.int x1), some (.int (0 : Int32)), none, none, none]) (fun _ => X.istoren (Nat.le_of_ble_eq_true rfl) rfl dX10_laysRounds_145) ?_
  exact y_X10_laysRounds_L146 (y_X10_laysRounds_J187) 5000 x0 x1 (0 : Int32) h
def f_X10_laysRounds_J138 (kH : Nat → Int32 → Int32 → xH → Option (Int32 × xH)) (kE144 : Nat → Int32 → xH → Option (Int32 × xH)) (x0 : Nat) (x1 : Int32) (x2 : Int32) (h : xH) : Option (Int32 × xH) :=
  lt (x2 + (1 : Int32)) fun v1 =>
  kH x0 x1 v1 h
theorem y_X10_laysRounds_J138 {g : xG} {h0 : xH} {cl : Bool} {kH : Nat → Int32 → Int32 → xH → Option (Int32 × xH)} {kE144 : Nat → Int32 → xH → Option (Int32 × xH)} (hkH : ∀ (x0 : Nat) (x1 : Int32) (x2 : Int32) (h : xH), Y g DX10_laysRounds h0 cl iI (kH x0 x1 x2 h) 41 [some (.ref x0), some (.int x1), some (.int x2), none, none, none] [] h) (hkE144 : ∀ (x0 : Nat) (x1 : Int32) (h : xH), Y g DX10_laysRounds h0 cl iI (kE144 x0 x1 h) 144 [some (.ref x0), some (.int x1), none, none, none, none] [] h) (x0 : Nat) (x1 : Int32) (x2 : Int32) (h : xH) : Y g DX10_laysRounds h0 cl iI (f_X10_laysRounds_J138 kH kE144 x0 x1 x2 h) 138 [some (.ref x0), some (.int x1), some (.int x2), none, none, none] [] h := by
  unfold f_X10_laysRounds_J138
  refine Y.iinc (i := 2) (loc' := fun v1 => [some (.ref x0), some (.int x1), some (.int v1), none, none, none]) rfl (Nat.le_of_ble_eq_true rfl) ki_1 (fun _ => rfl) dX10_laysRounds_138 (fun v1 => ?_)
  refine Y.op (pc' := 41) (fun _ => X.goto 41 (by decide) dX10_laysRounds_141) ?_
  exact hkH x0 x1 v1 h
def f_X10_laysRounds_J132 (kH : Nat → Int32 → Int32 → Int32 → xH → Option (Int32 × xH)) (kE138 : Nat → Int32 → Int32 → xH → Option (Int32 × xH)) (x0 : Nat) (x1 : Int32) (x2 : Int32) (x3 : Int32) (h : xH) : Option (Int32 × xH) :=
  lt (x3 + (1 : Int32)) fun v1 =>
  kH x0 x1 x2 v1 h
theorem y_X10_laysRounds_J132 {g : xG} {h0 : xH} {cl : Bool} {kH : Nat → Int32 → Int32 → Int32 → xH → Option (Int32 × xH)} {kE138 : Nat → Int32 → Int32 → xH → Option (Int32 × xH)} (hkH : ∀ (x0 : Nat) (x1 : Int32) (x2 : Int32) (x3 : Int32) (h : xH), Y g DX10_laysRounds h0 cl iI (kH x0 x1 x2 x3 h) 55 [some (.ref x0), some (.int x1), some (.int x2), some (.int x3), none, none] [] h) (hkE138 : ∀ (x0 : Nat) (x1 : Int32) (x2 : Int32) (h : xH), Y g DX10_laysRounds h0 cl iI (kE138 x0 x1 x2 h) 138 [some (.ref x0), some (.int x1), some (.int x2), none, none, none] [] h) (x0 : Nat) (x1 : Int32) (x2 : Int32) (x3 : Int32) (h : xH) : Y g DX10_laysRounds h0 cl iI (f_X10_laysRounds_J132 kH kE138 x0 x1 x2 x3 h) 132 [some (.ref x0), some (.int x1), some (.int x2), some (.int x3), none, none] [] h := by
  unfold f_X10_laysRounds_J132
  refine Y.iinc (i := 3) (loc' := fun v1 => [some (.ref x0), some (.int x1), some (.int x2), some (.int v1), none, none]) rfl (Nat.le_of_ble_eq_true rfl) ki_1 (fun _ => rfl) dX10_laysRounds_132 (fun v1 => ?_)
  refine Y.op (pc' := 55) (fun _ => X.goto 55 (by decide) dX10_laysRounds_135) ?_
  exact hkH x0 x1 x2 v1 h
def f_X10_laysRounds_L55 (kE138 : Nat → Int32 → Int32 → xH → Option (Int32 × xH)) : Nat → Nat → Int32 → Int32 → Int32 → xH → Option (Int32 × xH)
  | 0 => fun _ _ _ _ _ => none
  | n + 1 => fun x0 x1 x2 x3 h =>
    (gR h 10 x0 9).bind fun v1 =>
    (aR 102 h v1 (0 : Int32)).bind fun v2 =>
    (aI h v2 (1 : Int32)).bind fun v3 =>
    if x3 ≥ v3 then
      kE138 x0 x1 x2 h
    else
      (vc h 10 x0 (f_X10_isFit x0 x2 x3 h)).bind fun r4 =>
      if r4.1 = (0 : Int32) then
        f_X10_laysRounds_J132 (f_X10_laysRounds_L55 kE138 n) kE138 x0 x1 x2 x3 r4.2
      else
        (vc r4.2 10 x0 (f_X10_isThere x0 (0 : Int32) x2 r4.2)).bind fun r5 =>
        if r5.1 = (0 : Int32) then
          f_X10_laysRounds_J132 (f_X10_laysRounds_L55 kE138 n) kE138 x0 x1 x2 x3 r5.2
        else
          (vc r5.2 10 x0 (f_X10_isThere x0 (1 : Int32) x3 r5.2)).bind fun r6 =>
          if r6.1 = (0 : Int32) then
            f_X10_laysRounds_J132 (f_X10_laysRounds_L55 kE138 n) kE138 x0 x1 x2 x3 r6.2
          else
            (vc r6.2 10 x0 (f_X10_leastRound x0 (0 : Int32) x2 r6.2)).bind fun r7 =>
            (vc r7.2 10 x0 (f_X10_leastRound x0 (1 : Int32) x3 r7.2)).bind fun r8 =>
            (vc r8.2 10 x0 (f_X10_changes x0 x3 r7.1 r8.1 r8.2)).bind fun h9 =>
            (gR h9 10 x0 32).bind fun v10 =>
            (aR 102 h9 v10 x2).bind fun v11 =>
            (sI h9 v11 x3 r7.1).bind fun h12 =>
            f_X10_laysRounds_J132 (f_X10_laysRounds_L55 kE138 n) kE138 x0 x1 x2 x3 h12
theorem y_X10_laysRounds_L55 {g : xG} {h0 : xH} {cl : Bool} {kE138 : Nat → Int32 → Int32 → xH → Option (Int32 × xH)} (hkE138 : ∀ (x0 : Nat) (x1 : Int32) (x2 : Int32) (h : xH), Y g DX10_laysRounds h0 cl iI (kE138 x0 x1 x2 h) 138 [some (.ref x0), some (.int x1), some (.int x2), none, none, none] [] h) : ∀ (n : Nat) (x0 : Nat) (x1 : Int32) (x2 : Int32) (x3 : Int32) (h : xH), Y g DX10_laysRounds h0 cl iI (f_X10_laysRounds_L55 kE138 n x0 x1 x2 x3 h) 55 [some (.ref x0), some (.int x1), some (.int x2), some (.int x3), none, none] [] h := by
  intro n
  induction n with
  | zero => intro x0 x1 x2 x3 h; exact Y.nothing
  | succ n ih =>
    intro x0 x1 x2 x3 h
    unfold f_X10_laysRounds_L55
    refine Y.op (pc' := 56) (fun _ => X.iloadn rfl dX10_laysRounds_55) ?_
    refine Y.op (pc' := 57) (fun _ => X.aloadn rfl dX10_laysRounds_56) ?_
    refine Y.getR fd_X10_22 rfl dX10_laysRounds_57 (fun v1 => ?_)
    refine Y.op (pc' := 61) (fun _ => X.ic ki_0 dX10_laysRounds_60) ?_
    refine Y.aldR 102 (by decide) (by decide) dX10_laysRounds_61 (fun v2 => ?_)
    refine Y.op (pc' := 63) (fun _ => X.ic ki_1 dX10_laysRounds_62) ?_
    refine Y.aldI dX10_laysRounds_63 (fun v3 => ?_)
    refine Y.cmpge 138 (by decide) dX10_laysRounds_64 ?_ ?_
    · exact Y.fg (hkE138 x0 x1 x2 h) (And.intro rfl (And.intro rfl (And.intro rfl trivial)))
    · refine Y.op (pc' := 68) (fun _ => X.aloadn rfl dX10_laysRounds_67) ?_
      refine Y.op (pc' := 69) (fun _ => X.iloadn rfl dX10_laysRounds_68) ?_
      refine Y.op (pc' := 70) (fun _ => X.iloadn rfl dX10_laysRounds_69) ?_
      refine Y.callVi (As := [.int x2, .int x3]) lk_X10_285 rfl cal_X10_isFit vir_X10_isFit (Nat.le_of_ble_eq_true rfl) (Nat.le_of_ble_eq_true rfl) rfl rfl rfl (Nat.le_of_ble_eq_true rfl) dX10_laysRounds_70 (fun _ e => m_X10_isFit x0 x2 x3 h _ _ e) (fun r4 => ?_)
      refine Y.ifeq 132 (by decide) dX10_laysRounds_73 ?_ ?_
      · exact y_X10_laysRounds_J132 ih hkE138 x0 x1 x2 x3 r4.2
      · refine Y.op (pc' := 77) (fun _ => X.aloadn rfl dX10_laysRounds_76) ?_
        refine Y.op (pc' := 78) (fun _ => X.ic ki_0 dX10_laysRounds_77) ?_
        refine Y.op (pc' := 79) (fun _ => X.iloadn rfl dX10_laysRounds_78) ?_
        refine Y.callVi (As := [.int (0 : Int32), .int x2]) lk_X10_240 rfl cal_X10_isThere vir_X10_isThere (Nat.le_of_ble_eq_true rfl) (Nat.le_of_ble_eq_true rfl) rfl rfl rfl (Nat.le_of_ble_eq_true rfl) dX10_laysRounds_79 (fun _ e => m_X10_isThere x0 (0 : Int32) x2 r4.2 _ _ e) (fun r5 => ?_)
        refine Y.ifeq 132 (by decide) dX10_laysRounds_82 ?_ ?_
        · exact y_X10_laysRounds_J132 ih hkE138 x0 x1 x2 x3 r5.2
        · refine Y.op (pc' := 86) (fun _ => X.aloadn rfl dX10_laysRounds_85) ?_
          refine Y.op (pc' := 87) (fun _ => X.ic ki_1 dX10_laysRounds_86) ?_
          refine Y.op (pc' := 88) (fun _ => X.iloadn rfl dX10_laysRounds_87) ?_
          refine Y.callVi (As := [.int (1 : Int32), .int x3]) lk_X10_240 rfl cal_X10_isThere vir_X10_isThere (Nat.le_of_ble_eq_true rfl) (Nat.le_of_ble_eq_true rfl) rfl rfl rfl (Nat.le_of_ble_eq_true rfl) dX10_laysRounds_88 (fun _ e => m_X10_isThere x0 (1 : Int32) x3 r5.2 _ _ e) (fun r6 => ?_)
          refine Y.ifne 97 (by decide) dX10_laysRounds_91 ?_ ?_
          · refine Y.op (pc' := 98) (fun _ => X.aloadn rfl dX10_laysRounds_97) ?_
            refine Y.op (pc' := 99) (fun _ => X.ic ki_0 dX10_laysRounds_98) ?_
            refine Y.op (pc' := 100) (fun _ => X.iloadn rfl dX10_laysRounds_99) ?_
            refine Y.callVi (As := [.int (0 : Int32), .int x2]) lk_X10_347 rfl cal_X10_leastRound vir_X10_leastRound (Nat.le_of_ble_eq_true rfl) (Nat.le_of_ble_eq_true rfl) rfl rfl rfl (Nat.le_of_ble_eq_true rfl) dX10_laysRounds_100 (fun _ e => m_X10_leastRound x0 (0 : Int32) x2 r6.2 _ _ e) (fun r7 => ?_)
            refine Y.op (pc' := 105) (loc' := [some (.ref x0), some (.int x1), some (.int x2), some (.int x3), some (.int r7.1), none]) (fun _ => X.istore (Nat.le_of_ble_eq_true rfl) rfl dX10_laysRounds_103) ?_
            refine Y.op (pc' := 106) (fun _ => X.aloadn rfl dX10_laysRounds_105) ?_
            refine Y.op (pc' := 107) (fun _ => X.ic ki_1 dX10_laysRounds_106) ?_
            refine Y.op (pc' := 108) (fun _ => X.iloadn rfl dX10_laysRounds_107) ?_
            refine Y.callVi (As := [.int (1 : Int32), .int x3]) lk_X10_347 rfl cal_X10_leastRound vir_X10_leastRound (Nat.le_of_ble_eq_true rfl) (Nat.le_of_ble_eq_true rfl) rfl rfl rfl (Nat.le_of_ble_eq_true rfl) dX10_laysRounds_108 (fun _ e => m_X10_leastRound x0 (1 : Int32) x3 r7.2 _ _ e) (fun r8 => ?_)
            refine Y.op (pc' := 113) (loc' := [some (.ref x0), some (.int x1), some (.int x2), some (.int x3), some (.int r7.1), some (.int r8.1)]) (fun _ => X.istore (Nat.le_of_ble_eq_true rfl) rfl dX10_laysRounds_111) ?_
            refine Y.op (pc' := 114) (fun _ => X.aloadn rfl dX10_laysRounds_113) ?_
            refine Y.op (pc' := 115) (fun _ => X.iloadn rfl dX10_laysRounds_114) ?_
            refine Y.op (pc' := 117) (fun _ => X.iload rfl dX10_laysRounds_115) ?_
            refine Y.op (pc' := 119) (fun _ => X.iload rfl dX10_laysRounds_117) ?_
            refine Y.callVv (As := [.int x3, .int r7.1, .int r8.1]) lk_X10_350 rfl cal_X10_changes vir_X10_changes (Nat.le_of_ble_eq_true rfl) (Nat.le_of_ble_eq_true rfl) rfl rfl rfl (Nat.le_of_ble_eq_true rfl) dX10_laysRounds_119 (fun _ e => m_X10_changes x0 x3 r7.1 r8.1 r8.2 _ _ e) (fun h9 => ?_)
            refine Y.op (pc' := 123) (fun _ => X.aloadn rfl dX10_laysRounds_122) ?_
            refine Y.getR fd_X10_54 rfl dX10_laysRounds_123 (fun v10 => ?_)
            refine Y.op (pc' := 127) (fun _ => X.iloadn rfl dX10_laysRounds_126) ?_
            refine Y.aldR 102 (by decide) (by decide) dX10_laysRounds_127 (fun v11 => ?_)
            refine Y.op (pc' := 129) (fun _ => X.iloadn rfl dX10_laysRounds_128) ?_
            refine Y.op (pc' := 131) (fun _ => X.iload rfl dX10_laysRounds_129) ?_
            refine Y.astI dX10_laysRounds_131 (fun h12 => ?_)
            exact Y.fg (y_X10_laysRounds_J132 ih hkE138 x0 x1 x2 x3 h12) (And.intro rfl (And.intro rfl (And.intro rfl (And.intro rfl trivial))))
          · refine Y.op (pc' := 132) (fun _ => X.goto 132 (by decide) dX10_laysRounds_94) ?_
            exact y_X10_laysRounds_J132 ih hkE138 x0 x1 x2 x3 r6.2
def f_X10_laysRounds_L41 (kE144 : Nat → Int32 → xH → Option (Int32 × xH)) : Nat → Nat → Int32 → Int32 → xH → Option (Int32 × xH)
  | 0 => fun _ _ _ _ => none
  | n + 1 => fun x0 x1 x2 h =>
    (gR h 10 x0 9).bind fun v1 =>
    (aR 102 h v1 (0 : Int32)).bind fun v2 =>
    (aI h v2 (0 : Int32)).bind fun v3 =>
    if x2 ≥ v3 then
      kE144 x0 x1 h
    else
      f_X10_laysRounds_L55 (f_X10_laysRounds_J138 (f_X10_laysRounds_L41 kE144 n) kE144) 5000 x0 x1 x2 (0 : Int32) h
theorem y_X10_laysRounds_L41 {g : xG} {h0 : xH} {cl : Bool} {kE144 : Nat → Int32 → xH → Option (Int32 × xH)} (hkE144 : ∀ (x0 : Nat) (x1 : Int32) (h : xH), Y g DX10_laysRounds h0 cl iI (kE144 x0 x1 h) 144 [some (.ref x0), some (.int x1), none, none, none, none] [] h) : ∀ (n : Nat) (x0 : Nat) (x1 : Int32) (x2 : Int32) (h : xH), Y g DX10_laysRounds h0 cl iI (f_X10_laysRounds_L41 kE144 n x0 x1 x2 h) 41 [some (.ref x0), some (.int x1), some (.int x2), none, none, none] [] h := by
  intro n
  induction n with
  | zero => intro x0 x1 x2 h; exact Y.nothing
  | succ n ih =>
    intro x0 x1 x2 h
    unfold f_X10_laysRounds_L41
    refine Y.op (pc' := 42) (fun _ => X.iloadn rfl dX10_laysRounds_41) ?_
    refine Y.op (pc' := 43) (fun _ => X.aloadn rfl dX10_laysRounds_42) ?_
    refine Y.getR fd_X10_22 rfl dX10_laysRounds_43 (fun v1 => ?_)
    refine Y.op (pc' := 47) (fun _ => X.ic ki_0 dX10_laysRounds_46) ?_
    refine Y.aldR 102 (by decide) (by decide) dX10_laysRounds_47 (fun v2 => ?_)
    refine Y.op (pc' := 49) (fun _ => X.ic ki_0 dX10_laysRounds_48) ?_
    refine Y.aldI dX10_laysRounds_49 (fun v3 => ?_)
    refine Y.cmpge 144 (by decide) dX10_laysRounds_50 ?_ ?_
    · exact Y.fg (hkE144 x0 x1 h) (And.intro rfl (And.intro rfl trivial))
    · refine Y.op (pc' := 54) (fun _ => X.ic ki_0 dX10_laysRounds_53) ?_
      refine Y.op (pc' := 55) (loc' := [some (.ref x0), some (.int x1), some (.int x2), some (.int (0 : Int32)), none, none]) (fun _ => X.istoren (Nat.le_of_ble_eq_true rfl) rfl dX10_laysRounds_54) ?_
      exact y_X10_laysRounds_L55 (y_X10_laysRounds_J138 ih hkE144) 5000 x0 x1 x2 (0 : Int32) h
def f_X10_laysRounds_J39 (x0 : Nat) (x1 : Int32) (h : xH) : Option (Int32 × xH) :=
  f_X10_laysRounds_L41 (f_X10_laysRounds_J144) 5000 x0 x1 (0 : Int32) h
theorem y_X10_laysRounds_J39 {g : xG} {h0 : xH} {cl : Bool} (x0 : Nat) (x1 : Int32) (h : xH) : Y g DX10_laysRounds h0 cl iI (f_X10_laysRounds_J39 x0 x1 h) 39 [some (.ref x0), some (.int x1), none, none, none, none] [] h := by
  unfold f_X10_laysRounds_J39
  refine Y.op (pc' := 40) (fun _ => X.ic ki_0 dX10_laysRounds_39) ?_
  refine Y.op (pc' := 41) (loc' := [some (.ref x0), some (.int x1), some (.int (0 : Int32)), none, none, none]) (fun _ => X.istoren (Nat.le_of_ble_eq_true rfl) rfl dX10_laysRounds_40) ?_
  exact y_X10_laysRounds_L41 (y_X10_laysRounds_J144) 5000 x0 x1 (0 : Int32) h
def f_X10_laysRounds_J33 (kH : Nat → Int32 → Int32 → xH → Option (Int32 × xH)) (kE39 : Nat → Int32 → xH → Option (Int32 × xH)) (x0 : Nat) (x1 : Int32) (x2 : Int32) (h : xH) : Option (Int32 × xH) :=
  lt (x2 + (1 : Int32)) fun v1 =>
  kH x0 x1 v1 h
theorem y_X10_laysRounds_J33 {g : xG} {h0 : xH} {cl : Bool} {kH : Nat → Int32 → Int32 → xH → Option (Int32 × xH)} {kE39 : Nat → Int32 → xH → Option (Int32 × xH)} (hkH : ∀ (x0 : Nat) (x1 : Int32) (x2 : Int32) (h : xH), Y g DX10_laysRounds h0 cl iI (kH x0 x1 x2 h) 4 [some (.ref x0), some (.int x1), some (.int x2), none, none, none] [] h) (hkE39 : ∀ (x0 : Nat) (x1 : Int32) (h : xH), Y g DX10_laysRounds h0 cl iI (kE39 x0 x1 h) 39 [some (.ref x0), some (.int x1), none, none, none, none] [] h) (x0 : Nat) (x1 : Int32) (x2 : Int32) (h : xH) : Y g DX10_laysRounds h0 cl iI (f_X10_laysRounds_J33 kH kE39 x0 x1 x2 h) 33 [some (.ref x0), some (.int x1), some (.int x2), none, none, none] [] h := by
  unfold f_X10_laysRounds_J33
  refine Y.iinc (i := 2) (loc' := fun v1 => [some (.ref x0), some (.int x1), some (.int v1), none, none, none]) rfl (Nat.le_of_ble_eq_true rfl) ki_1 (fun _ => rfl) dX10_laysRounds_33 (fun v1 => ?_)
  refine Y.op (pc' := 4) (fun _ => X.goto 4 (by decide) dX10_laysRounds_36) ?_
  exact hkH x0 x1 v1 h
def f_X10_laysRounds_L12 (kE33 : Nat → Int32 → Int32 → xH → Option (Int32 × xH)) : Nat → Nat → Int32 → Int32 → Int32 → xH → Option (Int32 × xH)
  | 0 => fun _ _ _ _ _ => none
  | n + 1 => fun x0 x1 x2 x3 h =>
    if x3 ≥ (12 : Int32) then
      kE33 x0 x1 x2 h
    else
      (gR h 10 x0 32).bind fun v1 =>
      (aR 102 h v1 x2).bind fun v2 =>
      (sI h v2 x3 (-1 : Int32)).bind fun h3 =>
      lt (x3 + (1 : Int32)) fun v4 =>
      f_X10_laysRounds_L12 kE33 n x0 x1 x2 v4 h3
theorem y_X10_laysRounds_L12 {g : xG} {h0 : xH} {cl : Bool} {kE33 : Nat → Int32 → Int32 → xH → Option (Int32 × xH)} (hkE33 : ∀ (x0 : Nat) (x1 : Int32) (x2 : Int32) (h : xH), Y g DX10_laysRounds h0 cl iI (kE33 x0 x1 x2 h) 33 [some (.ref x0), some (.int x1), some (.int x2), none, none, none] [] h) : ∀ (n : Nat) (x0 : Nat) (x1 : Int32) (x2 : Int32) (x3 : Int32) (h : xH), Y g DX10_laysRounds h0 cl iI (f_X10_laysRounds_L12 kE33 n x0 x1 x2 x3 h) 12 [some (.ref x0), some (.int x1), some (.int x2), some (.int x3), none, none] [] h := by
  intro n
  induction n with
  | zero => intro x0 x1 x2 x3 h; exact Y.nothing
  | succ n ih =>
    intro x0 x1 x2 x3 h
    unfold f_X10_laysRounds_L12
    refine Y.op (pc' := 13) (fun _ => X.iloadn rfl dX10_laysRounds_12) ?_
    refine Y.op (pc' := 15) (fun _ => X.bp kb_12 dX10_laysRounds_13) ?_
    refine Y.cmpge 33 (by decide) dX10_laysRounds_15 ?_ ?_
    · exact Y.fg (hkE33 x0 x1 x2 h) (And.intro rfl (And.intro rfl (And.intro rfl trivial)))
    · refine Y.op (pc' := 19) (fun _ => X.aloadn rfl dX10_laysRounds_18) ?_
      refine Y.getR fd_X10_54 rfl dX10_laysRounds_19 (fun v1 => ?_)
      refine Y.op (pc' := 23) (fun _ => X.iloadn rfl dX10_laysRounds_22) ?_
      refine Y.aldR 102 (by decide) (by decide) dX10_laysRounds_23 (fun v2 => ?_)
      refine Y.op (pc' := 25) (fun _ => X.iloadn rfl dX10_laysRounds_24) ?_
      refine Y.op (pc' := 26) (fun _ => X.ic ki_m1 dX10_laysRounds_25) ?_
      refine Y.astI dX10_laysRounds_26 (fun h3 => ?_)
      refine Y.iinc (i := 3) (loc' := fun v4 => [some (.ref x0), some (.int x1), some (.int x2), some (.int v4), none, none]) rfl (Nat.le_of_ble_eq_true rfl) ki_1 (fun _ => rfl) dX10_laysRounds_27 (fun v4 => ?_)
      refine Y.op (pc' := 12) (fun _ => X.goto 12 (by decide) dX10_laysRounds_30) ?_
      exact ih x0 x1 x2 v4 h3
def f_X10_laysRounds_L4 (kE39 : Nat → Int32 → xH → Option (Int32 × xH)) : Nat → Nat → Int32 → Int32 → xH → Option (Int32 × xH)
  | 0 => fun _ _ _ _ => none
  | n + 1 => fun x0 x1 x2 h =>
    if x2 ≥ (12 : Int32) then
      kE39 x0 x1 h
    else
      f_X10_laysRounds_L12 (f_X10_laysRounds_J33 (f_X10_laysRounds_L4 kE39 n) kE39) 5000 x0 x1 x2 (0 : Int32) h
theorem y_X10_laysRounds_L4 {g : xG} {h0 : xH} {cl : Bool} {kE39 : Nat → Int32 → xH → Option (Int32 × xH)} (hkE39 : ∀ (x0 : Nat) (x1 : Int32) (h : xH), Y g DX10_laysRounds h0 cl iI (kE39 x0 x1 h) 39 [some (.ref x0), some (.int x1), none, none, none, none] [] h) : ∀ (n : Nat) (x0 : Nat) (x1 : Int32) (x2 : Int32) (h : xH), Y g DX10_laysRounds h0 cl iI (f_X10_laysRounds_L4 kE39 n x0 x1 x2 h) 4 [some (.ref x0), some (.int x1), some (.int x2), none, none, none] [] h := by
  intro n
  induction n with
  | zero => intro x0 x1 x2 h; exact Y.nothing
  | succ n ih =>
    intro x0 x1 x2 h
    unfold f_X10_laysRounds_L4
    refine Y.op (pc' := 5) (fun _ => X.iloadn rfl dX10_laysRounds_4) ?_
    refine Y.op (pc' := 7) (fun _ => X.bp kb_12 dX10_laysRounds_5) ?_
    refine Y.cmpge 39 (by decide) dX10_laysRounds_7 ?_ ?_
    · exact Y.fg (hkE39 x0 x1 h) (And.intro rfl (And.intro rfl trivial))
    · refine Y.op (pc' := 11) (fun _ => X.ic ki_0 dX10_laysRounds_10) ?_
      refine Y.op (pc' := 12) (loc' := [some (.ref x0), some (.int x1), some (.int x2), some (.int (0 : Int32)), none, none]) (fun _ => X.istoren (Nat.le_of_ble_eq_true rfl) rfl dX10_laysRounds_11) ?_
      exact y_X10_laysRounds_L12 (y_X10_laysRounds_J33 ih hkE39) 5000 x0 x1 x2 (0 : Int32) h
def f_X10_laysRounds (a0 : Nat) (h : xH) : Option (Int32 × xH) :=
  f_X10_laysRounds_L4 (f_X10_laysRounds_J39) 5000 a0 (0 : Int32) (0 : Int32) h
theorem y_X10_laysRounds {g : xG} {h0 : xH} {cl : Bool} (a0 : Nat) (h : xH) : Y g DX10_laysRounds h0 cl iI (f_X10_laysRounds a0 h) 0 [some (.ref a0), none, none, none, none, none] [] h := by
  unfold f_X10_laysRounds
  refine Y.op (pc' := 1) (fun _ => X.ic ki_0 dX10_laysRounds_0) ?_
  refine Y.op (pc' := 2) (loc' := [some (.ref a0), some (.int (0 : Int32)), none, none, none, none]) (fun _ => X.istoren (Nat.le_of_ble_eq_true rfl) rfl dX10_laysRounds_1) ?_
  refine Y.op (pc' := 3) (fun _ => X.ic ki_0 dX10_laysRounds_2) ?_
  refine Y.op (pc' := 4) (loc' := [some (.ref a0), some (.int (0 : Int32)), some (.int (0 : Int32)), none, none, none]) (fun _ => X.istoren (Nat.le_of_ble_eq_true rfl) rfl dX10_laysRounds_3) ?_
  exact y_X10_laysRounds_L4 (y_X10_laysRounds_J39) 5000 a0 (0 : Int32) (0 : Int32) h
theorem m_X10_laysRounds {g : xG} (a0 : Nat) (h : xH) (cl : Bool) (r : Int32 × xH) (e : f_X10_laysRounds a0 h = some r) : XM g DX10_laysRounds [.ref a0] h cl (iI r) := YM.of rfl rfl (Nat.le_of_ble_eq_true rfl) (y_X10_laysRounds a0 h) e
def f_X10_rounds (a0 : Nat) (h : xH) : Option (Int32 × xH) :=
  (pI h 10 a0 0 (0 : Int32)).bind fun h1 =>
  (vc h1 10 a0 (f_X10_laysRounds a0 h1)).bind fun r2 =>
  some (r2.1, r2.2)
theorem y_X10_rounds {g : xG} {h0 : xH} {cl : Bool} (a0 : Nat) (h : xH) : Y g DX10_rounds h0 cl iI (f_X10_rounds a0 h) 0 [some (.ref a0)] [] h := by
  unfold f_X10_rounds
  refine Y.op (pc' := 1) (fun _ => X.aloadn rfl dX10_rounds_0) ?_
  refine Y.op (pc' := 2) (fun _ => X.ic ki_0 dX10_rounds_1) ?_
  refine Y.putI fd_X10_82 rfl dX10_rounds_2 (fun h1 => ?_)
  refine Y.op (pc' := 6) (fun _ => X.aloadn rfl dX10_rounds_5) ?_
  refine Y.callVi (As := []) lk_X10_356 rfl cal_X10_laysRounds vir_X10_laysRounds (Nat.le_of_ble_eq_true rfl) (Nat.le_of_ble_eq_true rfl) rfl rfl rfl (Nat.le_of_ble_eq_true rfl) dX10_rounds_6 (fun _ e => m_X10_laysRounds a0 h1 _ _ e) (fun r2 => ?_)
  exact Y.ireturn rfl dX10_rounds_9
theorem m_X10_rounds {g : xG} (a0 : Nat) (h : xH) (cl : Bool) (r : Int32 × xH) (e : f_X10_rounds a0 h = some r) : XM g DX10_rounds [.ref a0] h cl (iI r) := YM.of rfl rfl (Nat.le_of_ble_eq_true rfl) (y_X10_rounds a0 h) e
def f_X10_round_J29 (x0 : Nat) (x1 : Int32) (x2 : Int32) (s0 : Nat) (s1 : Int32) (h : xH) : Option (Int32 × xH) :=
  (vc h 10 s0 (f_X10_bad s0 s1 (1 : Int32) (0 : Int32) h)).bind fun r1 =>
  if r1.1 = (0 : Int32) then
    (vc r1.2 10 x0 (f_X10_laysRounds x0 r1.2)).bind fun r2 =>
    (gR r2.2 10 x0 32).bind fun v3 =>
    (aR 102 r2.2 v3 x1).bind fun v4 =>
    (aI r2.2 v4 x2).bind fun v5 =>
    some (v5, r2.2)
  else
    some ((0 : Int32), r1.2)
theorem y_X10_round_J29 {g : xG} {h0 : xH} {cl : Bool} (x0 : Nat) (x1 : Int32) (x2 : Int32) (s0 : Nat) (s1 : Int32) (h : xH) : Y g DX10_round h0 cl iI (f_X10_round_J29 x0 x1 x2 s0 s1 h) 29 [some (.ref x0), some (.int x1), some (.int x2)] [.int s1, .ref s0] h := by
  unfold f_X10_round_J29
  refine Y.op (pc' := 30) (fun _ => X.ic ki_1 dX10_round_29) ?_
  refine Y.op (pc' := 31) (fun _ => X.ic ki_0 dX10_round_30) ?_
  refine Y.callVi (As := [.int s1, .int (1 : Int32), .int (0 : Int32)]) lk_X10_217 rfl cal_X10_bad vir_X10_bad (Nat.le_of_ble_eq_true rfl) (Nat.le_of_ble_eq_true rfl) rfl rfl rfl (Nat.le_of_ble_eq_true rfl) dX10_round_31 (fun _ e => m_X10_bad s0 s1 (1 : Int32) (0 : Int32) h _ _ e) (fun r1 => ?_)
  refine Y.ifeq 39 (by decide) dX10_round_34 ?_ ?_
  · refine Y.op (pc' := 40) (fun _ => X.aloadn rfl dX10_round_39) ?_
    refine Y.callVi (As := []) lk_X10_356 rfl cal_X10_laysRounds vir_X10_laysRounds (Nat.le_of_ble_eq_true rfl) (Nat.le_of_ble_eq_true rfl) rfl rfl rfl (Nat.le_of_ble_eq_true rfl) dX10_round_40 (fun _ e => m_X10_laysRounds x0 r1.2 _ _ e) (fun r2 => ?_)
    refine Y.op (pc' := 44) (fun _ => X.pop rfl dX10_round_43) ?_
    refine Y.op (pc' := 45) (fun _ => X.aloadn rfl dX10_round_44) ?_
    refine Y.getR fd_X10_54 rfl dX10_round_45 (fun v3 => ?_)
    refine Y.op (pc' := 49) (fun _ => X.iloadn rfl dX10_round_48) ?_
    refine Y.aldR 102 (by decide) (by decide) dX10_round_49 (fun v4 => ?_)
    refine Y.op (pc' := 51) (fun _ => X.iloadn rfl dX10_round_50) ?_
    refine Y.aldI dX10_round_51 (fun v5 => ?_)
    exact Y.ireturn rfl dX10_round_52
  · refine Y.op (pc' := 38) (fun _ => X.ic ki_0 dX10_round_37) ?_
    exact Y.ireturn rfl dX10_round_38
def f_X10_round_J24 (x0 : Nat) (x1 : Int32) (x2 : Int32) (s0 : Nat) (h : xH) : Option (Int32 × xH) :=
  f_X10_round_J29 x0 x1 x2 s0 (1 : Int32) h
theorem y_X10_round_J24 {g : xG} {h0 : xH} {cl : Bool} (x0 : Nat) (x1 : Int32) (x2 : Int32) (s0 : Nat) (h : xH) : Y g DX10_round h0 cl iI (f_X10_round_J24 x0 x1 x2 s0 h) 24 [some (.ref x0), some (.int x1), some (.int x2)] [.ref s0] h := by
  unfold f_X10_round_J24
  refine Y.op (pc' := 25) (fun _ => X.ic ki_1 dX10_round_24) ?_
  refine Y.op (pc' := 29) (fun _ => X.goto 29 (by decide) dX10_round_25) ?_
  exact y_X10_round_J29 x0 x1 x2 s0 (1 : Int32) h
def f_X10_round (a0 : Nat) (p1 : Int32) (p2 : Int32) (h : xH) : Option (Int32 × xH) :=
  (pI h 10 a0 0 (0 : Int32)).bind fun h1 =>
  (vc h1 10 a0 (f_X10_isOne a0 (0 : Int32) p1 h1)).bind fun r2 =>
  if r2.1 = (0 : Int32) then
    f_X10_round_J24 a0 p1 p2 a0 r2.2
  else
    (vc r2.2 10 a0 (f_X10_isOne a0 (1 : Int32) p2 r2.2)).bind fun r3 =>
    if r3.1 = (0 : Int32) then
      f_X10_round_J24 a0 p1 p2 a0 r3.2
    else
      f_X10_round_J29 a0 p1 p2 a0 (0 : Int32) r3.2
theorem y_X10_round {g : xG} {h0 : xH} {cl : Bool} (a0 : Nat) (p1 : Int32) (p2 : Int32) (h : xH) : Y g DX10_round h0 cl iI (f_X10_round a0 p1 p2 h) 0 [some (.ref a0), some (.int p1), some (.int p2)] [] h := by
  unfold f_X10_round
  refine Y.op (pc' := 1) (fun _ => X.aloadn rfl dX10_round_0) ?_
  refine Y.op (pc' := 2) (fun _ => X.ic ki_0 dX10_round_1) ?_
  refine Y.putI fd_X10_82 rfl dX10_round_2 (fun h1 => ?_)
  refine Y.op (pc' := 6) (fun _ => X.aloadn rfl dX10_round_5) ?_
  refine Y.op (pc' := 7) (fun _ => X.aloadn rfl dX10_round_6) ?_
  refine Y.op (pc' := 8) (fun _ => X.ic ki_0 dX10_round_7) ?_
  refine Y.op (pc' := 9) (fun _ => X.iloadn rfl dX10_round_8) ?_
  refine Y.callVi (As := [.int (0 : Int32), .int p1]) lk_X10_282 rfl cal_X10_isOne vir_X10_isOne (Nat.le_of_ble_eq_true rfl) (Nat.le_of_ble_eq_true rfl) rfl rfl rfl (Nat.le_of_ble_eq_true rfl) dX10_round_9 (fun _ e => m_X10_isOne a0 (0 : Int32) p1 h1 _ _ e) (fun r2 => ?_)
  refine Y.ifeq 24 (by decide) dX10_round_12 ?_ ?_
  · exact y_X10_round_J24 a0 p1 p2 a0 r2.2
  · refine Y.op (pc' := 16) (fun _ => X.aloadn rfl dX10_round_15) ?_
    refine Y.op (pc' := 17) (fun _ => X.ic ki_1 dX10_round_16) ?_
    refine Y.op (pc' := 18) (fun _ => X.iloadn rfl dX10_round_17) ?_
    refine Y.callVi (As := [.int (1 : Int32), .int p2]) lk_X10_282 rfl cal_X10_isOne vir_X10_isOne (Nat.le_of_ble_eq_true rfl) (Nat.le_of_ble_eq_true rfl) rfl rfl rfl (Nat.le_of_ble_eq_true rfl) dX10_round_18 (fun _ e => m_X10_isOne a0 (1 : Int32) p2 r2.2 _ _ e) (fun r3 => ?_)
    refine Y.ifne 28 (by decide) dX10_round_21 ?_ ?_
    · refine Y.op (pc' := 29) (fun _ => X.ic ki_0 dX10_round_28) ?_
      exact y_X10_round_J29 a0 p1 p2 a0 (0 : Int32) r3.2
    · exact y_X10_round_J24 a0 p1 p2 a0 r3.2
theorem m_X10_round {g : xG} (a0 : Nat) (p1 : Int32) (p2 : Int32) (h : xH) (cl : Bool) (r : Int32 × xH) (e : f_X10_round a0 p1 p2 h = some r) : XM g DX10_round [.ref a0, .int p1, .int p2] h cl (iI r) := YM.of rfl rfl (Nat.le_of_ble_eq_true rfl) (y_X10_round a0 p1 p2 h) e
def f_X10_laysReach_J250 (x0 : Nat) (h : xH) : Option (xH) :=
  (vc h 10 x0 (f_X10_copies x0 (17 : Int32) (0 : Int32) h)).bind fun h1 =>
  some h1
theorem y_X10_laysReach_J250 {g : xG} {h0 : xH} {cl : Bool} (x0 : Nat) (h : xH) : Y g DX10_laysReach h0 cl iV (f_X10_laysReach_J250 x0 h) 250 [some (.ref x0), none, none] [] h := by
  unfold f_X10_laysReach_J250
  refine Y.op (pc' := 251) (fun _ => X.aloadn rfl dX10_laysReach_250) ?_
  refine Y.op (pc' := 253) (fun _ => X.bp kb_17 dX10_laysReach_251) ?_
  refine Y.op (pc' := 254) (fun _ => X.ic ki_0 dX10_laysReach_253) ?_
  refine Y.callVv (As := [.int (17 : Int32), .int (0 : Int32)]) lk_X10_228 rfl cal_X10_copies vir_X10_copies (Nat.le_of_ble_eq_true rfl) (Nat.le_of_ble_eq_true rfl) rfl rfl rfl (Nat.le_of_ble_eq_true rfl) dX10_laysReach_254 (fun _ e => m_X10_copies x0 (17 : Int32) (0 : Int32) h _ _ e) (fun h1 => ?_)
  exact Y.vreturn rfl dX10_laysReach_257
def f_X10_laysReach_J244 (kH : Nat → Int32 → xH → Option (xH)) (kE250 : Nat → xH → Option (xH)) (x0 : Nat) (x1 : Int32) (h : xH) : Option (xH) :=
  lt (x1 + (1 : Int32)) fun v1 =>
  kH x0 v1 h
theorem y_X10_laysReach_J244 {g : xG} {h0 : xH} {cl : Bool} {kH : Nat → Int32 → xH → Option (xH)} {kE250 : Nat → xH → Option (xH)} (hkH : ∀ (x0 : Nat) (x1 : Int32) (h : xH), Y g DX10_laysReach h0 cl iV (kH x0 x1 h) 52 [some (.ref x0), some (.int x1), none] [] h) (hkE250 : ∀ (x0 : Nat) (h : xH), Y g DX10_laysReach h0 cl iV (kE250 x0 h) 250 [some (.ref x0), none, none] [] h) (x0 : Nat) (x1 : Int32) (h : xH) : Y g DX10_laysReach h0 cl iV (f_X10_laysReach_J244 kH kE250 x0 x1 h) 244 [some (.ref x0), some (.int x1), none] [] h := by
  unfold f_X10_laysReach_J244
  refine Y.iinc (i := 1) (loc' := fun v1 => [some (.ref x0), some (.int v1), none]) rfl (Nat.le_of_ble_eq_true rfl) ki_1 (fun _ => rfl) dX10_laysReach_244 (fun v1 => ?_)
  refine Y.op (pc' := 52) (fun _ => X.goto 52 (by decide) dX10_laysReach_247) ?_
  exact hkH x0 v1 h
def f_X10_laysReach_J238 (kH : Nat → Int32 → Int32 → xH → Option (xH)) (kE244 : Nat → Int32 → xH → Option (xH)) (x0 : Nat) (x1 : Int32) (x2 : Int32) (h : xH) : Option (xH) :=
  lt (x2 + (1 : Int32)) fun v1 =>
  kH x0 x1 v1 h
theorem y_X10_laysReach_J238 {g : xG} {h0 : xH} {cl : Bool} {kH : Nat → Int32 → Int32 → xH → Option (xH)} {kE244 : Nat → Int32 → xH → Option (xH)} (hkH : ∀ (x0 : Nat) (x1 : Int32) (x2 : Int32) (h : xH), Y g DX10_laysReach h0 cl iV (kH x0 x1 x2 h) 60 [some (.ref x0), some (.int x1), some (.int x2)] [] h) (hkE244 : ∀ (x0 : Nat) (x1 : Int32) (h : xH), Y g DX10_laysReach h0 cl iV (kE244 x0 x1 h) 244 [some (.ref x0), some (.int x1), none] [] h) (x0 : Nat) (x1 : Int32) (x2 : Int32) (h : xH) : Y g DX10_laysReach h0 cl iV (f_X10_laysReach_J238 kH kE244 x0 x1 x2 h) 238 [some (.ref x0), some (.int x1), some (.int x2)] [] h := by
  unfold f_X10_laysReach_J238
  refine Y.iinc (i := 2) (loc' := fun v1 => [some (.ref x0), some (.int x1), some (.int v1)]) rfl (Nat.le_of_ble_eq_true rfl) ki_1 (fun _ => rfl) dX10_laysReach_238 (fun v1 => ?_)
  refine Y.op (pc' := 60) (fun _ => X.goto 60 (by decide) dX10_laysReach_241) ?_
  exact hkH x0 x1 v1 h
def f_X10_laysReach_J194 (kH : Nat → Int32 → Int32 → xH → Option (xH)) (kE244 : Nat → Int32 → xH → Option (xH)) (x0 : Nat) (x1 : Int32) (x2 : Int32) (h : xH) : Option (xH) :=
  (gR h 10 x0 11).bind fun v1 =>
  (aR 102 h v1 (0 : Int32)).bind fun v2 =>
  (aI h v2 x2).bind fun v3 =>
  if v3 = (-1 : Int32) then
    f_X10_laysReach_J238 (kH) kE244 x0 x1 x2 h
  else
    (gR h 10 x0 34).bind fun v4 =>
    (aI h v4 (0 : Int32)).bind fun v5 =>
    (f_X10_has v5 x2 h).bind fun r6 =>
    if r6.1 = (0 : Int32) then
      f_X10_laysReach_J238 (kH) kE244 x0 x1 x2 r6.2
    else
      (gR r6.2 10 x0 34).bind fun v7 =>
      (aI r6.2 v7 (1 : Int32)).bind fun v8 =>
      (gR r6.2 10 x0 11).bind fun v9 =>
      (aR 102 r6.2 v9 (0 : Int32)).bind fun v10 =>
      (aI r6.2 v10 x2).bind fun v11 =>
      (sI r6.2 v7 (1 : Int32) (v8 ||| ((1 : Int32) <<< (v11 &&& 31)))).bind fun h12 =>
      f_X10_laysReach_J238 (kH) kE244 x0 x1 x2 h12
theorem y_X10_laysReach_J194 {g : xG} {h0 : xH} {cl : Bool} {kH : Nat → Int32 → Int32 → xH → Option (xH)} {kE244 : Nat → Int32 → xH → Option (xH)} (hkH : ∀ (x0 : Nat) (x1 : Int32) (x2 : Int32) (h : xH), Y g DX10_laysReach h0 cl iV (kH x0 x1 x2 h) 60 [some (.ref x0), some (.int x1), some (.int x2)] [] h) (hkE244 : ∀ (x0 : Nat) (x1 : Int32) (h : xH), Y g DX10_laysReach h0 cl iV (kE244 x0 x1 h) 244 [some (.ref x0), some (.int x1), none] [] h) (x0 : Nat) (x1 : Int32) (x2 : Int32) (h : xH) : Y g DX10_laysReach h0 cl iV (f_X10_laysReach_J194 kH kE244 x0 x1 x2 h) 194 [some (.ref x0), some (.int x1), some (.int x2)] [] h := by
  unfold f_X10_laysReach_J194
  refine Y.op (pc' := 195) (fun _ => X.aloadn rfl dX10_laysReach_194) ?_
  refine Y.getR fd_X10_28 rfl dX10_laysReach_195 (fun v1 => ?_)
  refine Y.op (pc' := 199) (fun _ => X.ic ki_0 dX10_laysReach_198) ?_
  refine Y.aldR 102 (by decide) (by decide) dX10_laysReach_199 (fun v2 => ?_)
  refine Y.op (pc' := 201) (fun _ => X.iloadn rfl dX10_laysReach_200) ?_
  refine Y.aldI dX10_laysReach_201 (fun v3 => ?_)
  refine Y.op (pc' := 203) (fun _ => X.ic ki_m1 dX10_laysReach_202) ?_
  refine Y.cmpeq 238 (by decide) dX10_laysReach_203 ?_ ?_
  · exact y_X10_laysReach_J238 hkH hkE244 x0 x1 x2 h
  · refine Y.op (pc' := 207) (fun _ => X.aloadn rfl dX10_laysReach_206) ?_
    refine Y.getR fd_X10_60 rfl dX10_laysReach_207 (fun v4 => ?_)
    refine Y.op (pc' := 211) (fun _ => X.ic ki_0 dX10_laysReach_210) ?_
    refine Y.aldI dX10_laysReach_211 (fun v5 => ?_)
    refine Y.op (pc' := 213) (fun _ => X.iloadn rfl dX10_laysReach_212) ?_
    refine Y.callSi (As := [.int v5, .int x2]) lk_X10_182 rfl cal_X10_has sta_X10_has (Nat.le_of_ble_eq_true rfl) rfl rfl (Nat.le_of_ble_eq_true rfl) dX10_laysReach_213 (fun _ e => m_X10_has v5 x2 h _ _ e) (fun r6 => ?_)
    refine Y.ifeq 238 (by decide) dX10_laysReach_216 ?_ ?_
    · exact y_X10_laysReach_J238 hkH hkE244 x0 x1 x2 r6.2
    · refine Y.op (pc' := 220) (fun _ => X.aloadn rfl dX10_laysReach_219) ?_
      refine Y.getR fd_X10_60 rfl dX10_laysReach_220 (fun v7 => ?_)
      refine Y.op (pc' := 224) (fun _ => X.ic ki_1 dX10_laysReach_223) ?_
      refine Y.op (pc' := 225) (fun _ => X.dup2 rfl rfl dX10_laysReach_224) ?_
      refine Y.aldI dX10_laysReach_225 (fun v8 => ?_)
      refine Y.op (pc' := 227) (fun _ => X.ic ki_1 dX10_laysReach_226) ?_
      refine Y.op (pc' := 228) (fun _ => X.aloadn rfl dX10_laysReach_227) ?_
      refine Y.getR fd_X10_28 rfl dX10_laysReach_228 (fun v9 => ?_)
      refine Y.op (pc' := 232) (fun _ => X.ic ki_0 dX10_laysReach_231) ?_
      refine Y.aldR 102 (by decide) (by decide) dX10_laysReach_232 (fun v10 => ?_)
      refine Y.op (pc' := 234) (fun _ => X.iloadn rfl dX10_laysReach_233) ?_
      refine Y.aldI dX10_laysReach_234 (fun v11 => ?_)
      refine Y.op (pc' := 236) (fun _ => X.ishl dX10_laysReach_235) ?_
      refine Y.op (pc' := 237) (fun _ => X.ior dX10_laysReach_236) ?_
      refine Y.astI dX10_laysReach_237 (fun h12 => ?_)
      exact y_X10_laysReach_J238 hkH hkE244 x0 x1 x2 h12
def f_X10_laysReach_J155 (kH : Nat → Int32 → Int32 → xH → Option (xH)) (kE244 : Nat → Int32 → xH → Option (xH)) (x0 : Nat) (x1 : Int32) (x2 : Int32) (h : xH) : Option (xH) :=
  (vc h 10 x0 (f_X10_isThere x0 (0 : Int32) x2 h)).bind fun r1 =>
  if r1.1 = (0 : Int32) then
    f_X10_laysReach_J194 (kH) kE244 x0 x1 x2 r1.2
  else
    (gR r1.2 10 x0 10).bind fun v2 =>
    (aR 102 r1.2 v2 (0 : Int32)).bind fun v3 =>
    (aI r1.2 v3 x2).bind fun v4 =>
    (gR r1.2 10 x0 34).bind fun v5 =>
    (aI r1.2 v5 (1 : Int32)).bind fun v6 =>
    if (v4 &&& v6) = (0 : Int32) then
      f_X10_laysReach_J194 (kH) kE244 x0 x1 x2 r1.2
    else
      (gR r1.2 10 x0 34).bind fun v7 =>
      (aI r1.2 v7 (0 : Int32)).bind fun v8 =>
      (sI r1.2 v7 (0 : Int32) (v8 ||| ((1 : Int32) <<< (x2 &&& 31)))).bind fun h9 =>
      f_X10_laysReach_J194 (kH) kE244 x0 x1 x2 h9
theorem y_X10_laysReach_J155 {g : xG} {h0 : xH} {cl : Bool} {kH : Nat → Int32 → Int32 → xH → Option (xH)} {kE244 : Nat → Int32 → xH → Option (xH)} (hkH : ∀ (x0 : Nat) (x1 : Int32) (x2 : Int32) (h : xH), Y g DX10_laysReach h0 cl iV (kH x0 x1 x2 h) 60 [some (.ref x0), some (.int x1), some (.int x2)] [] h) (hkE244 : ∀ (x0 : Nat) (x1 : Int32) (h : xH), Y g DX10_laysReach h0 cl iV (kE244 x0 x1 h) 244 [some (.ref x0), some (.int x1), none] [] h) (x0 : Nat) (x1 : Int32) (x2 : Int32) (h : xH) : Y g DX10_laysReach h0 cl iV (f_X10_laysReach_J155 kH kE244 x0 x1 x2 h) 155 [some (.ref x0), some (.int x1), some (.int x2)] [] h := by
  unfold f_X10_laysReach_J155
  refine Y.op (pc' := 156) (fun _ => X.aloadn rfl dX10_laysReach_155) ?_
  refine Y.op (pc' := 157) (fun _ => X.ic ki_0 dX10_laysReach_156) ?_
  refine Y.op (pc' := 158) (fun _ => X.iloadn rfl dX10_laysReach_157) ?_
  refine Y.callVi (As := [.int (0 : Int32), .int x2]) lk_X10_240 rfl cal_X10_isThere vir_X10_isThere (Nat.le_of_ble_eq_true rfl) (Nat.le_of_ble_eq_true rfl) rfl rfl rfl (Nat.le_of_ble_eq_true rfl) dX10_laysReach_158 (fun _ e => m_X10_isThere x0 (0 : Int32) x2 h _ _ e) (fun r1 => ?_)
  refine Y.ifeq 194 (by decide) dX10_laysReach_161 ?_ ?_
  · exact y_X10_laysReach_J194 hkH hkE244 x0 x1 x2 r1.2
  · refine Y.op (pc' := 165) (fun _ => X.aloadn rfl dX10_laysReach_164) ?_
    refine Y.getR fd_X10_25 rfl dX10_laysReach_165 (fun v2 => ?_)
    refine Y.op (pc' := 169) (fun _ => X.ic ki_0 dX10_laysReach_168) ?_
    refine Y.aldR 102 (by decide) (by decide) dX10_laysReach_169 (fun v3 => ?_)
    refine Y.op (pc' := 171) (fun _ => X.iloadn rfl dX10_laysReach_170) ?_
    refine Y.aldI dX10_laysReach_171 (fun v4 => ?_)
    refine Y.op (pc' := 173) (fun _ => X.aloadn rfl dX10_laysReach_172) ?_
    refine Y.getR fd_X10_60 rfl dX10_laysReach_173 (fun v5 => ?_)
    refine Y.op (pc' := 177) (fun _ => X.ic ki_1 dX10_laysReach_176) ?_
    refine Y.aldI dX10_laysReach_177 (fun v6 => ?_)
    refine Y.op (pc' := 179) (fun _ => X.iand dX10_laysReach_178) ?_
    refine Y.ifeq 194 (by decide) dX10_laysReach_179 ?_ ?_
    · exact y_X10_laysReach_J194 hkH hkE244 x0 x1 x2 r1.2
    · refine Y.op (pc' := 183) (fun _ => X.aloadn rfl dX10_laysReach_182) ?_
      refine Y.getR fd_X10_60 rfl dX10_laysReach_183 (fun v7 => ?_)
      refine Y.op (pc' := 187) (fun _ => X.ic ki_0 dX10_laysReach_186) ?_
      refine Y.op (pc' := 188) (fun _ => X.dup2 rfl rfl dX10_laysReach_187) ?_
      refine Y.aldI dX10_laysReach_188 (fun v8 => ?_)
      refine Y.op (pc' := 190) (fun _ => X.ic ki_1 dX10_laysReach_189) ?_
      refine Y.op (pc' := 191) (fun _ => X.iloadn rfl dX10_laysReach_190) ?_
      refine Y.op (pc' := 192) (fun _ => X.ishl dX10_laysReach_191) ?_
      refine Y.op (pc' := 193) (fun _ => X.ior dX10_laysReach_192) ?_
      refine Y.astI dX10_laysReach_193 (fun h9 => ?_)
      exact y_X10_laysReach_J194 hkH hkE244 x0 x1 x2 h9
def f_X10_laysReach_J111 (kH : Nat → Int32 → Int32 → xH → Option (xH)) (kE244 : Nat → Int32 → xH → Option (xH)) (x0 : Nat) (x1 : Int32) (x2 : Int32) (h : xH) : Option (xH) :=
  (gR h 10 x0 11).bind fun v1 =>
  (aR 102 h v1 (0 : Int32)).bind fun v2 =>
  (aI h v2 x2).bind fun v3 =>
  if v3 = (-1 : Int32) then
    f_X10_laysReach_J155 (kH) kE244 x0 x1 x2 h
  else
    (gR h 10 x0 33).bind fun v4 =>
    (aI h v4 (1 : Int32)).bind fun v5 =>
    (gR h 10 x0 11).bind fun v6 =>
    (aR 102 h v6 (0 : Int32)).bind fun v7 =>
    (aI h v7 x2).bind fun v8 =>
    (f_X10_has v5 v8 h).bind fun r9 =>
    if r9.1 = (0 : Int32) then
      f_X10_laysReach_J155 (kH) kE244 x0 x1 x2 r9.2
    else
      (gR r9.2 10 x0 33).bind fun v10 =>
      (aI r9.2 v10 (0 : Int32)).bind fun v11 =>
      (sI r9.2 v10 (0 : Int32) (v11 ||| ((1 : Int32) <<< (x2 &&& 31)))).bind fun h12 =>
      f_X10_laysReach_J155 (kH) kE244 x0 x1 x2 h12
theorem y_X10_laysReach_J111 {g : xG} {h0 : xH} {cl : Bool} {kH : Nat → Int32 → Int32 → xH → Option (xH)} {kE244 : Nat → Int32 → xH → Option (xH)} (hkH : ∀ (x0 : Nat) (x1 : Int32) (x2 : Int32) (h : xH), Y g DX10_laysReach h0 cl iV (kH x0 x1 x2 h) 60 [some (.ref x0), some (.int x1), some (.int x2)] [] h) (hkE244 : ∀ (x0 : Nat) (x1 : Int32) (h : xH), Y g DX10_laysReach h0 cl iV (kE244 x0 x1 h) 244 [some (.ref x0), some (.int x1), none] [] h) (x0 : Nat) (x1 : Int32) (x2 : Int32) (h : xH) : Y g DX10_laysReach h0 cl iV (f_X10_laysReach_J111 kH kE244 x0 x1 x2 h) 111 [some (.ref x0), some (.int x1), some (.int x2)] [] h := by
  unfold f_X10_laysReach_J111
  refine Y.op (pc' := 112) (fun _ => X.aloadn rfl dX10_laysReach_111) ?_
  refine Y.getR fd_X10_28 rfl dX10_laysReach_112 (fun v1 => ?_)
  refine Y.op (pc' := 116) (fun _ => X.ic ki_0 dX10_laysReach_115) ?_
  refine Y.aldR 102 (by decide) (by decide) dX10_laysReach_116 (fun v2 => ?_)
  refine Y.op (pc' := 118) (fun _ => X.iloadn rfl dX10_laysReach_117) ?_
  refine Y.aldI dX10_laysReach_118 (fun v3 => ?_)
  refine Y.op (pc' := 120) (fun _ => X.ic ki_m1 dX10_laysReach_119) ?_
  refine Y.cmpeq 155 (by decide) dX10_laysReach_120 ?_ ?_
  · exact y_X10_laysReach_J155 hkH hkE244 x0 x1 x2 h
  · refine Y.op (pc' := 124) (fun _ => X.aloadn rfl dX10_laysReach_123) ?_
    refine Y.getR fd_X10_57 rfl dX10_laysReach_124 (fun v4 => ?_)
    refine Y.op (pc' := 128) (fun _ => X.ic ki_1 dX10_laysReach_127) ?_
    refine Y.aldI dX10_laysReach_128 (fun v5 => ?_)
    refine Y.op (pc' := 130) (fun _ => X.aloadn rfl dX10_laysReach_129) ?_
    refine Y.getR fd_X10_28 rfl dX10_laysReach_130 (fun v6 => ?_)
    refine Y.op (pc' := 134) (fun _ => X.ic ki_0 dX10_laysReach_133) ?_
    refine Y.aldR 102 (by decide) (by decide) dX10_laysReach_134 (fun v7 => ?_)
    refine Y.op (pc' := 136) (fun _ => X.iloadn rfl dX10_laysReach_135) ?_
    refine Y.aldI dX10_laysReach_136 (fun v8 => ?_)
    refine Y.callSi (As := [.int v5, .int v8]) lk_X10_182 rfl cal_X10_has sta_X10_has (Nat.le_of_ble_eq_true rfl) rfl rfl (Nat.le_of_ble_eq_true rfl) dX10_laysReach_137 (fun _ e => m_X10_has v5 v8 h _ _ e) (fun r9 => ?_)
    refine Y.ifeq 155 (by decide) dX10_laysReach_140 ?_ ?_
    · exact y_X10_laysReach_J155 hkH hkE244 x0 x1 x2 r9.2
    · refine Y.op (pc' := 144) (fun _ => X.aloadn rfl dX10_laysReach_143) ?_
      refine Y.getR fd_X10_57 rfl dX10_laysReach_144 (fun v10 => ?_)
      refine Y.op (pc' := 148) (fun _ => X.ic ki_0 dX10_laysReach_147) ?_
      refine Y.op (pc' := 149) (fun _ => X.dup2 rfl rfl dX10_laysReach_148) ?_
      refine Y.aldI dX10_laysReach_149 (fun v11 => ?_)
      refine Y.op (pc' := 151) (fun _ => X.ic ki_1 dX10_laysReach_150) ?_
      refine Y.op (pc' := 152) (fun _ => X.iloadn rfl dX10_laysReach_151) ?_
      refine Y.op (pc' := 153) (fun _ => X.ishl dX10_laysReach_152) ?_
      refine Y.op (pc' := 154) (fun _ => X.ior dX10_laysReach_153) ?_
      refine Y.astI dX10_laysReach_154 (fun h12 => ?_)
      exact y_X10_laysReach_J155 hkH hkE244 x0 x1 x2 h12
def f_X10_laysReach_L60 (kE244 : Nat → Int32 → xH → Option (xH)) : Nat → Nat → Int32 → Int32 → xH → Option (xH)
  | 0 => fun _ _ _ _ => none
  | n + 1 => fun x0 x1 x2 h =>
    (gR h 10 x0 9).bind fun v1 =>
    (aR 102 h v1 (0 : Int32)).bind fun v2 =>
    (aI h v2 (0 : Int32)).bind fun v3 =>
    if x2 ≥ v3 then
      kE244 x0 x1 h
    else
      (gR h 10 x0 33).bind fun v4 =>
      (aI h v4 (0 : Int32)).bind fun v5 =>
      (f_X10_has v5 x2 h).bind fun r6 =>
      if r6.1 = (0 : Int32) then
        f_X10_laysReach_J111 (f_X10_laysReach_L60 kE244 n) kE244 x0 x1 x2 r6.2
      else
        (gR r6.2 10 x0 33).bind fun v7 =>
        (aI r6.2 v7 (1 : Int32)).bind fun v8 =>
        (gR r6.2 10 x0 10).bind fun v9 =>
        (aR 102 r6.2 v9 (0 : Int32)).bind fun v10 =>
        (aI r6.2 v10 x2).bind fun v11 =>
        (gR r6.2 10 x0 9).bind fun v12 =>
        (aR 102 r6.2 v12 (0 : Int32)).bind fun v13 =>
        (aI r6.2 v13 (4 : Int32)).bind fun v14 =>
        (sI r6.2 v7 (1 : Int32) (v8 ||| (v11 &&& v14))).bind fun h15 =>
        f_X10_laysReach_J111 (f_X10_laysReach_L60 kE244 n) kE244 x0 x1 x2 h15
theorem y_X10_laysReach_L60 {g : xG} {h0 : xH} {cl : Bool} {kE244 : Nat → Int32 → xH → Option (xH)} (hkE244 : ∀ (x0 : Nat) (x1 : Int32) (h : xH), Y g DX10_laysReach h0 cl iV (kE244 x0 x1 h) 244 [some (.ref x0), some (.int x1), none] [] h) : ∀ (n : Nat) (x0 : Nat) (x1 : Int32) (x2 : Int32) (h : xH), Y g DX10_laysReach h0 cl iV (f_X10_laysReach_L60 kE244 n x0 x1 x2 h) 60 [some (.ref x0), some (.int x1), some (.int x2)] [] h := by
  intro n
  induction n with
  | zero => intro x0 x1 x2 h; exact Y.nothing
  | succ n ih =>
    intro x0 x1 x2 h
    unfold f_X10_laysReach_L60
    refine Y.op (pc' := 61) (fun _ => X.iloadn rfl dX10_laysReach_60) ?_
    refine Y.op (pc' := 62) (fun _ => X.aloadn rfl dX10_laysReach_61) ?_
    refine Y.getR fd_X10_22 rfl dX10_laysReach_62 (fun v1 => ?_)
    refine Y.op (pc' := 66) (fun _ => X.ic ki_0 dX10_laysReach_65) ?_
    refine Y.aldR 102 (by decide) (by decide) dX10_laysReach_66 (fun v2 => ?_)
    refine Y.op (pc' := 68) (fun _ => X.ic ki_0 dX10_laysReach_67) ?_
    refine Y.aldI dX10_laysReach_68 (fun v3 => ?_)
    refine Y.cmpge 244 (by decide) dX10_laysReach_69 ?_ ?_
    · exact Y.fg (hkE244 x0 x1 h) (And.intro rfl (And.intro rfl trivial))
    · refine Y.op (pc' := 73) (fun _ => X.aloadn rfl dX10_laysReach_72) ?_
      refine Y.getR fd_X10_57 rfl dX10_laysReach_73 (fun v4 => ?_)
      refine Y.op (pc' := 77) (fun _ => X.ic ki_0 dX10_laysReach_76) ?_
      refine Y.aldI dX10_laysReach_77 (fun v5 => ?_)
      refine Y.op (pc' := 79) (fun _ => X.iloadn rfl dX10_laysReach_78) ?_
      refine Y.callSi (As := [.int v5, .int x2]) lk_X10_182 rfl cal_X10_has sta_X10_has (Nat.le_of_ble_eq_true rfl) rfl rfl (Nat.le_of_ble_eq_true rfl) dX10_laysReach_79 (fun _ e => m_X10_has v5 x2 h _ _ e) (fun r6 => ?_)
      refine Y.ifeq 111 (by decide) dX10_laysReach_82 ?_ ?_
      · exact y_X10_laysReach_J111 ih hkE244 x0 x1 x2 r6.2
      · refine Y.op (pc' := 86) (fun _ => X.aloadn rfl dX10_laysReach_85) ?_
        refine Y.getR fd_X10_57 rfl dX10_laysReach_86 (fun v7 => ?_)
        refine Y.op (pc' := 90) (fun _ => X.ic ki_1 dX10_laysReach_89) ?_
        refine Y.op (pc' := 91) (fun _ => X.dup2 rfl rfl dX10_laysReach_90) ?_
        refine Y.aldI dX10_laysReach_91 (fun v8 => ?_)
        refine Y.op (pc' := 93) (fun _ => X.aloadn rfl dX10_laysReach_92) ?_
        refine Y.getR fd_X10_25 rfl dX10_laysReach_93 (fun v9 => ?_)
        refine Y.op (pc' := 97) (fun _ => X.ic ki_0 dX10_laysReach_96) ?_
        refine Y.aldR 102 (by decide) (by decide) dX10_laysReach_97 (fun v10 => ?_)
        refine Y.op (pc' := 99) (fun _ => X.iloadn rfl dX10_laysReach_98) ?_
        refine Y.aldI dX10_laysReach_99 (fun v11 => ?_)
        refine Y.op (pc' := 101) (fun _ => X.aloadn rfl dX10_laysReach_100) ?_
        refine Y.getR fd_X10_22 rfl dX10_laysReach_101 (fun v12 => ?_)
        refine Y.op (pc' := 105) (fun _ => X.ic ki_0 dX10_laysReach_104) ?_
        refine Y.aldR 102 (by decide) (by decide) dX10_laysReach_105 (fun v13 => ?_)
        refine Y.op (pc' := 107) (fun _ => X.ic ki_4 dX10_laysReach_106) ?_
        refine Y.aldI dX10_laysReach_107 (fun v14 => ?_)
        refine Y.op (pc' := 109) (fun _ => X.iand dX10_laysReach_108) ?_
        refine Y.op (pc' := 110) (fun _ => X.ior dX10_laysReach_109) ?_
        refine Y.astI dX10_laysReach_110 (fun h15 => ?_)
        exact y_X10_laysReach_J111 ih hkE244 x0 x1 x2 h15
def f_X10_laysReach_L52 (kE250 : Nat → xH → Option (xH)) : Nat → Nat → Int32 → xH → Option (xH)
  | 0 => fun _ _ _ => none
  | n + 1 => fun x0 x1 h =>
    if x1 ≥ (24 : Int32) then
      kE250 x0 h
    else
      f_X10_laysReach_L60 (f_X10_laysReach_J244 (f_X10_laysReach_L52 kE250 n) kE250) 5000 x0 x1 (0 : Int32) h
theorem y_X10_laysReach_L52 {g : xG} {h0 : xH} {cl : Bool} {kE250 : Nat → xH → Option (xH)} (hkE250 : ∀ (x0 : Nat) (h : xH), Y g DX10_laysReach h0 cl iV (kE250 x0 h) 250 [some (.ref x0), none, none] [] h) : ∀ (n : Nat) (x0 : Nat) (x1 : Int32) (h : xH), Y g DX10_laysReach h0 cl iV (f_X10_laysReach_L52 kE250 n x0 x1 h) 52 [some (.ref x0), some (.int x1), none] [] h := by
  intro n
  induction n with
  | zero => intro x0 x1 h; exact Y.nothing
  | succ n ih =>
    intro x0 x1 h
    unfold f_X10_laysReach_L52
    refine Y.op (pc' := 53) (fun _ => X.iloadn rfl dX10_laysReach_52) ?_
    refine Y.op (pc' := 55) (fun _ => X.bp kb_24 dX10_laysReach_53) ?_
    refine Y.cmpge 250 (by decide) dX10_laysReach_55 ?_ ?_
    · exact Y.fg (hkE250 x0 h) (And.intro rfl trivial)
    · refine Y.op (pc' := 59) (fun _ => X.ic ki_0 dX10_laysReach_58) ?_
      refine Y.op (pc' := 60) (loc' := [some (.ref x0), some (.int x1), some (.int (0 : Int32))]) (fun _ => X.istoren (Nat.le_of_ble_eq_true rfl) rfl dX10_laysReach_59) ?_
      exact y_X10_laysReach_L60 (y_X10_laysReach_J244 ih hkE250) 5000 x0 x1 (0 : Int32) h
def f_X10_laysReach (a0 : Nat) (h : xH) : Option (xH) :=
  (vc h 10 a0 (f_X10_copies a0 (0 : Int32) (17 : Int32) h)).bind fun h1 =>
  (vc h1 10 a0 (f_X10_settles a0 (12 : Int32) h1)).bind fun r2 =>
  (gR r2.2 10 a0 33).bind fun v3 =>
  (vc r2.2 10 a0 (f_X10_freeOf a0 (0 : Int32) r2.2)).bind fun r4 =>
  (sI r4.2 v3 (0 : Int32) r4.1).bind fun h5 =>
  (gR h5 10 a0 33).bind fun v6 =>
  (sI h5 v6 (1 : Int32) (0 : Int32)).bind fun h7 =>
  (gR h7 10 a0 34).bind fun v8 =>
  (vc h7 10 a0 (f_X10_freeOf a0 (1 : Int32) h7)).bind fun r9 =>
  (sI r9.2 v8 (1 : Int32) r9.1).bind fun h10 =>
  (gR h10 10 a0 34).bind fun v11 =>
  (sI h10 v11 (0 : Int32) (0 : Int32)).bind fun h12 =>
  f_X10_laysReach_L52 (f_X10_laysReach_J250) 5000 a0 (0 : Int32) h12
theorem y_X10_laysReach {g : xG} {h0 : xH} {cl : Bool} (a0 : Nat) (h : xH) : Y g DX10_laysReach h0 cl iV (f_X10_laysReach a0 h) 0 [some (.ref a0), none, none] [] h := by
  unfold f_X10_laysReach
  refine Y.op (pc' := 1) (fun _ => X.aloadn rfl dX10_laysReach_0) ?_
  refine Y.op (pc' := 2) (fun _ => X.ic ki_0 dX10_laysReach_1) ?_
  refine Y.op (pc' := 4) (fun _ => X.bp kb_17 dX10_laysReach_2) ?_
  refine Y.callVv (As := [.int (0 : Int32), .int (17 : Int32)]) lk_X10_228 rfl cal_X10_copies vir_X10_copies (Nat.le_of_ble_eq_true rfl) (Nat.le_of_ble_eq_true rfl) rfl rfl rfl (Nat.le_of_ble_eq_true rfl) dX10_laysReach_4 (fun _ e => m_X10_copies a0 (0 : Int32) (17 : Int32) h _ _ e) (fun h1 => ?_)
  refine Y.op (pc' := 8) (fun _ => X.aloadn rfl dX10_laysReach_7) ?_
  refine Y.op (pc' := 10) (fun _ => X.bp kb_12 dX10_laysReach_8) ?_
  refine Y.callVi (As := [.int (12 : Int32)]) lk_X10_267 rfl cal_X10_settles vir_X10_settles (Nat.le_of_ble_eq_true rfl) (Nat.le_of_ble_eq_true rfl) rfl rfl rfl (Nat.le_of_ble_eq_true rfl) dX10_laysReach_10 (fun _ e => m_X10_settles a0 (12 : Int32) h1 _ _ e) (fun r2 => ?_)
  refine Y.op (pc' := 14) (fun _ => X.pop rfl dX10_laysReach_13) ?_
  refine Y.op (pc' := 15) (fun _ => X.aloadn rfl dX10_laysReach_14) ?_
  refine Y.getR fd_X10_57 rfl dX10_laysReach_15 (fun v3 => ?_)
  refine Y.op (pc' := 19) (fun _ => X.ic ki_0 dX10_laysReach_18) ?_
  refine Y.op (pc' := 20) (fun _ => X.aloadn rfl dX10_laysReach_19) ?_
  refine Y.op (pc' := 21) (fun _ => X.ic ki_0 dX10_laysReach_20) ?_
  refine Y.callVi (As := [.int (0 : Int32)]) lk_X10_276 rfl cal_X10_freeOf vir_X10_freeOf (Nat.le_of_ble_eq_true rfl) (Nat.le_of_ble_eq_true rfl) rfl rfl rfl (Nat.le_of_ble_eq_true rfl) dX10_laysReach_21 (fun _ e => m_X10_freeOf a0 (0 : Int32) r2.2 _ _ e) (fun r4 => ?_)
  refine Y.astI dX10_laysReach_24 (fun h5 => ?_)
  refine Y.op (pc' := 26) (fun _ => X.aloadn rfl dX10_laysReach_25) ?_
  refine Y.getR fd_X10_57 rfl dX10_laysReach_26 (fun v6 => ?_)
  refine Y.op (pc' := 30) (fun _ => X.ic ki_1 dX10_laysReach_29) ?_
  refine Y.op (pc' := 31) (fun _ => X.ic ki_0 dX10_laysReach_30) ?_
  refine Y.astI dX10_laysReach_31 (fun h7 => ?_)
  refine Y.op (pc' := 33) (fun _ => X.aloadn rfl dX10_laysReach_32) ?_
  refine Y.getR fd_X10_60 rfl dX10_laysReach_33 (fun v8 => ?_)
  refine Y.op (pc' := 37) (fun _ => X.ic ki_1 dX10_laysReach_36) ?_
  refine Y.op (pc' := 38) (fun _ => X.aloadn rfl dX10_laysReach_37) ?_
  refine Y.op (pc' := 39) (fun _ => X.ic ki_1 dX10_laysReach_38) ?_
  refine Y.callVi (As := [.int (1 : Int32)]) lk_X10_276 rfl cal_X10_freeOf vir_X10_freeOf (Nat.le_of_ble_eq_true rfl) (Nat.le_of_ble_eq_true rfl) rfl rfl rfl (Nat.le_of_ble_eq_true rfl) dX10_laysReach_39 (fun _ e => m_X10_freeOf a0 (1 : Int32) h7 _ _ e) (fun r9 => ?_)
  refine Y.astI dX10_laysReach_42 (fun h10 => ?_)
  refine Y.op (pc' := 44) (fun _ => X.aloadn rfl dX10_laysReach_43) ?_
  refine Y.getR fd_X10_60 rfl dX10_laysReach_44 (fun v11 => ?_)
  refine Y.op (pc' := 48) (fun _ => X.ic ki_0 dX10_laysReach_47) ?_
  refine Y.op (pc' := 49) (fun _ => X.ic ki_0 dX10_laysReach_48) ?_
  refine Y.astI dX10_laysReach_49 (fun h12 => ?_)
  refine Y.op (pc' := 51) (fun _ => X.ic ki_0 dX10_laysReach_50) ?_
  refine Y.op (pc' := 52) (loc' := [some (.ref a0), some (.int (0 : Int32)), none]) (fun _ => X.istoren (Nat.le_of_ble_eq_true rfl) rfl dX10_laysReach_51) ?_
  exact y_X10_laysReach_L52 (y_X10_laysReach_J250) 5000 a0 (0 : Int32) h12
theorem m_X10_laysReach {g : xG} (a0 : Nat) (h : xH) (cl : Bool) (r : xH) (e : f_X10_laysReach a0 h = some r) : XM g DX10_laysReach [.ref a0] h cl (iV r) := YM.of rfl rfl (Nat.le_of_ble_eq_true rfl) (y_X10_laysReach a0 h) e
def f_X10_reached_J20 (x0 : Nat) (x1 : Int32) (s0 : Nat) (s1 : Int32) (h : xH) : Option (Int32 × xH) :=
  (vc h 10 s0 (f_X10_bad s0 s1 (1 : Int32) (0 : Int32) h)).bind fun r1 =>
  if r1.1 = (0 : Int32) then
    (vc r1.2 10 x0 (f_X10_laysReach x0 r1.2)).bind fun h2 =>
    (gR h2 10 x0 33).bind fun v3 =>
    (aI h2 v3 x1).bind fun v4 =>
    some (v4, h2)
  else
    some ((0 : Int32), r1.2)
theorem y_X10_reached_J20 {g : xG} {h0 : xH} {cl : Bool} (x0 : Nat) (x1 : Int32) (s0 : Nat) (s1 : Int32) (h : xH) : Y g DX10_reached h0 cl iI (f_X10_reached_J20 x0 x1 s0 s1 h) 20 [some (.ref x0), some (.int x1)] [.int s1, .ref s0] h := by
  unfold f_X10_reached_J20
  refine Y.op (pc' := 21) (fun _ => X.ic ki_1 dX10_reached_20) ?_
  refine Y.op (pc' := 22) (fun _ => X.ic ki_0 dX10_reached_21) ?_
  refine Y.callVi (As := [.int s1, .int (1 : Int32), .int (0 : Int32)]) lk_X10_217 rfl cal_X10_bad vir_X10_bad (Nat.le_of_ble_eq_true rfl) (Nat.le_of_ble_eq_true rfl) rfl rfl rfl (Nat.le_of_ble_eq_true rfl) dX10_reached_22 (fun _ e => m_X10_bad s0 s1 (1 : Int32) (0 : Int32) h _ _ e) (fun r1 => ?_)
  refine Y.ifeq 30 (by decide) dX10_reached_25 ?_ ?_
  · refine Y.op (pc' := 31) (fun _ => X.aloadn rfl dX10_reached_30) ?_
    refine Y.callVv (As := []) lk_X10_359 rfl cal_X10_laysReach vir_X10_laysReach (Nat.le_of_ble_eq_true rfl) (Nat.le_of_ble_eq_true rfl) rfl rfl rfl (Nat.le_of_ble_eq_true rfl) dX10_reached_31 (fun _ e => m_X10_laysReach x0 r1.2 _ _ e) (fun h2 => ?_)
    refine Y.op (pc' := 35) (fun _ => X.aloadn rfl dX10_reached_34) ?_
    refine Y.getR fd_X10_57 rfl dX10_reached_35 (fun v3 => ?_)
    refine Y.op (pc' := 39) (fun _ => X.iloadn rfl dX10_reached_38) ?_
    refine Y.aldI dX10_reached_39 (fun v4 => ?_)
    exact Y.ireturn rfl dX10_reached_40
  · refine Y.op (pc' := 29) (fun _ => X.ic ki_0 dX10_reached_28) ?_
    exact Y.ireturn rfl dX10_reached_29
def f_X10_reached (a0 : Nat) (p1 : Int32) (h : xH) : Option (Int32 × xH) :=
  (pI h 10 a0 0 (0 : Int32)).bind fun h1 =>
  (f_X10_in p1 (0 : Int32) (1 : Int32) h1).bind fun r2 =>
  if r2.1 = (0 : Int32) then
    f_X10_reached_J20 a0 p1 a0 (1 : Int32) r2.2
  else
    f_X10_reached_J20 a0 p1 a0 (0 : Int32) r2.2
theorem y_X10_reached {g : xG} {h0 : xH} {cl : Bool} (a0 : Nat) (p1 : Int32) (h : xH) : Y g DX10_reached h0 cl iI (f_X10_reached a0 p1 h) 0 [some (.ref a0), some (.int p1)] [] h := by
  unfold f_X10_reached
  refine Y.op (pc' := 1) (fun _ => X.aloadn rfl dX10_reached_0) ?_
  refine Y.op (pc' := 2) (fun _ => X.ic ki_0 dX10_reached_1) ?_
  refine Y.putI fd_X10_82 rfl dX10_reached_2 (fun h1 => ?_)
  refine Y.op (pc' := 6) (fun _ => X.aloadn rfl dX10_reached_5) ?_
  refine Y.op (pc' := 7) (fun _ => X.iloadn rfl dX10_reached_6) ?_
  refine Y.op (pc' := 8) (fun _ => X.ic ki_0 dX10_reached_7) ?_
  refine Y.op (pc' := 9) (fun _ => X.ic ki_1 dX10_reached_8) ?_
  refine Y.callSi (As := [.int p1, .int (0 : Int32), .int (1 : Int32)]) lk_X10_127 rfl cal_X10_in sta_X10_in (Nat.le_of_ble_eq_true rfl) rfl rfl (Nat.le_of_ble_eq_true rfl) dX10_reached_9 (fun _ e => m_X10_in p1 (0 : Int32) (1 : Int32) h1 _ _ e) (fun r2 => ?_)
  refine Y.ifne 19 (by decide) dX10_reached_12 ?_ ?_
  · refine Y.op (pc' := 20) (fun _ => X.ic ki_0 dX10_reached_19) ?_
    exact y_X10_reached_J20 a0 p1 a0 (0 : Int32) r2.2
  · refine Y.op (pc' := 16) (fun _ => X.ic ki_1 dX10_reached_15) ?_
    refine Y.op (pc' := 20) (fun _ => X.goto 20 (by decide) dX10_reached_16) ?_
    exact y_X10_reached_J20 a0 p1 a0 (1 : Int32) r2.2
theorem m_X10_reached {g : xG} (a0 : Nat) (p1 : Int32) (h : xH) (cl : Bool) (r : Int32 × xH) (e : f_X10_reached a0 p1 h = some r) : XM g DX10_reached [.ref a0, .int p1] h cl (iI r) := YM.of rfl rfl (Nat.le_of_ble_eq_true rfl) (y_X10_reached a0 p1 h) e
def f_X10_cover_J64 (s0 : Int32) (h : xH) : Option (Int32 × xH) :=
  some (s0, h)
theorem y_X10_cover_J64 {g : xG} {h0 : xH} {cl : Bool} (s0 : Int32) (h : xH) : Y g DX10_cover h0 cl iI (f_X10_cover_J64 s0 h) 64 [none, none] [.int s0] h := by
  unfold f_X10_cover_J64
  exact Y.ireturn rfl dX10_cover_64
def f_X10_cover_J20 (x0 : Nat) (x1 : Int32) (s0 : Nat) (s1 : Int32) (h : xH) : Option (Int32 × xH) :=
  (vc h 10 s0 (f_X10_bad s0 s1 (1 : Int32) (0 : Int32) h)).bind fun r1 =>
  if r1.1 = (0 : Int32) then
    (vc r1.2 10 x0 (f_X10_laysReach x0 r1.2)).bind fun h2 =>
    if x1 = (0 : Int32) then
      (gR h2 10 x0 9).bind fun v5 =>
      (aR 102 h2 v5 (0 : Int32)).bind fun v6 =>
      (aI h2 v6 (3 : Int32)).bind fun v7 =>
      (gR h2 10 x0 33).bind fun v8 =>
      (aI h2 v8 (0 : Int32)).bind fun v9 =>
      f_X10_cover_J64 (v7 &&& (v9 ^^^ (-1 : Int32))) h2
    else
      (gR h2 10 x0 33).bind fun v3 =>
      (aI h2 v3 (1 : Int32)).bind fun v4 =>
      f_X10_cover_J64 v4 h2
  else
    some ((0 : Int32), r1.2)
theorem y_X10_cover_J20 {g : xG} {h0 : xH} {cl : Bool} (x0 : Nat) (x1 : Int32) (s0 : Nat) (s1 : Int32) (h : xH) : Y g DX10_cover h0 cl iI (f_X10_cover_J20 x0 x1 s0 s1 h) 20 [some (.ref x0), some (.int x1)] [.int s1, .ref s0] h := by
  unfold f_X10_cover_J20
  refine Y.op (pc' := 21) (fun _ => X.ic ki_1 dX10_cover_20) ?_
  refine Y.op (pc' := 22) (fun _ => X.ic ki_0 dX10_cover_21) ?_
  refine Y.callVi (As := [.int s1, .int (1 : Int32), .int (0 : Int32)]) lk_X10_217 rfl cal_X10_bad vir_X10_bad (Nat.le_of_ble_eq_true rfl) (Nat.le_of_ble_eq_true rfl) rfl rfl rfl (Nat.le_of_ble_eq_true rfl) dX10_cover_22 (fun _ e => m_X10_bad s0 s1 (1 : Int32) (0 : Int32) h _ _ e) (fun r1 => ?_)
  refine Y.ifeq 30 (by decide) dX10_cover_25 ?_ ?_
  · refine Y.op (pc' := 31) (fun _ => X.aloadn rfl dX10_cover_30) ?_
    refine Y.callVv (As := []) lk_X10_359 rfl cal_X10_laysReach vir_X10_laysReach (Nat.le_of_ble_eq_true rfl) (Nat.le_of_ble_eq_true rfl) rfl rfl rfl (Nat.le_of_ble_eq_true rfl) dX10_cover_31 (fun _ e => m_X10_laysReach x0 r1.2 _ _ e) (fun h2 => ?_)
    refine Y.op (pc' := 35) (fun _ => X.iloadn rfl dX10_cover_34) ?_
    refine Y.ifne 58 (by decide) dX10_cover_35 ?_ ?_
    · refine Y.op (pc' := 59) (fun _ => X.aloadn rfl dX10_cover_58) ?_
      refine Y.getR fd_X10_57 rfl dX10_cover_59 (fun v3 => ?_)
      refine Y.op (pc' := 63) (fun _ => X.ic ki_1 dX10_cover_62) ?_
      refine Y.aldI dX10_cover_63 (fun v4 => ?_)
      exact Y.fg (y_X10_cover_J64 v4 h2) trivial
    · refine Y.op (pc' := 39) (fun _ => X.aloadn rfl dX10_cover_38) ?_
      refine Y.getR fd_X10_22 rfl dX10_cover_39 (fun v5 => ?_)
      refine Y.op (pc' := 43) (fun _ => X.ic ki_0 dX10_cover_42) ?_
      refine Y.aldR 102 (by decide) (by decide) dX10_cover_43 (fun v6 => ?_)
      refine Y.op (pc' := 45) (fun _ => X.ic ki_3 dX10_cover_44) ?_
      refine Y.aldI dX10_cover_45 (fun v7 => ?_)
      refine Y.op (pc' := 47) (fun _ => X.aloadn rfl dX10_cover_46) ?_
      refine Y.getR fd_X10_57 rfl dX10_cover_47 (fun v8 => ?_)
      refine Y.op (pc' := 51) (fun _ => X.ic ki_0 dX10_cover_50) ?_
      refine Y.aldI dX10_cover_51 (fun v9 => ?_)
      refine Y.op (pc' := 53) (fun _ => X.ic ki_m1 dX10_cover_52) ?_
      refine Y.op (pc' := 54) (fun _ => X.ixor dX10_cover_53) ?_
      refine Y.op (pc' := 55) (fun _ => X.iand dX10_cover_54) ?_
      refine Y.op (pc' := 64) (fun _ => X.goto 64 (by decide) dX10_cover_55) ?_
      exact Y.fg (y_X10_cover_J64 (v7 &&& (v9 ^^^ (-1 : Int32))) h2) trivial
  · refine Y.op (pc' := 29) (fun _ => X.ic ki_0 dX10_cover_28) ?_
    exact Y.ireturn rfl dX10_cover_29
def f_X10_cover (a0 : Nat) (p1 : Int32) (h : xH) : Option (Int32 × xH) :=
  (pI h 10 a0 0 (0 : Int32)).bind fun h1 =>
  (f_X10_in p1 (0 : Int32) (1 : Int32) h1).bind fun r2 =>
  if r2.1 = (0 : Int32) then
    f_X10_cover_J20 a0 p1 a0 (1 : Int32) r2.2
  else
    f_X10_cover_J20 a0 p1 a0 (0 : Int32) r2.2
theorem y_X10_cover {g : xG} {h0 : xH} {cl : Bool} (a0 : Nat) (p1 : Int32) (h : xH) : Y g DX10_cover h0 cl iI (f_X10_cover a0 p1 h) 0 [some (.ref a0), some (.int p1)] [] h := by
  unfold f_X10_cover
  refine Y.op (pc' := 1) (fun _ => X.aloadn rfl dX10_cover_0) ?_
  refine Y.op (pc' := 2) (fun _ => X.ic ki_0 dX10_cover_1) ?_
  refine Y.putI fd_X10_82 rfl dX10_cover_2 (fun h1 => ?_)
  refine Y.op (pc' := 6) (fun _ => X.aloadn rfl dX10_cover_5) ?_
  refine Y.op (pc' := 7) (fun _ => X.iloadn rfl dX10_cover_6) ?_
  refine Y.op (pc' := 8) (fun _ => X.ic ki_0 dX10_cover_7) ?_
  refine Y.op (pc' := 9) (fun _ => X.ic ki_1 dX10_cover_8) ?_
  refine Y.callSi (As := [.int p1, .int (0 : Int32), .int (1 : Int32)]) lk_X10_127 rfl cal_X10_in sta_X10_in (Nat.le_of_ble_eq_true rfl) rfl rfl (Nat.le_of_ble_eq_true rfl) dX10_cover_9 (fun _ e => m_X10_in p1 (0 : Int32) (1 : Int32) h1 _ _ e) (fun r2 => ?_)
  refine Y.ifne 19 (by decide) dX10_cover_12 ?_ ?_
  · refine Y.op (pc' := 20) (fun _ => X.ic ki_0 dX10_cover_19) ?_
    exact y_X10_cover_J20 a0 p1 a0 (0 : Int32) r2.2
  · refine Y.op (pc' := 16) (fun _ => X.ic ki_1 dX10_cover_15) ?_
    refine Y.op (pc' := 20) (fun _ => X.goto 20 (by decide) dX10_cover_16) ?_
    exact y_X10_cover_J20 a0 p1 a0 (1 : Int32) r2.2
theorem m_X10_cover {g : xG} (a0 : Nat) (p1 : Int32) (h : xH) (cl : Bool) (r : Int32 × xH) (e : f_X10_cover a0 p1 h = some r) : XM g DX10_cover [.ref a0, .int p1] h cl (iI r) := YM.of rfl rfl (Nat.le_of_ble_eq_true rfl) (y_X10_cover a0 p1 h) e
def f_X10_without_J9 (x0 : Nat) (x2 : Int32) (s0 : Int32) (h : xH) : Option (Int32 × xH) :=
  (gR h 10 x0 9).bind fun v1 =>
  (aR 102 h v1 (0 : Int32)).bind fun v2 =>
  (aI h v2 s0).bind fun v3 =>
  (gR h 10 x0 9).bind fun v4 =>
  (aR 102 h v4 (0 : Int32)).bind fun v5 =>
  (aI h v5 s0).bind fun v6 =>
  (sI h v5 s0 (v6 &&& (((1 : Int32) <<< (x2 &&& 31)) ^^^ (-1 : Int32)))).bind fun h7 =>
  (vc h7 10 x0 (f_X10_nu x0 h7)).bind fun r8 =>
  (gR r8.2 10 x0 9).bind fun v9 =>
  (aR 102 r8.2 v9 (0 : Int32)).bind fun v10 =>
  (sI r8.2 v10 s0 v3).bind fun h11 =>
  some (r8.1, h11)
theorem y_X10_without_J9 {g : xG} {h0 : xH} {cl : Bool} (x0 : Nat) (x2 : Int32) (s0 : Int32) (h : xH) : Y g DX10_without h0 cl iI (f_X10_without_J9 x0 x2 s0 h) 9 [some (.ref x0), none, some (.int x2), none, none, none] [.int s0] h := by
  unfold f_X10_without_J9
  refine Y.op (pc' := 10) (loc' := [some (.ref x0), none, some (.int x2), some (.int s0), none, none]) (fun _ => X.istoren (Nat.le_of_ble_eq_true rfl) rfl dX10_without_9) ?_
  refine Y.op (pc' := 11) (fun _ => X.aloadn rfl dX10_without_10) ?_
  refine Y.getR fd_X10_22 rfl dX10_without_11 (fun v1 => ?_)
  refine Y.op (pc' := 15) (fun _ => X.ic ki_0 dX10_without_14) ?_
  refine Y.aldR 102 (by decide) (by decide) dX10_without_15 (fun v2 => ?_)
  refine Y.op (pc' := 17) (fun _ => X.iloadn rfl dX10_without_16) ?_
  refine Y.aldI dX10_without_17 (fun v3 => ?_)
  refine Y.op (pc' := 20) (loc' := [some (.ref x0), none, some (.int x2), some (.int s0), some (.int v3), none]) (fun _ => X.istore (Nat.le_of_ble_eq_true rfl) rfl dX10_without_18) ?_
  refine Y.op (pc' := 21) (fun _ => X.aloadn rfl dX10_without_20) ?_
  refine Y.getR fd_X10_22 rfl dX10_without_21 (fun v4 => ?_)
  refine Y.op (pc' := 25) (fun _ => X.ic ki_0 dX10_without_24) ?_
  refine Y.aldR 102 (by decide) (by decide) dX10_without_25 (fun v5 => ?_)
  refine Y.op (pc' := 27) (fun _ => X.iloadn rfl dX10_without_26) ?_
  refine Y.op (pc' := 28) (fun _ => X.dup2 rfl rfl dX10_without_27) ?_
  refine Y.aldI dX10_without_28 (fun v6 => ?_)
  refine Y.op (pc' := 30) (fun _ => X.ic ki_1 dX10_without_29) ?_
  refine Y.op (pc' := 31) (fun _ => X.iloadn rfl dX10_without_30) ?_
  refine Y.op (pc' := 32) (fun _ => X.ishl dX10_without_31) ?_
  refine Y.op (pc' := 33) (fun _ => X.ic ki_m1 dX10_without_32) ?_
  refine Y.op (pc' := 34) (fun _ => X.ixor dX10_without_33) ?_
  refine Y.op (pc' := 35) (fun _ => X.iand dX10_without_34) ?_
  refine Y.astI dX10_without_35 (fun h7 => ?_)
  refine Y.op (pc' := 37) (fun _ => X.aloadn rfl dX10_without_36) ?_
  refine Y.callVi (As := []) lk_X10_327 rfl cal_X10_nu vir_X10_nu (Nat.le_of_ble_eq_true rfl) (Nat.le_of_ble_eq_true rfl) rfl rfl rfl (Nat.le_of_ble_eq_true rfl) dX10_without_37 (fun _ e => m_X10_nu x0 h7 _ _ e) (fun r8 => ?_)
  refine Y.op (pc' := 42) (loc' := [some (.ref x0), none, some (.int x2), some (.int s0), some (.int v3), some (.int r8.1)]) (fun _ => X.istore (Nat.le_of_ble_eq_true rfl) rfl dX10_without_40) ?_
  refine Y.op (pc' := 43) (fun _ => X.aloadn rfl dX10_without_42) ?_
  refine Y.getR fd_X10_22 rfl dX10_without_43 (fun v9 => ?_)
  refine Y.op (pc' := 47) (fun _ => X.ic ki_0 dX10_without_46) ?_
  refine Y.aldR 102 (by decide) (by decide) dX10_without_47 (fun v10 => ?_)
  refine Y.op (pc' := 49) (fun _ => X.iloadn rfl dX10_without_48) ?_
  refine Y.op (pc' := 51) (fun _ => X.iload rfl dX10_without_49) ?_
  refine Y.astI dX10_without_51 (fun h11 => ?_)
  refine Y.op (pc' := 54) (fun _ => X.iload rfl dX10_without_52) ?_
  exact Y.ireturn rfl dX10_without_54
def f_X10_without (a0 : Nat) (p1 : Int32) (p2 : Int32) (h : xH) : Option (Int32 × xH) :=
  if p1 = (0 : Int32) then
    f_X10_without_J9 a0 p2 (3 : Int32) h
  else
    f_X10_without_J9 a0 p2 (4 : Int32) h
theorem y_X10_without {g : xG} {h0 : xH} {cl : Bool} (a0 : Nat) (p1 : Int32) (p2 : Int32) (h : xH) : Y g DX10_without h0 cl iI (f_X10_without a0 p1 p2 h) 0 [some (.ref a0), some (.int p1), some (.int p2), none, none, none] [] h := by
  unfold f_X10_without
  refine Y.op (pc' := 1) (fun _ => X.iloadn rfl dX10_without_0) ?_
  refine Y.ifne 8 (by decide) dX10_without_1 ?_ ?_
  · refine Y.op (pc' := 9) (fun _ => X.ic ki_4 dX10_without_8) ?_
    exact Y.fg (y_X10_without_J9 a0 p2 (4 : Int32) h) (And.intro rfl (And.intro rfl trivial))
  · refine Y.op (pc' := 5) (fun _ => X.ic ki_3 dX10_without_4) ?_
    refine Y.op (pc' := 9) (fun _ => X.goto 9 (by decide) dX10_without_5) ?_
    exact Y.fg (y_X10_without_J9 a0 p2 (3 : Int32) h) (And.intro rfl (And.intro rfl trivial))
theorem m_X10_without {g : xG} (a0 : Nat) (p1 : Int32) (p2 : Int32) (h : xH) (cl : Bool) (r : Int32 × xH) (e : f_X10_without a0 p1 p2 h = some r) : XM g DX10_without [.ref a0, .int p1, .int p2] h cl (iI r) := YM.of rfl rfl (Nat.le_of_ble_eq_true rfl) (y_X10_without a0 p1 p2 h) e
def f_X10_partOf_J50 (s0 : Int32) (h : xH) : Option (Int32 × xH) :=
  some (s0, h)
theorem y_X10_partOf_J50 {g : xG} {h0 : xH} {cl : Bool} (s0 : Int32) (h : xH) : Y g DX10_partOf h0 cl iI (f_X10_partOf_J50 s0 h) 50 [none, none, none] [.int s0] h := by
  unfold f_X10_partOf_J50
  exact Y.ireturn rfl dX10_partOf_50
def f_X10_partOf (a0 : Nat) (p1 : Int32) (p2 : Int32) (h : xH) : Option (Int32 × xH) :=
  (vc h 10 a0 (f_X10_isThere a0 p1 p2 h)).bind fun r1 =>
  if r1.1 = (0 : Int32) then
    some ((0 : Int32), r1.2)
  else
    (vc r1.2 10 a0 (f_X10_laysReach a0 r1.2)).bind fun h2 =>
    (gR h2 10 a0 33).bind fun v3 =>
    (aI h2 v3 p1).bind fun v4 =>
    (f_X10_has v4 p2 h2).bind fun r5 =>
    if r5.1 = (0 : Int32) then
      (gR r5.2 10 a0 34).bind fun v6 =>
      (aI r5.2 v6 p1).bind fun v7 =>
      (f_X10_has v7 p2 r5.2).bind fun r8 =>
      if r8.1 = (0 : Int32) then
        f_X10_partOf_J50 (3 : Int32) r8.2
      else
        f_X10_partOf_J50 (2 : Int32) r8.2
    else
      f_X10_partOf_J50 (1 : Int32) r5.2
theorem y_X10_partOf {g : xG} {h0 : xH} {cl : Bool} (a0 : Nat) (p1 : Int32) (p2 : Int32) (h : xH) : Y g DX10_partOf h0 cl iI (f_X10_partOf a0 p1 p2 h) 0 [some (.ref a0), some (.int p1), some (.int p2)] [] h := by
  unfold f_X10_partOf
  refine Y.op (pc' := 1) (fun _ => X.aloadn rfl dX10_partOf_0) ?_
  refine Y.op (pc' := 2) (fun _ => X.iloadn rfl dX10_partOf_1) ?_
  refine Y.op (pc' := 3) (fun _ => X.iloadn rfl dX10_partOf_2) ?_
  refine Y.callVi (As := [.int p1, .int p2]) lk_X10_240 rfl cal_X10_isThere vir_X10_isThere (Nat.le_of_ble_eq_true rfl) (Nat.le_of_ble_eq_true rfl) rfl rfl rfl (Nat.le_of_ble_eq_true rfl) dX10_partOf_3 (fun _ e => m_X10_isThere a0 p1 p2 h _ _ e) (fun r1 => ?_)
  refine Y.ifne 11 (by decide) dX10_partOf_6 ?_ ?_
  · refine Y.op (pc' := 12) (fun _ => X.aloadn rfl dX10_partOf_11) ?_
    refine Y.callVv (As := []) lk_X10_359 rfl cal_X10_laysReach vir_X10_laysReach (Nat.le_of_ble_eq_true rfl) (Nat.le_of_ble_eq_true rfl) rfl rfl rfl (Nat.le_of_ble_eq_true rfl) dX10_partOf_12 (fun _ e => m_X10_laysReach a0 r1.2 _ _ e) (fun h2 => ?_)
    refine Y.op (pc' := 16) (fun _ => X.aloadn rfl dX10_partOf_15) ?_
    refine Y.getR fd_X10_57 rfl dX10_partOf_16 (fun v3 => ?_)
    refine Y.op (pc' := 20) (fun _ => X.iloadn rfl dX10_partOf_19) ?_
    refine Y.aldI dX10_partOf_20 (fun v4 => ?_)
    refine Y.op (pc' := 22) (fun _ => X.iloadn rfl dX10_partOf_21) ?_
    refine Y.callSi (As := [.int v4, .int p2]) lk_X10_182 rfl cal_X10_has sta_X10_has (Nat.le_of_ble_eq_true rfl) rfl rfl (Nat.le_of_ble_eq_true rfl) dX10_partOf_22 (fun _ e => m_X10_has v4 p2 h2 _ _ e) (fun r5 => ?_)
    refine Y.ifeq 32 (by decide) dX10_partOf_25 ?_ ?_
    · refine Y.op (pc' := 33) (fun _ => X.aloadn rfl dX10_partOf_32) ?_
      refine Y.getR fd_X10_60 rfl dX10_partOf_33 (fun v6 => ?_)
      refine Y.op (pc' := 37) (fun _ => X.iloadn rfl dX10_partOf_36) ?_
      refine Y.aldI dX10_partOf_37 (fun v7 => ?_)
      refine Y.op (pc' := 39) (fun _ => X.iloadn rfl dX10_partOf_38) ?_
      refine Y.callSi (As := [.int v7, .int p2]) lk_X10_182 rfl cal_X10_has sta_X10_has (Nat.le_of_ble_eq_true rfl) rfl rfl (Nat.le_of_ble_eq_true rfl) dX10_partOf_39 (fun _ e => m_X10_has v7 p2 r5.2 _ _ e) (fun r8 => ?_)
      refine Y.ifeq 49 (by decide) dX10_partOf_42 ?_ ?_
      · refine Y.op (pc' := 50) (fun _ => X.ic ki_3 dX10_partOf_49) ?_
        exact Y.fg (y_X10_partOf_J50 (3 : Int32) r8.2) trivial
      · refine Y.op (pc' := 46) (fun _ => X.ic ki_2 dX10_partOf_45) ?_
        refine Y.op (pc' := 50) (fun _ => X.goto 50 (by decide) dX10_partOf_46) ?_
        exact Y.fg (y_X10_partOf_J50 (2 : Int32) r8.2) trivial
    · refine Y.op (pc' := 29) (fun _ => X.ic ki_1 dX10_partOf_28) ?_
      refine Y.op (pc' := 50) (fun _ => X.goto 50 (by decide) dX10_partOf_29) ?_
      exact Y.fg (y_X10_partOf_J50 (1 : Int32) r5.2) trivial
  · refine Y.op (pc' := 10) (fun _ => X.ic ki_0 dX10_partOf_9) ?_
    exact Y.ireturn rfl dX10_partOf_10
theorem m_X10_partOf {g : xG} (a0 : Nat) (p1 : Int32) (p2 : Int32) (h : xH) (cl : Bool) (r : Int32 × xH) (e : f_X10_partOf a0 p1 p2 h = some r) : XM g DX10_partOf [.ref a0, .int p1, .int p2] h cl (iI r) := YM.of rfl rfl (Nat.le_of_ble_eq_true rfl) (y_X10_partOf a0 p1 p2 h) e
def f_X10_of_J98 (s0 : Int32) (h : xH) : Option (Int32 × xH) :=
  some (s0, h)
theorem y_X10_of_J98 {g : xG} {h0 : xH} {cl : Bool} (s0 : Int32) (h : xH) : Y g DX10_of h0 cl iI (f_X10_of_J98 s0 h) 98 [none, none, none, none] [.int s0] h := by
  unfold f_X10_of_J98
  exact Y.ireturn rfl dX10_of_98
def f_X10_of_J51 (h : xH) : Option (Int32 × xH) :=
  some ((0 : Int32), h)
theorem y_X10_of_J51 {g : xG} {h0 : xH} {cl : Bool} (h : xH) : Y g DX10_of h0 cl iI (f_X10_of_J51 h) 51 [none, none, none, none] [] h := by
  unfold f_X10_of_J51
  refine Y.op (pc' := 52) (fun _ => X.ic ki_0 dX10_of_51) ?_
  exact Y.ireturn rfl dX10_of_52
def f_X10_of_J43 (x0 : Nat) (x1 : Int32) (x2 : Int32) (x3 : Int32) (s0 : Nat) (s1 : Int32) (h : xH) : Option (Int32 × xH) :=
  (vc h 10 s0 (f_X10_bad s0 s1 (2 : Int32) (1 : Int32) h)).bind fun r1 =>
  if r1.1 = (0 : Int32) then
    if x3 = (0 : Int32) then
      (vc r1.2 10 x0 (f_X10_without x0 x1 x2 r1.2)).bind fun r4 =>
      (vc r4.2 10 x0 (f_X10_nu x0 r4.2)).bind fun r5 =>
      if r4.1 ≥ r5.1 then
        f_X10_of_J98 (0 : Int32) r5.2
      else
        f_X10_of_J98 (1 : Int32) r5.2
    else
      if x3 = (1 : Int32) then
        (vc r1.2 10 x0 (f_X10_without x0 x1 x2 r1.2)).bind fun r3 =>
        f_X10_of_J98 r3.1 r3.2
      else
        (vc r1.2 10 x0 (f_X10_partOf x0 x1 x2 r1.2)).bind fun r2 =>
        f_X10_of_J98 r2.1 r2.2
  else
    f_X10_of_J51 r1.2
theorem y_X10_of_J43 {g : xG} {h0 : xH} {cl : Bool} (x0 : Nat) (x1 : Int32) (x2 : Int32) (x3 : Int32) (s0 : Nat) (s1 : Int32) (h : xH) : Y g DX10_of h0 cl iI (f_X10_of_J43 x0 x1 x2 x3 s0 s1 h) 43 [some (.ref x0), some (.int x1), some (.int x2), some (.int x3)] [.int s1, .ref s0] h := by
  unfold f_X10_of_J43
  refine Y.op (pc' := 44) (fun _ => X.ic ki_2 dX10_of_43) ?_
  refine Y.op (pc' := 45) (fun _ => X.ic ki_1 dX10_of_44) ?_
  refine Y.callVi (As := [.int s1, .int (2 : Int32), .int (1 : Int32)]) lk_X10_217 rfl cal_X10_bad vir_X10_bad (Nat.le_of_ble_eq_true rfl) (Nat.le_of_ble_eq_true rfl) rfl rfl rfl (Nat.le_of_ble_eq_true rfl) dX10_of_45 (fun _ e => m_X10_bad s0 s1 (2 : Int32) (1 : Int32) h _ _ e) (fun r1 => ?_)
  refine Y.ifeq 53 (by decide) dX10_of_48 ?_ ?_
  · refine Y.op (pc' := 54) (fun _ => X.iloadn rfl dX10_of_53) ?_
    refine Y.ifne 78 (by decide) dX10_of_54 ?_ ?_
    · refine Y.op (pc' := 79) (fun _ => X.iloadn rfl dX10_of_78) ?_
      refine Y.op (pc' := 80) (fun _ => X.ic ki_1 dX10_of_79) ?_
      refine Y.cmpne 92 (by decide) dX10_of_80 ?_ ?_
      · refine Y.op (pc' := 93) (fun _ => X.aloadn rfl dX10_of_92) ?_
        refine Y.op (pc' := 94) (fun _ => X.iloadn rfl dX10_of_93) ?_
        refine Y.op (pc' := 95) (fun _ => X.iloadn rfl dX10_of_94) ?_
        refine Y.callVi (As := [.int x1, .int x2]) lk_X10_365 rfl cal_X10_partOf vir_X10_partOf (Nat.le_of_ble_eq_true rfl) (Nat.le_of_ble_eq_true rfl) rfl rfl rfl (Nat.le_of_ble_eq_true rfl) dX10_of_95 (fun _ e => m_X10_partOf x0 x1 x2 r1.2 _ _ e) (fun r2 => ?_)
        exact Y.fg (y_X10_of_J98 r2.1 r2.2) trivial
      · refine Y.op (pc' := 84) (fun _ => X.aloadn rfl dX10_of_83) ?_
        refine Y.op (pc' := 85) (fun _ => X.iloadn rfl dX10_of_84) ?_
        refine Y.op (pc' := 86) (fun _ => X.iloadn rfl dX10_of_85) ?_
        refine Y.callVi (As := [.int x1, .int x2]) lk_X10_362 rfl cal_X10_without vir_X10_without (Nat.le_of_ble_eq_true rfl) (Nat.le_of_ble_eq_true rfl) rfl rfl rfl (Nat.le_of_ble_eq_true rfl) dX10_of_86 (fun _ e => m_X10_without x0 x1 x2 r1.2 _ _ e) (fun r3 => ?_)
        refine Y.op (pc' := 98) (fun _ => X.goto 98 (by decide) dX10_of_89) ?_
        exact Y.fg (y_X10_of_J98 r3.1 r3.2) trivial
    · refine Y.op (pc' := 58) (fun _ => X.aloadn rfl dX10_of_57) ?_
      refine Y.op (pc' := 59) (fun _ => X.iloadn rfl dX10_of_58) ?_
      refine Y.op (pc' := 60) (fun _ => X.iloadn rfl dX10_of_59) ?_
      refine Y.callVi (As := [.int x1, .int x2]) lk_X10_362 rfl cal_X10_without vir_X10_without (Nat.le_of_ble_eq_true rfl) (Nat.le_of_ble_eq_true rfl) rfl rfl rfl (Nat.le_of_ble_eq_true rfl) dX10_of_60 (fun _ e => m_X10_without x0 x1 x2 r1.2 _ _ e) (fun r4 => ?_)
      refine Y.op (pc' := 64) (fun _ => X.aloadn rfl dX10_of_63) ?_
      refine Y.callVi (As := []) lk_X10_327 rfl cal_X10_nu vir_X10_nu (Nat.le_of_ble_eq_true rfl) (Nat.le_of_ble_eq_true rfl) rfl rfl rfl (Nat.le_of_ble_eq_true rfl) dX10_of_64 (fun _ e => m_X10_nu x0 r4.2 _ _ e) (fun r5 => ?_)
      refine Y.cmpge 74 (by decide) dX10_of_67 ?_ ?_
      · refine Y.op (pc' := 75) (fun _ => X.ic ki_0 dX10_of_74) ?_
        refine Y.op (pc' := 98) (fun _ => X.goto 98 (by decide) dX10_of_75) ?_
        exact Y.fg (y_X10_of_J98 (0 : Int32) r5.2) trivial
      · refine Y.op (pc' := 71) (fun _ => X.ic ki_1 dX10_of_70) ?_
        refine Y.op (pc' := 98) (fun _ => X.goto 98 (by decide) dX10_of_71) ?_
        exact Y.fg (y_X10_of_J98 (1 : Int32) r5.2) trivial
  · exact Y.fg (y_X10_of_J51 r1.2) trivial
def f_X10_of_J20 (x0 : Nat) (x1 : Int32) (x2 : Int32) (x3 : Int32) (s0 : Nat) (s1 : Int32) (h : xH) : Option (Int32 × xH) :=
  (vc h 10 s0 (f_X10_bad s0 s1 (1 : Int32) (0 : Int32) h)).bind fun r1 =>
  if r1.1 = (0 : Int32) then
    (f_X10_in x3 (0 : Int32) (2 : Int32) r1.2).bind fun r2 =>
    if r2.1 = (0 : Int32) then
      f_X10_of_J43 x0 x1 x2 x3 x0 (1 : Int32) r2.2
    else
      f_X10_of_J43 x0 x1 x2 x3 x0 (0 : Int32) r2.2
  else
    f_X10_of_J51 r1.2
theorem y_X10_of_J20 {g : xG} {h0 : xH} {cl : Bool} (x0 : Nat) (x1 : Int32) (x2 : Int32) (x3 : Int32) (s0 : Nat) (s1 : Int32) (h : xH) : Y g DX10_of h0 cl iI (f_X10_of_J20 x0 x1 x2 x3 s0 s1 h) 20 [some (.ref x0), some (.int x1), some (.int x2), some (.int x3)] [.int s1, .ref s0] h := by
  unfold f_X10_of_J20
  refine Y.op (pc' := 21) (fun _ => X.ic ki_1 dX10_of_20) ?_
  refine Y.op (pc' := 22) (fun _ => X.ic ki_0 dX10_of_21) ?_
  refine Y.callVi (As := [.int s1, .int (1 : Int32), .int (0 : Int32)]) lk_X10_217 rfl cal_X10_bad vir_X10_bad (Nat.le_of_ble_eq_true rfl) (Nat.le_of_ble_eq_true rfl) rfl rfl rfl (Nat.le_of_ble_eq_true rfl) dX10_of_22 (fun _ e => m_X10_bad s0 s1 (1 : Int32) (0 : Int32) h _ _ e) (fun r1 => ?_)
  refine Y.ifne 51 (by decide) dX10_of_25 ?_ ?_
  · exact Y.fg (y_X10_of_J51 r1.2) trivial
  · refine Y.op (pc' := 29) (fun _ => X.aloadn rfl dX10_of_28) ?_
    refine Y.op (pc' := 30) (fun _ => X.iloadn rfl dX10_of_29) ?_
    refine Y.op (pc' := 31) (fun _ => X.ic ki_0 dX10_of_30) ?_
    refine Y.op (pc' := 32) (fun _ => X.ic ki_2 dX10_of_31) ?_
    refine Y.callSi (As := [.int x3, .int (0 : Int32), .int (2 : Int32)]) lk_X10_127 rfl cal_X10_in sta_X10_in (Nat.le_of_ble_eq_true rfl) rfl rfl (Nat.le_of_ble_eq_true rfl) dX10_of_32 (fun _ e => m_X10_in x3 (0 : Int32) (2 : Int32) r1.2 _ _ e) (fun r2 => ?_)
    refine Y.ifne 42 (by decide) dX10_of_35 ?_ ?_
    · refine Y.op (pc' := 43) (fun _ => X.ic ki_0 dX10_of_42) ?_
      exact y_X10_of_J43 x0 x1 x2 x3 x0 (0 : Int32) r2.2
    · refine Y.op (pc' := 39) (fun _ => X.ic ki_1 dX10_of_38) ?_
      refine Y.op (pc' := 43) (fun _ => X.goto 43 (by decide) dX10_of_39) ?_
      exact y_X10_of_J43 x0 x1 x2 x3 x0 (1 : Int32) r2.2
def f_X10_of (a0 : Nat) (p1 : Int32) (p2 : Int32) (p3 : Int32) (h : xH) : Option (Int32 × xH) :=
  (pI h 10 a0 0 (0 : Int32)).bind fun h1 =>
  (vc h1 10 a0 (f_X10_isOne a0 p1 p2 h1)).bind fun r2 =>
  if r2.1 = (0 : Int32) then
    f_X10_of_J20 a0 p1 p2 p3 a0 (1 : Int32) r2.2
  else
    f_X10_of_J20 a0 p1 p2 p3 a0 (0 : Int32) r2.2
theorem y_X10_of {g : xG} {h0 : xH} {cl : Bool} (a0 : Nat) (p1 : Int32) (p2 : Int32) (p3 : Int32) (h : xH) : Y g DX10_of h0 cl iI (f_X10_of a0 p1 p2 p3 h) 0 [some (.ref a0), some (.int p1), some (.int p2), some (.int p3)] [] h := by
  unfold f_X10_of
  refine Y.op (pc' := 1) (fun _ => X.aloadn rfl dX10_of_0) ?_
  refine Y.op (pc' := 2) (fun _ => X.ic ki_0 dX10_of_1) ?_
  refine Y.putI fd_X10_82 rfl dX10_of_2 (fun h1 => ?_)
  refine Y.op (pc' := 6) (fun _ => X.aloadn rfl dX10_of_5) ?_
  refine Y.op (pc' := 7) (fun _ => X.aloadn rfl dX10_of_6) ?_
  refine Y.op (pc' := 8) (fun _ => X.iloadn rfl dX10_of_7) ?_
  refine Y.op (pc' := 9) (fun _ => X.iloadn rfl dX10_of_8) ?_
  refine Y.callVi (As := [.int p1, .int p2]) lk_X10_282 rfl cal_X10_isOne vir_X10_isOne (Nat.le_of_ble_eq_true rfl) (Nat.le_of_ble_eq_true rfl) rfl rfl rfl (Nat.le_of_ble_eq_true rfl) dX10_of_9 (fun _ e => m_X10_isOne a0 p1 p2 h1 _ _ e) (fun r2 => ?_)
  refine Y.ifne 19 (by decide) dX10_of_12 ?_ ?_
  · refine Y.op (pc' := 20) (fun _ => X.ic ki_0 dX10_of_19) ?_
    exact y_X10_of_J20 a0 p1 p2 p3 a0 (0 : Int32) r2.2
  · refine Y.op (pc' := 16) (fun _ => X.ic ki_1 dX10_of_15) ?_
    refine Y.op (pc' := 20) (fun _ => X.goto 20 (by decide) dX10_of_16) ?_
    exact y_X10_of_J20 a0 p1 p2 p3 a0 (1 : Int32) r2.2
theorem m_X10_of {g : xG} (a0 : Nat) (p1 : Int32) (p2 : Int32) (p3 : Int32) (h : xH) (cl : Bool) (r : Int32 × xH) (e : f_X10_of a0 p1 p2 p3 h = some r) : XM g DX10_of [.ref a0, .int p1, .int p2, .int p3] h cl (iI r) := YM.of rfl rfl (Nat.le_of_ble_eq_true rfl) (y_X10_of a0 p1 p2 p3 h) e
def f_X10_nuBut (a0 : Nat) (p1 : Int32) (p2 : Int32) (h : xH) : Option (Int32 × xH) :=
  (gR h 10 a0 10).bind fun v1 =>
  (aR 102 h v1 (0 : Int32)).bind fun v2 =>
  (aI h v2 p1).bind fun v3 =>
  (sI h v2 p1 (v3 &&& (((1 : Int32) <<< (p2 &&& 31)) ^^^ (-1 : Int32)))).bind fun h4 =>
  (vc h4 10 a0 (f_X10_nu a0 h4)).bind fun r5 =>
  (gR r5.2 10 a0 10).bind fun v6 =>
  (aR 102 r5.2 v6 (0 : Int32)).bind fun v7 =>
  (aI r5.2 v7 p1).bind fun v8 =>
  (sI r5.2 v7 p1 (v8 ||| ((1 : Int32) <<< (p2 &&& 31)))).bind fun h9 =>
  some (r5.1, h9)
theorem y_X10_nuBut {g : xG} {h0 : xH} {cl : Bool} (a0 : Nat) (p1 : Int32) (p2 : Int32) (h : xH) : Y g DX10_nuBut h0 cl iI (f_X10_nuBut a0 p1 p2 h) 0 [some (.ref a0), some (.int p1), some (.int p2), none] [] h := by
  unfold f_X10_nuBut
  refine Y.op (pc' := 1) (fun _ => X.aloadn rfl dX10_nuBut_0) ?_
  refine Y.getR fd_X10_25 rfl dX10_nuBut_1 (fun v1 => ?_)
  refine Y.op (pc' := 5) (fun _ => X.ic ki_0 dX10_nuBut_4) ?_
  refine Y.aldR 102 (by decide) (by decide) dX10_nuBut_5 (fun v2 => ?_)
  refine Y.op (pc' := 7) (fun _ => X.iloadn rfl dX10_nuBut_6) ?_
  refine Y.op (pc' := 8) (fun _ => X.dup2 rfl rfl dX10_nuBut_7) ?_
  refine Y.aldI dX10_nuBut_8 (fun v3 => ?_)
  refine Y.op (pc' := 10) (fun _ => X.ic ki_1 dX10_nuBut_9) ?_
  refine Y.op (pc' := 11) (fun _ => X.iloadn rfl dX10_nuBut_10) ?_
  refine Y.op (pc' := 12) (fun _ => X.ishl dX10_nuBut_11) ?_
  refine Y.op (pc' := 13) (fun _ => X.ic ki_m1 dX10_nuBut_12) ?_
  refine Y.op (pc' := 14) (fun _ => X.ixor dX10_nuBut_13) ?_
  refine Y.op (pc' := 15) (fun _ => X.iand dX10_nuBut_14) ?_
  refine Y.astI dX10_nuBut_15 (fun h4 => ?_)
  refine Y.op (pc' := 17) (fun _ => X.aloadn rfl dX10_nuBut_16) ?_
  refine Y.callVi (As := []) lk_X10_327 rfl cal_X10_nu vir_X10_nu (Nat.le_of_ble_eq_true rfl) (Nat.le_of_ble_eq_true rfl) rfl rfl rfl (Nat.le_of_ble_eq_true rfl) dX10_nuBut_17 (fun _ e => m_X10_nu a0 h4 _ _ e) (fun r5 => ?_)
  refine Y.op (pc' := 21) (loc' := [some (.ref a0), some (.int p1), some (.int p2), some (.int r5.1)]) (fun _ => X.istoren (Nat.le_of_ble_eq_true rfl) rfl dX10_nuBut_20) ?_
  refine Y.op (pc' := 22) (fun _ => X.aloadn rfl dX10_nuBut_21) ?_
  refine Y.getR fd_X10_25 rfl dX10_nuBut_22 (fun v6 => ?_)
  refine Y.op (pc' := 26) (fun _ => X.ic ki_0 dX10_nuBut_25) ?_
  refine Y.aldR 102 (by decide) (by decide) dX10_nuBut_26 (fun v7 => ?_)
  refine Y.op (pc' := 28) (fun _ => X.iloadn rfl dX10_nuBut_27) ?_
  refine Y.op (pc' := 29) (fun _ => X.dup2 rfl rfl dX10_nuBut_28) ?_
  refine Y.aldI dX10_nuBut_29 (fun v8 => ?_)
  refine Y.op (pc' := 31) (fun _ => X.ic ki_1 dX10_nuBut_30) ?_
  refine Y.op (pc' := 32) (fun _ => X.iloadn rfl dX10_nuBut_31) ?_
  refine Y.op (pc' := 33) (fun _ => X.ishl dX10_nuBut_32) ?_
  refine Y.op (pc' := 34) (fun _ => X.ior dX10_nuBut_33) ?_
  refine Y.astI dX10_nuBut_34 (fun h9 => ?_)
  refine Y.op (pc' := 36) (fun _ => X.iloadn rfl dX10_nuBut_35) ?_
  exact Y.ireturn rfl dX10_nuBut_36
theorem m_X10_nuBut {g : xG} (a0 : Nat) (p1 : Int32) (p2 : Int32) (h : xH) (cl : Bool) (r : Int32 × xH) (e : f_X10_nuBut a0 p1 p2 h = some r) : XM g DX10_nuBut [.ref a0, .int p1, .int p2] h cl (iI r) := YM.of rfl rfl (Nat.le_of_ble_eq_true rfl) (y_X10_nuBut a0 p1 p2 h) e
