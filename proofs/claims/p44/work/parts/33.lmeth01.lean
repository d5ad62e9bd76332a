def f_X10_init_J108 (h : xH) : Option (xH) :=
  some h
theorem y_X10_init_J108 {g : xG} {h0 : xH} (h : xH) : Y g DX10_init h0 false iV (f_X10_init_J108 h) 108 [none, none, none] [] h := by
  unfold f_X10_init_J108
  exact Y.vreturn rfl dX10_init_108
def f_X10_init_J102 (kH : Nat → Int32 → xH → Option (xH)) (kE108 : xH → Option (xH)) (x0 : Nat) (x1 : Int32) (h : xH) : Option (xH) :=
  lt (x1 + (1 : Int32)) fun v1 =>
  kH x0 v1 h
theorem y_X10_init_J102 {g : xG} {h0 : xH} {kH : Nat → Int32 → xH → Option (xH)} {kE108 : xH → Option (xH)} (hkH : ∀ (x0 : Nat) (x1 : Int32) (h : xH), Y g DX10_init h0 false iV (kH x0 x1 h) 59 [some (.ref x0), some (.int x1), none] [] h) (hkE108 : ∀  (h : xH), Y g DX10_init h0 false iV (kE108  h) 108 [none, none, none] [] h) (x0 : Nat) (x1 : Int32) (h : xH) : Y g DX10_init h0 false iV (f_X10_init_J102 kH kE108 x0 x1 h) 102 [some (.ref x0), some (.int x1), none] [] h := by
  unfold f_X10_init_J102
  refine Y.iinc (i := 1) (loc' := fun v1 => [some (.ref x0), some (.int v1), none]) rfl (Nat.le_of_ble_eq_true rfl) ki_1 (fun _ => rfl) dX10_init_102 (fun v1 => ?_)
  refine Y.op (pc' := 59) (fun _ => X.goto 59 (by decide) dX10_init_105) ?_
  exact hkH x0 v1 h
def f_X10_init_L81 (kE102 : Nat → Int32 → xH → Option (xH)) : Nat → Nat → Int32 → Int32 → xH → Option (xH)
  | 0 => fun _ _ _ _ => none
  | n + 1 => fun x0 x1 x2 h =>
    if x2 ≥ (12 : Int32) then
      kE102 x0 x1 h
    else
      (gR h 10 x0 5).bind fun v1 =>
      (aR 102 h v1 x1).bind fun v2 =>
      (sI h v2 x2 (-1 : Int32)).bind fun h3 =>
      lt (x2 + (1 : Int32)) fun v4 =>
      f_X10_init_L81 kE102 n x0 x1 v4 h3
theorem y_X10_init_L81 {g : xG} {h0 : xH} {kE102 : Nat → Int32 → xH → Option (xH)} (hkE102 : ∀ (x0 : Nat) (x1 : Int32) (h : xH), Y g DX10_init h0 false iV (kE102 x0 x1 h) 102 [some (.ref x0), some (.int x1), none] [] h) : ∀ (n : Nat) (x0 : Nat) (x1 : Int32) (x2 : Int32) (h : xH), Y g DX10_init h0 false iV (f_X10_init_L81 kE102 n x0 x1 x2 h) 81 [some (.ref x0), some (.int x1), some (.int x2)] [] h := by
  intro n
  induction n with
  | zero => intro x0 x1 x2 h; exact Y.nothing
  | succ n ih =>
    intro x0 x1 x2 h
    unfold f_X10_init_L81
    refine Y.op (pc' := 82) (fun _ => X.iloadn rfl dX10_init_81) ?_
    refine Y.op (pc' := 84) (fun _ => X.bp kb_12 dX10_init_82) ?_
    refine Y.cmpge 102 (by decide) dX10_init_84 ?_ ?_
    · exact Y.fg (hkE102 x0 x1 h) (And.intro rfl (And.intro rfl trivial))
    · refine Y.op (pc' := 88) (fun _ => X.aloadn rfl dX10_init_87) ?_
      refine Y.getR fd_X10_28 rfl dX10_init_88 (fun v1 => ?_)
      refine Y.op (pc' := 92) (fun _ => X.iloadn rfl dX10_init_91) ?_
      refine Y.aldR 102 (by decide) (by decide) dX10_init_92 (fun v2 => ?_)
      refine Y.op (pc' := 94) (fun _ => X.iloadn rfl dX10_init_93) ?_
      refine Y.op (pc' := 95) (fun _ => X.ic ki_m1 dX10_init_94) ?_
      refine Y.astI dX10_init_95 (fun h3 => ?_)
      refine Y.iinc (i := 2) (loc' := fun v4 => [some (.ref x0), some (.int x1), some (.int v4)]) rfl (Nat.le_of_ble_eq_true rfl) ki_1 (fun _ => rfl) dX10_init_96 (fun v4 => ?_)
      refine Y.op (pc' := 81) (fun _ => X.goto 81 (by decide) dX10_init_99) ?_
      exact ih x0 x1 v4 h3
def f_X10_init_L59 (kE108 : xH → Option (xH)) : Nat → Nat → Int32 → xH → Option (xH)
  | 0 => fun _ _ _ => none
  | n + 1 => fun x0 x1 h =>
    if x1 ≥ (12 : Int32) then
      kE108 h
    else
      (gR h 10 x0 6).bind fun v1 =>
      (sI h v1 x1 (-1 : Int32)).bind fun h2 =>
      (gR h2 10 x0 7).bind fun v3 =>
      (sI h2 v3 x1 (1 : Int32)).bind fun h4 =>
      f_X10_init_L81 (f_X10_init_J102 (f_X10_init_L59 kE108 n) kE108) 5000 x0 x1 (0 : Int32) h4
theorem y_X10_init_L59 {g : xG} {h0 : xH} {kE108 : xH → Option (xH)} (hkE108 : ∀  (h : xH), Y g DX10_init h0 false iV (kE108  h) 108 [none, none, none] [] h) : ∀ (n : Nat) (x0 : Nat) (x1 : Int32) (h : xH), Y g DX10_init h0 false iV (f_X10_init_L59 kE108 n x0 x1 h) 59 [some (.ref x0), some (.int x1), none] [] h := by
  intro n
  induction n with
  | zero => intro x0 x1 h; exact Y.nothing
  | succ n ih =>
    intro x0 x1 h
    unfold f_X10_init_L59
    refine Y.op (pc' := 60) (fun _ => X.iloadn rfl dX10_init_59) ?_
    refine Y.op (pc' := 62) (fun _ => X.bp kb_12 dX10_init_60) ?_
    refine Y.cmpge 108 (by decide) dX10_init_62 ?_ ?_
    · exact Y.fg (hkE108 h) trivial
    · refine Y.op (pc' := 66) (fun _ => X.aloadn rfl dX10_init_65) ?_
      refine Y.getR fd_X10_31 rfl dX10_init_66 (fun v1 => ?_)
      refine Y.op (pc' := 70) (fun _ => X.iloadn rfl dX10_init_69) ?_
      refine Y.op (pc' := 71) (fun _ => X.ic ki_m1 dX10_init_70) ?_
      refine Y.astI dX10_init_71 (fun h2 => ?_)
      refine Y.op (pc' := 73) (fun _ => X.aloadn rfl dX10_init_72) ?_
      refine Y.getR fd_X10_35 rfl dX10_init_73 (fun v3 => ?_)
      refine Y.op (pc' := 77) (fun _ => X.iloadn rfl dX10_init_76) ?_
      refine Y.op (pc' := 78) (fun _ => X.ic ki_1 dX10_init_77) ?_
      refine Y.astI dX10_init_78 (fun h4 => ?_)
      refine Y.op (pc' := 80) (fun _ => X.ic ki_0 dX10_init_79) ?_
      refine Y.op (pc' := 81) (loc' := [some (.ref x0), some (.int x1), some (.int (0 : Int32))]) (fun _ => X.istoren (Nat.le_of_ble_eq_true rfl) rfl dX10_init_80) ?_
      exact y_X10_init_L81 (y_X10_init_J102 ih hkE108) 5000 x0 x1 (0 : Int32) h4
def f_X10_init (a0 : Nat) (h : xH) : Option (xH) :=
  (pI h 10 a0 0 (1 : Int32)).bind fun h1 =>
  (pI h1 10 a0 1 (1 : Int32)).bind fun h2 =>
  (pZ h2 10 a0 2 (1 : Int32)).bind fun h3 =>
  (pI h3 10 a0 3 (1 : Int32)).bind fun h4 =>
  (pI h4 10 a0 4 (1 : Int32)).bind fun h5 =>
  (nwG 102 100 (.int 0) h5 (12 : Int32) (12 : Int32)).bind fun r6 =>
  (pR r6.2 10 a0 5 r6.1).bind fun h7 =>
  (nwI h7 (12 : Int32)).bind fun r8 =>
  (pR r8.2 10 a0 6 r8.1).bind fun h9 =>
  (nwI h9 (12 : Int32)).bind fun r10 =>
  (pR r10.2 10 a0 7 r10.1).bind fun h11 =>
  f_X10_init_L59 (f_X10_init_J108) 5000 a0 (0 : Int32) h11
theorem y_X10_init {g : xG} {h0 : xH} (a0 : Nat) (h : xH) : Y g DX10_init h0 false iV (f_X10_init a0 h) 0 [some (.ref a0), none, none] [] h := by
  unfold f_X10_init
  refine Y.op (pc' := 1) (fun _ => X.aloadn rfl dX10_init_0) ?_
  refine Y.op (pc' := 4) (fun _ => X.objInit wo_X10 rfl (Nat.le_of_ble_eq_true rfl) (Nat.le_of_ble_eq_true rfl) dX10_init_1) ?_
  refine Y.op (pc' := 5) (fun _ => X.aloadn rfl dX10_init_4) ?_
  refine Y.op (pc' := 6) (fun _ => X.ic ki_1 dX10_init_5) ?_
  refine Y.putI fd_X10_7 rfl dX10_init_6 (fun h1 => ?_)
  refine Y.op (pc' := 10) (fun _ => X.aloadn rfl dX10_init_9) ?_
  refine Y.op (pc' := 11) (fun _ => X.ic ki_1 dX10_init_10) ?_
  refine Y.putI fd_X10_13 rfl dX10_init_11 (fun h2 => ?_)
  refine Y.op (pc' := 15) (fun _ => X.aloadn rfl dX10_init_14) ?_
  refine Y.op (pc' := 16) (fun _ => X.ic ki_1 dX10_init_15) ?_
  refine Y.putZ fd_X10_16 rfl dX10_init_16 (fun h3 => ?_)
  refine Y.op (pc' := 20) (fun _ => X.aloadn rfl dX10_init_19) ?_
  refine Y.op (pc' := 21) (fun _ => X.ic ki_1 dX10_init_20) ?_
  refine Y.putI fd_X10_20 rfl dX10_init_21 (fun h4 => ?_)
  refine Y.op (pc' := 25) (fun _ => X.aloadn rfl dX10_init_24) ?_
  refine Y.op (pc' := 26) (fun _ => X.ic ki_1 dX10_init_25) ?_
  refine Y.putI fd_X10_23 rfl dX10_init_26 (fun h5 => ?_)
  refine Y.op (pc' := 30) (fun _ => X.aloadn rfl dX10_init_29) ?_
  refine Y.op (pc' := 32) (fun _ => X.bp kb_12 dX10_init_30) ?_
  refine Y.op (pc' := 34) (fun _ => X.bp kb_12 dX10_init_32) ?_
  refine Y.mna 102 100 .int (.int 0) ⟨rfl, rfl, rfl, rfl⟩ wm_X10_26 waI rfl dX10_init_34 (fun r6 => ?_)
  refine Y.putRn fd_X10_28 rfl (fun _ => rfl) (fun _ => rfl) dX10_init_38 (fun h7 => ?_)
  refine Y.op (pc' := 42) (fun _ => X.aloadn rfl dX10_init_41) ?_
  refine Y.op (pc' := 44) (fun _ => X.bp kb_12 dX10_init_42) ?_
  refine Y.newI waI dX10_init_44 (fun r8 => ?_)
  refine Y.putRn fd_X10_31 rfl (fun _ => rfl) (fun _ => rfl) dX10_init_46 (fun h9 => ?_)
  refine Y.op (pc' := 50) (fun _ => X.aloadn rfl dX10_init_49) ?_
  refine Y.op (pc' := 52) (fun _ => X.bp kb_12 dX10_init_50) ?_
  refine Y.newI waI dX10_init_52 (fun r10 => ?_)
  refine Y.putRn fd_X10_35 rfl (fun _ => rfl) (fun _ => rfl) dX10_init_54 (fun h11 => ?_)
  refine Y.op (pc' := 58) (fun _ => X.ic ki_0 dX10_init_57) ?_
  refine Y.op (pc' := 59) (loc' := [some (.ref a0), some (.int (0 : Int32)), none]) (fun _ => X.istoren (Nat.le_of_ble_eq_true rfl) rfl dX10_init_58) ?_
  exact y_X10_init_L59 (y_X10_init_J108) 5000 a0 (0 : Int32) h11
theorem m_X10_init {g : xG} (a0 : Nat) (h : xH) (r : xH) (e : f_X10_init a0 h = some r) : XM g DX10_init [.ref a0] h false (iV r) := YM.of rfl rfl (Nat.le_of_ble_eq_true rfl) (y_X10_init a0 h) e
def f_X10_like_J108 (x1 : Nat) (h : xH) : Option (Option Nat × xH) :=
  some ((some x1), h)
theorem y_X10_like_J108 {g : xG} {h0 : xH} (x1 : Nat) (h : xH) : Y g DX10_like h0 false iN (f_X10_like_J108 x1 h) 108 [none, some (.ref x1), none] [] h := by
  unfold f_X10_like_J108
  refine Y.op (pc' := 109) (fun _ => X.aloadn rfl dX10_like_108) ?_
  exact Y.areturn rfl dX10_like_109
def f_X10_like_L78 (kE108 : Nat → xH → Option (Option Nat × xH)) : Nat → Nat → Nat → Int32 → xH → Option (Option Nat × xH)
  | 0 => fun _ _ _ _ => none
  | n + 1 => fun x0 x1 x2 h =>
    if x2 ≥ (12 : Int32) then
      kE108 x1 h
    else
      (gR h 10 x1 5).bind fun v1 =>
      (gR h 10 x0 5).bind fun v2 =>
      (aR 102 h v2 x2).bind fun v3 =>
      (nwK h v3).bind fun r4 =>
      vc r4.2 100 r4.1 <|
      (sA r4.2 v1 x2 r4.1).bind fun h5 =>
      lt (x2 + (1 : Int32)) fun v6 =>
      f_X10_like_L78 kE108 n x0 x1 v6 h5
theorem y_X10_like_L78 {g : xG} {h0 : xH} {kE108 : Nat → xH → Option (Option Nat × xH)} (hkE108 : ∀ (x1 : Nat) (h : xH), Y g DX10_like h0 false iN (kE108 x1 h) 108 [none, some (.ref x1), none] [] h) : ∀ (n : Nat) (x0 : Nat) (x1 : Nat) (x2 : Int32) (h : xH), Y g DX10_like h0 false iN (f_X10_like_L78 kE108 n x0 x1 x2 h) 78 [some (.ref x0), some (.ref x1), some (.int x2)] [] h := by
  intro n
  induction n with
  | zero => intro x0 x1 x2 h; exact Y.nothing
  | succ n ih =>
    intro x0 x1 x2 h
    unfold f_X10_like_L78
    refine Y.op (pc' := 79) (fun _ => X.iloadn rfl dX10_like_78) ?_
    refine Y.op (pc' := 81) (fun _ => X.bp kb_12 dX10_like_79) ?_
    refine Y.cmpge 108 (by decide) dX10_like_81 ?_ ?_
    · exact Y.fg (hkE108 x1 h) (And.intro rfl trivial)
    · refine Y.op (pc' := 85) (fun _ => X.aloadn rfl dX10_like_84) ?_
      refine Y.getR fd_X10_28 rfl dX10_like_85 (fun v1 => ?_)
      refine Y.op (pc' := 89) (fun _ => X.iloadn rfl dX10_like_88) ?_
      refine Y.op (pc' := 90) (fun _ => X.aloadn rfl dX10_like_89) ?_
      refine Y.getR fd_X10_28 rfl dX10_like_90 (fun v2 => ?_)
      refine Y.op (pc' := 94) (fun _ => X.iloadn rfl dX10_like_93) ?_
      refine Y.aldR 102 (by decide) (by decide) dX10_like_94 (fun v3 => ?_)
      refine Y.clone wk_X10_39 rfl (Nat.le_of_ble_eq_true rfl) (Nat.le_of_ble_eq_true rfl) dX10_like_95 (fun r4 => ?_)
      refine Y.castI wy_X10_40 rfl dX10_like_98 ?_
      refine Y.astA dX10_like_101 (fun h5 => ?_)
      refine Y.iinc (i := 2) (loc' := fun v6 => [some (.ref x0), some (.ref x1), some (.int v6)]) rfl (Nat.le_of_ble_eq_true rfl) ki_1 (fun _ => rfl) dX10_like_102 (fun v6 => ?_)
      refine Y.op (pc' := 78) (fun _ => X.goto 78 (by decide) dX10_like_105) ?_
      exact ih x0 x1 v6 h5
def f_X10_like (a0 : Nat) (h : xH) : Option (Option Nat × xH) :=
  (nwC h (10, dv_X10)).bind fun r1 =>
  (ic r1.2 r1.1 (f_X10_init r1.1 r1.2)).bind fun h2 =>
  (gI h2 10 a0 0).bind fun v3 =>
  (pI h2 10 r1.1 0 v3).bind fun h4 =>
  (gI h4 10 a0 1).bind fun v5 =>
  (pI h4 10 r1.1 1 v5).bind fun h6 =>
  (gI h6 10 a0 2).bind fun v7 =>
  (pZ h6 10 r1.1 2 v7).bind fun h8 =>
  (gI h8 10 a0 3).bind fun v9 =>
  (pI h8 10 r1.1 3 v9).bind fun h10 =>
  (gI h10 10 a0 4).bind fun v11 =>
  (pI h10 10 r1.1 4 v11).bind fun h12 =>
  (gR h12 10 a0 6).bind fun v13 =>
  (nwK h12 v13).bind fun r14 =>
  vc r14.2 100 r14.1 <|
  (pR r14.2 10 r1.1 6 r14.1).bind fun h15 =>
  (gR h15 10 a0 7).bind fun v16 =>
  (nwK h15 v16).bind fun r17 =>
  vc r17.2 100 r17.1 <|
  (pR r17.2 10 r1.1 7 r17.1).bind fun h18 =>
  f_X10_like_L78 (f_X10_like_J108) 5000 a0 r1.1 (0 : Int32) h18
theorem y_X10_like {g : xG} {h0 : xH} (a0 : Nat) (h : xH) : Y g DX10_like h0 false iN (f_X10_like a0 h) 0 [some (.ref a0), none, none] [] h := by
  unfold f_X10_like
  refine Y.new wn_X10_8 rfl rfl dX10_like_0 (fun r1 => ?_)
  refine Y.op (pc' := 4) (fun _ => X.dup rfl dX10_like_3) ?_
  refine Y.callIv (As := []) lk_X10_38 rfl cal_X10_init ini_X10_init (Nat.le_of_ble_eq_true rfl) rfl rfl (Nat.le_of_ble_eq_true rfl) dX10_like_4 (fun _ e => m_X10_init r1.1 r1.2 _ e) (fun h2 => ?_)
  refine Y.op (pc' := 8) (loc' := [some (.ref a0), some (.ref r1.1), none]) (fun _ => X.astoren (Nat.le_of_ble_eq_true rfl) rfl dX10_like_7) ?_
  refine Y.op (pc' := 9) (fun _ => X.aloadn rfl dX10_like_8) ?_
  refine Y.op (pc' := 10) (fun _ => X.aloadn rfl dX10_like_9) ?_
  refine Y.getI fd_X10_7 rfl dX10_like_10 (fun v3 => ?_)
  refine Y.putI fd_X10_7 rfl dX10_like_13 (fun h4 => ?_)
  refine Y.op (pc' := 17) (fun _ => X.aloadn rfl dX10_like_16) ?_
  refine Y.op (pc' := 18) (fun _ => X.aloadn rfl dX10_like_17) ?_
  refine Y.getI fd_X10_13 rfl dX10_like_18 (fun v5 => ?_)
  refine Y.putI fd_X10_13 rfl dX10_like_21 (fun h6 => ?_)
  refine Y.op (pc' := 25) (fun _ => X.aloadn rfl dX10_like_24) ?_
  refine Y.op (pc' := 26) (fun _ => X.aloadn rfl dX10_like_25) ?_
  refine Y.getI fd_X10_16 rfl dX10_like_26 (fun v7 => ?_)
  refine Y.putZ fd_X10_16 rfl dX10_like_29 (fun h8 => ?_)
  refine Y.op (pc' := 33) (fun _ => X.aloadn rfl dX10_like_32) ?_
  refine Y.op (pc' := 34) (fun _ => X.aloadn rfl dX10_like_33) ?_
  refine Y.getI fd_X10_20 rfl dX10_like_34 (fun v9 => ?_)
  refine Y.putI fd_X10_20 rfl dX10_like_37 (fun h10 => ?_)
  refine Y.op (pc' := 41) (fun _ => X.aloadn rfl dX10_like_40) ?_
  refine Y.op (pc' := 42) (fun _ => X.aloadn rfl dX10_like_41) ?_
  refine Y.getI fd_X10_23 rfl dX10_like_42 (fun v11 => ?_)
  refine Y.putI fd_X10_23 rfl dX10_like_45 (fun h12 => ?_)
  refine Y.op (pc' := 49) (fun _ => X.aloadn rfl dX10_like_48) ?_
  refine Y.op (pc' := 50) (fun _ => X.aloadn rfl dX10_like_49) ?_
  refine Y.getR fd_X10_31 rfl dX10_like_50 (fun v13 => ?_)
  refine Y.clone wk_X10_39 rfl (Nat.le_of_ble_eq_true rfl) (Nat.le_of_ble_eq_true rfl) dX10_like_53 (fun r14 => ?_)
  refine Y.castI wy_X10_40 rfl dX10_like_56 ?_
  refine Y.putRn fd_X10_31 rfl (fun _ => rfl) (fun _ => rfl) dX10_like_59 (fun h15 => ?_)
  refine Y.op (pc' := 63) (fun _ => X.aloadn rfl dX10_like_62) ?_
  refine Y.op (pc' := 64) (fun _ => X.aloadn rfl dX10_like_63) ?_
  refine Y.getR fd_X10_35 rfl dX10_like_64 (fun v16 => ?_)
  refine Y.clone wk_X10_39 rfl (Nat.le_of_ble_eq_true rfl) (Nat.le_of_ble_eq_true rfl) dX10_like_67 (fun r17 => ?_)
  refine Y.castI wy_X10_40 rfl dX10_like_70 ?_
  refine Y.putRn fd_X10_35 rfl (fun _ => rfl) (fun _ => rfl) dX10_like_73 (fun h18 => ?_)
  refine Y.op (pc' := 77) (fun _ => X.ic ki_0 dX10_like_76) ?_
  refine Y.op (pc' := 78) (loc' := [some (.ref a0), some (.ref r1.1), some (.int (0 : Int32))]) (fun _ => X.istoren (Nat.le_of_ble_eq_true rfl) rfl dX10_like_77) ?_
  exact y_X10_like_L78 (y_X10_like_J108) 5000 a0 r1.1 (0 : Int32) h18
theorem m_X10_like {g : xG} (a0 : Nat) (h : xH) (r : Option Nat × xH) (e : f_X10_like a0 h = some r) : XM g DX10_like [.ref a0] h false (iN r) := YM.of rfl rfl (Nat.le_of_ble_eq_true rfl) (y_X10_like a0 h) e
def f_X10_can_J40 (s0 : Int32) (h : xH) : Option (Int32 × xH) :=
  if s0 = 0 ∨ s0 = 1 then some (s0, h) else none
theorem y_X10_can_J40 {g : xG} {h0 : xH} (s0 : Int32) (h : xH) : Y g DX10_can h0 false iI (f_X10_can_J40 s0 h) 40 [none, none, none] [.int s0] h := by
  unfold f_X10_can_J40
  exact Y.zreturn rfl dX10_can_40
def f_X10_can_J39 (h : xH) : Option (Int32 × xH) :=
  f_X10_can_J40 (0 : Int32) h
theorem y_X10_can_J39 {g : xG} {h0 : xH} (h : xH) : Y g DX10_can h0 false iI (f_X10_can_J39 h) 39 [none, none, none] [] h := by
  unfold f_X10_can_J39
  refine Y.op (pc' := 40) (fun _ => X.ic ki_0 dX10_can_39) ?_
  exact y_X10_can_J40 (0 : Int32) h
def f_X10_can (a0 : Nat) (p1 : Int32) (p2 : Int32) (h : xH) : Option (Int32 × xH) :=
  (gI h 10 a0 3).bind fun v1 =>
  if ((v1 >>> (p1 &&& 31)) &&& (1 : Int32)) = (1 : Int32) then
    (gI h 10 a0 4).bind fun v2 =>
    if ((v2 >>> (p2 &&& 31)) &&& (1 : Int32)) = (1 : Int32) then
      (gR h 10 a0 5).bind fun v3 =>
      (aR 102 h v3 p1).bind fun v4 =>
      (aI h v4 p2).bind fun v5 =>
      if v5 < (0 : Int32) then
        f_X10_can_J39 h
      else
        f_X10_can_J40 (1 : Int32) h
    else
      f_X10_can_J39 h
  else
    f_X10_can_J39 h
theorem y_X10_can {g : xG} {h0 : xH} (a0 : Nat) (p1 : Int32) (p2 : Int32) (h : xH) : Y g DX10_can h0 false iI (f_X10_can a0 p1 p2 h) 0 [some (.ref a0), some (.int p1), some (.int p2)] [] h := by
  unfold f_X10_can
  refine Y.op (pc' := 1) (fun _ => X.aloadn rfl dX10_can_0) ?_
  refine Y.getI fd_X10_20 rfl dX10_can_1 (fun v1 => ?_)
  refine Y.op (pc' := 5) (fun _ => X.iloadn rfl dX10_can_4) ?_
  refine Y.op (pc' := 6) (fun _ => X.ishr dX10_can_5) ?_
  refine Y.op (pc' := 7) (fun _ => X.ic ki_1 dX10_can_6) ?_
  refine Y.op (pc' := 8) (fun _ => X.iand dX10_can_7) ?_
  refine Y.op (pc' := 9) (fun _ => X.ic ki_1 dX10_can_8) ?_
  refine Y.cmpne 39 (by decide) dX10_can_9 ?_ ?_
  · exact Y.fg (y_X10_can_J39 h) trivial
  · refine Y.op (pc' := 13) (fun _ => X.aloadn rfl dX10_can_12) ?_
    refine Y.getI fd_X10_23 rfl dX10_can_13 (fun v2 => ?_)
    refine Y.op (pc' := 17) (fun _ => X.iloadn rfl dX10_can_16) ?_
    refine Y.op (pc' := 18) (fun _ => X.ishr dX10_can_17) ?_
    refine Y.op (pc' := 19) (fun _ => X.ic ki_1 dX10_can_18) ?_
    refine Y.op (pc' := 20) (fun _ => X.iand dX10_can_19) ?_
    refine Y.op (pc' := 21) (fun _ => X.ic ki_1 dX10_can_20) ?_
    refine Y.cmpne 39 (by decide) dX10_can_21 ?_ ?_
    · exact Y.fg (y_X10_can_J39 h) trivial
    · refine Y.op (pc' := 25) (fun _ => X.aloadn rfl dX10_can_24) ?_
      refine Y.getR fd_X10_28 rfl dX10_can_25 (fun v3 => ?_)
      refine Y.op (pc' := 29) (fun _ => X.iloadn rfl dX10_can_28) ?_
      refine Y.aldR 102 (by decide) (by decide) dX10_can_29 (fun v4 => ?_)
      refine Y.op (pc' := 31) (fun _ => X.iloadn rfl dX10_can_30) ?_
      refine Y.aldI dX10_can_31 (fun v5 => ?_)
      refine Y.iflt 39 (by decide) dX10_can_32 ?_ ?_
      · exact Y.fg (y_X10_can_J39 h) trivial
      · refine Y.op (pc' := 36) (fun _ => X.ic ki_1 dX10_can_35) ?_
        refine Y.op (pc' := 40) (fun _ => X.goto 40 (by decide) dX10_can_36) ?_
        exact Y.fg (y_X10_can_J40 (1 : Int32) h) trivial
theorem m_X10_can {g : xG} (a0 : Nat) (p1 : Int32) (p2 : Int32) (h : xH) (r : Int32 × xH) (e : f_X10_can a0 p1 p2 h = some r) : XM g DX10_can [.ref a0, .int p1, .int p2] h false (iI r) := YM.of rfl rfl (Nat.le_of_ble_eq_true rfl) (y_X10_can a0 p1 p2 h) e
def f_X10_owner_J28 (h : xH) : Option (Int32 × xH) :=
  some ((-1 : Int32), h)
theorem y_X10_owner_J28 {g : xG} {h0 : xH} (h : xH) : Y g DX10_owner h0 false iI (f_X10_owner_J28 h) 28 [none, none, none] [] h := by
  unfold f_X10_owner_J28
  refine Y.op (pc' := 29) (fun _ => X.ic ki_m1 dX10_owner_28) ?_
  exact Y.ireturn rfl dX10_owner_29
def f_X10_owner_J20 (x2 : Int32) (h : xH) : Option (Int32 × xH) :=
  some (x2, h)
theorem y_X10_owner_J20 {g : xG} {h0 : xH} (x2 : Int32) (h : xH) : Y g DX10_owner h0 false iI (f_X10_owner_J20 x2 h) 20 [none, none, some (.int x2)] [] h := by
  unfold f_X10_owner_J20
  refine Y.op (pc' := 21) (fun _ => X.iloadn rfl dX10_owner_20) ?_
  exact Y.ireturn rfl dX10_owner_21
def f_X10_owner_L2 (kE20 : Int32 → xH → Option (Int32 × xH)) (kE28 : xH → Option (Int32 × xH)) : Nat → Nat → Int32 → Int32 → xH → Option (Int32 × xH)
  | 0 => fun _ _ _ _ => none
  | n + 1 => fun x0 x1 x2 h =>
    (gI h 10 x0 0).bind fun v1 =>
    if x2 ≥ v1 then
      kE28 h
    else
      (gR h 10 x0 6).bind fun v2 =>
      (aI h v2 x2).bind fun v3 =>
      if v3 = x1 then
        kE20 x2 h
      else
        lt (x2 + (1 : Int32)) fun v4 =>
        f_X10_owner_L2 kE20 kE28 n x0 x1 v4 h
theorem y_X10_owner_L2 {g : xG} {h0 : xH} {kE20 : Int32 → xH → Option (Int32 × xH)} {kE28 : xH → Option (Int32 × xH)} (hkE20 : ∀ (x2 : Int32) (h : xH), Y g DX10_owner h0 false iI (kE20 x2 h) 20 [none, none, some (.int x2)] [] h) (hkE28 : ∀  (h : xH), Y g DX10_owner h0 false iI (kE28  h) 28 [none, none, none] [] h) : ∀ (n : Nat) (x0 : Nat) (x1 : Int32) (x2 : Int32) (h : xH), Y g DX10_owner h0 false iI (f_X10_owner_L2 kE20 kE28 n x0 x1 x2 h) 2 [some (.ref x0), some (.int x1), some (.int x2)] [] h := by
  intro n
  induction n with
  | zero => intro x0 x1 x2 h; exact Y.nothing
  | succ n ih =>
    intro x0 x1 x2 h
    unfold f_X10_owner_L2
    refine Y.op (pc' := 3) (fun _ => X.iloadn rfl dX10_owner_2) ?_
    refine Y.op (pc' := 4) (fun _ => X.aloadn rfl dX10_owner_3) ?_
    refine Y.getI fd_X10_7 rfl dX10_owner_4 (fun v1 => ?_)
    refine Y.cmpge 28 (by decide) dX10_owner_7 ?_ ?_
    · exact Y.fg (hkE28 h) trivial
    · refine Y.op (pc' := 11) (fun _ => X.aloadn rfl dX10_owner_10) ?_
      refine Y.getR fd_X10_31 rfl dX10_owner_11 (fun v2 => ?_)
      refine Y.op (pc' := 15) (fun _ => X.iloadn rfl dX10_owner_14) ?_
      refine Y.aldI dX10_owner_15 (fun v3 => ?_)
      refine Y.op (pc' := 17) (fun _ => X.iloadn rfl dX10_owner_16) ?_
      refine Y.cmpne 22 (by decide) dX10_owner_17 ?_ ?_
      · refine Y.iinc (i := 2) (loc' := fun v4 => [some (.ref x0), some (.int x1), some (.int v4)]) rfl (Nat.le_of_ble_eq_true rfl) ki_1 (fun _ => rfl) dX10_owner_22 (fun v4 => ?_)
        refine Y.op (pc' := 2) (fun _ => X.goto 2 (by decide) dX10_owner_25) ?_
        exact ih x0 x1 v4 h
      · exact Y.fg (hkE20 x2 h) (And.intro rfl trivial)
def f_X10_owner (a0 : Nat) (p1 : Int32) (h : xH) : Option (Int32 × xH) :=
  f_X10_owner_L2 (f_X10_owner_J20) (f_X10_owner_J28) 5000 a0 p1 (0 : Int32) h
theorem y_X10_owner {g : xG} {h0 : xH} (a0 : Nat) (p1 : Int32) (h : xH) : Y g DX10_owner h0 false iI (f_X10_owner a0 p1 h) 0 [some (.ref a0), some (.int p1), none] [] h := by
  unfold f_X10_owner
  refine Y.op (pc' := 1) (fun _ => X.ic ki_0 dX10_owner_0) ?_
  refine Y.op (pc' := 2) (loc' := [some (.ref a0), some (.int p1), some (.int (0 : Int32))]) (fun _ => X.istoren (Nat.le_of_ble_eq_true rfl) rfl dX10_owner_1) ?_
  exact y_X10_owner_L2 (y_X10_owner_J20) (y_X10_owner_J28) 5000 a0 p1 (0 : Int32) h
theorem m_X10_owner {g : xG} (a0 : Nat) (p1 : Int32) (h : xH) (r : Int32 × xH) (e : f_X10_owner a0 p1 h = some r) : XM g DX10_owner [.ref a0, .int p1] h false (iI r) := YM.of rfl rfl (Nat.le_of_ble_eq_true rfl) (y_X10_owner a0 p1 h) e
def f_X10_pairs_J30 (x1 : Int32) (h : xH) : Option (Int32 × xH) :=
  some (x1, h)
theorem y_X10_pairs_J30 {g : xG} {h0 : xH} (x1 : Int32) (h : xH) : Y g DX10_pairs h0 false iI (f_X10_pairs_J30 x1 h) 30 [none, some (.int x1), none] [] h := by
  unfold f_X10_pairs_J30
  refine Y.op (pc' := 31) (fun _ => X.iloadn rfl dX10_pairs_30) ?_
  exact Y.ireturn rfl dX10_pairs_31
def f_X10_pairs_J24 (kH : Nat → Int32 → Int32 → xH → Option (Int32 × xH)) (kE30 : Int32 → xH → Option (Int32 × xH)) (x0 : Nat) (x1 : Int32) (x2 : Int32) (h : xH) : Option (Int32 × xH) :=
  lt (x2 + (1 : Int32)) fun v1 =>
  kH x0 x1 v1 h
theorem y_X10_pairs_J24 {g : xG} {h0 : xH} {kH : Nat → Int32 → Int32 → xH → Option (Int32 × xH)} {kE30 : Int32 → xH → Option (Int32 × xH)} (hkH : ∀ (x0 : Nat) (x1 : Int32) (x2 : Int32) (h : xH), Y g DX10_pairs h0 false iI (kH x0 x1 x2 h) 4 [some (.ref x0), some (.int x1), some (.int x2)] [] h) (hkE30 : ∀ (x1 : Int32) (h : xH), Y g DX10_pairs h0 false iI (kE30 x1 h) 30 [none, some (.int x1), none] [] h) (x0 : Nat) (x1 : Int32) (x2 : Int32) (h : xH) : Y g DX10_pairs h0 false iI (f_X10_pairs_J24 kH kE30 x0 x1 x2 h) 24 [some (.ref x0), some (.int x1), some (.int x2)] [] h := by
  unfold f_X10_pairs_J24
  refine Y.iinc (i := 2) (loc' := fun v1 => [some (.ref x0), some (.int x1), some (.int v1)]) rfl (Nat.le_of_ble_eq_true rfl) ki_1 (fun _ => rfl) dX10_pairs_24 (fun v1 => ?_)
  refine Y.op (pc' := 4) (fun _ => X.goto 4 (by decide) dX10_pairs_27) ?_
  exact hkH x0 x1 v1 h
def f_X10_pairs_L4 (kE30 : Int32 → xH → Option (Int32 × xH)) : Nat → Nat → Int32 → Int32 → xH → Option (Int32 × xH)
  | 0 => fun _ _ _ _ => none
  | n + 1 => fun x0 x1 x2 h =>
    (gI h 10 x0 0).bind fun v1 =>
    if x2 ≥ v1 then
      kE30 x1 h
    else
      (gR h 10 x0 6).bind fun v2 =>
      (aI h v2 x2).bind fun v3 =>
      if v3 < (0 : Int32) then
        f_X10_pairs_J24 (f_X10_pairs_L4 kE30 n) kE30 x0 x1 x2 h
      else
        lt (x1 + (1 : Int32)) fun v4 =>
        f_X10_pairs_J24 (f_X10_pairs_L4 kE30 n) kE30 x0 v4 x2 h
theorem y_X10_pairs_L4 {g : xG} {h0 : xH} {kE30 : Int32 → xH → Option (Int32 × xH)} (hkE30 : ∀ (x1 : Int32) (h : xH), Y g DX10_pairs h0 false iI (kE30 x1 h) 30 [none, some (.int x1), none] [] h) : ∀ (n : Nat) (x0 : Nat) (x1 : Int32) (x2 : Int32) (h : xH), Y g DX10_pairs h0 false iI (f_X10_pairs_L4 kE30 n x0 x1 x2 h) 4 [some (.ref x0), some (.int x1), some (.int x2)] [] h := by
  intro n
  induction n with
  | zero => intro x0 x1 x2 h; exact Y.nothing
  | succ n ih =>
    intro x0 x1 x2 h
    unfold f_X10_pairs_L4
    refine Y.op (pc' := 5) (fun _ => X.iloadn rfl dX10_pairs_4) ?_
    refine Y.op (pc' := 6) (fun _ => X.aloadn rfl dX10_pairs_5) ?_
    refine Y.getI fd_X10_7 rfl dX10_pairs_6 (fun v1 => ?_)
    refine Y.cmpge 30 (by decide) dX10_pairs_9 ?_ ?_
    · exact Y.fg (hkE30 x1 h) (And.intro rfl trivial)
    · refine Y.op (pc' := 13) (fun _ => X.aloadn rfl dX10_pairs_12) ?_
      refine Y.getR fd_X10_31 rfl dX10_pairs_13 (fun v2 => ?_)
      refine Y.op (pc' := 17) (fun _ => X.iloadn rfl dX10_pairs_16) ?_
      refine Y.aldI dX10_pairs_17 (fun v3 => ?_)
      refine Y.iflt 24 (by decide) dX10_pairs_18 ?_ ?_
      · exact y_X10_pairs_J24 ih hkE30 x0 x1 x2 h
      · refine Y.iinc (i := 1) (loc' := fun v4 => [some (.ref x0), some (.int v4), some (.int x2)]) rfl (Nat.le_of_ble_eq_true rfl) ki_1 (fun _ => rfl) dX10_pairs_21 (fun v4 => ?_)
        exact y_X10_pairs_J24 ih hkE30 x0 v4 x2 h
def f_X10_pairs (a0 : Nat) (h : xH) : Option (Int32 × xH) :=
  f_X10_pairs_L4 (f_X10_pairs_J30) 5000 a0 (0 : Int32) (0 : Int32) h
theorem y_X10_pairs {g : xG} {h0 : xH} (a0 : Nat) (h : xH) : Y g DX10_pairs h0 false iI (f_X10_pairs a0 h) 0 [some (.ref a0), none, none] [] h := by
  unfold f_X10_pairs
  refine Y.op (pc' := 1) (fun _ => X.ic ki_0 dX10_pairs_0) ?_
  refine Y.op (pc' := 2) (loc' := [some (.ref a0), some (.int (0 : Int32)), none]) (fun _ => X.istoren (Nat.le_of_ble_eq_true rfl) rfl dX10_pairs_1) ?_
  refine Y.op (pc' := 3) (fun _ => X.ic ki_0 dX10_pairs_2) ?_
  refine Y.op (pc' := 4) (loc' := [some (.ref a0), some (.int (0 : Int32)), some (.int (0 : Int32))]) (fun _ => X.istoren (Nat.le_of_ble_eq_true rfl) rfl dX10_pairs_3) ?_
  exact y_X10_pairs_L4 (y_X10_pairs_J30) 5000 a0 (0 : Int32) (0 : Int32) h
theorem m_X10_pairs {g : xG} (a0 : Nat) (h : xH) (r : Int32 × xH) (e : f_X10_pairs a0 h = some r) : XM g DX10_pairs [.ref a0] h false (iI r) := YM.of rfl rfl (Nat.le_of_ble_eq_true rfl) (y_X10_pairs a0 h) e
def f_X10_most_J76 (rec : Nat → Int32 → Int32 → xH → Option (Int32 × xH)) (x3 : Int32) (h : xH) : Option (Int32 × xH) :=
  some (x3, h)
theorem y_X10_most_J76 {g : xG} {l : Nat} {h0 : xH} {rec : Nat → Int32 → Int32 → xH → Option (Int32 × xH)} (hrec : ∀ (a0 : Nat) (p1 : Int32) (p2 : Int32) (h : xH) (r : Int32 × xH), rec a0 p1 p2 h = some r → XM g (DX10_most (l + 1)) [.ref a0, .int p1, .int p2] h false (iI r)) (x3 : Int32) (h : xH) : Y g (DX10_most (l + 1 + 1)) h0 false iI (f_X10_most_J76 rec x3 h) 76 [none, none, none, some (.int x3), none] [] h := by
  unfold f_X10_most_J76
  refine Y.op (pc' := 77) (fun _ => X.iloadn rfl dX10_most_76) ?_
  exact Y.ireturn rfl dX10_most_77
def f_X10_most_J70 (rec : Nat → Int32 → Int32 → xH → Option (Int32 × xH)) (kH : Nat → Int32 → Int32 → Int32 → Int32 → xH → Option (Int32 × xH)) (kE76 : Int32 → xH → Option (Int32 × xH)) (x0 : Nat) (x1 : Int32) (x2 : Int32) (x3 : Int32) (x4 : Int32) (h : xH) : Option (Int32 × xH) :=
  lt (x4 + (1 : Int32)) fun v1 =>
  kH x0 x1 x2 x3 v1 h
theorem y_X10_most_J70 {g : xG} {l : Nat} {h0 : xH} {rec : Nat → Int32 → Int32 → xH → Option (Int32 × xH)} {kH : Nat → Int32 → Int32 → Int32 → Int32 → xH → Option (Int32 × xH)} {kE76 : Int32 → xH → Option (Int32 × xH)} (hrec : ∀ (a0 : Nat) (p1 : Int32) (p2 : Int32) (h : xH) (r : Int32 × xH), rec a0 p1 p2 h = some r → XM g (DX10_most (l + 1)) [.ref a0, .int p1, .int p2] h false (iI r)) (hkH : ∀ (x0 : Nat) (x1 : Int32) (x2 : Int32) (x3 : Int32) (x4 : Int32) (h : xH), Y g (DX10_most (l + 1 + 1)) h0 false iI (kH x0 x1 x2 x3 x4 h) 22 [some (.ref x0), some (.int x1), some (.int x2), some (.int x3), some (.int x4)] [] h) (hkE76 : ∀ (x3 : Int32) (h : xH), Y g (DX10_most (l + 1 + 1)) h0 false iI (kE76 x3 h) 76 [none, none, none, some (.int x3), none] [] h) (x0 : Nat) (x1 : Int32) (x2 : Int32) (x3 : Int32) (x4 : Int32) (h : xH) : Y g (DX10_most (l + 1 + 1)) h0 false iI (f_X10_most_J70 rec kH kE76 x0 x1 x2 x3 x4 h) 70 [some (.ref x0), some (.int x1), some (.int x2), some (.int x3), some (.int x4)] [] h := by
  unfold f_X10_most_J70
  refine Y.iinc (i := 4) (loc' := fun v1 => [some (.ref x0), some (.int x1), some (.int x2), some (.int x3), some (.int v1)]) rfl (Nat.le_of_ble_eq_true rfl) ki_1 (fun _ => rfl) dX10_most_70 (fun v1 => ?_)
  refine Y.op (pc' := 22) (fun _ => X.goto 22 (by decide) dX10_most_73) ?_
  exact hkH x0 x1 x2 x3 v1 h
def f_X10_most_L22 (rec : Nat → Int32 → Int32 → xH → Option (Int32 × xH)) (kE76 : Int32 → xH → Option (Int32 × xH)) : Nat → Nat → Int32 → Int32 → Int32 → Int32 → xH → Option (Int32 × xH)
  | 0 => fun _ _ _ _ _ _ => none
  | n + 1 => fun x0 x1 x2 x3 x4 h =>
    (gI h 10 x0 1).bind fun v1 =>
    if x4 ≥ v1 then
      kE76 x3 h
    else
      (vc h 10 x0 (f_X10_can x0 x1 x4 h)).bind fun r2 =>
      if r2.1 = (0 : Int32) then
        f_X10_most_J70 rec (f_X10_most_L22 rec kE76 n) kE76 x0 x1 x2 x3 x4 r2.2
      else
        if ((x2 >>> (x4 &&& 31)) &&& (1 : Int32)) = (0 : Int32) then
          (vc r2.2 10 x0 (rec x0 (x1 + (1 : Int32)) (x2 ||| ((1 : Int32) <<< (x4 &&& 31))) r2.2)).bind fun r3 =>
          lt ((imax x3 ((1 : Int32) + r3.1))) fun v4 =>
          f_X10_most_J70 rec (f_X10_most_L22 rec kE76 n) kE76 x0 x1 x2 v4 x4 r3.2
        else
          f_X10_most_J70 rec (f_X10_most_L22 rec kE76 n) kE76 x0 x1 x2 x3 x4 r2.2
theorem y_X10_most_L22 {g : xG} {l : Nat} {h0 : xH} {rec : Nat → Int32 → Int32 → xH → Option (Int32 × xH)} {kE76 : Int32 → xH → Option (Int32 × xH)} (hrec : ∀ (a0 : Nat) (p1 : Int32) (p2 : Int32) (h : xH) (r : Int32 × xH), rec a0 p1 p2 h = some r → XM g (DX10_most (l + 1)) [.ref a0, .int p1, .int p2] h false (iI r)) (hkE76 : ∀ (x3 : Int32) (h : xH), Y g (DX10_most (l + 1 + 1)) h0 false iI (kE76 x3 h) 76 [none, none, none, some (.int x3), none] [] h) : ∀ (n : Nat) (x0 : Nat) (x1 : Int32) (x2 : Int32) (x3 : Int32) (x4 : Int32) (h : xH), Y g (DX10_most (l + 1 + 1)) h0 false iI (f_X10_most_L22 rec kE76 n x0 x1 x2 x3 x4 h) 22 [some (.ref x0), some (.int x1), some (.int x2), some (.int x3), some (.int x4)] [] h := by
  intro n
  induction n with
  | zero => intro x0 x1 x2 x3 x4 h; exact Y.nothing
  | succ n ih =>
    intro x0 x1 x2 x3 x4 h
    unfold f_X10_most_L22
    refine Y.op (pc' := 24) (fun _ => X.iload rfl dX10_most_22) ?_
    refine Y.op (pc' := 25) (fun _ => X.aloadn rfl dX10_most_24) ?_
    refine Y.getI fd_X10_13 rfl dX10_most_25 (fun v1 => ?_)
    refine Y.cmpge 76 (by decide) dX10_most_28 ?_ ?_
    · exact Y.fg (hkE76 x3 h) (And.intro rfl trivial)
    · refine Y.op (pc' := 32) (fun _ => X.aloadn rfl dX10_most_31) ?_
      refine Y.op (pc' := 33) (fun _ => X.iloadn rfl dX10_most_32) ?_
      refine Y.op (pc' := 35) (fun _ => X.iload rfl dX10_most_33) ?_
      refine Y.callVi (As := [.int x1, .int x4]) lk_X10_48 rfl cal_X10_can vir_X10_can (by show 1 + 1 ≤ l + 1 + 1; omega) (Nat.le_of_ble_eq_true rfl) rfl rfl rfl (Nat.le_of_ble_eq_true rfl) dX10_most_35 (fun _ e => m_X10_can x0 x1 x4 h _ e) (fun r2 => ?_)
      refine Y.ifeq 70 (by decide) dX10_most_38 ?_ ?_
      · exact y_X10_most_J70 hrec ih hkE76 x0 x1 x2 x3 x4 r2.2
      · refine Y.op (pc' := 42) (fun _ => X.iloadn rfl dX10_most_41) ?_
        refine Y.op (pc' := 44) (fun _ => X.iload rfl dX10_most_42) ?_
        refine Y.op (pc' := 45) (fun _ => X.ishr dX10_most_44) ?_
        refine Y.op (pc' := 46) (fun _ => X.ic ki_1 dX10_most_45) ?_
        refine Y.op (pc' := 47) (fun _ => X.iand dX10_most_46) ?_
        refine Y.ifne 70 (by decide) dX10_most_47 ?_ ?_
        · exact y_X10_most_J70 hrec ih hkE76 x0 x1 x2 x3 x4 r2.2
        · refine Y.op (pc' := 51) (fun _ => X.iloadn rfl dX10_most_50) ?_
          refine Y.op (pc' := 52) (fun _ => X.ic ki_1 dX10_most_51) ?_
          refine Y.op (pc' := 53) (fun _ => X.aloadn rfl dX10_most_52) ?_
          refine Y.op (pc' := 54) (fun _ => X.iloadn rfl dX10_most_53) ?_
          refine Y.op (pc' := 55) (fun _ => X.ic ki_1 dX10_most_54) ?_
          refine Y.op (pc' := 56) (fun _ => X.iadd dX10_most_55) ?_
          refine Y.op (pc' := 57) (fun _ => X.iloadn rfl dX10_most_56) ?_
          refine Y.op (pc' := 58) (fun _ => X.ic ki_1 dX10_most_57) ?_
          refine Y.op (pc' := 60) (fun _ => X.iload rfl dX10_most_58) ?_
          refine Y.op (pc' := 61) (fun _ => X.ishl dX10_most_60) ?_
          refine Y.op (pc' := 62) (fun _ => X.ior dX10_most_61) ?_
          refine Y.callVi (As := [.int (x1 + (1 : Int32)), .int (x2 ||| ((1 : Int32) <<< (x4 &&& 31)))]) lk_X10_44 rfl (cal_X10_most _) (vir_X10_most _) (Nat.le_refl _) (Nat.le_of_ble_eq_true rfl) rfl rfl rfl (Nat.le_of_ble_eq_true rfl) dX10_most_62 (fun _ e => hrec x0 (x1 + (1 : Int32)) (x2 ||| ((1 : Int32) <<< (x4 &&& 31))) r2.2 _ e) (fun r3 => ?_)
          refine Y.op (pc' := 66) (fun _ => X.iadd dX10_most_65) ?_
          refine Y.mmax mw_X10_52 rfl (Nat.le_of_ble_eq_true rfl) (Nat.le_of_ble_eq_true rfl) dX10_most_66 ?_
          refine Y.top (fun v4 => ?_)
          refine Y.op (pc' := 70) (loc' := [some (.ref x0), some (.int x1), some (.int x2), some (.int v4), some (.int x4)]) (fun _ => X.istoren (Nat.le_of_ble_eq_true rfl) rfl dX10_most_69) ?_
          exact y_X10_most_J70 hrec ih hkE76 x0 x1 x2 v4 x4 r3.2
def f_X10_most_B (rec : Nat → Int32 → Int32 → xH → Option (Int32 × xH)) (a0 : Nat) (p1 : Int32) (p2 : Int32) (h : xH) : Option (Int32 × xH) :=
  (gI h 10 a0 0).bind fun v1 =>
  if p1 = v1 then
    some ((0 : Int32), h)
  else
    (vc h 10 a0 (rec a0 (p1 + (1 : Int32)) p2 h)).bind fun r2 =>
    f_X10_most_L22 rec (f_X10_most_J76 rec) 5000 a0 p1 p2 r2.1 (0 : Int32) r2.2
def f_X10_most : Nat → Nat → Int32 → Int32 → xH → Option (Int32 × xH)
  | 0 => fun _ _ _ _ => none
  | d + 1 => f_X10_most_B (f_X10_most d)
theorem y_X10_most {g : xG} {l : Nat} {h0 : xH} {rec : Nat → Int32 → Int32 → xH → Option (Int32 × xH)} (hrec : ∀ (a0 : Nat) (p1 : Int32) (p2 : Int32) (h : xH) (r : Int32 × xH), rec a0 p1 p2 h = some r → XM g (DX10_most (l + 1)) [.ref a0, .int p1, .int p2] h false (iI r)) (a0 : Nat) (p1 : Int32) (p2 : Int32) (h : xH) : Y g (DX10_most (l + 1 + 1)) h0 false iI (f_X10_most_B rec a0 p1 p2 h) 0 [some (.ref a0), some (.int p1), some (.int p2), none, none] [] h := by
  unfold f_X10_most_B
  refine Y.op (pc' := 1) (fun _ => X.iloadn rfl dX10_most_0) ?_
  refine Y.op (pc' := 2) (fun _ => X.aloadn rfl dX10_most_1) ?_
  refine Y.getI fd_X10_7 rfl dX10_most_2 (fun v1 => ?_)
  refine Y.cmpne 10 (by decide) dX10_most_5 ?_ ?_
  · refine Y.op (pc' := 11) (fun _ => X.aloadn rfl dX10_most_10) ?_
    refine Y.op (pc' := 12) (fun _ => X.iloadn rfl dX10_most_11) ?_
    refine Y.op (pc' := 13) (fun _ => X.ic ki_1 dX10_most_12) ?_
    refine Y.op (pc' := 14) (fun _ => X.iadd dX10_most_13) ?_
    refine Y.op (pc' := 15) (fun _ => X.iloadn rfl dX10_most_14) ?_
    refine Y.callVi (As := [.int (p1 + (1 : Int32)), .int p2]) lk_X10_44 rfl (cal_X10_most _) (vir_X10_most _) (Nat.le_refl _) (Nat.le_of_ble_eq_true rfl) rfl rfl rfl (Nat.le_of_ble_eq_true rfl) dX10_most_15 (fun _ e => hrec a0 (p1 + (1 : Int32)) p2 h _ e) (fun r2 => ?_)
    refine Y.op (pc' := 19) (loc' := [some (.ref a0), some (.int p1), some (.int p2), some (.int r2.1), none]) (fun _ => X.istoren (Nat.le_of_ble_eq_true rfl) rfl dX10_most_18) ?_
    refine Y.op (pc' := 20) (fun _ => X.ic ki_0 dX10_most_19) ?_
    refine Y.op (pc' := 22) (loc' := [some (.ref a0), some (.int p1), some (.int p2), some (.int r2.1), some (.int (0 : Int32))]) (fun _ => X.istore (Nat.le_of_ble_eq_true rfl) rfl dX10_most_20) ?_
    exact y_X10_most_L22 hrec (y_X10_most_J76 hrec) 5000 a0 p1 p2 r2.1 (0 : Int32) r2.2
  · refine Y.op (pc' := 9) (fun _ => X.ic ki_0 dX10_most_8) ?_
    exact Y.ireturn rfl dX10_most_9
theorem m_X10_most {g : xG} : ∀ (d : Nat) (a0 : Nat) (p1 : Int32) (p2 : Int32) (h : xH) (r : Int32 × xH), f_X10_most d a0 p1 p2 h = some r → XM g (DX10_most (d + 1)) [.ref a0, .int p1, .int p2] h false (iI r) := by
  intro d
  induction d with
  | zero => intro a0 p1 p2 h r e; cases e
  | succ d ih =>
    intro a0 p1 p2 h r e
    have e : f_X10_most_B (f_X10_most d) a0 p1 p2 h = some r := e
    rw [show d + 1 + 1 = d + 1 + 1 by omega]
    exact YM.of rfl rfl (Nat.le_of_ble_eq_true rfl) (y_X10_most (l := d) ih a0 p1 p2 h) e
def f_X10_all_J221 (rec : Nat → Int32 → Int32 → Int32 → xH → Option (Option Nat × xH)) (x4 : Nat) (h : xH) : Option (Option Nat × xH) :=
  some ((some x4), h)
theorem y_X10_all_J221 {g : xG} {l : Nat} {h0 : xH} {rec : Nat → Int32 → Int32 → Int32 → xH → Option (Option Nat × xH)} (hrec : ∀ (a0 : Nat) (p1 : Int32) (p2 : Int32) (p3 : Int32) (h : xH) (r : Option Nat × xH), rec a0 p1 p2 p3 h = some r → XM g (DX10_all (l + 1)) [.ref a0, .int p1, .int p2, .int p3] h false (iN r)) (x4 : Nat) (h : xH) : Y g (DX10_all (l + 1 + 1)) h0 false iN (f_X10_all_J221 rec x4 h) 221 [none, none, none, none, some (.ref x4), none, none, none, none] [] h := by
  unfold f_X10_all_J221
  refine Y.op (pc' := 223) (fun _ => X.aload rfl dX10_all_221) ?_
  exact Y.areturnA rfl ⟨_, rfl⟩ dX10_all_223
def f_X10_all_J215 (rec : Nat → Int32 → Int32 → Int32 → xH → Option (Option Nat × xH)) (kH : Nat → Int32 → Int32 → Int32 → Nat → Int32 → xH → Option (Option Nat × xH)) (kE221 : Nat → xH → Option (Option Nat × xH)) (x0 : Nat) (x1 : Int32) (x2 : Int32) (x3 : Int32) (x4 : Nat) (x5 : Int32) (h : xH) : Option (Option Nat × xH) :=
  lt (x5 + (1 : Int32)) fun v1 =>
  kH x0 x1 x2 x3 x4 v1 h
theorem y_X10_all_J215 {g : xG} {l : Nat} {h0 : xH} {rec : Nat → Int32 → Int32 → Int32 → xH → Option (Option Nat × xH)} {kH : Nat → Int32 → Int32 → Int32 → Nat → Int32 → xH → Option (Option Nat × xH)} {kE221 : Nat → xH → Option (Option Nat × xH)} (hrec : ∀ (a0 : Nat) (p1 : Int32) (p2 : Int32) (p3 : Int32) (h : xH) (r : Option Nat × xH), rec a0 p1 p2 p3 h = some r → XM g (DX10_all (l + 1)) [.ref a0, .int p1, .int p2, .int p3] h false (iN r)) (hkH : ∀ (x0 : Nat) (x1 : Int32) (x2 : Int32) (x3 : Int32) (x4 : Nat) (x5 : Int32) (h : xH), Y g (DX10_all (l + 1 + 1)) h0 false iN (kH x0 x1 x2 x3 x4 x5 h) 64 [some (.ref x0), some (.int x1), some (.int x2), some (.int x3), some (.ref x4), some (.int x5), none, none, none] [] h) (hkE221 : ∀ (x4 : Nat) (h : xH), Y g (DX10_all (l + 1 + 1)) h0 false iN (kE221 x4 h) 221 [none, none, none, none, some (.ref x4), none, none, none, none] [] h) (x0 : Nat) (x1 : Int32) (x2 : Int32) (x3 : Int32) (x4 : Nat) (x5 : Int32) (h : xH) : Y g (DX10_all (l + 1 + 1)) h0 false iN (f_X10_all_J215 rec kH kE221 x0 x1 x2 x3 x4 x5 h) 215 [some (.ref x0), some (.int x1), some (.int x2), some (.int x3), some (.ref x4), some (.int x5), none, none, none] [] h := by
  unfold f_X10_all_J215
  refine Y.iinc (i := 5) (loc' := fun v1 => [some (.ref x0), some (.int x1), some (.int x2), some (.int x3), some (.ref x4), some (.int v1), none, none, none]) rfl (Nat.le_of_ble_eq_true rfl) ki_1 (fun _ => rfl) dX10_all_215 (fun v1 => ?_)
  refine Y.op (pc' := 64) (fun _ => X.goto 64 (by decide) dX10_all_218) ?_
  exact hkH x0 x1 x2 x3 x4 v1 h
def f_X10_all_J177 (rec : Nat → Int32 → Int32 → Int32 → xH → Option (Option Nat × xH)) (kH : Nat → Int32 → Int32 → Int32 → Nat → Int32 → xH → Option (Option Nat × xH)) (kE221 : Nat → xH → Option (Option Nat × xH)) (x0 : Nat) (x1 : Int32) (x2 : Int32) (x3 : Int32) (x4 : Nat) (x5 : Int32) (x6 : Nat) (x7 : Int64) (h : xH) : Option (Option Nat × xH) :=
  (sJ h x4 (1 : Int32) x7).bind fun h1 =>
  (aJ h1 x6 (2 : Int32)).bind fun v2 =>
  (sJ h1 x4 (2 : Int32) v2).bind fun h3 =>
  f_X10_all_J215 rec (kH) kE221 x0 x1 x2 x3 x4 x5 h3
theorem y_X10_all_J177 {g : xG} {l : Nat} {h0 : xH} {rec : Nat → Int32 → Int32 → Int32 → xH → Option (Option Nat × xH)} {kH : Nat → Int32 → Int32 → Int32 → Nat → Int32 → xH → Option (Option Nat × xH)} {kE221 : Nat → xH → Option (Option Nat × xH)} (hrec : ∀ (a0 : Nat) (p1 : Int32) (p2 : Int32) (p3 : Int32) (h : xH) (r : Option Nat × xH), rec a0 p1 p2 p3 h = some r → XM g (DX10_all (l + 1)) [.ref a0, .int p1, .int p2, .int p3] h false (iN r)) (hkH : ∀ (x0 : Nat) (x1 : Int32) (x2 : Int32) (x3 : Int32) (x4 : Nat) (x5 : Int32) (h : xH), Y g (DX10_all (l + 1 + 1)) h0 false iN (kH x0 x1 x2 x3 x4 x5 h) 64 [some (.ref x0), some (.int x1), some (.int x2), some (.int x3), some (.ref x4), some (.int x5), none, none, none] [] h) (hkE221 : ∀ (x4 : Nat) (h : xH), Y g (DX10_all (l + 1 + 1)) h0 false iN (kE221 x4 h) 221 [none, none, none, none, some (.ref x4), none, none, none, none] [] h) (x0 : Nat) (x1 : Int32) (x2 : Int32) (x3 : Int32) (x4 : Nat) (x5 : Int32) (x6 : Nat) (x7 : Int64) (h : xH) : Y g (DX10_all (l + 1 + 1)) h0 false iN (f_X10_all_J177 rec kH kE221 x0 x1 x2 x3 x4 x5 x6 x7 h) 177 [some (.ref x0), some (.int x1), some (.int x2), some (.int x3), some (.ref x4), some (.int x5), some (.ref x6), some (.long x7), none] [] h := by
  unfold f_X10_all_J177
  refine Y.op (pc' := 179) (fun _ => X.aload rfl dX10_all_177) ?_
  refine Y.op (pc' := 180) (fun _ => X.ic ki_1 dX10_all_179) ?_
  refine Y.op (pc' := 182) (fun _ => X.lload rfl dX10_all_180) ?_
  refine Y.astJ dX10_all_182 (fun h1 => ?_)
  refine Y.op (pc' := 185) (fun _ => X.aload rfl dX10_all_183) ?_
  refine Y.op (pc' := 186) (fun _ => X.ic ki_2 dX10_all_185) ?_
  refine Y.op (pc' := 188) (fun _ => X.aload rfl dX10_all_186) ?_
  refine Y.op (pc' := 189) (fun _ => X.ic ki_2 dX10_all_188) ?_
  refine Y.aldJ dX10_all_189 (fun v2 => ?_)
  refine Y.astJ dX10_all_190 (fun h3 => ?_)
  refine Y.op (pc' := 215) (fun _ => X.goto 215 (by decide) dX10_all_191) ?_
  exact Y.fg (y_X10_all_J215 hrec hkH hkE221 x0 x1 x2 x3 x4 x5 h3) (And.intro rfl (And.intro rfl (And.intro rfl (And.intro rfl (And.intro rfl (And.intro rfl trivial))))))
def f_X10_all_L64 (rec : Nat → Int32 → Int32 → Int32 → xH → Option (Option Nat × xH)) (kE221 : Nat → xH → Option (Option Nat × xH)) : Nat → Nat → Int32 → Int32 → Int32 → Nat → Int32 → xH → Option (Option Nat × xH)
  | 0 => fun _ _ _ _ _ _ _ => none
  | n + 1 => fun x0 x1 x2 x3 x4 x5 h =>
    (gI h 10 x0 1).bind fun v1 =>
    if x5 ≥ v1 then
      kE221 x4 h
    else
      if x3 ≤ (0 : Int32) then
        kE221 x4 h
      else
        (vc h 10 x0 (f_X10_can x0 x1 x5 h)).bind fun r2 =>
        if r2.1 = (0 : Int32) then
          f_X10_all_J215 rec (f_X10_all_L64 rec kE221 n) kE221 x0 x1 x2 x3 x4 x5 r2.2
        else
          if ((x2 >>> (x5 &&& 31)) &&& (1 : Int32)) = (1 : Int32) then
            f_X10_all_J215 rec (f_X10_all_L64 rec kE221 n) kE221 x0 x1 x2 x3 x4 x5 r2.2
          else
            (vc r2.2 10 x0 (rec x0 (x1 + (1 : Int32)) (x2 ||| ((1 : Int32) <<< (x5 &&& 31))) (x3 - (1 : Int32)) r2.2)).bind fun r3 =>
            (r3.1).bind fun b4 =>
            (aJ r3.2 x4 (0 : Int32)).bind fun v5 =>
            (aJ r3.2 b4 (0 : Int32)).bind fun v6 =>
            (sJ r3.2 x4 (0 : Int32) (v5 + v6)).bind fun h7 =>
            (aJ h7 b4 (2 : Int32)).bind fun v8 =>
            if (lg_cmp v8 (0 : Int64)) = (0 : Int32) then
              f_X10_all_J215 rec (f_X10_all_L64 rec kE221 n) kE221 x0 x1 x2 x3 x4 x5 h7
            else
              (aJ h7 b4 (1 : Int32)).bind fun v9 =>
              (gR h7 10 x0 5).bind fun v10 =>
              (aR 102 h7 v10 x1).bind fun v11 =>
              (aI h7 v11 x5).bind fun v12 =>
              lt ((v9 + v12.toInt64)) fun v13 =>
              (aJ h7 x4 (1 : Int32)).bind fun v14 =>
              if (lg_cmp v13 v14) < (0 : Int32) then
                f_X10_all_J177 rec (f_X10_all_L64 rec kE221 n) kE221 x0 x1 x2 x3 x4 x5 b4 v13 h7
              else
                (aJ h7 x4 (2 : Int32)).bind fun v15 =>
                if (lg_cmp v15 (0 : Int64)) = (0 : Int32) then
                  f_X10_all_J177 rec (f_X10_all_L64 rec kE221 n) kE221 x0 x1 x2 x3 x4 x5 b4 v13 h7
                else
                  (aJ h7 x4 (1 : Int32)).bind fun v16 =>
                  if (lg_cmp v13 v16) = (0 : Int32) then
                    (aJ h7 x4 (2 : Int32)).bind fun v17 =>
                    (aJ h7 b4 (2 : Int32)).bind fun v18 =>
                    (sJ h7 x4 (2 : Int32) (v17 + v18)).bind fun h19 =>
                    f_X10_all_J215 rec (f_X10_all_L64 rec kE221 n) kE221 x0 x1 x2 x3 x4 x5 h19
                  else
                    f_X10_all_J215 rec (f_X10_all_L64 rec kE221 n) kE221 x0 x1 x2 x3 x4 x5 h7
theorem y_X10_all_L64 {g : xG} {l : Nat} {h0 : xH} {rec : Nat → Int32 → Int32 → Int32 → xH → Option (Option Nat × xH)} {kE221 : Nat → xH → Option (Option Nat × xH)} (hrec : ∀ (a0 : Nat) (p1 : Int32) (p2 : Int32) (p3 : Int32) (h : xH) (r : Option Nat × xH), rec a0 p1 p2 p3 h = some r → XM g (DX10_all (l + 1)) [.ref a0, .int p1, .int p2, .int p3] h false (iN r)) (hkE221 : ∀ (x4 : Nat) (h : xH), Y g (DX10_all (l + 1 + 1)) h0 false iN (kE221 x4 h) 221 [none, none, none, none, some (.ref x4), none, none, none, none] [] h) : ∀ (n : Nat) (x0 : Nat) (x1 : Int32) (x2 : Int32) (x3 : Int32) (x4 : Nat) (x5 : Int32) (h : xH), Y g (DX10_all (l + 1 + 1)) h0 false iN (f_X10_all_L64 rec kE221 n x0 x1 x2 x3 x4 x5 h) 64 [some (.ref x0), some (.int x1), some (.int x2), some (.int x3), some (.ref x4), some (.int x5), none, none, none] [] h := by
  intro n
  induction n with
  | zero => intro x0 x1 x2 x3 x4 x5 h; exact Y.nothing
  | succ n ih =>
    intro x0 x1 x2 x3 x4 x5 h
    unfold f_X10_all_L64
    refine Y.op (pc' := 66) (fun _ => X.iload rfl dX10_all_64) ?_
    refine Y.op (pc' := 67) (fun _ => X.aloadn rfl dX10_all_66) ?_
    refine Y.getI fd_X10_13 rfl dX10_all_67 (fun v1 => ?_)
    refine Y.cmpge 221 (by decide) dX10_all_70 ?_ ?_
    · exact Y.fg (hkE221 x4 h) (And.intro rfl trivial)
    · refine Y.op (pc' := 74) (fun _ => X.iloadn rfl dX10_all_73) ?_
      refine Y.ifle 221 (by decide) dX10_all_74 ?_ ?_
      · exact Y.fg (hkE221 x4 h) (And.intro rfl trivial)
      · refine Y.op (pc' := 78) (fun _ => X.aloadn rfl dX10_all_77) ?_
        refine Y.op (pc' := 79) (fun _ => X.iloadn rfl dX10_all_78) ?_
        refine Y.op (pc' := 81) (fun _ => X.iload rfl dX10_all_79) ?_
        refine Y.callVi (As := [.int x1, .int x5]) lk_X10_48 rfl cal_X10_can vir_X10_can (by show 1 + 1 ≤ l + 1 + 1; omega) (Nat.le_of_ble_eq_true rfl) rfl rfl rfl (Nat.le_of_ble_eq_true rfl) dX10_all_81 (fun _ e => m_X10_can x0 x1 x5 h _ e) (fun r2 => ?_)
        refine Y.ifeq 215 (by decide) dX10_all_84 ?_ ?_
        · exact y_X10_all_J215 hrec ih hkE221 x0 x1 x2 x3 x4 x5 r2.2
        · refine Y.op (pc' := 88) (fun _ => X.iloadn rfl dX10_all_87) ?_
          refine Y.op (pc' := 90) (fun _ => X.iload rfl dX10_all_88) ?_
          refine Y.op (pc' := 91) (fun _ => X.ishr dX10_all_90) ?_
          refine Y.op (pc' := 92) (fun _ => X.ic ki_1 dX10_all_91) ?_
          refine Y.op (pc' := 93) (fun _ => X.iand dX10_all_92) ?_
          refine Y.op (pc' := 94) (fun _ => X.ic ki_1 dX10_all_93) ?_
          refine Y.cmpne 100 (by decide) dX10_all_94 ?_ ?_
          · refine Y.op (pc' := 101) (fun _ => X.aloadn rfl dX10_all_100) ?_
            refine Y.op (pc' := 102) (fun _ => X.iloadn rfl dX10_all_101) ?_
            refine Y.op (pc' := 103) (fun _ => X.ic ki_1 dX10_all_102) ?_
            refine Y.op (pc' := 104) (fun _ => X.iadd dX10_all_103) ?_
            refine Y.op (pc' := 105) (fun _ => X.iloadn rfl dX10_all_104) ?_
            refine Y.op (pc' := 106) (fun _ => X.ic ki_1 dX10_all_105) ?_
            refine Y.op (pc' := 108) (fun _ => X.iload rfl dX10_all_106) ?_
            refine Y.op (pc' := 109) (fun _ => X.ishl dX10_all_108) ?_
            refine Y.op (pc' := 110) (fun _ => X.ior dX10_all_109) ?_
            refine Y.op (pc' := 111) (fun _ => X.iloadn rfl dX10_all_110) ?_
            refine Y.op (pc' := 112) (fun _ => X.ic ki_1 dX10_all_111) ?_
            refine Y.op (pc' := 113) (fun _ => X.isub dX10_all_112) ?_
            refine Y.callVn (As := [.int (x1 + (1 : Int32)), .int (x2 ||| ((1 : Int32) <<< (x5 &&& 31))), .int (x3 - (1 : Int32))]) lk_X10_59 rfl (cal_X10_all _) (vir_X10_all _) (Nat.le_refl _) (Nat.le_of_ble_eq_true rfl) rfl rfl rfl (Nat.le_of_ble_eq_true rfl) dX10_all_113 (fun _ e => hrec x0 (x1 + (1 : Int32)) (x2 ||| ((1 : Int32) <<< (x5 &&& 31))) (x3 - (1 : Int32)) r2.2 _ e) (fun r3 => ?_)
            refine Y.un (fun b4 => ?_)
            refine Y.op (pc' := 118) (loc' := [some (.ref x0), some (.int x1), some (.int x2), some (.int x3), some (.ref x4), some (.int x5), some (.ref b4), none, none]) (fun _ => X.astore (Nat.le_of_ble_eq_true rfl) rfl dX10_all_116) ?_
            refine Y.op (pc' := 120) (fun _ => X.aload rfl dX10_all_118) ?_
            refine Y.op (pc' := 121) (fun _ => X.ic ki_0 dX10_all_120) ?_
            refine Y.op (pc' := 122) (fun _ => X.dup2 rfl rfl dX10_all_121) ?_
            refine Y.aldJ dX10_all_122 (fun v5 => ?_)
            refine Y.op (pc' := 125) (fun _ => X.aload rfl dX10_all_123) ?_
            refine Y.op (pc' := 126) (fun _ => X.ic ki_0 dX10_all_125) ?_
            refine Y.aldJ dX10_all_126 (fun v6 => ?_)
            refine Y.op (pc' := 128) (fun _ => X.ladd dX10_all_127) ?_
            refine Y.astJ dX10_all_128 (fun h7 => ?_)
            refine Y.op (pc' := 131) (fun _ => X.aload rfl dX10_all_129) ?_
            refine Y.op (pc' := 132) (fun _ => X.ic ki_2 dX10_all_131) ?_
            refine Y.aldJ dX10_all_132 (fun v8 => ?_)
            refine Y.op (pc' := 134) (fun _ => X.lc kl_0 dX10_all_133) ?_
            refine Y.op (pc' := 135) (fun _ => X.lcmp dX10_all_134) ?_
            refine Y.ifne 141 (by decide) dX10_all_135 ?_ ?_
            · refine Y.op (pc' := 143) (fun _ => X.aload rfl dX10_all_141) ?_
              refine Y.op (pc' := 144) (fun _ => X.ic ki_1 dX10_all_143) ?_
              refine Y.aldJ dX10_all_144 (fun v9 => ?_)
              refine Y.op (pc' := 146) (fun _ => X.aloadn rfl dX10_all_145) ?_
              refine Y.getR fd_X10_28 rfl dX10_all_146 (fun v10 => ?_)
              refine Y.op (pc' := 150) (fun _ => X.iloadn rfl dX10_all_149) ?_
              refine Y.aldR 102 (by decide) (by decide) dX10_all_150 (fun v11 => ?_)
              refine Y.op (pc' := 153) (fun _ => X.iload rfl dX10_all_151) ?_
              refine Y.aldI dX10_all_153 (fun v12 => ?_)
              refine Y.op (pc' := 155) (fun _ => X.i2l dX10_all_154) ?_
              refine Y.op (pc' := 156) (fun _ => X.ladd dX10_all_155) ?_
              refine Y.topl (fun v13 => ?_)
              refine Y.op (pc' := 158) (loc' := [some (.ref x0), some (.int x1), some (.int x2), some (.int x3), some (.ref x4), some (.int x5), some (.ref b4), some (.long v13), none]) (fun _ => X.lstore (Nat.le_of_ble_eq_true rfl) rfl dX10_all_156) ?_
              refine Y.op (pc' := 160) (fun _ => X.lload rfl dX10_all_158) ?_
              refine Y.op (pc' := 162) (fun _ => X.aload rfl dX10_all_160) ?_
              refine Y.op (pc' := 163) (fun _ => X.ic ki_1 dX10_all_162) ?_
              refine Y.aldJ dX10_all_163 (fun v14 => ?_)
              refine Y.op (pc' := 165) (fun _ => X.lcmp dX10_all_164) ?_
              refine Y.iflt 177 (by decide) dX10_all_165 ?_ ?_
              · exact y_X10_all_J177 hrec ih hkE221 x0 x1 x2 x3 x4 x5 b4 v13 h7
              · refine Y.op (pc' := 170) (fun _ => X.aload rfl dX10_all_168) ?_
                refine Y.op (pc' := 171) (fun _ => X.ic ki_2 dX10_all_170) ?_
                refine Y.aldJ dX10_all_171 (fun v15 => ?_)
                refine Y.op (pc' := 173) (fun _ => X.lc kl_0 dX10_all_172) ?_
                refine Y.op (pc' := 174) (fun _ => X.lcmp dX10_all_173) ?_
                refine Y.ifne 194 (by decide) dX10_all_174 ?_ ?_
                · refine Y.op (pc' := 196) (fun _ => X.lload rfl dX10_all_194) ?_
                  refine Y.op (pc' := 198) (fun _ => X.aload rfl dX10_all_196) ?_
                  refine Y.op (pc' := 199) (fun _ => X.ic ki_1 dX10_all_198) ?_
                  refine Y.aldJ dX10_all_199 (fun v16 => ?_)
                  refine Y.op (pc' := 201) (fun _ => X.lcmp dX10_all_200) ?_
                  refine Y.ifne 215 (by decide) dX10_all_201 ?_ ?_
                  · exact Y.fg (y_X10_all_J215 hrec ih hkE221 x0 x1 x2 x3 x4 x5 h7) (And.intro rfl (And.intro rfl (And.intro rfl (And.intro rfl (And.intro rfl (And.intro rfl trivial))))))
                  · refine Y.op (pc' := 206) (fun _ => X.aload rfl dX10_all_204) ?_
                    refine Y.op (pc' := 207) (fun _ => X.ic ki_2 dX10_all_206) ?_
                    refine Y.op (pc' := 208) (fun _ => X.dup2 rfl rfl dX10_all_207) ?_
                    refine Y.aldJ dX10_all_208 (fun v17 => ?_)
                    refine Y.op (pc' := 211) (fun _ => X.aload rfl dX10_all_209) ?_
                    refine Y.op (pc' := 212) (fun _ => X.ic ki_2 dX10_all_211) ?_
                    refine Y.aldJ dX10_all_212 (fun v18 => ?_)
                    refine Y.op (pc' := 214) (fun _ => X.ladd dX10_all_213) ?_
                    refine Y.astJ dX10_all_214 (fun h19 => ?_)
                    exact Y.fg (y_X10_all_J215 hrec ih hkE221 x0 x1 x2 x3 x4 x5 h19) (And.intro rfl (And.intro rfl (And.intro rfl (And.intro rfl (And.intro rfl (And.intro rfl trivial))))))
                · exact y_X10_all_J177 hrec ih hkE221 x0 x1 x2 x3 x4 x5 b4 v13 h7
            · refine Y.op (pc' := 215) (fun _ => X.goto 215 (by decide) dX10_all_138) ?_
              exact Y.fg (y_X10_all_J215 hrec ih hkE221 x0 x1 x2 x3 x4 x5 h7) (And.intro rfl (And.intro rfl (And.intro rfl (And.intro rfl (And.intro rfl (And.intro rfl trivial))))))
          · refine Y.op (pc' := 215) (fun _ => X.goto 215 (by decide) dX10_all_97) ?_
            exact y_X10_all_J215 hrec ih hkE221 x0 x1 x2 x3 x4 x5 r2.2
def f_X10_all_J48 (rec : Nat → Int32 → Int32 → Int32 → xH → Option (Option Nat × xH)) (s0 : Nat) (s1 : Nat) (s2 : Int32) (s3 : Int64) (h : xH) : Option (Option Nat × xH) :=
  (sJ h s1 s2 s3).bind fun h1 =>
  some ((some s0), h1)
theorem y_X10_all_J48 {g : xG} {l : Nat} {h0 : xH} {rec : Nat → Int32 → Int32 → Int32 → xH → Option (Option Nat × xH)} (hrec : ∀ (a0 : Nat) (p1 : Int32) (p2 : Int32) (p3 : Int32) (h : xH) (r : Option Nat × xH), rec a0 p1 p2 p3 h = some r → XM g (DX10_all (l + 1)) [.ref a0, .int p1, .int p2, .int p3] h false (iN r)) (s0 : Nat) (s1 : Nat) (s2 : Int32) (s3 : Int64) (h : xH) : Y g (DX10_all (l + 1 + 1)) h0 false iN (f_X10_all_J48 rec s0 s1 s2 s3 h) 48 [none, none, none, none, none, none, none, none, none] [.long s3, .int s2, .ref s1, .ref s0] h := by
  unfold f_X10_all_J48
  refine Y.astJ dX10_all_48 (fun h1 => ?_)
  exact Y.areturnA rfl ⟨_, rfl⟩ dX10_all_49
def f_X10_all_J36 (rec : Nat → Int32 → Int32 → Int32 → xH → Option (Option Nat × xH)) (x3 : Int32) (s0 : Nat) (s1 : Nat) (s2 : Int32) (s3 : Int64) (h : xH) : Option (Option Nat × xH) :=
  (sJ h s1 s2 s3).bind fun h1 =>
  if x3 = (0 : Int32) then
    f_X10_all_J48 rec s0 s0 (2 : Int32) (1 : Int64) h1
  else
    f_X10_all_J48 rec s0 s0 (2 : Int32) (0 : Int64) h1
theorem y_X10_all_J36 {g : xG} {l : Nat} {h0 : xH} {rec : Nat → Int32 → Int32 → Int32 → xH → Option (Option Nat × xH)} (hrec : ∀ (a0 : Nat) (p1 : Int32) (p2 : Int32) (p3 : Int32) (h : xH) (r : Option Nat × xH), rec a0 p1 p2 p3 h = some r → XM g (DX10_all (l + 1)) [.ref a0, .int p1, .int p2, .int p3] h false (iN r)) (x3 : Int32) (s0 : Nat) (s1 : Nat) (s2 : Int32) (s3 : Int64) (h : xH) : Y g (DX10_all (l + 1 + 1)) h0 false iN (f_X10_all_J36 rec x3 s0 s1 s2 s3 h) 36 [none, none, none, some (.int x3), none, none, none, none, none] [.long s3, .int s2, .ref s1, .ref s0] h := by
  unfold f_X10_all_J36
  refine Y.astJ dX10_all_36 (fun h1 => ?_)
  refine Y.op (pc' := 38) (fun _ => X.dup rfl dX10_all_37) ?_
  refine Y.op (pc' := 39) (fun _ => X.ic ki_2 dX10_all_38) ?_
  refine Y.op (pc' := 40) (fun _ => X.iloadn rfl dX10_all_39) ?_
  refine Y.ifne 47 (by decide) dX10_all_40 ?_ ?_
  · refine Y.op (pc' := 48) (fun _ => X.lc kl_0 dX10_all_47) ?_
    exact Y.fg (y_X10_all_J48 hrec s0 s0 (2 : Int32) (0 : Int64) h1) trivial
  · refine Y.op (pc' := 44) (fun _ => X.lc kl_1 dX10_all_43) ?_
    refine Y.op (pc' := 48) (fun _ => X.goto 48 (by decide) dX10_all_44) ?_
    exact Y.fg (y_X10_all_J48 hrec s0 s0 (2 : Int32) (1 : Int64) h1) trivial
def f_X10_all_J22 (rec : Nat → Int32 → Int32 → Int32 → xH → Option (Option Nat × xH)) (x3 : Int32) (s0 : Nat) (s1 : Nat) (s2 : Int32) (s3 : Int64) (h : xH) : Option (Option Nat × xH) :=
  (sJ h s1 s2 s3).bind fun h1 =>
  if x3 = (0 : Int32) then
    f_X10_all_J36 rec x3 s0 s0 (1 : Int32) (0 : Int64) h1
  else
    f_X10_all_J36 rec x3 s0 s0 (1 : Int32) (99999 : Int64) h1
theorem y_X10_all_J22 {g : xG} {l : Nat} {h0 : xH} {rec : Nat → Int32 → Int32 → Int32 → xH → Option (Option Nat × xH)} (hrec : ∀ (a0 : Nat) (p1 : Int32) (p2 : Int32) (p3 : Int32) (h : xH) (r : Option Nat × xH), rec a0 p1 p2 p3 h = some r → XM g (DX10_all (l + 1)) [.ref a0, .int p1, .int p2, .int p3] h false (iN r)) (x3 : Int32) (s0 : Nat) (s1 : Nat) (s2 : Int32) (s3 : Int64) (h : xH) : Y g (DX10_all (l + 1 + 1)) h0 false iN (f_X10_all_J22 rec x3 s0 s1 s2 s3 h) 22 [none, none, none, some (.int x3), none, none, none, none, none] [.long s3, .int s2, .ref s1, .ref s0] h := by
  unfold f_X10_all_J22
  refine Y.astJ dX10_all_22 (fun h1 => ?_)
  refine Y.op (pc' := 24) (fun _ => X.dup rfl dX10_all_23) ?_
  refine Y.op (pc' := 25) (fun _ => X.ic ki_1 dX10_all_24) ?_
  refine Y.op (pc' := 26) (fun _ => X.iloadn rfl dX10_all_25) ?_
  refine Y.ifne 33 (by decide) dX10_all_26 ?_ ?_
  · refine Y.op (pc' := 36) (fun _ => X.ldcL wl_X10_57 rfl dX10_all_33) ?_
    exact y_X10_all_J36 hrec x3 s0 s0 (1 : Int32) (99999 : Int64) h1
  · refine Y.op (pc' := 30) (fun _ => X.lc kl_0 dX10_all_29) ?_
    refine Y.op (pc' := 36) (fun _ => X.goto 36 (by decide) dX10_all_30) ?_
    exact y_X10_all_J36 hrec x3 s0 s0 (1 : Int32) (0 : Int64) h1
def f_X10_all_B (rec : Nat → Int32 → Int32 → Int32 → xH → Option (Option Nat × xH)) (a0 : Nat) (p1 : Int32) (p2 : Int32) (p3 : Int32) (h : xH) : Option (Option Nat × xH) :=
  (gI h 10 a0 0).bind fun v1 =>
  if p1 = v1 then
    (nwJ h (3 : Int32)).bind fun r4 =>
    if p3 = (0 : Int32) then
      f_X10_all_J22 rec p3 r4.1 r4.1 (0 : Int32) (1 : Int64) r4.2
    else
      f_X10_all_J22 rec p3 r4.1 r4.1 (0 : Int32) (0 : Int64) r4.2
  else
    (vc h 10 a0 (rec a0 (p1 + (1 : Int32)) p2 p3 h)).bind fun r2 =>
    (r2.1).bind fun b3 =>
    f_X10_all_L64 rec (f_X10_all_J221 rec) 5000 a0 p1 p2 p3 b3 (0 : Int32) r2.2
def f_X10_all : Nat → Nat → Int32 → Int32 → Int32 → xH → Option (Option Nat × xH)
  | 0 => fun _ _ _ _ _ => none
  | d + 1 => f_X10_all_B (f_X10_all d)
theorem y_X10_all {g : xG} {l : Nat} {h0 : xH} {rec : Nat → Int32 → Int32 → Int32 → xH → Option (Option Nat × xH)} (hrec : ∀ (a0 : Nat) (p1 : Int32) (p2 : Int32) (p3 : Int32) (h : xH) (r : Option Nat × xH), rec a0 p1 p2 p3 h = some r → XM g (DX10_all (l + 1)) [.ref a0, .int p1, .int p2, .int p3] h false (iN r)) (a0 : Nat) (p1 : Int32) (p2 : Int32) (p3 : Int32) (h : xH) : Y g (DX10_all (l + 1 + 1)) h0 false iN (f_X10_all_B rec a0 p1 p2 p3 h) 0 [some (.ref a0), some (.int p1), some (.int p2), some (.int p3), none, none, none, none, none] [] h := by
  unfold f_X10_all_B
  refine Y.op (pc' := 1) (fun _ => X.iloadn rfl dX10_all_0) ?_
  refine Y.op (pc' := 2) (fun _ => X.aloadn rfl dX10_all_1) ?_
  refine Y.getI fd_X10_7 rfl dX10_all_2 (fun v1 => ?_)
  refine Y.cmpne 50 (by decide) dX10_all_5 ?_ ?_
  · refine Y.op (pc' := 51) (fun _ => X.aloadn rfl dX10_all_50) ?_
    refine Y.op (pc' := 52) (fun _ => X.iloadn rfl dX10_all_51) ?_
    refine Y.op (pc' := 53) (fun _ => X.ic ki_1 dX10_all_52) ?_
    refine Y.op (pc' := 54) (fun _ => X.iadd dX10_all_53) ?_
    refine Y.op (pc' := 55) (fun _ => X.iloadn rfl dX10_all_54) ?_
    refine Y.op (pc' := 56) (fun _ => X.iloadn rfl dX10_all_55) ?_
    refine Y.callVn (As := [.int (p1 + (1 : Int32)), .int p2, .int p3]) lk_X10_59 rfl (cal_X10_all _) (vir_X10_all _) (Nat.le_refl _) (Nat.le_of_ble_eq_true rfl) rfl rfl rfl (Nat.le_of_ble_eq_true rfl) dX10_all_56 (fun _ e => hrec a0 (p1 + (1 : Int32)) p2 p3 h _ e) (fun r2 => ?_)
    refine Y.un (fun b3 => ?_)
    refine Y.op (pc' := 61) (loc' := [some (.ref a0), some (.int p1), some (.int p2), some (.int p3), some (.ref b3), none, none, none, none]) (fun _ => X.astore (Nat.le_of_ble_eq_true rfl) rfl dX10_all_59) ?_
    refine Y.op (pc' := 62) (fun _ => X.ic ki_0 dX10_all_61) ?_
    refine Y.op (pc' := 64) (loc' := [some (.ref a0), some (.int p1), some (.int p2), some (.int p3), some (.ref b3), some (.int (0 : Int32)), none, none, none]) (fun _ => X.istore (Nat.le_of_ble_eq_true rfl) rfl dX10_all_62) ?_
    exact y_X10_all_L64 hrec (y_X10_all_J221 hrec) 5000 a0 p1 p2 p3 b3 (0 : Int32) r2.2
  · refine Y.op (pc' := 9) (fun _ => X.ic ki_3 dX10_all_8) ?_
    refine Y.newJ waJ dX10_all_9 (fun r4 => ?_)
    refine Y.op (pc' := 12) (fun _ => X.dup rfl dX10_all_11) ?_
    refine Y.op (pc' := 13) (fun _ => X.ic ki_0 dX10_all_12) ?_
    refine Y.op (pc' := 14) (fun _ => X.iloadn rfl dX10_all_13) ?_
    refine Y.ifne 21 (by decide) dX10_all_14 ?_ ?_
    · refine Y.op (pc' := 22) (fun _ => X.lc kl_0 dX10_all_21) ?_
      exact Y.fg (y_X10_all_J22 hrec p3 r4.1 r4.1 (0 : Int32) (0 : Int64) r4.2) (And.intro rfl trivial)
    · refine Y.op (pc' := 18) (fun _ => X.lc kl_1 dX10_all_17) ?_
      refine Y.op (pc' := 22) (fun _ => X.goto 22 (by decide) dX10_all_18) ?_
      exact Y.fg (y_X10_all_J22 hrec p3 r4.1 r4.1 (0 : Int32) (1 : Int64) r4.2) (And.intro rfl trivial)
theorem m_X10_all {g : xG} : ∀ (d : Nat) (a0 : Nat) (p1 : Int32) (p2 : Int32) (p3 : Int32) (h : xH) (r : Option Nat × xH), f_X10_all d a0 p1 p2 p3 h = some r → XM g (DX10_all (d + 1)) [.ref a0, .int p1, .int p2, .int p3] h false (iN r) := by
  intro d
  induction d with
  | zero => intro a0 p1 p2 p3 h r e; cases e
  | succ d ih =>
    intro a0 p1 p2 p3 h r e
    have e : f_X10_all_B (f_X10_all d) a0 p1 p2 p3 h = some r := e
    rw [show d + 1 + 1 = d + 1 + 1 by omega]
    exact YM.of rfl rfl (Nat.le_of_ble_eq_true rfl) (y_X10_all (l := d) ih a0 p1 p2 p3 h) e
def f_X10_goes_J131 (rec : Nat → Nat → Int32 → Int32 → Int32 → Int32 → xH → Option (Int32 × xH)) (h : xH) : Option (Int32 × xH) :=
  if (0 : Int32) = 0 ∨ (0 : Int32) = 1 then some ((0 : Int32), h) else none
theorem y_X10_goes_J131 {g : xG} {l : Nat} {h0 : xH} {rec : Nat → Nat → Int32 → Int32 → Int32 → Int32 → xH → Option (Int32 × xH)} (hrec : ∀ (a0 : Nat) (p1 : Nat) (p2 : Int32) (p3 : Int32) (p4 : Int32) (p5 : Int32) (h : xH) (r : Int32 × xH), rec a0 p1 p2 p3 p4 p5 h = some r → XM g (DX10_goes (l + 1)) [.ref a0, .ref p1, .int p2, .int p3, .int p4, .int p5] h false (iI r)) (h : xH) : Y g (DX10_goes (l + 1 + 1)) h0 false iI (f_X10_goes_J131 rec h) 131 [none, none, none, none, none, none, none, none] [] h := by
  unfold f_X10_goes_J131
  refine Y.op (pc' := 132) (fun _ => X.ic ki_0 dX10_goes_131) ?_
  exact Y.zreturn rfl dX10_goes_132
def f_X10_goes_J123 (rec : Nat → Nat → Int32 → Int32 → Int32 → Int32 → xH → Option (Int32 × xH)) (h : xH) : Option (Int32 × xH) :=
  if (1 : Int32) = 0 ∨ (1 : Int32) = 1 then some ((1 : Int32), h) else none
theorem y_X10_goes_J123 {g : xG} {l : Nat} {h0 : xH} {rec : Nat → Nat → Int32 → Int32 → Int32 → Int32 → xH → Option (Int32 × xH)} (hrec : ∀ (a0 : Nat) (p1 : Nat) (p2 : Int32) (p3 : Int32) (p4 : Int32) (p5 : Int32) (h : xH) (r : Int32 × xH), rec a0 p1 p2 p3 p4 p5 h = some r → XM g (DX10_goes (l + 1)) [.ref a0, .ref p1, .int p2, .int p3, .int p4, .int p5] h false (iI r)) (h : xH) : Y g (DX10_goes (l + 1 + 1)) h0 false iI (f_X10_goes_J123 rec h) 123 [none, none, none, none, none, none, none, none] [] h := by
  unfold f_X10_goes_J123
  refine Y.op (pc' := 124) (fun _ => X.ic ki_1 dX10_goes_123) ?_
  exact Y.zreturn rfl dX10_goes_124
def f_X10_goes_J79 (rec : Nat → Nat → Int32 → Int32 → Int32 → Int32 → xH → Option (Int32 × xH)) (h : xH) : Option (Int32 × xH) :=
  if (1 : Int32) = 0 ∨ (1 : Int32) = 1 then some ((1 : Int32), h) else none
theorem y_X10_goes_J79 {g : xG} {l : Nat} {h0 : xH} {rec : Nat → Nat → Int32 → Int32 → Int32 → Int32 → xH → Option (Int32 × xH)} (hrec : ∀ (a0 : Nat) (p1 : Nat) (p2 : Int32) (p3 : Int32) (p4 : Int32) (p5 : Int32) (h : xH) (r : Int32 × xH), rec a0 p1 p2 p3 p4 p5 h = some r → XM g (DX10_goes (l + 1)) [.ref a0, .ref p1, .int p2, .int p3, .int p4, .int p5] h false (iI r)) (h : xH) : Y g (DX10_goes (l + 1 + 1)) h0 false iI (f_X10_goes_J79 rec h) 79 [none, none, none, none, none, none, none, none] [] h := by
  unfold f_X10_goes_J79
  refine Y.op (pc' := 80) (fun _ => X.ic ki_1 dX10_goes_79) ?_
  exact Y.zreturn rfl dX10_goes_80
def f_X10_goes_J125 (rec : Nat → Nat → Int32 → Int32 → Int32 → Int32 → xH → Option (Int32 × xH)) (kH : Nat → Nat → Int32 → Int32 → Int32 → Int32 → Int32 → xH → Option (Int32 × xH)) (kE79 : xH → Option (Int32 × xH)) (kE123 : xH → Option (Int32 × xH)) (kE131 : xH → Option (Int32 × xH)) (x0 : Nat) (x1 : Nat) (x2 : Int32) (x3 : Int32) (x4 : Int32) (x5 : Int32) (x6 : Int32) (h : xH) : Option (Int32 × xH) :=
  lt (x6 + (1 : Int32)) fun v1 =>
  kH x0 x1 x2 x3 x4 x5 v1 h
theorem y_X10_goes_J125 {g : xG} {l : Nat} {h0 : xH} {rec : Nat → Nat → Int32 → Int32 → Int32 → Int32 → xH → Option (Int32 × xH)} {kH : Nat → Nat → Int32 → Int32 → Int32 → Int32 → Int32 → xH → Option (Int32 × xH)} {kE79 : xH → Option (Int32 × xH)} {kE123 : xH → Option (Int32 × xH)} {kE131 : xH → Option (Int32 × xH)} (hrec : ∀ (a0 : Nat) (p1 : Nat) (p2 : Int32) (p3 : Int32) (p4 : Int32) (p5 : Int32) (h : xH) (r : Int32 × xH), rec a0 p1 p2 p3 p4 p5 h = some r → XM g (DX10_goes (l + 1)) [.ref a0, .ref p1, .int p2, .int p3, .int p4, .int p5] h false (iI r)) (hkH : ∀ (x0 : Nat) (x1 : Nat) (x2 : Int32) (x3 : Int32) (x4 : Int32) (x5 : Int32) (x6 : Int32) (h : xH), Y g (DX10_goes (l + 1 + 1)) h0 false iI (kH x0 x1 x2 x3 x4 x5 x6 h) 7 [some (.ref x0), some (.ref x1), some (.int x2), some (.int x3), some (.int x4), some (.int x5), some (.int x6), none] [] h) (hkE79 : ∀  (h : xH), Y g (DX10_goes (l + 1 + 1)) h0 false iI (kE79  h) 79 [none, none, none, none, none, none, none, none] [] h) (hkE123 : ∀  (h : xH), Y g (DX10_goes (l + 1 + 1)) h0 false iI (kE123  h) 123 [none, none, none, none, none, none, none, none] [] h) (hkE131 : ∀  (h : xH), Y g (DX10_goes (l + 1 + 1)) h0 false iI (kE131  h) 131 [none, none, none, none, none, none, none, none] [] h) (x0 : Nat) (x1 : Nat) (x2 : Int32) (x3 : Int32) (x4 : Int32) (x5 : Int32) (x6 : Int32) (h : xH) : Y g (DX10_goes (l + 1 + 1)) h0 false iI (f_X10_goes_J125 rec kH kE79 kE123 kE131 x0 x1 x2 x3 x4 x5 x6 h) 125 [some (.ref x0), some (.ref x1), some (.int x2), some (.int x3), some (.int x4), some (.int x5), some (.int x6), none] [] h := by
  unfold f_X10_goes_J125
  refine Y.iinc (i := 6) (loc' := fun v1 => [some (.ref x0), some (.ref x1), some (.int x2), some (.int x3), some (.int x4), some (.int x5), some (.int v1), none]) rfl (Nat.le_of_ble_eq_true rfl) ki_1 (fun _ => rfl) dX10_goes_125 (fun v1 => ?_)
  refine Y.op (pc' := 7) (fun _ => X.goto 7 (by decide) dX10_goes_128) ?_
  exact hkH x0 x1 x2 x3 x4 x5 v1 h
def f_X10_goes_L7 (rec : Nat → Nat → Int32 → Int32 → Int32 → Int32 → xH → Option (Int32 × xH)) (kE79 : xH → Option (Int32 × xH)) (kE123 : xH → Option (Int32 × xH)) (kE131 : xH → Option (Int32 × xH)) : Nat → Nat → Nat → Int32 → Int32 → Int32 → Int32 → Int32 → xH → Option (Int32 × xH)
  | 0 => fun _ _ _ _ _ _ _ _ => none
  | n + 1 => fun x0 x1 x2 x3 x4 x5 x6 h =>
    (gI h 10 x0 1).bind fun v1 =>
    if x6 ≥ v1 then
      kE131 h
    else
      (vc h 10 x0 (f_X10_can x0 x3 x6 h)).bind fun r2 =>
      if r2.1 = (0 : Int32) then
        f_X10_goes_J125 rec (f_X10_goes_L7 rec kE79 kE123 kE131 n) kE79 kE123 kE131 x0 x1 x2 x3 x4 x5 x6 r2.2
      else
        (gR r2.2 10 x0 6).bind fun v3 =>
        (aI r2.2 v3 x3).bind fun v4 =>
        if v4 = x6 then
          f_X10_goes_J125 rec (f_X10_goes_L7 rec kE79 kE123 kE131 n) kE79 kE123 kE131 x0 x1 x2 x3 x4 x5 x6 r2.2
        else
          if ((x5 >>> (x6 &&& 31)) &&& (1 : Int32)) = (1 : Int32) then
            f_X10_goes_J125 rec (f_X10_goes_L7 rec kE79 kE123 kE131 n) kE79 kE123 kE131 x0 x1 x2 x3 x4 x5 x6 r2.2
          else
            (vc r2.2 10 x0 (f_X10_owner x0 x6 r2.2)).bind fun r5 =>
            (sI r5.2 x1 (x2 + (1 : Int32)) x6).bind fun h6 =>
            (aL h6 x1).bind fun v7 =>
            if (x2 + (2 : Int32)) = v7 then
              if r5.1 ≥ (0 : Int32) then
                f_X10_goes_J125 rec (f_X10_goes_L7 rec kE79 kE123 kE131 n) kE79 kE123 kE131 x0 x1 x2 x3 x4 x5 x6 h6
              else
                kE79 h6
            else
              if r5.1 < (0 : Int32) then
                f_X10_goes_J125 rec (f_X10_goes_L7 rec kE79 kE123 kE131 n) kE79 kE123 kE131 x0 x1 x2 x3 x4 x5 x6 h6
              else
                if ((x4 >>> (r5.1 &&& 31)) &&& (1 : Int32)) = (0 : Int32) then
                  (vc h6 10 x0 (rec x0 x1 (x2 + (2 : Int32)) r5.1 (x4 ||| ((1 : Int32) <<< (r5.1 &&& 31))) (x5 ||| ((1 : Int32) <<< (x6 &&& 31))) h6)).bind fun r8 =>
                  if r8.1 = (0 : Int32) then
                    f_X10_goes_J125 rec (f_X10_goes_L7 rec kE79 kE123 kE131 n) kE79 kE123 kE131 x0 x1 x2 x3 x4 x5 x6 r8.2
                  else
                    kE123 r8.2
                else
                  f_X10_goes_J125 rec (f_X10_goes_L7 rec kE79 kE123 kE131 n) kE79 kE123 kE131 x0 x1 x2 x3 x4 x5 x6 h6
theorem y_X10_goes_L7 {g : xG} {l : Nat} {h0 : xH} {rec : Nat → Nat → Int32 → Int32 → Int32 → Int32 → xH → Option (Int32 × xH)} {kE79 : xH → Option (Int32 × xH)} {kE123 : xH → Option (Int32 × xH)} {kE131 : xH → Option (Int32 × xH)} (hrec : ∀ (a0 : Nat) (p1 : Nat) (p2 : Int32) (p3 : Int32) (p4 : Int32) (p5 : Int32) (h : xH) (r : Int32 × xH), rec a0 p1 p2 p3 p4 p5 h = some r → XM g (DX10_goes (l + 1)) [.ref a0, .ref p1, .int p2, .int p3, .int p4, .int p5] h false (iI r)) (hkE79 : ∀  (h : xH), Y g (DX10_goes (l + 1 + 1)) h0 false iI (kE79  h) 79 [none, none, none, none, none, none, none, none] [] h) (hkE123 : ∀  (h : xH), Y g (DX10_goes (l + 1 + 1)) h0 false iI (kE123  h) 123 [none, none, none, none, none, none, none, none] [] h) (hkE131 : ∀  (h : xH), Y g (DX10_goes (l + 1 + 1)) h0 false iI (kE131  h) 131 [none, none, none, none, none, none, none, none] [] h) : ∀ (n : Nat) (x0 : Nat) (x1 : Nat) (x2 : Int32) (x3 : Int32) (x4 : Int32) (x5 : Int32) (x6 : Int32) (h : xH), Y g (DX10_goes (l + 1 + 1)) h0 false iI (f_X10_goes_L7 rec kE79 kE123 kE131 n x0 x1 x2 x3 x4 x5 x6 h) 7 [some (.ref x0), some (.ref x1), some (.int x2), some (.int x3), some (.int x4), some (.int x5), some (.int x6), none] [] h := by
  intro n
  induction n with
  | zero => intro x0 x1 x2 x3 x4 x5 x6 h; exact Y.nothing
  | succ n ih =>
    intro x0 x1 x2 x3 x4 x5 x6 h
    unfold f_X10_goes_L7
    refine Y.op (pc' := 9) (fun _ => X.iload rfl dX10_goes_7) ?_
    refine Y.op (pc' := 10) (fun _ => X.aloadn rfl dX10_goes_9) ?_
    refine Y.getI fd_X10_13 rfl dX10_goes_10 (fun v1 => ?_)
    refine Y.cmpge 131 (by decide) dX10_goes_13 ?_ ?_
    · exact Y.fg (hkE131 h) trivial
    · refine Y.op (pc' := 17) (fun _ => X.aloadn rfl dX10_goes_16) ?_
      refine Y.op (pc' := 18) (fun _ => X.iloadn rfl dX10_goes_17) ?_
      refine Y.op (pc' := 20) (fun _ => X.iload rfl dX10_goes_18) ?_
      refine Y.callVi (As := [.int x3, .int x6]) lk_X10_48 rfl cal_X10_can vir_X10_can (by show 1 + 1 ≤ l + 1 + 1; omega) (Nat.le_of_ble_eq_true rfl) rfl rfl rfl (Nat.le_of_ble_eq_true rfl) dX10_goes_20 (fun _ e => m_X10_can x0 x3 x6 h _ e) (fun r2 => ?_)
      refine Y.ifeq 125 (by decide) dX10_goes_23 ?_ ?_
      · exact y_X10_goes_J125 hrec ih hkE79 hkE123 hkE131 x0 x1 x2 x3 x4 x5 x6 r2.2
      · refine Y.op (pc' := 27) (fun _ => X.aloadn rfl dX10_goes_26) ?_
        refine Y.getR fd_X10_31 rfl dX10_goes_27 (fun v3 => ?_)
        refine Y.op (pc' := 31) (fun _ => X.iloadn rfl dX10_goes_30) ?_
        refine Y.aldI dX10_goes_31 (fun v4 => ?_)
        refine Y.op (pc' := 34) (fun _ => X.iload rfl dX10_goes_32) ?_
        refine Y.cmpeq 125 (by decide) dX10_goes_34 ?_ ?_
        · exact y_X10_goes_J125 hrec ih hkE79 hkE123 hkE131 x0 x1 x2 x3 x4 x5 x6 r2.2
        · refine Y.op (pc' := 39) (fun _ => X.iload rfl dX10_goes_37) ?_
          refine Y.op (pc' := 41) (fun _ => X.iload rfl dX10_goes_39) ?_
          refine Y.op (pc' := 42) (fun _ => X.ishr dX10_goes_41) ?_
          refine Y.op (pc' := 43) (fun _ => X.ic ki_1 dX10_goes_42) ?_
          refine Y.op (pc' := 44) (fun _ => X.iand dX10_goes_43) ?_
          refine Y.op (pc' := 45) (fun _ => X.ic ki_1 dX10_goes_44) ?_
          refine Y.cmpne 51 (by decide) dX10_goes_45 ?_ ?_
          · refine Y.op (pc' := 52) (fun _ => X.aloadn rfl dX10_goes_51) ?_
            refine Y.op (pc' := 54) (fun _ => X.iload rfl dX10_goes_52) ?_
            refine Y.callVi (As := [.int x6]) lk_X10_67 rfl cal_X10_owner vir_X10_owner (by show 1 + 1 ≤ l + 1 + 1; omega) (Nat.le_of_ble_eq_true rfl) rfl rfl rfl (Nat.le_of_ble_eq_true rfl) dX10_goes_54 (fun _ e => m_X10_owner x0 x6 r2.2 _ e) (fun r5 => ?_)
            refine Y.op (pc' := 59) (loc' := [some (.ref x0), some (.ref x1), some (.int x2), some (.int x3), some (.int x4), some (.int x5), some (.int x6), some (.int r5.1)]) (fun _ => X.istore (Nat.le_of_ble_eq_true rfl) rfl dX10_goes_57) ?_
            refine Y.op (pc' := 60) (fun _ => X.aloadn rfl dX10_goes_59) ?_
            refine Y.op (pc' := 61) (fun _ => X.iloadn rfl dX10_goes_60) ?_
            refine Y.op (pc' := 62) (fun _ => X.ic ki_1 dX10_goes_61) ?_
            refine Y.op (pc' := 63) (fun _ => X.iadd dX10_goes_62) ?_
            refine Y.op (pc' := 65) (fun _ => X.iload rfl dX10_goes_63) ?_
            refine Y.astI dX10_goes_65 (fun h6 => ?_)
            refine Y.op (pc' := 67) (fun _ => X.iloadn rfl dX10_goes_66) ?_
            refine Y.op (pc' := 68) (fun _ => X.ic ki_2 dX10_goes_67) ?_
            refine Y.op (pc' := 69) (fun _ => X.iadd dX10_goes_68) ?_
            refine Y.op (pc' := 70) (fun _ => X.aloadn rfl dX10_goes_69) ?_
            refine Y.alen dX10_goes_70 (fun v7 => ?_)
            refine Y.cmpne 81 (by decide) dX10_goes_71 ?_ ?_
            · refine Y.op (pc' := 83) (fun _ => X.iload rfl dX10_goes_81) ?_
              refine Y.iflt 125 (by decide) dX10_goes_83 ?_ ?_
              · exact Y.fg (y_X10_goes_J125 hrec ih hkE79 hkE123 hkE131 x0 x1 x2 x3 x4 x5 x6 h6) (And.intro rfl (And.intro rfl (And.intro rfl (And.intro rfl (And.intro rfl (And.intro rfl (And.intro rfl trivial)))))))
              · refine Y.op (pc' := 88) (fun _ => X.iload rfl dX10_goes_86) ?_
                refine Y.op (pc' := 90) (fun _ => X.iload rfl dX10_goes_88) ?_
                refine Y.op (pc' := 91) (fun _ => X.ishr dX10_goes_90) ?_
                refine Y.op (pc' := 92) (fun _ => X.ic ki_1 dX10_goes_91) ?_
                refine Y.op (pc' := 93) (fun _ => X.iand dX10_goes_92) ?_
                refine Y.ifne 125 (by decide) dX10_goes_93 ?_ ?_
                · exact Y.fg (y_X10_goes_J125 hrec ih hkE79 hkE123 hkE131 x0 x1 x2 x3 x4 x5 x6 h6) (And.intro rfl (And.intro rfl (And.intro rfl (And.intro rfl (And.intro rfl (And.intro rfl (And.intro rfl trivial)))))))
                · refine Y.op (pc' := 97) (fun _ => X.aloadn rfl dX10_goes_96) ?_
                  refine Y.op (pc' := 98) (fun _ => X.aloadn rfl dX10_goes_97) ?_
                  refine Y.op (pc' := 99) (fun _ => X.iloadn rfl dX10_goes_98) ?_
                  refine Y.op (pc' := 100) (fun _ => X.ic ki_2 dX10_goes_99) ?_
                  refine Y.op (pc' := 101) (fun _ => X.iadd dX10_goes_100) ?_
                  refine Y.op (pc' := 103) (fun _ => X.iload rfl dX10_goes_101) ?_
                  refine Y.op (pc' := 105) (fun _ => X.iload rfl dX10_goes_103) ?_
                  refine Y.op (pc' := 106) (fun _ => X.ic ki_1 dX10_goes_105) ?_
                  refine Y.op (pc' := 108) (fun _ => X.iload rfl dX10_goes_106) ?_
                  refine Y.op (pc' := 109) (fun _ => X.ishl dX10_goes_108) ?_
                  refine Y.op (pc' := 110) (fun _ => X.ior dX10_goes_109) ?_
                  refine Y.op (pc' := 112) (fun _ => X.iload rfl dX10_goes_110) ?_
                  refine Y.op (pc' := 113) (fun _ => X.ic ki_1 dX10_goes_112) ?_
                  refine Y.op (pc' := 115) (fun _ => X.iload rfl dX10_goes_113) ?_
                  refine Y.op (pc' := 116) (fun _ => X.ishl dX10_goes_115) ?_
                  refine Y.op (pc' := 117) (fun _ => X.ior dX10_goes_116) ?_
                  refine Y.callVi (As := [.ref x1, .int (x2 + (2 : Int32)), .int r5.1, .int (x4 ||| ((1 : Int32) <<< (r5.1 &&& 31))), .int (x5 ||| ((1 : Int32) <<< (x6 &&& 31)))]) lk_X10_63 rfl (cal_X10_goes _) (vir_X10_goes _) (Nat.le_refl _) (Nat.le_of_ble_eq_true rfl) rfl rfl rfl (Nat.le_of_ble_eq_true rfl) dX10_goes_117 (fun _ e => hrec x0 x1 (x2 + (2 : Int32)) r5.1 (x4 ||| ((1 : Int32) <<< (r5.1 &&& 31))) (x5 ||| ((1 : Int32) <<< (x6 &&& 31))) h6 _ e) (fun r8 => ?_)
                  refine Y.ifeq 125 (by decide) dX10_goes_120 ?_ ?_
                  · exact Y.fg (y_X10_goes_J125 hrec ih hkE79 hkE123 hkE131 x0 x1 x2 x3 x4 x5 x6 r8.2) (And.intro rfl (And.intro rfl (And.intro rfl (And.intro rfl (And.intro rfl (And.intro rfl (And.intro rfl trivial)))))))
                  · exact Y.fg (hkE123 r8.2) trivial
            · refine Y.op (pc' := 76) (fun _ => X.iload rfl dX10_goes_74) ?_
              refine Y.ifge 125 (by decide) dX10_goes_76 ?_ ?_
              · exact Y.fg (y_X10_goes_J125 hrec ih hkE79 hkE123 hkE131 x0 x1 x2 x3 x4 x5 x6 h6) (And.intro rfl (And.intro rfl (And.intro rfl (And.intro rfl (And.intro rfl (And.intro rfl (And.intro rfl trivial)))))))
              · exact Y.fg (hkE79 h6) trivial
          · refine Y.op (pc' := 125) (fun _ => X.goto 125 (by decide) dX10_goes_48) ?_
            exact y_X10_goes_J125 hrec ih hkE79 hkE123 hkE131 x0 x1 x2 x3 x4 x5 x6 r2.2
def f_X10_goes_B (rec : Nat → Nat → Int32 → Int32 → Int32 → Int32 → xH → Option (Int32 × xH)) (a0 : Nat) (p1 : Nat) (p2 : Int32) (p3 : Int32) (p4 : Int32) (p5 : Int32) (h : xH) : Option (Int32 × xH) :=
  (sI h p1 p2 p3).bind fun h1 =>
  f_X10_goes_L7 rec (f_X10_goes_J79 rec) (f_X10_goes_J123 rec) (f_X10_goes_J131 rec) 5000 a0 p1 p2 p3 p4 p5 (0 : Int32) h1
def f_X10_goes : Nat → Nat → Nat → Int32 → Int32 → Int32 → Int32 → xH → Option (Int32 × xH)
  | 0 => fun _ _ _ _ _ _ _ => none
  | d + 1 => f_X10_goes_B (f_X10_goes d)
theorem y_X10_goes {g : xG} {l : Nat} {h0 : xH} {rec : Nat → Nat → Int32 → Int32 → Int32 → Int32 → xH → Option (Int32 × xH)} (hrec : ∀ (a0 : Nat) (p1 : Nat) (p2 : Int32) (p3 : Int32) (p4 : Int32) (p5 : Int32) (h : xH) (r : Int32 × xH), rec a0 p1 p2 p3 p4 p5 h = some r → XM g (DX10_goes (l + 1)) [.ref a0, .ref p1, .int p2, .int p3, .int p4, .int p5] h false (iI r)) (a0 : Nat) (p1 : Nat) (p2 : Int32) (p3 : Int32) (p4 : Int32) (p5 : Int32) (h : xH) : Y g (DX10_goes (l + 1 + 1)) h0 false iI (f_X10_goes_B rec a0 p1 p2 p3 p4 p5 h) 0 [some (.ref a0), some (.ref p1), some (.int p2), some (.int p3), some (.int p4), some (.int p5), none, none] [] h := by
  unfold f_X10_goes_B
  refine Y.op (pc' := 1) (fun _ => X.aloadn rfl dX10_goes_0) ?_
  refine Y.op (pc' := 2) (fun _ => X.iloadn rfl dX10_goes_1) ?_
  refine Y.op (pc' := 3) (fun _ => X.iloadn rfl dX10_goes_2) ?_
  refine Y.astI dX10_goes_3 (fun h1 => ?_)
  refine Y.op (pc' := 5) (fun _ => X.ic ki_0 dX10_goes_4) ?_
  refine Y.op (pc' := 7) (loc' := [some (.ref a0), some (.ref p1), some (.int p2), some (.int p3), some (.int p4), some (.int p5), some (.int (0 : Int32)), none]) (fun _ => X.istore (Nat.le_of_ble_eq_true rfl) rfl dX10_goes_5) ?_
  exact y_X10_goes_L7 hrec (y_X10_goes_J79 hrec) (y_X10_goes_J123 hrec) (y_X10_goes_J131 hrec) 5000 a0 p1 p2 p3 p4 p5 (0 : Int32) h1
theorem m_X10_goes {g : xG} : ∀ (d : Nat) (a0 : Nat) (p1 : Nat) (p2 : Int32) (p3 : Int32) (p4 : Int32) (p5 : Int32) (h : xH) (r : Int32 × xH), f_X10_goes d a0 p1 p2 p3 p4 p5 h = some r → XM g (DX10_goes (d + 1)) [.ref a0, .ref p1, .int p2, .int p3, .int p4, .int p5] h false (iI r) := by
  intro d
  induction d with
  | zero => intro a0 p1 p2 p3 p4 p5 h r e; cases e
  | succ d ih =>
    intro a0 p1 p2 p3 p4 p5 h r e
    have e : f_X10_goes_B (f_X10_goes d) a0 p1 p2 p3 p4 p5 h = some r := e
    rw [show d + 1 + 1 = d + 1 + 1 by omega]
    exact YM.of rfl rfl (Nat.le_of_ble_eq_true rfl) (y_X10_goes (l := d) ih a0 p1 p2 p3 p4 p5 h) e
def f_X10_way_J60 (h : xH) : Option (Option Nat × xH) :=
  some (none, h)
theorem y_X10_way_J60 {g : xG} {h0 : xH} (h : xH) : Y g DX10_way h0 false iN (f_X10_way_J60 h) 60 [none, none, none, none] [] h := by
  unfold f_X10_way_J60
  refine Y.op (pc' := 61) (fun _ => X.anull dX10_way_60) ?_
  exact Y.areturnA rfl ⟨_, rfl⟩ dX10_way_61
def f_X10_way_J52 (x3 : Nat) (h : xH) : Option (Option Nat × xH) :=
  some ((some x3), h)
theorem y_X10_way_J52 {g : xG} {h0 : xH} (x3 : Nat) (h : xH) : Y g DX10_way h0 false iN (f_X10_way_J52 x3 h) 52 [none, none, none, some (.ref x3)] [] h := by
  unfold f_X10_way_J52
  refine Y.op (pc' := 53) (fun _ => X.aloadn rfl dX10_way_52) ?_
  exact Y.areturnA rfl ⟨_, rfl⟩ dX10_way_53
def f_X10_way_L24 (kE52 : Nat → xH → Option (Option Nat × xH)) (kE60 : xH → Option (Option Nat × xH)) : Nat → Nat → Int32 → Int32 → xH → Option (Option Nat × xH)
  | 0 => fun _ _ _ _ => none
  | n + 1 => fun x0 x1 x2 h =>
    (gI h 10 x0 1).bind fun v1 =>
    if x2 > v1 then
      kE60 h
    else
      (nwI h ((2 : Int32) * x2)).bind fun r2 =>
      (vc r2.2 10 x0 (f_X10_goes 40 x0 r2.1 (0 : Int32) x1 ((1 : Int32) <<< (x1 &&& 31)) (0 : Int32) r2.2)).bind fun r3 =>
      if r3.1 = (0 : Int32) then
        lt (x2 + (1 : Int32)) fun v4 =>
        f_X10_way_L24 kE52 kE60 n x0 x1 v4 r3.2
      else
        kE52 r2.1 r3.2
theorem y_X10_way_L24 {g : xG} {h0 : xH} {kE52 : Nat → xH → Option (Option Nat × xH)} {kE60 : xH → Option (Option Nat × xH)} (hkE52 : ∀ (x3 : Nat) (h : xH), Y g DX10_way h0 false iN (kE52 x3 h) 52 [none, none, none, some (.ref x3)] [] h) (hkE60 : ∀  (h : xH), Y g DX10_way h0 false iN (kE60  h) 60 [none, none, none, none] [] h) : ∀ (n : Nat) (x0 : Nat) (x1 : Int32) (x2 : Int32) (h : xH), Y g DX10_way h0 false iN (f_X10_way_L24 kE52 kE60 n x0 x1 x2 h) 24 [some (.ref x0), some (.int x1), some (.int x2), none] [] h := by
  intro n
  induction n with
  | zero => intro x0 x1 x2 h; exact Y.nothing
  | succ n ih =>
    intro x0 x1 x2 h
    unfold f_X10_way_L24
    refine Y.op (pc' := 25) (fun _ => X.iloadn rfl dX10_way_24) ?_
    refine Y.op (pc' := 26) (fun _ => X.aloadn rfl dX10_way_25) ?_
    refine Y.getI fd_X10_13 rfl dX10_way_26 (fun v1 => ?_)
    refine Y.cmpgt 60 (by decide) dX10_way_29 ?_ ?_
    · exact Y.fg (hkE60 h) trivial
    · refine Y.op (pc' := 33) (fun _ => X.ic ki_2 dX10_way_32) ?_
      refine Y.op (pc' := 34) (fun _ => X.iloadn rfl dX10_way_33) ?_
      refine Y.op (pc' := 35) (fun _ => X.imul dX10_way_34) ?_
      refine Y.newI waI dX10_way_35 (fun r2 => ?_)
      refine Y.op (pc' := 38) (loc' := [some (.ref x0), some (.int x1), some (.int x2), some (.ref r2.1)]) (fun _ => X.astoren (Nat.le_of_ble_eq_true rfl) rfl dX10_way_37) ?_
      refine Y.op (pc' := 39) (fun _ => X.aloadn rfl dX10_way_38) ?_
      refine Y.op (pc' := 40) (fun _ => X.aloadn rfl dX10_way_39) ?_
      refine Y.op (pc' := 41) (fun _ => X.ic ki_0 dX10_way_40) ?_
      refine Y.op (pc' := 42) (fun _ => X.iloadn rfl dX10_way_41) ?_
      refine Y.op (pc' := 43) (fun _ => X.ic ki_1 dX10_way_42) ?_
      refine Y.op (pc' := 44) (fun _ => X.iloadn rfl dX10_way_43) ?_
      refine Y.op (pc' := 45) (fun _ => X.ishl dX10_way_44) ?_
      refine Y.op (pc' := 46) (fun _ => X.ic ki_0 dX10_way_45) ?_
      refine Y.callVi (As := [.ref r2.1, .int (0 : Int32), .int x1, .int ((1 : Int32) <<< (x1 &&& 31)), .int (0 : Int32)]) lk_X10_63 rfl (cal_X10_goes _) (vir_X10_goes _) (Nat.le_of_ble_eq_true rfl) (Nat.le_of_ble_eq_true rfl) rfl rfl rfl (Nat.le_of_ble_eq_true rfl) dX10_way_46 (fun _ e => m_X10_goes 40 x0 r2.1 (0 : Int32) x1 ((1 : Int32) <<< (x1 &&& 31)) (0 : Int32) r2.2 _ e) (fun r3 => ?_)
      refine Y.ifeq 54 (by decide) dX10_way_49 ?_ ?_
      · refine Y.iinc (i := 2) (loc' := fun v4 => [some (.ref x0), some (.int x1), some (.int v4), some (.ref r2.1)]) rfl (Nat.le_of_ble_eq_true rfl) ki_1 (fun _ => rfl) dX10_way_54 (fun v4 => ?_)
        refine Y.op (pc' := 24) (fun _ => X.goto 24 (by decide) dX10_way_57) ?_
        exact Y.fg (ih x0 x1 v4 r3.2) (And.intro rfl (And.intro rfl (And.intro rfl trivial)))
      · exact Y.fg (hkE52 r2.1 r3.2) (And.intro rfl trivial)
def f_X10_way_J20 (h : xH) : Option (Option Nat × xH) :=
  some (none, h)
theorem y_X10_way_J20 {g : xG} {h0 : xH} (h : xH) : Y g DX10_way h0 false iN (f_X10_way_J20 h) 20 [none, none, none, none] [] h := by
  unfold f_X10_way_J20
  refine Y.op (pc' := 21) (fun _ => X.anull dX10_way_20) ?_
  exact Y.areturnA rfl ⟨_, rfl⟩ dX10_way_21
def f_X10_way (a0 : Nat) (p1 : Int32) (h : xH) : Option (Option Nat × xH) :=
  (gI h 10 a0 3).bind fun v1 =>
  if ((v1 >>> (p1 &&& 31)) &&& (1 : Int32)) = (0 : Int32) then
    f_X10_way_J20 h
  else
    (gR h 10 a0 6).bind fun v2 =>
    (aI h v2 p1).bind fun v3 =>
    if v3 < (0 : Int32) then
      f_X10_way_L24 (f_X10_way_J52) (f_X10_way_J60) 5000 a0 p1 (1 : Int32) h
    else
      f_X10_way_J20 h
theorem y_X10_way {g : xG} {h0 : xH} (a0 : Nat) (p1 : Int32) (h : xH) : Y g DX10_way h0 false iN (f_X10_way a0 p1 h) 0 [some (.ref a0), some (.int p1), none, none] [] h := by
  unfold f_X10_way
  refine Y.op (pc' := 1) (fun _ => X.aloadn rfl dX10_way_0) ?_
  refine Y.getI fd_X10_20 rfl dX10_way_1 (fun v1 => ?_)
  refine Y.op (pc' := 5) (fun _ => X.iloadn rfl dX10_way_4) ?_
  refine Y.op (pc' := 6) (fun _ => X.ishr dX10_way_5) ?_
  refine Y.op (pc' := 7) (fun _ => X.ic ki_1 dX10_way_6) ?_
  refine Y.op (pc' := 8) (fun _ => X.iand dX10_way_7) ?_
  refine Y.ifeq 20 (by decide) dX10_way_8 ?_ ?_
  · exact Y.fg (y_X10_way_J20 h) trivial
  · refine Y.op (pc' := 12) (fun _ => X.aloadn rfl dX10_way_11) ?_
    refine Y.getR fd_X10_31 rfl dX10_way_12 (fun v2 => ?_)
    refine Y.op (pc' := 16) (fun _ => X.iloadn rfl dX10_way_15) ?_
    refine Y.aldI dX10_way_16 (fun v3 => ?_)
    refine Y.iflt 22 (by decide) dX10_way_17 ?_ ?_
    · refine Y.op (pc' := 23) (fun _ => X.ic ki_1 dX10_way_22) ?_
      refine Y.op (pc' := 24) (loc' := [some (.ref a0), some (.int p1), some (.int (1 : Int32)), none]) (fun _ => X.istoren (Nat.le_of_ble_eq_true rfl) rfl dX10_way_23) ?_
      exact y_X10_way_L24 (y_X10_way_J52) (y_X10_way_J60) 5000 a0 p1 (1 : Int32) h
    · exact Y.fg (y_X10_way_J20 h) trivial
theorem m_X10_way {g : xG} (a0 : Nat) (p1 : Int32) (h : xH) (r : Option Nat × xH) (e : f_X10_way a0 p1 h = some r) : XM g DX10_way [.ref a0, .int p1] h false (iN r) := YM.of rfl rfl (Nat.le_of_ble_eq_true rfl) (y_X10_way a0 p1 h) e
def f_X10_theWay_J28 (h : xH) : Option (Option Nat × xH) :=
  some (none, h)
theorem y_X10_theWay_J28 {g : xG} {h0 : xH} (h : xH) : Y g DX10_theWay h0 false iN (f_X10_theWay_J28 h) 28 [none, none, none] [] h := by
  unfold f_X10_theWay_J28
  refine Y.op (pc' := 29) (fun _ => X.anull dX10_theWay_28) ?_
  exact Y.areturnA rfl ⟨_, rfl⟩ dX10_theWay_29
def f_X10_theWay_J20 (x2 : Nat) (h : xH) : Option (Option Nat × xH) :=
  some ((some x2), h)
theorem y_X10_theWay_J20 {g : xG} {h0 : xH} (x2 : Nat) (h : xH) : Y g DX10_theWay h0 false iN (f_X10_theWay_J20 x2 h) 20 [none, none, some (.ref x2)] [] h := by
  unfold f_X10_theWay_J20
  refine Y.op (pc' := 21) (fun _ => X.aloadn rfl dX10_theWay_20) ?_
  exact Y.areturnA rfl ⟨_, rfl⟩ dX10_theWay_21
def f_X10_theWay_L2 (kE20 : Nat → xH → Option (Option Nat × xH)) (kE28 : xH → Option (Option Nat × xH)) : Nat → Nat → Int32 → xH → Option (Option Nat × xH)
  | 0 => fun _ _ _ => none
  | n + 1 => fun x0 x1 h =>
    (gI h 10 x0 0).bind fun v1 =>
    if x1 ≥ v1 then
      kE28 h
    else
      (vc h 10 x0 (f_X10_way x0 x1 h)).bind fun r2 =>
      nl r2.1
        (lt (x1 + (1 : Int32)) fun v4 =>
        f_X10_theWay_L2 kE20 kE28 n x0 v4 r2.2)
        (fun b3 =>
        kE20 b3 r2.2)
theorem y_X10_theWay_L2 {g : xG} {h0 : xH} {kE20 : Nat → xH → Option (Option Nat × xH)} {kE28 : xH → Option (Option Nat × xH)} (hkE20 : ∀ (x2 : Nat) (h : xH), Y g DX10_theWay h0 false iN (kE20 x2 h) 20 [none, none, some (.ref x2)] [] h) (hkE28 : ∀  (h : xH), Y g DX10_theWay h0 false iN (kE28  h) 28 [none, none, none] [] h) : ∀ (n : Nat) (x0 : Nat) (x1 : Int32) (h : xH), Y g DX10_theWay h0 false iN (f_X10_theWay_L2 kE20 kE28 n x0 x1 h) 2 [some (.ref x0), some (.int x1), none] [] h := by
  intro n
  induction n with
  | zero => intro x0 x1 h; exact Y.nothing
  | succ n ih =>
    intro x0 x1 h
    unfold f_X10_theWay_L2
    refine Y.op (pc' := 3) (fun _ => X.iloadn rfl dX10_theWay_2) ?_
    refine Y.op (pc' := 4) (fun _ => X.aloadn rfl dX10_theWay_3) ?_
    refine Y.getI fd_X10_7 rfl dX10_theWay_4 (fun v1 => ?_)
    refine Y.cmpge 28 (by decide) dX10_theWay_7 ?_ ?_
    · exact Y.fg (hkE28 h) trivial
    · refine Y.op (pc' := 11) (fun _ => X.aloadn rfl dX10_theWay_10) ?_
      refine Y.op (pc' := 12) (fun _ => X.iloadn rfl dX10_theWay_11) ?_
      refine Y.callVn (As := [.int x1]) lk_X10_71 rfl cal_X10_way vir_X10_way (Nat.le_of_ble_eq_true rfl) (Nat.le_of_ble_eq_true rfl) rfl rfl rfl (Nat.le_of_ble_eq_true rfl) dX10_theWay_12 (fun _ e => m_X10_way x0 x1 h _ e) (fun r2 => ?_)
      refine Y.op (pc' := 16) (loc' := [some (.ref x0), some (.int x1), some (rv r2.1)]) (fun _ => X.astoreO (Nat.le_of_ble_eq_true rfl) rfl dX10_theWay_15) ?_
      refine Y.op (pc' := 17) (fun _ => X.aloadO rfl dX10_theWay_16) ?_
      generalize r2.1 = o_b3
      cases o_b3 with
      | none =>
        rw [nl_none]
        refine Y.op (pc' := 22) (fun _ => X.ifnullN 22 (by decide) dX10_theWay_17) ?_
        refine Y.iinc (i := 1) (loc' := fun v4 => [some (.ref x0), some (.int v4), some (rv none)]) rfl (Nat.le_of_ble_eq_true rfl) ki_1 (fun _ => rfl) dX10_theWay_22 (fun v4 => ?_)
        refine Y.op (pc' := 2) (fun _ => X.goto 2 (by decide) dX10_theWay_25) ?_
        exact Y.fg (ih x0 v4 r2.2) (And.intro rfl (And.intro rfl trivial))
      | some b3 =>
        refine Y.op (pc' := 20) (fun _ => X.ifnullR dX10_theWay_17) ?_
        exact Y.fg (hkE20 b3 r2.2) (And.intro rfl trivial)
def f_X10_theWay (a0 : Nat) (h : xH) : Option (Option Nat × xH) :=
  f_X10_theWay_L2 (f_X10_theWay_J20) (f_X10_theWay_J28) 5000 a0 (0 : Int32) h
theorem y_X10_theWay {g : xG} {h0 : xH} (a0 : Nat) (h : xH) : Y g DX10_theWay h0 false iN (f_X10_theWay a0 h) 0 [some (.ref a0), none, none] [] h := by
  unfold f_X10_theWay
  refine Y.op (pc' := 1) (fun _ => X.ic ki_0 dX10_theWay_0) ?_
  refine Y.op (pc' := 2) (loc' := [some (.ref a0), some (.int (0 : Int32)), none]) (fun _ => X.istoren (Nat.le_of_ble_eq_true rfl) rfl dX10_theWay_1) ?_
  exact y_X10_theWay_L2 (y_X10_theWay_J20) (y_X10_theWay_J28) 5000 a0 (0 : Int32) h
theorem m_X10_theWay {g : xG} (a0 : Nat) (h : xH) (r : Option Nat × xH) (e : f_X10_theWay a0 h = some r) : XM g DX10_theWay [.ref a0] h false (iN r) := YM.of rfl rfl (Nat.le_of_ble_eq_true rfl) (y_X10_theWay a0 h) e
def f_X10_settles_J58 (x2 : Int32) (h : xH) : Option (Int32 × xH) :=
  some (x2, h)
theorem y_X10_settles_J58 {g : xG} {h0 : xH} (x2 : Int32) (h : xH) : Y g DX10_settles h0 false iI (f_X10_settles_J58 x2 h) 58 [none, none, some (.int x2), none, none] [] h := by
  unfold f_X10_settles_J58
  refine Y.op (pc' := 59) (fun _ => X.iloadn rfl dX10_settles_58) ?_
  exact Y.ireturn rfl dX10_settles_59
def f_X10_settles_J47 (kH : Nat → Int32 → Int32 → Option Nat → xH → Option (Int32 × xH)) (kE58 : Int32 → xH → Option (Int32 × xH)) (x0 : Nat) (x1 : Int32) (x2 : Int32) (h : xH) : Option (Int32 × xH) :=
  lt (x2 + (1 : Int32)) fun v1 =>
  (vc h 10 x0 (f_X10_theWay x0 h)).bind fun r2 =>
  kH x0 x1 v1 r2.1 r2.2
theorem y_X10_settles_J47 {g : xG} {h0 : xH} {kH : Nat → Int32 → Int32 → Option Nat → xH → Option (Int32 × xH)} {kE58 : Int32 → xH → Option (Int32 × xH)} (hkH : ∀ (x0 : Nat) (x1 : Int32) (x2 : Int32) (x3 : Option Nat) (h : xH), Y g DX10_settles h0 false iI (kH x0 x1 x2 x3 h) 7 [some (.ref x0), some (.int x1), some (.int x2), some (rv x3), none] [] h) (hkE58 : ∀ (x2 : Int32) (h : xH), Y g DX10_settles h0 false iI (kE58 x2 h) 58 [none, none, some (.int x2), none, none] [] h) (x0 : Nat) (x1 : Int32) (x2 : Int32) (h : xH) : Y g DX10_settles h0 false iI (f_X10_settles_J47 kH kE58 x0 x1 x2 h) 47 [some (.ref x0), some (.int x1), some (.int x2), none, none] [] h := by
  unfold f_X10_settles_J47
  refine Y.iinc (i := 2) (loc' := fun v1 => [some (.ref x0), some (.int x1), some (.int v1), none, none]) rfl (Nat.le_of_ble_eq_true rfl) ki_1 (fun _ => rfl) dX10_settles_47 (fun v1 => ?_)
  refine Y.op (pc' := 51) (fun _ => X.aloadn rfl dX10_settles_50) ?_
  refine Y.callVn (As := []) lk_X10_75 rfl cal_X10_theWay vir_X10_theWay (Nat.le_of_ble_eq_true rfl) (Nat.le_of_ble_eq_true rfl) rfl rfl rfl (Nat.le_of_ble_eq_true rfl) dX10_settles_51 (fun _ e => m_X10_theWay x0 h _ e) (fun r2 => ?_)
  refine Y.op (pc' := 55) (loc' := [some (.ref x0), some (.int x1), some (.int v1), some (rv r2.1), none]) (fun _ => X.astoreO (Nat.le_of_ble_eq_true rfl) rfl dX10_settles_54) ?_
  refine Y.op (pc' := 7) (fun _ => X.goto 7 (by decide) dX10_settles_55) ?_
  exact hkH x0 x1 v1 r2.1 r2.2
def f_X10_settles_L19 (kE47 : Nat → Int32 → Int32 → xH → Option (Int32 × xH)) : Nat → Nat → Int32 → Int32 → Nat → Int32 → xH → Option (Int32 × xH)
  | 0 => fun _ _ _ _ _ _ => none
  | n + 1 => fun x0 x1 x2 x3 x4 h =>
    (aL h x3).bind fun v1 =>
    if x4 ≥ v1 then
      kE47 x0 x1 x2 h
    else
      (gR h 10 x0 6).bind fun v2 =>
      (aI h x3 x4).bind fun v3 =>
      (aI h x3 (x4 + (1 : Int32))).bind fun v4 =>
      (sI h v2 v3 v4).bind fun h5 =>
      lt (x4 + (2 : Int32)) fun v6 =>
      f_X10_settles_L19 kE47 n x0 x1 x2 x3 v6 h5
theorem y_X10_settles_L19 {g : xG} {h0 : xH} {kE47 : Nat → Int32 → Int32 → xH → Option (Int32 × xH)} (hkE47 : ∀ (x0 : Nat) (x1 : Int32) (x2 : Int32) (h : xH), Y g DX10_settles h0 false iI (kE47 x0 x1 x2 h) 47 [some (.ref x0), some (.int x1), some (.int x2), none, none] [] h) : ∀ (n : Nat) (x0 : Nat) (x1 : Int32) (x2 : Int32) (x3 : Nat) (x4 : Int32) (h : xH), Y g DX10_settles h0 false iI (f_X10_settles_L19 kE47 n x0 x1 x2 x3 x4 h) 19 [some (.ref x0), some (.int x1), some (.int x2), some (.ref x3), some (.int x4)] [] h := by
  intro n
  induction n with
  | zero => intro x0 x1 x2 x3 x4 h; exact Y.nothing
  | succ n ih =>
    intro x0 x1 x2 x3 x4 h
    unfold f_X10_settles_L19
    refine Y.op (pc' := 21) (fun _ => X.iload rfl dX10_settles_19) ?_
    refine Y.op (pc' := 22) (fun _ => X.aloadn rfl dX10_settles_21) ?_
    refine Y.alen dX10_settles_22 (fun v1 => ?_)
    refine Y.cmpge 47 (by decide) dX10_settles_23 ?_ ?_
    · exact Y.fg (hkE47 x0 x1 x2 h) (And.intro rfl (And.intro rfl (And.intro rfl trivial)))
    · refine Y.op (pc' := 27) (fun _ => X.aloadn rfl dX10_settles_26) ?_
      refine Y.getR fd_X10_31 rfl dX10_settles_27 (fun v2 => ?_)
      refine Y.op (pc' := 31) (fun _ => X.aloadn rfl dX10_settles_30) ?_
      refine Y.op (pc' := 33) (fun _ => X.iload rfl dX10_settles_31) ?_
      refine Y.aldI dX10_settles_33 (fun v3 => ?_)
      refine Y.op (pc' := 35) (fun _ => X.aloadn rfl dX10_settles_34) ?_
      refine Y.op (pc' := 37) (fun _ => X.iload rfl dX10_settles_35) ?_
      refine Y.op (pc' := 38) (fun _ => X.ic ki_1 dX10_settles_37) ?_
      refine Y.op (pc' := 39) (fun _ => X.iadd dX10_settles_38) ?_
      refine Y.aldI dX10_settles_39 (fun v4 => ?_)
      refine Y.astI dX10_settles_40 (fun h5 => ?_)
      refine Y.iinc (i := 4) (loc' := fun v6 => [some (.ref x0), some (.int x1), some (.int x2), some (.ref x3), some (.int v6)]) rfl (Nat.le_of_ble_eq_true rfl) ki_2 (fun _ => rfl) dX10_settles_41 (fun v6 => ?_)
      refine Y.op (pc' := 19) (fun _ => X.goto 19 (by decide) dX10_settles_44) ?_
      exact ih x0 x1 x2 x3 v6 h5
def f_X10_settles_L7 (kE58 : Int32 → xH → Option (Int32 × xH)) : Nat → Nat → Int32 → Int32 → Option Nat → xH → Option (Int32 × xH)
  | 0 => fun _ _ _ _ _ => none
  | n + 1 => fun x0 x1 x2 x3 h =>
    nl x3
      (kE58 x2 h)
      (fun b1 =>
      if x2 ≥ x1 then
        kE58 x2 h
      else
        f_X10_settles_L19 (f_X10_settles_J47 (f_X10_settles_L7 kE58 n) kE58) 5000 x0 x1 x2 b1 (0 : Int32) h)
theorem y_X10_settles_L7 {g : xG} {h0 : xH} {kE58 : Int32 → xH → Option (Int32 × xH)} (hkE58 : ∀ (x2 : Int32) (h : xH), Y g DX10_settles h0 false iI (kE58 x2 h) 58 [none, none, some (.int x2), none, none] [] h) : ∀ (n : Nat) (x0 : Nat) (x1 : Int32) (x2 : Int32) (x3 : Option Nat) (h : xH), Y g DX10_settles h0 false iI (f_X10_settles_L7 kE58 n x0 x1 x2 x3 h) 7 [some (.ref x0), some (.int x1), some (.int x2), some (rv x3), none] [] h := by
  intro n
  induction n with
  | zero => intro x0 x1 x2 x3 h; exact Y.nothing
  | succ n ih =>
    intro x0 x1 x2 x3 h
    unfold f_X10_settles_L7
    refine Y.op (pc' := 8) (fun _ => X.aloadO rfl dX10_settles_7) ?_
    generalize x3 = o_b1
    cases o_b1 with
    | none =>
      refine Y.op (pc' := 58) (fun _ => X.ifnullN 58 (by decide) dX10_settles_8) ?_
      exact Y.fg (hkE58 x2 h) (And.intro rfl trivial)
    | some b1 =>
      refine Y.op (pc' := 11) (fun _ => X.ifnullR dX10_settles_8) ?_
      refine Y.op (pc' := 12) (fun _ => X.iloadn rfl dX10_settles_11) ?_
      refine Y.op (pc' := 13) (fun _ => X.iloadn rfl dX10_settles_12) ?_
      refine Y.cmpge 58 (by decide) dX10_settles_13 ?_ ?_
      · exact Y.fg (hkE58 x2 h) (And.intro rfl trivial)
      · refine Y.op (pc' := 17) (fun _ => X.ic ki_0 dX10_settles_16) ?_
        refine Y.op (pc' := 19) (loc' := [some (.ref x0), some (.int x1), some (.int x2), some (.ref b1), some (.int (0 : Int32))]) (fun _ => X.istore (Nat.le_of_ble_eq_true rfl) rfl dX10_settles_17) ?_
        exact y_X10_settles_L19 (y_X10_settles_J47 ih hkE58) 5000 x0 x1 x2 b1 (0 : Int32) h
def f_X10_settles (a0 : Nat) (p1 : Int32) (h : xH) : Option (Int32 × xH) :=
  (vc h 10 a0 (f_X10_theWay a0 h)).bind fun r1 =>
  f_X10_settles_L7 (f_X10_settles_J58) 5000 a0 p1 (0 : Int32) r1.1 r1.2
theorem y_X10_settles {g : xG} {h0 : xH} (a0 : Nat) (p1 : Int32) (h : xH) : Y g DX10_settles h0 false iI (f_X10_settles a0 p1 h) 0 [some (.ref a0), some (.int p1), none, none, none] [] h := by
  unfold f_X10_settles
  refine Y.op (pc' := 1) (fun _ => X.ic ki_0 dX10_settles_0) ?_
  refine Y.op (pc' := 2) (loc' := [some (.ref a0), some (.int p1), some (.int (0 : Int32)), none, none]) (fun _ => X.istoren (Nat.le_of_ble_eq_true rfl) rfl dX10_settles_1) ?_
  refine Y.op (pc' := 3) (fun _ => X.aloadn rfl dX10_settles_2) ?_
  refine Y.callVn (As := []) lk_X10_75 rfl cal_X10_theWay vir_X10_theWay (Nat.le_of_ble_eq_true rfl) (Nat.le_of_ble_eq_true rfl) rfl rfl rfl (Nat.le_of_ble_eq_true rfl) dX10_settles_3 (fun _ e => m_X10_theWay a0 h _ e) (fun r1 => ?_)
  refine Y.op (pc' := 7) (loc' := [some (.ref a0), some (.int p1), some (.int (0 : Int32)), some (rv r1.1), none]) (fun _ => X.astoreO (Nat.le_of_ble_eq_true rfl) rfl dX10_settles_6) ?_
  exact y_X10_settles_L7 (y_X10_settles_J58) 5000 a0 p1 (0 : Int32) r1.1 r1.2
theorem m_X10_settles {g : xG} (a0 : Nat) (p1 : Int32) (h : xH) (r : Int32 × xH) (e : f_X10_settles a0 p1 h = some r) : XM g DX10_settles [.ref a0, .int p1] h false (iI r) := YM.of rfl rfl (Nat.le_of_ble_eq_true rfl) (y_X10_settles a0 p1 h) e
def f_X10_chosen_J95 (x1 : Int32) (h : xH) : Option (Int32 × xH) :=
  some (x1, h)
theorem y_X10_chosen_J95 {g : xG} {h0 : xH} (x1 : Int32) (h : xH) : Y g DX10_chosen h0 false iI (f_X10_chosen_J95 x1 h) 95 [none, some (.int x1), none, none, none] [] h := by
  unfold f_X10_chosen_J95
  refine Y.op (pc' := 96) (fun _ => X.iloadn rfl dX10_chosen_95) ?_
  exact Y.ireturn rfl dX10_chosen_96
def f_X10_chosen_J89 (kH : Nat → Int32 → Int32 → xH → Option (Int32 × xH)) (kE95 : Int32 → xH → Option (Int32 × xH)) (x0 : Nat) (x1 : Int32) (x2 : Int32) (h : xH) : Option (Int32 × xH) :=
  lt (x2 + (-1 : Int32)) fun v1 =>
  kH x0 x1 v1 h
theorem y_X10_chosen_J89 {g : xG} {h0 : xH} {kH : Nat → Int32 → Int32 → xH → Option (Int32 × xH)} {kE95 : Int32 → xH → Option (Int32 × xH)} (hkH : ∀ (x0 : Nat) (x1 : Int32) (x2 : Int32) (h : xH), Y g DX10_chosen h0 false iI (kH x0 x1 x2 h) 5 [some (.ref x0), some (.int x1), some (.int x2), none, none] [] h) (hkE95 : ∀ (x1 : Int32) (h : xH), Y g DX10_chosen h0 false iI (kE95 x1 h) 95 [none, some (.int x1), none, none, none] [] h) (x0 : Nat) (x1 : Int32) (x2 : Int32) (h : xH) : Y g DX10_chosen h0 false iI (f_X10_chosen_J89 kH kE95 x0 x1 x2 h) 89 [some (.ref x0), some (.int x1), some (.int x2), none, none] [] h := by
  unfold f_X10_chosen_J89
  refine Y.iinc (i := 2) (loc' := fun v1 => [some (.ref x0), some (.int x1), some (.int v1), none, none]) rfl (Nat.le_of_ble_eq_true rfl) ki_m1 (fun _ => rfl) dX10_chosen_89 (fun v1 => ?_)
  refine Y.op (pc' := 5) (fun _ => X.goto 5 (by decide) dX10_chosen_92) ?_
  exact hkH x0 x1 v1 h
def f_X10_chosen_J83 (kH : Nat → Int32 → Int32 → Int32 → xH → Option (Int32 × xH)) (kE89 : Nat → Int32 → Int32 → xH → Option (Int32 × xH)) (x0 : Nat) (x1 : Int32) (x2 : Int32) (x3 : Int32) (h : xH) : Option (Int32 × xH) :=
  lt (x3 + (1 : Int32)) fun v1 =>
  kH x0 x1 x2 v1 h
theorem y_X10_chosen_J83 {g : xG} {h0 : xH} {kH : Nat → Int32 → Int32 → Int32 → xH → Option (Int32 × xH)} {kE89 : Nat → Int32 → Int32 → xH → Option (Int32 × xH)} (hkH : ∀ (x0 : Nat) (x1 : Int32) (x2 : Int32) (x3 : Int32) (h : xH), Y g DX10_chosen h0 false iI (kH x0 x1 x2 x3 h) 11 [some (.ref x0), some (.int x1), some (.int x2), some (.int x3), none] [] h) (hkE89 : ∀ (x0 : Nat) (x1 : Int32) (x2 : Int32) (h : xH), Y g DX10_chosen h0 false iI (kE89 x0 x1 x2 h) 89 [some (.ref x0), some (.int x1), some (.int x2), none, none] [] h) (x0 : Nat) (x1 : Int32) (x2 : Int32) (x3 : Int32) (h : xH) : Y g DX10_chosen h0 false iI (f_X10_chosen_J83 kH kE89 x0 x1 x2 x3 h) 83 [some (.ref x0), some (.int x1), some (.int x2), some (.int x3), none] [] h := by
  unfold f_X10_chosen_J83
  refine Y.iinc (i := 3) (loc' := fun v1 => [some (.ref x0), some (.int x1), some (.int x2), some (.int v1), none]) rfl (Nat.le_of_ble_eq_true rfl) ki_1 (fun _ => rfl) dX10_chosen_83 (fun v1 => ?_)
  refine Y.op (pc' := 11) (fun _ => X.goto 11 (by decide) dX10_chosen_86) ?_
  exact hkH x0 x1 x2 v1 h
def f_X10_chosen_L11 (kE89 : Nat → Int32 → Int32 → xH → Option (Int32 × xH)) : Nat → Nat → Int32 → Int32 → Int32 → xH → Option (Int32 × xH)
  | 0 => fun _ _ _ _ _ => none
  | n + 1 => fun x0 x1 x2 x3 h =>
    (gI h 10 x0 0).bind fun v1 =>
    if x3 ≥ v1 then
      kE89 x0 x1 x2 h
    else
      (gR h 10 x0 7).bind fun v2 =>
      (aI h v2 x3).bind fun v3 =>
      if v3 = x2 then
        (gI h 10 x0 3).bind fun v4 =>
        if ((v4 >>> (x3 &&& 31)) &&& (1 : Int32)) = (0 : Int32) then
          f_X10_chosen_J83 (f_X10_chosen_L11 kE89 n) kE89 x0 x1 x2 x3 h
        else
          (vc h 10 x0 (f_X10_like x0 h)).bind fun r5 =>
          (r5.1).bind fun b6 =>
          (pI r5.2 10 b6 3 (x1 ||| ((1 : Int32) <<< (x3 &&& 31)))).bind fun h7 =>
          (vc h7 10 b6 (f_X10_most 40 b6 (0 : Int32) (0 : Int32) h7)).bind fun r8 =>
          (gI r8.2 10 b6 3).bind fun v9 =>
          (f_J6_bitCount_0f7a4 v9 r8.2).bind fun r10 =>
          if r8.1 = r10.1 then
            (gI r10.2 10 b6 3).bind fun v11 =>
            f_X10_chosen_J83 (f_X10_chosen_L11 kE89 n) kE89 x0 v11 x2 x3 r10.2
          else
            f_X10_chosen_J83 (f_X10_chosen_L11 kE89 n) kE89 x0 x1 x2 x3 r10.2
      else
        f_X10_chosen_J83 (f_X10_chosen_L11 kE89 n) kE89 x0 x1 x2 x3 h
theorem y_X10_chosen_L11 {g : xG} {h0 : xH} {kE89 : Nat → Int32 → Int32 → xH → Option (Int32 × xH)} (hkE89 : ∀ (x0 : Nat) (x1 : Int32) (x2 : Int32) (h : xH), Y g DX10_chosen h0 false iI (kE89 x0 x1 x2 h) 89 [some (.ref x0), some (.int x1), some (.int x2), none, none] [] h) : ∀ (n : Nat) (x0 : Nat) (x1 : Int32) (x2 : Int32) (x3 : Int32) (h : xH), Y g DX10_chosen h0 false iI (f_X10_chosen_L11 kE89 n x0 x1 x2 x3 h) 11 [some (.ref x0), some (.int x1), some (.int x2), some (.int x3), none] [] h := by
  intro n
  induction n with
  | zero => intro x0 x1 x2 x3 h; exact Y.nothing
  | succ n ih =>
    intro x0 x1 x2 x3 h
    unfold f_X10_chosen_L11
    refine Y.op (pc' := 12) (fun _ => X.iloadn rfl dX10_chosen_11) ?_
    refine Y.op (pc' := 13) (fun _ => X.aloadn rfl dX10_chosen_12) ?_
    refine Y.getI fd_X10_7 rfl dX10_chosen_13 (fun v1 => ?_)
    refine Y.cmpge 89 (by decide) dX10_chosen_16 ?_ ?_
    · exact Y.fg (hkE89 x0 x1 x2 h) (And.intro rfl (And.intro rfl (And.intro rfl trivial)))
    · refine Y.op (pc' := 20) (fun _ => X.aloadn rfl dX10_chosen_19) ?_
      refine Y.getR fd_X10_35 rfl dX10_chosen_20 (fun v2 => ?_)
      refine Y.op (pc' := 24) (fun _ => X.iloadn rfl dX10_chosen_23) ?_
      refine Y.aldI dX10_chosen_24 (fun v3 => ?_)
      refine Y.op (pc' := 26) (fun _ => X.iloadn rfl dX10_chosen_25) ?_
      refine Y.cmpne 83 (by decide) dX10_chosen_26 ?_ ?_
      · exact y_X10_chosen_J83 ih hkE89 x0 x1 x2 x3 h
      · refine Y.op (pc' := 30) (fun _ => X.aloadn rfl dX10_chosen_29) ?_
        refine Y.getI fd_X10_20 rfl dX10_chosen_30 (fun v4 => ?_)
        refine Y.op (pc' := 34) (fun _ => X.iloadn rfl dX10_chosen_33) ?_
        refine Y.op (pc' := 35) (fun _ => X.ishr dX10_chosen_34) ?_
        refine Y.op (pc' := 36) (fun _ => X.ic ki_1 dX10_chosen_35) ?_
        refine Y.op (pc' := 37) (fun _ => X.iand dX10_chosen_36) ?_
        refine Y.ifne 43 (by decide) dX10_chosen_37 ?_ ?_
        · refine Y.op (pc' := 44) (fun _ => X.aloadn rfl dX10_chosen_43) ?_
          refine Y.callVn (As := []) lk_X10_79 rfl cal_X10_like vir_X10_like (Nat.le_of_ble_eq_true rfl) (Nat.le_of_ble_eq_true rfl) rfl rfl rfl (Nat.le_of_ble_eq_true rfl) dX10_chosen_44 (fun _ e => m_X10_like x0 h _ e) (fun r5 => ?_)
          refine Y.un (fun b6 => ?_)
          refine Y.op (pc' := 49) (loc' := [some (.ref x0), some (.int x1), some (.int x2), some (.int x3), some (.ref b6)]) (fun _ => X.astore (Nat.le_of_ble_eq_true rfl) rfl dX10_chosen_47) ?_
          refine Y.op (pc' := 51) (fun _ => X.aload rfl dX10_chosen_49) ?_
          refine Y.op (pc' := 52) (fun _ => X.iloadn rfl dX10_chosen_51) ?_
          refine Y.op (pc' := 53) (fun _ => X.ic ki_1 dX10_chosen_52) ?_
          refine Y.op (pc' := 54) (fun _ => X.iloadn rfl dX10_chosen_53) ?_
          refine Y.op (pc' := 55) (fun _ => X.ishl dX10_chosen_54) ?_
          refine Y.op (pc' := 56) (fun _ => X.ior dX10_chosen_55) ?_
          refine Y.putI fd_X10_20 rfl dX10_chosen_56 (fun h7 => ?_)
          refine Y.op (pc' := 61) (fun _ => X.aload rfl dX10_chosen_59) ?_
          refine Y.op (pc' := 62) (fun _ => X.ic ki_0 dX10_chosen_61) ?_
          refine Y.op (pc' := 63) (fun _ => X.ic ki_0 dX10_chosen_62) ?_
          refine Y.callVi (As := [.int (0 : Int32), .int (0 : Int32)]) lk_X10_44 rfl (cal_X10_most _) (vir_X10_most _) (Nat.le_of_ble_eq_true rfl) (Nat.le_of_ble_eq_true rfl) rfl rfl rfl (Nat.le_of_ble_eq_true rfl) dX10_chosen_63 (fun _ e => m_X10_most 40 b6 (0 : Int32) (0 : Int32) h7 _ e) (fun r8 => ?_)
          refine Y.op (pc' := 68) (fun _ => X.aload rfl dX10_chosen_66) ?_
          refine Y.getI fd_X10_20 rfl dX10_chosen_68 (fun v9 => ?_)
          refine Y.callSi (As := [.int v9]) lk_X10_83 rfl cal_J6_bitCount_0f7a4 sta_J6_bitCount_0f7a4 (Nat.le_of_ble_eq_true rfl) rfl rfl (Nat.le_of_ble_eq_true rfl) dX10_chosen_71 (fun _ e => m_J6_bitCount_0f7a4 v9 r8.2 _ _ e) (fun r10 => ?_)
          refine Y.cmpne 83 (by decide) dX10_chosen_74 ?_ ?_
          · exact Y.fg (y_X10_chosen_J83 ih hkE89 x0 x1 x2 x3 r10.2) (And.intro rfl (And.intro rfl (And.intro rfl (And.intro rfl trivial))))
          · refine Y.op (pc' := 79) (fun _ => X.aload rfl dX10_chosen_77) ?_
            refine Y.getI fd_X10_20 rfl dX10_chosen_79 (fun v11 => ?_)
            refine Y.op (pc' := 83) (loc' := [some (.ref x0), some (.int v11), some (.int x2), some (.int x3), some (.ref b6)]) (fun _ => X.istoren (Nat.le_of_ble_eq_true rfl) rfl dX10_chosen_82) ?_
            exact Y.fg (y_X10_chosen_J83 ih hkE89 x0 v11 x2 x3 r10.2) (And.intro rfl (And.intro rfl (And.intro rfl (And.intro rfl trivial))))
        · refine Y.op (pc' := 83) (fun _ => X.goto 83 (by decide) dX10_chosen_40) ?_
          exact y_X10_chosen_J83 ih hkE89 x0 x1 x2 x3 h
def f_X10_chosen_L5 (kE95 : Int32 → xH → Option (Int32 × xH)) : Nat → Nat → Int32 → Int32 → xH → Option (Int32 × xH)
  | 0 => fun _ _ _ _ => none
  | n + 1 => fun x0 x1 x2 h =>
    if x2 < (0 : Int32) then
      kE95 x1 h
    else
      f_X10_chosen_L11 (f_X10_chosen_J89 (f_X10_chosen_L5 kE95 n) kE95) 5000 x0 x1 x2 (0 : Int32) h
theorem y_X10_chosen_L5 {g : xG} {h0 : xH} {kE95 : Int32 → xH → Option (Int32 × xH)} (hkE95 : ∀ (x1 : Int32) (h : xH), Y g DX10_chosen h0 false iI (kE95 x1 h) 95 [none, some (.int x1), none, none, none] [] h) : ∀ (n : Nat) (x0 : Nat) (x1 : Int32) (x2 : Int32) (h : xH), Y g DX10_chosen h0 false iI (f_X10_chosen_L5 kE95 n x0 x1 x2 h) 5 [some (.ref x0), some (.int x1), some (.int x2), none, none] [] h := by
  intro n
  induction n with
  | zero => intro x0 x1 x2 h; exact Y.nothing
  | succ n ih =>
    intro x0 x1 x2 h
    unfold f_X10_chosen_L5
    refine Y.op (pc' := 6) (fun _ => X.iloadn rfl dX10_chosen_5) ?_
    refine Y.iflt 95 (by decide) dX10_chosen_6 ?_ ?_
    · exact Y.fg (hkE95 x1 h) (And.intro rfl trivial)
    · refine Y.op (pc' := 10) (fun _ => X.ic ki_0 dX10_chosen_9) ?_
      refine Y.op (pc' := 11) (loc' := [some (.ref x0), some (.int x1), some (.int x2), some (.int (0 : Int32)), none]) (fun _ => X.istoren (Nat.le_of_ble_eq_true rfl) rfl dX10_chosen_10) ?_
      exact y_X10_chosen_L11 (y_X10_chosen_J89 ih hkE95) 5000 x0 x1 x2 (0 : Int32) h
def f_X10_chosen (a0 : Nat) (h : xH) : Option (Int32 × xH) :=
  f_X10_chosen_L5 (f_X10_chosen_J95) 5000 a0 (0 : Int32) (99 : Int32) h
theorem y_X10_chosen {g : xG} {h0 : xH} (a0 : Nat) (h : xH) : Y g DX10_chosen h0 false iI (f_X10_chosen a0 h) 0 [some (.ref a0), none, none, none, none] [] h := by
  unfold f_X10_chosen
  refine Y.op (pc' := 1) (fun _ => X.ic ki_0 dX10_chosen_0) ?_
  refine Y.op (pc' := 2) (loc' := [some (.ref a0), some (.int (0 : Int32)), none, none, none]) (fun _ => X.istoren (Nat.le_of_ble_eq_true rfl) rfl dX10_chosen_1) ?_
  refine Y.op (pc' := 4) (fun _ => X.bp kb_99 dX10_chosen_2) ?_
  refine Y.op (pc' := 5) (loc' := [some (.ref a0), some (.int (0 : Int32)), some (.int (99 : Int32)), none, none]) (fun _ => X.istoren (Nat.le_of_ble_eq_true rfl) rfl dX10_chosen_4) ?_
  exact y_X10_chosen_L5 (y_X10_chosen_J95) 5000 a0 (0 : Int32) (99 : Int32) h
theorem m_X10_chosen {g : xG} (a0 : Nat) (h : xH) (r : Int32 × xH) (e : f_X10_chosen a0 h = some r) : XM g DX10_chosen [.ref a0] h false (iI r) := YM.of rfl rfl (Nat.le_of_ble_eq_true rfl) (y_X10_chosen a0 h) e
def f_X10_trades_J165 (x0 : Nat) (x1 : Int32) (x2 : Int32) (x3 : Int32) (h : xH) : Option (Int32 × xH) :=
  if x1 = (0 : Int32) then
    some ((0 : Int32), h)
  else
    (gR h 10 x0 6).bind fun v1 =>
    (aI h v1 x2).bind fun v2 =>
    (gR h 10 x0 6).bind fun v3 =>
    (gR h 10 x0 6).bind fun v4 =>
    (aI h v4 x3).bind fun v5 =>
    (sI h v3 x2 v5).bind fun h6 =>
    (gR h6 10 x0 6).bind fun v7 =>
    (sI h6 v7 x3 v2).bind fun h8 =>
    some (x1, h8)
theorem y_X10_trades_J165 {g : xG} {h0 : xH} (x0 : Nat) (x1 : Int32) (x2 : Int32) (x3 : Int32) (h : xH) : Y g DX10_trades h0 false iI (f_X10_trades_J165 x0 x1 x2 x3 h) 165 [some (.ref x0), some (.int x1), some (.int x2), some (.int x3), none, none, none, none, none] [] h := by
  unfold f_X10_trades_J165
  refine Y.op (pc' := 166) (fun _ => X.iloadn rfl dX10_trades_165) ?_
  refine Y.ifne 171 (by decide) dX10_trades_166 ?_ ?_
  · refine Y.op (pc' := 172) (fun _ => X.aloadn rfl dX10_trades_171) ?_
    refine Y.getR fd_X10_31 rfl dX10_trades_172 (fun v1 => ?_)
    refine Y.op (pc' := 176) (fun _ => X.iloadn rfl dX10_trades_175) ?_
    refine Y.aldI dX10_trades_176 (fun v2 => ?_)
    refine Y.op (pc' := 179) (loc' := [some (.ref x0), some (.int x1), some (.int x2), some (.int x3), some (.int v2), none, none, none, none]) (fun _ => X.istore (Nat.le_of_ble_eq_true rfl) rfl dX10_trades_177) ?_
    refine Y.op (pc' := 180) (fun _ => X.aloadn rfl dX10_trades_179) ?_
    refine Y.getR fd_X10_31 rfl dX10_trades_180 (fun v3 => ?_)
    refine Y.op (pc' := 184) (fun _ => X.iloadn rfl dX10_trades_183) ?_
    refine Y.op (pc' := 185) (fun _ => X.aloadn rfl dX10_trades_184) ?_
    refine Y.getR fd_X10_31 rfl dX10_trades_185 (fun v4 => ?_)
    refine Y.op (pc' := 189) (fun _ => X.iloadn rfl dX10_trades_188) ?_
    refine Y.aldI dX10_trades_189 (fun v5 => ?_)
    refine Y.astI dX10_trades_190 (fun h6 => ?_)
    refine Y.op (pc' := 192) (fun _ => X.aloadn rfl dX10_trades_191) ?_
    refine Y.getR fd_X10_31 rfl dX10_trades_192 (fun v7 => ?_)
    refine Y.op (pc' := 196) (fun _ => X.iloadn rfl dX10_trades_195) ?_
    refine Y.op (pc' := 198) (fun _ => X.iload rfl dX10_trades_196) ?_
    refine Y.astI dX10_trades_198 (fun h8 => ?_)
    refine Y.op (pc' := 200) (fun _ => X.iloadn rfl dX10_trades_199) ?_
    exact Y.ireturn rfl dX10_trades_200
  · refine Y.op (pc' := 170) (fun _ => X.ic ki_0 dX10_trades_169) ?_
    exact Y.ireturn rfl dX10_trades_170
def f_X10_trades_J159 (kH : Nat → Int32 → Int32 → Int32 → Int32 → xH → Option (Int32 × xH)) (kE165 : Nat → Int32 → Int32 → Int32 → xH → Option (Int32 × xH)) (x0 : Nat) (x1 : Int32) (x2 : Int32) (x3 : Int32) (x4 : Int32) (h : xH) : Option (Int32 × xH) :=
  lt (x4 + (1 : Int32)) fun v1 =>
  kH x0 x1 x2 x3 v1 h
theorem y_X10_trades_J159 {g : xG} {h0 : xH} {kH : Nat → Int32 → Int32 → Int32 → Int32 → xH → Option (Int32 × xH)} {kE165 : Nat → Int32 → Int32 → Int32 → xH → Option (Int32 × xH)} (hkH : ∀ (x0 : Nat) (x1 : Int32) (x2 : Int32) (x3 : Int32) (x4 : Int32) (h : xH), Y g DX10_trades h0 false iI (kH x0 x1 x2 x3 x4 h) 9 [some (.ref x0), some (.int x1), some (.int x2), some (.int x3), some (.int x4), none, none, none, none] [] h) (hkE165 : ∀ (x0 : Nat) (x1 : Int32) (x2 : Int32) (x3 : Int32) (h : xH), Y g DX10_trades h0 false iI (kE165 x0 x1 x2 x3 h) 165 [some (.ref x0), some (.int x1), some (.int x2), some (.int x3), none, none, none, none, none] [] h) (x0 : Nat) (x1 : Int32) (x2 : Int32) (x3 : Int32) (x4 : Int32) (h : xH) : Y g DX10_trades h0 false iI (f_X10_trades_J159 kH kE165 x0 x1 x2 x3 x4 h) 159 [some (.ref x0), some (.int x1), some (.int x2), some (.int x3), some (.int x4), none, none, none, none] [] h := by
  unfold f_X10_trades_J159
  refine Y.iinc (i := 4) (loc' := fun v1 => [some (.ref x0), some (.int x1), some (.int x2), some (.int x3), some (.int v1), none, none, none, none]) rfl (Nat.le_of_ble_eq_true rfl) ki_1 (fun _ => rfl) dX10_trades_159 (fun v1 => ?_)
  refine Y.op (pc' := 9) (fun _ => X.goto 9 (by decide) dX10_trades_162) ?_
  exact hkH x0 x1 x2 x3 v1 h
def f_X10_trades_J153 (kH : Nat → Int32 → Int32 → Int32 → Int32 → Int32 → xH → Option (Int32 × xH)) (kE159 : Nat → Int32 → Int32 → Int32 → Int32 → xH → Option (Int32 × xH)) (x0 : Nat) (x1 : Int32) (x2 : Int32) (x3 : Int32) (x4 : Int32) (x5 : Int32) (h : xH) : Option (Int32 × xH) :=
  lt (x5 + (1 : Int32)) fun v1 =>
  kH x0 x1 x2 x3 x4 v1 h
theorem y_X10_trades_J153 {g : xG} {h0 : xH} {kH : Nat → Int32 → Int32 → Int32 → Int32 → Int32 → xH → Option (Int32 × xH)} {kE159 : Nat → Int32 → Int32 → Int32 → Int32 → xH → Option (Int32 × xH)} (hkH : ∀ (x0 : Nat) (x1 : Int32) (x2 : Int32) (x3 : Int32) (x4 : Int32) (x5 : Int32) (h : xH), Y g DX10_trades h0 false iI (kH x0 x1 x2 x3 x4 x5 h) 24 [some (.ref x0), some (.int x1), some (.int x2), some (.int x3), some (.int x4), some (.int x5), none, none, none] [] h) (hkE159 : ∀ (x0 : Nat) (x1 : Int32) (x2 : Int32) (x3 : Int32) (x4 : Int32) (h : xH), Y g DX10_trades h0 false iI (kE159 x0 x1 x2 x3 x4 h) 159 [some (.ref x0), some (.int x1), some (.int x2), some (.int x3), some (.int x4), none, none, none, none] [] h) (x0 : Nat) (x1 : Int32) (x2 : Int32) (x3 : Int32) (x4 : Int32) (x5 : Int32) (h : xH) : Y g DX10_trades h0 false iI (f_X10_trades_J153 kH kE159 x0 x1 x2 x3 x4 x5 h) 153 [some (.ref x0), some (.int x1), some (.int x2), some (.int x3), some (.int x4), some (.int x5), none, none, none] [] h := by
  unfold f_X10_trades_J153
  refine Y.iinc (i := 5) (loc' := fun v1 => [some (.ref x0), some (.int x1), some (.int x2), some (.int x3), some (.int x4), some (.int v1), none, none, none]) rfl (Nat.le_of_ble_eq_true rfl) ki_1 (fun _ => rfl) dX10_trades_153 (fun v1 => ?_)
  refine Y.op (pc' := 24) (fun _ => X.goto 24 (by decide) dX10_trades_156) ?_
  exact hkH x0 x1 x2 x3 x4 v1 h
def f_X10_trades_L24 (kE159 : Nat → Int32 → Int32 → Int32 → Int32 → xH → Option (Int32 × xH)) : Nat → Nat → Int32 → Int32 → Int32 → Int32 → Int32 → xH → Option (Int32 × xH)
  | 0 => fun _ _ _ _ _ _ _ => none
  | n + 1 => fun x0 x1 x2 x3 x4 x5 h =>
    (gI h 10 x0 0).bind fun v1 =>
    if x5 ≥ v1 then
      kE159 x0 x1 x2 x3 x4 h
    else
      (gR h 10 x0 6).bind fun v2 =>
      (aI h v2 x4).bind fun v3 =>
      (gR h 10 x0 6).bind fun v4 =>
      (aI h v4 x5).bind fun v5 =>
      if v3 < (0 : Int32) then
        f_X10_trades_J153 (f_X10_trades_L24 kE159 n) kE159 x0 x1 x2 x3 x4 x5 h
      else
        if v5 < (0 : Int32) then
          f_X10_trades_J153 (f_X10_trades_L24 kE159 n) kE159 x0 x1 x2 x3 x4 x5 h
        else
          (gR h 10 x0 5).bind fun v6 =>
          (aR 102 h v6 x4).bind fun v7 =>
          (aI h v7 v5).bind fun v8 =>
          if v8 < (0 : Int32) then
            f_X10_trades_J153 (f_X10_trades_L24 kE159 n) kE159 x0 x1 x2 x3 x4 x5 h
          else
            (gR h 10 x0 5).bind fun v9 =>
            (aR 102 h v9 x5).bind fun v10 =>
            (aI h v10 v3).bind fun v11 =>
            if v11 ≥ (0 : Int32) then
              (gR h 10 x0 5).bind fun v12 =>
              (aR 102 h v12 x4).bind fun v13 =>
              (aI h v13 v3).bind fun v14 =>
              (gR h 10 x0 5).bind fun v15 =>
              (aR 102 h v15 x5).bind fun v16 =>
              (aI h v16 v5).bind fun v17 =>
              (gR h 10 x0 5).bind fun v18 =>
              (aR 102 h v18 x4).bind fun v19 =>
              (aI h v19 v5).bind fun v20 =>
              (gR h 10 x0 5).bind fun v21 =>
              (aR 102 h v21 x5).bind fun v22 =>
              (aI h v22 v3).bind fun v23 =>
              lt ((((v14 + v17) - v20) - v23)) fun v24 =>
              if v24 > x1 then
                f_X10_trades_J153 (f_X10_trades_L24 kE159 n) kE159 x0 v24 x4 x5 x4 x5 h
              else
                f_X10_trades_J153 (f_X10_trades_L24 kE159 n) kE159 x0 x1 x2 x3 x4 x5 h
            else
              f_X10_trades_J153 (f_X10_trades_L24 kE159 n) kE159 x0 x1 x2 x3 x4 x5 h
theorem y_X10_trades_L24 {g : xG} {h0 : xH} {kE159 : Nat → Int32 → Int32 → Int32 → Int32 → xH → Option (Int32 × xH)} (hkE159 : ∀ (x0 : Nat) (x1 : Int32) (x2 : Int32) (x3 : Int32) (x4 : Int32) (h : xH), Y g DX10_trades h0 false iI (kE159 x0 x1 x2 x3 x4 h) 159 [some (.ref x0), some (.int x1), some (.int x2), some (.int x3), some (.int x4), none, none, none, none] [] h) : ∀ (n : Nat) (x0 : Nat) (x1 : Int32) (x2 : Int32) (x3 : Int32) (x4 : Int32) (x5 : Int32) (h : xH), Y g DX10_trades h0 false iI (f_X10_trades_L24 kE159 n x0 x1 x2 x3 x4 x5 h) 24 [some (.ref x0), some (.int x1), some (.int x2), some (.int x3), some (.int x4), some (.int x5), none, none, none] [] h := by
  intro n
  induction n with
  | zero => intro x0 x1 x2 x3 x4 x5 h; exact Y.nothing
  | succ n ih =>
    intro x0 x1 x2 x3 x4 x5 h
    unfold f_X10_trades_L24
    refine Y.op (pc' := 26) (fun _ => X.iload rfl dX10_trades_24) ?_
    refine Y.op (pc' := 27) (fun _ => X.aloadn rfl dX10_trades_26) ?_
    refine Y.getI fd_X10_7 rfl dX10_trades_27 (fun v1 => ?_)
    refine Y.cmpge 159 (by decide) dX10_trades_30 ?_ ?_
    · exact Y.fg (hkE159 x0 x1 x2 x3 x4 h) (And.intro rfl (And.intro rfl (And.intro rfl (And.intro rfl (And.intro rfl trivial)))))
    · refine Y.op (pc' := 34) (fun _ => X.aloadn rfl dX10_trades_33) ?_
      refine Y.getR fd_X10_31 rfl dX10_trades_34 (fun v2 => ?_)
      refine Y.op (pc' := 39) (fun _ => X.iload rfl dX10_trades_37) ?_
      refine Y.aldI dX10_trades_39 (fun v3 => ?_)
      refine Y.op (pc' := 42) (loc' := [some (.ref x0), some (.int x1), some (.int x2), some (.int x3), some (.int x4), some (.int x5), some (.int v3), none, none]) (fun _ => X.istore (Nat.le_of_ble_eq_true rfl) rfl dX10_trades_40) ?_
      refine Y.op (pc' := 43) (fun _ => X.aloadn rfl dX10_trades_42) ?_
      refine Y.getR fd_X10_31 rfl dX10_trades_43 (fun v4 => ?_)
      refine Y.op (pc' := 48) (fun _ => X.iload rfl dX10_trades_46) ?_
      refine Y.aldI dX10_trades_48 (fun v5 => ?_)
      refine Y.op (pc' := 51) (loc' := [some (.ref x0), some (.int x1), some (.int x2), some (.int x3), some (.int x4), some (.int x5), some (.int v3), some (.int v5), none]) (fun _ => X.istore (Nat.le_of_ble_eq_true rfl) rfl dX10_trades_49) ?_
      refine Y.op (pc' := 53) (fun _ => X.iload rfl dX10_trades_51) ?_
      refine Y.iflt 153 (by decide) dX10_trades_53 ?_ ?_
      · exact Y.fg (y_X10_trades_J153 ih hkE159 x0 x1 x2 x3 x4 x5 h) (And.intro rfl (And.intro rfl (And.intro rfl (And.intro rfl (And.intro rfl (And.intro rfl trivial))))))
      · refine Y.op (pc' := 58) (fun _ => X.iload rfl dX10_trades_56) ?_
        refine Y.iflt 153 (by decide) dX10_trades_58 ?_ ?_
        · exact Y.fg (y_X10_trades_J153 ih hkE159 x0 x1 x2 x3 x4 x5 h) (And.intro rfl (And.intro rfl (And.intro rfl (And.intro rfl (And.intro rfl (And.intro rfl trivial))))))
        · refine Y.op (pc' := 62) (fun _ => X.aloadn rfl dX10_trades_61) ?_
          refine Y.getR fd_X10_28 rfl dX10_trades_62 (fun v6 => ?_)
          refine Y.op (pc' := 67) (fun _ => X.iload rfl dX10_trades_65) ?_
          refine Y.aldR 102 (by decide) (by decide) dX10_trades_67 (fun v7 => ?_)
          refine Y.op (pc' := 70) (fun _ => X.iload rfl dX10_trades_68) ?_
          refine Y.aldI dX10_trades_70 (fun v8 => ?_)
          refine Y.iflt 153 (by decide) dX10_trades_71 ?_ ?_
          · exact Y.fg (y_X10_trades_J153 ih hkE159 x0 x1 x2 x3 x4 x5 h) (And.intro rfl (And.intro rfl (And.intro rfl (And.intro rfl (And.intro rfl (And.intro rfl trivial))))))
          · refine Y.op (pc' := 75) (fun _ => X.aloadn rfl dX10_trades_74) ?_
            refine Y.getR fd_X10_28 rfl dX10_trades_75 (fun v9 => ?_)
            refine Y.op (pc' := 80) (fun _ => X.iload rfl dX10_trades_78) ?_
            refine Y.aldR 102 (by decide) (by decide) dX10_trades_80 (fun v10 => ?_)
            refine Y.op (pc' := 83) (fun _ => X.iload rfl dX10_trades_81) ?_
            refine Y.aldI dX10_trades_83 (fun v11 => ?_)
            refine Y.ifge 90 (by decide) dX10_trades_84 ?_ ?_
            · refine Y.op (pc' := 91) (fun _ => X.aloadn rfl dX10_trades_90) ?_
              refine Y.getR fd_X10_28 rfl dX10_trades_91 (fun v12 => ?_)
              refine Y.op (pc' := 96) (fun _ => X.iload rfl dX10_trades_94) ?_
              refine Y.aldR 102 (by decide) (by decide) dX10_trades_96 (fun v13 => ?_)
              refine Y.op (pc' := 99) (fun _ => X.iload rfl dX10_trades_97) ?_
              refine Y.aldI dX10_trades_99 (fun v14 => ?_)
              refine Y.op (pc' := 101) (fun _ => X.aloadn rfl dX10_trades_100) ?_
              refine Y.getR fd_X10_28 rfl dX10_trades_101 (fun v15 => ?_)
              refine Y.op (pc' := 106) (fun _ => X.iload rfl dX10_trades_104) ?_
              refine Y.aldR 102 (by decide) (by decide) dX10_trades_106 (fun v16 => ?_)
              refine Y.op (pc' := 109) (fun _ => X.iload rfl dX10_trades_107) ?_
              refine Y.aldI dX10_trades_109 (fun v17 => ?_)
              refine Y.op (pc' := 111) (fun _ => X.iadd dX10_trades_110) ?_
              refine Y.op (pc' := 112) (fun _ => X.aloadn rfl dX10_trades_111) ?_
              refine Y.getR fd_X10_28 rfl dX10_trades_112 (fun v18 => ?_)
              refine Y.op (pc' := 117) (fun _ => X.iload rfl dX10_trades_115) ?_
              refine Y.aldR 102 (by decide) (by decide) dX10_trades_117 (fun v19 => ?_)
              refine Y.op (pc' := 120) (fun _ => X.iload rfl dX10_trades_118) ?_
              refine Y.aldI dX10_trades_120 (fun v20 => ?_)
              refine Y.op (pc' := 122) (fun _ => X.isub dX10_trades_121) ?_
              refine Y.op (pc' := 123) (fun _ => X.aloadn rfl dX10_trades_122) ?_
              refine Y.getR fd_X10_28 rfl dX10_trades_123 (fun v21 => ?_)
              refine Y.op (pc' := 128) (fun _ => X.iload rfl dX10_trades_126) ?_
              refine Y.aldR 102 (by decide) (by decide) dX10_trades_128 (fun v22 => ?_)
              refine Y.op (pc' := 131) (fun _ => X.iload rfl dX10_trades_129) ?_
              refine Y.aldI dX10_trades_131 (fun v23 => ?_)
              refine Y.op (pc' := 133) (fun _ => X.isub dX10_trades_132) ?_
              refine Y.top (fun v24 => ?_)
              refine Y.op (pc' := 135) (loc' := [some (.ref x0), some (.int x1), some (.int x2), some (.int x3), some (.int x4), some (.int x5), some (.int v3), some (.int v5), some (.int v24)]) (fun _ => X.istore (Nat.le_of_ble_eq_true rfl) rfl dX10_trades_133) ?_
              refine Y.op (pc' := 137) (fun _ => X.iload rfl dX10_trades_135) ?_
              refine Y.op (pc' := 138) (fun _ => X.iloadn rfl dX10_trades_137) ?_
              refine Y.cmpgt 144 (by decide) dX10_trades_138 ?_ ?_
              · refine Y.op (pc' := 146) (fun _ => X.iload rfl dX10_trades_144) ?_
                refine Y.op (pc' := 147) (loc' := [some (.ref x0), some (.int v24), some (.int x2), some (.int x3), some (.int x4), some (.int x5), some (.int v3), some (.int v5), some (.int v24)]) (fun _ => X.istoren (Nat.le_of_ble_eq_true rfl) rfl dX10_trades_146) ?_
                refine Y.op (pc' := 149) (fun _ => X.iload rfl dX10_trades_147) ?_
                refine Y.op (pc' := 150) (loc' := [some (.ref x0), some (.int v24), some (.int x4), some (.int x3), some (.int x4), some (.int x5), some (.int v3), some (.int v5), some (.int v24)]) (fun _ => X.istoren (Nat.le_of_ble_eq_true rfl) rfl dX10_trades_149) ?_
                refine Y.op (pc' := 152) (fun _ => X.iload rfl dX10_trades_150) ?_
                refine Y.op (pc' := 153) (loc' := [some (.ref x0), some (.int v24), some (.int x4), some (.int x5), some (.int x4), some (.int x5), some (.int v3), some (.int v5), some (.int v24)]) (fun _ => X.istoren (Nat.le_of_ble_eq_true rfl) rfl dX10_trades_152) ?_
                exact Y.fg (y_X10_trades_J153 ih hkE159 x0 v24 x4 x5 x4 x5 h) (And.intro rfl (And.intro rfl (And.intro rfl (And.intro rfl (And.intro rfl (And.intro rfl trivial))))))
              · refine Y.op (pc' := 153) (fun _ => X.goto 153 (by decide) dX10_trades_141) ?_
                exact Y.fg (y_X10_trades_J153 ih hkE159 x0 x1 x2 x3 x4 x5 h) (And.intro rfl (And.intro rfl (And.intro rfl (And.intro rfl (And.intro rfl (And.intro rfl trivial))))))
            · refine Y.op (pc' := 153) (fun _ => X.goto 153 (by decide) dX10_trades_87) ?_
              exact Y.fg (y_X10_trades_J153 ih hkE159 x0 x1 x2 x3 x4 x5 h) (And.intro rfl (And.intro rfl (And.intro rfl (And.intro rfl (And.intro rfl (And.intro rfl trivial))))))
def f_X10_trades_L9 (kE165 : Nat → Int32 → Int32 → Int32 → xH → Option (Int32 × xH)) : Nat → Nat → Int32 → Int32 → Int32 → Int32 → xH → Option (Int32 × xH)
  | 0 => fun _ _ _ _ _ _ => none
  | n + 1 => fun x0 x1 x2 x3 x4 h =>
    (gI h 10 x0 0).bind fun v1 =>
    if x4 ≥ v1 then
      kE165 x0 x1 x2 x3 h
    else
      lt ((x4 + (1 : Int32))) fun v2 =>
      f_X10_trades_L24 (f_X10_trades_J159 (f_X10_trades_L9 kE165 n) kE165) 5000 x0 x1 x2 x3 x4 v2 h
theorem y_X10_trades_L9 {g : xG} {h0 : xH} {kE165 : Nat → Int32 → Int32 → Int32 → xH → Option (Int32 × xH)} (hkE165 : ∀ (x0 : Nat) (x1 : Int32) (x2 : Int32) (x3 : Int32) (h : xH), Y g DX10_trades h0 false iI (kE165 x0 x1 x2 x3 h) 165 [some (.ref x0), some (.int x1), some (.int x2), some (.int x3), none, none, none, none, none] [] h) : ∀ (n : Nat) (x0 : Nat) (x1 : Int32) (x2 : Int32) (x3 : Int32) (x4 : Int32) (h : xH), Y g DX10_trades h0 false iI (f_X10_trades_L9 kE165 n x0 x1 x2 x3 x4 h) 9 [some (.ref x0), some (.int x1), some (.int x2), some (.int x3), some (.int x4), none, none, none, none] [] h := by
  intro n
  induction n with
  | zero => intro x0 x1 x2 x3 x4 h; exact Y.nothing
  | succ n ih =>
    intro x0 x1 x2 x3 x4 h
    unfold f_X10_trades_L9
    refine Y.op (pc' := 11) (fun _ => X.iload rfl dX10_trades_9) ?_
    refine Y.op (pc' := 12) (fun _ => X.aloadn rfl dX10_trades_11) ?_
    refine Y.getI fd_X10_7 rfl dX10_trades_12 (fun v1 => ?_)
    refine Y.cmpge 165 (by decide) dX10_trades_15 ?_ ?_
    · exact Y.fg (hkE165 x0 x1 x2 x3 h) (And.intro rfl (And.intro rfl (And.intro rfl (And.intro rfl trivial))))
    · refine Y.op (pc' := 20) (fun _ => X.iload rfl dX10_trades_18) ?_
      refine Y.op (pc' := 21) (fun _ => X.ic ki_1 dX10_trades_20) ?_
      refine Y.op (pc' := 22) (fun _ => X.iadd dX10_trades_21) ?_
      refine Y.top (fun v2 => ?_)
      refine Y.op (pc' := 24) (loc' := [some (.ref x0), some (.int x1), some (.int x2), some (.int x3), some (.int x4), some (.int v2), none, none, none]) (fun _ => X.istore (Nat.le_of_ble_eq_true rfl) rfl dX10_trades_22) ?_
      exact y_X10_trades_L24 (y_X10_trades_J159 ih hkE165) 5000 x0 x1 x2 x3 x4 v2 h
def f_X10_trades (a0 : Nat) (h : xH) : Option (Int32 × xH) :=
  f_X10_trades_L9 (f_X10_trades_J165) 5000 a0 (0 : Int32) (-1 : Int32) (-1 : Int32) (0 : Int32) h
theorem y_X10_trades {g : xG} {h0 : xH} (a0 : Nat) (h : xH) : Y g DX10_trades h0 false iI (f_X10_trades a0 h) 0 [some (.ref a0), none, none, none, none, none, none, none, none] [] h := by
  unfold f_X10_trades
  refine Y.op (pc' := 1) (fun _ => X.ic ki_0 dX10_trades_0) ?_
  refine Y.op (pc' := 2) (loc' := [some (.ref a0), some (.int (0 : Int32)), none, none, none, none, none, none, none]) (fun _ => X.istoren (Nat.le_of_ble_eq_true rfl) rfl dX10_trades_1) ?_
  refine Y.op (pc' := 3) (fun _ => X.ic ki_m1 dX10_trades_2) ?_
  refine Y.op (pc' := 4) (loc' := [some (.ref a0), some (.int (0 : Int32)), some (.int (-1 : Int32)), none, none, none, none, none, none]) (fun _ => X.istoren (Nat.le_of_ble_eq_true rfl) rfl dX10_trades_3) ?_
  refine Y.op (pc' := 5) (fun _ => X.ic ki_m1 dX10_trades_4) ?_
  refine Y.op (pc' := 6) (loc' := [some (.ref a0), some (.int (0 : Int32)), some (.int (-1 : Int32)), some (.int (-1 : Int32)), none, none, none, none, none]) (fun _ => X.istoren (Nat.le_of_ble_eq_true rfl) rfl dX10_trades_5) ?_
  refine Y.op (pc' := 7) (fun _ => X.ic ki_0 dX10_trades_6) ?_
  refine Y.op (pc' := 9) (loc' := [some (.ref a0), some (.int (0 : Int32)), some (.int (-1 : Int32)), some (.int (-1 : Int32)), some (.int (0 : Int32)), none, none, none, none]) (fun _ => X.istore (Nat.le_of_ble_eq_true rfl) rfl dX10_trades_7) ?_
  exact y_X10_trades_L9 (y_X10_trades_J165) 5000 a0 (0 : Int32) (-1 : Int32) (-1 : Int32) (0 : Int32) h
theorem m_X10_trades {g : xG} (a0 : Nat) (h : xH) (r : Int32 × xH) (e : f_X10_trades a0 h = some r) : XM g DX10_trades [.ref a0] h false (iI r) := YM.of rfl rfl (Nat.le_of_ble_eq_true rfl) (y_X10_trades a0 h) e
