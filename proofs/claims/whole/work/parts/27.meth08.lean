def f_X10_text_J126 (x0 : Nat) (h : xH) : Option (Int32 × xH) :=
  (gI h 10 x0 7).bind fun v1 =>
  (pI h 10 x0 5 v1).bind fun h2 =>
  (vc h2 10 x0 (f_X10_fine x0 h2)).bind fun r3 =>
  if r3.1 = (0 : Int32) then
    (gI r3.2 10 x0 6).bind fun v8 =>
    some ((v8 - (10 : Int32)), r3.2)
  else
    (vc r3.2 10 x0 (f_X10_copies x0 (1 : Int32) (0 : Int32) r3.2)).bind fun h4 =>
    (pI h4 10 x0 14 (0 : Int32)).bind fun h5 =>
    (vc h5 10 x0 (f_X10_keeps x0 h5)).bind fun h6 =>
    (vc h6 10 x0 (f_X10_pairs x0 h6)).bind fun r7 =>
    some (r7.1, r7.2)
theorem y_X10_text_J126 {g : xG} {h0 : xH} {cl : Bool} (x0 : Nat) (h : xH) : Y g DX10_text h0 cl iI (f_X10_text_J126 x0 h) 126 [some (.ref x0), none, none] [] h := by
  unfold f_X10_text_J126
  refine Y.op (pc' := 127) (fun _ => X.aloadn rfl dX10_text_126) ?_
  refine Y.op (pc' := 128) (fun _ => X.aloadn rfl dX10_text_127) ?_
  refine Y.getI fd_X10_101 rfl dX10_text_128 (fun v1 => ?_)
  refine Y.putI fd_X10_13 rfl dX10_text_131 (fun h2 => ?_)
  refine Y.op (pc' := 135) (fun _ => X.aloadn rfl dX10_text_134) ?_
  refine Y.callVi (As := []) lk_X10_104 rfl cal_X10_fine vir_X10_fine (Nat.le_of_ble_eq_true rfl) (Nat.le_of_ble_eq_true rfl) rfl rfl rfl (Nat.le_of_ble_eq_true rfl) dX10_text_135 (fun _ e => m_X10_fine x0 h2 _ _ e) (fun r3 => ?_)
  refine Y.ifne 149 (by decide) dX10_text_138 ?_ ?_
  · refine Y.op (pc' := 150) (fun _ => X.aloadn rfl dX10_text_149) ?_
    refine Y.op (pc' := 151) (fun _ => X.ic ki_1 dX10_text_150) ?_
    refine Y.op (pc' := 152) (fun _ => X.ic ki_0 dX10_text_151) ?_
    refine Y.callVv (As := [.int (1 : Int32), .int (0 : Int32)]) lk_X10_228 rfl cal_X10_copies vir_X10_copies (Nat.le_of_ble_eq_true rfl) (Nat.le_of_ble_eq_true rfl) rfl rfl rfl (Nat.le_of_ble_eq_true rfl) dX10_text_152 (fun _ e => m_X10_copies x0 (1 : Int32) (0 : Int32) r3.2 _ _ e) (fun h4 => ?_)
    refine Y.op (pc' := 156) (fun _ => X.aloadn rfl dX10_text_155) ?_
    refine Y.op (pc' := 157) (fun _ => X.ic ki_0 dX10_text_156) ?_
    refine Y.putI fd_X10_231 rfl dX10_text_157 (fun h5 => ?_)
    refine Y.op (pc' := 161) (fun _ => X.aloadn rfl dX10_text_160) ?_
    refine Y.callVv (As := []) lk_X10_234 rfl cal_X10_keeps vir_X10_keeps (Nat.le_of_ble_eq_true rfl) (Nat.le_of_ble_eq_true rfl) rfl rfl rfl (Nat.le_of_ble_eq_true rfl) dX10_text_161 (fun _ e => m_X10_keeps x0 h5 _ _ e) (fun h6 => ?_)
    refine Y.op (pc' := 165) (fun _ => X.aloadn rfl dX10_text_164) ?_
    refine Y.callVi (As := []) lk_X10_237 rfl cal_X10_pairs vir_X10_pairs (Nat.le_of_ble_eq_true rfl) (Nat.le_of_ble_eq_true rfl) rfl rfl rfl (Nat.le_of_ble_eq_true rfl) dX10_text_165 (fun _ e => m_X10_pairs x0 h6 _ _ e) (fun r7 => ?_)
    exact Y.ireturn rfl dX10_text_168
  · refine Y.op (pc' := 142) (fun _ => X.aloadn rfl dX10_text_141) ?_
    refine Y.getI fd_X10_98 rfl dX10_text_142 (fun v8 => ?_)
    refine Y.op (pc' := 147) (fun _ => X.bp kb_10 dX10_text_145) ?_
    refine Y.op (pc' := 148) (fun _ => X.isub dX10_text_147) ?_
    exact Y.ireturn rfl dX10_text_148
def f_X10_text_L104 (kE126 : Nat → xH → Option (Int32 × xH)) : Nat → Nat → xH → Option (Int32 × xH)
  | 0 => fun _ _ => none
  | n + 1 => fun x0 h =>
    (vc h 10 x0 (f_X10_fine x0 h)).bind fun r1 =>
    if r1.1 = (0 : Int32) then
      kE126 x0 r1.2
    else
      (vc r1.2 10 x0 (f_X10_here x0 r1.2)).bind fun r2 =>
      if r2.1 = (-1 : Int32) then
        kE126 x0 r2.2
      else
        (vc r2.2 10 x0 (f_X10_readsLine x0 r2.2)).bind fun h3 =>
        f_X10_text_L104 kE126 n x0 h3
theorem y_X10_text_L104 {g : xG} {h0 : xH} {cl : Bool} {kE126 : Nat → xH → Option (Int32 × xH)} (hkE126 : ∀ (x0 : Nat) (h : xH), Y g DX10_text h0 cl iI (kE126 x0 h) 126 [some (.ref x0), none, none] [] h) : ∀ (n : Nat) (x0 : Nat) (h : xH), Y g DX10_text h0 cl iI (f_X10_text_L104 kE126 n x0 h) 104 [some (.ref x0), none, none] [] h := by
  intro n
  induction n with
  | zero => intro x0 h; exact Y.nothing
  | succ n ih =>
    intro x0 h
    unfold f_X10_text_L104
    refine Y.op (pc' := 105) (fun _ => X.aloadn rfl dX10_text_104) ?_
    refine Y.callVi (As := []) lk_X10_104 rfl cal_X10_fine vir_X10_fine (Nat.le_of_ble_eq_true rfl) (Nat.le_of_ble_eq_true rfl) rfl rfl rfl (Nat.le_of_ble_eq_true rfl) dX10_text_105 (fun _ e => m_X10_fine x0 h _ _ e) (fun r1 => ?_)
    refine Y.ifeq 126 (by decide) dX10_text_108 ?_ ?_
    · exact hkE126 x0 r1.2
    · refine Y.op (pc' := 112) (fun _ => X.aloadn rfl dX10_text_111) ?_
      refine Y.callVi (As := []) lk_X10_108 rfl cal_X10_here vir_X10_here (Nat.le_of_ble_eq_true rfl) (Nat.le_of_ble_eq_true rfl) rfl rfl rfl (Nat.le_of_ble_eq_true rfl) dX10_text_112 (fun _ e => m_X10_here x0 r1.2 _ _ e) (fun r2 => ?_)
      refine Y.op (pc' := 116) (fun _ => X.ic ki_m1 dX10_text_115) ?_
      refine Y.cmpeq 126 (by decide) dX10_text_116 ?_ ?_
      · exact hkE126 x0 r2.2
      · refine Y.op (pc' := 120) (fun _ => X.aloadn rfl dX10_text_119) ?_
        refine Y.callVv (As := []) lk_X10_225 rfl cal_X10_readsLine vir_X10_readsLine (Nat.le_of_ble_eq_true rfl) (Nat.le_of_ble_eq_true rfl) rfl rfl rfl (Nat.le_of_ble_eq_true rfl) dX10_text_120 (fun _ e => m_X10_readsLine x0 r2.2 _ _ e) (fun h3 => ?_)
        refine Y.op (pc' := 104) (fun _ => X.goto 104 (by decide) dX10_text_123) ?_
        exact ih x0 h3
def f_X10_text_J23 (x0 : Nat) (x1 : Int32) (s0 : Nat) (s1 : Int32) (h : xH) : Option (Int32 × xH) :=
  (vc h 10 s0 (f_X10_bad s0 s1 (1 : Int32) (1 : Int32) h)).bind fun r1 =>
  if r1.1 = (0 : Int32) then
    (pI r1.2 10 x0 2 (0 : Int32)).bind fun h2 =>
    (pI h2 10 x0 3 x1).bind fun h3 =>
    (pI h3 10 x0 4 (0 : Int32)).bind fun h4 =>
    (pI h4 10 x0 6 (0 : Int32)).bind fun h5 =>
    (pI h5 10 x0 7 (-1 : Int32)).bind fun h6 =>
    (pZ h6 10 x0 16 (0 : Int32)).bind fun h7 =>
    (vc h7 10 x0 (f_X10_must x0 (1000003 : Nat) h7)).bind fun h8 =>
    (vc h8 10 x0 (f_X10_number x0 (1 : Int32) (12 : Int32) h8)).bind fun r9 =>
    (vc r9.2 10 x0 (f_X10_ends x0 r9.2)).bind fun h10 =>
    (vc h10 10 x0 (f_X10_must x0 (1000004 : Nat) h10)).bind fun h11 =>
    (vc h11 10 x0 (f_X10_number x0 (1 : Int32) (12 : Int32) h11)).bind fun r12 =>
    (vc r12.2 10 x0 (f_X10_begins x0 (1 : Int32) r9.1 r12.1 r12.2)).bind fun h13 =>
    (vc h13 10 x0 (f_X10_ends x0 h13)).bind fun h14 =>
    f_X10_text_L104 (f_X10_text_J126) 5000 x0 h14
  else
    some ((0 : Int32), r1.2)
theorem y_X10_text_J23 {g : xG} {h0 : xH} {cl : Bool} (x0 : Nat) (x1 : Int32) (s0 : Nat) (s1 : Int32) (h : xH) : Y g DX10_text h0 cl iI (f_X10_text_J23 x0 x1 s0 s1 h) 23 [some (.ref x0), some (.int x1), none] [.int s1, .ref s0] h := by
  unfold f_X10_text_J23
  refine Y.op (pc' := 24) (fun _ => X.ic ki_1 dX10_text_23) ?_
  refine Y.op (pc' := 25) (fun _ => X.ic ki_1 dX10_text_24) ?_
  refine Y.callVi (As := [.int s1, .int (1 : Int32), .int (1 : Int32)]) lk_X10_217 rfl cal_X10_bad vir_X10_bad (Nat.le_of_ble_eq_true rfl) (Nat.le_of_ble_eq_true rfl) rfl rfl rfl (Nat.le_of_ble_eq_true rfl) dX10_text_25 (fun _ e => m_X10_bad s0 s1 (1 : Int32) (1 : Int32) h _ _ e) (fun r1 => ?_)
  refine Y.ifeq 33 (by decide) dX10_text_28 ?_ ?_
  · refine Y.op (pc' := 34) (fun _ => X.aloadn rfl dX10_text_33) ?_
    refine Y.op (pc' := 35) (fun _ => X.ic ki_0 dX10_text_34) ?_
    refine Y.putI fd_X10_85 rfl dX10_text_35 (fun h2 => ?_)
    refine Y.op (pc' := 39) (fun _ => X.aloadn rfl dX10_text_38) ?_
    refine Y.op (pc' := 40) (fun _ => X.iloadn rfl dX10_text_39) ?_
    refine Y.putI fd_X10_88 rfl dX10_text_40 (fun h3 => ?_)
    refine Y.op (pc' := 44) (fun _ => X.aloadn rfl dX10_text_43) ?_
    refine Y.op (pc' := 45) (fun _ => X.ic ki_0 dX10_text_44) ?_
    refine Y.putI fd_X10_91 rfl dX10_text_45 (fun h4 => ?_)
    refine Y.op (pc' := 49) (fun _ => X.aloadn rfl dX10_text_48) ?_
    refine Y.op (pc' := 50) (fun _ => X.ic ki_0 dX10_text_49) ?_
    refine Y.putI fd_X10_98 rfl dX10_text_50 (fun h5 => ?_)
    refine Y.op (pc' := 54) (fun _ => X.aloadn rfl dX10_text_53) ?_
    refine Y.op (pc' := 55) (fun _ => X.ic ki_m1 dX10_text_54) ?_
    refine Y.putI fd_X10_101 rfl dX10_text_55 (fun h6 => ?_)
    refine Y.op (pc' := 59) (fun _ => X.aloadn rfl dX10_text_58) ?_
    refine Y.op (pc' := 60) (fun _ => X.ic ki_0 dX10_text_59) ?_
    refine Y.putZ fd_X10_186 rfl dX10_text_60 (fun h7 => ?_)
    refine Y.op (pc' := 64) (fun _ => X.aloadn rfl dX10_text_63) ?_
    refine Y.op (pc' := 66) (fun _ => X.ldcS ws_X10_221 rfl dX10_text_64) ?_
    refine Y.callVv (As := [.ref (1000003 : Nat)]) lk_X10_174 rfl cal_X10_must vir_X10_must (Nat.le_of_ble_eq_true rfl) (Nat.le_of_ble_eq_true rfl) rfl rfl rfl (Nat.le_of_ble_eq_true rfl) dX10_text_66 (fun _ e => m_X10_must x0 (1000003 : Nat) h7 _ _ e) (fun h8 => ?_)
    refine Y.op (pc' := 70) (fun _ => X.aloadn rfl dX10_text_69) ?_
    refine Y.op (pc' := 71) (fun _ => X.ic ki_1 dX10_text_70) ?_
    refine Y.op (pc' := 73) (fun _ => X.bp kb_12 dX10_text_71) ?_
    refine Y.callVi (As := [.int (1 : Int32), .int (12 : Int32)]) lk_X10_161 rfl cal_X10_number vir_X10_number (Nat.le_of_ble_eq_true rfl) (Nat.le_of_ble_eq_true rfl) rfl rfl rfl (Nat.le_of_ble_eq_true rfl) dX10_text_73 (fun _ e => m_X10_number x0 (1 : Int32) (12 : Int32) h8 _ _ e) (fun r9 => ?_)
    refine Y.op (pc' := 77) (loc' := [some (.ref x0), some (.int x1), some (.int r9.1)]) (fun _ => X.istoren (Nat.le_of_ble_eq_true rfl) rfl dX10_text_76) ?_
    refine Y.op (pc' := 78) (fun _ => X.aloadn rfl dX10_text_77) ?_
    refine Y.callVv (As := []) lk_X10_214 rfl cal_X10_ends vir_X10_ends (Nat.le_of_ble_eq_true rfl) (Nat.le_of_ble_eq_true rfl) rfl rfl rfl (Nat.le_of_ble_eq_true rfl) dX10_text_78 (fun _ e => m_X10_ends x0 r9.2 _ _ e) (fun h10 => ?_)
    refine Y.op (pc' := 82) (fun _ => X.aloadn rfl dX10_text_81) ?_
    refine Y.op (pc' := 84) (fun _ => X.ldcS ws_X10_223 rfl dX10_text_82) ?_
    refine Y.callVv (As := [.ref (1000004 : Nat)]) lk_X10_174 rfl cal_X10_must vir_X10_must (Nat.le_of_ble_eq_true rfl) (Nat.le_of_ble_eq_true rfl) rfl rfl rfl (Nat.le_of_ble_eq_true rfl) dX10_text_84 (fun _ e => m_X10_must x0 (1000004 : Nat) h10 _ _ e) (fun h11 => ?_)
    refine Y.op (pc' := 88) (fun _ => X.aloadn rfl dX10_text_87) ?_
    refine Y.op (pc' := 89) (fun _ => X.ic ki_1 dX10_text_88) ?_
    refine Y.op (pc' := 90) (fun _ => X.iloadn rfl dX10_text_89) ?_
    refine Y.op (pc' := 91) (fun _ => X.aloadn rfl dX10_text_90) ?_
    refine Y.op (pc' := 92) (fun _ => X.ic ki_1 dX10_text_91) ?_
    refine Y.op (pc' := 94) (fun _ => X.bp kb_12 dX10_text_92) ?_
    refine Y.callVi (As := [.int (1 : Int32), .int (12 : Int32)]) lk_X10_161 rfl cal_X10_number vir_X10_number (Nat.le_of_ble_eq_true rfl) (Nat.le_of_ble_eq_true rfl) rfl rfl rfl (Nat.le_of_ble_eq_true rfl) dX10_text_94 (fun _ e => m_X10_number x0 (1 : Int32) (12 : Int32) h11 _ _ e) (fun r12 => ?_)
    refine Y.callVv (As := [.int (1 : Int32), .int r9.1, .int r12.1]) lk_X10_78 rfl cal_X10_begins vir_X10_begins (Nat.le_of_ble_eq_true rfl) (Nat.le_of_ble_eq_true rfl) rfl rfl rfl (Nat.le_of_ble_eq_true rfl) dX10_text_97 (fun _ e => m_X10_begins x0 (1 : Int32) r9.1 r12.1 r12.2 _ _ e) (fun h13 => ?_)
    refine Y.op (pc' := 101) (fun _ => X.aloadn rfl dX10_text_100) ?_
    refine Y.callVv (As := []) lk_X10_214 rfl cal_X10_ends vir_X10_ends (Nat.le_of_ble_eq_true rfl) (Nat.le_of_ble_eq_true rfl) rfl rfl rfl (Nat.le_of_ble_eq_true rfl) dX10_text_101 (fun _ e => m_X10_ends x0 h13 _ _ e) (fun h14 => ?_)
    exact Y.fg (y_X10_text_L104 (y_X10_text_J126) 5000 x0 h14) (And.intro rfl trivial)
  · refine Y.op (pc' := 32) (fun _ => X.ic ki_0 dX10_text_31) ?_
    exact Y.ireturn rfl dX10_text_32
def f_X10_text (a0 : Nat) (p1 : Int32) (h : xH) : Option (Int32 × xH) :=
  (pI h 10 a0 0 (0 : Int32)).bind fun h1 =>
  (gI h1 10 a0 2).bind fun v2 =>
  (f_X10_in p1 (0 : Int32) v2 h1).bind fun r3 =>
  if r3.1 = (0 : Int32) then
    f_X10_text_J23 a0 p1 a0 (1 : Int32) r3.2
  else
    f_X10_text_J23 a0 p1 a0 (0 : Int32) r3.2
theorem y_X10_text {g : xG} {h0 : xH} {cl : Bool} (a0 : Nat) (p1 : Int32) (h : xH) : Y g DX10_text h0 cl iI (f_X10_text a0 p1 h) 0 [some (.ref a0), some (.int p1), none] [] h := by
  unfold f_X10_text
  refine Y.op (pc' := 1) (fun _ => X.aloadn rfl dX10_text_0) ?_
  refine Y.op (pc' := 2) (fun _ => X.ic ki_0 dX10_text_1) ?_
  refine Y.putI fd_X10_82 rfl dX10_text_2 (fun h1 => ?_)
  refine Y.op (pc' := 6) (fun _ => X.aloadn rfl dX10_text_5) ?_
  refine Y.op (pc' := 7) (fun _ => X.iloadn rfl dX10_text_6) ?_
  refine Y.op (pc' := 8) (fun _ => X.ic ki_0 dX10_text_7) ?_
  refine Y.op (pc' := 9) (fun _ => X.aloadn rfl dX10_text_8) ?_
  refine Y.getI fd_X10_85 rfl dX10_text_9 (fun v2 => ?_)
  refine Y.callSi (As := [.int p1, .int (0 : Int32), .int v2]) lk_X10_127 rfl cal_X10_in sta_X10_in (Nat.le_of_ble_eq_true rfl) rfl rfl (Nat.le_of_ble_eq_true rfl) dX10_text_12 (fun _ e => m_X10_in p1 (0 : Int32) v2 h1 _ _ e) (fun r3 => ?_)
  refine Y.ifne 22 (by decide) dX10_text_15 ?_ ?_
  · refine Y.op (pc' := 23) (fun _ => X.ic ki_0 dX10_text_22) ?_
    exact y_X10_text_J23 a0 p1 a0 (0 : Int32) r3.2
  · refine Y.op (pc' := 19) (fun _ => X.ic ki_1 dX10_text_18) ?_
    refine Y.op (pc' := 23) (fun _ => X.goto 23 (by decide) dX10_text_19) ?_
    exact y_X10_text_J23 a0 p1 a0 (1 : Int32) r3.2
theorem m_X10_text {g : xG} (a0 : Nat) (p1 : Int32) (h : xH) (cl : Bool) (r : Int32 × xH) (e : f_X10_text a0 p1 h = some r) : XM g DX10_text [.ref a0, .int p1] h cl (iI r) := YM.of rfl rfl (Nat.le_of_ble_eq_true rfl) (y_X10_text a0 p1 h) e
def f_X10_fault (a0 : Nat) (h : xH) : Option (Int32 × xH) :=
  (pI h 10 a0 0 (0 : Int32)).bind fun h1 =>
  (gI h1 10 a0 5).bind fun v2 =>
  some (v2, h1)
theorem y_X10_fault {g : xG} {h0 : xH} {cl : Bool} (a0 : Nat) (h : xH) : Y g DX10_fault h0 cl iI (f_X10_fault a0 h) 0 [some (.ref a0)] [] h := by
  unfold f_X10_fault
  refine Y.op (pc' := 1) (fun _ => X.aloadn rfl dX10_fault_0) ?_
  refine Y.op (pc' := 2) (fun _ => X.ic ki_0 dX10_fault_1) ?_
  refine Y.putI fd_X10_82 rfl dX10_fault_2 (fun h1 => ?_)
  refine Y.op (pc' := 6) (fun _ => X.aloadn rfl dX10_fault_5) ?_
  refine Y.getI fd_X10_13 rfl dX10_fault_6 (fun v2 => ?_)
  exact Y.ireturn rfl dX10_fault_9
theorem m_X10_fault {g : xG} (a0 : Nat) (h : xH) (cl : Bool) (r : Int32 × xH) (e : f_X10_fault a0 h = some r) : XM g DX10_fault [.ref a0] h cl (iI r) := YM.of rfl rfl (Nat.le_of_ble_eq_true rfl) (y_X10_fault a0 h) e
def f_X10_freeOf_J41 (x2 : Int32) (h : xH) : Option (Int32 × xH) :=
  some (x2, h)
theorem y_X10_freeOf_J41 {g : xG} {h0 : xH} {cl : Bool} (x2 : Int32) (h : xH) : Y g DX10_freeOf h0 cl iI (f_X10_freeOf_J41 x2 h) 41 [none, none, some (.int x2), none] [] h := by
  unfold f_X10_freeOf_J41
  refine Y.op (pc' := 42) (fun _ => X.iloadn rfl dX10_freeOf_41) ?_
  exact Y.ireturn rfl dX10_freeOf_42
def f_X10_freeOf_J33 (kH : Nat → Int32 → Int32 → Int32 → xH → Option (Int32 × xH)) (kE41 : Int32 → xH → Option (Int32 × xH)) (x0 : Nat) (x1 : Int32) (x3 : Int32) (s0 : Int32) (s1 : Int32) (h : xH) : Option (Int32 × xH) :=
  lt ((s0 ||| s1)) fun v1 =>
  lt (x3 + (1 : Int32)) fun v2 =>
  kH x0 x1 v1 v2 h
theorem y_X10_freeOf_J33 {g : xG} {h0 : xH} {cl : Bool} {kH : Nat → Int32 → Int32 → Int32 → xH → Option (Int32 × xH)} {kE41 : Int32 → xH → Option (Int32 × xH)} (hkH : ∀ (x0 : Nat) (x1 : Int32) (x2 : Int32) (x3 : Int32) (h : xH), Y g DX10_freeOf h0 cl iI (kH x0 x1 x2 x3 h) 4 [some (.ref x0), some (.int x1), some (.int x2), some (.int x3)] [] h) (hkE41 : ∀ (x2 : Int32) (h : xH), Y g DX10_freeOf h0 cl iI (kE41 x2 h) 41 [none, none, some (.int x2), none] [] h) (x0 : Nat) (x1 : Int32) (x3 : Int32) (s0 : Int32) (s1 : Int32) (h : xH) : Y g DX10_freeOf h0 cl iI (f_X10_freeOf_J33 kH kE41 x0 x1 x3 s0 s1 h) 33 [some (.ref x0), some (.int x1), none, some (.int x3)] [.int s1, .int s0] h := by
  unfold f_X10_freeOf_J33
  refine Y.op (pc' := 34) (fun _ => X.ior dX10_freeOf_33) ?_
  refine Y.top (fun v1 => ?_)
  refine Y.op (pc' := 35) (loc' := [some (.ref x0), some (.int x1), some (.int v1), some (.int x3)]) (fun _ => X.istoren (Nat.le_of_ble_eq_true rfl) rfl dX10_freeOf_34) ?_
  refine Y.iinc (i := 3) (loc' := fun v2 => [some (.ref x0), some (.int x1), some (.int v1), some (.int v2)]) rfl (Nat.le_of_ble_eq_true rfl) ki_1 (fun _ => rfl) dX10_freeOf_35 (fun v2 => ?_)
  refine Y.op (pc' := 4) (fun _ => X.goto 4 (by decide) dX10_freeOf_38) ?_
  exact hkH x0 x1 v1 v2 h
def f_X10_freeOf_L4 (kE41 : Int32 → xH → Option (Int32 × xH)) : Nat → Nat → Int32 → Int32 → Int32 → xH → Option (Int32 × xH)
  | 0 => fun _ _ _ _ _ => none
  | n + 1 => fun x0 x1 x2 x3 h =>
    (gR h 10 x0 9).bind fun v1 =>
    (aR 102 h v1 (0 : Int32)).bind fun v2 =>
    (aI h v2 x1).bind fun v3 =>
    if x3 ≥ v3 then
      kE41 x2 h
    else
      (vc h 10 x0 (f_X10_isFree x0 x1 x3 h)).bind fun r4 =>
      if r4.1 = (0 : Int32) then
        f_X10_freeOf_J33 (f_X10_freeOf_L4 kE41 n) kE41 x0 x1 x3 x2 (0 : Int32) r4.2
      else
        f_X10_freeOf_J33 (f_X10_freeOf_L4 kE41 n) kE41 x0 x1 x3 x2 ((1 : Int32) <<< (x3 &&& 31)) r4.2
theorem y_X10_freeOf_L4 {g : xG} {h0 : xH} {cl : Bool} {kE41 : Int32 → xH → Option (Int32 × xH)} (hkE41 : ∀ (x2 : Int32) (h : xH), Y g DX10_freeOf h0 cl iI (kE41 x2 h) 41 [none, none, some (.int x2), none] [] h) : ∀ (n : Nat) (x0 : Nat) (x1 : Int32) (x2 : Int32) (x3 : Int32) (h : xH), Y g DX10_freeOf h0 cl iI (f_X10_freeOf_L4 kE41 n x0 x1 x2 x3 h) 4 [some (.ref x0), some (.int x1), some (.int x2), some (.int x3)] [] h := by
  intro n
  induction n with
  | zero => intro x0 x1 x2 x3 h; exact Y.nothing
  | succ n ih =>
    intro x0 x1 x2 x3 h
    unfold f_X10_freeOf_L4
    refine Y.op (pc' := 5) (fun _ => X.iloadn rfl dX10_freeOf_4) ?_
    refine Y.op (pc' := 6) (fun _ => X.aloadn rfl dX10_freeOf_5) ?_
    refine Y.getR fd_X10_22 rfl dX10_freeOf_6 (fun v1 => ?_)
    refine Y.op (pc' := 10) (fun _ => X.ic ki_0 dX10_freeOf_9) ?_
    refine Y.aldR 102 (by decide) (by decide) dX10_freeOf_10 (fun v2 => ?_)
    refine Y.op (pc' := 12) (fun _ => X.iloadn rfl dX10_freeOf_11) ?_
    refine Y.aldI dX10_freeOf_12 (fun v3 => ?_)
    refine Y.cmpge 41 (by decide) dX10_freeOf_13 ?_ ?_
    · exact Y.fg (hkE41 x2 h) (And.intro rfl trivial)
    · refine Y.op (pc' := 17) (fun _ => X.iloadn rfl dX10_freeOf_16) ?_
      refine Y.op (pc' := 18) (fun _ => X.aloadn rfl dX10_freeOf_17) ?_
      refine Y.op (pc' := 19) (fun _ => X.iloadn rfl dX10_freeOf_18) ?_
      refine Y.op (pc' := 20) (fun _ => X.iloadn rfl dX10_freeOf_19) ?_
      refine Y.callVi (As := [.int x1, .int x3]) lk_X10_255 rfl cal_X10_isFree vir_X10_isFree (Nat.le_of_ble_eq_true rfl) (Nat.le_of_ble_eq_true rfl) rfl rfl rfl (Nat.le_of_ble_eq_true rfl) dX10_freeOf_20 (fun _ e => m_X10_isFree x0 x1 x3 h _ _ e) (fun r4 => ?_)
      refine Y.ifeq 32 (by decide) dX10_freeOf_23 ?_ ?_
      · refine Y.op (pc' := 33) (fun _ => X.ic ki_0 dX10_freeOf_32) ?_
        exact Y.fg (y_X10_freeOf_J33 ih hkE41 x0 x1 x3 x2 (0 : Int32) r4.2) (And.intro rfl (And.intro rfl (And.intro rfl trivial)))
      · refine Y.op (pc' := 27) (fun _ => X.ic ki_1 dX10_freeOf_26) ?_
        refine Y.op (pc' := 28) (fun _ => X.iloadn rfl dX10_freeOf_27) ?_
        refine Y.op (pc' := 29) (fun _ => X.ishl dX10_freeOf_28) ?_
        refine Y.op (pc' := 33) (fun _ => X.goto 33 (by decide) dX10_freeOf_29) ?_
        exact Y.fg (y_X10_freeOf_J33 ih hkE41 x0 x1 x3 x2 ((1 : Int32) <<< (x3 &&& 31)) r4.2) (And.intro rfl (And.intro rfl (And.intro rfl trivial)))
def f_X10_freeOf (a0 : Nat) (p1 : Int32) (h : xH) : Option (Int32 × xH) :=
  f_X10_freeOf_L4 (f_X10_freeOf_J41) 5000 a0 p1 (0 : Int32) (0 : Int32) h
theorem y_X10_freeOf {g : xG} {h0 : xH} {cl : Bool} (a0 : Nat) (p1 : Int32) (h : xH) : Y g DX10_freeOf h0 cl iI (f_X10_freeOf a0 p1 h) 0 [some (.ref a0), some (.int p1), none, none] [] h := by
  unfold f_X10_freeOf
  refine Y.op (pc' := 1) (fun _ => X.ic ki_0 dX10_freeOf_0) ?_
  refine Y.op (pc' := 2) (loc' := [some (.ref a0), some (.int p1), some (.int (0 : Int32)), none]) (fun _ => X.istoren (Nat.le_of_ble_eq_true rfl) rfl dX10_freeOf_1) ?_
  refine Y.op (pc' := 3) (fun _ => X.ic ki_0 dX10_freeOf_2) ?_
  refine Y.op (pc' := 4) (loc' := [some (.ref a0), some (.int p1), some (.int (0 : Int32)), some (.int (0 : Int32))]) (fun _ => X.istoren (Nat.le_of_ble_eq_true rfl) rfl dX10_freeOf_3) ?_
  exact y_X10_freeOf_L4 (y_X10_freeOf_J41) 5000 a0 p1 (0 : Int32) (0 : Int32) h
theorem m_X10_freeOf {g : xG} (a0 : Nat) (p1 : Int32) (h : xH) (cl : Bool) (r : Int32 × xH) (e : f_X10_freeOf a0 p1 h = some r) : XM g DX10_freeOf [.ref a0, .int p1] h cl (iI r) := YM.of rfl rfl (Nat.le_of_ble_eq_true rfl) (y_X10_freeOf a0 p1 h) e
def f_X10_fitsInAll_J30 (x1 : Int32) (h : xH) : Option (Int32 × xH) :=
  some (x1, h)
theorem y_X10_fitsInAll_J30 {g : xG} {h0 : xH} {cl : Bool} (x1 : Int32) (h : xH) : Y g DX10_fitsInAll h0 cl iI (f_X10_fitsInAll_J30 x1 h) 30 [none, some (.int x1), none] [] h := by
  unfold f_X10_fitsInAll_J30
  refine Y.op (pc' := 31) (fun _ => X.iloadn rfl dX10_fitsInAll_30) ?_
  exact Y.ireturn rfl dX10_fitsInAll_31
def f_X10_fitsInAll_L4 (kE30 : Int32 → xH → Option (Int32 × xH)) : Nat → Nat → Int32 → Int32 → xH → Option (Int32 × xH)
  | 0 => fun _ _ _ _ => none
  | n + 1 => fun x0 x1 x2 h =>
    if x2 ≥ (12 : Int32) then
      kE30 x1 h
    else
      (gR h 10 x0 10).bind fun v1 =>
      (aR 102 h v1 (0 : Int32)).bind fun v2 =>
      (aI h v2 x2).bind fun v3 =>
      (f_X10_ones v3 h).bind fun r4 =>
      lt ((x1 + r4.1)) fun v5 =>
      lt (x2 + (1 : Int32)) fun v6 =>
      f_X10_fitsInAll_L4 kE30 n x0 v5 v6 r4.2
theorem y_X10_fitsInAll_L4 {g : xG} {h0 : xH} {cl : Bool} {kE30 : Int32 → xH → Option (Int32 × xH)} (hkE30 : ∀ (x1 : Int32) (h : xH), Y g DX10_fitsInAll h0 cl iI (kE30 x1 h) 30 [none, some (.int x1), none] [] h) : ∀ (n : Nat) (x0 : Nat) (x1 : Int32) (x2 : Int32) (h : xH), Y g DX10_fitsInAll h0 cl iI (f_X10_fitsInAll_L4 kE30 n x0 x1 x2 h) 4 [some (.ref x0), some (.int x1), some (.int x2)] [] h := by
  intro n
  induction n with
  | zero => intro x0 x1 x2 h; exact Y.nothing
  | succ n ih =>
    intro x0 x1 x2 h
    unfold f_X10_fitsInAll_L4
    refine Y.op (pc' := 5) (fun _ => X.iloadn rfl dX10_fitsInAll_4) ?_
    refine Y.op (pc' := 7) (fun _ => X.bp kb_12 dX10_fitsInAll_5) ?_
    refine Y.cmpge 30 (by decide) dX10_fitsInAll_7 ?_ ?_
    · exact Y.fg (hkE30 x1 h) (And.intro rfl trivial)
    · refine Y.op (pc' := 11) (fun _ => X.iloadn rfl dX10_fitsInAll_10) ?_
      refine Y.op (pc' := 12) (fun _ => X.aloadn rfl dX10_fitsInAll_11) ?_
      refine Y.getR fd_X10_25 rfl dX10_fitsInAll_12 (fun v1 => ?_)
      refine Y.op (pc' := 16) (fun _ => X.ic ki_0 dX10_fitsInAll_15) ?_
      refine Y.aldR 102 (by decide) (by decide) dX10_fitsInAll_16 (fun v2 => ?_)
      refine Y.op (pc' := 18) (fun _ => X.iloadn rfl dX10_fitsInAll_17) ?_
      refine Y.aldI dX10_fitsInAll_18 (fun v3 => ?_)
      refine Y.callSi (As := [.int v3]) lk_X10_270 rfl cal_X10_ones sta_X10_ones (Nat.le_of_ble_eq_true rfl) rfl rfl (Nat.le_of_ble_eq_true rfl) dX10_fitsInAll_19 (fun _ e => m_X10_ones v3 h _ _ e) (fun r4 => ?_)
      refine Y.op (pc' := 23) (fun _ => X.iadd dX10_fitsInAll_22) ?_
      refine Y.top (fun v5 => ?_)
      refine Y.op (pc' := 24) (loc' := [some (.ref x0), some (.int v5), some (.int x2)]) (fun _ => X.istoren (Nat.le_of_ble_eq_true rfl) rfl dX10_fitsInAll_23) ?_
      refine Y.iinc (i := 2) (loc' := fun v6 => [some (.ref x0), some (.int v5), some (.int v6)]) rfl (Nat.le_of_ble_eq_true rfl) ki_1 (fun _ => rfl) dX10_fitsInAll_24 (fun v6 => ?_)
      refine Y.op (pc' := 4) (fun _ => X.goto 4 (by decide) dX10_fitsInAll_27) ?_
      exact ih x0 v5 v6 r4.2
def f_X10_fitsInAll (a0 : Nat) (h : xH) : Option (Int32 × xH) :=
  f_X10_fitsInAll_L4 (f_X10_fitsInAll_J30) 5000 a0 (0 : Int32) (0 : Int32) h
theorem y_X10_fitsInAll {g : xG} {h0 : xH} {cl : Bool} (a0 : Nat) (h : xH) : Y g DX10_fitsInAll h0 cl iI (f_X10_fitsInAll a0 h) 0 [some (.ref a0), none, none] [] h := by
  unfold f_X10_fitsInAll
  refine Y.op (pc' := 1) (fun _ => X.ic ki_0 dX10_fitsInAll_0) ?_
  refine Y.op (pc' := 2) (loc' := [some (.ref a0), some (.int (0 : Int32)), none]) (fun _ => X.istoren (Nat.le_of_ble_eq_true rfl) rfl dX10_fitsInAll_1) ?_
  refine Y.op (pc' := 3) (fun _ => X.ic ki_0 dX10_fitsInAll_2) ?_
  refine Y.op (pc' := 4) (loc' := [some (.ref a0), some (.int (0 : Int32)), some (.int (0 : Int32))]) (fun _ => X.istoren (Nat.le_of_ble_eq_true rfl) rfl dX10_fitsInAll_3) ?_
  exact y_X10_fitsInAll_L4 (y_X10_fitsInAll_J30) 5000 a0 (0 : Int32) (0 : Int32) h
theorem m_X10_fitsInAll {g : xG} (a0 : Nat) (h : xH) (cl : Bool) (r : Int32 × xH) (e : f_X10_fitsInAll a0 h = some r) : XM g DX10_fitsInAll [.ref a0] h cl (iI r) := YM.of rfl rfl (Nat.le_of_ble_eq_true rfl) (y_X10_fitsInAll a0 h) e
def f_X10_costNow_J52 (x1 : Int32) (h : xH) : Option (Int32 × xH) :=
  some (x1, h)
theorem y_X10_costNow_J52 {g : xG} {h0 : xH} {cl : Bool} (x1 : Int32) (h : xH) : Y g DX10_costNow h0 cl iI (f_X10_costNow_J52 x1 h) 52 [none, some (.int x1), none] [] h := by
  unfold f_X10_costNow_J52
  refine Y.op (pc' := 53) (fun _ => X.iloadn rfl dX10_costNow_52) ?_
  exact Y.ireturn rfl dX10_costNow_53
def f_X10_costNow_J44 (kH : Nat → Int32 → Int32 → xH → Option (Int32 × xH)) (kE52 : Int32 → xH → Option (Int32 × xH)) (x0 : Nat) (x2 : Int32) (s0 : Int32) (s1 : Int32) (h : xH) : Option (Int32 × xH) :=
  lt ((s0 + s1)) fun v1 =>
  lt (x2 + (1 : Int32)) fun v2 =>
  kH x0 v1 v2 h
theorem y_X10_costNow_J44 {g : xG} {h0 : xH} {cl : Bool} {kH : Nat → Int32 → Int32 → xH → Option (Int32 × xH)} {kE52 : Int32 → xH → Option (Int32 × xH)} (hkH : ∀ (x0 : Nat) (x1 : Int32) (x2 : Int32) (h : xH), Y g DX10_costNow h0 cl iI (kH x0 x1 x2 h) 4 [some (.ref x0), some (.int x1), some (.int x2)] [] h) (hkE52 : ∀ (x1 : Int32) (h : xH), Y g DX10_costNow h0 cl iI (kE52 x1 h) 52 [none, some (.int x1), none] [] h) (x0 : Nat) (x2 : Int32) (s0 : Int32) (s1 : Int32) (h : xH) : Y g DX10_costNow h0 cl iI (f_X10_costNow_J44 kH kE52 x0 x2 s0 s1 h) 44 [some (.ref x0), none, some (.int x2)] [.int s1, .int s0] h := by
  unfold f_X10_costNow_J44
  refine Y.op (pc' := 45) (fun _ => X.iadd dX10_costNow_44) ?_
  refine Y.top (fun v1 => ?_)
  refine Y.op (pc' := 46) (loc' := [some (.ref x0), some (.int v1), some (.int x2)]) (fun _ => X.istoren (Nat.le_of_ble_eq_true rfl) rfl dX10_costNow_45) ?_
  refine Y.iinc (i := 2) (loc' := fun v2 => [some (.ref x0), some (.int v1), some (.int v2)]) rfl (Nat.le_of_ble_eq_true rfl) ki_1 (fun _ => rfl) dX10_costNow_46 (fun v2 => ?_)
  refine Y.op (pc' := 4) (fun _ => X.goto 4 (by decide) dX10_costNow_49) ?_
  exact hkH x0 v1 v2 h
def f_X10_costNow_L4 (kE52 : Int32 → xH → Option (Int32 × xH)) : Nat → Nat → Int32 → Int32 → xH → Option (Int32 × xH)
  | 0 => fun _ _ _ _ => none
  | n + 1 => fun x0 x1 x2 h =>
    if x2 ≥ (12 : Int32) then
      kE52 x1 h
    else
      (gR h 10 x0 11).bind fun v1 =>
      (aR 102 h v1 (0 : Int32)).bind fun v2 =>
      (aI h v2 x2).bind fun v3 =>
      if v3 = (-1 : Int32) then
        f_X10_costNow_J44 (f_X10_costNow_L4 kE52 n) kE52 x0 x2 x1 (0 : Int32) h
      else
        (gR h 10 x0 13).bind fun v4 =>
        (aR 103 h v4 (0 : Int32)).bind fun v5 =>
        (aR 102 h v5 x2).bind fun v6 =>
        (gR h 10 x0 11).bind fun v7 =>
        (aR 102 h v7 (0 : Int32)).bind fun v8 =>
        (aI h v8 x2).bind fun v9 =>
        (aI h v6 v9).bind fun v10 =>
        f_X10_costNow_J44 (f_X10_costNow_L4 kE52 n) kE52 x0 x2 x1 v10 h
theorem y_X10_costNow_L4 {g : xG} {h0 : xH} {cl : Bool} {kE52 : Int32 → xH → Option (Int32 × xH)} (hkE52 : ∀ (x1 : Int32) (h : xH), Y g DX10_costNow h0 cl iI (kE52 x1 h) 52 [none, some (.int x1), none] [] h) : ∀ (n : Nat) (x0 : Nat) (x1 : Int32) (x2 : Int32) (h : xH), Y g DX10_costNow h0 cl iI (f_X10_costNow_L4 kE52 n x0 x1 x2 h) 4 [some (.ref x0), some (.int x1), some (.int x2)] [] h := by
  intro n
  induction n with
  | zero => intro x0 x1 x2 h; exact Y.nothing
  | succ n ih =>
    intro x0 x1 x2 h
    unfold f_X10_costNow_L4
    refine Y.op (pc' := 5) (fun _ => X.iloadn rfl dX10_costNow_4) ?_
    refine Y.op (pc' := 7) (fun _ => X.bp kb_12 dX10_costNow_5) ?_
    refine Y.cmpge 52 (by decide) dX10_costNow_7 ?_ ?_
    · exact Y.fg (hkE52 x1 h) (And.intro rfl trivial)
    · refine Y.op (pc' := 11) (fun _ => X.iloadn rfl dX10_costNow_10) ?_
      refine Y.op (pc' := 12) (fun _ => X.aloadn rfl dX10_costNow_11) ?_
      refine Y.getR fd_X10_28 rfl dX10_costNow_12 (fun v1 => ?_)
      refine Y.op (pc' := 16) (fun _ => X.ic ki_0 dX10_costNow_15) ?_
      refine Y.aldR 102 (by decide) (by decide) dX10_costNow_16 (fun v2 => ?_)
      refine Y.op (pc' := 18) (fun _ => X.iloadn rfl dX10_costNow_17) ?_
      refine Y.aldI dX10_costNow_18 (fun v3 => ?_)
      refine Y.op (pc' := 20) (fun _ => X.ic ki_m1 dX10_costNow_19) ?_
      refine Y.cmpeq 43 (by decide) dX10_costNow_20 ?_ ?_
      · refine Y.op (pc' := 44) (fun _ => X.ic ki_0 dX10_costNow_43) ?_
        exact Y.fg (y_X10_costNow_J44 ih hkE52 x0 x2 x1 (0 : Int32) h) (And.intro rfl (And.intro rfl trivial))
      · refine Y.op (pc' := 24) (fun _ => X.aloadn rfl dX10_costNow_23) ?_
        refine Y.getR fd_X10_36 rfl dX10_costNow_24 (fun v4 => ?_)
        refine Y.op (pc' := 28) (fun _ => X.ic ki_0 dX10_costNow_27) ?_
        refine Y.aldR 103 (by decide) (by decide) dX10_costNow_28 (fun v5 => ?_)
        refine Y.op (pc' := 30) (fun _ => X.iloadn rfl dX10_costNow_29) ?_
        refine Y.aldR 102 (by decide) (by decide) dX10_costNow_30 (fun v6 => ?_)
        refine Y.op (pc' := 32) (fun _ => X.aloadn rfl dX10_costNow_31) ?_
        refine Y.getR fd_X10_28 rfl dX10_costNow_32 (fun v7 => ?_)
        refine Y.op (pc' := 36) (fun _ => X.ic ki_0 dX10_costNow_35) ?_
        refine Y.aldR 102 (by decide) (by decide) dX10_costNow_36 (fun v8 => ?_)
        refine Y.op (pc' := 38) (fun _ => X.iloadn rfl dX10_costNow_37) ?_
        refine Y.aldI dX10_costNow_38 (fun v9 => ?_)
        refine Y.aldI dX10_costNow_39 (fun v10 => ?_)
        refine Y.op (pc' := 44) (fun _ => X.goto 44 (by decide) dX10_costNow_40) ?_
        exact Y.fg (y_X10_costNow_J44 ih hkE52 x0 x2 x1 v10 h) (And.intro rfl (And.intro rfl trivial))
def f_X10_costNow (a0 : Nat) (h : xH) : Option (Int32 × xH) :=
  f_X10_costNow_L4 (f_X10_costNow_J52) 5000 a0 (0 : Int32) (0 : Int32) h
theorem y_X10_costNow {g : xG} {h0 : xH} {cl : Bool} (a0 : Nat) (h : xH) : Y g DX10_costNow h0 cl iI (f_X10_costNow a0 h) 0 [some (.ref a0), none, none] [] h := by
  unfold f_X10_costNow
  refine Y.op (pc' := 1) (fun _ => X.ic ki_0 dX10_costNow_0) ?_
  refine Y.op (pc' := 2) (loc' := [some (.ref a0), some (.int (0 : Int32)), none]) (fun _ => X.istoren (Nat.le_of_ble_eq_true rfl) rfl dX10_costNow_1) ?_
  refine Y.op (pc' := 3) (fun _ => X.ic ki_0 dX10_costNow_2) ?_
  refine Y.op (pc' := 4) (loc' := [some (.ref a0), some (.int (0 : Int32)), some (.int (0 : Int32))]) (fun _ => X.istoren (Nat.le_of_ble_eq_true rfl) rfl dX10_costNow_3) ?_
  exact y_X10_costNow_L4 (y_X10_costNow_J52) 5000 a0 (0 : Int32) (0 : Int32) h
theorem m_X10_costNow {g : xG} (a0 : Nat) (h : xH) (cl : Bool) (r : Int32 × xH) (e : f_X10_costNow a0 h = some r) : XM g DX10_costNow [.ref a0] h cl (iI r) := YM.of rfl rfl (Nat.le_of_ble_eq_true rfl) (y_X10_costNow a0 h) e
def f_X10_told_J131 (x0 : Nat) (x1 : Int32) (h : xH) : Option (Int32 × xH) :=
  (vc h 10 x0 (f_X10_freeOf x0 (x1 - (7 : Int32)) h)).bind fun r1 =>
  some (r1.1, r1.2)
theorem y_X10_told_J131 {g : xG} {h0 : xH} {cl : Bool} (x0 : Nat) (x1 : Int32) (h : xH) : Y g DX10_told h0 cl iI (f_X10_told_J131 x0 x1 h) 131 [some (.ref x0), some (.int x1)] [] h := by
  unfold f_X10_told_J131
  refine Y.op (pc' := 132) (fun _ => X.aloadn rfl dX10_told_131) ?_
  refine Y.op (pc' := 133) (fun _ => X.iloadn rfl dX10_told_132) ?_
  refine Y.op (pc' := 135) (fun _ => X.bp kb_7 dX10_told_133) ?_
  refine Y.op (pc' := 136) (fun _ => X.isub dX10_told_135) ?_
  refine Y.callVi (As := [.int (x1 - (7 : Int32))]) lk_X10_276 rfl cal_X10_freeOf vir_X10_freeOf (Nat.le_of_ble_eq_true rfl) (Nat.le_of_ble_eq_true rfl) rfl rfl rfl (Nat.le_of_ble_eq_true rfl) dX10_told_136 (fun _ e => m_X10_freeOf x0 (x1 - (7 : Int32)) h _ _ e) (fun r1 => ?_)
  exact Y.ireturn rfl dX10_told_139
def f_X10_told_J120 (x0 : Nat) (x1 : Int32) (h : xH) : Option (Int32 × xH) :=
  (gR h 10 x0 9).bind fun v1 =>
  (aR 102 h v1 (0 : Int32)).bind fun v2 =>
  (aI h v2 (x1 - (2 : Int32))).bind fun v3 =>
  some (v3, h)
theorem y_X10_told_J120 {g : xG} {h0 : xH} {cl : Bool} (x0 : Nat) (x1 : Int32) (h : xH) : Y g DX10_told h0 cl iI (f_X10_told_J120 x0 x1 h) 120 [some (.ref x0), some (.int x1)] [] h := by
  unfold f_X10_told_J120
  refine Y.op (pc' := 121) (fun _ => X.aloadn rfl dX10_told_120) ?_
  refine Y.getR fd_X10_22 rfl dX10_told_121 (fun v1 => ?_)
  refine Y.op (pc' := 125) (fun _ => X.ic ki_0 dX10_told_124) ?_
  refine Y.aldR 102 (by decide) (by decide) dX10_told_125 (fun v2 => ?_)
  refine Y.op (pc' := 127) (fun _ => X.iloadn rfl dX10_told_126) ?_
  refine Y.op (pc' := 128) (fun _ => X.ic ki_2 dX10_told_127) ?_
  refine Y.op (pc' := 129) (fun _ => X.isub dX10_told_128) ?_
  refine Y.aldI dX10_told_129 (fun v3 => ?_)
  exact Y.ireturn rfl dX10_told_130
def f_X10_told_J92 (x0 : Nat) (x1 : Int32) (h : xH) : Option (Int32 × xH) :=
  (gR h 10 x0 9).bind fun v1 =>
  (aR 102 h v1 (0 : Int32)).bind fun v2 =>
  (aI h v2 x1).bind fun v3 =>
  some (v3, h)
theorem y_X10_told_J92 {g : xG} {h0 : xH} {cl : Bool} (x0 : Nat) (x1 : Int32) (h : xH) : Y g DX10_told h0 cl iI (f_X10_told_J92 x0 x1 h) 92 [some (.ref x0), some (.int x1)] [] h := by
  unfold f_X10_told_J92
  refine Y.op (pc' := 93) (fun _ => X.aloadn rfl dX10_told_92) ?_
  refine Y.getR fd_X10_22 rfl dX10_told_93 (fun v1 => ?_)
  refine Y.op (pc' := 97) (fun _ => X.ic ki_0 dX10_told_96) ?_
  refine Y.aldR 102 (by decide) (by decide) dX10_told_97 (fun v2 => ?_)
  refine Y.op (pc' := 99) (fun _ => X.iloadn rfl dX10_told_98) ?_
  refine Y.aldI dX10_told_99 (fun v3 => ?_)
  exact Y.ireturn rfl dX10_told_100
def f_X10_told_J21 (x0 : Nat) (x1 : Int32) (s0 : Nat) (s1 : Int32) (h : xH) : Option (Int32 × xH) :=
  (vc h 10 s0 (f_X10_bad s0 s1 (1 : Int32) (1 : Int32) h)).bind fun r1 =>
  if r1.1 = (0 : Int32) then
    if x1.toInt < 0 ∨ 10 < x1.toInt then
      (gI r1.2 10 x0 2).bind fun v2 =>
      some (v2, r1.2)
    else tsf (fun k : Nat => match k with
      | 0 => f_X10_told_J92 x0 x1 r1.2
      | 1 => f_X10_told_J92 x0 x1 r1.2
      | 2 => (vc r1.2 10 x0 (f_X10_fitsInAll x0 r1.2)).bind fun r3 =>
        some (r3.1, r3.2)
      | 3 => (vc r1.2 10 x0 (f_X10_pairs x0 r1.2)).bind fun r4 =>
        some (r4.1, r4.2)
      | 4 => (gR r1.2 10 x0 9).bind fun v5 =>
        (aR 102 r1.2 v5 (0 : Int32)).bind fun v6 =>
        (aI r1.2 v6 (2 : Int32)).bind fun v7 =>
        some (v7, r1.2)
      | 5 => f_X10_told_J120 x0 x1 r1.2
      | 6 => f_X10_told_J120 x0 x1 r1.2
      | 7 => f_X10_told_J131 x0 x1 r1.2
      | 8 => f_X10_told_J131 x0 x1 r1.2
      | 9 => (vc r1.2 10 x0 (f_X10_costNow x0 r1.2)).bind fun r8 =>
        some (r8.1, r8.2)
      | 10 => (gI r1.2 10 x0 14).bind fun v9 =>
        some (v9, r1.2)
      | _ => none) (x1.toInt - 0).toNat
  else
    some ((0 : Int32), r1.2)
theorem y_X10_told_J21 {g : xG} {h0 : xH} {cl : Bool} (x0 : Nat) (x1 : Int32) (s0 : Nat) (s1 : Int32) (h : xH) : Y g DX10_told h0 cl iI (f_X10_told_J21 x0 x1 s0 s1 h) 21 [some (.ref x0), some (.int x1)] [.int s1, .ref s0] h := by
  unfold f_X10_told_J21
  refine Y.op (pc' := 22) (fun _ => X.ic ki_1 dX10_told_21) ?_
  refine Y.op (pc' := 23) (fun _ => X.ic ki_1 dX10_told_22) ?_
  refine Y.callVi (As := [.int s1, .int (1 : Int32), .int (1 : Int32)]) lk_X10_217 rfl cal_X10_bad vir_X10_bad (Nat.le_of_ble_eq_true rfl) (Nat.le_of_ble_eq_true rfl) rfl rfl rfl (Nat.le_of_ble_eq_true rfl) dX10_told_23 (fun _ e => m_X10_bad s0 s1 (1 : Int32) (1 : Int32) h _ _ e) (fun r1 => ?_)
  refine Y.ifeq 31 (by decide) dX10_told_26 ?_ ?_
  · refine Y.op (pc' := 32) (fun _ => X.iloadn rfl dX10_told_31) ?_
    refine Y.tswf (dt := 150) (by decide) dX10_told_32 rfl ?_ (fun k hk => ?_)
    · refine Y.op (pc' := 151) (fun _ => X.aloadn rfl dX10_told_150) ?_
      refine Y.getI fd_X10_85 rfl dX10_told_151 (fun v2 => ?_)
      exact Y.ireturn rfl dX10_told_154
    · match k, hk with
      | 0, _ =>
        refine ⟨92, _, rfl, by decide, ?_⟩
        exact y_X10_told_J92 x0 x1 r1.2
      | 1, _ =>
        refine ⟨92, _, rfl, by decide, ?_⟩
        exact y_X10_told_J92 x0 x1 r1.2
      | 2, _ =>
        refine ⟨101, _, rfl, by decide, ?_⟩
        refine Y.op (pc' := 102) (fun _ => X.aloadn rfl dX10_told_101) ?_
        refine Y.callVi (As := []) lk_X10_273 rfl cal_X10_fitsInAll vir_X10_fitsInAll (Nat.le_of_ble_eq_true rfl) (Nat.le_of_ble_eq_true rfl) rfl rfl rfl (Nat.le_of_ble_eq_true rfl) dX10_told_102 (fun _ e => m_X10_fitsInAll x0 r1.2 _ _ e) (fun r3 => ?_)
        exact Y.ireturn rfl dX10_told_105
      | 3, _ =>
        refine ⟨106, _, rfl, by decide, ?_⟩
        refine Y.op (pc' := 107) (fun _ => X.aloadn rfl dX10_told_106) ?_
        refine Y.callVi (As := []) lk_X10_237 rfl cal_X10_pairs vir_X10_pairs (Nat.le_of_ble_eq_true rfl) (Nat.le_of_ble_eq_true rfl) rfl rfl rfl (Nat.le_of_ble_eq_true rfl) dX10_told_107 (fun _ e => m_X10_pairs x0 r1.2 _ _ e) (fun r4 => ?_)
        exact Y.ireturn rfl dX10_told_110
      | 4, _ =>
        refine ⟨111, _, rfl, by decide, ?_⟩
        refine Y.op (pc' := 112) (fun _ => X.aloadn rfl dX10_told_111) ?_
        refine Y.getR fd_X10_22 rfl dX10_told_112 (fun v5 => ?_)
        refine Y.op (pc' := 116) (fun _ => X.ic ki_0 dX10_told_115) ?_
        refine Y.aldR 102 (by decide) (by decide) dX10_told_116 (fun v6 => ?_)
        refine Y.op (pc' := 118) (fun _ => X.ic ki_2 dX10_told_117) ?_
        refine Y.aldI dX10_told_118 (fun v7 => ?_)
        exact Y.ireturn rfl dX10_told_119
      | 5, _ =>
        refine ⟨120, _, rfl, by decide, ?_⟩
        exact y_X10_told_J120 x0 x1 r1.2
      | 6, _ =>
        refine ⟨120, _, rfl, by decide, ?_⟩
        exact y_X10_told_J120 x0 x1 r1.2
      | 7, _ =>
        refine ⟨131, _, rfl, by decide, ?_⟩
        exact y_X10_told_J131 x0 x1 r1.2
      | 8, _ =>
        refine ⟨131, _, rfl, by decide, ?_⟩
        exact y_X10_told_J131 x0 x1 r1.2
      | 9, _ =>
        refine ⟨140, _, rfl, by decide, ?_⟩
        refine Y.op (pc' := 141) (fun _ => X.aloadn rfl dX10_told_140) ?_
        refine Y.callVi (As := []) lk_X10_279 rfl cal_X10_costNow vir_X10_costNow (Nat.le_of_ble_eq_true rfl) (Nat.le_of_ble_eq_true rfl) rfl rfl rfl (Nat.le_of_ble_eq_true rfl) dX10_told_141 (fun _ e => m_X10_costNow x0 r1.2 _ _ e) (fun r8 => ?_)
        exact Y.ireturn rfl dX10_told_144
      | 10, _ =>
        refine ⟨145, _, rfl, by decide, ?_⟩
        refine Y.op (pc' := 146) (fun _ => X.aloadn rfl dX10_told_145) ?_
        refine Y.getI fd_X10_231 rfl dX10_told_146 (fun v9 => ?_)
        exact Y.ireturn rfl dX10_told_149
      | k + 11, hk => exact absurd hk (Nat.not_lt.mpr (Nat.le_add_left 11 k))
  · refine Y.op (pc' := 30) (fun _ => X.ic ki_0 dX10_told_29) ?_
    exact Y.ireturn rfl dX10_told_30
def f_X10_told (a0 : Nat) (p1 : Int32) (h : xH) : Option (Int32 × xH) :=
  (pI h 10 a0 0 (0 : Int32)).bind fun h1 =>
  (f_X10_in p1 (0 : Int32) (11 : Int32) h1).bind fun r2 =>
  if r2.1 = (0 : Int32) then
    f_X10_told_J21 a0 p1 a0 (1 : Int32) r2.2
  else
    f_X10_told_J21 a0 p1 a0 (0 : Int32) r2.2
theorem y_X10_told {g : xG} {h0 : xH} {cl : Bool} (a0 : Nat) (p1 : Int32) (h : xH) : Y g DX10_told h0 cl iI (f_X10_told a0 p1 h) 0 [some (.ref a0), some (.int p1)] [] h := by
  unfold f_X10_told
  refine Y.op (pc' := 1) (fun _ => X.aloadn rfl dX10_told_0) ?_
  refine Y.op (pc' := 2) (fun _ => X.ic ki_0 dX10_told_1) ?_
  refine Y.putI fd_X10_82 rfl dX10_told_2 (fun h1 => ?_)
  refine Y.op (pc' := 6) (fun _ => X.aloadn rfl dX10_told_5) ?_
  refine Y.op (pc' := 7) (fun _ => X.iloadn rfl dX10_told_6) ?_
  refine Y.op (pc' := 8) (fun _ => X.ic ki_0 dX10_told_7) ?_
  refine Y.op (pc' := 10) (fun _ => X.bp kb_11 dX10_told_8) ?_
  refine Y.callSi (As := [.int p1, .int (0 : Int32), .int (11 : Int32)]) lk_X10_127 rfl cal_X10_in sta_X10_in (Nat.le_of_ble_eq_true rfl) rfl rfl (Nat.le_of_ble_eq_true rfl) dX10_told_10 (fun _ e => m_X10_in p1 (0 : Int32) (11 : Int32) h1 _ _ e) (fun r2 => ?_)
  refine Y.ifne 20 (by decide) dX10_told_13 ?_ ?_
  · refine Y.op (pc' := 21) (fun _ => X.ic ki_0 dX10_told_20) ?_
    exact y_X10_told_J21 a0 p1 a0 (0 : Int32) r2.2
  · refine Y.op (pc' := 17) (fun _ => X.ic ki_1 dX10_told_16) ?_
    refine Y.op (pc' := 21) (fun _ => X.goto 21 (by decide) dX10_told_17) ?_
    exact y_X10_told_J21 a0 p1 a0 (1 : Int32) r2.2
theorem m_X10_told {g : xG} (a0 : Nat) (p1 : Int32) (h : xH) (cl : Bool) (r : Int32 × xH) (e : f_X10_told a0 p1 h = some r) : XM g DX10_told [.ref a0, .int p1] h cl (iI r) := YM.of rfl rfl (Nat.le_of_ble_eq_true rfl) (y_X10_told a0 p1 h) e
def f_X10_isOne_J32 (s0 : Int32) (h : xH) : Option (Int32 × xH) :=
  if s0 = 0 ∨ s0 = 1 then some (s0, h) else none
theorem y_X10_isOne_J32 {g : xG} {h0 : xH} {cl : Bool} (s0 : Int32) (h : xH) : Y g DX10_isOne h0 cl iI (f_X10_isOne_J32 s0 h) 32 [none, none, none] [.int s0] h := by
  unfold f_X10_isOne_J32
  exact Y.zreturn rfl dX10_isOne_32
def f_X10_isOne_J31 (h : xH) : Option (Int32 × xH) :=
  f_X10_isOne_J32 (0 : Int32) h
theorem y_X10_isOne_J31 {g : xG} {h0 : xH} {cl : Bool} (h : xH) : Y g DX10_isOne h0 cl iI (f_X10_isOne_J31 h) 31 [none, none, none] [] h := by
  unfold f_X10_isOne_J31
  refine Y.op (pc' := 32) (fun _ => X.ic ki_0 dX10_isOne_31) ?_
  exact y_X10_isOne_J32 (0 : Int32) h
def f_X10_isOne (a0 : Nat) (p1 : Int32) (p2 : Int32) (h : xH) : Option (Int32 × xH) :=
  (f_X10_in p1 (0 : Int32) (1 : Int32) h).bind fun r1 =>
  if r1.1 = (0 : Int32) then
    f_X10_isOne_J31 r1.2
  else
    (gR r1.2 10 a0 9).bind fun v2 =>
    (aR 102 r1.2 v2 (0 : Int32)).bind fun v3 =>
    (aI r1.2 v3 p1).bind fun v4 =>
    (f_X10_in p2 (0 : Int32) (v4 - (1 : Int32)) r1.2).bind fun r5 =>
    if r5.1 = (0 : Int32) then
      f_X10_isOne_J31 r5.2
    else
      f_X10_isOne_J32 (1 : Int32) r5.2
theorem y_X10_isOne {g : xG} {h0 : xH} {cl : Bool} (a0 : Nat) (p1 : Int32) (p2 : Int32) (h : xH) : Y g DX10_isOne h0 cl iI (f_X10_isOne a0 p1 p2 h) 0 [some (.ref a0), some (.int p1), some (.int p2)] [] h := by
  unfold f_X10_isOne
  refine Y.op (pc' := 1) (fun _ => X.iloadn rfl dX10_isOne_0) ?_
  refine Y.op (pc' := 2) (fun _ => X.ic ki_0 dX10_isOne_1) ?_
  refine Y.op (pc' := 3) (fun _ => X.ic ki_1 dX10_isOne_2) ?_
  refine Y.callSi (As := [.int p1, .int (0 : Int32), .int (1 : Int32)]) lk_X10_127 rfl cal_X10_in sta_X10_in (Nat.le_of_ble_eq_true rfl) rfl rfl (Nat.le_of_ble_eq_true rfl) dX10_isOne_3 (fun _ e => m_X10_in p1 (0 : Int32) (1 : Int32) h _ _ e) (fun r1 => ?_)
  refine Y.ifeq 31 (by decide) dX10_isOne_6 ?_ ?_
  · exact Y.fg (y_X10_isOne_J31 r1.2) trivial
  · refine Y.op (pc' := 10) (fun _ => X.iloadn rfl dX10_isOne_9) ?_
    refine Y.op (pc' := 11) (fun _ => X.ic ki_0 dX10_isOne_10) ?_
    refine Y.op (pc' := 12) (fun _ => X.aloadn rfl dX10_isOne_11) ?_
    refine Y.getR fd_X10_22 rfl dX10_isOne_12 (fun v2 => ?_)
    refine Y.op (pc' := 16) (fun _ => X.ic ki_0 dX10_isOne_15) ?_
    refine Y.aldR 102 (by decide) (by decide) dX10_isOne_16 (fun v3 => ?_)
    refine Y.op (pc' := 18) (fun _ => X.iloadn rfl dX10_isOne_17) ?_
    refine Y.aldI dX10_isOne_18 (fun v4 => ?_)
    refine Y.op (pc' := 20) (fun _ => X.ic ki_1 dX10_isOne_19) ?_
    refine Y.op (pc' := 21) (fun _ => X.isub dX10_isOne_20) ?_
    refine Y.callSi (As := [.int p2, .int (0 : Int32), .int (v4 - (1 : Int32))]) lk_X10_127 rfl cal_X10_in sta_X10_in (Nat.le_of_ble_eq_true rfl) rfl rfl (Nat.le_of_ble_eq_true rfl) dX10_isOne_21 (fun _ e => m_X10_in p2 (0 : Int32) (v4 - (1 : Int32)) r1.2 _ _ e) (fun r5 => ?_)
    refine Y.ifeq 31 (by decide) dX10_isOne_24 ?_ ?_
    · exact Y.fg (y_X10_isOne_J31 r5.2) trivial
    · refine Y.op (pc' := 28) (fun _ => X.ic ki_1 dX10_isOne_27) ?_
      refine Y.op (pc' := 32) (fun _ => X.goto 32 (by decide) dX10_isOne_28) ?_
      exact Y.fg (y_X10_isOne_J32 (1 : Int32) r5.2) trivial
theorem m_X10_isOne {g : xG} (a0 : Nat) (p1 : Int32) (p2 : Int32) (h : xH) (cl : Bool) (r : Int32 × xH) (e : f_X10_isOne a0 p1 p2 h = some r) : XM g DX10_isOne [.ref a0, .int p1, .int p2] h cl (iI r) := YM.of rfl rfl (Nat.le_of_ble_eq_true rfl) (y_X10_isOne a0 p1 p2 h) e
def f_X10_partner_J20 (x0 : Nat) (x1 : Int32) (x2 : Int32) (s0 : Nat) (s1 : Int32) (h : xH) : Option (Int32 × xH) :=
  (vc h 10 s0 (f_X10_bad s0 s1 (1 : Int32) (0 : Int32) h)).bind fun r1 =>
  if r1.1 = (0 : Int32) then
    (vc r1.2 10 x0 (f_X10_partnerOf x0 x1 x2 r1.2)).bind fun r2 =>
    some (r2.1, r2.2)
  else
    some ((0 : Int32), r1.2)
theorem y_X10_partner_J20 {g : xG} {h0 : xH} {cl : Bool} (x0 : Nat) (x1 : Int32) (x2 : Int32) (s0 : Nat) (s1 : Int32) (h : xH) : Y g DX10_partner h0 cl iI (f_X10_partner_J20 x0 x1 x2 s0 s1 h) 20 [some (.ref x0), some (.int x1), some (.int x2)] [.int s1, .ref s0] h := by
  unfold f_X10_partner_J20
  refine Y.op (pc' := 21) (fun _ => X.ic ki_1 dX10_partner_20) ?_
  refine Y.op (pc' := 22) (fun _ => X.ic ki_0 dX10_partner_21) ?_
  refine Y.callVi (As := [.int s1, .int (1 : Int32), .int (0 : Int32)]) lk_X10_217 rfl cal_X10_bad vir_X10_bad (Nat.le_of_ble_eq_true rfl) (Nat.le_of_ble_eq_true rfl) rfl rfl rfl (Nat.le_of_ble_eq_true rfl) dX10_partner_22 (fun _ e => m_X10_bad s0 s1 (1 : Int32) (0 : Int32) h _ _ e) (fun r1 => ?_)
  refine Y.ifeq 30 (by decide) dX10_partner_25 ?_ ?_
  · refine Y.op (pc' := 31) (fun _ => X.aloadn rfl dX10_partner_30) ?_
    refine Y.op (pc' := 32) (fun _ => X.iloadn rfl dX10_partner_31) ?_
    refine Y.op (pc' := 33) (fun _ => X.iloadn rfl dX10_partner_32) ?_
    refine Y.callVi (As := [.int x1, .int x2]) lk_X10_243 rfl cal_X10_partnerOf vir_X10_partnerOf (Nat.le_of_ble_eq_true rfl) (Nat.le_of_ble_eq_true rfl) rfl rfl rfl (Nat.le_of_ble_eq_true rfl) dX10_partner_33 (fun _ e => m_X10_partnerOf x0 x1 x2 r1.2 _ _ e) (fun r2 => ?_)
    exact Y.ireturn rfl dX10_partner_36
  · refine Y.op (pc' := 29) (fun _ => X.ic ki_0 dX10_partner_28) ?_
    exact Y.ireturn rfl dX10_partner_29
def f_X10_partner (a0 : Nat) (p1 : Int32) (p2 : Int32) (h : xH) : Option (Int32 × xH) :=
  (pI h 10 a0 0 (0 : Int32)).bind fun h1 =>
  (vc h1 10 a0 (f_X10_isOne a0 p1 p2 h1)).bind fun r2 =>
  if r2.1 = (0 : Int32) then
    f_X10_partner_J20 a0 p1 p2 a0 (1 : Int32) r2.2
  else
    f_X10_partner_J20 a0 p1 p2 a0 (0 : Int32) r2.2
theorem y_X10_partner {g : xG} {h0 : xH} {cl : Bool} (a0 : Nat) (p1 : Int32) (p2 : Int32) (h : xH) : Y g DX10_partner h0 cl iI (f_X10_partner a0 p1 p2 h) 0 [some (.ref a0), some (.int p1), some (.int p2)] [] h := by
  unfold f_X10_partner
  refine Y.op (pc' := 1) (fun _ => X.aloadn rfl dX10_partner_0) ?_
  refine Y.op (pc' := 2) (fun _ => X.ic ki_0 dX10_partner_1) ?_
  refine Y.putI fd_X10_82 rfl dX10_partner_2 (fun h1 => ?_)
  refine Y.op (pc' := 6) (fun _ => X.aloadn rfl dX10_partner_5) ?_
  refine Y.op (pc' := 7) (fun _ => X.aloadn rfl dX10_partner_6) ?_
  refine Y.op (pc' := 8) (fun _ => X.iloadn rfl dX10_partner_7) ?_
  refine Y.op (pc' := 9) (fun _ => X.iloadn rfl dX10_partner_8) ?_
  refine Y.callVi (As := [.int p1, .int p2]) lk_X10_282 rfl cal_X10_isOne vir_X10_isOne (Nat.le_of_ble_eq_true rfl) (Nat.le_of_ble_eq_true rfl) rfl rfl rfl (Nat.le_of_ble_eq_true rfl) dX10_partner_9 (fun _ e => m_X10_isOne a0 p1 p2 h1 _ _ e) (fun r2 => ?_)
  refine Y.ifne 19 (by decide) dX10_partner_12 ?_ ?_
  · refine Y.op (pc' := 20) (fun _ => X.ic ki_0 dX10_partner_19) ?_
    exact y_X10_partner_J20 a0 p1 p2 a0 (0 : Int32) r2.2
  · refine Y.op (pc' := 16) (fun _ => X.ic ki_1 dX10_partner_15) ?_
    refine Y.op (pc' := 20) (fun _ => X.goto 20 (by decide) dX10_partner_16) ?_
    exact y_X10_partner_J20 a0 p1 p2 a0 (1 : Int32) r2.2
theorem m_X10_partner {g : xG} (a0 : Nat) (p1 : Int32) (p2 : Int32) (h : xH) (cl : Bool) (r : Int32 × xH) (e : f_X10_partner a0 p1 p2 h = some r) : XM g DX10_partner [.ref a0, .int p1, .int p2] h cl (iI r) := YM.of rfl rfl (Nat.le_of_ble_eq_true rfl) (y_X10_partner a0 p1 p2 h) e
def f_X10_isFit (a0 : Nat) (p1 : Int32) (p2 : Int32) (h : xH) : Option (Int32 × xH) :=
  (gR h 10 a0 10).bind fun v1 =>
  (aR 102 h v1 (0 : Int32)).bind fun v2 =>
  (aI h v2 p1).bind fun v3 =>
  (f_X10_has v3 p2 h).bind fun r4 =>
  if r4.1 = 0 ∨ r4.1 = 1 then some (r4.1, r4.2) else none
theorem y_X10_isFit {g : xG} {h0 : xH} {cl : Bool} (a0 : Nat) (p1 : Int32) (p2 : Int32) (h : xH) : Y g DX10_isFit h0 cl iI (f_X10_isFit a0 p1 p2 h) 0 [some (.ref a0), some (.int p1), some (.int p2)] [] h := by
  unfold f_X10_isFit
  refine Y.op (pc' := 1) (fun _ => X.aloadn rfl dX10_isFit_0) ?_
  refine Y.getR fd_X10_25 rfl dX10_isFit_1 (fun v1 => ?_)
  refine Y.op (pc' := 5) (fun _ => X.ic ki_0 dX10_isFit_4) ?_
  refine Y.aldR 102 (by decide) (by decide) dX10_isFit_5 (fun v2 => ?_)
  refine Y.op (pc' := 7) (fun _ => X.iloadn rfl dX10_isFit_6) ?_
  refine Y.aldI dX10_isFit_7 (fun v3 => ?_)
  refine Y.op (pc' := 9) (fun _ => X.iloadn rfl dX10_isFit_8) ?_
  refine Y.callSi (As := [.int v3, .int p2]) lk_X10_182 rfl cal_X10_has sta_X10_has (Nat.le_of_ble_eq_true rfl) rfl rfl (Nat.le_of_ble_eq_true rfl) dX10_isFit_9 (fun _ e => m_X10_has v3 p2 h _ _ e) (fun r4 => ?_)
  exact Y.zreturn rfl dX10_isFit_12
theorem m_X10_isFit {g : xG} (a0 : Nat) (p1 : Int32) (p2 : Int32) (h : xH) (cl : Bool) (r : Int32 × xH) (e : f_X10_isFit a0 p1 p2 h = some r) : XM g DX10_isFit [.ref a0, .int p1, .int p2] h cl (iI r) := YM.of rfl rfl (Nat.le_of_ble_eq_true rfl) (y_X10_isFit a0 p1 p2 h) e
def f_X10_cost_J62 (s0 : Int32) (h : xH) : Option (Int32 × xH) :=
  some (s0, h)
theorem y_X10_cost_J62 {g : xG} {h0 : xH} {cl : Bool} (s0 : Int32) (h : xH) : Y g DX10_cost h0 cl iI (f_X10_cost_J62 s0 h) 62 [none, none, none] [.int s0] h := by
  unfold f_X10_cost_J62
  exact Y.ireturn rfl dX10_cost_62
def f_X10_cost_J29 (x0 : Nat) (x1 : Int32) (x2 : Int32) (s0 : Nat) (s1 : Int32) (h : xH) : Option (Int32 × xH) :=
  (vc h 10 s0 (f_X10_bad s0 s1 (1 : Int32) (0 : Int32) h)).bind fun r1 =>
  if r1.1 = (0 : Int32) then
    (vc r1.2 10 x0 (f_X10_isFit x0 x1 x2 r1.2)).bind fun r2 =>
    if r2.1 = (0 : Int32) then
      f_X10_cost_J62 (-1 : Int32) r2.2
    else
      (gR r2.2 10 x0 13).bind fun v3 =>
      (aR 103 r2.2 v3 (0 : Int32)).bind fun v4 =>
      (aR 102 r2.2 v4 x1).bind fun v5 =>
      (aI r2.2 v5 x2).bind fun v6 =>
      f_X10_cost_J62 v6 r2.2
  else
    some ((0 : Int32), r1.2)
theorem y_X10_cost_J29 {g : xG} {h0 : xH} {cl : Bool} (x0 : Nat) (x1 : Int32) (x2 : Int32) (s0 : Nat) (s1 : Int32) (h : xH) : Y g DX10_cost h0 cl iI (f_X10_cost_J29 x0 x1 x2 s0 s1 h) 29 [some (.ref x0), some (.int x1), some (.int x2)] [.int s1, .ref s0] h := by
  unfold f_X10_cost_J29
  refine Y.op (pc' := 30) (fun _ => X.ic ki_1 dX10_cost_29) ?_
  refine Y.op (pc' := 31) (fun _ => X.ic ki_0 dX10_cost_30) ?_
  refine Y.callVi (As := [.int s1, .int (1 : Int32), .int (0 : Int32)]) lk_X10_217 rfl cal_X10_bad vir_X10_bad (Nat.le_of_ble_eq_true rfl) (Nat.le_of_ble_eq_true rfl) rfl rfl rfl (Nat.le_of_ble_eq_true rfl) dX10_cost_31 (fun _ e => m_X10_bad s0 s1 (1 : Int32) (0 : Int32) h _ _ e) (fun r1 => ?_)
  refine Y.ifeq 39 (by decide) dX10_cost_34 ?_ ?_
  · refine Y.op (pc' := 40) (fun _ => X.aloadn rfl dX10_cost_39) ?_
    refine Y.op (pc' := 41) (fun _ => X.iloadn rfl dX10_cost_40) ?_
    refine Y.op (pc' := 42) (fun _ => X.iloadn rfl dX10_cost_41) ?_
    refine Y.callVi (As := [.int x1, .int x2]) lk_X10_285 rfl cal_X10_isFit vir_X10_isFit (Nat.le_of_ble_eq_true rfl) (Nat.le_of_ble_eq_true rfl) rfl rfl rfl (Nat.le_of_ble_eq_true rfl) dX10_cost_42 (fun _ e => m_X10_isFit x0 x1 x2 r1.2 _ _ e) (fun r2 => ?_)
    refine Y.ifeq 61 (by decide) dX10_cost_45 ?_ ?_
    · refine Y.op (pc' := 62) (fun _ => X.ic ki_m1 dX10_cost_61) ?_
      exact Y.fg (y_X10_cost_J62 (-1 : Int32) r2.2) trivial
    · refine Y.op (pc' := 49) (fun _ => X.aloadn rfl dX10_cost_48) ?_
      refine Y.getR fd_X10_36 rfl dX10_cost_49 (fun v3 => ?_)
      refine Y.op (pc' := 53) (fun _ => X.ic ki_0 dX10_cost_52) ?_
      refine Y.aldR 103 (by decide) (by decide) dX10_cost_53 (fun v4 => ?_)
      refine Y.op (pc' := 55) (fun _ => X.iloadn rfl dX10_cost_54) ?_
      refine Y.aldR 102 (by decide) (by decide) dX10_cost_55 (fun v5 => ?_)
      refine Y.op (pc' := 57) (fun _ => X.iloadn rfl dX10_cost_56) ?_
      refine Y.aldI dX10_cost_57 (fun v6 => ?_)
      refine Y.op (pc' := 62) (fun _ => X.goto 62 (by decide) dX10_cost_58) ?_
      exact Y.fg (y_X10_cost_J62 v6 r2.2) trivial
  · refine Y.op (pc' := 38) (fun _ => X.ic ki_0 dX10_cost_37) ?_
    exact Y.ireturn rfl dX10_cost_38
def f_X10_cost_J24 (x0 : Nat) (x1 : Int32) (x2 : Int32) (s0 : Nat) (h : xH) : Option (Int32 × xH) :=
  f_X10_cost_J29 x0 x1 x2 s0 (1 : Int32) h
theorem y_X10_cost_J24 {g : xG} {h0 : xH} {cl : Bool} (x0 : Nat) (x1 : Int32) (x2 : Int32) (s0 : Nat) (h : xH) : Y g DX10_cost h0 cl iI (f_X10_cost_J24 x0 x1 x2 s0 h) 24 [some (.ref x0), some (.int x1), some (.int x2)] [.ref s0] h := by
  unfold f_X10_cost_J24
  refine Y.op (pc' := 25) (fun _ => X.ic ki_1 dX10_cost_24) ?_
  refine Y.op (pc' := 29) (fun _ => X.goto 29 (by decide) dX10_cost_25) ?_
  exact y_X10_cost_J29 x0 x1 x2 s0 (1 : Int32) h
def f_X10_cost (a0 : Nat) (p1 : Int32) (p2 : Int32) (h : xH) : Option (Int32 × xH) :=
  (pI h 10 a0 0 (0 : Int32)).bind fun h1 =>
  (vc h1 10 a0 (f_X10_isOne a0 (0 : Int32) p1 h1)).bind fun r2 =>
  if r2.1 = (0 : Int32) then
    f_X10_cost_J24 a0 p1 p2 a0 r2.2
  else
    (vc r2.2 10 a0 (f_X10_isOne a0 (1 : Int32) p2 r2.2)).bind fun r3 =>
    if r3.1 = (0 : Int32) then
      f_X10_cost_J24 a0 p1 p2 a0 r3.2
    else
      f_X10_cost_J29 a0 p1 p2 a0 (0 : Int32) r3.2
theorem y_X10_cost {g : xG} {h0 : xH} {cl : Bool} (a0 : Nat) (p1 : Int32) (p2 : Int32) (h : xH) : Y g DX10_cost h0 cl iI (f_X10_cost a0 p1 p2 h) 0 [some (.ref a0), some (.int p1), some (.int p2)] [] h := by
  unfold f_X10_cost
  refine Y.op (pc' := 1) (fun _ => X.aloadn rfl dX10_cost_0) ?_
  refine Y.op (pc' := 2) (fun _ => X.ic ki_0 dX10_cost_1) ?_
  refine Y.putI fd_X10_82 rfl dX10_cost_2 (fun h1 => ?_)
  refine Y.op (pc' := 6) (fun _ => X.aloadn rfl dX10_cost_5) ?_
  refine Y.op (pc' := 7) (fun _ => X.aloadn rfl dX10_cost_6) ?_
  refine Y.op (pc' := 8) (fun _ => X.ic ki_0 dX10_cost_7) ?_
  refine Y.op (pc' := 9) (fun _ => X.iloadn rfl dX10_cost_8) ?_
  refine Y.callVi (As := [.int (0 : Int32), .int p1]) lk_X10_282 rfl cal_X10_isOne vir_X10_isOne (Nat.le_of_ble_eq_true rfl) (Nat.le_of_ble_eq_true rfl) rfl rfl rfl (Nat.le_of_ble_eq_true rfl) dX10_cost_9 (fun _ e => m_X10_isOne a0 (0 : Int32) p1 h1 _ _ e) (fun r2 => ?_)
  refine Y.ifeq 24 (by decide) dX10_cost_12 ?_ ?_
  · exact y_X10_cost_J24 a0 p1 p2 a0 r2.2
  · refine Y.op (pc' := 16) (fun _ => X.aloadn rfl dX10_cost_15) ?_
    refine Y.op (pc' := 17) (fun _ => X.ic ki_1 dX10_cost_16) ?_
    refine Y.op (pc' := 18) (fun _ => X.iloadn rfl dX10_cost_17) ?_
    refine Y.callVi (As := [.int (1 : Int32), .int p2]) lk_X10_282 rfl cal_X10_isOne vir_X10_isOne (Nat.le_of_ble_eq_true rfl) (Nat.le_of_ble_eq_true rfl) rfl rfl rfl (Nat.le_of_ble_eq_true rfl) dX10_cost_18 (fun _ e => m_X10_isOne a0 (1 : Int32) p2 r2.2 _ _ e) (fun r3 => ?_)
    refine Y.ifne 28 (by decide) dX10_cost_21 ?_ ?_
    · refine Y.op (pc' := 29) (fun _ => X.ic ki_0 dX10_cost_28) ?_
      exact y_X10_cost_J29 a0 p1 p2 a0 (0 : Int32) r3.2
    · exact y_X10_cost_J24 a0 p1 p2 a0 r3.2
theorem m_X10_cost {g : xG} (a0 : Nat) (p1 : Int32) (p2 : Int32) (h : xH) (cl : Bool) (r : Int32 × xH) (e : f_X10_cost a0 p1 p2 h = some r) : XM g DX10_cost [.ref a0, .int p1, .int p2] h cl (iI r) := YM.of rfl rfl (Nat.le_of_ble_eq_true rfl) (y_X10_cost a0 p1 p2 h) e
def f_X10_fitsOf_J52 (x3 : Int32) (h : xH) : Option (Int32 × xH) :=
  some (x3, h)
theorem y_X10_fitsOf_J52 {g : xG} {h0 : xH} {cl : Bool} (x3 : Int32) (h : xH) : Y g DX10_fitsOf h0 cl iI (f_X10_fitsOf_J52 x3 h) 52 [none, none, none, some (.int x3), none] [] h := by
  unfold f_X10_fitsOf_J52
  refine Y.op (pc' := 53) (fun _ => X.iloadn rfl dX10_fitsOf_52) ?_
  exact Y.ireturn rfl dX10_fitsOf_53
def f_X10_fitsOf_J44 (kH : Nat → Int32 → Int32 → Int32 → xH → Option (Int32 × xH)) (kE52 : Int32 → xH → Option (Int32 × xH)) (x0 : Nat) (x2 : Int32) (x4 : Int32) (s0 : Int32) (s1 : Int32) (h : xH) : Option (Int32 × xH) :=
  lt ((s0 ||| s1)) fun v1 =>
  lt (x4 + (1 : Int32)) fun v2 =>
  kH x0 x2 v1 v2 h
theorem y_X10_fitsOf_J44 {g : xG} {h0 : xH} {cl : Bool} {kH : Nat → Int32 → Int32 → Int32 → xH → Option (Int32 × xH)} {kE52 : Int32 → xH → Option (Int32 × xH)} (hkH : ∀ (x0 : Nat) (x2 : Int32) (x3 : Int32) (x4 : Int32) (h : xH), Y g DX10_fitsOf h0 cl iI (kH x0 x2 x3 x4 h) 18 [some (.ref x0), none, some (.int x2), some (.int x3), some (.int x4)] [] h) (hkE52 : ∀ (x3 : Int32) (h : xH), Y g DX10_fitsOf h0 cl iI (kE52 x3 h) 52 [none, none, none, some (.int x3), none] [] h) (x0 : Nat) (x2 : Int32) (x4 : Int32) (s0 : Int32) (s1 : Int32) (h : xH) : Y g DX10_fitsOf h0 cl iI (f_X10_fitsOf_J44 kH kE52 x0 x2 x4 s0 s1 h) 44 [some (.ref x0), none, some (.int x2), none, some (.int x4)] [.int s1, .int s0] h := by
  unfold f_X10_fitsOf_J44
  refine Y.op (pc' := 45) (fun _ => X.ior dX10_fitsOf_44) ?_
  refine Y.top (fun v1 => ?_)
  refine Y.op (pc' := 46) (loc' := [some (.ref x0), none, some (.int x2), some (.int v1), some (.int x4)]) (fun _ => X.istoren (Nat.le_of_ble_eq_true rfl) rfl dX10_fitsOf_45) ?_
  refine Y.iinc (i := 4) (loc' := fun v2 => [some (.ref x0), none, some (.int x2), some (.int v1), some (.int v2)]) rfl (Nat.le_of_ble_eq_true rfl) ki_1 (fun _ => rfl) dX10_fitsOf_46 (fun v2 => ?_)
  refine Y.op (pc' := 18) (fun _ => X.goto 18 (by decide) dX10_fitsOf_49) ?_
  exact hkH x0 x2 v1 v2 h
def f_X10_fitsOf_L18 (kE52 : Int32 → xH → Option (Int32 × xH)) : Nat → Nat → Int32 → Int32 → Int32 → xH → Option (Int32 × xH)
  | 0 => fun _ _ _ _ _ => none
  | n + 1 => fun x0 x2 x3 x4 h =>
    if x4 ≥ (12 : Int32) then
      kE52 x3 h
    else
      (vc h 10 x0 (f_X10_isFit x0 x4 x2 h)).bind fun r1 =>
      if r1.1 = (0 : Int32) then
        f_X10_fitsOf_J44 (f_X10_fitsOf_L18 kE52 n) kE52 x0 x2 x4 x3 (0 : Int32) r1.2
      else
        f_X10_fitsOf_J44 (f_X10_fitsOf_L18 kE52 n) kE52 x0 x2 x4 x3 ((1 : Int32) <<< (x4 &&& 31)) r1.2
theorem y_X10_fitsOf_L18 {g : xG} {h0 : xH} {cl : Bool} {kE52 : Int32 → xH → Option (Int32 × xH)} (hkE52 : ∀ (x3 : Int32) (h : xH), Y g DX10_fitsOf h0 cl iI (kE52 x3 h) 52 [none, none, none, some (.int x3), none] [] h) : ∀ (n : Nat) (x0 : Nat) (x2 : Int32) (x3 : Int32) (x4 : Int32) (h : xH), Y g DX10_fitsOf h0 cl iI (f_X10_fitsOf_L18 kE52 n x0 x2 x3 x4 h) 18 [some (.ref x0), none, some (.int x2), some (.int x3), some (.int x4)] [] h := by
  intro n
  induction n with
  | zero => intro x0 x2 x3 x4 h; exact Y.nothing
  | succ n ih =>
    intro x0 x2 x3 x4 h
    unfold f_X10_fitsOf_L18
    refine Y.op (pc' := 20) (fun _ => X.iload rfl dX10_fitsOf_18) ?_
    refine Y.op (pc' := 22) (fun _ => X.bp kb_12 dX10_fitsOf_20) ?_
    refine Y.cmpge 52 (by decide) dX10_fitsOf_22 ?_ ?_
    · exact Y.fg (hkE52 x3 h) (And.intro rfl trivial)
    · refine Y.op (pc' := 26) (fun _ => X.iloadn rfl dX10_fitsOf_25) ?_
      refine Y.op (pc' := 27) (fun _ => X.aloadn rfl dX10_fitsOf_26) ?_
      refine Y.op (pc' := 29) (fun _ => X.iload rfl dX10_fitsOf_27) ?_
      refine Y.op (pc' := 30) (fun _ => X.iloadn rfl dX10_fitsOf_29) ?_
      refine Y.callVi (As := [.int x4, .int x2]) lk_X10_285 rfl cal_X10_isFit vir_X10_isFit (Nat.le_of_ble_eq_true rfl) (Nat.le_of_ble_eq_true rfl) rfl rfl rfl (Nat.le_of_ble_eq_true rfl) dX10_fitsOf_30 (fun _ e => m_X10_isFit x0 x4 x2 h _ _ e) (fun r1 => ?_)
      refine Y.ifeq 43 (by decide) dX10_fitsOf_33 ?_ ?_
      · refine Y.op (pc' := 44) (fun _ => X.ic ki_0 dX10_fitsOf_43) ?_
        exact Y.fg (y_X10_fitsOf_J44 ih hkE52 x0 x2 x4 x3 (0 : Int32) r1.2) (And.intro rfl (And.intro rfl (And.intro rfl trivial)))
      · refine Y.op (pc' := 37) (fun _ => X.ic ki_1 dX10_fitsOf_36) ?_
        refine Y.op (pc' := 39) (fun _ => X.iload rfl dX10_fitsOf_37) ?_
        refine Y.op (pc' := 40) (fun _ => X.ishl dX10_fitsOf_39) ?_
        refine Y.op (pc' := 44) (fun _ => X.goto 44 (by decide) dX10_fitsOf_40) ?_
        exact Y.fg (y_X10_fitsOf_J44 ih hkE52 x0 x2 x4 x3 ((1 : Int32) <<< (x4 &&& 31)) r1.2) (And.intro rfl (And.intro rfl (And.intro rfl trivial)))
def f_X10_fitsOf (a0 : Nat) (p1 : Int32) (p2 : Int32) (h : xH) : Option (Int32 × xH) :=
  if p1 = (0 : Int32) then
    (gR h 10 a0 10).bind fun v1 =>
    (aR 102 h v1 (0 : Int32)).bind fun v2 =>
    (aI h v2 p2).bind fun v3 =>
    some (v3, h)
  else
    f_X10_fitsOf_L18 (f_X10_fitsOf_J52) 5000 a0 p2 (0 : Int32) (0 : Int32) h
theorem y_X10_fitsOf {g : xG} {h0 : xH} {cl : Bool} (a0 : Nat) (p1 : Int32) (p2 : Int32) (h : xH) : Y g DX10_fitsOf h0 cl iI (f_X10_fitsOf a0 p1 p2 h) 0 [some (.ref a0), some (.int p1), some (.int p2), none, none] [] h := by
  unfold f_X10_fitsOf
  refine Y.op (pc' := 1) (fun _ => X.iloadn rfl dX10_fitsOf_0) ?_
  refine Y.ifne 13 (by decide) dX10_fitsOf_1 ?_ ?_
  · refine Y.op (pc' := 14) (fun _ => X.ic ki_0 dX10_fitsOf_13) ?_
    refine Y.op (pc' := 15) (loc' := [some (.ref a0), some (.int p1), some (.int p2), some (.int (0 : Int32)), none]) (fun _ => X.istoren (Nat.le_of_ble_eq_true rfl) rfl dX10_fitsOf_14) ?_
    refine Y.op (pc' := 16) (fun _ => X.ic ki_0 dX10_fitsOf_15) ?_
    refine Y.op (pc' := 18) (loc' := [some (.ref a0), some (.int p1), some (.int p2), some (.int (0 : Int32)), some (.int (0 : Int32))]) (fun _ => X.istore (Nat.le_of_ble_eq_true rfl) rfl dX10_fitsOf_16) ?_
    exact Y.fg (y_X10_fitsOf_L18 (y_X10_fitsOf_J52) 5000 a0 p2 (0 : Int32) (0 : Int32) h) (And.intro rfl (And.intro rfl (And.intro rfl (And.intro rfl trivial))))
  · refine Y.op (pc' := 5) (fun _ => X.aloadn rfl dX10_fitsOf_4) ?_
    refine Y.getR fd_X10_25 rfl dX10_fitsOf_5 (fun v1 => ?_)
    refine Y.op (pc' := 9) (fun _ => X.ic ki_0 dX10_fitsOf_8) ?_
    refine Y.aldR 102 (by decide) (by decide) dX10_fitsOf_9 (fun v2 => ?_)
    refine Y.op (pc' := 11) (fun _ => X.iloadn rfl dX10_fitsOf_10) ?_
    refine Y.aldI dX10_fitsOf_11 (fun v3 => ?_)
    exact Y.ireturn rfl dX10_fitsOf_12
theorem m_X10_fitsOf {g : xG} (a0 : Nat) (p1 : Int32) (p2 : Int32) (h : xH) (cl : Bool) (r : Int32 × xH) (e : f_X10_fitsOf a0 p1 p2 h = some r) : XM g DX10_fitsOf [.ref a0, .int p1, .int p2] h cl (iI r) := YM.of rfl rfl (Nat.le_of_ble_eq_true rfl) (y_X10_fitsOf a0 p1 p2 h) e
def f_X10_fits_J20 (x0 : Nat) (x1 : Int32) (x2 : Int32) (s0 : Nat) (s1 : Int32) (h : xH) : Option (Int32 × xH) :=
  (vc h 10 s0 (f_X10_bad s0 s1 (1 : Int32) (0 : Int32) h)).bind fun r1 =>
  if r1.1 = (0 : Int32) then
    (vc r1.2 10 x0 (f_X10_fitsOf x0 x1 x2 r1.2)).bind fun r2 =>
    some (r2.1, r2.2)
  else
    some ((0 : Int32), r1.2)
theorem y_X10_fits_J20 {g : xG} {h0 : xH} {cl : Bool} (x0 : Nat) (x1 : Int32) (x2 : Int32) (s0 : Nat) (s1 : Int32) (h : xH) : Y g DX10_fits h0 cl iI (f_X10_fits_J20 x0 x1 x2 s0 s1 h) 20 [some (.ref x0), some (.int x1), some (.int x2)] [.int s1, .ref s0] h := by
  unfold f_X10_fits_J20
  refine Y.op (pc' := 21) (fun _ => X.ic ki_1 dX10_fits_20) ?_
  refine Y.op (pc' := 22) (fun _ => X.ic ki_0 dX10_fits_21) ?_
  refine Y.callVi (As := [.int s1, .int (1 : Int32), .int (0 : Int32)]) lk_X10_217 rfl cal_X10_bad vir_X10_bad (Nat.le_of_ble_eq_true rfl) (Nat.le_of_ble_eq_true rfl) rfl rfl rfl (Nat.le_of_ble_eq_true rfl) dX10_fits_22 (fun _ e => m_X10_bad s0 s1 (1 : Int32) (0 : Int32) h _ _ e) (fun r1 => ?_)
  refine Y.ifeq 30 (by decide) dX10_fits_25 ?_ ?_
  · refine Y.op (pc' := 31) (fun _ => X.aloadn rfl dX10_fits_30) ?_
    refine Y.op (pc' := 32) (fun _ => X.iloadn rfl dX10_fits_31) ?_
    refine Y.op (pc' := 33) (fun _ => X.iloadn rfl dX10_fits_32) ?_
    refine Y.callVi (As := [.int x1, .int x2]) lk_X10_288 rfl cal_X10_fitsOf vir_X10_fitsOf (Nat.le_of_ble_eq_true rfl) (Nat.le_of_ble_eq_true rfl) rfl rfl rfl (Nat.le_of_ble_eq_true rfl) dX10_fits_33 (fun _ e => m_X10_fitsOf x0 x1 x2 r1.2 _ _ e) (fun r2 => ?_)
    exact Y.ireturn rfl dX10_fits_36
  · refine Y.op (pc' := 29) (fun _ => X.ic ki_0 dX10_fits_28) ?_
    exact Y.ireturn rfl dX10_fits_29
def f_X10_fits (a0 : Nat) (p1 : Int32) (p2 : Int32) (h : xH) : Option (Int32 × xH) :=
  (pI h 10 a0 0 (0 : Int32)).bind fun h1 =>
  (vc h1 10 a0 (f_X10_isOne a0 p1 p2 h1)).bind fun r2 =>
  if r2.1 = (0 : Int32) then
    f_X10_fits_J20 a0 p1 p2 a0 (1 : Int32) r2.2
  else
    f_X10_fits_J20 a0 p1 p2 a0 (0 : Int32) r2.2
theorem y_X10_fits {g : xG} {h0 : xH} {cl : Bool} (a0 : Nat) (p1 : Int32) (p2 : Int32) (h : xH) : Y g DX10_fits h0 cl iI (f_X10_fits a0 p1 p2 h) 0 [some (.ref a0), some (.int p1), some (.int p2)] [] h := by
  unfold f_X10_fits
  refine Y.op (pc' := 1) (fun _ => X.aloadn rfl dX10_fits_0) ?_
  refine Y.op (pc' := 2) (fun _ => X.ic ki_0 dX10_fits_1) ?_
  refine Y.putI fd_X10_82 rfl dX10_fits_2 (fun h1 => ?_)
  refine Y.op (pc' := 6) (fun _ => X.aloadn rfl dX10_fits_5) ?_
  refine Y.op (pc' := 7) (fun _ => X.aloadn rfl dX10_fits_6) ?_
  refine Y.op (pc' := 8) (fun _ => X.iloadn rfl dX10_fits_7) ?_
  refine Y.op (pc' := 9) (fun _ => X.iloadn rfl dX10_fits_8) ?_
  refine Y.callVi (As := [.int p1, .int p2]) lk_X10_282 rfl cal_X10_isOne vir_X10_isOne (Nat.le_of_ble_eq_true rfl) (Nat.le_of_ble_eq_true rfl) rfl rfl rfl (Nat.le_of_ble_eq_true rfl) dX10_fits_9 (fun _ e => m_X10_isOne a0 p1 p2 h1 _ _ e) (fun r2 => ?_)
  refine Y.ifne 19 (by decide) dX10_fits_12 ?_ ?_
  · refine Y.op (pc' := 20) (fun _ => X.ic ki_0 dX10_fits_19) ?_
    exact y_X10_fits_J20 a0 p1 p2 a0 (0 : Int32) r2.2
  · refine Y.op (pc' := 16) (fun _ => X.ic ki_1 dX10_fits_15) ?_
    refine Y.op (pc' := 20) (fun _ => X.goto 20 (by decide) dX10_fits_16) ?_
    exact y_X10_fits_J20 a0 p1 p2 a0 (1 : Int32) r2.2
theorem m_X10_fits {g : xG} (a0 : Nat) (p1 : Int32) (p2 : Int32) (h : xH) (cl : Bool) (r : Int32 × xH) (e : f_X10_fits a0 p1 p2 h = some r) : XM g DX10_fits [.ref a0, .int p1, .int p2] h cl (iI r) := YM.of rfl rfl (Nat.le_of_ble_eq_true rfl) (y_X10_fits a0 p1 p2 h) e
def f_X10_way (a0 : Nat) (h : xH) : Option (Int32 × xH) :=
  (pI h 10 a0 0 (0 : Int32)).bind fun h1 =>
  (vc h1 10 a0 (f_X10_hasWay a0 h1)).bind fun r2 =>
  (gI r2.2 10 a0 18).bind fun v3 =>
  some (v3, r2.2)
theorem y_X10_way {g : xG} {h0 : xH} {cl : Bool} (a0 : Nat) (h : xH) : Y g DX10_way h0 cl iI (f_X10_way a0 h) 0 [some (.ref a0)] [] h := by
  unfold f_X10_way
  refine Y.op (pc' := 1) (fun _ => X.aloadn rfl dX10_way_0) ?_
  refine Y.op (pc' := 2) (fun _ => X.ic ki_0 dX10_way_1) ?_
  refine Y.putI fd_X10_82 rfl dX10_way_2 (fun h1 => ?_)
  refine Y.op (pc' := 6) (fun _ => X.aloadn rfl dX10_way_5) ?_
  refine Y.callVi (As := []) lk_X10_261 rfl cal_X10_hasWay vir_X10_hasWay (Nat.le_of_ble_eq_true rfl) (Nat.le_of_ble_eq_true rfl) rfl rfl rfl (Nat.le_of_ble_eq_true rfl) dX10_way_6 (fun _ e => m_X10_hasWay a0 h1 _ _ e) (fun r2 => ?_)
  refine Y.op (pc' := 10) (fun _ => X.pop rfl dX10_way_9) ?_
  refine Y.op (pc' := 11) (fun _ => X.aloadn rfl dX10_way_10) ?_
  refine Y.getI fd_X10_249 rfl dX10_way_11 (fun v3 => ?_)
  exact Y.ireturn rfl dX10_way_14
theorem m_X10_way {g : xG} (a0 : Nat) (h : xH) (cl : Bool) (r : Int32 × xH) (e : f_X10_way a0 h = some r) : XM g DX10_way [.ref a0] h cl (iI r) := YM.of rfl rfl (Nat.le_of_ble_eq_true rfl) (y_X10_way a0 h) e
def f_X10_wayAt_J30 (x0 : Nat) (x1 : Int32) (s0 : Nat) (s1 : Int32) (h : xH) : Option (Int32 × xH) :=
  (vc h 10 s0 (f_X10_bad s0 s1 (1 : Int32) (0 : Int32) h)).bind fun r1 =>
  if r1.1 = (0 : Int32) then
    (gR r1.2 10 x0 19).bind fun v2 =>
    (aI r1.2 v2 x1).bind fun v3 =>
    some (v3, r1.2)
  else
    some ((0 : Int32), r1.2)
theorem y_X10_wayAt_J30 {g : xG} {h0 : xH} {cl : Bool} (x0 : Nat) (x1 : Int32) (s0 : Nat) (s1 : Int32) (h : xH) : Y g DX10_wayAt h0 cl iI (f_X10_wayAt_J30 x0 x1 s0 s1 h) 30 [some (.ref x0), some (.int x1)] [.int s1, .ref s0] h := by
  unfold f_X10_wayAt_J30
  refine Y.op (pc' := 31) (fun _ => X.ic ki_1 dX10_wayAt_30) ?_
  refine Y.op (pc' := 32) (fun _ => X.ic ki_0 dX10_wayAt_31) ?_
  refine Y.callVi (As := [.int s1, .int (1 : Int32), .int (0 : Int32)]) lk_X10_217 rfl cal_X10_bad vir_X10_bad (Nat.le_of_ble_eq_true rfl) (Nat.le_of_ble_eq_true rfl) rfl rfl rfl (Nat.le_of_ble_eq_true rfl) dX10_wayAt_32 (fun _ e => m_X10_bad s0 s1 (1 : Int32) (0 : Int32) h _ _ e) (fun r1 => ?_)
  refine Y.ifeq 40 (by decide) dX10_wayAt_35 ?_ ?_
  · refine Y.op (pc' := 41) (fun _ => X.aloadn rfl dX10_wayAt_40) ?_
    refine Y.getR fd_X10_42 rfl dX10_wayAt_41 (fun v2 => ?_)
    refine Y.op (pc' := 45) (fun _ => X.iloadn rfl dX10_wayAt_44) ?_
    refine Y.aldI dX10_wayAt_45 (fun v3 => ?_)
    exact Y.ireturn rfl dX10_wayAt_46
  · refine Y.op (pc' := 39) (fun _ => X.ic ki_0 dX10_wayAt_38) ?_
    exact Y.ireturn rfl dX10_wayAt_39
def f_X10_wayAt (a0 : Nat) (p1 : Int32) (h : xH) : Option (Int32 × xH) :=
  (pI h 10 a0 0 (0 : Int32)).bind fun h1 =>
  (vc h1 10 a0 (f_X10_hasWay a0 h1)).bind fun r2 =>
  (gI r2.2 10 a0 18).bind fun v3 =>
  (f_X10_in p1 (0 : Int32) (v3 - (1 : Int32)) r2.2).bind fun r4 =>
  if r4.1 = (0 : Int32) then
    f_X10_wayAt_J30 a0 p1 a0 (1 : Int32) r4.2
  else
    f_X10_wayAt_J30 a0 p1 a0 (0 : Int32) r4.2
theorem y_X10_wayAt {g : xG} {h0 : xH} {cl : Bool} (a0 : Nat) (p1 : Int32) (h : xH) : Y g DX10_wayAt h0 cl iI (f_X10_wayAt a0 p1 h) 0 [some (.ref a0), some (.int p1)] [] h := by
  unfold f_X10_wayAt
  refine Y.op (pc' := 1) (fun _ => X.aloadn rfl dX10_wayAt_0) ?_
  refine Y.op (pc' := 2) (fun _ => X.ic ki_0 dX10_wayAt_1) ?_
  refine Y.putI fd_X10_82 rfl dX10_wayAt_2 (fun h1 => ?_)
  refine Y.op (pc' := 6) (fun _ => X.aloadn rfl dX10_wayAt_5) ?_
  refine Y.callVi (As := []) lk_X10_261 rfl cal_X10_hasWay vir_X10_hasWay (Nat.le_of_ble_eq_true rfl) (Nat.le_of_ble_eq_true rfl) rfl rfl rfl (Nat.le_of_ble_eq_true rfl) dX10_wayAt_6 (fun _ e => m_X10_hasWay a0 h1 _ _ e) (fun r2 => ?_)
  refine Y.op (pc' := 10) (fun _ => X.pop rfl dX10_wayAt_9) ?_
  refine Y.op (pc' := 11) (fun _ => X.aloadn rfl dX10_wayAt_10) ?_
  refine Y.op (pc' := 12) (fun _ => X.iloadn rfl dX10_wayAt_11) ?_
  refine Y.op (pc' := 13) (fun _ => X.ic ki_0 dX10_wayAt_12) ?_
  refine Y.op (pc' := 14) (fun _ => X.aloadn rfl dX10_wayAt_13) ?_
  refine Y.getI fd_X10_249 rfl dX10_wayAt_14 (fun v3 => ?_)
  refine Y.op (pc' := 18) (fun _ => X.ic ki_1 dX10_wayAt_17) ?_
  refine Y.op (pc' := 19) (fun _ => X.isub dX10_wayAt_18) ?_
  refine Y.callSi (As := [.int p1, .int (0 : Int32), .int (v3 - (1 : Int32))]) lk_X10_127 rfl cal_X10_in sta_X10_in (Nat.le_of_ble_eq_true rfl) rfl rfl (Nat.le_of_ble_eq_true rfl) dX10_wayAt_19 (fun _ e => m_X10_in p1 (0 : Int32) (v3 - (1 : Int32)) r2.2 _ _ e) (fun r4 => ?_)
  refine Y.ifne 29 (by decide) dX10_wayAt_22 ?_ ?_
  · refine Y.op (pc' := 30) (fun _ => X.ic ki_0 dX10_wayAt_29) ?_
    exact y_X10_wayAt_J30 a0 p1 a0 (0 : Int32) r4.2
  · refine Y.op (pc' := 26) (fun _ => X.ic ki_1 dX10_wayAt_25) ?_
    refine Y.op (pc' := 30) (fun _ => X.goto 30 (by decide) dX10_wayAt_26) ?_
    exact y_X10_wayAt_J30 a0 p1 a0 (1 : Int32) r4.2
theorem m_X10_wayAt {g : xG} (a0 : Nat) (p1 : Int32) (h : xH) (cl : Bool) (r : Int32 × xH) (e : f_X10_wayAt a0 p1 h = some r) : XM g DX10_wayAt [.ref a0, .int p1] h cl (iI r) := YM.of rfl rfl (Nat.le_of_ble_eq_true rfl) (y_X10_wayAt a0 p1 h) e
def f_X10_wayFrom_J107 (s0 : Int32) (h : xH) : Option (Int32 × xH) :=
  some (s0, h)
theorem y_X10_wayFrom_J107 {g : xG} {h0 : xH} {cl : Bool} (s0 : Int32) (h : xH) : Y g DX10_wayFrom h0 cl iI (f_X10_wayFrom_J107 s0 h) 107 [none, none, none, none] [.int s0] h := by
  unfold f_X10_wayFrom_J107
  exact Y.ireturn rfl dX10_wayFrom_107
def f_X10_wayFrom_J82 (x0 : Nat) (x1 : Int32) (x2 : Int32) (s0 : Int32) (h : xH) : Option (Int32 × xH) :=
  if s0 = (0 : Int32) then
    f_X10_wayFrom_J107 (0 : Int32) h
  else
    if x2 = (0 : Int32) then
      f_X10_wayFrom_J107 (1 : Int32) h
    else
      (gR h 10 x0 17).bind fun v1 =>
      (aI h v1 x1).bind fun v2 =>
      f_X10_wayFrom_J107 (v2 + (1 : Int32)) h
theorem y_X10_wayFrom_J82 {g : xG} {h0 : xH} {cl : Bool} (x0 : Nat) (x1 : Int32) (x2 : Int32) (s0 : Int32) (h : xH) : Y g DX10_wayFrom h0 cl iI (f_X10_wayFrom_J82 x0 x1 x2 s0 h) 82 [some (.ref x0), some (.int x1), some (.int x2), none] [.int s0] h := by
  unfold f_X10_wayFrom_J82
  refine Y.op (pc' := 83) (loc' := [some (.ref x0), some (.int x1), some (.int x2), some (.int s0)]) (fun _ => X.istoren (Nat.le_of_ble_eq_true rfl) rfl dX10_wayFrom_82) ?_
  refine Y.op (pc' := 84) (fun _ => X.iloadn rfl dX10_wayFrom_83) ?_
  refine Y.ifne 91 (by decide) dX10_wayFrom_84 ?_ ?_
  · refine Y.op (pc' := 92) (fun _ => X.iloadn rfl dX10_wayFrom_91) ?_
    refine Y.ifne 99 (by decide) dX10_wayFrom_92 ?_ ?_
    · refine Y.op (pc' := 100) (fun _ => X.aloadn rfl dX10_wayFrom_99) ?_
      refine Y.getR fd_X10_39 rfl dX10_wayFrom_100 (fun v1 => ?_)
      refine Y.op (pc' := 104) (fun _ => X.iloadn rfl dX10_wayFrom_103) ?_
      refine Y.aldI dX10_wayFrom_104 (fun v2 => ?_)
      refine Y.op (pc' := 106) (fun _ => X.ic ki_1 dX10_wayFrom_105) ?_
      refine Y.op (pc' := 107) (fun _ => X.iadd dX10_wayFrom_106) ?_
      exact Y.fg (y_X10_wayFrom_J107 (v2 + (1 : Int32)) h) trivial
    · refine Y.op (pc' := 96) (fun _ => X.ic ki_1 dX10_wayFrom_95) ?_
      refine Y.op (pc' := 107) (fun _ => X.goto 107 (by decide) dX10_wayFrom_96) ?_
      exact Y.fg (y_X10_wayFrom_J107 (1 : Int32) h) trivial
  · refine Y.op (pc' := 88) (fun _ => X.ic ki_0 dX10_wayFrom_87) ?_
    refine Y.op (pc' := 107) (fun _ => X.goto 107 (by decide) dX10_wayFrom_88) ?_
    exact Y.fg (y_X10_wayFrom_J107 (0 : Int32) h) trivial
def f_X10_wayFrom_J81 (x0 : Nat) (x1 : Int32) (x2 : Int32) (h : xH) : Option (Int32 × xH) :=
  f_X10_wayFrom_J82 x0 x1 x2 (0 : Int32) h
theorem y_X10_wayFrom_J81 {g : xG} {h0 : xH} {cl : Bool} (x0 : Nat) (x1 : Int32) (x2 : Int32) (h : xH) : Y g DX10_wayFrom h0 cl iI (f_X10_wayFrom_J81 x0 x1 x2 h) 81 [some (.ref x0), some (.int x1), some (.int x2), none] [] h := by
  unfold f_X10_wayFrom_J81
  refine Y.op (pc' := 82) (fun _ => X.ic ki_0 dX10_wayFrom_81) ?_
  exact y_X10_wayFrom_J82 x0 x1 x2 (0 : Int32) h
def f_X10_wayFrom_J51 (h : xH) : Option (Int32 × xH) :=
  some ((0 : Int32), h)
theorem y_X10_wayFrom_J51 {g : xG} {h0 : xH} {cl : Bool} (h : xH) : Y g DX10_wayFrom h0 cl iI (f_X10_wayFrom_J51 h) 51 [none, none, none, none] [] h := by
  unfold f_X10_wayFrom_J51
  refine Y.op (pc' := 52) (fun _ => X.ic ki_0 dX10_wayFrom_51) ?_
  exact Y.ireturn rfl dX10_wayFrom_52
def f_X10_wayFrom_J43 (x0 : Nat) (x1 : Int32) (x2 : Int32) (s0 : Nat) (s1 : Int32) (h : xH) : Option (Int32 × xH) :=
  (vc h 10 s0 (f_X10_bad s0 s1 (2 : Int32) (1 : Int32) h)).bind fun r1 =>
  if r1.1 = (0 : Int32) then
    (vc r1.2 10 x0 (f_X10_laysFar x0 r1.2)).bind fun h2 =>
    (vc h2 10 x0 (f_X10_isFree x0 (0 : Int32) x1 h2)).bind fun r3 =>
    if r3.1 = (0 : Int32) then
      f_X10_wayFrom_J81 x0 x1 x2 r3.2
    else
      (gR r3.2 10 x0 17).bind fun v4 =>
      (aI r3.2 v4 x1).bind fun v5 =>
      if v5 ≥ (1000000 : Int32) then
        f_X10_wayFrom_J81 x0 x1 x2 r3.2
      else
        f_X10_wayFrom_J82 x0 x1 x2 (1 : Int32) r3.2
  else
    f_X10_wayFrom_J51 r1.2
theorem y_X10_wayFrom_J43 {g : xG} {h0 : xH} {cl : Bool} (x0 : Nat) (x1 : Int32) (x2 : Int32) (s0 : Nat) (s1 : Int32) (h : xH) : Y g DX10_wayFrom h0 cl iI (f_X10_wayFrom_J43 x0 x1 x2 s0 s1 h) 43 [some (.ref x0), some (.int x1), some (.int x2), none] [.int s1, .ref s0] h := by
  unfold f_X10_wayFrom_J43
  refine Y.op (pc' := 44) (fun _ => X.ic ki_2 dX10_wayFrom_43) ?_
  refine Y.op (pc' := 45) (fun _ => X.ic ki_1 dX10_wayFrom_44) ?_
  refine Y.callVi (As := [.int s1, .int (2 : Int32), .int (1 : Int32)]) lk_X10_217 rfl cal_X10_bad vir_X10_bad (Nat.le_of_ble_eq_true rfl) (Nat.le_of_ble_eq_true rfl) rfl rfl rfl (Nat.le_of_ble_eq_true rfl) dX10_wayFrom_45 (fun _ e => m_X10_bad s0 s1 (2 : Int32) (1 : Int32) h _ _ e) (fun r1 => ?_)
  refine Y.ifeq 53 (by decide) dX10_wayFrom_48 ?_ ?_
  · refine Y.op (pc' := 54) (fun _ => X.aloadn rfl dX10_wayFrom_53) ?_
    refine Y.callVv (As := []) lk_X10_252 rfl cal_X10_laysFar vir_X10_laysFar (Nat.le_of_ble_eq_true rfl) (Nat.le_of_ble_eq_true rfl) rfl rfl rfl (Nat.le_of_ble_eq_true rfl) dX10_wayFrom_54 (fun _ e => m_X10_laysFar x0 r1.2 _ _ e) (fun h2 => ?_)
    refine Y.op (pc' := 58) (fun _ => X.aloadn rfl dX10_wayFrom_57) ?_
    refine Y.op (pc' := 59) (fun _ => X.ic ki_0 dX10_wayFrom_58) ?_
    refine Y.op (pc' := 60) (fun _ => X.iloadn rfl dX10_wayFrom_59) ?_
    refine Y.callVi (As := [.int (0 : Int32), .int x1]) lk_X10_255 rfl cal_X10_isFree vir_X10_isFree (Nat.le_of_ble_eq_true rfl) (Nat.le_of_ble_eq_true rfl) rfl rfl rfl (Nat.le_of_ble_eq_true rfl) dX10_wayFrom_60 (fun _ e => m_X10_isFree x0 (0 : Int32) x1 h2 _ _ e) (fun r3 => ?_)
    refine Y.ifeq 81 (by decide) dX10_wayFrom_63 ?_ ?_
    · exact y_X10_wayFrom_J81 x0 x1 x2 r3.2
    · refine Y.op (pc' := 67) (fun _ => X.aloadn rfl dX10_wayFrom_66) ?_
      refine Y.getR fd_X10_39 rfl dX10_wayFrom_67 (fun v4 => ?_)
      refine Y.op (pc' := 71) (fun _ => X.iloadn rfl dX10_wayFrom_70) ?_
      refine Y.aldI dX10_wayFrom_71 (fun v5 => ?_)
      refine Y.op (pc' := 74) (fun _ => X.ldcI wc_X10_122 rfl dX10_wayFrom_72) ?_
      refine Y.cmpge 81 (by decide) dX10_wayFrom_74 ?_ ?_
      · exact y_X10_wayFrom_J81 x0 x1 x2 r3.2
      · refine Y.op (pc' := 78) (fun _ => X.ic ki_1 dX10_wayFrom_77) ?_
        refine Y.op (pc' := 82) (fun _ => X.goto 82 (by decide) dX10_wayFrom_78) ?_
        exact y_X10_wayFrom_J82 x0 x1 x2 (1 : Int32) r3.2
  · exact Y.fg (y_X10_wayFrom_J51 r1.2) trivial
def f_X10_wayFrom_J20 (x0 : Nat) (x1 : Int32) (x2 : Int32) (s0 : Nat) (s1 : Int32) (h : xH) : Option (Int32 × xH) :=
  (vc h 10 s0 (f_X10_bad s0 s1 (1 : Int32) (0 : Int32) h)).bind fun r1 =>
  if r1.1 = (0 : Int32) then
    (f_X10_in x2 (0 : Int32) (1 : Int32) r1.2).bind fun r2 =>
    if r2.1 = (0 : Int32) then
      f_X10_wayFrom_J43 x0 x1 x2 x0 (1 : Int32) r2.2
    else
      f_X10_wayFrom_J43 x0 x1 x2 x0 (0 : Int32) r2.2
  else
    f_X10_wayFrom_J51 r1.2
theorem y_X10_wayFrom_J20 {g : xG} {h0 : xH} {cl : Bool} (x0 : Nat) (x1 : Int32) (x2 : Int32) (s0 : Nat) (s1 : Int32) (h : xH) : Y g DX10_wayFrom h0 cl iI (f_X10_wayFrom_J20 x0 x1 x2 s0 s1 h) 20 [some (.ref x0), some (.int x1), some (.int x2), none] [.int s1, .ref s0] h := by
  unfold f_X10_wayFrom_J20
  refine Y.op (pc' := 21) (fun _ => X.ic ki_1 dX10_wayFrom_20) ?_
  refine Y.op (pc' := 22) (fun _ => X.ic ki_0 dX10_wayFrom_21) ?_
  refine Y.callVi (As := [.int s1, .int (1 : Int32), .int (0 : Int32)]) lk_X10_217 rfl cal_X10_bad vir_X10_bad (Nat.le_of_ble_eq_true rfl) (Nat.le_of_ble_eq_true rfl) rfl rfl rfl (Nat.le_of_ble_eq_true rfl) dX10_wayFrom_22 (fun _ e => m_X10_bad s0 s1 (1 : Int32) (0 : Int32) h _ _ e) (fun r1 => ?_)
  refine Y.ifne 51 (by decide) dX10_wayFrom_25 ?_ ?_
  · exact Y.fg (y_X10_wayFrom_J51 r1.2) trivial
  · refine Y.op (pc' := 29) (fun _ => X.aloadn rfl dX10_wayFrom_28) ?_
    refine Y.op (pc' := 30) (fun _ => X.iloadn rfl dX10_wayFrom_29) ?_
    refine Y.op (pc' := 31) (fun _ => X.ic ki_0 dX10_wayFrom_30) ?_
    refine Y.op (pc' := 32) (fun _ => X.ic ki_1 dX10_wayFrom_31) ?_
    refine Y.callSi (As := [.int x2, .int (0 : Int32), .int (1 : Int32)]) lk_X10_127 rfl cal_X10_in sta_X10_in (Nat.le_of_ble_eq_true rfl) rfl rfl (Nat.le_of_ble_eq_true rfl) dX10_wayFrom_32 (fun _ e => m_X10_in x2 (0 : Int32) (1 : Int32) r1.2 _ _ e) (fun r2 => ?_)
    refine Y.ifne 42 (by decide) dX10_wayFrom_35 ?_ ?_
    · refine Y.op (pc' := 43) (fun _ => X.ic ki_0 dX10_wayFrom_42) ?_
      exact y_X10_wayFrom_J43 x0 x1 x2 x0 (0 : Int32) r2.2
    · refine Y.op (pc' := 39) (fun _ => X.ic ki_1 dX10_wayFrom_38) ?_
      refine Y.op (pc' := 43) (fun _ => X.goto 43 (by decide) dX10_wayFrom_39) ?_
      exact y_X10_wayFrom_J43 x0 x1 x2 x0 (1 : Int32) r2.2
def f_X10_wayFrom (a0 : Nat) (p1 : Int32) (p2 : Int32) (h : xH) : Option (Int32 × xH) :=
  (pI h 10 a0 0 (0 : Int32)).bind fun h1 =>
  (vc h1 10 a0 (f_X10_isOne a0 (0 : Int32) p1 h1)).bind fun r2 =>
  if r2.1 = (0 : Int32) then
    f_X10_wayFrom_J20 a0 p1 p2 a0 (1 : Int32) r2.2
  else
    f_X10_wayFrom_J20 a0 p1 p2 a0 (0 : Int32) r2.2
theorem y_X10_wayFrom {g : xG} {h0 : xH} {cl : Bool} (a0 : Nat) (p1 : Int32) (p2 : Int32) (h : xH) : Y g DX10_wayFrom h0 cl iI (f_X10_wayFrom a0 p1 p2 h) 0 [some (.ref a0), some (.int p1), some (.int p2), none] [] h := by
  unfold f_X10_wayFrom
  refine Y.op (pc' := 1) (fun _ => X.aloadn rfl dX10_wayFrom_0) ?_
  refine Y.op (pc' := 2) (fun _ => X.ic ki_0 dX10_wayFrom_1) ?_
  refine Y.putI fd_X10_82 rfl dX10_wayFrom_2 (fun h1 => ?_)
  refine Y.op (pc' := 6) (fun _ => X.aloadn rfl dX10_wayFrom_5) ?_
  refine Y.op (pc' := 7) (fun _ => X.aloadn rfl dX10_wayFrom_6) ?_
  refine Y.op (pc' := 8) (fun _ => X.ic ki_0 dX10_wayFrom_7) ?_
  refine Y.op (pc' := 9) (fun _ => X.iloadn rfl dX10_wayFrom_8) ?_
  refine Y.callVi (As := [.int (0 : Int32), .int p1]) lk_X10_282 rfl cal_X10_isOne vir_X10_isOne (Nat.le_of_ble_eq_true rfl) (Nat.le_of_ble_eq_true rfl) rfl rfl rfl (Nat.le_of_ble_eq_true rfl) dX10_wayFrom_9 (fun _ e => m_X10_isOne a0 (0 : Int32) p1 h1 _ _ e) (fun r2 => ?_)
  refine Y.ifne 19 (by decide) dX10_wayFrom_12 ?_ ?_
  · refine Y.op (pc' := 20) (fun _ => X.ic ki_0 dX10_wayFrom_19) ?_
    exact y_X10_wayFrom_J20 a0 p1 p2 a0 (0 : Int32) r2.2
  · refine Y.op (pc' := 16) (fun _ => X.ic ki_1 dX10_wayFrom_15) ?_
    refine Y.op (pc' := 20) (fun _ => X.goto 20 (by decide) dX10_wayFrom_16) ?_
    exact y_X10_wayFrom_J20 a0 p1 p2 a0 (1 : Int32) r2.2
theorem m_X10_wayFrom {g : xG} (a0 : Nat) (p1 : Int32) (p2 : Int32) (h : xH) (cl : Bool) (r : Int32 × xH) (e : f_X10_wayFrom a0 p1 p2 h = some r) : XM g DX10_wayFrom [.ref a0, .int p1, .int p2] h cl (iI r) := YM.of rfl rfl (Nat.le_of_ble_eq_true rfl) (y_X10_wayFrom a0 p1 p2 h) e
def f_X10_laysLayers_J243 (h : xH) : Option (Int32 × xH) :=
  if (0 : Int32) = 0 ∨ (0 : Int32) = 1 then some ((0 : Int32), h) else none
theorem y_X10_laysLayers_J243 {g : xG} {h0 : xH} {cl : Bool} (h : xH) : Y g DX10_laysLayers h0 cl iI (f_X10_laysLayers_J243 h) 243 [none, none, none, none, none] [] h := by
  unfold f_X10_laysLayers_J243
  refine Y.op (pc' := 244) (fun _ => X.ic ki_0 dX10_laysLayers_243) ?_
  exact Y.zreturn rfl dX10_laysLayers_244
def f_X10_laysLayers_J189 (h : xH) : Option (Int32 × xH) :=
  if (1 : Int32) = 0 ∨ (1 : Int32) = 1 then some ((1 : Int32), h) else none
theorem y_X10_laysLayers_J189 {g : xG} {h0 : xH} {cl : Bool} (h : xH) : Y g DX10_laysLayers h0 cl iI (f_X10_laysLayers_J189 h) 189 [none, none, none, none, none] [] h := by
  unfold f_X10_laysLayers_J189
  refine Y.op (pc' := 190) (fun _ => X.ic ki_1 dX10_laysLayers_189) ?_
  exact Y.zreturn rfl dX10_laysLayers_190
def f_X10_laysLayers_J237 (kH : Nat → Int32 → xH → Option (Int32 × xH)) (kE189 : xH → Option (Int32 × xH)) (kE243 : xH → Option (Int32 × xH)) (x0 : Nat) (x1 : Int32) (h : xH) : Option (Int32 × xH) :=
  lt (x1 + (2 : Int32)) fun v1 =>
  kH x0 v1 h
theorem y_X10_laysLayers_J237 {g : xG} {h0 : xH} {cl : Bool} {kH : Nat → Int32 → xH → Option (Int32 × xH)} {kE189 : xH → Option (Int32 × xH)} {kE243 : xH → Option (Int32 × xH)} (hkH : ∀ (x0 : Nat) (x1 : Int32) (h : xH), Y g DX10_laysLayers h0 cl iI (kH x0 x1 h) 66 [some (.ref x0), some (.int x1), none, none, none] [] h) (hkE189 : ∀  (h : xH), Y g DX10_laysLayers h0 cl iI (kE189  h) 189 [none, none, none, none, none] [] h) (hkE243 : ∀  (h : xH), Y g DX10_laysLayers h0 cl iI (kE243  h) 243 [none, none, none, none, none] [] h) (x0 : Nat) (x1 : Int32) (h : xH) : Y g DX10_laysLayers h0 cl iI (f_X10_laysLayers_J237 kH kE189 kE243 x0 x1 h) 237 [some (.ref x0), some (.int x1), none, none, none] [] h := by
  unfold f_X10_laysLayers_J237
  refine Y.iinc (i := 1) (loc' := fun v1 => [some (.ref x0), some (.int v1), none, none, none]) rfl (Nat.le_of_ble_eq_true rfl) ki_2 (fun _ => rfl) dX10_laysLayers_237 (fun v1 => ?_)
  refine Y.op (pc' := 66) (fun _ => X.goto 66 (by decide) dX10_laysLayers_240) ?_
  exact hkH x0 v1 h
def f_X10_laysLayers_J231 (kH : Nat → Int32 → Int32 → xH → Option (Int32 × xH)) (kE237 : Nat → Int32 → xH → Option (Int32 × xH)) (x0 : Nat) (x1 : Int32) (x3 : Int32) (h : xH) : Option (Int32 × xH) :=
  lt (x3 + (1 : Int32)) fun v1 =>
  kH x0 x1 v1 h
theorem y_X10_laysLayers_J231 {g : xG} {h0 : xH} {cl : Bool} {kH : Nat → Int32 → Int32 → xH → Option (Int32 × xH)} {kE237 : Nat → Int32 → xH → Option (Int32 × xH)} (hkH : ∀ (x0 : Nat) (x1 : Int32) (x3 : Int32) (h : xH), Y g DX10_laysLayers h0 cl iI (kH x0 x1 x3 h) 193 [some (.ref x0), some (.int x1), none, some (.int x3), none] [] h) (hkE237 : ∀ (x0 : Nat) (x1 : Int32) (h : xH), Y g DX10_laysLayers h0 cl iI (kE237 x0 x1 h) 237 [some (.ref x0), some (.int x1), none, none, none] [] h) (x0 : Nat) (x1 : Int32) (x3 : Int32) (h : xH) : Y g DX10_laysLayers h0 cl iI (f_X10_laysLayers_J231 kH kE237 x0 x1 x3 h) 231 [some (.ref x0), some (.int x1), none, some (.int x3), none] [] h := by
  unfold f_X10_laysLayers_J231
  refine Y.iinc (i := 3) (loc' := fun v1 => [some (.ref x0), some (.int x1), none, some (.int v1), none]) rfl (Nat.le_of_ble_eq_true rfl) ki_1 (fun _ => rfl) dX10_laysLayers_231 (fun v1 => ?_)
  refine Y.op (pc' := 193) (fun _ => X.goto 193 (by decide) dX10_laysLayers_234) ?_
  exact hkH x0 x1 v1 h
def f_X10_laysLayers_L193 (kE237 : Nat → Int32 → xH → Option (Int32 × xH)) : Nat → Nat → Int32 → Int32 → xH → Option (Int32 × xH)
  | 0 => fun _ _ _ _ => none
  | n + 1 => fun x0 x1 x3 h =>
    (gR h 10 x0 9).bind fun v1 =>
    (aR 102 h v1 (0 : Int32)).bind fun v2 =>
    (aI h v2 (1 : Int32)).bind fun v3 =>
    if x3 ≥ v3 then
      kE237 x0 x1 h
    else
      (gR h 10 x0 25).bind fun v4 =>
      (aI h v4 x3).bind fun v5 =>
      if v5 = (x1 + (1 : Int32)) then
        (gR h 10 x0 24).bind fun v6 =>
        (vc h 10 x0 (f_X10_partnerOf x0 (1 : Int32) x3 h)).bind fun r7 =>
        (sI r7.2 v6 r7.1 (x1 + (2 : Int32))).bind fun h8 =>
        f_X10_laysLayers_J231 (f_X10_laysLayers_L193 kE237 n) kE237 x0 x1 x3 h8
      else
        f_X10_laysLayers_J231 (f_X10_laysLayers_L193 kE237 n) kE237 x0 x1 x3 h
theorem y_X10_laysLayers_L193 {g : xG} {h0 : xH} {cl : Bool} {kE237 : Nat → Int32 → xH → Option (Int32 × xH)} (hkE237 : ∀ (x0 : Nat) (x1 : Int32) (h : xH), Y g DX10_laysLayers h0 cl iI (kE237 x0 x1 h) 237 [some (.ref x0), some (.int x1), none, none, none] [] h) : ∀ (n : Nat) (x0 : Nat) (x1 : Int32) (x3 : Int32) (h : xH), Y g DX10_laysLayers h0 cl iI (f_X10_laysLayers_L193 kE237 n x0 x1 x3 h) 193 [some (.ref x0), some (.int x1), none, some (.int x3), none] [] h := by
  intro n
  induction n with
  | zero => intro x0 x1 x3 h; exact Y.nothing
  | succ n ih =>
    intro x0 x1 x3 h
    unfold f_X10_laysLayers_L193
    refine Y.op (pc' := 194) (fun _ => X.iloadn rfl dX10_laysLayers_193) ?_
    refine Y.op (pc' := 195) (fun _ => X.aloadn rfl dX10_laysLayers_194) ?_
    refine Y.getR fd_X10_22 rfl dX10_laysLayers_195 (fun v1 => ?_)
    refine Y.op (pc' := 199) (fun _ => X.ic ki_0 dX10_laysLayers_198) ?_
    refine Y.aldR 102 (by decide) (by decide) dX10_laysLayers_199 (fun v2 => ?_)
    refine Y.op (pc' := 201) (fun _ => X.ic ki_1 dX10_laysLayers_200) ?_
    refine Y.aldI dX10_laysLayers_201 (fun v3 => ?_)
    refine Y.cmpge 237 (by decide) dX10_laysLayers_202 ?_ ?_
    · exact Y.fg (hkE237 x0 x1 h) (And.intro rfl (And.intro rfl trivial))
    · refine Y.op (pc' := 206) (fun _ => X.aloadn rfl dX10_laysLayers_205) ?_
      refine Y.getR fd_X10_48 rfl dX10_laysLayers_206 (fun v4 => ?_)
      refine Y.op (pc' := 210) (fun _ => X.iloadn rfl dX10_laysLayers_209) ?_
      refine Y.aldI dX10_laysLayers_210 (fun v5 => ?_)
      refine Y.op (pc' := 212) (fun _ => X.iloadn rfl dX10_laysLayers_211) ?_
      refine Y.op (pc' := 213) (fun _ => X.ic ki_1 dX10_laysLayers_212) ?_
      refine Y.op (pc' := 214) (fun _ => X.iadd dX10_laysLayers_213) ?_
      refine Y.cmpne 231 (by decide) dX10_laysLayers_214 ?_ ?_
      · exact y_X10_laysLayers_J231 ih hkE237 x0 x1 x3 h
      · refine Y.op (pc' := 218) (fun _ => X.aloadn rfl dX10_laysLayers_217) ?_
        refine Y.getR fd_X10_45 rfl dX10_laysLayers_218 (fun v6 => ?_)
        refine Y.op (pc' := 222) (fun _ => X.aloadn rfl dX10_laysLayers_221) ?_
        refine Y.op (pc' := 223) (fun _ => X.ic ki_1 dX10_laysLayers_222) ?_
        refine Y.op (pc' := 224) (fun _ => X.iloadn rfl dX10_laysLayers_223) ?_
        refine Y.callVi (As := [.int (1 : Int32), .int x3]) lk_X10_243 rfl cal_X10_partnerOf vir_X10_partnerOf (Nat.le_of_ble_eq_true rfl) (Nat.le_of_ble_eq_true rfl) rfl rfl rfl (Nat.le_of_ble_eq_true rfl) dX10_laysLayers_224 (fun _ e => m_X10_partnerOf x0 (1 : Int32) x3 h _ _ e) (fun r7 => ?_)
        refine Y.op (pc' := 228) (fun _ => X.iloadn rfl dX10_laysLayers_227) ?_
        refine Y.op (pc' := 229) (fun _ => X.ic ki_2 dX10_laysLayers_228) ?_
        refine Y.op (pc' := 230) (fun _ => X.iadd dX10_laysLayers_229) ?_
        refine Y.astI dX10_laysLayers_230 (fun h8 => ?_)
        exact y_X10_laysLayers_J231 ih hkE237 x0 x1 x3 h8
def f_X10_laysLayers_J185 (kH : Nat → Int32 → xH → Option (Int32 × xH)) (kE189 : xH → Option (Int32 × xH)) (kE243 : xH → Option (Int32 × xH)) (x0 : Nat) (x1 : Int32) (x2 : Int32) (h : xH) : Option (Int32 × xH) :=
  if x2 = (0 : Int32) then
    f_X10_laysLayers_L193 (f_X10_laysLayers_J237 (kH) kE189 kE243) 5000 x0 x1 (0 : Int32) h
  else
    kE189 h
theorem y_X10_laysLayers_J185 {g : xG} {h0 : xH} {cl : Bool} {kH : Nat → Int32 → xH → Option (Int32 × xH)} {kE189 : xH → Option (Int32 × xH)} {kE243 : xH → Option (Int32 × xH)} (hkH : ∀ (x0 : Nat) (x1 : Int32) (h : xH), Y g DX10_laysLayers h0 cl iI (kH x0 x1 h) 66 [some (.ref x0), some (.int x1), none, none, none] [] h) (hkE189 : ∀  (h : xH), Y g DX10_laysLayers h0 cl iI (kE189  h) 189 [none, none, none, none, none] [] h) (hkE243 : ∀  (h : xH), Y g DX10_laysLayers h0 cl iI (kE243  h) 243 [none, none, none, none, none] [] h) (x0 : Nat) (x1 : Int32) (x2 : Int32) (h : xH) : Y g DX10_laysLayers h0 cl iI (f_X10_laysLayers_J185 kH kE189 kE243 x0 x1 x2 h) 185 [some (.ref x0), some (.int x1), some (.int x2), none, none] [] h := by
  unfold f_X10_laysLayers_J185
  refine Y.op (pc' := 186) (fun _ => X.iloadn rfl dX10_laysLayers_185) ?_
  refine Y.ifeq 191 (by decide) dX10_laysLayers_186 ?_ ?_
  · refine Y.op (pc' := 192) (fun _ => X.ic ki_0 dX10_laysLayers_191) ?_
    refine Y.op (pc' := 193) (loc' := [some (.ref x0), some (.int x1), some (.int x2), some (.int (0 : Int32)), none]) (fun _ => X.istoren (Nat.le_of_ble_eq_true rfl) rfl dX10_laysLayers_192) ?_
    exact Y.fg (y_X10_laysLayers_L193 (y_X10_laysLayers_J237 hkH hkE189 hkE243) 5000 x0 x1 (0 : Int32) h) (And.intro rfl (And.intro rfl (And.intro rfl trivial)))
  · exact Y.fg (hkE189 h) trivial
def f_X10_laysLayers_J179 (kH : Nat → Int32 → Int32 → Int32 → xH → Option (Int32 × xH)) (kE185 : Nat → Int32 → Int32 → xH → Option (Int32 × xH)) (x0 : Nat) (x1 : Int32) (x2 : Int32) (x3 : Int32) (h : xH) : Option (Int32 × xH) :=
  lt (x3 + (1 : Int32)) fun v1 =>
  kH x0 x1 x2 v1 h
theorem y_X10_laysLayers_J179 {g : xG} {h0 : xH} {cl : Bool} {kH : Nat → Int32 → Int32 → Int32 → xH → Option (Int32 × xH)} {kE185 : Nat → Int32 → Int32 → xH → Option (Int32 × xH)} (hkH : ∀ (x0 : Nat) (x1 : Int32) (x2 : Int32) (x3 : Int32) (h : xH), Y g DX10_laysLayers h0 cl iI (kH x0 x1 x2 x3 h) 76 [some (.ref x0), some (.int x1), some (.int x2), some (.int x3), none] [] h) (hkE185 : ∀ (x0 : Nat) (x1 : Int32) (x2 : Int32) (h : xH), Y g DX10_laysLayers h0 cl iI (kE185 x0 x1 x2 h) 185 [some (.ref x0), some (.int x1), some (.int x2), none, none] [] h) (x0 : Nat) (x1 : Int32) (x2 : Int32) (x3 : Int32) (h : xH) : Y g DX10_laysLayers h0 cl iI (f_X10_laysLayers_J179 kH kE185 x0 x1 x2 x3 h) 179 [some (.ref x0), some (.int x1), some (.int x2), some (.int x3), none] [] h := by
  unfold f_X10_laysLayers_J179
  refine Y.iinc (i := 3) (loc' := fun v1 => [some (.ref x0), some (.int x1), some (.int x2), some (.int v1), none]) rfl (Nat.le_of_ble_eq_true rfl) ki_1 (fun _ => rfl) dX10_laysLayers_179 (fun v1 => ?_)
  refine Y.op (pc' := 76) (fun _ => X.goto 76 (by decide) dX10_laysLayers_182) ?_
  exact hkH x0 x1 x2 v1 h
def f_X10_laysLayers_J173 (kH : Nat → Int32 → Int32 → Int32 → Int32 → xH → Option (Int32 × xH)) (kE179 : Nat → Int32 → Int32 → Int32 → xH → Option (Int32 × xH)) (x0 : Nat) (x1 : Int32) (x2 : Int32) (x3 : Int32) (x4 : Int32) (h : xH) : Option (Int32 × xH) :=
  lt (x4 + (1 : Int32)) fun v1 =>
  kH x0 x1 x2 x3 v1 h
theorem y_X10_laysLayers_J173 {g : xG} {h0 : xH} {cl : Bool} {kH : Nat → Int32 → Int32 → Int32 → Int32 → xH → Option (Int32 × xH)} {kE179 : Nat → Int32 → Int32 → Int32 → xH → Option (Int32 × xH)} (hkH : ∀ (x0 : Nat) (x1 : Int32) (x2 : Int32) (x3 : Int32) (x4 : Int32) (h : xH), Y g DX10_laysLayers h0 cl iI (kH x0 x1 x2 x3 x4 h) 104 [some (.ref x0), some (.int x1), some (.int x2), some (.int x3), some (.int x4)] [] h) (hkE179 : ∀ (x0 : Nat) (x1 : Int32) (x2 : Int32) (x3 : Int32) (h : xH), Y g DX10_laysLayers h0 cl iI (kE179 x0 x1 x2 x3 h) 179 [some (.ref x0), some (.int x1), some (.int x2), some (.int x3), none] [] h) (x0 : Nat) (x1 : Int32) (x2 : Int32) (x3 : Int32) (x4 : Int32) (h : xH) : Y g DX10_laysLayers h0 cl iI (f_X10_laysLayers_J173 kH kE179 x0 x1 x2 x3 x4 h) 173 [some (.ref x0), some (.int x1), some (.int x2), some (.int x3), some (.int x4)] [] h := by
  unfold f_X10_laysLayers_J173
  refine Y.iinc (i := 4) (loc' := fun v1 => [some (.ref x0), some (.int x1), some (.int x2), some (.int x3), some (.int v1)]) rfl (Nat.le_of_ble_eq_true rfl) ki_1 (fun _ => rfl) dX10_laysLayers_173 (fun v1 => ?_)
  refine Y.op (pc' := 104) (fun _ => X.goto 104 (by decide) dX10_laysLayers_176) ?_
  exact hkH x0 x1 x2 x3 v1 h
def f_X10_laysLayers_J171 (kH : Nat → Int32 → Int32 → Int32 → Int32 → xH → Option (Int32 × xH)) (kE179 : Nat → Int32 → Int32 → Int32 → xH → Option (Int32 × xH)) (x0 : Nat) (x1 : Int32) (x3 : Int32) (x4 : Int32) (s0 : Int32) (s1 : Int32) (h : xH) : Option (Int32 × xH) :=
  lt ((s0 ||| s1)) fun v1 =>
  f_X10_laysLayers_J173 (kH) kE179 x0 x1 v1 x3 x4 h
theorem y_X10_laysLayers_J171 {g : xG} {h0 : xH} {cl : Bool} {kH : Nat → Int32 → Int32 → Int32 → Int32 → xH → Option (Int32 × xH)} {kE179 : Nat → Int32 → Int32 → Int32 → xH → Option (Int32 × xH)} (hkH : ∀ (x0 : Nat) (x1 : Int32) (x2 : Int32) (x3 : Int32) (x4 : Int32) (h : xH), Y g DX10_laysLayers h0 cl iI (kH x0 x1 x2 x3 x4 h) 104 [some (.ref x0), some (.int x1), some (.int x2), some (.int x3), some (.int x4)] [] h) (hkE179 : ∀ (x0 : Nat) (x1 : Int32) (x2 : Int32) (x3 : Int32) (h : xH), Y g DX10_laysLayers h0 cl iI (kE179 x0 x1 x2 x3 h) 179 [some (.ref x0), some (.int x1), some (.int x2), some (.int x3), none] [] h) (x0 : Nat) (x1 : Int32) (x3 : Int32) (x4 : Int32) (s0 : Int32) (s1 : Int32) (h : xH) : Y g DX10_laysLayers h0 cl iI (f_X10_laysLayers_J171 kH kE179 x0 x1 x3 x4 s0 s1 h) 171 [some (.ref x0), some (.int x1), none, some (.int x3), some (.int x4)] [.int s1, .int s0] h := by
  unfold f_X10_laysLayers_J171
  refine Y.op (pc' := 172) (fun _ => X.ior dX10_laysLayers_171) ?_
  refine Y.top (fun v1 => ?_)
  refine Y.op (pc' := 173) (loc' := [some (.ref x0), some (.int x1), some (.int v1), some (.int x3), some (.int x4)]) (fun _ => X.istoren (Nat.le_of_ble_eq_true rfl) rfl dX10_laysLayers_172) ?_
  exact y_X10_laysLayers_J173 hkH hkE179 x0 x1 v1 x3 x4 h
def f_X10_laysLayers_L104 (kE179 : Nat → Int32 → Int32 → Int32 → xH → Option (Int32 × xH)) : Nat → Nat → Int32 → Int32 → Int32 → Int32 → xH → Option (Int32 × xH)
  | 0 => fun _ _ _ _ _ _ => none
  | n + 1 => fun x0 x1 x2 x3 x4 h =>
    (gR h 10 x0 9).bind fun v1 =>
    (aR 102 h v1 (0 : Int32)).bind fun v2 =>
    (aI h v2 (1 : Int32)).bind fun v3 =>
    if x4 ≥ v3 then
      kE179 x0 x1 x2 x3 h
    else
      (vc h 10 x0 (f_X10_openTo x0 x3 h)).bind fun r4 =>
      (f_X10_has r4.1 x4 r4.2).bind fun r5 =>
      if r5.1 = (0 : Int32) then
        f_X10_laysLayers_J173 (f_X10_laysLayers_L104 kE179 n) kE179 x0 x1 x2 x3 x4 r5.2
      else
        (gR r5.2 10 x0 25).bind fun v6 =>
        (aI r5.2 v6 x4).bind fun v7 =>
        if v7 = (-1 : Int32) then
          (gR r5.2 10 x0 25).bind fun v8 =>
          (sI r5.2 v8 x4 (x1 + (1 : Int32))).bind fun h9 =>
          (vc h9 10 x0 (f_X10_partnerOf x0 (1 : Int32) x4 h9)).bind fun r10 =>
          if r10.1 = (-1 : Int32) then
            f_X10_laysLayers_J171 (f_X10_laysLayers_L104 kE179 n) kE179 x0 x1 x3 x4 x2 (1 : Int32) r10.2
          else
            f_X10_laysLayers_J171 (f_X10_laysLayers_L104 kE179 n) kE179 x0 x1 x3 x4 x2 (0 : Int32) r10.2
        else
          f_X10_laysLayers_J173 (f_X10_laysLayers_L104 kE179 n) kE179 x0 x1 x2 x3 x4 r5.2
theorem y_X10_laysLayers_L104 {g : xG} {h0 : xH} {cl : Bool} {kE179 : Nat → Int32 → Int32 → Int32 → xH → Option (Int32 × xH)} (hkE179 : ∀ (x0 : Nat) (x1 : Int32) (x2 : Int32) (x3 : Int32) (h : xH), Y g DX10_laysLayers h0 cl iI (kE179 x0 x1 x2 x3 h) 179 [some (.ref x0), some (.int x1), some (.int x2), some (.int x3), none] [] h) : ∀ (n : Nat) (x0 : Nat) (x1 : Int32) (x2 : Int32) (x3 : Int32) (x4 : Int32) (h : xH), Y g DX10_laysLayers h0 cl iI (f_X10_laysLayers_L104 kE179 n x0 x1 x2 x3 x4 h) 104 [some (.ref x0), some (.int x1), some (.int x2), some (.int x3), some (.int x4)] [] h := by
  intro n
  induction n with
  | zero => intro x0 x1 x2 x3 x4 h; exact Y.nothing
  | succ n ih =>
    intro x0 x1 x2 x3 x4 h
    unfold f_X10_laysLayers_L104
    refine Y.op (pc' := 106) (fun _ => X.iload rfl dX10_laysLayers_104) ?_
    refine Y.op (pc' := 107) (fun _ => X.aloadn rfl dX10_laysLayers_106) ?_
    refine Y.getR fd_X10_22 rfl dX10_laysLayers_107 (fun v1 => ?_)
    refine Y.op (pc' := 111) (fun _ => X.ic ki_0 dX10_laysLayers_110) ?_
    refine Y.aldR 102 (by decide) (by decide) dX10_laysLayers_111 (fun v2 => ?_)
    refine Y.op (pc' := 113) (fun _ => X.ic ki_1 dX10_laysLayers_112) ?_
    refine Y.aldI dX10_laysLayers_113 (fun v3 => ?_)
    refine Y.cmpge 179 (by decide) dX10_laysLayers_114 ?_ ?_
    · exact Y.fg (hkE179 x0 x1 x2 x3 h) (And.intro rfl (And.intro rfl (And.intro rfl (And.intro rfl trivial))))
    · refine Y.op (pc' := 118) (fun _ => X.aloadn rfl dX10_laysLayers_117) ?_
      refine Y.op (pc' := 119) (fun _ => X.iloadn rfl dX10_laysLayers_118) ?_
      refine Y.callVi (As := [.int x3]) lk_X10_246 rfl cal_X10_openTo vir_X10_openTo (Nat.le_of_ble_eq_true rfl) (Nat.le_of_ble_eq_true rfl) rfl rfl rfl (Nat.le_of_ble_eq_true rfl) dX10_laysLayers_119 (fun _ e => m_X10_openTo x0 x3 h _ _ e) (fun r4 => ?_)
      refine Y.op (pc' := 124) (fun _ => X.iload rfl dX10_laysLayers_122) ?_
      refine Y.callSi (As := [.int r4.1, .int x4]) lk_X10_182 rfl cal_X10_has sta_X10_has (Nat.le_of_ble_eq_true rfl) rfl rfl (Nat.le_of_ble_eq_true rfl) dX10_laysLayers_124 (fun _ e => m_X10_has r4.1 x4 r4.2 _ _ e) (fun r5 => ?_)
      refine Y.ifeq 173 (by decide) dX10_laysLayers_127 ?_ ?_
      · exact y_X10_laysLayers_J173 ih hkE179 x0 x1 x2 x3 x4 r5.2
      · refine Y.op (pc' := 131) (fun _ => X.aloadn rfl dX10_laysLayers_130) ?_
        refine Y.getR fd_X10_48 rfl dX10_laysLayers_131 (fun v6 => ?_)
        refine Y.op (pc' := 136) (fun _ => X.iload rfl dX10_laysLayers_134) ?_
        refine Y.aldI dX10_laysLayers_136 (fun v7 => ?_)
        refine Y.op (pc' := 138) (fun _ => X.ic ki_m1 dX10_laysLayers_137) ?_
        refine Y.cmpeq 144 (by decide) dX10_laysLayers_138 ?_ ?_
        · refine Y.op (pc' := 145) (fun _ => X.aloadn rfl dX10_laysLayers_144) ?_
          refine Y.getR fd_X10_48 rfl dX10_laysLayers_145 (fun v8 => ?_)
          refine Y.op (pc' := 150) (fun _ => X.iload rfl dX10_laysLayers_148) ?_
          refine Y.op (pc' := 151) (fun _ => X.iloadn rfl dX10_laysLayers_150) ?_
          refine Y.op (pc' := 152) (fun _ => X.ic ki_1 dX10_laysLayers_151) ?_
          refine Y.op (pc' := 153) (fun _ => X.iadd dX10_laysLayers_152) ?_
          refine Y.astI dX10_laysLayers_153 (fun h9 => ?_)
          refine Y.op (pc' := 155) (fun _ => X.iloadn rfl dX10_laysLayers_154) ?_
          refine Y.op (pc' := 156) (fun _ => X.aloadn rfl dX10_laysLayers_155) ?_
          refine Y.op (pc' := 157) (fun _ => X.ic ki_1 dX10_laysLayers_156) ?_
          refine Y.op (pc' := 159) (fun _ => X.iload rfl dX10_laysLayers_157) ?_
          refine Y.callVi (As := [.int (1 : Int32), .int x4]) lk_X10_243 rfl cal_X10_partnerOf vir_X10_partnerOf (Nat.le_of_ble_eq_true rfl) (Nat.le_of_ble_eq_true rfl) rfl rfl rfl (Nat.le_of_ble_eq_true rfl) dX10_laysLayers_159 (fun _ e => m_X10_partnerOf x0 (1 : Int32) x4 h9 _ _ e) (fun r10 => ?_)
          refine Y.op (pc' := 163) (fun _ => X.ic ki_m1 dX10_laysLayers_162) ?_
          refine Y.cmpne 170 (by decide) dX10_laysLayers_163 ?_ ?_
          · refine Y.op (pc' := 171) (fun _ => X.ic ki_0 dX10_laysLayers_170) ?_
            exact Y.fg (y_X10_laysLayers_J171 ih hkE179 x0 x1 x3 x4 x2 (0 : Int32) r10.2) (And.intro rfl (And.intro rfl (And.intro rfl (And.intro rfl trivial))))
          · refine Y.op (pc' := 167) (fun _ => X.ic ki_1 dX10_laysLayers_166) ?_
            refine Y.op (pc' := 171) (fun _ => X.goto 171 (by decide) dX10_laysLayers_167) ?_
            exact Y.fg (y_X10_laysLayers_J171 ih hkE179 x0 x1 x3 x4 x2 (1 : Int32) r10.2) (And.intro rfl (And.intro rfl (And.intro rfl (And.intro rfl trivial))))
        · refine Y.op (pc' := 173) (fun _ => X.goto 173 (by decide) dX10_laysLayers_141) ?_
          exact y_X10_laysLayers_J173 ih hkE179 x0 x1 x2 x3 x4 r5.2
def f_X10_laysLayers_L76 (kE185 : Nat → Int32 → Int32 → xH → Option (Int32 × xH)) : Nat → Nat → Int32 → Int32 → Int32 → xH → Option (Int32 × xH)
  | 0 => fun _ _ _ _ _ => none
  | n + 1 => fun x0 x1 x2 x3 h =>
    (gR h 10 x0 9).bind fun v1 =>
    (aR 102 h v1 (0 : Int32)).bind fun v2 =>
    (aI h v2 (0 : Int32)).bind fun v3 =>
    if x3 ≥ v3 then
      kE185 x0 x1 x2 h
    else
      (gR h 10 x0 24).bind fun v4 =>
      (aI h v4 x3).bind fun v5 =>
      if v5 = x1 then
        f_X10_laysLayers_L104 (f_X10_laysLayers_J179 (f_X10_laysLayers_L76 kE185 n) kE185) 5000 x0 x1 x2 x3 (0 : Int32) h
      else
        f_X10_laysLayers_J179 (f_X10_laysLayers_L76 kE185 n) kE185 x0 x1 x2 x3 h
theorem y_X10_laysLayers_L76 {g : xG} {h0 : xH} {cl : Bool} {kE185 : Nat → Int32 → Int32 → xH → Option (Int32 × xH)} (hkE185 : ∀ (x0 : Nat) (x1 : Int32) (x2 : Int32) (h : xH), Y g DX10_laysLayers h0 cl iI (kE185 x0 x1 x2 h) 185 [some (.ref x0), some (.int x1), some (.int x2), none, none] [] h) : ∀ (n : Nat) (x0 : Nat) (x1 : Int32) (x2 : Int32) (x3 : Int32) (h : xH), Y g DX10_laysLayers h0 cl iI (f_X10_laysLayers_L76 kE185 n x0 x1 x2 x3 h) 76 [some (.ref x0), some (.int x1), some (.int x2), some (.int x3), none] [] h := by
  intro n
  induction n with
  | zero => intro x0 x1 x2 x3 h; exact Y.nothing
  | succ n ih =>
    intro x0 x1 x2 x3 h
    unfold f_X10_laysLayers_L76
    refine Y.op (pc' := 77) (fun _ => X.iloadn rfl dX10_laysLayers_76) ?_
    refine Y.op (pc' := 78) (fun _ => X.aloadn rfl dX10_laysLayers_77) ?_
    refine Y.getR fd_X10_22 rfl dX10_laysLayers_78 (fun v1 => ?_)
    refine Y.op (pc' := 82) (fun _ => X.ic ki_0 dX10_laysLayers_81) ?_
    refine Y.aldR 102 (by decide) (by decide) dX10_laysLayers_82 (fun v2 => ?_)
    refine Y.op (pc' := 84) (fun _ => X.ic ki_0 dX10_laysLayers_83) ?_
    refine Y.aldI dX10_laysLayers_84 (fun v3 => ?_)
    refine Y.cmpge 185 (by decide) dX10_laysLayers_85 ?_ ?_
    · exact Y.fg (hkE185 x0 x1 x2 h) (And.intro rfl (And.intro rfl (And.intro rfl trivial)))
    · refine Y.op (pc' := 89) (fun _ => X.aloadn rfl dX10_laysLayers_88) ?_
      refine Y.getR fd_X10_45 rfl dX10_laysLayers_89 (fun v4 => ?_)
      refine Y.op (pc' := 93) (fun _ => X.iloadn rfl dX10_laysLayers_92) ?_
      refine Y.aldI dX10_laysLayers_93 (fun v5 => ?_)
      refine Y.op (pc' := 95) (fun _ => X.iloadn rfl dX10_laysLayers_94) ?_
      refine Y.cmpeq 101 (by decide) dX10_laysLayers_95 ?_ ?_
      · refine Y.op (pc' := 102) (fun _ => X.ic ki_0 dX10_laysLayers_101) ?_
        refine Y.op (pc' := 104) (loc' := [some (.ref x0), some (.int x1), some (.int x2), some (.int x3), some (.int (0 : Int32))]) (fun _ => X.istore (Nat.le_of_ble_eq_true rfl) rfl dX10_laysLayers_102) ?_
        exact y_X10_laysLayers_L104 (y_X10_laysLayers_J179 ih hkE185) 5000 x0 x1 x2 x3 (0 : Int32) h
      · refine Y.op (pc' := 179) (fun _ => X.goto 179 (by decide) dX10_laysLayers_98) ?_
        exact y_X10_laysLayers_J179 ih hkE185 x0 x1 x2 x3 h
def f_X10_laysLayers_L66 (kE189 : xH → Option (Int32 × xH)) (kE243 : xH → Option (Int32 × xH)) : Nat → Nat → Int32 → xH → Option (Int32 × xH)
  | 0 => fun _ _ _ => none
  | n + 1 => fun x0 x1 h =>
    if x1 > (24 : Int32) then
      kE243 h
    else
      f_X10_laysLayers_L76 (f_X10_laysLayers_J185 (f_X10_laysLayers_L66 kE189 kE243 n) kE189 kE243) 5000 x0 x1 (0 : Int32) (0 : Int32) h
theorem y_X10_laysLayers_L66 {g : xG} {h0 : xH} {cl : Bool} {kE189 : xH → Option (Int32 × xH)} {kE243 : xH → Option (Int32 × xH)} (hkE189 : ∀  (h : xH), Y g DX10_laysLayers h0 cl iI (kE189  h) 189 [none, none, none, none, none] [] h) (hkE243 : ∀  (h : xH), Y g DX10_laysLayers h0 cl iI (kE243  h) 243 [none, none, none, none, none] [] h) : ∀ (n : Nat) (x0 : Nat) (x1 : Int32) (h : xH), Y g DX10_laysLayers h0 cl iI (f_X10_laysLayers_L66 kE189 kE243 n x0 x1 h) 66 [some (.ref x0), some (.int x1), none, none, none] [] h := by
  intro n
  induction n with
  | zero => intro x0 x1 h; exact Y.nothing
  | succ n ih =>
    intro x0 x1 h
    unfold f_X10_laysLayers_L66
    refine Y.op (pc' := 67) (fun _ => X.iloadn rfl dX10_laysLayers_66) ?_
    refine Y.op (pc' := 69) (fun _ => X.bp kb_24 dX10_laysLayers_67) ?_
    refine Y.cmpgt 243 (by decide) dX10_laysLayers_69 ?_ ?_
    · exact Y.fg (hkE243 h) trivial
    · refine Y.op (pc' := 73) (fun _ => X.ic ki_0 dX10_laysLayers_72) ?_
      refine Y.op (pc' := 74) (loc' := [some (.ref x0), some (.int x1), some (.int (0 : Int32)), none, none]) (fun _ => X.istoren (Nat.le_of_ble_eq_true rfl) rfl dX10_laysLayers_73) ?_
      refine Y.op (pc' := 75) (fun _ => X.ic ki_0 dX10_laysLayers_74) ?_
      refine Y.op (pc' := 76) (loc' := [some (.ref x0), some (.int x1), some (.int (0 : Int32)), some (.int (0 : Int32)), none]) (fun _ => X.istoren (Nat.le_of_ble_eq_true rfl) rfl dX10_laysLayers_75) ?_
      exact y_X10_laysLayers_L76 (y_X10_laysLayers_J185 ih hkE189 hkE243) 5000 x0 x1 (0 : Int32) (0 : Int32) h
def f_X10_laysLayers_J64 (x0 : Nat) (h : xH) : Option (Int32 × xH) :=
  f_X10_laysLayers_L66 (f_X10_laysLayers_J189) (f_X10_laysLayers_J243) 5000 x0 (0 : Int32) h
theorem y_X10_laysLayers_J64 {g : xG} {h0 : xH} {cl : Bool} (x0 : Nat) (h : xH) : Y g DX10_laysLayers h0 cl iI (f_X10_laysLayers_J64 x0 h) 64 [some (.ref x0), none, none, none, none] [] h := by
  unfold f_X10_laysLayers_J64
  refine Y.op (pc' := 65) (fun _ => X.ic ki_0 dX10_laysLayers_64) ?_
  refine Y.op (pc' := 66) (loc' := [some (.ref x0), some (.int (0 : Int32)), none, none, none]) (fun _ => X.istoren (Nat.le_of_ble_eq_true rfl) rfl dX10_laysLayers_65) ?_
  exact y_X10_laysLayers_L66 (y_X10_laysLayers_J189) (y_X10_laysLayers_J243) 5000 x0 (0 : Int32) h
def f_X10_laysLayers_J58 (kH : Nat → Int32 → xH → Option (Int32 × xH)) (kE64 : Nat → xH → Option (Int32 × xH)) (x0 : Nat) (x1 : Int32) (h : xH) : Option (Int32 × xH) :=
  lt (x1 + (1 : Int32)) fun v1 =>
  kH x0 v1 h
theorem y_X10_laysLayers_J58 {g : xG} {h0 : xH} {cl : Bool} {kH : Nat → Int32 → xH → Option (Int32 × xH)} {kE64 : Nat → xH → Option (Int32 × xH)} (hkH : ∀ (x0 : Nat) (x1 : Int32) (h : xH), Y g DX10_laysLayers h0 cl iI (kH x0 x1 h) 30 [some (.ref x0), some (.int x1), none, none, none] [] h) (hkE64 : ∀ (x0 : Nat) (h : xH), Y g DX10_laysLayers h0 cl iI (kE64 x0 h) 64 [some (.ref x0), none, none, none, none] [] h) (x0 : Nat) (x1 : Int32) (h : xH) : Y g DX10_laysLayers h0 cl iI (f_X10_laysLayers_J58 kH kE64 x0 x1 h) 58 [some (.ref x0), some (.int x1), none, none, none] [] h := by
  unfold f_X10_laysLayers_J58
  refine Y.iinc (i := 1) (loc' := fun v1 => [some (.ref x0), some (.int v1), none, none, none]) rfl (Nat.le_of_ble_eq_true rfl) ki_1 (fun _ => rfl) dX10_laysLayers_58 (fun v1 => ?_)
  refine Y.op (pc' := 30) (fun _ => X.goto 30 (by decide) dX10_laysLayers_61) ?_
  exact hkH x0 v1 h
def f_X10_laysLayers_L30 (kE64 : Nat → xH → Option (Int32 × xH)) : Nat → Nat → Int32 → xH → Option (Int32 × xH)
  | 0 => fun _ _ _ => none
  | n + 1 => fun x0 x1 h =>
    (gR h 10 x0 9).bind fun v1 =>
    (aR 102 h v1 (0 : Int32)).bind fun v2 =>
    (aI h v2 (0 : Int32)).bind fun v3 =>
    if x1 ≥ v3 then
      kE64 x0 h
    else
      (vc h 10 x0 (f_X10_isFree x0 (0 : Int32) x1 h)).bind fun r4 =>
      if r4.1 = (0 : Int32) then
        f_X10_laysLayers_J58 (f_X10_laysLayers_L30 kE64 n) kE64 x0 x1 r4.2
      else
        (gR r4.2 10 x0 24).bind fun v5 =>
        (sI r4.2 v5 x1 (0 : Int32)).bind fun h6 =>
        f_X10_laysLayers_J58 (f_X10_laysLayers_L30 kE64 n) kE64 x0 x1 h6
theorem y_X10_laysLayers_L30 {g : xG} {h0 : xH} {cl : Bool} {kE64 : Nat → xH → Option (Int32 × xH)} (hkE64 : ∀ (x0 : Nat) (h : xH), Y g DX10_laysLayers h0 cl iI (kE64 x0 h) 64 [some (.ref x0), none, none, none, none] [] h) : ∀ (n : Nat) (x0 : Nat) (x1 : Int32) (h : xH), Y g DX10_laysLayers h0 cl iI (f_X10_laysLayers_L30 kE64 n x0 x1 h) 30 [some (.ref x0), some (.int x1), none, none, none] [] h := by
  intro n
  induction n with
  | zero => intro x0 x1 h; exact Y.nothing
  | succ n ih =>
    intro x0 x1 h
    unfold f_X10_laysLayers_L30
    refine Y.op (pc' := 31) (fun _ => X.iloadn rfl dX10_laysLayers_30) ?_
    refine Y.op (pc' := 32) (fun _ => X.aloadn rfl dX10_laysLayers_31) ?_
    refine Y.getR fd_X10_22 rfl dX10_laysLayers_32 (fun v1 => ?_)
    refine Y.op (pc' := 36) (fun _ => X.ic ki_0 dX10_laysLayers_35) ?_
    refine Y.aldR 102 (by decide) (by decide) dX10_laysLayers_36 (fun v2 => ?_)
    refine Y.op (pc' := 38) (fun _ => X.ic ki_0 dX10_laysLayers_37) ?_
    refine Y.aldI dX10_laysLayers_38 (fun v3 => ?_)
    refine Y.cmpge 64 (by decide) dX10_laysLayers_39 ?_ ?_
    · exact Y.fg (hkE64 x0 h) (And.intro rfl trivial)
    · refine Y.op (pc' := 43) (fun _ => X.aloadn rfl dX10_laysLayers_42) ?_
      refine Y.op (pc' := 44) (fun _ => X.ic ki_0 dX10_laysLayers_43) ?_
      refine Y.op (pc' := 45) (fun _ => X.iloadn rfl dX10_laysLayers_44) ?_
      refine Y.callVi (As := [.int (0 : Int32), .int x1]) lk_X10_255 rfl cal_X10_isFree vir_X10_isFree (Nat.le_of_ble_eq_true rfl) (Nat.le_of_ble_eq_true rfl) rfl rfl rfl (Nat.le_of_ble_eq_true rfl) dX10_laysLayers_45 (fun _ e => m_X10_isFree x0 (0 : Int32) x1 h _ _ e) (fun r4 => ?_)
      refine Y.ifeq 58 (by decide) dX10_laysLayers_48 ?_ ?_
      · exact y_X10_laysLayers_J58 ih hkE64 x0 x1 r4.2
      · refine Y.op (pc' := 52) (fun _ => X.aloadn rfl dX10_laysLayers_51) ?_
        refine Y.getR fd_X10_45 rfl dX10_laysLayers_52 (fun v5 => ?_)
        refine Y.op (pc' := 56) (fun _ => X.iloadn rfl dX10_laysLayers_55) ?_
        refine Y.op (pc' := 57) (fun _ => X.ic ki_0 dX10_laysLayers_56) ?_
        refine Y.astI dX10_laysLayers_57 (fun h6 => ?_)
        exact y_X10_laysLayers_J58 ih hkE64 x0 x1 h6
def f_X10_laysLayers_J28 (x0 : Nat) (h : xH) : Option (Int32 × xH) :=
  f_X10_laysLayers_L30 (f_X10_laysLayers_J64) 5000 x0 (0 : Int32) h
theorem y_X10_laysLayers_J28 {g : xG} {h0 : xH} {cl : Bool} (x0 : Nat) (h : xH) : Y g DX10_laysLayers h0 cl iI (f_X10_laysLayers_J28 x0 h) 28 [some (.ref x0), none, none, none, none] [] h := by
  unfold f_X10_laysLayers_J28
  refine Y.op (pc' := 29) (fun _ => X.ic ki_0 dX10_laysLayers_28) ?_
  refine Y.op (pc' := 30) (loc' := [some (.ref x0), some (.int (0 : Int32)), none, none, none]) (fun _ => X.istoren (Nat.le_of_ble_eq_true rfl) rfl dX10_laysLayers_29) ?_
  exact y_X10_laysLayers_L30 (y_X10_laysLayers_J64) 5000 x0 (0 : Int32) h
def f_X10_laysLayers_L2 (kE28 : Nat → xH → Option (Int32 × xH)) : Nat → Nat → Int32 → xH → Option (Int32 × xH)
  | 0 => fun _ _ _ => none
  | n + 1 => fun x0 x1 h =>
    if x1 ≥ (12 : Int32) then
      kE28 x0 h
    else
      (gR h 10 x0 24).bind fun v1 =>
      (sI h v1 x1 (-1 : Int32)).bind fun h2 =>
      (gR h2 10 x0 25).bind fun v3 =>
      (sI h2 v3 x1 (-1 : Int32)).bind fun h4 =>
      lt (x1 + (1 : Int32)) fun v5 =>
      f_X10_laysLayers_L2 kE28 n x0 v5 h4
theorem y_X10_laysLayers_L2 {g : xG} {h0 : xH} {cl : Bool} {kE28 : Nat → xH → Option (Int32 × xH)} (hkE28 : ∀ (x0 : Nat) (h : xH), Y g DX10_laysLayers h0 cl iI (kE28 x0 h) 28 [some (.ref x0), none, none, none, none] [] h) : ∀ (n : Nat) (x0 : Nat) (x1 : Int32) (h : xH), Y g DX10_laysLayers h0 cl iI (f_X10_laysLayers_L2 kE28 n x0 x1 h) 2 [some (.ref x0), some (.int x1), none, none, none] [] h := by
  intro n
  induction n with
  | zero => intro x0 x1 h; exact Y.nothing
  | succ n ih =>
    intro x0 x1 h
    unfold f_X10_laysLayers_L2
    refine Y.op (pc' := 3) (fun _ => X.iloadn rfl dX10_laysLayers_2) ?_
    refine Y.op (pc' := 5) (fun _ => X.bp kb_12 dX10_laysLayers_3) ?_
    refine Y.cmpge 28 (by decide) dX10_laysLayers_5 ?_ ?_
    · exact Y.fg (hkE28 x0 h) (And.intro rfl trivial)
    · refine Y.op (pc' := 9) (fun _ => X.aloadn rfl dX10_laysLayers_8) ?_
      refine Y.getR fd_X10_45 rfl dX10_laysLayers_9 (fun v1 => ?_)
      refine Y.op (pc' := 13) (fun _ => X.iloadn rfl dX10_laysLayers_12) ?_
      refine Y.op (pc' := 14) (fun _ => X.ic ki_m1 dX10_laysLayers_13) ?_
      refine Y.astI dX10_laysLayers_14 (fun h2 => ?_)
      refine Y.op (pc' := 16) (fun _ => X.aloadn rfl dX10_laysLayers_15) ?_
      refine Y.getR fd_X10_48 rfl dX10_laysLayers_16 (fun v3 => ?_)
      refine Y.op (pc' := 20) (fun _ => X.iloadn rfl dX10_laysLayers_19) ?_
      refine Y.op (pc' := 21) (fun _ => X.ic ki_m1 dX10_laysLayers_20) ?_
      refine Y.astI dX10_laysLayers_21 (fun h4 => ?_)
      refine Y.iinc (i := 1) (loc' := fun v5 => [some (.ref x0), some (.int v5), none, none, none]) rfl (Nat.le_of_ble_eq_true rfl) ki_1 (fun _ => rfl) dX10_laysLayers_22 (fun v5 => ?_)
      refine Y.op (pc' := 2) (fun _ => X.goto 2 (by decide) dX10_laysLayers_25) ?_
      exact ih x0 v5 h4
def f_X10_laysLayers (a0 : Nat) (h : xH) : Option (Int32 × xH) :=
  f_X10_laysLayers_L2 (f_X10_laysLayers_J28) 5000 a0 (0 : Int32) h
theorem y_X10_laysLayers {g : xG} {h0 : xH} {cl : Bool} (a0 : Nat) (h : xH) : Y g DX10_laysLayers h0 cl iI (f_X10_laysLayers a0 h) 0 [some (.ref a0), none, none, none, none] [] h := by
  unfold f_X10_laysLayers
  refine Y.op (pc' := 1) (fun _ => X.ic ki_0 dX10_laysLayers_0) ?_
  refine Y.op (pc' := 2) (loc' := [some (.ref a0), some (.int (0 : Int32)), none, none, none]) (fun _ => X.istoren (Nat.le_of_ble_eq_true rfl) rfl dX10_laysLayers_1) ?_
  exact y_X10_laysLayers_L2 (y_X10_laysLayers_J28) 5000 a0 (0 : Int32) h
theorem m_X10_laysLayers {g : xG} (a0 : Nat) (h : xH) (cl : Bool) (r : Int32 × xH) (e : f_X10_laysLayers a0 h = some r) : XM g DX10_laysLayers [.ref a0] h cl (iI r) := YM.of rfl rfl (Nat.le_of_ble_eq_true rfl) (y_X10_laysLayers a0 h) e
def f_X10_seeks_J164 (rec : Nat → Int32 → xH → Option (Int32 × xH)) (h : xH) : Option (Int32 × xH) :=
  some ((-1 : Int32), h)
theorem y_X10_seeks_J164 {g : xG} {l : Nat} {h0 : xH} {cl : Bool} {rec : Nat → Int32 → xH → Option (Int32 × xH)} (hrec : ∀ (a0 : Nat) (p1 : Int32) (h : xH) (cl : Bool) (r : Int32 × xH), rec a0 p1 h = some r → XM g (DX10_seeks (l + 2)) [.ref a0, .int p1] h cl (iI r)) (h : xH) : Y g (DX10_seeks (l + 2 + 1)) h0 cl iI (f_X10_seeks_J164 rec h) 164 [none, none, none, none, none] [] h := by
  unfold f_X10_seeks_J164
  refine Y.op (pc' := 165) (fun _ => X.ic ki_m1 dX10_seeks_164) ?_
  exact Y.ireturn rfl dX10_seeks_165
def f_X10_seeks_J144 (rec : Nat → Int32 → xH → Option (Int32 × xH)) (x0 : Nat) (x1 : Int32) (x2 : Int32) (x4 : Int32) (h : xH) : Option (Int32 × xH) :=
  (gR h 10 x0 11).bind fun v1 =>
  (aR 102 h v1 (0 : Int32)).bind fun v2 =>
  (sI h v2 x1 x2).bind fun h3 =>
  some ((x4 + (2 : Int32)), h3)
theorem y_X10_seeks_J144 {g : xG} {l : Nat} {h0 : xH} {cl : Bool} {rec : Nat → Int32 → xH → Option (Int32 × xH)} (hrec : ∀ (a0 : Nat) (p1 : Int32) (h : xH) (cl : Bool) (r : Int32 × xH), rec a0 p1 h = some r → XM g (DX10_seeks (l + 2)) [.ref a0, .int p1] h cl (iI r)) (x0 : Nat) (x1 : Int32) (x2 : Int32) (x4 : Int32) (h : xH) : Y g (DX10_seeks (l + 2 + 1)) h0 cl iI (f_X10_seeks_J144 rec x0 x1 x2 x4 h) 144 [some (.ref x0), some (.int x1), some (.int x2), none, some (.int x4)] [] h := by
  unfold f_X10_seeks_J144
  refine Y.op (pc' := 145) (fun _ => X.aloadn rfl dX10_seeks_144) ?_
  refine Y.getR fd_X10_28 rfl dX10_seeks_145 (fun v1 => ?_)
  refine Y.op (pc' := 149) (fun _ => X.ic ki_0 dX10_seeks_148) ?_
  refine Y.aldR 102 (by decide) (by decide) dX10_seeks_149 (fun v2 => ?_)
  refine Y.op (pc' := 151) (fun _ => X.iloadn rfl dX10_seeks_150) ?_
  refine Y.op (pc' := 152) (fun _ => X.iloadn rfl dX10_seeks_151) ?_
  refine Y.astI dX10_seeks_152 (fun h3 => ?_)
  refine Y.op (pc' := 155) (fun _ => X.iload rfl dX10_seeks_153) ?_
  refine Y.op (pc' := 156) (fun _ => X.ic ki_2 dX10_seeks_155) ?_
  refine Y.op (pc' := 157) (fun _ => X.iadd dX10_seeks_156) ?_
  exact Y.ireturn rfl dX10_seeks_157
def f_X10_seeks_J158 (rec : Nat → Int32 → xH → Option (Int32 × xH)) (kH : Nat → Int32 → Int32 → xH → Option (Int32 × xH)) (kE144 : Nat → Int32 → Int32 → Int32 → xH → Option (Int32 × xH)) (kE164 : xH → Option (Int32 × xH)) (x0 : Nat) (x1 : Int32) (x2 : Int32) (h : xH) : Option (Int32 × xH) :=
  lt (x2 + (1 : Int32)) fun v1 =>
  kH x0 x1 v1 h
theorem y_X10_seeks_J158 {g : xG} {l : Nat} {h0 : xH} {cl : Bool} {rec : Nat → Int32 → xH → Option (Int32 × xH)} {kH : Nat → Int32 → Int32 → xH → Option (Int32 × xH)} {kE144 : Nat → Int32 → Int32 → Int32 → xH → Option (Int32 × xH)} {kE164 : xH → Option (Int32 × xH)} (hrec : ∀ (a0 : Nat) (p1 : Int32) (h : xH) (cl : Bool) (r : Int32 × xH), rec a0 p1 h = some r → XM g (DX10_seeks (l + 2)) [.ref a0, .int p1] h cl (iI r)) (hkH : ∀ (x0 : Nat) (x1 : Int32) (x2 : Int32) (h : xH), Y g (DX10_seeks (l + 2 + 1)) h0 cl iI (kH x0 x1 x2 h) 14 [some (.ref x0), some (.int x1), some (.int x2), none, none] [] h) (hkE144 : ∀ (x0 : Nat) (x1 : Int32) (x2 : Int32) (x4 : Int32) (h : xH), Y g (DX10_seeks (l + 2 + 1)) h0 cl iI (kE144 x0 x1 x2 x4 h) 144 [some (.ref x0), some (.int x1), some (.int x2), none, some (.int x4)] [] h) (hkE164 : ∀  (h : xH), Y g (DX10_seeks (l + 2 + 1)) h0 cl iI (kE164  h) 164 [none, none, none, none, none] [] h) (x0 : Nat) (x1 : Int32) (x2 : Int32) (h : xH) : Y g (DX10_seeks (l + 2 + 1)) h0 cl iI (f_X10_seeks_J158 rec kH kE144 kE164 x0 x1 x2 h) 158 [some (.ref x0), some (.int x1), some (.int x2), none, none] [] h := by
  unfold f_X10_seeks_J158
  refine Y.iinc (i := 2) (loc' := fun v1 => [some (.ref x0), some (.int x1), some (.int v1), none, none]) rfl (Nat.le_of_ble_eq_true rfl) ki_1 (fun _ => rfl) dX10_seeks_158 (fun v1 => ?_)
  refine Y.op (pc' := 14) (fun _ => X.goto 14 (by decide) dX10_seeks_161) ?_
  exact hkH x0 x1 v1 h
def f_X10_seeks_J135 (rec : Nat → Int32 → xH → Option (Int32 × xH)) (kH : Nat → Int32 → Int32 → xH → Option (Int32 × xH)) (kE144 : Nat → Int32 → Int32 → Int32 → xH → Option (Int32 × xH)) (kE164 : xH → Option (Int32 × xH)) (x0 : Nat) (x1 : Int32) (x2 : Int32) (x4 : Int32) (h : xH) : Option (Int32 × xH) :=
  if x4 = (-1 : Int32) then
    f_X10_seeks_J158 rec (kH) kE144 kE164 x0 x1 x2 h
  else
    kE144 x0 x1 x2 x4 h
theorem y_X10_seeks_J135 {g : xG} {l : Nat} {h0 : xH} {cl : Bool} {rec : Nat → Int32 → xH → Option (Int32 × xH)} {kH : Nat → Int32 → Int32 → xH → Option (Int32 × xH)} {kE144 : Nat → Int32 → Int32 → Int32 → xH → Option (Int32 × xH)} {kE164 : xH → Option (Int32 × xH)} (hrec : ∀ (a0 : Nat) (p1 : Int32) (h : xH) (cl : Bool) (r : Int32 × xH), rec a0 p1 h = some r → XM g (DX10_seeks (l + 2)) [.ref a0, .int p1] h cl (iI r)) (hkH : ∀ (x0 : Nat) (x1 : Int32) (x2 : Int32) (h : xH), Y g (DX10_seeks (l + 2 + 1)) h0 cl iI (kH x0 x1 x2 h) 14 [some (.ref x0), some (.int x1), some (.int x2), none, none] [] h) (hkE144 : ∀ (x0 : Nat) (x1 : Int32) (x2 : Int32) (x4 : Int32) (h : xH), Y g (DX10_seeks (l + 2 + 1)) h0 cl iI (kE144 x0 x1 x2 x4 h) 144 [some (.ref x0), some (.int x1), some (.int x2), none, some (.int x4)] [] h) (hkE164 : ∀  (h : xH), Y g (DX10_seeks (l + 2 + 1)) h0 cl iI (kE164  h) 164 [none, none, none, none, none] [] h) (x0 : Nat) (x1 : Int32) (x2 : Int32) (x4 : Int32) (h : xH) : Y g (DX10_seeks (l + 2 + 1)) h0 cl iI (f_X10_seeks_J135 rec kH kE144 kE164 x0 x1 x2 x4 h) 135 [some (.ref x0), some (.int x1), some (.int x2), none, some (.int x4)] [] h := by
  unfold f_X10_seeks_J135
  refine Y.op (pc' := 137) (fun _ => X.iload rfl dX10_seeks_135) ?_
  refine Y.op (pc' := 138) (fun _ => X.ic ki_m1 dX10_seeks_137) ?_
  refine Y.cmpne 144 (by decide) dX10_seeks_138 ?_ ?_
  · exact hkE144 x0 x1 x2 x4 h
  · refine Y.op (pc' := 158) (fun _ => X.goto 158 (by decide) dX10_seeks_141) ?_
    exact Y.fg (y_X10_seeks_J158 hrec hkH hkE144 hkE164 x0 x1 x2 h) (And.intro rfl (And.intro rfl (And.intro rfl trivial)))
def f_X10_seeks_J133 (rec : Nat → Int32 → xH → Option (Int32 × xH)) (kH : Nat → Int32 → Int32 → xH → Option (Int32 × xH)) (kE144 : Nat → Int32 → Int32 → Int32 → xH → Option (Int32 × xH)) (kE164 : xH → Option (Int32 × xH)) (x0 : Nat) (x1 : Int32) (x2 : Int32) (s0 : Int32) (h : xH) : Option (Int32 × xH) :=
  f_X10_seeks_J135 rec (kH) kE144 kE164 x0 x1 x2 s0 h
theorem y_X10_seeks_J133 {g : xG} {l : Nat} {h0 : xH} {cl : Bool} {rec : Nat → Int32 → xH → Option (Int32 × xH)} {kH : Nat → Int32 → Int32 → xH → Option (Int32 × xH)} {kE144 : Nat → Int32 → Int32 → Int32 → xH → Option (Int32 × xH)} {kE164 : xH → Option (Int32 × xH)} (hrec : ∀ (a0 : Nat) (p1 : Int32) (h : xH) (cl : Bool) (r : Int32 × xH), rec a0 p1 h = some r → XM g (DX10_seeks (l + 2)) [.ref a0, .int p1] h cl (iI r)) (hkH : ∀ (x0 : Nat) (x1 : Int32) (x2 : Int32) (h : xH), Y g (DX10_seeks (l + 2 + 1)) h0 cl iI (kH x0 x1 x2 h) 14 [some (.ref x0), some (.int x1), some (.int x2), none, none] [] h) (hkE144 : ∀ (x0 : Nat) (x1 : Int32) (x2 : Int32) (x4 : Int32) (h : xH), Y g (DX10_seeks (l + 2 + 1)) h0 cl iI (kE144 x0 x1 x2 x4 h) 144 [some (.ref x0), some (.int x1), some (.int x2), none, some (.int x4)] [] h) (hkE164 : ∀  (h : xH), Y g (DX10_seeks (l + 2 + 1)) h0 cl iI (kE164  h) 164 [none, none, none, none, none] [] h) (x0 : Nat) (x1 : Int32) (x2 : Int32) (s0 : Int32) (h : xH) : Y g (DX10_seeks (l + 2 + 1)) h0 cl iI (f_X10_seeks_J133 rec kH kE144 kE164 x0 x1 x2 s0 h) 133 [some (.ref x0), some (.int x1), some (.int x2), none, none] [.int s0] h := by
  unfold f_X10_seeks_J133
  refine Y.op (pc' := 135) (loc' := [some (.ref x0), some (.int x1), some (.int x2), none, some (.int s0)]) (fun _ => X.istore (Nat.le_of_ble_eq_true rfl) rfl dX10_seeks_133) ?_
  exact y_X10_seeks_J135 hrec hkH hkE144 hkE164 x0 x1 x2 s0 h
def f_X10_seeks_J132 (rec : Nat → Int32 → xH → Option (Int32 × xH)) (kH : Nat → Int32 → Int32 → xH → Option (Int32 × xH)) (kE144 : Nat → Int32 → Int32 → Int32 → xH → Option (Int32 × xH)) (kE164 : xH → Option (Int32 × xH)) (x0 : Nat) (x1 : Int32) (x2 : Int32) (h : xH) : Option (Int32 × xH) :=
  f_X10_seeks_J133 rec (kH) kE144 kE164 x0 x1 x2 (-1 : Int32) h
theorem y_X10_seeks_J132 {g : xG} {l : Nat} {h0 : xH} {cl : Bool} {rec : Nat → Int32 → xH → Option (Int32 × xH)} {kH : Nat → Int32 → Int32 → xH → Option (Int32 × xH)} {kE144 : Nat → Int32 → Int32 → Int32 → xH → Option (Int32 × xH)} {kE164 : xH → Option (Int32 × xH)} (hrec : ∀ (a0 : Nat) (p1 : Int32) (h : xH) (cl : Bool) (r : Int32 × xH), rec a0 p1 h = some r → XM g (DX10_seeks (l + 2)) [.ref a0, .int p1] h cl (iI r)) (hkH : ∀ (x0 : Nat) (x1 : Int32) (x2 : Int32) (h : xH), Y g (DX10_seeks (l + 2 + 1)) h0 cl iI (kH x0 x1 x2 h) 14 [some (.ref x0), some (.int x1), some (.int x2), none, none] [] h) (hkE144 : ∀ (x0 : Nat) (x1 : Int32) (x2 : Int32) (x4 : Int32) (h : xH), Y g (DX10_seeks (l + 2 + 1)) h0 cl iI (kE144 x0 x1 x2 x4 h) 144 [some (.ref x0), some (.int x1), some (.int x2), none, some (.int x4)] [] h) (hkE164 : ∀  (h : xH), Y g (DX10_seeks (l + 2 + 1)) h0 cl iI (kE164  h) 164 [none, none, none, none, none] [] h) (x0 : Nat) (x1 : Int32) (x2 : Int32) (h : xH) : Y g (DX10_seeks (l + 2 + 1)) h0 cl iI (f_X10_seeks_J132 rec kH kE144 kE164 x0 x1 x2 h) 132 [some (.ref x0), some (.int x1), some (.int x2), none, none] [] h := by
  unfold f_X10_seeks_J132
  refine Y.op (pc' := 133) (fun _ => X.ic ki_m1 dX10_seeks_132) ?_
  exact y_X10_seeks_J133 hrec hkH hkE144 hkE164 x0 x1 x2 (-1 : Int32) h
def f_X10_seeks_L14 (rec : Nat → Int32 → xH → Option (Int32 × xH)) (kE144 : Nat → Int32 → Int32 → Int32 → xH → Option (Int32 × xH)) (kE164 : xH → Option (Int32 × xH)) : Nat → Nat → Int32 → Int32 → xH → Option (Int32 × xH)
  | 0 => fun _ _ _ _ => none
  | n + 1 => fun x0 x1 x2 h =>
    (gR h 10 x0 9).bind fun v1 =>
    (aR 102 h v1 (0 : Int32)).bind fun v2 =>
    (aI h v2 (1 : Int32)).bind fun v3 =>
    if x2 ≥ v3 then
      kE164 h
    else
      (vc h 10 x0 (f_X10_openTo x0 x1 h)).bind fun r4 =>
      (f_X10_has r4.1 x2 r4.2).bind fun r5 =>
      if r5.1 = (0 : Int32) then
        f_X10_seeks_J158 rec (f_X10_seeks_L14 rec kE144 kE164 n) kE144 kE164 x0 x1 x2 r5.2
      else
        (gI r5.2 10 x0 27).bind fun v6 =>
        (f_X10_has v6 x2 r5.2).bind fun r7 =>
        if r7.1 = (0 : Int32) then
          (gR r7.2 10 x0 25).bind fun v8 =>
          (aI r7.2 v8 x2).bind fun v9 =>
          (gR r7.2 10 x0 24).bind fun v10 =>
          (aI r7.2 v10 x1).bind fun v11 =>
          if v9 = (v11 + (1 : Int32)) then
            (gI r7.2 10 x0 27).bind fun v12 =>
            (pI r7.2 10 x0 27 (v12 ||| ((1 : Int32) <<< (x2 &&& 31)))).bind fun h13 =>
            (vc h13 10 x0 (f_X10_partnerOf x0 (1 : Int32) x2 h13)).bind fun r14 =>
            if r14.1 = (-1 : Int32) then
              f_X10_seeks_J135 rec (f_X10_seeks_L14 rec kE144 kE164 n) kE144 kE164 x0 x1 x2 (0 : Int32) r14.2
            else
              (gR r14.2 10 x0 24).bind fun v15 =>
              (aI r14.2 v15 r14.1).bind fun v16 =>
              (gR r14.2 10 x0 24).bind fun v17 =>
              (aI r14.2 v17 x1).bind fun v18 =>
              if v16 = (v18 + (2 : Int32)) then
                (gI r14.2 10 x0 26).bind fun v19 =>
                (f_X10_has v19 r14.1 r14.2).bind fun r20 =>
                if r20.1 = (0 : Int32) then
                  (vc r20.2 10 x0 (rec x0 r14.1 r20.2)).bind fun r21 =>
                  f_X10_seeks_J133 rec (f_X10_seeks_L14 rec kE144 kE164 n) kE144 kE164 x0 x1 x2 r21.1 r21.2
                else
                  f_X10_seeks_J132 rec (f_X10_seeks_L14 rec kE144 kE164 n) kE144 kE164 x0 x1 x2 r20.2
              else
                f_X10_seeks_J132 rec (f_X10_seeks_L14 rec kE144 kE164 n) kE144 kE164 x0 x1 x2 r14.2
          else
            f_X10_seeks_J158 rec (f_X10_seeks_L14 rec kE144 kE164 n) kE144 kE164 x0 x1 x2 r7.2
        else
          f_X10_seeks_J158 rec (f_X10_seeks_L14 rec kE144 kE164 n) kE144 kE164 x0 x1 x2 r7.2
theorem y_X10_seeks_L14 {g : xG} {l : Nat} {h0 : xH} {cl : Bool} {rec : Nat → Int32 → xH → Option (Int32 × xH)} {kE144 : Nat → Int32 → Int32 → Int32 → xH → Option (Int32 × xH)} {kE164 : xH → Option (Int32 × xH)} (hrec : ∀ (a0 : Nat) (p1 : Int32) (h : xH) (cl : Bool) (r : Int32 × xH), rec a0 p1 h = some r → XM g (DX10_seeks (l + 2)) [.ref a0, .int p1] h cl (iI r)) (hkE144 : ∀ (x0 : Nat) (x1 : Int32) (x2 : Int32) (x4 : Int32) (h : xH), Y g (DX10_seeks (l + 2 + 1)) h0 cl iI (kE144 x0 x1 x2 x4 h) 144 [some (.ref x0), some (.int x1), some (.int x2), none, some (.int x4)] [] h) (hkE164 : ∀  (h : xH), Y g (DX10_seeks (l + 2 + 1)) h0 cl iI (kE164  h) 164 [none, none, none, none, none] [] h) : ∀ (n : Nat) (x0 : Nat) (x1 : Int32) (x2 : Int32) (h : xH), Y g (DX10_seeks (l + 2 + 1)) h0 cl iI (f_X10_seeks_L14 rec kE144 kE164 n x0 x1 x2 h) 14 [some (.ref x0), some (.int x1), some (.int x2), none, none] [] h := by
  intro n
  induction n with
  | zero => intro x0 x1 x2 h; exact Y.nothing
  | succ n ih =>
    intro x0 x1 x2 h
    unfold f_X10_seeks_L14
    refine Y.op (pc' := 15) (fun _ => X.iloadn rfl dX10_seeks_14) ?_
    refine Y.op (pc' := 16) (fun _ => X.aloadn rfl dX10_seeks_15) ?_
    refine Y.getR fd_X10_22 rfl dX10_seeks_16 (fun v1 => ?_)
    refine Y.op (pc' := 20) (fun _ => X.ic ki_0 dX10_seeks_19) ?_
    refine Y.aldR 102 (by decide) (by decide) dX10_seeks_20 (fun v2 => ?_)
    refine Y.op (pc' := 22) (fun _ => X.ic ki_1 dX10_seeks_21) ?_
    refine Y.aldI dX10_seeks_22 (fun v3 => ?_)
    refine Y.cmpge 164 (by decide) dX10_seeks_23 ?_ ?_
    · exact Y.fg (hkE164 h) trivial
    · refine Y.op (pc' := 27) (fun _ => X.aloadn rfl dX10_seeks_26) ?_
      refine Y.op (pc' := 28) (fun _ => X.iloadn rfl dX10_seeks_27) ?_
      refine Y.callVi (As := [.int x1]) lk_X10_246 rfl cal_X10_openTo vir_X10_openTo (by show 1 + 1 ≤ l + 2 + 1; omega) (Nat.le_of_ble_eq_true rfl) rfl rfl rfl (Nat.le_of_ble_eq_true rfl) dX10_seeks_28 (fun _ e => m_X10_openTo x0 x1 h _ _ e) (fun r4 => ?_)
      refine Y.op (pc' := 32) (fun _ => X.iloadn rfl dX10_seeks_31) ?_
      refine Y.callSi (As := [.int r4.1, .int x2]) lk_X10_182 rfl cal_X10_has sta_X10_has (by show 1 + 1 ≤ l + 2 + 1; omega) rfl rfl (Nat.le_of_ble_eq_true rfl) dX10_seeks_32 (fun _ e => m_X10_has r4.1 x2 r4.2 _ _ e) (fun r5 => ?_)
      refine Y.ifeq 158 (by decide) dX10_seeks_35 ?_ ?_
      · exact y_X10_seeks_J158 hrec ih hkE144 hkE164 x0 x1 x2 r5.2
      · refine Y.op (pc' := 39) (fun _ => X.aloadn rfl dX10_seeks_38) ?_
        refine Y.getI fd_X10_294 rfl dX10_seeks_39 (fun v6 => ?_)
        refine Y.op (pc' := 43) (fun _ => X.iloadn rfl dX10_seeks_42) ?_
        refine Y.callSi (As := [.int v6, .int x2]) lk_X10_182 rfl cal_X10_has sta_X10_has (by show 1 + 1 ≤ l + 2 + 1; omega) rfl rfl (Nat.le_of_ble_eq_true rfl) dX10_seeks_43 (fun _ e => m_X10_has v6 x2 r5.2 _ _ e) (fun r7 => ?_)
        refine Y.ifne 158 (by decide) dX10_seeks_46 ?_ ?_
        · exact y_X10_seeks_J158 hrec ih hkE144 hkE164 x0 x1 x2 r7.2
        · refine Y.op (pc' := 50) (fun _ => X.aloadn rfl dX10_seeks_49) ?_
          refine Y.getR fd_X10_48 rfl dX10_seeks_50 (fun v8 => ?_)
          refine Y.op (pc' := 54) (fun _ => X.iloadn rfl dX10_seeks_53) ?_
          refine Y.aldI dX10_seeks_54 (fun v9 => ?_)
          refine Y.op (pc' := 56) (fun _ => X.aloadn rfl dX10_seeks_55) ?_
          refine Y.getR fd_X10_45 rfl dX10_seeks_56 (fun v10 => ?_)
          refine Y.op (pc' := 60) (fun _ => X.iloadn rfl dX10_seeks_59) ?_
          refine Y.aldI dX10_seeks_60 (fun v11 => ?_)
          refine Y.op (pc' := 62) (fun _ => X.ic ki_1 dX10_seeks_61) ?_
          refine Y.op (pc' := 63) (fun _ => X.iadd dX10_seeks_62) ?_
          refine Y.cmpeq 69 (by decide) dX10_seeks_63 ?_ ?_
          · refine Y.op (pc' := 70) (fun _ => X.aloadn rfl dX10_seeks_69) ?_
            refine Y.op (pc' := 71) (fun _ => X.dup rfl dX10_seeks_70) ?_
            refine Y.getI fd_X10_294 rfl dX10_seeks_71 (fun v12 => ?_)
            refine Y.op (pc' := 75) (fun _ => X.ic ki_1 dX10_seeks_74) ?_
            refine Y.op (pc' := 76) (fun _ => X.iloadn rfl dX10_seeks_75) ?_
            refine Y.op (pc' := 77) (fun _ => X.ishl dX10_seeks_76) ?_
            refine Y.op (pc' := 78) (fun _ => X.ior dX10_seeks_77) ?_
            refine Y.putI fd_X10_294 rfl dX10_seeks_78 (fun h13 => ?_)
            refine Y.op (pc' := 82) (fun _ => X.aloadn rfl dX10_seeks_81) ?_
            refine Y.op (pc' := 83) (fun _ => X.ic ki_1 dX10_seeks_82) ?_
            refine Y.op (pc' := 84) (fun _ => X.iloadn rfl dX10_seeks_83) ?_
            refine Y.callVi (As := [.int (1 : Int32), .int x2]) lk_X10_243 rfl cal_X10_partnerOf vir_X10_partnerOf (by show 2 + 1 ≤ l + 2 + 1; omega) (Nat.le_of_ble_eq_true rfl) rfl rfl rfl (Nat.le_of_ble_eq_true rfl) dX10_seeks_84 (fun _ e => m_X10_partnerOf x0 (1 : Int32) x2 h13 _ _ e) (fun r14 => ?_)
            refine Y.op (pc' := 88) (loc' := [some (.ref x0), some (.int x1), some (.int x2), some (.int r14.1), none]) (fun _ => X.istoren (Nat.le_of_ble_eq_true rfl) rfl dX10_seeks_87) ?_
            refine Y.op (pc' := 89) (fun _ => X.ic ki_0 dX10_seeks_88) ?_
            refine Y.op (pc' := 91) (loc' := [some (.ref x0), some (.int x1), some (.int x2), some (.int r14.1), some (.int (0 : Int32))]) (fun _ => X.istore (Nat.le_of_ble_eq_true rfl) rfl dX10_seeks_89) ?_
            refine Y.op (pc' := 92) (fun _ => X.iloadn rfl dX10_seeks_91) ?_
            refine Y.op (pc' := 93) (fun _ => X.ic ki_m1 dX10_seeks_92) ?_
            refine Y.cmpeq 135 (by decide) dX10_seeks_93 ?_ ?_
            · exact Y.fg (y_X10_seeks_J135 hrec ih hkE144 hkE164 x0 x1 x2 (0 : Int32) r14.2) (And.intro rfl (And.intro rfl (And.intro rfl (And.intro rfl trivial))))
            · refine Y.op (pc' := 97) (fun _ => X.aloadn rfl dX10_seeks_96) ?_
              refine Y.getR fd_X10_45 rfl dX10_seeks_97 (fun v15 => ?_)
              refine Y.op (pc' := 101) (fun _ => X.iloadn rfl dX10_seeks_100) ?_
              refine Y.aldI dX10_seeks_101 (fun v16 => ?_)
              refine Y.op (pc' := 103) (fun _ => X.aloadn rfl dX10_seeks_102) ?_
              refine Y.getR fd_X10_45 rfl dX10_seeks_103 (fun v17 => ?_)
              refine Y.op (pc' := 107) (fun _ => X.iloadn rfl dX10_seeks_106) ?_
              refine Y.aldI dX10_seeks_107 (fun v18 => ?_)
              refine Y.op (pc' := 109) (fun _ => X.ic ki_2 dX10_seeks_108) ?_
              refine Y.op (pc' := 110) (fun _ => X.iadd dX10_seeks_109) ?_
              refine Y.cmpne 132 (by decide) dX10_seeks_110 ?_ ?_
              · exact Y.fg (y_X10_seeks_J132 hrec ih hkE144 hkE164 x0 x1 x2 r14.2) (And.intro rfl (And.intro rfl (And.intro rfl trivial)))
              · refine Y.op (pc' := 114) (fun _ => X.aloadn rfl dX10_seeks_113) ?_
                refine Y.getI fd_X10_291 rfl dX10_seeks_114 (fun v19 => ?_)
                refine Y.op (pc' := 118) (fun _ => X.iloadn rfl dX10_seeks_117) ?_
                refine Y.callSi (As := [.int v19, .int r14.1]) lk_X10_182 rfl cal_X10_has sta_X10_has (by show 1 + 1 ≤ l + 2 + 1; omega) rfl rfl (Nat.le_of_ble_eq_true rfl) dX10_seeks_118 (fun _ e => m_X10_has v19 r14.1 r14.2 _ _ e) (fun r20 => ?_)
                refine Y.ifne 132 (by decide) dX10_seeks_121 ?_ ?_
                · exact Y.fg (y_X10_seeks_J132 hrec ih hkE144 hkE164 x0 x1 x2 r20.2) (And.intro rfl (And.intro rfl (And.intro rfl trivial)))
                · refine Y.op (pc' := 125) (fun _ => X.aloadn rfl dX10_seeks_124) ?_
                  refine Y.op (pc' := 126) (fun _ => X.iloadn rfl dX10_seeks_125) ?_
                  refine Y.callVi (As := [.int r14.1]) lk_X10_297 rfl (cal_X10_seeks _) (vir_X10_seeks _) (Nat.le_refl _) (Nat.le_of_ble_eq_true rfl) rfl rfl rfl (Nat.le_of_ble_eq_true rfl) dX10_seeks_126 (fun _ e => hrec x0 r14.1 r20.2 _ _ e) (fun r21 => ?_)
                  refine Y.op (pc' := 133) (fun _ => X.goto 133 (by decide) dX10_seeks_129) ?_
                  exact Y.fg (y_X10_seeks_J133 hrec ih hkE144 hkE164 x0 x1 x2 r21.1 r21.2) (And.intro rfl (And.intro rfl (And.intro rfl trivial)))
          · refine Y.op (pc' := 158) (fun _ => X.goto 158 (by decide) dX10_seeks_66) ?_
            exact y_X10_seeks_J158 hrec ih hkE144 hkE164 x0 x1 x2 r7.2
def f_X10_seeks_B (rec : Nat → Int32 → xH → Option (Int32 × xH)) (a0 : Nat) (p1 : Int32) (h : xH) : Option (Int32 × xH) :=
  (gI h 10 a0 26).bind fun v1 =>
  (pI h 10 a0 26 (v1 ||| ((1 : Int32) <<< (p1 &&& 31)))).bind fun h2 =>
  f_X10_seeks_L14 rec (f_X10_seeks_J144 rec) (f_X10_seeks_J164 rec) 5000 a0 p1 (0 : Int32) h2
def f_X10_seeks : Nat → Nat → Int32 → xH → Option (Int32 × xH)
  | 0 => fun _ _ _ => none
  | d + 1 => f_X10_seeks_B (f_X10_seeks d)
theorem y_X10_seeks {g : xG} {l : Nat} {h0 : xH} {cl : Bool} {rec : Nat → Int32 → xH → Option (Int32 × xH)} (hrec : ∀ (a0 : Nat) (p1 : Int32) (h : xH) (cl : Bool) (r : Int32 × xH), rec a0 p1 h = some r → XM g (DX10_seeks (l + 2)) [.ref a0, .int p1] h cl (iI r)) (a0 : Nat) (p1 : Int32) (h : xH) : Y g (DX10_seeks (l + 2 + 1)) h0 cl iI (f_X10_seeks_B rec a0 p1 h) 0 [some (.ref a0), some (.int p1), none, none, none] [] h := by
  unfold f_X10_seeks_B
  refine Y.op (pc' := 1) (fun _ => X.aloadn rfl dX10_seeks_0) ?_
  refine Y.op (pc' := 2) (fun _ => X.dup rfl dX10_seeks_1) ?_
  refine Y.getI fd_X10_291 rfl dX10_seeks_2 (fun v1 => ?_)
  refine Y.op (pc' := 6) (fun _ => X.ic ki_1 dX10_seeks_5) ?_
  refine Y.op (pc' := 7) (fun _ => X.iloadn rfl dX10_seeks_6) ?_
  refine Y.op (pc' := 8) (fun _ => X.ishl dX10_seeks_7) ?_
  refine Y.op (pc' := 9) (fun _ => X.ior dX10_seeks_8) ?_
  refine Y.putI fd_X10_291 rfl dX10_seeks_9 (fun h2 => ?_)
  refine Y.op (pc' := 13) (fun _ => X.ic ki_0 dX10_seeks_12) ?_
  refine Y.op (pc' := 14) (loc' := [some (.ref a0), some (.int p1), some (.int (0 : Int32)), none, none]) (fun _ => X.istoren (Nat.le_of_ble_eq_true rfl) rfl dX10_seeks_13) ?_
  exact y_X10_seeks_L14 hrec (y_X10_seeks_J144 hrec) (y_X10_seeks_J164 hrec) 5000 a0 p1 (0 : Int32) h2
theorem m_X10_seeks {g : xG} : ∀ (d : Nat) (a0 : Nat) (p1 : Int32) (h : xH) (cl : Bool) (r : Int32 × xH), f_X10_seeks d a0 p1 h = some r → XM g (DX10_seeks (d + 2)) [.ref a0, .int p1] h cl (iI r) := by
  intro d
  induction d with
  | zero => intro a0 p1 h cl r e; cases e
  | succ d ih =>
    intro a0 p1 h cl r e
    have e : f_X10_seeks_B (f_X10_seeks d) a0 p1 h = some r := e
    rw [show d + 1 + 2 = d + 2 + 1 by omega]
    exact YM.of rfl rfl (Nat.le_of_ble_eq_true rfl) (y_X10_seeks (l := d) ih a0 p1 h) e
def f_X10_onePhase_J114 (h : xH) : Option (xH) :=
  some h
theorem y_X10_onePhase_J114 {g : xG} {h0 : xH} {cl : Bool} (h : xH) : Y g DX10_onePhase h0 cl iV (f_X10_onePhase_J114 h) 114 [none, none, none] [] h := by
  unfold f_X10_onePhase_J114
  exact Y.vreturn rfl dX10_onePhase_114
def f_X10_onePhase_J108 (kH : Nat → Int32 → xH → Option (xH)) (kE114 : xH → Option (xH)) (x0 : Nat) (x1 : Int32) (h : xH) : Option (xH) :=
  lt (x1 + (1 : Int32)) fun v1 =>
  kH x0 v1 h
theorem y_X10_onePhase_J108 {g : xG} {h0 : xH} {cl : Bool} {kH : Nat → Int32 → xH → Option (xH)} {kE114 : xH → Option (xH)} (hkH : ∀ (x0 : Nat) (x1 : Int32) (h : xH), Y g DX10_onePhase h0 cl iV (kH x0 x1 h) 22 [some (.ref x0), some (.int x1), none] [] h) (hkE114 : ∀  (h : xH), Y g DX10_onePhase h0 cl iV (kE114  h) 114 [none, none, none] [] h) (x0 : Nat) (x1 : Int32) (h : xH) : Y g DX10_onePhase h0 cl iV (f_X10_onePhase_J108 kH kE114 x0 x1 h) 108 [some (.ref x0), some (.int x1), none] [] h := by
  unfold f_X10_onePhase_J108
  refine Y.iinc (i := 1) (loc' := fun v1 => [some (.ref x0), some (.int v1), none]) rfl (Nat.le_of_ble_eq_true rfl) ki_1 (fun _ => rfl) dX10_onePhase_108 (fun v1 => ?_)
  refine Y.op (pc' := 22) (fun _ => X.goto 22 (by decide) dX10_onePhase_111) ?_
  exact hkH x0 v1 h
def f_X10_onePhase_J99 (kH : Nat → Int32 → xH → Option (xH)) (kE114 : xH → Option (xH)) (x0 : Nat) (x1 : Int32) (x2 : Int32) (s0 : Nat) (s1 : Int32) (s2 : Int32) (h : xH) : Option (xH) :=
  (pI h 10 s0 22 (s1 + s2)).bind fun h1 =>
  (pI h1 10 x0 23 x2).bind fun h2 =>
  f_X10_onePhase_J108 (kH) kE114 x0 x1 h2
theorem y_X10_onePhase_J99 {g : xG} {h0 : xH} {cl : Bool} {kH : Nat → Int32 → xH → Option (xH)} {kE114 : xH → Option (xH)} (hkH : ∀ (x0 : Nat) (x1 : Int32) (h : xH), Y g DX10_onePhase h0 cl iV (kH x0 x1 h) 22 [some (.ref x0), some (.int x1), none] [] h) (hkE114 : ∀  (h : xH), Y g DX10_onePhase h0 cl iV (kE114  h) 114 [none, none, none] [] h) (x0 : Nat) (x1 : Int32) (x2 : Int32) (s0 : Nat) (s1 : Int32) (s2 : Int32) (h : xH) : Y g DX10_onePhase h0 cl iV (f_X10_onePhase_J99 kH kE114 x0 x1 x2 s0 s1 s2 h) 99 [some (.ref x0), some (.int x1), some (.int x2)] [.int s2, .int s1, .ref s0] h := by
  unfold f_X10_onePhase_J99
  refine Y.op (pc' := 100) (fun _ => X.iadd dX10_onePhase_99) ?_
  refine Y.putI fd_X10_306 rfl dX10_onePhase_100 (fun h1 => ?_)
  refine Y.op (pc' := 104) (fun _ => X.aloadn rfl dX10_onePhase_103) ?_
  refine Y.op (pc' := 105) (fun _ => X.iloadn rfl dX10_onePhase_104) ?_
  refine Y.putI fd_X10_309 rfl dX10_onePhase_105 (fun h2 => ?_)
  exact Y.fg (y_X10_onePhase_J108 hkH hkE114 x0 x1 h2) (And.intro rfl (And.intro rfl trivial))
def f_X10_onePhase_L22 (kE114 : xH → Option (xH)) : Nat → Nat → Int32 → xH → Option (xH)
  | 0 => fun _ _ _ => none
  | n + 1 => fun x0 x1 h =>
    (gR h 10 x0 9).bind fun v1 =>
    (aR 102 h v1 (0 : Int32)).bind fun v2 =>
    (aI h v2 (0 : Int32)).bind fun v3 =>
    if x1 ≥ v3 then
      kE114 h
    else
      (vc h 10 x0 (f_X10_isFree x0 (0 : Int32) x1 h)).bind fun r4 =>
      if r4.1 = (0 : Int32) then
        f_X10_onePhase_J108 (f_X10_onePhase_L22 kE114 n) kE114 x0 x1 r4.2
      else
        (gI r4.2 10 x0 26).bind fun v5 =>
        (f_X10_has v5 x1 r4.2).bind fun r6 =>
        if r6.1 = (0 : Int32) then
          (vc r6.2 10 x0 (f_X10_seeks 40 x0 x1 r6.2)).bind fun r7 =>
          if r7.1 = (-1 : Int32) then
            f_X10_onePhase_J108 (f_X10_onePhase_L22 kE114 n) kE114 x0 x1 r7.2
          else
            (gI r7.2 10 x0 21).bind fun v8 =>
            (pI r7.2 10 x0 21 (v8 + (1 : Int32))).bind fun h9 =>
            (gI h9 10 x0 22).bind fun v10 =>
            (gI h9 10 x0 20).bind fun v11 =>
            if v11 = (1 : Int32) then
              f_X10_onePhase_J99 (f_X10_onePhase_L22 kE114 n) kE114 x0 x1 r7.1 x0 v10 (1 : Int32) h9
            else
              f_X10_onePhase_J99 (f_X10_onePhase_L22 kE114 n) kE114 x0 x1 r7.1 x0 v10 (0 : Int32) h9
        else
          f_X10_onePhase_J108 (f_X10_onePhase_L22 kE114 n) kE114 x0 x1 r6.2
theorem y_X10_onePhase_L22 {g : xG} {h0 : xH} {cl : Bool} {kE114 : xH → Option (xH)} (hkE114 : ∀  (h : xH), Y g DX10_onePhase h0 cl iV (kE114  h) 114 [none, none, none] [] h) : ∀ (n : Nat) (x0 : Nat) (x1 : Int32) (h : xH), Y g DX10_onePhase h0 cl iV (f_X10_onePhase_L22 kE114 n x0 x1 h) 22 [some (.ref x0), some (.int x1), none] [] h := by
  intro n
  induction n with
  | zero => intro x0 x1 h; exact Y.nothing
  | succ n ih =>
    intro x0 x1 h
    unfold f_X10_onePhase_L22
    refine Y.op (pc' := 23) (fun _ => X.iloadn rfl dX10_onePhase_22) ?_
    refine Y.op (pc' := 24) (fun _ => X.aloadn rfl dX10_onePhase_23) ?_
    refine Y.getR fd_X10_22 rfl dX10_onePhase_24 (fun v1 => ?_)
    refine Y.op (pc' := 28) (fun _ => X.ic ki_0 dX10_onePhase_27) ?_
    refine Y.aldR 102 (by decide) (by decide) dX10_onePhase_28 (fun v2 => ?_)
    refine Y.op (pc' := 30) (fun _ => X.ic ki_0 dX10_onePhase_29) ?_
    refine Y.aldI dX10_onePhase_30 (fun v3 => ?_)
    refine Y.cmpge 114 (by decide) dX10_onePhase_31 ?_ ?_
    · exact Y.fg (hkE114 h) trivial
    · refine Y.op (pc' := 35) (fun _ => X.aloadn rfl dX10_onePhase_34) ?_
      refine Y.op (pc' := 36) (fun _ => X.ic ki_0 dX10_onePhase_35) ?_
      refine Y.op (pc' := 37) (fun _ => X.iloadn rfl dX10_onePhase_36) ?_
      refine Y.callVi (As := [.int (0 : Int32), .int x1]) lk_X10_255 rfl cal_X10_isFree vir_X10_isFree (Nat.le_of_ble_eq_true rfl) (Nat.le_of_ble_eq_true rfl) rfl rfl rfl (Nat.le_of_ble_eq_true rfl) dX10_onePhase_37 (fun _ e => m_X10_isFree x0 (0 : Int32) x1 h _ _ e) (fun r4 => ?_)
      refine Y.ifeq 108 (by decide) dX10_onePhase_40 ?_ ?_
      · exact y_X10_onePhase_J108 ih hkE114 x0 x1 r4.2
      · refine Y.op (pc' := 44) (fun _ => X.aloadn rfl dX10_onePhase_43) ?_
        refine Y.getI fd_X10_291 rfl dX10_onePhase_44 (fun v5 => ?_)
        refine Y.op (pc' := 48) (fun _ => X.iloadn rfl dX10_onePhase_47) ?_
        refine Y.callSi (As := [.int v5, .int x1]) lk_X10_182 rfl cal_X10_has sta_X10_has (Nat.le_of_ble_eq_true rfl) rfl rfl (Nat.le_of_ble_eq_true rfl) dX10_onePhase_48 (fun _ e => m_X10_has v5 x1 r4.2 _ _ e) (fun r6 => ?_)
        refine Y.ifeq 57 (by decide) dX10_onePhase_51 ?_ ?_
        · refine Y.op (pc' := 58) (fun _ => X.aloadn rfl dX10_onePhase_57) ?_
          refine Y.op (pc' := 59) (fun _ => X.iloadn rfl dX10_onePhase_58) ?_
          refine Y.callVi (As := [.int x1]) lk_X10_297 rfl (cal_X10_seeks _) (vir_X10_seeks _) (Nat.le_of_ble_eq_true rfl) (Nat.le_of_ble_eq_true rfl) rfl rfl rfl (Nat.le_of_ble_eq_true rfl) dX10_onePhase_59 (fun _ e => m_X10_seeks 40 x0 x1 r6.2 _ _ e) (fun r7 => ?_)
          refine Y.op (pc' := 63) (loc' := [some (.ref x0), some (.int x1), some (.int r7.1)]) (fun _ => X.istoren (Nat.le_of_ble_eq_true rfl) rfl dX10_onePhase_62) ?_
          refine Y.op (pc' := 64) (fun _ => X.iloadn rfl dX10_onePhase_63) ?_
          refine Y.op (pc' := 65) (fun _ => X.ic ki_m1 dX10_onePhase_64) ?_
          refine Y.cmpne 71 (by decide) dX10_onePhase_65 ?_ ?_
          · refine Y.op (pc' := 72) (fun _ => X.aloadn rfl dX10_onePhase_71) ?_
            refine Y.op (pc' := 73) (fun _ => X.dup rfl dX10_onePhase_72) ?_
            refine Y.getI fd_X10_303 rfl dX10_onePhase_73 (fun v8 => ?_)
            refine Y.op (pc' := 77) (fun _ => X.ic ki_1 dX10_onePhase_76) ?_
            refine Y.op (pc' := 78) (fun _ => X.iadd dX10_onePhase_77) ?_
            refine Y.putI fd_X10_303 rfl dX10_onePhase_78 (fun h9 => ?_)
            refine Y.op (pc' := 82) (fun _ => X.aloadn rfl dX10_onePhase_81) ?_
            refine Y.op (pc' := 83) (fun _ => X.dup rfl dX10_onePhase_82) ?_
            refine Y.getI fd_X10_306 rfl dX10_onePhase_83 (fun v10 => ?_)
            refine Y.op (pc' := 87) (fun _ => X.aloadn rfl dX10_onePhase_86) ?_
            refine Y.getI fd_X10_300 rfl dX10_onePhase_87 (fun v11 => ?_)
            refine Y.op (pc' := 91) (fun _ => X.ic ki_1 dX10_onePhase_90) ?_
            refine Y.cmpne 98 (by decide) dX10_onePhase_91 ?_ ?_
            · refine Y.op (pc' := 99) (fun _ => X.ic ki_0 dX10_onePhase_98) ?_
              exact y_X10_onePhase_J99 ih hkE114 x0 x1 r7.1 x0 v10 (0 : Int32) h9
            · refine Y.op (pc' := 95) (fun _ => X.ic ki_1 dX10_onePhase_94) ?_
              refine Y.op (pc' := 99) (fun _ => X.goto 99 (by decide) dX10_onePhase_95) ?_
              exact y_X10_onePhase_J99 ih hkE114 x0 x1 r7.1 x0 v10 (1 : Int32) h9
          · refine Y.op (pc' := 108) (fun _ => X.goto 108 (by decide) dX10_onePhase_68) ?_
            exact Y.fg (y_X10_onePhase_J108 ih hkE114 x0 x1 r7.2) (And.intro rfl (And.intro rfl trivial))
        · refine Y.op (pc' := 108) (fun _ => X.goto 108 (by decide) dX10_onePhase_54) ?_
          exact y_X10_onePhase_J108 ih hkE114 x0 x1 r6.2
def f_X10_onePhase (a0 : Nat) (h : xH) : Option (xH) :=
  (pI h 10 a0 26 (0 : Int32)).bind fun h1 =>
  (pI h1 10 a0 27 (0 : Int32)).bind fun h2 =>
  (gI h2 10 a0 20).bind fun v3 =>
  (pI h2 10 a0 20 (v3 + (1 : Int32))).bind fun h4 =>
  f_X10_onePhase_L22 (f_X10_onePhase_J114) 5000 a0 (0 : Int32) h4
theorem y_X10_onePhase {g : xG} {h0 : xH} {cl : Bool} (a0 : Nat) (h : xH) : Y g DX10_onePhase h0 cl iV (f_X10_onePhase a0 h) 0 [some (.ref a0), none, none] [] h := by
  unfold f_X10_onePhase
  refine Y.op (pc' := 1) (fun _ => X.aloadn rfl dX10_onePhase_0) ?_
  refine Y.op (pc' := 2) (fun _ => X.ic ki_0 dX10_onePhase_1) ?_
  refine Y.putI fd_X10_291 rfl dX10_onePhase_2 (fun h1 => ?_)
  refine Y.op (pc' := 6) (fun _ => X.aloadn rfl dX10_onePhase_5) ?_
  refine Y.op (pc' := 7) (fun _ => X.ic ki_0 dX10_onePhase_6) ?_
  refine Y.putI fd_X10_294 rfl dX10_onePhase_7 (fun h2 => ?_)
  refine Y.op (pc' := 11) (fun _ => X.aloadn rfl dX10_onePhase_10) ?_
  refine Y.op (pc' := 12) (fun _ => X.dup rfl dX10_onePhase_11) ?_
  refine Y.getI fd_X10_300 rfl dX10_onePhase_12 (fun v3 => ?_)
  refine Y.op (pc' := 16) (fun _ => X.ic ki_1 dX10_onePhase_15) ?_
  refine Y.op (pc' := 17) (fun _ => X.iadd dX10_onePhase_16) ?_
  refine Y.putI fd_X10_300 rfl dX10_onePhase_17 (fun h4 => ?_)
  refine Y.op (pc' := 21) (fun _ => X.ic ki_0 dX10_onePhase_20) ?_
  refine Y.op (pc' := 22) (loc' := [some (.ref a0), some (.int (0 : Int32)), none]) (fun _ => X.istoren (Nat.le_of_ble_eq_true rfl) rfl dX10_onePhase_21) ?_
  exact y_X10_onePhase_L22 (y_X10_onePhase_J114) 5000 a0 (0 : Int32) h4
theorem m_X10_onePhase {g : xG} (a0 : Nat) (h : xH) (cl : Bool) (r : xH) (e : f_X10_onePhase a0 h = some r) : XM g DX10_onePhase [.ref a0] h cl (iV r) := YM.of rfl rfl (Nat.le_of_ble_eq_true rfl) (y_X10_onePhase a0 h) e
def f_X10_thinks_J64 (h : xH) : Option (xH) :=
  some h
theorem y_X10_thinks_J64 {g : xG} {h0 : xH} {cl : Bool} (h : xH) : Y g DX10_thinks h0 cl iV (f_X10_thinks_J64 h) 64 [none, none] [] h := by
  unfold f_X10_thinks_J64
  exact Y.vreturn rfl dX10_thinks_64
def f_X10_thinks_L50 (kE64 : xH → Option (xH)) : Nat → Nat → xH → Option (xH)
  | 0 => fun _ _ => none
  | n + 1 => fun x0 h =>
    (vc h 10 x0 (f_X10_laysLayers x0 h)).bind fun r1 =>
    if r1.1 = (0 : Int32) then
      kE64 r1.2
    else
      (vc r1.2 10 x0 (f_X10_onePhase x0 r1.2)).bind fun h2 =>
      f_X10_thinks_L50 kE64 n x0 h2
theorem y_X10_thinks_L50 {g : xG} {h0 : xH} {cl : Bool} {kE64 : xH → Option (xH)} (hkE64 : ∀  (h : xH), Y g DX10_thinks h0 cl iV (kE64  h) 64 [none, none] [] h) : ∀ (n : Nat) (x0 : Nat) (h : xH), Y g DX10_thinks h0 cl iV (f_X10_thinks_L50 kE64 n x0 h) 50 [some (.ref x0), none] [] h := by
  intro n
  induction n with
  | zero => intro x0 h; exact Y.nothing
  | succ n ih =>
    intro x0 h
    unfold f_X10_thinks_L50
    refine Y.op (pc' := 51) (fun _ => X.aloadn rfl dX10_thinks_50) ?_
    refine Y.callVi (As := []) lk_X10_312 rfl cal_X10_laysLayers vir_X10_laysLayers (Nat.le_of_ble_eq_true rfl) (Nat.le_of_ble_eq_true rfl) rfl rfl rfl (Nat.le_of_ble_eq_true rfl) dX10_thinks_51 (fun _ e => m_X10_laysLayers x0 h _ _ e) (fun r1 => ?_)
    refine Y.ifeq 64 (by decide) dX10_thinks_54 ?_ ?_
    · exact Y.fg (hkE64 r1.2) trivial
    · refine Y.op (pc' := 58) (fun _ => X.aloadn rfl dX10_thinks_57) ?_
      refine Y.callVv (As := []) lk_X10_315 rfl cal_X10_onePhase vir_X10_onePhase (Nat.le_of_ble_eq_true rfl) (Nat.le_of_ble_eq_true rfl) rfl rfl rfl (Nat.le_of_ble_eq_true rfl) dX10_thinks_58 (fun _ e => m_X10_onePhase x0 r1.2 _ _ e) (fun h2 => ?_)
      refine Y.op (pc' := 50) (fun _ => X.goto 50 (by decide) dX10_thinks_61) ?_
      exact ih x0 h2
def f_X10_thinks_J30 (x0 : Nat) (h : xH) : Option (xH) :=
  (pI h 10 x0 20 (0 : Int32)).bind fun h1 =>
  (pI h1 10 x0 21 (0 : Int32)).bind fun h2 =>
  (pI h2 10 x0 22 (0 : Int32)).bind fun h3 =>
  (pI h3 10 x0 23 (0 : Int32)).bind fun h4 =>
  f_X10_thinks_L50 (f_X10_thinks_J64) 5000 x0 h4
theorem y_X10_thinks_J30 {g : xG} {h0 : xH} {cl : Bool} (x0 : Nat) (h : xH) : Y g DX10_thinks h0 cl iV (f_X10_thinks_J30 x0 h) 30 [some (.ref x0), none] [] h := by
  unfold f_X10_thinks_J30
  refine Y.op (pc' := 31) (fun _ => X.aloadn rfl dX10_thinks_30) ?_
  refine Y.op (pc' := 32) (fun _ => X.ic ki_0 dX10_thinks_31) ?_
  refine Y.putI fd_X10_300 rfl dX10_thinks_32 (fun h1 => ?_)
  refine Y.op (pc' := 36) (fun _ => X.aloadn rfl dX10_thinks_35) ?_
  refine Y.op (pc' := 37) (fun _ => X.ic ki_0 dX10_thinks_36) ?_
  refine Y.putI fd_X10_303 rfl dX10_thinks_37 (fun h2 => ?_)
  refine Y.op (pc' := 41) (fun _ => X.aloadn rfl dX10_thinks_40) ?_
  refine Y.op (pc' := 42) (fun _ => X.ic ki_0 dX10_thinks_41) ?_
  refine Y.putI fd_X10_306 rfl dX10_thinks_42 (fun h3 => ?_)
  refine Y.op (pc' := 46) (fun _ => X.aloadn rfl dX10_thinks_45) ?_
  refine Y.op (pc' := 47) (fun _ => X.ic ki_0 dX10_thinks_46) ?_
  refine Y.putI fd_X10_309 rfl dX10_thinks_47 (fun h4 => ?_)
  exact y_X10_thinks_L50 (y_X10_thinks_J64) 5000 x0 h4
def f_X10_thinks_L9 (kE30 : Nat → xH → Option (xH)) : Nat → Nat → Int32 → xH → Option (xH)
  | 0 => fun _ _ _ => none
  | n + 1 => fun x0 x1 h =>
    if x1 ≥ (12 : Int32) then
      kE30 x0 h
    else
      (gR h 10 x0 11).bind fun v1 =>
      (aR 102 h v1 (0 : Int32)).bind fun v2 =>
      (sI h v2 x1 (-1 : Int32)).bind fun h3 =>
      lt (x1 + (1 : Int32)) fun v4 =>
      f_X10_thinks_L9 kE30 n x0 v4 h3
theorem y_X10_thinks_L9 {g : xG} {h0 : xH} {cl : Bool} {kE30 : Nat → xH → Option (xH)} (hkE30 : ∀ (x0 : Nat) (h : xH), Y g DX10_thinks h0 cl iV (kE30 x0 h) 30 [some (.ref x0), none] [] h) : ∀ (n : Nat) (x0 : Nat) (x1 : Int32) (h : xH), Y g DX10_thinks h0 cl iV (f_X10_thinks_L9 kE30 n x0 x1 h) 9 [some (.ref x0), some (.int x1)] [] h := by
  intro n
  induction n with
  | zero => intro x0 x1 h; exact Y.nothing
  | succ n ih =>
    intro x0 x1 h
    unfold f_X10_thinks_L9
    refine Y.op (pc' := 10) (fun _ => X.iloadn rfl dX10_thinks_9) ?_
    refine Y.op (pc' := 12) (fun _ => X.bp kb_12 dX10_thinks_10) ?_
    refine Y.cmpge 30 (by decide) dX10_thinks_12 ?_ ?_
    · exact Y.fg (hkE30 x0 h) (And.intro rfl trivial)
    · refine Y.op (pc' := 16) (fun _ => X.aloadn rfl dX10_thinks_15) ?_
      refine Y.getR fd_X10_28 rfl dX10_thinks_16 (fun v1 => ?_)
      refine Y.op (pc' := 20) (fun _ => X.ic ki_0 dX10_thinks_19) ?_
      refine Y.aldR 102 (by decide) (by decide) dX10_thinks_20 (fun v2 => ?_)
      refine Y.op (pc' := 22) (fun _ => X.iloadn rfl dX10_thinks_21) ?_
      refine Y.op (pc' := 23) (fun _ => X.ic ki_m1 dX10_thinks_22) ?_
      refine Y.astI dX10_thinks_23 (fun h3 => ?_)
      refine Y.iinc (i := 1) (loc' := fun v4 => [some (.ref x0), some (.int v4)]) rfl (Nat.le_of_ble_eq_true rfl) ki_1 (fun _ => rfl) dX10_thinks_24 (fun v4 => ?_)
      refine Y.op (pc' := 9) (fun _ => X.goto 9 (by decide) dX10_thinks_27) ?_
      exact ih x0 v4 h3
def f_X10_thinks (a0 : Nat) (h : xH) : Option (xH) :=
  (vc h 10 a0 (f_X10_copies a0 (0 : Int32) (17 : Int32) h)).bind fun h1 =>
  f_X10_thinks_L9 (f_X10_thinks_J30) 5000 a0 (0 : Int32) h1
theorem y_X10_thinks {g : xG} {h0 : xH} {cl : Bool} (a0 : Nat) (h : xH) : Y g DX10_thinks h0 cl iV (f_X10_thinks a0 h) 0 [some (.ref a0), none] [] h := by
  unfold f_X10_thinks
  refine Y.op (pc' := 1) (fun _ => X.aloadn rfl dX10_thinks_0) ?_
  refine Y.op (pc' := 2) (fun _ => X.ic ki_0 dX10_thinks_1) ?_
  refine Y.op (pc' := 4) (fun _ => X.bp kb_17 dX10_thinks_2) ?_
  refine Y.callVv (As := [.int (0 : Int32), .int (17 : Int32)]) lk_X10_228 rfl cal_X10_copies vir_X10_copies (Nat.le_of_ble_eq_true rfl) (Nat.le_of_ble_eq_true rfl) rfl rfl rfl (Nat.le_of_ble_eq_true rfl) dX10_thinks_4 (fun _ e => m_X10_copies a0 (0 : Int32) (17 : Int32) h _ _ e) (fun h1 => ?_)
  refine Y.op (pc' := 8) (fun _ => X.ic ki_0 dX10_thinks_7) ?_
  refine Y.op (pc' := 9) (loc' := [some (.ref a0), some (.int (0 : Int32))]) (fun _ => X.istoren (Nat.le_of_ble_eq_true rfl) rfl dX10_thinks_8) ?_
  exact y_X10_thinks_L9 (y_X10_thinks_J30) 5000 a0 (0 : Int32) h1
theorem m_X10_thinks {g : xG} (a0 : Nat) (h : xH) (cl : Bool) (r : xH) (e : f_X10_thinks a0 h = some r) : XM g DX10_thinks [.ref a0] h cl (iV r) := YM.of rfl rfl (Nat.le_of_ble_eq_true rfl) (y_X10_thinks a0 h) e
def f_X10_phases_J80 (s0 : Int32) (h : xH) : Option (Int32 × xH) :=
  some (s0, h)
theorem y_X10_phases_J80 {g : xG} {h0 : xH} {cl : Bool} (s0 : Int32) (h : xH) : Y g DX10_phases h0 cl iI (f_X10_phases_J80 s0 h) 80 [none, none] [.int s0] h := by
  unfold f_X10_phases_J80
  exact Y.ireturn rfl dX10_phases_80
def f_X10_phases_J20 (x0 : Nat) (x1 : Int32) (s0 : Nat) (s1 : Int32) (h : xH) : Option (Int32 × xH) :=
  (vc h 10 s0 (f_X10_bad s0 s1 (1 : Int32) (1 : Int32) h)).bind fun r1 =>
  if r1.1 = (0 : Int32) then
    (vc r1.2 10 x0 (f_X10_thinks x0 r1.2)).bind fun h2 =>
    (vc h2 10 x0 (f_X10_copies x0 (17 : Int32) (0 : Int32) h2)).bind fun h3 =>
    if x1 = (0 : Int32) then
      (gI h3 10 x0 20).bind fun v7 =>
      f_X10_phases_J80 v7 h3
    else
      if x1 = (1 : Int32) then
        (gI h3 10 x0 21).bind fun v6 =>
        f_X10_phases_J80 v6 h3
      else
        if x1 = (2 : Int32) then
          (gI h3 10 x0 22).bind fun v5 =>
          f_X10_phases_J80 v5 h3
        else
          (gI h3 10 x0 23).bind fun v4 =>
          f_X10_phases_J80 v4 h3
  else
    some ((0 : Int32), r1.2)
theorem y_X10_phases_J20 {g : xG} {h0 : xH} {cl : Bool} (x0 : Nat) (x1 : Int32) (s0 : Nat) (s1 : Int32) (h : xH) : Y g DX10_phases h0 cl iI (f_X10_phases_J20 x0 x1 s0 s1 h) 20 [some (.ref x0), some (.int x1)] [.int s1, .ref s0] h := by
  unfold f_X10_phases_J20
  refine Y.op (pc' := 21) (fun _ => X.ic ki_1 dX10_phases_20) ?_
  refine Y.op (pc' := 22) (fun _ => X.ic ki_1 dX10_phases_21) ?_
  refine Y.callVi (As := [.int s1, .int (1 : Int32), .int (1 : Int32)]) lk_X10_217 rfl cal_X10_bad vir_X10_bad (Nat.le_of_ble_eq_true rfl) (Nat.le_of_ble_eq_true rfl) rfl rfl rfl (Nat.le_of_ble_eq_true rfl) dX10_phases_22 (fun _ e => m_X10_bad s0 s1 (1 : Int32) (1 : Int32) h _ _ e) (fun r1 => ?_)
  refine Y.ifeq 30 (by decide) dX10_phases_25 ?_ ?_
  · refine Y.op (pc' := 31) (fun _ => X.aloadn rfl dX10_phases_30) ?_
    refine Y.callVv (As := []) lk_X10_318 rfl cal_X10_thinks vir_X10_thinks (Nat.le_of_ble_eq_true rfl) (Nat.le_of_ble_eq_true rfl) rfl rfl rfl (Nat.le_of_ble_eq_true rfl) dX10_phases_31 (fun _ e => m_X10_thinks x0 r1.2 _ _ e) (fun h2 => ?_)
    refine Y.op (pc' := 35) (fun _ => X.aloadn rfl dX10_phases_34) ?_
    refine Y.op (pc' := 37) (fun _ => X.bp kb_17 dX10_phases_35) ?_
    refine Y.op (pc' := 38) (fun _ => X.ic ki_0 dX10_phases_37) ?_
    refine Y.callVv (As := [.int (17 : Int32), .int (0 : Int32)]) lk_X10_228 rfl cal_X10_copies vir_X10_copies (Nat.le_of_ble_eq_true rfl) (Nat.le_of_ble_eq_true rfl) rfl rfl rfl (Nat.le_of_ble_eq_true rfl) dX10_phases_38 (fun _ e => m_X10_copies x0 (17 : Int32) (0 : Int32) h2 _ _ e) (fun h3 => ?_)
    refine Y.op (pc' := 42) (fun _ => X.iloadn rfl dX10_phases_41) ?_
    refine Y.ifne 52 (by decide) dX10_phases_42 ?_ ?_
    · refine Y.op (pc' := 53) (fun _ => X.iloadn rfl dX10_phases_52) ?_
      refine Y.op (pc' := 54) (fun _ => X.ic ki_1 dX10_phases_53) ?_
      refine Y.cmpne 64 (by decide) dX10_phases_54 ?_ ?_
      · refine Y.op (pc' := 65) (fun _ => X.iloadn rfl dX10_phases_64) ?_
        refine Y.op (pc' := 66) (fun _ => X.ic ki_2 dX10_phases_65) ?_
        refine Y.cmpne 76 (by decide) dX10_phases_66 ?_ ?_
        · refine Y.op (pc' := 77) (fun _ => X.aloadn rfl dX10_phases_76) ?_
          refine Y.getI fd_X10_309 rfl dX10_phases_77 (fun v4 => ?_)
          exact Y.fg (y_X10_phases_J80 v4 h3) trivial
        · refine Y.op (pc' := 70) (fun _ => X.aloadn rfl dX10_phases_69) ?_
          refine Y.getI fd_X10_306 rfl dX10_phases_70 (fun v5 => ?_)
          refine Y.op (pc' := 80) (fun _ => X.goto 80 (by decide) dX10_phases_73) ?_
          exact Y.fg (y_X10_phases_J80 v5 h3) trivial
      · refine Y.op (pc' := 58) (fun _ => X.aloadn rfl dX10_phases_57) ?_
        refine Y.getI fd_X10_303 rfl dX10_phases_58 (fun v6 => ?_)
        refine Y.op (pc' := 80) (fun _ => X.goto 80 (by decide) dX10_phases_61) ?_
        exact Y.fg (y_X10_phases_J80 v6 h3) trivial
    · refine Y.op (pc' := 46) (fun _ => X.aloadn rfl dX10_phases_45) ?_
      refine Y.getI fd_X10_300 rfl dX10_phases_46 (fun v7 => ?_)
      refine Y.op (pc' := 80) (fun _ => X.goto 80 (by decide) dX10_phases_49) ?_
      exact Y.fg (y_X10_phases_J80 v7 h3) trivial
  · refine Y.op (pc' := 29) (fun _ => X.ic ki_0 dX10_phases_28) ?_
    exact Y.ireturn rfl dX10_phases_29
def f_X10_phases (a0 : Nat) (p1 : Int32) (h : xH) : Option (Int32 × xH) :=
  (pI h 10 a0 0 (0 : Int32)).bind fun h1 =>
  (f_X10_in p1 (0 : Int32) (3 : Int32) h1).bind fun r2 =>
  if r2.1 = (0 : Int32) then
    f_X10_phases_J20 a0 p1 a0 (1 : Int32) r2.2
  else
    f_X10_phases_J20 a0 p1 a0 (0 : Int32) r2.2
theorem y_X10_phases {g : xG} {h0 : xH} {cl : Bool} (a0 : Nat) (p1 : Int32) (h : xH) : Y g DX10_phases h0 cl iI (f_X10_phases a0 p1 h) 0 [some (.ref a0), some (.int p1)] [] h := by
  unfold f_X10_phases
  refine Y.op (pc' := 1) (fun _ => X.aloadn rfl dX10_phases_0) ?_
  refine Y.op (pc' := 2) (fun _ => X.ic ki_0 dX10_phases_1) ?_
  refine Y.putI fd_X10_82 rfl dX10_phases_2 (fun h1 => ?_)
  refine Y.op (pc' := 6) (fun _ => X.aloadn rfl dX10_phases_5) ?_
  refine Y.op (pc' := 7) (fun _ => X.iloadn rfl dX10_phases_6) ?_
  refine Y.op (pc' := 8) (fun _ => X.ic ki_0 dX10_phases_7) ?_
  refine Y.op (pc' := 9) (fun _ => X.ic ki_3 dX10_phases_8) ?_
  refine Y.callSi (As := [.int p1, .int (0 : Int32), .int (3 : Int32)]) lk_X10_127 rfl cal_X10_in sta_X10_in (Nat.le_of_ble_eq_true rfl) rfl rfl (Nat.le_of_ble_eq_true rfl) dX10_phases_9 (fun _ e => m_X10_in p1 (0 : Int32) (3 : Int32) h1 _ _ e) (fun r2 => ?_)
  refine Y.ifne 19 (by decide) dX10_phases_12 ?_ ?_
  · refine Y.op (pc' := 20) (fun _ => X.ic ki_0 dX10_phases_19) ?_
    exact y_X10_phases_J20 a0 p1 a0 (0 : Int32) r2.2
  · refine Y.op (pc' := 16) (fun _ => X.ic ki_1 dX10_phases_15) ?_
    refine Y.op (pc' := 20) (fun _ => X.goto 20 (by decide) dX10_phases_16) ?_
    exact y_X10_phases_J20 a0 p1 a0 (1 : Int32) r2.2
theorem m_X10_phases {g : xG} (a0 : Nat) (p1 : Int32) (h : xH) (cl : Bool) (r : Int32 × xH) (e : f_X10_phases a0 p1 h = some r) : XM g DX10_phases [.ref a0, .int p1] h cl (iI r) := YM.of rfl rfl (Nat.le_of_ble_eq_true rfl) (y_X10_phases a0 p1 h) e
