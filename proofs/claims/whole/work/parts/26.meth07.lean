def f_X10_init (a0 : Nat) (h : xH) : Option (xH) :=
  (nwI h (2 : Int32)).bind fun r1 =>
  (pR r1.2 10 a0 1 r1.1).bind fun h2 =>
  (pI h2 10 a0 5 (-1 : Int32)).bind fun h3 =>
  (nwI h3 (300 : Int32)).bind fun r4 =>
  (pR r4.2 10 a0 8 r4.1).bind fun h5 =>
  (nwG 102 100 (.int 0) h5 (18 : Int32) (5 : Int32)).bind fun r6 =>
  (pR r6.2 10 a0 9 r6.1).bind fun h7 =>
  (nwG 102 100 (.int 0) h7 (18 : Int32) (12 : Int32)).bind fun r8 =>
  (pR r8.2 10 a0 10 r8.1).bind fun h9 =>
  (nwG 102 100 (.int 0) h9 (18 : Int32) (12 : Int32)).bind fun r10 =>
  (pR r10.2 10 a0 11 r10.1).bind fun h11 =>
  (nwG 102 100 (.int 0) h11 (18 : Int32) (12 : Int32)).bind fun r12 =>
  (pR r12.2 10 a0 12 r12.1).bind fun h13 =>
  (nwG3 h13 (18 : Int32) (12 : Int32) (12 : Int32)).bind fun r14 =>
  (pR r14.2 10 a0 13 r14.1).bind fun h15 =>
  (nwI h15 (12 : Int32)).bind fun r16 =>
  (pR r16.2 10 a0 17 r16.1).bind fun h17 =>
  (nwI h17 (24 : Int32)).bind fun r18 =>
  (pR r18.2 10 a0 19 r18.1).bind fun h19 =>
  (nwI h19 (12 : Int32)).bind fun r20 =>
  (pR r20.2 10 a0 24 r20.1).bind fun h21 =>
  (nwI h21 (12 : Int32)).bind fun r22 =>
  (pR r22.2 10 a0 25 r22.1).bind fun h23 =>
  (nwI h23 (12 : Int32)).bind fun r24 =>
  (pR r24.2 10 a0 28 r24.1).bind fun h25 =>
  (nwG 102 100 (.int 0) h25 (12 : Int32) (12 : Int32)).bind fun r26 =>
  (pR r26.2 10 a0 32 r26.1).bind fun h27 =>
  (nwI h27 (2 : Int32)).bind fun r28 =>
  (pR r28.2 10 a0 33 r28.1).bind fun h29 =>
  (nwI h29 (2 : Int32)).bind fun r30 =>
  (pR r30.2 10 a0 34 r30.1).bind fun h31 =>
  (nwJ h31 (4096 : Int32)).bind fun r32 =>
  (pR r32.2 10 a0 35 r32.1).bind fun h33 =>
  (nwJ h33 (4096 : Int32)).bind fun r34 =>
  (pR r34.2 10 a0 36 r34.1).bind fun h35 =>
  (nwG 102 100 (.int 0) h35 (13 : Int32) (4096 : Int32)).bind fun r36 =>
  (pR r36.2 10 a0 37 r36.1).bind fun h37 =>
  (nwG 104 101 (.long 0) h37 (13 : Int32) (4096 : Int32)).bind fun r38 =>
  (pR r38.2 10 a0 38 r38.1).bind fun h39 =>
  (vc h39 10 a0 (f_X10_begins a0 (0 : Int32) (1 : Int32) (1 : Int32) h39)).bind fun h40 =>
  some h40
theorem y_X10_init {g : xG} {h0 : xH} (a0 : Nat) (h : xH) : Y g DX10_init h0 false iV (f_X10_init a0 h) 0 [some (.ref a0)] [] h := by
  unfold f_X10_init
  refine Y.op (pc' := 1) (fun _ => X.aloadn rfl dX10_init_0) ?_
  refine Y.op (pc' := 4) (fun _ => X.objInit wo_X10 rfl (Nat.le_of_ble_eq_true rfl) (Nat.le_of_ble_eq_true rfl) dX10_init_1) ?_
  refine Y.op (pc' := 5) (fun _ => X.aloadn rfl dX10_init_4) ?_
  refine Y.op (pc' := 6) (fun _ => X.ic ki_2 dX10_init_5) ?_
  refine Y.newI waI dX10_init_6 (fun r1 => ?_)
  refine Y.putR ff_X10_9 rfl rfl (fun _ => rfl) (fun _ => rfl) dX10_init_8 (fun h2 => ?_)
  refine Y.op (pc' := 12) (fun _ => X.aloadn rfl dX10_init_11) ?_
  refine Y.op (pc' := 13) (fun _ => X.ic ki_m1 dX10_init_12) ?_
  refine Y.putI fd_X10_13 rfl dX10_init_13 (fun h3 => ?_)
  refine Y.op (pc' := 17) (fun _ => X.aloadn rfl dX10_init_16) ?_
  refine Y.op (pc' := 20) (fun _ => X.sp ks_300 dX10_init_17) ?_
  refine Y.newI waI dX10_init_20 (fun r4 => ?_)
  refine Y.putR ff_X10_17 rfl rfl (fun _ => rfl) (fun _ => rfl) dX10_init_22 (fun h5 => ?_)
  refine Y.op (pc' := 26) (fun _ => X.aloadn rfl dX10_init_25) ?_
  refine Y.op (pc' := 28) (fun _ => X.bp kb_18 dX10_init_26) ?_
  refine Y.op (pc' := 29) (fun _ => X.ic ki_5 dX10_init_28) ?_
  refine Y.mna 102 100 .int (.int 0) (Or.inl ⟨rfl, rfl, rfl, rfl⟩) wm_X10_20 waI rfl dX10_init_29 (fun r6 => ?_)
  refine Y.putR ff_X10_22 rfl rfl (fun _ => rfl) (fun _ => rfl) dX10_init_33 (fun h7 => ?_)
  refine Y.op (pc' := 37) (fun _ => X.aloadn rfl dX10_init_36) ?_
  refine Y.op (pc' := 39) (fun _ => X.bp kb_18 dX10_init_37) ?_
  refine Y.op (pc' := 41) (fun _ => X.bp kb_12 dX10_init_39) ?_
  refine Y.mna 102 100 .int (.int 0) (Or.inl ⟨rfl, rfl, rfl, rfl⟩) wm_X10_20 waI rfl dX10_init_41 (fun r8 => ?_)
  refine Y.putR ff_X10_25 rfl rfl (fun _ => rfl) (fun _ => rfl) dX10_init_45 (fun h9 => ?_)
  refine Y.op (pc' := 49) (fun _ => X.aloadn rfl dX10_init_48) ?_
  refine Y.op (pc' := 51) (fun _ => X.bp kb_18 dX10_init_49) ?_
  refine Y.op (pc' := 53) (fun _ => X.bp kb_12 dX10_init_51) ?_
  refine Y.mna 102 100 .int (.int 0) (Or.inl ⟨rfl, rfl, rfl, rfl⟩) wm_X10_20 waI rfl dX10_init_53 (fun r10 => ?_)
  refine Y.putR ff_X10_28 rfl rfl (fun _ => rfl) (fun _ => rfl) dX10_init_57 (fun h11 => ?_)
  refine Y.op (pc' := 61) (fun _ => X.aloadn rfl dX10_init_60) ?_
  refine Y.op (pc' := 63) (fun _ => X.bp kb_18 dX10_init_61) ?_
  refine Y.op (pc' := 65) (fun _ => X.bp kb_12 dX10_init_63) ?_
  refine Y.mna 102 100 .int (.int 0) (Or.inl ⟨rfl, rfl, rfl, rfl⟩) wm_X10_20 waI rfl dX10_init_65 (fun r12 => ?_)
  refine Y.putR ff_X10_31 rfl rfl (fun _ => rfl) (fun _ => rfl) dX10_init_69 (fun h13 => ?_)
  refine Y.op (pc' := 73) (fun _ => X.aloadn rfl dX10_init_72) ?_
  refine Y.op (pc' := 75) (fun _ => X.bp kb_18 dX10_init_73) ?_
  refine Y.op (pc' := 77) (fun _ => X.bp kb_12 dX10_init_75) ?_
  refine Y.op (pc' := 79) (fun _ => X.bp kb_12 dX10_init_77) ?_
  refine Y.mna3 wm_X10_34 waI rfl dX10_init_79 (fun r14 => ?_)
  refine Y.putR ff_X10_36 rfl rfl (fun _ => rfl) (fun _ => rfl) dX10_init_83 (fun h15 => ?_)
  refine Y.op (pc' := 87) (fun _ => X.aloadn rfl dX10_init_86) ?_
  refine Y.op (pc' := 89) (fun _ => X.bp kb_12 dX10_init_87) ?_
  refine Y.newI waI dX10_init_89 (fun r16 => ?_)
  refine Y.putR ff_X10_39 rfl rfl (fun _ => rfl) (fun _ => rfl) dX10_init_91 (fun h17 => ?_)
  refine Y.op (pc' := 95) (fun _ => X.aloadn rfl dX10_init_94) ?_
  refine Y.op (pc' := 97) (fun _ => X.bp kb_24 dX10_init_95) ?_
  refine Y.newI waI dX10_init_97 (fun r18 => ?_)
  refine Y.putR ff_X10_42 rfl rfl (fun _ => rfl) (fun _ => rfl) dX10_init_99 (fun h19 => ?_)
  refine Y.op (pc' := 103) (fun _ => X.aloadn rfl dX10_init_102) ?_
  refine Y.op (pc' := 105) (fun _ => X.bp kb_12 dX10_init_103) ?_
  refine Y.newI waI dX10_init_105 (fun r20 => ?_)
  refine Y.putR ff_X10_45 rfl rfl (fun _ => rfl) (fun _ => rfl) dX10_init_107 (fun h21 => ?_)
  refine Y.op (pc' := 111) (fun _ => X.aloadn rfl dX10_init_110) ?_
  refine Y.op (pc' := 113) (fun _ => X.bp kb_12 dX10_init_111) ?_
  refine Y.newI waI dX10_init_113 (fun r22 => ?_)
  refine Y.putR ff_X10_48 rfl rfl (fun _ => rfl) (fun _ => rfl) dX10_init_115 (fun h23 => ?_)
  refine Y.op (pc' := 119) (fun _ => X.aloadn rfl dX10_init_118) ?_
  refine Y.op (pc' := 121) (fun _ => X.bp kb_12 dX10_init_119) ?_
  refine Y.newI waI dX10_init_121 (fun r24 => ?_)
  refine Y.putR ff_X10_51 rfl rfl (fun _ => rfl) (fun _ => rfl) dX10_init_123 (fun h25 => ?_)
  refine Y.op (pc' := 127) (fun _ => X.aloadn rfl dX10_init_126) ?_
  refine Y.op (pc' := 129) (fun _ => X.bp kb_12 dX10_init_127) ?_
  refine Y.op (pc' := 131) (fun _ => X.bp kb_12 dX10_init_129) ?_
  refine Y.mna 102 100 .int (.int 0) (Or.inl ⟨rfl, rfl, rfl, rfl⟩) wm_X10_20 waI rfl dX10_init_131 (fun r26 => ?_)
  refine Y.putR ff_X10_54 rfl rfl (fun _ => rfl) (fun _ => rfl) dX10_init_135 (fun h27 => ?_)
  refine Y.op (pc' := 139) (fun _ => X.aloadn rfl dX10_init_138) ?_
  refine Y.op (pc' := 140) (fun _ => X.ic ki_2 dX10_init_139) ?_
  refine Y.newI waI dX10_init_140 (fun r28 => ?_)
  refine Y.putR ff_X10_57 rfl rfl (fun _ => rfl) (fun _ => rfl) dX10_init_142 (fun h29 => ?_)
  refine Y.op (pc' := 146) (fun _ => X.aloadn rfl dX10_init_145) ?_
  refine Y.op (pc' := 147) (fun _ => X.ic ki_2 dX10_init_146) ?_
  refine Y.newI waI dX10_init_147 (fun r30 => ?_)
  refine Y.putR ff_X10_60 rfl rfl (fun _ => rfl) (fun _ => rfl) dX10_init_149 (fun h31 => ?_)
  refine Y.op (pc' := 153) (fun _ => X.aloadn rfl dX10_init_152) ?_
  refine Y.op (pc' := 156) (fun _ => X.sp ks_4096 dX10_init_153) ?_
  refine Y.newJ waJ dX10_init_156 (fun r32 => ?_)
  refine Y.putR ff_X10_63 rfl rfl (fun _ => rfl) (fun _ => rfl) dX10_init_158 (fun h33 => ?_)
  refine Y.op (pc' := 162) (fun _ => X.aloadn rfl dX10_init_161) ?_
  refine Y.op (pc' := 165) (fun _ => X.sp ks_4096 dX10_init_162) ?_
  refine Y.newJ waJ dX10_init_165 (fun r34 => ?_)
  refine Y.putR ff_X10_67 rfl rfl (fun _ => rfl) (fun _ => rfl) dX10_init_167 (fun h35 => ?_)
  refine Y.op (pc' := 171) (fun _ => X.aloadn rfl dX10_init_170) ?_
  refine Y.op (pc' := 173) (fun _ => X.bp kb_13 dX10_init_171) ?_
  refine Y.op (pc' := 176) (fun _ => X.sp ks_4096 dX10_init_173) ?_
  refine Y.mna 102 100 .int (.int 0) (Or.inl ⟨rfl, rfl, rfl, rfl⟩) wm_X10_20 waI rfl dX10_init_176 (fun r36 => ?_)
  refine Y.putR ff_X10_70 rfl rfl (fun _ => rfl) (fun _ => rfl) dX10_init_180 (fun h37 => ?_)
  refine Y.op (pc' := 184) (fun _ => X.aloadn rfl dX10_init_183) ?_
  refine Y.op (pc' := 186) (fun _ => X.bp kb_13 dX10_init_184) ?_
  refine Y.op (pc' := 189) (fun _ => X.sp ks_4096 dX10_init_186) ?_
  refine Y.mna 104 101 .long (.long 0) (Or.inr ⟨rfl, rfl, rfl, rfl⟩) wm_X10_73 waJ rfl dX10_init_189 (fun r38 => ?_)
  refine Y.putR ff_X10_75 rfl rfl (fun _ => rfl) (fun _ => rfl) dX10_init_193 (fun h39 => ?_)
  refine Y.op (pc' := 197) (fun _ => X.aloadn rfl dX10_init_196) ?_
  refine Y.op (pc' := 198) (fun _ => X.ic ki_0 dX10_init_197) ?_
  refine Y.op (pc' := 199) (fun _ => X.ic ki_1 dX10_init_198) ?_
  refine Y.op (pc' := 200) (fun _ => X.ic ki_1 dX10_init_199) ?_
  refine Y.callVv (As := [.int (0 : Int32), .int (1 : Int32), .int (1 : Int32)]) lk_X10_78 rfl cal_X10_begins vir_X10_begins (Nat.le_of_ble_eq_true rfl) (Nat.le_of_ble_eq_true rfl) rfl rfl rfl (Nat.le_of_ble_eq_true rfl) dX10_init_200 (fun _ e => m_X10_begins a0 (0 : Int32) (1 : Int32) (1 : Int32) h39 _ _ e) (fun h40 => ?_)
  exact Y.vreturn rfl dX10_init_203
theorem m_X10_init {g : xG} (a0 : Nat) (h : xH) (r : xH) (e : f_X10_init a0 h = some r) : XM g DX10_init [.ref a0] h false (iV r) := YM.of rfl rfl (Nat.le_of_ble_eq_true rfl) (y_X10_init a0 h) e
def f_X10_thrown (a0 : Nat) (h : xH) : Option (Int32 × xH) :=
  (gI h 10 a0 0).bind fun v1 =>
  some (v1, h)
theorem y_X10_thrown {g : xG} {h0 : xH} {cl : Bool} (a0 : Nat) (h : xH) : Y g DX10_thrown h0 cl iI (f_X10_thrown a0 h) 0 [some (.ref a0)] [] h := by
  unfold f_X10_thrown
  refine Y.op (pc' := 1) (fun _ => X.aloadn rfl dX10_thrown_0) ?_
  refine Y.getI fd_X10_82 rfl dX10_thrown_1 (fun v1 => ?_)
  exact Y.ireturn rfl dX10_thrown_4
theorem m_X10_thrown {g : xG} (a0 : Nat) (h : xH) (cl : Bool) (r : Int32 × xH) (e : f_X10_thrown a0 h = some r) : XM g DX10_thrown [.ref a0] h cl (iI r) := YM.of rfl rfl (Nat.le_of_ble_eq_true rfl) (y_X10_thrown a0 h) e
def f_X10_bad_J38 (s0 : Int32) (h : xH) : Option (Int32 × xH) :=
  if s0 = 0 ∨ s0 = 1 then some (s0, h) else none
theorem y_X10_bad_J38 {g : xG} {h0 : xH} {cl : Bool} (s0 : Int32) (h : xH) : Y g DX10_bad h0 cl iI (f_X10_bad_J38 s0 h) 38 [none, none, none, none] [.int s0] h := by
  unfold f_X10_bad_J38
  exact Y.zreturn rfl dX10_bad_38
def f_X10_bad_J26 (x0 : Nat) (h : xH) : Option (Int32 × xH) :=
  (gI h 10 x0 0).bind fun v1 =>
  if v1 = (0 : Int32) then
    f_X10_bad_J38 (0 : Int32) h
  else
    f_X10_bad_J38 (1 : Int32) h
theorem y_X10_bad_J26 {g : xG} {h0 : xH} {cl : Bool} (x0 : Nat) (h : xH) : Y g DX10_bad h0 cl iI (f_X10_bad_J26 x0 h) 26 [some (.ref x0), none, none, none] [] h := by
  unfold f_X10_bad_J26
  refine Y.op (pc' := 27) (fun _ => X.aloadn rfl dX10_bad_26) ?_
  refine Y.getI fd_X10_82 rfl dX10_bad_27 (fun v1 => ?_)
  refine Y.ifeq 37 (by decide) dX10_bad_30 ?_ ?_
  · refine Y.op (pc' := 38) (fun _ => X.ic ki_0 dX10_bad_37) ?_
    exact Y.fg (y_X10_bad_J38 (0 : Int32) h) trivial
  · refine Y.op (pc' := 34) (fun _ => X.ic ki_1 dX10_bad_33) ?_
    refine Y.op (pc' := 38) (fun _ => X.goto 38 (by decide) dX10_bad_34) ?_
    exact Y.fg (y_X10_bad_J38 (1 : Int32) h) trivial
def f_X10_bad (a0 : Nat) (p1 : Int32) (p2 : Int32) (p3 : Int32) (h : xH) : Option (Int32 × xH) :=
  if p1 = (0 : Int32) then
    f_X10_bad_J26 a0 h
  else
    (gI h 10 a0 0).bind fun v1 =>
    if v1 = (0 : Int32) then
      (pI h 10 a0 0 p2).bind fun h2 =>
      (gR h2 10 a0 1).bind fun v3 =>
      (aI h2 v3 p3).bind fun v4 =>
      (sI h2 v3 p3 (v4 + (1 : Int32))).bind fun h5 =>
      f_X10_bad_J26 a0 h5
    else
      f_X10_bad_J26 a0 h
theorem y_X10_bad {g : xG} {h0 : xH} {cl : Bool} (a0 : Nat) (p1 : Int32) (p2 : Int32) (p3 : Int32) (h : xH) : Y g DX10_bad h0 cl iI (f_X10_bad a0 p1 p2 p3 h) 0 [some (.ref a0), some (.int p1), some (.int p2), some (.int p3)] [] h := by
  unfold f_X10_bad
  refine Y.op (pc' := 1) (fun _ => X.iloadn rfl dX10_bad_0) ?_
  refine Y.ifeq 26 (by decide) dX10_bad_1 ?_ ?_
  · exact Y.fg (y_X10_bad_J26 a0 h) (And.intro rfl trivial)
  · refine Y.op (pc' := 5) (fun _ => X.aloadn rfl dX10_bad_4) ?_
    refine Y.getI fd_X10_82 rfl dX10_bad_5 (fun v1 => ?_)
    refine Y.ifne 26 (by decide) dX10_bad_8 ?_ ?_
    · exact Y.fg (y_X10_bad_J26 a0 h) (And.intro rfl trivial)
    · refine Y.op (pc' := 12) (fun _ => X.aloadn rfl dX10_bad_11) ?_
      refine Y.op (pc' := 13) (fun _ => X.iloadn rfl dX10_bad_12) ?_
      refine Y.putI fd_X10_82 rfl dX10_bad_13 (fun h2 => ?_)
      refine Y.op (pc' := 17) (fun _ => X.aloadn rfl dX10_bad_16) ?_
      refine Y.getR fd_X10_9 rfl dX10_bad_17 (fun v3 => ?_)
      refine Y.op (pc' := 21) (fun _ => X.iloadn rfl dX10_bad_20) ?_
      refine Y.op (pc' := 22) (fun _ => X.dup2 rfl rfl dX10_bad_21) ?_
      refine Y.aldI dX10_bad_22 (fun v4 => ?_)
      refine Y.op (pc' := 24) (fun _ => X.ic ki_1 dX10_bad_23) ?_
      refine Y.op (pc' := 25) (fun _ => X.iadd dX10_bad_24) ?_
      refine Y.astI dX10_bad_25 (fun h5 => ?_)
      exact Y.fg (y_X10_bad_J26 a0 h5) (And.intro rfl trivial)
theorem m_X10_bad {g : xG} (a0 : Nat) (p1 : Int32) (p2 : Int32) (p3 : Int32) (h : xH) (cl : Bool) (r : Int32 × xH) (e : f_X10_bad a0 p1 p2 p3 h = some r) : XM g DX10_bad [.ref a0, .int p1, .int p2, .int p3] h cl (iI r) := YM.of rfl rfl (Nat.le_of_ble_eq_true rfl) (y_X10_bad a0 p1 p2 p3 h) e
def f_X10_in_J15 (s0 : Int32) (h : xH) : Option (Int32 × xH) :=
  if s0 = 0 ∨ s0 = 1 then some (s0, h) else none
theorem y_X10_in_J15 {g : xG} {h0 : xH} {cl : Bool} (s0 : Int32) (h : xH) : Y g DX10_in h0 cl iI (f_X10_in_J15 s0 h) 15 [none, none, none] [.int s0] h := by
  unfold f_X10_in_J15
  exact Y.zreturn rfl dX10_in_15
def f_X10_in_J14 (h : xH) : Option (Int32 × xH) :=
  f_X10_in_J15 (0 : Int32) h
theorem y_X10_in_J14 {g : xG} {h0 : xH} {cl : Bool} (h : xH) : Y g DX10_in h0 cl iI (f_X10_in_J14 h) 14 [none, none, none] [] h := by
  unfold f_X10_in_J14
  refine Y.op (pc' := 15) (fun _ => X.ic ki_0 dX10_in_14) ?_
  exact y_X10_in_J15 (0 : Int32) h
def f_X10_in (p1 : Int32) (p2 : Int32) (p3 : Int32) (h : xH) : Option (Int32 × xH) :=
  if p1 < p2 then
    f_X10_in_J14 h
  else
    if p1 > p3 then
      f_X10_in_J14 h
    else
      f_X10_in_J15 (1 : Int32) h
theorem y_X10_in {g : xG} {h0 : xH} {cl : Bool} (p1 : Int32) (p2 : Int32) (p3 : Int32) (h : xH) : Y g DX10_in h0 cl iI (f_X10_in p1 p2 p3 h) 0 [some (.int p1), some (.int p2), some (.int p3)] [] h := by
  unfold f_X10_in
  refine Y.op (pc' := 1) (fun _ => X.iloadn rfl dX10_in_0) ?_
  refine Y.op (pc' := 2) (fun _ => X.iloadn rfl dX10_in_1) ?_
  refine Y.cmplt 14 (by decide) dX10_in_2 ?_ ?_
  · exact Y.fg (y_X10_in_J14 h) trivial
  · refine Y.op (pc' := 6) (fun _ => X.iloadn rfl dX10_in_5) ?_
    refine Y.op (pc' := 7) (fun _ => X.iloadn rfl dX10_in_6) ?_
    refine Y.cmpgt 14 (by decide) dX10_in_7 ?_ ?_
    · exact Y.fg (y_X10_in_J14 h) trivial
    · refine Y.op (pc' := 11) (fun _ => X.ic ki_1 dX10_in_10) ?_
      refine Y.op (pc' := 15) (fun _ => X.goto 15 (by decide) dX10_in_11) ?_
      exact Y.fg (y_X10_in_J15 (1 : Int32) h) trivial
theorem m_X10_in {g : xG} (p1 : Int32) (p2 : Int32) (p3 : Int32) (h : xH) (cl : Bool) (r : Int32 × xH) (e : f_X10_in p1 p2 p3 h = some r) : XM g DX10_in [.int p1, .int p2, .int p3] h cl (iI r) := YM.of rfl rfl (Nat.le_of_ble_eq_true rfl) (y_X10_in p1 p2 p3 h) e
def f_X10_less_J10 (s0 : Int32) (h : xH) : Option (Int32 × xH) :=
  some (s0, h)
theorem y_X10_less_J10 {g : xG} {h0 : xH} {cl : Bool} (s0 : Int32) (h : xH) : Y g DX10_less h0 cl iI (f_X10_less_J10 s0 h) 10 [none, none] [.int s0] h := by
  unfold f_X10_less_J10
  exact Y.ireturn rfl dX10_less_10
def f_X10_less (p1 : Int32) (p2 : Int32) (h : xH) : Option (Int32 × xH) :=
  if p1 ≥ p2 then
    f_X10_less_J10 p2 h
  else
    f_X10_less_J10 p1 h
theorem y_X10_less {g : xG} {h0 : xH} {cl : Bool} (p1 : Int32) (p2 : Int32) (h : xH) : Y g DX10_less h0 cl iI (f_X10_less p1 p2 h) 0 [some (.int p1), some (.int p2)] [] h := by
  unfold f_X10_less
  refine Y.op (pc' := 1) (fun _ => X.iloadn rfl dX10_less_0) ?_
  refine Y.op (pc' := 2) (fun _ => X.iloadn rfl dX10_less_1) ?_
  refine Y.cmpge 9 (by decide) dX10_less_2 ?_ ?_
  · refine Y.op (pc' := 10) (fun _ => X.iloadn rfl dX10_less_9) ?_
    exact Y.fg (y_X10_less_J10 p2 h) trivial
  · refine Y.op (pc' := 6) (fun _ => X.iloadn rfl dX10_less_5) ?_
    refine Y.op (pc' := 10) (fun _ => X.goto 10 (by decide) dX10_less_6) ?_
    exact Y.fg (y_X10_less_J10 p1 h) trivial
theorem m_X10_less {g : xG} (p1 : Int32) (p2 : Int32) (h : xH) (cl : Bool) (r : Int32 × xH) (e : f_X10_less p1 p2 h = some r) : XM g DX10_less [.int p1, .int p2] h cl (iI r) := YM.of rfl rfl (Nat.le_of_ble_eq_true rfl) (y_X10_less p1 p2 h) e
def f_X10_more_J10 (s0 : Int32) (h : xH) : Option (Int32 × xH) :=
  some (s0, h)
theorem y_X10_more_J10 {g : xG} {h0 : xH} {cl : Bool} (s0 : Int32) (h : xH) : Y g DX10_more h0 cl iI (f_X10_more_J10 s0 h) 10 [none, none] [.int s0] h := by
  unfold f_X10_more_J10
  exact Y.ireturn rfl dX10_more_10
def f_X10_more (p1 : Int32) (p2 : Int32) (h : xH) : Option (Int32 × xH) :=
  if p1 ≤ p2 then
    f_X10_more_J10 p2 h
  else
    f_X10_more_J10 p1 h
theorem y_X10_more {g : xG} {h0 : xH} {cl : Bool} (p1 : Int32) (p2 : Int32) (h : xH) : Y g DX10_more h0 cl iI (f_X10_more p1 p2 h) 0 [some (.int p1), some (.int p2)] [] h := by
  unfold f_X10_more
  refine Y.op (pc' := 1) (fun _ => X.iloadn rfl dX10_more_0) ?_
  refine Y.op (pc' := 2) (fun _ => X.iloadn rfl dX10_more_1) ?_
  refine Y.cmple 9 (by decide) dX10_more_2 ?_ ?_
  · refine Y.op (pc' := 10) (fun _ => X.iloadn rfl dX10_more_9) ?_
    exact Y.fg (y_X10_more_J10 p2 h) trivial
  · refine Y.op (pc' := 6) (fun _ => X.iloadn rfl dX10_more_5) ?_
    refine Y.op (pc' := 10) (fun _ => X.goto 10 (by decide) dX10_more_6) ?_
    exact Y.fg (y_X10_more_J10 p1 h) trivial
theorem m_X10_more {g : xG} (p1 : Int32) (p2 : Int32) (h : xH) (cl : Bool) (r : Int32 × xH) (e : f_X10_more p1 p2 h = some r) : XM g DX10_more [.int p1, .int p2] h cl (iI r) := YM.of rfl rfl (Nat.le_of_ble_eq_true rfl) (y_X10_more p1 p2 h) e
def f_X10_has_J14 (s0 : Int32) (h : xH) : Option (Int32 × xH) :=
  if s0 = 0 ∨ s0 = 1 then some (s0, h) else none
theorem y_X10_has_J14 {g : xG} {h0 : xH} {cl : Bool} (s0 : Int32) (h : xH) : Y g DX10_has h0 cl iI (f_X10_has_J14 s0 h) 14 [none, none] [.int s0] h := by
  unfold f_X10_has_J14
  exact Y.zreturn rfl dX10_has_14
def f_X10_has (p1 : Int32) (p2 : Int32) (h : xH) : Option (Int32 × xH) :=
  if ((p1 >>> (p2 &&& 31)) &&& (1 : Int32)) = (1 : Int32) then
    f_X10_has_J14 (1 : Int32) h
  else
    f_X10_has_J14 (0 : Int32) h
theorem y_X10_has {g : xG} {h0 : xH} {cl : Bool} (p1 : Int32) (p2 : Int32) (h : xH) : Y g DX10_has h0 cl iI (f_X10_has p1 p2 h) 0 [some (.int p1), some (.int p2)] [] h := by
  unfold f_X10_has
  refine Y.op (pc' := 1) (fun _ => X.iloadn rfl dX10_has_0) ?_
  refine Y.op (pc' := 2) (fun _ => X.iloadn rfl dX10_has_1) ?_
  refine Y.op (pc' := 3) (fun _ => X.ishr dX10_has_2) ?_
  refine Y.op (pc' := 4) (fun _ => X.ic ki_1 dX10_has_3) ?_
  refine Y.op (pc' := 5) (fun _ => X.iand dX10_has_4) ?_
  refine Y.op (pc' := 6) (fun _ => X.ic ki_1 dX10_has_5) ?_
  refine Y.cmpne 13 (by decide) dX10_has_6 ?_ ?_
  · refine Y.op (pc' := 14) (fun _ => X.ic ki_0 dX10_has_13) ?_
    exact Y.fg (y_X10_has_J14 (0 : Int32) h) trivial
  · refine Y.op (pc' := 10) (fun _ => X.ic ki_1 dX10_has_9) ?_
    refine Y.op (pc' := 14) (fun _ => X.goto 14 (by decide) dX10_has_10) ?_
    exact Y.fg (y_X10_has_J14 (1 : Int32) h) trivial
theorem m_X10_has {g : xG} (p1 : Int32) (p2 : Int32) (h : xH) (cl : Bool) (r : Int32 × xH) (e : f_X10_has p1 p2 h = some r) : XM g DX10_has [.int p1, .int p2] h cl (iI r) := YM.of rfl rfl (Nat.le_of_ble_eq_true rfl) (y_X10_has p1 p2 h) e
def f_X10_ones_J20 (x1 : Int32) (h : xH) : Option (Int32 × xH) :=
  some (x1, h)
theorem y_X10_ones_J20 {g : xG} {h0 : xH} {cl : Bool} (x1 : Int32) (h : xH) : Y g DX10_ones h0 cl iI (f_X10_ones_J20 x1 h) 20 [none, some (.int x1), none] [] h := by
  unfold f_X10_ones_J20
  refine Y.op (pc' := 21) (fun _ => X.iloadn rfl dX10_ones_20) ?_
  exact Y.ireturn rfl dX10_ones_21
def f_X10_ones_L4 (kE20 : Int32 → xH → Option (Int32 × xH)) : Nat → Int32 → Int32 → xH → Option (Int32 × xH)
  | 0 => fun _ _ _ => none
  | n + 1 => fun x1 x2 h =>
    if x2 = (0 : Int32) then
      kE20 x1 h
    else
      lt (x1 + (1 : Int32)) fun v1 =>
      lt ((x2 &&& (x2 - (1 : Int32)))) fun v2 =>
      f_X10_ones_L4 kE20 n v1 v2 h
theorem y_X10_ones_L4 {g : xG} {h0 : xH} {cl : Bool} {kE20 : Int32 → xH → Option (Int32 × xH)} (hkE20 : ∀ (x1 : Int32) (h : xH), Y g DX10_ones h0 cl iI (kE20 x1 h) 20 [none, some (.int x1), none] [] h) : ∀ (n : Nat) (x1 : Int32) (x2 : Int32) (h : xH), Y g DX10_ones h0 cl iI (f_X10_ones_L4 kE20 n x1 x2 h) 4 [none, some (.int x1), some (.int x2)] [] h := by
  intro n
  induction n with
  | zero => intro x1 x2 h; exact Y.nothing
  | succ n ih =>
    intro x1 x2 h
    unfold f_X10_ones_L4
    refine Y.op (pc' := 5) (fun _ => X.iloadn rfl dX10_ones_4) ?_
    refine Y.ifeq 20 (by decide) dX10_ones_5 ?_ ?_
    · exact Y.fg (hkE20 x1 h) (And.intro rfl trivial)
    · refine Y.iinc (i := 1) (loc' := fun v1 => [none, some (.int v1), some (.int x2)]) rfl (Nat.le_of_ble_eq_true rfl) ki_1 (fun _ => rfl) dX10_ones_8 (fun v1 => ?_)
      refine Y.op (pc' := 12) (fun _ => X.iloadn rfl dX10_ones_11) ?_
      refine Y.op (pc' := 13) (fun _ => X.iloadn rfl dX10_ones_12) ?_
      refine Y.op (pc' := 14) (fun _ => X.ic ki_1 dX10_ones_13) ?_
      refine Y.op (pc' := 15) (fun _ => X.isub dX10_ones_14) ?_
      refine Y.op (pc' := 16) (fun _ => X.iand dX10_ones_15) ?_
      refine Y.top (fun v2 => ?_)
      refine Y.op (pc' := 17) (loc' := [none, some (.int v1), some (.int v2)]) (fun _ => X.istoren (Nat.le_of_ble_eq_true rfl) rfl dX10_ones_16) ?_
      refine Y.op (pc' := 4) (fun _ => X.goto 4 (by decide) dX10_ones_17) ?_
      exact ih v1 v2 h
def f_X10_ones (p1 : Int32) (h : xH) : Option (Int32 × xH) :=
  f_X10_ones_L4 (f_X10_ones_J20) 5000 (0 : Int32) p1 h
theorem y_X10_ones {g : xG} {h0 : xH} {cl : Bool} (p1 : Int32) (h : xH) : Y g DX10_ones h0 cl iI (f_X10_ones p1 h) 0 [some (.int p1), none, none] [] h := by
  unfold f_X10_ones
  refine Y.op (pc' := 1) (fun _ => X.ic ki_0 dX10_ones_0) ?_
  refine Y.op (pc' := 2) (loc' := [some (.int p1), some (.int (0 : Int32)), none]) (fun _ => X.istoren (Nat.le_of_ble_eq_true rfl) rfl dX10_ones_1) ?_
  refine Y.op (pc' := 3) (fun _ => X.iloadn rfl dX10_ones_2) ?_
  refine Y.op (pc' := 4) (loc' := [some (.int p1), some (.int (0 : Int32)), some (.int p1)]) (fun _ => X.istoren (Nat.le_of_ble_eq_true rfl) rfl dX10_ones_3) ?_
  exact Y.fg (y_X10_ones_L4 (y_X10_ones_J20) 5000 (0 : Int32) p1 h) (And.intro rfl (And.intro rfl trivial))
theorem m_X10_ones {g : xG} (p1 : Int32) (h : xH) (cl : Bool) (r : Int32 × xH) (e : f_X10_ones p1 h = some r) : XM g DX10_ones [.int p1] h cl (iI r) := YM.of rfl rfl (Nat.le_of_ble_eq_true rfl) (y_X10_ones p1 h) e
def f_X10_copies_J129 (h : xH) : Option (xH) :=
  some h
theorem y_X10_copies_J129 {g : xG} {h0 : xH} {cl : Bool} (h : xH) : Y g DX10_copies h0 cl iV (f_X10_copies_J129 h) 129 [none, none, none, none, none] [] h := by
  unfold f_X10_copies_J129
  exact Y.vreturn rfl dX10_copies_129
def f_X10_copies_J123 (kH : Nat → Int32 → Int32 → Int32 → xH → Option (xH)) (kE129 : xH → Option (xH)) (x0 : Nat) (x1 : Int32) (x2 : Int32) (x3 : Int32) (h : xH) : Option (xH) :=
  lt (x3 + (1 : Int32)) fun v1 =>
  kH x0 x1 x2 v1 h
theorem y_X10_copies_J123 {g : xG} {h0 : xH} {cl : Bool} {kH : Nat → Int32 → Int32 → Int32 → xH → Option (xH)} {kE129 : xH → Option (xH)} (hkH : ∀ (x0 : Nat) (x1 : Int32) (x2 : Int32) (x3 : Int32) (h : xH), Y g DX10_copies h0 cl iV (kH x0 x1 x2 x3 h) 31 [some (.ref x0), some (.int x1), some (.int x2), some (.int x3), none] [] h) (hkE129 : ∀  (h : xH), Y g DX10_copies h0 cl iV (kE129  h) 129 [none, none, none, none, none] [] h) (x0 : Nat) (x1 : Int32) (x2 : Int32) (x3 : Int32) (h : xH) : Y g DX10_copies h0 cl iV (f_X10_copies_J123 kH kE129 x0 x1 x2 x3 h) 123 [some (.ref x0), some (.int x1), some (.int x2), some (.int x3), none] [] h := by
  unfold f_X10_copies_J123
  refine Y.iinc (i := 3) (loc' := fun v1 => [some (.ref x0), some (.int x1), some (.int x2), some (.int v1), none]) rfl (Nat.le_of_ble_eq_true rfl) ki_1 (fun _ => rfl) dX10_copies_123 (fun v1 => ?_)
  refine Y.op (pc' := 31) (fun _ => X.goto 31 (by decide) dX10_copies_126) ?_
  exact hkH x0 x1 x2 v1 h
def f_X10_copies_L88 (kE123 : Nat → Int32 → Int32 → Int32 → xH → Option (xH)) : Nat → Nat → Int32 → Int32 → Int32 → Int32 → xH → Option (xH)
  | 0 => fun _ _ _ _ _ _ => none
  | n + 1 => fun x0 x1 x2 x3 x4 h =>
    if x4 ≥ (12 : Int32) then
      kE123 x0 x1 x2 x3 h
    else
      (gR h 10 x0 13).bind fun v1 =>
      (aR 103 h v1 x2).bind fun v2 =>
      (aR 102 h v2 x3).bind fun v3 =>
      (gR h 10 x0 13).bind fun v4 =>
      (aR 103 h v4 x1).bind fun v5 =>
      (aR 102 h v5 x3).bind fun v6 =>
      (aI h v6 x4).bind fun v7 =>
      (sI h v3 x4 v7).bind fun h8 =>
      lt (x4 + (1 : Int32)) fun v9 =>
      f_X10_copies_L88 kE123 n x0 x1 x2 x3 v9 h8
theorem y_X10_copies_L88 {g : xG} {h0 : xH} {cl : Bool} {kE123 : Nat → Int32 → Int32 → Int32 → xH → Option (xH)} (hkE123 : ∀ (x0 : Nat) (x1 : Int32) (x2 : Int32) (x3 : Int32) (h : xH), Y g DX10_copies h0 cl iV (kE123 x0 x1 x2 x3 h) 123 [some (.ref x0), some (.int x1), some (.int x2), some (.int x3), none] [] h) : ∀ (n : Nat) (x0 : Nat) (x1 : Int32) (x2 : Int32) (x3 : Int32) (x4 : Int32) (h : xH), Y g DX10_copies h0 cl iV (f_X10_copies_L88 kE123 n x0 x1 x2 x3 x4 h) 88 [some (.ref x0), some (.int x1), some (.int x2), some (.int x3), some (.int x4)] [] h := by
  intro n
  induction n with
  | zero => intro x0 x1 x2 x3 x4 h; exact Y.nothing
  | succ n ih =>
    intro x0 x1 x2 x3 x4 h
    unfold f_X10_copies_L88
    refine Y.op (pc' := 90) (fun _ => X.iload rfl dX10_copies_88) ?_
    refine Y.op (pc' := 92) (fun _ => X.bp kb_12 dX10_copies_90) ?_
    refine Y.cmpge 123 (by decide) dX10_copies_92 ?_ ?_
    · exact Y.fg (hkE123 x0 x1 x2 x3 h) (And.intro rfl (And.intro rfl (And.intro rfl (And.intro rfl trivial))))
    · refine Y.op (pc' := 96) (fun _ => X.aloadn rfl dX10_copies_95) ?_
      refine Y.getR fd_X10_36 rfl dX10_copies_96 (fun v1 => ?_)
      refine Y.op (pc' := 100) (fun _ => X.iloadn rfl dX10_copies_99) ?_
      refine Y.aldR 103 (by decide) (by decide) dX10_copies_100 (fun v2 => ?_)
      refine Y.op (pc' := 102) (fun _ => X.iloadn rfl dX10_copies_101) ?_
      refine Y.aldR 102 (by decide) (by decide) dX10_copies_102 (fun v3 => ?_)
      refine Y.op (pc' := 105) (fun _ => X.iload rfl dX10_copies_103) ?_
      refine Y.op (pc' := 106) (fun _ => X.aloadn rfl dX10_copies_105) ?_
      refine Y.getR fd_X10_36 rfl dX10_copies_106 (fun v4 => ?_)
      refine Y.op (pc' := 110) (fun _ => X.iloadn rfl dX10_copies_109) ?_
      refine Y.aldR 103 (by decide) (by decide) dX10_copies_110 (fun v5 => ?_)
      refine Y.op (pc' := 112) (fun _ => X.iloadn rfl dX10_copies_111) ?_
      refine Y.aldR 102 (by decide) (by decide) dX10_copies_112 (fun v6 => ?_)
      refine Y.op (pc' := 115) (fun _ => X.iload rfl dX10_copies_113) ?_
      refine Y.aldI dX10_copies_115 (fun v7 => ?_)
      refine Y.astI dX10_copies_116 (fun h8 => ?_)
      refine Y.iinc (i := 4) (loc' := fun v9 => [some (.ref x0), some (.int x1), some (.int x2), some (.int x3), some (.int v9)]) rfl (Nat.le_of_ble_eq_true rfl) ki_1 (fun _ => rfl) dX10_copies_117 (fun v9 => ?_)
      refine Y.op (pc' := 88) (fun _ => X.goto 88 (by decide) dX10_copies_120) ?_
      exact ih x0 x1 x2 x3 v9 h8
def f_X10_copies_L31 (kE129 : xH → Option (xH)) : Nat → Nat → Int32 → Int32 → Int32 → xH → Option (xH)
  | 0 => fun _ _ _ _ _ => none
  | n + 1 => fun x0 x1 x2 x3 h =>
    if x3 ≥ (12 : Int32) then
      kE129 h
    else
      (gR h 10 x0 10).bind fun v1 =>
      (aR 102 h v1 x2).bind fun v2 =>
      (gR h 10 x0 10).bind fun v3 =>
      (aR 102 h v3 x1).bind fun v4 =>
      (aI h v4 x3).bind fun v5 =>
      (sI h v2 x3 v5).bind fun h6 =>
      (gR h6 10 x0 11).bind fun v7 =>
      (aR 102 h6 v7 x2).bind fun v8 =>
      (gR h6 10 x0 11).bind fun v9 =>
      (aR 102 h6 v9 x1).bind fun v10 =>
      (aI h6 v10 x3).bind fun v11 =>
      (sI h6 v8 x3 v11).bind fun h12 =>
      (gR h12 10 x0 12).bind fun v13 =>
      (aR 102 h12 v13 x2).bind fun v14 =>
      (gR h12 10 x0 12).bind fun v15 =>
      (aR 102 h12 v15 x1).bind fun v16 =>
      (aI h12 v16 x3).bind fun v17 =>
      (sI h12 v14 x3 v17).bind fun h18 =>
      f_X10_copies_L88 (f_X10_copies_J123 (f_X10_copies_L31 kE129 n) kE129) 5000 x0 x1 x2 x3 (0 : Int32) h18
theorem y_X10_copies_L31 {g : xG} {h0 : xH} {cl : Bool} {kE129 : xH → Option (xH)} (hkE129 : ∀  (h : xH), Y g DX10_copies h0 cl iV (kE129  h) 129 [none, none, none, none, none] [] h) : ∀ (n : Nat) (x0 : Nat) (x1 : Int32) (x2 : Int32) (x3 : Int32) (h : xH), Y g DX10_copies h0 cl iV (f_X10_copies_L31 kE129 n x0 x1 x2 x3 h) 31 [some (.ref x0), some (.int x1), some (.int x2), some (.int x3), none] [] h := by
  intro n
  induction n with
  | zero => intro x0 x1 x2 x3 h; exact Y.nothing
  | succ n ih =>
    intro x0 x1 x2 x3 h
    unfold f_X10_copies_L31
    refine Y.op (pc' := 32) (fun _ => X.iloadn rfl dX10_copies_31) ?_
    refine Y.op (pc' := 34) (fun _ => X.bp kb_12 dX10_copies_32) ?_
    refine Y.cmpge 129 (by decide) dX10_copies_34 ?_ ?_
    · exact Y.fg (hkE129 h) trivial
    · refine Y.op (pc' := 38) (fun _ => X.aloadn rfl dX10_copies_37) ?_
      refine Y.getR fd_X10_25 rfl dX10_copies_38 (fun v1 => ?_)
      refine Y.op (pc' := 42) (fun _ => X.iloadn rfl dX10_copies_41) ?_
      refine Y.aldR 102 (by decide) (by decide) dX10_copies_42 (fun v2 => ?_)
      refine Y.op (pc' := 44) (fun _ => X.iloadn rfl dX10_copies_43) ?_
      refine Y.op (pc' := 45) (fun _ => X.aloadn rfl dX10_copies_44) ?_
      refine Y.getR fd_X10_25 rfl dX10_copies_45 (fun v3 => ?_)
      refine Y.op (pc' := 49) (fun _ => X.iloadn rfl dX10_copies_48) ?_
      refine Y.aldR 102 (by decide) (by decide) dX10_copies_49 (fun v4 => ?_)
      refine Y.op (pc' := 51) (fun _ => X.iloadn rfl dX10_copies_50) ?_
      refine Y.aldI dX10_copies_51 (fun v5 => ?_)
      refine Y.astI dX10_copies_52 (fun h6 => ?_)
      refine Y.op (pc' := 54) (fun _ => X.aloadn rfl dX10_copies_53) ?_
      refine Y.getR fd_X10_28 rfl dX10_copies_54 (fun v7 => ?_)
      refine Y.op (pc' := 58) (fun _ => X.iloadn rfl dX10_copies_57) ?_
      refine Y.aldR 102 (by decide) (by decide) dX10_copies_58 (fun v8 => ?_)
      refine Y.op (pc' := 60) (fun _ => X.iloadn rfl dX10_copies_59) ?_
      refine Y.op (pc' := 61) (fun _ => X.aloadn rfl dX10_copies_60) ?_
      refine Y.getR fd_X10_28 rfl dX10_copies_61 (fun v9 => ?_)
      refine Y.op (pc' := 65) (fun _ => X.iloadn rfl dX10_copies_64) ?_
      refine Y.aldR 102 (by decide) (by decide) dX10_copies_65 (fun v10 => ?_)
      refine Y.op (pc' := 67) (fun _ => X.iloadn rfl dX10_copies_66) ?_
      refine Y.aldI dX10_copies_67 (fun v11 => ?_)
      refine Y.astI dX10_copies_68 (fun h12 => ?_)
      refine Y.op (pc' := 70) (fun _ => X.aloadn rfl dX10_copies_69) ?_
      refine Y.getR fd_X10_31 rfl dX10_copies_70 (fun v13 => ?_)
      refine Y.op (pc' := 74) (fun _ => X.iloadn rfl dX10_copies_73) ?_
      refine Y.aldR 102 (by decide) (by decide) dX10_copies_74 (fun v14 => ?_)
      refine Y.op (pc' := 76) (fun _ => X.iloadn rfl dX10_copies_75) ?_
      refine Y.op (pc' := 77) (fun _ => X.aloadn rfl dX10_copies_76) ?_
      refine Y.getR fd_X10_31 rfl dX10_copies_77 (fun v15 => ?_)
      refine Y.op (pc' := 81) (fun _ => X.iloadn rfl dX10_copies_80) ?_
      refine Y.aldR 102 (by decide) (by decide) dX10_copies_81 (fun v16 => ?_)
      refine Y.op (pc' := 83) (fun _ => X.iloadn rfl dX10_copies_82) ?_
      refine Y.aldI dX10_copies_83 (fun v17 => ?_)
      refine Y.astI dX10_copies_84 (fun h18 => ?_)
      refine Y.op (pc' := 86) (fun _ => X.ic ki_0 dX10_copies_85) ?_
      refine Y.op (pc' := 88) (loc' := [some (.ref x0), some (.int x1), some (.int x2), some (.int x3), some (.int (0 : Int32))]) (fun _ => X.istore (Nat.le_of_ble_eq_true rfl) rfl dX10_copies_86) ?_
      exact y_X10_copies_L88 (y_X10_copies_J123 ih hkE129) 5000 x0 x1 x2 x3 (0 : Int32) h18
def f_X10_copies_J29 (x0 : Nat) (x1 : Int32) (x2 : Int32) (h : xH) : Option (xH) :=
  f_X10_copies_L31 (f_X10_copies_J129) 5000 x0 x1 x2 (0 : Int32) h
theorem y_X10_copies_J29 {g : xG} {h0 : xH} {cl : Bool} (x0 : Nat) (x1 : Int32) (x2 : Int32) (h : xH) : Y g DX10_copies h0 cl iV (f_X10_copies_J29 x0 x1 x2 h) 29 [some (.ref x0), some (.int x1), some (.int x2), none, none] [] h := by
  unfold f_X10_copies_J29
  refine Y.op (pc' := 30) (fun _ => X.ic ki_0 dX10_copies_29) ?_
  refine Y.op (pc' := 31) (loc' := [some (.ref x0), some (.int x1), some (.int x2), some (.int (0 : Int32)), none]) (fun _ => X.istoren (Nat.le_of_ble_eq_true rfl) rfl dX10_copies_30) ?_
  exact y_X10_copies_L31 (y_X10_copies_J129) 5000 x0 x1 x2 (0 : Int32) h
def f_X10_copies_L2 (kE29 : Nat → Int32 → Int32 → xH → Option (xH)) : Nat → Nat → Int32 → Int32 → Int32 → xH → Option (xH)
  | 0 => fun _ _ _ _ _ => none
  | n + 1 => fun x0 x1 x2 x3 h =>
    if x3 ≥ (5 : Int32) then
      kE29 x0 x1 x2 h
    else
      (gR h 10 x0 9).bind fun v1 =>
      (aR 102 h v1 x2).bind fun v2 =>
      (gR h 10 x0 9).bind fun v3 =>
      (aR 102 h v3 x1).bind fun v4 =>
      (aI h v4 x3).bind fun v5 =>
      (sI h v2 x3 v5).bind fun h6 =>
      lt (x3 + (1 : Int32)) fun v7 =>
      f_X10_copies_L2 kE29 n x0 x1 x2 v7 h6
theorem y_X10_copies_L2 {g : xG} {h0 : xH} {cl : Bool} {kE29 : Nat → Int32 → Int32 → xH → Option (xH)} (hkE29 : ∀ (x0 : Nat) (x1 : Int32) (x2 : Int32) (h : xH), Y g DX10_copies h0 cl iV (kE29 x0 x1 x2 h) 29 [some (.ref x0), some (.int x1), some (.int x2), none, none] [] h) : ∀ (n : Nat) (x0 : Nat) (x1 : Int32) (x2 : Int32) (x3 : Int32) (h : xH), Y g DX10_copies h0 cl iV (f_X10_copies_L2 kE29 n x0 x1 x2 x3 h) 2 [some (.ref x0), some (.int x1), some (.int x2), some (.int x3), none] [] h := by
  intro n
  induction n with
  | zero => intro x0 x1 x2 x3 h; exact Y.nothing
  | succ n ih =>
    intro x0 x1 x2 x3 h
    unfold f_X10_copies_L2
    refine Y.op (pc' := 3) (fun _ => X.iloadn rfl dX10_copies_2) ?_
    refine Y.op (pc' := 4) (fun _ => X.ic ki_5 dX10_copies_3) ?_
    refine Y.cmpge 29 (by decide) dX10_copies_4 ?_ ?_
    · exact Y.fg (hkE29 x0 x1 x2 h) (And.intro rfl (And.intro rfl (And.intro rfl trivial)))
    · refine Y.op (pc' := 8) (fun _ => X.aloadn rfl dX10_copies_7) ?_
      refine Y.getR fd_X10_22 rfl dX10_copies_8 (fun v1 => ?_)
      refine Y.op (pc' := 12) (fun _ => X.iloadn rfl dX10_copies_11) ?_
      refine Y.aldR 102 (by decide) (by decide) dX10_copies_12 (fun v2 => ?_)
      refine Y.op (pc' := 14) (fun _ => X.iloadn rfl dX10_copies_13) ?_
      refine Y.op (pc' := 15) (fun _ => X.aloadn rfl dX10_copies_14) ?_
      refine Y.getR fd_X10_22 rfl dX10_copies_15 (fun v3 => ?_)
      refine Y.op (pc' := 19) (fun _ => X.iloadn rfl dX10_copies_18) ?_
      refine Y.aldR 102 (by decide) (by decide) dX10_copies_19 (fun v4 => ?_)
      refine Y.op (pc' := 21) (fun _ => X.iloadn rfl dX10_copies_20) ?_
      refine Y.aldI dX10_copies_21 (fun v5 => ?_)
      refine Y.astI dX10_copies_22 (fun h6 => ?_)
      refine Y.iinc (i := 3) (loc' := fun v7 => [some (.ref x0), some (.int x1), some (.int x2), some (.int v7), none]) rfl (Nat.le_of_ble_eq_true rfl) ki_1 (fun _ => rfl) dX10_copies_23 (fun v7 => ?_)
      refine Y.op (pc' := 2) (fun _ => X.goto 2 (by decide) dX10_copies_26) ?_
      exact ih x0 x1 x2 v7 h6
def f_X10_copies (a0 : Nat) (p1 : Int32) (p2 : Int32) (h : xH) : Option (xH) :=
  f_X10_copies_L2 (f_X10_copies_J29) 5000 a0 p1 p2 (0 : Int32) h
theorem y_X10_copies {g : xG} {h0 : xH} {cl : Bool} (a0 : Nat) (p1 : Int32) (p2 : Int32) (h : xH) : Y g DX10_copies h0 cl iV (f_X10_copies a0 p1 p2 h) 0 [some (.ref a0), some (.int p1), some (.int p2), none, none] [] h := by
  unfold f_X10_copies
  refine Y.op (pc' := 1) (fun _ => X.ic ki_0 dX10_copies_0) ?_
  refine Y.op (pc' := 2) (loc' := [some (.ref a0), some (.int p1), some (.int p2), some (.int (0 : Int32)), none]) (fun _ => X.istoren (Nat.le_of_ble_eq_true rfl) rfl dX10_copies_1) ?_
  exact y_X10_copies_L2 (y_X10_copies_J29) 5000 a0 p1 p2 (0 : Int32) h
theorem m_X10_copies {g : xG} (a0 : Nat) (p1 : Int32) (p2 : Int32) (h : xH) (cl : Bool) (r : xH) (e : f_X10_copies a0 p1 p2 h = some r) : XM g DX10_copies [.ref a0, .int p1, .int p2] h cl (iV r) := YM.of rfl rfl (Nat.le_of_ble_eq_true rfl) (y_X10_copies a0 p1 p2 h) e
def f_X10_feed_J120 (x0 : Nat) (h : xH) : Option (Int32 × xH) :=
  (gI h 10 x0 2).bind fun v1 =>
  some (v1, h)
theorem y_X10_feed_J120 {g : xG} {h0 : xH} {cl : Bool} (x0 : Nat) (h : xH) : Y g DX10_feed h0 cl iI (f_X10_feed_J120 x0 h) 120 [some (.ref x0), none, none, none, none, none, none, none] [] h := by
  unfold f_X10_feed_J120
  refine Y.op (pc' := 121) (fun _ => X.aloadn rfl dX10_feed_120) ?_
  refine Y.getI fd_X10_85 rfl dX10_feed_121 (fun v1 => ?_)
  exact Y.ireturn rfl dX10_feed_124
def f_X10_feed_J76 (kH : Nat → Int32 → Int32 → Int32 → Int32 → Int32 → Int32 → xH → Option (Int32 × xH)) (kE120 : Nat → xH → Option (Int32 × xH)) (x0 : Nat) (x1 : Int32) (x2 : Int32) (x3 : Int32) (x4 : Int32) (x5 : Int32) (x6 : Int32) (s0 : Int32) (h : xH) : Option (Int32 × xH) :=
  (gR h 10 x0 8).bind fun v1 =>
  (gI h 10 x0 2).bind fun v2 =>
  (sI h v1 v2 ((s0 >>> (((24 : Int32) - ((8 : Int32) * (x6 - x6 / (4 : Int32) * (4 : Int32)))) &&& 31)) &&& (255 : Int32))).bind fun h3 =>
  (gI h3 10 x0 2).bind fun v4 =>
  (pI h3 10 x0 2 (v4 + (1 : Int32))).bind fun h5 =>
  lt (x6 + (1 : Int32)) fun v6 =>
  kH x0 x1 x2 x3 x4 x5 v6 h5
theorem y_X10_feed_J76 {g : xG} {h0 : xH} {cl : Bool} {kH : Nat → Int32 → Int32 → Int32 → Int32 → Int32 → Int32 → xH → Option (Int32 × xH)} {kE120 : Nat → xH → Option (Int32 × xH)} (hkH : ∀ (x0 : Nat) (x1 : Int32) (x2 : Int32) (x3 : Int32) (x4 : Int32) (x5 : Int32) (x6 : Int32) (h : xH), Y g DX10_feed h0 cl iI (kH x0 x1 x2 x3 x4 x5 x6 h) 23 [some (.ref x0), some (.int x1), some (.int x2), some (.int x3), some (.int x4), some (.int x5), some (.int x6), none] [] h) (hkE120 : ∀ (x0 : Nat) (h : xH), Y g DX10_feed h0 cl iI (kE120 x0 h) 120 [some (.ref x0), none, none, none, none, none, none, none] [] h) (x0 : Nat) (x1 : Int32) (x2 : Int32) (x3 : Int32) (x4 : Int32) (x5 : Int32) (x6 : Int32) (s0 : Int32) (h : xH) : Y g DX10_feed h0 cl iI (f_X10_feed_J76 kH kE120 x0 x1 x2 x3 x4 x5 x6 s0 h) 76 [some (.ref x0), some (.int x1), some (.int x2), some (.int x3), some (.int x4), some (.int x5), some (.int x6), none] [.int s0] h := by
  unfold f_X10_feed_J76
  refine Y.op (pc' := 78) (loc' := [some (.ref x0), some (.int x1), some (.int x2), some (.int x3), some (.int x4), some (.int x5), some (.int x6), some (.int s0)]) (fun _ => X.istore (Nat.le_of_ble_eq_true rfl) rfl dX10_feed_76) ?_
  refine Y.op (pc' := 79) (fun _ => X.aloadn rfl dX10_feed_78) ?_
  refine Y.getR fd_X10_17 rfl dX10_feed_79 (fun v1 => ?_)
  refine Y.op (pc' := 83) (fun _ => X.aloadn rfl dX10_feed_82) ?_
  refine Y.getI fd_X10_85 rfl dX10_feed_83 (fun v2 => ?_)
  refine Y.op (pc' := 88) (fun _ => X.iload rfl dX10_feed_86) ?_
  refine Y.op (pc' := 90) (fun _ => X.bp kb_24 dX10_feed_88) ?_
  refine Y.op (pc' := 92) (fun _ => X.bp kb_8 dX10_feed_90) ?_
  refine Y.op (pc' := 94) (fun _ => X.iload rfl dX10_feed_92) ?_
  refine Y.op (pc' := 95) (fun _ => X.ic ki_4 dX10_feed_94) ?_
  refine Y.op (pc' := 96) (fun _ => X.irem (by decide) dX10_feed_95) ?_
  refine Y.op (pc' := 97) (fun _ => X.imul dX10_feed_96) ?_
  refine Y.op (pc' := 98) (fun _ => X.isub dX10_feed_97) ?_
  refine Y.op (pc' := 99) (fun _ => X.ishr dX10_feed_98) ?_
  refine Y.op (pc' := 102) (fun _ => X.sp ks_255 dX10_feed_99) ?_
  refine Y.op (pc' := 103) (fun _ => X.iand dX10_feed_102) ?_
  refine Y.astI dX10_feed_103 (fun h3 => ?_)
  refine Y.op (pc' := 105) (fun _ => X.aloadn rfl dX10_feed_104) ?_
  refine Y.op (pc' := 106) (fun _ => X.dup rfl dX10_feed_105) ?_
  refine Y.getI fd_X10_85 rfl dX10_feed_106 (fun v4 => ?_)
  refine Y.op (pc' := 110) (fun _ => X.ic ki_1 dX10_feed_109) ?_
  refine Y.op (pc' := 111) (fun _ => X.iadd dX10_feed_110) ?_
  refine Y.putI fd_X10_85 rfl dX10_feed_111 (fun h5 => ?_)
  refine Y.iinc (i := 6) (loc' := fun v6 => [some (.ref x0), some (.int x1), some (.int x2), some (.int x3), some (.int x4), some (.int x5), some (.int v6), some (.int s0)]) rfl (Nat.le_of_ble_eq_true rfl) ki_1 (fun _ => rfl) dX10_feed_114 (fun v6 => ?_)
  refine Y.op (pc' := 23) (fun _ => X.goto 23 (by decide) dX10_feed_117) ?_
  exact Y.fg (hkH x0 x1 x2 x3 x4 x5 v6 h5) (And.intro rfl (And.intro rfl (And.intro rfl (And.intro rfl (And.intro rfl (And.intro rfl (And.intro rfl trivial)))))))
def f_X10_feed_L23 (kE120 : Nat → xH → Option (Int32 × xH)) : Nat → Nat → Int32 → Int32 → Int32 → Int32 → Int32 → Int32 → xH → Option (Int32 × xH)
  | 0 => fun _ _ _ _ _ _ _ _ => none
  | n + 1 => fun x0 x1 x2 x3 x4 x5 x6 h =>
    if x6 ≥ (20 : Int32) then
      kE120 x0 h
    else
      if x6 ≥ (4 : Int32) then
        if x6 ≥ (8 : Int32) then
          if x6 ≥ (12 : Int32) then
            if x6 ≥ (16 : Int32) then
              f_X10_feed_J76 (f_X10_feed_L23 kE120 n) kE120 x0 x1 x2 x3 x4 x5 x6 x5 h
            else
              f_X10_feed_J76 (f_X10_feed_L23 kE120 n) kE120 x0 x1 x2 x3 x4 x5 x6 x4 h
          else
            f_X10_feed_J76 (f_X10_feed_L23 kE120 n) kE120 x0 x1 x2 x3 x4 x5 x6 x3 h
        else
          f_X10_feed_J76 (f_X10_feed_L23 kE120 n) kE120 x0 x1 x2 x3 x4 x5 x6 x2 h
      else
        f_X10_feed_J76 (f_X10_feed_L23 kE120 n) kE120 x0 x1 x2 x3 x4 x5 x6 x1 h
theorem y_X10_feed_L23 {g : xG} {h0 : xH} {cl : Bool} {kE120 : Nat → xH → Option (Int32 × xH)} (hkE120 : ∀ (x0 : Nat) (h : xH), Y g DX10_feed h0 cl iI (kE120 x0 h) 120 [some (.ref x0), none, none, none, none, none, none, none] [] h) : ∀ (n : Nat) (x0 : Nat) (x1 : Int32) (x2 : Int32) (x3 : Int32) (x4 : Int32) (x5 : Int32) (x6 : Int32) (h : xH), Y g DX10_feed h0 cl iI (f_X10_feed_L23 kE120 n x0 x1 x2 x3 x4 x5 x6 h) 23 [some (.ref x0), some (.int x1), some (.int x2), some (.int x3), some (.int x4), some (.int x5), some (.int x6), none] [] h := by
  intro n
  induction n with
  | zero => intro x0 x1 x2 x3 x4 x5 x6 h; exact Y.nothing
  | succ n ih =>
    intro x0 x1 x2 x3 x4 x5 x6 h
    unfold f_X10_feed_L23
    refine Y.op (pc' := 25) (fun _ => X.iload rfl dX10_feed_23) ?_
    refine Y.op (pc' := 27) (fun _ => X.bp kb_20 dX10_feed_25) ?_
    refine Y.cmpge 120 (by decide) dX10_feed_27 ?_ ?_
    · exact Y.fg (hkE120 x0 h) (And.intro rfl trivial)
    · refine Y.op (pc' := 32) (fun _ => X.iload rfl dX10_feed_30) ?_
      refine Y.op (pc' := 33) (fun _ => X.ic ki_4 dX10_feed_32) ?_
      refine Y.cmpge 40 (by decide) dX10_feed_33 ?_ ?_
      · refine Y.op (pc' := 42) (fun _ => X.iload rfl dX10_feed_40) ?_
        refine Y.op (pc' := 44) (fun _ => X.bp kb_8 dX10_feed_42) ?_
        refine Y.cmpge 51 (by decide) dX10_feed_44 ?_ ?_
        · refine Y.op (pc' := 53) (fun _ => X.iload rfl dX10_feed_51) ?_
          refine Y.op (pc' := 55) (fun _ => X.bp kb_12 dX10_feed_53) ?_
          refine Y.cmpge 62 (by decide) dX10_feed_55 ?_ ?_
          · refine Y.op (pc' := 64) (fun _ => X.iload rfl dX10_feed_62) ?_
            refine Y.op (pc' := 66) (fun _ => X.bp kb_16 dX10_feed_64) ?_
            refine Y.cmpge 74 (by decide) dX10_feed_66 ?_ ?_
            · refine Y.op (pc' := 76) (fun _ => X.iload rfl dX10_feed_74) ?_
              exact y_X10_feed_J76 ih hkE120 x0 x1 x2 x3 x4 x5 x6 x5 h
            · refine Y.op (pc' := 71) (fun _ => X.iload rfl dX10_feed_69) ?_
              refine Y.op (pc' := 76) (fun _ => X.goto 76 (by decide) dX10_feed_71) ?_
              exact y_X10_feed_J76 ih hkE120 x0 x1 x2 x3 x4 x5 x6 x4 h
          · refine Y.op (pc' := 59) (fun _ => X.iloadn rfl dX10_feed_58) ?_
            refine Y.op (pc' := 76) (fun _ => X.goto 76 (by decide) dX10_feed_59) ?_
            exact y_X10_feed_J76 ih hkE120 x0 x1 x2 x3 x4 x5 x6 x3 h
        · refine Y.op (pc' := 48) (fun _ => X.iloadn rfl dX10_feed_47) ?_
          refine Y.op (pc' := 76) (fun _ => X.goto 76 (by decide) dX10_feed_48) ?_
          exact y_X10_feed_J76 ih hkE120 x0 x1 x2 x3 x4 x5 x6 x2 h
      · refine Y.op (pc' := 37) (fun _ => X.iloadn rfl dX10_feed_36) ?_
        refine Y.op (pc' := 76) (fun _ => X.goto 76 (by decide) dX10_feed_37) ?_
        exact y_X10_feed_J76 ih hkE120 x0 x1 x2 x3 x4 x5 x6 x1 h
def f_X10_feed (a0 : Nat) (p1 : Int32) (p2 : Int32) (p3 : Int32) (p4 : Int32) (p5 : Int32) (h : xH) : Option (Int32 × xH) :=
  (pI h 10 a0 0 (0 : Int32)).bind fun h1 =>
  (gI h1 10 a0 2).bind fun v2 =>
  if (v2 + (20 : Int32)) ≤ (300 : Int32) then
    f_X10_feed_L23 (f_X10_feed_J120) 5000 a0 p1 p2 p3 p4 p5 (0 : Int32) h1
  else
    some ((-1 : Int32), h1)
theorem y_X10_feed {g : xG} {h0 : xH} {cl : Bool} (a0 : Nat) (p1 : Int32) (p2 : Int32) (p3 : Int32) (p4 : Int32) (p5 : Int32) (h : xH) : Y g DX10_feed h0 cl iI (f_X10_feed a0 p1 p2 p3 p4 p5 h) 0 [some (.ref a0), some (.int p1), some (.int p2), some (.int p3), some (.int p4), some (.int p5), none, none] [] h := by
  unfold f_X10_feed
  refine Y.op (pc' := 1) (fun _ => X.aloadn rfl dX10_feed_0) ?_
  refine Y.op (pc' := 2) (fun _ => X.ic ki_0 dX10_feed_1) ?_
  refine Y.putI fd_X10_82 rfl dX10_feed_2 (fun h1 => ?_)
  refine Y.op (pc' := 6) (fun _ => X.aloadn rfl dX10_feed_5) ?_
  refine Y.getI fd_X10_85 rfl dX10_feed_6 (fun v2 => ?_)
  refine Y.op (pc' := 11) (fun _ => X.bp kb_20 dX10_feed_9) ?_
  refine Y.op (pc' := 12) (fun _ => X.iadd dX10_feed_11) ?_
  refine Y.op (pc' := 15) (fun _ => X.sp ks_300 dX10_feed_12) ?_
  refine Y.cmple 20 (by decide) dX10_feed_15 ?_ ?_
  · refine Y.op (pc' := 21) (fun _ => X.ic ki_0 dX10_feed_20) ?_
    refine Y.op (pc' := 23) (loc' := [some (.ref a0), some (.int p1), some (.int p2), some (.int p3), some (.int p4), some (.int p5), some (.int (0 : Int32)), none]) (fun _ => X.istore (Nat.le_of_ble_eq_true rfl) rfl dX10_feed_21) ?_
    exact y_X10_feed_L23 (y_X10_feed_J120) 5000 a0 p1 p2 p3 p4 p5 (0 : Int32) h1
  · refine Y.op (pc' := 19) (fun _ => X.ic ki_m1 dX10_feed_18) ?_
    exact Y.ireturn rfl dX10_feed_19
theorem m_X10_feed {g : xG} (a0 : Nat) (p1 : Int32) (p2 : Int32) (p3 : Int32) (p4 : Int32) (p5 : Int32) (h : xH) (cl : Bool) (r : Int32 × xH) (e : f_X10_feed a0 p1 p2 p3 p4 p5 h = some r) : XM g DX10_feed [.ref a0, .int p1, .int p2, .int p3, .int p4, .int p5] h cl (iI r) := YM.of rfl rfl (Nat.le_of_ble_eq_true rfl) (y_X10_feed a0 p1 p2 p3 p4 p5 h) e
def f_X10_byteAt_J18 (s0 : Int32) (h : xH) : Option (Int32 × xH) :=
  some (s0, h)
theorem y_X10_byteAt_J18 {g : xG} {h0 : xH} {cl : Bool} (s0 : Int32) (h : xH) : Y g DX10_byteAt h0 cl iI (f_X10_byteAt_J18 s0 h) 18 [none, none] [.int s0] h := by
  unfold f_X10_byteAt_J18
  exact Y.ireturn rfl dX10_byteAt_18
def f_X10_byteAt (a0 : Nat) (p1 : Int32) (h : xH) : Option (Int32 × xH) :=
  (gI h 10 a0 3).bind fun v1 =>
  if p1 < v1 then
    (gR h 10 a0 8).bind fun v2 =>
    (aI h v2 p1).bind fun v3 =>
    f_X10_byteAt_J18 v3 h
  else
    f_X10_byteAt_J18 (-1 : Int32) h
theorem y_X10_byteAt {g : xG} {h0 : xH} {cl : Bool} (a0 : Nat) (p1 : Int32) (h : xH) : Y g DX10_byteAt h0 cl iI (f_X10_byteAt a0 p1 h) 0 [some (.ref a0), some (.int p1)] [] h := by
  unfold f_X10_byteAt
  refine Y.op (pc' := 1) (fun _ => X.iloadn rfl dX10_byteAt_0) ?_
  refine Y.op (pc' := 2) (fun _ => X.aloadn rfl dX10_byteAt_1) ?_
  refine Y.getI fd_X10_88 rfl dX10_byteAt_2 (fun v1 => ?_)
  refine Y.cmplt 12 (by decide) dX10_byteAt_5 ?_ ?_
  · refine Y.op (pc' := 13) (fun _ => X.aloadn rfl dX10_byteAt_12) ?_
    refine Y.getR fd_X10_17 rfl dX10_byteAt_13 (fun v2 => ?_)
    refine Y.op (pc' := 17) (fun _ => X.iloadn rfl dX10_byteAt_16) ?_
    refine Y.aldI dX10_byteAt_17 (fun v3 => ?_)
    exact Y.fg (y_X10_byteAt_J18 v3 h) trivial
  · refine Y.op (pc' := 9) (fun _ => X.ic ki_m1 dX10_byteAt_8) ?_
    refine Y.op (pc' := 18) (fun _ => X.goto 18 (by decide) dX10_byteAt_9) ?_
    exact Y.fg (y_X10_byteAt_J18 (-1 : Int32) h) trivial
theorem m_X10_byteAt {g : xG} (a0 : Nat) (p1 : Int32) (h : xH) (cl : Bool) (r : Int32 × xH) (e : f_X10_byteAt a0 p1 h = some r) : XM g DX10_byteAt [.ref a0, .int p1] h cl (iI r) := YM.of rfl rfl (Nat.le_of_ble_eq_true rfl) (y_X10_byteAt a0 p1 h) e
def f_X10_here_J26 (x0 : Nat) (h : xH) : Option (Int32 × xH) :=
  (gI h 10 x0 4).bind fun v1 =>
  (vc h 10 x0 (f_X10_byteAt x0 v1 h)).bind fun r2 =>
  some (r2.1, r2.2)
theorem y_X10_here_J26 {g : xG} {h0 : xH} {cl : Bool} (x0 : Nat) (h : xH) : Y g DX10_here h0 cl iI (f_X10_here_J26 x0 h) 26 [some (.ref x0)] [] h := by
  unfold f_X10_here_J26
  refine Y.op (pc' := 27) (fun _ => X.aloadn rfl dX10_here_26) ?_
  refine Y.op (pc' := 28) (fun _ => X.aloadn rfl dX10_here_27) ?_
  refine Y.getI fd_X10_91 rfl dX10_here_28 (fun v1 => ?_)
  refine Y.callVi (As := [.int v1]) lk_X10_94 rfl cal_X10_byteAt vir_X10_byteAt (Nat.le_of_ble_eq_true rfl) (Nat.le_of_ble_eq_true rfl) rfl rfl rfl (Nat.le_of_ble_eq_true rfl) dX10_here_31 (fun _ e => m_X10_byteAt x0 v1 h _ _ e) (fun r2 => ?_)
  exact Y.ireturn rfl dX10_here_34
def f_X10_here_L0 (kE26 : Nat → xH → Option (Int32 × xH)) : Nat → Nat → xH → Option (Int32 × xH)
  | 0 => fun _ _ => none
  | n + 1 => fun x0 h =>
    (gI h 10 x0 4).bind fun v1 =>
    (vc h 10 x0 (f_X10_byteAt x0 v1 h)).bind fun r2 =>
    if r2.1 = (32 : Int32) then
      (gI r2.2 10 x0 4).bind fun v3 =>
      (pI r2.2 10 x0 4 (v3 + (1 : Int32))).bind fun h4 =>
      f_X10_here_L0 kE26 n x0 h4
    else
      kE26 x0 r2.2
theorem y_X10_here_L0 {g : xG} {h0 : xH} {cl : Bool} {kE26 : Nat → xH → Option (Int32 × xH)} (hkE26 : ∀ (x0 : Nat) (h : xH), Y g DX10_here h0 cl iI (kE26 x0 h) 26 [some (.ref x0)] [] h) : ∀ (n : Nat) (x0 : Nat) (h : xH), Y g DX10_here h0 cl iI (f_X10_here_L0 kE26 n x0 h) 0 [some (.ref x0)] [] h := by
  intro n
  induction n with
  | zero => intro x0 h; exact Y.nothing
  | succ n ih =>
    intro x0 h
    unfold f_X10_here_L0
    refine Y.op (pc' := 1) (fun _ => X.aloadn rfl dX10_here_0) ?_
    refine Y.op (pc' := 2) (fun _ => X.aloadn rfl dX10_here_1) ?_
    refine Y.getI fd_X10_91 rfl dX10_here_2 (fun v1 => ?_)
    refine Y.callVi (As := [.int v1]) lk_X10_94 rfl cal_X10_byteAt vir_X10_byteAt (Nat.le_of_ble_eq_true rfl) (Nat.le_of_ble_eq_true rfl) rfl rfl rfl (Nat.le_of_ble_eq_true rfl) dX10_here_5 (fun _ e => m_X10_byteAt x0 v1 h _ _ e) (fun r2 => ?_)
    refine Y.op (pc' := 10) (fun _ => X.bp kb_32 dX10_here_8) ?_
    refine Y.cmpne 26 (by decide) dX10_here_10 ?_ ?_
    · exact hkE26 x0 r2.2
    · refine Y.op (pc' := 14) (fun _ => X.aloadn rfl dX10_here_13) ?_
      refine Y.op (pc' := 15) (fun _ => X.dup rfl dX10_here_14) ?_
      refine Y.getI fd_X10_91 rfl dX10_here_15 (fun v3 => ?_)
      refine Y.op (pc' := 19) (fun _ => X.ic ki_1 dX10_here_18) ?_
      refine Y.op (pc' := 20) (fun _ => X.iadd dX10_here_19) ?_
      refine Y.putI fd_X10_91 rfl dX10_here_20 (fun h4 => ?_)
      refine Y.op (pc' := 0) (fun _ => X.goto 0 (by decide) dX10_here_23) ?_
      exact ih x0 h4
def f_X10_here (a0 : Nat) (h : xH) : Option (Int32 × xH) :=
  f_X10_here_L0 (f_X10_here_J26) 5000 a0 h
theorem y_X10_here {g : xG} {h0 : xH} {cl : Bool} (a0 : Nat) (h : xH) : Y g DX10_here h0 cl iI (f_X10_here a0 h) 0 [some (.ref a0)] [] h := by
  unfold f_X10_here
  exact y_X10_here_L0 (y_X10_here_J26) 5000 a0 h
theorem m_X10_here {g : xG} (a0 : Nat) (h : xH) (cl : Bool) (r : Int32 × xH) (e : f_X10_here a0 h = some r) : XM g DX10_here [.ref a0] h cl (iI r) := YM.of rfl rfl (Nat.le_of_ble_eq_true rfl) (y_X10_here a0 h) e
def f_X10_fine_J12 (s0 : Int32) (h : xH) : Option (Int32 × xH) :=
  if s0 = 0 ∨ s0 = 1 then some (s0, h) else none
theorem y_X10_fine_J12 {g : xG} {h0 : xH} {cl : Bool} (s0 : Int32) (h : xH) : Y g DX10_fine h0 cl iI (f_X10_fine_J12 s0 h) 12 [none] [.int s0] h := by
  unfold f_X10_fine_J12
  exact Y.zreturn rfl dX10_fine_12
def f_X10_fine (a0 : Nat) (h : xH) : Option (Int32 × xH) :=
  (gI h 10 a0 6).bind fun v1 =>
  if v1 = (0 : Int32) then
    f_X10_fine_J12 (1 : Int32) h
  else
    f_X10_fine_J12 (0 : Int32) h
theorem y_X10_fine {g : xG} {h0 : xH} {cl : Bool} (a0 : Nat) (h : xH) : Y g DX10_fine h0 cl iI (f_X10_fine a0 h) 0 [some (.ref a0)] [] h := by
  unfold f_X10_fine
  refine Y.op (pc' := 1) (fun _ => X.aloadn rfl dX10_fine_0) ?_
  refine Y.getI fd_X10_98 rfl dX10_fine_1 (fun v1 => ?_)
  refine Y.ifne 11 (by decide) dX10_fine_4 ?_ ?_
  · refine Y.op (pc' := 12) (fun _ => X.ic ki_0 dX10_fine_11) ?_
    exact Y.fg (y_X10_fine_J12 (0 : Int32) h) trivial
  · refine Y.op (pc' := 8) (fun _ => X.ic ki_1 dX10_fine_7) ?_
    refine Y.op (pc' := 12) (fun _ => X.goto 12 (by decide) dX10_fine_8) ?_
    exact Y.fg (y_X10_fine_J12 (1 : Int32) h) trivial
theorem m_X10_fine {g : xG} (a0 : Nat) (h : xH) (cl : Bool) (r : Int32 × xH) (e : f_X10_fine a0 h = some r) : XM g DX10_fine [.ref a0] h cl (iI r) := YM.of rfl rfl (Nat.le_of_ble_eq_true rfl) (y_X10_fine a0 h) e
def f_X10_wrong_J17 (h : xH) : Option (xH) :=
  some h
theorem y_X10_wrong_J17 {g : xG} {h0 : xH} {cl : Bool} (h : xH) : Y g DX10_wrong h0 cl iV (f_X10_wrong_J17 h) 17 [none, none, none] [] h := by
  unfold f_X10_wrong_J17
  exact Y.vreturn rfl dX10_wrong_17
def f_X10_wrong (a0 : Nat) (p1 : Int32) (p2 : Int32) (h : xH) : Option (xH) :=
  (gI h 10 a0 6).bind fun v1 =>
  if v1 = (0 : Int32) then
    (pI h 10 a0 6 p1).bind fun h2 =>
    (pI h2 10 a0 7 p2).bind fun h3 =>
    f_X10_wrong_J17 h3
  else
    f_X10_wrong_J17 h
theorem y_X10_wrong {g : xG} {h0 : xH} {cl : Bool} (a0 : Nat) (p1 : Int32) (p2 : Int32) (h : xH) : Y g DX10_wrong h0 cl iV (f_X10_wrong a0 p1 p2 h) 0 [some (.ref a0), some (.int p1), some (.int p2)] [] h := by
  unfold f_X10_wrong
  refine Y.op (pc' := 1) (fun _ => X.aloadn rfl dX10_wrong_0) ?_
  refine Y.getI fd_X10_98 rfl dX10_wrong_1 (fun v1 => ?_)
  refine Y.ifne 17 (by decide) dX10_wrong_4 ?_ ?_
  · exact Y.fg (y_X10_wrong_J17 h) trivial
  · refine Y.op (pc' := 8) (fun _ => X.aloadn rfl dX10_wrong_7) ?_
    refine Y.op (pc' := 9) (fun _ => X.iloadn rfl dX10_wrong_8) ?_
    refine Y.putI fd_X10_98 rfl dX10_wrong_9 (fun h2 => ?_)
    refine Y.op (pc' := 13) (fun _ => X.aloadn rfl dX10_wrong_12) ?_
    refine Y.op (pc' := 14) (fun _ => X.iloadn rfl dX10_wrong_13) ?_
    refine Y.putI fd_X10_101 rfl dX10_wrong_14 (fun h3 => ?_)
    exact Y.fg (y_X10_wrong_J17 h3) trivial
theorem m_X10_wrong {g : xG} (a0 : Nat) (p1 : Int32) (p2 : Int32) (h : xH) (cl : Bool) (r : xH) (e : f_X10_wrong a0 p1 p2 h = some r) : XM g DX10_wrong [.ref a0, .int p1, .int p2] h cl (iV r) := YM.of rfl rfl (Nat.le_of_ble_eq_true rfl) (y_X10_wrong a0 p1 p2 h) e
def f_X10_isDigit_J17 (s0 : Int32) (h : xH) : Option (Int32 × xH) :=
  if s0 = 0 ∨ s0 = 1 then some (s0, h) else none
theorem y_X10_isDigit_J17 {g : xG} {h0 : xH} {cl : Bool} (s0 : Int32) (h : xH) : Y g DX10_isDigit h0 cl iI (f_X10_isDigit_J17 s0 h) 17 [none] [.int s0] h := by
  unfold f_X10_isDigit_J17
  exact Y.zreturn rfl dX10_isDigit_17
def f_X10_isDigit_J16 (h : xH) : Option (Int32 × xH) :=
  f_X10_isDigit_J17 (0 : Int32) h
theorem y_X10_isDigit_J16 {g : xG} {h0 : xH} {cl : Bool} (h : xH) : Y g DX10_isDigit h0 cl iI (f_X10_isDigit_J16 h) 16 [none] [] h := by
  unfold f_X10_isDigit_J16
  refine Y.op (pc' := 17) (fun _ => X.ic ki_0 dX10_isDigit_16) ?_
  exact y_X10_isDigit_J17 (0 : Int32) h
def f_X10_isDigit (p1 : Int32) (h : xH) : Option (Int32 × xH) :=
  if p1 < (48 : Int32) then
    f_X10_isDigit_J16 h
  else
    if p1 > (57 : Int32) then
      f_X10_isDigit_J16 h
    else
      f_X10_isDigit_J17 (1 : Int32) h
theorem y_X10_isDigit {g : xG} {h0 : xH} {cl : Bool} (p1 : Int32) (h : xH) : Y g DX10_isDigit h0 cl iI (f_X10_isDigit p1 h) 0 [some (.int p1)] [] h := by
  unfold f_X10_isDigit
  refine Y.op (pc' := 1) (fun _ => X.iloadn rfl dX10_isDigit_0) ?_
  refine Y.op (pc' := 3) (fun _ => X.bp kb_48 dX10_isDigit_1) ?_
  refine Y.cmplt 16 (by decide) dX10_isDigit_3 ?_ ?_
  · exact Y.fg (y_X10_isDigit_J16 h) trivial
  · refine Y.op (pc' := 7) (fun _ => X.iloadn rfl dX10_isDigit_6) ?_
    refine Y.op (pc' := 9) (fun _ => X.bp kb_57 dX10_isDigit_7) ?_
    refine Y.cmpgt 16 (by decide) dX10_isDigit_9 ?_ ?_
    · exact Y.fg (y_X10_isDigit_J16 h) trivial
    · refine Y.op (pc' := 13) (fun _ => X.ic ki_1 dX10_isDigit_12) ?_
      refine Y.op (pc' := 17) (fun _ => X.goto 17 (by decide) dX10_isDigit_13) ?_
      exact Y.fg (y_X10_isDigit_J17 (1 : Int32) h) trivial
theorem m_X10_isDigit {g : xG} (p1 : Int32) (h : xH) (cl : Bool) (r : Int32 × xH) (e : f_X10_isDigit p1 h = some r) : XM g DX10_isDigit [.int p1] h cl (iI r) := YM.of rfl rfl (Nat.le_of_ble_eq_true rfl) (y_X10_isDigit p1 h) e
def f_X10_isSmall_J17 (s0 : Int32) (h : xH) : Option (Int32 × xH) :=
  if s0 = 0 ∨ s0 = 1 then some (s0, h) else none
theorem y_X10_isSmall_J17 {g : xG} {h0 : xH} {cl : Bool} (s0 : Int32) (h : xH) : Y g DX10_isSmall h0 cl iI (f_X10_isSmall_J17 s0 h) 17 [none] [.int s0] h := by
  unfold f_X10_isSmall_J17
  exact Y.zreturn rfl dX10_isSmall_17
def f_X10_isSmall_J16 (h : xH) : Option (Int32 × xH) :=
  f_X10_isSmall_J17 (0 : Int32) h
theorem y_X10_isSmall_J16 {g : xG} {h0 : xH} {cl : Bool} (h : xH) : Y g DX10_isSmall h0 cl iI (f_X10_isSmall_J16 h) 16 [none] [] h := by
  unfold f_X10_isSmall_J16
  refine Y.op (pc' := 17) (fun _ => X.ic ki_0 dX10_isSmall_16) ?_
  exact y_X10_isSmall_J17 (0 : Int32) h
def f_X10_isSmall (p1 : Int32) (h : xH) : Option (Int32 × xH) :=
  if p1 < (97 : Int32) then
    f_X10_isSmall_J16 h
  else
    if p1 > (122 : Int32) then
      f_X10_isSmall_J16 h
    else
      f_X10_isSmall_J17 (1 : Int32) h
theorem y_X10_isSmall {g : xG} {h0 : xH} {cl : Bool} (p1 : Int32) (h : xH) : Y g DX10_isSmall h0 cl iI (f_X10_isSmall p1 h) 0 [some (.int p1)] [] h := by
  unfold f_X10_isSmall
  refine Y.op (pc' := 1) (fun _ => X.iloadn rfl dX10_isSmall_0) ?_
  refine Y.op (pc' := 3) (fun _ => X.bp kb_97 dX10_isSmall_1) ?_
  refine Y.cmplt 16 (by decide) dX10_isSmall_3 ?_ ?_
  · exact Y.fg (y_X10_isSmall_J16 h) trivial
  · refine Y.op (pc' := 7) (fun _ => X.iloadn rfl dX10_isSmall_6) ?_
    refine Y.op (pc' := 9) (fun _ => X.bp kb_122 dX10_isSmall_7) ?_
    refine Y.cmpgt 16 (by decide) dX10_isSmall_9 ?_ ?_
    · exact Y.fg (y_X10_isSmall_J16 h) trivial
    · refine Y.op (pc' := 13) (fun _ => X.ic ki_1 dX10_isSmall_12) ?_
      refine Y.op (pc' := 17) (fun _ => X.goto 17 (by decide) dX10_isSmall_13) ?_
      exact Y.fg (y_X10_isSmall_J17 (1 : Int32) h) trivial
theorem m_X10_isSmall {g : xG} (p1 : Int32) (h : xH) (cl : Bool) (r : Int32 × xH) (e : f_X10_isSmall p1 h = some r) : XM g DX10_isSmall [.int p1] h cl (iI r) := YM.of rfl rfl (Nat.le_of_ble_eq_true rfl) (y_X10_isSmall p1 h) e
def f_X10_number_J117 (s0 : Int32) (h : xH) : Option (Int32 × xH) :=
  some (s0, h)
theorem y_X10_number_J117 {g : xG} {h0 : xH} {cl : Bool} (s0 : Int32) (h : xH) : Y g DX10_number h0 cl iI (f_X10_number_J117 s0 h) 117 [none, none, none, none] [.int s0] h := by
  unfold f_X10_number_J117
  exact Y.ireturn rfl dX10_number_117
def f_X10_number_J105 (x0 : Nat) (x1 : Int32) (x3 : Int32) (h : xH) : Option (Int32 × xH) :=
  (vc h 10 x0 (f_X10_fine x0 h)).bind fun r1 =>
  if r1.1 = (0 : Int32) then
    f_X10_number_J117 x1 r1.2
  else
    f_X10_number_J117 x3 r1.2
theorem y_X10_number_J105 {g : xG} {h0 : xH} {cl : Bool} (x0 : Nat) (x1 : Int32) (x3 : Int32) (h : xH) : Y g DX10_number h0 cl iI (f_X10_number_J105 x0 x1 x3 h) 105 [some (.ref x0), some (.int x1), none, some (.int x3)] [] h := by
  unfold f_X10_number_J105
  refine Y.op (pc' := 106) (fun _ => X.aloadn rfl dX10_number_105) ?_
  refine Y.callVi (As := []) lk_X10_104 rfl cal_X10_fine vir_X10_fine (Nat.le_of_ble_eq_true rfl) (Nat.le_of_ble_eq_true rfl) rfl rfl rfl (Nat.le_of_ble_eq_true rfl) dX10_number_106 (fun _ e => m_X10_fine x0 h _ _ e) (fun r1 => ?_)
  refine Y.ifeq 116 (by decide) dX10_number_109 ?_ ?_
  · refine Y.op (pc' := 117) (fun _ => X.iloadn rfl dX10_number_116) ?_
    exact Y.fg (y_X10_number_J117 x1 r1.2) trivial
  · refine Y.op (pc' := 113) (fun _ => X.iloadn rfl dX10_number_112) ?_
    refine Y.op (pc' := 117) (fun _ => X.goto 117 (by decide) dX10_number_113) ?_
    exact Y.fg (y_X10_number_J117 x3 r1.2) trivial
def f_X10_number_J87 (x0 : Nat) (x1 : Int32) (x2 : Int32) (x3 : Int32) (h : xH) : Option (Int32 × xH) :=
  (f_X10_in x3 x1 x2 h).bind fun r1 =>
  if r1.1 = (0 : Int32) then
    (gI r1.2 10 x0 15).bind fun v2 =>
    (vc r1.2 10 x0 (f_X10_wrong x0 (2 : Int32) v2 r1.2)).bind fun h3 =>
    f_X10_number_J105 x0 x1 x3 h3
  else
    f_X10_number_J105 x0 x1 x3 r1.2
theorem y_X10_number_J87 {g : xG} {h0 : xH} {cl : Bool} (x0 : Nat) (x1 : Int32) (x2 : Int32) (x3 : Int32) (h : xH) : Y g DX10_number h0 cl iI (f_X10_number_J87 x0 x1 x2 x3 h) 87 [some (.ref x0), some (.int x1), some (.int x2), some (.int x3)] [] h := by
  unfold f_X10_number_J87
  refine Y.op (pc' := 88) (fun _ => X.iloadn rfl dX10_number_87) ?_
  refine Y.op (pc' := 89) (fun _ => X.iloadn rfl dX10_number_88) ?_
  refine Y.op (pc' := 90) (fun _ => X.iloadn rfl dX10_number_89) ?_
  refine Y.callSi (As := [.int x3, .int x1, .int x2]) lk_X10_127 rfl cal_X10_in sta_X10_in (Nat.le_of_ble_eq_true rfl) rfl rfl (Nat.le_of_ble_eq_true rfl) dX10_number_90 (fun _ e => m_X10_in x3 x1 x2 h _ _ e) (fun r1 => ?_)
  refine Y.ifne 105 (by decide) dX10_number_93 ?_ ?_
  · exact Y.fg (y_X10_number_J105 x0 x1 x3 r1.2) (And.intro rfl (And.intro rfl (And.intro rfl trivial)))
  · refine Y.op (pc' := 97) (fun _ => X.aloadn rfl dX10_number_96) ?_
    refine Y.op (pc' := 98) (fun _ => X.ic ki_2 dX10_number_97) ?_
    refine Y.op (pc' := 99) (fun _ => X.aloadn rfl dX10_number_98) ?_
    refine Y.getI fd_X10_120 rfl dX10_number_99 (fun v2 => ?_)
    refine Y.callVv (As := [.int (2 : Int32), .int v2]) lk_X10_116 rfl cal_X10_wrong vir_X10_wrong (Nat.le_of_ble_eq_true rfl) (Nat.le_of_ble_eq_true rfl) rfl rfl rfl (Nat.le_of_ble_eq_true rfl) dX10_number_102 (fun _ e => m_X10_wrong x0 (2 : Int32) v2 r1.2 _ _ e) (fun h3 => ?_)
    exact Y.fg (y_X10_number_J105 x0 x1 x3 h3) (And.intro rfl (And.intro rfl (And.intro rfl trivial)))
def f_X10_number_L38 (kE87 : Nat → Int32 → Int32 → Int32 → xH → Option (Int32 × xH)) : Nat → Nat → Int32 → Int32 → Int32 → xH → Option (Int32 × xH)
  | 0 => fun _ _ _ _ _ => none
  | n + 1 => fun x0 x1 x2 x3 h =>
    (gI h 10 x0 4).bind fun v1 =>
    (vc h 10 x0 (f_X10_byteAt x0 v1 h)).bind fun r2 =>
    (f_X10_isDigit r2.1 r2.2).bind fun r3 =>
    if r3.1 = (0 : Int32) then
      kE87 x0 x1 x2 x3 r3.2
    else
      (gI r3.2 10 x0 4).bind fun v4 =>
      (vc r3.2 10 x0 (f_X10_byteAt x0 v4 r3.2)).bind fun r5 =>
      (f_X10_less (1000000 : Int32) ((((10 : Int32) * x3) + r5.1) - (48 : Int32)) r5.2).bind fun r6 =>
      (gI r6.2 10 x0 4).bind fun v7 =>
      (pI r6.2 10 x0 4 (v7 + (1 : Int32))).bind fun h8 =>
      f_X10_number_L38 kE87 n x0 x1 x2 r6.1 h8
theorem y_X10_number_L38 {g : xG} {h0 : xH} {cl : Bool} {kE87 : Nat → Int32 → Int32 → Int32 → xH → Option (Int32 × xH)} (hkE87 : ∀ (x0 : Nat) (x1 : Int32) (x2 : Int32) (x3 : Int32) (h : xH), Y g DX10_number h0 cl iI (kE87 x0 x1 x2 x3 h) 87 [some (.ref x0), some (.int x1), some (.int x2), some (.int x3)] [] h) : ∀ (n : Nat) (x0 : Nat) (x1 : Int32) (x2 : Int32) (x3 : Int32) (h : xH), Y g DX10_number h0 cl iI (f_X10_number_L38 kE87 n x0 x1 x2 x3 h) 38 [some (.ref x0), some (.int x1), some (.int x2), some (.int x3)] [] h := by
  intro n
  induction n with
  | zero => intro x0 x1 x2 x3 h; exact Y.nothing
  | succ n ih =>
    intro x0 x1 x2 x3 h
    unfold f_X10_number_L38
    refine Y.op (pc' := 39) (fun _ => X.aloadn rfl dX10_number_38) ?_
    refine Y.op (pc' := 40) (fun _ => X.aloadn rfl dX10_number_39) ?_
    refine Y.getI fd_X10_91 rfl dX10_number_40 (fun v1 => ?_)
    refine Y.callVi (As := [.int v1]) lk_X10_94 rfl cal_X10_byteAt vir_X10_byteAt (Nat.le_of_ble_eq_true rfl) (Nat.le_of_ble_eq_true rfl) rfl rfl rfl (Nat.le_of_ble_eq_true rfl) dX10_number_43 (fun _ e => m_X10_byteAt x0 v1 h _ _ e) (fun r2 => ?_)
    refine Y.callSi (As := [.int r2.1]) lk_X10_112 rfl cal_X10_isDigit sta_X10_isDigit (Nat.le_of_ble_eq_true rfl) rfl rfl (Nat.le_of_ble_eq_true rfl) dX10_number_46 (fun _ e => m_X10_isDigit r2.1 r2.2 _ _ e) (fun r3 => ?_)
    refine Y.ifeq 87 (by decide) dX10_number_49 ?_ ?_
    · exact hkE87 x0 x1 x2 x3 r3.2
    · refine Y.op (pc' := 54) (fun _ => X.ldcI wc_X10_122 rfl dX10_number_52) ?_
      refine Y.op (pc' := 56) (fun _ => X.bp kb_10 dX10_number_54) ?_
      refine Y.op (pc' := 57) (fun _ => X.iloadn rfl dX10_number_56) ?_
      refine Y.op (pc' := 58) (fun _ => X.imul dX10_number_57) ?_
      refine Y.op (pc' := 59) (fun _ => X.aloadn rfl dX10_number_58) ?_
      refine Y.op (pc' := 60) (fun _ => X.aloadn rfl dX10_number_59) ?_
      refine Y.getI fd_X10_91 rfl dX10_number_60 (fun v4 => ?_)
      refine Y.callVi (As := [.int v4]) lk_X10_94 rfl cal_X10_byteAt vir_X10_byteAt (Nat.le_of_ble_eq_true rfl) (Nat.le_of_ble_eq_true rfl) rfl rfl rfl (Nat.le_of_ble_eq_true rfl) dX10_number_63 (fun _ e => m_X10_byteAt x0 v4 r3.2 _ _ e) (fun r5 => ?_)
      refine Y.op (pc' := 67) (fun _ => X.iadd dX10_number_66) ?_
      refine Y.op (pc' := 69) (fun _ => X.bp kb_48 dX10_number_67) ?_
      refine Y.op (pc' := 70) (fun _ => X.isub dX10_number_69) ?_
      refine Y.callSi (As := [.int (1000000 : Int32), .int ((((10 : Int32) * x3) + r5.1) - (48 : Int32))]) lk_X10_123 rfl cal_X10_less sta_X10_less (Nat.le_of_ble_eq_true rfl) rfl rfl (Nat.le_of_ble_eq_true rfl) dX10_number_70 (fun _ e => m_X10_less (1000000 : Int32) ((((10 : Int32) * x3) + r5.1) - (48 : Int32)) r5.2 _ _ e) (fun r6 => ?_)
      refine Y.op (pc' := 74) (loc' := [some (.ref x0), some (.int x1), some (.int x2), some (.int r6.1)]) (fun _ => X.istoren (Nat.le_of_ble_eq_true rfl) rfl dX10_number_73) ?_
      refine Y.op (pc' := 75) (fun _ => X.aloadn rfl dX10_number_74) ?_
      refine Y.op (pc' := 76) (fun _ => X.dup rfl dX10_number_75) ?_
      refine Y.getI fd_X10_91 rfl dX10_number_76 (fun v7 => ?_)
      refine Y.op (pc' := 80) (fun _ => X.ic ki_1 dX10_number_79) ?_
      refine Y.op (pc' := 81) (fun _ => X.iadd dX10_number_80) ?_
      refine Y.putI fd_X10_91 rfl dX10_number_81 (fun h8 => ?_)
      refine Y.op (pc' := 38) (fun _ => X.goto 38 (by decide) dX10_number_84) ?_
      exact ih x0 x1 x2 r6.1 h8
def f_X10_number_J28 (x0 : Nat) (x1 : Int32) (x2 : Int32) (h : xH) : Option (Int32 × xH) :=
  (gI h 10 x0 4).bind fun v1 =>
  (pI h 10 x0 15 v1).bind fun h2 =>
  f_X10_number_L38 (f_X10_number_J87) 5000 x0 x1 x2 (0 : Int32) h2
theorem y_X10_number_J28 {g : xG} {h0 : xH} {cl : Bool} (x0 : Nat) (x1 : Int32) (x2 : Int32) (h : xH) : Y g DX10_number h0 cl iI (f_X10_number_J28 x0 x1 x2 h) 28 [some (.ref x0), some (.int x1), some (.int x2), none] [] h := by
  unfold f_X10_number_J28
  refine Y.op (pc' := 29) (fun _ => X.aloadn rfl dX10_number_28) ?_
  refine Y.op (pc' := 30) (fun _ => X.aloadn rfl dX10_number_29) ?_
  refine Y.getI fd_X10_91 rfl dX10_number_30 (fun v1 => ?_)
  refine Y.putI fd_X10_120 rfl dX10_number_33 (fun h2 => ?_)
  refine Y.op (pc' := 37) (fun _ => X.ic ki_0 dX10_number_36) ?_
  refine Y.op (pc' := 38) (loc' := [some (.ref x0), some (.int x1), some (.int x2), some (.int (0 : Int32))]) (fun _ => X.istoren (Nat.le_of_ble_eq_true rfl) rfl dX10_number_37) ?_
  exact y_X10_number_L38 (y_X10_number_J87) 5000 x0 x1 x2 (0 : Int32) h2
def f_X10_number (a0 : Nat) (p1 : Int32) (p2 : Int32) (h : xH) : Option (Int32 × xH) :=
  (vc h 10 a0 (f_X10_fine a0 h)).bind fun r1 =>
  if r1.1 = (0 : Int32) then
    some (p1, r1.2)
  else
    (vc r1.2 10 a0 (f_X10_here a0 r1.2)).bind fun r2 =>
    (f_X10_isDigit r2.1 r2.2).bind fun r3 =>
    if r3.1 = (0 : Int32) then
      (gI r3.2 10 a0 4).bind fun v4 =>
      (vc r3.2 10 a0 (f_X10_wrong a0 (1 : Int32) v4 r3.2)).bind fun h5 =>
      f_X10_number_J28 a0 p1 p2 h5
    else
      f_X10_number_J28 a0 p1 p2 r3.2
theorem y_X10_number {g : xG} {h0 : xH} {cl : Bool} (a0 : Nat) (p1 : Int32) (p2 : Int32) (h : xH) : Y g DX10_number h0 cl iI (f_X10_number a0 p1 p2 h) 0 [some (.ref a0), some (.int p1), some (.int p2), none] [] h := by
  unfold f_X10_number
  refine Y.op (pc' := 1) (fun _ => X.aloadn rfl dX10_number_0) ?_
  refine Y.callVi (As := []) lk_X10_104 rfl cal_X10_fine vir_X10_fine (Nat.le_of_ble_eq_true rfl) (Nat.le_of_ble_eq_true rfl) rfl rfl rfl (Nat.le_of_ble_eq_true rfl) dX10_number_1 (fun _ e => m_X10_fine a0 h _ _ e) (fun r1 => ?_)
  refine Y.ifne 9 (by decide) dX10_number_4 ?_ ?_
  · refine Y.op (pc' := 10) (fun _ => X.aloadn rfl dX10_number_9) ?_
    refine Y.callVi (As := []) lk_X10_108 rfl cal_X10_here vir_X10_here (Nat.le_of_ble_eq_true rfl) (Nat.le_of_ble_eq_true rfl) rfl rfl rfl (Nat.le_of_ble_eq_true rfl) dX10_number_10 (fun _ e => m_X10_here a0 r1.2 _ _ e) (fun r2 => ?_)
    refine Y.callSi (As := [.int r2.1]) lk_X10_112 rfl cal_X10_isDigit sta_X10_isDigit (Nat.le_of_ble_eq_true rfl) rfl rfl (Nat.le_of_ble_eq_true rfl) dX10_number_13 (fun _ e => m_X10_isDigit r2.1 r2.2 _ _ e) (fun r3 => ?_)
    refine Y.ifne 28 (by decide) dX10_number_16 ?_ ?_
    · exact y_X10_number_J28 a0 p1 p2 r3.2
    · refine Y.op (pc' := 20) (fun _ => X.aloadn rfl dX10_number_19) ?_
      refine Y.op (pc' := 21) (fun _ => X.ic ki_1 dX10_number_20) ?_
      refine Y.op (pc' := 22) (fun _ => X.aloadn rfl dX10_number_21) ?_
      refine Y.getI fd_X10_91 rfl dX10_number_22 (fun v4 => ?_)
      refine Y.callVv (As := [.int (1 : Int32), .int v4]) lk_X10_116 rfl cal_X10_wrong vir_X10_wrong (Nat.le_of_ble_eq_true rfl) (Nat.le_of_ble_eq_true rfl) rfl rfl rfl (Nat.le_of_ble_eq_true rfl) dX10_number_25 (fun _ e => m_X10_wrong a0 (1 : Int32) v4 r3.2 _ _ e) (fun h5 => ?_)
      exact y_X10_number_J28 a0 p1 p2 h5
  · refine Y.op (pc' := 8) (fun _ => X.iloadn rfl dX10_number_7) ?_
    exact Y.ireturn rfl dX10_number_8
theorem m_X10_number {g : xG} (a0 : Nat) (p1 : Int32) (p2 : Int32) (h : xH) (cl : Bool) (r : Int32 × xH) (e : f_X10_number a0 p1 p2 h = some r) : XM g DX10_number [.ref a0, .int p1, .int p2] h cl (iI r) := YM.of rfl rfl (Nat.le_of_ble_eq_true rfl) (y_X10_number a0 p1 p2 h) e
def f_X10_coded_J37 (x1 : Int64) (h : xH) : Option (Int64 × xH) :=
  some (x1, h)
theorem y_X10_coded_J37 {g : xG} {h0 : xH} {cl : Bool} (x1 : Int64) (h : xH) : Y g DX10_coded h0 cl iJ (f_X10_coded_J37 x1 h) 37 [none, some (.long x1), none, none] [] h := by
  unfold f_X10_coded_J37
  refine Y.op (pc' := 38) (fun _ => X.lloadn rfl dX10_coded_37) ?_
  exact Y.lreturn rfl dX10_coded_38
def f_X10_coded_L4 (kE37 : Int64 → xH → Option (Int64 × xH)) : Nat → Nat → Int64 → Int32 → xH → Option (Int64 × xH)
  | 0 => fun _ _ _ _ => none
  | n + 1 => fun x0 x1 x3 h =>
    (f_J0_length_8abf5 x0 h).bind fun r1 =>
    if x3 ≥ r1.1 then
      kE37 x1 r1.2
    else
      (f_J0_charAt_5068e x0 x3 r1.2).bind fun r2 =>
      lt ((((((27 : Int64) * x1) + r2.1.toInt64) - (97 : Int64)) + (1 : Int64))) fun v3 =>
      lt (x3 + (1 : Int32)) fun v4 =>
      f_X10_coded_L4 kE37 n x0 v3 v4 r2.2
theorem y_X10_coded_L4 {g : xG} {h0 : xH} {cl : Bool} {kE37 : Int64 → xH → Option (Int64 × xH)} (hkE37 : ∀ (x1 : Int64) (h : xH), Y g DX10_coded h0 cl iJ (kE37 x1 h) 37 [none, some (.long x1), none, none] [] h) : ∀ (n : Nat) (x0 : Nat) (x1 : Int64) (x3 : Int32) (h : xH), Y g DX10_coded h0 cl iJ (f_X10_coded_L4 kE37 n x0 x1 x3 h) 4 [some (.ref x0), some (.long x1), none, some (.int x3)] [] h := by
  intro n
  induction n with
  | zero => intro x0 x1 x3 h; exact Y.nothing
  | succ n ih =>
    intro x0 x1 x3 h
    unfold f_X10_coded_L4
    refine Y.op (pc' := 5) (fun _ => X.iloadn rfl dX10_coded_4) ?_
    refine Y.op (pc' := 6) (fun _ => X.aloadn rfl dX10_coded_5) ?_
    refine Y.str_J0_length_8abf5 lk_X10_131 rfl (Nat.le_of_ble_eq_true rfl) (Nat.le_of_ble_eq_true rfl) dX10_coded_6 (fun r1 => ?_)
    refine Y.cmpge 37 (by decide) dX10_coded_9 ?_ ?_
    · exact Y.fg (hkE37 x1 r1.2) (And.intro rfl trivial)
    · refine Y.op (pc' := 15) (fun _ => X.ldcL wl_X10_136 rfl dX10_coded_12) ?_
      refine Y.op (pc' := 16) (fun _ => X.lloadn rfl dX10_coded_15) ?_
      refine Y.op (pc' := 17) (fun _ => X.lmul dX10_coded_16) ?_
      refine Y.op (pc' := 18) (fun _ => X.aloadn rfl dX10_coded_17) ?_
      refine Y.op (pc' := 19) (fun _ => X.iloadn rfl dX10_coded_18) ?_
      refine Y.str_J0_charAt_5068e lk_X10_138 rfl (Nat.le_of_ble_eq_true rfl) (Nat.le_of_ble_eq_true rfl) dX10_coded_19 (fun r2 => ?_)
      refine Y.op (pc' := 23) (fun _ => X.i2l dX10_coded_22) ?_
      refine Y.op (pc' := 24) (fun _ => X.ladd dX10_coded_23) ?_
      refine Y.op (pc' := 27) (fun _ => X.ldcL wl_X10_142 rfl dX10_coded_24) ?_
      refine Y.op (pc' := 28) (fun _ => X.lsub dX10_coded_27) ?_
      refine Y.op (pc' := 29) (fun _ => X.lc kl_1 dX10_coded_28) ?_
      refine Y.op (pc' := 30) (fun _ => X.ladd dX10_coded_29) ?_
      refine Y.topl (fun v3 => ?_)
      refine Y.op (pc' := 31) (loc' := [some (.ref x0), some (.long v3), none, some (.int x3)]) (fun _ => X.lstoren (Nat.le_of_ble_eq_true rfl) rfl dX10_coded_30) ?_
      refine Y.iinc (i := 3) (loc' := fun v4 => [some (.ref x0), some (.long v3), none, some (.int v4)]) rfl (Nat.le_of_ble_eq_true rfl) ki_1 (fun _ => rfl) dX10_coded_31 (fun v4 => ?_)
      refine Y.op (pc' := 4) (fun _ => X.goto 4 (by decide) dX10_coded_34) ?_
      exact ih x0 v3 v4 r2.2
def f_X10_coded (p1 : Nat) (h : xH) : Option (Int64 × xH) :=
  f_X10_coded_L4 (f_X10_coded_J37) 5000 p1 (0 : Int64) (0 : Int32) h
theorem y_X10_coded {g : xG} {h0 : xH} {cl : Bool} (p1 : Nat) (h : xH) : Y g DX10_coded h0 cl iJ (f_X10_coded p1 h) 0 [some (.ref p1), none, none, none] [] h := by
  unfold f_X10_coded
  refine Y.op (pc' := 1) (fun _ => X.lc kl_0 dX10_coded_0) ?_
  refine Y.op (pc' := 2) (loc' := [some (.ref p1), some (.long (0 : Int64)), none, none]) (fun _ => X.lstoren (Nat.le_of_ble_eq_true rfl) rfl dX10_coded_1) ?_
  refine Y.op (pc' := 3) (fun _ => X.ic ki_0 dX10_coded_2) ?_
  refine Y.op (pc' := 4) (loc' := [some (.ref p1), some (.long (0 : Int64)), none, some (.int (0 : Int32))]) (fun _ => X.istoren (Nat.le_of_ble_eq_true rfl) rfl dX10_coded_3) ?_
  exact y_X10_coded_L4 (y_X10_coded_J37) 5000 p1 (0 : Int64) (0 : Int32) h
theorem m_X10_coded {g : xG} (p1 : Nat) (h : xH) (cl : Bool) (r : Int64 × xH) (e : f_X10_coded p1 h = some r) : XM g DX10_coded [.ref p1] h cl (iJ r) := YM.of rfl rfl (Nat.le_of_ble_eq_true rfl) (y_X10_coded p1 h) e
def f_X10_wordHere_J73 (s0 : Int64) (h : xH) : Option (Int64 × xH) :=
  some (s0, h)
theorem y_X10_wordHere_J73 {g : xG} {h0 : xH} {cl : Bool} (s0 : Int64) (h : xH) : Y g DX10_wordHere h0 cl iJ (f_X10_wordHere_J73 s0 h) 73 [none, none, none, none] [.long s0] h := by
  unfold f_X10_wordHere_J73
  exact Y.lreturn rfl dX10_wordHere_73
def f_X10_wordHere_J62 (x1 : Int64) (x3 : Int32) (h : xH) : Option (Int64 × xH) :=
  if x3 = (0 : Int32) then
    f_X10_wordHere_J73 (-1 : Int64) h
  else
    f_X10_wordHere_J73 x1 h
theorem y_X10_wordHere_J62 {g : xG} {h0 : xH} {cl : Bool} (x1 : Int64) (x3 : Int32) (h : xH) : Y g DX10_wordHere h0 cl iJ (f_X10_wordHere_J62 x1 x3 h) 62 [none, some (.long x1), none, some (.int x3)] [] h := by
  unfold f_X10_wordHere_J62
  refine Y.op (pc' := 63) (fun _ => X.iloadn rfl dX10_wordHere_62) ?_
  refine Y.ifne 72 (by decide) dX10_wordHere_63 ?_ ?_
  · refine Y.op (pc' := 73) (fun _ => X.lloadn rfl dX10_wordHere_72) ?_
    exact Y.fg (y_X10_wordHere_J73 x1 h) trivial
  · refine Y.op (pc' := 69) (fun _ => X.ldcL wl_X10_147 rfl dX10_wordHere_66) ?_
    refine Y.op (pc' := 73) (fun _ => X.goto 73 (by decide) dX10_wordHere_69) ?_
    exact Y.fg (y_X10_wordHere_J73 (-1 : Int64) h) trivial
def f_X10_wordHere_J58 (h : xH) : Option (Int64 × xH) :=
  some ((-1 : Int64), h)
theorem y_X10_wordHere_J58 {g : xG} {h0 : xH} {cl : Bool} (h : xH) : Y g DX10_wordHere h0 cl iJ (f_X10_wordHere_J58 h) 58 [none, none, none, none] [] h := by
  unfold f_X10_wordHere_J58
  refine Y.op (pc' := 61) (fun _ => X.ldcL wl_X10_147 rfl dX10_wordHere_58) ?_
  exact Y.lreturn rfl dX10_wordHere_61
def f_X10_wordHere_L9 (kE58 : xH → Option (Int64 × xH)) (kE62 : Int64 → Int32 → xH → Option (Int64 × xH)) : Nat → Nat → Int64 → Int32 → xH → Option (Int64 × xH)
  | 0 => fun _ _ _ _ => none
  | n + 1 => fun x0 x1 x3 h =>
    (gI h 10 x0 4).bind fun v1 =>
    (vc h 10 x0 (f_X10_byteAt x0 (v1 + x3) h)).bind fun r2 =>
    (f_X10_isSmall r2.1 r2.2).bind fun r3 =>
    if r3.1 = (0 : Int32) then
      kE62 x1 x3 r3.2
    else
      (gI r3.2 10 x0 4).bind fun v4 =>
      (vc r3.2 10 x0 (f_X10_byteAt x0 (v4 + x3) r3.2)).bind fun r5 =>
      lt ((((((27 : Int64) * x1) + r5.1.toInt64) - (97 : Int64)) + (1 : Int64))) fun v6 =>
      lt (x3 + (1 : Int32)) fun v7 =>
      if v7 ≤ (7 : Int32) then
        f_X10_wordHere_L9 kE58 kE62 n x0 v6 v7 r5.2
      else
        kE58 r5.2
theorem y_X10_wordHere_L9 {g : xG} {h0 : xH} {cl : Bool} {kE58 : xH → Option (Int64 × xH)} {kE62 : Int64 → Int32 → xH → Option (Int64 × xH)} (hkE58 : ∀  (h : xH), Y g DX10_wordHere h0 cl iJ (kE58  h) 58 [none, none, none, none] [] h) (hkE62 : ∀ (x1 : Int64) (x3 : Int32) (h : xH), Y g DX10_wordHere h0 cl iJ (kE62 x1 x3 h) 62 [none, some (.long x1), none, some (.int x3)] [] h) : ∀ (n : Nat) (x0 : Nat) (x1 : Int64) (x3 : Int32) (h : xH), Y g DX10_wordHere h0 cl iJ (f_X10_wordHere_L9 kE58 kE62 n x0 x1 x3 h) 9 [some (.ref x0), some (.long x1), none, some (.int x3)] [] h := by
  intro n
  induction n with
  | zero => intro x0 x1 x3 h; exact Y.nothing
  | succ n ih =>
    intro x0 x1 x3 h
    unfold f_X10_wordHere_L9
    refine Y.op (pc' := 10) (fun _ => X.aloadn rfl dX10_wordHere_9) ?_
    refine Y.op (pc' := 11) (fun _ => X.aloadn rfl dX10_wordHere_10) ?_
    refine Y.getI fd_X10_91 rfl dX10_wordHere_11 (fun v1 => ?_)
    refine Y.op (pc' := 15) (fun _ => X.iloadn rfl dX10_wordHere_14) ?_
    refine Y.op (pc' := 16) (fun _ => X.iadd dX10_wordHere_15) ?_
    refine Y.callVi (As := [.int (v1 + x3)]) lk_X10_94 rfl cal_X10_byteAt vir_X10_byteAt (Nat.le_of_ble_eq_true rfl) (Nat.le_of_ble_eq_true rfl) rfl rfl rfl (Nat.le_of_ble_eq_true rfl) dX10_wordHere_16 (fun _ e => m_X10_byteAt x0 (v1 + x3) h _ _ e) (fun r2 => ?_)
    refine Y.callSi (As := [.int r2.1]) lk_X10_144 rfl cal_X10_isSmall sta_X10_isSmall (Nat.le_of_ble_eq_true rfl) rfl rfl (Nat.le_of_ble_eq_true rfl) dX10_wordHere_19 (fun _ e => m_X10_isSmall r2.1 r2.2 _ _ e) (fun r3 => ?_)
    refine Y.ifeq 62 (by decide) dX10_wordHere_22 ?_ ?_
    · exact Y.fg (hkE62 x1 x3 r3.2) (And.intro rfl (And.intro rfl trivial))
    · refine Y.op (pc' := 28) (fun _ => X.ldcL wl_X10_136 rfl dX10_wordHere_25) ?_
      refine Y.op (pc' := 29) (fun _ => X.lloadn rfl dX10_wordHere_28) ?_
      refine Y.op (pc' := 30) (fun _ => X.lmul dX10_wordHere_29) ?_
      refine Y.op (pc' := 31) (fun _ => X.aloadn rfl dX10_wordHere_30) ?_
      refine Y.op (pc' := 32) (fun _ => X.aloadn rfl dX10_wordHere_31) ?_
      refine Y.getI fd_X10_91 rfl dX10_wordHere_32 (fun v4 => ?_)
      refine Y.op (pc' := 36) (fun _ => X.iloadn rfl dX10_wordHere_35) ?_
      refine Y.op (pc' := 37) (fun _ => X.iadd dX10_wordHere_36) ?_
      refine Y.callVi (As := [.int (v4 + x3)]) lk_X10_94 rfl cal_X10_byteAt vir_X10_byteAt (Nat.le_of_ble_eq_true rfl) (Nat.le_of_ble_eq_true rfl) rfl rfl rfl (Nat.le_of_ble_eq_true rfl) dX10_wordHere_37 (fun _ e => m_X10_byteAt x0 (v4 + x3) r3.2 _ _ e) (fun r5 => ?_)
      refine Y.op (pc' := 41) (fun _ => X.i2l dX10_wordHere_40) ?_
      refine Y.op (pc' := 42) (fun _ => X.ladd dX10_wordHere_41) ?_
      refine Y.op (pc' := 45) (fun _ => X.ldcL wl_X10_142 rfl dX10_wordHere_42) ?_
      refine Y.op (pc' := 46) (fun _ => X.lsub dX10_wordHere_45) ?_
      refine Y.op (pc' := 47) (fun _ => X.lc kl_1 dX10_wordHere_46) ?_
      refine Y.op (pc' := 48) (fun _ => X.ladd dX10_wordHere_47) ?_
      refine Y.topl (fun v6 => ?_)
      refine Y.op (pc' := 49) (loc' := [some (.ref x0), some (.long v6), none, some (.int x3)]) (fun _ => X.lstoren (Nat.le_of_ble_eq_true rfl) rfl dX10_wordHere_48) ?_
      refine Y.iinc (i := 3) (loc' := fun v7 => [some (.ref x0), some (.long v6), none, some (.int v7)]) rfl (Nat.le_of_ble_eq_true rfl) ki_1 (fun _ => rfl) dX10_wordHere_49 (fun v7 => ?_)
      refine Y.op (pc' := 53) (fun _ => X.iloadn rfl dX10_wordHere_52) ?_
      refine Y.op (pc' := 55) (fun _ => X.bp kb_7 dX10_wordHere_53) ?_
      refine Y.cmple 9 (by decide) dX10_wordHere_55 ?_ ?_
      · exact ih x0 v6 v7 r5.2
      · exact Y.fg (hkE58 r5.2) trivial
def f_X10_wordHere (a0 : Nat) (h : xH) : Option (Int64 × xH) :=
  (vc h 10 a0 (f_X10_here a0 h)).bind fun r1 =>
  f_X10_wordHere_L9 (f_X10_wordHere_J58) (f_X10_wordHere_J62) 5000 a0 (0 : Int64) (0 : Int32) r1.2
theorem y_X10_wordHere {g : xG} {h0 : xH} {cl : Bool} (a0 : Nat) (h : xH) : Y g DX10_wordHere h0 cl iJ (f_X10_wordHere a0 h) 0 [some (.ref a0), none, none, none] [] h := by
  unfold f_X10_wordHere
  refine Y.op (pc' := 1) (fun _ => X.aloadn rfl dX10_wordHere_0) ?_
  refine Y.callVi (As := []) lk_X10_108 rfl cal_X10_here vir_X10_here (Nat.le_of_ble_eq_true rfl) (Nat.le_of_ble_eq_true rfl) rfl rfl rfl (Nat.le_of_ble_eq_true rfl) dX10_wordHere_1 (fun _ e => m_X10_here a0 h _ _ e) (fun r1 => ?_)
  refine Y.op (pc' := 5) (fun _ => X.pop rfl dX10_wordHere_4) ?_
  refine Y.op (pc' := 6) (fun _ => X.lc kl_0 dX10_wordHere_5) ?_
  refine Y.op (pc' := 7) (loc' := [some (.ref a0), some (.long (0 : Int64)), none, none]) (fun _ => X.lstoren (Nat.le_of_ble_eq_true rfl) rfl dX10_wordHere_6) ?_
  refine Y.op (pc' := 8) (fun _ => X.ic ki_0 dX10_wordHere_7) ?_
  refine Y.op (pc' := 9) (loc' := [some (.ref a0), some (.long (0 : Int64)), none, some (.int (0 : Int32))]) (fun _ => X.istoren (Nat.le_of_ble_eq_true rfl) rfl dX10_wordHere_8) ?_
  exact y_X10_wordHere_L9 (y_X10_wordHere_J58) (y_X10_wordHere_J62) 5000 a0 (0 : Int64) (0 : Int32) r1.2
theorem m_X10_wordHere {g : xG} (a0 : Nat) (h : xH) (cl : Bool) (r : Int64 × xH) (e : f_X10_wordHere a0 h = some r) : XM g DX10_wordHere [.ref a0] h cl (iJ r) := YM.of rfl rfl (Nat.le_of_ble_eq_true rfl) (y_X10_wordHere a0 h) e
def f_X10_takes_J19 (h : xH) : Option (Int32 × xH) :=
  if (0 : Int32) = 0 ∨ (0 : Int32) = 1 then some ((0 : Int32), h) else none
theorem y_X10_takes_J19 {g : xG} {h0 : xH} {cl : Bool} (h : xH) : Y g DX10_takes h0 cl iI (f_X10_takes_J19 h) 19 [none, none] [] h := by
  unfold f_X10_takes_J19
  refine Y.op (pc' := 20) (fun _ => X.ic ki_0 dX10_takes_19) ?_
  exact Y.zreturn rfl dX10_takes_20
def f_X10_takes (a0 : Nat) (p1 : Nat) (h : xH) : Option (Int32 × xH) :=
  (vc h 10 a0 (f_X10_fine a0 h)).bind fun r1 =>
  if r1.1 = (0 : Int32) then
    f_X10_takes_J19 r1.2
  else
    (vc r1.2 10 a0 (f_X10_wordHere a0 r1.2)).bind fun r2 =>
    (f_X10_coded p1 r2.2).bind fun r3 =>
    if (lg_cmp r2.1 r3.1) = (0 : Int32) then
      (gI r3.2 10 a0 4).bind fun v4 =>
      (f_J0_length_8abf5 p1 r3.2).bind fun r5 =>
      (pI r5.2 10 a0 4 (v4 + r5.1)).bind fun h6 =>
      if (1 : Int32) = 0 ∨ (1 : Int32) = 1 then some ((1 : Int32), h6) else none
    else
      f_X10_takes_J19 r3.2
theorem y_X10_takes {g : xG} {h0 : xH} {cl : Bool} (a0 : Nat) (p1 : Nat) (h : xH) : Y g DX10_takes h0 cl iI (f_X10_takes a0 p1 h) 0 [some (.ref a0), some (.ref p1)] [] h := by
  unfold f_X10_takes
  refine Y.op (pc' := 1) (fun _ => X.aloadn rfl dX10_takes_0) ?_
  refine Y.callVi (As := []) lk_X10_104 rfl cal_X10_fine vir_X10_fine (Nat.le_of_ble_eq_true rfl) (Nat.le_of_ble_eq_true rfl) rfl rfl rfl (Nat.le_of_ble_eq_true rfl) dX10_takes_1 (fun _ e => m_X10_fine a0 h _ _ e) (fun r1 => ?_)
  refine Y.ifeq 19 (by decide) dX10_takes_4 ?_ ?_
  · exact Y.fg (y_X10_takes_J19 r1.2) trivial
  · refine Y.op (pc' := 8) (fun _ => X.aloadn rfl dX10_takes_7) ?_
    refine Y.callVj (As := []) lk_X10_149 rfl cal_X10_wordHere vir_X10_wordHere (Nat.le_of_ble_eq_true rfl) (Nat.le_of_ble_eq_true rfl) rfl rfl rfl (Nat.le_of_ble_eq_true rfl) dX10_takes_8 (fun _ e => m_X10_wordHere a0 r1.2 _ _ e) (fun r2 => ?_)
    refine Y.op (pc' := 12) (fun _ => X.aloadn rfl dX10_takes_11) ?_
    refine Y.callSj (As := [.ref p1]) lk_X10_153 rfl cal_X10_coded sta_X10_coded (Nat.le_of_ble_eq_true rfl) rfl rfl (Nat.le_of_ble_eq_true rfl) dX10_takes_12 (fun _ e => m_X10_coded p1 r2.2 _ _ e) (fun r3 => ?_)
    refine Y.op (pc' := 16) (fun _ => X.lcmp dX10_takes_15) ?_
    refine Y.ifeq 21 (by decide) dX10_takes_16 ?_ ?_
    · refine Y.op (pc' := 22) (fun _ => X.aloadn rfl dX10_takes_21) ?_
      refine Y.op (pc' := 23) (fun _ => X.dup rfl dX10_takes_22) ?_
      refine Y.getI fd_X10_91 rfl dX10_takes_23 (fun v4 => ?_)
      refine Y.op (pc' := 27) (fun _ => X.aloadn rfl dX10_takes_26) ?_
      refine Y.str_J0_length_8abf5 lk_X10_131 rfl (Nat.le_of_ble_eq_true rfl) (Nat.le_of_ble_eq_true rfl) dX10_takes_27 (fun r5 => ?_)
      refine Y.op (pc' := 31) (fun _ => X.iadd dX10_takes_30) ?_
      refine Y.putI fd_X10_91 rfl dX10_takes_31 (fun h6 => ?_)
      refine Y.op (pc' := 35) (fun _ => X.ic ki_1 dX10_takes_34) ?_
      exact Y.zreturn rfl dX10_takes_35
    · exact Y.fg (y_X10_takes_J19 r3.2) trivial
theorem m_X10_takes {g : xG} (a0 : Nat) (p1 : Nat) (h : xH) (cl : Bool) (r : Int32 × xH) (e : f_X10_takes a0 p1 h = some r) : XM g DX10_takes [.ref a0, .ref p1] h cl (iI r) := YM.of rfl rfl (Nat.le_of_ble_eq_true rfl) (y_X10_takes a0 p1 h) e
def f_X10_must_J24 (h : xH) : Option (xH) :=
  some h
theorem y_X10_must_J24 {g : xG} {h0 : xH} {cl : Bool} (h : xH) : Y g DX10_must h0 cl iV (f_X10_must_J24 h) 24 [none, none] [] h := by
  unfold f_X10_must_J24
  exact Y.vreturn rfl dX10_must_24
def f_X10_must (a0 : Nat) (p1 : Nat) (h : xH) : Option (xH) :=
  (vc h 10 a0 (f_X10_fine a0 h)).bind fun r1 =>
  if r1.1 = (0 : Int32) then
    f_X10_must_J24 r1.2
  else
    (vc r1.2 10 a0 (f_X10_takes a0 p1 r1.2)).bind fun r2 =>
    if r2.1 = (0 : Int32) then
      (gI r2.2 10 a0 4).bind fun v3 =>
      (vc r2.2 10 a0 (f_X10_wrong a0 (1 : Int32) v3 r2.2)).bind fun h4 =>
      f_X10_must_J24 h4
    else
      f_X10_must_J24 r2.2
theorem y_X10_must {g : xG} {h0 : xH} {cl : Bool} (a0 : Nat) (p1 : Nat) (h : xH) : Y g DX10_must h0 cl iV (f_X10_must a0 p1 h) 0 [some (.ref a0), some (.ref p1)] [] h := by
  unfold f_X10_must
  refine Y.op (pc' := 1) (fun _ => X.aloadn rfl dX10_must_0) ?_
  refine Y.callVi (As := []) lk_X10_104 rfl cal_X10_fine vir_X10_fine (Nat.le_of_ble_eq_true rfl) (Nat.le_of_ble_eq_true rfl) rfl rfl rfl (Nat.le_of_ble_eq_true rfl) dX10_must_1 (fun _ e => m_X10_fine a0 h _ _ e) (fun r1 => ?_)
  refine Y.ifeq 24 (by decide) dX10_must_4 ?_ ?_
  · exact Y.fg (y_X10_must_J24 r1.2) trivial
  · refine Y.op (pc' := 8) (fun _ => X.aloadn rfl dX10_must_7) ?_
    refine Y.op (pc' := 9) (fun _ => X.aloadn rfl dX10_must_8) ?_
    refine Y.callVi (As := [.ref p1]) lk_X10_157 rfl cal_X10_takes vir_X10_takes (Nat.le_of_ble_eq_true rfl) (Nat.le_of_ble_eq_true rfl) rfl rfl rfl (Nat.le_of_ble_eq_true rfl) dX10_must_9 (fun _ e => m_X10_takes a0 p1 r1.2 _ _ e) (fun r2 => ?_)
    refine Y.ifne 24 (by decide) dX10_must_12 ?_ ?_
    · exact Y.fg (y_X10_must_J24 r2.2) trivial
    · refine Y.op (pc' := 16) (fun _ => X.aloadn rfl dX10_must_15) ?_
      refine Y.op (pc' := 17) (fun _ => X.ic ki_1 dX10_must_16) ?_
      refine Y.op (pc' := 18) (fun _ => X.aloadn rfl dX10_must_17) ?_
      refine Y.getI fd_X10_91 rfl dX10_must_18 (fun v3 => ?_)
      refine Y.callVv (As := [.int (1 : Int32), .int v3]) lk_X10_116 rfl cal_X10_wrong vir_X10_wrong (Nat.le_of_ble_eq_true rfl) (Nat.le_of_ble_eq_true rfl) rfl rfl rfl (Nat.le_of_ble_eq_true rfl) dX10_must_21 (fun _ e => m_X10_wrong a0 (1 : Int32) v3 r2.2 _ _ e) (fun h4 => ?_)
      exact Y.fg (y_X10_must_J24 h4) trivial
theorem m_X10_must {g : xG} (a0 : Nat) (p1 : Nat) (h : xH) (cl : Bool) (r : xH) (e : f_X10_must a0 p1 h = some r) : XM g DX10_must [.ref a0, .ref p1] h cl (iV r) := YM.of rfl rfl (Nat.le_of_ble_eq_true rfl) (y_X10_must a0 p1 h) e
def f_X10_ends_J39 (h : xH) : Option (xH) :=
  some h
theorem y_X10_ends_J39 {g : xG} {h0 : xH} {cl : Bool} (h : xH) : Y g DX10_ends h0 cl iV (f_X10_ends_J39 h) 39 [none] [] h := by
  unfold f_X10_ends_J39
  exact Y.vreturn rfl dX10_ends_39
def f_X10_ends (a0 : Nat) (h : xH) : Option (xH) :=
  (vc h 10 a0 (f_X10_fine a0 h)).bind fun r1 =>
  if r1.1 = (0 : Int32) then
    some r1.2
  else
    (vc r1.2 10 a0 (f_X10_here a0 r1.2)).bind fun r2 =>
    if r2.1 = (59 : Int32) then
      (gI r2.2 10 a0 4).bind fun v5 =>
      (pI r2.2 10 a0 4 (v5 + (1 : Int32))).bind fun h6 =>
      f_X10_ends_J39 h6
    else
      (gI r2.2 10 a0 4).bind fun v3 =>
      (vc r2.2 10 a0 (f_X10_wrong a0 (1 : Int32) v3 r2.2)).bind fun h4 =>
      f_X10_ends_J39 h4
theorem y_X10_ends {g : xG} {h0 : xH} {cl : Bool} (a0 : Nat) (h : xH) : Y g DX10_ends h0 cl iV (f_X10_ends a0 h) 0 [some (.ref a0)] [] h := by
  unfold f_X10_ends
  refine Y.op (pc' := 1) (fun _ => X.aloadn rfl dX10_ends_0) ?_
  refine Y.callVi (As := []) lk_X10_104 rfl cal_X10_fine vir_X10_fine (Nat.le_of_ble_eq_true rfl) (Nat.le_of_ble_eq_true rfl) rfl rfl rfl (Nat.le_of_ble_eq_true rfl) dX10_ends_1 (fun _ e => m_X10_fine a0 h _ _ e) (fun r1 => ?_)
  refine Y.ifne 8 (by decide) dX10_ends_4 ?_ ?_
  · refine Y.op (pc' := 9) (fun _ => X.aloadn rfl dX10_ends_8) ?_
    refine Y.callVi (As := []) lk_X10_108 rfl cal_X10_here vir_X10_here (Nat.le_of_ble_eq_true rfl) (Nat.le_of_ble_eq_true rfl) rfl rfl rfl (Nat.le_of_ble_eq_true rfl) dX10_ends_9 (fun _ e => m_X10_here a0 r1.2 _ _ e) (fun r2 => ?_)
    refine Y.op (pc' := 14) (fun _ => X.bp kb_59 dX10_ends_12) ?_
    refine Y.cmpne 30 (by decide) dX10_ends_14 ?_ ?_
    · refine Y.op (pc' := 31) (fun _ => X.aloadn rfl dX10_ends_30) ?_
      refine Y.op (pc' := 32) (fun _ => X.ic ki_1 dX10_ends_31) ?_
      refine Y.op (pc' := 33) (fun _ => X.aloadn rfl dX10_ends_32) ?_
      refine Y.getI fd_X10_91 rfl dX10_ends_33 (fun v3 => ?_)
      refine Y.callVv (As := [.int (1 : Int32), .int v3]) lk_X10_116 rfl cal_X10_wrong vir_X10_wrong (Nat.le_of_ble_eq_true rfl) (Nat.le_of_ble_eq_true rfl) rfl rfl rfl (Nat.le_of_ble_eq_true rfl) dX10_ends_36 (fun _ e => m_X10_wrong a0 (1 : Int32) v3 r2.2 _ _ e) (fun h4 => ?_)
      exact Y.fg (y_X10_ends_J39 h4) trivial
    · refine Y.op (pc' := 18) (fun _ => X.aloadn rfl dX10_ends_17) ?_
      refine Y.op (pc' := 19) (fun _ => X.dup rfl dX10_ends_18) ?_
      refine Y.getI fd_X10_91 rfl dX10_ends_19 (fun v5 => ?_)
      refine Y.op (pc' := 23) (fun _ => X.ic ki_1 dX10_ends_22) ?_
      refine Y.op (pc' := 24) (fun _ => X.iadd dX10_ends_23) ?_
      refine Y.putI fd_X10_91 rfl dX10_ends_24 (fun h6 => ?_)
      refine Y.op (pc' := 39) (fun _ => X.goto 39 (by decide) dX10_ends_27) ?_
      exact Y.fg (y_X10_ends_J39 h6) trivial
  · exact Y.vreturn rfl dX10_ends_7
theorem m_X10_ends {g : xG} (a0 : Nat) (h : xH) (cl : Bool) (r : xH) (e : f_X10_ends a0 h = some r) : XM g DX10_ends [.ref a0] h cl (iV r) := YM.of rfl rfl (Nat.le_of_ble_eq_true rfl) (y_X10_ends a0 h) e
def f_X10_workerHere (a0 : Nat) (h : xH) : Option (Int32 × xH) :=
  (gR h 10 a0 9).bind fun v1 =>
  (aR 102 h v1 (1 : Int32)).bind fun v2 =>
  (aI h v2 (0 : Int32)).bind fun v3 =>
  (vc h 10 a0 (f_X10_number a0 (0 : Int32) (v3 - (1 : Int32)) h)).bind fun r4 =>
  some (r4.1, r4.2)
theorem y_X10_workerHere {g : xG} {h0 : xH} {cl : Bool} (a0 : Nat) (h : xH) : Y g DX10_workerHere h0 cl iI (f_X10_workerHere a0 h) 0 [some (.ref a0)] [] h := by
  unfold f_X10_workerHere
  refine Y.op (pc' := 1) (fun _ => X.aloadn rfl dX10_workerHere_0) ?_
  refine Y.op (pc' := 2) (fun _ => X.ic ki_0 dX10_workerHere_1) ?_
  refine Y.op (pc' := 3) (fun _ => X.aloadn rfl dX10_workerHere_2) ?_
  refine Y.getR fd_X10_22 rfl dX10_workerHere_3 (fun v1 => ?_)
  refine Y.op (pc' := 7) (fun _ => X.ic ki_1 dX10_workerHere_6) ?_
  refine Y.aldR 102 (by decide) (by decide) dX10_workerHere_7 (fun v2 => ?_)
  refine Y.op (pc' := 9) (fun _ => X.ic ki_0 dX10_workerHere_8) ?_
  refine Y.aldI dX10_workerHere_9 (fun v3 => ?_)
  refine Y.op (pc' := 11) (fun _ => X.ic ki_1 dX10_workerHere_10) ?_
  refine Y.op (pc' := 12) (fun _ => X.isub dX10_workerHere_11) ?_
  refine Y.callVi (As := [.int (0 : Int32), .int (v3 - (1 : Int32))]) lk_X10_161 rfl cal_X10_number vir_X10_number (Nat.le_of_ble_eq_true rfl) (Nat.le_of_ble_eq_true rfl) rfl rfl rfl (Nat.le_of_ble_eq_true rfl) dX10_workerHere_12 (fun _ e => m_X10_number a0 (0 : Int32) (v3 - (1 : Int32)) h _ _ e) (fun r4 => ?_)
  exact Y.ireturn rfl dX10_workerHere_15
theorem m_X10_workerHere {g : xG} (a0 : Nat) (h : xH) (cl : Bool) (r : Int32 × xH) (e : f_X10_workerHere a0 h = some r) : XM g DX10_workerHere [.ref a0] h cl (iI r) := YM.of rfl rfl (Nat.le_of_ble_eq_true rfl) (y_X10_workerHere a0 h) e
def f_X10_taskHere (a0 : Nat) (h : xH) : Option (Int32 × xH) :=
  (gR h 10 a0 9).bind fun v1 =>
  (aR 102 h v1 (1 : Int32)).bind fun v2 =>
  (aI h v2 (1 : Int32)).bind fun v3 =>
  (vc h 10 a0 (f_X10_number a0 (0 : Int32) (v3 - (1 : Int32)) h)).bind fun r4 =>
  some (r4.1, r4.2)
theorem y_X10_taskHere {g : xG} {h0 : xH} {cl : Bool} (a0 : Nat) (h : xH) : Y g DX10_taskHere h0 cl iI (f_X10_taskHere a0 h) 0 [some (.ref a0)] [] h := by
  unfold f_X10_taskHere
  refine Y.op (pc' := 1) (fun _ => X.aloadn rfl dX10_taskHere_0) ?_
  refine Y.op (pc' := 2) (fun _ => X.ic ki_0 dX10_taskHere_1) ?_
  refine Y.op (pc' := 3) (fun _ => X.aloadn rfl dX10_taskHere_2) ?_
  refine Y.getR fd_X10_22 rfl dX10_taskHere_3 (fun v1 => ?_)
  refine Y.op (pc' := 7) (fun _ => X.ic ki_1 dX10_taskHere_6) ?_
  refine Y.aldR 102 (by decide) (by decide) dX10_taskHere_7 (fun v2 => ?_)
  refine Y.op (pc' := 9) (fun _ => X.ic ki_1 dX10_taskHere_8) ?_
  refine Y.aldI dX10_taskHere_9 (fun v3 => ?_)
  refine Y.op (pc' := 11) (fun _ => X.ic ki_1 dX10_taskHere_10) ?_
  refine Y.op (pc' := 12) (fun _ => X.isub dX10_taskHere_11) ?_
  refine Y.callVi (As := [.int (0 : Int32), .int (v3 - (1 : Int32))]) lk_X10_161 rfl cal_X10_number vir_X10_number (Nat.le_of_ble_eq_true rfl) (Nat.le_of_ble_eq_true rfl) rfl rfl rfl (Nat.le_of_ble_eq_true rfl) dX10_taskHere_12 (fun _ e => m_X10_number a0 (0 : Int32) (v3 - (1 : Int32)) h _ _ e) (fun r4 => ?_)
  exact Y.ireturn rfl dX10_taskHere_15
theorem m_X10_taskHere {g : xG} (a0 : Nat) (h : xH) (cl : Bool) (r : Int32 × xH) (e : f_X10_taskHere a0 h = some r) : XM g DX10_taskHere [.ref a0] h cl (iI r) := YM.of rfl rfl (Nat.le_of_ble_eq_true rfl) (y_X10_taskHere a0 h) e
def f_X10_ownerOf_J23 (h : xH) : Option (Int32 × xH) :=
  some ((-1 : Int32), h)
theorem y_X10_ownerOf_J23 {g : xG} {h0 : xH} {cl : Bool} (h : xH) : Y g DX10_ownerOf h0 cl iI (f_X10_ownerOf_J23 h) 23 [none, none, none] [] h := by
  unfold f_X10_ownerOf_J23
  refine Y.op (pc' := 24) (fun _ => X.ic ki_m1 dX10_ownerOf_23) ?_
  exact Y.ireturn rfl dX10_ownerOf_24
def f_X10_ownerOf_J15 (x2 : Int32) (h : xH) : Option (Int32 × xH) :=
  some (x2, h)
theorem y_X10_ownerOf_J15 {g : xG} {h0 : xH} {cl : Bool} (x2 : Int32) (h : xH) : Y g DX10_ownerOf h0 cl iI (f_X10_ownerOf_J15 x2 h) 15 [none, none, some (.int x2)] [] h := by
  unfold f_X10_ownerOf_J15
  refine Y.op (pc' := 16) (fun _ => X.iloadn rfl dX10_ownerOf_15) ?_
  exact Y.ireturn rfl dX10_ownerOf_16
def f_X10_ownerOf_L2 (kE15 : Int32 → xH → Option (Int32 × xH)) (kE23 : xH → Option (Int32 × xH)) : Nat → Nat → Int32 → Int32 → xH → Option (Int32 × xH)
  | 0 => fun _ _ _ _ => none
  | n + 1 => fun x0 x1 x2 h =>
    if x2 ≥ (12 : Int32) then
      kE23 h
    else
      (aI h x0 x2).bind fun v1 =>
      if v1 = x1 then
        kE15 x2 h
      else
        lt (x2 + (1 : Int32)) fun v2 =>
        f_X10_ownerOf_L2 kE15 kE23 n x0 x1 v2 h
theorem y_X10_ownerOf_L2 {g : xG} {h0 : xH} {cl : Bool} {kE15 : Int32 → xH → Option (Int32 × xH)} {kE23 : xH → Option (Int32 × xH)} (hkE15 : ∀ (x2 : Int32) (h : xH), Y g DX10_ownerOf h0 cl iI (kE15 x2 h) 15 [none, none, some (.int x2)] [] h) (hkE23 : ∀  (h : xH), Y g DX10_ownerOf h0 cl iI (kE23  h) 23 [none, none, none] [] h) : ∀ (n : Nat) (x0 : Nat) (x1 : Int32) (x2 : Int32) (h : xH), Y g DX10_ownerOf h0 cl iI (f_X10_ownerOf_L2 kE15 kE23 n x0 x1 x2 h) 2 [some (.ref x0), some (.int x1), some (.int x2)] [] h := by
  intro n
  induction n with
  | zero => intro x0 x1 x2 h; exact Y.nothing
  | succ n ih =>
    intro x0 x1 x2 h
    unfold f_X10_ownerOf_L2
    refine Y.op (pc' := 3) (fun _ => X.iloadn rfl dX10_ownerOf_2) ?_
    refine Y.op (pc' := 5) (fun _ => X.bp kb_12 dX10_ownerOf_3) ?_
    refine Y.cmpge 23 (by decide) dX10_ownerOf_5 ?_ ?_
    · exact Y.fg (hkE23 h) trivial
    · refine Y.op (pc' := 9) (fun _ => X.aloadn rfl dX10_ownerOf_8) ?_
      refine Y.op (pc' := 10) (fun _ => X.iloadn rfl dX10_ownerOf_9) ?_
      refine Y.aldI dX10_ownerOf_10 (fun v1 => ?_)
      refine Y.op (pc' := 12) (fun _ => X.iloadn rfl dX10_ownerOf_11) ?_
      refine Y.cmpne 17 (by decide) dX10_ownerOf_12 ?_ ?_
      · refine Y.iinc (i := 2) (loc' := fun v2 => [some (.ref x0), some (.int x1), some (.int v2)]) rfl (Nat.le_of_ble_eq_true rfl) ki_1 (fun _ => rfl) dX10_ownerOf_17 (fun v2 => ?_)
        refine Y.op (pc' := 2) (fun _ => X.goto 2 (by decide) dX10_ownerOf_20) ?_
        exact ih x0 x1 v2 h
      · exact Y.fg (hkE15 x2 h) (And.intro rfl trivial)
def f_X10_ownerOf (p1 : Nat) (p2 : Int32) (h : xH) : Option (Int32 × xH) :=
  f_X10_ownerOf_L2 (f_X10_ownerOf_J15) (f_X10_ownerOf_J23) 5000 p1 p2 (0 : Int32) h
theorem y_X10_ownerOf {g : xG} {h0 : xH} {cl : Bool} (p1 : Nat) (p2 : Int32) (h : xH) : Y g DX10_ownerOf h0 cl iI (f_X10_ownerOf p1 p2 h) 0 [some (.ref p1), some (.int p2), none] [] h := by
  unfold f_X10_ownerOf
  refine Y.op (pc' := 1) (fun _ => X.ic ki_0 dX10_ownerOf_0) ?_
  refine Y.op (pc' := 2) (loc' := [some (.ref p1), some (.int p2), some (.int (0 : Int32))]) (fun _ => X.istoren (Nat.le_of_ble_eq_true rfl) rfl dX10_ownerOf_1) ?_
  exact y_X10_ownerOf_L2 (y_X10_ownerOf_J15) (y_X10_ownerOf_J23) 5000 p1 p2 (0 : Int32) h
theorem m_X10_ownerOf {g : xG} (p1 : Nat) (p2 : Int32) (h : xH) (cl : Bool) (r : Int32 × xH) (e : f_X10_ownerOf p1 p2 h = some r) : XM g DX10_ownerOf [.ref p1, .int p2] h cl (iI r) := YM.of rfl rfl (Nat.le_of_ble_eq_true rfl) (y_X10_ownerOf p1 p2 h) e
def f_X10_readsFit_J38 (x0 : Nat) (x1 : Int32) (x2 : Int32) (s0 : Int32) (h : xH) : Option (xH) :=
  (vc h 10 x0 (f_X10_fine x0 h)).bind fun r1 =>
  if r1.1 = (0 : Int32) then
    some r1.2
  else
    (gR r1.2 10 x0 10).bind fun v2 =>
    (aR 102 r1.2 v2 (1 : Int32)).bind fun v3 =>
    (aI r1.2 v3 x1).bind fun v4 =>
    (sI r1.2 v3 x1 (v4 ||| ((1 : Int32) <<< (x2 &&& 31)))).bind fun h5 =>
    (gR h5 10 x0 13).bind fun v6 =>
    (aR 103 h5 v6 (1 : Int32)).bind fun v7 =>
    (aR 102 h5 v7 x1).bind fun v8 =>
    (sI h5 v8 x2 s0).bind fun h9 =>
    some h9
theorem y_X10_readsFit_J38 {g : xG} {h0 : xH} {cl : Bool} (x0 : Nat) (x1 : Int32) (x2 : Int32) (s0 : Int32) (h : xH) : Y g DX10_readsFit h0 cl iV (f_X10_readsFit_J38 x0 x1 x2 s0 h) 38 [some (.ref x0), some (.int x1), some (.int x2), none] [.int s0] h := by
  unfold f_X10_readsFit_J38
  refine Y.op (pc' := 39) (loc' := [some (.ref x0), some (.int x1), some (.int x2), some (.int s0)]) (fun _ => X.istoren (Nat.le_of_ble_eq_true rfl) rfl dX10_readsFit_38) ?_
  refine Y.op (pc' := 40) (fun _ => X.aloadn rfl dX10_readsFit_39) ?_
  refine Y.callVi (As := []) lk_X10_104 rfl cal_X10_fine vir_X10_fine (Nat.le_of_ble_eq_true rfl) (Nat.le_of_ble_eq_true rfl) rfl rfl rfl (Nat.le_of_ble_eq_true rfl) dX10_readsFit_40 (fun _ e => m_X10_fine x0 h _ _ e) (fun r1 => ?_)
  refine Y.ifne 47 (by decide) dX10_readsFit_43 ?_ ?_
  · refine Y.op (pc' := 48) (fun _ => X.aloadn rfl dX10_readsFit_47) ?_
    refine Y.getR fd_X10_25 rfl dX10_readsFit_48 (fun v2 => ?_)
    refine Y.op (pc' := 52) (fun _ => X.ic ki_1 dX10_readsFit_51) ?_
    refine Y.aldR 102 (by decide) (by decide) dX10_readsFit_52 (fun v3 => ?_)
    refine Y.op (pc' := 54) (fun _ => X.iloadn rfl dX10_readsFit_53) ?_
    refine Y.op (pc' := 55) (fun _ => X.dup2 rfl rfl dX10_readsFit_54) ?_
    refine Y.aldI dX10_readsFit_55 (fun v4 => ?_)
    refine Y.op (pc' := 57) (fun _ => X.ic ki_1 dX10_readsFit_56) ?_
    refine Y.op (pc' := 58) (fun _ => X.iloadn rfl dX10_readsFit_57) ?_
    refine Y.op (pc' := 59) (fun _ => X.ishl dX10_readsFit_58) ?_
    refine Y.op (pc' := 60) (fun _ => X.ior dX10_readsFit_59) ?_
    refine Y.astI dX10_readsFit_60 (fun h5 => ?_)
    refine Y.op (pc' := 62) (fun _ => X.aloadn rfl dX10_readsFit_61) ?_
    refine Y.getR fd_X10_36 rfl dX10_readsFit_62 (fun v6 => ?_)
    refine Y.op (pc' := 66) (fun _ => X.ic ki_1 dX10_readsFit_65) ?_
    refine Y.aldR 103 (by decide) (by decide) dX10_readsFit_66 (fun v7 => ?_)
    refine Y.op (pc' := 68) (fun _ => X.iloadn rfl dX10_readsFit_67) ?_
    refine Y.aldR 102 (by decide) (by decide) dX10_readsFit_68 (fun v8 => ?_)
    refine Y.op (pc' := 70) (fun _ => X.iloadn rfl dX10_readsFit_69) ?_
    refine Y.op (pc' := 71) (fun _ => X.iloadn rfl dX10_readsFit_70) ?_
    refine Y.astI dX10_readsFit_71 (fun h9 => ?_)
    exact Y.vreturn rfl dX10_readsFit_72
  · exact Y.vreturn rfl dX10_readsFit_46
def f_X10_readsFit_J37 (x0 : Nat) (x1 : Int32) (x2 : Int32) (h : xH) : Option (xH) :=
  f_X10_readsFit_J38 x0 x1 x2 (0 : Int32) h
theorem y_X10_readsFit_J37 {g : xG} {h0 : xH} {cl : Bool} (x0 : Nat) (x1 : Int32) (x2 : Int32) (h : xH) : Y g DX10_readsFit h0 cl iV (f_X10_readsFit_J37 x0 x1 x2 h) 37 [some (.ref x0), some (.int x1), some (.int x2), none] [] h := by
  unfold f_X10_readsFit_J37
  refine Y.op (pc' := 38) (fun _ => X.ic ki_0 dX10_readsFit_37) ?_
  exact y_X10_readsFit_J38 x0 x1 x2 (0 : Int32) h
def f_X10_readsFit (a0 : Nat) (h : xH) : Option (xH) :=
  (vc h 10 a0 (f_X10_workerHere a0 h)).bind fun r1 =>
  (vc r1.2 10 a0 (f_X10_taskHere a0 r1.2)).bind fun r2 =>
  (vc r2.2 10 a0 (f_X10_fine a0 r2.2)).bind fun r3 =>
  if r3.1 = (0 : Int32) then
    f_X10_readsFit_J37 a0 r1.1 r2.1 r3.2
  else
    (vc r3.2 10 a0 (f_X10_here a0 r3.2)).bind fun r4 =>
    (f_X10_isDigit r4.1 r4.2).bind fun r5 =>
    if r5.1 = (0 : Int32) then
      f_X10_readsFit_J37 a0 r1.1 r2.1 r5.2
    else
      (vc r5.2 10 a0 (f_X10_number a0 (0 : Int32) (99 : Int32) r5.2)).bind fun r6 =>
      f_X10_readsFit_J38 a0 r1.1 r2.1 r6.1 r6.2
theorem y_X10_readsFit {g : xG} {h0 : xH} {cl : Bool} (a0 : Nat) (h : xH) : Y g DX10_readsFit h0 cl iV (f_X10_readsFit a0 h) 0 [some (.ref a0), none, none, none] [] h := by
  unfold f_X10_readsFit
  refine Y.op (pc' := 1) (fun _ => X.aloadn rfl dX10_readsFit_0) ?_
  refine Y.callVi (As := []) lk_X10_164 rfl cal_X10_workerHere vir_X10_workerHere (Nat.le_of_ble_eq_true rfl) (Nat.le_of_ble_eq_true rfl) rfl rfl rfl (Nat.le_of_ble_eq_true rfl) dX10_readsFit_1 (fun _ e => m_X10_workerHere a0 h _ _ e) (fun r1 => ?_)
  refine Y.op (pc' := 5) (loc' := [some (.ref a0), some (.int r1.1), none, none]) (fun _ => X.istoren (Nat.le_of_ble_eq_true rfl) rfl dX10_readsFit_4) ?_
  refine Y.op (pc' := 6) (fun _ => X.aloadn rfl dX10_readsFit_5) ?_
  refine Y.callVi (As := []) lk_X10_167 rfl cal_X10_taskHere vir_X10_taskHere (Nat.le_of_ble_eq_true rfl) (Nat.le_of_ble_eq_true rfl) rfl rfl rfl (Nat.le_of_ble_eq_true rfl) dX10_readsFit_6 (fun _ e => m_X10_taskHere a0 r1.2 _ _ e) (fun r2 => ?_)
  refine Y.op (pc' := 10) (loc' := [some (.ref a0), some (.int r1.1), some (.int r2.1), none]) (fun _ => X.istoren (Nat.le_of_ble_eq_true rfl) rfl dX10_readsFit_9) ?_
  refine Y.op (pc' := 11) (fun _ => X.aloadn rfl dX10_readsFit_10) ?_
  refine Y.callVi (As := []) lk_X10_104 rfl cal_X10_fine vir_X10_fine (Nat.le_of_ble_eq_true rfl) (Nat.le_of_ble_eq_true rfl) rfl rfl rfl (Nat.le_of_ble_eq_true rfl) dX10_readsFit_11 (fun _ e => m_X10_fine a0 r2.2 _ _ e) (fun r3 => ?_)
  refine Y.ifeq 37 (by decide) dX10_readsFit_14 ?_ ?_
  · exact y_X10_readsFit_J37 a0 r1.1 r2.1 r3.2
  · refine Y.op (pc' := 18) (fun _ => X.aloadn rfl dX10_readsFit_17) ?_
    refine Y.callVi (As := []) lk_X10_108 rfl cal_X10_here vir_X10_here (Nat.le_of_ble_eq_true rfl) (Nat.le_of_ble_eq_true rfl) rfl rfl rfl (Nat.le_of_ble_eq_true rfl) dX10_readsFit_18 (fun _ e => m_X10_here a0 r3.2 _ _ e) (fun r4 => ?_)
    refine Y.callSi (As := [.int r4.1]) lk_X10_112 rfl cal_X10_isDigit sta_X10_isDigit (Nat.le_of_ble_eq_true rfl) rfl rfl (Nat.le_of_ble_eq_true rfl) dX10_readsFit_21 (fun _ e => m_X10_isDigit r4.1 r4.2 _ _ e) (fun r5 => ?_)
    refine Y.ifeq 37 (by decide) dX10_readsFit_24 ?_ ?_
    · exact y_X10_readsFit_J37 a0 r1.1 r2.1 r5.2
    · refine Y.op (pc' := 28) (fun _ => X.aloadn rfl dX10_readsFit_27) ?_
      refine Y.op (pc' := 29) (fun _ => X.ic ki_0 dX10_readsFit_28) ?_
      refine Y.op (pc' := 31) (fun _ => X.bp kb_99 dX10_readsFit_29) ?_
      refine Y.callVi (As := [.int (0 : Int32), .int (99 : Int32)]) lk_X10_161 rfl cal_X10_number vir_X10_number (Nat.le_of_ble_eq_true rfl) (Nat.le_of_ble_eq_true rfl) rfl rfl rfl (Nat.le_of_ble_eq_true rfl) dX10_readsFit_31 (fun _ e => m_X10_number a0 (0 : Int32) (99 : Int32) r5.2 _ _ e) (fun r6 => ?_)
      refine Y.op (pc' := 38) (fun _ => X.goto 38 (by decide) dX10_readsFit_34) ?_
      exact y_X10_readsFit_J38 a0 r1.1 r2.1 r6.1 r6.2
theorem m_X10_readsFit {g : xG} (a0 : Nat) (h : xH) (cl : Bool) (r : xH) (e : f_X10_readsFit a0 h = some r) : XM g DX10_readsFit [.ref a0] h cl (iV r) := YM.of rfl rfl (Nat.le_of_ble_eq_true rfl) (y_X10_readsFit a0 h) e
def f_X10_readsAway_J125 (x0 : Nat) (x2 : Int32) (x3 : Int32) (h : xH) : Option (xH) :=
  (gR h 10 x0 9).bind fun v1 =>
  (aR 102 h v1 (1 : Int32)).bind fun v2 =>
  (aI h v2 x3).bind fun v3 =>
  (sI h v2 x3 (v3 &&& (((1 : Int32) <<< (x2 &&& 31)) ^^^ (-1 : Int32)))).bind fun h4 =>
  some h4
theorem y_X10_readsAway_J125 {g : xG} {h0 : xH} {cl : Bool} (x0 : Nat) (x2 : Int32) (x3 : Int32) (h : xH) : Y g DX10_readsAway h0 cl iV (f_X10_readsAway_J125 x0 x2 x3 h) 125 [some (.ref x0), none, some (.int x2), some (.int x3), none] [] h := by
  unfold f_X10_readsAway_J125
  refine Y.op (pc' := 126) (fun _ => X.aloadn rfl dX10_readsAway_125) ?_
  refine Y.getR fd_X10_22 rfl dX10_readsAway_126 (fun v1 => ?_)
  refine Y.op (pc' := 130) (fun _ => X.ic ki_1 dX10_readsAway_129) ?_
  refine Y.aldR 102 (by decide) (by decide) dX10_readsAway_130 (fun v2 => ?_)
  refine Y.op (pc' := 132) (fun _ => X.iloadn rfl dX10_readsAway_131) ?_
  refine Y.op (pc' := 133) (fun _ => X.dup2 rfl rfl dX10_readsAway_132) ?_
  refine Y.aldI dX10_readsAway_133 (fun v3 => ?_)
  refine Y.op (pc' := 135) (fun _ => X.ic ki_1 dX10_readsAway_134) ?_
  refine Y.op (pc' := 136) (fun _ => X.iloadn rfl dX10_readsAway_135) ?_
  refine Y.op (pc' := 137) (fun _ => X.ishl dX10_readsAway_136) ?_
  refine Y.op (pc' := 138) (fun _ => X.ic ki_m1 dX10_readsAway_137) ?_
  refine Y.op (pc' := 139) (fun _ => X.ixor dX10_readsAway_138) ?_
  refine Y.op (pc' := 140) (fun _ => X.iand dX10_readsAway_139) ?_
  refine Y.astI dX10_readsAway_140 (fun h4 => ?_)
  exact Y.vreturn rfl dX10_readsAway_141
def f_X10_readsAway_J116 (x0 : Nat) (x2 : Int32) (x3 : Int32) (h : xH) : Option (xH) :=
  (gI h 10 x0 15).bind fun v1 =>
  (vc h 10 x0 (f_X10_wrong x0 (5 : Int32) v1 h)).bind fun h2 =>
  f_X10_readsAway_J125 x0 x2 x3 h2
theorem y_X10_readsAway_J116 {g : xG} {h0 : xH} {cl : Bool} (x0 : Nat) (x2 : Int32) (x3 : Int32) (h : xH) : Y g DX10_readsAway h0 cl iV (f_X10_readsAway_J116 x0 x2 x3 h) 116 [some (.ref x0), none, some (.int x2), some (.int x3), none] [] h := by
  unfold f_X10_readsAway_J116
  refine Y.op (pc' := 117) (fun _ => X.aloadn rfl dX10_readsAway_116) ?_
  refine Y.op (pc' := 118) (fun _ => X.ic ki_5 dX10_readsAway_117) ?_
  refine Y.op (pc' := 119) (fun _ => X.aloadn rfl dX10_readsAway_118) ?_
  refine Y.getI fd_X10_120 rfl dX10_readsAway_119 (fun v1 => ?_)
  refine Y.callVv (As := [.int (5 : Int32), .int v1]) lk_X10_116 rfl cal_X10_wrong vir_X10_wrong (Nat.le_of_ble_eq_true rfl) (Nat.le_of_ble_eq_true rfl) rfl rfl rfl (Nat.le_of_ble_eq_true rfl) dX10_readsAway_122 (fun _ e => m_X10_wrong x0 (5 : Int32) v1 h _ _ e) (fun h2 => ?_)
  exact y_X10_readsAway_J125 x0 x2 x3 h2
def f_X10_readsAway_J94 (x0 : Nat) (x2 : Int32) (x3 : Int32) (s0 : Int32) (h : xH) : Option (xH) :=
  (gR h 10 x0 9).bind fun v1 =>
  (aR 102 h v1 (1 : Int32)).bind fun v2 =>
  (aI h v2 x3).bind fun v3 =>
  (f_X10_has v3 x2 h).bind fun r4 =>
  if r4.1 = (0 : Int32) then
    f_X10_readsAway_J116 x0 x2 x3 r4.2
  else
    if s0 = (0 : Int32) then
      f_X10_readsAway_J125 x0 x2 x3 r4.2
    else
      f_X10_readsAway_J116 x0 x2 x3 r4.2
theorem y_X10_readsAway_J94 {g : xG} {h0 : xH} {cl : Bool} (x0 : Nat) (x2 : Int32) (x3 : Int32) (s0 : Int32) (h : xH) : Y g DX10_readsAway h0 cl iV (f_X10_readsAway_J94 x0 x2 x3 s0 h) 94 [some (.ref x0), none, some (.int x2), some (.int x3), none] [.int s0] h := by
  unfold f_X10_readsAway_J94
  refine Y.op (pc' := 96) (loc' := [some (.ref x0), none, some (.int x2), some (.int x3), some (.int s0)]) (fun _ => X.istore (Nat.le_of_ble_eq_true rfl) rfl dX10_readsAway_94) ?_
  refine Y.op (pc' := 97) (fun _ => X.aloadn rfl dX10_readsAway_96) ?_
  refine Y.getR fd_X10_22 rfl dX10_readsAway_97 (fun v1 => ?_)
  refine Y.op (pc' := 101) (fun _ => X.ic ki_1 dX10_readsAway_100) ?_
  refine Y.aldR 102 (by decide) (by decide) dX10_readsAway_101 (fun v2 => ?_)
  refine Y.op (pc' := 103) (fun _ => X.iloadn rfl dX10_readsAway_102) ?_
  refine Y.aldI dX10_readsAway_103 (fun v3 => ?_)
  refine Y.op (pc' := 105) (fun _ => X.iloadn rfl dX10_readsAway_104) ?_
  refine Y.callSi (As := [.int v3, .int x2]) lk_X10_182 rfl cal_X10_has sta_X10_has (Nat.le_of_ble_eq_true rfl) rfl rfl (Nat.le_of_ble_eq_true rfl) dX10_readsAway_105 (fun _ e => m_X10_has v3 x2 h _ _ e) (fun r4 => ?_)
  refine Y.ifeq 116 (by decide) dX10_readsAway_108 ?_ ?_
  · exact Y.fg (y_X10_readsAway_J116 x0 x2 x3 r4.2) (And.intro rfl (And.intro rfl (And.intro rfl trivial)))
  · refine Y.op (pc' := 113) (fun _ => X.iload rfl dX10_readsAway_111) ?_
    refine Y.ifeq 125 (by decide) dX10_readsAway_113 ?_ ?_
    · exact Y.fg (y_X10_readsAway_J125 x0 x2 x3 r4.2) (And.intro rfl (And.intro rfl (And.intro rfl trivial)))
    · exact Y.fg (y_X10_readsAway_J116 x0 x2 x3 r4.2) (And.intro rfl (And.intro rfl (And.intro rfl trivial)))
def f_X10_readsAway_J50 (x0 : Nat) (x1 : Int32) (x2 : Int32) (s0 : Int32) (h : xH) : Option (xH) :=
  if x1 = (0 : Int32) then
    (gR h 10 x0 11).bind fun v1 =>
    (aR 102 h v1 (1 : Int32)).bind fun v2 =>
    (f_X10_ownerOf v2 x2 h).bind fun r3 =>
    if r3.1 = (-1 : Int32) then
      f_X10_readsAway_J94 x0 x2 s0 (0 : Int32) r3.2
    else
      f_X10_readsAway_J94 x0 x2 s0 (1 : Int32) r3.2
  else
    (gR h 10 x0 11).bind fun v4 =>
    (aR 102 h v4 (1 : Int32)).bind fun v5 =>
    (aI h v5 x2).bind fun v6 =>
    if v6 = (-1 : Int32) then
      f_X10_readsAway_J94 x0 x2 s0 (0 : Int32) h
    else
      f_X10_readsAway_J94 x0 x2 s0 (1 : Int32) h
theorem y_X10_readsAway_J50 {g : xG} {h0 : xH} {cl : Bool} (x0 : Nat) (x1 : Int32) (x2 : Int32) (s0 : Int32) (h : xH) : Y g DX10_readsAway h0 cl iV (f_X10_readsAway_J50 x0 x1 x2 s0 h) 50 [some (.ref x0), some (.int x1), some (.int x2), none, none] [.int s0] h := by
  unfold f_X10_readsAway_J50
  refine Y.op (pc' := 51) (loc' := [some (.ref x0), some (.int x1), some (.int x2), some (.int s0), none]) (fun _ => X.istoren (Nat.le_of_ble_eq_true rfl) rfl dX10_readsAway_50) ?_
  refine Y.op (pc' := 52) (fun _ => X.iloadn rfl dX10_readsAway_51) ?_
  refine Y.ifeq 75 (by decide) dX10_readsAway_52 ?_ ?_
  · refine Y.op (pc' := 76) (fun _ => X.aloadn rfl dX10_readsAway_75) ?_
    refine Y.getR fd_X10_28 rfl dX10_readsAway_76 (fun v1 => ?_)
    refine Y.op (pc' := 80) (fun _ => X.ic ki_1 dX10_readsAway_79) ?_
    refine Y.aldR 102 (by decide) (by decide) dX10_readsAway_80 (fun v2 => ?_)
    refine Y.op (pc' := 82) (fun _ => X.iloadn rfl dX10_readsAway_81) ?_
    refine Y.callSi (As := [.ref v2, .int x2]) lk_X10_178 rfl cal_X10_ownerOf sta_X10_ownerOf (Nat.le_of_ble_eq_true rfl) rfl rfl (Nat.le_of_ble_eq_true rfl) dX10_readsAway_82 (fun _ e => m_X10_ownerOf v2 x2 h _ _ e) (fun r3 => ?_)
    refine Y.op (pc' := 86) (fun _ => X.ic ki_m1 dX10_readsAway_85) ?_
    refine Y.cmpeq 93 (by decide) dX10_readsAway_86 ?_ ?_
    · refine Y.op (pc' := 94) (fun _ => X.ic ki_0 dX10_readsAway_93) ?_
      exact Y.fg (y_X10_readsAway_J94 x0 x2 s0 (0 : Int32) r3.2) (And.intro rfl (And.intro rfl (And.intro rfl trivial)))
    · refine Y.op (pc' := 90) (fun _ => X.ic ki_1 dX10_readsAway_89) ?_
      refine Y.op (pc' := 94) (fun _ => X.goto 94 (by decide) dX10_readsAway_90) ?_
      exact Y.fg (y_X10_readsAway_J94 x0 x2 s0 (1 : Int32) r3.2) (And.intro rfl (And.intro rfl (And.intro rfl trivial)))
  · refine Y.op (pc' := 56) (fun _ => X.aloadn rfl dX10_readsAway_55) ?_
    refine Y.getR fd_X10_28 rfl dX10_readsAway_56 (fun v4 => ?_)
    refine Y.op (pc' := 60) (fun _ => X.ic ki_1 dX10_readsAway_59) ?_
    refine Y.aldR 102 (by decide) (by decide) dX10_readsAway_60 (fun v5 => ?_)
    refine Y.op (pc' := 62) (fun _ => X.iloadn rfl dX10_readsAway_61) ?_
    refine Y.aldI dX10_readsAway_62 (fun v6 => ?_)
    refine Y.op (pc' := 64) (fun _ => X.ic ki_m1 dX10_readsAway_63) ?_
    refine Y.cmpeq 71 (by decide) dX10_readsAway_64 ?_ ?_
    · refine Y.op (pc' := 72) (fun _ => X.ic ki_0 dX10_readsAway_71) ?_
      refine Y.op (pc' := 94) (fun _ => X.goto 94 (by decide) dX10_readsAway_72) ?_
      exact Y.fg (y_X10_readsAway_J94 x0 x2 s0 (0 : Int32) h) (And.intro rfl (And.intro rfl (And.intro rfl trivial)))
    · refine Y.op (pc' := 68) (fun _ => X.ic ki_1 dX10_readsAway_67) ?_
      refine Y.op (pc' := 94) (fun _ => X.goto 94 (by decide) dX10_readsAway_68) ?_
      exact Y.fg (y_X10_readsAway_J94 x0 x2 s0 (1 : Int32) h) (And.intro rfl (And.intro rfl (And.intro rfl trivial)))
def f_X10_readsAway_J32 (x0 : Nat) (x1 : Int32) (s0 : Int32) (h : xH) : Option (xH) :=
  (vc h 10 x0 (f_X10_fine x0 h)).bind fun r1 =>
  if r1.1 = (0 : Int32) then
    some r1.2
  else
    if x1 = (0 : Int32) then
      f_X10_readsAway_J50 x0 x1 s0 (4 : Int32) r1.2
    else
      f_X10_readsAway_J50 x0 x1 s0 (3 : Int32) r1.2
theorem y_X10_readsAway_J32 {g : xG} {h0 : xH} {cl : Bool} (x0 : Nat) (x1 : Int32) (s0 : Int32) (h : xH) : Y g DX10_readsAway h0 cl iV (f_X10_readsAway_J32 x0 x1 s0 h) 32 [some (.ref x0), some (.int x1), none, none, none] [.int s0] h := by
  unfold f_X10_readsAway_J32
  refine Y.op (pc' := 33) (loc' := [some (.ref x0), some (.int x1), some (.int s0), none, none]) (fun _ => X.istoren (Nat.le_of_ble_eq_true rfl) rfl dX10_readsAway_32) ?_
  refine Y.op (pc' := 34) (fun _ => X.aloadn rfl dX10_readsAway_33) ?_
  refine Y.callVi (As := []) lk_X10_104 rfl cal_X10_fine vir_X10_fine (Nat.le_of_ble_eq_true rfl) (Nat.le_of_ble_eq_true rfl) rfl rfl rfl (Nat.le_of_ble_eq_true rfl) dX10_readsAway_34 (fun _ e => m_X10_fine x0 h _ _ e) (fun r1 => ?_)
  refine Y.ifne 41 (by decide) dX10_readsAway_37 ?_ ?_
  · refine Y.op (pc' := 42) (fun _ => X.iloadn rfl dX10_readsAway_41) ?_
    refine Y.ifeq 49 (by decide) dX10_readsAway_42 ?_ ?_
    · refine Y.op (pc' := 50) (fun _ => X.ic ki_4 dX10_readsAway_49) ?_
      exact y_X10_readsAway_J50 x0 x1 s0 (4 : Int32) r1.2
    · refine Y.op (pc' := 46) (fun _ => X.ic ki_3 dX10_readsAway_45) ?_
      refine Y.op (pc' := 50) (fun _ => X.goto 50 (by decide) dX10_readsAway_46) ?_
      exact y_X10_readsAway_J50 x0 x1 s0 (3 : Int32) r1.2
  · exact Y.vreturn rfl dX10_readsAway_40
def f_X10_readsAway_J17 (x0 : Nat) (x1 : Int32) (h : xH) : Option (xH) :=
  if x1 = (0 : Int32) then
    (vc h 10 x0 (f_X10_taskHere x0 h)).bind fun r1 =>
    f_X10_readsAway_J32 x0 x1 r1.1 r1.2
  else
    (vc h 10 x0 (f_X10_workerHere x0 h)).bind fun r2 =>
    f_X10_readsAway_J32 x0 x1 r2.1 r2.2
theorem y_X10_readsAway_J17 {g : xG} {h0 : xH} {cl : Bool} (x0 : Nat) (x1 : Int32) (h : xH) : Y g DX10_readsAway h0 cl iV (f_X10_readsAway_J17 x0 x1 h) 17 [some (.ref x0), some (.int x1), none, none, none] [] h := by
  unfold f_X10_readsAway_J17
  refine Y.op (pc' := 18) (fun _ => X.iloadn rfl dX10_readsAway_17) ?_
  refine Y.ifeq 28 (by decide) dX10_readsAway_18 ?_ ?_
  · refine Y.op (pc' := 29) (fun _ => X.aloadn rfl dX10_readsAway_28) ?_
    refine Y.callVi (As := []) lk_X10_167 rfl cal_X10_taskHere vir_X10_taskHere (Nat.le_of_ble_eq_true rfl) (Nat.le_of_ble_eq_true rfl) rfl rfl rfl (Nat.le_of_ble_eq_true rfl) dX10_readsAway_29 (fun _ e => m_X10_taskHere x0 h _ _ e) (fun r1 => ?_)
    exact y_X10_readsAway_J32 x0 x1 r1.1 r1.2
  · refine Y.op (pc' := 22) (fun _ => X.aloadn rfl dX10_readsAway_21) ?_
    refine Y.callVi (As := []) lk_X10_164 rfl cal_X10_workerHere vir_X10_workerHere (Nat.le_of_ble_eq_true rfl) (Nat.le_of_ble_eq_true rfl) rfl rfl rfl (Nat.le_of_ble_eq_true rfl) dX10_readsAway_22 (fun _ e => m_X10_workerHere x0 h _ _ e) (fun r2 => ?_)
    refine Y.op (pc' := 32) (fun _ => X.goto 32 (by decide) dX10_readsAway_25) ?_
    exact y_X10_readsAway_J32 x0 x1 r2.1 r2.2
def f_X10_readsAway (a0 : Nat) (h : xH) : Option (xH) :=
  (vc h 10 a0 (f_X10_takes a0 (1000010 : Nat) h)).bind fun r1 =>
  if r1.1 = (0 : Int32) then
    (vc r1.2 10 a0 (f_X10_must a0 (1000011 : Nat) r1.2)).bind fun h2 =>
    f_X10_readsAway_J17 a0 r1.1 h2
  else
    f_X10_readsAway_J17 a0 r1.1 r1.2
theorem y_X10_readsAway {g : xG} {h0 : xH} {cl : Bool} (a0 : Nat) (h : xH) : Y g DX10_readsAway h0 cl iV (f_X10_readsAway a0 h) 0 [some (.ref a0), none, none, none, none] [] h := by
  unfold f_X10_readsAway
  refine Y.op (pc' := 1) (fun _ => X.aloadn rfl dX10_readsAway_0) ?_
  refine Y.op (pc' := 3) (fun _ => X.ldcS ws_X10_170 rfl dX10_readsAway_1) ?_
  refine Y.callVi (As := [.ref (1000010 : Nat)]) lk_X10_157 rfl cal_X10_takes vir_X10_takes (Nat.le_of_ble_eq_true rfl) (Nat.le_of_ble_eq_true rfl) rfl rfl rfl (Nat.le_of_ble_eq_true rfl) dX10_readsAway_3 (fun _ e => m_X10_takes a0 (1000010 : Nat) h _ _ e) (fun r1 => ?_)
  refine Y.op (pc' := 7) (loc' := [some (.ref a0), some (.int r1.1), none, none, none]) (fun _ => X.istoren (Nat.le_of_ble_eq_true rfl) rfl dX10_readsAway_6) ?_
  refine Y.op (pc' := 8) (fun _ => X.iloadn rfl dX10_readsAway_7) ?_
  refine Y.ifne 17 (by decide) dX10_readsAway_8 ?_ ?_
  · exact y_X10_readsAway_J17 a0 r1.1 r1.2
  · refine Y.op (pc' := 12) (fun _ => X.aloadn rfl dX10_readsAway_11) ?_
    refine Y.op (pc' := 14) (fun _ => X.ldcS ws_X10_172 rfl dX10_readsAway_12) ?_
    refine Y.callVv (As := [.ref (1000011 : Nat)]) lk_X10_174 rfl cal_X10_must vir_X10_must (Nat.le_of_ble_eq_true rfl) (Nat.le_of_ble_eq_true rfl) rfl rfl rfl (Nat.le_of_ble_eq_true rfl) dX10_readsAway_14 (fun _ e => m_X10_must a0 (1000011 : Nat) r1.2 _ _ e) (fun h2 => ?_)
    exact y_X10_readsAway_J17 a0 r1.1 h2
theorem m_X10_readsAway {g : xG} (a0 : Nat) (h : xH) (cl : Bool) (r : xH) (e : f_X10_readsAway a0 h = some r) : XM g DX10_readsAway [.ref a0] h cl (iV r) := YM.of rfl rfl (Nat.le_of_ble_eq_true rfl) (y_X10_readsAway a0 h) e
def f_X10_readsPair_J113 (x0 : Nat) (x1 : Int32) (x3 : Int32) (h : xH) : Option (xH) :=
  (gR h 10 x0 11).bind fun v1 =>
  (aR 102 h v1 (1 : Int32)).bind fun v2 =>
  (sI h v2 x1 x3).bind fun h3 =>
  some h3
theorem y_X10_readsPair_J113 {g : xG} {h0 : xH} {cl : Bool} (x0 : Nat) (x1 : Int32) (x3 : Int32) (h : xH) : Y g DX10_readsPair h0 cl iV (f_X10_readsPair_J113 x0 x1 x3 h) 113 [some (.ref x0), some (.int x1), none, some (.int x3)] [] h := by
  unfold f_X10_readsPair_J113
  refine Y.op (pc' := 114) (fun _ => X.aloadn rfl dX10_readsPair_113) ?_
  refine Y.getR fd_X10_28 rfl dX10_readsPair_114 (fun v1 => ?_)
  refine Y.op (pc' := 118) (fun _ => X.ic ki_1 dX10_readsPair_117) ?_
  refine Y.aldR 102 (by decide) (by decide) dX10_readsPair_118 (fun v2 => ?_)
  refine Y.op (pc' := 120) (fun _ => X.iloadn rfl dX10_readsPair_119) ?_
  refine Y.op (pc' := 121) (fun _ => X.iloadn rfl dX10_readsPair_120) ?_
  refine Y.astI dX10_readsPair_121 (fun h3 => ?_)
  exact Y.vreturn rfl dX10_readsPair_122
def f_X10_readsPair_J107 (x0 : Nat) (x1 : Int32) (x2 : Int32) (x3 : Int32) (h : xH) : Option (xH) :=
  (vc h 10 x0 (f_X10_wrong x0 (4 : Int32) x2 h)).bind fun h1 =>
  f_X10_readsPair_J113 x0 x1 x3 h1
theorem y_X10_readsPair_J107 {g : xG} {h0 : xH} {cl : Bool} (x0 : Nat) (x1 : Int32) (x2 : Int32) (x3 : Int32) (h : xH) : Y g DX10_readsPair h0 cl iV (f_X10_readsPair_J107 x0 x1 x2 x3 h) 107 [some (.ref x0), some (.int x1), some (.int x2), some (.int x3)] [] h := by
  unfold f_X10_readsPair_J107
  refine Y.op (pc' := 108) (fun _ => X.aloadn rfl dX10_readsPair_107) ?_
  refine Y.op (pc' := 109) (fun _ => X.ic ki_4 dX10_readsPair_108) ?_
  refine Y.op (pc' := 110) (fun _ => X.iloadn rfl dX10_readsPair_109) ?_
  refine Y.callVv (As := [.int (4 : Int32), .int x2]) lk_X10_116 rfl cal_X10_wrong vir_X10_wrong (Nat.le_of_ble_eq_true rfl) (Nat.le_of_ble_eq_true rfl) rfl rfl rfl (Nat.le_of_ble_eq_true rfl) dX10_readsPair_110 (fun _ e => m_X10_wrong x0 (4 : Int32) x2 h _ _ e) (fun h1 => ?_)
  exact Y.fg (y_X10_readsPair_J113 x0 x1 x3 h1) (And.intro rfl (And.intro rfl (And.intro rfl trivial)))
def f_X10_readsPair_J50 (x0 : Nat) (x1 : Int32) (x2 : Int32) (h : xH) : Option (xH) :=
  (vc h 10 x0 (f_X10_taskHere x0 h)).bind fun r1 =>
  (vc r1.2 10 x0 (f_X10_fine x0 r1.2)).bind fun r2 =>
  if r2.1 = (0 : Int32) then
    some r2.2
  else
    (gR r2.2 10 x0 10).bind fun v3 =>
    (aR 102 r2.2 v3 (1 : Int32)).bind fun v4 =>
    (aI r2.2 v4 x1).bind fun v5 =>
    (f_X10_has v5 r1.1 r2.2).bind fun r6 =>
    if r6.1 = (0 : Int32) then
      f_X10_readsPair_J107 x0 x1 x2 r1.1 r6.2
    else
      (gR r6.2 10 x0 9).bind fun v7 =>
      (aR 102 r6.2 v7 (1 : Int32)).bind fun v8 =>
      (aI r6.2 v8 (4 : Int32)).bind fun v9 =>
      (f_X10_has v9 r1.1 r6.2).bind fun r10 =>
      if r10.1 = (0 : Int32) then
        f_X10_readsPair_J107 x0 x1 x2 r1.1 r10.2
      else
        (gR r10.2 10 x0 11).bind fun v11 =>
        (aR 102 r10.2 v11 (1 : Int32)).bind fun v12 =>
        (f_X10_ownerOf v12 r1.1 r10.2).bind fun r13 =>
        if r13.1 = (-1 : Int32) then
          f_X10_readsPair_J113 x0 x1 r1.1 r13.2
        else
          f_X10_readsPair_J107 x0 x1 x2 r1.1 r13.2
theorem y_X10_readsPair_J50 {g : xG} {h0 : xH} {cl : Bool} (x0 : Nat) (x1 : Int32) (x2 : Int32) (h : xH) : Y g DX10_readsPair h0 cl iV (f_X10_readsPair_J50 x0 x1 x2 h) 50 [some (.ref x0), some (.int x1), some (.int x2), none] [] h := by
  unfold f_X10_readsPair_J50
  refine Y.op (pc' := 51) (fun _ => X.aloadn rfl dX10_readsPair_50) ?_
  refine Y.callVi (As := []) lk_X10_167 rfl cal_X10_taskHere vir_X10_taskHere (Nat.le_of_ble_eq_true rfl) (Nat.le_of_ble_eq_true rfl) rfl rfl rfl (Nat.le_of_ble_eq_true rfl) dX10_readsPair_51 (fun _ e => m_X10_taskHere x0 h _ _ e) (fun r1 => ?_)
  refine Y.op (pc' := 55) (loc' := [some (.ref x0), some (.int x1), some (.int x2), some (.int r1.1)]) (fun _ => X.istoren (Nat.le_of_ble_eq_true rfl) rfl dX10_readsPair_54) ?_
  refine Y.op (pc' := 56) (fun _ => X.aloadn rfl dX10_readsPair_55) ?_
  refine Y.callVi (As := []) lk_X10_104 rfl cal_X10_fine vir_X10_fine (Nat.le_of_ble_eq_true rfl) (Nat.le_of_ble_eq_true rfl) rfl rfl rfl (Nat.le_of_ble_eq_true rfl) dX10_readsPair_56 (fun _ e => m_X10_fine x0 r1.2 _ _ e) (fun r2 => ?_)
  refine Y.ifne 63 (by decide) dX10_readsPair_59 ?_ ?_
  · refine Y.op (pc' := 64) (fun _ => X.aloadn rfl dX10_readsPair_63) ?_
    refine Y.getR fd_X10_25 rfl dX10_readsPair_64 (fun v3 => ?_)
    refine Y.op (pc' := 68) (fun _ => X.ic ki_1 dX10_readsPair_67) ?_
    refine Y.aldR 102 (by decide) (by decide) dX10_readsPair_68 (fun v4 => ?_)
    refine Y.op (pc' := 70) (fun _ => X.iloadn rfl dX10_readsPair_69) ?_
    refine Y.aldI dX10_readsPair_70 (fun v5 => ?_)
    refine Y.op (pc' := 72) (fun _ => X.iloadn rfl dX10_readsPair_71) ?_
    refine Y.callSi (As := [.int v5, .int r1.1]) lk_X10_182 rfl cal_X10_has sta_X10_has (Nat.le_of_ble_eq_true rfl) rfl rfl (Nat.le_of_ble_eq_true rfl) dX10_readsPair_72 (fun _ e => m_X10_has v5 r1.1 r2.2 _ _ e) (fun r6 => ?_)
    refine Y.ifeq 107 (by decide) dX10_readsPair_75 ?_ ?_
    · exact y_X10_readsPair_J107 x0 x1 x2 r1.1 r6.2
    · refine Y.op (pc' := 79) (fun _ => X.aloadn rfl dX10_readsPair_78) ?_
      refine Y.getR fd_X10_22 rfl dX10_readsPair_79 (fun v7 => ?_)
      refine Y.op (pc' := 83) (fun _ => X.ic ki_1 dX10_readsPair_82) ?_
      refine Y.aldR 102 (by decide) (by decide) dX10_readsPair_83 (fun v8 => ?_)
      refine Y.op (pc' := 85) (fun _ => X.ic ki_4 dX10_readsPair_84) ?_
      refine Y.aldI dX10_readsPair_85 (fun v9 => ?_)
      refine Y.op (pc' := 87) (fun _ => X.iloadn rfl dX10_readsPair_86) ?_
      refine Y.callSi (As := [.int v9, .int r1.1]) lk_X10_182 rfl cal_X10_has sta_X10_has (Nat.le_of_ble_eq_true rfl) rfl rfl (Nat.le_of_ble_eq_true rfl) dX10_readsPair_87 (fun _ e => m_X10_has v9 r1.1 r6.2 _ _ e) (fun r10 => ?_)
      refine Y.ifeq 107 (by decide) dX10_readsPair_90 ?_ ?_
      · exact y_X10_readsPair_J107 x0 x1 x2 r1.1 r10.2
      · refine Y.op (pc' := 94) (fun _ => X.aloadn rfl dX10_readsPair_93) ?_
        refine Y.getR fd_X10_28 rfl dX10_readsPair_94 (fun v11 => ?_)
        refine Y.op (pc' := 98) (fun _ => X.ic ki_1 dX10_readsPair_97) ?_
        refine Y.aldR 102 (by decide) (by decide) dX10_readsPair_98 (fun v12 => ?_)
        refine Y.op (pc' := 100) (fun _ => X.iloadn rfl dX10_readsPair_99) ?_
        refine Y.callSi (As := [.ref v12, .int r1.1]) lk_X10_178 rfl cal_X10_ownerOf sta_X10_ownerOf (Nat.le_of_ble_eq_true rfl) rfl rfl (Nat.le_of_ble_eq_true rfl) dX10_readsPair_100 (fun _ e => m_X10_ownerOf v12 r1.1 r10.2 _ _ e) (fun r13 => ?_)
        refine Y.op (pc' := 104) (fun _ => X.ic ki_m1 dX10_readsPair_103) ?_
        refine Y.cmpeq 113 (by decide) dX10_readsPair_104 ?_ ?_
        · exact Y.fg (y_X10_readsPair_J113 x0 x1 r1.1 r13.2) (And.intro rfl (And.intro rfl (And.intro rfl trivial)))
        · exact y_X10_readsPair_J107 x0 x1 x2 r1.1 r13.2
  · exact Y.vreturn rfl dX10_readsPair_62
def f_X10_readsPair_J44 (x0 : Nat) (x1 : Int32) (x2 : Int32) (h : xH) : Option (xH) :=
  (vc h 10 x0 (f_X10_wrong x0 (4 : Int32) x2 h)).bind fun h1 =>
  f_X10_readsPair_J50 x0 x1 x2 h1
theorem y_X10_readsPair_J44 {g : xG} {h0 : xH} {cl : Bool} (x0 : Nat) (x1 : Int32) (x2 : Int32) (h : xH) : Y g DX10_readsPair h0 cl iV (f_X10_readsPair_J44 x0 x1 x2 h) 44 [some (.ref x0), some (.int x1), some (.int x2), none] [] h := by
  unfold f_X10_readsPair_J44
  refine Y.op (pc' := 45) (fun _ => X.aloadn rfl dX10_readsPair_44) ?_
  refine Y.op (pc' := 46) (fun _ => X.ic ki_4 dX10_readsPair_45) ?_
  refine Y.op (pc' := 47) (fun _ => X.iloadn rfl dX10_readsPair_46) ?_
  refine Y.callVv (As := [.int (4 : Int32), .int x2]) lk_X10_116 rfl cal_X10_wrong vir_X10_wrong (Nat.le_of_ble_eq_true rfl) (Nat.le_of_ble_eq_true rfl) rfl rfl rfl (Nat.le_of_ble_eq_true rfl) dX10_readsPair_47 (fun _ e => m_X10_wrong x0 (4 : Int32) x2 h _ _ e) (fun h1 => ?_)
  exact y_X10_readsPair_J50 x0 x1 x2 h1
def f_X10_readsPair (a0 : Nat) (h : xH) : Option (xH) :=
  (vc h 10 a0 (f_X10_workerHere a0 h)).bind fun r1 =>
  (gI r1.2 10 a0 15).bind fun v2 =>
  (vc r1.2 10 a0 (f_X10_fine a0 r1.2)).bind fun r3 =>
  if r3.1 = (0 : Int32) then
    f_X10_readsPair_J50 a0 r1.1 v2 r3.2
  else
    (gR r3.2 10 a0 9).bind fun v4 =>
    (aR 102 r3.2 v4 (1 : Int32)).bind fun v5 =>
    (aI r3.2 v5 (3 : Int32)).bind fun v6 =>
    (f_X10_has v6 r1.1 r3.2).bind fun r7 =>
    if r7.1 = (0 : Int32) then
      f_X10_readsPair_J44 a0 r1.1 v2 r7.2
    else
      (gR r7.2 10 a0 11).bind fun v8 =>
      (aR 102 r7.2 v8 (1 : Int32)).bind fun v9 =>
      (aI r7.2 v9 r1.1).bind fun v10 =>
      if v10 = (-1 : Int32) then
        f_X10_readsPair_J50 a0 r1.1 v2 r7.2
      else
        f_X10_readsPair_J44 a0 r1.1 v2 r7.2
theorem y_X10_readsPair {g : xG} {h0 : xH} {cl : Bool} (a0 : Nat) (h : xH) : Y g DX10_readsPair h0 cl iV (f_X10_readsPair a0 h) 0 [some (.ref a0), none, none, none] [] h := by
  unfold f_X10_readsPair
  refine Y.op (pc' := 1) (fun _ => X.aloadn rfl dX10_readsPair_0) ?_
  refine Y.callVi (As := []) lk_X10_164 rfl cal_X10_workerHere vir_X10_workerHere (Nat.le_of_ble_eq_true rfl) (Nat.le_of_ble_eq_true rfl) rfl rfl rfl (Nat.le_of_ble_eq_true rfl) dX10_readsPair_1 (fun _ e => m_X10_workerHere a0 h _ _ e) (fun r1 => ?_)
  refine Y.op (pc' := 5) (loc' := [some (.ref a0), some (.int r1.1), none, none]) (fun _ => X.istoren (Nat.le_of_ble_eq_true rfl) rfl dX10_readsPair_4) ?_
  refine Y.op (pc' := 6) (fun _ => X.aloadn rfl dX10_readsPair_5) ?_
  refine Y.getI fd_X10_120 rfl dX10_readsPair_6 (fun v2 => ?_)
  refine Y.op (pc' := 10) (loc' := [some (.ref a0), some (.int r1.1), some (.int v2), none]) (fun _ => X.istoren (Nat.le_of_ble_eq_true rfl) rfl dX10_readsPair_9) ?_
  refine Y.op (pc' := 11) (fun _ => X.aloadn rfl dX10_readsPair_10) ?_
  refine Y.callVi (As := []) lk_X10_104 rfl cal_X10_fine vir_X10_fine (Nat.le_of_ble_eq_true rfl) (Nat.le_of_ble_eq_true rfl) rfl rfl rfl (Nat.le_of_ble_eq_true rfl) dX10_readsPair_11 (fun _ e => m_X10_fine a0 r1.2 _ _ e) (fun r3 => ?_)
  refine Y.ifeq 50 (by decide) dX10_readsPair_14 ?_ ?_
  · exact y_X10_readsPair_J50 a0 r1.1 v2 r3.2
  · refine Y.op (pc' := 18) (fun _ => X.aloadn rfl dX10_readsPair_17) ?_
    refine Y.getR fd_X10_22 rfl dX10_readsPair_18 (fun v4 => ?_)
    refine Y.op (pc' := 22) (fun _ => X.ic ki_1 dX10_readsPair_21) ?_
    refine Y.aldR 102 (by decide) (by decide) dX10_readsPair_22 (fun v5 => ?_)
    refine Y.op (pc' := 24) (fun _ => X.ic ki_3 dX10_readsPair_23) ?_
    refine Y.aldI dX10_readsPair_24 (fun v6 => ?_)
    refine Y.op (pc' := 26) (fun _ => X.iloadn rfl dX10_readsPair_25) ?_
    refine Y.callSi (As := [.int v6, .int r1.1]) lk_X10_182 rfl cal_X10_has sta_X10_has (Nat.le_of_ble_eq_true rfl) rfl rfl (Nat.le_of_ble_eq_true rfl) dX10_readsPair_26 (fun _ e => m_X10_has v6 r1.1 r3.2 _ _ e) (fun r7 => ?_)
    refine Y.ifeq 44 (by decide) dX10_readsPair_29 ?_ ?_
    · exact y_X10_readsPair_J44 a0 r1.1 v2 r7.2
    · refine Y.op (pc' := 33) (fun _ => X.aloadn rfl dX10_readsPair_32) ?_
      refine Y.getR fd_X10_28 rfl dX10_readsPair_33 (fun v8 => ?_)
      refine Y.op (pc' := 37) (fun _ => X.ic ki_1 dX10_readsPair_36) ?_
      refine Y.aldR 102 (by decide) (by decide) dX10_readsPair_37 (fun v9 => ?_)
      refine Y.op (pc' := 39) (fun _ => X.iloadn rfl dX10_readsPair_38) ?_
      refine Y.aldI dX10_readsPair_39 (fun v10 => ?_)
      refine Y.op (pc' := 41) (fun _ => X.ic ki_m1 dX10_readsPair_40) ?_
      refine Y.cmpeq 50 (by decide) dX10_readsPair_41 ?_ ?_
      · exact y_X10_readsPair_J50 a0 r1.1 v2 r7.2
      · exact y_X10_readsPair_J44 a0 r1.1 v2 r7.2
theorem m_X10_readsPair {g : xG} (a0 : Nat) (h : xH) (cl : Bool) (r : xH) (e : f_X10_readsPair a0 h = some r) : XM g DX10_readsPair [.ref a0] h cl (iV r) := YM.of rfl rfl (Nat.le_of_ble_eq_true rfl) (y_X10_readsPair a0 h) e
def f_X10_readsWeight_J29 (h : xH) : Option (xH) :=
  some h
theorem y_X10_readsWeight_J29 {g : xG} {h0 : xH} {cl : Bool} (h : xH) : Y g DX10_readsWeight h0 cl iV (f_X10_readsWeight_J29 h) 29 [none, none, none] [] h := by
  unfold f_X10_readsWeight_J29
  exact Y.vreturn rfl dX10_readsWeight_29
def f_X10_readsWeight (a0 : Nat) (h : xH) : Option (xH) :=
  (vc h 10 a0 (f_X10_workerHere a0 h)).bind fun r1 =>
  (vc r1.2 10 a0 (f_X10_number a0 (0 : Int32) (99 : Int32) r1.2)).bind fun r2 =>
  (vc r2.2 10 a0 (f_X10_fine a0 r2.2)).bind fun r3 =>
  if r3.1 = (0 : Int32) then
    f_X10_readsWeight_J29 r3.2
  else
    (gR r3.2 10 a0 12).bind fun v4 =>
    (aR 102 r3.2 v4 (1 : Int32)).bind fun v5 =>
    (sI r3.2 v5 r1.1 r2.1).bind fun h6 =>
    f_X10_readsWeight_J29 h6
theorem y_X10_readsWeight {g : xG} {h0 : xH} {cl : Bool} (a0 : Nat) (h : xH) : Y g DX10_readsWeight h0 cl iV (f_X10_readsWeight a0 h) 0 [some (.ref a0), none, none] [] h := by
  unfold f_X10_readsWeight
  refine Y.op (pc' := 1) (fun _ => X.aloadn rfl dX10_readsWeight_0) ?_
  refine Y.callVi (As := []) lk_X10_164 rfl cal_X10_workerHere vir_X10_workerHere (Nat.le_of_ble_eq_true rfl) (Nat.le_of_ble_eq_true rfl) rfl rfl rfl (Nat.le_of_ble_eq_true rfl) dX10_readsWeight_1 (fun _ e => m_X10_workerHere a0 h _ _ e) (fun r1 => ?_)
  refine Y.op (pc' := 5) (loc' := [some (.ref a0), some (.int r1.1), none]) (fun _ => X.istoren (Nat.le_of_ble_eq_true rfl) rfl dX10_readsWeight_4) ?_
  refine Y.op (pc' := 6) (fun _ => X.aloadn rfl dX10_readsWeight_5) ?_
  refine Y.op (pc' := 7) (fun _ => X.ic ki_0 dX10_readsWeight_6) ?_
  refine Y.op (pc' := 9) (fun _ => X.bp kb_99 dX10_readsWeight_7) ?_
  refine Y.callVi (As := [.int (0 : Int32), .int (99 : Int32)]) lk_X10_161 rfl cal_X10_number vir_X10_number (Nat.le_of_ble_eq_true rfl) (Nat.le_of_ble_eq_true rfl) rfl rfl rfl (Nat.le_of_ble_eq_true rfl) dX10_readsWeight_9 (fun _ e => m_X10_number a0 (0 : Int32) (99 : Int32) r1.2 _ _ e) (fun r2 => ?_)
  refine Y.op (pc' := 13) (loc' := [some (.ref a0), some (.int r1.1), some (.int r2.1)]) (fun _ => X.istoren (Nat.le_of_ble_eq_true rfl) rfl dX10_readsWeight_12) ?_
  refine Y.op (pc' := 14) (fun _ => X.aloadn rfl dX10_readsWeight_13) ?_
  refine Y.callVi (As := []) lk_X10_104 rfl cal_X10_fine vir_X10_fine (Nat.le_of_ble_eq_true rfl) (Nat.le_of_ble_eq_true rfl) rfl rfl rfl (Nat.le_of_ble_eq_true rfl) dX10_readsWeight_14 (fun _ e => m_X10_fine a0 r2.2 _ _ e) (fun r3 => ?_)
  refine Y.ifeq 29 (by decide) dX10_readsWeight_17 ?_ ?_
  · exact Y.fg (y_X10_readsWeight_J29 r3.2) trivial
  · refine Y.op (pc' := 21) (fun _ => X.aloadn rfl dX10_readsWeight_20) ?_
    refine Y.getR fd_X10_31 rfl dX10_readsWeight_21 (fun v4 => ?_)
    refine Y.op (pc' := 25) (fun _ => X.ic ki_1 dX10_readsWeight_24) ?_
    refine Y.aldR 102 (by decide) (by decide) dX10_readsWeight_25 (fun v5 => ?_)
    refine Y.op (pc' := 27) (fun _ => X.iloadn rfl dX10_readsWeight_26) ?_
    refine Y.op (pc' := 28) (fun _ => X.iloadn rfl dX10_readsWeight_27) ?_
    refine Y.astI dX10_readsWeight_28 (fun h6 => ?_)
    exact Y.fg (y_X10_readsWeight_J29 h6) trivial
theorem m_X10_readsWeight {g : xG} (a0 : Nat) (h : xH) (cl : Bool) (r : xH) (e : f_X10_readsWeight a0 h = some r) : XM g DX10_readsWeight [.ref a0] h cl (iV r) := YM.of rfl rfl (Nat.le_of_ble_eq_true rfl) (y_X10_readsWeight a0 h) e
def f_X10_readsKeep_J13 (x0 : Nat) (h : xH) : Option (xH) :=
  (pZ h 10 x0 16 (1 : Int32)).bind fun h1 =>
  (gR h1 10 x0 9).bind fun v2 =>
  (aR 102 h1 v2 (1 : Int32)).bind fun v3 =>
  (vc h1 10 x0 (f_X10_number x0 (0 : Int32) (1 : Int32) h1)).bind fun r4 =>
  (sI r4.2 v3 (2 : Int32) r4.1).bind fun h5 =>
  some h5
theorem y_X10_readsKeep_J13 {g : xG} {h0 : xH} {cl : Bool} (x0 : Nat) (h : xH) : Y g DX10_readsKeep h0 cl iV (f_X10_readsKeep_J13 x0 h) 13 [some (.ref x0), none] [] h := by
  unfold f_X10_readsKeep_J13
  refine Y.op (pc' := 14) (fun _ => X.aloadn rfl dX10_readsKeep_13) ?_
  refine Y.op (pc' := 15) (fun _ => X.ic ki_1 dX10_readsKeep_14) ?_
  refine Y.putZ fd_X10_186 rfl dX10_readsKeep_15 (fun h1 => ?_)
  refine Y.op (pc' := 19) (fun _ => X.aloadn rfl dX10_readsKeep_18) ?_
  refine Y.getR fd_X10_22 rfl dX10_readsKeep_19 (fun v2 => ?_)
  refine Y.op (pc' := 23) (fun _ => X.ic ki_1 dX10_readsKeep_22) ?_
  refine Y.aldR 102 (by decide) (by decide) dX10_readsKeep_23 (fun v3 => ?_)
  refine Y.op (pc' := 25) (fun _ => X.ic ki_2 dX10_readsKeep_24) ?_
  refine Y.op (pc' := 26) (fun _ => X.aloadn rfl dX10_readsKeep_25) ?_
  refine Y.op (pc' := 27) (fun _ => X.ic ki_0 dX10_readsKeep_26) ?_
  refine Y.op (pc' := 28) (fun _ => X.ic ki_1 dX10_readsKeep_27) ?_
  refine Y.callVi (As := [.int (0 : Int32), .int (1 : Int32)]) lk_X10_161 rfl cal_X10_number vir_X10_number (Nat.le_of_ble_eq_true rfl) (Nat.le_of_ble_eq_true rfl) rfl rfl rfl (Nat.le_of_ble_eq_true rfl) dX10_readsKeep_28 (fun _ e => m_X10_number x0 (0 : Int32) (1 : Int32) h1 _ _ e) (fun r4 => ?_)
  refine Y.astI dX10_readsKeep_31 (fun h5 => ?_)
  exact Y.vreturn rfl dX10_readsKeep_32
def f_X10_readsKeep (a0 : Nat) (p1 : Int32) (h : xH) : Option (xH) :=
  (gI h 10 a0 16).bind fun v1 =>
  if v1 = (0 : Int32) then
    f_X10_readsKeep_J13 a0 h
  else
    (vc h 10 a0 (f_X10_wrong a0 (3 : Int32) p1 h)).bind fun h2 =>
    f_X10_readsKeep_J13 a0 h2
theorem y_X10_readsKeep {g : xG} {h0 : xH} {cl : Bool} (a0 : Nat) (p1 : Int32) (h : xH) : Y g DX10_readsKeep h0 cl iV (f_X10_readsKeep a0 p1 h) 0 [some (.ref a0), some (.int p1)] [] h := by
  unfold f_X10_readsKeep
  refine Y.op (pc' := 1) (fun _ => X.aloadn rfl dX10_readsKeep_0) ?_
  refine Y.getI fd_X10_186 rfl dX10_readsKeep_1 (fun v1 => ?_)
  refine Y.ifeq 13 (by decide) dX10_readsKeep_4 ?_ ?_
  · exact Y.fg (y_X10_readsKeep_J13 a0 h) (And.intro rfl trivial)
  · refine Y.op (pc' := 8) (fun _ => X.aloadn rfl dX10_readsKeep_7) ?_
    refine Y.op (pc' := 9) (fun _ => X.ic ki_3 dX10_readsKeep_8) ?_
    refine Y.op (pc' := 10) (fun _ => X.iloadn rfl dX10_readsKeep_9) ?_
    refine Y.callVv (As := [.int (3 : Int32), .int p1]) lk_X10_116 rfl cal_X10_wrong vir_X10_wrong (Nat.le_of_ble_eq_true rfl) (Nat.le_of_ble_eq_true rfl) rfl rfl rfl (Nat.le_of_ble_eq_true rfl) dX10_readsKeep_10 (fun _ e => m_X10_wrong a0 (3 : Int32) p1 h _ _ e) (fun h2 => ?_)
    exact Y.fg (y_X10_readsKeep_J13 a0 h2) (And.intro rfl trivial)
theorem m_X10_readsKeep {g : xG} (a0 : Nat) (p1 : Int32) (h : xH) (cl : Bool) (r : xH) (e : f_X10_readsKeep a0 p1 h = some r) : XM g DX10_readsKeep [.ref a0, .int p1] h cl (iV r) := YM.of rfl rfl (Nat.le_of_ble_eq_true rfl) (y_X10_readsKeep a0 p1 h) e
def f_X10_readsLine_J100 (x0 : Nat) (h : xH) : Option (xH) :=
  (vc h 10 x0 (f_X10_ends x0 h)).bind fun h1 =>
  some h1
theorem y_X10_readsLine_J100 {g : xG} {h0 : xH} {cl : Bool} (x0 : Nat) (h : xH) : Y g DX10_readsLine h0 cl iV (f_X10_readsLine_J100 x0 h) 100 [some (.ref x0), none] [] h := by
  unfold f_X10_readsLine_J100
  refine Y.op (pc' := 101) (fun _ => X.aloadn rfl dX10_readsLine_100) ?_
  refine Y.callVv (As := []) lk_X10_214 rfl cal_X10_ends vir_X10_ends (Nat.le_of_ble_eq_true rfl) (Nat.le_of_ble_eq_true rfl) rfl rfl rfl (Nat.le_of_ble_eq_true rfl) dX10_readsLine_101 (fun _ e => m_X10_ends x0 h _ _ e) (fun h1 => ?_)
  exact Y.vreturn rfl dX10_readsLine_104
def f_X10_readsLine (a0 : Nat) (h : xH) : Option (xH) :=
  (vc h 10 a0 (f_X10_here a0 h)).bind fun r1 =>
  (gI r1.2 10 a0 4).bind fun v2 =>
  (vc r1.2 10 a0 (f_X10_takes a0 (1000005 : Nat) r1.2)).bind fun r3 =>
  if r3.1 = (0 : Int32) then
    (vc r3.2 10 a0 (f_X10_takes a0 (1000006 : Nat) r3.2)).bind fun r4 =>
    if r4.1 = (0 : Int32) then
      (vc r4.2 10 a0 (f_X10_takes a0 (1000007 : Nat) r4.2)).bind fun r5 =>
      if r5.1 = (0 : Int32) then
        (vc r5.2 10 a0 (f_X10_takes a0 (1000008 : Nat) r5.2)).bind fun r6 =>
        if r6.1 = (0 : Int32) then
          (vc r6.2 10 a0 (f_X10_takes a0 (1000009 : Nat) r6.2)).bind fun r7 =>
          if r7.1 = (0 : Int32) then
            (gI r7.2 10 a0 4).bind fun v8 =>
            (vc r7.2 10 a0 (f_X10_wrong a0 (1 : Int32) v8 r7.2)).bind fun h9 =>
            f_X10_readsLine_J100 a0 h9
          else
            (vc r7.2 10 a0 (f_X10_readsKeep a0 v2 r7.2)).bind fun h10 =>
            f_X10_readsLine_J100 a0 h10
        else
          (vc r6.2 10 a0 (f_X10_readsWeight a0 r6.2)).bind fun h11 =>
          f_X10_readsLine_J100 a0 h11
      else
        (vc r5.2 10 a0 (f_X10_readsPair a0 r5.2)).bind fun h12 =>
        f_X10_readsLine_J100 a0 h12
    else
      (vc r4.2 10 a0 (f_X10_readsAway a0 r4.2)).bind fun h13 =>
      f_X10_readsLine_J100 a0 h13
  else
    (vc r3.2 10 a0 (f_X10_readsFit a0 r3.2)).bind fun h14 =>
    f_X10_readsLine_J100 a0 h14
theorem y_X10_readsLine {g : xG} {h0 : xH} {cl : Bool} (a0 : Nat) (h : xH) : Y g DX10_readsLine h0 cl iV (f_X10_readsLine a0 h) 0 [some (.ref a0), none] [] h := by
  unfold f_X10_readsLine
  refine Y.op (pc' := 1) (fun _ => X.aloadn rfl dX10_readsLine_0) ?_
  refine Y.callVi (As := []) lk_X10_108 rfl cal_X10_here vir_X10_here (Nat.le_of_ble_eq_true rfl) (Nat.le_of_ble_eq_true rfl) rfl rfl rfl (Nat.le_of_ble_eq_true rfl) dX10_readsLine_1 (fun _ e => m_X10_here a0 h _ _ e) (fun r1 => ?_)
  refine Y.op (pc' := 5) (fun _ => X.pop rfl dX10_readsLine_4) ?_
  refine Y.op (pc' := 6) (fun _ => X.aloadn rfl dX10_readsLine_5) ?_
  refine Y.getI fd_X10_91 rfl dX10_readsLine_6 (fun v2 => ?_)
  refine Y.op (pc' := 10) (loc' := [some (.ref a0), some (.int v2)]) (fun _ => X.istoren (Nat.le_of_ble_eq_true rfl) rfl dX10_readsLine_9) ?_
  refine Y.op (pc' := 11) (fun _ => X.aloadn rfl dX10_readsLine_10) ?_
  refine Y.op (pc' := 13) (fun _ => X.ldcS ws_X10_190 rfl dX10_readsLine_11) ?_
  refine Y.callVi (As := [.ref (1000005 : Nat)]) lk_X10_157 rfl cal_X10_takes vir_X10_takes (Nat.le_of_ble_eq_true rfl) (Nat.le_of_ble_eq_true rfl) rfl rfl rfl (Nat.le_of_ble_eq_true rfl) dX10_readsLine_13 (fun _ e => m_X10_takes a0 (1000005 : Nat) r1.2 _ _ e) (fun r3 => ?_)
  refine Y.ifeq 26 (by decide) dX10_readsLine_16 ?_ ?_
  · refine Y.op (pc' := 27) (fun _ => X.aloadn rfl dX10_readsLine_26) ?_
    refine Y.op (pc' := 29) (fun _ => X.ldcS ws_X10_194 rfl dX10_readsLine_27) ?_
    refine Y.callVi (As := [.ref (1000006 : Nat)]) lk_X10_157 rfl cal_X10_takes vir_X10_takes (Nat.le_of_ble_eq_true rfl) (Nat.le_of_ble_eq_true rfl) rfl rfl rfl (Nat.le_of_ble_eq_true rfl) dX10_readsLine_29 (fun _ e => m_X10_takes a0 (1000006 : Nat) r3.2 _ _ e) (fun r4 => ?_)
    refine Y.ifeq 42 (by decide) dX10_readsLine_32 ?_ ?_
    · refine Y.op (pc' := 43) (fun _ => X.aloadn rfl dX10_readsLine_42) ?_
      refine Y.op (pc' := 45) (fun _ => X.ldcS ws_X10_199 rfl dX10_readsLine_43) ?_
      refine Y.callVi (As := [.ref (1000007 : Nat)]) lk_X10_157 rfl cal_X10_takes vir_X10_takes (Nat.le_of_ble_eq_true rfl) (Nat.le_of_ble_eq_true rfl) rfl rfl rfl (Nat.le_of_ble_eq_true rfl) dX10_readsLine_45 (fun _ e => m_X10_takes a0 (1000007 : Nat) r4.2 _ _ e) (fun r5 => ?_)
      refine Y.ifeq 58 (by decide) dX10_readsLine_48 ?_ ?_
      · refine Y.op (pc' := 59) (fun _ => X.aloadn rfl dX10_readsLine_58) ?_
        refine Y.op (pc' := 61) (fun _ => X.ldcS ws_X10_204 rfl dX10_readsLine_59) ?_
        refine Y.callVi (As := [.ref (1000008 : Nat)]) lk_X10_157 rfl cal_X10_takes vir_X10_takes (Nat.le_of_ble_eq_true rfl) (Nat.le_of_ble_eq_true rfl) rfl rfl rfl (Nat.le_of_ble_eq_true rfl) dX10_readsLine_61 (fun _ e => m_X10_takes a0 (1000008 : Nat) r5.2 _ _ e) (fun r6 => ?_)
        refine Y.ifeq 74 (by decide) dX10_readsLine_64 ?_ ?_
        · refine Y.op (pc' := 75) (fun _ => X.aloadn rfl dX10_readsLine_74) ?_
          refine Y.op (pc' := 77) (fun _ => X.ldcS ws_X10_208 rfl dX10_readsLine_75) ?_
          refine Y.callVi (As := [.ref (1000009 : Nat)]) lk_X10_157 rfl cal_X10_takes vir_X10_takes (Nat.le_of_ble_eq_true rfl) (Nat.le_of_ble_eq_true rfl) rfl rfl rfl (Nat.le_of_ble_eq_true rfl) dX10_readsLine_77 (fun _ e => m_X10_takes a0 (1000009 : Nat) r6.2 _ _ e) (fun r7 => ?_)
          refine Y.ifeq 91 (by decide) dX10_readsLine_80 ?_ ?_
          · refine Y.op (pc' := 92) (fun _ => X.aloadn rfl dX10_readsLine_91) ?_
            refine Y.op (pc' := 93) (fun _ => X.ic ki_1 dX10_readsLine_92) ?_
            refine Y.op (pc' := 94) (fun _ => X.aloadn rfl dX10_readsLine_93) ?_
            refine Y.getI fd_X10_91 rfl dX10_readsLine_94 (fun v8 => ?_)
            refine Y.callVv (As := [.int (1 : Int32), .int v8]) lk_X10_116 rfl cal_X10_wrong vir_X10_wrong (Nat.le_of_ble_eq_true rfl) (Nat.le_of_ble_eq_true rfl) rfl rfl rfl (Nat.le_of_ble_eq_true rfl) dX10_readsLine_97 (fun _ e => m_X10_wrong a0 (1 : Int32) v8 r7.2 _ _ e) (fun h9 => ?_)
            exact Y.fg (y_X10_readsLine_J100 a0 h9) (And.intro rfl trivial)
          · refine Y.op (pc' := 84) (fun _ => X.aloadn rfl dX10_readsLine_83) ?_
            refine Y.op (pc' := 85) (fun _ => X.iloadn rfl dX10_readsLine_84) ?_
            refine Y.callVv (As := [.int v2]) lk_X10_210 rfl cal_X10_readsKeep vir_X10_readsKeep (Nat.le_of_ble_eq_true rfl) (Nat.le_of_ble_eq_true rfl) rfl rfl rfl (Nat.le_of_ble_eq_true rfl) dX10_readsLine_85 (fun _ e => m_X10_readsKeep a0 v2 r7.2 _ _ e) (fun h10 => ?_)
            refine Y.op (pc' := 100) (fun _ => X.goto 100 (by decide) dX10_readsLine_88) ?_
            exact Y.fg (y_X10_readsLine_J100 a0 h10) (And.intro rfl trivial)
        · refine Y.op (pc' := 68) (fun _ => X.aloadn rfl dX10_readsLine_67) ?_
          refine Y.callVv (As := []) lk_X10_205 rfl cal_X10_readsWeight vir_X10_readsWeight (Nat.le_of_ble_eq_true rfl) (Nat.le_of_ble_eq_true rfl) rfl rfl rfl (Nat.le_of_ble_eq_true rfl) dX10_readsLine_68 (fun _ e => m_X10_readsWeight a0 r6.2 _ _ e) (fun h11 => ?_)
          refine Y.op (pc' := 100) (fun _ => X.goto 100 (by decide) dX10_readsLine_71) ?_
          exact Y.fg (y_X10_readsLine_J100 a0 h11) (And.intro rfl trivial)
      · refine Y.op (pc' := 52) (fun _ => X.aloadn rfl dX10_readsLine_51) ?_
        refine Y.callVv (As := []) lk_X10_201 rfl cal_X10_readsPair vir_X10_readsPair (Nat.le_of_ble_eq_true rfl) (Nat.le_of_ble_eq_true rfl) rfl rfl rfl (Nat.le_of_ble_eq_true rfl) dX10_readsLine_52 (fun _ e => m_X10_readsPair a0 r5.2 _ _ e) (fun h12 => ?_)
        refine Y.op (pc' := 100) (fun _ => X.goto 100 (by decide) dX10_readsLine_55) ?_
        exact Y.fg (y_X10_readsLine_J100 a0 h12) (And.intro rfl trivial)
    · refine Y.op (pc' := 36) (fun _ => X.aloadn rfl dX10_readsLine_35) ?_
      refine Y.callVv (As := []) lk_X10_196 rfl cal_X10_readsAway vir_X10_readsAway (Nat.le_of_ble_eq_true rfl) (Nat.le_of_ble_eq_true rfl) rfl rfl rfl (Nat.le_of_ble_eq_true rfl) dX10_readsLine_36 (fun _ e => m_X10_readsAway a0 r4.2 _ _ e) (fun h13 => ?_)
      refine Y.op (pc' := 100) (fun _ => X.goto 100 (by decide) dX10_readsLine_39) ?_
      exact Y.fg (y_X10_readsLine_J100 a0 h13) (And.intro rfl trivial)
  · refine Y.op (pc' := 20) (fun _ => X.aloadn rfl dX10_readsLine_19) ?_
    refine Y.callVv (As := []) lk_X10_191 rfl cal_X10_readsFit vir_X10_readsFit (Nat.le_of_ble_eq_true rfl) (Nat.le_of_ble_eq_true rfl) rfl rfl rfl (Nat.le_of_ble_eq_true rfl) dX10_readsLine_20 (fun _ e => m_X10_readsFit a0 r3.2 _ _ e) (fun h14 => ?_)
    refine Y.op (pc' := 100) (fun _ => X.goto 100 (by decide) dX10_readsLine_23) ?_
    exact Y.fg (y_X10_readsLine_J100 a0 h14) (And.intro rfl trivial)
theorem m_X10_readsLine {g : xG} (a0 : Nat) (h : xH) (cl : Bool) (r : xH) (e : f_X10_readsLine a0 h = some r) : XM g DX10_readsLine [.ref a0] h cl (iV r) := YM.of rfl rfl (Nat.le_of_ble_eq_true rfl) (y_X10_readsLine a0 h) e
def f_X10_doesWay_J37 (h : xH) : Option (xH) :=
  some h
theorem y_X10_doesWay_J37 {g : xG} {h0 : xH} {cl : Bool} (h : xH) : Y g DX10_doesWay h0 cl iV (f_X10_doesWay_J37 h) 37 [none, none] [] h := by
  unfold f_X10_doesWay_J37
  exact Y.vreturn rfl dX10_doesWay_37
def f_X10_doesWay_L2 (kE37 : xH → Option (xH)) : Nat → Nat → Int32 → xH → Option (xH)
  | 0 => fun _ _ _ => none
  | n + 1 => fun x0 x1 h =>
    (gI h 10 x0 18).bind fun v1 =>
    if x1 ≥ v1 then
      kE37 h
    else
      (gR h 10 x0 11).bind fun v2 =>
      (aR 102 h v2 (0 : Int32)).bind fun v3 =>
      (gR h 10 x0 19).bind fun v4 =>
      (aI h v4 x1).bind fun v5 =>
      (gR h 10 x0 19).bind fun v6 =>
      (aI h v6 (x1 + (1 : Int32))).bind fun v7 =>
      (sI h v3 v5 v7).bind fun h8 =>
      lt (x1 + (2 : Int32)) fun v9 =>
      f_X10_doesWay_L2 kE37 n x0 v9 h8
theorem y_X10_doesWay_L2 {g : xG} {h0 : xH} {cl : Bool} {kE37 : xH → Option (xH)} (hkE37 : ∀  (h : xH), Y g DX10_doesWay h0 cl iV (kE37  h) 37 [none, none] [] h) : ∀ (n : Nat) (x0 : Nat) (x1 : Int32) (h : xH), Y g DX10_doesWay h0 cl iV (f_X10_doesWay_L2 kE37 n x0 x1 h) 2 [some (.ref x0), some (.int x1)] [] h := by
  intro n
  induction n with
  | zero => intro x0 x1 h; exact Y.nothing
  | succ n ih =>
    intro x0 x1 h
    unfold f_X10_doesWay_L2
    refine Y.op (pc' := 3) (fun _ => X.iloadn rfl dX10_doesWay_2) ?_
    refine Y.op (pc' := 4) (fun _ => X.aloadn rfl dX10_doesWay_3) ?_
    refine Y.getI fd_X10_249 rfl dX10_doesWay_4 (fun v1 => ?_)
    refine Y.cmpge 37 (by decide) dX10_doesWay_7 ?_ ?_
    · exact Y.fg (hkE37 h) trivial
    · refine Y.op (pc' := 11) (fun _ => X.aloadn rfl dX10_doesWay_10) ?_
      refine Y.getR fd_X10_28 rfl dX10_doesWay_11 (fun v2 => ?_)
      refine Y.op (pc' := 15) (fun _ => X.ic ki_0 dX10_doesWay_14) ?_
      refine Y.aldR 102 (by decide) (by decide) dX10_doesWay_15 (fun v3 => ?_)
      refine Y.op (pc' := 17) (fun _ => X.aloadn rfl dX10_doesWay_16) ?_
      refine Y.getR fd_X10_42 rfl dX10_doesWay_17 (fun v4 => ?_)
      refine Y.op (pc' := 21) (fun _ => X.iloadn rfl dX10_doesWay_20) ?_
      refine Y.aldI dX10_doesWay_21 (fun v5 => ?_)
      refine Y.op (pc' := 23) (fun _ => X.aloadn rfl dX10_doesWay_22) ?_
      refine Y.getR fd_X10_42 rfl dX10_doesWay_23 (fun v6 => ?_)
      refine Y.op (pc' := 27) (fun _ => X.iloadn rfl dX10_doesWay_26) ?_
      refine Y.op (pc' := 28) (fun _ => X.ic ki_1 dX10_doesWay_27) ?_
      refine Y.op (pc' := 29) (fun _ => X.iadd dX10_doesWay_28) ?_
      refine Y.aldI dX10_doesWay_29 (fun v7 => ?_)
      refine Y.astI dX10_doesWay_30 (fun h8 => ?_)
      refine Y.iinc (i := 1) (loc' := fun v9 => [some (.ref x0), some (.int v9)]) rfl (Nat.le_of_ble_eq_true rfl) ki_2 (fun _ => rfl) dX10_doesWay_31 (fun v9 => ?_)
      refine Y.op (pc' := 2) (fun _ => X.goto 2 (by decide) dX10_doesWay_34) ?_
      exact ih x0 v9 h8
def f_X10_doesWay (a0 : Nat) (h : xH) : Option (xH) :=
  f_X10_doesWay_L2 (f_X10_doesWay_J37) 5000 a0 (0 : Int32) h
theorem y_X10_doesWay {g : xG} {h0 : xH} {cl : Bool} (a0 : Nat) (h : xH) : Y g DX10_doesWay h0 cl iV (f_X10_doesWay a0 h) 0 [some (.ref a0), none] [] h := by
  unfold f_X10_doesWay
  refine Y.op (pc' := 1) (fun _ => X.ic ki_0 dX10_doesWay_0) ?_
  refine Y.op (pc' := 2) (loc' := [some (.ref a0), some (.int (0 : Int32))]) (fun _ => X.istoren (Nat.le_of_ble_eq_true rfl) rfl dX10_doesWay_1) ?_
  exact y_X10_doesWay_L2 (y_X10_doesWay_J37) 5000 a0 (0 : Int32) h
theorem m_X10_doesWay {g : xG} (a0 : Nat) (h : xH) (cl : Bool) (r : xH) (e : f_X10_doesWay a0 h = some r) : XM g DX10_doesWay [.ref a0] h cl (iV r) := YM.of rfl rfl (Nat.le_of_ble_eq_true rfl) (y_X10_doesWay a0 h) e
def f_X10_isThere_J15 (x2 : Int32) (s0 : Nat) (s1 : Int32) (h : xH) : Option (Int32 × xH) :=
  (aI h s0 s1).bind fun v1 =>
  (f_X10_has v1 x2 h).bind fun r2 =>
  if r2.1 = 0 ∨ r2.1 = 1 then some (r2.1, r2.2) else none
theorem y_X10_isThere_J15 {g : xG} {h0 : xH} {cl : Bool} (x2 : Int32) (s0 : Nat) (s1 : Int32) (h : xH) : Y g DX10_isThere h0 cl iI (f_X10_isThere_J15 x2 s0 s1 h) 15 [none, none, some (.int x2)] [.int s1, .ref s0] h := by
  unfold f_X10_isThere_J15
  refine Y.aldI dX10_isThere_15 (fun v1 => ?_)
  refine Y.op (pc' := 17) (fun _ => X.iloadn rfl dX10_isThere_16) ?_
  refine Y.callSi (As := [.int v1, .int x2]) lk_X10_182 rfl cal_X10_has sta_X10_has (Nat.le_of_ble_eq_true rfl) rfl rfl (Nat.le_of_ble_eq_true rfl) dX10_isThere_17 (fun _ e => m_X10_has v1 x2 h _ _ e) (fun r2 => ?_)
  exact Y.zreturn rfl dX10_isThere_20
def f_X10_isThere (a0 : Nat) (p1 : Int32) (p2 : Int32) (h : xH) : Option (Int32 × xH) :=
  (gR h 10 a0 9).bind fun v1 =>
  (aR 102 h v1 (0 : Int32)).bind fun v2 =>
  if p1 = (0 : Int32) then
    f_X10_isThere_J15 p2 v2 (3 : Int32) h
  else
    f_X10_isThere_J15 p2 v2 (4 : Int32) h
theorem y_X10_isThere {g : xG} {h0 : xH} {cl : Bool} (a0 : Nat) (p1 : Int32) (p2 : Int32) (h : xH) : Y g DX10_isThere h0 cl iI (f_X10_isThere a0 p1 p2 h) 0 [some (.ref a0), some (.int p1), some (.int p2)] [] h := by
  unfold f_X10_isThere
  refine Y.op (pc' := 1) (fun _ => X.aloadn rfl dX10_isThere_0) ?_
  refine Y.getR fd_X10_22 rfl dX10_isThere_1 (fun v1 => ?_)
  refine Y.op (pc' := 5) (fun _ => X.ic ki_0 dX10_isThere_4) ?_
  refine Y.aldR 102 (by decide) (by decide) dX10_isThere_5 (fun v2 => ?_)
  refine Y.op (pc' := 7) (fun _ => X.iloadn rfl dX10_isThere_6) ?_
  refine Y.ifne 14 (by decide) dX10_isThere_7 ?_ ?_
  · refine Y.op (pc' := 15) (fun _ => X.ic ki_4 dX10_isThere_14) ?_
    exact Y.fg (y_X10_isThere_J15 p2 v2 (4 : Int32) h) (And.intro rfl trivial)
  · refine Y.op (pc' := 11) (fun _ => X.ic ki_3 dX10_isThere_10) ?_
    refine Y.op (pc' := 15) (fun _ => X.goto 15 (by decide) dX10_isThere_11) ?_
    exact Y.fg (y_X10_isThere_J15 p2 v2 (3 : Int32) h) (And.intro rfl trivial)
theorem m_X10_isThere {g : xG} (a0 : Nat) (p1 : Int32) (p2 : Int32) (h : xH) (cl : Bool) (r : Int32 × xH) (e : f_X10_isThere a0 p1 p2 h = some r) : XM g DX10_isThere [.ref a0, .int p1, .int p2] h cl (iI r) := YM.of rfl rfl (Nat.le_of_ble_eq_true rfl) (y_X10_isThere a0 p1 p2 h) e
def f_X10_partnerOf_J25 (s0 : Int32) (h : xH) : Option (Int32 × xH) :=
  some (s0, h)
theorem y_X10_partnerOf_J25 {g : xG} {h0 : xH} {cl : Bool} (s0 : Int32) (h : xH) : Y g DX10_partnerOf h0 cl iI (f_X10_partnerOf_J25 s0 h) 25 [none, none, none] [.int s0] h := by
  unfold f_X10_partnerOf_J25
  exact Y.ireturn rfl dX10_partnerOf_25
def f_X10_partnerOf (a0 : Nat) (p1 : Int32) (p2 : Int32) (h : xH) : Option (Int32 × xH) :=
  if p1 = (0 : Int32) then
    (gR h 10 a0 11).bind fun v4 =>
    (aR 102 h v4 (0 : Int32)).bind fun v5 =>
    (aI h v5 p2).bind fun v6 =>
    f_X10_partnerOf_J25 v6 h
  else
    (gR h 10 a0 11).bind fun v1 =>
    (aR 102 h v1 (0 : Int32)).bind fun v2 =>
    (f_X10_ownerOf v2 p2 h).bind fun r3 =>
    f_X10_partnerOf_J25 r3.1 r3.2
theorem y_X10_partnerOf {g : xG} {h0 : xH} {cl : Bool} (a0 : Nat) (p1 : Int32) (p2 : Int32) (h : xH) : Y g DX10_partnerOf h0 cl iI (f_X10_partnerOf a0 p1 p2 h) 0 [some (.ref a0), some (.int p1), some (.int p2)] [] h := by
  unfold f_X10_partnerOf
  refine Y.op (pc' := 1) (fun _ => X.iloadn rfl dX10_partnerOf_0) ?_
  refine Y.ifne 15 (by decide) dX10_partnerOf_1 ?_ ?_
  · refine Y.op (pc' := 16) (fun _ => X.aloadn rfl dX10_partnerOf_15) ?_
    refine Y.getR fd_X10_28 rfl dX10_partnerOf_16 (fun v1 => ?_)
    refine Y.op (pc' := 20) (fun _ => X.ic ki_0 dX10_partnerOf_19) ?_
    refine Y.aldR 102 (by decide) (by decide) dX10_partnerOf_20 (fun v2 => ?_)
    refine Y.op (pc' := 22) (fun _ => X.iloadn rfl dX10_partnerOf_21) ?_
    refine Y.callSi (As := [.ref v2, .int p2]) lk_X10_178 rfl cal_X10_ownerOf sta_X10_ownerOf (Nat.le_of_ble_eq_true rfl) rfl rfl (Nat.le_of_ble_eq_true rfl) dX10_partnerOf_22 (fun _ e => m_X10_ownerOf v2 p2 h _ _ e) (fun r3 => ?_)
    exact Y.fg (y_X10_partnerOf_J25 r3.1 r3.2) trivial
  · refine Y.op (pc' := 5) (fun _ => X.aloadn rfl dX10_partnerOf_4) ?_
    refine Y.getR fd_X10_28 rfl dX10_partnerOf_5 (fun v4 => ?_)
    refine Y.op (pc' := 9) (fun _ => X.ic ki_0 dX10_partnerOf_8) ?_
    refine Y.aldR 102 (by decide) (by decide) dX10_partnerOf_9 (fun v5 => ?_)
    refine Y.op (pc' := 11) (fun _ => X.iloadn rfl dX10_partnerOf_10) ?_
    refine Y.aldI dX10_partnerOf_11 (fun v6 => ?_)
    refine Y.op (pc' := 25) (fun _ => X.goto 25 (by decide) dX10_partnerOf_12) ?_
    exact Y.fg (y_X10_partnerOf_J25 v6 h) trivial
theorem m_X10_partnerOf {g : xG} (a0 : Nat) (p1 : Int32) (p2 : Int32) (h : xH) (cl : Bool) (r : Int32 × xH) (e : f_X10_partnerOf a0 p1 p2 h = some r) : XM g DX10_partnerOf [.ref a0, .int p1, .int p2] h cl (iI r) := YM.of rfl rfl (Nat.le_of_ble_eq_true rfl) (y_X10_partnerOf a0 p1 p2 h) e
def f_X10_isFree_J24 (s0 : Int32) (h : xH) : Option (Int32 × xH) :=
  if s0 = 0 ∨ s0 = 1 then some (s0, h) else none
theorem y_X10_isFree_J24 {g : xG} {h0 : xH} {cl : Bool} (s0 : Int32) (h : xH) : Y g DX10_isFree h0 cl iI (f_X10_isFree_J24 s0 h) 24 [none, none, none] [.int s0] h := by
  unfold f_X10_isFree_J24
  exact Y.zreturn rfl dX10_isFree_24
def f_X10_isFree_J23 (h : xH) : Option (Int32 × xH) :=
  f_X10_isFree_J24 (0 : Int32) h
theorem y_X10_isFree_J23 {g : xG} {h0 : xH} {cl : Bool} (h : xH) : Y g DX10_isFree h0 cl iI (f_X10_isFree_J23 h) 23 [none, none, none] [] h := by
  unfold f_X10_isFree_J23
  refine Y.op (pc' := 24) (fun _ => X.ic ki_0 dX10_isFree_23) ?_
  exact y_X10_isFree_J24 (0 : Int32) h
def f_X10_isFree (a0 : Nat) (p1 : Int32) (p2 : Int32) (h : xH) : Option (Int32 × xH) :=
  (vc h 10 a0 (f_X10_isThere a0 p1 p2 h)).bind fun r1 =>
  if r1.1 = (0 : Int32) then
    f_X10_isFree_J23 r1.2
  else
    (vc r1.2 10 a0 (f_X10_partnerOf a0 p1 p2 r1.2)).bind fun r2 =>
    if r2.1 = (-1 : Int32) then
      f_X10_isFree_J24 (1 : Int32) r2.2
    else
      f_X10_isFree_J23 r2.2
theorem y_X10_isFree {g : xG} {h0 : xH} {cl : Bool} (a0 : Nat) (p1 : Int32) (p2 : Int32) (h : xH) : Y g DX10_isFree h0 cl iI (f_X10_isFree a0 p1 p2 h) 0 [some (.ref a0), some (.int p1), some (.int p2)] [] h := by
  unfold f_X10_isFree
  refine Y.op (pc' := 1) (fun _ => X.aloadn rfl dX10_isFree_0) ?_
  refine Y.op (pc' := 2) (fun _ => X.iloadn rfl dX10_isFree_1) ?_
  refine Y.op (pc' := 3) (fun _ => X.iloadn rfl dX10_isFree_2) ?_
  refine Y.callVi (As := [.int p1, .int p2]) lk_X10_240 rfl cal_X10_isThere vir_X10_isThere (Nat.le_of_ble_eq_true rfl) (Nat.le_of_ble_eq_true rfl) rfl rfl rfl (Nat.le_of_ble_eq_true rfl) dX10_isFree_3 (fun _ e => m_X10_isThere a0 p1 p2 h _ _ e) (fun r1 => ?_)
  refine Y.ifeq 23 (by decide) dX10_isFree_6 ?_ ?_
  · exact Y.fg (y_X10_isFree_J23 r1.2) trivial
  · refine Y.op (pc' := 10) (fun _ => X.aloadn rfl dX10_isFree_9) ?_
    refine Y.op (pc' := 11) (fun _ => X.iloadn rfl dX10_isFree_10) ?_
    refine Y.op (pc' := 12) (fun _ => X.iloadn rfl dX10_isFree_11) ?_
    refine Y.callVi (As := [.int p1, .int p2]) lk_X10_243 rfl cal_X10_partnerOf vir_X10_partnerOf (Nat.le_of_ble_eq_true rfl) (Nat.le_of_ble_eq_true rfl) rfl rfl rfl (Nat.le_of_ble_eq_true rfl) dX10_isFree_12 (fun _ e => m_X10_partnerOf a0 p1 p2 r1.2 _ _ e) (fun r2 => ?_)
    refine Y.op (pc' := 16) (fun _ => X.ic ki_m1 dX10_isFree_15) ?_
    refine Y.cmpne 23 (by decide) dX10_isFree_16 ?_ ?_
    · exact Y.fg (y_X10_isFree_J23 r2.2) trivial
    · refine Y.op (pc' := 20) (fun _ => X.ic ki_1 dX10_isFree_19) ?_
      refine Y.op (pc' := 24) (fun _ => X.goto 24 (by decide) dX10_isFree_20) ?_
      exact Y.fg (y_X10_isFree_J24 (1 : Int32) r2.2) trivial
theorem m_X10_isFree {g : xG} (a0 : Nat) (p1 : Int32) (p2 : Int32) (h : xH) (cl : Bool) (r : Int32 × xH) (e : f_X10_isFree a0 p1 p2 h = some r) : XM g DX10_isFree [.ref a0, .int p1, .int p2] h cl (iI r) := YM.of rfl rfl (Nat.le_of_ble_eq_true rfl) (y_X10_isFree a0 p1 p2 h) e
