def f_X9_text_J21 (x0 : Nat) (x1 : Int32) (s0 : Nat) (s1 : Int32) (h : xH) : Option ((Int32 ⊕ String) × xH) :=
  (vc h 9 s0 (f_X9_demand s0 s1 h)).bind fun r => thr r fun h1 =>
  (gR h1 9 x0 3).bind fun v2 =>
  (gR h1 9 x0 1).bind fun v3 =>
  (vc h1 6 v2 (f_X6_read v2 x1 v3 h1)).bind fun r4 =>
  if r4.1 = (0 : Int32) then
    (gR r4.2 9 x0 0).bind fun v5 =>
    (gR r4.2 9 x0 1).bind fun v6 =>
    (vc r4.2 0 v5 (f_X0_copy v5 v6 r4.2)).bind fun h7 =>
    (gR h7 9 x0 2).bind fun v8 =>
    (pI h7 2 v8 2 (0 : Int32)).bind fun h9 =>
    (pZ h9 9 x0 9 (0 : Int32)).bind fun h10 =>
    (vc h10 9 x0 (f_X9_keepUp x0 h10)).bind fun h11 =>
    (gR h11 9 x0 0).bind fun v12 =>
    (gR h11 0 v12 9).bind fun v13 =>
    (vc h11 3 v13 (f_X3_size v13 h11)).bind fun r14 =>
    some (.inl r14.1, r14.2)
  else
    some (.inl (r4.1 - (10 : Int32)), r4.2)
theorem y_X9_text_J21 {g : xG} {h0 : xH} (x0 : Nat) (x1 : Int32) (s0 : Nat) (s1 : Int32) (h : xH) : Y g DX9_text h0 false iIx (f_X9_text_J21 x0 x1 s0 s1 h) 21 [some (.ref x0), some (.int x1), none] [.int s1, .ref s0] h := by
  unfold f_X9_text_J21
  refine Y.callVx (As := [.int s1]) lk_X9_90 rfl cal_X9_demand vir_X9_demand (Nat.le_of_ble_eq_true rfl) (Nat.le_of_ble_eq_true rfl) rfl rfl rfl (Nat.le_of_ble_eq_true rfl) rfl dX9_text_21 (fun _ e => m_X9_demand s0 s1 h _ e) (fun h1 => ?_)
  refine Y.op (pc' := 25) (fun _ => X.aloadn rfl dX9_text_24) ?_
  refine Y.getR fd_X9_29 rfl dX9_text_25 (fun v2 => ?_)
  refine Y.op (pc' := 29) (fun _ => X.iloadn rfl dX9_text_28) ?_
  refine Y.op (pc' := 30) (fun _ => X.aloadn rfl dX9_text_29) ?_
  refine Y.getR fd_X9_16 rfl dX9_text_30 (fun v3 => ?_)
  refine Y.callVi (As := [.int x1, .ref v3]) lk_X9_94 rfl cal_X6_read vir_X6_read (Nat.le_of_ble_eq_true rfl) (Nat.le_of_ble_eq_true rfl) rfl rfl rfl (Nat.le_of_ble_eq_true rfl) dX9_text_33 (fun _ e => m_X6_read v2 x1 v3 h1 _ _ e) (fun r4 => ?_)
  refine Y.op (pc' := 37) (loc' := [some (.ref x0), some (.int x1), some (.int r4.1)]) (fun _ => X.istoren (Nat.le_of_ble_eq_true rfl) rfl dX9_text_36) ?_
  refine Y.op (pc' := 38) (fun _ => X.iloadn rfl dX9_text_37) ?_
  refine Y.ifeq 46 (by decide) dX9_text_38 ?_ ?_
  · refine Y.op (pc' := 47) (fun _ => X.aloadn rfl dX9_text_46) ?_
    refine Y.getR fd_X9_12 rfl dX9_text_47 (fun v5 => ?_)
    refine Y.op (pc' := 51) (fun _ => X.aloadn rfl dX9_text_50) ?_
    refine Y.getR fd_X9_16 rfl dX9_text_51 (fun v6 => ?_)
    refine Y.callVv (As := [.ref v6]) lk_X9_98 rfl cal_X0_copy vir_X0_copy (Nat.le_of_ble_eq_true rfl) (Nat.le_of_ble_eq_true rfl) rfl rfl rfl (Nat.le_of_ble_eq_true rfl) dX9_text_54 (fun _ e => m_X0_copy v5 v6 r4.2 _ _ e) (fun h7 => ?_)
    refine Y.op (pc' := 58) (fun _ => X.aloadn rfl dX9_text_57) ?_
    refine Y.getR fd_X9_22 rfl dX9_text_58 (fun v8 => ?_)
    refine Y.op (pc' := 62) (fun _ => X.ic ki_0 dX9_text_61) ?_
    refine Y.putI fd_X9_102 rfl dX9_text_62 (fun h9 => ?_)
    refine Y.op (pc' := 66) (fun _ => X.aloadn rfl dX9_text_65) ?_
    refine Y.op (pc' := 67) (fun _ => X.ic ki_0 dX9_text_66) ?_
    refine Y.putZ fd_X9_68 rfl dX9_text_67 (fun h10 => ?_)
    refine Y.op (pc' := 71) (fun _ => X.aloadn rfl dX9_text_70) ?_
    refine Y.callVv (As := []) lk_X9_103 rfl cal_X9_keepUp vir_X9_keepUp (Nat.le_of_ble_eq_true rfl) (Nat.le_of_ble_eq_true rfl) rfl rfl rfl (Nat.le_of_ble_eq_true rfl) dX9_text_71 (fun _ e => m_X9_keepUp x0 h10 _ _ e) (fun h11 => ?_)
    refine Y.op (pc' := 75) (fun _ => X.aloadn rfl dX9_text_74) ?_
    refine Y.getR fd_X9_12 rfl dX9_text_75 (fun v12 => ?_)
    refine Y.getR fd_X9_106 rfl dX9_text_78 (fun v13 => ?_)
    refine Y.callVi (As := []) lk_X9_110 rfl cal_X3_size vir_X3_size (Nat.le_of_ble_eq_true rfl) (Nat.le_of_ble_eq_true rfl) rfl rfl rfl (Nat.le_of_ble_eq_true rfl) dX9_text_81 (fun _ e => m_X3_size v13 h11 _ _ e) (fun r14 => ?_)
    exact Y.ireturnx rfl dX9_text_84
  · refine Y.op (pc' := 42) (fun _ => X.iloadn rfl dX9_text_41) ?_
    refine Y.op (pc' := 44) (fun _ => X.bp kb_10 dX9_text_42) ?_
    refine Y.op (pc' := 45) (fun _ => X.isub dX9_text_44) ?_
    exact Y.ireturnx rfl dX9_text_45
def f_X9_text_J20 (x0 : Nat) (x1 : Int32) (s0 : Nat) (h : xH) : Option ((Int32 ⊕ String) × xH) :=
  f_X9_text_J21 x0 x1 s0 (0 : Int32) h
theorem y_X9_text_J20 {g : xG} {h0 : xH} (x0 : Nat) (x1 : Int32) (s0 : Nat) (h : xH) : Y g DX9_text h0 false iIx (f_X9_text_J20 x0 x1 s0 h) 20 [some (.ref x0), some (.int x1), none] [.ref s0] h := by
  unfold f_X9_text_J20
  refine Y.op (pc' := 21) (fun _ => X.ic ki_0 dX9_text_20) ?_
  exact y_X9_text_J21 x0 x1 s0 (0 : Int32) h
def f_X9_text (a0 : Nat) (p1 : Int32) (h : xH) : Option ((Int32 ⊕ String) × xH) :=
  if p1 < (0 : Int32) then
    f_X9_text_J20 a0 p1 a0 h
  else
    (gR h 9 a0 3).bind fun v1 =>
    (gI h 6 v1 1).bind fun v2 =>
    if p1 > v2 then
      f_X9_text_J20 a0 p1 a0 h
    else
      f_X9_text_J21 a0 p1 a0 (1 : Int32) h
theorem y_X9_text {g : xG} {h0 : xH} (a0 : Nat) (p1 : Int32) (h : xH) : Y g DX9_text h0 false iIx (f_X9_text a0 p1 h) 0 [some (.ref a0), some (.int p1), none] [] h := by
  unfold f_X9_text
  refine Y.op (pc' := 1) (fun _ => X.aloadn rfl dX9_text_0) ?_
  refine Y.op (pc' := 2) (fun _ => X.iloadn rfl dX9_text_1) ?_
  refine Y.iflt 20 (by decide) dX9_text_2 ?_ ?_
  · exact y_X9_text_J20 a0 p1 a0 h
  · refine Y.op (pc' := 6) (fun _ => X.iloadn rfl dX9_text_5) ?_
    refine Y.op (pc' := 7) (fun _ => X.aloadn rfl dX9_text_6) ?_
    refine Y.getR fd_X9_29 rfl dX9_text_7 (fun v1 => ?_)
    refine Y.getI fd_X9_87 rfl dX9_text_10 (fun v2 => ?_)
    refine Y.cmpgt 20 (by decide) dX9_text_13 ?_ ?_
    · exact y_X9_text_J20 a0 p1 a0 h
    · refine Y.op (pc' := 17) (fun _ => X.ic ki_1 dX9_text_16) ?_
      refine Y.op (pc' := 21) (fun _ => X.goto 21 (by decide) dX9_text_17) ?_
      exact y_X9_text_J21 a0 p1 a0 (1 : Int32) h
theorem m_X9_text {g : xG} (a0 : Nat) (p1 : Int32) (h : xH) (r : (Int32 ⊕ String) × xH) (e : f_X9_text a0 p1 h = some r) : XM g DX9_text [.ref a0, .int p1] h false (iIx r) := YM.of rfl rfl (Nat.le_of_ble_eq_true rfl) (y_X9_text a0 p1 h) e
def f_X9_told_J16 (x0 : Nat) (x1 : Int32) (s0 : Nat) (s1 : Int32) (h : xH) : Option ((Int32 ⊕ String) × xH) :=
  (vc h 9 s0 (f_X9_demand s0 s1 h)).bind fun r => thr r fun h1 =>
  if x1.toInt < 0 ∨ 10 < x1.toInt then
    (gR h1 9 x0 3).bind fun v2 =>
    (gI h1 6 v2 1).bind fun v3 =>
    some (.inl v3, h1)
  else tsf (fun k : Nat => match k with
    | 0 => (gR h1 9 x0 0).bind fun v4 =>
      (gI h1 0 v4 0).bind fun v5 =>
      some (.inl v5, h1)
    | 1 => (gR h1 9 x0 0).bind fun v6 =>
      (gI h1 0 v6 1).bind fun v7 =>
      some (.inl v7, h1)
    | 2 => (gR h1 9 x0 0).bind fun v8 =>
      (vc h1 0 v8 (f_X0_fitCount v8 h1)).bind fun r9 =>
      some (.inl r9.1, r9.2)
    | 3 => (gR h1 9 x0 0).bind fun v10 =>
      (gR h1 0 v10 9).bind fun v11 =>
      (vc h1 3 v11 (f_X3_size v11 h1)).bind fun r12 =>
      some (.inl r12.1, r12.2)
    | 4 => (gR h1 9 x0 0).bind fun v13 =>
      (gI h1 0 v13 4).bind fun v14 =>
      some (.inl v14, h1)
    | 5 => (gR h1 9 x0 0).bind fun v15 =>
      (gI h1 0 v15 2).bind fun v16 =>
      some (.inl v16, h1)
    | 6 => (gR h1 9 x0 0).bind fun v17 =>
      (gI h1 0 v17 3).bind fun v18 =>
      some (.inl v18, h1)
    | 7 => (gR h1 9 x0 0).bind fun v19 =>
      (gI h1 0 v19 2).bind fun v20 =>
      (gR h1 9 x0 0).bind fun v21 =>
      (gR h1 0 v21 9).bind fun v22 =>
      (vc h1 3 v22 (f_X3_workersIn v22 h1)).bind fun r23 =>
      some (.inl (v20 &&& (r23.1 ^^^ (-1 : Int32))), r23.2)
    | 8 => (gR h1 9 x0 0).bind fun v24 =>
      (gI h1 0 v24 3).bind fun v25 =>
      (gR h1 9 x0 0).bind fun v26 =>
      (gR h1 0 v26 9).bind fun v27 =>
      (vc h1 3 v27 (f_X3_tasksIn v27 h1)).bind fun r28 =>
      some (.inl (v25 &&& (r28.1 ^^^ (-1 : Int32))), r28.2)
    | 9 => (gR h1 9 x0 0).bind fun v29 =>
      (vc h1 0 v29 (f_X0_pairCost v29 h1)).bind fun r30 =>
      some (.inl r30.1, r30.2)
    | 10 => (gR h1 9 x0 2).bind fun v31 =>
      (gI h1 2 v31 2).bind fun v32 =>
      some (.inl v32, h1)
    | _ => none) (x1.toInt - 0).toNat
theorem y_X9_told_J16 {g : xG} {h0 : xH} (x0 : Nat) (x1 : Int32) (s0 : Nat) (s1 : Int32) (h : xH) : Y g DX9_told h0 false iIx (f_X9_told_J16 x0 x1 s0 s1 h) 16 [some (.ref x0), some (.int x1)] [.int s1, .ref s0] h := by
  unfold f_X9_told_J16
  refine Y.callVx (As := [.int s1]) lk_X9_90 rfl cal_X9_demand vir_X9_demand (Nat.le_of_ble_eq_true rfl) (Nat.le_of_ble_eq_true rfl) rfl rfl rfl (Nat.le_of_ble_eq_true rfl) rfl dX9_told_16 (fun _ e => m_X9_demand s0 s1 h _ e) (fun h1 => ?_)
  refine Y.op (pc' := 20) (fun _ => X.iloadn rfl dX9_told_19) ?_
  refine Y.tswf (dt := 197) (by decide) dX9_told_20 rfl ?_ (fun k hk => ?_)
  · refine Y.op (pc' := 198) (fun _ => X.aloadn rfl dX9_told_197) ?_
    refine Y.getR fd_X9_29 rfl dX9_told_198 (fun v2 => ?_)
    refine Y.getI fd_X9_87 rfl dX9_told_201 (fun v3 => ?_)
    exact Y.ireturnx rfl dX9_told_204
  · match k, hk with
    | 0, _ =>
      refine ⟨80, _, rfl, by decide, ?_⟩
      refine Y.op (pc' := 81) (fun _ => X.aloadn rfl dX9_told_80) ?_
      refine Y.getR fd_X9_12 rfl dX9_told_81 (fun v4 => ?_)
      refine Y.getI fd_X9_119 rfl dX9_told_84 (fun v5 => ?_)
      exact Y.ireturnx rfl dX9_told_87
    | 1, _ =>
      refine ⟨88, _, rfl, by decide, ?_⟩
      refine Y.op (pc' := 89) (fun _ => X.aloadn rfl dX9_told_88) ?_
      refine Y.getR fd_X9_12 rfl dX9_told_89 (fun v6 => ?_)
      refine Y.getI fd_X9_122 rfl dX9_told_92 (fun v7 => ?_)
      exact Y.ireturnx rfl dX9_told_95
    | 2, _ =>
      refine ⟨96, _, rfl, by decide, ?_⟩
      refine Y.op (pc' := 97) (fun _ => X.aloadn rfl dX9_told_96) ?_
      refine Y.getR fd_X9_12 rfl dX9_told_97 (fun v8 => ?_)
      refine Y.callVi (As := []) lk_X9_125 rfl cal_X0_fitCount vir_X0_fitCount (Nat.le_of_ble_eq_true rfl) (Nat.le_of_ble_eq_true rfl) rfl rfl rfl (Nat.le_of_ble_eq_true rfl) dX9_told_100 (fun _ e => m_X0_fitCount v8 h1 _ _ e) (fun r9 => ?_)
      exact Y.ireturnx rfl dX9_told_103
    | 3, _ =>
      refine ⟨104, _, rfl, by decide, ?_⟩
      refine Y.op (pc' := 105) (fun _ => X.aloadn rfl dX9_told_104) ?_
      refine Y.getR fd_X9_12 rfl dX9_told_105 (fun v10 => ?_)
      refine Y.getR fd_X9_106 rfl dX9_told_108 (fun v11 => ?_)
      refine Y.callVi (As := []) lk_X9_110 rfl cal_X3_size vir_X3_size (Nat.le_of_ble_eq_true rfl) (Nat.le_of_ble_eq_true rfl) rfl rfl rfl (Nat.le_of_ble_eq_true rfl) dX9_told_111 (fun _ e => m_X3_size v11 h1 _ _ e) (fun r12 => ?_)
      exact Y.ireturnx rfl dX9_told_114
    | 4, _ =>
      refine ⟨115, _, rfl, by decide, ?_⟩
      refine Y.op (pc' := 116) (fun _ => X.aloadn rfl dX9_told_115) ?_
      refine Y.getR fd_X9_12 rfl dX9_told_116 (fun v13 => ?_)
      refine Y.getI fd_X9_128 rfl dX9_told_119 (fun v14 => ?_)
      exact Y.ireturnx rfl dX9_told_122
    | 5, _ =>
      refine ⟨123, _, rfl, by decide, ?_⟩
      refine Y.op (pc' := 124) (fun _ => X.aloadn rfl dX9_told_123) ?_
      refine Y.getR fd_X9_12 rfl dX9_told_124 (fun v15 => ?_)
      refine Y.getI fd_X9_131 rfl dX9_told_127 (fun v16 => ?_)
      exact Y.ireturnx rfl dX9_told_130
    | 6, _ =>
      refine ⟨131, _, rfl, by decide, ?_⟩
      refine Y.op (pc' := 132) (fun _ => X.aloadn rfl dX9_told_131) ?_
      refine Y.getR fd_X9_12 rfl dX9_told_132 (fun v17 => ?_)
      refine Y.getI fd_X9_134 rfl dX9_told_135 (fun v18 => ?_)
      exact Y.ireturnx rfl dX9_told_138
    | 7, _ =>
      refine ⟨139, _, rfl, by decide, ?_⟩
      refine Y.op (pc' := 140) (fun _ => X.aloadn rfl dX9_told_139) ?_
      refine Y.getR fd_X9_12 rfl dX9_told_140 (fun v19 => ?_)
      refine Y.getI fd_X9_131 rfl dX9_told_143 (fun v20 => ?_)
      refine Y.op (pc' := 147) (fun _ => X.aloadn rfl dX9_told_146) ?_
      refine Y.getR fd_X9_12 rfl dX9_told_147 (fun v21 => ?_)
      refine Y.getR fd_X9_106 rfl dX9_told_150 (fun v22 => ?_)
      refine Y.callVi (As := []) lk_X9_137 rfl cal_X3_workersIn vir_X3_workersIn (Nat.le_of_ble_eq_true rfl) (Nat.le_of_ble_eq_true rfl) rfl rfl rfl (Nat.le_of_ble_eq_true rfl) dX9_told_153 (fun _ e => m_X3_workersIn v22 h1 _ _ e) (fun r23 => ?_)
      refine Y.op (pc' := 157) (fun _ => X.ic ki_m1 dX9_told_156) ?_
      refine Y.op (pc' := 158) (fun _ => X.ixor dX9_told_157) ?_
      refine Y.op (pc' := 159) (fun _ => X.iand dX9_told_158) ?_
      exact Y.ireturnx rfl dX9_told_159
    | 8, _ =>
      refine ⟨160, _, rfl, by decide, ?_⟩
      refine Y.op (pc' := 161) (fun _ => X.aloadn rfl dX9_told_160) ?_
      refine Y.getR fd_X9_12 rfl dX9_told_161 (fun v24 => ?_)
      refine Y.getI fd_X9_134 rfl dX9_told_164 (fun v25 => ?_)
      refine Y.op (pc' := 168) (fun _ => X.aloadn rfl dX9_told_167) ?_
      refine Y.getR fd_X9_12 rfl dX9_told_168 (fun v26 => ?_)
      refine Y.getR fd_X9_106 rfl dX9_told_171 (fun v27 => ?_)
      refine Y.callVi (As := []) lk_X9_140 rfl cal_X3_tasksIn vir_X3_tasksIn (Nat.le_of_ble_eq_true rfl) (Nat.le_of_ble_eq_true rfl) rfl rfl rfl (Nat.le_of_ble_eq_true rfl) dX9_told_174 (fun _ e => m_X3_tasksIn v27 h1 _ _ e) (fun r28 => ?_)
      refine Y.op (pc' := 178) (fun _ => X.ic ki_m1 dX9_told_177) ?_
      refine Y.op (pc' := 179) (fun _ => X.ixor dX9_told_178) ?_
      refine Y.op (pc' := 180) (fun _ => X.iand dX9_told_179) ?_
      exact Y.ireturnx rfl dX9_told_180
    | 9, _ =>
      refine ⟨181, _, rfl, by decide, ?_⟩
      refine Y.op (pc' := 182) (fun _ => X.aloadn rfl dX9_told_181) ?_
      refine Y.getR fd_X9_12 rfl dX9_told_182 (fun v29 => ?_)
      refine Y.callVi (As := []) lk_X9_143 rfl cal_X0_pairCost vir_X0_pairCost (Nat.le_of_ble_eq_true rfl) (Nat.le_of_ble_eq_true rfl) rfl rfl rfl (Nat.le_of_ble_eq_true rfl) dX9_told_185 (fun _ e => m_X0_pairCost v29 h1 _ _ e) (fun r30 => ?_)
      exact Y.ireturnx rfl dX9_told_188
    | 10, _ =>
      refine ⟨189, _, rfl, by decide, ?_⟩
      refine Y.op (pc' := 190) (fun _ => X.aloadn rfl dX9_told_189) ?_
      refine Y.getR fd_X9_22 rfl dX9_told_190 (fun v31 => ?_)
      refine Y.getI fd_X9_102 rfl dX9_told_193 (fun v32 => ?_)
      exact Y.ireturnx rfl dX9_told_196
    | k + 11, hk => exact absurd hk (Nat.not_lt.mpr (Nat.le_add_left 11 k))
def f_X9_told_J15 (x0 : Nat) (x1 : Int32) (s0 : Nat) (h : xH) : Option ((Int32 ⊕ String) × xH) :=
  f_X9_told_J16 x0 x1 s0 (0 : Int32) h
theorem y_X9_told_J15 {g : xG} {h0 : xH} (x0 : Nat) (x1 : Int32) (s0 : Nat) (h : xH) : Y g DX9_told h0 false iIx (f_X9_told_J15 x0 x1 s0 h) 15 [some (.ref x0), some (.int x1)] [.ref s0] h := by
  unfold f_X9_told_J15
  refine Y.op (pc' := 16) (fun _ => X.ic ki_0 dX9_told_15) ?_
  exact y_X9_told_J16 x0 x1 s0 (0 : Int32) h
def f_X9_told (a0 : Nat) (p1 : Int32) (h : xH) : Option ((Int32 ⊕ String) × xH) :=
  if p1 < (0 : Int32) then
    f_X9_told_J15 a0 p1 a0 h
  else
    if p1 > (11 : Int32) then
      f_X9_told_J15 a0 p1 a0 h
    else
      f_X9_told_J16 a0 p1 a0 (1 : Int32) h
theorem y_X9_told {g : xG} {h0 : xH} (a0 : Nat) (p1 : Int32) (h : xH) : Y g DX9_told h0 false iIx (f_X9_told a0 p1 h) 0 [some (.ref a0), some (.int p1)] [] h := by
  unfold f_X9_told
  refine Y.op (pc' := 1) (fun _ => X.aloadn rfl dX9_told_0) ?_
  refine Y.op (pc' := 2) (fun _ => X.iloadn rfl dX9_told_1) ?_
  refine Y.iflt 15 (by decide) dX9_told_2 ?_ ?_
  · exact y_X9_told_J15 a0 p1 a0 h
  · refine Y.op (pc' := 6) (fun _ => X.iloadn rfl dX9_told_5) ?_
    refine Y.op (pc' := 8) (fun _ => X.bp kb_11 dX9_told_6) ?_
    refine Y.cmpgt 15 (by decide) dX9_told_8 ?_ ?_
    · exact y_X9_told_J15 a0 p1 a0 h
    · refine Y.op (pc' := 12) (fun _ => X.ic ki_1 dX9_told_11) ?_
      refine Y.op (pc' := 16) (fun _ => X.goto 16 (by decide) dX9_told_12) ?_
      exact y_X9_told_J16 a0 p1 a0 (1 : Int32) h
theorem m_X9_told {g : xG} (a0 : Nat) (p1 : Int32) (h : xH) (r : (Int32 ⊕ String) × xH) (e : f_X9_told a0 p1 h = some r) : XM g DX9_told [.ref a0, .int p1] h false (iIx r) := YM.of rfl rfl (Nat.le_of_ble_eq_true rfl) (y_X9_told a0 p1 h) e
def f_X9_partner (a0 : Nat) (p1 : Int32) (p2 : Int32) (h : xH) : Option ((Int32 ⊕ String) × xH) :=
  (gR h 9 a0 0).bind fun v1 =>
  (vc h 0 v1 (f_X0_knows v1 p1 p2 h)).bind fun r2 =>
  (vc r2.2 9 a0 (f_X9_demandPlace a0 r2.1 r2.2)).bind fun r => thr r fun h3 =>
  (gR h3 9 a0 0).bind fun v4 =>
  (vc h3 0 v4 (f_X0_partnerOf v4 p1 p2 h3)).bind fun r5 =>
  some (.inl r5.1, r5.2)
theorem y_X9_partner {g : xG} {h0 : xH} (a0 : Nat) (p1 : Int32) (p2 : Int32) (h : xH) : Y g DX9_partner h0 false iIx (f_X9_partner a0 p1 p2 h) 0 [some (.ref a0), some (.int p1), some (.int p2)] [] h := by
  unfold f_X9_partner
  refine Y.op (pc' := 1) (fun _ => X.aloadn rfl dX9_partner_0) ?_
  refine Y.op (pc' := 2) (fun _ => X.aloadn rfl dX9_partner_1) ?_
  refine Y.getR fd_X9_12 rfl dX9_partner_2 (fun v1 => ?_)
  refine Y.op (pc' := 6) (fun _ => X.iloadn rfl dX9_partner_5) ?_
  refine Y.op (pc' := 7) (fun _ => X.iloadn rfl dX9_partner_6) ?_
  refine Y.callVi (As := [.int p1, .int p2]) lk_X9_146 rfl cal_X0_knows vir_X0_knows (Nat.le_of_ble_eq_true rfl) (Nat.le_of_ble_eq_true rfl) rfl rfl rfl (Nat.le_of_ble_eq_true rfl) dX9_partner_7 (fun _ e => m_X0_knows v1 p1 p2 h _ _ e) (fun r2 => ?_)
  refine Y.callVx (As := [.int r2.1]) lk_X9_150 rfl cal_X9_demandPlace vir_X9_demandPlace (Nat.le_of_ble_eq_true rfl) (Nat.le_of_ble_eq_true rfl) rfl rfl rfl (Nat.le_of_ble_eq_true rfl) rfl dX9_partner_10 (fun _ e => m_X9_demandPlace a0 r2.1 r2.2 _ e) (fun h3 => ?_)
  refine Y.op (pc' := 14) (fun _ => X.aloadn rfl dX9_partner_13) ?_
  refine Y.getR fd_X9_12 rfl dX9_partner_14 (fun v4 => ?_)
  refine Y.op (pc' := 18) (fun _ => X.iloadn rfl dX9_partner_17) ?_
  refine Y.op (pc' := 19) (fun _ => X.iloadn rfl dX9_partner_18) ?_
  refine Y.callVi (As := [.int p1, .int p2]) lk_X9_153 rfl cal_X0_partnerOf vir_X0_partnerOf (Nat.le_of_ble_eq_true rfl) (Nat.le_of_ble_eq_true rfl) rfl rfl rfl (Nat.le_of_ble_eq_true rfl) dX9_partner_19 (fun _ e => m_X0_partnerOf v4 p1 p2 h3 _ _ e) (fun r5 => ?_)
  exact Y.ireturnx rfl dX9_partner_22
theorem m_X9_partner {g : xG} (a0 : Nat) (p1 : Int32) (p2 : Int32) (h : xH) (r : (Int32 ⊕ String) × xH) (e : f_X9_partner a0 p1 p2 h = some r) : XM g DX9_partner [.ref a0, .int p1, .int p2] h false (iIx r) := YM.of rfl rfl (Nat.le_of_ble_eq_true rfl) (y_X9_partner a0 p1 p2 h) e
def f_X9_cost (a0 : Nat) (p1 : Int32) (p2 : Int32) (h : xH) : Option ((Int32 ⊕ String) × xH) :=
  (gR h 9 a0 0).bind fun v1 =>
  (vc h 0 v1 (f_X0_knowsBoth v1 p1 p2 h)).bind fun r2 =>
  (vc r2.2 9 a0 (f_X9_demandPlace a0 r2.1 r2.2)).bind fun r => thr r fun h3 =>
  (gR h3 9 a0 0).bind fun v4 =>
  (vc h3 0 v4 (f_X0_costOf v4 p1 p2 h3)).bind fun r5 =>
  some (.inl r5.1, r5.2)
theorem y_X9_cost {g : xG} {h0 : xH} (a0 : Nat) (p1 : Int32) (p2 : Int32) (h : xH) : Y g DX9_cost h0 false iIx (f_X9_cost a0 p1 p2 h) 0 [some (.ref a0), some (.int p1), some (.int p2)] [] h := by
  unfold f_X9_cost
  refine Y.op (pc' := 1) (fun _ => X.aloadn rfl dX9_cost_0) ?_
  refine Y.op (pc' := 2) (fun _ => X.aloadn rfl dX9_cost_1) ?_
  refine Y.getR fd_X9_12 rfl dX9_cost_2 (fun v1 => ?_)
  refine Y.op (pc' := 6) (fun _ => X.iloadn rfl dX9_cost_5) ?_
  refine Y.op (pc' := 7) (fun _ => X.iloadn rfl dX9_cost_6) ?_
  refine Y.callVi (As := [.int p1, .int p2]) lk_X9_157 rfl cal_X0_knowsBoth vir_X0_knowsBoth (Nat.le_of_ble_eq_true rfl) (Nat.le_of_ble_eq_true rfl) rfl rfl rfl (Nat.le_of_ble_eq_true rfl) dX9_cost_7 (fun _ e => m_X0_knowsBoth v1 p1 p2 h _ _ e) (fun r2 => ?_)
  refine Y.callVx (As := [.int r2.1]) lk_X9_150 rfl cal_X9_demandPlace vir_X9_demandPlace (Nat.le_of_ble_eq_true rfl) (Nat.le_of_ble_eq_true rfl) rfl rfl rfl (Nat.le_of_ble_eq_true rfl) rfl dX9_cost_10 (fun _ e => m_X9_demandPlace a0 r2.1 r2.2 _ e) (fun h3 => ?_)
  refine Y.op (pc' := 14) (fun _ => X.aloadn rfl dX9_cost_13) ?_
  refine Y.getR fd_X9_12 rfl dX9_cost_14 (fun v4 => ?_)
  refine Y.op (pc' := 18) (fun _ => X.iloadn rfl dX9_cost_17) ?_
  refine Y.op (pc' := 19) (fun _ => X.iloadn rfl dX9_cost_18) ?_
  refine Y.callVi (As := [.int p1, .int p2]) lk_X9_160 rfl cal_X0_costOf vir_X0_costOf (Nat.le_of_ble_eq_true rfl) (Nat.le_of_ble_eq_true rfl) rfl rfl rfl (Nat.le_of_ble_eq_true rfl) dX9_cost_19 (fun _ e => m_X0_costOf v4 p1 p2 h3 _ _ e) (fun r5 => ?_)
  exact Y.ireturnx rfl dX9_cost_22
theorem m_X9_cost {g : xG} (a0 : Nat) (p1 : Int32) (p2 : Int32) (h : xH) (r : (Int32 ⊕ String) × xH) (e : f_X9_cost a0 p1 p2 h = some r) : XM g DX9_cost [.ref a0, .int p1, .int p2] h false (iIx r) := YM.of rfl rfl (Nat.le_of_ble_eq_true rfl) (y_X9_cost a0 p1 p2 h) e
def f_X9_fits_J36 (s0 : Int32) (h : xH) : Option ((Int32 ⊕ String) × xH) :=
  some (.inl s0, h)
theorem y_X9_fits_J36 {g : xG} {h0 : xH} (s0 : Int32) (h : xH) : Y g DX9_fits h0 false iIx (f_X9_fits_J36 s0 h) 36 [none, none, none] [.int s0] h := by
  unfold f_X9_fits_J36
  exact Y.ireturnx rfl dX9_fits_36
def f_X9_fits (a0 : Nat) (p1 : Int32) (p2 : Int32) (h : xH) : Option ((Int32 ⊕ String) × xH) :=
  (gR h 9 a0 0).bind fun v1 =>
  (vc h 0 v1 (f_X0_knows v1 p1 p2 h)).bind fun r2 =>
  (vc r2.2 9 a0 (f_X9_demandPlace a0 r2.1 r2.2)).bind fun r => thr r fun h3 =>
  if p1 = (0 : Int32) then
    (gR h3 9 a0 0).bind fun v6 =>
    (vc h3 0 v6 (f_X0_tasksFor v6 p2 h3)).bind fun r7 =>
    f_X9_fits_J36 r7.1 r7.2
  else
    (gR h3 9 a0 0).bind fun v4 =>
    (vc h3 0 v4 (f_X0_workersFor v4 p2 h3)).bind fun r5 =>
    f_X9_fits_J36 r5.1 r5.2
theorem y_X9_fits {g : xG} {h0 : xH} (a0 : Nat) (p1 : Int32) (p2 : Int32) (h : xH) : Y g DX9_fits h0 false iIx (f_X9_fits a0 p1 p2 h) 0 [some (.ref a0), some (.int p1), some (.int p2)] [] h := by
  unfold f_X9_fits
  refine Y.op (pc' := 1) (fun _ => X.aloadn rfl dX9_fits_0) ?_
  refine Y.op (pc' := 2) (fun _ => X.aloadn rfl dX9_fits_1) ?_
  refine Y.getR fd_X9_12 rfl dX9_fits_2 (fun v1 => ?_)
  refine Y.op (pc' := 6) (fun _ => X.iloadn rfl dX9_fits_5) ?_
  refine Y.op (pc' := 7) (fun _ => X.iloadn rfl dX9_fits_6) ?_
  refine Y.callVi (As := [.int p1, .int p2]) lk_X9_146 rfl cal_X0_knows vir_X0_knows (Nat.le_of_ble_eq_true rfl) (Nat.le_of_ble_eq_true rfl) rfl rfl rfl (Nat.le_of_ble_eq_true rfl) dX9_fits_7 (fun _ e => m_X0_knows v1 p1 p2 h _ _ e) (fun r2 => ?_)
  refine Y.callVx (As := [.int r2.1]) lk_X9_150 rfl cal_X9_demandPlace vir_X9_demandPlace (Nat.le_of_ble_eq_true rfl) (Nat.le_of_ble_eq_true rfl) rfl rfl rfl (Nat.le_of_ble_eq_true rfl) rfl dX9_fits_10 (fun _ e => m_X9_demandPlace a0 r2.1 r2.2 _ e) (fun h3 => ?_)
  refine Y.op (pc' := 14) (fun _ => X.iloadn rfl dX9_fits_13) ?_
  refine Y.ifne 28 (by decide) dX9_fits_14 ?_ ?_
  · refine Y.op (pc' := 29) (fun _ => X.aloadn rfl dX9_fits_28) ?_
    refine Y.getR fd_X9_12 rfl dX9_fits_29 (fun v4 => ?_)
    refine Y.op (pc' := 33) (fun _ => X.iloadn rfl dX9_fits_32) ?_
    refine Y.callVi (As := [.int p2]) lk_X9_167 rfl cal_X0_workersFor vir_X0_workersFor (Nat.le_of_ble_eq_true rfl) (Nat.le_of_ble_eq_true rfl) rfl rfl rfl (Nat.le_of_ble_eq_true rfl) dX9_fits_33 (fun _ e => m_X0_workersFor v4 p2 h3 _ _ e) (fun r5 => ?_)
    exact Y.fg (y_X9_fits_J36 r5.1 r5.2) trivial
  · refine Y.op (pc' := 18) (fun _ => X.aloadn rfl dX9_fits_17) ?_
    refine Y.getR fd_X9_12 rfl dX9_fits_18 (fun v6 => ?_)
    refine Y.op (pc' := 22) (fun _ => X.iloadn rfl dX9_fits_21) ?_
    refine Y.callVi (As := [.int p2]) lk_X9_163 rfl cal_X0_tasksFor vir_X0_tasksFor (Nat.le_of_ble_eq_true rfl) (Nat.le_of_ble_eq_true rfl) rfl rfl rfl (Nat.le_of_ble_eq_true rfl) dX9_fits_22 (fun _ e => m_X0_tasksFor v6 p2 h3 _ _ e) (fun r7 => ?_)
    refine Y.op (pc' := 36) (fun _ => X.goto 36 (by decide) dX9_fits_25) ?_
    exact Y.fg (y_X9_fits_J36 r7.1 r7.2) trivial
theorem m_X9_fits {g : xG} (a0 : Nat) (p1 : Int32) (p2 : Int32) (h : xH) (r : (Int32 ⊕ String) × xH) (e : f_X9_fits a0 p1 p2 h = some r) : XM g DX9_fits [.ref a0, .int p1, .int p2] h false (iIx r) := YM.of rfl rfl (Nat.le_of_ble_eq_true rfl) (y_X9_fits a0 p1 p2 h) e
def f_X9_way (a0 : Nat) (h : xH) : Option (Int32 × xH) :=
  (gR h 9 a0 4).bind fun v1 =>
  (gR h 9 a0 0).bind fun v2 =>
  (vc h 7 v1 (f_X7_load v1 v2 h)).bind fun h3 =>
  (gR h3 9 a0 4).bind fun v4 =>
  (vc h3 7 v4 (f_X7_findFirst v4 h3)).bind fun r5 =>
  some (r5.1, r5.2)
theorem y_X9_way {g : xG} {h0 : xH} {cl : Bool} (a0 : Nat) (h : xH) : Y g DX9_way h0 cl iI (f_X9_way a0 h) 0 [some (.ref a0)] [] h := by
  unfold f_X9_way
  refine Y.op (pc' := 1) (fun _ => X.aloadn rfl dX9_way_0) ?_
  refine Y.getR fd_X9_36 rfl dX9_way_1 (fun v1 => ?_)
  refine Y.op (pc' := 5) (fun _ => X.aloadn rfl dX9_way_4) ?_
  refine Y.getR fd_X9_12 rfl dX9_way_5 (fun v2 => ?_)
  refine Y.callVv (As := [.ref v2]) lk_X9_170 rfl cal_X7_load vir_X7_load (Nat.le_of_ble_eq_true rfl) (Nat.le_of_ble_eq_true rfl) rfl rfl rfl (Nat.le_of_ble_eq_true rfl) dX9_way_8 (fun _ e => m_X7_load v1 v2 h _ _ e) (fun h3 => ?_)
  refine Y.op (pc' := 12) (fun _ => X.aloadn rfl dX9_way_11) ?_
  refine Y.getR fd_X9_36 rfl dX9_way_12 (fun v4 => ?_)
  refine Y.callVi (As := []) lk_X9_173 rfl cal_X7_findFirst vir_X7_findFirst (Nat.le_of_ble_eq_true rfl) (Nat.le_of_ble_eq_true rfl) rfl rfl rfl (Nat.le_of_ble_eq_true rfl) dX9_way_15 (fun _ e => m_X7_findFirst v4 h3 _ _ e) (fun r5 => ?_)
  exact Y.ireturn rfl dX9_way_18
theorem m_X9_way {g : xG} (a0 : Nat) (h : xH) (cl : Bool) (r : Int32 × xH) (e : f_X9_way a0 h = some r) : XM g DX9_way [.ref a0] h cl (iI r) := YM.of rfl rfl (Nat.le_of_ble_eq_true rfl) (y_X9_way a0 h) e
def f_X9_wayAt_J34 (x0 : Nat) (x1 : Int32) (s0 : Nat) (s1 : Int32) (h : xH) : Option ((Int32 ⊕ String) × xH) :=
  (vc h 9 s0 (f_X9_demandPlace s0 s1 h)).bind fun r => thr r fun h1 =>
  (gR h1 9 x0 4).bind fun v2 =>
  (vc h1 7 v2 (f_X7_wayAtPlace v2 x1 h1)).bind fun r3 =>
  some (.inl r3.1, r3.2)
theorem y_X9_wayAt_J34 {g : xG} {h0 : xH} (x0 : Nat) (x1 : Int32) (s0 : Nat) (s1 : Int32) (h : xH) : Y g DX9_wayAt h0 false iIx (f_X9_wayAt_J34 x0 x1 s0 s1 h) 34 [some (.ref x0), some (.int x1), none] [.int s1, .ref s0] h := by
  unfold f_X9_wayAt_J34
  refine Y.callVx (As := [.int s1]) lk_X9_150 rfl cal_X9_demandPlace vir_X9_demandPlace (Nat.le_of_ble_eq_true rfl) (Nat.le_of_ble_eq_true rfl) rfl rfl rfl (Nat.le_of_ble_eq_true rfl) rfl dX9_wayAt_34 (fun _ e => m_X9_demandPlace s0 s1 h _ e) (fun h1 => ?_)
  refine Y.op (pc' := 38) (fun _ => X.aloadn rfl dX9_wayAt_37) ?_
  refine Y.getR fd_X9_36 rfl dX9_wayAt_38 (fun v2 => ?_)
  refine Y.op (pc' := 42) (fun _ => X.iloadn rfl dX9_wayAt_41) ?_
  refine Y.callVi (As := [.int x1]) lk_X9_176 rfl cal_X7_wayAtPlace vir_X7_wayAtPlace (Nat.le_of_ble_eq_true rfl) (Nat.le_of_ble_eq_true rfl) rfl rfl rfl (Nat.le_of_ble_eq_true rfl) dX9_wayAt_42 (fun _ e => m_X7_wayAtPlace v2 x1 h1 _ _ e) (fun r3 => ?_)
  exact Y.ireturnx rfl dX9_wayAt_45
def f_X9_wayAt_J33 (x0 : Nat) (x1 : Int32) (s0 : Nat) (h : xH) : Option ((Int32 ⊕ String) × xH) :=
  f_X9_wayAt_J34 x0 x1 s0 (0 : Int32) h
theorem y_X9_wayAt_J33 {g : xG} {h0 : xH} (x0 : Nat) (x1 : Int32) (s0 : Nat) (h : xH) : Y g DX9_wayAt h0 false iIx (f_X9_wayAt_J33 x0 x1 s0 h) 33 [some (.ref x0), some (.int x1), none] [.ref s0] h := by
  unfold f_X9_wayAt_J33
  refine Y.op (pc' := 34) (fun _ => X.ic ki_0 dX9_wayAt_33) ?_
  exact y_X9_wayAt_J34 x0 x1 s0 (0 : Int32) h
def f_X9_wayAt (a0 : Nat) (p1 : Int32) (h : xH) : Option ((Int32 ⊕ String) × xH) :=
  (gR h 9 a0 4).bind fun v1 =>
  (gR h 9 a0 0).bind fun v2 =>
  (vc h 7 v1 (f_X7_load v1 v2 h)).bind fun h3 =>
  (gR h3 9 a0 4).bind fun v4 =>
  (vc h3 7 v4 (f_X7_findFirst v4 h3)).bind fun r5 =>
  if p1 < (0 : Int32) then
    f_X9_wayAt_J33 a0 p1 a0 r5.2
  else
    if p1 ≥ r5.1 then
      f_X9_wayAt_J33 a0 p1 a0 r5.2
    else
      f_X9_wayAt_J34 a0 p1 a0 (1 : Int32) r5.2
theorem y_X9_wayAt {g : xG} {h0 : xH} (a0 : Nat) (p1 : Int32) (h : xH) : Y g DX9_wayAt h0 false iIx (f_X9_wayAt a0 p1 h) 0 [some (.ref a0), some (.int p1), none] [] h := by
  unfold f_X9_wayAt
  refine Y.op (pc' := 1) (fun _ => X.aloadn rfl dX9_wayAt_0) ?_
  refine Y.getR fd_X9_36 rfl dX9_wayAt_1 (fun v1 => ?_)
  refine Y.op (pc' := 5) (fun _ => X.aloadn rfl dX9_wayAt_4) ?_
  refine Y.getR fd_X9_12 rfl dX9_wayAt_5 (fun v2 => ?_)
  refine Y.callVv (As := [.ref v2]) lk_X9_170 rfl cal_X7_load vir_X7_load (Nat.le_of_ble_eq_true rfl) (Nat.le_of_ble_eq_true rfl) rfl rfl rfl (Nat.le_of_ble_eq_true rfl) dX9_wayAt_8 (fun _ e => m_X7_load v1 v2 h _ _ e) (fun h3 => ?_)
  refine Y.op (pc' := 12) (fun _ => X.aloadn rfl dX9_wayAt_11) ?_
  refine Y.getR fd_X9_36 rfl dX9_wayAt_12 (fun v4 => ?_)
  refine Y.callVi (As := []) lk_X9_173 rfl cal_X7_findFirst vir_X7_findFirst (Nat.le_of_ble_eq_true rfl) (Nat.le_of_ble_eq_true rfl) rfl rfl rfl (Nat.le_of_ble_eq_true rfl) dX9_wayAt_15 (fun _ e => m_X7_findFirst v4 h3 _ _ e) (fun r5 => ?_)
  refine Y.op (pc' := 19) (loc' := [some (.ref a0), some (.int p1), some (.int r5.1)]) (fun _ => X.istoren (Nat.le_of_ble_eq_true rfl) rfl dX9_wayAt_18) ?_
  refine Y.op (pc' := 20) (fun _ => X.aloadn rfl dX9_wayAt_19) ?_
  refine Y.op (pc' := 21) (fun _ => X.iloadn rfl dX9_wayAt_20) ?_
  refine Y.iflt 33 (by decide) dX9_wayAt_21 ?_ ?_
  · exact Y.fg (y_X9_wayAt_J33 a0 p1 a0 r5.2) (And.intro rfl (And.intro rfl trivial))
  · refine Y.op (pc' := 25) (fun _ => X.iloadn rfl dX9_wayAt_24) ?_
    refine Y.op (pc' := 26) (fun _ => X.iloadn rfl dX9_wayAt_25) ?_
    refine Y.cmpge 33 (by decide) dX9_wayAt_26 ?_ ?_
    · exact Y.fg (y_X9_wayAt_J33 a0 p1 a0 r5.2) (And.intro rfl (And.intro rfl trivial))
    · refine Y.op (pc' := 30) (fun _ => X.ic ki_1 dX9_wayAt_29) ?_
      refine Y.op (pc' := 34) (fun _ => X.goto 34 (by decide) dX9_wayAt_30) ?_
      exact Y.fg (y_X9_wayAt_J34 a0 p1 a0 (1 : Int32) r5.2) (And.intro rfl (And.intro rfl trivial))
theorem m_X9_wayAt {g : xG} (a0 : Nat) (p1 : Int32) (h : xH) (r : (Int32 ⊕ String) × xH) (e : f_X9_wayAt a0 p1 h = some r) : XM g DX9_wayAt [.ref a0, .int p1] h false (iIx r) := YM.of rfl rfl (Nat.le_of_ble_eq_true rfl) (y_X9_wayAt a0 p1 h) e
def f_X9_wayFrom_J69 (s0 : Int32) (h : xH) : Option ((Int32 ⊕ String) × xH) :=
  some (.inl s0, h)
theorem y_X9_wayFrom_J69 {g : xG} {h0 : xH} (s0 : Int32) (h : xH) : Y g DX9_wayFrom h0 false iIx (f_X9_wayFrom_J69 s0 h) 69 [none, none, none, none] [.int s0] h := by
  unfold f_X9_wayFrom_J69
  exact Y.ireturnx rfl dX9_wayFrom_69
def f_X9_wayFrom_J28 (x0 : Nat) (x1 : Int32) (x2 : Int32) (s0 : Nat) (s1 : Int32) (h : xH) : Option ((Int32 ⊕ String) × xH) :=
  (vc h 9 s0 (f_X9_demand s0 s1 h)).bind fun r => thr r fun h1 =>
  (gR h1 9 x0 4).bind fun v2 =>
  (gR h1 9 x0 0).bind fun v3 =>
  (vc h1 7 v2 (f_X7_load v2 v3 h1)).bind fun h4 =>
  (gR h4 9 x0 4).bind fun v5 =>
  (vc h4 7 v5 (f_X7_find v5 x1 h4)).bind fun r6 =>
  if x2 = (1 : Int32) then
    f_X9_wayFrom_J69 r6.1 r6.2
  else
    if r6.1 ≤ (0 : Int32) then
      f_X9_wayFrom_J69 (0 : Int32) r6.2
    else
      f_X9_wayFrom_J69 (1 : Int32) r6.2
theorem y_X9_wayFrom_J28 {g : xG} {h0 : xH} (x0 : Nat) (x1 : Int32) (x2 : Int32) (s0 : Nat) (s1 : Int32) (h : xH) : Y g DX9_wayFrom h0 false iIx (f_X9_wayFrom_J28 x0 x1 x2 s0 s1 h) 28 [some (.ref x0), some (.int x1), some (.int x2), none] [.int s1, .ref s0] h := by
  unfold f_X9_wayFrom_J28
  refine Y.callVx (As := [.int s1]) lk_X9_90 rfl cal_X9_demand vir_X9_demand (Nat.le_of_ble_eq_true rfl) (Nat.le_of_ble_eq_true rfl) rfl rfl rfl (Nat.le_of_ble_eq_true rfl) rfl dX9_wayFrom_28 (fun _ e => m_X9_demand s0 s1 h _ e) (fun h1 => ?_)
  refine Y.op (pc' := 32) (fun _ => X.aloadn rfl dX9_wayFrom_31) ?_
  refine Y.getR fd_X9_36 rfl dX9_wayFrom_32 (fun v2 => ?_)
  refine Y.op (pc' := 36) (fun _ => X.aloadn rfl dX9_wayFrom_35) ?_
  refine Y.getR fd_X9_12 rfl dX9_wayFrom_36 (fun v3 => ?_)
  refine Y.callVv (As := [.ref v3]) lk_X9_170 rfl cal_X7_load vir_X7_load (Nat.le_of_ble_eq_true rfl) (Nat.le_of_ble_eq_true rfl) rfl rfl rfl (Nat.le_of_ble_eq_true rfl) dX9_wayFrom_39 (fun _ e => m_X7_load v2 v3 h1 _ _ e) (fun h4 => ?_)
  refine Y.op (pc' := 43) (fun _ => X.aloadn rfl dX9_wayFrom_42) ?_
  refine Y.getR fd_X9_36 rfl dX9_wayFrom_43 (fun v5 => ?_)
  refine Y.op (pc' := 47) (fun _ => X.iloadn rfl dX9_wayFrom_46) ?_
  refine Y.callVi (As := [.int x1]) lk_X9_179 rfl cal_X7_find vir_X7_find (Nat.le_of_ble_eq_true rfl) (Nat.le_of_ble_eq_true rfl) rfl rfl rfl (Nat.le_of_ble_eq_true rfl) dX9_wayFrom_47 (fun _ e => m_X7_find v5 x1 h4 _ _ e) (fun r6 => ?_)
  refine Y.op (pc' := 51) (loc' := [some (.ref x0), some (.int x1), some (.int x2), some (.int r6.1)]) (fun _ => X.istoren (Nat.le_of_ble_eq_true rfl) rfl dX9_wayFrom_50) ?_
  refine Y.op (pc' := 52) (fun _ => X.iloadn rfl dX9_wayFrom_51) ?_
  refine Y.op (pc' := 53) (fun _ => X.ic ki_1 dX9_wayFrom_52) ?_
  refine Y.cmpne 60 (by decide) dX9_wayFrom_53 ?_ ?_
  · refine Y.op (pc' := 61) (fun _ => X.iloadn rfl dX9_wayFrom_60) ?_
    refine Y.ifle 68 (by decide) dX9_wayFrom_61 ?_ ?_
    · refine Y.op (pc' := 69) (fun _ => X.ic ki_0 dX9_wayFrom_68) ?_
      exact Y.fg (y_X9_wayFrom_J69 (0 : Int32) r6.2) trivial
    · refine Y.op (pc' := 65) (fun _ => X.ic ki_1 dX9_wayFrom_64) ?_
      refine Y.op (pc' := 69) (fun _ => X.goto 69 (by decide) dX9_wayFrom_65) ?_
      exact Y.fg (y_X9_wayFrom_J69 (1 : Int32) r6.2) trivial
  · refine Y.op (pc' := 57) (fun _ => X.iloadn rfl dX9_wayFrom_56) ?_
    refine Y.op (pc' := 69) (fun _ => X.goto 69 (by decide) dX9_wayFrom_57) ?_
    exact Y.fg (y_X9_wayFrom_J69 r6.1 r6.2) trivial
def f_X9_wayFrom_J23 (x0 : Nat) (x1 : Int32) (x2 : Int32) (s0 : Nat) (h : xH) : Option ((Int32 ⊕ String) × xH) :=
  f_X9_wayFrom_J28 x0 x1 x2 s0 (1 : Int32) h
theorem y_X9_wayFrom_J23 {g : xG} {h0 : xH} (x0 : Nat) (x1 : Int32) (x2 : Int32) (s0 : Nat) (h : xH) : Y g DX9_wayFrom h0 false iIx (f_X9_wayFrom_J23 x0 x1 x2 s0 h) 23 [some (.ref x0), some (.int x1), some (.int x2), none] [.ref s0] h := by
  unfold f_X9_wayFrom_J23
  refine Y.op (pc' := 24) (fun _ => X.ic ki_1 dX9_wayFrom_23) ?_
  refine Y.op (pc' := 28) (fun _ => X.goto 28 (by decide) dX9_wayFrom_24) ?_
  exact y_X9_wayFrom_J28 x0 x1 x2 s0 (1 : Int32) h
def f_X9_wayFrom (a0 : Nat) (p1 : Int32) (p2 : Int32) (h : xH) : Option ((Int32 ⊕ String) × xH) :=
  (gR h 9 a0 0).bind fun v1 =>
  (vc h 0 v1 (f_X0_knows v1 (0 : Int32) p1 h)).bind fun r2 =>
  (vc r2.2 9 a0 (f_X9_demandPlace a0 r2.1 r2.2)).bind fun r => thr r fun h3 =>
  if p2 = (0 : Int32) then
    f_X9_wayFrom_J23 a0 p1 p2 a0 h3
  else
    if p2 = (1 : Int32) then
      f_X9_wayFrom_J23 a0 p1 p2 a0 h3
    else
      f_X9_wayFrom_J28 a0 p1 p2 a0 (0 : Int32) h3
theorem y_X9_wayFrom {g : xG} {h0 : xH} (a0 : Nat) (p1 : Int32) (p2 : Int32) (h : xH) : Y g DX9_wayFrom h0 false iIx (f_X9_wayFrom a0 p1 p2 h) 0 [some (.ref a0), some (.int p1), some (.int p2), none] [] h := by
  unfold f_X9_wayFrom
  refine Y.op (pc' := 1) (fun _ => X.aloadn rfl dX9_wayFrom_0) ?_
  refine Y.op (pc' := 2) (fun _ => X.aloadn rfl dX9_wayFrom_1) ?_
  refine Y.getR fd_X9_12 rfl dX9_wayFrom_2 (fun v1 => ?_)
  refine Y.op (pc' := 6) (fun _ => X.ic ki_0 dX9_wayFrom_5) ?_
  refine Y.op (pc' := 7) (fun _ => X.iloadn rfl dX9_wayFrom_6) ?_
  refine Y.callVi (As := [.int (0 : Int32), .int p1]) lk_X9_146 rfl cal_X0_knows vir_X0_knows (Nat.le_of_ble_eq_true rfl) (Nat.le_of_ble_eq_true rfl) rfl rfl rfl (Nat.le_of_ble_eq_true rfl) dX9_wayFrom_7 (fun _ e => m_X0_knows v1 (0 : Int32) p1 h _ _ e) (fun r2 => ?_)
  refine Y.callVx (As := [.int r2.1]) lk_X9_150 rfl cal_X9_demandPlace vir_X9_demandPlace (Nat.le_of_ble_eq_true rfl) (Nat.le_of_ble_eq_true rfl) rfl rfl rfl (Nat.le_of_ble_eq_true rfl) rfl dX9_wayFrom_10 (fun _ e => m_X9_demandPlace a0 r2.1 r2.2 _ e) (fun h3 => ?_)
  refine Y.op (pc' := 14) (fun _ => X.aloadn rfl dX9_wayFrom_13) ?_
  refine Y.op (pc' := 15) (fun _ => X.iloadn rfl dX9_wayFrom_14) ?_
  refine Y.ifeq 23 (by decide) dX9_wayFrom_15 ?_ ?_
  · exact y_X9_wayFrom_J23 a0 p1 p2 a0 h3
  · refine Y.op (pc' := 19) (fun _ => X.iloadn rfl dX9_wayFrom_18) ?_
    refine Y.op (pc' := 20) (fun _ => X.ic ki_1 dX9_wayFrom_19) ?_
    refine Y.cmpne 27 (by decide) dX9_wayFrom_20 ?_ ?_
    · refine Y.op (pc' := 28) (fun _ => X.ic ki_0 dX9_wayFrom_27) ?_
      exact y_X9_wayFrom_J28 a0 p1 p2 a0 (0 : Int32) h3
    · exact y_X9_wayFrom_J23 a0 p1 p2 a0 h3
theorem m_X9_wayFrom {g : xG} (a0 : Nat) (p1 : Int32) (p2 : Int32) (h : xH) (r : (Int32 ⊕ String) × xH) (e : f_X9_wayFrom a0 p1 p2 h = some r) : XM g DX9_wayFrom [.ref a0, .int p1, .int p2] h false (iIx r) := YM.of rfl rfl (Nat.le_of_ble_eq_true rfl) (y_X9_wayFrom a0 p1 p2 h) e
def f_X9_runPhases (a0 : Nat) (h : xH) : Option (xH) :=
  (gR h 9 a0 4).bind fun v1 =>
  (gR h 9 a0 0).bind fun v2 =>
  (vc h 7 v1 (f_X7_load v1 v2 h)).bind fun h3 =>
  (gR h3 9 a0 6).bind fun v4 =>
  (gR h3 9 a0 4).bind fun v5 =>
  (vc h3 4 v4 (f_X4_run v4 v5 h3)).bind fun h6 =>
  some h6
theorem y_X9_runPhases {g : xG} {h0 : xH} {cl : Bool} (a0 : Nat) (h : xH) : Y g DX9_runPhases h0 cl iV (f_X9_runPhases a0 h) 0 [some (.ref a0)] [] h := by
  unfold f_X9_runPhases
  refine Y.op (pc' := 1) (fun _ => X.aloadn rfl dX9_runPhases_0) ?_
  refine Y.getR fd_X9_36 rfl dX9_runPhases_1 (fun v1 => ?_)
  refine Y.op (pc' := 5) (fun _ => X.aloadn rfl dX9_runPhases_4) ?_
  refine Y.getR fd_X9_12 rfl dX9_runPhases_5 (fun v2 => ?_)
  refine Y.callVv (As := [.ref v2]) lk_X9_170 rfl cal_X7_load vir_X7_load (Nat.le_of_ble_eq_true rfl) (Nat.le_of_ble_eq_true rfl) rfl rfl rfl (Nat.le_of_ble_eq_true rfl) dX9_runPhases_8 (fun _ e => m_X7_load v1 v2 h _ _ e) (fun h3 => ?_)
  refine Y.op (pc' := 12) (fun _ => X.aloadn rfl dX9_runPhases_11) ?_
  refine Y.getR fd_X9_50 rfl dX9_runPhases_12 (fun v4 => ?_)
  refine Y.op (pc' := 16) (fun _ => X.aloadn rfl dX9_runPhases_15) ?_
  refine Y.getR fd_X9_36 rfl dX9_runPhases_16 (fun v5 => ?_)
  refine Y.callVv (As := [.ref v5]) lk_X9_355 rfl cal_X4_run vir_X4_run (Nat.le_of_ble_eq_true rfl) (Nat.le_of_ble_eq_true rfl) rfl rfl rfl (Nat.le_of_ble_eq_true rfl) dX9_runPhases_19 (fun _ e => m_X4_run v4 v5 h3 _ _ e) (fun h6 => ?_)
  exact Y.vreturn rfl dX9_runPhases_22
theorem m_X9_runPhases {g : xG} (a0 : Nat) (h : xH) (cl : Bool) (r : xH) (e : f_X9_runPhases a0 h = some r) : XM g DX9_runPhases [.ref a0] h cl (iV r) := YM.of rfl rfl (Nat.le_of_ble_eq_true rfl) (y_X9_runPhases a0 h) e
def f_X9_phases_J15 (x0 : Nat) (x1 : Int32) (s0 : Nat) (s1 : Int32) (h : xH) : Option ((Int32 ⊕ String) × xH) :=
  (vc h 9 s0 (f_X9_demand s0 s1 h)).bind fun r => thr r fun h1 =>
  (vc h1 9 x0 (f_X9_runPhases x0 h1)).bind fun h2 =>
  if x1.toInt < 0 ∨ 2 < x1.toInt then
    (gR h2 9 x0 6).bind fun v3 =>
    (gI h2 4 v3 8).bind fun v4 =>
    some (.inl v4, h2)
  else tsf (fun k : Nat => match k with
    | 0 => (gR h2 9 x0 6).bind fun v5 =>
      (gI h2 4 v5 5).bind fun v6 =>
      some (.inl v6, h2)
    | 1 => (gR h2 9 x0 6).bind fun v7 =>
      (gI h2 4 v7 6).bind fun v8 =>
      some (.inl v8, h2)
    | 2 => (gR h2 9 x0 6).bind fun v9 =>
      (gI h2 4 v9 7).bind fun v10 =>
      some (.inl v10, h2)
    | _ => none) (x1.toInt - 0).toNat
theorem y_X9_phases_J15 {g : xG} {h0 : xH} (x0 : Nat) (x1 : Int32) (s0 : Nat) (s1 : Int32) (h : xH) : Y g DX9_phases h0 false iIx (f_X9_phases_J15 x0 x1 s0 s1 h) 15 [some (.ref x0), some (.int x1)] [.int s1, .ref s0] h := by
  unfold f_X9_phases_J15
  refine Y.callVx (As := [.int s1]) lk_X9_90 rfl cal_X9_demand vir_X9_demand (Nat.le_of_ble_eq_true rfl) (Nat.le_of_ble_eq_true rfl) rfl rfl rfl (Nat.le_of_ble_eq_true rfl) rfl dX9_phases_15 (fun _ e => m_X9_demand s0 s1 h _ e) (fun h1 => ?_)
  refine Y.op (pc' := 19) (fun _ => X.aloadn rfl dX9_phases_18) ?_
  refine Y.callVv (As := []) lk_X9_182 rfl cal_X9_runPhases vir_X9_runPhases (Nat.le_of_ble_eq_true rfl) (Nat.le_of_ble_eq_true rfl) rfl rfl rfl (Nat.le_of_ble_eq_true rfl) dX9_phases_19 (fun _ e => m_X9_runPhases x0 h1 _ _ e) (fun h2 => ?_)
  refine Y.op (pc' := 23) (fun _ => X.iloadn rfl dX9_phases_22) ?_
  refine Y.tswf (dt := 72) (by decide) dX9_phases_23 rfl ?_ (fun k hk => ?_)
  · refine Y.op (pc' := 73) (fun _ => X.aloadn rfl dX9_phases_72) ?_
    refine Y.getR fd_X9_50 rfl dX9_phases_73 (fun v3 => ?_)
    refine Y.getI fd_X9_194 rfl dX9_phases_76 (fun v4 => ?_)
    exact Y.ireturnx rfl dX9_phases_79
  · match k, hk with
    | 0, _ =>
      refine ⟨48, _, rfl, by decide, ?_⟩
      refine Y.op (pc' := 49) (fun _ => X.aloadn rfl dX9_phases_48) ?_
      refine Y.getR fd_X9_50 rfl dX9_phases_49 (fun v5 => ?_)
      refine Y.getI fd_X9_185 rfl dX9_phases_52 (fun v6 => ?_)
      exact Y.ireturnx rfl dX9_phases_55
    | 1, _ =>
      refine ⟨56, _, rfl, by decide, ?_⟩
      refine Y.op (pc' := 57) (fun _ => X.aloadn rfl dX9_phases_56) ?_
      refine Y.getR fd_X9_50 rfl dX9_phases_57 (fun v7 => ?_)
      refine Y.getI fd_X9_188 rfl dX9_phases_60 (fun v8 => ?_)
      exact Y.ireturnx rfl dX9_phases_63
    | 2, _ =>
      refine ⟨64, _, rfl, by decide, ?_⟩
      refine Y.op (pc' := 65) (fun _ => X.aloadn rfl dX9_phases_64) ?_
      refine Y.getR fd_X9_50 rfl dX9_phases_65 (fun v9 => ?_)
      refine Y.getI fd_X9_191 rfl dX9_phases_68 (fun v10 => ?_)
      exact Y.ireturnx rfl dX9_phases_71
    | k + 3, hk => exact absurd hk (Nat.not_lt.mpr (Nat.le_add_left 3 k))
def f_X9_phases_J14 (x0 : Nat) (x1 : Int32) (s0 : Nat) (h : xH) : Option ((Int32 ⊕ String) × xH) :=
  f_X9_phases_J15 x0 x1 s0 (0 : Int32) h
theorem y_X9_phases_J14 {g : xG} {h0 : xH} (x0 : Nat) (x1 : Int32) (s0 : Nat) (h : xH) : Y g DX9_phases h0 false iIx (f_X9_phases_J14 x0 x1 s0 h) 14 [some (.ref x0), some (.int x1)] [.ref s0] h := by
  unfold f_X9_phases_J14
  refine Y.op (pc' := 15) (fun _ => X.ic ki_0 dX9_phases_14) ?_
  exact y_X9_phases_J15 x0 x1 s0 (0 : Int32) h
def f_X9_phases (a0 : Nat) (p1 : Int32) (h : xH) : Option ((Int32 ⊕ String) × xH) :=
  if p1 < (0 : Int32) then
    f_X9_phases_J14 a0 p1 a0 h
  else
    if p1 > (3 : Int32) then
      f_X9_phases_J14 a0 p1 a0 h
    else
      f_X9_phases_J15 a0 p1 a0 (1 : Int32) h
theorem y_X9_phases {g : xG} {h0 : xH} (a0 : Nat) (p1 : Int32) (h : xH) : Y g DX9_phases h0 false iIx (f_X9_phases a0 p1 h) 0 [some (.ref a0), some (.int p1)] [] h := by
  unfold f_X9_phases
  refine Y.op (pc' := 1) (fun _ => X.aloadn rfl dX9_phases_0) ?_
  refine Y.op (pc' := 2) (fun _ => X.iloadn rfl dX9_phases_1) ?_
  refine Y.iflt 14 (by decide) dX9_phases_2 ?_ ?_
  · exact y_X9_phases_J14 a0 p1 a0 h
  · refine Y.op (pc' := 6) (fun _ => X.iloadn rfl dX9_phases_5) ?_
    refine Y.op (pc' := 7) (fun _ => X.ic ki_3 dX9_phases_6) ?_
    refine Y.cmpgt 14 (by decide) dX9_phases_7 ?_ ?_
    · exact y_X9_phases_J14 a0 p1 a0 h
    · refine Y.op (pc' := 11) (fun _ => X.ic ki_1 dX9_phases_10) ?_
      refine Y.op (pc' := 15) (fun _ => X.goto 15 (by decide) dX9_phases_11) ?_
      exact y_X9_phases_J15 a0 p1 a0 (1 : Int32) h
theorem m_X9_phases {g : xG} (a0 : Nat) (p1 : Int32) (h : xH) (r : (Int32 ⊕ String) × xH) (e : f_X9_phases a0 p1 h = some r) : XM g DX9_phases [.ref a0, .int p1] h false (iIx r) := YM.of rfl rfl (Nat.le_of_ble_eq_true rfl) (y_X9_phases a0 p1 h) e
def f_X9_phased (a0 : Nat) (p1 : Int32) (h : xH) : Option ((Int32 ⊕ String) × xH) :=
  (gR h 9 a0 0).bind fun v1 =>
  (vc h 0 v1 (f_X0_knows v1 (0 : Int32) p1 h)).bind fun r2 =>
  (vc r2.2 9 a0 (f_X9_demandPlace a0 r2.1 r2.2)).bind fun r => thr r fun h3 =>
  (vc h3 9 a0 (f_X9_runPhases a0 h3)).bind fun h4 =>
  (gR h4 9 a0 4).bind fun v5 =>
  (gR h4 7 v5 0).bind fun v6 =>
  (vc h4 3 v6 (f_X3_taskOf v6 p1 h4)).bind fun r7 =>
  some (.inl r7.1, r7.2)
theorem y_X9_phased {g : xG} {h0 : xH} (a0 : Nat) (p1 : Int32) (h : xH) : Y g DX9_phased h0 false iIx (f_X9_phased a0 p1 h) 0 [some (.ref a0), some (.int p1)] [] h := by
  unfold f_X9_phased
  refine Y.op (pc' := 1) (fun _ => X.aloadn rfl dX9_phased_0) ?_
  refine Y.op (pc' := 2) (fun _ => X.aloadn rfl dX9_phased_1) ?_
  refine Y.getR fd_X9_12 rfl dX9_phased_2 (fun v1 => ?_)
  refine Y.op (pc' := 6) (fun _ => X.ic ki_0 dX9_phased_5) ?_
  refine Y.op (pc' := 7) (fun _ => X.iloadn rfl dX9_phased_6) ?_
  refine Y.callVi (As := [.int (0 : Int32), .int p1]) lk_X9_146 rfl cal_X0_knows vir_X0_knows (Nat.le_of_ble_eq_true rfl) (Nat.le_of_ble_eq_true rfl) rfl rfl rfl (Nat.le_of_ble_eq_true rfl) dX9_phased_7 (fun _ e => m_X0_knows v1 (0 : Int32) p1 h _ _ e) (fun r2 => ?_)
  refine Y.callVx (As := [.int r2.1]) lk_X9_150 rfl cal_X9_demandPlace vir_X9_demandPlace (Nat.le_of_ble_eq_true rfl) (Nat.le_of_ble_eq_true rfl) rfl rfl rfl (Nat.le_of_ble_eq_true rfl) rfl dX9_phased_10 (fun _ e => m_X9_demandPlace a0 r2.1 r2.2 _ e) (fun h3 => ?_)
  refine Y.op (pc' := 14) (fun _ => X.aloadn rfl dX9_phased_13) ?_
  refine Y.callVv (As := []) lk_X9_182 rfl cal_X9_runPhases vir_X9_runPhases (Nat.le_of_ble_eq_true rfl) (Nat.le_of_ble_eq_true rfl) rfl rfl rfl (Nat.le_of_ble_eq_true rfl) dX9_phased_14 (fun _ e => m_X9_runPhases a0 h3 _ _ e) (fun h4 => ?_)
  refine Y.op (pc' := 18) (fun _ => X.aloadn rfl dX9_phased_17) ?_
  refine Y.getR fd_X9_36 rfl dX9_phased_18 (fun v5 => ?_)
  refine Y.getR fd_X9_197 rfl dX9_phased_21 (fun v6 => ?_)
  refine Y.op (pc' := 25) (fun _ => X.iloadn rfl dX9_phased_24) ?_
  refine Y.callVi (As := [.int p1]) lk_X9_198 rfl cal_X3_taskOf vir_X3_taskOf (Nat.le_of_ble_eq_true rfl) (Nat.le_of_ble_eq_true rfl) rfl rfl rfl (Nat.le_of_ble_eq_true rfl) dX9_phased_25 (fun _ e => m_X3_taskOf v6 p1 h4 _ _ e) (fun r7 => ?_)
  exact Y.ireturnx rfl dX9_phased_28
theorem m_X9_phased {g : xG} (a0 : Nat) (p1 : Int32) (h : xH) (r : (Int32 ⊕ String) × xH) (e : f_X9_phased a0 p1 h = some r) : XM g DX9_phased [.ref a0, .int p1] h false (iIx r) := YM.of rfl rfl (Nat.le_of_ble_eq_true rfl) (y_X9_phased a0 p1 h) e
def f_X9_makeMost (a0 : Nat) (h : xH) : Option (Int32 × xH) :=
  (gR h 9 a0 4).bind fun v1 =>
  (gR h 9 a0 0).bind fun v2 =>
  (vc h 7 v1 (f_X7_load v1 v2 h)).bind fun h3 =>
  (gR h3 9 a0 4).bind fun v4 =>
  (vc h3 7 v4 (f_X7_grow v4 (12 : Int32) h3)).bind fun r5 =>
  (gR r5.2 9 a0 4).bind fun v6 =>
  (gR r5.2 7 v6 0).bind fun v7 =>
  (vc r5.2 3 v7 (f_X3_size v7 r5.2)).bind fun r8 =>
  some (r8.1, r8.2)
theorem y_X9_makeMost {g : xG} {h0 : xH} {cl : Bool} (a0 : Nat) (h : xH) : Y g DX9_makeMost h0 cl iI (f_X9_makeMost a0 h) 0 [some (.ref a0)] [] h := by
  unfold f_X9_makeMost
  refine Y.op (pc' := 1) (fun _ => X.aloadn rfl dX9_makeMost_0) ?_
  refine Y.getR fd_X9_36 rfl dX9_makeMost_1 (fun v1 => ?_)
  refine Y.op (pc' := 5) (fun _ => X.aloadn rfl dX9_makeMost_4) ?_
  refine Y.getR fd_X9_12 rfl dX9_makeMost_5 (fun v2 => ?_)
  refine Y.callVv (As := [.ref v2]) lk_X9_170 rfl cal_X7_load vir_X7_load (Nat.le_of_ble_eq_true rfl) (Nat.le_of_ble_eq_true rfl) rfl rfl rfl (Nat.le_of_ble_eq_true rfl) dX9_makeMost_8 (fun _ e => m_X7_load v1 v2 h _ _ e) (fun h3 => ?_)
  refine Y.op (pc' := 12) (fun _ => X.aloadn rfl dX9_makeMost_11) ?_
  refine Y.getR fd_X9_36 rfl dX9_makeMost_12 (fun v4 => ?_)
  refine Y.op (pc' := 17) (fun _ => X.bp kb_12 dX9_makeMost_15) ?_
  refine Y.callVi (As := [.int (12 : Int32)]) lk_X9_217 rfl cal_X7_grow vir_X7_grow (Nat.le_of_ble_eq_true rfl) (Nat.le_of_ble_eq_true rfl) rfl rfl rfl (Nat.le_of_ble_eq_true rfl) dX9_makeMost_17 (fun _ e => m_X7_grow v4 (12 : Int32) h3 _ _ e) (fun r5 => ?_)
  refine Y.op (pc' := 21) (fun _ => X.pop rfl dX9_makeMost_20) ?_
  refine Y.op (pc' := 22) (fun _ => X.aloadn rfl dX9_makeMost_21) ?_
  refine Y.getR fd_X9_36 rfl dX9_makeMost_22 (fun v6 => ?_)
  refine Y.getR fd_X9_197 rfl dX9_makeMost_25 (fun v7 => ?_)
  refine Y.callVi (As := []) lk_X9_110 rfl cal_X3_size vir_X3_size (Nat.le_of_ble_eq_true rfl) (Nat.le_of_ble_eq_true rfl) rfl rfl rfl (Nat.le_of_ble_eq_true rfl) dX9_makeMost_28 (fun _ e => m_X3_size v7 r5.2 _ _ e) (fun r8 => ?_)
  exact Y.ireturn rfl dX9_makeMost_31
theorem m_X9_makeMost {g : xG} (a0 : Nat) (h : xH) (cl : Bool) (r : Int32 × xH) (e : f_X9_makeMost a0 h = some r) : XM g DX9_makeMost [.ref a0] h cl (iI r) := YM.of rfl rfl (Nat.le_of_ble_eq_true rfl) (y_X9_makeMost a0 h) e
def f_X9_most (a0 : Nat) (h : xH) : Option (Int32 × xH) :=
  (vc h 9 a0 (f_X9_makeMost a0 h)).bind fun r1 =>
  some (r1.1, r1.2)
theorem y_X9_most {g : xG} {h0 : xH} {cl : Bool} (a0 : Nat) (h : xH) : Y g DX9_most h0 cl iI (f_X9_most a0 h) 0 [some (.ref a0)] [] h := by
  unfold f_X9_most
  refine Y.op (pc' := 1) (fun _ => X.aloadn rfl dX9_most_0) ?_
  refine Y.callVi (As := []) lk_X9_201 rfl cal_X9_makeMost vir_X9_makeMost (Nat.le_of_ble_eq_true rfl) (Nat.le_of_ble_eq_true rfl) rfl rfl rfl (Nat.le_of_ble_eq_true rfl) dX9_most_1 (fun _ e => m_X9_makeMost a0 h _ _ e) (fun r1 => ?_)
  exact Y.ireturn rfl dX9_most_4
theorem m_X9_most {g : xG} (a0 : Nat) (h : xH) (cl : Bool) (r : Int32 × xH) (e : f_X9_most a0 h = some r) : XM g DX9_most [.ref a0] h cl (iI r) := YM.of rfl rfl (Nat.le_of_ble_eq_true rfl) (y_X9_most a0 h) e
def f_X9_reached_J55 (s0 : Int32) (h : xH) : Option ((Int32 ⊕ String) × xH) :=
  some (.inl s0, h)
theorem y_X9_reached_J55 {g : xG} {h0 : xH} (s0 : Int32) (h : xH) : Y g DX9_reached h0 false iIx (f_X9_reached_J55 s0 h) 55 [none, none] [.int s0] h := by
  unfold f_X9_reached_J55
  exact Y.ireturnx rfl dX9_reached_55
def f_X9_reached_J15 (x0 : Nat) (x1 : Int32) (s0 : Nat) (s1 : Int32) (h : xH) : Option ((Int32 ⊕ String) × xH) :=
  (vc h 9 s0 (f_X9_demandPlace s0 s1 h)).bind fun r => thr r fun h1 =>
  (vc h1 9 x0 (f_X9_makeMost x0 h1)).bind fun r2 =>
  (gR r2.2 9 x0 5).bind fun v3 =>
  (gR r2.2 9 x0 4).bind fun v4 =>
  (vc r2.2 5 v3 (f_X5_look v3 v4 r2.2)).bind fun h5 =>
  if x1 = (0 : Int32) then
    (gR h5 9 x0 5).bind fun v8 =>
    (gI h5 5 v8 0).bind fun v9 =>
    f_X9_reached_J55 v9 h5
  else
    (gR h5 9 x0 5).bind fun v6 =>
    (gI h5 5 v6 1).bind fun v7 =>
    f_X9_reached_J55 v7 h5
theorem y_X9_reached_J15 {g : xG} {h0 : xH} (x0 : Nat) (x1 : Int32) (s0 : Nat) (s1 : Int32) (h : xH) : Y g DX9_reached h0 false iIx (f_X9_reached_J15 x0 x1 s0 s1 h) 15 [some (.ref x0), some (.int x1)] [.int s1, .ref s0] h := by
  unfold f_X9_reached_J15
  refine Y.callVx (As := [.int s1]) lk_X9_150 rfl cal_X9_demandPlace vir_X9_demandPlace (Nat.le_of_ble_eq_true rfl) (Nat.le_of_ble_eq_true rfl) rfl rfl rfl (Nat.le_of_ble_eq_true rfl) rfl dX9_reached_15 (fun _ e => m_X9_demandPlace s0 s1 h _ e) (fun h1 => ?_)
  refine Y.op (pc' := 19) (fun _ => X.aloadn rfl dX9_reached_18) ?_
  refine Y.callVi (As := []) lk_X9_201 rfl cal_X9_makeMost vir_X9_makeMost (Nat.le_of_ble_eq_true rfl) (Nat.le_of_ble_eq_true rfl) rfl rfl rfl (Nat.le_of_ble_eq_true rfl) dX9_reached_19 (fun _ e => m_X9_makeMost x0 h1 _ _ e) (fun r2 => ?_)
  refine Y.op (pc' := 23) (fun _ => X.pop rfl dX9_reached_22) ?_
  refine Y.op (pc' := 24) (fun _ => X.aloadn rfl dX9_reached_23) ?_
  refine Y.getR fd_X9_43 rfl dX9_reached_24 (fun v3 => ?_)
  refine Y.op (pc' := 28) (fun _ => X.aloadn rfl dX9_reached_27) ?_
  refine Y.getR fd_X9_36 rfl dX9_reached_28 (fun v4 => ?_)
  refine Y.callVv (As := [.ref v4]) lk_X9_204 rfl cal_X5_look vir_X5_look (Nat.le_of_ble_eq_true rfl) (Nat.le_of_ble_eq_true rfl) rfl rfl rfl (Nat.le_of_ble_eq_true rfl) dX9_reached_31 (fun _ e => m_X5_look v3 v4 r2.2 _ _ e) (fun h5 => ?_)
  refine Y.op (pc' := 35) (fun _ => X.iloadn rfl dX9_reached_34) ?_
  refine Y.ifne 48 (by decide) dX9_reached_35 ?_ ?_
  · refine Y.op (pc' := 49) (fun _ => X.aloadn rfl dX9_reached_48) ?_
    refine Y.getR fd_X9_43 rfl dX9_reached_49 (fun v6 => ?_)
    refine Y.getI fd_X9_209 rfl dX9_reached_52 (fun v7 => ?_)
    exact Y.fg (y_X9_reached_J55 v7 h5) trivial
  · refine Y.op (pc' := 39) (fun _ => X.aloadn rfl dX9_reached_38) ?_
    refine Y.getR fd_X9_43 rfl dX9_reached_39 (fun v8 => ?_)
    refine Y.getI fd_X9_208 rfl dX9_reached_42 (fun v9 => ?_)
    refine Y.op (pc' := 55) (fun _ => X.goto 55 (by decide) dX9_reached_45) ?_
    exact Y.fg (y_X9_reached_J55 v9 h5) trivial
def f_X9_reached_J10 (x0 : Nat) (x1 : Int32) (s0 : Nat) (h : xH) : Option ((Int32 ⊕ String) × xH) :=
  f_X9_reached_J15 x0 x1 s0 (1 : Int32) h
theorem y_X9_reached_J10 {g : xG} {h0 : xH} (x0 : Nat) (x1 : Int32) (s0 : Nat) (h : xH) : Y g DX9_reached h0 false iIx (f_X9_reached_J10 x0 x1 s0 h) 10 [some (.ref x0), some (.int x1)] [.ref s0] h := by
  unfold f_X9_reached_J10
  refine Y.op (pc' := 11) (fun _ => X.ic ki_1 dX9_reached_10) ?_
  refine Y.op (pc' := 15) (fun _ => X.goto 15 (by decide) dX9_reached_11) ?_
  exact y_X9_reached_J15 x0 x1 s0 (1 : Int32) h
def f_X9_reached (a0 : Nat) (p1 : Int32) (h : xH) : Option ((Int32 ⊕ String) × xH) :=
  if p1 = (0 : Int32) then
    f_X9_reached_J10 a0 p1 a0 h
  else
    if p1 = (1 : Int32) then
      f_X9_reached_J10 a0 p1 a0 h
    else
      f_X9_reached_J15 a0 p1 a0 (0 : Int32) h
theorem y_X9_reached {g : xG} {h0 : xH} (a0 : Nat) (p1 : Int32) (h : xH) : Y g DX9_reached h0 false iIx (f_X9_reached a0 p1 h) 0 [some (.ref a0), some (.int p1)] [] h := by
  unfold f_X9_reached
  refine Y.op (pc' := 1) (fun _ => X.aloadn rfl dX9_reached_0) ?_
  refine Y.op (pc' := 2) (fun _ => X.iloadn rfl dX9_reached_1) ?_
  refine Y.ifeq 10 (by decide) dX9_reached_2 ?_ ?_
  · exact y_X9_reached_J10 a0 p1 a0 h
  · refine Y.op (pc' := 6) (fun _ => X.iloadn rfl dX9_reached_5) ?_
    refine Y.op (pc' := 7) (fun _ => X.ic ki_1 dX9_reached_6) ?_
    refine Y.cmpne 14 (by decide) dX9_reached_7 ?_ ?_
    · refine Y.op (pc' := 15) (fun _ => X.ic ki_0 dX9_reached_14) ?_
      exact y_X9_reached_J15 a0 p1 a0 (0 : Int32) h
    · exact y_X9_reached_J10 a0 p1 a0 h
theorem m_X9_reached {g : xG} (a0 : Nat) (p1 : Int32) (h : xH) (r : (Int32 ⊕ String) × xH) (e : f_X9_reached a0 p1 h = some r) : XM g DX9_reached [.ref a0, .int p1] h false (iIx r) := YM.of rfl rfl (Nat.le_of_ble_eq_true rfl) (y_X9_reached a0 p1 h) e
def f_X9_cover_J65 (s0 : Int32) (h : xH) : Option ((Int32 ⊕ String) × xH) :=
  some (.inl s0, h)
theorem y_X9_cover_J65 {g : xG} {h0 : xH} (s0 : Int32) (h : xH) : Y g DX9_cover h0 false iIx (f_X9_cover_J65 s0 h) 65 [none, none] [.int s0] h := by
  unfold f_X9_cover_J65
  exact Y.ireturnx rfl dX9_cover_65
def f_X9_cover_J15 (x0 : Nat) (x1 : Int32) (s0 : Nat) (s1 : Int32) (h : xH) : Option ((Int32 ⊕ String) × xH) :=
  (vc h 9 s0 (f_X9_demandPlace s0 s1 h)).bind fun r => thr r fun h1 =>
  (vc h1 9 x0 (f_X9_makeMost x0 h1)).bind fun r2 =>
  (gR r2.2 9 x0 5).bind fun v3 =>
  (gR r2.2 9 x0 4).bind fun v4 =>
  (vc r2.2 5 v3 (f_X5_look v3 v4 r2.2)).bind fun h5 =>
  if x1 = (0 : Int32) then
    (gR h5 9 x0 0).bind fun v8 =>
    (gI h5 0 v8 2).bind fun v9 =>
    (gR h5 9 x0 5).bind fun v10 =>
    (gI h5 5 v10 0).bind fun v11 =>
    f_X9_cover_J65 (v9 &&& (v11 ^^^ (-1 : Int32))) h5
  else
    (gR h5 9 x0 5).bind fun v6 =>
    (gI h5 5 v6 1).bind fun v7 =>
    f_X9_cover_J65 v7 h5
theorem y_X9_cover_J15 {g : xG} {h0 : xH} (x0 : Nat) (x1 : Int32) (s0 : Nat) (s1 : Int32) (h : xH) : Y g DX9_cover h0 false iIx (f_X9_cover_J15 x0 x1 s0 s1 h) 15 [some (.ref x0), some (.int x1)] [.int s1, .ref s0] h := by
  unfold f_X9_cover_J15
  refine Y.callVx (As := [.int s1]) lk_X9_150 rfl cal_X9_demandPlace vir_X9_demandPlace (Nat.le_of_ble_eq_true rfl) (Nat.le_of_ble_eq_true rfl) rfl rfl rfl (Nat.le_of_ble_eq_true rfl) rfl dX9_cover_15 (fun _ e => m_X9_demandPlace s0 s1 h _ e) (fun h1 => ?_)
  refine Y.op (pc' := 19) (fun _ => X.aloadn rfl dX9_cover_18) ?_
  refine Y.callVi (As := []) lk_X9_201 rfl cal_X9_makeMost vir_X9_makeMost (Nat.le_of_ble_eq_true rfl) (Nat.le_of_ble_eq_true rfl) rfl rfl rfl (Nat.le_of_ble_eq_true rfl) dX9_cover_19 (fun _ e => m_X9_makeMost x0 h1 _ _ e) (fun r2 => ?_)
  refine Y.op (pc' := 23) (fun _ => X.pop rfl dX9_cover_22) ?_
  refine Y.op (pc' := 24) (fun _ => X.aloadn rfl dX9_cover_23) ?_
  refine Y.getR fd_X9_43 rfl dX9_cover_24 (fun v3 => ?_)
  refine Y.op (pc' := 28) (fun _ => X.aloadn rfl dX9_cover_27) ?_
  refine Y.getR fd_X9_36 rfl dX9_cover_28 (fun v4 => ?_)
  refine Y.callVv (As := [.ref v4]) lk_X9_204 rfl cal_X5_look vir_X5_look (Nat.le_of_ble_eq_true rfl) (Nat.le_of_ble_eq_true rfl) rfl rfl rfl (Nat.le_of_ble_eq_true rfl) dX9_cover_31 (fun _ e => m_X5_look v3 v4 r2.2 _ _ e) (fun h5 => ?_)
  refine Y.op (pc' := 35) (fun _ => X.iloadn rfl dX9_cover_34) ?_
  refine Y.ifne 58 (by decide) dX9_cover_35 ?_ ?_
  · refine Y.op (pc' := 59) (fun _ => X.aloadn rfl dX9_cover_58) ?_
    refine Y.getR fd_X9_43 rfl dX9_cover_59 (fun v6 => ?_)
    refine Y.getI fd_X9_209 rfl dX9_cover_62 (fun v7 => ?_)
    exact Y.fg (y_X9_cover_J65 v7 h5) trivial
  · refine Y.op (pc' := 39) (fun _ => X.aloadn rfl dX9_cover_38) ?_
    refine Y.getR fd_X9_12 rfl dX9_cover_39 (fun v8 => ?_)
    refine Y.getI fd_X9_131 rfl dX9_cover_42 (fun v9 => ?_)
    refine Y.op (pc' := 46) (fun _ => X.aloadn rfl dX9_cover_45) ?_
    refine Y.getR fd_X9_43 rfl dX9_cover_46 (fun v10 => ?_)
    refine Y.getI fd_X9_208 rfl dX9_cover_49 (fun v11 => ?_)
    refine Y.op (pc' := 53) (fun _ => X.ic ki_m1 dX9_cover_52) ?_
    refine Y.op (pc' := 54) (fun _ => X.ixor dX9_cover_53) ?_
    refine Y.op (pc' := 55) (fun _ => X.iand dX9_cover_54) ?_
    refine Y.op (pc' := 65) (fun _ => X.goto 65 (by decide) dX9_cover_55) ?_
    exact Y.fg (y_X9_cover_J65 (v9 &&& (v11 ^^^ (-1 : Int32))) h5) trivial
def f_X9_cover_J10 (x0 : Nat) (x1 : Int32) (s0 : Nat) (h : xH) : Option ((Int32 ⊕ String) × xH) :=
  f_X9_cover_J15 x0 x1 s0 (1 : Int32) h
theorem y_X9_cover_J10 {g : xG} {h0 : xH} (x0 : Nat) (x1 : Int32) (s0 : Nat) (h : xH) : Y g DX9_cover h0 false iIx (f_X9_cover_J10 x0 x1 s0 h) 10 [some (.ref x0), some (.int x1)] [.ref s0] h := by
  unfold f_X9_cover_J10
  refine Y.op (pc' := 11) (fun _ => X.ic ki_1 dX9_cover_10) ?_
  refine Y.op (pc' := 15) (fun _ => X.goto 15 (by decide) dX9_cover_11) ?_
  exact y_X9_cover_J15 x0 x1 s0 (1 : Int32) h
def f_X9_cover (a0 : Nat) (p1 : Int32) (h : xH) : Option ((Int32 ⊕ String) × xH) :=
  if p1 = (0 : Int32) then
    f_X9_cover_J10 a0 p1 a0 h
  else
    if p1 = (1 : Int32) then
      f_X9_cover_J10 a0 p1 a0 h
    else
      f_X9_cover_J15 a0 p1 a0 (0 : Int32) h
theorem y_X9_cover {g : xG} {h0 : xH} (a0 : Nat) (p1 : Int32) (h : xH) : Y g DX9_cover h0 false iIx (f_X9_cover a0 p1 h) 0 [some (.ref a0), some (.int p1)] [] h := by
  unfold f_X9_cover
  refine Y.op (pc' := 1) (fun _ => X.aloadn rfl dX9_cover_0) ?_
  refine Y.op (pc' := 2) (fun _ => X.iloadn rfl dX9_cover_1) ?_
  refine Y.ifeq 10 (by decide) dX9_cover_2 ?_ ?_
  · exact y_X9_cover_J10 a0 p1 a0 h
  · refine Y.op (pc' := 6) (fun _ => X.iloadn rfl dX9_cover_5) ?_
    refine Y.op (pc' := 7) (fun _ => X.ic ki_1 dX9_cover_6) ?_
    refine Y.cmpne 14 (by decide) dX9_cover_7 ?_ ?_
    · refine Y.op (pc' := 15) (fun _ => X.ic ki_0 dX9_cover_14) ?_
      exact y_X9_cover_J15 a0 p1 a0 (0 : Int32) h
    · exact y_X9_cover_J10 a0 p1 a0 h
theorem m_X9_cover {g : xG} (a0 : Nat) (p1 : Int32) (h : xH) (r : (Int32 ⊕ String) × xH) (e : f_X9_cover a0 p1 h = some r) : XM g DX9_cover [.ref a0, .int p1] h false (iIx r) := YM.of rfl rfl (Nat.le_of_ble_eq_true rfl) (y_X9_cover a0 p1 h) e
def f_X9_partOf_J93 (s0 : Int32) (h : xH) : Option (Int32 × xH) :=
  some (s0, h)
theorem y_X9_partOf_J93 {g : xG} {h0 : xH} {cl : Bool} (s0 : Int32) (h : xH) : Y g DX9_partOf h0 cl iI (f_X9_partOf_J93 s0 h) 93 [none, none, none] [.int s0] h := by
  unfold f_X9_partOf_J93
  exact Y.ireturn rfl dX9_partOf_93
def f_X9_partOf_J81 (x2 : Int32) (s0 : Int32) (h : xH) : Option (Int32 × xH) :=
  (f_X9_has s0 x2 h).bind fun r1 =>
  if r1.1 = (0 : Int32) then
    f_X9_partOf_J93 (3 : Int32) r1.2
  else
    f_X9_partOf_J93 (2 : Int32) r1.2
theorem y_X9_partOf_J81 {g : xG} {h0 : xH} {cl : Bool} (x2 : Int32) (s0 : Int32) (h : xH) : Y g DX9_partOf h0 cl iI (f_X9_partOf_J81 x2 s0 h) 81 [none, none, some (.int x2)] [.int s0] h := by
  unfold f_X9_partOf_J81
  refine Y.op (pc' := 82) (fun _ => X.iloadn rfl dX9_partOf_81) ?_
  refine Y.callSi (As := [.int s0, .int x2]) lk_X9_226 rfl cal_X9_has sta_X9_has (Nat.le_of_ble_eq_true rfl) rfl rfl (Nat.le_of_ble_eq_true rfl) dX9_partOf_82 (fun _ e => m_X9_has s0 x2 h _ _ e) (fun r1 => ?_)
  refine Y.ifeq 92 (by decide) dX9_partOf_85 ?_ ?_
  · refine Y.op (pc' := 93) (fun _ => X.ic ki_3 dX9_partOf_92) ?_
    exact Y.fg (y_X9_partOf_J93 (3 : Int32) r1.2) trivial
  · refine Y.op (pc' := 89) (fun _ => X.ic ki_2 dX9_partOf_88) ?_
    refine Y.op (pc' := 93) (fun _ => X.goto 93 (by decide) dX9_partOf_89) ?_
    exact Y.fg (y_X9_partOf_J93 (2 : Int32) r1.2) trivial
def f_X9_partOf_J51 (x0 : Nat) (x1 : Int32) (x2 : Int32) (s0 : Int32) (h : xH) : Option (Int32 × xH) :=
  (f_X9_has s0 x2 h).bind fun r1 =>
  if r1.1 = (0 : Int32) then
    if x1 = (0 : Int32) then
      (gR r1.2 9 x0 5).bind fun v4 =>
      (gI r1.2 5 v4 2).bind fun v5 =>
      f_X9_partOf_J81 x2 v5 r1.2
    else
      (gR r1.2 9 x0 5).bind fun v2 =>
      (gI r1.2 5 v2 3).bind fun v3 =>
      f_X9_partOf_J81 x2 v3 r1.2
  else
    some ((1 : Int32), r1.2)
theorem y_X9_partOf_J51 {g : xG} {h0 : xH} {cl : Bool} (x0 : Nat) (x1 : Int32) (x2 : Int32) (s0 : Int32) (h : xH) : Y g DX9_partOf h0 cl iI (f_X9_partOf_J51 x0 x1 x2 s0 h) 51 [some (.ref x0), some (.int x1), some (.int x2)] [.int s0] h := by
  unfold f_X9_partOf_J51
  refine Y.op (pc' := 52) (fun _ => X.iloadn rfl dX9_partOf_51) ?_
  refine Y.callSi (As := [.int s0, .int x2]) lk_X9_226 rfl cal_X9_has sta_X9_has (Nat.le_of_ble_eq_true rfl) rfl rfl (Nat.le_of_ble_eq_true rfl) dX9_partOf_52 (fun _ e => m_X9_has s0 x2 h _ _ e) (fun r1 => ?_)
  refine Y.ifeq 60 (by decide) dX9_partOf_55 ?_ ?_
  · refine Y.op (pc' := 61) (fun _ => X.iloadn rfl dX9_partOf_60) ?_
    refine Y.ifne 74 (by decide) dX9_partOf_61 ?_ ?_
    · refine Y.op (pc' := 75) (fun _ => X.aloadn rfl dX9_partOf_74) ?_
      refine Y.getR fd_X9_43 rfl dX9_partOf_75 (fun v2 => ?_)
      refine Y.getI fd_X9_364 rfl dX9_partOf_78 (fun v3 => ?_)
      exact Y.fg (y_X9_partOf_J81 x2 v3 r1.2) (And.intro rfl trivial)
    · refine Y.op (pc' := 65) (fun _ => X.aloadn rfl dX9_partOf_64) ?_
      refine Y.getR fd_X9_43 rfl dX9_partOf_65 (fun v4 => ?_)
      refine Y.getI fd_X9_361 rfl dX9_partOf_68 (fun v5 => ?_)
      refine Y.op (pc' := 81) (fun _ => X.goto 81 (by decide) dX9_partOf_71) ?_
      exact Y.fg (y_X9_partOf_J81 x2 v5 r1.2) (And.intro rfl trivial)
  · refine Y.op (pc' := 59) (fun _ => X.ic ki_1 dX9_partOf_58) ?_
    exact Y.ireturn rfl dX9_partOf_59
def f_X9_partOf (a0 : Nat) (p1 : Int32) (p2 : Int32) (h : xH) : Option (Int32 × xH) :=
  (gR h 9 a0 0).bind fun v1 =>
  (vc h 0 v1 (f_X0_isThere v1 p1 p2 h)).bind fun r2 =>
  if r2.1 = (0 : Int32) then
    some ((0 : Int32), r2.2)
  else
    (vc r2.2 9 a0 (f_X9_makeMost a0 r2.2)).bind fun r3 =>
    (gR r3.2 9 a0 5).bind fun v4 =>
    (gR r3.2 9 a0 4).bind fun v5 =>
    (vc r3.2 5 v4 (f_X5_look v4 v5 r3.2)).bind fun h6 =>
    if p1 = (0 : Int32) then
      (gR h6 9 a0 5).bind fun v9 =>
      (gI h6 5 v9 0).bind fun v10 =>
      f_X9_partOf_J51 a0 p1 p2 v10 h6
    else
      (gR h6 9 a0 5).bind fun v7 =>
      (gI h6 5 v7 1).bind fun v8 =>
      f_X9_partOf_J51 a0 p1 p2 v8 h6
theorem y_X9_partOf {g : xG} {h0 : xH} {cl : Bool} (a0 : Nat) (p1 : Int32) (p2 : Int32) (h : xH) : Y g DX9_partOf h0 cl iI (f_X9_partOf a0 p1 p2 h) 0 [some (.ref a0), some (.int p1), some (.int p2)] [] h := by
  unfold f_X9_partOf
  refine Y.op (pc' := 1) (fun _ => X.aloadn rfl dX9_partOf_0) ?_
  refine Y.getR fd_X9_12 rfl dX9_partOf_1 (fun v1 => ?_)
  refine Y.op (pc' := 5) (fun _ => X.iloadn rfl dX9_partOf_4) ?_
  refine Y.op (pc' := 6) (fun _ => X.iloadn rfl dX9_partOf_5) ?_
  refine Y.callVi (As := [.int p1, .int p2]) lk_X9_309 rfl cal_X0_isThere vir_X0_isThere (Nat.le_of_ble_eq_true rfl) (Nat.le_of_ble_eq_true rfl) rfl rfl rfl (Nat.le_of_ble_eq_true rfl) dX9_partOf_6 (fun _ e => m_X0_isThere v1 p1 p2 h _ _ e) (fun r2 => ?_)
  refine Y.ifne 14 (by decide) dX9_partOf_9 ?_ ?_
  · refine Y.op (pc' := 15) (fun _ => X.aloadn rfl dX9_partOf_14) ?_
    refine Y.callVi (As := []) lk_X9_201 rfl cal_X9_makeMost vir_X9_makeMost (Nat.le_of_ble_eq_true rfl) (Nat.le_of_ble_eq_true rfl) rfl rfl rfl (Nat.le_of_ble_eq_true rfl) dX9_partOf_15 (fun _ e => m_X9_makeMost a0 r2.2 _ _ e) (fun r3 => ?_)
    refine Y.op (pc' := 19) (fun _ => X.pop rfl dX9_partOf_18) ?_
    refine Y.op (pc' := 20) (fun _ => X.aloadn rfl dX9_partOf_19) ?_
    refine Y.getR fd_X9_43 rfl dX9_partOf_20 (fun v4 => ?_)
    refine Y.op (pc' := 24) (fun _ => X.aloadn rfl dX9_partOf_23) ?_
    refine Y.getR fd_X9_36 rfl dX9_partOf_24 (fun v5 => ?_)
    refine Y.callVv (As := [.ref v5]) lk_X9_204 rfl cal_X5_look vir_X5_look (Nat.le_of_ble_eq_true rfl) (Nat.le_of_ble_eq_true rfl) rfl rfl rfl (Nat.le_of_ble_eq_true rfl) dX9_partOf_27 (fun _ e => m_X5_look v4 v5 r3.2 _ _ e) (fun h6 => ?_)
    refine Y.op (pc' := 31) (fun _ => X.iloadn rfl dX9_partOf_30) ?_
    refine Y.ifne 44 (by decide) dX9_partOf_31 ?_ ?_
    · refine Y.op (pc' := 45) (fun _ => X.aloadn rfl dX9_partOf_44) ?_
      refine Y.getR fd_X9_43 rfl dX9_partOf_45 (fun v7 => ?_)
      refine Y.getI fd_X9_209 rfl dX9_partOf_48 (fun v8 => ?_)
      exact y_X9_partOf_J51 a0 p1 p2 v8 h6
    · refine Y.op (pc' := 35) (fun _ => X.aloadn rfl dX9_partOf_34) ?_
      refine Y.getR fd_X9_43 rfl dX9_partOf_35 (fun v9 => ?_)
      refine Y.getI fd_X9_208 rfl dX9_partOf_38 (fun v10 => ?_)
      refine Y.op (pc' := 51) (fun _ => X.goto 51 (by decide) dX9_partOf_41) ?_
      exact y_X9_partOf_J51 a0 p1 p2 v10 h6
  · refine Y.op (pc' := 13) (fun _ => X.ic ki_0 dX9_partOf_12) ?_
    exact Y.ireturn rfl dX9_partOf_13
theorem m_X9_partOf {g : xG} (a0 : Nat) (p1 : Int32) (p2 : Int32) (h : xH) (cl : Bool) (r : Int32 × xH) (e : f_X9_partOf a0 p1 p2 h = some r) : XM g DX9_partOf [.ref a0, .int p1, .int p2] h cl (iI r) := YM.of rfl rfl (Nat.le_of_ble_eq_true rfl) (y_X9_partOf a0 p1 p2 h) e
def f_X9_of_J107 (s0 : Int32) (h : xH) : Option ((Int32 ⊕ String) × xH) :=
  some (.inl s0, h)
theorem y_X9_of_J107 {g : xG} {h0 : xH} (s0 : Int32) (h : xH) : Y g DX9_of h0 false iIx (f_X9_of_J107 s0 h) 107 [none, none, none, none, none] [.int s0] h := by
  unfold f_X9_of_J107
  exact Y.ireturnx rfl dX9_of_107
def f_X9_of_J28 (x0 : Nat) (x1 : Int32) (x2 : Int32) (x3 : Int32) (s0 : Nat) (s1 : Int32) (h : xH) : Option ((Int32 ⊕ String) × xH) :=
  (vc h 9 s0 (f_X9_demand s0 s1 h)).bind fun r => thr r fun h1 =>
  if x3 = (2 : Int32) then
    (vc h1 9 x0 (f_X9_partOf x0 x1 x2 h1)).bind fun r13 =>
    some (.inl r13.1, r13.2)
  else
    (gR h1 9 x0 4).bind fun v2 =>
    (gR h1 9 x0 0).bind fun v3 =>
    (vc h1 7 v2 (f_X7_load v2 v3 h1)).bind fun h4 =>
    (gR h4 9 x0 4).bind fun v5 =>
    (vc h4 7 v5 (f_X7_leaveOut v5 x1 x2 h4)).bind fun h6 =>
    (gR h6 9 x0 4).bind fun v7 =>
    (vc h6 7 v7 (f_X7_grow v7 (12 : Int32) h6)).bind fun r8 =>
    (gR r8.2 9 x0 4).bind fun v9 =>
    (gR r8.2 7 v9 0).bind fun v10 =>
    (vc r8.2 3 v10 (f_X3_size v10 r8.2)).bind fun r11 =>
    if x3 = (1 : Int32) then
      some (.inl r11.1, r11.2)
    else
      (vc r11.2 9 x0 (f_X9_makeMost x0 r11.2)).bind fun r12 =>
      if r11.1 ≥ r12.1 then
        f_X9_of_J107 (0 : Int32) r12.2
      else
        f_X9_of_J107 (1 : Int32) r12.2
theorem y_X9_of_J28 {g : xG} {h0 : xH} (x0 : Nat) (x1 : Int32) (x2 : Int32) (x3 : Int32) (s0 : Nat) (s1 : Int32) (h : xH) : Y g DX9_of h0 false iIx (f_X9_of_J28 x0 x1 x2 x3 s0 s1 h) 28 [some (.ref x0), some (.int x1), some (.int x2), some (.int x3), none] [.int s1, .ref s0] h := by
  unfold f_X9_of_J28
  refine Y.callVx (As := [.int s1]) lk_X9_90 rfl cal_X9_demand vir_X9_demand (Nat.le_of_ble_eq_true rfl) (Nat.le_of_ble_eq_true rfl) rfl rfl rfl (Nat.le_of_ble_eq_true rfl) rfl dX9_of_28 (fun _ e => m_X9_demand s0 s1 h _ e) (fun h1 => ?_)
  refine Y.op (pc' := 32) (fun _ => X.iloadn rfl dX9_of_31) ?_
  refine Y.op (pc' := 33) (fun _ => X.ic ki_2 dX9_of_32) ?_
  refine Y.cmpne 43 (by decide) dX9_of_33 ?_ ?_
  · refine Y.op (pc' := 44) (fun _ => X.aloadn rfl dX9_of_43) ?_
    refine Y.getR fd_X9_36 rfl dX9_of_44 (fun v2 => ?_)
    refine Y.op (pc' := 48) (fun _ => X.aloadn rfl dX9_of_47) ?_
    refine Y.getR fd_X9_12 rfl dX9_of_48 (fun v3 => ?_)
    refine Y.callVv (As := [.ref v3]) lk_X9_170 rfl cal_X7_load vir_X7_load (Nat.le_of_ble_eq_true rfl) (Nat.le_of_ble_eq_true rfl) rfl rfl rfl (Nat.le_of_ble_eq_true rfl) dX9_of_51 (fun _ e => m_X7_load v2 v3 h1 _ _ e) (fun h4 => ?_)
    refine Y.op (pc' := 55) (fun _ => X.aloadn rfl dX9_of_54) ?_
    refine Y.getR fd_X9_36 rfl dX9_of_55 (fun v5 => ?_)
    refine Y.op (pc' := 59) (fun _ => X.iloadn rfl dX9_of_58) ?_
    refine Y.op (pc' := 60) (fun _ => X.iloadn rfl dX9_of_59) ?_
    refine Y.callVv (As := [.int x1, .int x2]) lk_X9_213 rfl cal_X7_leaveOut vir_X7_leaveOut (Nat.le_of_ble_eq_true rfl) (Nat.le_of_ble_eq_true rfl) rfl rfl rfl (Nat.le_of_ble_eq_true rfl) dX9_of_60 (fun _ e => m_X7_leaveOut v5 x1 x2 h4 _ _ e) (fun h6 => ?_)
    refine Y.op (pc' := 64) (fun _ => X.aloadn rfl dX9_of_63) ?_
    refine Y.getR fd_X9_36 rfl dX9_of_64 (fun v7 => ?_)
    refine Y.op (pc' := 69) (fun _ => X.bp kb_12 dX9_of_67) ?_
    refine Y.callVi (As := [.int (12 : Int32)]) lk_X9_217 rfl cal_X7_grow vir_X7_grow (Nat.le_of_ble_eq_true rfl) (Nat.le_of_ble_eq_true rfl) rfl rfl rfl (Nat.le_of_ble_eq_true rfl) dX9_of_69 (fun _ e => m_X7_grow v7 (12 : Int32) h6 _ _ e) (fun r8 => ?_)
    refine Y.op (pc' := 73) (fun _ => X.pop rfl dX9_of_72) ?_
    refine Y.op (pc' := 74) (fun _ => X.aloadn rfl dX9_of_73) ?_
    refine Y.getR fd_X9_36 rfl dX9_of_74 (fun v9 => ?_)
    refine Y.getR fd_X9_197 rfl dX9_of_77 (fun v10 => ?_)
    refine Y.callVi (As := []) lk_X9_110 rfl cal_X3_size vir_X3_size (Nat.le_of_ble_eq_true rfl) (Nat.le_of_ble_eq_true rfl) rfl rfl rfl (Nat.le_of_ble_eq_true rfl) dX9_of_80 (fun _ e => m_X3_size v10 r8.2 _ _ e) (fun r11 => ?_)
    refine Y.op (pc' := 85) (loc' := [some (.ref x0), some (.int x1), some (.int x2), some (.int x3), some (.int r11.1)]) (fun _ => X.istore (Nat.le_of_ble_eq_true rfl) rfl dX9_of_83) ?_
    refine Y.op (pc' := 86) (fun _ => X.iloadn rfl dX9_of_85) ?_
    refine Y.op (pc' := 87) (fun _ => X.ic ki_1 dX9_of_86) ?_
    refine Y.cmpne 93 (by decide) dX9_of_87 ?_ ?_
    · refine Y.op (pc' := 95) (fun _ => X.iload rfl dX9_of_93) ?_
      refine Y.op (pc' := 96) (fun _ => X.aloadn rfl dX9_of_95) ?_
      refine Y.callVi (As := []) lk_X9_201 rfl cal_X9_makeMost vir_X9_makeMost (Nat.le_of_ble_eq_true rfl) (Nat.le_of_ble_eq_true rfl) rfl rfl rfl (Nat.le_of_ble_eq_true rfl) dX9_of_96 (fun _ e => m_X9_makeMost x0 r11.2 _ _ e) (fun r12 => ?_)
      refine Y.cmpge 106 (by decide) dX9_of_99 ?_ ?_
      · refine Y.op (pc' := 107) (fun _ => X.ic ki_0 dX9_of_106) ?_
        exact Y.fg (y_X9_of_J107 (0 : Int32) r12.2) trivial
      · refine Y.op (pc' := 103) (fun _ => X.ic ki_1 dX9_of_102) ?_
        refine Y.op (pc' := 107) (fun _ => X.goto 107 (by decide) dX9_of_103) ?_
        exact Y.fg (y_X9_of_J107 (1 : Int32) r12.2) trivial
    · refine Y.op (pc' := 92) (fun _ => X.iload rfl dX9_of_90) ?_
      exact Y.ireturnx rfl dX9_of_92
  · refine Y.op (pc' := 37) (fun _ => X.aloadn rfl dX9_of_36) ?_
    refine Y.op (pc' := 38) (fun _ => X.iloadn rfl dX9_of_37) ?_
    refine Y.op (pc' := 39) (fun _ => X.iloadn rfl dX9_of_38) ?_
    refine Y.callVi (As := [.int x1, .int x2]) lk_X9_210 rfl cal_X9_partOf vir_X9_partOf (Nat.le_of_ble_eq_true rfl) (Nat.le_of_ble_eq_true rfl) rfl rfl rfl (Nat.le_of_ble_eq_true rfl) dX9_of_39 (fun _ e => m_X9_partOf x0 x1 x2 h1 _ _ e) (fun r13 => ?_)
    exact Y.ireturnx rfl dX9_of_42
def f_X9_of_J27 (x0 : Nat) (x1 : Int32) (x2 : Int32) (x3 : Int32) (s0 : Nat) (h : xH) : Option ((Int32 ⊕ String) × xH) :=
  f_X9_of_J28 x0 x1 x2 x3 s0 (0 : Int32) h
theorem y_X9_of_J27 {g : xG} {h0 : xH} (x0 : Nat) (x1 : Int32) (x2 : Int32) (x3 : Int32) (s0 : Nat) (h : xH) : Y g DX9_of h0 false iIx (f_X9_of_J27 x0 x1 x2 x3 s0 h) 27 [some (.ref x0), some (.int x1), some (.int x2), some (.int x3), none] [.ref s0] h := by
  unfold f_X9_of_J27
  refine Y.op (pc' := 28) (fun _ => X.ic ki_0 dX9_of_27) ?_
  exact y_X9_of_J28 x0 x1 x2 x3 s0 (0 : Int32) h
def f_X9_of (a0 : Nat) (p1 : Int32) (p2 : Int32) (p3 : Int32) (h : xH) : Option ((Int32 ⊕ String) × xH) :=
  (gR h 9 a0 0).bind fun v1 =>
  (vc h 0 v1 (f_X0_knows v1 p1 p2 h)).bind fun r2 =>
  (vc r2.2 9 a0 (f_X9_demandPlace a0 r2.1 r2.2)).bind fun r => thr r fun h3 =>
  if p3 < (0 : Int32) then
    f_X9_of_J27 a0 p1 p2 p3 a0 h3
  else
    if p3 > (2 : Int32) then
      f_X9_of_J27 a0 p1 p2 p3 a0 h3
    else
      f_X9_of_J28 a0 p1 p2 p3 a0 (1 : Int32) h3
theorem y_X9_of {g : xG} {h0 : xH} (a0 : Nat) (p1 : Int32) (p2 : Int32) (p3 : Int32) (h : xH) : Y g DX9_of h0 false iIx (f_X9_of a0 p1 p2 p3 h) 0 [some (.ref a0), some (.int p1), some (.int p2), some (.int p3), none] [] h := by
  unfold f_X9_of
  refine Y.op (pc' := 1) (fun _ => X.aloadn rfl dX9_of_0) ?_
  refine Y.op (pc' := 2) (fun _ => X.aloadn rfl dX9_of_1) ?_
  refine Y.getR fd_X9_12 rfl dX9_of_2 (fun v1 => ?_)
  refine Y.op (pc' := 6) (fun _ => X.iloadn rfl dX9_of_5) ?_
  refine Y.op (pc' := 7) (fun _ => X.iloadn rfl dX9_of_6) ?_
  refine Y.callVi (As := [.int p1, .int p2]) lk_X9_146 rfl cal_X0_knows vir_X0_knows (Nat.le_of_ble_eq_true rfl) (Nat.le_of_ble_eq_true rfl) rfl rfl rfl (Nat.le_of_ble_eq_true rfl) dX9_of_7 (fun _ e => m_X0_knows v1 p1 p2 h _ _ e) (fun r2 => ?_)
  refine Y.callVx (As := [.int r2.1]) lk_X9_150 rfl cal_X9_demandPlace vir_X9_demandPlace (Nat.le_of_ble_eq_true rfl) (Nat.le_of_ble_eq_true rfl) rfl rfl rfl (Nat.le_of_ble_eq_true rfl) rfl dX9_of_10 (fun _ e => m_X9_demandPlace a0 r2.1 r2.2 _ e) (fun h3 => ?_)
  refine Y.op (pc' := 14) (fun _ => X.aloadn rfl dX9_of_13) ?_
  refine Y.op (pc' := 15) (fun _ => X.iloadn rfl dX9_of_14) ?_
  refine Y.iflt 27 (by decide) dX9_of_15 ?_ ?_
  · exact y_X9_of_J27 a0 p1 p2 p3 a0 h3
  · refine Y.op (pc' := 19) (fun _ => X.iloadn rfl dX9_of_18) ?_
    refine Y.op (pc' := 20) (fun _ => X.ic ki_2 dX9_of_19) ?_
    refine Y.cmpgt 27 (by decide) dX9_of_20 ?_ ?_
    · exact y_X9_of_J27 a0 p1 p2 p3 a0 h3
    · refine Y.op (pc' := 24) (fun _ => X.ic ki_1 dX9_of_23) ?_
      refine Y.op (pc' := 28) (fun _ => X.goto 28 (by decide) dX9_of_24) ?_
      exact y_X9_of_J28 a0 p1 p2 p3 a0 (1 : Int32) h3
theorem m_X9_of {g : xG} (a0 : Nat) (p1 : Int32) (p2 : Int32) (p3 : Int32) (h : xH) (r : (Int32 ⊕ String) × xH) (e : f_X9_of a0 p1 p2 p3 h = some r) : XM g DX9_of [.ref a0, .int p1, .int p2, .int p3] h false (iIx r) := YM.of rfl rfl (Nat.le_of_ble_eq_true rfl) (y_X9_of a0 p1 p2 p3 h) e
def f_X9_kindOf_J43 (s0 : Int32) (h : xH) : Option (Int32 × xH) :=
  some (s0, h)
theorem y_X9_kindOf_J43 {g : xG} {h0 : xH} {cl : Bool} (s0 : Int32) (h : xH) : Y g DX9_kindOf h0 cl iI (f_X9_kindOf_J43 s0 h) 43 [none, none, none] [.int s0] h := by
  unfold f_X9_kindOf_J43
  exact Y.ireturn rfl dX9_kindOf_43
def f_X9_kindOf (a0 : Nat) (p1 : Int32) (p2 : Int32) (h : xH) : Option (Int32 × xH) :=
  (gR h 9 a0 0).bind fun v1 =>
  (vc h 0 v1 (f_X0_isFit v1 p1 p2 h)).bind fun r2 =>
  if r2.1 = (0 : Int32) then
    some ((0 : Int32), r2.2)
  else
    (gR r2.2 9 a0 4).bind fun v3 =>
    (vc r2.2 7 v3 (f_X7_isOpen v3 p1 p2 r2.2)).bind fun r4 =>
    if r4.1 = (0 : Int32) then
      f_X9_kindOf_J43 (1 : Int32) r4.2
    else
      (gR r4.2 9 a0 5).bind fun v5 =>
      (gR r4.2 9 a0 4).bind fun v6 =>
      (vc r4.2 5 v5 (f_X5_kindOf v5 v6 p1 p2 r4.2)).bind fun r7 =>
      f_X9_kindOf_J43 r7.1 r7.2
theorem y_X9_kindOf {g : xG} {h0 : xH} {cl : Bool} (a0 : Nat) (p1 : Int32) (p2 : Int32) (h : xH) : Y g DX9_kindOf h0 cl iI (f_X9_kindOf a0 p1 p2 h) 0 [some (.ref a0), some (.int p1), some (.int p2)] [] h := by
  unfold f_X9_kindOf
  refine Y.op (pc' := 1) (fun _ => X.aloadn rfl dX9_kindOf_0) ?_
  refine Y.getR fd_X9_12 rfl dX9_kindOf_1 (fun v1 => ?_)
  refine Y.op (pc' := 5) (fun _ => X.iloadn rfl dX9_kindOf_4) ?_
  refine Y.op (pc' := 6) (fun _ => X.iloadn rfl dX9_kindOf_5) ?_
  refine Y.callVi (As := [.int p1, .int p2]) lk_X9_303 rfl cal_X0_isFit vir_X0_isFit (Nat.le_of_ble_eq_true rfl) (Nat.le_of_ble_eq_true rfl) rfl rfl rfl (Nat.le_of_ble_eq_true rfl) dX9_kindOf_6 (fun _ e => m_X0_isFit v1 p1 p2 h _ _ e) (fun r2 => ?_)
  refine Y.ifne 14 (by decide) dX9_kindOf_9 ?_ ?_
  · refine Y.op (pc' := 15) (fun _ => X.aloadn rfl dX9_kindOf_14) ?_
    refine Y.getR fd_X9_36 rfl dX9_kindOf_15 (fun v3 => ?_)
    refine Y.op (pc' := 19) (fun _ => X.iloadn rfl dX9_kindOf_18) ?_
    refine Y.op (pc' := 20) (fun _ => X.iloadn rfl dX9_kindOf_19) ?_
    refine Y.callVi (As := [.int p1, .int p2]) lk_X9_367 rfl cal_X7_isOpen vir_X7_isOpen (Nat.le_of_ble_eq_true rfl) (Nat.le_of_ble_eq_true rfl) rfl rfl rfl (Nat.le_of_ble_eq_true rfl) dX9_kindOf_20 (fun _ e => m_X7_isOpen v3 p1 p2 r2.2 _ _ e) (fun r4 => ?_)
    refine Y.ifeq 42 (by decide) dX9_kindOf_23 ?_ ?_
    · refine Y.op (pc' := 43) (fun _ => X.ic ki_1 dX9_kindOf_42) ?_
      exact Y.fg (y_X9_kindOf_J43 (1 : Int32) r4.2) trivial
    · refine Y.op (pc' := 27) (fun _ => X.aloadn rfl dX9_kindOf_26) ?_
      refine Y.getR fd_X9_43 rfl dX9_kindOf_27 (fun v5 => ?_)
      refine Y.op (pc' := 31) (fun _ => X.aloadn rfl dX9_kindOf_30) ?_
      refine Y.getR fd_X9_36 rfl dX9_kindOf_31 (fun v6 => ?_)
      refine Y.op (pc' := 35) (fun _ => X.iloadn rfl dX9_kindOf_34) ?_
      refine Y.op (pc' := 36) (fun _ => X.iloadn rfl dX9_kindOf_35) ?_
      refine Y.callVi (As := [.ref v6, .int p1, .int p2]) lk_X9_370 rfl cal_X5_kindOf vir_X5_kindOf (Nat.le_of_ble_eq_true rfl) (Nat.le_of_ble_eq_true rfl) rfl rfl rfl (Nat.le_of_ble_eq_true rfl) dX9_kindOf_36 (fun _ e => m_X5_kindOf v5 v6 p1 p2 r4.2 _ _ e) (fun r7 => ?_)
      refine Y.op (pc' := 43) (fun _ => X.goto 43 (by decide) dX9_kindOf_39) ?_
      exact Y.fg (y_X9_kindOf_J43 r7.1 r7.2) trivial
  · refine Y.op (pc' := 13) (fun _ => X.ic ki_0 dX9_kindOf_12) ?_
    exact Y.ireturn rfl dX9_kindOf_13
theorem m_X9_kindOf {g : xG} (a0 : Nat) (p1 : Int32) (p2 : Int32) (h : xH) (cl : Bool) (r : Int32 × xH) (e : f_X9_kindOf a0 p1 p2 h = some r) : XM g DX9_kindOf [.ref a0, .int p1, .int p2] h cl (iI r) := YM.of rfl rfl (Nat.le_of_ble_eq_true rfl) (y_X9_kindOf a0 p1 p2 h) e
def f_X9_fit (a0 : Nat) (p1 : Int32) (p2 : Int32) (h : xH) : Option ((Int32 ⊕ String) × xH) :=
  (gR h 9 a0 0).bind fun v1 =>
  (vc h 0 v1 (f_X0_knowsBoth v1 p1 p2 h)).bind fun r2 =>
  (vc r2.2 9 a0 (f_X9_demandPlace a0 r2.1 r2.2)).bind fun r => thr r fun h3 =>
  (vc h3 9 a0 (f_X9_makeMost a0 h3)).bind fun r4 =>
  (gR r4.2 9 a0 5).bind fun v5 =>
  (gR r4.2 9 a0 4).bind fun v6 =>
  (vc r4.2 5 v5 (f_X5_look v5 v6 r4.2)).bind fun h7 =>
  (gR h7 9 a0 5).bind fun v8 =>
  (gR h7 9 a0 4).bind fun v9 =>
  (vc h7 5 v8 (f_X5_close v8 v9 h7)).bind fun h10 =>
  (vc h10 9 a0 (f_X9_kindOf a0 p1 p2 h10)).bind fun r11 =>
  some (.inl r11.1, r11.2)
theorem y_X9_fit {g : xG} {h0 : xH} (a0 : Nat) (p1 : Int32) (p2 : Int32) (h : xH) : Y g DX9_fit h0 false iIx (f_X9_fit a0 p1 p2 h) 0 [some (.ref a0), some (.int p1), some (.int p2)] [] h := by
  unfold f_X9_fit
  refine Y.op (pc' := 1) (fun _ => X.aloadn rfl dX9_fit_0) ?_
  refine Y.op (pc' := 2) (fun _ => X.aloadn rfl dX9_fit_1) ?_
  refine Y.getR fd_X9_12 rfl dX9_fit_2 (fun v1 => ?_)
  refine Y.op (pc' := 6) (fun _ => X.iloadn rfl dX9_fit_5) ?_
  refine Y.op (pc' := 7) (fun _ => X.iloadn rfl dX9_fit_6) ?_
  refine Y.callVi (As := [.int p1, .int p2]) lk_X9_157 rfl cal_X0_knowsBoth vir_X0_knowsBoth (Nat.le_of_ble_eq_true rfl) (Nat.le_of_ble_eq_true rfl) rfl rfl rfl (Nat.le_of_ble_eq_true rfl) dX9_fit_7 (fun _ e => m_X0_knowsBoth v1 p1 p2 h _ _ e) (fun r2 => ?_)
  refine Y.callVx (As := [.int r2.1]) lk_X9_150 rfl cal_X9_demandPlace vir_X9_demandPlace (Nat.le_of_ble_eq_true rfl) (Nat.le_of_ble_eq_true rfl) rfl rfl rfl (Nat.le_of_ble_eq_true rfl) rfl dX9_fit_10 (fun _ e => m_X9_demandPlace a0 r2.1 r2.2 _ e) (fun h3 => ?_)
  refine Y.op (pc' := 14) (fun _ => X.aloadn rfl dX9_fit_13) ?_
  refine Y.callVi (As := []) lk_X9_201 rfl cal_X9_makeMost vir_X9_makeMost (Nat.le_of_ble_eq_true rfl) (Nat.le_of_ble_eq_true rfl) rfl rfl rfl (Nat.le_of_ble_eq_true rfl) dX9_fit_14 (fun _ e => m_X9_makeMost a0 h3 _ _ e) (fun r4 => ?_)
  refine Y.op (pc' := 18) (fun _ => X.pop rfl dX9_fit_17) ?_
  refine Y.op (pc' := 19) (fun _ => X.aloadn rfl dX9_fit_18) ?_
  refine Y.getR fd_X9_43 rfl dX9_fit_19 (fun v5 => ?_)
  refine Y.op (pc' := 23) (fun _ => X.aloadn rfl dX9_fit_22) ?_
  refine Y.getR fd_X9_36 rfl dX9_fit_23 (fun v6 => ?_)
  refine Y.callVv (As := [.ref v6]) lk_X9_204 rfl cal_X5_look vir_X5_look (Nat.le_of_ble_eq_true rfl) (Nat.le_of_ble_eq_true rfl) rfl rfl rfl (Nat.le_of_ble_eq_true rfl) dX9_fit_26 (fun _ e => m_X5_look v5 v6 r4.2 _ _ e) (fun h7 => ?_)
  refine Y.op (pc' := 30) (fun _ => X.aloadn rfl dX9_fit_29) ?_
  refine Y.getR fd_X9_43 rfl dX9_fit_30 (fun v8 => ?_)
  refine Y.op (pc' := 34) (fun _ => X.aloadn rfl dX9_fit_33) ?_
  refine Y.getR fd_X9_36 rfl dX9_fit_34 (fun v9 => ?_)
  refine Y.callVv (As := [.ref v9]) lk_X9_220 rfl cal_X5_close vir_X5_close (Nat.le_of_ble_eq_true rfl) (Nat.le_of_ble_eq_true rfl) rfl rfl rfl (Nat.le_of_ble_eq_true rfl) dX9_fit_37 (fun _ e => m_X5_close v8 v9 h7 _ _ e) (fun h10 => ?_)
  refine Y.op (pc' := 41) (fun _ => X.aloadn rfl dX9_fit_40) ?_
  refine Y.op (pc' := 42) (fun _ => X.iloadn rfl dX9_fit_41) ?_
  refine Y.op (pc' := 43) (fun _ => X.iloadn rfl dX9_fit_42) ?_
  refine Y.callVi (As := [.int p1, .int p2]) lk_X9_223 rfl cal_X9_kindOf vir_X9_kindOf (Nat.le_of_ble_eq_true rfl) (Nat.le_of_ble_eq_true rfl) rfl rfl rfl (Nat.le_of_ble_eq_true rfl) dX9_fit_43 (fun _ e => m_X9_kindOf a0 p1 p2 h10 _ _ e) (fun r11 => ?_)
  exact Y.ireturnx rfl dX9_fit_46
theorem m_X9_fit {g : xG} (a0 : Nat) (p1 : Int32) (p2 : Int32) (h : xH) (r : (Int32 ⊕ String) × xH) (e : f_X9_fit a0 p1 p2 h = some r) : XM g DX9_fit [.ref a0, .int p1, .int p2] h false (iIx r) := YM.of rfl rfl (Nat.le_of_ble_eq_true rfl) (y_X9_fit a0 p1 p2 h) e
def f_X9_fitMany_J102 (x2 : Int32) (h : xH) : Option ((Int32 ⊕ String) × xH) :=
  some (.inl x2, h)
theorem y_X9_fitMany_J102 {g : xG} {h0 : xH} (x2 : Int32) (h : xH) : Y g DX9_fitMany h0 false iIx (f_X9_fitMany_J102 x2 h) 102 [none, none, some (.int x2), none, none] [] h := by
  unfold f_X9_fitMany_J102
  refine Y.op (pc' := 103) (fun _ => X.iloadn rfl dX9_fitMany_102) ?_
  exact Y.ireturnx rfl dX9_fitMany_103
def f_X9_fitMany_J96 (kH : Nat → Int32 → Int32 → Int32 → xH → Option ((Int32 ⊕ String) × xH)) (kE102 : Int32 → xH → Option ((Int32 ⊕ String) × xH)) (x0 : Nat) (x1 : Int32) (x2 : Int32) (x3 : Int32) (h : xH) : Option ((Int32 ⊕ String) × xH) :=
  lt (x3 + (1 : Int32)) fun v1 =>
  kH x0 x1 x2 v1 h
theorem y_X9_fitMany_J96 {g : xG} {h0 : xH} {kH : Nat → Int32 → Int32 → Int32 → xH → Option ((Int32 ⊕ String) × xH)} {kE102 : Int32 → xH → Option ((Int32 ⊕ String) × xH)} (hkH : ∀ (x0 : Nat) (x1 : Int32) (x2 : Int32) (x3 : Int32) (h : xH), Y g DX9_fitMany h0 false iIx (kH x0 x1 x2 x3 h) 50 [some (.ref x0), some (.int x1), some (.int x2), some (.int x3), none] [] h) (hkE102 : ∀ (x2 : Int32) (h : xH), Y g DX9_fitMany h0 false iIx (kE102 x2 h) 102 [none, none, some (.int x2), none, none] [] h) (x0 : Nat) (x1 : Int32) (x2 : Int32) (x3 : Int32) (h : xH) : Y g DX9_fitMany h0 false iIx (f_X9_fitMany_J96 kH kE102 x0 x1 x2 x3 h) 96 [some (.ref x0), some (.int x1), some (.int x2), some (.int x3), none] [] h := by
  unfold f_X9_fitMany_J96
  refine Y.iinc (i := 3) (loc' := fun v1 => [some (.ref x0), some (.int x1), some (.int x2), some (.int v1), none]) rfl (Nat.le_of_ble_eq_true rfl) ki_1 (fun _ => rfl) dX9_fitMany_96 (fun v1 => ?_)
  refine Y.op (pc' := 50) (fun _ => X.goto 50 (by decide) dX9_fitMany_99) ?_
  exact hkH x0 x1 x2 v1 h
def f_X9_fitMany_J90 (kH : Nat → Int32 → Int32 → Int32 → Int32 → xH → Option ((Int32 ⊕ String) × xH)) (kE96 : Nat → Int32 → Int32 → Int32 → xH → Option ((Int32 ⊕ String) × xH)) (x0 : Nat) (x1 : Int32) (x2 : Int32) (x3 : Int32) (x4 : Int32) (h : xH) : Option ((Int32 ⊕ String) × xH) :=
  lt (x4 + (1 : Int32)) fun v1 =>
  kH x0 x1 x2 x3 v1 h
theorem y_X9_fitMany_J90 {g : xG} {h0 : xH} {kH : Nat → Int32 → Int32 → Int32 → Int32 → xH → Option ((Int32 ⊕ String) × xH)} {kE96 : Nat → Int32 → Int32 → Int32 → xH → Option ((Int32 ⊕ String) × xH)} (hkH : ∀ (x0 : Nat) (x1 : Int32) (x2 : Int32) (x3 : Int32) (x4 : Int32) (h : xH), Y g DX9_fitMany h0 false iIx (kH x0 x1 x2 x3 x4 h) 64 [some (.ref x0), some (.int x1), some (.int x2), some (.int x3), some (.int x4)] [] h) (hkE96 : ∀ (x0 : Nat) (x1 : Int32) (x2 : Int32) (x3 : Int32) (h : xH), Y g DX9_fitMany h0 false iIx (kE96 x0 x1 x2 x3 h) 96 [some (.ref x0), some (.int x1), some (.int x2), some (.int x3), none] [] h) (x0 : Nat) (x1 : Int32) (x2 : Int32) (x3 : Int32) (x4 : Int32) (h : xH) : Y g DX9_fitMany h0 false iIx (f_X9_fitMany_J90 kH kE96 x0 x1 x2 x3 x4 h) 90 [some (.ref x0), some (.int x1), some (.int x2), some (.int x3), some (.int x4)] [] h := by
  unfold f_X9_fitMany_J90
  refine Y.iinc (i := 4) (loc' := fun v1 => [some (.ref x0), some (.int x1), some (.int x2), some (.int x3), some (.int v1)]) rfl (Nat.le_of_ble_eq_true rfl) ki_1 (fun _ => rfl) dX9_fitMany_90 (fun v1 => ?_)
  refine Y.op (pc' := 64) (fun _ => X.goto 64 (by decide) dX9_fitMany_93) ?_
  exact hkH x0 x1 x2 x3 v1 h
def f_X9_fitMany_L64 (kE96 : Nat → Int32 → Int32 → Int32 → xH → Option ((Int32 ⊕ String) × xH)) : Nat → Nat → Int32 → Int32 → Int32 → Int32 → xH → Option ((Int32 ⊕ String) × xH)
  | 0 => fun _ _ _ _ _ _ => none
  | n + 1 => fun x0 x1 x2 x3 x4 h =>
    (gR h 9 x0 0).bind fun v1 =>
    (gI h 0 v1 1).bind fun v2 =>
    if x4 ≥ v2 then
      kE96 x0 x1 x2 x3 h
    else
      (vc h 9 x0 (f_X9_kindOf x0 x3 x4 h)).bind fun r3 =>
      if r3.1 = x1 then
        lt (x2 + (1 : Int32)) fun v4 =>
        f_X9_fitMany_J90 (f_X9_fitMany_L64 kE96 n) kE96 x0 x1 v4 x3 x4 r3.2
      else
        f_X9_fitMany_J90 (f_X9_fitMany_L64 kE96 n) kE96 x0 x1 x2 x3 x4 r3.2
theorem y_X9_fitMany_L64 {g : xG} {h0 : xH} {kE96 : Nat → Int32 → Int32 → Int32 → xH → Option ((Int32 ⊕ String) × xH)} (hkE96 : ∀ (x0 : Nat) (x1 : Int32) (x2 : Int32) (x3 : Int32) (h : xH), Y g DX9_fitMany h0 false iIx (kE96 x0 x1 x2 x3 h) 96 [some (.ref x0), some (.int x1), some (.int x2), some (.int x3), none] [] h) : ∀ (n : Nat) (x0 : Nat) (x1 : Int32) (x2 : Int32) (x3 : Int32) (x4 : Int32) (h : xH), Y g DX9_fitMany h0 false iIx (f_X9_fitMany_L64 kE96 n x0 x1 x2 x3 x4 h) 64 [some (.ref x0), some (.int x1), some (.int x2), some (.int x3), some (.int x4)] [] h := by
  intro n
  induction n with
  | zero => intro x0 x1 x2 x3 x4 h; exact Y.nothing
  | succ n ih =>
    intro x0 x1 x2 x3 x4 h
    unfold f_X9_fitMany_L64
    refine Y.op (pc' := 66) (fun _ => X.iload rfl dX9_fitMany_64) ?_
    refine Y.op (pc' := 67) (fun _ => X.aloadn rfl dX9_fitMany_66) ?_
    refine Y.getR fd_X9_12 rfl dX9_fitMany_67 (fun v1 => ?_)
    refine Y.getI fd_X9_122 rfl dX9_fitMany_70 (fun v2 => ?_)
    refine Y.cmpge 96 (by decide) dX9_fitMany_73 ?_ ?_
    · exact Y.fg (hkE96 x0 x1 x2 x3 h) (And.intro rfl (And.intro rfl (And.intro rfl (And.intro rfl trivial))))
    · refine Y.op (pc' := 77) (fun _ => X.aloadn rfl dX9_fitMany_76) ?_
      refine Y.op (pc' := 78) (fun _ => X.iloadn rfl dX9_fitMany_77) ?_
      refine Y.op (pc' := 80) (fun _ => X.iload rfl dX9_fitMany_78) ?_
      refine Y.callVi (As := [.int x3, .int x4]) lk_X9_223 rfl cal_X9_kindOf vir_X9_kindOf (Nat.le_of_ble_eq_true rfl) (Nat.le_of_ble_eq_true rfl) rfl rfl rfl (Nat.le_of_ble_eq_true rfl) dX9_fitMany_80 (fun _ e => m_X9_kindOf x0 x3 x4 h _ _ e) (fun r3 => ?_)
      refine Y.op (pc' := 84) (fun _ => X.iloadn rfl dX9_fitMany_83) ?_
      refine Y.cmpne 90 (by decide) dX9_fitMany_84 ?_ ?_
      · exact y_X9_fitMany_J90 ih hkE96 x0 x1 x2 x3 x4 r3.2
      · refine Y.iinc (i := 2) (loc' := fun v4 => [some (.ref x0), some (.int x1), some (.int v4), some (.int x3), some (.int x4)]) rfl (Nat.le_of_ble_eq_true rfl) ki_1 (fun _ => rfl) dX9_fitMany_87 (fun v4 => ?_)
        exact y_X9_fitMany_J90 ih hkE96 x0 x1 v4 x3 x4 r3.2
def f_X9_fitMany_L50 (kE102 : Int32 → xH → Option ((Int32 ⊕ String) × xH)) : Nat → Nat → Int32 → Int32 → Int32 → xH → Option ((Int32 ⊕ String) × xH)
  | 0 => fun _ _ _ _ _ => none
  | n + 1 => fun x0 x1 x2 x3 h =>
    (gR h 9 x0 0).bind fun v1 =>
    (gI h 0 v1 0).bind fun v2 =>
    if x3 ≥ v2 then
      kE102 x2 h
    else
      f_X9_fitMany_L64 (f_X9_fitMany_J96 (f_X9_fitMany_L50 kE102 n) kE102) 5000 x0 x1 x2 x3 (0 : Int32) h
theorem y_X9_fitMany_L50 {g : xG} {h0 : xH} {kE102 : Int32 → xH → Option ((Int32 ⊕ String) × xH)} (hkE102 : ∀ (x2 : Int32) (h : xH), Y g DX9_fitMany h0 false iIx (kE102 x2 h) 102 [none, none, some (.int x2), none, none] [] h) : ∀ (n : Nat) (x0 : Nat) (x1 : Int32) (x2 : Int32) (x3 : Int32) (h : xH), Y g DX9_fitMany h0 false iIx (f_X9_fitMany_L50 kE102 n x0 x1 x2 x3 h) 50 [some (.ref x0), some (.int x1), some (.int x2), some (.int x3), none] [] h := by
  intro n
  induction n with
  | zero => intro x0 x1 x2 x3 h; exact Y.nothing
  | succ n ih =>
    intro x0 x1 x2 x3 h
    unfold f_X9_fitMany_L50
    refine Y.op (pc' := 51) (fun _ => X.iloadn rfl dX9_fitMany_50) ?_
    refine Y.op (pc' := 52) (fun _ => X.aloadn rfl dX9_fitMany_51) ?_
    refine Y.getR fd_X9_12 rfl dX9_fitMany_52 (fun v1 => ?_)
    refine Y.getI fd_X9_119 rfl dX9_fitMany_55 (fun v2 => ?_)
    refine Y.cmpge 102 (by decide) dX9_fitMany_58 ?_ ?_
    · exact Y.fg (hkE102 x2 h) (And.intro rfl trivial)
    · refine Y.op (pc' := 62) (fun _ => X.ic ki_0 dX9_fitMany_61) ?_
      refine Y.op (pc' := 64) (loc' := [some (.ref x0), some (.int x1), some (.int x2), some (.int x3), some (.int (0 : Int32))]) (fun _ => X.istore (Nat.le_of_ble_eq_true rfl) rfl dX9_fitMany_62) ?_
      exact y_X9_fitMany_L64 (y_X9_fitMany_J96 ih hkE102) 5000 x0 x1 x2 x3 (0 : Int32) h
def f_X9_fitMany_J16 (x0 : Nat) (x1 : Int32) (s0 : Nat) (s1 : Int32) (h : xH) : Option ((Int32 ⊕ String) × xH) :=
  (vc h 9 s0 (f_X9_demand s0 s1 h)).bind fun r => thr r fun h1 =>
  (vc h1 9 x0 (f_X9_makeMost x0 h1)).bind fun r2 =>
  (gR r2.2 9 x0 5).bind fun v3 =>
  (gR r2.2 9 x0 4).bind fun v4 =>
  (vc r2.2 5 v3 (f_X5_look v3 v4 r2.2)).bind fun h5 =>
  (gR h5 9 x0 5).bind fun v6 =>
  (gR h5 9 x0 4).bind fun v7 =>
  (vc h5 5 v6 (f_X5_close v6 v7 h5)).bind fun h8 =>
  f_X9_fitMany_L50 (f_X9_fitMany_J102) 5000 x0 x1 (0 : Int32) (0 : Int32) h8
theorem y_X9_fitMany_J16 {g : xG} {h0 : xH} (x0 : Nat) (x1 : Int32) (s0 : Nat) (s1 : Int32) (h : xH) : Y g DX9_fitMany h0 false iIx (f_X9_fitMany_J16 x0 x1 s0 s1 h) 16 [some (.ref x0), some (.int x1), none, none, none] [.int s1, .ref s0] h := by
  unfold f_X9_fitMany_J16
  refine Y.callVx (As := [.int s1]) lk_X9_90 rfl cal_X9_demand vir_X9_demand (Nat.le_of_ble_eq_true rfl) (Nat.le_of_ble_eq_true rfl) rfl rfl rfl (Nat.le_of_ble_eq_true rfl) rfl dX9_fitMany_16 (fun _ e => m_X9_demand s0 s1 h _ e) (fun h1 => ?_)
  refine Y.op (pc' := 20) (fun _ => X.aloadn rfl dX9_fitMany_19) ?_
  refine Y.callVi (As := []) lk_X9_201 rfl cal_X9_makeMost vir_X9_makeMost (Nat.le_of_ble_eq_true rfl) (Nat.le_of_ble_eq_true rfl) rfl rfl rfl (Nat.le_of_ble_eq_true rfl) dX9_fitMany_20 (fun _ e => m_X9_makeMost x0 h1 _ _ e) (fun r2 => ?_)
  refine Y.op (pc' := 24) (fun _ => X.pop rfl dX9_fitMany_23) ?_
  refine Y.op (pc' := 25) (fun _ => X.aloadn rfl dX9_fitMany_24) ?_
  refine Y.getR fd_X9_43 rfl dX9_fitMany_25 (fun v3 => ?_)
  refine Y.op (pc' := 29) (fun _ => X.aloadn rfl dX9_fitMany_28) ?_
  refine Y.getR fd_X9_36 rfl dX9_fitMany_29 (fun v4 => ?_)
  refine Y.callVv (As := [.ref v4]) lk_X9_204 rfl cal_X5_look vir_X5_look (Nat.le_of_ble_eq_true rfl) (Nat.le_of_ble_eq_true rfl) rfl rfl rfl (Nat.le_of_ble_eq_true rfl) dX9_fitMany_32 (fun _ e => m_X5_look v3 v4 r2.2 _ _ e) (fun h5 => ?_)
  refine Y.op (pc' := 36) (fun _ => X.aloadn rfl dX9_fitMany_35) ?_
  refine Y.getR fd_X9_43 rfl dX9_fitMany_36 (fun v6 => ?_)
  refine Y.op (pc' := 40) (fun _ => X.aloadn rfl dX9_fitMany_39) ?_
  refine Y.getR fd_X9_36 rfl dX9_fitMany_40 (fun v7 => ?_)
  refine Y.callVv (As := [.ref v7]) lk_X9_220 rfl cal_X5_close vir_X5_close (Nat.le_of_ble_eq_true rfl) (Nat.le_of_ble_eq_true rfl) rfl rfl rfl (Nat.le_of_ble_eq_true rfl) dX9_fitMany_43 (fun _ e => m_X5_close v6 v7 h5 _ _ e) (fun h8 => ?_)
  refine Y.op (pc' := 47) (fun _ => X.ic ki_0 dX9_fitMany_46) ?_
  refine Y.op (pc' := 48) (loc' := [some (.ref x0), some (.int x1), some (.int (0 : Int32)), none, none]) (fun _ => X.istoren (Nat.le_of_ble_eq_true rfl) rfl dX9_fitMany_47) ?_
  refine Y.op (pc' := 49) (fun _ => X.ic ki_0 dX9_fitMany_48) ?_
  refine Y.op (pc' := 50) (loc' := [some (.ref x0), some (.int x1), some (.int (0 : Int32)), some (.int (0 : Int32)), none]) (fun _ => X.istoren (Nat.le_of_ble_eq_true rfl) rfl dX9_fitMany_49) ?_
  exact y_X9_fitMany_L50 (y_X9_fitMany_J102) 5000 x0 x1 (0 : Int32) (0 : Int32) h8
def f_X9_fitMany_J15 (x0 : Nat) (x1 : Int32) (s0 : Nat) (h : xH) : Option ((Int32 ⊕ String) × xH) :=
  f_X9_fitMany_J16 x0 x1 s0 (0 : Int32) h
theorem y_X9_fitMany_J15 {g : xG} {h0 : xH} (x0 : Nat) (x1 : Int32) (s0 : Nat) (h : xH) : Y g DX9_fitMany h0 false iIx (f_X9_fitMany_J15 x0 x1 s0 h) 15 [some (.ref x0), some (.int x1), none, none, none] [.ref s0] h := by
  unfold f_X9_fitMany_J15
  refine Y.op (pc' := 16) (fun _ => X.ic ki_0 dX9_fitMany_15) ?_
  exact y_X9_fitMany_J16 x0 x1 s0 (0 : Int32) h
def f_X9_fitMany (a0 : Nat) (p1 : Int32) (h : xH) : Option ((Int32 ⊕ String) × xH) :=
  if p1 < (1 : Int32) then
    f_X9_fitMany_J15 a0 p1 a0 h
  else
    if p1 > (3 : Int32) then
      f_X9_fitMany_J15 a0 p1 a0 h
    else
      f_X9_fitMany_J16 a0 p1 a0 (1 : Int32) h
theorem y_X9_fitMany {g : xG} {h0 : xH} (a0 : Nat) (p1 : Int32) (h : xH) : Y g DX9_fitMany h0 false iIx (f_X9_fitMany a0 p1 h) 0 [some (.ref a0), some (.int p1), none, none, none] [] h := by
  unfold f_X9_fitMany
  refine Y.op (pc' := 1) (fun _ => X.aloadn rfl dX9_fitMany_0) ?_
  refine Y.op (pc' := 2) (fun _ => X.iloadn rfl dX9_fitMany_1) ?_
  refine Y.op (pc' := 3) (fun _ => X.ic ki_1 dX9_fitMany_2) ?_
  refine Y.cmplt 15 (by decide) dX9_fitMany_3 ?_ ?_
  · exact y_X9_fitMany_J15 a0 p1 a0 h
  · refine Y.op (pc' := 7) (fun _ => X.iloadn rfl dX9_fitMany_6) ?_
    refine Y.op (pc' := 8) (fun _ => X.ic ki_3 dX9_fitMany_7) ?_
    refine Y.cmpgt 15 (by decide) dX9_fitMany_8 ?_ ?_
    · exact y_X9_fitMany_J15 a0 p1 a0 h
    · refine Y.op (pc' := 12) (fun _ => X.ic ki_1 dX9_fitMany_11) ?_
      refine Y.op (pc' := 16) (fun _ => X.goto 16 (by decide) dX9_fitMany_12) ?_
      exact y_X9_fitMany_J16 a0 p1 a0 (1 : Int32) h
theorem m_X9_fitMany {g : xG} (a0 : Nat) (p1 : Int32) (h : xH) (r : (Int32 ⊕ String) × xH) (e : f_X9_fitMany a0 p1 h = some r) : XM g DX9_fitMany [.ref a0, .int p1] h false (iIx r) := YM.of rfl rfl (Nat.le_of_ble_eq_true rfl) (y_X9_fitMany a0 p1 h) e
def f_X9_lack_J88 (x2 : Int32) (x3 : Int32) (h : xH) : Option ((Int32 ⊕ String) × xH) :=
  (f_J6_bitCount_0f7a4 x2 h).bind fun r1 =>
  (f_J6_bitCount_0f7a4 x3 r1.2).bind fun r2 =>
  some (.inl (r1.1 - r2.1), r2.2)
theorem y_X9_lack_J88 {g : xG} {h0 : xH} (x2 : Int32) (x3 : Int32) (h : xH) : Y g DX9_lack h0 false iIx (f_X9_lack_J88 x2 x3 h) 88 [none, none, some (.int x2), some (.int x3), none] [] h := by
  unfold f_X9_lack_J88
  refine Y.op (pc' := 89) (fun _ => X.iloadn rfl dX9_lack_88) ?_
  refine Y.callSi (As := [.int x2]) lk_X9_229 rfl cal_J6_bitCount_0f7a4 sta_J6_bitCount_0f7a4 (Nat.le_of_ble_eq_true rfl) rfl rfl (Nat.le_of_ble_eq_true rfl) dX9_lack_89 (fun _ e => m_J6_bitCount_0f7a4 x2 h _ _ e) (fun r1 => ?_)
  refine Y.op (pc' := 93) (fun _ => X.iloadn rfl dX9_lack_92) ?_
  refine Y.callSi (As := [.int x3]) lk_X9_229 rfl cal_J6_bitCount_0f7a4 sta_J6_bitCount_0f7a4 (Nat.le_of_ble_eq_true rfl) rfl rfl (Nat.le_of_ble_eq_true rfl) dX9_lack_93 (fun _ e => m_J6_bitCount_0f7a4 x3 r1.2 _ _ e) (fun r2 => ?_)
  refine Y.op (pc' := 97) (fun _ => X.isub dX9_lack_96) ?_
  exact Y.ireturnx rfl dX9_lack_97
def f_X9_lack_J82 (kH : Nat → Int32 → Int32 → Int32 → xH → Option ((Int32 ⊕ String) × xH)) (kE88 : Int32 → Int32 → xH → Option ((Int32 ⊕ String) × xH)) (x0 : Nat) (x2 : Int32) (x3 : Int32) (x4 : Int32) (h : xH) : Option ((Int32 ⊕ String) × xH) :=
  lt (x4 + (1 : Int32)) fun v1 =>
  kH x0 x2 x3 v1 h
theorem y_X9_lack_J82 {g : xG} {h0 : xH} {kH : Nat → Int32 → Int32 → Int32 → xH → Option ((Int32 ⊕ String) × xH)} {kE88 : Int32 → Int32 → xH → Option ((Int32 ⊕ String) × xH)} (hkH : ∀ (x0 : Nat) (x2 : Int32) (x3 : Int32) (x4 : Int32) (h : xH), Y g DX9_lack h0 false iIx (kH x0 x2 x3 x4 h) 41 [some (.ref x0), none, some (.int x2), some (.int x3), some (.int x4)] [] h) (hkE88 : ∀ (x2 : Int32) (x3 : Int32) (h : xH), Y g DX9_lack h0 false iIx (kE88 x2 x3 h) 88 [none, none, some (.int x2), some (.int x3), none] [] h) (x0 : Nat) (x2 : Int32) (x3 : Int32) (x4 : Int32) (h : xH) : Y g DX9_lack h0 false iIx (f_X9_lack_J82 kH kE88 x0 x2 x3 x4 h) 82 [some (.ref x0), none, some (.int x2), some (.int x3), some (.int x4)] [] h := by
  unfold f_X9_lack_J82
  refine Y.iinc (i := 4) (loc' := fun v1 => [some (.ref x0), none, some (.int x2), some (.int x3), some (.int v1)]) rfl (Nat.le_of_ble_eq_true rfl) ki_1 (fun _ => rfl) dX9_lack_82 (fun v1 => ?_)
  refine Y.op (pc' := 41) (fun _ => X.goto 41 (by decide) dX9_lack_85) ?_
  exact hkH x0 x2 x3 v1 h
def f_X9_lack_L41 (kE88 : Int32 → Int32 → xH → Option ((Int32 ⊕ String) × xH)) : Nat → Nat → Int32 → Int32 → Int32 → xH → Option ((Int32 ⊕ String) × xH)
  | 0 => fun _ _ _ _ _ => none
  | n + 1 => fun x0 x2 x3 x4 h =>
    (gR h 9 x0 0).bind fun v1 =>
    (gI h 0 v1 0).bind fun v2 =>
    if x4 ≥ v2 then
      kE88 x2 x3 h
    else
      (f_X9_has x2 x4 h).bind fun r3 =>
      if r3.1 = (0 : Int32) then
        f_X9_lack_J82 (f_X9_lack_L41 kE88 n) kE88 x0 x2 x3 x4 r3.2
      else
        (gR r3.2 9 x0 0).bind fun v4 =>
        (vc r3.2 0 v4 (f_X0_tasksFor v4 x4 r3.2)).bind fun r5 =>
        (gR r5.2 9 x0 0).bind fun v6 =>
        (gI r5.2 0 v6 3).bind fun v7 =>
        lt ((x3 ||| (r5.1 &&& v7))) fun v8 =>
        f_X9_lack_J82 (f_X9_lack_L41 kE88 n) kE88 x0 x2 v8 x4 r5.2
theorem y_X9_lack_L41 {g : xG} {h0 : xH} {kE88 : Int32 → Int32 → xH → Option ((Int32 ⊕ String) × xH)} (hkE88 : ∀ (x2 : Int32) (x3 : Int32) (h : xH), Y g DX9_lack h0 false iIx (kE88 x2 x3 h) 88 [none, none, some (.int x2), some (.int x3), none] [] h) : ∀ (n : Nat) (x0 : Nat) (x2 : Int32) (x3 : Int32) (x4 : Int32) (h : xH), Y g DX9_lack h0 false iIx (f_X9_lack_L41 kE88 n x0 x2 x3 x4 h) 41 [some (.ref x0), none, some (.int x2), some (.int x3), some (.int x4)] [] h := by
  intro n
  induction n with
  | zero => intro x0 x2 x3 x4 h; exact Y.nothing
  | succ n ih =>
    intro x0 x2 x3 x4 h
    unfold f_X9_lack_L41
    refine Y.op (pc' := 43) (fun _ => X.iload rfl dX9_lack_41) ?_
    refine Y.op (pc' := 44) (fun _ => X.aloadn rfl dX9_lack_43) ?_
    refine Y.getR fd_X9_12 rfl dX9_lack_44 (fun v1 => ?_)
    refine Y.getI fd_X9_119 rfl dX9_lack_47 (fun v2 => ?_)
    refine Y.cmpge 88 (by decide) dX9_lack_50 ?_ ?_
    · exact Y.fg (hkE88 x2 x3 h) (And.intro rfl (And.intro rfl trivial))
    · refine Y.op (pc' := 54) (fun _ => X.iloadn rfl dX9_lack_53) ?_
      refine Y.op (pc' := 56) (fun _ => X.iload rfl dX9_lack_54) ?_
      refine Y.callSi (As := [.int x2, .int x4]) lk_X9_226 rfl cal_X9_has sta_X9_has (Nat.le_of_ble_eq_true rfl) rfl rfl (Nat.le_of_ble_eq_true rfl) dX9_lack_56 (fun _ e => m_X9_has x2 x4 h _ _ e) (fun r3 => ?_)
      refine Y.ifeq 82 (by decide) dX9_lack_59 ?_ ?_
      · exact y_X9_lack_J82 ih hkE88 x0 x2 x3 x4 r3.2
      · refine Y.op (pc' := 63) (fun _ => X.iloadn rfl dX9_lack_62) ?_
        refine Y.op (pc' := 64) (fun _ => X.aloadn rfl dX9_lack_63) ?_
        refine Y.getR fd_X9_12 rfl dX9_lack_64 (fun v4 => ?_)
        refine Y.op (pc' := 69) (fun _ => X.iload rfl dX9_lack_67) ?_
        refine Y.callVi (As := [.int x4]) lk_X9_163 rfl cal_X0_tasksFor vir_X0_tasksFor (Nat.le_of_ble_eq_true rfl) (Nat.le_of_ble_eq_true rfl) rfl rfl rfl (Nat.le_of_ble_eq_true rfl) dX9_lack_69 (fun _ e => m_X0_tasksFor v4 x4 r3.2 _ _ e) (fun r5 => ?_)
        refine Y.op (pc' := 73) (fun _ => X.aloadn rfl dX9_lack_72) ?_
        refine Y.getR fd_X9_12 rfl dX9_lack_73 (fun v6 => ?_)
        refine Y.getI fd_X9_134 rfl dX9_lack_76 (fun v7 => ?_)
        refine Y.op (pc' := 80) (fun _ => X.iand dX9_lack_79) ?_
        refine Y.op (pc' := 81) (fun _ => X.ior dX9_lack_80) ?_
        refine Y.top (fun v8 => ?_)
        refine Y.op (pc' := 82) (loc' := [some (.ref x0), none, some (.int x2), some (.int v8), some (.int x4)]) (fun _ => X.istoren (Nat.le_of_ble_eq_true rfl) rfl dX9_lack_81) ?_
        exact y_X9_lack_J82 ih hkE88 x0 x2 v8 x4 r5.2
def f_X9_lack_J23 (x0 : Nat) (x1 : Int32) (s0 : Nat) (s1 : Int32) (h : xH) : Option ((Int32 ⊕ String) × xH) :=
  (vc h 9 s0 (f_X9_demand s0 s1 h)).bind fun r => thr r fun h1 =>
  (gR h1 9 x0 0).bind fun v2 =>
  (gI h1 0 v2 2).bind fun v3 =>
  lt ((x1 &&& v3)) fun v4 =>
  f_X9_lack_L41 (f_X9_lack_J88) 5000 x0 v4 (0 : Int32) (0 : Int32) h1
theorem y_X9_lack_J23 {g : xG} {h0 : xH} (x0 : Nat) (x1 : Int32) (s0 : Nat) (s1 : Int32) (h : xH) : Y g DX9_lack h0 false iIx (f_X9_lack_J23 x0 x1 s0 s1 h) 23 [some (.ref x0), some (.int x1), none, none, none] [.int s1, .ref s0] h := by
  unfold f_X9_lack_J23
  refine Y.callVx (As := [.int s1]) lk_X9_90 rfl cal_X9_demand vir_X9_demand (Nat.le_of_ble_eq_true rfl) (Nat.le_of_ble_eq_true rfl) rfl rfl rfl (Nat.le_of_ble_eq_true rfl) rfl dX9_lack_23 (fun _ e => m_X9_demand s0 s1 h _ e) (fun h1 => ?_)
  refine Y.op (pc' := 27) (fun _ => X.iloadn rfl dX9_lack_26) ?_
  refine Y.op (pc' := 28) (fun _ => X.aloadn rfl dX9_lack_27) ?_
  refine Y.getR fd_X9_12 rfl dX9_lack_28 (fun v2 => ?_)
  refine Y.getI fd_X9_131 rfl dX9_lack_31 (fun v3 => ?_)
  refine Y.op (pc' := 35) (fun _ => X.iand dX9_lack_34) ?_
  refine Y.top (fun v4 => ?_)
  refine Y.op (pc' := 36) (loc' := [some (.ref x0), some (.int x1), some (.int v4), none, none]) (fun _ => X.istoren (Nat.le_of_ble_eq_true rfl) rfl dX9_lack_35) ?_
  refine Y.op (pc' := 37) (fun _ => X.ic ki_0 dX9_lack_36) ?_
  refine Y.op (pc' := 38) (loc' := [some (.ref x0), some (.int x1), some (.int v4), some (.int (0 : Int32)), none]) (fun _ => X.istoren (Nat.le_of_ble_eq_true rfl) rfl dX9_lack_37) ?_
  refine Y.op (pc' := 39) (fun _ => X.ic ki_0 dX9_lack_38) ?_
  refine Y.op (pc' := 41) (loc' := [some (.ref x0), some (.int x1), some (.int v4), some (.int (0 : Int32)), some (.int (0 : Int32))]) (fun _ => X.istore (Nat.le_of_ble_eq_true rfl) rfl dX9_lack_39) ?_
  exact Y.fg (y_X9_lack_L41 (y_X9_lack_J88) 5000 x0 v4 (0 : Int32) (0 : Int32) h1) (And.intro rfl (And.intro rfl (And.intro rfl (And.intro rfl trivial))))
def f_X9_lack_J22 (x0 : Nat) (x1 : Int32) (s0 : Nat) (h : xH) : Option ((Int32 ⊕ String) × xH) :=
  f_X9_lack_J23 x0 x1 s0 (0 : Int32) h
theorem y_X9_lack_J22 {g : xG} {h0 : xH} (x0 : Nat) (x1 : Int32) (s0 : Nat) (h : xH) : Y g DX9_lack h0 false iIx (f_X9_lack_J22 x0 x1 s0 h) 22 [some (.ref x0), some (.int x1), none, none, none] [.ref s0] h := by
  unfold f_X9_lack_J22
  refine Y.op (pc' := 23) (fun _ => X.ic ki_0 dX9_lack_22) ?_
  exact y_X9_lack_J23 x0 x1 s0 (0 : Int32) h
def f_X9_lack (a0 : Nat) (p1 : Int32) (h : xH) : Option ((Int32 ⊕ String) × xH) :=
  if p1 < (0 : Int32) then
    f_X9_lack_J22 a0 p1 a0 h
  else
    (gR h 9 a0 0).bind fun v1 =>
    (gI h 0 v1 0).bind fun v2 =>
    if p1 ≥ ((1 : Int32) <<< (v2 &&& 31)) then
      f_X9_lack_J22 a0 p1 a0 h
    else
      f_X9_lack_J23 a0 p1 a0 (1 : Int32) h
theorem y_X9_lack {g : xG} {h0 : xH} (a0 : Nat) (p1 : Int32) (h : xH) : Y g DX9_lack h0 false iIx (f_X9_lack a0 p1 h) 0 [some (.ref a0), some (.int p1), none, none, none] [] h := by
  unfold f_X9_lack
  refine Y.op (pc' := 1) (fun _ => X.aloadn rfl dX9_lack_0) ?_
  refine Y.op (pc' := 2) (fun _ => X.iloadn rfl dX9_lack_1) ?_
  refine Y.iflt 22 (by decide) dX9_lack_2 ?_ ?_
  · exact y_X9_lack_J22 a0 p1 a0 h
  · refine Y.op (pc' := 6) (fun _ => X.iloadn rfl dX9_lack_5) ?_
    refine Y.op (pc' := 7) (fun _ => X.ic ki_1 dX9_lack_6) ?_
    refine Y.op (pc' := 8) (fun _ => X.aloadn rfl dX9_lack_7) ?_
    refine Y.getR fd_X9_12 rfl dX9_lack_8 (fun v1 => ?_)
    refine Y.getI fd_X9_119 rfl dX9_lack_11 (fun v2 => ?_)
    refine Y.op (pc' := 15) (fun _ => X.ishl dX9_lack_14) ?_
    refine Y.cmpge 22 (by decide) dX9_lack_15 ?_ ?_
    · exact y_X9_lack_J22 a0 p1 a0 h
    · refine Y.op (pc' := 19) (fun _ => X.ic ki_1 dX9_lack_18) ?_
      refine Y.op (pc' := 23) (fun _ => X.goto 23 (by decide) dX9_lack_19) ?_
      exact y_X9_lack_J23 a0 p1 a0 (1 : Int32) h
theorem m_X9_lack {g : xG} (a0 : Nat) (p1 : Int32) (h : xH) (r : (Int32 ⊕ String) × xH) (e : f_X9_lack a0 p1 h = some r) : XM g DX9_lack [.ref a0, .int p1] h false (iIx r) := YM.of rfl rfl (Nat.le_of_ble_eq_true rfl) (y_X9_lack a0 p1 h) e
def f_X9_hall_J15 (x0 : Nat) (x1 : Int32) (s0 : Nat) (s1 : Int32) (h : xH) : Option ((Int32 ⊕ String) × xH) :=
  (vc h 9 s0 (f_X9_demand s0 s1 h)).bind fun r => thr r fun h1 =>
  (vc h1 9 x0 (f_X9_makeMost x0 h1)).bind fun r2 =>
  if x1 = (0 : Int32) then
    (gR r2.2 9 x0 0).bind fun v8 =>
    (gI r2.2 0 v8 2).bind fun v9 =>
    (f_J6_bitCount_0f7a4 v9 r2.2).bind fun r10 =>
    some (.inl (r10.1 - r2.1), r10.2)
  else
    (gR r2.2 9 x0 5).bind fun v3 =>
    (gR r2.2 9 x0 4).bind fun v4 =>
    (vc r2.2 5 v3 (f_X5_look v3 v4 r2.2)).bind fun h5 =>
    (gR h5 9 x0 5).bind fun v6 =>
    (gI h5 5 v6 0).bind fun v7 =>
    some (.inl v7, h5)
theorem y_X9_hall_J15 {g : xG} {h0 : xH} (x0 : Nat) (x1 : Int32) (s0 : Nat) (s1 : Int32) (h : xH) : Y g DX9_hall h0 false iIx (f_X9_hall_J15 x0 x1 s0 s1 h) 15 [some (.ref x0), some (.int x1), none] [.int s1, .ref s0] h := by
  unfold f_X9_hall_J15
  refine Y.callVx (As := [.int s1]) lk_X9_90 rfl cal_X9_demand vir_X9_demand (Nat.le_of_ble_eq_true rfl) (Nat.le_of_ble_eq_true rfl) rfl rfl rfl (Nat.le_of_ble_eq_true rfl) rfl dX9_hall_15 (fun _ e => m_X9_demand s0 s1 h _ e) (fun h1 => ?_)
  refine Y.op (pc' := 19) (fun _ => X.aloadn rfl dX9_hall_18) ?_
  refine Y.callVi (As := []) lk_X9_201 rfl cal_X9_makeMost vir_X9_makeMost (Nat.le_of_ble_eq_true rfl) (Nat.le_of_ble_eq_true rfl) rfl rfl rfl (Nat.le_of_ble_eq_true rfl) dX9_hall_19 (fun _ e => m_X9_makeMost x0 h1 _ _ e) (fun r2 => ?_)
  refine Y.op (pc' := 23) (loc' := [some (.ref x0), some (.int x1), some (.int r2.1)]) (fun _ => X.istoren (Nat.le_of_ble_eq_true rfl) rfl dX9_hall_22) ?_
  refine Y.op (pc' := 24) (fun _ => X.iloadn rfl dX9_hall_23) ?_
  refine Y.ifne 40 (by decide) dX9_hall_24 ?_ ?_
  · refine Y.op (pc' := 41) (fun _ => X.aloadn rfl dX9_hall_40) ?_
    refine Y.getR fd_X9_43 rfl dX9_hall_41 (fun v3 => ?_)
    refine Y.op (pc' := 45) (fun _ => X.aloadn rfl dX9_hall_44) ?_
    refine Y.getR fd_X9_36 rfl dX9_hall_45 (fun v4 => ?_)
    refine Y.callVv (As := [.ref v4]) lk_X9_204 rfl cal_X5_look vir_X5_look (Nat.le_of_ble_eq_true rfl) (Nat.le_of_ble_eq_true rfl) rfl rfl rfl (Nat.le_of_ble_eq_true rfl) dX9_hall_48 (fun _ e => m_X5_look v3 v4 r2.2 _ _ e) (fun h5 => ?_)
    refine Y.op (pc' := 52) (fun _ => X.aloadn rfl dX9_hall_51) ?_
    refine Y.getR fd_X9_43 rfl dX9_hall_52 (fun v6 => ?_)
    refine Y.getI fd_X9_208 rfl dX9_hall_55 (fun v7 => ?_)
    exact Y.ireturnx rfl dX9_hall_58
  · refine Y.op (pc' := 28) (fun _ => X.aloadn rfl dX9_hall_27) ?_
    refine Y.getR fd_X9_12 rfl dX9_hall_28 (fun v8 => ?_)
    refine Y.getI fd_X9_131 rfl dX9_hall_31 (fun v9 => ?_)
    refine Y.callSi (As := [.int v9]) lk_X9_229 rfl cal_J6_bitCount_0f7a4 sta_J6_bitCount_0f7a4 (Nat.le_of_ble_eq_true rfl) rfl rfl (Nat.le_of_ble_eq_true rfl) dX9_hall_34 (fun _ e => m_J6_bitCount_0f7a4 v9 r2.2 _ _ e) (fun r10 => ?_)
    refine Y.op (pc' := 38) (fun _ => X.iloadn rfl dX9_hall_37) ?_
    refine Y.op (pc' := 39) (fun _ => X.isub dX9_hall_38) ?_
    exact Y.ireturnx rfl dX9_hall_39
def f_X9_hall_J10 (x0 : Nat) (x1 : Int32) (s0 : Nat) (h : xH) : Option ((Int32 ⊕ String) × xH) :=
  f_X9_hall_J15 x0 x1 s0 (1 : Int32) h
theorem y_X9_hall_J10 {g : xG} {h0 : xH} (x0 : Nat) (x1 : Int32) (s0 : Nat) (h : xH) : Y g DX9_hall h0 false iIx (f_X9_hall_J10 x0 x1 s0 h) 10 [some (.ref x0), some (.int x1), none] [.ref s0] h := by
  unfold f_X9_hall_J10
  refine Y.op (pc' := 11) (fun _ => X.ic ki_1 dX9_hall_10) ?_
  refine Y.op (pc' := 15) (fun _ => X.goto 15 (by decide) dX9_hall_11) ?_
  exact y_X9_hall_J15 x0 x1 s0 (1 : Int32) h
def f_X9_hall (a0 : Nat) (p1 : Int32) (h : xH) : Option ((Int32 ⊕ String) × xH) :=
  if p1 = (0 : Int32) then
    f_X9_hall_J10 a0 p1 a0 h
  else
    if p1 = (1 : Int32) then
      f_X9_hall_J10 a0 p1 a0 h
    else
      f_X9_hall_J15 a0 p1 a0 (0 : Int32) h
theorem y_X9_hall {g : xG} {h0 : xH} (a0 : Nat) (p1 : Int32) (h : xH) : Y g DX9_hall h0 false iIx (f_X9_hall a0 p1 h) 0 [some (.ref a0), some (.int p1), none] [] h := by
  unfold f_X9_hall
  refine Y.op (pc' := 1) (fun _ => X.aloadn rfl dX9_hall_0) ?_
  refine Y.op (pc' := 2) (fun _ => X.iloadn rfl dX9_hall_1) ?_
  refine Y.ifeq 10 (by decide) dX9_hall_2 ?_ ?_
  · exact y_X9_hall_J10 a0 p1 a0 h
  · refine Y.op (pc' := 6) (fun _ => X.iloadn rfl dX9_hall_5) ?_
    refine Y.op (pc' := 7) (fun _ => X.ic ki_1 dX9_hall_6) ?_
    refine Y.cmpne 14 (by decide) dX9_hall_7 ?_ ?_
    · refine Y.op (pc' := 15) (fun _ => X.ic ki_0 dX9_hall_14) ?_
      exact y_X9_hall_J15 a0 p1 a0 (0 : Int32) h
    · exact y_X9_hall_J10 a0 p1 a0 h
theorem m_X9_hall {g : xG} (a0 : Nat) (p1 : Int32) (h : xH) (r : (Int32 ⊕ String) × xH) (e : f_X9_hall a0 p1 h = some r) : XM g DX9_hall [.ref a0, .int p1] h false (iIx r) := YM.of rfl rfl (Nat.le_of_ble_eq_true rfl) (y_X9_hall a0 p1 h) e
def f_X9_runTally_J33 (h : xH) : Option (xH) :=
  some h
theorem y_X9_runTally_J33 {g : xG} {h0 : xH} {cl : Bool} (h : xH) : Y g DX9_runTally h0 cl iV (f_X9_runTally_J33 h) 33 [none, none] [] h := by
  unfold f_X9_runTally_J33
  exact Y.vreturn rfl dX9_runTally_33
def f_X9_runTally (a0 : Nat) (h : xH) : Option (xH) :=
  (gI h 9 a0 9).bind fun v1 =>
  if v1 = (0 : Int32) then
    (vc h 9 a0 (f_X9_makeMost a0 h)).bind fun r2 =>
    (gR r2.2 9 a0 7).bind fun v3 =>
    (gR r2.2 9 a0 0).bind fun v4 =>
    (gR r2.2 9 a0 4).bind fun v5 =>
    (vc r2.2 8 v3 (f_X8_run v3 v4 v5 r2.1 r2.2)).bind fun h6 =>
    (pZ h6 9 a0 9 (1 : Int32)).bind fun h7 =>
    f_X9_runTally_J33 h7
  else
    f_X9_runTally_J33 h
theorem y_X9_runTally {g : xG} {h0 : xH} {cl : Bool} (a0 : Nat) (h : xH) : Y g DX9_runTally h0 cl iV (f_X9_runTally a0 h) 0 [some (.ref a0), none] [] h := by
  unfold f_X9_runTally
  refine Y.op (pc' := 1) (fun _ => X.aloadn rfl dX9_runTally_0) ?_
  refine Y.getI fd_X9_68 rfl dX9_runTally_1 (fun v1 => ?_)
  refine Y.ifne 33 (by decide) dX9_runTally_4 ?_ ?_
  · exact Y.fg (y_X9_runTally_J33 h) trivial
  · refine Y.op (pc' := 8) (fun _ => X.aloadn rfl dX9_runTally_7) ?_
    refine Y.callVi (As := []) lk_X9_201 rfl cal_X9_makeMost vir_X9_makeMost (Nat.le_of_ble_eq_true rfl) (Nat.le_of_ble_eq_true rfl) rfl rfl rfl (Nat.le_of_ble_eq_true rfl) dX9_runTally_8 (fun _ e => m_X9_makeMost a0 h _ _ e) (fun r2 => ?_)
    refine Y.op (pc' := 12) (loc' := [some (.ref a0), some (.int r2.1)]) (fun _ => X.istoren (Nat.le_of_ble_eq_true rfl) rfl dX9_runTally_11) ?_
    refine Y.op (pc' := 13) (fun _ => X.aloadn rfl dX9_runTally_12) ?_
    refine Y.getR fd_X9_57 rfl dX9_runTally_13 (fun v3 => ?_)
    refine Y.op (pc' := 17) (fun _ => X.aloadn rfl dX9_runTally_16) ?_
    refine Y.getR fd_X9_12 rfl dX9_runTally_17 (fun v4 => ?_)
    refine Y.op (pc' := 21) (fun _ => X.aloadn rfl dX9_runTally_20) ?_
    refine Y.getR fd_X9_36 rfl dX9_runTally_21 (fun v5 => ?_)
    refine Y.op (pc' := 25) (fun _ => X.iloadn rfl dX9_runTally_24) ?_
    refine Y.callVv (As := [.ref v4, .ref v5, .int r2.1]) lk_X9_358 rfl cal_X8_run vir_X8_run (Nat.le_of_ble_eq_true rfl) (Nat.le_of_ble_eq_true rfl) rfl rfl rfl (Nat.le_of_ble_eq_true rfl) dX9_runTally_25 (fun _ e => m_X8_run v3 v4 v5 r2.1 r2.2 _ _ e) (fun h6 => ?_)
    refine Y.op (pc' := 29) (fun _ => X.aloadn rfl dX9_runTally_28) ?_
    refine Y.op (pc' := 30) (fun _ => X.ic ki_1 dX9_runTally_29) ?_
    refine Y.putZ fd_X9_68 rfl dX9_runTally_30 (fun h7 => ?_)
    exact Y.fg (y_X9_runTally_J33 h7) trivial
theorem m_X9_runTally {g : xG} (a0 : Nat) (h : xH) (cl : Bool) (r : xH) (e : f_X9_runTally a0 h = some r) : XM g DX9_runTally [.ref a0] h cl (iV r) := YM.of rfl rfl (Nat.le_of_ble_eq_true rfl) (y_X9_runTally a0 h) e
def f_X9_many (a0 : Nat) (h : xH) : Option (Int64 × xH) :=
  (vc h 9 a0 (f_X9_runTally a0 h)).bind fun h1 =>
  (gR h1 9 a0 7).bind fun v2 =>
  (gJ h1 8 v2 5).bind fun v3 =>
  some (v3, h1)
theorem y_X9_many {g : xG} {h0 : xH} {cl : Bool} (a0 : Nat) (h : xH) : Y g DX9_many h0 cl iJ (f_X9_many a0 h) 0 [some (.ref a0)] [] h := by
  unfold f_X9_many
  refine Y.op (pc' := 1) (fun _ => X.aloadn rfl dX9_many_0) ?_
  refine Y.callVv (As := []) lk_X9_234 rfl cal_X9_runTally vir_X9_runTally (Nat.le_of_ble_eq_true rfl) (Nat.le_of_ble_eq_true rfl) rfl rfl rfl (Nat.le_of_ble_eq_true rfl) dX9_many_1 (fun _ e => m_X9_runTally a0 h _ _ e) (fun h1 => ?_)
  refine Y.op (pc' := 5) (fun _ => X.aloadn rfl dX9_many_4) ?_
  refine Y.getR fd_X9_57 rfl dX9_many_5 (fun v2 => ?_)
  refine Y.getJ fd_X9_237 rfl dX9_many_8 (fun v3 => ?_)
  exact Y.lreturn rfl dX9_many_11
theorem m_X9_many {g : xG} (a0 : Nat) (h : xH) (cl : Bool) (r : Int64 × xH) (e : f_X9_many a0 h = some r) : XM g DX9_many [.ref a0] h cl (iJ r) := YM.of rfl rfl (Nat.le_of_ble_eq_true rfl) (y_X9_many a0 h) e
def f_X9_cheap_J50 (s0 : Int32) (h : xH) : Option ((Int32 ⊕ String) × xH) :=
  some (.inl s0, h)
theorem y_X9_cheap_J50 {g : xG} {h0 : xH} (s0 : Int32) (h : xH) : Y g DX9_cheap h0 false iIx (f_X9_cheap_J50 s0 h) 50 [none, none] [.int s0] h := by
  unfold f_X9_cheap_J50
  exact Y.ireturnx rfl dX9_cheap_50
def f_X9_cheap_J15 (x0 : Nat) (x1 : Int32) (s0 : Nat) (s1 : Int32) (h : xH) : Option ((Int32 ⊕ String) × xH) :=
  (vc h 9 s0 (f_X9_demand s0 s1 h)).bind fun r => thr r fun h1 =>
  (vc h1 9 x0 (f_X9_runTally x0 h1)).bind fun h2 =>
  if x1 = (0 : Int32) then
    (gR h2 9 x0 7).bind fun v5 =>
    (gI h2 8 v5 7).bind fun v6 =>
    f_X9_cheap_J50 v6 h2
  else
    (gR h2 9 x0 7).bind fun v3 =>
    (gJ h2 8 v3 6).bind fun v4 =>
    f_X9_cheap_J50 ((lmin (1000000000 : Int64) v4).toInt32) h2
theorem y_X9_cheap_J15 {g : xG} {h0 : xH} (x0 : Nat) (x1 : Int32) (s0 : Nat) (s1 : Int32) (h : xH) : Y g DX9_cheap h0 false iIx (f_X9_cheap_J15 x0 x1 s0 s1 h) 15 [some (.ref x0), some (.int x1)] [.int s1, .ref s0] h := by
  unfold f_X9_cheap_J15
  refine Y.callVx (As := [.int s1]) lk_X9_90 rfl cal_X9_demand vir_X9_demand (Nat.le_of_ble_eq_true rfl) (Nat.le_of_ble_eq_true rfl) rfl rfl rfl (Nat.le_of_ble_eq_true rfl) rfl dX9_cheap_15 (fun _ e => m_X9_demand s0 s1 h _ e) (fun h1 => ?_)
  refine Y.op (pc' := 19) (fun _ => X.aloadn rfl dX9_cheap_18) ?_
  refine Y.callVv (As := []) lk_X9_234 rfl cal_X9_runTally vir_X9_runTally (Nat.le_of_ble_eq_true rfl) (Nat.le_of_ble_eq_true rfl) rfl rfl rfl (Nat.le_of_ble_eq_true rfl) dX9_cheap_19 (fun _ e => m_X9_runTally x0 h1 _ _ e) (fun h2 => ?_)
  refine Y.op (pc' := 23) (fun _ => X.iloadn rfl dX9_cheap_22) ?_
  refine Y.ifne 36 (by decide) dX9_cheap_23 ?_ ?_
  · refine Y.op (pc' := 39) (fun _ => X.ldcL wl_X9_244 rfl dX9_cheap_36) ?_
    refine Y.op (pc' := 40) (fun _ => X.aloadn rfl dX9_cheap_39) ?_
    refine Y.getR fd_X9_57 rfl dX9_cheap_40 (fun v3 => ?_)
    refine Y.getJ fd_X9_246 rfl dX9_cheap_43 (fun v4 => ?_)
    refine Y.mminJ mw_X9_249 rfl (Nat.le_of_ble_eq_true rfl) (Nat.le_of_ble_eq_true rfl) dX9_cheap_46 ?_
    refine Y.op (pc' := 50) (fun _ => X.l2i dX9_cheap_49) ?_
    exact Y.fg (y_X9_cheap_J50 ((lmin (1000000000 : Int64) v4).toInt32) h2) trivial
  · refine Y.op (pc' := 27) (fun _ => X.aloadn rfl dX9_cheap_26) ?_
    refine Y.getR fd_X9_57 rfl dX9_cheap_27 (fun v5 => ?_)
    refine Y.getI fd_X9_241 rfl dX9_cheap_30 (fun v6 => ?_)
    refine Y.op (pc' := 50) (fun _ => X.goto 50 (by decide) dX9_cheap_33) ?_
    exact Y.fg (y_X9_cheap_J50 v6 h2) trivial
def f_X9_cheap_J10 (x0 : Nat) (x1 : Int32) (s0 : Nat) (h : xH) : Option ((Int32 ⊕ String) × xH) :=
  f_X9_cheap_J15 x0 x1 s0 (1 : Int32) h
theorem y_X9_cheap_J10 {g : xG} {h0 : xH} (x0 : Nat) (x1 : Int32) (s0 : Nat) (h : xH) : Y g DX9_cheap h0 false iIx (f_X9_cheap_J10 x0 x1 s0 h) 10 [some (.ref x0), some (.int x1)] [.ref s0] h := by
  unfold f_X9_cheap_J10
  refine Y.op (pc' := 11) (fun _ => X.ic ki_1 dX9_cheap_10) ?_
  refine Y.op (pc' := 15) (fun _ => X.goto 15 (by decide) dX9_cheap_11) ?_
  exact y_X9_cheap_J15 x0 x1 s0 (1 : Int32) h
def f_X9_cheap (a0 : Nat) (p1 : Int32) (h : xH) : Option ((Int32 ⊕ String) × xH) :=
  if p1 = (0 : Int32) then
    f_X9_cheap_J10 a0 p1 a0 h
  else
    if p1 = (1 : Int32) then
      f_X9_cheap_J10 a0 p1 a0 h
    else
      f_X9_cheap_J15 a0 p1 a0 (0 : Int32) h
theorem y_X9_cheap {g : xG} {h0 : xH} (a0 : Nat) (p1 : Int32) (h : xH) : Y g DX9_cheap h0 false iIx (f_X9_cheap a0 p1 h) 0 [some (.ref a0), some (.int p1)] [] h := by
  unfold f_X9_cheap
  refine Y.op (pc' := 1) (fun _ => X.aloadn rfl dX9_cheap_0) ?_
  refine Y.op (pc' := 2) (fun _ => X.iloadn rfl dX9_cheap_1) ?_
  refine Y.ifeq 10 (by decide) dX9_cheap_2 ?_ ?_
  · exact y_X9_cheap_J10 a0 p1 a0 h
  · refine Y.op (pc' := 6) (fun _ => X.iloadn rfl dX9_cheap_5) ?_
    refine Y.op (pc' := 7) (fun _ => X.ic ki_1 dX9_cheap_6) ?_
    refine Y.cmpne 14 (by decide) dX9_cheap_7 ?_ ?_
    · refine Y.op (pc' := 15) (fun _ => X.ic ki_0 dX9_cheap_14) ?_
      exact y_X9_cheap_J15 a0 p1 a0 (0 : Int32) h
    · exact y_X9_cheap_J10 a0 p1 a0 h
theorem m_X9_cheap {g : xG} (a0 : Nat) (p1 : Int32) (h : xH) (r : (Int32 ⊕ String) × xH) (e : f_X9_cheap a0 p1 h = some r) : XM g DX9_cheap [.ref a0, .int p1] h false (iIx r) := YM.of rfl rfl (Nat.le_of_ble_eq_true rfl) (y_X9_cheap a0 p1 h) e
def f_X9_wouldGrow_J45 (s0 : Int32) (h : xH) : Option (Int32 × xH) :=
  if s0 = 0 ∨ s0 = 1 then some (s0, h) else none
theorem y_X9_wouldGrow_J45 {g : xG} {h0 : xH} {cl : Bool} (s0 : Int32) (h : xH) : Y g DX9_wouldGrow h0 cl iI (f_X9_wouldGrow_J45 s0 h) 45 [none, none, none] [.int s0] h := by
  unfold f_X9_wouldGrow_J45
  exact Y.zreturn rfl dX9_wouldGrow_45
def f_X9_wouldGrow_J44 (h : xH) : Option (Int32 × xH) :=
  f_X9_wouldGrow_J45 (0 : Int32) h
theorem y_X9_wouldGrow_J44 {g : xG} {h0 : xH} {cl : Bool} (h : xH) : Y g DX9_wouldGrow h0 cl iI (f_X9_wouldGrow_J44 h) 44 [none, none, none] [] h := by
  unfold f_X9_wouldGrow_J44
  refine Y.op (pc' := 45) (fun _ => X.ic ki_0 dX9_wouldGrow_44) ?_
  exact y_X9_wouldGrow_J45 (0 : Int32) h
def f_X9_wouldGrow (a0 : Nat) (p1 : Int32) (p2 : Int32) (h : xH) : Option (Int32 × xH) :=
  (gR h 9 a0 0).bind fun v1 =>
  (vc h 0 v1 (f_X0_isFit v1 p1 p2 h)).bind fun r2 =>
  if r2.1 = (0 : Int32) then
    (gR r2.2 9 a0 5).bind fun v3 =>
    (gI r2.2 5 v3 0).bind fun v4 =>
    (f_X9_has v4 p1 r2.2).bind fun r5 =>
    if r5.1 = (0 : Int32) then
      f_X9_wouldGrow_J44 r5.2
    else
      (gR r5.2 9 a0 5).bind fun v6 =>
      (gI r5.2 5 v6 3).bind fun v7 =>
      (f_X9_has v7 p2 r5.2).bind fun r8 =>
      if r8.1 = (0 : Int32) then
        f_X9_wouldGrow_J44 r8.2
      else
        f_X9_wouldGrow_J45 (1 : Int32) r8.2
  else
    f_X9_wouldGrow_J44 r2.2
theorem y_X9_wouldGrow {g : xG} {h0 : xH} {cl : Bool} (a0 : Nat) (p1 : Int32) (p2 : Int32) (h : xH) : Y g DX9_wouldGrow h0 cl iI (f_X9_wouldGrow a0 p1 p2 h) 0 [some (.ref a0), some (.int p1), some (.int p2)] [] h := by
  unfold f_X9_wouldGrow
  refine Y.op (pc' := 1) (fun _ => X.aloadn rfl dX9_wouldGrow_0) ?_
  refine Y.getR fd_X9_12 rfl dX9_wouldGrow_1 (fun v1 => ?_)
  refine Y.op (pc' := 5) (fun _ => X.iloadn rfl dX9_wouldGrow_4) ?_
  refine Y.op (pc' := 6) (fun _ => X.iloadn rfl dX9_wouldGrow_5) ?_
  refine Y.callVi (As := [.int p1, .int p2]) lk_X9_303 rfl cal_X0_isFit vir_X0_isFit (Nat.le_of_ble_eq_true rfl) (Nat.le_of_ble_eq_true rfl) rfl rfl rfl (Nat.le_of_ble_eq_true rfl) dX9_wouldGrow_6 (fun _ e => m_X0_isFit v1 p1 p2 h _ _ e) (fun r2 => ?_)
  refine Y.ifne 44 (by decide) dX9_wouldGrow_9 ?_ ?_
  · exact Y.fg (y_X9_wouldGrow_J44 r2.2) trivial
  · refine Y.op (pc' := 13) (fun _ => X.aloadn rfl dX9_wouldGrow_12) ?_
    refine Y.getR fd_X9_43 rfl dX9_wouldGrow_13 (fun v3 => ?_)
    refine Y.getI fd_X9_208 rfl dX9_wouldGrow_16 (fun v4 => ?_)
    refine Y.op (pc' := 20) (fun _ => X.iloadn rfl dX9_wouldGrow_19) ?_
    refine Y.callSi (As := [.int v4, .int p1]) lk_X9_226 rfl cal_X9_has sta_X9_has (Nat.le_of_ble_eq_true rfl) rfl rfl (Nat.le_of_ble_eq_true rfl) dX9_wouldGrow_20 (fun _ e => m_X9_has v4 p1 r2.2 _ _ e) (fun r5 => ?_)
    refine Y.ifeq 44 (by decide) dX9_wouldGrow_23 ?_ ?_
    · exact Y.fg (y_X9_wouldGrow_J44 r5.2) trivial
    · refine Y.op (pc' := 27) (fun _ => X.aloadn rfl dX9_wouldGrow_26) ?_
      refine Y.getR fd_X9_43 rfl dX9_wouldGrow_27 (fun v6 => ?_)
      refine Y.getI fd_X9_364 rfl dX9_wouldGrow_30 (fun v7 => ?_)
      refine Y.op (pc' := 34) (fun _ => X.iloadn rfl dX9_wouldGrow_33) ?_
      refine Y.callSi (As := [.int v7, .int p2]) lk_X9_226 rfl cal_X9_has sta_X9_has (Nat.le_of_ble_eq_true rfl) rfl rfl (Nat.le_of_ble_eq_true rfl) dX9_wouldGrow_34 (fun _ e => m_X9_has v7 p2 r5.2 _ _ e) (fun r8 => ?_)
      refine Y.ifeq 44 (by decide) dX9_wouldGrow_37 ?_ ?_
      · exact Y.fg (y_X9_wouldGrow_J44 r8.2) trivial
      · refine Y.op (pc' := 41) (fun _ => X.ic ki_1 dX9_wouldGrow_40) ?_
        refine Y.op (pc' := 45) (fun _ => X.goto 45 (by decide) dX9_wouldGrow_41) ?_
        exact Y.fg (y_X9_wouldGrow_J45 (1 : Int32) r8.2) trivial
theorem m_X9_wouldGrow {g : xG} (a0 : Nat) (p1 : Int32) (p2 : Int32) (h : xH) (cl : Bool) (r : Int32 × xH) (e : f_X9_wouldGrow a0 p1 p2 h = some r) : XM g DX9_wouldGrow [.ref a0, .int p1, .int p2] h cl (iI r) := YM.of rfl rfl (Nat.le_of_ble_eq_true rfl) (y_X9_wouldGrow a0 p1 p2 h) e
def f_X9_more_J121 (s0 : Int32) (h : xH) : Option ((Int32 ⊕ String) × xH) :=
  some (.inl s0, h)
theorem y_X9_more_J121 {g : xG} {h0 : xH} (s0 : Int32) (h : xH) : Y g DX9_more h0 false iIx (f_X9_more_J121 s0 h) 121 [none, none, none, none, none, none] [.int s0] h := by
  unfold f_X9_more_J121
  exact Y.ireturnx rfl dX9_more_121
def f_X9_more_J112 (x1 : Int32) (x2 : Int32) (x3 : Int32) (h : xH) : Option ((Int32 ⊕ String) × xH) :=
  if x1 = (0 : Int32) then
    f_X9_more_J121 x2 h
  else
    f_X9_more_J121 x3 h
theorem y_X9_more_J112 {g : xG} {h0 : xH} (x1 : Int32) (x2 : Int32) (x3 : Int32) (h : xH) : Y g DX9_more h0 false iIx (f_X9_more_J112 x1 x2 x3 h) 112 [none, some (.int x1), some (.int x2), some (.int x3), none, none] [] h := by
  unfold f_X9_more_J112
  refine Y.op (pc' := 113) (fun _ => X.iloadn rfl dX9_more_112) ?_
  refine Y.ifne 120 (by decide) dX9_more_113 ?_ ?_
  · refine Y.op (pc' := 121) (fun _ => X.iloadn rfl dX9_more_120) ?_
    exact Y.fg (y_X9_more_J121 x3 h) trivial
  · refine Y.op (pc' := 117) (fun _ => X.iloadn rfl dX9_more_116) ?_
    refine Y.op (pc' := 121) (fun _ => X.goto 121 (by decide) dX9_more_117) ?_
    exact Y.fg (y_X9_more_J121 x2 h) trivial
def f_X9_more_J106 (kH : Nat → Int32 → Int32 → Int32 → Int32 → xH → Option ((Int32 ⊕ String) × xH)) (kE112 : Int32 → Int32 → Int32 → xH → Option ((Int32 ⊕ String) × xH)) (x0 : Nat) (x1 : Int32) (x2 : Int32) (x3 : Int32) (x4 : Int32) (h : xH) : Option ((Int32 ⊕ String) × xH) :=
  lt (x4 + (1 : Int32)) fun v1 =>
  kH x0 x1 x2 x3 v1 h
theorem y_X9_more_J106 {g : xG} {h0 : xH} {kH : Nat → Int32 → Int32 → Int32 → Int32 → xH → Option ((Int32 ⊕ String) × xH)} {kE112 : Int32 → Int32 → Int32 → xH → Option ((Int32 ⊕ String) × xH)} (hkH : ∀ (x0 : Nat) (x1 : Int32) (x2 : Int32) (x3 : Int32) (x4 : Int32) (h : xH), Y g DX9_more h0 false iIx (kH x0 x1 x2 x3 x4 h) 41 [some (.ref x0), some (.int x1), some (.int x2), some (.int x3), some (.int x4), none] [] h) (hkE112 : ∀ (x1 : Int32) (x2 : Int32) (x3 : Int32) (h : xH), Y g DX9_more h0 false iIx (kE112 x1 x2 x3 h) 112 [none, some (.int x1), some (.int x2), some (.int x3), none, none] [] h) (x0 : Nat) (x1 : Int32) (x2 : Int32) (x3 : Int32) (x4 : Int32) (h : xH) : Y g DX9_more h0 false iIx (f_X9_more_J106 kH kE112 x0 x1 x2 x3 x4 h) 106 [some (.ref x0), some (.int x1), some (.int x2), some (.int x3), some (.int x4), none] [] h := by
  unfold f_X9_more_J106
  refine Y.iinc (i := 4) (loc' := fun v1 => [some (.ref x0), some (.int x1), some (.int x2), some (.int x3), some (.int v1), none]) rfl (Nat.le_of_ble_eq_true rfl) ki_1 (fun _ => rfl) dX9_more_106 (fun v1 => ?_)
  refine Y.op (pc' := 41) (fun _ => X.goto 41 (by decide) dX9_more_109) ?_
  exact hkH x0 x1 x2 x3 v1 h
def f_X9_more_J100 (kH : Nat → Int32 → Int32 → Int32 → Int32 → Int32 → xH → Option ((Int32 ⊕ String) × xH)) (kE106 : Nat → Int32 → Int32 → Int32 → Int32 → xH → Option ((Int32 ⊕ String) × xH)) (x0 : Nat) (x1 : Int32) (x2 : Int32) (x3 : Int32) (x4 : Int32) (x5 : Int32) (h : xH) : Option ((Int32 ⊕ String) × xH) :=
  lt (x5 + (1 : Int32)) fun v1 =>
  kH x0 x1 x2 x3 x4 v1 h
theorem y_X9_more_J100 {g : xG} {h0 : xH} {kH : Nat → Int32 → Int32 → Int32 → Int32 → Int32 → xH → Option ((Int32 ⊕ String) × xH)} {kE106 : Nat → Int32 → Int32 → Int32 → Int32 → xH → Option ((Int32 ⊕ String) × xH)} (hkH : ∀ (x0 : Nat) (x1 : Int32) (x2 : Int32) (x3 : Int32) (x4 : Int32) (x5 : Int32) (h : xH), Y g DX9_more h0 false iIx (kH x0 x1 x2 x3 x4 x5 h) 56 [some (.ref x0), some (.int x1), some (.int x2), some (.int x3), some (.int x4), some (.int x5)] [] h) (hkE106 : ∀ (x0 : Nat) (x1 : Int32) (x2 : Int32) (x3 : Int32) (x4 : Int32) (h : xH), Y g DX9_more h0 false iIx (kE106 x0 x1 x2 x3 x4 h) 106 [some (.ref x0), some (.int x1), some (.int x2), some (.int x3), some (.int x4), none] [] h) (x0 : Nat) (x1 : Int32) (x2 : Int32) (x3 : Int32) (x4 : Int32) (x5 : Int32) (h : xH) : Y g DX9_more h0 false iIx (f_X9_more_J100 kH kE106 x0 x1 x2 x3 x4 x5 h) 100 [some (.ref x0), some (.int x1), some (.int x2), some (.int x3), some (.int x4), some (.int x5)] [] h := by
  unfold f_X9_more_J100
  refine Y.iinc (i := 5) (loc' := fun v1 => [some (.ref x0), some (.int x1), some (.int x2), some (.int x3), some (.int x4), some (.int v1)]) rfl (Nat.le_of_ble_eq_true rfl) ki_1 (fun _ => rfl) dX9_more_100 (fun v1 => ?_)
  refine Y.op (pc' := 56) (fun _ => X.goto 56 (by decide) dX9_more_103) ?_
  exact hkH x0 x1 x2 x3 x4 v1 h
def f_X9_more_J99 (kH : Nat → Int32 → Int32 → Int32 → Int32 → Int32 → xH → Option ((Int32 ⊕ String) × xH)) (kE106 : Nat → Int32 → Int32 → Int32 → Int32 → xH → Option ((Int32 ⊕ String) × xH)) (x0 : Nat) (x1 : Int32) (x2 : Int32) (x4 : Int32) (x5 : Int32) (s0 : Int32) (h : xH) : Option ((Int32 ⊕ String) × xH) :=
  f_X9_more_J100 (kH) kE106 x0 x1 x2 s0 x4 x5 h
theorem y_X9_more_J99 {g : xG} {h0 : xH} {kH : Nat → Int32 → Int32 → Int32 → Int32 → Int32 → xH → Option ((Int32 ⊕ String) × xH)} {kE106 : Nat → Int32 → Int32 → Int32 → Int32 → xH → Option ((Int32 ⊕ String) × xH)} (hkH : ∀ (x0 : Nat) (x1 : Int32) (x2 : Int32) (x3 : Int32) (x4 : Int32) (x5 : Int32) (h : xH), Y g DX9_more h0 false iIx (kH x0 x1 x2 x3 x4 x5 h) 56 [some (.ref x0), some (.int x1), some (.int x2), some (.int x3), some (.int x4), some (.int x5)] [] h) (hkE106 : ∀ (x0 : Nat) (x1 : Int32) (x2 : Int32) (x3 : Int32) (x4 : Int32) (h : xH), Y g DX9_more h0 false iIx (kE106 x0 x1 x2 x3 x4 h) 106 [some (.ref x0), some (.int x1), some (.int x2), some (.int x3), some (.int x4), none] [] h) (x0 : Nat) (x1 : Int32) (x2 : Int32) (x4 : Int32) (x5 : Int32) (s0 : Int32) (h : xH) : Y g DX9_more h0 false iIx (f_X9_more_J99 kH kE106 x0 x1 x2 x4 x5 s0 h) 99 [some (.ref x0), some (.int x1), some (.int x2), none, some (.int x4), some (.int x5)] [.int s0] h := by
  unfold f_X9_more_J99
  refine Y.op (pc' := 100) (loc' := [some (.ref x0), some (.int x1), some (.int x2), some (.int s0), some (.int x4), some (.int x5)]) (fun _ => X.istoren (Nat.le_of_ble_eq_true rfl) rfl dX9_more_99) ?_
  exact y_X9_more_J100 hkH hkE106 x0 x1 x2 s0 x4 x5 h
def f_X9_more_L56 (kE106 : Nat → Int32 → Int32 → Int32 → Int32 → xH → Option ((Int32 ⊕ String) × xH)) : Nat → Nat → Int32 → Int32 → Int32 → Int32 → Int32 → xH → Option ((Int32 ⊕ String) × xH)
  | 0 => fun _ _ _ _ _ _ _ => none
  | n + 1 => fun x0 x1 x2 x3 x4 x5 h =>
    (gR h 9 x0 0).bind fun v1 =>
    (gI h 0 v1 1).bind fun v2 =>
    if x5 ≥ v2 then
      kE106 x0 x1 x2 x3 x4 h
    else
      (vc h 9 x0 (f_X9_wouldGrow x0 x4 x5 h)).bind fun r3 =>
      if r3.1 = (0 : Int32) then
        f_X9_more_J100 (f_X9_more_L56 kE106 n) kE106 x0 x1 x2 x3 x4 x5 r3.2
      else
        lt (x2 + (1 : Int32)) fun v4 =>
        if x3 = (-1 : Int32) then
          f_X9_more_J99 (f_X9_more_L56 kE106 n) kE106 x0 x1 v4 x4 x5 (((100 : Int32) * x4) + x5) r3.2
        else
          f_X9_more_J99 (f_X9_more_L56 kE106 n) kE106 x0 x1 v4 x4 x5 x3 r3.2
theorem y_X9_more_L56 {g : xG} {h0 : xH} {kE106 : Nat → Int32 → Int32 → Int32 → Int32 → xH → Option ((Int32 ⊕ String) × xH)} (hkE106 : ∀ (x0 : Nat) (x1 : Int32) (x2 : Int32) (x3 : Int32) (x4 : Int32) (h : xH), Y g DX9_more h0 false iIx (kE106 x0 x1 x2 x3 x4 h) 106 [some (.ref x0), some (.int x1), some (.int x2), some (.int x3), some (.int x4), none] [] h) : ∀ (n : Nat) (x0 : Nat) (x1 : Int32) (x2 : Int32) (x3 : Int32) (x4 : Int32) (x5 : Int32) (h : xH), Y g DX9_more h0 false iIx (f_X9_more_L56 kE106 n x0 x1 x2 x3 x4 x5 h) 56 [some (.ref x0), some (.int x1), some (.int x2), some (.int x3), some (.int x4), some (.int x5)] [] h := by
  intro n
  induction n with
  | zero => intro x0 x1 x2 x3 x4 x5 h; exact Y.nothing
  | succ n ih =>
    intro x0 x1 x2 x3 x4 x5 h
    unfold f_X9_more_L56
    refine Y.op (pc' := 58) (fun _ => X.iload rfl dX9_more_56) ?_
    refine Y.op (pc' := 59) (fun _ => X.aloadn rfl dX9_more_58) ?_
    refine Y.getR fd_X9_12 rfl dX9_more_59 (fun v1 => ?_)
    refine Y.getI fd_X9_122 rfl dX9_more_62 (fun v2 => ?_)
    refine Y.cmpge 106 (by decide) dX9_more_65 ?_ ?_
    · exact Y.fg (hkE106 x0 x1 x2 x3 x4 h) (And.intro rfl (And.intro rfl (And.intro rfl (And.intro rfl (And.intro rfl trivial)))))
    · refine Y.op (pc' := 69) (fun _ => X.aloadn rfl dX9_more_68) ?_
      refine Y.op (pc' := 71) (fun _ => X.iload rfl dX9_more_69) ?_
      refine Y.op (pc' := 73) (fun _ => X.iload rfl dX9_more_71) ?_
      refine Y.callVi (As := [.int x4, .int x5]) lk_X9_263 rfl cal_X9_wouldGrow vir_X9_wouldGrow (Nat.le_of_ble_eq_true rfl) (Nat.le_of_ble_eq_true rfl) rfl rfl rfl (Nat.le_of_ble_eq_true rfl) dX9_more_73 (fun _ e => m_X9_wouldGrow x0 x4 x5 h _ _ e) (fun r3 => ?_)
      refine Y.ifeq 100 (by decide) dX9_more_76 ?_ ?_
      · exact y_X9_more_J100 ih hkE106 x0 x1 x2 x3 x4 x5 r3.2
      · refine Y.iinc (i := 2) (loc' := fun v4 => [some (.ref x0), some (.int x1), some (.int v4), some (.int x3), some (.int x4), some (.int x5)]) rfl (Nat.le_of_ble_eq_true rfl) ki_1 (fun _ => rfl) dX9_more_79 (fun v4 => ?_)
        refine Y.op (pc' := 83) (fun _ => X.iloadn rfl dX9_more_82) ?_
        refine Y.op (pc' := 84) (fun _ => X.ic ki_m1 dX9_more_83) ?_
        refine Y.cmpne 98 (by decide) dX9_more_84 ?_ ?_
        · refine Y.op (pc' := 99) (fun _ => X.iloadn rfl dX9_more_98) ?_
          exact Y.fg (y_X9_more_J99 ih hkE106 x0 x1 v4 x4 x5 x3 r3.2) (And.intro rfl (And.intro rfl (And.intro rfl (And.intro rfl (And.intro rfl trivial)))))
        · refine Y.op (pc' := 89) (fun _ => X.bp kb_100 dX9_more_87) ?_
          refine Y.op (pc' := 91) (fun _ => X.iload rfl dX9_more_89) ?_
          refine Y.op (pc' := 92) (fun _ => X.imul dX9_more_91) ?_
          refine Y.op (pc' := 94) (fun _ => X.iload rfl dX9_more_92) ?_
          refine Y.op (pc' := 95) (fun _ => X.iadd dX9_more_94) ?_
          refine Y.op (pc' := 99) (fun _ => X.goto 99 (by decide) dX9_more_95) ?_
          exact Y.fg (y_X9_more_J99 ih hkE106 x0 x1 v4 x4 x5 (((100 : Int32) * x4) + x5) r3.2) (And.intro rfl (And.intro rfl (And.intro rfl (And.intro rfl (And.intro rfl trivial)))))
def f_X9_more_L41 (kE112 : Int32 → Int32 → Int32 → xH → Option ((Int32 ⊕ String) × xH)) : Nat → Nat → Int32 → Int32 → Int32 → Int32 → xH → Option ((Int32 ⊕ String) × xH)
  | 0 => fun _ _ _ _ _ _ => none
  | n + 1 => fun x0 x1 x2 x3 x4 h =>
    (gR h 9 x0 0).bind fun v1 =>
    (gI h 0 v1 0).bind fun v2 =>
    if x4 ≥ v2 then
      kE112 x1 x2 x3 h
    else
      f_X9_more_L56 (f_X9_more_J106 (f_X9_more_L41 kE112 n) kE112) 5000 x0 x1 x2 x3 x4 (0 : Int32) h
theorem y_X9_more_L41 {g : xG} {h0 : xH} {kE112 : Int32 → Int32 → Int32 → xH → Option ((Int32 ⊕ String) × xH)} (hkE112 : ∀ (x1 : Int32) (x2 : Int32) (x3 : Int32) (h : xH), Y g DX9_more h0 false iIx (kE112 x1 x2 x3 h) 112 [none, some (.int x1), some (.int x2), some (.int x3), none, none] [] h) : ∀ (n : Nat) (x0 : Nat) (x1 : Int32) (x2 : Int32) (x3 : Int32) (x4 : Int32) (h : xH), Y g DX9_more h0 false iIx (f_X9_more_L41 kE112 n x0 x1 x2 x3 x4 h) 41 [some (.ref x0), some (.int x1), some (.int x2), some (.int x3), some (.int x4), none] [] h := by
  intro n
  induction n with
  | zero => intro x0 x1 x2 x3 x4 h; exact Y.nothing
  | succ n ih =>
    intro x0 x1 x2 x3 x4 h
    unfold f_X9_more_L41
    refine Y.op (pc' := 43) (fun _ => X.iload rfl dX9_more_41) ?_
    refine Y.op (pc' := 44) (fun _ => X.aloadn rfl dX9_more_43) ?_
    refine Y.getR fd_X9_12 rfl dX9_more_44 (fun v1 => ?_)
    refine Y.getI fd_X9_119 rfl dX9_more_47 (fun v2 => ?_)
    refine Y.cmpge 112 (by decide) dX9_more_50 ?_ ?_
    · exact Y.fg (hkE112 x1 x2 x3 h) (And.intro rfl (And.intro rfl (And.intro rfl trivial)))
    · refine Y.op (pc' := 54) (fun _ => X.ic ki_0 dX9_more_53) ?_
      refine Y.op (pc' := 56) (loc' := [some (.ref x0), some (.int x1), some (.int x2), some (.int x3), some (.int x4), some (.int (0 : Int32))]) (fun _ => X.istore (Nat.le_of_ble_eq_true rfl) rfl dX9_more_54) ?_
      exact y_X9_more_L56 (y_X9_more_J106 ih hkE112) 5000 x0 x1 x2 x3 x4 (0 : Int32) h
def f_X9_more_J15 (x0 : Nat) (x1 : Int32) (s0 : Nat) (s1 : Int32) (h : xH) : Option ((Int32 ⊕ String) × xH) :=
  (vc h 9 s0 (f_X9_demand s0 s1 h)).bind fun r => thr r fun h1 =>
  (vc h1 9 x0 (f_X9_makeMost x0 h1)).bind fun r2 =>
  (gR r2.2 9 x0 5).bind fun v3 =>
  (gR r2.2 9 x0 4).bind fun v4 =>
  (vc r2.2 5 v3 (f_X5_look v3 v4 r2.2)).bind fun h5 =>
  f_X9_more_L41 (f_X9_more_J112) 5000 x0 x1 (0 : Int32) (-1 : Int32) (0 : Int32) h5
theorem y_X9_more_J15 {g : xG} {h0 : xH} (x0 : Nat) (x1 : Int32) (s0 : Nat) (s1 : Int32) (h : xH) : Y g DX9_more h0 false iIx (f_X9_more_J15 x0 x1 s0 s1 h) 15 [some (.ref x0), some (.int x1), none, none, none, none] [.int s1, .ref s0] h := by
  unfold f_X9_more_J15
  refine Y.callVx (As := [.int s1]) lk_X9_90 rfl cal_X9_demand vir_X9_demand (Nat.le_of_ble_eq_true rfl) (Nat.le_of_ble_eq_true rfl) rfl rfl rfl (Nat.le_of_ble_eq_true rfl) rfl dX9_more_15 (fun _ e => m_X9_demand s0 s1 h _ e) (fun h1 => ?_)
  refine Y.op (pc' := 19) (fun _ => X.aloadn rfl dX9_more_18) ?_
  refine Y.callVi (As := []) lk_X9_201 rfl cal_X9_makeMost vir_X9_makeMost (Nat.le_of_ble_eq_true rfl) (Nat.le_of_ble_eq_true rfl) rfl rfl rfl (Nat.le_of_ble_eq_true rfl) dX9_more_19 (fun _ e => m_X9_makeMost x0 h1 _ _ e) (fun r2 => ?_)
  refine Y.op (pc' := 23) (fun _ => X.pop rfl dX9_more_22) ?_
  refine Y.op (pc' := 24) (fun _ => X.aloadn rfl dX9_more_23) ?_
  refine Y.getR fd_X9_43 rfl dX9_more_24 (fun v3 => ?_)
  refine Y.op (pc' := 28) (fun _ => X.aloadn rfl dX9_more_27) ?_
  refine Y.getR fd_X9_36 rfl dX9_more_28 (fun v4 => ?_)
  refine Y.callVv (As := [.ref v4]) lk_X9_204 rfl cal_X5_look vir_X5_look (Nat.le_of_ble_eq_true rfl) (Nat.le_of_ble_eq_true rfl) rfl rfl rfl (Nat.le_of_ble_eq_true rfl) dX9_more_31 (fun _ e => m_X5_look v3 v4 r2.2 _ _ e) (fun h5 => ?_)
  refine Y.op (pc' := 35) (fun _ => X.ic ki_0 dX9_more_34) ?_
  refine Y.op (pc' := 36) (loc' := [some (.ref x0), some (.int x1), some (.int (0 : Int32)), none, none, none]) (fun _ => X.istoren (Nat.le_of_ble_eq_true rfl) rfl dX9_more_35) ?_
  refine Y.op (pc' := 37) (fun _ => X.ic ki_m1 dX9_more_36) ?_
  refine Y.op (pc' := 38) (loc' := [some (.ref x0), some (.int x1), some (.int (0 : Int32)), some (.int (-1 : Int32)), none, none]) (fun _ => X.istoren (Nat.le_of_ble_eq_true rfl) rfl dX9_more_37) ?_
  refine Y.op (pc' := 39) (fun _ => X.ic ki_0 dX9_more_38) ?_
  refine Y.op (pc' := 41) (loc' := [some (.ref x0), some (.int x1), some (.int (0 : Int32)), some (.int (-1 : Int32)), some (.int (0 : Int32)), none]) (fun _ => X.istore (Nat.le_of_ble_eq_true rfl) rfl dX9_more_39) ?_
  exact y_X9_more_L41 (y_X9_more_J112) 5000 x0 x1 (0 : Int32) (-1 : Int32) (0 : Int32) h5
def f_X9_more_J10 (x0 : Nat) (x1 : Int32) (s0 : Nat) (h : xH) : Option ((Int32 ⊕ String) × xH) :=
  f_X9_more_J15 x0 x1 s0 (1 : Int32) h
theorem y_X9_more_J10 {g : xG} {h0 : xH} (x0 : Nat) (x1 : Int32) (s0 : Nat) (h : xH) : Y g DX9_more h0 false iIx (f_X9_more_J10 x0 x1 s0 h) 10 [some (.ref x0), some (.int x1), none, none, none, none] [.ref s0] h := by
  unfold f_X9_more_J10
  refine Y.op (pc' := 11) (fun _ => X.ic ki_1 dX9_more_10) ?_
  refine Y.op (pc' := 15) (fun _ => X.goto 15 (by decide) dX9_more_11) ?_
  exact y_X9_more_J15 x0 x1 s0 (1 : Int32) h
def f_X9_more (a0 : Nat) (p1 : Int32) (h : xH) : Option ((Int32 ⊕ String) × xH) :=
  if p1 = (0 : Int32) then
    f_X9_more_J10 a0 p1 a0 h
  else
    if p1 = (1 : Int32) then
      f_X9_more_J10 a0 p1 a0 h
    else
      f_X9_more_J15 a0 p1 a0 (0 : Int32) h
theorem y_X9_more {g : xG} {h0 : xH} (a0 : Nat) (p1 : Int32) (h : xH) : Y g DX9_more h0 false iIx (f_X9_more a0 p1 h) 0 [some (.ref a0), some (.int p1), none, none, none, none] [] h := by
  unfold f_X9_more
  refine Y.op (pc' := 1) (fun _ => X.aloadn rfl dX9_more_0) ?_
  refine Y.op (pc' := 2) (fun _ => X.iloadn rfl dX9_more_1) ?_
  refine Y.ifeq 10 (by decide) dX9_more_2 ?_ ?_
  · exact y_X9_more_J10 a0 p1 a0 h
  · refine Y.op (pc' := 6) (fun _ => X.iloadn rfl dX9_more_5) ?_
    refine Y.op (pc' := 7) (fun _ => X.ic ki_1 dX9_more_6) ?_
    refine Y.cmpne 14 (by decide) dX9_more_7 ?_ ?_
    · refine Y.op (pc' := 15) (fun _ => X.ic ki_0 dX9_more_14) ?_
      exact y_X9_more_J15 a0 p1 a0 (0 : Int32) h
    · exact y_X9_more_J10 a0 p1 a0 h
theorem m_X9_more {g : xG} (a0 : Nat) (p1 : Int32) (h : xH) (r : (Int32 ⊕ String) × xH) (e : f_X9_more a0 p1 h = some r) : XM g DX9_more [.ref a0, .int p1] h false (iIx r) := YM.of rfl rfl (Nat.le_of_ble_eq_true rfl) (y_X9_more a0 p1 h) e
def f_X9_firstAlways_J82 (h : xH) : Option (Int32 × xH) :=
  some ((-1 : Int32), h)
theorem y_X9_firstAlways_J82 {g : xG} {h0 : xH} {cl : Bool} (h : xH) : Y g DX9_firstAlways h0 cl iI (f_X9_firstAlways_J82 h) 82 [none, none, none] [] h := by
  unfold f_X9_firstAlways_J82
  refine Y.op (pc' := 83) (fun _ => X.ic ki_m1 dX9_firstAlways_82) ?_
  exact Y.ireturn rfl dX9_firstAlways_83
def f_X9_firstAlways_J69 (x1 : Int32) (x2 : Int32) (h : xH) : Option (Int32 × xH) :=
  some ((((100 : Int32) * x1) + x2), h)
theorem y_X9_firstAlways_J69 {g : xG} {h0 : xH} {cl : Bool} (x1 : Int32) (x2 : Int32) (h : xH) : Y g DX9_firstAlways h0 cl iI (f_X9_firstAlways_J69 x1 x2 h) 69 [none, some (.int x1), some (.int x2)] [] h := by
  unfold f_X9_firstAlways_J69
  refine Y.op (pc' := 71) (fun _ => X.bp kb_100 dX9_firstAlways_69) ?_
  refine Y.op (pc' := 72) (fun _ => X.iloadn rfl dX9_firstAlways_71) ?_
  refine Y.op (pc' := 73) (fun _ => X.imul dX9_firstAlways_72) ?_
  refine Y.op (pc' := 74) (fun _ => X.iloadn rfl dX9_firstAlways_73) ?_
  refine Y.op (pc' := 75) (fun _ => X.iadd dX9_firstAlways_74) ?_
  exact Y.ireturn rfl dX9_firstAlways_75
def f_X9_firstAlways_J76 (kH : Nat → Int32 → xH → Option (Int32 × xH)) (kE69 : Int32 → Int32 → xH → Option (Int32 × xH)) (kE82 : xH → Option (Int32 × xH)) (x0 : Nat) (x1 : Int32) (h : xH) : Option (Int32 × xH) :=
  lt (x1 + (1 : Int32)) fun v1 =>
  kH x0 v1 h
theorem y_X9_firstAlways_J76 {g : xG} {h0 : xH} {cl : Bool} {kH : Nat → Int32 → xH → Option (Int32 × xH)} {kE69 : Int32 → Int32 → xH → Option (Int32 × xH)} {kE82 : xH → Option (Int32 × xH)} (hkH : ∀ (x0 : Nat) (x1 : Int32) (h : xH), Y g DX9_firstAlways h0 cl iI (kH x0 x1 h) 24 [some (.ref x0), some (.int x1), none] [] h) (hkE69 : ∀ (x1 : Int32) (x2 : Int32) (h : xH), Y g DX9_firstAlways h0 cl iI (kE69 x1 x2 h) 69 [none, some (.int x1), some (.int x2)] [] h) (hkE82 : ∀  (h : xH), Y g DX9_firstAlways h0 cl iI (kE82  h) 82 [none, none, none] [] h) (x0 : Nat) (x1 : Int32) (h : xH) : Y g DX9_firstAlways h0 cl iI (f_X9_firstAlways_J76 kH kE69 kE82 x0 x1 h) 76 [some (.ref x0), some (.int x1), none] [] h := by
  unfold f_X9_firstAlways_J76
  refine Y.iinc (i := 1) (loc' := fun v1 => [some (.ref x0), some (.int v1), none]) rfl (Nat.le_of_ble_eq_true rfl) ki_1 (fun _ => rfl) dX9_firstAlways_76 (fun v1 => ?_)
  refine Y.op (pc' := 24) (fun _ => X.goto 24 (by decide) dX9_firstAlways_79) ?_
  exact hkH x0 v1 h
def f_X9_firstAlways_L24 (kE69 : Int32 → Int32 → xH → Option (Int32 × xH)) (kE82 : xH → Option (Int32 × xH)) : Nat → Nat → Int32 → xH → Option (Int32 × xH)
  | 0 => fun _ _ _ => none
  | n + 1 => fun x0 x1 h =>
    (gR h 9 x0 0).bind fun v1 =>
    (gI h 0 v1 0).bind fun v2 =>
    if x1 ≥ v2 then
      kE82 h
    else
      (gR h 9 x0 4).bind fun v3 =>
      (gR h 7 v3 0).bind fun v4 =>
      (vc h 3 v4 (f_X3_taskOf v4 x1 h)).bind fun r5 =>
      if r5.1 = (-1 : Int32) then
        f_X9_firstAlways_J76 (f_X9_firstAlways_L24 kE69 kE82 n) kE69 kE82 x0 x1 r5.2
      else
        (gR r5.2 9 x0 5).bind fun v6 =>
        (gR r5.2 9 x0 4).bind fun v7 =>
        (vc r5.2 5 v6 (f_X5_kindOf v6 v7 x1 r5.1 r5.2)).bind fun r8 =>
        if r8.1 = (3 : Int32) then
          kE69 x1 r5.1 r8.2
        else
          f_X9_firstAlways_J76 (f_X9_firstAlways_L24 kE69 kE82 n) kE69 kE82 x0 x1 r8.2
theorem y_X9_firstAlways_L24 {g : xG} {h0 : xH} {cl : Bool} {kE69 : Int32 → Int32 → xH → Option (Int32 × xH)} {kE82 : xH → Option (Int32 × xH)} (hkE69 : ∀ (x1 : Int32) (x2 : Int32) (h : xH), Y g DX9_firstAlways h0 cl iI (kE69 x1 x2 h) 69 [none, some (.int x1), some (.int x2)] [] h) (hkE82 : ∀  (h : xH), Y g DX9_firstAlways h0 cl iI (kE82  h) 82 [none, none, none] [] h) : ∀ (n : Nat) (x0 : Nat) (x1 : Int32) (h : xH), Y g DX9_firstAlways h0 cl iI (f_X9_firstAlways_L24 kE69 kE82 n x0 x1 h) 24 [some (.ref x0), some (.int x1), none] [] h := by
  intro n
  induction n with
  | zero => intro x0 x1 h; exact Y.nothing
  | succ n ih =>
    intro x0 x1 h
    unfold f_X9_firstAlways_L24
    refine Y.op (pc' := 25) (fun _ => X.iloadn rfl dX9_firstAlways_24) ?_
    refine Y.op (pc' := 26) (fun _ => X.aloadn rfl dX9_firstAlways_25) ?_
    refine Y.getR fd_X9_12 rfl dX9_firstAlways_26 (fun v1 => ?_)
    refine Y.getI fd_X9_119 rfl dX9_firstAlways_29 (fun v2 => ?_)
    refine Y.cmpge 82 (by decide) dX9_firstAlways_32 ?_ ?_
    · exact Y.fg (hkE82 h) trivial
    · refine Y.op (pc' := 36) (fun _ => X.aloadn rfl dX9_firstAlways_35) ?_
      refine Y.getR fd_X9_36 rfl dX9_firstAlways_36 (fun v3 => ?_)
      refine Y.getR fd_X9_197 rfl dX9_firstAlways_39 (fun v4 => ?_)
      refine Y.op (pc' := 43) (fun _ => X.iloadn rfl dX9_firstAlways_42) ?_
      refine Y.callVi (As := [.int x1]) lk_X9_198 rfl cal_X3_taskOf vir_X3_taskOf (Nat.le_of_ble_eq_true rfl) (Nat.le_of_ble_eq_true rfl) rfl rfl rfl (Nat.le_of_ble_eq_true rfl) dX9_firstAlways_43 (fun _ e => m_X3_taskOf v4 x1 h _ _ e) (fun r5 => ?_)
      refine Y.op (pc' := 47) (loc' := [some (.ref x0), some (.int x1), some (.int r5.1)]) (fun _ => X.istoren (Nat.le_of_ble_eq_true rfl) rfl dX9_firstAlways_46) ?_
      refine Y.op (pc' := 48) (fun _ => X.iloadn rfl dX9_firstAlways_47) ?_
      refine Y.op (pc' := 49) (fun _ => X.ic ki_m1 dX9_firstAlways_48) ?_
      refine Y.cmpeq 76 (by decide) dX9_firstAlways_49 ?_ ?_
      · exact Y.fg (y_X9_firstAlways_J76 ih hkE69 hkE82 x0 x1 r5.2) (And.intro rfl (And.intro rfl trivial))
      · refine Y.op (pc' := 53) (fun _ => X.aloadn rfl dX9_firstAlways_52) ?_
        refine Y.getR fd_X9_43 rfl dX9_firstAlways_53 (fun v6 => ?_)
        refine Y.op (pc' := 57) (fun _ => X.aloadn rfl dX9_firstAlways_56) ?_
        refine Y.getR fd_X9_36 rfl dX9_firstAlways_57 (fun v7 => ?_)
        refine Y.op (pc' := 61) (fun _ => X.iloadn rfl dX9_firstAlways_60) ?_
        refine Y.op (pc' := 62) (fun _ => X.iloadn rfl dX9_firstAlways_61) ?_
        refine Y.callVi (As := [.ref v7, .int x1, .int r5.1]) lk_X9_370 rfl cal_X5_kindOf vir_X5_kindOf (Nat.le_of_ble_eq_true rfl) (Nat.le_of_ble_eq_true rfl) rfl rfl rfl (Nat.le_of_ble_eq_true rfl) dX9_firstAlways_62 (fun _ e => m_X5_kindOf v6 v7 x1 r5.1 r5.2 _ _ e) (fun r8 => ?_)
        refine Y.op (pc' := 66) (fun _ => X.ic ki_3 dX9_firstAlways_65) ?_
        refine Y.cmpne 76 (by decide) dX9_firstAlways_66 ?_ ?_
        · exact Y.fg (y_X9_firstAlways_J76 ih hkE69 hkE82 x0 x1 r8.2) (And.intro rfl (And.intro rfl trivial))
        · exact Y.fg (hkE69 x1 r5.1 r8.2) (And.intro rfl (And.intro rfl trivial))
def f_X9_firstAlways (a0 : Nat) (h : xH) : Option (Int32 × xH) :=
  (gR h 9 a0 5).bind fun v1 =>
  (gR h 9 a0 4).bind fun v2 =>
  (vc h 5 v1 (f_X5_look v1 v2 h)).bind fun h3 =>
  (gR h3 9 a0 5).bind fun v4 =>
  (gR h3 9 a0 4).bind fun v5 =>
  (vc h3 5 v4 (f_X5_close v4 v5 h3)).bind fun h6 =>
  f_X9_firstAlways_L24 (f_X9_firstAlways_J69) (f_X9_firstAlways_J82) 5000 a0 (0 : Int32) h6
theorem y_X9_firstAlways {g : xG} {h0 : xH} {cl : Bool} (a0 : Nat) (h : xH) : Y g DX9_firstAlways h0 cl iI (f_X9_firstAlways a0 h) 0 [some (.ref a0), none, none] [] h := by
  unfold f_X9_firstAlways
  refine Y.op (pc' := 1) (fun _ => X.aloadn rfl dX9_firstAlways_0) ?_
  refine Y.getR fd_X9_43 rfl dX9_firstAlways_1 (fun v1 => ?_)
  refine Y.op (pc' := 5) (fun _ => X.aloadn rfl dX9_firstAlways_4) ?_
  refine Y.getR fd_X9_36 rfl dX9_firstAlways_5 (fun v2 => ?_)
  refine Y.callVv (As := [.ref v2]) lk_X9_204 rfl cal_X5_look vir_X5_look (Nat.le_of_ble_eq_true rfl) (Nat.le_of_ble_eq_true rfl) rfl rfl rfl (Nat.le_of_ble_eq_true rfl) dX9_firstAlways_8 (fun _ e => m_X5_look v1 v2 h _ _ e) (fun h3 => ?_)
  refine Y.op (pc' := 12) (fun _ => X.aloadn rfl dX9_firstAlways_11) ?_
  refine Y.getR fd_X9_43 rfl dX9_firstAlways_12 (fun v4 => ?_)
  refine Y.op (pc' := 16) (fun _ => X.aloadn rfl dX9_firstAlways_15) ?_
  refine Y.getR fd_X9_36 rfl dX9_firstAlways_16 (fun v5 => ?_)
  refine Y.callVv (As := [.ref v5]) lk_X9_220 rfl cal_X5_close vir_X5_close (Nat.le_of_ble_eq_true rfl) (Nat.le_of_ble_eq_true rfl) rfl rfl rfl (Nat.le_of_ble_eq_true rfl) dX9_firstAlways_19 (fun _ e => m_X5_close v4 v5 h3 _ _ e) (fun h6 => ?_)
  refine Y.op (pc' := 23) (fun _ => X.ic ki_0 dX9_firstAlways_22) ?_
  refine Y.op (pc' := 24) (loc' := [some (.ref a0), some (.int (0 : Int32)), none]) (fun _ => X.istoren (Nat.le_of_ble_eq_true rfl) rfl dX9_firstAlways_23) ?_
  exact y_X9_firstAlways_L24 (y_X9_firstAlways_J69) (y_X9_firstAlways_J82) 5000 a0 (0 : Int32) h6
theorem m_X9_firstAlways {g : xG} (a0 : Nat) (h : xH) (cl : Bool) (r : Int32 × xH) (e : f_X9_firstAlways a0 h = some r) : XM g DX9_firstAlways [.ref a0] h cl (iI r) := YM.of rfl rfl (Nat.le_of_ble_eq_true rfl) (y_X9_firstAlways a0 h) e
def f_X9_firstOfTwo_J103 (h : xH) : Option (Int32 × xH) :=
  some ((-1 : Int32), h)
theorem y_X9_firstOfTwo_J103 {g : xG} {h0 : xH} {cl : Bool} (h : xH) : Y g DX9_firstOfTwo h0 cl iI (f_X9_firstOfTwo_J103 h) 103 [none, none, none, none] [] h := by
  unfold f_X9_firstOfTwo_J103
  refine Y.op (pc' := 104) (fun _ => X.ic ki_m1 dX9_firstOfTwo_103) ?_
  exact Y.ireturn rfl dX9_firstOfTwo_104
def f_X9_firstOfTwo_J84 (x1 : Int32) (x2 : Int32) (h : xH) : Option (Int32 × xH) :=
  some ((((100 : Int32) * x1) + x2), h)
theorem y_X9_firstOfTwo_J84 {g : xG} {h0 : xH} {cl : Bool} (x1 : Int32) (x2 : Int32) (h : xH) : Y g DX9_firstOfTwo h0 cl iI (f_X9_firstOfTwo_J84 x1 x2 h) 84 [none, some (.int x1), some (.int x2), none] [] h := by
  unfold f_X9_firstOfTwo_J84
  refine Y.op (pc' := 86) (fun _ => X.bp kb_100 dX9_firstOfTwo_84) ?_
  refine Y.op (pc' := 87) (fun _ => X.iloadn rfl dX9_firstOfTwo_86) ?_
  refine Y.op (pc' := 88) (fun _ => X.imul dX9_firstOfTwo_87) ?_
  refine Y.op (pc' := 89) (fun _ => X.iloadn rfl dX9_firstOfTwo_88) ?_
  refine Y.op (pc' := 90) (fun _ => X.iadd dX9_firstOfTwo_89) ?_
  exact Y.ireturn rfl dX9_firstOfTwo_90
def f_X9_firstOfTwo_J97 (kH : Nat → Int32 → xH → Option (Int32 × xH)) (kE84 : Int32 → Int32 → xH → Option (Int32 × xH)) (kE103 : xH → Option (Int32 × xH)) (x0 : Nat) (x1 : Int32) (h : xH) : Option (Int32 × xH) :=
  lt (x1 + (1 : Int32)) fun v1 =>
  kH x0 v1 h
theorem y_X9_firstOfTwo_J97 {g : xG} {h0 : xH} {cl : Bool} {kH : Nat → Int32 → xH → Option (Int32 × xH)} {kE84 : Int32 → Int32 → xH → Option (Int32 × xH)} {kE103 : xH → Option (Int32 × xH)} (hkH : ∀ (x0 : Nat) (x1 : Int32) (h : xH), Y g DX9_firstOfTwo h0 cl iI (kH x0 x1 h) 2 [some (.ref x0), some (.int x1), none, none] [] h) (hkE84 : ∀ (x1 : Int32) (x2 : Int32) (h : xH), Y g DX9_firstOfTwo h0 cl iI (kE84 x1 x2 h) 84 [none, some (.int x1), some (.int x2), none] [] h) (hkE103 : ∀  (h : xH), Y g DX9_firstOfTwo h0 cl iI (kE103  h) 103 [none, none, none, none] [] h) (x0 : Nat) (x1 : Int32) (h : xH) : Y g DX9_firstOfTwo h0 cl iI (f_X9_firstOfTwo_J97 kH kE84 kE103 x0 x1 h) 97 [some (.ref x0), some (.int x1), none, none] [] h := by
  unfold f_X9_firstOfTwo_J97
  refine Y.iinc (i := 1) (loc' := fun v1 => [some (.ref x0), some (.int v1), none, none]) rfl (Nat.le_of_ble_eq_true rfl) ki_1 (fun _ => rfl) dX9_firstOfTwo_97 (fun v1 => ?_)
  refine Y.op (pc' := 2) (fun _ => X.goto 2 (by decide) dX9_firstOfTwo_100) ?_
  exact hkH x0 v1 h
def f_X9_firstOfTwo_J91 (kH : Nat → Int32 → Int32 → xH → Option (Int32 × xH)) (kE84 : Int32 → Int32 → xH → Option (Int32 × xH)) (kE97 : Nat → Int32 → xH → Option (Int32 × xH)) (x0 : Nat) (x1 : Int32) (x2 : Int32) (h : xH) : Option (Int32 × xH) :=
  lt (x2 + (1 : Int32)) fun v1 =>
  kH x0 x1 v1 h
theorem y_X9_firstOfTwo_J91 {g : xG} {h0 : xH} {cl : Bool} {kH : Nat → Int32 → Int32 → xH → Option (Int32 × xH)} {kE84 : Int32 → Int32 → xH → Option (Int32 × xH)} {kE97 : Nat → Int32 → xH → Option (Int32 × xH)} (hkH : ∀ (x0 : Nat) (x1 : Int32) (x2 : Int32) (h : xH), Y g DX9_firstOfTwo h0 cl iI (kH x0 x1 x2 h) 15 [some (.ref x0), some (.int x1), some (.int x2), none] [] h) (hkE84 : ∀ (x1 : Int32) (x2 : Int32) (h : xH), Y g DX9_firstOfTwo h0 cl iI (kE84 x1 x2 h) 84 [none, some (.int x1), some (.int x2), none] [] h) (hkE97 : ∀ (x0 : Nat) (x1 : Int32) (h : xH), Y g DX9_firstOfTwo h0 cl iI (kE97 x0 x1 h) 97 [some (.ref x0), some (.int x1), none, none] [] h) (x0 : Nat) (x1 : Int32) (x2 : Int32) (h : xH) : Y g DX9_firstOfTwo h0 cl iI (f_X9_firstOfTwo_J91 kH kE84 kE97 x0 x1 x2 h) 91 [some (.ref x0), some (.int x1), some (.int x2), none] [] h := by
  unfold f_X9_firstOfTwo_J91
  refine Y.iinc (i := 2) (loc' := fun v1 => [some (.ref x0), some (.int x1), some (.int v1), none]) rfl (Nat.le_of_ble_eq_true rfl) ki_1 (fun _ => rfl) dX9_firstOfTwo_91 (fun v1 => ?_)
  refine Y.op (pc' := 15) (fun _ => X.goto 15 (by decide) dX9_firstOfTwo_94) ?_
  exact hkH x0 x1 v1 h
def f_X9_firstOfTwo_J70 (kH : Nat → Int32 → Int32 → xH → Option (Int32 × xH)) (kE84 : Int32 → Int32 → xH → Option (Int32 × xH)) (kE97 : Nat → Int32 → xH → Option (Int32 × xH)) (x0 : Nat) (x1 : Int32) (x2 : Int32) (s0 : Int32) (h : xH) : Option (Int32 × xH) :=
  (gR h 9 x0 4).bind fun v1 =>
  (vc h 7 v1 (f_X7_open v1 x1 x2 h)).bind fun h2 =>
  if s0 = (0 : Int32) then
    f_X9_firstOfTwo_J91 (kH) kE84 kE97 x0 x1 x2 h2
  else
    kE84 x1 x2 h2
theorem y_X9_firstOfTwo_J70 {g : xG} {h0 : xH} {cl : Bool} {kH : Nat → Int32 → Int32 → xH → Option (Int32 × xH)} {kE84 : Int32 → Int32 → xH → Option (Int32 × xH)} {kE97 : Nat → Int32 → xH → Option (Int32 × xH)} (hkH : ∀ (x0 : Nat) (x1 : Int32) (x2 : Int32) (h : xH), Y g DX9_firstOfTwo h0 cl iI (kH x0 x1 x2 h) 15 [some (.ref x0), some (.int x1), some (.int x2), none] [] h) (hkE84 : ∀ (x1 : Int32) (x2 : Int32) (h : xH), Y g DX9_firstOfTwo h0 cl iI (kE84 x1 x2 h) 84 [none, some (.int x1), some (.int x2), none] [] h) (hkE97 : ∀ (x0 : Nat) (x1 : Int32) (h : xH), Y g DX9_firstOfTwo h0 cl iI (kE97 x0 x1 h) 97 [some (.ref x0), some (.int x1), none, none] [] h) (x0 : Nat) (x1 : Int32) (x2 : Int32) (s0 : Int32) (h : xH) : Y g DX9_firstOfTwo h0 cl iI (f_X9_firstOfTwo_J70 kH kE84 kE97 x0 x1 x2 s0 h) 70 [some (.ref x0), some (.int x1), some (.int x2), none] [.int s0] h := by
  unfold f_X9_firstOfTwo_J70
  refine Y.op (pc' := 71) (loc' := [some (.ref x0), some (.int x1), some (.int x2), some (.int s0)]) (fun _ => X.istoren (Nat.le_of_ble_eq_true rfl) rfl dX9_firstOfTwo_70) ?_
  refine Y.op (pc' := 72) (fun _ => X.aloadn rfl dX9_firstOfTwo_71) ?_
  refine Y.getR fd_X9_36 rfl dX9_firstOfTwo_72 (fun v1 => ?_)
  refine Y.op (pc' := 76) (fun _ => X.iloadn rfl dX9_firstOfTwo_75) ?_
  refine Y.op (pc' := 77) (fun _ => X.iloadn rfl dX9_firstOfTwo_76) ?_
  refine Y.callVv (As := [.int x1, .int x2]) lk_X9_376 rfl cal_X7_open vir_X7_open (Nat.le_of_ble_eq_true rfl) (Nat.le_of_ble_eq_true rfl) rfl rfl rfl (Nat.le_of_ble_eq_true rfl) dX9_firstOfTwo_77 (fun _ e => m_X7_open v1 x1 x2 h _ _ e) (fun h2 => ?_)
  refine Y.op (pc' := 81) (fun _ => X.iloadn rfl dX9_firstOfTwo_80) ?_
  refine Y.ifeq 91 (by decide) dX9_firstOfTwo_81 ?_ ?_
  · exact Y.fg (y_X9_firstOfTwo_J91 hkH hkE84 hkE97 x0 x1 x2 h2) (And.intro rfl (And.intro rfl (And.intro rfl trivial)))
  · exact Y.fg (hkE84 x1 x2 h2) (And.intro rfl (And.intro rfl trivial))
def f_X9_firstOfTwo_L15 (kE84 : Int32 → Int32 → xH → Option (Int32 × xH)) (kE97 : Nat → Int32 → xH → Option (Int32 × xH)) : Nat → Nat → Int32 → Int32 → xH → Option (Int32 × xH)
  | 0 => fun _ _ _ _ => none
  | n + 1 => fun x0 x1 x2 h =>
    (gR h 9 x0 0).bind fun v1 =>
    (gI h 0 v1 1).bind fun v2 =>
    if x2 ≥ v2 then
      kE97 x0 x1 h
    else
      (gR h 9 x0 4).bind fun v3 =>
      (vc h 7 v3 (f_X7_isOpen v3 x1 x2 h)).bind fun r4 =>
      if r4.1 = (0 : Int32) then
        f_X9_firstOfTwo_J91 (f_X9_firstOfTwo_L15 kE84 kE97 n) kE84 kE97 x0 x1 x2 r4.2
      else
        (gR r4.2 9 x0 4).bind fun v5 =>
        (vc r4.2 7 v5 (f_X7_shut v5 x1 x2 r4.2)).bind fun h6 =>
        (gR h6 9 x0 4).bind fun v7 =>
        (vc h6 7 v7 (f_X7_grow v7 (12 : Int32) h6)).bind fun r8 =>
        (vc r8.2 9 x0 (f_X9_firstAlways x0 r8.2)).bind fun r9 =>
        if r9.1 = (-1 : Int32) then
          f_X9_firstOfTwo_J70 (f_X9_firstOfTwo_L15 kE84 kE97 n) kE84 kE97 x0 x1 x2 (0 : Int32) r9.2
        else
          f_X9_firstOfTwo_J70 (f_X9_firstOfTwo_L15 kE84 kE97 n) kE84 kE97 x0 x1 x2 (1 : Int32) r9.2
theorem y_X9_firstOfTwo_L15 {g : xG} {h0 : xH} {cl : Bool} {kE84 : Int32 → Int32 → xH → Option (Int32 × xH)} {kE97 : Nat → Int32 → xH → Option (Int32 × xH)} (hkE84 : ∀ (x1 : Int32) (x2 : Int32) (h : xH), Y g DX9_firstOfTwo h0 cl iI (kE84 x1 x2 h) 84 [none, some (.int x1), some (.int x2), none] [] h) (hkE97 : ∀ (x0 : Nat) (x1 : Int32) (h : xH), Y g DX9_firstOfTwo h0 cl iI (kE97 x0 x1 h) 97 [some (.ref x0), some (.int x1), none, none] [] h) : ∀ (n : Nat) (x0 : Nat) (x1 : Int32) (x2 : Int32) (h : xH), Y g DX9_firstOfTwo h0 cl iI (f_X9_firstOfTwo_L15 kE84 kE97 n x0 x1 x2 h) 15 [some (.ref x0), some (.int x1), some (.int x2), none] [] h := by
  intro n
  induction n with
  | zero => intro x0 x1 x2 h; exact Y.nothing
  | succ n ih =>
    intro x0 x1 x2 h
    unfold f_X9_firstOfTwo_L15
    refine Y.op (pc' := 16) (fun _ => X.iloadn rfl dX9_firstOfTwo_15) ?_
    refine Y.op (pc' := 17) (fun _ => X.aloadn rfl dX9_firstOfTwo_16) ?_
    refine Y.getR fd_X9_12 rfl dX9_firstOfTwo_17 (fun v1 => ?_)
    refine Y.getI fd_X9_122 rfl dX9_firstOfTwo_20 (fun v2 => ?_)
    refine Y.cmpge 97 (by decide) dX9_firstOfTwo_23 ?_ ?_
    · exact Y.fg (hkE97 x0 x1 h) (And.intro rfl (And.intro rfl trivial))
    · refine Y.op (pc' := 27) (fun _ => X.aloadn rfl dX9_firstOfTwo_26) ?_
      refine Y.getR fd_X9_36 rfl dX9_firstOfTwo_27 (fun v3 => ?_)
      refine Y.op (pc' := 31) (fun _ => X.iloadn rfl dX9_firstOfTwo_30) ?_
      refine Y.op (pc' := 32) (fun _ => X.iloadn rfl dX9_firstOfTwo_31) ?_
      refine Y.callVi (As := [.int x1, .int x2]) lk_X9_367 rfl cal_X7_isOpen vir_X7_isOpen (Nat.le_of_ble_eq_true rfl) (Nat.le_of_ble_eq_true rfl) rfl rfl rfl (Nat.le_of_ble_eq_true rfl) dX9_firstOfTwo_32 (fun _ e => m_X7_isOpen v3 x1 x2 h _ _ e) (fun r4 => ?_)
      refine Y.ifeq 91 (by decide) dX9_firstOfTwo_35 ?_ ?_
      · exact y_X9_firstOfTwo_J91 ih hkE84 hkE97 x0 x1 x2 r4.2
      · refine Y.op (pc' := 39) (fun _ => X.aloadn rfl dX9_firstOfTwo_38) ?_
        refine Y.getR fd_X9_36 rfl dX9_firstOfTwo_39 (fun v5 => ?_)
        refine Y.op (pc' := 43) (fun _ => X.iloadn rfl dX9_firstOfTwo_42) ?_
        refine Y.op (pc' := 44) (fun _ => X.iloadn rfl dX9_firstOfTwo_43) ?_
        refine Y.callVv (As := [.int x1, .int x2]) lk_X9_373 rfl cal_X7_shut vir_X7_shut (Nat.le_of_ble_eq_true rfl) (Nat.le_of_ble_eq_true rfl) rfl rfl rfl (Nat.le_of_ble_eq_true rfl) dX9_firstOfTwo_44 (fun _ e => m_X7_shut v5 x1 x2 r4.2 _ _ e) (fun h6 => ?_)
        refine Y.op (pc' := 48) (fun _ => X.aloadn rfl dX9_firstOfTwo_47) ?_
        refine Y.getR fd_X9_36 rfl dX9_firstOfTwo_48 (fun v7 => ?_)
        refine Y.op (pc' := 53) (fun _ => X.bp kb_12 dX9_firstOfTwo_51) ?_
        refine Y.callVi (As := [.int (12 : Int32)]) lk_X9_217 rfl cal_X7_grow vir_X7_grow (Nat.le_of_ble_eq_true rfl) (Nat.le_of_ble_eq_true rfl) rfl rfl rfl (Nat.le_of_ble_eq_true rfl) dX9_firstOfTwo_53 (fun _ e => m_X7_grow v7 (12 : Int32) h6 _ _ e) (fun r8 => ?_)
        refine Y.op (pc' := 57) (fun _ => X.pop rfl dX9_firstOfTwo_56) ?_
        refine Y.op (pc' := 58) (fun _ => X.aloadn rfl dX9_firstOfTwo_57) ?_
        refine Y.callVi (As := []) lk_X9_266 rfl cal_X9_firstAlways vir_X9_firstAlways (Nat.le_of_ble_eq_true rfl) (Nat.le_of_ble_eq_true rfl) rfl rfl rfl (Nat.le_of_ble_eq_true rfl) dX9_firstOfTwo_58 (fun _ e => m_X9_firstAlways x0 r8.2 _ _ e) (fun r9 => ?_)
        refine Y.op (pc' := 62) (fun _ => X.ic ki_m1 dX9_firstOfTwo_61) ?_
        refine Y.cmpeq 69 (by decide) dX9_firstOfTwo_62 ?_ ?_
        · refine Y.op (pc' := 70) (fun _ => X.ic ki_0 dX9_firstOfTwo_69) ?_
          exact y_X9_firstOfTwo_J70 ih hkE84 hkE97 x0 x1 x2 (0 : Int32) r9.2
        · refine Y.op (pc' := 66) (fun _ => X.ic ki_1 dX9_firstOfTwo_65) ?_
          refine Y.op (pc' := 70) (fun _ => X.goto 70 (by decide) dX9_firstOfTwo_66) ?_
          exact y_X9_firstOfTwo_J70 ih hkE84 hkE97 x0 x1 x2 (1 : Int32) r9.2
def f_X9_firstOfTwo_L2 (kE84 : Int32 → Int32 → xH → Option (Int32 × xH)) (kE103 : xH → Option (Int32 × xH)) : Nat → Nat → Int32 → xH → Option (Int32 × xH)
  | 0 => fun _ _ _ => none
  | n + 1 => fun x0 x1 h =>
    (gR h 9 x0 0).bind fun v1 =>
    (gI h 0 v1 0).bind fun v2 =>
    if x1 ≥ v2 then
      kE103 h
    else
      f_X9_firstOfTwo_L15 (kE84) (f_X9_firstOfTwo_J97 (f_X9_firstOfTwo_L2 kE84 kE103 n) kE84 kE103) 5000 x0 x1 (0 : Int32) h
theorem y_X9_firstOfTwo_L2 {g : xG} {h0 : xH} {cl : Bool} {kE84 : Int32 → Int32 → xH → Option (Int32 × xH)} {kE103 : xH → Option (Int32 × xH)} (hkE84 : ∀ (x1 : Int32) (x2 : Int32) (h : xH), Y g DX9_firstOfTwo h0 cl iI (kE84 x1 x2 h) 84 [none, some (.int x1), some (.int x2), none] [] h) (hkE103 : ∀  (h : xH), Y g DX9_firstOfTwo h0 cl iI (kE103  h) 103 [none, none, none, none] [] h) : ∀ (n : Nat) (x0 : Nat) (x1 : Int32) (h : xH), Y g DX9_firstOfTwo h0 cl iI (f_X9_firstOfTwo_L2 kE84 kE103 n x0 x1 h) 2 [some (.ref x0), some (.int x1), none, none] [] h := by
  intro n
  induction n with
  | zero => intro x0 x1 h; exact Y.nothing
  | succ n ih =>
    intro x0 x1 h
    unfold f_X9_firstOfTwo_L2
    refine Y.op (pc' := 3) (fun _ => X.iloadn rfl dX9_firstOfTwo_2) ?_
    refine Y.op (pc' := 4) (fun _ => X.aloadn rfl dX9_firstOfTwo_3) ?_
    refine Y.getR fd_X9_12 rfl dX9_firstOfTwo_4 (fun v1 => ?_)
    refine Y.getI fd_X9_119 rfl dX9_firstOfTwo_7 (fun v2 => ?_)
    refine Y.cmpge 103 (by decide) dX9_firstOfTwo_10 ?_ ?_
    · exact Y.fg (hkE103 h) trivial
    · refine Y.op (pc' := 14) (fun _ => X.ic ki_0 dX9_firstOfTwo_13) ?_
      refine Y.op (pc' := 15) (loc' := [some (.ref x0), some (.int x1), some (.int (0 : Int32)), none]) (fun _ => X.istoren (Nat.le_of_ble_eq_true rfl) rfl dX9_firstOfTwo_14) ?_
      exact y_X9_firstOfTwo_L15 (hkE84) (y_X9_firstOfTwo_J97 ih hkE84 hkE103) 5000 x0 x1 (0 : Int32) h
def f_X9_firstOfTwo (a0 : Nat) (h : xH) : Option (Int32 × xH) :=
  f_X9_firstOfTwo_L2 (f_X9_firstOfTwo_J84) (f_X9_firstOfTwo_J103) 5000 a0 (0 : Int32) h
theorem y_X9_firstOfTwo {g : xG} {h0 : xH} {cl : Bool} (a0 : Nat) (h : xH) : Y g DX9_firstOfTwo h0 cl iI (f_X9_firstOfTwo a0 h) 0 [some (.ref a0), none, none, none] [] h := by
  unfold f_X9_firstOfTwo
  refine Y.op (pc' := 1) (fun _ => X.ic ki_0 dX9_firstOfTwo_0) ?_
  refine Y.op (pc' := 2) (loc' := [some (.ref a0), some (.int (0 : Int32)), none, none]) (fun _ => X.istoren (Nat.le_of_ble_eq_true rfl) rfl dX9_firstOfTwo_1) ?_
  exact y_X9_firstOfTwo_L2 (y_X9_firstOfTwo_J84) (y_X9_firstOfTwo_J103) 5000 a0 (0 : Int32) h
theorem m_X9_firstOfTwo {g : xG} (a0 : Nat) (h : xH) (cl : Bool) (r : Int32 × xH) (e : f_X9_firstOfTwo a0 h = some r) : XM g DX9_firstOfTwo [.ref a0] h cl (iI r) := YM.of rfl rfl (Nat.le_of_ble_eq_true rfl) (y_X9_firstOfTwo a0 h) e
