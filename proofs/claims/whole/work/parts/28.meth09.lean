def f_X10_laysLayers_J243 (h : xH) : Option (Int32 × xH) :=
  if (0 : Int32) = 0 ∨ (0 : Int32) = 1 then some ((0 : Int32), h) else none
theorem y_X10_laysLayers_J243 {g : xG} {h0 : xH} {cl : Bool} (h : xH) : Y g DX10_laysLayers h0 cl iI (f_X10_laysLayers_J243 h) 243 [none, none, none, none, none] [] h := by
  unfold f_X10_laysLayers_J243
  refine Y.op (pc' := 244) (fun _ => X.ic ki_0 dX10_laysLayers_243) ?_
  exact Y.zreturn rfl dX10_laysLayers_244
def f_X10_laysLayers_J189 (h : xH) : Option (Int32 × xH) :=
  if (1 : Int32) = 0 ∨ (1 : Int32) = 1 then some ((1 : Int32), h) else none
theorem y_X10_laysLayers_J189 {g : xG} {h0 : xH} {cl : Bool} (h : xH) : Y g DX10_laysLayers h0 cl iI (f_X10_laysLayers_J189 h) 189 [none, none, none, none, none] [] h := by
  unfold f_X10_laysLayers_J189
  refine Y.op (pc' := 190) (fun _ => X.ic ki_1 dX10_laysLayers_189) ?_
  exact Y.zreturn rfl dX10_laysLayers_190
def f_X10_laysLayers_J237 (kH : Nat → Int32 → xH → Option (Int32 × xH)) (kE189 : xH → Option (Int32 × xH)) (kE243 : xH → Option (Int32 × xH)) (x0 : Nat) (x1 : Int32) (h : xH) : Option (Int32 × xH) :=
  lt (x1 + (2 : Int32)) fun v1 =>
  kH x0 v1 h
theorem y_X10_laysLayers_J237 {g : xG} {h0 : xH} {cl : Bool} {kH : Nat → Int32 → xH → Option (Int32 × xH)} {kE189 : xH → Option (Int32 × xH)} {kE243 : xH → Option (Int32 × xH)} (hkH : ∀ (x0 : Nat) (x1 : Int32) (h : xH), Y g DX10_laysLayers h0 cl iI (kH x0 x1 h) 66 [some (.ref x0), some (.int x1), none, none, none] [] h) (hkE189 : ∀  (h : xH), Y g DX10_laysLayers h0 cl iI (kE189  h) 189 [none, none, none, none, none] [] h) (hkE243 : ∀  (h : xH), Y g DX10_laysLayers h0 cl iI (kE243  h) 243 [none, none, none, none, none] [] h) (x0 : Nat) (x1 : Int32) (h : xH) : Y g DX10_laysLayers h0 cl iI (f_X10_laysLayers_J237 kH kE189 kE243 x0 x1 h) 237 [some (.ref x0), some (.int x1), none, none, none] [] h := by
  unfold f_X10_laysLayers_J237
  refine Y.iinc (i := 1) (loc' := fun v1 => [some (.ref x0), some (.int v1), none, none, none]) rfl (Nat.le_of_ble_eq_true rfl) ki_2 (fun _ => rfl) dX10_laysLayers_237 (fun v1 => ?_)
  refine Y.op (pc' := 66) (fun _ => X.goto 66 (by decide) dX10_laysLayers_240) ?_
  exact hkH x0 v1 h
def f_X10_laysLayers_J231 (kH : Nat → Int32 → Int32 → xH → Option (Int32 × xH)) (kE237 : Nat → Int32 → xH → Option (Int32 × xH)) (x0 : Nat) (x1 : Int32) (x3 : Int32) (h : xH) : Option (Int32 × xH) :=
  lt (x3 + (1 : Int32)) fun v1 =>
  kH x0 x1 v1 h
theorem y_X10_laysLayers_J231 {g : xG} {h0 : xH} {cl : Bool} {kH : Nat → Int32 → Int32 → xH → Option (Int32 × xH)} {kE237 : Nat → Int32 → xH → Option (Int32 × xH)} (hkH : ∀ (x0 : Nat) (x1 : Int32) (x3 : Int32) (h : xH), Y g DX10_laysLayers h0 cl iI (kH x0 x1 x3 h) 193 [some (.ref x0), some (.int x1), none, some (.int x3), none] [] h) (hkE237 : ∀ (x0 : Nat) (x1 : Int32) (h : xH), Y g DX10_laysLayers h0 cl iI (kE237 x0 x1 h) 237 [some (.ref x0), some (.int x1), none, none, none] [] h) (x0 : Nat) (x1 : Int32) (x3 : Int32) (h : xH) : Y g DX10_laysLayers h0 cl iI (f_X10_laysLayers_J231 kH kE237 x0 x1 x3 h) 231 [some (.ref x0), some (.int x1), none, some (.int x3), none] [] h := by
  unfold f_X10_laysLayers_J231
  refine Y.iinc (i := 3) (loc' := fun v1 => [some (.ref x0), some (.int x1), none, some (.int v1), none]) rfl (Nat.le_of_ble_eq_true rfl) ki_1 (fun _ => rfl) dX10_laysLayers_231 (fun v1 => ?_)
  refine Y.op (pc' := 193) (fun _ => X.goto 193 (by decide) dX10_laysLayers_234) ?_
  exact hkH x0 x1 v1 h
def f_X10_laysLayers_L193 (kE237 : Nat → Int32 → xH → Option (Int32 × xH)) : Nat → Nat → Int32 → Int32 → xH → Option (Int32 × xH)
  | 0 => fun _ _ _ _ => none
  | n + 1 => fun x0 x1 x3 h =>
    (gR h 10 x0 9).bind fun v1 =>
    (aR 102 h v1 (0 : Int32)).bind fun v2 =>
    (aI h v2 (1 : Int32)).bind fun v3 =>
    if x3 ≥ v3 then
      kE237 x0 x1 h
    else
      (gR h 10 x0 25).bind fun v4 =>
      (aI h v4 x3).bind fun v5 =>
      if v5 = (x1 + (1 : Int32)) then
        (gR h 10 x0 24).bind fun v6 =>
        (vc h 10 x0 (f_X10_partnerOf x0 (1 : Int32) x3 h)).bind fun r7 =>
        (sI r7.2 v6 r7.1 (x1 + (2 : Int32))).bind fun h8 =>
        f_X10_laysLayers_J231 (f_X10_laysLayers_L193 kE237 n) kE237 x0 x1 x3 h8
      else
        f_X10_laysLayers_J231 (f_X10_laysLayers_L193 kE237 n) kE237 x0 x1 x3 h
theorem y_X10_laysLayers_L193 {g : xG} {h0 : xH} {cl : Bool} {kE237 : Nat → Int32 → xH → Option (Int32 × xH)} (hkE237 : ∀ (x0 : Nat) (x1 : Int32) (h : xH), Y g DX10_laysLayers h0 cl iI (kE237 x0 x1 h) 237 [some (.ref x0), some (.int x1), none, none, none] [] h) : ∀ (n : Nat) (x0 : Nat) (x1 : Int32) (x3 : Int32) (h : xH), Y g DX10_laysLayers h0 cl iI (f_X10_laysLayers_L193 kE237 n x0 x1 x3 h) 193 [some (.ref x0), some (.int x1), none, some (.int x3), none] [] h := by
  intro n
  induction n with
  | zero => intro x0 x1 x3 h; exact Y.nothing
  | succ n ih =>
    intro x0 x1 x3 h
    unfold f_X10_laysLayers_L193
    refine Y.op (pc' := 194) (fun _ => X.iloadn rfl dX10_laysLayers_193) ?_
    refine Y.op (pc' := 195) (fun _ => X.aloadn rfl dX10_laysLayers_194) ?_
    refine Y.getR fd_X10_22 rfl dX10_laysLayers_195 (fun v1 => ?_)
    refine Y.op (pc' := 199) (fun _ => X.ic ki_0 dX10_laysLayers_198) ?_
    refine Y.aldR 102 (by decide) (by decide) dX10_laysLayers_199 (fun v2 => ?_)
    refine Y.op (pc' := 201) (fun _ => X.ic ki_1 dX10_laysLayers_200) ?_
    refine Y.aldI dX10_laysLayers_201 (fun v3 => ?_)
    refine Y.cmpge 237 (by decide) dX10_laysLayers_202 ?_ ?_
    · exact Y.fg (hkE237 x0 x1 h) (And.intro rfl (And.intro rfl trivial))
    · refine Y.op (pc' := 206) (fun _ => X.aloadn rfl dX10_laysLayers_205) ?_
      refine Y.getR fd_X10_48 rfl dX10_laysLayers_206 (fun v4 => ?_)
      refine Y.op (pc' := 210) (fun _ => X.iloadn rfl dX10_laysLayers_209) ?_
      refine Y.aldI dX10_laysLayers_210 (fun v5 => ?_)
      refine Y.op (pc' := 212) (fun _ => X.iloadn rfl dX10_laysLayers_211) ?_
      refine Y.op (pc' := 213) (fun _ => X.ic ki_1 dX10_laysLayers_212) ?_
      refine Y.op (pc' := 214) (fun _ => X.iadd dX10_laysLayers_213) ?_
      refine Y.cmpne 231 (by decide) dX10_laysLayers_214 ?_ ?_
      · exact y_X10_laysLayers_J231 ih hkE237 x0 x1 x3 h
      · refine Y.op (pc' := 218) (fun _ => X.aloadn rfl dX10_laysLayers_217) ?_
        refine Y.getR fd_X10_45 rfl dX10_laysLayers_218 (fun v6 => ?_)
        refine Y.op (pc' := 222) (fun _ => X.aloadn rfl dX10_laysLayers_221) ?_
        refine Y.op (pc' := 223) (fun _ => X.ic ki_1 dX10_laysLayers_222) ?_
        refine Y.op (pc' := 224) (fun _ => X.iloadn rfl dX10_laysLayers_223) ?_
        refine Y.callVi (As := [.int (1 : Int32), .int x3]) lk_X10_243 rfl cal_X10_partnerOf vir_X10_partnerOf (Nat.le_of_ble_eq_true rfl) (Nat.le_of_ble_eq_true rfl) rfl rfl rfl (Nat.le_of_ble_eq_true rfl) dX10_laysLayers_224 (fun _ e => m_X10_partnerOf x0 (1 : Int32) x3 h _ _ e) (fun r7 => ?_)
        refine Y.op (pc' := 228) (fun _ => X.iloadn rfl dX10_laysLayers_227) ?_
        refine Y.op (pc' := 229) (fun _ => X.ic ki_2 dX10_laysLayers_228) ?_
        refine Y.op (pc' := 230) (fun _ => X.iadd dX10_laysLayers_229) ?_
        refine Y.astI dX10_laysLayers_230 (fun h8 => ?_)
        exact y_X10_laysLayers_J231 ih hkE237 x0 x1 x3 h8
def f_X10_laysLayers_J185 (kH : Nat → Int32 → xH → Option (Int32 × xH)) (kE189 : xH → Option (Int32 × xH)) (kE243 : xH → Option (Int32 × xH)) (x0 : Nat) (x1 : Int32) (x2 : Int32) (h : xH) : Option (Int32 × xH) :=
  if x2 = (0 : Int32) then
    f_X10_laysLayers_L193 (f_X10_laysLayers_J237 (kH) kE189 kE243) 5000 x0 x1 (0 : Int32) h
  else
    kE189 h
theorem y_X10_laysLayers_J185 {g : xG} {h0 : xH} {cl : Bool} {kH : Nat → Int32 → xH → Option (Int32 × xH)} {kE189 : xH → Option (Int32 × xH)} {kE243 : xH → Option (Int32 × xH)} (hkH : ∀ (x0 : Nat) (x1 : Int32) (h : xH), Y g DX10_laysLayers h0 cl iI (kH x0 x1 h) 66 [some (.ref x0), some (.int x1), none, none, none] [] h) (hkE189 : ∀  (h : xH), Y g DX10_laysLayers h0 cl iI (kE189  h) 189 [none, none, none, none, none] [] h) (hkE243 : ∀  (h : xH), Y g DX10_laysLayers h0 cl iI (kE243  h) 243 [none, none, none, none, none] [] h) (x0 : Nat) (x1 : Int32) (x2 : Int32) (h : xH) : Y g DX10_laysLayers h0 cl iI (f_X10_laysLayers_J185 kH kE189 kE243 x0 x1 x2 h) 185 [some (.ref x0), some (.int x1), some (.int x2), none, none] [] h := by
  unfold f_X10_laysLayers_J185
  refine Y.op (pc' := 186) (fun _ => X.iloadn rfl dX10_laysLayers_185) ?_
  refine Y.ifeq 191 (by decide) dX10_laysLayers_186 ?_ ?_
  · refine Y.op (pc' := 192) (fun _ => X.ic ki_0 dX10_laysLayers_191) ?_
    refine Y.op (pc' := 193) (loc' := [some (.ref x0), some (.int x1), some (.int x2), some (.int (0 : Int32)), none]) (fun _ => X.istoren (Nat.le_of_ble_eq_true rfl) rfl dX10_laysLayers_192) ?_
    exact Y.fg (y_X10_laysLayers_L193 (y_X10_laysLayers_J237 hkH hkE189 hkE243) 5000 x0 x1 (0 : Int32) h) (And.intro rfl (And.intro rfl (And.intro rfl trivial)))
  · exact Y.fg (hkE189 h) trivial
def f_X10_laysLayers_J179 (kH : Nat → Int32 → Int32 → Int32 → xH → Option (Int32 × xH)) (kE185 : Nat → Int32 → Int32 → xH → Option (Int32 × xH)) (x0 : Nat) (x1 : Int32) (x2 : Int32) (x3 : Int32) (h : xH) : Option (Int32 × xH) :=
  lt (x3 + (1 : Int32)) fun v1 =>
  kH x0 x1 x2 v1 h
theorem y_X10_laysLayers_J179 {g : xG} {h0 : xH} {cl : Bool} {kH : Nat → Int32 → Int32 → Int32 → xH → Option (Int32 × xH)} {kE185 : Nat → Int32 → Int32 → xH → Option (Int32 × xH)} (hkH : ∀ (x0 : Nat) (x1 : Int32) (x2 : Int32) (x3 : Int32) (h : xH), Y g DX10_laysLayers h0 cl iI (kH x0 x1 x2 x3 h) 76 [some (.ref x0), some (.int x1), some (.int x2), some (.int x3), none] [] h) (hkE185 : ∀ (x0 : Nat) (x1 : Int32) (x2 : Int32) (h : xH), Y g DX10_laysLayers h0 cl iI (kE185 x0 x1 x2 h) 185 [some (.ref x0), some (.int x1), some (.int x2), none, none] [] h) (x0 : Nat) (x1 : Int32) (x2 : Int32) (x3 : Int32) (h : xH) : Y g DX10_laysLayers h0 cl iI (f_X10_laysLayers_J179 kH kE185 x0 x1 x2 x3 h) 179 [some (.ref x0), some (.int x1), some (.int x2), some (.int x3), none] [] h := by
  unfold f_X10_laysLayers_J179
  refine Y.iinc (i := 3) (loc' := fun v1 => [some (.ref x0), some (.int x1), some (.int x2), some (.int v1), none]) rfl (Nat.le_of_ble_eq_true rfl) ki_1 (fun _ => rfl) dX10_laysLayers_179 (fun v1 => ?_)
  refine Y.op (pc' := 76) (fun _ => X.goto 76 (by decide) dX10_laysLayers_182) ?_
  exact hkH x0 x1 x2 v1 h
def f_X10_laysLayers_J173 (kH : Nat → Int32 → Int32 → Int32 → Int32 → xH → Option (Int32 × xH)) (kE179 : Nat → Int32 → Int32 → Int32 → xH → Option (Int32 × xH)) (x0 : Nat) (x1 : Int32) (x2 : Int32) (x3 : Int32) (x4 : Int32) (h : xH) : Option (Int32 × xH) :=
  lt (x4 + (1 : Int32)) fun v1 =>
  kH x0 x1 x2 x3 v1 h
theorem y_X10_laysLayers_J173 {g : xG} {h0 : xH} {cl : Bool} {kH : Nat → Int32 → Int32 → Int32 → Int32 → xH → Option (Int32 × xH)} {kE179 : Nat → Int32 → Int32 → Int32 → xH → Option (Int32 × xH)} (hkH : ∀ (x0 : Nat) (x1 : Int32) (x2 : Int32) (x3 : Int32) (x4 : Int32) (h : xH), Y g DX10_laysLayers h0 cl iI (kH x0 x1 x2 x3 x4 h) 104 [some (.ref x0), some (.int x1), some (.int x2), some (.int x3), some (.int x4)] [] h) (hkE179 : ∀ (x0 : Nat) (x1 : Int32) (x2 : Int32) (x3 : Int32) (h : xH), Y g DX10_laysLayers h0 cl iI (kE179 x0 x1 x2 x3 h) 179 [some (.ref x0), some (.int x1), some (.int x2), some (.int x3), none] [] h) (x0 : Nat) (x1 : Int32) (x2 : Int32) (x3 : Int32) (x4 : Int32) (h : xH) : Y g DX10_laysLayers h0 cl iI (f_X10_laysLayers_J173 kH kE179 x0 x1 x2 x3 x4 h) 173 [some (.ref x0), some (.int x1), some (.int x2), some (.int x3), some (.int x4)] [] h := by
  unfold f_X10_laysLayers_J173
  refine Y.iinc (i := 4) (loc' := fun v1 => [some (.ref x0), some (.int x1), some (.int x2), some (.int x3), some (.int v1)]) rfl (Nat.le_of_ble_eq_true rfl) ki_1 (fun _ => rfl) dX10_laysLayers_173 (fun v1 => ?_)
  refine Y.op (pc' := 104) (fun _ => X.goto 104 (by decide) dX10_laysLayers_176) ?_
  exact hkH x0 x1 x2 x3 v1 h
def f_X10_laysLayers_J171 (kH : Nat → Int32 → Int32 → Int32 → Int32 → xH → Option (Int32 × xH)) (kE179 : Nat → Int32 → Int32 → Int32 → xH → Option (Int32 × xH)) (x0 : Nat) (x1 : Int32) (x3 : Int32) (x4 : Int32) (s0 : Int32) (s1 : Int32) (h : xH) : Option (Int32 × xH) :=
  lt ((s0 ||| s1)) fun v1 =>
  f_X10_laysLayers_J173 (kH) kE179 x0 x1 v1 x3 x4 h
theorem y_X10_laysLayers_J171 {g : xG} {h0 : xH} {cl : Bool} {kH : Nat → Int32 → Int32 → Int32 → Int32 → xH → Option (Int32 × xH)} {kE179 : Nat → Int32 → Int32 → Int32 → xH → Option (Int32 × xH)} (hkH : ∀ (x0 : Nat) (x1 : Int32) (x2 : Int32) (x3 : Int32) (x4 : Int32) (h : xH), Y g DX10_laysLayers h0 cl iI (kH x0 x1 x2 x3 x4 h) 104 [some (.ref x0), some (.int x1), some (.int x2), some (.int x3), some (.int x4)] [] h) (hkE179 : ∀ (x0 : Nat) (x1 : Int32) (x2 : Int32) (x3 : Int32) (h : xH), Y g DX10_laysLayers h0 cl iI (kE179 x0 x1 x2 x3 h) 179 [some (.ref x0), some (.int x1), some (.int x2), some (.int x3), none] [] h) (x0 : Nat) (x1 : Int32) (x3 : Int32) (x4 : Int32) (s0 : Int32) (s1 : Int32) (h : xH) : Y g DX10_laysLayers h0 cl iI (f_X10_laysLayers_J171 kH kE179 x0 x1 x3 x4 s0 s1 h) 171 [some (.ref x0), some (.int x1), none, some (.int x3), some (.int x4)] [.int s1, .int s0] h := by
  unfold f_X10_laysLayers_J171
  refine Y.op (pc' := 172) (fun _ => X.ior dX10_laysLayers_171) ?_
  refine Y.top (fun v1 => ?_)
  refine Y.op (pc' := 173) (loc' := [some (.ref x0), some (.int x1), some (.int v1), some (.int x3), some (.int x4)]) (fun _ => X.istoren (Nat.le_of_ble_eq_true rfl) rfl dX10_laysLayers_172) ?_
  exact y_X10_laysLayers_J173 hkH hkE179 x0 x1 v1 x3 x4 h
def f_X10_laysLayers_L104 (kE179 : Nat → Int32 → Int32 → Int32 → xH → Option (Int32 × xH)) : Nat → Nat → Int32 → Int32 → Int32 → Int32 → xH → Option (Int32 × xH)
  | 0 => fun _ _ _ _ _ _ => none
  | n + 1 => fun x0 x1 x2 x3 x4 h =>
    (gR h 10 x0 9).bind fun v1 =>
    (aR 102 h v1 (0 : Int32)).bind fun v2 =>
    (aI h v2 (1 : Int32)).bind fun v3 =>
    if x4 ≥ v3 then
      kE179 x0 x1 x2 x3 h
    else
      (vc h 10 x0 (f_X10_openTo x0 x3 h)).bind fun r4 =>
      (f_X10_has r4.1 x4 r4.2).bind fun r5 =>
      if r5.1 = (0 : Int32) then
        f_X10_laysLayers_J173 (f_X10_laysLayers_L104 kE179 n) kE179 x0 x1 x2 x3 x4 r5.2
      else
        (gR r5.2 10 x0 25).bind fun v6 =>
        (aI r5.2 v6 x4).bind fun v7 =>
        if v7 = (-1 : Int32) then
          (gR r5.2 10 x0 25).bind fun v8 =>
          (sI r5.2 v8 x4 (x1 + (1 : Int32))).bind fun h9 =>
          (vc h9 10 x0 (f_X10_partnerOf x0 (1 : Int32) x4 h9)).bind fun r10 =>
          if r10.1 = (-1 : Int32) then
            f_X10_laysLayers_J171 (f_X10_laysLayers_L104 kE179 n) kE179 x0 x1 x3 x4 x2 (1 : Int32) r10.2
          else
            f_X10_laysLayers_J171 (f_X10_laysLayers_L104 kE179 n) kE179 x0 x1 x3 x4 x2 (0 : Int32) r10.2
        else
          f_X10_laysLayers_J173 (f_X10_laysLayers_L104 kE179 n) kE179 x0 x1 x2 x3 x4 r5.2
theorem y_X10_laysLayers_L104 {g : xG} {h0 : xH} {cl : Bool} {kE179 : Nat → Int32 → Int32 → Int32 → xH → Option (Int32 × xH)} (hkE179 : ∀ (x0 : Nat) (x1 : Int32) (x2 : Int32) (x3 : Int32) (h : xH), Y g DX10_laysLayers h0 cl iI (kE179 x0 x1 x2 x3 h) 179 [some (.ref x0), some (.int x1), some (.int x2), some (.int x3), none] [] h) : ∀ (n : Nat) (x0 : Nat) (x1 : Int32) (x2 : Int32) (x3 : Int32) (x4 : Int32) (h : xH), Y g DX10_laysLayers h0 cl iI (f_X10_laysLayers_L104 kE179 n x0 x1 x2 x3 x4 h) 104 [some (.ref x0), some (.int x1), some (.int x2), some (.int x3), some (.int x4)] [] h := by
  intro n
  induction n with
  | zero => intro x0 x1 x2 x3 x4 h; exact Y.nothing
  | succ n ih =>
    intro x0 x1 x2 x3 x4 h
    unfold f_X10_laysLayers_L104
    refine Y.op (pc' := 106) (fun _ => X.iload rfl dX10_laysLayers_104) ?_
    refine Y.op (pc' := 107) (fun _ => X.aloadn rfl dX10_laysLayers_106) ?_
    refine Y.getR fd_X10_22 rfl dX10_laysLayers_107 (fun v1 => ?_)
    refine Y.op (pc' := 111) (fun _ => X.ic ki_0 dX10_laysLayers_110) ?_
    refine Y.aldR 102 (by decide) (by decide) dX10_laysLayers_111 (fun v2 => ?_)
    refine Y.op (pc' := 113) (fun _ => X.ic ki_1 dX10_laysLayers_112) ?_
    refine Y.aldI dX10_laysLayers_113 (fun v3 => ?_)
    refine Y.cmpge 179 (by decide) dX10_laysLayers_114 ?_ ?_
    · exact Y.fg (hkE179 x0 x1 x2 x3 h) (And.intro rfl (And.intro rfl (And.intro rfl (And.intro rfl trivial))))
    · refine Y.op (pc' := 118) (fun _ => X.aloadn rfl dX10_laysLayers_117) ?_
      refine Y.op (pc' := 119) (fun _ => X.iloadn rfl dX10_laysLayers_118) ?_
      refine Y.callVi (As := [.int x3]) lk_X10_246 rfl cal_X10_openTo vir_X10_openTo (Nat.le_of_ble_eq_true rfl) (Nat.le_of_ble_eq_true rfl) rfl rfl rfl (Nat.le_of_ble_eq_true rfl) dX10_laysLayers_119 (fun _ e => m_X10_openTo x0 x3 h _ _ e) (fun r4 => ?_)
      refine Y.op (pc' := 124) (fun _ => X.iload rfl dX10_laysLayers_122) ?_
      refine Y.callSi (As := [.int r4.1, .int x4]) lk_X10_182 rfl cal_X10_has sta_X10_has (Nat.le_of_ble_eq_true rfl) rfl rfl (Nat.le_of_ble_eq_true rfl) dX10_laysLayers_124 (fun _ e => m_X10_has r4.1 x4 r4.2 _ _ e) (fun r5 => ?_)
      refine Y.ifeq 173 (by decide) dX10_laysLayers_127 ?_ ?_
      · exact y_X10_laysLayers_J173 ih hkE179 x0 x1 x2 x3 x4 r5.2
      · refine Y.op (pc' := 131) (fun _ => X.aloadn rfl dX10_laysLayers_130) ?_
        refine Y.getR fd_X10_48 rfl dX10_laysLayers_131 (fun v6 => ?_)
        refine Y.op (pc' := 136) (fun _ => X.iload rfl dX10_laysLayers_134) ?_
        refine Y.aldI dX10_laysLayers_136 (fun v7 => ?_)
        refine Y.op (pc' := 138) (fun _ => X.ic ki_m1 dX10_laysLayers_137) ?_
        refine Y.cmpeq 144 (by decide) dX10_laysLayers_138 ?_ ?_
        · refine Y.op (pc' := 145) (fun _ => X.aloadn rfl dX10_laysLayers_144) ?_
          refine Y.getR fd_X10_48 rfl dX10_laysLayers_145 (fun v8 => ?_)
          refine Y.op (pc' := 150) (fun _ => X.iload rfl dX10_laysLayers_148) ?_
          refine Y.op (pc' := 151) (fun _ => X.iloadn rfl dX10_laysLayers_150) ?_
          refine Y.op (pc' := 152) (fun _ => X.ic ki_1 dX10_laysLayers_151) ?_
          refine Y.op (pc' := 153) (fun _ => X.iadd dX10_laysLayers_152) ?_
          refine Y.astI dX10_laysLayers_153 (fun h9 => ?_)
          refine Y.op (pc' := 155) (fun _ => X.iloadn rfl dX10_laysLayers_154) ?_
          refine Y.op (pc' := 156) (fun _ => X.aloadn rfl dX10_laysLayers_155) ?_
          refine Y.op (pc' := 157) (fun _ => X.ic ki_1 dX10_laysLayers_156) ?_
          refine Y.op (pc' := 159) (fun _ => X.iload rfl dX10_laysLayers_157) ?_
          refine Y.callVi (As := [.int (1 : Int32), .int x4]) lk_X10_243 rfl cal_X10_partnerOf vir_X10_partnerOf (Nat.le_of_ble_eq_true rfl) (Nat.le_of_ble_eq_true rfl) rfl rfl rfl (Nat.le_of_ble_eq_true rfl) dX10_laysLayers_159 (fun _ e => m_X10_partnerOf x0 (1 : Int32) x4 h9 _ _ e) (fun r10 => ?_)
          refine Y.op (pc' := 163) (fun _ => X.ic ki_m1 dX10_laysLayers_162) ?_
          refine Y.cmpne 170 (by decide) dX10_laysLayers_163 ?_ ?_
          · refine Y.op (pc' := 171) (fun _ => X.ic ki_0 dX10_laysLayers_170) ?_
            exact Y.fg (y_X10_laysLayers_J171 ih hkE179 x0 x1 x3 x4 x2 (0 : Int32) r10.2) (And.intro rfl (And.intro rfl (And.intro rfl (And.intro rfl trivial))))
          · refine Y.op (pc' := 167) (fun _ => X.ic ki_1 dX10_laysLayers_166) ?_
            refine Y.op (pc' := 171) (fun _ => X.goto 171 (by decide) dX10_laysLayers_167) ?_
            exact Y.fg (y_X10_laysLayers_J171 ih hkE179 x0 x1 x3 x4 x2 (1 : Int32) r10.2) (And.intro rfl (And.intro rfl (And.intro rfl (And.intro rfl trivial))))
        · refine Y.op (pc' := 173) (fun _ => X.goto 173 (by decide) dX10_laysLayers_141) ?_
          exact y_X10_laysLayers_J173 ih hkE179 x0 x1 x2 x3 x4 r5.2
def f_X10_laysLayers_L76 (kE185 : Nat → Int32 → Int32 → xH → Option (Int32 × xH)) : Nat → Nat → Int32 → Int32 → Int32 → xH → Option (Int32 × xH)
  | 0 => fun _ _ _ _ _ => none
  | n + 1 => fun x0 x1 x2 x3 h =>
    (gR h 10 x0 9).bind fun v1 =>
    (aR 102 h v1 (0 : Int32)).bind fun v2 =>
    (aI h v2 (0 : Int32)).bind fun v3 =>
    if x3 ≥ v3 then
      kE185 x0 x1 x2 h
    else
      (gR h 10 x0 24).bind fun v4 =>
      (aI h v4 x3).bind fun v5 =>
      if v5 = x1 then
        f_X10_laysLayers_L104 (f_X10_laysLayers_J179 (f_X10_laysLayers_L76 kE185 n) kE185) 5000 x0 x1 x2 x3 (0 : Int32) h
      else
        f_X10_laysLayers_J179 (f_X10_laysLayers_L76 kE185 n) kE185 x0 x1 x2 x3 h
theorem y_X10_laysLayers_L76 {g : xG} {h0 : xH} {cl : Bool} {kE185 : Nat → Int32 → Int32 → xH → Option (Int32 × xH)} (hkE185 : ∀ (x0 : Nat) (x1 : Int32) (x2 : Int32) (h : xH), Y g DX10_laysLayers h0 cl iI (kE185 x0 x1 x2 h) 185 [some (.ref x0), some (.int x1), some (.int x2), none, none] [] h) : ∀ (n : Nat) (x0 : Nat) (x1 : Int32) (x2 : Int32) (x3 : Int32) (h : xH), Y g DX10_laysLayers h0 cl iI (f_X10_laysLayers_L76 kE185 n x0 x1 x2 x3 h) 76 [some (.ref x0), some (.int x1), some (.int x2), some (.int x3), none] [] h := by
  intro n
  induction n with
  | zero => intro x0 x1 x2 x3 h; exact Y.nothing
  | succ n ih =>
    intro x0 x1 x2 x3 h
    unfold f_X10_laysLayers_L76
    refine Y.op (pc' := 77) (fun _ => X.iloadn rfl dX10_laysLayers_76) ?_
    refine Y.op (pc' := 78) (fun _ => X.aloadn rfl dX10_laysLayers_77) ?_
    refine Y.getR fd_X10_22 rfl dX10_laysLayers_78 (fun v1 => ?_)
    refine Y.op (pc' := 82) (fun _ => X.ic ki_0 dX10_laysLayers_81) ?_
    refine Y.aldR 102 (by decide) (by decide) dX10_laysLayers_82 (fun v2 => ?_)
    refine Y.op (pc' := 84) (fun _ => X.ic ki_0 dX10_laysLayers_83) ?_
    refine Y.aldI dX10_laysLayers_84 (fun v3 => ?_)
    refine Y.cmpge 185 (by decide) dX10_laysLayers_85 ?_ ?_
    · exact Y.fg (hkE185 x0 x1 x2 h) (And.intro rfl (And.intro rfl (And.intro rfl trivial)))
    · refine Y.op (pc' := 89) (fun _ => X.aloadn rfl dX10_laysLayers_88) ?_
      refine Y.getR fd_X10_45 rfl dX10_laysLayers_89 (fun v4 => ?_)
      refine Y.op (pc' := 93) (fun _ => X.iloadn rfl dX10_laysLayers_92) ?_
      refine Y.aldI dX10_laysLayers_93 (fun v5 => ?_)
      refine Y.op (pc' := 95) (fun _ => X.iloadn rfl dX10_laysLayers_94) ?_
      refine Y.cmpeq 101 (by decide) dX10_laysLayers_95 ?_ ?_
      · refine Y.op (pc' := 102) (fun _ => X.ic ki_0 dX10_laysLayers_101) ?_
        refine Y.op (pc' := 104) (loc' := [some (.ref x0), some (.int x1), some (.int x2), some (.int x3), some (.int (0 : Int32))]) (fun _ => X.istore (Nat.le_of_ble_eq_true rfl) rfl dX10_laysLayers_102) ?_
        exact y_X10_laysLayers_L104 (y_X10_laysLayers_J179 ih hkE185) 5000 x0 x1 x2 x3 (0 : Int32) h
      · refine Y.op (pc' := 179) (fun _ => X.goto 179 (by decide) dX10_laysLayers_98) ?_
        exact y_X10_laysLayers_J179 ih hkE185 x0 x1 x2 x3 h
def f_X10_laysLayers_L66 (kE189 : xH → Option (Int32 × xH)) (kE243 : xH → Option (Int32 × xH)) : Nat → Nat → Int32 → xH → Option (Int32 × xH)
  | 0 => fun _ _ _ => none
  | n + 1 => fun x0 x1 h =>
    if x1 > (24 : Int32) then
      kE243 h
    else
      f_X10_laysLayers_L76 (f_X10_laysLayers_J185 (f_X10_laysLayers_L66 kE189 kE243 n) kE189 kE243) 5000 x0 x1 (0 : Int32) (0 : Int32) h
theorem y_X10_laysLayers_L66 {g : xG} {h0 : xH} {cl : Bool} {kE189 : xH → Option (Int32 × xH)} {kE243 : xH → Option (Int32 × xH)} (hkE189 : ∀  (h : xH), Y g DX10_laysLayers h0 cl iI (kE189  h) 189 [none, none, none, none, none] [] h) (hkE243 : ∀  (h : xH), Y g DX10_laysLayers h0 cl iI (kE243  h) 243 [none, none, none, none, none] [] h) : ∀ (n : Nat) (x0 : Nat) (x1 : Int32) (h : xH), Y g DX10_laysLayers h0 cl iI (f_X10_laysLayers_L66 kE189 kE243 n x0 x1 h) 66 [some (.ref x0), some (.int x1), none, none, none] [] h := by
  intro n
  induction n with
  | zero => intro x0 x1 h; exact Y.nothing
  | succ n ih =>
    intro x0 x1 h
    unfold f_X10_laysLayers_L66
    refine Y.op (pc' := 67) (fun _ => X.iloadn rfl dX10_laysLayers_66) ?_
    refine Y.op (pc' := 69) (fun _ => X.bp kb_24 dX10_laysLayers_67) ?_
    refine Y.cmpgt 243 (by decide) dX10_laysLayers_69 ?_ ?_
    · exact Y.fg (hkE243 h) trivial
    · refine Y.op (pc' := 73) (fun _ => X.ic ki_0 dX10_laysLayers_72) ?_
      refine Y.op (pc' := 74) (loc' := [some (.ref x0), some (.int x1), some (.int (0 : Int32)), none, none]) (fun _ => X.istoren (Nat.le_of_ble_eq_true rfl) rfl dX10_laysLayers_73) ?_
      refine Y.op (pc' := 75) (fun _ => X.ic ki_0 dX10_laysLayers_74) ?_
      refine Y.op (pc' := 76) (loc' := [some (.ref x0), some (.int x1), some (.int (0 : Int32)), some (.int (0 : Int32)), none]) (fun _ => X.istoren (Nat.le_of_ble_eq_true rfl) rfl dX10_laysLayers_75) ?_
      exact y_X10_laysLayers_L76 (y_X10_laysLayers_J185 ih hkE189 hkE243) 5000 x0 x1 (0 : Int32) (0 : Int32) h
def f_X10_laysLayers_J64 (x0 : Nat) (h : xH) : Option (Int32 × xH) :=
  f_X10_laysLayers_L66 (f_X10_laysLayers_J189) (f_X10_laysLayers_J243) 5000 x0 (0 : Int32) h
theorem y_X10_laysLayers_J64 {g : xG} {h0 : xH} {cl : Bool} (x0 : Nat) (h : xH) : Y g DX10_laysLayers h0 cl iI (f_X10_laysLayers_J64 x0 h) 64 [some (.ref x0), none, none, none, none] [] h := by
  unfold f_X10_laysLayers_J64
  refine Y.op (pc' := 65) (fun _ => X.ic ki_0 dX10_laysLayers_64) ?_
  refine Y.op (pc' := 66) (loc' := [some (.ref x0), some (.int (0 : Int32)), none, none, none]) (fun _ => X.istoren (Nat.le_of_ble_eq_true rfl) rfl dX10_laysLayers_65) ?_
  exact y_X10_laysLayers_L66 (y_X10_laysLayers_J189) (y_X10_laysLayers_J243) 5000 x0 (0 : Int32) h
def f_X10_laysLayers_J58 (kH : Nat → Int32 → xH → Option (Int32 × xH)) (kE64 : Nat → xH → Option (Int32 × xH)) (x0 : Nat) (x1 : Int32) (h : xH) : Option (Int32 × xH) :=
  lt (x1 + (1 : Int32)) fun v1 =>
  kH x0 v1 h
theorem y_X10_laysLayers_J58 {g : xG} {h0 : xH} {cl : Bool} {kH : Nat → Int32 → xH → Option (Int32 × xH)} {kE64 : Nat → xH → Option (Int32 × xH)} (hkH : ∀ (x0 : Nat) (x1 : Int32) (h : xH), Y g DX10_laysLayers h0 cl iI (kH x0 x1 h) 30 [some (.ref x0), some (.int x1), none, none, none] [] h) (hkE64 : ∀ (x0 : Nat) (h : xH), Y g DX10_laysLayers h0 cl iI (kE64 x0 h) 64 [some (.ref x0), none, none, none, none] [] h) (x0 : Nat) (x1 : Int32) (h : xH) : Y g DX10_laysLayers h0 cl iI (f_X10_laysLayers_J58 kH kE64 x0 x1 h) 58 [some (.ref x0), some (.int x1), none, none, none] [] h := by
  unfold f_X10_laysLayers_J58
  refine Y.iinc (i := 1) (loc' := fun v1 => [some (.ref x0), some (.int v1), none, none, none]) rfl (Nat.le_of_ble_eq_true rfl) ki_1 (fun _ => rfl) dX10_laysLayers_58 (fun v1 => ?_)
  refine Y.op (pc' := 30) (fun _ => X.goto 30 (by decide) dX10_laysLayers_61) ?_
  exact hkH x0 v1 h
def f_X10_laysLayers_L30 (kE64 : Nat → xH → Option (Int32 × xH)) : Nat → Nat → Int32 → xH → Option (Int32 × xH)
  | 0 => fun _ _ _ => none
  | n + 1 => fun x0 x1 h =>
    (gR h 10 x0 9).bind fun v1 =>
    (aR 102 h v1 (0 : Int32)).bind fun v2 =>
    (aI h v2 (0 : Int32)).bind fun v3 =>
    if x1 ≥ v3 then
      kE64 x0 h
    else
      (vc h 10 x0 (f_X10_isFree x0 (0 : Int32) x1 h)).bind fun r4 =>
      if r4.1 = (0 : Int32) then
        f_X10_laysLayers_J58 (f_X10_laysLayers_L30 kE64 n) kE64 x0 x1 r4.2
      else
        (gR r4.2 10 x0 24).bind fun v5 =>
        (sI r4.2 v5 x1 (0 : Int32)).bind fun h6 =>
        f_X10_laysLayers_J58 (f_X10_laysLayers_L30 kE64 n) kE64 x0 x1 h6
theorem y_X10_laysLayers_L30 {g : xG} {h0 : xH} {cl : Bool} {kE64 : Nat → xH → Option (Int32 × xH)} (hkE64 : ∀ (x0 : Nat) (h : xH), Y g DX10_laysLayers h0 cl iI (kE64 x0 h) 64 [some (.ref x0), none, none, none, none] [] h) : ∀ (n : Nat) (x0 : Nat) (x1 : Int32) (h : xH), Y g DX10_laysLayers h0 cl iI (f_X10_laysLayers_L30 kE64 n x0 x1 h) 30 [some (.ref x0), some (.int x1), none, none, none] [] h := by
  intro n
  induction n with
  | zero => intro x0 x1 h; exact Y.nothing
  | succ n ih =>
    intro x0 x1 h
    unfold f_X10_laysLayers_L30
    refine Y.op (pc' := 31) (fun _ => X.iloadn rfl dX10_laysLayers_30) ?_
    refine Y.op (pc' := 32) (fun _ => X.aloadn rfl dX10_laysLayers_31) ?_
    refine Y.getR fd_X10_22 rfl dX10_laysLayers_32 (fun v1 => ?_)
    refine Y.op (pc' := 36) (fun _ => X.ic ki_0 dX10_laysLayers_35) ?_
    refine Y.aldR 102 (by decide) (by decide) dX10_laysLayers_36 (fun v2 => ?_)
    refine Y.op (pc' := 38) (fun _ => X.ic ki_0 dX10_laysLayers_37) ?_
    refine Y.aldI dX10_laysLayers_38 (fun v3 => ?_)
    refine Y.cmpge 64 (by decide) dX10_laysLayers_39 ?_ ?_
    · exact Y.fg (hkE64 x0 h) (And.intro rfl trivial)
    · refine Y.op (pc' := 43) (fun _ => X.aloadn rfl dX10_laysLayers_42) ?_
      refine Y.op (pc' := 44) (fun _ => X.ic ki_0 dX10_laysLayers_43) ?_
      refine Y.op (pc' := 45) (fun _ => X.iloadn rfl dX10_laysLayers_44) ?_
      refine Y.callVi (As := [.int (0 : Int32), .int x1]) lk_X10_255 rfl cal_X10_isFree vir_X10_isFree (Nat.le_of_ble_eq_true rfl) (Nat.le_of_ble_eq_true rfl) rfl rfl rfl (Nat.le_of_ble_eq_true rfl) dX10_laysLayers_45 (fun _ e => m_X10_isFree x0 (0 : Int32) x1 h _ _ e) (fun r4 => ?_)
      refine Y.ifeq 58 (by decide) dX10_laysLayers_48 ?_ ?_
      · exact y_X10_laysLayers_J58 ih hkE64 x0 x1 r4.2
      · refine Y.op (pc' := 52) (fun _ => X.aloadn rfl dX10_laysLayers_51) ?_
        refine Y.getR fd_X10_45 rfl dX10_laysLayers_52 (fun v5 => ?_)
        refine Y.op (pc' := 56) (fun _ => X.iloadn rfl dX10_laysLayers_55) ?_
        refine Y.op (pc' := 57) (fun _ => X.ic ki_0 dX10_laysLayers_56) ?_
        refine Y.astI dX10_laysLayers_57 (fun h6 => ?_)
        exact y_X10_laysLayers_J58 ih hkE64 x0 x1 h6
def f_X10_laysLayers_J28 (x0 : Nat) (h : xH) : Option (Int32 × xH) :=
  f_X10_laysLayers_L30 (f_X10_laysLayers_J64) 5000 x0 (0 : Int32) h
theorem y_X10_laysLayers_J28 {g : xG} {h0 : xH} {cl : Bool} (x0 : Nat) (h : xH) : Y g DX10_laysLayers h0 cl iI (f_X10_laysLayers_J28 x0 h) 28 [some (.ref x0), none, none, none, none] [] h := by
  unfold f_X10_laysLayers_J28
  refine Y.op (pc' := 29) (fun _ => X.ic ki_0 dX10_laysLayers_28) ?_
  refine Y.op (pc' := 30) (loc' := [some (.ref x0), some (.int (0 : Int32)), none, none, none]) (fun _ => X.istoren (Nat.le_of_ble_eq_true rfl) rfl dX10_laysLayers_29) ?_
  exact y_X10_laysLayers_L30 (y_X10_laysLayers_J64) 5000 x0 (0 : Int32) h
def f_X10_laysLayers_L2 (kE28 : Nat → xH → Option (Int32 × xH)) : Nat → Nat → Int32 → xH → Option (Int32 × xH)
  | 0 => fun _ _ _ => none
  | n + 1 => fun x0 x1 h =>
    if x1 ≥ (12 : Int32) then
      kE28 x0 h
    else
      (gR h 10 x0 24).bind fun v1 =>
      (sI h v1 x1 (-1 : Int32)).bind fun h2 =>
      (gR h2 10 x0 25).bind fun v3 =>
      (sI h2 v3 x1 (-1 : Int32)).bind fun h4 =>
      lt (x1 + (1 : Int32)) fun v5 =>
      f_X10_laysLayers_L2 kE28 n x0 v5 h4
theorem y_X10_laysLayers_L2 {g : xG} {h0 : xH} {cl : Bool} {kE28 : Nat → xH → Option (Int32 × xH)} (hkE28 : ∀ (x0 : Nat) (h : xH), Y g DX10_laysLayers h0 cl iI (kE28 x0 h) 28 [some (.ref x0), none, none, none, none] [] h) : ∀ (n : Nat) (x0 : Nat) (x1 : Int32) (h : xH), Y g DX10_laysLayers h0 cl iI (f_X10_laysLayers_L2 kE28 n x0 x1 h) 2 [some (.ref x0), some (.int x1), none, none, none] [] h := by
  intro n
  induction n with
  | zero => intro x0 x1 h; exact Y.nothing
  | succ n ih =>
    intro x0 x1 h
    unfold f_X10_laysLayers_L2
    refine Y.op (pc' := 3) (fun _ => X.iloadn rfl dX10_laysLayers_2) ?_
    refine Y.op (pc' := 5) (fun _ => X.bp kb_12 dX10_laysLayers_3) ?_
    refine Y.cmpge 28 (by decide) dX10_laysLayers_5 ?_ ?_
    · exact Y.fg (hkE28 x0 h) (And.intro rfl trivial)
    · refine Y.op (pc' := 9) (fun _ => X.aloadn rfl dX10_laysLayers_8) ?_
      refine Y.getR fd_X10_45 rfl dX10_laysLayers_9 (fun v1 => ?_)
      refine Y.op (pc' := 13) (fun _ => X.iloadn rfl dX10_laysLayers_12) ?_
      refine Y.op (pc' := 14) (fun _ => X.ic ki_m1 dX10_laysLayers_13) ?_
      refine Y.astI dX10_laysLayers_14 (fun h2 => ?_)
      refine Y.op (pc' := 16) (fun _ => X.aloadn rfl dX10_laysLayers_15) ?_
      refine Y.getR fd_X10_48 rfl dX10_laysLayers_16 (fun v3 => ?_)
      refine Y.op (pc' := 20) (fun _ => X.iloadn rfl dX10_laysLayers_19) ?_
      refine Y.op (pc' := 21) (fun _ => X.ic ki_m1 dX10_laysLayers_20) ?_
      refine Y.astI dX10_laysLayers_21 (fun h4 => ?_)
      refine Y.iinc (i := 1) (loc' := fun v5 => [some (.ref x0), some (.int v5), none, none, none]) rfl (Nat.le_of_ble_eq_true rfl) ki_1 (fun _ => rfl) dX10_laysLayers_22 (fun v5 => ?_)
      refine Y.op (pc' := 2) (fun _ => X.goto 2 (by decide) dX10_laysLayers_25) ?_
      exact ih x0 v5 h4
def f_X10_laysLayers (a0 : Nat) (h : xH) : Option (Int32 × xH) :=
  f_X10_laysLayers_L2 (f_X10_laysLayers_J28) 5000 a0 (0 : Int32) h
theorem y_X10_laysLayers {g : xG} {h0 : xH} {cl : Bool} (a0 : Nat) (h : xH) : Y g DX10_laysLayers h0 cl iI (f_X10_laysLayers a0 h) 0 [some (.ref a0), none, none, none, none] [] h := by
  unfold f_X10_laysLayers
  refine Y.op (pc' := 1) (fun _ => X.ic ki_0 dX10_laysLayers_0) ?_
  refine Y.op (pc' := 2) (loc' := [some (.ref a0), some (.int (0 : Int32)), none, none, none]) (fun _ => X.istoren (Nat.le_of_ble_eq_true rfl) rfl dX10_laysLayers_1) ?_
  exact y_X10_laysLayers_L2 (y_X10_laysLayers_J28) 5000 a0 (0 : Int32) h
theorem m_X10_laysLayers {g : xG} (a0 : Nat) (h : xH) (cl : Bool) (r : Int32 × xH) (e : f_X10_laysLayers a0 h = some r) : XM g DX10_laysLayers [.ref a0] h cl (iI r) := YM.of rfl rfl (Nat.le_of_ble_eq_true rfl) (y_X10_laysLayers a0 h) e
def f_X10_seeks_J164 (rec : Nat → Int32 → xH → Option (Int32 × xH)) (h : xH) : Option (Int32 × xH) :=
  some ((-1 : Int32), h)
theorem y_X10_seeks_J164 {g : xG} {l : Nat} {h0 : xH} {cl : Bool} {rec : Nat → Int32 → xH → Option (Int32 × xH)} (hrec : ∀ (a0 : Nat) (p1 : Int32) (h : xH) (cl : Bool) (r : Int32 × xH), rec a0 p1 h = some r → XM g (DX10_seeks (l + 2)) [.ref a0, .int p1] h cl (iI r)) (h : xH) : Y g (DX10_seeks (l + 2 + 1)) h0 cl iI (f_X10_seeks_J164 rec h) 164 [none, none, none, none, none] [] h := by
  unfold f_X10_seeks_J164
  refine Y.op (pc' := 165) (fun _ => X.ic ki_m1 dX10_seeks_164) ?_
  exact Y.ireturn rfl dX10_seeks_165
def f_X10_seeks_J144 (rec : Nat → Int32 → xH → Option (Int32 × xH)) (x0 : Nat) (x1 : Int32) (x2 : Int32) (x4 : Int32) (h : xH) : Option (Int32 × xH) :=
  (gR h 10 x0 11).bind fun v1 =>
  (aR 102 h v1 (0 : Int32)).bind fun v2 =>
  (sI h v2 x1 x2).bind fun h3 =>
  some ((x4 + (2 : Int32)), h3)
theorem y_X10_seeks_J144 {g : xG} {l : Nat} {h0 : xH} {cl : Bool} {rec : Nat → Int32 → xH → Option (Int32 × xH)} (hrec : ∀ (a0 : Nat) (p1 : Int32) (h : xH) (cl : Bool) (r : Int32 × xH), rec a0 p1 h = some r → XM g (DX10_seeks (l + 2)) [.ref a0, .int p1] h cl (iI r)) (x0 : Nat) (x1 : Int32) (x2 : Int32) (x4 : Int32) (h : xH) : Y g (DX10_seeks (l + 2 + 1)) h0 cl iI (f_X10_seeks_J144 rec x0 x1 x2 x4 h) 144 [some (.ref x0), some (.int x1), some (.int x2), none, some (.int x4)] [] h := by
  unfold f_X10_seeks_J144
  refine Y.op (pc' := 145) (fun _ => X.aloadn rfl dX10_seeks_144) ?_
  refine Y.getR fd_X10_28 rfl dX10_seeks_145 (fun v1 => ?_)
  refine Y.op (pc' := 149) (fun _ => X.ic ki_0 dX10_seeks_148) ?_
  refine Y.aldR 102 (by decide) (by decide) dX10_seeks_149 (fun v2 => ?_)
  refine Y.op (pc' := 151) (fun _ => X.iloadn rfl dX10_seeks_150) ?_
  refine Y.op (pc' := 152) (fun _ => X.iloadn rfl dX10_seeks_151) ?_
  refine Y.astI dX10_seeks_152 (fun h3 => ?_)
  refine Y.op (pc' := 155) (fun _ => X.iload rfl dX10_seeks_153) ?_
  refine Y.op (pc' := 156) (fun _ => X.ic ki_2 dX10_seeks_155) ?_
  refine Y.op (pc' := 157) (fun _ => X.iadd dX10_seeks_156) ?_
  exact Y.ireturn rfl dX10_seeks_157
def f_X10_seeks_J158 (rec : Nat → Int32 → xH → Option (Int32 × xH)) (kH : Nat → Int32 → Int32 → xH → Option (Int32 × xH)) (kE144 : Nat → Int32 → Int32 → Int32 → xH → Option (Int32 × xH)) (kE164 : xH → Option (Int32 × xH)) (x0 : Nat) (x1 : Int32) (x2 : Int32) (h : xH) : Option (Int32 × xH) :=
  lt (x2 + (1 : Int32)) fun v1 =>
  kH x0 x1 v1 h
theorem y_X10_seeks_J158 {g : xG} {l : Nat} {h0 : xH} {cl : Bool} {rec : Nat → Int32 → xH → Option (Int32 × xH)} {kH : Nat → Int32 → Int32 → xH → Option (Int32 × xH)} {kE144 : Nat → Int32 → Int32 → Int32 → xH → Option (Int32 × xH)} {kE164 : xH → Option (Int32 × xH)} (hrec : ∀ (a0 : Nat) (p1 : Int32) (h : xH) (cl : Bool) (r : Int32 × xH), rec a0 p1 h = some r → XM g (DX10_seeks (l + 2)) [.ref a0, .int p1] h cl (iI r)) (hkH : ∀ (x0 : Nat) (x1 : Int32) (x2 : Int32) (h : xH), Y g (DX10_seeks (l + 2 + 1)) h0 cl iI (kH x0 x1 x2 h) 14 [some (.ref x0), some (.int x1), some (.int x2), none, none] [] h) (hkE144 : ∀ (x0 : Nat) (x1 : Int32) (x2 : Int32) (x4 : Int32) (h : xH), Y g (DX10_seeks (l + 2 + 1)) h0 cl iI (kE144 x0 x1 x2 x4 h) 144 [some (.ref x0), some (.int x1), some (.int x2), none, some (.int x4)] [] h) (hkE164 : ∀  (h : xH), Y g (DX10_seeks (l + 2 + 1)) h0 cl iI (kE164  h) 164 [none, none, none, none, none] [] h) (x0 : Nat) (x1 : Int32) (x2 : Int32) (h : xH) : Y g (DX10_seeks (l + 2 + 1)) h0 cl iI (f_X10_seeks_J158 rec kH kE144 kE164 x0 x1 x2 h) 158 [some (.ref x0), some (.int x1), some (.int x2), none, none] [] h := by
  unfold f_X10_seeks_J158
  refine Y.iinc (i := 2) (loc' := fun v1 => [some (.ref x0), some (.int x1), some (.int v1), none, none]) rfl (Nat.le_of_ble_eq_true rfl) ki_1 (fun _ => rfl) dX10_seeks_158 (fun v1 => ?_)
  refine Y.op (pc' := 14) (fun _ => X.goto 14 (by decide) dX10_seeks_161) ?_
  exact hkH x0 x1 v1 h
def f_X10_seeks_J135 (rec : Nat → Int32 → xH → Option (Int32 × xH)) (kH : Nat → Int32 → Int32 → xH → Option (Int32 × xH)) (kE144 : Nat → Int32 → Int32 → Int32 → xH → Option (Int32 × xH)) (kE164 : xH → Option (Int32 × xH)) (x0 : Nat) (x1 : Int32) (x2 : Int32) (x4 : Int32) (h : xH) : Option (Int32 × xH) :=
  if x4 = (-1 : Int32) then
    f_X10_seeks_J158 rec (kH) kE144 kE164 x0 x1 x2 h
  else
    kE144 x0 x1 x2 x4 h
theorem y_X10_seeks_J135 {g : xG} {l : Nat} {h0 : xH} {cl : Bool} {rec : Nat → Int32 → xH → Option (Int32 × xH)} {kH : Nat → Int32 → Int32 → xH → Option (Int32 × xH)} {kE144 : Nat → Int32 → Int32 → Int32 → xH → Option (Int32 × xH)} {kE164 : xH → Option (Int32 × xH)} (hrec : ∀ (a0 : Nat) (p1 : Int32) (h : xH) (cl : Bool) (r : Int32 × xH), rec a0 p1 h = some r → XM g (DX10_seeks (l + 2)) [.ref a0, .int p1] h cl (iI r)) (hkH : ∀ (x0 : Nat) (x1 : Int32) (x2 : Int32) (h : xH), Y g (DX10_seeks (l + 2 + 1)) h0 cl iI (kH x0 x1 x2 h) 14 [some (.ref x0), some (.int x1), some (.int x2), none, none] [] h) (hkE144 : ∀ (x0 : Nat) (x1 : Int32) (x2 : Int32) (x4 : Int32) (h : xH), Y g (DX10_seeks (l + 2 + 1)) h0 cl iI (kE144 x0 x1 x2 x4 h) 144 [some (.ref x0), some (.int x1), some (.int x2), none, some (.int x4)] [] h) (hkE164 : ∀  (h : xH), Y g (DX10_seeks (l + 2 + 1)) h0 cl iI (kE164  h) 164 [none, none, none, none, none] [] h) (x0 : Nat) (x1 : Int32) (x2 : Int32) (x4 : Int32) (h : xH) : Y g (DX10_seeks (l + 2 + 1)) h0 cl iI (f_X10_seeks_J135 rec kH kE144 kE164 x0 x1 x2 x4 h) 135 [some (.ref x0), some (.int x1), some (.int x2), none, some (.int x4)] [] h := by
  unfold f_X10_seeks_J135
  refine Y.op (pc' := 137) (fun _ => X.iload rfl dX10_seeks_135) ?_
  refine Y.op (pc' := 138) (fun _ => X.ic ki_m1 dX10_seeks_137) ?_
  refine Y.cmpne 144 (by decide) dX10_seeks_138 ?_ ?_
  · exact hkE144 x0 x1 x2 x4 h
  · refine Y.op (pc' := 158) (fun _ => X.goto 158 (by decide) dX10_seeks_141) ?_
    exact Y.fg (y_X10_seeks_J158 hrec hkH hkE144 hkE164 x0 x1 x2 h) (And.intro rfl (And.intro rfl (And.intro rfl trivial)))
def f_X10_seeks_J133 (rec : Nat → Int32 → xH → Option (Int32 × xH)) (kH : Nat → Int32 → Int32 → xH → Option (Int32 × xH)) (kE144 : Nat → Int32 → Int32 → Int32 → xH → Option (Int32 × xH)) (kE164 : xH → Option (Int32 × xH)) (x0 : Nat) (x1 : Int32) (x2 : Int32) (s0 : Int32) (h : xH) : Option (Int32 × xH) :=
  f_X10_seeks_J135 rec (kH) kE144 kE164 x0 x1 x2 s0 h
theorem y_X10_seeks_J133 {g : xG} {l : Nat} {h0 : xH} {cl : Bool} {rec : Nat → Int32 → xH → Option (Int32 × xH)} {kH : Nat → Int32 → Int32 → xH → Option (Int32 × xH)} {kE144 : Nat → Int32 → Int32 → Int32 → xH → Option (Int32 × xH)} {kE164 : xH → Option (Int32 × xH)} (hrec : ∀ (a0 : Nat) (p1 : Int32) (h : xH) (cl : Bool) (r : Int32 × xH), rec a0 p1 h = some r → XM g (DX10_seeks (l + 2)) [.ref a0, .int p1] h cl (iI r)) (hkH : ∀ (x0 : Nat) (x1 : Int32) (x2 : Int32) (h : xH), Y g (DX10_seeks (l + 2 + 1)) h0 cl iI (kH x0 x1 x2 h) 14 [some (.ref x0), some (.int x1), some (.int x2), none, none] [] h) (hkE144 : ∀ (x0 : Nat) (x1 : Int32) (x2 : Int32) (x4 : Int32) (h : xH), Y g (DX10_seeks (l + 2 + 1)) h0 cl iI (kE144 x0 x1 x2 x4 h) 144 [some (.ref x0), some (.int x1), some (.int x2), none, some (.int x4)] [] h) (hkE164 : ∀  (h : xH), Y g (DX10_seeks (l + 2 + 1)) h0 cl iI (kE164  h) 164 [none, none, none, none, none] [] h) (x0 : Nat) (x1 : Int32) (x2 : Int32) (s0 : Int32) (h : xH) : Y g (DX10_seeks (l + 2 + 1)) h0 cl iI (f_X10_seeks_J133 rec kH kE144 kE164 x0 x1 x2 s0 h) 133 [some (.ref x0), some (.int x1), some (.int x2), none, none] [.int s0] h := by
  unfold f_X10_seeks_J133
  refine Y.op (pc' := 135) (loc' := [some (.ref x0), some (.int x1), some (.int x2), none, some (.int s0)]) (fun _ => X.istore (Nat.le_of_ble_eq_true rfl) rfl dX10_seeks_133) ?_
  exact y_X10_seeks_J135 hrec hkH hkE144 hkE164 x0 x1 x2 s0 h
def f_X10_seeks_J132 (rec : Nat → Int32 → xH → Option (Int32 × xH)) (kH : Nat → Int32 → Int32 → xH → Option (Int32 × xH)) (kE144 : Nat → Int32 → Int32 → Int32 → xH → Option (Int32 × xH)) (kE164 : xH → Option (Int32 × xH)) (x0 : Nat) (x1 : Int32) (x2 : Int32) (h : xH) : Option (Int32 × xH) :=
  f_X10_seeks_J133 rec (kH) kE144 kE164 x0 x1 x2 (-1 : Int32) h
theorem y_X10_seeks_J132 {g : xG} {l : Nat} {h0 : xH} {cl : Bool} {rec : Nat → Int32 → xH → Option (Int32 × xH)} {kH : Nat → Int32 → Int32 → xH → Option (Int32 × xH)} {kE144 : Nat → Int32 → Int32 → Int32 → xH → Option (Int32 × xH)} {kE164 : xH → Option (Int32 × xH)} (hrec : ∀ (a0 : Nat) (p1 : Int32) (h : xH) (cl : Bool) (r : Int32 × xH), rec a0 p1 h = some r → XM g (DX10_seeks (l + 2)) [.ref a0, .int p1] h cl (iI r)) (hkH : ∀ (x0 : Nat) (x1 : Int32) (x2 : Int32) (h : xH), Y g (DX10_seeks (l + 2 + 1)) h0 cl iI (kH x0 x1 x2 h) 14 [some (.ref x0), some (.int x1), some (.int x2), none, none] [] h) (hkE144 : ∀ (x0 : Nat) (x1 : Int32) (x2 : Int32) (x4 : Int32) (h : xH), Y g (DX10_seeks (l + 2 + 1)) h0 cl iI (kE144 x0 x1 x2 x4 h) 144 [some (.ref x0), some (.int x1), some (.int x2), none, some (.int x4)] [] h) (hkE164 : ∀  (h : xH), Y g (DX10_seeks (l + 2 + 1)) h0 cl iI (kE164  h) 164 [none, none, none, none, none] [] h) (x0 : Nat) (x1 : Int32) (x2 : Int32) (h : xH) : Y g (DX10_seeks (l + 2 + 1)) h0 cl iI (f_X10_seeks_J132 rec kH kE144 kE164 x0 x1 x2 h) 132 [some (.ref x0), some (.int x1), some (.int x2), none, none] [] h := by
  unfold f_X10_seeks_J132
  refine Y.op (pc' := 133) (fun _ => X.ic ki_m1 dX10_seeks_132) ?_
  exact y_X10_seeks_J133 hrec hkH hkE144 hkE164 x0 x1 x2 (-1 : Int32) h
def f_X10_seeks_L14 (rec : Nat → Int32 → xH → Option (Int32 × xH)) (kE144 : Nat → Int32 → Int32 → Int32 → xH → Option (Int32 × xH)) (kE164 : xH → Option (Int32 × xH)) : Nat → Nat → Int32 → Int32 → xH → Option (Int32 × xH)
  | 0 => fun _ _ _ _ => none
  | n + 1 => fun x0 x1 x2 h =>
    (gR h 10 x0 9).bind fun v1 =>
    (aR 102 h v1 (0 : Int32)).bind fun v2 =>
    (aI h v2 (1 : Int32)).bind fun v3 =>
    if x2 ≥ v3 then
      kE164 h
    else
      (vc h 10 x0 (f_X10_openTo x0 x1 h)).bind fun r4 =>
      (f_X10_has r4.1 x2 r4.2).bind fun r5 =>
      if r5.1 = (0 : Int32) then
        f_X10_seeks_J158 rec (f_X10_seeks_L14 rec kE144 kE164 n) kE144 kE164 x0 x1 x2 r5.2
      else
        (gI r5.2 10 x0 27).bind fun v6 =>
        (f_X10_has v6 x2 r5.2).bind fun r7 =>
        if r7.1 = (0 : Int32) then
          (gR r7.2 10 x0 25).bind fun v8 =>
          (aI r7.2 v8 x2).bind fun v9 =>
          (gR r7.2 10 x0 24).bind fun v10 =>
          (aI r7.2 v10 x1).bind fun v11 =>
          if v9 = (v11 + (1 : Int32)) then
            (gI r7.2 10 x0 27).bind fun v12 =>
            (pI r7.2 10 x0 27 (v12 ||| ((1 : Int32) <<< (x2 &&& 31)))).bind fun h13 =>
            (vc h13 10 x0 (f_X10_partnerOf x0 (1 : Int32) x2 h13)).bind fun r14 =>
            if r14.1 = (-1 : Int32) then
              f_X10_seeks_J135 rec (f_X10_seeks_L14 rec kE144 kE164 n) kE144 kE164 x0 x1 x2 (0 : Int32) r14.2
            else
              (gR r14.2 10 x0 24).bind fun v15 =>
              (aI r14.2 v15 r14.1).bind fun v16 =>
              (gR r14.2 10 x0 24).bind fun v17 =>
              (aI r14.2 v17 x1).bind fun v18 =>
              if v16 = (v18 + (2 : Int32)) then
                (gI r14.2 10 x0 26).bind fun v19 =>
                (f_X10_has v19 r14.1 r14.2).bind fun r20 =>
                if r20.1 = (0 : Int32) then
                  (vc r20.2 10 x0 (rec x0 r14.1 r20.2)).bind fun r21 =>
                  f_X10_seeks_J133 rec (f_X10_seeks_L14 rec kE144 kE164 n) kE144 kE164 x0 x1 x2 r21.1 r21.2
                else
                  f_X10_seeks_J132 rec (f_X10_seeks_L14 rec kE144 kE164 n) kE144 kE164 x0 x1 x2 r20.2
              else
                f_X10_seeks_J132 rec (f_X10_seeks_L14 rec kE144 kE164 n) kE144 kE164 x0 x1 x2 r14.2
          else
            f_X10_seeks_J158 rec (f_X10_seeks_L14 rec kE144 kE164 n) kE144 kE164 x0 x1 x2 r7.2
        else
          f_X10_seeks_J158 rec (f_X10_seeks_L14 rec kE144 kE164 n) kE144 kE164 x0 x1 x2 r7.2
theorem y_X10_seeks_L14 {g : xG} {l : Nat} {h0 : xH} {cl : Bool} {rec : Nat → Int32 → xH → Option (Int32 × xH)} {kE144 : Nat → Int32 → Int32 → Int32 → xH → Option (Int32 × xH)} {kE164 : xH → Option (Int32 × xH)} (hrec : ∀ (a0 : Nat) (p1 : Int32) (h : xH) (cl : Bool) (r : Int32 × xH), rec a0 p1 h = some r → XM g (DX10_seeks (l + 2)) [.ref a0, .int p1] h cl (iI r)) (hkE144 : ∀ (x0 : Nat) (x1 : Int32) (x2 : Int32) (x4 : Int32) (h : xH), Y g (DX10_seeks (l + 2 + 1)) h0 cl iI (kE144 x0 x1 x2 x4 h) 144 [some (.ref x0), some (.int x1), some (.int x2), none, some (.int x4)] [] h) (hkE164 : ∀  (h : xH), Y g (DX10_seeks (l + 2 + 1)) h0 cl iI (kE164  h) 164 [none, none, none, none, none] [] h) : ∀ (n : Nat) (x0 : Nat) (x1 : Int32) (x2 : Int32) (h : xH), Y g (DX10_seeks (l + 2 + 1)) h0 cl iI (f_X10_seeks_L14 rec kE144 kE164 n x0 x1 x2 h) 14 [some (.ref x0), some (.int x1), some (.int x2), none, none] [] h := by
  intro n
  induction n with
  | zero => intro x0 x1 x2 h; exact Y.nothing
  | succ n ih =>
    intro x0 x1 x2 h
    unfold f_X10_seeks_L14
    refine Y.op (pc' := 15) (fun _ => X.iloadn rfl dX10_seeks_14) ?_
    refine Y.op (pc' := 16) (fun _ => X.aloadn rfl dX10_seeks_15) ?_
    refine Y.getR fd_X10_22 rfl dX10_seeks_16 (fun v1 => ?_)
    refine Y.op (pc' := 20) (fun _ => X.ic ki_0 dX10_seeks_19) ?_
    refine Y.aldR 102 (by decide) (by decide) dX10_seeks_20 (fun v2 => ?_)
    refine Y.op (pc' := 22) (fun _ => X.ic ki_1 dX10_seeks_21) ?_
    refine Y.aldI dX10_seeks_22 (fun v3 => ?_)
    refine Y.cmpge 164 (by decide) dX10_seeks_23 ?_ ?_
    · exact Y.fg (hkE164 h) trivial
    · refine Y.op (pc' := 27) (fun _ => X.aloadn rfl dX10_seeks_26) ?_
      refine Y.op (pc' := 28) (fun _ => X.iloadn rfl dX10_seeks_27) ?_
      refine Y.callVi (As := [.int x1]) lk_X10_246 rfl cal_X10_openTo vir_X10_openTo (by show 1 + 1 ≤ l + 2 + 1; omega) (Nat.le_of_ble_eq_true rfl) rfl rfl rfl (Nat.le_of_ble_eq_true rfl) dX10_seeks_28 (fun _ e => m_X10_openTo x0 x1 h _ _ e) (fun r4 => ?_)
      refine Y.op (pc' := 32) (fun _ => X.iloadn rfl dX10_seeks_31) ?_
      refine Y.callSi (As := [.int r4.1, .int x2]) lk_X10_182 rfl cal_X10_has sta_X10_has (by show 1 + 1 ≤ l + 2 + 1; omega) rfl rfl (Nat.le_of_ble_eq_true rfl) dX10_seeks_32 (fun _ e => m_X10_has r4.1 x2 r4.2 _ _ e) (fun r5 => ?_)
      refine Y.ifeq 158 (by decide) dX10_seeks_35 ?_ ?_
      · exact y_X10_seeks_J158 hrec ih hkE144 hkE164 x0 x1 x2 r5.2
      · refine Y.op (pc' := 39) (fun _ => X.aloadn rfl dX10_seeks_38) ?_
        refine Y.getI fd_X10_294 rfl dX10_seeks_39 (fun v6 => ?_)
        refine Y.op (pc' := 43) (fun _ => X.iloadn rfl dX10_seeks_42) ?_
        refine Y.callSi (As := [.int v6, .int x2]) lk_X10_182 rfl cal_X10_has sta_X10_has (by show 1 + 1 ≤ l + 2 + 1; omega) rfl rfl (Nat.le_of_ble_eq_true rfl) dX10_seeks_43 (fun _ e => m_X10_has v6 x2 r5.2 _ _ e) (fun r7 => ?_)
        refine Y.ifne 158 (by decide) dX10_seeks_46 ?_ ?_
        · exact y_X10_seeks_J158 hrec ih hkE144 hkE164 x0 x1 x2 r7.2
        · refine Y.op (pc' := 50) (fun _ => X.aloadn rfl dX10_seeks_49) ?_
          refine Y.getR fd_X10_48 rfl dX10_seeks_50 (fun v8 => ?_)
          refine Y.op (pc' := 54) (fun _ => X.iloadn rfl dX10_seeks_53) ?_
          refine Y.aldI dX10_seeks_54 (fun v9 => ?_)
          refine Y.op (pc' := 56) (fun _ => X.aloadn rfl dX10_seeks_55) ?_
          refine Y.getR fd_X10_45 rfl dX10_seeks_56 (fun v10 => ?_)
          refine Y.op (pc' := 60) (fun _ => X.iloadn rfl dX10_seeks_59) ?_
          refine Y.aldI dX10_seeks_60 (fun v11 => ?_)
          refine Y.op (pc' := 62) (fun _ => X.ic ki_1 dX10_seeks_61) ?_
          refine Y.op (pc' := 63) (fun _ => X.iadd dX10_seeks_62) ?_
          refine Y.cmpeq 69 (by decide) dX10_seeks_63 ?_ ?_
          · refine Y.op (pc' := 70) (fun _ => X.aloadn rfl dX10_seeks_69) ?_
            refine Y.op (pc' := 71) (fun _ => X.dup rfl dX10_seeks_70) ?_
            refine Y.getI fd_X10_294 rfl dX10_seeks_71 (fun v12 => ?_)
            refine Y.op (pc' := 75) (fun _ => X.ic ki_1 dX10_seeks_74) ?_
            refine Y.op (pc' := 76) (fun _ => X.iloadn rfl dX10_seeks_75) ?_
            refine Y.op (pc' := 77) (fun _ => X.ishl dX10_seeks_76) ?_
            refine Y.op (pc' := 78) (fun _ => X.ior dX10_seeks_77) ?_
            refine Y.putI fd_X10_294 rfl dX10_seeks_78 (fun h13 => ?_)
            refine Y.op (pc' := 82) (fun _ => X.aloadn rfl dX10_seeks_81) ?_
            refine Y.op (pc' := 83) (fun _ => X.ic ki_1 dX10_seeks_82) ?_
            refine Y.op (pc' := 84) (fun _ => X.iloadn rfl dX10_seeks_83) ?_
            refine Y.callVi (As := [.int (1 : Int32), .int x2]) lk_X10_243 rfl cal_X10_partnerOf vir_X10_partnerOf (by show 2 + 1 ≤ l + 2 + 1; omega) (Nat.le_of_ble_eq_true rfl) rfl rfl rfl (Nat.le_of_ble_eq_true rfl) dX10_seeks_84 (fun _ e => m_X10_partnerOf x0 (1 : Int32) x2 h13 _ _ e) (fun r14 => ?_)
            refine Y.op (pc' := 88) (loc' := [some (.ref x0), some (.int x1), some (.int x2), some (.int r14.1), none]) (fun _ => X.istoren (Nat.le_of_ble_eq_true rfl) rfl dX10_seeks_87) ?_
            refine Y.op (pc' := 89) (fun _ => X.ic ki_0 dX10_seeks_88) ?_
            refine Y.op (pc' := 91) (loc' := [some (.ref x0), some (.int x1), some (.int x2), some (.int r14.1), some (.int (0 : Int32))]) (fun _ => X.istore (Nat.le_of_ble_eq_true rfl) rfl dX10_seeks_89) ?_
            refine Y.op (pc' := 92) (fun _ => X.iloadn rfl dX10_seeks_91) ?_
            refine Y.op (pc' := 93) (fun _ => X.ic ki_m1 dX10_seeks_92) ?_
            refine Y.cmpeq 135 (by decide) dX10_seeks_93 ?_ ?_
            · exact Y.fg (y_X10_seeks_J135 hrec ih hkE144 hkE164 x0 x1 x2 (0 : Int32) r14.2) (And.intro rfl (And.intro rfl (And.intro rfl (And.intro rfl trivial))))
            · refine Y.op (pc' := 97) (fun _ => X.aloadn rfl dX10_seeks_96) ?_
              refine Y.getR fd_X10_45 rfl dX10_seeks_97 (fun v15 => ?_)
              refine Y.op (pc' := 101) (fun _ => X.iloadn rfl dX10_seeks_100) ?_
              refine Y.aldI dX10_seeks_101 (fun v16 => ?_)
              refine Y.op (pc' := 103) (fun _ => X.aloadn rfl dX10_seeks_102) ?_
              refine Y.getR fd_X10_45 rfl dX10_seeks_103 (fun v17 => ?_)
              refine Y.op (pc' := 107) (fun _ => X.iloadn rfl dX10_seeks_106) ?_
              refine Y.aldI dX10_seeks_107 (fun v18 => ?_)
              refine Y.op (pc' := 109) (fun _ => X.ic ki_2 dX10_seeks_108) ?_
              refine Y.op (pc' := 110) (fun _ => X.iadd dX10_seeks_109) ?_
              refine Y.cmpne 132 (by decide) dX10_seeks_110 ?_ ?_
              · exact Y.fg (y_X10_seeks_J132 hrec ih hkE144 hkE164 x0 x1 x2 r14.2) (And.intro rfl (And.intro rfl (And.intro rfl trivial)))
              · refine Y.op (pc' := 114) (fun _ => X.aloadn rfl dX10_seeks_113) ?_
                refine Y.getI fd_X10_291 rfl dX10_seeks_114 (fun v19 => ?_)
                refine Y.op (pc' := 118) (fun _ => X.iloadn rfl dX10_seeks_117) ?_
                refine Y.callSi (As := [.int v19, .int r14.1]) lk_X10_182 rfl cal_X10_has sta_X10_has (by show 1 + 1 ≤ l + 2 + 1; omega) rfl rfl (Nat.le_of_ble_eq_true rfl) dX10_seeks_118 (fun _ e => m_X10_has v19 r14.1 r14.2 _ _ e) (fun r20 => ?_)
                refine Y.ifne 132 (by decide) dX10_seeks_121 ?_ ?_
                · exact Y.fg (y_X10_seeks_J132 hrec ih hkE144 hkE164 x0 x1 x2 r20.2) (And.intro rfl (And.intro rfl (And.intro rfl trivial)))
                · refine Y.op (pc' := 125) (fun _ => X.aloadn rfl dX10_seeks_124) ?_
                  refine Y.op (pc' := 126) (fun _ => X.iloadn rfl dX10_seeks_125) ?_
                  refine Y.callVi (As := [.int r14.1]) lk_X10_297 rfl (cal_X10_seeks _) (vir_X10_seeks _) (Nat.le_refl _) (Nat.le_of_ble_eq_true rfl) rfl rfl rfl (Nat.le_of_ble_eq_true rfl) dX10_seeks_126 (fun _ e => hrec x0 r14.1 r20.2 _ _ e) (fun r21 => ?_)
                  refine Y.op (pc' := 133) (fun _ => X.goto 133 (by decide) dX10_seeks_129) ?_
                  exact Y.fg (y_X10_seeks_J133 hrec ih hkE144 hkE164 x0 x1 x2 r21.1 r21.2) (And.intro rfl (And.intro rfl (And.intro rfl trivial)))
          · refine Y.op (pc' := 158) (fun _ => X.goto 158 (by decide) dX10_seeks_66) ?_
            exact y_X10_seeks_J158 hrec ih hkE144 hkE164 x0 x1 x2 r7.2
def f_X10_seeks_B (rec : Nat → Int32 → xH → Option (Int32 × xH)) (a0 : Nat) (p1 : Int32) (h : xH) : Option (Int32 × xH) :=
  (gI h 10 a0 26).bind fun v1 =>
  (pI h 10 a0 26 (v1 ||| ((1 : Int32) <<< (p1 &&& 31)))).bind fun h2 =>
  f_X10_seeks_L14 rec (f_X10_seeks_J144 rec) (f_X10_seeks_J164 rec) 5000 a0 p1 (0 : Int32) h2
def f_X10_seeks : Nat → Nat → Int32 → xH → Option (Int32 × xH)
  | 0 => fun _ _ _ => none
  | d + 1 => f_X10_seeks_B (f_X10_seeks d)
theorem y_X10_seeks {g : xG} {l : Nat} {h0 : xH} {cl : Bool} {rec : Nat → Int32 → xH → Option (Int32 × xH)} (hrec : ∀ (a0 : Nat) (p1 : Int32) (h : xH) (cl : Bool) (r : Int32 × xH), rec a0 p1 h = some r → XM g (DX10_seeks (l + 2)) [.ref a0, .int p1] h cl (iI r)) (a0 : Nat) (p1 : Int32) (h : xH) : Y g (DX10_seeks (l + 2 + 1)) h0 cl iI (f_X10_seeks_B rec a0 p1 h) 0 [some (.ref a0), some (.int p1), none, none, none] [] h := by
  unfold f_X10_seeks_B
  refine Y.op (pc' := 1) (fun _ => X.aloadn rfl dX10_seeks_0) ?_
  refine Y.op (pc' := 2) (fun _ => X.dup rfl dX10_seeks_1) ?_
  refine Y.getI fd_X10_291 rfl dX10_seeks_2 (fun v1 => ?_)
  refine Y.op (pc' := 6) (fun _ => X.ic ki_1 dX10_seeks_5) ?_
  refine Y.op (pc' := 7) (fun _ => X.iloadn rfl dX10_seeks_6) ?_
  refine Y.op (pc' := 8) (fun _ => X.ishl dX10_seeks_7) ?_
  refine Y.op (pc' := 9) (fun _ => X.ior dX10_seeks_8) ?_
  refine Y.putI fd_X10_291 rfl dX10_seeks_9 (fun h2 => ?_)
  refine Y.op (pc' := 13) (fun _ => X.ic ki_0 dX10_seeks_12) ?_
  refine Y.op (pc' := 14) (loc' := [some (.ref a0), some (.int p1), some (.int (0 : Int32)), none, none]) (fun _ => X.istoren (Nat.le_of_ble_eq_true rfl) rfl dX10_seeks_13) ?_
  exact y_X10_seeks_L14 hrec (y_X10_seeks_J144 hrec) (y_X10_seeks_J164 hrec) 5000 a0 p1 (0 : Int32) h2
theorem m_X10_seeks {g : xG} : ∀ (d : Nat) (a0 : Nat) (p1 : Int32) (h : xH) (cl : Bool) (r : Int32 × xH), f_X10_seeks d a0 p1 h = some r → XM g (DX10_seeks (d + 2)) [.ref a0, .int p1] h cl (iI r) := by
  intro d
  induction d with
  | zero => intro a0 p1 h cl r e; cases e
  | succ d ih =>
    intro a0 p1 h cl r e
    have e : f_X10_seeks_B (f_X10_seeks d) a0 p1 h = some r := e
    rw [show d + 1 + 2 = d + 2 + 1 by omega]
    exact YM.of rfl rfl (Nat.le_of_ble_eq_true rfl) (y_X10_seeks (l := d) ih a0 p1 h) e
def f_X10_onePhase_J114 (h : xH) : Option (xH) :=
  some h
theorem y_X10_onePhase_J114 {g : xG} {h0 : xH} {cl : Bool} (h : xH) : Y g DX10_onePhase h0 cl iV (f_X10_onePhase_J114 h) 114 [none, none, none] [] h := by
  unfold f_X10_onePhase_J114
  exact Y.vreturn rfl dX10_onePhase_114
def f_X10_onePhase_J108 (kH : Nat → Int32 → xH → Option (xH)) (kE114 : xH → Option (xH)) (x0 : Nat) (x1 : Int32) (h : xH) : Option (xH) :=
  lt (x1 + (1 : Int32)) fun v1 =>
  kH x0 v1 h
theorem y_X10_onePhase_J108 {g : xG} {h0 : xH} {cl : Bool} {kH : Nat → Int32 → xH → Option (xH)} {kE114 : xH → Option (xH)} (hkH : ∀ (x0 : Nat) (x1 : Int32) (h : xH), Y g DX10_onePhase h0 cl iV (kH x0 x1 h) 22 [some (.ref x0), some (.int x1), none] [] h) (hkE114 : ∀  (h : xH), Y g DX10_onePhase h0 cl iV (kE114  h) 114 [none, none, none] [] h) (x0 : Nat) (x1 : Int32) (h : xH) : Y g DX10_onePhase h0 cl iV (f_X10_onePhase_J108 kH kE114 x0 x1 h) 108 [some (.ref x0), some (.int x1), none] [] h := by
  unfold f_X10_onePhase_J108
  refine Y.iinc (i := 1) (loc' := fun v1 => [some (.ref x0), some (.int v1), none]) rfl (Nat.le_of_ble_eq_true rfl) ki_1 (fun _ => rfl) dX10_onePhase_108 (fun v1 => ?_)
  refine Y.op (pc' := 22) (fun _ => X.goto 22 (by decide) dX10_onePhase_111) ?_
  exact hkH x0 v1 h
def f_X10_onePhase_J99 (kH : Nat → Int32 → xH → Option (xH)) (kE114 : xH → Option (xH)) (x0 : Nat) (x1 : Int32) (x2 : Int32) (s0 : Nat) (s1 : Int32) (s2 : Int32) (h : xH) : Option (xH) :=
  (pI h 10 s0 22 (s1 + s2)).bind fun h1 =>
  (pI h1 10 x0 23 x2).bind fun h2 =>
  f_X10_onePhase_J108 (kH) kE114 x0 x1 h2
theorem y_X10_onePhase_J99 {g : xG} {h0 : xH} {cl : Bool} {kH : Nat → Int32 → xH → Option (xH)} {kE114 : xH → Option (xH)} (hkH : ∀ (x0 : Nat) (x1 : Int32) (h : xH), Y g DX10_onePhase h0 cl iV (kH x0 x1 h) 22 [some (.ref x0), some (.int x1), none] [] h) (hkE114 : ∀  (h : xH), Y g DX10_onePhase h0 cl iV (kE114  h) 114 [none, none, none] [] h) (x0 : Nat) (x1 : Int32) (x2 : Int32) (s0 : Nat) (s1 : Int32) (s2 : Int32) (h : xH) : Y g DX10_onePhase h0 cl iV (f_X10_onePhase_J99 kH kE114 x0 x1 x2 s0 s1 s2 h) 99 [some (.ref x0), some (.int x1), some (.int x2)] [.int s2, .int s1, .ref s0] h := by
  unfold f_X10_onePhase_J99
  refine Y.op (pc' := 100) (fun _ => X.iadd dX10_onePhase_99) ?_
  refine Y.putI fd_X10_306 rfl dX10_onePhase_100 (fun h1 => ?_)
  refine Y.op (pc' := 104) (fun _ => X.aloadn rfl dX10_onePhase_103) ?_
  refine Y.op (pc' := 105) (fun _ => X.iloadn rfl dX10_onePhase_104) ?_
  refine Y.putI fd_X10_309 rfl dX10_onePhase_105 (fun h2 => ?_)
  exact Y.fg (y_X10_onePhase_J108 hkH hkE114 x0 x1 h2) (And.intro rfl (And.intro rfl trivial))
def f_X10_onePhase_L22 (kE114 : xH → Option (xH)) : Nat → Nat → Int32 → xH → Option (xH)
  | 0 => fun _ _ _ => none
  | n + 1 => fun x0 x1 h =>
    (gR h 10 x0 9).bind fun v1 =>
    (aR 102 h v1 (0 : Int32)).bind fun v2 =>
    (aI h v2 (0 : Int32)).bind fun v3 =>
    if x1 ≥ v3 then
      kE114 h
    else
      (vc h 10 x0 (f_X10_isFree x0 (0 : Int32) x1 h)).bind fun r4 =>
      if r4.1 = (0 : Int32) then
        f_X10_onePhase_J108 (f_X10_onePhase_L22 kE114 n) kE114 x0 x1 r4.2
      else
        (gI r4.2 10 x0 26).bind fun v5 =>
        (f_X10_has v5 x1 r4.2).bind fun r6 =>
        if r6.1 = (0 : Int32) then
          (vc r6.2 10 x0 (f_X10_seeks 40 x0 x1 r6.2)).bind fun r7 =>
          if r7.1 = (-1 : Int32) then
            f_X10_onePhase_J108 (f_X10_onePhase_L22 kE114 n) kE114 x0 x1 r7.2
          else
            (gI r7.2 10 x0 21).bind fun v8 =>
            (pI r7.2 10 x0 21 (v8 + (1 : Int32))).bind fun h9 =>
            (gI h9 10 x0 22).bind fun v10 =>
            (gI h9 10 x0 20).bind fun v11 =>
            if v11 = (1 : Int32) then
              f_X10_onePhase_J99 (f_X10_onePhase_L22 kE114 n) kE114 x0 x1 r7.1 x0 v10 (1 : Int32) h9
            else
              f_X10_onePhase_J99 (f_X10_onePhase_L22 kE114 n) kE114 x0 x1 r7.1 x0 v10 (0 : Int32) h9
        else
          f_X10_onePhase_J108 (f_X10_onePhase_L22 kE114 n) kE114 x0 x1 r6.2
theorem y_X10_onePhase_L22 {g : xG} {h0 : xH} {cl : Bool} {kE114 : xH → Option (xH)} (hkE114 : ∀  (h : xH), Y g DX10_onePhase h0 cl iV (kE114  h) 114 [none, none, none] [] h) : ∀ (n : Nat) (x0 : Nat) (x1 : Int32) (h : xH), Y g DX10_onePhase h0 cl iV (f_X10_onePhase_L22 kE114 n x0 x1 h) 22 [some (.ref x0), some (.int x1), none] [] h := by
  intro n
  induction n with
  | zero => intro x0 x1 h; exact Y.nothing
  | succ n ih =>
    intro x0 x1 h
    unfold f_X10_onePhase_L22
    refine Y.op (pc' := 23) (fun _ => X.iloadn rfl dX10_onePhase_22) ?_
    refine Y.op (pc' := 24) (fun _ => X.aloadn rfl dX10_onePhase_23) ?_
    refine Y.getR fd_X10_22 rfl dX10_onePhase_24 (fun v1 => ?_)
    refine Y.op (pc' := 28) (fun _ => X.ic ki_0 dX10_onePhase_27) ?_
    refine Y.aldR 102 (by decide) (by decide) dX10_onePhase_28 (fun v2 => ?_)
    refine Y.op (pc' := 30) (fun _ => X.ic ki_0 dX10_onePhase_29) ?_
    refine Y.aldI dX10_onePhase_30 (fun v3 => ?_)
    refine Y.cmpge 114 (by decide) dX10_onePhase_31 ?_ ?_
    · exact Y.fg (hkE114 h) trivial
    · refine Y.op (pc' := 35) (fun _ => X.aloadn rfl dX10_onePhase_34) ?_
      refine Y.op (pc' := 36) (fun _ => X.ic ki_0 dX10_onePhase_35) ?_
      refine Y.op (pc' := 37) (fun _ => X.iloadn rfl dX10_onePhase_36) ?_
      refine Y.callVi (As := [.int (0 : Int32), .int x1]) lk_X10_255 rfl cal_X10_isFree vir_X10_isFree (Nat.le_of_ble_eq_true rfl) (Nat.le_of_ble_eq_true rfl) rfl rfl rfl (Nat.le_of_ble_eq_true rfl) dX10_onePhase_37 (fun _ e => m_X10_isFree x0 (0 : Int32) x1 h _ _ e) (fun r4 => ?_)
      refine Y.ifeq 108 (by decide) dX10_onePhase_40 ?_ ?_
      · exact y_X10_onePhase_J108 ih hkE114 x0 x1 r4.2
      · refine Y.op (pc' := 44) (fun _ => X.aloadn rfl dX10_onePhase_43) ?_
        refine Y.getI fd_X10_291 rfl dX10_onePhase_44 (fun v5 => ?_)
        refine Y.op (pc' := 48) (fun _ => X.iloadn rfl dX10_onePhase_47) ?_
        refine Y.callSi (As := [.int v5, .int x1]) lk_X10_182 rfl cal_X10_has sta_X10_has (Nat.le_of_ble_eq_true rfl) rfl rfl (Nat.le_of_ble_eq_true rfl) dX10_onePhase_48 (fun _ e => m_X10_has v5 x1 r4.2 _ _ e) (fun r6 => ?_)
        refine Y.ifeq 57 (by decide) dX10_onePhase_51 ?_ ?_
        · refine Y.op (pc' := 58) (fun _ => X.aloadn rfl dX10_onePhase_57) ?_
          refine Y.op (pc' := 59) (fun _ => X.iloadn rfl dX10_onePhase_58) ?_
          refine Y.callVi (As := [.int x1]) lk_X10_297 rfl (cal_X10_seeks _) (vir_X10_seeks _) (Nat.le_of_ble_eq_true rfl) (Nat.le_of_ble_eq_true rfl) rfl rfl rfl (Nat.le_of_ble_eq_true rfl) dX10_onePhase_59 (fun _ e => m_X10_seeks 40 x0 x1 r6.2 _ _ e) (fun r7 => ?_)
          refine Y.op (pc' := 63) (loc' := [some (.ref x0), some (.int x1), some (.int r7.1)]) (fun _ => X.istoren (Nat.le_of_ble_eq_true rfl) rfl dX10_onePhase_62) ?_
          refine Y.op (pc' := 64) (fun _ => X.iloadn rfl dX10_onePhase_63) ?_
          refine Y.op (pc' := 65) (fun _ => X.ic ki_m1 dX10_onePhase_64) ?_
          refine Y.cmpne 71 (by decide) dX10_onePhase_65 ?_ ?_
          · refine Y.op (pc' := 72) (fun _ => X.aloadn rfl dX10_onePhase_71) ?_
            refine Y.op (pc' := 73) (fun _ => X.dup rfl dX10_onePhase_72) ?_
            refine Y.getI fd_X10_303 rfl dX10_onePhase_73 (fun v8 => ?_)
            refine Y.op (pc' := 77) (fun _ => X.ic ki_1 dX10_onePhase_76) ?_
            refine Y.op (pc' := 78) (fun _ => X.iadd dX10_onePhase_77) ?_
            refine Y.putI fd_X10_303 rfl dX10_onePhase_78 (fun h9 => ?_)
            refine Y.op (pc' := 82) (fun _ => X.aloadn rfl dX10_onePhase_81) ?_
            refine Y.op (pc' := 83) (fun _ => X.dup rfl dX10_onePhase_82) ?_
            refine Y.getI fd_X10_306 rfl dX10_onePhase_83 (fun v10 => ?_)
            refine Y.op (pc' := 87) (fun _ => X.aloadn rfl dX10_onePhase_86) ?_
            refine Y.getI fd_X10_300 rfl dX10_onePhase_87 (fun v11 => ?_)
            refine Y.op (pc' := 91) (fun _ => X.ic ki_1 dX10_onePhase_90) ?_
            refine Y.cmpne 98 (by decide) dX10_onePhase_91 ?_ ?_
            · refine Y.op (pc' := 99) (fun _ => X.ic ki_0 dX10_onePhase_98) ?_
              exact y_X10_onePhase_J99 ih hkE114 x0 x1 r7.1 x0 v10 (0 : Int32) h9
            · refine Y.op (pc' := 95) (fun _ => X.ic ki_1 dX10_onePhase_94) ?_
              refine Y.op (pc' := 99) (fun _ => X.goto 99 (by decide) dX10_onePhase_95) ?_
              exact y_X10_onePhase_J99 ih hkE114 x0 x1 r7.1 x0 v10 (1 : Int32) h9
          · refine Y.op (pc' := 108) (fun _ => X.goto 108 (by decide) dX10_onePhase_68) ?_
            exact Y.fg (y_X10_onePhase_J108 ih hkE114 x0 x1 r7.2) (And.intro rfl (And.intro rfl trivial))
        · refine Y.op (pc' := 108) (fun _ => X.goto 108 (by decide) dX10_onePhase_54) ?_
          exact y_X10_onePhase_J108 ih hkE114 x0 x1 r6.2
def f_X10_onePhase (a0 : Nat) (h : xH) : Option (xH) :=
  (pI h 10 a0 26 (0 : Int32)).bind fun h1 =>
  (pI h1 10 a0 27 (0 : Int32)).bind fun h2 =>
  (gI h2 10 a0 20).bind fun v3 =>
  (pI h2 10 a0 20 (v3 + (1 : Int32))).bind fun h4 =>
  f_X10_onePhase_L22 (f_X10_onePhase_J114) 5000 a0 (0 : Int32) h4
theorem y_X10_onePhase {g : xG} {h0 : xH} {cl : Bool} (a0 : Nat) (h : xH) : Y g DX10_onePhase h0 cl iV (f_X10_onePhase a0 h) 0 [some (.ref a0), none, none] [] h := by
  unfold f_X10_onePhase
  refine Y.op (pc' := 1) (fun _ => X.aloadn rfl dX10_onePhase_0) ?_
  refine Y.op (pc' := 2) (fun _ => X.ic ki_0 dX10_onePhase_1) ?_
  refine Y.putI fd_X10_291 rfl dX10_onePhase_2 (fun h1 => ?_)
  refine Y.op (pc' := 6) (fun _ => X.aloadn rfl dX10_onePhase_5) ?_
  refine Y.op (pc' := 7) (fun _ => X.ic ki_0 dX10_onePhase_6) ?_
  refine Y.putI fd_X10_294 rfl dX10_onePhase_7 (fun h2 => ?_)
  refine Y.op (pc' := 11) (fun _ => X.aloadn rfl dX10_onePhase_10) ?_
  refine Y.op (pc' := 12) (fun _ => X.dup rfl dX10_onePhase_11) ?_
  refine Y.getI fd_X10_300 rfl dX10_onePhase_12 (fun v3 => ?_)
  refine Y.op (pc' := 16) (fun _ => X.ic ki_1 dX10_onePhase_15) ?_
  refine Y.op (pc' := 17) (fun _ => X.iadd dX10_onePhase_16) ?_
  refine Y.putI fd_X10_300 rfl dX10_onePhase_17 (fun h4 => ?_)
  refine Y.op (pc' := 21) (fun _ => X.ic ki_0 dX10_onePhase_20) ?_
  refine Y.op (pc' := 22) (loc' := [some (.ref a0), some (.int (0 : Int32)), none]) (fun _ => X.istoren (Nat.le_of_ble_eq_true rfl) rfl dX10_onePhase_21) ?_
  exact y_X10_onePhase_L22 (y_X10_onePhase_J114) 5000 a0 (0 : Int32) h4
theorem m_X10_onePhase {g : xG} (a0 : Nat) (h : xH) (cl : Bool) (r : xH) (e : f_X10_onePhase a0 h = some r) : XM g DX10_onePhase [.ref a0] h cl (iV r) := YM.of rfl rfl (Nat.le_of_ble_eq_true rfl) (y_X10_onePhase a0 h) e
def f_X10_thinks_J64 (h : xH) : Option (xH) :=
  some h
theorem y_X10_thinks_J64 {g : xG} {h0 : xH} {cl : Bool} (h : xH) : Y g DX10_thinks h0 cl iV (f_X10_thinks_J64 h) 64 [none, none] [] h := by
  unfold f_X10_thinks_J64
  exact Y.vreturn rfl dX10_thinks_64
def f_X10_thinks_L50 (kE64 : xH → Option (xH)) : Nat → Nat → xH → Option (xH)
  | 0 => fun _ _ => none
  | n + 1 => fun x0 h =>
    (vc h 10 x0 (f_X10_laysLayers x0 h)).bind fun r1 =>
    if r1.1 = (0 : Int32) then
      kE64 r1.2
    else
      (vc r1.2 10 x0 (f_X10_onePhase x0 r1.2)).bind fun h2 =>
      f_X10_thinks_L50 kE64 n x0 h2
theorem y_X10_thinks_L50 {g : xG} {h0 : xH} {cl : Bool} {kE64 : xH → Option (xH)} (hkE64 : ∀  (h : xH), Y g DX10_thinks h0 cl iV (kE64  h) 64 [none, none] [] h) : ∀ (n : Nat) (x0 : Nat) (h : xH), Y g DX10_thinks h0 cl iV (f_X10_thinks_L50 kE64 n x0 h) 50 [some (.ref x0), none] [] h := by
  intro n
  induction n with
  | zero => intro x0 h; exact Y.nothing
  | succ n ih =>
    intro x0 h
    unfold f_X10_thinks_L50
    refine Y.op (pc' := 51) (fun _ => X.aloadn rfl dX10_thinks_50) ?_
    refine Y.callVi (As := []) lk_X10_312 rfl cal_X10_laysLayers vir_X10_laysLayers (Nat.le_of_ble_eq_true rfl) (Nat.le_of_ble_eq_true rfl) rfl rfl rfl (Nat.le_of_ble_eq_true rfl) dX10_thinks_51 (fun _ e => m_X10_laysLayers x0 h _ _ e) (fun r1 => ?_)
    refine Y.ifeq 64 (by decide) dX10_thinks_54 ?_ ?_
    · exact Y.fg (hkE64 r1.2) trivial
    · refine Y.op (pc' := 58) (fun _ => X.aloadn rfl dX10_thinks_57) ?_
      refine Y.callVv (As := []) lk_X10_315 rfl cal_X10_onePhase vir_X10_onePhase (Nat.le_of_ble_eq_true rfl) (Nat.le_of_ble_eq_true rfl) rfl rfl rfl (Nat.le_of_ble_eq_true rfl) dX10_thinks_58 (fun _ e => m_X10_onePhase x0 r1.2 _ _ e) (fun h2 => ?_)
      refine Y.op (pc' := 50) (fun _ => X.goto 50 (by decide) dX10_thinks_61) ?_
      exact ih x0 h2
def f_X10_thinks_J30 (x0 : Nat) (h : xH) : Option (xH) :=
  (pI h 10 x0 20 (0 : Int32)).bind fun h1 =>
  (pI h1 10 x0 21 (0 : Int32)).bind fun h2 =>
  (pI h2 10 x0 22 (0 : Int32)).bind fun h3 =>
  (pI h3 10 x0 23 (0 : Int32)).bind fun h4 =>
  f_X10_thinks_L50 (f_X10_thinks_J64) 5000 x0 h4
theorem y_X10_thinks_J30 {g : xG} {h0 : xH} {cl : Bool} (x0 : Nat) (h : xH) : Y g DX10_thinks h0 cl iV (f_X10_thinks_J30 x0 h) 30 [some (.ref x0), none] [] h := by
  unfold f_X10_thinks_J30
  refine Y.op (pc' := 31) (fun _ => X.aloadn rfl dX10_thinks_30) ?_
  refine Y.op (pc' := 32) (fun _ => X.ic ki_0 dX10_thinks_31) ?_
  refine Y.putI fd_X10_300 rfl dX10_thinks_32 (fun h1 => ?_)
  refine Y.op (pc' := 36) (fun _ => X.aloadn rfl dX10_thinks_35) ?_
  refine Y.op (pc' := 37) (fun _ => X.ic ki_0 dX10_thinks_36) ?_
  refine Y.putI fd_X10_303 rfl dX10_thinks_37 (fun h2 => ?_)
  refine Y.op (pc' := 41) (fun _ => X.aloadn rfl dX10_thinks_40) ?_
  refine Y.op (pc' := 42) (fun _ => X.ic ki_0 dX10_thinks_41) ?_
  refine Y.putI fd_X10_306 rfl dX10_thinks_42 (fun h3 => ?_)
  refine Y.op (pc' := 46) (fun _ => X.aloadn rfl dX10_thinks_45) ?_
  refine Y.op (pc' := 47) (fun _ => X.ic ki_0 dX10_thinks_46) ?_
  refine Y.putI fd_X10_309 rfl dX10_thinks_47 (fun h4 => ?_)
  exact y_X10_thinks_L50 (y_X10_thinks_J64) 5000 x0 h4
def f_X10_thinks_L9 (kE30 : Nat → xH → Option (xH)) : Nat → Nat → Int32 → xH → Option (xH)
  | 0 => fun _ _ _ => none
  | n + 1 => fun x0 x1 h =>
    if x1 ≥ (12 : Int32) then
      kE30 x0 h
    else
      (gR h 10 x0 11).bind fun v1 =>
      (aR 102 h v1 (0 : Int32)).bind fun v2 =>
      (sI h v2 x1 (-1 : Int32)).bind fun h3 =>
      lt (x1 + (1 : Int32)) fun v4 =>
      f_X10_thinks_L9 kE30 n x0 v4 h3
theorem y_X10_thinks_L9 {g : xG} {h0 : xH} {cl : Bool} {kE30 : Nat → xH → Option (xH)} (hkE30 : ∀ (x0 : Nat) (h : xH), Y g DX10_thinks h0 cl iV (kE30 x0 h) 30 [some (.ref x0), none] [] h) : ∀ (n : Nat) (x0 : Nat) (x1 : Int32) (h : xH), Y g DX10_thinks h0 cl iV (f_X10_thinks_L9 kE30 n x0 x1 h) 9 [some (.ref x0), some (.int x1)] [] h := by
  intro n
  induction n with
  | zero => intro x0 x1 h; exact Y.nothing
  | succ n ih =>
    intro x0 x1 h
    unfold f_X10_thinks_L9
    refine Y.op (pc' := 10) (fun _ => X.iloadn rfl dX10_thinks_9) ?_
    refine Y.op (pc' := 12) (fun _ => X.bp kb_12 dX10_thinks_10) ?_
    refine Y.cmpge 30 (by decide) dX10_thinks_12 ?_ ?_
    · exact Y.fg (hkE30 x0 h) (And.intro rfl trivial)
    · refine Y.op (pc' := 16) (fun _ => X.aloadn rfl dX10_thinks_15) ?_
      refine Y.getR fd_X10_28 rfl dX10_thinks_16 (fun v1 => ?_)
      refine Y.op (pc' := 20) (fun _ => X.ic ki_0 dX10_thinks_19) ?_
      refine Y.aldR 102 (by decide) (by decide) dX10_thinks_20 (fun v2 => ?_)
      refine Y.op (pc' := 22) (fun _ => X.iloadn rfl dX10_thinks_21) ?_
      refine Y.op (pc' := 23) (fun _ => X.ic ki_m1 dX10_thinks_22) ?_
      refine Y.astI dX10_thinks_23 (fun h3 => ?_)
      refine Y.iinc (i := 1) (loc' := fun v4 => [some (.ref x0), some (.int v4)]) rfl (Nat.le_of_ble_eq_true rfl) ki_1 (fun _ => rfl) dX10_thinks_24 (fun v4 => ?_)
      refine Y.op (pc' := 9) (fun _ => X.goto 9 (by decide) dX10_thinks_27) ?_
      exact ih x0 v4 h3
def f_X10_thinks (a0 : Nat) (h : xH) : Option (xH) :=
  (vc h 10 a0 (f_X10_copies a0 (0 : Int32) (17 : Int32) h)).bind fun h1 =>
  f_X10_thinks_L9 (f_X10_thinks_J30) 5000 a0 (0 : Int32) h1
theorem y_X10_thinks {g : xG} {h0 : xH} {cl : Bool} (a0 : Nat) (h : xH) : Y g DX10_thinks h0 cl iV (f_X10_thinks a0 h) 0 [some (.ref a0), none] [] h := by
  unfold f_X10_thinks
  refine Y.op (pc' := 1) (fun _ => X.aloadn rfl dX10_thinks_0) ?_
  refine Y.op (pc' := 2) (fun _ => X.ic ki_0 dX10_thinks_1) ?_
  refine Y.op (pc' := 4) (fun _ => X.bp kb_17 dX10_thinks_2) ?_
  refine Y.callVv (As := [.int (0 : Int32), .int (17 : Int32)]) lk_X10_228 rfl cal_X10_copies vir_X10_copies (Nat.le_of_ble_eq_true rfl) (Nat.le_of_ble_eq_true rfl) rfl rfl rfl (Nat.le_of_ble_eq_true rfl) dX10_thinks_4 (fun _ e => m_X10_copies a0 (0 : Int32) (17 : Int32) h _ _ e) (fun h1 => ?_)
  refine Y.op (pc' := 8) (fun _ => X.ic ki_0 dX10_thinks_7) ?_
  refine Y.op (pc' := 9) (loc' := [some (.ref a0), some (.int (0 : Int32))]) (fun _ => X.istoren (Nat.le_of_ble_eq_true rfl) rfl dX10_thinks_8) ?_
  exact y_X10_thinks_L9 (y_X10_thinks_J30) 5000 a0 (0 : Int32) h1
theorem m_X10_thinks {g : xG} (a0 : Nat) (h : xH) (cl : Bool) (r : xH) (e : f_X10_thinks a0 h = some r) : XM g DX10_thinks [.ref a0] h cl (iV r) := YM.of rfl rfl (Nat.le_of_ble_eq_true rfl) (y_X10_thinks a0 h) e
def f_X10_phases_J80 (s0 : Int32) (h : xH) : Option (Int32 × xH) :=
  some (s0, h)
theorem y_X10_phases_J80 {g : xG} {h0 : xH} {cl : Bool} (s0 : Int32) (h : xH) : Y g DX10_phases h0 cl iI (f_X10_phases_J80 s0 h) 80 [none, none] [.int s0] h := by
  unfold f_X10_phases_J80
  exact Y.ireturn rfl dX10_phases_80
def f_X10_phases_J20 (x0 : Nat) (x1 : Int32) (s0 : Nat) (s1 : Int32) (h : xH) : Option (Int32 × xH) :=
  (vc h 10 s0 (f_X10_bad s0 s1 (1 : Int32) (1 : Int32) h)).bind fun r1 =>
  if r1.1 = (0 : Int32) then
    (vc r1.2 10 x0 (f_X10_thinks x0 r1.2)).bind fun h2 =>
    (vc h2 10 x0 (f_X10_copies x0 (17 : Int32) (0 : Int32) h2)).bind fun h3 =>
    if x1 = (0 : Int32) then
      (gI h3 10 x0 20).bind fun v7 =>
      f_X10_phases_J80 v7 h3
    else
      if x1 = (1 : Int32) then
        (gI h3 10 x0 21).bind fun v6 =>
        f_X10_phases_J80 v6 h3
      else
        if x1 = (2 : Int32) then
          (gI h3 10 x0 22).bind fun v5 =>
          f_X10_phases_J80 v5 h3
        else
          (gI h3 10 x0 23).bind fun v4 =>
          f_X10_phases_J80 v4 h3
  else
    some ((0 : Int32), r1.2)
theorem y_X10_phases_J20 {g : xG} {h0 : xH} {cl : Bool} (x0 : Nat) (x1 : Int32) (s0 : Nat) (s1 : Int32) (h : xH) : Y g DX10_phases h0 cl iI (f_X10_phases_J20 x0 x1 s0 s1 h) 20 [some (.ref x0), some (.int x1)] [.int s1, .ref s0] h := by
  unfold f_X10_phases_J20
  refine Y.op (pc' := 21) (fun _ => X.ic ki_1 dX10_phases_20) ?_
  refine Y.op (pc' := 22) (fun _ => X.ic ki_1 dX10_phases_21) ?_
  refine Y.callVi (As := [.int s1, .int (1 : Int32), .int (1 : Int32)]) lk_X10_217 rfl cal_X10_bad vir_X10_bad (Nat.le_of_ble_eq_true rfl) (Nat.le_of_ble_eq_true rfl) rfl rfl rfl (Nat.le_of_ble_eq_true rfl) dX10_phases_22 (fun _ e => m_X10_bad s0 s1 (1 : Int32) (1 : Int32) h _ _ e) (fun r1 => ?_)
  refine Y.ifeq 30 (by decide) dX10_phases_25 ?_ ?_
  · refine Y.op (pc' := 31) (fun _ => X.aloadn rfl dX10_phases_30) ?_
    refine Y.callVv (As := []) lk_X10_318 rfl cal_X10_thinks vir_X10_thinks (Nat.le_of_ble_eq_true rfl) (Nat.le_of_ble_eq_true rfl) rfl rfl rfl (Nat.le_of_ble_eq_true rfl) dX10_phases_31 (fun _ e => m_X10_thinks x0 r1.2 _ _ e) (fun h2 => ?_)
    refine Y.op (pc' := 35) (fun _ => X.aloadn rfl dX10_phases_34) ?_
    refine Y.op (pc' := 37) (fun _ => X.bp kb_17 dX10_phases_35) ?_
    refine Y.op (pc' := 38) (fun _ => X.ic ki_0 dX10_phases_37) ?_
    refine Y.callVv (As := [.int (17 : Int32), .int (0 : Int32)]) lk_X10_228 rfl cal_X10_copies vir_X10_copies (Nat.le_of_ble_eq_true rfl) (Nat.le_of_ble_eq_true rfl) rfl rfl rfl (Nat.le_of_ble_eq_true rfl) dX10_phases_38 (fun _ e => m_X10_copies x0 (17 : Int32) (0 : Int32) h2 _ _ e) (fun h3 => ?_)
    refine Y.op (pc' := 42) (fun _ => X.iloadn rfl dX10_phases_41) ?_
    refine Y.ifne 52 (by decide) dX10_phases_42 ?_ ?_
    · refine Y.op (pc' := 53) (fun _ => X.iloadn rfl dX10_phases_52) ?_
      refine Y.op (pc' := 54) (fun _ => X.ic ki_1 dX10_phases_53) ?_
      refine Y.cmpne 64 (by decide) dX10_phases_54 ?_ ?_
      · refine Y.op (pc' := 65) (fun _ => X.iloadn rfl dX10_phases_64) ?_
        refine Y.op (pc' := 66) (fun _ => X.ic ki_2 dX10_phases_65) ?_
        refine Y.cmpne 76 (by decide) dX10_phases_66 ?_ ?_
        · refine Y.op (pc' := 77) (fun _ => X.aloadn rfl dX10_phases_76) ?_
          refine Y.getI fd_X10_309 rfl dX10_phases_77 (fun v4 => ?_)
          exact Y.fg (y_X10_phases_J80 v4 h3) trivial
        · refine Y.op (pc' := 70) (fun _ => X.aloadn rfl dX10_phases_69) ?_
          refine Y.getI fd_X10_306 rfl dX10_phases_70 (fun v5 => ?_)
          refine Y.op (pc' := 80) (fun _ => X.goto 80 (by decide) dX10_phases_73) ?_
          exact Y.fg (y_X10_phases_J80 v5 h3) trivial
      · refine Y.op (pc' := 58) (fun _ => X.aloadn rfl dX10_phases_57) ?_
        refine Y.getI fd_X10_303 rfl dX10_phases_58 (fun v6 => ?_)
        refine Y.op (pc' := 80) (fun _ => X.goto 80 (by decide) dX10_phases_61) ?_
        exact Y.fg (y_X10_phases_J80 v6 h3) trivial
    · refine Y.op (pc' := 46) (fun _ => X.aloadn rfl dX10_phases_45) ?_
      refine Y.getI fd_X10_300 rfl dX10_phases_46 (fun v7 => ?_)
      refine Y.op (pc' := 80) (fun _ => X.goto 80 (by decide) dX10_phases_49) ?_
      exact Y.fg (y_X10_phases_J80 v7 h3) trivial
  · refine Y.op (pc' := 29) (fun _ => X.ic ki_0 dX10_phases_28) ?_
    exact Y.ireturn rfl dX10_phases_29
def f_X10_phases (a0 : Nat) (p1 : Int32) (h : xH) : Option (Int32 × xH) :=
  (pI h 10 a0 0 (0 : Int32)).bind fun h1 =>
  (f_X10_in p1 (0 : Int32) (3 : Int32) h1).bind fun r2 =>
  if r2.1 = (0 : Int32) then
    f_X10_phases_J20 a0 p1 a0 (1 : Int32) r2.2
  else
    f_X10_phases_J20 a0 p1 a0 (0 : Int32) r2.2
theorem y_X10_phases {g : xG} {h0 : xH} {cl : Bool} (a0 : Nat) (p1 : Int32) (h : xH) : Y g DX10_phases h0 cl iI (f_X10_phases a0 p1 h) 0 [some (.ref a0), some (.int p1)] [] h := by
  unfold f_X10_phases
  refine Y.op (pc' := 1) (fun _ => X.aloadn rfl dX10_phases_0) ?_
  refine Y.op (pc' := 2) (fun _ => X.ic ki_0 dX10_phases_1) ?_
  refine Y.putI fd_X10_82 rfl dX10_phases_2 (fun h1 => ?_)
  refine Y.op (pc' := 6) (fun _ => X.aloadn rfl dX10_phases_5) ?_
  refine Y.op (pc' := 7) (fun _ => X.iloadn rfl dX10_phases_6) ?_
  refine Y.op (pc' := 8) (fun _ => X.ic ki_0 dX10_phases_7) ?_
  refine Y.op (pc' := 9) (fun _ => X.ic ki_3 dX10_phases_8) ?_
  refine Y.callSi (As := [.int p1, .int (0 : Int32), .int (3 : Int32)]) lk_X10_127 rfl cal_X10_in sta_X10_in (Nat.le_of_ble_eq_true rfl) rfl rfl (Nat.le_of_ble_eq_true rfl) dX10_phases_9 (fun _ e => m_X10_in p1 (0 : Int32) (3 : Int32) h1 _ _ e) (fun r2 => ?_)
  refine Y.ifne 19 (by decide) dX10_phases_12 ?_ ?_
  · refine Y.op (pc' := 20) (fun _ => X.ic ki_0 dX10_phases_19) ?_
    exact y_X10_phases_J20 a0 p1 a0 (0 : Int32) r2.2
  · refine Y.op (pc' := 16) (fun _ => X.ic ki_1 dX10_phases_15) ?_
    refine Y.op (pc' := 20) (fun _ => X.goto 20 (by decide) dX10_phases_16) ?_
    exact y_X10_phases_J20 a0 p1 a0 (1 : Int32) r2.2
theorem m_X10_phases {g : xG} (a0 : Nat) (p1 : Int32) (h : xH) (cl : Bool) (r : Int32 × xH) (e : f_X10_phases a0 p1 h = some r) : XM g DX10_phases [.ref a0, .int p1] h cl (iI r) := YM.of rfl rfl (Nat.le_of_ble_eq_true rfl) (y_X10_phases a0 p1 h) e
def f_X10_phased_J20 (x0 : Nat) (x1 : Int32) (s0 : Nat) (s1 : Int32) (h : xH) : Option (Int32 × xH) :=
  (vc h 10 s0 (f_X10_bad s0 s1 (1 : Int32) (0 : Int32) h)).bind fun r1 =>
  if r1.1 = (0 : Int32) then
    (vc r1.2 10 x0 (f_X10_thinks x0 r1.2)).bind fun h2 =>
    (gR h2 10 x0 11).bind fun v3 =>
    (aR 102 h2 v3 (0 : Int32)).bind fun v4 =>
    (aI h2 v4 x1).bind fun v5 =>
    (vc h2 10 x0 (f_X10_copies x0 (17 : Int32) (0 : Int32) h2)).bind fun h6 =>
    some (v5, h6)
  else
    some ((0 : Int32), r1.2)
theorem y_X10_phased_J20 {g : xG} {h0 : xH} {cl : Bool} (x0 : Nat) (x1 : Int32) (s0 : Nat) (s1 : Int32) (h : xH) : Y g DX10_phased h0 cl iI (f_X10_phased_J20 x0 x1 s0 s1 h) 20 [some (.ref x0), some (.int x1), none] [.int s1, .ref s0] h := by
  unfold f_X10_phased_J20
  refine Y.op (pc' := 21) (fun _ => X.ic ki_1 dX10_phased_20) ?_
  refine Y.op (pc' := 22) (fun _ => X.ic ki_0 dX10_phased_21) ?_
  refine Y.callVi (As := [.int s1, .int (1 : Int32), .int (0 : Int32)]) lk_X10_217 rfl cal_X10_bad vir_X10_bad (Nat.le_of_ble_eq_true rfl) (Nat.le_of_ble_eq_true rfl) rfl rfl rfl (Nat.le_of_ble_eq_true rfl) dX10_phased_22 (fun _ e => m_X10_bad s0 s1 (1 : Int32) (0 : Int32) h _ _ e) (fun r1 => ?_)
  refine Y.ifeq 30 (by decide) dX10_phased_25 ?_ ?_
  · refine Y.op (pc' := 31) (fun _ => X.aloadn rfl dX10_phased_30) ?_
    refine Y.callVv (As := []) lk_X10_318 rfl cal_X10_thinks vir_X10_thinks (Nat.le_of_ble_eq_true rfl) (Nat.le_of_ble_eq_true rfl) rfl rfl rfl (Nat.le_of_ble_eq_true rfl) dX10_phased_31 (fun _ e => m_X10_thinks x0 r1.2 _ _ e) (fun h2 => ?_)
    refine Y.op (pc' := 35) (fun _ => X.aloadn rfl dX10_phased_34) ?_
    refine Y.getR fd_X10_28 rfl dX10_phased_35 (fun v3 => ?_)
    refine Y.op (pc' := 39) (fun _ => X.ic ki_0 dX10_phased_38) ?_
    refine Y.aldR 102 (by decide) (by decide) dX10_phased_39 (fun v4 => ?_)
    refine Y.op (pc' := 41) (fun _ => X.iloadn rfl dX10_phased_40) ?_
    refine Y.aldI dX10_phased_41 (fun v5 => ?_)
    refine Y.op (pc' := 43) (loc' := [some (.ref x0), some (.int x1), some (.int v5)]) (fun _ => X.istoren (Nat.le_of_ble_eq_true rfl) rfl dX10_phased_42) ?_
    refine Y.op (pc' := 44) (fun _ => X.aloadn rfl dX10_phased_43) ?_
    refine Y.op (pc' := 46) (fun _ => X.bp kb_17 dX10_phased_44) ?_
    refine Y.op (pc' := 47) (fun _ => X.ic ki_0 dX10_phased_46) ?_
    refine Y.callVv (As := [.int (17 : Int32), .int (0 : Int32)]) lk_X10_228 rfl cal_X10_copies vir_X10_copies (Nat.le_of_ble_eq_true rfl) (Nat.le_of_ble_eq_true rfl) rfl rfl rfl (Nat.le_of_ble_eq_true rfl) dX10_phased_47 (fun _ e => m_X10_copies x0 (17 : Int32) (0 : Int32) h2 _ _ e) (fun h6 => ?_)
    refine Y.op (pc' := 51) (fun _ => X.iloadn rfl dX10_phased_50) ?_
    exact Y.ireturn rfl dX10_phased_51
  · refine Y.op (pc' := 29) (fun _ => X.ic ki_0 dX10_phased_28) ?_
    exact Y.ireturn rfl dX10_phased_29
def f_X10_phased (a0 : Nat) (p1 : Int32) (h : xH) : Option (Int32 × xH) :=
  (pI h 10 a0 0 (0 : Int32)).bind fun h1 =>
  (vc h1 10 a0 (f_X10_isOne a0 (0 : Int32) p1 h1)).bind fun r2 =>
  if r2.1 = (0 : Int32) then
    f_X10_phased_J20 a0 p1 a0 (1 : Int32) r2.2
  else
    f_X10_phased_J20 a0 p1 a0 (0 : Int32) r2.2
theorem y_X10_phased {g : xG} {h0 : xH} {cl : Bool} (a0 : Nat) (p1 : Int32) (h : xH) : Y g DX10_phased h0 cl iI (f_X10_phased a0 p1 h) 0 [some (.ref a0), some (.int p1), none] [] h := by
  unfold f_X10_phased
  refine Y.op (pc' := 1) (fun _ => X.aloadn rfl dX10_phased_0) ?_
  refine Y.op (pc' := 2) (fun _ => X.ic ki_0 dX10_phased_1) ?_
  refine Y.putI fd_X10_82 rfl dX10_phased_2 (fun h1 => ?_)
  refine Y.op (pc' := 6) (fun _ => X.aloadn rfl dX10_phased_5) ?_
  refine Y.op (pc' := 7) (fun _ => X.aloadn rfl dX10_phased_6) ?_
  refine Y.op (pc' := 8) (fun _ => X.ic ki_0 dX10_phased_7) ?_
  refine Y.op (pc' := 9) (fun _ => X.iloadn rfl dX10_phased_8) ?_
  refine Y.callVi (As := [.int (0 : Int32), .int p1]) lk_X10_282 rfl cal_X10_isOne vir_X10_isOne (Nat.le_of_ble_eq_true rfl) (Nat.le_of_ble_eq_true rfl) rfl rfl rfl (Nat.le_of_ble_eq_true rfl) dX10_phased_9 (fun _ e => m_X10_isOne a0 (0 : Int32) p1 h1 _ _ e) (fun r2 => ?_)
  refine Y.ifne 19 (by decide) dX10_phased_12 ?_ ?_
  · refine Y.op (pc' := 20) (fun _ => X.ic ki_0 dX10_phased_19) ?_
    exact y_X10_phased_J20 a0 p1 a0 (0 : Int32) r2.2
  · refine Y.op (pc' := 16) (fun _ => X.ic ki_1 dX10_phased_15) ?_
    refine Y.op (pc' := 20) (fun _ => X.goto 20 (by decide) dX10_phased_16) ?_
    exact y_X10_phased_J20 a0 p1 a0 (1 : Int32) r2.2
theorem m_X10_phased {g : xG} (a0 : Nat) (p1 : Int32) (h : xH) (cl : Bool) (r : Int32 × xH) (e : f_X10_phased a0 p1 h = some r) : XM g DX10_phased [.ref a0, .int p1] h cl (iI r) := YM.of rfl rfl (Nat.le_of_ble_eq_true rfl) (y_X10_phased a0 p1 h) e
def f_X10_moves_J99 (rec : Nat → Int32 → xH → Option (Int32 × xH)) (h : xH) : Option (Int32 × xH) :=
  if (0 : Int32) = 0 ∨ (0 : Int32) = 1 then some ((0 : Int32), h) else none
theorem y_X10_moves_J99 {g : xG} {l : Nat} {h0 : xH} {cl : Bool} {rec : Nat → Int32 → xH → Option (Int32 × xH)} (hrec : ∀ (a0 : Nat) (p1 : Int32) (h : xH) (cl : Bool) (r : Int32 × xH), rec a0 p1 h = some r → XM g (DX10_moves (l + 1)) [.ref a0, .int p1] h cl (iI r)) (h : xH) : Y g (DX10_moves (l + 1 + 1)) h0 cl iI (f_X10_moves_J99 rec h) 99 [none, none, none] [] h := by
  unfold f_X10_moves_J99
  refine Y.op (pc' := 100) (fun _ => X.ic ki_0 dX10_moves_99) ?_
  exact Y.zreturn rfl dX10_moves_100
def f_X10_moves_J84 (rec : Nat → Int32 → xH → Option (Int32 × xH)) (x0 : Nat) (x1 : Int32) (x2 : Int32) (h : xH) : Option (Int32 × xH) :=
  (gR h 10 x0 28).bind fun v1 =>
  (sI h v1 x2 x1).bind fun h2 =>
  if (1 : Int32) = 0 ∨ (1 : Int32) = 1 then some ((1 : Int32), h2) else none
theorem y_X10_moves_J84 {g : xG} {l : Nat} {h0 : xH} {cl : Bool} {rec : Nat → Int32 → xH → Option (Int32 × xH)} (hrec : ∀ (a0 : Nat) (p1 : Int32) (h : xH) (cl : Bool) (r : Int32 × xH), rec a0 p1 h = some r → XM g (DX10_moves (l + 1)) [.ref a0, .int p1] h cl (iI r)) (x0 : Nat) (x1 : Int32) (x2 : Int32) (h : xH) : Y g (DX10_moves (l + 1 + 1)) h0 cl iI (f_X10_moves_J84 rec x0 x1 x2 h) 84 [some (.ref x0), some (.int x1), some (.int x2)] [] h := by
  unfold f_X10_moves_J84
  refine Y.op (pc' := 85) (fun _ => X.aloadn rfl dX10_moves_84) ?_
  refine Y.getR fd_X10_51 rfl dX10_moves_85 (fun v1 => ?_)
  refine Y.op (pc' := 89) (fun _ => X.iloadn rfl dX10_moves_88) ?_
  refine Y.op (pc' := 90) (fun _ => X.iloadn rfl dX10_moves_89) ?_
  refine Y.astI dX10_moves_90 (fun h2 => ?_)
  refine Y.op (pc' := 92) (fun _ => X.ic ki_1 dX10_moves_91) ?_
  exact Y.zreturn rfl dX10_moves_92
def f_X10_moves_J93 (rec : Nat → Int32 → xH → Option (Int32 × xH)) (kH : Nat → Int32 → Int32 → xH → Option (Int32 × xH)) (kE84 : Nat → Int32 → Int32 → xH → Option (Int32 × xH)) (kE99 : xH → Option (Int32 × xH)) (x0 : Nat) (x1 : Int32) (x2 : Int32) (h : xH) : Option (Int32 × xH) :=
  lt (x2 + (1 : Int32)) fun v1 =>
  kH x0 x1 v1 h
theorem y_X10_moves_J93 {g : xG} {l : Nat} {h0 : xH} {cl : Bool} {rec : Nat → Int32 → xH → Option (Int32 × xH)} {kH : Nat → Int32 → Int32 → xH → Option (Int32 × xH)} {kE84 : Nat → Int32 → Int32 → xH → Option (Int32 × xH)} {kE99 : xH → Option (Int32 × xH)} (hrec : ∀ (a0 : Nat) (p1 : Int32) (h : xH) (cl : Bool) (r : Int32 × xH), rec a0 p1 h = some r → XM g (DX10_moves (l + 1)) [.ref a0, .int p1] h cl (iI r)) (hkH : ∀ (x0 : Nat) (x1 : Int32) (x2 : Int32) (h : xH), Y g (DX10_moves (l + 1 + 1)) h0 cl iI (kH x0 x1 x2 h) 2 [some (.ref x0), some (.int x1), some (.int x2)] [] h) (hkE84 : ∀ (x0 : Nat) (x1 : Int32) (x2 : Int32) (h : xH), Y g (DX10_moves (l + 1 + 1)) h0 cl iI (kE84 x0 x1 x2 h) 84 [some (.ref x0), some (.int x1), some (.int x2)] [] h) (hkE99 : ∀  (h : xH), Y g (DX10_moves (l + 1 + 1)) h0 cl iI (kE99  h) 99 [none, none, none] [] h) (x0 : Nat) (x1 : Int32) (x2 : Int32) (h : xH) : Y g (DX10_moves (l + 1 + 1)) h0 cl iI (f_X10_moves_J93 rec kH kE84 kE99 x0 x1 x2 h) 93 [some (.ref x0), some (.int x1), some (.int x2)] [] h := by
  unfold f_X10_moves_J93
  refine Y.iinc (i := 2) (loc' := fun v1 => [some (.ref x0), some (.int x1), some (.int v1)]) rfl (Nat.le_of_ble_eq_true rfl) ki_1 (fun _ => rfl) dX10_moves_93 (fun v1 => ?_)
  refine Y.op (pc' := 2) (fun _ => X.goto 2 (by decide) dX10_moves_96) ?_
  exact hkH x0 x1 v1 h
def f_X10_moves_L2 (rec : Nat → Int32 → xH → Option (Int32 × xH)) (kE84 : Nat → Int32 → Int32 → xH → Option (Int32 × xH)) (kE99 : xH → Option (Int32 × xH)) : Nat → Nat → Int32 → Int32 → xH → Option (Int32 × xH)
  | 0 => fun _ _ _ _ => none
  | n + 1 => fun x0 x1 x2 h =>
    if x2 ≥ (12 : Int32) then
      kE99 h
    else
      (gR h 10 x0 10).bind fun v1 =>
      (aR 102 h v1 (0 : Int32)).bind fun v2 =>
      (aI h v2 x1).bind fun v3 =>
      (gR h 10 x0 9).bind fun v4 =>
      (aR 102 h v4 (0 : Int32)).bind fun v5 =>
      (aI h v5 (4 : Int32)).bind fun v6 =>
      (f_X10_has (v3 &&& v6) x2 h).bind fun r7 =>
      if r7.1 = (0 : Int32) then
        f_X10_moves_J93 rec (f_X10_moves_L2 rec kE84 kE99 n) kE84 kE99 x0 x1 x2 r7.2
      else
        (gI r7.2 10 x0 29).bind fun v8 =>
        (f_X10_has v8 x2 r7.2).bind fun r9 =>
        if r9.1 = (0 : Int32) then
          (gI r9.2 10 x0 29).bind fun v10 =>
          (pI r9.2 10 x0 29 (v10 ||| ((1 : Int32) <<< (x2 &&& 31)))).bind fun h11 =>
          (gR h11 10 x0 28).bind fun v12 =>
          (aI h11 v12 x2).bind fun v13 =>
          if v13 = (-1 : Int32) then
            kE84 x0 x1 x2 h11
          else
            (gR h11 10 x0 28).bind fun v14 =>
            (aI h11 v14 x2).bind fun v15 =>
            (vc h11 10 x0 (rec x0 v15 h11)).bind fun r16 =>
            if r16.1 = (0 : Int32) then
              f_X10_moves_J93 rec (f_X10_moves_L2 rec kE84 kE99 n) kE84 kE99 x0 x1 x2 r16.2
            else
              kE84 x0 x1 x2 r16.2
        else
          f_X10_moves_J93 rec (f_X10_moves_L2 rec kE84 kE99 n) kE84 kE99 x0 x1 x2 r9.2
theorem y_X10_moves_L2 {g : xG} {l : Nat} {h0 : xH} {cl : Bool} {rec : Nat → Int32 → xH → Option (Int32 × xH)} {kE84 : Nat → Int32 → Int32 → xH → Option (Int32 × xH)} {kE99 : xH → Option (Int32 × xH)} (hrec : ∀ (a0 : Nat) (p1 : Int32) (h : xH) (cl : Bool) (r : Int32 × xH), rec a0 p1 h = some r → XM g (DX10_moves (l + 1)) [.ref a0, .int p1] h cl (iI r)) (hkE84 : ∀ (x0 : Nat) (x1 : Int32) (x2 : Int32) (h : xH), Y g (DX10_moves (l + 1 + 1)) h0 cl iI (kE84 x0 x1 x2 h) 84 [some (.ref x0), some (.int x1), some (.int x2)] [] h) (hkE99 : ∀  (h : xH), Y g (DX10_moves (l + 1 + 1)) h0 cl iI (kE99  h) 99 [none, none, none] [] h) : ∀ (n : Nat) (x0 : Nat) (x1 : Int32) (x2 : Int32) (h : xH), Y g (DX10_moves (l + 1 + 1)) h0 cl iI (f_X10_moves_L2 rec kE84 kE99 n x0 x1 x2 h) 2 [some (.ref x0), some (.int x1), some (.int x2)] [] h := by
  intro n
  induction n with
  | zero => intro x0 x1 x2 h; exact Y.nothing
  | succ n ih =>
    intro x0 x1 x2 h
    unfold f_X10_moves_L2
    refine Y.op (pc' := 3) (fun _ => X.iloadn rfl dX10_moves_2) ?_
    refine Y.op (pc' := 5) (fun _ => X.bp kb_12 dX10_moves_3) ?_
    refine Y.cmpge 99 (by decide) dX10_moves_5 ?_ ?_
    · exact Y.fg (hkE99 h) trivial
    · refine Y.op (pc' := 9) (fun _ => X.aloadn rfl dX10_moves_8) ?_
      refine Y.getR fd_X10_25 rfl dX10_moves_9 (fun v1 => ?_)
      refine Y.op (pc' := 13) (fun _ => X.ic ki_0 dX10_moves_12) ?_
      refine Y.aldR 102 (by decide) (by decide) dX10_moves_13 (fun v2 => ?_)
      refine Y.op (pc' := 15) (fun _ => X.iloadn rfl dX10_moves_14) ?_
      refine Y.aldI dX10_moves_15 (fun v3 => ?_)
      refine Y.op (pc' := 17) (fun _ => X.aloadn rfl dX10_moves_16) ?_
      refine Y.getR fd_X10_22 rfl dX10_moves_17 (fun v4 => ?_)
      refine Y.op (pc' := 21) (fun _ => X.ic ki_0 dX10_moves_20) ?_
      refine Y.aldR 102 (by decide) (by decide) dX10_moves_21 (fun v5 => ?_)
      refine Y.op (pc' := 23) (fun _ => X.ic ki_4 dX10_moves_22) ?_
      refine Y.aldI dX10_moves_23 (fun v6 => ?_)
      refine Y.op (pc' := 25) (fun _ => X.iand dX10_moves_24) ?_
      refine Y.op (pc' := 26) (fun _ => X.iloadn rfl dX10_moves_25) ?_
      refine Y.callSi (As := [.int (v3 &&& v6), .int x2]) lk_X10_182 rfl cal_X10_has sta_X10_has (by show 1 + 1 ≤ l + 1 + 1; omega) rfl rfl (Nat.le_of_ble_eq_true rfl) dX10_moves_26 (fun _ e => m_X10_has (v3 &&& v6) x2 h _ _ e) (fun r7 => ?_)
      refine Y.ifeq 93 (by decide) dX10_moves_29 ?_ ?_
      · exact y_X10_moves_J93 hrec ih hkE84 hkE99 x0 x1 x2 r7.2
      · refine Y.op (pc' := 33) (fun _ => X.aloadn rfl dX10_moves_32) ?_
        refine Y.getI fd_X10_321 rfl dX10_moves_33 (fun v8 => ?_)
        refine Y.op (pc' := 37) (fun _ => X.iloadn rfl dX10_moves_36) ?_
        refine Y.callSi (As := [.int v8, .int x2]) lk_X10_182 rfl cal_X10_has sta_X10_has (by show 1 + 1 ≤ l + 1 + 1; omega) rfl rfl (Nat.le_of_ble_eq_true rfl) dX10_moves_37 (fun _ e => m_X10_has v8 x2 r7.2 _ _ e) (fun r9 => ?_)
        refine Y.ifeq 46 (by decide) dX10_moves_40 ?_ ?_
        · refine Y.op (pc' := 47) (fun _ => X.aloadn rfl dX10_moves_46) ?_
          refine Y.op (pc' := 48) (fun _ => X.dup rfl dX10_moves_47) ?_
          refine Y.getI fd_X10_321 rfl dX10_moves_48 (fun v10 => ?_)
          refine Y.op (pc' := 52) (fun _ => X.ic ki_1 dX10_moves_51) ?_
          refine Y.op (pc' := 53) (fun _ => X.iloadn rfl dX10_moves_52) ?_
          refine Y.op (pc' := 54) (fun _ => X.ishl dX10_moves_53) ?_
          refine Y.op (pc' := 55) (fun _ => X.ior dX10_moves_54) ?_
          refine Y.putI fd_X10_321 rfl dX10_moves_55 (fun h11 => ?_)
          refine Y.op (pc' := 59) (fun _ => X.aloadn rfl dX10_moves_58) ?_
          refine Y.getR fd_X10_51 rfl dX10_moves_59 (fun v12 => ?_)
          refine Y.op (pc' := 63) (fun _ => X.iloadn rfl dX10_moves_62) ?_
          refine Y.aldI dX10_moves_63 (fun v13 => ?_)
          refine Y.op (pc' := 65) (fun _ => X.ic ki_m1 dX10_moves_64) ?_
          refine Y.cmpeq 84 (by decide) dX10_moves_65 ?_ ?_
          · exact hkE84 x0 x1 x2 h11
          · refine Y.op (pc' := 69) (fun _ => X.aloadn rfl dX10_moves_68) ?_
            refine Y.op (pc' := 70) (fun _ => X.aloadn rfl dX10_moves_69) ?_
            refine Y.getR fd_X10_51 rfl dX10_moves_70 (fun v14 => ?_)
            refine Y.op (pc' := 74) (fun _ => X.iloadn rfl dX10_moves_73) ?_
            refine Y.aldI dX10_moves_74 (fun v15 => ?_)
            refine Y.callVi (As := [.int v15]) lk_X10_324 rfl (cal_X10_moves _) (vir_X10_moves _) (Nat.le_refl _) (Nat.le_of_ble_eq_true rfl) rfl rfl rfl (Nat.le_of_ble_eq_true rfl) dX10_moves_75 (fun _ e => hrec x0 v15 h11 _ _ e) (fun r16 => ?_)
            refine Y.ifne 84 (by decide) dX10_moves_78 ?_ ?_
            · exact hkE84 x0 x1 x2 r16.2
            · refine Y.op (pc' := 93) (fun _ => X.goto 93 (by decide) dX10_moves_81) ?_
              exact y_X10_moves_J93 hrec ih hkE84 hkE99 x0 x1 x2 r16.2
        · refine Y.op (pc' := 93) (fun _ => X.goto 93 (by decide) dX10_moves_43) ?_
          exact y_X10_moves_J93 hrec ih hkE84 hkE99 x0 x1 x2 r9.2
def f_X10_moves_B (rec : Nat → Int32 → xH → Option (Int32 × xH)) (a0 : Nat) (p1 : Int32) (h : xH) : Option (Int32 × xH) :=
  f_X10_moves_L2 rec (f_X10_moves_J84 rec) (f_X10_moves_J99 rec) 5000 a0 p1 (0 : Int32) h
def f_X10_moves : Nat → Nat → Int32 → xH → Option (Int32 × xH)
  | 0 => fun _ _ _ => none
  | d + 1 => f_X10_moves_B (f_X10_moves d)
theorem y_X10_moves {g : xG} {l : Nat} {h0 : xH} {cl : Bool} {rec : Nat → Int32 → xH → Option (Int32 × xH)} (hrec : ∀ (a0 : Nat) (p1 : Int32) (h : xH) (cl : Bool) (r : Int32 × xH), rec a0 p1 h = some r → XM g (DX10_moves (l + 1)) [.ref a0, .int p1] h cl (iI r)) (a0 : Nat) (p1 : Int32) (h : xH) : Y g (DX10_moves (l + 1 + 1)) h0 cl iI (f_X10_moves_B rec a0 p1 h) 0 [some (.ref a0), some (.int p1), none] [] h := by
  unfold f_X10_moves_B
  refine Y.op (pc' := 1) (fun _ => X.ic ki_0 dX10_moves_0) ?_
  refine Y.op (pc' := 2) (loc' := [some (.ref a0), some (.int p1), some (.int (0 : Int32))]) (fun _ => X.istoren (Nat.le_of_ble_eq_true rfl) rfl dX10_moves_1) ?_
  exact y_X10_moves_L2 hrec (y_X10_moves_J84 hrec) (y_X10_moves_J99 hrec) 5000 a0 p1 (0 : Int32) h
theorem m_X10_moves {g : xG} : ∀ (d : Nat) (a0 : Nat) (p1 : Int32) (h : xH) (cl : Bool) (r : Int32 × xH), f_X10_moves d a0 p1 h = some r → XM g (DX10_moves (d + 1)) [.ref a0, .int p1] h cl (iI r) := by
  intro d
  induction d with
  | zero => intro a0 p1 h cl r e; cases e
  | succ d ih =>
    intro a0 p1 h cl r e
    have e : f_X10_moves_B (f_X10_moves d) a0 p1 h = some r := e
    rw [show d + 1 + 1 = d + 1 + 1 by omega]
    exact YM.of rfl rfl (Nat.le_of_ble_eq_true rfl) (y_X10_moves (l := d) ih a0 p1 h) e
def f_X10_nu_J73 (x1 : Int32) (h : xH) : Option (Int32 × xH) :=
  some (x1, h)
theorem y_X10_nu_J73 {g : xG} {h0 : xH} {cl : Bool} (x1 : Int32) (h : xH) : Y g DX10_nu h0 cl iI (f_X10_nu_J73 x1 h) 73 [none, some (.int x1), none] [] h := by
  unfold f_X10_nu_J73
  refine Y.op (pc' := 74) (fun _ => X.iloadn rfl dX10_nu_73) ?_
  exact Y.ireturn rfl dX10_nu_74
def f_X10_nu_J65 (kH : Nat → Int32 → Int32 → xH → Option (Int32 × xH)) (kE73 : Int32 → xH → Option (Int32 × xH)) (x0 : Nat) (x2 : Int32) (s0 : Int32) (s1 : Int32) (h : xH) : Option (Int32 × xH) :=
  lt ((s0 + s1)) fun v1 =>
  lt (x2 + (1 : Int32)) fun v2 =>
  kH x0 v1 v2 h
theorem y_X10_nu_J65 {g : xG} {h0 : xH} {cl : Bool} {kH : Nat → Int32 → Int32 → xH → Option (Int32 × xH)} {kE73 : Int32 → xH → Option (Int32 × xH)} (hkH : ∀ (x0 : Nat) (x1 : Int32) (x2 : Int32) (h : xH), Y g DX10_nu h0 cl iI (kH x0 x1 x2 h) 25 [some (.ref x0), some (.int x1), some (.int x2)] [] h) (hkE73 : ∀ (x1 : Int32) (h : xH), Y g DX10_nu h0 cl iI (kE73 x1 h) 73 [none, some (.int x1), none] [] h) (x0 : Nat) (x2 : Int32) (s0 : Int32) (s1 : Int32) (h : xH) : Y g DX10_nu h0 cl iI (f_X10_nu_J65 kH kE73 x0 x2 s0 s1 h) 65 [some (.ref x0), none, some (.int x2)] [.int s1, .int s0] h := by
  unfold f_X10_nu_J65
  refine Y.op (pc' := 66) (fun _ => X.iadd dX10_nu_65) ?_
  refine Y.top (fun v1 => ?_)
  refine Y.op (pc' := 67) (loc' := [some (.ref x0), some (.int v1), some (.int x2)]) (fun _ => X.istoren (Nat.le_of_ble_eq_true rfl) rfl dX10_nu_66) ?_
  refine Y.iinc (i := 2) (loc' := fun v2 => [some (.ref x0), some (.int v1), some (.int v2)]) rfl (Nat.le_of_ble_eq_true rfl) ki_1 (fun _ => rfl) dX10_nu_67 (fun v2 => ?_)
  refine Y.op (pc' := 25) (fun _ => X.goto 25 (by decide) dX10_nu_70) ?_
  exact hkH x0 v1 v2 h
def f_X10_nu_J64 (kH : Nat → Int32 → Int32 → xH → Option (Int32 × xH)) (kE73 : Int32 → xH → Option (Int32 × xH)) (x0 : Nat) (x2 : Int32) (s0 : Int32) (h : xH) : Option (Int32 × xH) :=
  f_X10_nu_J65 (kH) kE73 x0 x2 s0 (0 : Int32) h
theorem y_X10_nu_J64 {g : xG} {h0 : xH} {cl : Bool} {kH : Nat → Int32 → Int32 → xH → Option (Int32 × xH)} {kE73 : Int32 → xH → Option (Int32 × xH)} (hkH : ∀ (x0 : Nat) (x1 : Int32) (x2 : Int32) (h : xH), Y g DX10_nu h0 cl iI (kH x0 x1 x2 h) 25 [some (.ref x0), some (.int x1), some (.int x2)] [] h) (hkE73 : ∀ (x1 : Int32) (h : xH), Y g DX10_nu h0 cl iI (kE73 x1 h) 73 [none, some (.int x1), none] [] h) (x0 : Nat) (x2 : Int32) (s0 : Int32) (h : xH) : Y g DX10_nu h0 cl iI (f_X10_nu_J64 kH kE73 x0 x2 s0 h) 64 [some (.ref x0), none, some (.int x2)] [.int s0] h := by
  unfold f_X10_nu_J64
  refine Y.op (pc' := 65) (fun _ => X.ic ki_0 dX10_nu_64) ?_
  exact y_X10_nu_J65 hkH hkE73 x0 x2 s0 (0 : Int32) h
def f_X10_nu_L25 (kE73 : Int32 → xH → Option (Int32 × xH)) : Nat → Nat → Int32 → Int32 → xH → Option (Int32 × xH)
  | 0 => fun _ _ _ _ => none
  | n + 1 => fun x0 x1 x2 h =>
    if x2 ≥ (12 : Int32) then
      kE73 x1 h
    else
      (pI h 10 x0 29 (0 : Int32)).bind fun h1 =>
      (gR h1 10 x0 9).bind fun v2 =>
      (aR 102 h1 v2 (0 : Int32)).bind fun v3 =>
      (aI h1 v3 (3 : Int32)).bind fun v4 =>
      (f_X10_has v4 x2 h1).bind fun r5 =>
      if r5.1 = (0 : Int32) then
        f_X10_nu_J64 (f_X10_nu_L25 kE73 n) kE73 x0 x2 x1 r5.2
      else
        (vc r5.2 10 x0 (f_X10_moves 40 x0 x2 r5.2)).bind fun r6 =>
        if r6.1 = (0 : Int32) then
          f_X10_nu_J64 (f_X10_nu_L25 kE73 n) kE73 x0 x2 x1 r6.2
        else
          f_X10_nu_J65 (f_X10_nu_L25 kE73 n) kE73 x0 x2 x1 (1 : Int32) r6.2
theorem y_X10_nu_L25 {g : xG} {h0 : xH} {cl : Bool} {kE73 : Int32 → xH → Option (Int32 × xH)} (hkE73 : ∀ (x1 : Int32) (h : xH), Y g DX10_nu h0 cl iI (kE73 x1 h) 73 [none, some (.int x1), none] [] h) : ∀ (n : Nat) (x0 : Nat) (x1 : Int32) (x2 : Int32) (h : xH), Y g DX10_nu h0 cl iI (f_X10_nu_L25 kE73 n x0 x1 x2 h) 25 [some (.ref x0), some (.int x1), some (.int x2)] [] h := by
  intro n
  induction n with
  | zero => intro x0 x1 x2 h; exact Y.nothing
  | succ n ih =>
    intro x0 x1 x2 h
    unfold f_X10_nu_L25
    refine Y.op (pc' := 26) (fun _ => X.iloadn rfl dX10_nu_25) ?_
    refine Y.op (pc' := 28) (fun _ => X.bp kb_12 dX10_nu_26) ?_
    refine Y.cmpge 73 (by decide) dX10_nu_28 ?_ ?_
    · exact Y.fg (hkE73 x1 h) (And.intro rfl trivial)
    · refine Y.op (pc' := 32) (fun _ => X.aloadn rfl dX10_nu_31) ?_
      refine Y.op (pc' := 33) (fun _ => X.ic ki_0 dX10_nu_32) ?_
      refine Y.putI fd_X10_321 rfl dX10_nu_33 (fun h1 => ?_)
      refine Y.op (pc' := 37) (fun _ => X.iloadn rfl dX10_nu_36) ?_
      refine Y.op (pc' := 38) (fun _ => X.aloadn rfl dX10_nu_37) ?_
      refine Y.getR fd_X10_22 rfl dX10_nu_38 (fun v2 => ?_)
      refine Y.op (pc' := 42) (fun _ => X.ic ki_0 dX10_nu_41) ?_
      refine Y.aldR 102 (by decide) (by decide) dX10_nu_42 (fun v3 => ?_)
      refine Y.op (pc' := 44) (fun _ => X.ic ki_3 dX10_nu_43) ?_
      refine Y.aldI dX10_nu_44 (fun v4 => ?_)
      refine Y.op (pc' := 46) (fun _ => X.iloadn rfl dX10_nu_45) ?_
      refine Y.callSi (As := [.int v4, .int x2]) lk_X10_182 rfl cal_X10_has sta_X10_has (Nat.le_of_ble_eq_true rfl) rfl rfl (Nat.le_of_ble_eq_true rfl) dX10_nu_46 (fun _ e => m_X10_has v4 x2 h1 _ _ e) (fun r5 => ?_)
      refine Y.ifeq 64 (by decide) dX10_nu_49 ?_ ?_
      · exact Y.fg (y_X10_nu_J64 ih hkE73 x0 x2 x1 r5.2) (And.intro rfl (And.intro rfl trivial))
      · refine Y.op (pc' := 53) (fun _ => X.aloadn rfl dX10_nu_52) ?_
        refine Y.op (pc' := 54) (fun _ => X.iloadn rfl dX10_nu_53) ?_
        refine Y.callVi (As := [.int x2]) lk_X10_324 rfl (cal_X10_moves _) (vir_X10_moves _) (Nat.le_of_ble_eq_true rfl) (Nat.le_of_ble_eq_true rfl) rfl rfl rfl (Nat.le_of_ble_eq_true rfl) dX10_nu_54 (fun _ e => m_X10_moves 40 x0 x2 r5.2 _ _ e) (fun r6 => ?_)
        refine Y.ifeq 64 (by decide) dX10_nu_57 ?_ ?_
        · exact Y.fg (y_X10_nu_J64 ih hkE73 x0 x2 x1 r6.2) (And.intro rfl (And.intro rfl trivial))
        · refine Y.op (pc' := 61) (fun _ => X.ic ki_1 dX10_nu_60) ?_
          refine Y.op (pc' := 65) (fun _ => X.goto 65 (by decide) dX10_nu_61) ?_
          exact Y.fg (y_X10_nu_J65 ih hkE73 x0 x2 x1 (1 : Int32) r6.2) (And.intro rfl (And.intro rfl trivial))
def f_X10_nu_J23 (x0 : Nat) (x1 : Int32) (h : xH) : Option (Int32 × xH) :=
  f_X10_nu_L25 (f_X10_nu_J73) 5000 x0 x1 (0 : Int32) h
theorem y_X10_nu_J23 {g : xG} {h0 : xH} {cl : Bool} (x0 : Nat) (x1 : Int32) (h : xH) : Y g DX10_nu h0 cl iI (f_X10_nu_J23 x0 x1 h) 23 [some (.ref x0), some (.int x1), none] [] h := by
  unfold f_X10_nu_J23
  refine Y.op (pc' := 24) (fun _ => X.ic ki_0 dX10_nu_23) ?_
  refine Y.op (pc' := 25) (loc' := [some (.ref x0), some (.int x1), some (.int (0 : Int32))]) (fun _ => X.istoren (Nat.le_of_ble_eq_true rfl) rfl dX10_nu_24) ?_
  exact y_X10_nu_L25 (y_X10_nu_J73) 5000 x0 x1 (0 : Int32) h
def f_X10_nu_L4 (kE23 : Nat → Int32 → xH → Option (Int32 × xH)) : Nat → Nat → Int32 → Int32 → xH → Option (Int32 × xH)
  | 0 => fun _ _ _ _ => none
  | n + 1 => fun x0 x1 x2 h =>
    if x2 ≥ (12 : Int32) then
      kE23 x0 x1 h
    else
      (gR h 10 x0 28).bind fun v1 =>
      (sI h v1 x2 (-1 : Int32)).bind fun h2 =>
      lt (x2 + (1 : Int32)) fun v3 =>
      f_X10_nu_L4 kE23 n x0 x1 v3 h2
theorem y_X10_nu_L4 {g : xG} {h0 : xH} {cl : Bool} {kE23 : Nat → Int32 → xH → Option (Int32 × xH)} (hkE23 : ∀ (x0 : Nat) (x1 : Int32) (h : xH), Y g DX10_nu h0 cl iI (kE23 x0 x1 h) 23 [some (.ref x0), some (.int x1), none] [] h) : ∀ (n : Nat) (x0 : Nat) (x1 : Int32) (x2 : Int32) (h : xH), Y g DX10_nu h0 cl iI (f_X10_nu_L4 kE23 n x0 x1 x2 h) 4 [some (.ref x0), some (.int x1), some (.int x2)] [] h := by
  intro n
  induction n with
  | zero => intro x0 x1 x2 h; exact Y.nothing
  | succ n ih =>
    intro x0 x1 x2 h
    unfold f_X10_nu_L4
    refine Y.op (pc' := 5) (fun _ => X.iloadn rfl dX10_nu_4) ?_
    refine Y.op (pc' := 7) (fun _ => X.bp kb_12 dX10_nu_5) ?_
    refine Y.cmpge 23 (by decide) dX10_nu_7 ?_ ?_
    · exact Y.fg (hkE23 x0 x1 h) (And.intro rfl (And.intro rfl trivial))
    · refine Y.op (pc' := 11) (fun _ => X.aloadn rfl dX10_nu_10) ?_
      refine Y.getR fd_X10_51 rfl dX10_nu_11 (fun v1 => ?_)
      refine Y.op (pc' := 15) (fun _ => X.iloadn rfl dX10_nu_14) ?_
      refine Y.op (pc' := 16) (fun _ => X.ic ki_m1 dX10_nu_15) ?_
      refine Y.astI dX10_nu_16 (fun h2 => ?_)
      refine Y.iinc (i := 2) (loc' := fun v3 => [some (.ref x0), some (.int x1), some (.int v3)]) rfl (Nat.le_of_ble_eq_true rfl) ki_1 (fun _ => rfl) dX10_nu_17 (fun v3 => ?_)
      refine Y.op (pc' := 4) (fun _ => X.goto 4 (by decide) dX10_nu_20) ?_
      exact ih x0 x1 v3 h2
def f_X10_nu (a0 : Nat) (h : xH) : Option (Int32 × xH) :=
  f_X10_nu_L4 (f_X10_nu_J23) 5000 a0 (0 : Int32) (0 : Int32) h
theorem y_X10_nu {g : xG} {h0 : xH} {cl : Bool} (a0 : Nat) (h : xH) : Y g DX10_nu h0 cl iI (f_X10_nu a0 h) 0 [some (.ref a0), none, none] [] h := by
  unfold f_X10_nu
  refine Y.op (pc' := 1) (fun _ => X.ic ki_0 dX10_nu_0) ?_
  refine Y.op (pc' := 2) (loc' := [some (.ref a0), some (.int (0 : Int32)), none]) (fun _ => X.istoren (Nat.le_of_ble_eq_true rfl) rfl dX10_nu_1) ?_
  refine Y.op (pc' := 3) (fun _ => X.ic ki_0 dX10_nu_2) ?_
  refine Y.op (pc' := 4) (loc' := [some (.ref a0), some (.int (0 : Int32)), some (.int (0 : Int32))]) (fun _ => X.istoren (Nat.le_of_ble_eq_true rfl) rfl dX10_nu_3) ?_
  exact y_X10_nu_L4 (y_X10_nu_J23) 5000 a0 (0 : Int32) (0 : Int32) h
theorem m_X10_nu {g : xG} (a0 : Nat) (h : xH) (cl : Bool) (r : Int32 × xH) (e : f_X10_nu a0 h = some r) : XM g DX10_nu [.ref a0] h cl (iI r) := YM.of rfl rfl (Nat.le_of_ble_eq_true rfl) (y_X10_nu a0 h) e
def f_X10_most (a0 : Nat) (h : xH) : Option (Int32 × xH) :=
  (pI h 10 a0 0 (0 : Int32)).bind fun h1 =>
  (vc h1 10 a0 (f_X10_nu a0 h1)).bind fun r2 =>
  some (r2.1, r2.2)
theorem y_X10_most {g : xG} {h0 : xH} {cl : Bool} (a0 : Nat) (h : xH) : Y g DX10_most h0 cl iI (f_X10_most a0 h) 0 [some (.ref a0)] [] h := by
  unfold f_X10_most
  refine Y.op (pc' := 1) (fun _ => X.aloadn rfl dX10_most_0) ?_
  refine Y.op (pc' := 2) (fun _ => X.ic ki_0 dX10_most_1) ?_
  refine Y.putI fd_X10_82 rfl dX10_most_2 (fun h1 => ?_)
  refine Y.op (pc' := 6) (fun _ => X.aloadn rfl dX10_most_5) ?_
  refine Y.callVi (As := []) lk_X10_327 rfl cal_X10_nu vir_X10_nu (Nat.le_of_ble_eq_true rfl) (Nat.le_of_ble_eq_true rfl) rfl rfl rfl (Nat.le_of_ble_eq_true rfl) dX10_most_6 (fun _ e => m_X10_nu a0 h1 _ _ e) (fun r2 => ?_)
  exact Y.ireturn rfl dX10_most_9
theorem m_X10_most {g : xG} (a0 : Nat) (h : xH) (cl : Bool) (r : Int32 × xH) (e : f_X10_most a0 h = some r) : XM g DX10_most [.ref a0] h cl (iI r) := YM.of rfl rfl (Nat.le_of_ble_eq_true rfl) (y_X10_most a0 h) e
def f_X10_chooses_J126 (h : xH) : Option (xH) :=
  some h
theorem y_X10_chooses_J126 {g : xG} {h0 : xH} {cl : Bool} (h : xH) : Y g DX10_chooses h0 cl iV (f_X10_chooses_J126 h) 126 [none, none, none] [] h := by
  unfold f_X10_chooses_J126
  exact Y.vreturn rfl dX10_chooses_126
def f_X10_chooses_J120 (kH : Nat → Int32 → xH → Option (xH)) (kE126 : xH → Option (xH)) (x0 : Nat) (x1 : Int32) (h : xH) : Option (xH) :=
  lt (x1 + (-1 : Int32)) fun v1 =>
  kH x0 v1 h
theorem y_X10_chooses_J120 {g : xG} {h0 : xH} {cl : Bool} {kH : Nat → Int32 → xH → Option (xH)} {kE126 : xH → Option (xH)} (hkH : ∀ (x0 : Nat) (x1 : Int32) (h : xH), Y g DX10_chooses h0 cl iV (kH x0 x1 h) 34 [some (.ref x0), some (.int x1), none] [] h) (hkE126 : ∀  (h : xH), Y g DX10_chooses h0 cl iV (kE126  h) 126 [none, none, none] [] h) (x0 : Nat) (x1 : Int32) (h : xH) : Y g DX10_chooses h0 cl iV (f_X10_chooses_J120 kH kE126 x0 x1 h) 120 [some (.ref x0), some (.int x1), none] [] h := by
  unfold f_X10_chooses_J120
  refine Y.iinc (i := 1) (loc' := fun v1 => [some (.ref x0), some (.int v1), none]) rfl (Nat.le_of_ble_eq_true rfl) ki_m1 (fun _ => rfl) dX10_chooses_120 (fun v1 => ?_)
  refine Y.op (pc' := 34) (fun _ => X.goto 34 (by decide) dX10_chooses_123) ?_
  exact hkH x0 v1 h
def f_X10_chooses_J114 (kH : Nat → Int32 → Int32 → xH → Option (xH)) (kE120 : Nat → Int32 → xH → Option (xH)) (x0 : Nat) (x1 : Int32) (x2 : Int32) (h : xH) : Option (xH) :=
  lt (x2 + (1 : Int32)) fun v1 =>
  kH x0 x1 v1 h
theorem y_X10_chooses_J114 {g : xG} {h0 : xH} {cl : Bool} {kH : Nat → Int32 → Int32 → xH → Option (xH)} {kE120 : Nat → Int32 → xH → Option (xH)} (hkH : ∀ (x0 : Nat) (x1 : Int32) (x2 : Int32) (h : xH), Y g DX10_chooses h0 cl iV (kH x0 x1 x2 h) 40 [some (.ref x0), some (.int x1), some (.int x2)] [] h) (hkE120 : ∀ (x0 : Nat) (x1 : Int32) (h : xH), Y g DX10_chooses h0 cl iV (kE120 x0 x1 h) 120 [some (.ref x0), some (.int x1), none] [] h) (x0 : Nat) (x1 : Int32) (x2 : Int32) (h : xH) : Y g DX10_chooses h0 cl iV (f_X10_chooses_J114 kH kE120 x0 x1 x2 h) 114 [some (.ref x0), some (.int x1), some (.int x2)] [] h := by
  unfold f_X10_chooses_J114
  refine Y.iinc (i := 2) (loc' := fun v1 => [some (.ref x0), some (.int x1), some (.int v1)]) rfl (Nat.le_of_ble_eq_true rfl) ki_1 (fun _ => rfl) dX10_chooses_114 (fun v1 => ?_)
  refine Y.op (pc' := 40) (fun _ => X.goto 40 (by decide) dX10_chooses_117) ?_
  exact hkH x0 x1 v1 h
def f_X10_chooses_L40 (kE120 : Nat → Int32 → xH → Option (xH)) : Nat → Nat → Int32 → Int32 → xH → Option (xH)
  | 0 => fun _ _ _ _ => none
  | n + 1 => fun x0 x1 x2 h =>
    (gR h 10 x0 9).bind fun v1 =>
    (aR 102 h v1 (0 : Int32)).bind fun v2 =>
    (aI h v2 (0 : Int32)).bind fun v3 =>
    if x2 ≥ v3 then
      kE120 x0 x1 h
    else
      (vc h 10 x0 (f_X10_isThere x0 (0 : Int32) x2 h)).bind fun r4 =>
      if r4.1 = (0 : Int32) then
        f_X10_chooses_J114 (f_X10_chooses_L40 kE120 n) kE120 x0 x1 x2 r4.2
      else
        (gR r4.2 10 x0 12).bind fun v5 =>
        (aR 102 r4.2 v5 (0 : Int32)).bind fun v6 =>
        (aI r4.2 v6 x2).bind fun v7 =>
        if v7 = x1 then
          (pI r4.2 10 x0 29 (0 : Int32)).bind fun h8 =>
          (vc h8 10 x0 (f_X10_moves 40 x0 x2 h8)).bind fun r9 =>
          if r9.1 = (0 : Int32) then
            f_X10_chooses_J114 (f_X10_chooses_L40 kE120 n) kE120 x0 x1 x2 r9.2
          else
            (gI r9.2 10 x0 30).bind fun v10 =>
            (pI r9.2 10 x0 30 (v10 ||| ((1 : Int32) <<< (x2 &&& 31)))).bind fun h11 =>
            (gI h11 10 x0 31).bind fun v12 =>
            (pI h11 10 x0 31 (v12 + x1)).bind fun h13 =>
            f_X10_chooses_J114 (f_X10_chooses_L40 kE120 n) kE120 x0 x1 x2 h13
        else
          f_X10_chooses_J114 (f_X10_chooses_L40 kE120 n) kE120 x0 x1 x2 r4.2
theorem y_X10_chooses_L40 {g : xG} {h0 : xH} {cl : Bool} {kE120 : Nat → Int32 → xH → Option (xH)} (hkE120 : ∀ (x0 : Nat) (x1 : Int32) (h : xH), Y g DX10_chooses h0 cl iV (kE120 x0 x1 h) 120 [some (.ref x0), some (.int x1), none] [] h) : ∀ (n : Nat) (x0 : Nat) (x1 : Int32) (x2 : Int32) (h : xH), Y g DX10_chooses h0 cl iV (f_X10_chooses_L40 kE120 n x0 x1 x2 h) 40 [some (.ref x0), some (.int x1), some (.int x2)] [] h := by
  intro n
  induction n with
  | zero => intro x0 x1 x2 h; exact Y.nothing
  | succ n ih =>
    intro x0 x1 x2 h
    unfold f_X10_chooses_L40
    refine Y.op (pc' := 41) (fun _ => X.iloadn rfl dX10_chooses_40) ?_
    refine Y.op (pc' := 42) (fun _ => X.aloadn rfl dX10_chooses_41) ?_
    refine Y.getR fd_X10_22 rfl dX10_chooses_42 (fun v1 => ?_)
    refine Y.op (pc' := 46) (fun _ => X.ic ki_0 dX10_chooses_45) ?_
    refine Y.aldR 102 (by decide) (by decide) dX10_chooses_46 (fun v2 => ?_)
    refine Y.op (pc' := 48) (fun _ => X.ic ki_0 dX10_chooses_47) ?_
    refine Y.aldI dX10_chooses_48 (fun v3 => ?_)
    refine Y.cmpge 120 (by decide) dX10_chooses_49 ?_ ?_
    · exact Y.fg (hkE120 x0 x1 h) (And.intro rfl (And.intro rfl trivial))
    · refine Y.op (pc' := 53) (fun _ => X.aloadn rfl dX10_chooses_52) ?_
      refine Y.op (pc' := 54) (fun _ => X.ic ki_0 dX10_chooses_53) ?_
      refine Y.op (pc' := 55) (fun _ => X.iloadn rfl dX10_chooses_54) ?_
      refine Y.callVi (As := [.int (0 : Int32), .int x2]) lk_X10_240 rfl cal_X10_isThere vir_X10_isThere (Nat.le_of_ble_eq_true rfl) (Nat.le_of_ble_eq_true rfl) rfl rfl rfl (Nat.le_of_ble_eq_true rfl) dX10_chooses_55 (fun _ e => m_X10_isThere x0 (0 : Int32) x2 h _ _ e) (fun r4 => ?_)
      refine Y.ifeq 114 (by decide) dX10_chooses_58 ?_ ?_
      · exact y_X10_chooses_J114 ih hkE120 x0 x1 x2 r4.2
      · refine Y.op (pc' := 62) (fun _ => X.aloadn rfl dX10_chooses_61) ?_
        refine Y.getR fd_X10_31 rfl dX10_chooses_62 (fun v5 => ?_)
        refine Y.op (pc' := 66) (fun _ => X.ic ki_0 dX10_chooses_65) ?_
        refine Y.aldR 102 (by decide) (by decide) dX10_chooses_66 (fun v6 => ?_)
        refine Y.op (pc' := 68) (fun _ => X.iloadn rfl dX10_chooses_67) ?_
        refine Y.aldI dX10_chooses_68 (fun v7 => ?_)
        refine Y.op (pc' := 70) (fun _ => X.iloadn rfl dX10_chooses_69) ?_
        refine Y.cmpeq 76 (by decide) dX10_chooses_70 ?_ ?_
        · refine Y.op (pc' := 77) (fun _ => X.aloadn rfl dX10_chooses_76) ?_
          refine Y.op (pc' := 78) (fun _ => X.ic ki_0 dX10_chooses_77) ?_
          refine Y.putI fd_X10_321 rfl dX10_chooses_78 (fun h8 => ?_)
          refine Y.op (pc' := 82) (fun _ => X.aloadn rfl dX10_chooses_81) ?_
          refine Y.op (pc' := 83) (fun _ => X.iloadn rfl dX10_chooses_82) ?_
          refine Y.callVi (As := [.int x2]) lk_X10_324 rfl (cal_X10_moves _) (vir_X10_moves _) (Nat.le_of_ble_eq_true rfl) (Nat.le_of_ble_eq_true rfl) rfl rfl rfl (Nat.le_of_ble_eq_true rfl) dX10_chooses_83 (fun _ e => m_X10_moves 40 x0 x2 h8 _ _ e) (fun r9 => ?_)
          refine Y.ifne 92 (by decide) dX10_chooses_86 ?_ ?_
          · refine Y.op (pc' := 93) (fun _ => X.aloadn rfl dX10_chooses_92) ?_
            refine Y.op (pc' := 94) (fun _ => X.dup rfl dX10_chooses_93) ?_
            refine Y.getI fd_X10_330 rfl dX10_chooses_94 (fun v10 => ?_)
            refine Y.op (pc' := 98) (fun _ => X.ic ki_1 dX10_chooses_97) ?_
            refine Y.op (pc' := 99) (fun _ => X.iloadn rfl dX10_chooses_98) ?_
            refine Y.op (pc' := 100) (fun _ => X.ishl dX10_chooses_99) ?_
            refine Y.op (pc' := 101) (fun _ => X.ior dX10_chooses_100) ?_
            refine Y.putI fd_X10_330 rfl dX10_chooses_101 (fun h11 => ?_)
            refine Y.op (pc' := 105) (fun _ => X.aloadn rfl dX10_chooses_104) ?_
            refine Y.op (pc' := 106) (fun _ => X.dup rfl dX10_chooses_105) ?_
            refine Y.getI fd_X10_333 rfl dX10_chooses_106 (fun v12 => ?_)
            refine Y.op (pc' := 110) (fun _ => X.iloadn rfl dX10_chooses_109) ?_
            refine Y.op (pc' := 111) (fun _ => X.iadd dX10_chooses_110) ?_
            refine Y.putI fd_X10_333 rfl dX10_chooses_111 (fun h13 => ?_)
            exact y_X10_chooses_J114 ih hkE120 x0 x1 x2 h13
          · refine Y.op (pc' := 114) (fun _ => X.goto 114 (by decide) dX10_chooses_89) ?_
            exact y_X10_chooses_J114 ih hkE120 x0 x1 x2 r9.2
        · refine Y.op (pc' := 114) (fun _ => X.goto 114 (by decide) dX10_chooses_73) ?_
          exact y_X10_chooses_J114 ih hkE120 x0 x1 x2 r4.2
def f_X10_chooses_L34 (kE126 : xH → Option (xH)) : Nat → Nat → Int32 → xH → Option (xH)
  | 0 => fun _ _ _ => none
  | n + 1 => fun x0 x1 h =>
    if x1 < (0 : Int32) then
      kE126 h
    else
      f_X10_chooses_L40 (f_X10_chooses_J120 (f_X10_chooses_L34 kE126 n) kE126) 5000 x0 x1 (0 : Int32) h
theorem y_X10_chooses_L34 {g : xG} {h0 : xH} {cl : Bool} {kE126 : xH → Option (xH)} (hkE126 : ∀  (h : xH), Y g DX10_chooses h0 cl iV (kE126  h) 126 [none, none, none] [] h) : ∀ (n : Nat) (x0 : Nat) (x1 : Int32) (h : xH), Y g DX10_chooses h0 cl iV (f_X10_chooses_L34 kE126 n x0 x1 h) 34 [some (.ref x0), some (.int x1), none] [] h := by
  intro n
  induction n with
  | zero => intro x0 x1 h; exact Y.nothing
  | succ n ih =>
    intro x0 x1 h
    unfold f_X10_chooses_L34
    refine Y.op (pc' := 35) (fun _ => X.iloadn rfl dX10_chooses_34) ?_
    refine Y.iflt 126 (by decide) dX10_chooses_35 ?_ ?_
    · exact Y.fg (hkE126 h) trivial
    · refine Y.op (pc' := 39) (fun _ => X.ic ki_0 dX10_chooses_38) ?_
      refine Y.op (pc' := 40) (loc' := [some (.ref x0), some (.int x1), some (.int (0 : Int32))]) (fun _ => X.istoren (Nat.le_of_ble_eq_true rfl) rfl dX10_chooses_39) ?_
      exact y_X10_chooses_L40 (y_X10_chooses_J120 ih hkE126) 5000 x0 x1 (0 : Int32) h
def f_X10_chooses_J31 (x0 : Nat) (h : xH) : Option (xH) :=
  f_X10_chooses_L34 (f_X10_chooses_J126) 5000 x0 (99 : Int32) h
theorem y_X10_chooses_J31 {g : xG} {h0 : xH} {cl : Bool} (x0 : Nat) (h : xH) : Y g DX10_chooses h0 cl iV (f_X10_chooses_J31 x0 h) 31 [some (.ref x0), none, none] [] h := by
  unfold f_X10_chooses_J31
  refine Y.op (pc' := 33) (fun _ => X.bp kb_99 dX10_chooses_31) ?_
  refine Y.op (pc' := 34) (loc' := [some (.ref x0), some (.int (99 : Int32)), none]) (fun _ => X.istoren (Nat.le_of_ble_eq_true rfl) rfl dX10_chooses_33) ?_
  exact y_X10_chooses_L34 (y_X10_chooses_J126) 5000 x0 (99 : Int32) h
def f_X10_chooses_L12 (kE31 : Nat → xH → Option (xH)) : Nat → Nat → Int32 → xH → Option (xH)
  | 0 => fun _ _ _ => none
  | n + 1 => fun x0 x1 h =>
    if x1 ≥ (12 : Int32) then
      kE31 x0 h
    else
      (gR h 10 x0 28).bind fun v1 =>
      (sI h v1 x1 (-1 : Int32)).bind fun h2 =>
      lt (x1 + (1 : Int32)) fun v3 =>
      f_X10_chooses_L12 kE31 n x0 v3 h2
theorem y_X10_chooses_L12 {g : xG} {h0 : xH} {cl : Bool} {kE31 : Nat → xH → Option (xH)} (hkE31 : ∀ (x0 : Nat) (h : xH), Y g DX10_chooses h0 cl iV (kE31 x0 h) 31 [some (.ref x0), none, none] [] h) : ∀ (n : Nat) (x0 : Nat) (x1 : Int32) (h : xH), Y g DX10_chooses h0 cl iV (f_X10_chooses_L12 kE31 n x0 x1 h) 12 [some (.ref x0), some (.int x1), none] [] h := by
  intro n
  induction n with
  | zero => intro x0 x1 h; exact Y.nothing
  | succ n ih =>
    intro x0 x1 h
    unfold f_X10_chooses_L12
    refine Y.op (pc' := 13) (fun _ => X.iloadn rfl dX10_chooses_12) ?_
    refine Y.op (pc' := 15) (fun _ => X.bp kb_12 dX10_chooses_13) ?_
    refine Y.cmpge 31 (by decide) dX10_chooses_15 ?_ ?_
    · exact Y.fg (hkE31 x0 h) (And.intro rfl trivial)
    · refine Y.op (pc' := 19) (fun _ => X.aloadn rfl dX10_chooses_18) ?_
      refine Y.getR fd_X10_51 rfl dX10_chooses_19 (fun v1 => ?_)
      refine Y.op (pc' := 23) (fun _ => X.iloadn rfl dX10_chooses_22) ?_
      refine Y.op (pc' := 24) (fun _ => X.ic ki_m1 dX10_chooses_23) ?_
      refine Y.astI dX10_chooses_24 (fun h2 => ?_)
      refine Y.iinc (i := 1) (loc' := fun v3 => [some (.ref x0), some (.int v3), none]) rfl (Nat.le_of_ble_eq_true rfl) ki_1 (fun _ => rfl) dX10_chooses_25 (fun v3 => ?_)
      refine Y.op (pc' := 12) (fun _ => X.goto 12 (by decide) dX10_chooses_28) ?_
      exact ih x0 v3 h2
def f_X10_chooses (a0 : Nat) (h : xH) : Option (xH) :=
  (pI h 10 a0 30 (0 : Int32)).bind fun h1 =>
  (pI h1 10 a0 31 (0 : Int32)).bind fun h2 =>
  f_X10_chooses_L12 (f_X10_chooses_J31) 5000 a0 (0 : Int32) h2
theorem y_X10_chooses {g : xG} {h0 : xH} {cl : Bool} (a0 : Nat) (h : xH) : Y g DX10_chooses h0 cl iV (f_X10_chooses a0 h) 0 [some (.ref a0), none, none] [] h := by
  unfold f_X10_chooses
  refine Y.op (pc' := 1) (fun _ => X.aloadn rfl dX10_chooses_0) ?_
  refine Y.op (pc' := 2) (fun _ => X.ic ki_0 dX10_chooses_1) ?_
  refine Y.putI fd_X10_330 rfl dX10_chooses_2 (fun h1 => ?_)
  refine Y.op (pc' := 6) (fun _ => X.aloadn rfl dX10_chooses_5) ?_
  refine Y.op (pc' := 7) (fun _ => X.ic ki_0 dX10_chooses_6) ?_
  refine Y.putI fd_X10_333 rfl dX10_chooses_7 (fun h2 => ?_)
  refine Y.op (pc' := 11) (fun _ => X.ic ki_0 dX10_chooses_10) ?_
  refine Y.op (pc' := 12) (loc' := [some (.ref a0), some (.int (0 : Int32)), none]) (fun _ => X.istoren (Nat.le_of_ble_eq_true rfl) rfl dX10_chooses_11) ?_
  exact y_X10_chooses_L12 (y_X10_chooses_J31) 5000 a0 (0 : Int32) h2
theorem m_X10_chooses {g : xG} (a0 : Nat) (h : xH) (cl : Bool) (r : xH) (e : f_X10_chooses a0 h = some r) : XM g DX10_chooses [.ref a0] h cl (iV r) := YM.of rfl rfl (Nat.le_of_ble_eq_true rfl) (y_X10_chooses a0 h) e
def f_X10_chosen_J49 (s0 : Int32) (h : xH) : Option (Int32 × xH) :=
  some (s0, h)
theorem y_X10_chosen_J49 {g : xG} {h0 : xH} {cl : Bool} (s0 : Int32) (h : xH) : Y g DX10_chosen h0 cl iI (f_X10_chosen_J49 s0 h) 49 [none, none] [.int s0] h := by
  unfold f_X10_chosen_J49
  exact Y.ireturn rfl dX10_chosen_49
def f_X10_chosen_J20 (x0 : Nat) (x1 : Int32) (s0 : Nat) (s1 : Int32) (h : xH) : Option (Int32 × xH) :=
  (vc h 10 s0 (f_X10_bad s0 s1 (1 : Int32) (1 : Int32) h)).bind fun r1 =>
  if r1.1 = (0 : Int32) then
    (vc r1.2 10 x0 (f_X10_chooses x0 r1.2)).bind fun h2 =>
    if x1 = (0 : Int32) then
      (gI h2 10 x0 30).bind fun v4 =>
      f_X10_chosen_J49 v4 h2
    else
      (gI h2 10 x0 31).bind fun v3 =>
      f_X10_chosen_J49 v3 h2
  else
    some ((0 : Int32), r1.2)
theorem y_X10_chosen_J20 {g : xG} {h0 : xH} {cl : Bool} (x0 : Nat) (x1 : Int32) (s0 : Nat) (s1 : Int32) (h : xH) : Y g DX10_chosen h0 cl iI (f_X10_chosen_J20 x0 x1 s0 s1 h) 20 [some (.ref x0), some (.int x1)] [.int s1, .ref s0] h := by
  unfold f_X10_chosen_J20
  refine Y.op (pc' := 21) (fun _ => X.ic ki_1 dX10_chosen_20) ?_
  refine Y.op (pc' := 22) (fun _ => X.ic ki_1 dX10_chosen_21) ?_
  refine Y.callVi (As := [.int s1, .int (1 : Int32), .int (1 : Int32)]) lk_X10_217 rfl cal_X10_bad vir_X10_bad (Nat.le_of_ble_eq_true rfl) (Nat.le_of_ble_eq_true rfl) rfl rfl rfl (Nat.le_of_ble_eq_true rfl) dX10_chosen_22 (fun _ e => m_X10_bad s0 s1 (1 : Int32) (1 : Int32) h _ _ e) (fun r1 => ?_)
  refine Y.ifeq 30 (by decide) dX10_chosen_25 ?_ ?_
  · refine Y.op (pc' := 31) (fun _ => X.aloadn rfl dX10_chosen_30) ?_
    refine Y.callVv (As := []) lk_X10_336 rfl cal_X10_chooses vir_X10_chooses (Nat.le_of_ble_eq_true rfl) (Nat.le_of_ble_eq_true rfl) rfl rfl rfl (Nat.le_of_ble_eq_true rfl) dX10_chosen_31 (fun _ e => m_X10_chooses x0 r1.2 _ _ e) (fun h2 => ?_)
    refine Y.op (pc' := 35) (fun _ => X.iloadn rfl dX10_chosen_34) ?_
    refine Y.ifne 45 (by decide) dX10_chosen_35 ?_ ?_
    · refine Y.op (pc' := 46) (fun _ => X.aloadn rfl dX10_chosen_45) ?_
      refine Y.getI fd_X10_333 rfl dX10_chosen_46 (fun v3 => ?_)
      exact Y.fg (y_X10_chosen_J49 v3 h2) trivial
    · refine Y.op (pc' := 39) (fun _ => X.aloadn rfl dX10_chosen_38) ?_
      refine Y.getI fd_X10_330 rfl dX10_chosen_39 (fun v4 => ?_)
      refine Y.op (pc' := 49) (fun _ => X.goto 49 (by decide) dX10_chosen_42) ?_
      exact Y.fg (y_X10_chosen_J49 v4 h2) trivial
  · refine Y.op (pc' := 29) (fun _ => X.ic ki_0 dX10_chosen_28) ?_
    exact Y.ireturn rfl dX10_chosen_29
def f_X10_chosen (a0 : Nat) (p1 : Int32) (h : xH) : Option (Int32 × xH) :=
  (pI h 10 a0 0 (0 : Int32)).bind fun h1 =>
  (f_X10_in p1 (0 : Int32) (1 : Int32) h1).bind fun r2 =>
  if r2.1 = (0 : Int32) then
    f_X10_chosen_J20 a0 p1 a0 (1 : Int32) r2.2
  else
    f_X10_chosen_J20 a0 p1 a0 (0 : Int32) r2.2
theorem y_X10_chosen {g : xG} {h0 : xH} {cl : Bool} (a0 : Nat) (p1 : Int32) (h : xH) : Y g DX10_chosen h0 cl iI (f_X10_chosen a0 p1 h) 0 [some (.ref a0), some (.int p1)] [] h := by
  unfold f_X10_chosen
  refine Y.op (pc' := 1) (fun _ => X.aloadn rfl dX10_chosen_0) ?_
  refine Y.op (pc' := 2) (fun _ => X.ic ki_0 dX10_chosen_1) ?_
  refine Y.putI fd_X10_82 rfl dX10_chosen_2 (fun h1 => ?_)
  refine Y.op (pc' := 6) (fun _ => X.aloadn rfl dX10_chosen_5) ?_
  refine Y.op (pc' := 7) (fun _ => X.iloadn rfl dX10_chosen_6) ?_
  refine Y.op (pc' := 8) (fun _ => X.ic ki_0 dX10_chosen_7) ?_
  refine Y.op (pc' := 9) (fun _ => X.ic ki_1 dX10_chosen_8) ?_
  refine Y.callSi (As := [.int p1, .int (0 : Int32), .int (1 : Int32)]) lk_X10_127 rfl cal_X10_in sta_X10_in (Nat.le_of_ble_eq_true rfl) rfl rfl (Nat.le_of_ble_eq_true rfl) dX10_chosen_9 (fun _ e => m_X10_in p1 (0 : Int32) (1 : Int32) h1 _ _ e) (fun r2 => ?_)
  refine Y.ifne 19 (by decide) dX10_chosen_12 ?_ ?_
  · refine Y.op (pc' := 20) (fun _ => X.ic ki_0 dX10_chosen_19) ?_
    exact y_X10_chosen_J20 a0 p1 a0 (0 : Int32) r2.2
  · refine Y.op (pc' := 16) (fun _ => X.ic ki_1 dX10_chosen_15) ?_
    refine Y.op (pc' := 20) (fun _ => X.goto 20 (by decide) dX10_chosen_16) ?_
    exact y_X10_chosen_J20 a0 p1 a0 (1 : Int32) r2.2
theorem m_X10_chosen {g : xG} (a0 : Nat) (p1 : Int32) (h : xH) (cl : Bool) (r : Int32 × xH) (e : f_X10_chosen a0 p1 h = some r) : XM g DX10_chosen [.ref a0, .int p1] h cl (iI r) := YM.of rfl rfl (Nat.le_of_ble_eq_true rfl) (y_X10_chosen a0 p1 h) e
def f_X10_withRound_J48 (h : xH) : Option (Int32 × xH) :=
  some ((-1 : Int32), h)
theorem y_X10_withRound_J48 {g : xG} {h0 : xH} {cl : Bool} (h : xH) : Y g DX10_withRound h0 cl iI (f_X10_withRound_J48 h) 48 [none, none, none, none, none] [] h := by
  unfold f_X10_withRound_J48
  refine Y.op (pc' := 49) (fun _ => X.ic ki_m1 dX10_withRound_48) ?_
  exact Y.ireturn rfl dX10_withRound_49
def f_X10_withRound_J39 (x4 : Int32) (h : xH) : Option (Int32 × xH) :=
  some (x4, h)
theorem y_X10_withRound_J39 {g : xG} {h0 : xH} {cl : Bool} (x4 : Int32) (h : xH) : Y g DX10_withRound h0 cl iI (f_X10_withRound_J39 x4 h) 39 [none, none, none, none, some (.int x4)] [] h := by
  unfold f_X10_withRound_J39
  refine Y.op (pc' := 41) (fun _ => X.iload rfl dX10_withRound_39) ?_
  exact Y.ireturn rfl dX10_withRound_41
def f_X10_withRound_J35 (kH : Nat → Int32 → Int32 → Int32 → Int32 → xH → Option (Int32 × xH)) (kE39 : Int32 → xH → Option (Int32 × xH)) (kE48 : xH → Option (Int32 × xH)) (x0 : Nat) (x1 : Int32) (x2 : Int32) (x3 : Int32) (x4 : Int32) (s0 : Int32) (h : xH) : Option (Int32 × xH) :=
  if s0 = x3 then
    kE39 x4 h
  else
    lt (x4 + (1 : Int32)) fun v1 =>
    kH x0 x1 x2 x3 v1 h
theorem y_X10_withRound_J35 {g : xG} {h0 : xH} {cl : Bool} {kH : Nat → Int32 → Int32 → Int32 → Int32 → xH → Option (Int32 × xH)} {kE39 : Int32 → xH → Option (Int32 × xH)} {kE48 : xH → Option (Int32 × xH)} (hkH : ∀ (x0 : Nat) (x1 : Int32) (x2 : Int32) (x3 : Int32) (x4 : Int32) (h : xH), Y g DX10_withRound h0 cl iI (kH x0 x1 x2 x3 x4 h) 3 [some (.ref x0), some (.int x1), some (.int x2), some (.int x3), some (.int x4)] [] h) (hkE39 : ∀ (x4 : Int32) (h : xH), Y g DX10_withRound h0 cl iI (kE39 x4 h) 39 [none, none, none, none, some (.int x4)] [] h) (hkE48 : ∀  (h : xH), Y g DX10_withRound h0 cl iI (kE48  h) 48 [none, none, none, none, none] [] h) (x0 : Nat) (x1 : Int32) (x2 : Int32) (x3 : Int32) (x4 : Int32) (s0 : Int32) (h : xH) : Y g DX10_withRound h0 cl iI (f_X10_withRound_J35 kH kE39 kE48 x0 x1 x2 x3 x4 s0 h) 35 [some (.ref x0), some (.int x1), some (.int x2), some (.int x3), some (.int x4)] [.int s0] h := by
  unfold f_X10_withRound_J35
  refine Y.op (pc' := 36) (fun _ => X.iloadn rfl dX10_withRound_35) ?_
  refine Y.cmpne 42 (by decide) dX10_withRound_36 ?_ ?_
  · refine Y.iinc (i := 4) (loc' := fun v1 => [some (.ref x0), some (.int x1), some (.int x2), some (.int x3), some (.int v1)]) rfl (Nat.le_of_ble_eq_true rfl) ki_1 (fun _ => rfl) dX10_withRound_42 (fun v1 => ?_)
    refine Y.op (pc' := 3) (fun _ => X.goto 3 (by decide) dX10_withRound_45) ?_
    exact hkH x0 x1 x2 x3 v1 h
  · exact Y.fg (hkE39 x4 h) (And.intro rfl trivial)
def f_X10_withRound_L3 (kE39 : Int32 → xH → Option (Int32 × xH)) (kE48 : xH → Option (Int32 × xH)) : Nat → Nat → Int32 → Int32 → Int32 → Int32 → xH → Option (Int32 × xH)
  | 0 => fun _ _ _ _ _ _ => none
  | n + 1 => fun x0 x1 x2 x3 x4 h =>
    if x4 ≥ (12 : Int32) then
      kE48 h
    else
      if x1 = (0 : Int32) then
        (gR h 10 x0 32).bind fun v4 =>
        (aR 102 h v4 x2).bind fun v5 =>
        (aI h v5 x4).bind fun v6 =>
        f_X10_withRound_J35 (f_X10_withRound_L3 kE39 kE48 n) kE39 kE48 x0 x1 x2 x3 x4 v6 h
      else
        (gR h 10 x0 32).bind fun v1 =>
        (aR 102 h v1 x4).bind fun v2 =>
        (aI h v2 x2).bind fun v3 =>
        f_X10_withRound_J35 (f_X10_withRound_L3 kE39 kE48 n) kE39 kE48 x0 x1 x2 x3 x4 v3 h
theorem y_X10_withRound_L3 {g : xG} {h0 : xH} {cl : Bool} {kE39 : Int32 → xH → Option (Int32 × xH)} {kE48 : xH → Option (Int32 × xH)} (hkE39 : ∀ (x4 : Int32) (h : xH), Y g DX10_withRound h0 cl iI (kE39 x4 h) 39 [none, none, none, none, some (.int x4)] [] h) (hkE48 : ∀  (h : xH), Y g DX10_withRound h0 cl iI (kE48  h) 48 [none, none, none, none, none] [] h) : ∀ (n : Nat) (x0 : Nat) (x1 : Int32) (x2 : Int32) (x3 : Int32) (x4 : Int32) (h : xH), Y g DX10_withRound h0 cl iI (f_X10_withRound_L3 kE39 kE48 n x0 x1 x2 x3 x4 h) 3 [some (.ref x0), some (.int x1), some (.int x2), some (.int x3), some (.int x4)] [] h := by
  intro n
  induction n with
  | zero => intro x0 x1 x2 x3 x4 h; exact Y.nothing
  | succ n ih =>
    intro x0 x1 x2 x3 x4 h
    unfold f_X10_withRound_L3
    refine Y.op (pc' := 5) (fun _ => X.iload rfl dX10_withRound_3) ?_
    refine Y.op (pc' := 7) (fun _ => X.bp kb_12 dX10_withRound_5) ?_
    refine Y.cmpge 48 (by decide) dX10_withRound_7 ?_ ?_
    · exact Y.fg (hkE48 h) trivial
    · refine Y.op (pc' := 11) (fun _ => X.iloadn rfl dX10_withRound_10) ?_
      refine Y.ifne 26 (by decide) dX10_withRound_11 ?_ ?_
      · refine Y.op (pc' := 27) (fun _ => X.aloadn rfl dX10_withRound_26) ?_
        refine Y.getR fd_X10_54 rfl dX10_withRound_27 (fun v1 => ?_)
        refine Y.op (pc' := 32) (fun _ => X.iload rfl dX10_withRound_30) ?_
        refine Y.aldR 102 (by decide) (by decide) dX10_withRound_32 (fun v2 => ?_)
        refine Y.op (pc' := 34) (fun _ => X.iloadn rfl dX10_withRound_33) ?_
        refine Y.aldI dX10_withRound_34 (fun v3 => ?_)
        exact y_X10_withRound_J35 ih hkE39 hkE48 x0 x1 x2 x3 x4 v3 h
      · refine Y.op (pc' := 15) (fun _ => X.aloadn rfl dX10_withRound_14) ?_
        refine Y.getR fd_X10_54 rfl dX10_withRound_15 (fun v4 => ?_)
        refine Y.op (pc' := 19) (fun _ => X.iloadn rfl dX10_withRound_18) ?_
        refine Y.aldR 102 (by decide) (by decide) dX10_withRound_19 (fun v5 => ?_)
        refine Y.op (pc' := 22) (fun _ => X.iload rfl dX10_withRound_20) ?_
        refine Y.aldI dX10_withRound_22 (fun v6 => ?_)
        refine Y.op (pc' := 35) (fun _ => X.goto 35 (by decide) dX10_withRound_23) ?_
        exact y_X10_withRound_J35 ih hkE39 hkE48 x0 x1 x2 x3 x4 v6 h
def f_X10_withRound (a0 : Nat) (p1 : Int32) (p2 : Int32) (p3 : Int32) (h : xH) : Option (Int32 × xH) :=
  f_X10_withRound_L3 (f_X10_withRound_J39) (f_X10_withRound_J48) 5000 a0 p1 p2 p3 (0 : Int32) h
theorem y_X10_withRound {g : xG} {h0 : xH} {cl : Bool} (a0 : Nat) (p1 : Int32) (p2 : Int32) (p3 : Int32) (h : xH) : Y g DX10_withRound h0 cl iI (f_X10_withRound a0 p1 p2 p3 h) 0 [some (.ref a0), some (.int p1), some (.int p2), some (.int p3), none] [] h := by
  unfold f_X10_withRound
  refine Y.op (pc' := 1) (fun _ => X.ic ki_0 dX10_withRound_0) ?_
  refine Y.op (pc' := 3) (loc' := [some (.ref a0), some (.int p1), some (.int p2), some (.int p3), some (.int (0 : Int32))]) (fun _ => X.istore (Nat.le_of_ble_eq_true rfl) rfl dX10_withRound_1) ?_
  exact y_X10_withRound_L3 (y_X10_withRound_J39) (y_X10_withRound_J48) 5000 a0 p1 p2 p3 (0 : Int32) h
theorem m_X10_withRound {g : xG} (a0 : Nat) (p1 : Int32) (p2 : Int32) (p3 : Int32) (h : xH) (cl : Bool) (r : Int32 × xH) (e : f_X10_withRound a0 p1 p2 p3 h = some r) : XM g DX10_withRound [.ref a0, .int p1, .int p2, .int p3] h cl (iI r) := YM.of rfl rfl (Nat.le_of_ble_eq_true rfl) (y_X10_withRound a0 p1 p2 p3 h) e
def f_X10_leastRound_J19 (x3 : Int32) (h : xH) : Option (Int32 × xH) :=
  some (x3, h)
theorem y_X10_leastRound_J19 {g : xG} {h0 : xH} {cl : Bool} (x3 : Int32) (h : xH) : Y g DX10_leastRound h0 cl iI (f_X10_leastRound_J19 x3 h) 19 [none, none, none, some (.int x3)] [] h := by
  unfold f_X10_leastRound_J19
  refine Y.op (pc' := 20) (fun _ => X.iloadn rfl dX10_leastRound_19) ?_
  exact Y.ireturn rfl dX10_leastRound_20
def f_X10_leastRound_L2 (kE19 : Int32 → xH → Option (Int32 × xH)) : Nat → Nat → Int32 → Int32 → Int32 → xH → Option (Int32 × xH)
  | 0 => fun _ _ _ _ _ => none
  | n + 1 => fun x0 x1 x2 x3 h =>
    (vc h 10 x0 (f_X10_withRound x0 x1 x2 x3 h)).bind fun r1 =>
    if r1.1 = (-1 : Int32) then
      kE19 x3 r1.2
    else
      lt (x3 + (1 : Int32)) fun v2 =>
      f_X10_leastRound_L2 kE19 n x0 x1 x2 v2 r1.2
theorem y_X10_leastRound_L2 {g : xG} {h0 : xH} {cl : Bool} {kE19 : Int32 → xH → Option (Int32 × xH)} (hkE19 : ∀ (x3 : Int32) (h : xH), Y g DX10_leastRound h0 cl iI (kE19 x3 h) 19 [none, none, none, some (.int x3)] [] h) : ∀ (n : Nat) (x0 : Nat) (x1 : Int32) (x2 : Int32) (x3 : Int32) (h : xH), Y g DX10_leastRound h0 cl iI (f_X10_leastRound_L2 kE19 n x0 x1 x2 x3 h) 2 [some (.ref x0), some (.int x1), some (.int x2), some (.int x3)] [] h := by
  intro n
  induction n with
  | zero => intro x0 x1 x2 x3 h; exact Y.nothing
  | succ n ih =>
    intro x0 x1 x2 x3 h
    unfold f_X10_leastRound_L2
    refine Y.op (pc' := 3) (fun _ => X.aloadn rfl dX10_leastRound_2) ?_
    refine Y.op (pc' := 4) (fun _ => X.iloadn rfl dX10_leastRound_3) ?_
    refine Y.op (pc' := 5) (fun _ => X.iloadn rfl dX10_leastRound_4) ?_
    refine Y.op (pc' := 6) (fun _ => X.iloadn rfl dX10_leastRound_5) ?_
    refine Y.callVi (As := [.int x1, .int x2, .int x3]) lk_X10_339 rfl cal_X10_withRound vir_X10_withRound (Nat.le_of_ble_eq_true rfl) (Nat.le_of_ble_eq_true rfl) rfl rfl rfl (Nat.le_of_ble_eq_true rfl) dX10_leastRound_6 (fun _ e => m_X10_withRound x0 x1 x2 x3 h _ _ e) (fun r1 => ?_)
    refine Y.op (pc' := 10) (fun _ => X.ic ki_m1 dX10_leastRound_9) ?_
    refine Y.cmpeq 19 (by decide) dX10_leastRound_10 ?_ ?_
    · exact Y.fg (hkE19 x3 r1.2) (And.intro rfl trivial)
    · refine Y.iinc (i := 3) (loc' := fun v2 => [some (.ref x0), some (.int x1), some (.int x2), some (.int v2)]) rfl (Nat.le_of_ble_eq_true rfl) ki_1 (fun _ => rfl) dX10_leastRound_13 (fun v2 => ?_)
      refine Y.op (pc' := 2) (fun _ => X.goto 2 (by decide) dX10_leastRound_16) ?_
      exact ih x0 x1 x2 v2 r1.2
def f_X10_leastRound (a0 : Nat) (p1 : Int32) (p2 : Int32) (h : xH) : Option (Int32 × xH) :=
  f_X10_leastRound_L2 (f_X10_leastRound_J19) 5000 a0 p1 p2 (0 : Int32) h
theorem y_X10_leastRound {g : xG} {h0 : xH} {cl : Bool} (a0 : Nat) (p1 : Int32) (p2 : Int32) (h : xH) : Y g DX10_leastRound h0 cl iI (f_X10_leastRound a0 p1 p2 h) 0 [some (.ref a0), some (.int p1), some (.int p2), none] [] h := by
  unfold f_X10_leastRound
  refine Y.op (pc' := 1) (fun _ => X.ic ki_0 dX10_leastRound_0) ?_
  refine Y.op (pc' := 2) (loc' := [some (.ref a0), some (.int p1), some (.int p2), some (.int (0 : Int32))]) (fun _ => X.istoren (Nat.le_of_ble_eq_true rfl) rfl dX10_leastRound_1) ?_
  exact y_X10_leastRound_L2 (y_X10_leastRound_J19) 5000 a0 p1 p2 (0 : Int32) h
theorem m_X10_leastRound {g : xG} (a0 : Nat) (p1 : Int32) (p2 : Int32) (h : xH) (cl : Bool) (r : Int32 × xH) (e : f_X10_leastRound a0 p1 p2 h = some r) : XM g DX10_leastRound [.ref a0, .int p1, .int p2] h cl (iI r) := YM.of rfl rfl (Nat.le_of_ble_eq_true rfl) (y_X10_leastRound a0 p1 p2 h) e
def f_X10_changesFrom_J62 (rec : Nat → Int32 → Int32 → Int32 → Int32 → Int32 → xH → Option (xH)) (h : xH) : Option (xH) :=
  some h
theorem y_X10_changesFrom_J62 {g : xG} {l : Nat} {h0 : xH} {cl : Bool} {rec : Nat → Int32 → Int32 → Int32 → Int32 → Int32 → xH → Option (xH)} (hrec : ∀ (a0 : Nat) (p1 : Int32) (p2 : Int32) (p3 : Int32) (p4 : Int32) (p5 : Int32) (h : xH) (cl : Bool) (r : xH), rec a0 p1 p2 p3 p4 p5 h = some r → XM g (DX10_changesFrom (l + 1)) [.ref a0, .int p1, .int p2, .int p3, .int p4, .int p5] h cl (iV r)) (h : xH) : Y g (DX10_changesFrom (l + 1 + 1)) h0 cl iV (f_X10_changesFrom_J62 rec h) 62 [none, none, none, none, none, none, none] [] h := by
  unfold f_X10_changesFrom_J62
  exact Y.vreturn rfl dX10_changesFrom_62
def f_X10_changesFrom_J33 (rec : Nat → Int32 → Int32 → Int32 → Int32 → Int32 → xH → Option (xH)) (x0 : Nat) (x1 : Int32) (x2 : Int32) (x4 : Int32) (x5 : Int32) (h : xH) : Option (xH) :=
  if x1 = (0 : Int32) then
    (gR h 10 x0 32).bind fun v4 =>
    (aR 102 h v4 x2).bind fun v5 =>
    (sI h v5 x5 x4).bind fun h6 =>
    f_X10_changesFrom_J62 rec h6
  else
    (gR h 10 x0 32).bind fun v1 =>
    (aR 102 h v1 x5).bind fun v2 =>
    (sI h v2 x2 x4).bind fun h3 =>
    f_X10_changesFrom_J62 rec h3
theorem y_X10_changesFrom_J33 {g : xG} {l : Nat} {h0 : xH} {cl : Bool} {rec : Nat → Int32 → Int32 → Int32 → Int32 → Int32 → xH → Option (xH)} (hrec : ∀ (a0 : Nat) (p1 : Int32) (p2 : Int32) (p3 : Int32) (p4 : Int32) (p5 : Int32) (h : xH) (cl : Bool) (r : xH), rec a0 p1 p2 p3 p4 p5 h = some r → XM g (DX10_changesFrom (l + 1)) [.ref a0, .int p1, .int p2, .int p3, .int p4, .int p5] h cl (iV r)) (x0 : Nat) (x1 : Int32) (x2 : Int32) (x4 : Int32) (x5 : Int32) (h : xH) : Y g (DX10_changesFrom (l + 1 + 1)) h0 cl iV (f_X10_changesFrom_J33 rec x0 x1 x2 x4 x5 h) 33 [some (.ref x0), some (.int x1), some (.int x2), none, some (.int x4), some (.int x5), none] [] h := by
  unfold f_X10_changesFrom_J33
  refine Y.op (pc' := 34) (fun _ => X.iloadn rfl dX10_changesFrom_33) ?_
  refine Y.ifne 51 (by decide) dX10_changesFrom_34 ?_ ?_
  · refine Y.op (pc' := 52) (fun _ => X.aloadn rfl dX10_changesFrom_51) ?_
    refine Y.getR fd_X10_54 rfl dX10_changesFrom_52 (fun v1 => ?_)
    refine Y.op (pc' := 57) (fun _ => X.iload rfl dX10_changesFrom_55) ?_
    refine Y.aldR 102 (by decide) (by decide) dX10_changesFrom_57 (fun v2 => ?_)
    refine Y.op (pc' := 59) (fun _ => X.iloadn rfl dX10_changesFrom_58) ?_
    refine Y.op (pc' := 61) (fun _ => X.iload rfl dX10_changesFrom_59) ?_
    refine Y.astI dX10_changesFrom_61 (fun h3 => ?_)
    exact Y.fg (y_X10_changesFrom_J62 hrec h3) trivial
  · refine Y.op (pc' := 38) (fun _ => X.aloadn rfl dX10_changesFrom_37) ?_
    refine Y.getR fd_X10_54 rfl dX10_changesFrom_38 (fun v4 => ?_)
    refine Y.op (pc' := 42) (fun _ => X.iloadn rfl dX10_changesFrom_41) ?_
    refine Y.aldR 102 (by decide) (by decide) dX10_changesFrom_42 (fun v5 => ?_)
    refine Y.op (pc' := 45) (fun _ => X.iload rfl dX10_changesFrom_43) ?_
    refine Y.op (pc' := 47) (fun _ => X.iload rfl dX10_changesFrom_45) ?_
    refine Y.astI dX10_changesFrom_47 (fun h6 => ?_)
    refine Y.op (pc' := 62) (fun _ => X.goto 62 (by decide) dX10_changesFrom_48) ?_
    exact Y.fg (y_X10_changesFrom_J62 hrec h6) trivial
def f_X10_changesFrom_B (rec : Nat → Int32 → Int32 → Int32 → Int32 → Int32 → xH → Option (xH)) (a0 : Nat) (p1 : Int32) (p2 : Int32) (p3 : Int32) (p4 : Int32) (p5 : Int32) (h : xH) : Option (xH) :=
  (vc h 10 a0 (f_X10_withRound a0 ((1 : Int32) - p1) p5 p4 h)).bind fun r1 =>
  if r1.1 = (-1 : Int32) then
    f_X10_changesFrom_J33 rec a0 p1 p2 p4 p5 r1.2
  else
    (vc r1.2 10 a0 (rec a0 ((1 : Int32) - p1) p5 p4 p3 r1.1 r1.2)).bind fun h2 =>
    f_X10_changesFrom_J33 rec a0 p1 p2 p4 p5 h2
def f_X10_changesFrom : Nat → Nat → Int32 → Int32 → Int32 → Int32 → Int32 → xH → Option (xH)
  | 0 => fun _ _ _ _ _ _ _ => none
  | d + 1 => f_X10_changesFrom_B (f_X10_changesFrom d)
theorem y_X10_changesFrom {g : xG} {l : Nat} {h0 : xH} {cl : Bool} {rec : Nat → Int32 → Int32 → Int32 → Int32 → Int32 → xH → Option (xH)} (hrec : ∀ (a0 : Nat) (p1 : Int32) (p2 : Int32) (p3 : Int32) (p4 : Int32) (p5 : Int32) (h : xH) (cl : Bool) (r : xH), rec a0 p1 p2 p3 p4 p5 h = some r → XM g (DX10_changesFrom (l + 1)) [.ref a0, .int p1, .int p2, .int p3, .int p4, .int p5] h cl (iV r)) (a0 : Nat) (p1 : Int32) (p2 : Int32) (p3 : Int32) (p4 : Int32) (p5 : Int32) (h : xH) : Y g (DX10_changesFrom (l + 1 + 1)) h0 cl iV (f_X10_changesFrom_B rec a0 p1 p2 p3 p4 p5 h) 0 [some (.ref a0), some (.int p1), some (.int p2), some (.int p3), some (.int p4), some (.int p5), none] [] h := by
  unfold f_X10_changesFrom_B
  refine Y.op (pc' := 1) (fun _ => X.aloadn rfl dX10_changesFrom_0) ?_
  refine Y.op (pc' := 2) (fun _ => X.ic ki_1 dX10_changesFrom_1) ?_
  refine Y.op (pc' := 3) (fun _ => X.iloadn rfl dX10_changesFrom_2) ?_
  refine Y.op (pc' := 4) (fun _ => X.isub dX10_changesFrom_3) ?_
  refine Y.op (pc' := 6) (fun _ => X.iload rfl dX10_changesFrom_4) ?_
  refine Y.op (pc' := 8) (fun _ => X.iload rfl dX10_changesFrom_6) ?_
  refine Y.callVi (As := [.int ((1 : Int32) - p1), .int p5, .int p4]) lk_X10_339 rfl cal_X10_withRound vir_X10_withRound (by show 1 + 1 ≤ l + 1 + 1; omega) (Nat.le_of_ble_eq_true rfl) rfl rfl rfl (Nat.le_of_ble_eq_true rfl) dX10_changesFrom_8 (fun _ e => m_X10_withRound a0 ((1 : Int32) - p1) p5 p4 h _ _ e) (fun r1 => ?_)
  refine Y.op (pc' := 13) (loc' := [some (.ref a0), some (.int p1), some (.int p2), some (.int p3), some (.int p4), some (.int p5), some (.int r1.1)]) (fun _ => X.istore (Nat.le_of_ble_eq_true rfl) rfl dX10_changesFrom_11) ?_
  refine Y.op (pc' := 15) (fun _ => X.iload rfl dX10_changesFrom_13) ?_
  refine Y.op (pc' := 16) (fun _ => X.ic ki_m1 dX10_changesFrom_15) ?_
  refine Y.cmpeq 33 (by decide) dX10_changesFrom_16 ?_ ?_
  · exact Y.fg (y_X10_changesFrom_J33 hrec a0 p1 p2 p4 p5 r1.2) (And.intro rfl (And.intro rfl (And.intro rfl (And.intro rfl (And.intro rfl trivial)))))
  · refine Y.op (pc' := 20) (fun _ => X.aloadn rfl dX10_changesFrom_19) ?_
    refine Y.op (pc' := 21) (fun _ => X.ic ki_1 dX10_changesFrom_20) ?_
    refine Y.op (pc' := 22) (fun _ => X.iloadn rfl dX10_changesFrom_21) ?_
    refine Y.op (pc' := 23) (fun _ => X.isub dX10_changesFrom_22) ?_
    refine Y.op (pc' := 25) (fun _ => X.iload rfl dX10_changesFrom_23) ?_
    refine Y.op (pc' := 27) (fun _ => X.iload rfl dX10_changesFrom_25) ?_
    refine Y.op (pc' := 28) (fun _ => X.iloadn rfl dX10_changesFrom_27) ?_
    refine Y.op (pc' := 30) (fun _ => X.iload rfl dX10_changesFrom_28) ?_
    refine Y.callVv (As := [.int ((1 : Int32) - p1), .int p5, .int p4, .int p3, .int r1.1]) lk_X10_343 rfl (cal_X10_changesFrom _) (vir_X10_changesFrom _) (Nat.le_refl _) (Nat.le_of_ble_eq_true rfl) rfl rfl rfl (Nat.le_of_ble_eq_true rfl) dX10_changesFrom_30 (fun _ e => hrec a0 ((1 : Int32) - p1) p5 p4 p3 r1.1 r1.2 _ _ e) (fun h2 => ?_)
    exact Y.fg (y_X10_changesFrom_J33 hrec a0 p1 p2 p4 p5 h2) (And.intro rfl (And.intro rfl (And.intro rfl (And.intro rfl (And.intro rfl trivial)))))
theorem m_X10_changesFrom {g : xG} : ∀ (d : Nat) (a0 : Nat) (p1 : Int32) (p2 : Int32) (p3 : Int32) (p4 : Int32) (p5 : Int32) (h : xH) (cl : Bool) (r : xH), f_X10_changesFrom d a0 p1 p2 p3 p4 p5 h = some r → XM g (DX10_changesFrom (d + 1)) [.ref a0, .int p1, .int p2, .int p3, .int p4, .int p5] h cl (iV r) := by
  intro d
  induction d with
  | zero => intro a0 p1 p2 p3 p4 p5 h cl r e; cases e
  | succ d ih =>
    intro a0 p1 p2 p3 p4 p5 h cl r e
    have e : f_X10_changesFrom_B (f_X10_changesFrom d) a0 p1 p2 p3 p4 p5 h = some r := e
    rw [show d + 1 + 1 = d + 1 + 1 by omega]
    exact YM.of rfl rfl (Nat.le_of_ble_eq_true rfl) (y_X10_changesFrom (l := d) ih a0 p1 p2 p3 p4 p5 h) e
def f_X10_changes_J25 (h : xH) : Option (xH) :=
  some h
theorem y_X10_changes_J25 {g : xG} {h0 : xH} {cl : Bool} (h : xH) : Y g DX10_changes h0 cl iV (f_X10_changes_J25 h) 25 [none, none, none, none, none] [] h := by
  unfold f_X10_changes_J25
  exact Y.vreturn rfl dX10_changes_25
def f_X10_changes (a0 : Nat) (p1 : Int32) (p2 : Int32) (p3 : Int32) (h : xH) : Option (xH) :=
  (vc h 10 a0 (f_X10_withRound a0 (1 : Int32) p1 p2 h)).bind fun r1 =>
  if r1.1 = (-1 : Int32) then
    f_X10_changes_J25 r1.2
  else
    (vc r1.2 10 a0 (f_X10_changesFrom 40 a0 (1 : Int32) p1 p2 p3 r1.1 r1.2)).bind fun h2 =>
    f_X10_changes_J25 h2
theorem y_X10_changes {g : xG} {h0 : xH} {cl : Bool} (a0 : Nat) (p1 : Int32) (p2 : Int32) (p3 : Int32) (h : xH) : Y g DX10_changes h0 cl iV (f_X10_changes a0 p1 p2 p3 h) 0 [some (.ref a0), some (.int p1), some (.int p2), some (.int p3), none] [] h := by
  unfold f_X10_changes
  refine Y.op (pc' := 1) (fun _ => X.aloadn rfl dX10_changes_0) ?_
  refine Y.op (pc' := 2) (fun _ => X.ic ki_1 dX10_changes_1) ?_
  refine Y.op (pc' := 3) (fun _ => X.iloadn rfl dX10_changes_2) ?_
  refine Y.op (pc' := 4) (fun _ => X.iloadn rfl dX10_changes_3) ?_
  refine Y.callVi (As := [.int (1 : Int32), .int p1, .int p2]) lk_X10_339 rfl cal_X10_withRound vir_X10_withRound (Nat.le_of_ble_eq_true rfl) (Nat.le_of_ble_eq_true rfl) rfl rfl rfl (Nat.le_of_ble_eq_true rfl) dX10_changes_4 (fun _ e => m_X10_withRound a0 (1 : Int32) p1 p2 h _ _ e) (fun r1 => ?_)
  refine Y.op (pc' := 9) (loc' := [some (.ref a0), some (.int p1), some (.int p2), some (.int p3), some (.int r1.1)]) (fun _ => X.istore (Nat.le_of_ble_eq_true rfl) rfl dX10_changes_7) ?_
  refine Y.op (pc' := 11) (fun _ => X.iload rfl dX10_changes_9) ?_
  refine Y.op (pc' := 12) (fun _ => X.ic ki_m1 dX10_changes_11) ?_
  refine Y.cmpeq 25 (by decide) dX10_changes_12 ?_ ?_
  · exact Y.fg (y_X10_changes_J25 r1.2) trivial
  · refine Y.op (pc' := 16) (fun _ => X.aloadn rfl dX10_changes_15) ?_
    refine Y.op (pc' := 17) (fun _ => X.ic ki_1 dX10_changes_16) ?_
    refine Y.op (pc' := 18) (fun _ => X.iloadn rfl dX10_changes_17) ?_
    refine Y.op (pc' := 19) (fun _ => X.iloadn rfl dX10_changes_18) ?_
    refine Y.op (pc' := 20) (fun _ => X.iloadn rfl dX10_changes_19) ?_
    refine Y.op (pc' := 22) (fun _ => X.iload rfl dX10_changes_20) ?_
    refine Y.callVv (As := [.int (1 : Int32), .int p1, .int p2, .int p3, .int r1.1]) lk_X10_343 rfl (cal_X10_changesFrom _) (vir_X10_changesFrom _) (Nat.le_of_ble_eq_true rfl) (Nat.le_of_ble_eq_true rfl) rfl rfl rfl (Nat.le_of_ble_eq_true rfl) dX10_changes_22 (fun _ e => m_X10_changesFrom 40 a0 (1 : Int32) p1 p2 p3 r1.1 r1.2 _ _ e) (fun h2 => ?_)
    exact Y.fg (y_X10_changes_J25 h2) trivial
theorem m_X10_changes {g : xG} (a0 : Nat) (p1 : Int32) (p2 : Int32) (p3 : Int32) (h : xH) (cl : Bool) (r : xH) (e : f_X10_changes a0 p1 p2 p3 h = some r) : XM g DX10_changes [.ref a0, .int p1, .int p2, .int p3] h cl (iV r) := YM.of rfl rfl (Nat.le_of_ble_eq_true rfl) (y_X10_changes a0 p1 p2 p3 h) e
