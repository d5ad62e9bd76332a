def f_X10_reached_J283 (x2 : Nat) (h : xH) : Option (Option Nat × xH) :=
  some ((some x2), h)
theorem y_X10_reached_J283 {g : xG} {h0 : xH} (x2 : Nat) (h : xH) : Y g DX10_reached h0 false iN (f_X10_reached_J283 x2 h) 283 [none, none, some (.ref x2), none, none, none] [] h := by
  unfold f_X10_reached_J283
  refine Y.op (pc' := 284) (fun _ => X.aloadn rfl dX10_reached_283) ?_
  exact Y.areturnA rfl ⟨_, rfl⟩ dX10_reached_284
def f_X10_reached_J277 (kH : Nat → Nat → Nat → Int32 → xH → Option (Option Nat × xH)) (kE283 : Nat → xH → Option (Option Nat × xH)) (x0 : Nat) (x1 : Nat) (x2 : Nat) (x3 : Int32) (h : xH) : Option (Option Nat × xH) :=
  lt (x3 + (1 : Int32)) fun v1 =>
  kH x0 x1 x2 v1 h
theorem y_X10_reached_J277 {g : xG} {h0 : xH} {kH : Nat → Nat → Nat → Int32 → xH → Option (Option Nat × xH)} {kE283 : Nat → xH → Option (Option Nat × xH)} (hkH : ∀ (x0 : Nat) (x1 : Nat) (x2 : Nat) (x3 : Int32) (h : xH), Y g DX10_reached h0 false iN (kH x0 x1 x2 x3 h) 109 [some (.ref x0), some (.ref x1), some (.ref x2), some (.int x3), none, none] [] h) (hkE283 : ∀ (x2 : Nat) (h : xH), Y g DX10_reached h0 false iN (kE283 x2 h) 283 [none, none, some (.ref x2), none, none, none] [] h) (x0 : Nat) (x1 : Nat) (x2 : Nat) (x3 : Int32) (h : xH) : Y g DX10_reached h0 false iN (f_X10_reached_J277 kH kE283 x0 x1 x2 x3 h) 277 [some (.ref x0), some (.ref x1), some (.ref x2), some (.int x3), none, none] [] h := by
  unfold f_X10_reached_J277
  refine Y.iinc (i := 3) (loc' := fun v1 => [some (.ref x0), some (.ref x1), some (.ref x2), some (.int v1), none, none]) rfl (Nat.le_of_ble_eq_true rfl) ki_1 (fun _ => rfl) dX10_reached_277 (fun v1 => ?_)
  refine Y.op (pc' := 109) (fun _ => X.goto 109 (by decide) dX10_reached_280) ?_
  exact hkH x0 x1 x2 v1 h
def f_X10_reached_J271 (kH : Nat → Nat → Nat → Int32 → Int32 → xH → Option (Option Nat × xH)) (kE277 : Nat → Nat → Nat → Int32 → xH → Option (Option Nat × xH)) (x0 : Nat) (x1 : Nat) (x2 : Nat) (x3 : Int32) (x4 : Int32) (h : xH) : Option (Option Nat × xH) :=
  lt (x4 + (1 : Int32)) fun v1 =>
  kH x0 x1 x2 x3 v1 h
theorem y_X10_reached_J271 {g : xG} {h0 : xH} {kH : Nat → Nat → Nat → Int32 → Int32 → xH → Option (Option Nat × xH)} {kE277 : Nat → Nat → Nat → Int32 → xH → Option (Option Nat × xH)} (hkH : ∀ (x0 : Nat) (x1 : Nat) (x2 : Nat) (x3 : Int32) (x4 : Int32) (h : xH), Y g DX10_reached h0 false iN (kH x0 x1 x2 x3 x4 h) 127 [some (.ref x0), some (.ref x1), some (.ref x2), some (.int x3), some (.int x4), none] [] h) (hkE277 : ∀ (x0 : Nat) (x1 : Nat) (x2 : Nat) (x3 : Int32) (h : xH), Y g DX10_reached h0 false iN (kE277 x0 x1 x2 x3 h) 277 [some (.ref x0), some (.ref x1), some (.ref x2), some (.int x3), none, none] [] h) (x0 : Nat) (x1 : Nat) (x2 : Nat) (x3 : Int32) (x4 : Int32) (h : xH) : Y g DX10_reached h0 false iN (f_X10_reached_J271 kH kE277 x0 x1 x2 x3 x4 h) 271 [some (.ref x0), some (.ref x1), some (.ref x2), some (.int x3), some (.int x4), none] [] h := by
  unfold f_X10_reached_J271
  refine Y.iinc (i := 4) (loc' := fun v1 => [some (.ref x0), some (.ref x1), some (.ref x2), some (.int x3), some (.int v1), none]) rfl (Nat.le_of_ble_eq_true rfl) ki_1 (fun _ => rfl) dX10_reached_271 (fun v1 => ?_)
  refine Y.op (pc' := 127) (fun _ => X.goto 127 (by decide) dX10_reached_274) ?_
  exact hkH x0 x1 x2 x3 v1 h
def f_X10_reached_J265 (kH : Nat → Nat → Nat → Int32 → Int32 → Int32 → xH → Option (Option Nat × xH)) (kE271 : Nat → Nat → Nat → Int32 → Int32 → xH → Option (Option Nat × xH)) (x0 : Nat) (x1 : Nat) (x2 : Nat) (x3 : Int32) (x4 : Int32) (x5 : Int32) (h : xH) : Option (Option Nat × xH) :=
  lt (x5 + (1 : Int32)) fun v1 =>
  kH x0 x1 x2 x3 x4 v1 h
theorem y_X10_reached_J265 {g : xG} {h0 : xH} {kH : Nat → Nat → Nat → Int32 → Int32 → Int32 → xH → Option (Option Nat × xH)} {kE271 : Nat → Nat → Nat → Int32 → Int32 → xH → Option (Option Nat × xH)} (hkH : ∀ (x0 : Nat) (x1 : Nat) (x2 : Nat) (x3 : Int32) (x4 : Int32) (x5 : Int32) (h : xH), Y g DX10_reached h0 false iN (kH x0 x1 x2 x3 x4 x5 h) 139 [some (.ref x0), some (.ref x1), some (.ref x2), some (.int x3), some (.int x4), some (.int x5)] [] h) (hkE271 : ∀ (x0 : Nat) (x1 : Nat) (x2 : Nat) (x3 : Int32) (x4 : Int32) (h : xH), Y g DX10_reached h0 false iN (kE271 x0 x1 x2 x3 x4 h) 271 [some (.ref x0), some (.ref x1), some (.ref x2), some (.int x3), some (.int x4), none] [] h) (x0 : Nat) (x1 : Nat) (x2 : Nat) (x3 : Int32) (x4 : Int32) (x5 : Int32) (h : xH) : Y g DX10_reached h0 false iN (f_X10_reached_J265 kH kE271 x0 x1 x2 x3 x4 x5 h) 265 [some (.ref x0), some (.ref x1), some (.ref x2), some (.int x3), some (.int x4), some (.int x5)] [] h := by
  unfold f_X10_reached_J265
  refine Y.iinc (i := 5) (loc' := fun v1 => [some (.ref x0), some (.ref x1), some (.ref x2), some (.int x3), some (.int x4), some (.int v1)]) rfl (Nat.le_of_ble_eq_true rfl) ki_1 (fun _ => rfl) dX10_reached_265 (fun v1 => ?_)
  refine Y.op (pc' := 139) (fun _ => X.goto 139 (by decide) dX10_reached_268) ?_
  exact hkH x0 x1 x2 x3 x4 v1 h
def f_X10_reached_J243 (kH : Nat → Nat → Nat → Int32 → Int32 → Int32 → xH → Option (Option Nat × xH)) (kE271 : Nat → Nat → Nat → Int32 → Int32 → xH → Option (Option Nat × xH)) (x0 : Nat) (x1 : Nat) (x2 : Nat) (x3 : Int32) (x4 : Int32) (x5 : Int32) (h : xH) : Option (Option Nat × xH) :=
  (aI h x2 (2 : Int32)).bind fun v1 =>
  if ((v1 >>> (x4 &&& 31)) &&& (1 : Int32)) = (1 : Int32) then
    (aI h x2 (3 : Int32)).bind fun v2 =>
    (sI h x2 (3 : Int32) (v2 ||| ((1 : Int32) <<< (x5 &&& 31)))).bind fun h3 =>
    f_X10_reached_J265 (kH) kE271 x0 x1 x2 x3 x4 x5 h3
  else
    f_X10_reached_J265 (kH) kE271 x0 x1 x2 x3 x4 x5 h
theorem y_X10_reached_J243 {g : xG} {h0 : xH} {kH : Nat → Nat → Nat → Int32 → Int32 → Int32 → xH → Option (Option Nat × xH)} {kE271 : Nat → Nat → Nat → Int32 → Int32 → xH → Option (Option Nat × xH)} (hkH : ∀ (x0 : Nat) (x1 : Nat) (x2 : Nat) (x3 : Int32) (x4 : Int32) (x5 : Int32) (h : xH), Y g DX10_reached h0 false iN (kH x0 x1 x2 x3 x4 x5 h) 139 [some (.ref x0), some (.ref x1), some (.ref x2), some (.int x3), some (.int x4), some (.int x5)] [] h) (hkE271 : ∀ (x0 : Nat) (x1 : Nat) (x2 : Nat) (x3 : Int32) (x4 : Int32) (h : xH), Y g DX10_reached h0 false iN (kE271 x0 x1 x2 x3 x4 h) 271 [some (.ref x0), some (.ref x1), some (.ref x2), some (.int x3), some (.int x4), none] [] h) (x0 : Nat) (x1 : Nat) (x2 : Nat) (x3 : Int32) (x4 : Int32) (x5 : Int32) (h : xH) : Y g DX10_reached h0 false iN (f_X10_reached_J243 kH kE271 x0 x1 x2 x3 x4 x5 h) 243 [some (.ref x0), some (.ref x1), some (.ref x2), some (.int x3), some (.int x4), some (.int x5)] [] h := by
  unfold f_X10_reached_J243
  refine Y.op (pc' := 244) (fun _ => X.aloadn rfl dX10_reached_243) ?_
  refine Y.op (pc' := 245) (fun _ => X.ic ki_2 dX10_reached_244) ?_
  refine Y.aldI dX10_reached_245 (fun v1 => ?_)
  refine Y.op (pc' := 248) (fun _ => X.iload rfl dX10_reached_246) ?_
  refine Y.op (pc' := 249) (fun _ => X.ishr dX10_reached_248) ?_
  refine Y.op (pc' := 250) (fun _ => X.ic ki_1 dX10_reached_249) ?_
  refine Y.op (pc' := 251) (fun _ => X.iand dX10_reached_250) ?_
  refine Y.op (pc' := 252) (fun _ => X.ic ki_1 dX10_reached_251) ?_
  refine Y.cmpne 265 (by decide) dX10_reached_252 ?_ ?_
  · exact y_X10_reached_J265 hkH hkE271 x0 x1 x2 x3 x4 x5 h
  · refine Y.op (pc' := 256) (fun _ => X.aloadn rfl dX10_reached_255) ?_
    refine Y.op (pc' := 257) (fun _ => X.ic ki_3 dX10_reached_256) ?_
    refine Y.op (pc' := 258) (fun _ => X.dup2 rfl rfl dX10_reached_257) ?_
    refine Y.aldI dX10_reached_258 (fun v2 => ?_)
    refine Y.op (pc' := 260) (fun _ => X.ic ki_1 dX10_reached_259) ?_
    refine Y.op (pc' := 262) (fun _ => X.iload rfl dX10_reached_260) ?_
    refine Y.op (pc' := 263) (fun _ => X.ishl dX10_reached_262) ?_
    refine Y.op (pc' := 264) (fun _ => X.ior dX10_reached_263) ?_
    refine Y.astI dX10_reached_264 (fun h3 => ?_)
    exact y_X10_reached_J265 hkH hkE271 x0 x1 x2 x3 x4 x5 h3
def f_X10_reached_J206 (kH : Nat → Nat → Nat → Int32 → Int32 → Int32 → xH → Option (Option Nat × xH)) (kE271 : Nat → Nat → Nat → Int32 → Int32 → xH → Option (Option Nat × xH)) (x0 : Nat) (x1 : Nat) (x2 : Nat) (x3 : Int32) (x4 : Int32) (x5 : Int32) (h : xH) : Option (Option Nat × xH) :=
  (gR h 10 x1 6).bind fun v1 =>
  (aI h v1 x4).bind fun v2 =>
  if v2 = x5 then
    (aI h x2 (1 : Int32)).bind fun v3 =>
    if ((v3 >>> (x5 &&& 31)) &&& (1 : Int32)) = (1 : Int32) then
      (aI h x2 (0 : Int32)).bind fun v4 =>
      (sI h x2 (0 : Int32) (v4 ||| ((1 : Int32) <<< (x4 &&& 31)))).bind fun h5 =>
      f_X10_reached_J243 (kH) kE271 x0 x1 x2 x3 x4 x5 h5
    else
      f_X10_reached_J243 (kH) kE271 x0 x1 x2 x3 x4 x5 h
  else
    f_X10_reached_J265 (kH) kE271 x0 x1 x2 x3 x4 x5 h
theorem y_X10_reached_J206 {g : xG} {h0 : xH} {kH : Nat → Nat → Nat → Int32 → Int32 → Int32 → xH → Option (Option Nat × xH)} {kE271 : Nat → Nat → Nat → Int32 → Int32 → xH → Option (Option Nat × xH)} (hkH : ∀ (x0 : Nat) (x1 : Nat) (x2 : Nat) (x3 : Int32) (x4 : Int32) (x5 : Int32) (h : xH), Y g DX10_reached h0 false iN (kH x0 x1 x2 x3 x4 x5 h) 139 [some (.ref x0), some (.ref x1), some (.ref x2), some (.int x3), some (.int x4), some (.int x5)] [] h) (hkE271 : ∀ (x0 : Nat) (x1 : Nat) (x2 : Nat) (x3 : Int32) (x4 : Int32) (h : xH), Y g DX10_reached h0 false iN (kE271 x0 x1 x2 x3 x4 h) 271 [some (.ref x0), some (.ref x1), some (.ref x2), some (.int x3), some (.int x4), none] [] h) (x0 : Nat) (x1 : Nat) (x2 : Nat) (x3 : Int32) (x4 : Int32) (x5 : Int32) (h : xH) : Y g DX10_reached h0 false iN (f_X10_reached_J206 kH kE271 x0 x1 x2 x3 x4 x5 h) 206 [some (.ref x0), some (.ref x1), some (.ref x2), some (.int x3), some (.int x4), some (.int x5)] [] h := by
  unfold f_X10_reached_J206
  refine Y.op (pc' := 207) (fun _ => X.aloadn rfl dX10_reached_206) ?_
  refine Y.getR fd_X10_31 rfl dX10_reached_207 (fun v1 => ?_)
  refine Y.op (pc' := 212) (fun _ => X.iload rfl dX10_reached_210) ?_
  refine Y.aldI dX10_reached_212 (fun v2 => ?_)
  refine Y.op (pc' := 215) (fun _ => X.iload rfl dX10_reached_213) ?_
  refine Y.cmpeq 221 (by decide) dX10_reached_215 ?_ ?_
  · refine Y.op (pc' := 222) (fun _ => X.aloadn rfl dX10_reached_221) ?_
    refine Y.op (pc' := 223) (fun _ => X.ic ki_1 dX10_reached_222) ?_
    refine Y.aldI dX10_reached_223 (fun v3 => ?_)
    refine Y.op (pc' := 226) (fun _ => X.iload rfl dX10_reached_224) ?_
    refine Y.op (pc' := 227) (fun _ => X.ishr dX10_reached_226) ?_
    refine Y.op (pc' := 228) (fun _ => X.ic ki_1 dX10_reached_227) ?_
    refine Y.op (pc' := 229) (fun _ => X.iand dX10_reached_228) ?_
    refine Y.op (pc' := 230) (fun _ => X.ic ki_1 dX10_reached_229) ?_
    refine Y.cmpne 243 (by decide) dX10_reached_230 ?_ ?_
    · exact y_X10_reached_J243 hkH hkE271 x0 x1 x2 x3 x4 x5 h
    · refine Y.op (pc' := 234) (fun _ => X.aloadn rfl dX10_reached_233) ?_
      refine Y.op (pc' := 235) (fun _ => X.ic ki_0 dX10_reached_234) ?_
      refine Y.op (pc' := 236) (fun _ => X.dup2 rfl rfl dX10_reached_235) ?_
      refine Y.aldI dX10_reached_236 (fun v4 => ?_)
      refine Y.op (pc' := 238) (fun _ => X.ic ki_1 dX10_reached_237) ?_
      refine Y.op (pc' := 240) (fun _ => X.iload rfl dX10_reached_238) ?_
      refine Y.op (pc' := 241) (fun _ => X.ishl dX10_reached_240) ?_
      refine Y.op (pc' := 242) (fun _ => X.ior dX10_reached_241) ?_
      refine Y.astI dX10_reached_242 (fun h5 => ?_)
      exact y_X10_reached_J243 hkH hkE271 x0 x1 x2 x3 x4 x5 h5
  · refine Y.op (pc' := 265) (fun _ => X.goto 265 (by decide) dX10_reached_218) ?_
    exact y_X10_reached_J265 hkH hkE271 x0 x1 x2 x3 x4 x5 h
def f_X10_reached_J184 (kH : Nat → Nat → Nat → Int32 → Int32 → Int32 → xH → Option (Option Nat × xH)) (kE271 : Nat → Nat → Nat → Int32 → Int32 → xH → Option (Option Nat × xH)) (x0 : Nat) (x1 : Nat) (x2 : Nat) (x3 : Int32) (x4 : Int32) (x5 : Int32) (h : xH) : Option (Option Nat × xH) :=
  (aI h x2 (3 : Int32)).bind fun v1 =>
  if ((v1 >>> (x5 &&& 31)) &&& (1 : Int32)) = (1 : Int32) then
    (aI h x2 (2 : Int32)).bind fun v2 =>
    (sI h x2 (2 : Int32) (v2 ||| ((1 : Int32) <<< (x4 &&& 31)))).bind fun h3 =>
    f_X10_reached_J206 (kH) kE271 x0 x1 x2 x3 x4 x5 h3
  else
    f_X10_reached_J206 (kH) kE271 x0 x1 x2 x3 x4 x5 h
theorem y_X10_reached_J184 {g : xG} {h0 : xH} {kH : Nat → Nat → Nat → Int32 → Int32 → Int32 → xH → Option (Option Nat × xH)} {kE271 : Nat → Nat → Nat → Int32 → Int32 → xH → Option (Option Nat × xH)} (hkH : ∀ (x0 : Nat) (x1 : Nat) (x2 : Nat) (x3 : Int32) (x4 : Int32) (x5 : Int32) (h : xH), Y g DX10_reached h0 false iN (kH x0 x1 x2 x3 x4 x5 h) 139 [some (.ref x0), some (.ref x1), some (.ref x2), some (.int x3), some (.int x4), some (.int x5)] [] h) (hkE271 : ∀ (x0 : Nat) (x1 : Nat) (x2 : Nat) (x3 : Int32) (x4 : Int32) (h : xH), Y g DX10_reached h0 false iN (kE271 x0 x1 x2 x3 x4 h) 271 [some (.ref x0), some (.ref x1), some (.ref x2), some (.int x3), some (.int x4), none] [] h) (x0 : Nat) (x1 : Nat) (x2 : Nat) (x3 : Int32) (x4 : Int32) (x5 : Int32) (h : xH) : Y g DX10_reached h0 false iN (f_X10_reached_J184 kH kE271 x0 x1 x2 x3 x4 x5 h) 184 [some (.ref x0), some (.ref x1), some (.ref x2), some (.int x3), some (.int x4), some (.int x5)] [] h := by
  unfold f_X10_reached_J184
  refine Y.op (pc' := 185) (fun _ => X.aloadn rfl dX10_reached_184) ?_
  refine Y.op (pc' := 186) (fun _ => X.ic ki_3 dX10_reached_185) ?_
  refine Y.aldI dX10_reached_186 (fun v1 => ?_)
  refine Y.op (pc' := 189) (fun _ => X.iload rfl dX10_reached_187) ?_
  refine Y.op (pc' := 190) (fun _ => X.ishr dX10_reached_189) ?_
  refine Y.op (pc' := 191) (fun _ => X.ic ki_1 dX10_reached_190) ?_
  refine Y.op (pc' := 192) (fun _ => X.iand dX10_reached_191) ?_
  refine Y.op (pc' := 193) (fun _ => X.ic ki_1 dX10_reached_192) ?_
  refine Y.cmpne 206 (by decide) dX10_reached_193 ?_ ?_
  · exact y_X10_reached_J206 hkH hkE271 x0 x1 x2 x3 x4 x5 h
  · refine Y.op (pc' := 197) (fun _ => X.aloadn rfl dX10_reached_196) ?_
    refine Y.op (pc' := 198) (fun _ => X.ic ki_2 dX10_reached_197) ?_
    refine Y.op (pc' := 199) (fun _ => X.dup2 rfl rfl dX10_reached_198) ?_
    refine Y.aldI dX10_reached_199 (fun v2 => ?_)
    refine Y.op (pc' := 201) (fun _ => X.ic ki_1 dX10_reached_200) ?_
    refine Y.op (pc' := 203) (fun _ => X.iload rfl dX10_reached_201) ?_
    refine Y.op (pc' := 204) (fun _ => X.ishl dX10_reached_203) ?_
    refine Y.op (pc' := 205) (fun _ => X.ior dX10_reached_204) ?_
    refine Y.astI dX10_reached_205 (fun h3 => ?_)
    exact y_X10_reached_J206 hkH hkE271 x0 x1 x2 x3 x4 x5 h3
def f_X10_reached_L139 (kE271 : Nat → Nat → Nat → Int32 → Int32 → xH → Option (Option Nat × xH)) : Nat → Nat → Nat → Nat → Int32 → Int32 → Int32 → xH → Option (Option Nat × xH)
  | 0 => fun _ _ _ _ _ _ _ => none
  | n + 1 => fun x0 x1 x2 x3 x4 x5 h =>
    (gI h 10 x0 1).bind fun v1 =>
    if x5 ≥ v1 then
      kE271 x0 x1 x2 x3 x4 h
    else
      (vc h 10 x0 (f_X10_can x0 x4 x5 h)).bind fun r2 =>
      if r2.1 = (0 : Int32) then
        f_X10_reached_J265 (f_X10_reached_L139 kE271 n) kE271 x0 x1 x2 x3 x4 x5 r2.2
      else
        (aI r2.2 x2 (0 : Int32)).bind fun v3 =>
        if ((v3 >>> (x4 &&& 31)) &&& (1 : Int32)) = (1 : Int32) then
          (aI r2.2 x2 (1 : Int32)).bind fun v4 =>
          (sI r2.2 x2 (1 : Int32) (v4 ||| ((1 : Int32) <<< (x5 &&& 31)))).bind fun h5 =>
          f_X10_reached_J184 (f_X10_reached_L139 kE271 n) kE271 x0 x1 x2 x3 x4 x5 h5
        else
          f_X10_reached_J184 (f_X10_reached_L139 kE271 n) kE271 x0 x1 x2 x3 x4 x5 r2.2
theorem y_X10_reached_L139 {g : xG} {h0 : xH} {kE271 : Nat → Nat → Nat → Int32 → Int32 → xH → Option (Option Nat × xH)} (hkE271 : ∀ (x0 : Nat) (x1 : Nat) (x2 : Nat) (x3 : Int32) (x4 : Int32) (h : xH), Y g DX10_reached h0 false iN (kE271 x0 x1 x2 x3 x4 h) 271 [some (.ref x0), some (.ref x1), some (.ref x2), some (.int x3), some (.int x4), none] [] h) : ∀ (n : Nat) (x0 : Nat) (x1 : Nat) (x2 : Nat) (x3 : Int32) (x4 : Int32) (x5 : Int32) (h : xH), Y g DX10_reached h0 false iN (f_X10_reached_L139 kE271 n x0 x1 x2 x3 x4 x5 h) 139 [some (.ref x0), some (.ref x1), some (.ref x2), some (.int x3), some (.int x4), some (.int x5)] [] h := by
  intro n
  induction n with
  | zero => intro x0 x1 x2 x3 x4 x5 h; exact Y.nothing
  | succ n ih =>
    intro x0 x1 x2 x3 x4 x5 h
    unfold f_X10_reached_L139
    refine Y.op (pc' := 141) (fun _ => X.iload rfl dX10_reached_139) ?_
    refine Y.op (pc' := 142) (fun _ => X.aloadn rfl dX10_reached_141) ?_
    refine Y.getI fd_X10_13 rfl dX10_reached_142 (fun v1 => ?_)
    refine Y.cmpge 271 (by decide) dX10_reached_145 ?_ ?_
    · exact Y.fg (hkE271 x0 x1 x2 x3 x4 h) (And.intro rfl (And.intro rfl (And.intro rfl (And.intro rfl (And.intro rfl trivial)))))
    · refine Y.op (pc' := 149) (fun _ => X.aloadn rfl dX10_reached_148) ?_
      refine Y.op (pc' := 151) (fun _ => X.iload rfl dX10_reached_149) ?_
      refine Y.op (pc' := 153) (fun _ => X.iload rfl dX10_reached_151) ?_
      refine Y.callVi (As := [.int x4, .int x5]) lk_X10_48 rfl cal_X10_can vir_X10_can (Nat.le_of_ble_eq_true rfl) (Nat.le_of_ble_eq_true rfl) rfl rfl rfl (Nat.le_of_ble_eq_true rfl) dX10_reached_153 (fun _ e => m_X10_can x0 x4 x5 h _ e) (fun r2 => ?_)
      refine Y.ifne 162 (by decide) dX10_reached_156 ?_ ?_
      · refine Y.op (pc' := 163) (fun _ => X.aloadn rfl dX10_reached_162) ?_
        refine Y.op (pc' := 164) (fun _ => X.ic ki_0 dX10_reached_163) ?_
        refine Y.aldI dX10_reached_164 (fun v3 => ?_)
        refine Y.op (pc' := 167) (fun _ => X.iload rfl dX10_reached_165) ?_
        refine Y.op (pc' := 168) (fun _ => X.ishr dX10_reached_167) ?_
        refine Y.op (pc' := 169) (fun _ => X.ic ki_1 dX10_reached_168) ?_
        refine Y.op (pc' := 170) (fun _ => X.iand dX10_reached_169) ?_
        refine Y.op (pc' := 171) (fun _ => X.ic ki_1 dX10_reached_170) ?_
        refine Y.cmpne 184 (by decide) dX10_reached_171 ?_ ?_
        · exact y_X10_reached_J184 ih hkE271 x0 x1 x2 x3 x4 x5 r2.2
        · refine Y.op (pc' := 175) (fun _ => X.aloadn rfl dX10_reached_174) ?_
          refine Y.op (pc' := 176) (fun _ => X.ic ki_1 dX10_reached_175) ?_
          refine Y.op (pc' := 177) (fun _ => X.dup2 rfl rfl dX10_reached_176) ?_
          refine Y.aldI dX10_reached_177 (fun v4 => ?_)
          refine Y.op (pc' := 179) (fun _ => X.ic ki_1 dX10_reached_178) ?_
          refine Y.op (pc' := 181) (fun _ => X.iload rfl dX10_reached_179) ?_
          refine Y.op (pc' := 182) (fun _ => X.ishl dX10_reached_181) ?_
          refine Y.op (pc' := 183) (fun _ => X.ior dX10_reached_182) ?_
          refine Y.astI dX10_reached_183 (fun h5 => ?_)
          exact y_X10_reached_J184 ih hkE271 x0 x1 x2 x3 x4 x5 h5
      · refine Y.op (pc' := 265) (fun _ => X.goto 265 (by decide) dX10_reached_159) ?_
        exact y_X10_reached_J265 ih hkE271 x0 x1 x2 x3 x4 x5 r2.2
def f_X10_reached_L127 (kE277 : Nat → Nat → Nat → Int32 → xH → Option (Option Nat × xH)) : Nat → Nat → Nat → Nat → Int32 → Int32 → xH → Option (Option Nat × xH)
  | 0 => fun _ _ _ _ _ _ => none
  | n + 1 => fun x0 x1 x2 x3 x4 h =>
    (gI h 10 x0 0).bind fun v1 =>
    if x4 ≥ v1 then
      kE277 x0 x1 x2 x3 h
    else
      f_X10_reached_L139 (f_X10_reached_J271 (f_X10_reached_L127 kE277 n) kE277) 5000 x0 x1 x2 x3 x4 (0 : Int32) h
theorem y_X10_reached_L127 {g : xG} {h0 : xH} {kE277 : Nat → Nat → Nat → Int32 → xH → Option (Option Nat × xH)} (hkE277 : ∀ (x0 : Nat) (x1 : Nat) (x2 : Nat) (x3 : Int32) (h : xH), Y g DX10_reached h0 false iN (kE277 x0 x1 x2 x3 h) 277 [some (.ref x0), some (.ref x1), some (.ref x2), some (.int x3), none, none] [] h) : ∀ (n : Nat) (x0 : Nat) (x1 : Nat) (x2 : Nat) (x3 : Int32) (x4 : Int32) (h : xH), Y g DX10_reached h0 false iN (f_X10_reached_L127 kE277 n x0 x1 x2 x3 x4 h) 127 [some (.ref x0), some (.ref x1), some (.ref x2), some (.int x3), some (.int x4), none] [] h := by
  intro n
  induction n with
  | zero => intro x0 x1 x2 x3 x4 h; exact Y.nothing
  | succ n ih =>
    intro x0 x1 x2 x3 x4 h
    unfold f_X10_reached_L127
    refine Y.op (pc' := 129) (fun _ => X.iload rfl dX10_reached_127) ?_
    refine Y.op (pc' := 130) (fun _ => X.aloadn rfl dX10_reached_129) ?_
    refine Y.getI fd_X10_7 rfl dX10_reached_130 (fun v1 => ?_)
    refine Y.cmpge 277 (by decide) dX10_reached_133 ?_ ?_
    · exact Y.fg (hkE277 x0 x1 x2 x3 h) (And.intro rfl (And.intro rfl (And.intro rfl (And.intro rfl trivial))))
    · refine Y.op (pc' := 137) (fun _ => X.ic ki_0 dX10_reached_136) ?_
      refine Y.op (pc' := 139) (loc' := [some (.ref x0), some (.ref x1), some (.ref x2), some (.int x3), some (.int x4), some (.int (0 : Int32))]) (fun _ => X.istore (Nat.le_of_ble_eq_true rfl) rfl dX10_reached_137) ?_
      exact y_X10_reached_L139 (y_X10_reached_J271 ih hkE277) 5000 x0 x1 x2 x3 x4 (0 : Int32) h
def f_X10_reached_L109 (kE283 : Nat → xH → Option (Option Nat × xH)) : Nat → Nat → Nat → Nat → Int32 → xH → Option (Option Nat × xH)
  | 0 => fun _ _ _ _ _ => none
  | n + 1 => fun x0 x1 x2 x3 h =>
    (gI h 10 x0 0).bind fun v1 =>
    (gI h 10 x0 1).bind fun v2 =>
    if x3 ≥ ((2 : Int32) * (v1 + v2)) then
      kE283 x2 h
    else
      f_X10_reached_L127 (f_X10_reached_J277 (f_X10_reached_L109 kE283 n) kE283) 5000 x0 x1 x2 x3 (0 : Int32) h
theorem y_X10_reached_L109 {g : xG} {h0 : xH} {kE283 : Nat → xH → Option (Option Nat × xH)} (hkE283 : ∀ (x2 : Nat) (h : xH), Y g DX10_reached h0 false iN (kE283 x2 h) 283 [none, none, some (.ref x2), none, none, none] [] h) : ∀ (n : Nat) (x0 : Nat) (x1 : Nat) (x2 : Nat) (x3 : Int32) (h : xH), Y g DX10_reached h0 false iN (f_X10_reached_L109 kE283 n x0 x1 x2 x3 h) 109 [some (.ref x0), some (.ref x1), some (.ref x2), some (.int x3), none, none] [] h := by
  intro n
  induction n with
  | zero => intro x0 x1 x2 x3 h; exact Y.nothing
  | succ n ih =>
    intro x0 x1 x2 x3 h
    unfold f_X10_reached_L109
    refine Y.op (pc' := 110) (fun _ => X.iloadn rfl dX10_reached_109) ?_
    refine Y.op (pc' := 111) (fun _ => X.ic ki_2 dX10_reached_110) ?_
    refine Y.op (pc' := 112) (fun _ => X.aloadn rfl dX10_reached_111) ?_
    refine Y.getI fd_X10_7 rfl dX10_reached_112 (fun v1 => ?_)
    refine Y.op (pc' := 116) (fun _ => X.aloadn rfl dX10_reached_115) ?_
    refine Y.getI fd_X10_13 rfl dX10_reached_116 (fun v2 => ?_)
    refine Y.op (pc' := 120) (fun _ => X.iadd dX10_reached_119) ?_
    refine Y.op (pc' := 121) (fun _ => X.imul dX10_reached_120) ?_
    refine Y.cmpge 283 (by decide) dX10_reached_121 ?_ ?_
    · exact Y.fg (hkE283 x2 h) (And.intro rfl trivial)
    · refine Y.op (pc' := 125) (fun _ => X.ic ki_0 dX10_reached_124) ?_
      refine Y.op (pc' := 127) (loc' := [some (.ref x0), some (.ref x1), some (.ref x2), some (.int x3), some (.int (0 : Int32)), none]) (fun _ => X.istore (Nat.le_of_ble_eq_true rfl) rfl dX10_reached_125) ?_
      exact y_X10_reached_L127 (y_X10_reached_J277 ih hkE283) 5000 x0 x1 x2 x3 (0 : Int32) h
def f_X10_reached_J107 (x0 : Nat) (x1 : Nat) (x2 : Nat) (h : xH) : Option (Option Nat × xH) :=
  f_X10_reached_L109 (f_X10_reached_J283) 5000 x0 x1 x2 (0 : Int32) h
theorem y_X10_reached_J107 {g : xG} {h0 : xH} (x0 : Nat) (x1 : Nat) (x2 : Nat) (h : xH) : Y g DX10_reached h0 false iN (f_X10_reached_J107 x0 x1 x2 h) 107 [some (.ref x0), some (.ref x1), some (.ref x2), none, none, none] [] h := by
  unfold f_X10_reached_J107
  refine Y.op (pc' := 108) (fun _ => X.ic ki_0 dX10_reached_107) ?_
  refine Y.op (pc' := 109) (loc' := [some (.ref x0), some (.ref x1), some (.ref x2), some (.int (0 : Int32)), none, none]) (fun _ => X.istoren (Nat.le_of_ble_eq_true rfl) rfl dX10_reached_108) ?_
  exact y_X10_reached_L109 (y_X10_reached_J283) 5000 x0 x1 x2 (0 : Int32) h
def f_X10_reached_J101 (kH : Nat → Nat → Nat → Int32 → xH → Option (Option Nat × xH)) (kE107 : Nat → Nat → Nat → xH → Option (Option Nat × xH)) (x0 : Nat) (x1 : Nat) (x2 : Nat) (x3 : Int32) (h : xH) : Option (Option Nat × xH) :=
  lt (x3 + (1 : Int32)) fun v1 =>
  kH x0 x1 x2 v1 h
theorem y_X10_reached_J101 {g : xG} {h0 : xH} {kH : Nat → Nat → Nat → Int32 → xH → Option (Option Nat × xH)} {kE107 : Nat → Nat → Nat → xH → Option (Option Nat × xH)} (hkH : ∀ (x0 : Nat) (x1 : Nat) (x2 : Nat) (x3 : Int32) (h : xH), Y g DX10_reached h0 false iN (kH x0 x1 x2 x3 h) 64 [some (.ref x0), some (.ref x1), some (.ref x2), some (.int x3), none, none] [] h) (hkE107 : ∀ (x0 : Nat) (x1 : Nat) (x2 : Nat) (h : xH), Y g DX10_reached h0 false iN (kE107 x0 x1 x2 h) 107 [some (.ref x0), some (.ref x1), some (.ref x2), none, none, none] [] h) (x0 : Nat) (x1 : Nat) (x2 : Nat) (x3 : Int32) (h : xH) : Y g DX10_reached h0 false iN (f_X10_reached_J101 kH kE107 x0 x1 x2 x3 h) 101 [some (.ref x0), some (.ref x1), some (.ref x2), some (.int x3), none, none] [] h := by
  unfold f_X10_reached_J101
  refine Y.iinc (i := 3) (loc' := fun v1 => [some (.ref x0), some (.ref x1), some (.ref x2), some (.int v1), none, none]) rfl (Nat.le_of_ble_eq_true rfl) ki_1 (fun _ => rfl) dX10_reached_101 (fun v1 => ?_)
  refine Y.op (pc' := 64) (fun _ => X.goto 64 (by decide) dX10_reached_104) ?_
  exact hkH x0 x1 x2 v1 h
def f_X10_reached_L64 (kE107 : Nat → Nat → Nat → xH → Option (Option Nat × xH)) : Nat → Nat → Nat → Nat → Int32 → xH → Option (Option Nat × xH)
  | 0 => fun _ _ _ _ _ => none
  | n + 1 => fun x0 x1 x2 x3 h =>
    (gI h 10 x0 1).bind fun v1 =>
    if x3 ≥ v1 then
      kE107 x0 x1 x2 h
    else
      (gI h 10 x0 4).bind fun v2 =>
      if ((v2 >>> (x3 &&& 31)) &&& (1 : Int32)) = (1 : Int32) then
        (vc h 10 x1 (f_X10_owner x1 x3 h)).bind fun r3 =>
        if r3.1 ≥ (0 : Int32) then
          f_X10_reached_J101 (f_X10_reached_L64 kE107 n) kE107 x0 x1 x2 x3 r3.2
        else
          (aI r3.2 x2 (3 : Int32)).bind fun v4 =>
          (sI r3.2 x2 (3 : Int32) (v4 ||| ((1 : Int32) <<< (x3 &&& 31)))).bind fun h5 =>
          f_X10_reached_J101 (f_X10_reached_L64 kE107 n) kE107 x0 x1 x2 x3 h5
      else
        f_X10_reached_J101 (f_X10_reached_L64 kE107 n) kE107 x0 x1 x2 x3 h
theorem y_X10_reached_L64 {g : xG} {h0 : xH} {kE107 : Nat → Nat → Nat → xH → Option (Option Nat × xH)} (hkE107 : ∀ (x0 : Nat) (x1 : Nat) (x2 : Nat) (h : xH), Y g DX10_reached h0 false iN (kE107 x0 x1 x2 h) 107 [some (.ref x0), some (.ref x1), some (.ref x2), none, none, none] [] h) : ∀ (n : Nat) (x0 : Nat) (x1 : Nat) (x2 : Nat) (x3 : Int32) (h : xH), Y g DX10_reached h0 false iN (f_X10_reached_L64 kE107 n x0 x1 x2 x3 h) 64 [some (.ref x0), some (.ref x1), some (.ref x2), some (.int x3), none, none] [] h := by
  intro n
  induction n with
  | zero => intro x0 x1 x2 x3 h; exact Y.nothing
  | succ n ih =>
    intro x0 x1 x2 x3 h
    unfold f_X10_reached_L64
    refine Y.op (pc' := 65) (fun _ => X.iloadn rfl dX10_reached_64) ?_
    refine Y.op (pc' := 66) (fun _ => X.aloadn rfl dX10_reached_65) ?_
    refine Y.getI fd_X10_13 rfl dX10_reached_66 (fun v1 => ?_)
    refine Y.cmpge 107 (by decide) dX10_reached_69 ?_ ?_
    · exact Y.fg (hkE107 x0 x1 x2 h) (And.intro rfl (And.intro rfl (And.intro rfl trivial)))
    · refine Y.op (pc' := 73) (fun _ => X.aloadn rfl dX10_reached_72) ?_
      refine Y.getI fd_X10_23 rfl dX10_reached_73 (fun v2 => ?_)
      refine Y.op (pc' := 77) (fun _ => X.iloadn rfl dX10_reached_76) ?_
      refine Y.op (pc' := 78) (fun _ => X.ishr dX10_reached_77) ?_
      refine Y.op (pc' := 79) (fun _ => X.ic ki_1 dX10_reached_78) ?_
      refine Y.op (pc' := 80) (fun _ => X.iand dX10_reached_79) ?_
      refine Y.op (pc' := 81) (fun _ => X.ic ki_1 dX10_reached_80) ?_
      refine Y.cmpne 101 (by decide) dX10_reached_81 ?_ ?_
      · exact y_X10_reached_J101 ih hkE107 x0 x1 x2 x3 h
      · refine Y.op (pc' := 85) (fun _ => X.aloadn rfl dX10_reached_84) ?_
        refine Y.op (pc' := 86) (fun _ => X.iloadn rfl dX10_reached_85) ?_
        refine Y.callVi (As := [.int x3]) lk_X10_67 rfl cal_X10_owner vir_X10_owner (Nat.le_of_ble_eq_true rfl) (Nat.le_of_ble_eq_true rfl) rfl rfl rfl (Nat.le_of_ble_eq_true rfl) dX10_reached_86 (fun _ e => m_X10_owner x1 x3 h _ e) (fun r3 => ?_)
        refine Y.ifge 101 (by decide) dX10_reached_89 ?_ ?_
        · exact y_X10_reached_J101 ih hkE107 x0 x1 x2 x3 r3.2
        · refine Y.op (pc' := 93) (fun _ => X.aloadn rfl dX10_reached_92) ?_
          refine Y.op (pc' := 94) (fun _ => X.ic ki_3 dX10_reached_93) ?_
          refine Y.op (pc' := 95) (fun _ => X.dup2 rfl rfl dX10_reached_94) ?_
          refine Y.aldI dX10_reached_95 (fun v4 => ?_)
          refine Y.op (pc' := 97) (fun _ => X.ic ki_1 dX10_reached_96) ?_
          refine Y.op (pc' := 98) (fun _ => X.iloadn rfl dX10_reached_97) ?_
          refine Y.op (pc' := 99) (fun _ => X.ishl dX10_reached_98) ?_
          refine Y.op (pc' := 100) (fun _ => X.ior dX10_reached_99) ?_
          refine Y.astI dX10_reached_100 (fun h5 => ?_)
          exact y_X10_reached_J101 ih hkE107 x0 x1 x2 x3 h5
def f_X10_reached_J62 (x0 : Nat) (x1 : Nat) (x2 : Nat) (h : xH) : Option (Option Nat × xH) :=
  f_X10_reached_L64 (f_X10_reached_J107) 5000 x0 x1 x2 (0 : Int32) h
theorem y_X10_reached_J62 {g : xG} {h0 : xH} (x0 : Nat) (x1 : Nat) (x2 : Nat) (h : xH) : Y g DX10_reached h0 false iN (f_X10_reached_J62 x0 x1 x2 h) 62 [some (.ref x0), some (.ref x1), some (.ref x2), none, none, none] [] h := by
  unfold f_X10_reached_J62
  refine Y.op (pc' := 63) (fun _ => X.ic ki_0 dX10_reached_62) ?_
  refine Y.op (pc' := 64) (loc' := [some (.ref x0), some (.ref x1), some (.ref x2), some (.int (0 : Int32)), none, none]) (fun _ => X.istoren (Nat.le_of_ble_eq_true rfl) rfl dX10_reached_63) ?_
  exact y_X10_reached_L64 (y_X10_reached_J107) 5000 x0 x1 x2 (0 : Int32) h
def f_X10_reached_J56 (kH : Nat → Nat → Nat → Int32 → xH → Option (Option Nat × xH)) (kE62 : Nat → Nat → Nat → xH → Option (Option Nat × xH)) (x0 : Nat) (x1 : Nat) (x2 : Nat) (x3 : Int32) (h : xH) : Option (Option Nat × xH) :=
  lt (x3 + (1 : Int32)) fun v1 =>
  kH x0 x1 x2 v1 h
theorem y_X10_reached_J56 {g : xG} {h0 : xH} {kH : Nat → Nat → Nat → Int32 → xH → Option (Option Nat × xH)} {kE62 : Nat → Nat → Nat → xH → Option (Option Nat × xH)} (hkH : ∀ (x0 : Nat) (x1 : Nat) (x2 : Nat) (x3 : Int32) (h : xH), Y g DX10_reached h0 false iN (kH x0 x1 x2 x3 h) 18 [some (.ref x0), some (.ref x1), some (.ref x2), some (.int x3), none, none] [] h) (hkE62 : ∀ (x0 : Nat) (x1 : Nat) (x2 : Nat) (h : xH), Y g DX10_reached h0 false iN (kE62 x0 x1 x2 h) 62 [some (.ref x0), some (.ref x1), some (.ref x2), none, none, none] [] h) (x0 : Nat) (x1 : Nat) (x2 : Nat) (x3 : Int32) (h : xH) : Y g DX10_reached h0 false iN (f_X10_reached_J56 kH kE62 x0 x1 x2 x3 h) 56 [some (.ref x0), some (.ref x1), some (.ref x2), some (.int x3), none, none] [] h := by
  unfold f_X10_reached_J56
  refine Y.iinc (i := 3) (loc' := fun v1 => [some (.ref x0), some (.ref x1), some (.ref x2), some (.int v1), none, none]) rfl (Nat.le_of_ble_eq_true rfl) ki_1 (fun _ => rfl) dX10_reached_56 (fun v1 => ?_)
  refine Y.op (pc' := 18) (fun _ => X.goto 18 (by decide) dX10_reached_59) ?_
  exact hkH x0 x1 x2 v1 h
def f_X10_reached_L18 (kE62 : Nat → Nat → Nat → xH → Option (Option Nat × xH)) : Nat → Nat → Nat → Nat → Int32 → xH → Option (Option Nat × xH)
  | 0 => fun _ _ _ _ _ => none
  | n + 1 => fun x0 x1 x2 x3 h =>
    (gI h 10 x0 0).bind fun v1 =>
    if x3 ≥ v1 then
      kE62 x0 x1 x2 h
    else
      (gI h 10 x0 3).bind fun v2 =>
      if ((v2 >>> (x3 &&& 31)) &&& (1 : Int32)) = (1 : Int32) then
        (gR h 10 x1 6).bind fun v3 =>
        (aI h v3 x3).bind fun v4 =>
        if v4 ≥ (0 : Int32) then
          f_X10_reached_J56 (f_X10_reached_L18 kE62 n) kE62 x0 x1 x2 x3 h
        else
          (aI h x2 (0 : Int32)).bind fun v5 =>
          (sI h x2 (0 : Int32) (v5 ||| ((1 : Int32) <<< (x3 &&& 31)))).bind fun h6 =>
          f_X10_reached_J56 (f_X10_reached_L18 kE62 n) kE62 x0 x1 x2 x3 h6
      else
        f_X10_reached_J56 (f_X10_reached_L18 kE62 n) kE62 x0 x1 x2 x3 h
theorem y_X10_reached_L18 {g : xG} {h0 : xH} {kE62 : Nat → Nat → Nat → xH → Option (Option Nat × xH)} (hkE62 : ∀ (x0 : Nat) (x1 : Nat) (x2 : Nat) (h : xH), Y g DX10_reached h0 false iN (kE62 x0 x1 x2 h) 62 [some (.ref x0), some (.ref x1), some (.ref x2), none, none, none] [] h) : ∀ (n : Nat) (x0 : Nat) (x1 : Nat) (x2 : Nat) (x3 : Int32) (h : xH), Y g DX10_reached h0 false iN (f_X10_reached_L18 kE62 n x0 x1 x2 x3 h) 18 [some (.ref x0), some (.ref x1), some (.ref x2), some (.int x3), none, none] [] h := by
  intro n
  induction n with
  | zero => intro x0 x1 x2 x3 h; exact Y.nothing
  | succ n ih =>
    intro x0 x1 x2 x3 h
    unfold f_X10_reached_L18
    refine Y.op (pc' := 19) (fun _ => X.iloadn rfl dX10_reached_18) ?_
    refine Y.op (pc' := 20) (fun _ => X.aloadn rfl dX10_reached_19) ?_
    refine Y.getI fd_X10_7 rfl dX10_reached_20 (fun v1 => ?_)
    refine Y.cmpge 62 (by decide) dX10_reached_23 ?_ ?_
    · exact Y.fg (hkE62 x0 x1 x2 h) (And.intro rfl (And.intro rfl (And.intro rfl trivial)))
    · refine Y.op (pc' := 27) (fun _ => X.aloadn rfl dX10_reached_26) ?_
      refine Y.getI fd_X10_20 rfl dX10_reached_27 (fun v2 => ?_)
      refine Y.op (pc' := 31) (fun _ => X.iloadn rfl dX10_reached_30) ?_
      refine Y.op (pc' := 32) (fun _ => X.ishr dX10_reached_31) ?_
      refine Y.op (pc' := 33) (fun _ => X.ic ki_1 dX10_reached_32) ?_
      refine Y.op (pc' := 34) (fun _ => X.iand dX10_reached_33) ?_
      refine Y.op (pc' := 35) (fun _ => X.ic ki_1 dX10_reached_34) ?_
      refine Y.cmpne 56 (by decide) dX10_reached_35 ?_ ?_
      · exact y_X10_reached_J56 ih hkE62 x0 x1 x2 x3 h
      · refine Y.op (pc' := 39) (fun _ => X.aloadn rfl dX10_reached_38) ?_
        refine Y.getR fd_X10_31 rfl dX10_reached_39 (fun v3 => ?_)
        refine Y.op (pc' := 43) (fun _ => X.iloadn rfl dX10_reached_42) ?_
        refine Y.aldI dX10_reached_43 (fun v4 => ?_)
        refine Y.ifge 56 (by decide) dX10_reached_44 ?_ ?_
        · exact y_X10_reached_J56 ih hkE62 x0 x1 x2 x3 h
        · refine Y.op (pc' := 48) (fun _ => X.aloadn rfl dX10_reached_47) ?_
          refine Y.op (pc' := 49) (fun _ => X.ic ki_0 dX10_reached_48) ?_
          refine Y.op (pc' := 50) (fun _ => X.dup2 rfl rfl dX10_reached_49) ?_
          refine Y.aldI dX10_reached_50 (fun v5 => ?_)
          refine Y.op (pc' := 52) (fun _ => X.ic ki_1 dX10_reached_51) ?_
          refine Y.op (pc' := 53) (fun _ => X.iloadn rfl dX10_reached_52) ?_
          refine Y.op (pc' := 54) (fun _ => X.ishl dX10_reached_53) ?_
          refine Y.op (pc' := 55) (fun _ => X.ior dX10_reached_54) ?_
          refine Y.astI dX10_reached_55 (fun h6 => ?_)
          exact y_X10_reached_J56 ih hkE62 x0 x1 x2 x3 h6
def f_X10_reached (a0 : Nat) (h : xH) : Option (Option Nat × xH) :=
  (vc h 10 a0 (f_X10_like a0 h)).bind fun r1 =>
  (r1.1).bind fun b2 =>
  (vc r1.2 10 b2 (f_X10_settles b2 (99 : Int32) r1.2)).bind fun r3 =>
  (nwI r3.2 (4 : Int32)).bind fun r4 =>
  f_X10_reached_L18 (f_X10_reached_J62) 5000 a0 b2 r4.1 (0 : Int32) r4.2
theorem y_X10_reached {g : xG} {h0 : xH} (a0 : Nat) (h : xH) : Y g DX10_reached h0 false iN (f_X10_reached a0 h) 0 [some (.ref a0), none, none, none, none, none] [] h := by
  unfold f_X10_reached
  refine Y.op (pc' := 1) (fun _ => X.aloadn rfl dX10_reached_0) ?_
  refine Y.callVn (As := []) lk_X10_79 rfl cal_X10_like vir_X10_like (Nat.le_of_ble_eq_true rfl) (Nat.le_of_ble_eq_true rfl) rfl rfl rfl (Nat.le_of_ble_eq_true rfl) dX10_reached_1 (fun _ e => m_X10_like a0 h _ e) (fun r1 => ?_)
  refine Y.un (fun b2 => ?_)
  refine Y.op (pc' := 5) (loc' := [some (.ref a0), some (.ref b2), none, none, none, none]) (fun _ => X.astoren (Nat.le_of_ble_eq_true rfl) rfl dX10_reached_4) ?_
  refine Y.op (pc' := 6) (fun _ => X.aloadn rfl dX10_reached_5) ?_
  refine Y.op (pc' := 8) (fun _ => X.bp kb_99 dX10_reached_6) ?_
  refine Y.callVi (As := [.int (99 : Int32)]) lk_X10_88 rfl cal_X10_settles vir_X10_settles (Nat.le_of_ble_eq_true rfl) (Nat.le_of_ble_eq_true rfl) rfl rfl rfl (Nat.le_of_ble_eq_true rfl) dX10_reached_8 (fun _ e => m_X10_settles b2 (99 : Int32) r1.2 _ e) (fun r3 => ?_)
  refine Y.op (pc' := 12) (fun _ => X.pop rfl dX10_reached_11) ?_
  refine Y.op (pc' := 13) (fun _ => X.ic ki_4 dX10_reached_12) ?_
  refine Y.newI waI dX10_reached_13 (fun r4 => ?_)
  refine Y.op (pc' := 16) (loc' := [some (.ref a0), some (.ref b2), some (.ref r4.1), none, none, none]) (fun _ => X.astoren (Nat.le_of_ble_eq_true rfl) rfl dX10_reached_15) ?_
  refine Y.op (pc' := 17) (fun _ => X.ic ki_0 dX10_reached_16) ?_
  refine Y.op (pc' := 18) (loc' := [some (.ref a0), some (.ref b2), some (.ref r4.1), some (.int (0 : Int32)), none, none]) (fun _ => X.istoren (Nat.le_of_ble_eq_true rfl) rfl dX10_reached_17) ?_
  exact y_X10_reached_L18 (y_X10_reached_J62) 5000 a0 b2 r4.1 (0 : Int32) r4.2
theorem m_X10_reached {g : xG} (a0 : Nat) (h : xH) (r : Option Nat × xH) (e : f_X10_reached a0 h = some r) : XM g DX10_reached [.ref a0] h false (iN r) := YM.of rfl rfl (Nat.le_of_ble_eq_true rfl) (y_X10_reached a0 h) e
def f_L_feed_J38 (h : xH) : Option (xH) :=
  some h
theorem y_L_feed_J38 {g : xG} {h0 : xH} (h : xH) : Y g DL_feed h0 false iV (f_L_feed_J38 h) 38 [none, none, none] [] h := by
  unfold f_L_feed_J38
  exact Y.vreturn rfl dL_feed_38
def f_L_feed_L22 (kE38 : xH → Option (xH)) : Nat → Nat → Int32 → xH → Option (xH)
  | 0 => fun _ _ _ => none
  | n + 1 => fun x1 x2 h =>
    if x2 ≥ (6 : Int32) then
      kE38 h
    else
      (sI h x1 x2 (0 : Int32)).bind fun h1 =>
      lt (x2 + (1 : Int32)) fun v2 =>
      f_L_feed_L22 kE38 n x1 v2 h1
theorem y_L_feed_L22 {g : xG} {h0 : xH} {kE38 : xH → Option (xH)} (hkE38 : ∀  (h : xH), Y g DL_feed h0 false iV (kE38  h) 38 [none, none, none] [] h) : ∀ (n : Nat) (x1 : Nat) (x2 : Int32) (h : xH), Y g DL_feed h0 false iV (f_L_feed_L22 kE38 n x1 x2 h) 22 [none, some (.ref x1), some (.int x2)] [] h := by
  intro n
  induction n with
  | zero => intro x1 x2 h; exact Y.nothing
  | succ n ih =>
    intro x1 x2 h
    unfold f_L_feed_L22
    refine Y.op (pc' := 23) (fun _ => X.iloadn rfl dL_feed_22) ?_
    refine Y.op (pc' := 25) (fun _ => X.bp kb_6 dL_feed_23) ?_
    refine Y.cmpge 38 (by decide) dL_feed_25 ?_ ?_
    · exact Y.fg (hkE38 h) trivial
    · refine Y.op (pc' := 29) (fun _ => X.aloadn rfl dL_feed_28) ?_
      refine Y.op (pc' := 30) (fun _ => X.iloadn rfl dL_feed_29) ?_
      refine Y.op (pc' := 31) (fun _ => X.ic ki_0 dL_feed_30) ?_
      refine Y.astI dL_feed_31 (fun h1 => ?_)
      refine Y.iinc (i := 2) (loc' := fun v2 => [none, some (.ref x1), some (.int v2)]) rfl (Nat.le_of_ble_eq_true rfl) ki_1 (fun _ => rfl) dL_feed_32 (fun v2 => ?_)
      refine Y.op (pc' := 22) (fun _ => X.goto 22 (by decide) dL_feed_35) ?_
      exact ih x1 v2 h1
def f_L_feed (p1 : Nat) (p2 : Nat) (h : xH) : Option (xH) :=
  (aI h p2 (1 : Int32)).bind fun v1 =>
  (aI h p2 (2 : Int32)).bind fun v2 =>
  (aI h p2 (3 : Int32)).bind fun v3 =>
  (aI h p2 (4 : Int32)).bind fun v4 =>
  (aI h p2 (5 : Int32)).bind fun v5 =>
  (vc h 9 p1 (f_X9_feed p1 v1 v2 v3 v4 v5 h)).bind fun r6 =>
  f_L_feed_L22 (f_L_feed_J38) 5000 p2 (1 : Int32) r6.2
theorem y_L_feed {g : xG} {h0 : xH} (p1 : Nat) (p2 : Nat) (h : xH) : Y g DL_feed h0 false iV (f_L_feed p1 p2 h) 0 [some (.ref p1), some (.ref p2), none] [] h := by
  unfold f_L_feed
  refine Y.op (pc' := 1) (fun _ => X.aloadn rfl dL_feed_0) ?_
  refine Y.op (pc' := 2) (fun _ => X.aloadn rfl dL_feed_1) ?_
  refine Y.op (pc' := 3) (fun _ => X.ic ki_1 dL_feed_2) ?_
  refine Y.aldI dL_feed_3 (fun v1 => ?_)
  refine Y.op (pc' := 5) (fun _ => X.aloadn rfl dL_feed_4) ?_
  refine Y.op (pc' := 6) (fun _ => X.ic ki_2 dL_feed_5) ?_
  refine Y.aldI dL_feed_6 (fun v2 => ?_)
  refine Y.op (pc' := 8) (fun _ => X.aloadn rfl dL_feed_7) ?_
  refine Y.op (pc' := 9) (fun _ => X.ic ki_3 dL_feed_8) ?_
  refine Y.aldI dL_feed_9 (fun v3 => ?_)
  refine Y.op (pc' := 11) (fun _ => X.aloadn rfl dL_feed_10) ?_
  refine Y.op (pc' := 12) (fun _ => X.ic ki_4 dL_feed_11) ?_
  refine Y.aldI dL_feed_12 (fun v4 => ?_)
  refine Y.op (pc' := 14) (fun _ => X.aloadn rfl dL_feed_13) ?_
  refine Y.op (pc' := 15) (fun _ => X.ic ki_5 dL_feed_14) ?_
  refine Y.aldI dL_feed_15 (fun v5 => ?_)
  refine Y.callVi (As := [.int v1, .int v2, .int v3, .int v4, .int v5]) lk_L_15 rfl cal_X9_feed vir_X9_feed (Nat.le_of_ble_eq_true rfl) (Nat.le_of_ble_eq_true rfl) rfl rfl rfl (Nat.le_of_ble_eq_true rfl) dL_feed_16 (fun _ e => m_X9_feed p1 v1 v2 v3 v4 v5 h _ _ e) (fun r6 => ?_)
  refine Y.op (pc' := 20) (fun _ => X.pop rfl dL_feed_19) ?_
  refine Y.op (pc' := 21) (fun _ => X.ic ki_1 dL_feed_20) ?_
  refine Y.op (pc' := 22) (loc' := [some (.ref p1), some (.ref p2), some (.int (1 : Int32))]) (fun _ => X.istoren (Nat.le_of_ble_eq_true rfl) rfl dL_feed_21) ?_
  exact Y.fg (y_L_feed_L22 (y_L_feed_J38) 5000 p2 (1 : Int32) r6.2) (And.intro rfl (And.intro rfl trivial))
theorem m_L_feed {g : xG} (p1 : Nat) (p2 : Nat) (h : xH) (r : xH) (e : f_L_feed p1 p2 h = some r) : XM g DL_feed [.ref p1, .ref p2] h false (iV r) := YM.of rfl rfl (Nat.le_of_ble_eq_true rfl) (y_L_feed p1 p2 h) e
def f_L_put_J87 (h : xH) : Option (xH) :=
  some h
theorem y_L_put_J87 {g : xG} {h0 : xH} (h : xH) : Y g DL_put h0 false iV (f_L_put_J87 h) 87 [none, none, none, none, none, none] [] h := by
  unfold f_L_put_J87
  exact Y.vreturn rfl dL_put_87
def f_L_put_J81 (kH : Nat → Nat → Int64 → Int32 → xH → Option (xH)) (kE87 : xH → Option (xH)) (x0 : Nat) (x1 : Nat) (x2 : Int64) (x4 : Int32) (h : xH) : Option (xH) :=
  lt (x4 + (-1 : Int32)) fun v1 =>
  kH x0 x1 x2 v1 h
theorem y_L_put_J81 {g : xG} {h0 : xH} {kH : Nat → Nat → Int64 → Int32 → xH → Option (xH)} {kE87 : xH → Option (xH)} (hkH : ∀ (x0 : Nat) (x1 : Nat) (x2 : Int64) (x4 : Int32) (h : xH), Y g DL_put h0 false iV (kH x0 x1 x2 x4 h) 4 [some (.ref x0), some (.ref x1), some (.long x2), none, some (.int x4), none] [] h) (hkE87 : ∀  (h : xH), Y g DL_put h0 false iV (kE87  h) 87 [none, none, none, none, none, none] [] h) (x0 : Nat) (x1 : Nat) (x2 : Int64) (x4 : Int32) (h : xH) : Y g DL_put h0 false iV (f_L_put_J81 kH kE87 x0 x1 x2 x4 h) 81 [some (.ref x0), some (.ref x1), some (.long x2), none, some (.int x4), none] [] h := by
  unfold f_L_put_J81
  refine Y.iinc (i := 4) (loc' := fun v1 => [some (.ref x0), some (.ref x1), some (.long x2), none, some (.int v1), none]) rfl (Nat.le_of_ble_eq_true rfl) ki_m1 (fun _ => rfl) dL_put_81 (fun v1 => ?_)
  refine Y.op (pc' := 4) (fun _ => X.goto 4 (by decide) dL_put_84) ?_
  exact hkH x0 x1 x2 v1 h
def f_L_put_L4 (kE87 : xH → Option (xH)) : Nat → Nat → Nat → Int64 → Int32 → xH → Option (xH)
  | 0 => fun _ _ _ _ _ => none
  | n + 1 => fun x0 x1 x2 x4 h =>
    if x4 < (0 : Int32) then
      kE87 h
    else
      lt ((((x2.toUInt64 >>> (((8 : Int32) * x4).toInt64.toUInt64 &&& (63 : Int64).toUInt64)).toInt64) &&& (255 : Int64)).toInt32) fun v1 =>
      if v1 = (0 : Int32) then
        f_L_put_J81 (f_L_put_L4 kE87 n) kE87 x0 x1 x2 x4 h
      else
        (aI h x1 (0 : Int32)).bind fun v2 =>
        (aI h x1 ((1 : Int32) + ((v2 - v2 / (20 : Int32) * (20 : Int32)) / (4 : Int32)))).bind fun v3 =>
        (aI h x1 (0 : Int32)).bind fun v4 =>
        (sI h x1 ((1 : Int32) + ((v2 - v2 / (20 : Int32) * (20 : Int32)) / (4 : Int32))) (v3 ||| (v1 <<< (((24 : Int32) - ((8 : Int32) * (v4 - v4 / (4 : Int32) * (4 : Int32)))) &&& 31)))).bind fun h5 =>
        (aI h5 x1 (0 : Int32)).bind fun v6 =>
        (sI h5 x1 (0 : Int32) (v6 + (1 : Int32))).bind fun h7 =>
        (aI h7 x1 (0 : Int32)).bind fun v8 =>
        if (v8 - v8 / (20 : Int32) * (20 : Int32)) = (0 : Int32) then
          (f_L_feed x0 x1 h7).bind fun h9 =>
          f_L_put_J81 (f_L_put_L4 kE87 n) kE87 x0 x1 x2 x4 h9
        else
          f_L_put_J81 (f_L_put_L4 kE87 n) kE87 x0 x1 x2 x4 h7
theorem y_L_put_L4 {g : xG} {h0 : xH} {kE87 : xH → Option (xH)} (hkE87 : ∀  (h : xH), Y g DL_put h0 false iV (kE87  h) 87 [none, none, none, none, none, none] [] h) : ∀ (n : Nat) (x0 : Nat) (x1 : Nat) (x2 : Int64) (x4 : Int32) (h : xH), Y g DL_put h0 false iV (f_L_put_L4 kE87 n x0 x1 x2 x4 h) 4 [some (.ref x0), some (.ref x1), some (.long x2), none, some (.int x4), none] [] h := by
  intro n
  induction n with
  | zero => intro x0 x1 x2 x4 h; exact Y.nothing
  | succ n ih =>
    intro x0 x1 x2 x4 h
    unfold f_L_put_L4
    refine Y.op (pc' := 6) (fun _ => X.iload rfl dL_put_4) ?_
    refine Y.iflt 87 (by decide) dL_put_6 ?_ ?_
    · exact Y.fg (hkE87 h) trivial
    · refine Y.op (pc' := 10) (fun _ => X.lloadn rfl dL_put_9) ?_
      refine Y.op (pc' := 12) (fun _ => X.bp kb_8 dL_put_10) ?_
      refine Y.op (pc' := 14) (fun _ => X.iload rfl dL_put_12) ?_
      refine Y.op (pc' := 15) (fun _ => X.imul dL_put_14) ?_
      refine Y.op (pc' := 16) (fun _ => X.lushr dL_put_15) ?_
      refine Y.op (pc' := 19) (fun _ => X.ldcL wl_L_7 rfl dL_put_16) ?_
      refine Y.op (pc' := 20) (fun _ => X.land dL_put_19) ?_
      refine Y.op (pc' := 21) (fun _ => X.l2i dL_put_20) ?_
      refine Y.top (fun v1 => ?_)
      refine Y.op (pc' := 23) (loc' := [some (.ref x0), some (.ref x1), some (.long x2), none, some (.int x4), some (.int v1)]) (fun _ => X.istore (Nat.le_of_ble_eq_true rfl) rfl dL_put_21) ?_
      refine Y.op (pc' := 25) (fun _ => X.iload rfl dL_put_23) ?_
      refine Y.ifne 31 (by decide) dL_put_25 ?_ ?_
      · refine Y.op (pc' := 32) (fun _ => X.aloadn rfl dL_put_31) ?_
        refine Y.op (pc' := 33) (fun _ => X.ic ki_1 dL_put_32) ?_
        refine Y.op (pc' := 34) (fun _ => X.aloadn rfl dL_put_33) ?_
        refine Y.op (pc' := 35) (fun _ => X.ic ki_0 dL_put_34) ?_
        refine Y.aldI dL_put_35 (fun v2 => ?_)
        refine Y.op (pc' := 38) (fun _ => X.bp kb_20 dL_put_36) ?_
        refine Y.op (pc' := 39) (fun _ => X.irem (by decide) dL_put_38) ?_
        refine Y.op (pc' := 40) (fun _ => X.ic ki_4 dL_put_39) ?_
        refine Y.op (pc' := 41) (fun _ => X.idiv (by decide) dL_put_40) ?_
        refine Y.op (pc' := 42) (fun _ => X.iadd dL_put_41) ?_
        refine Y.op (pc' := 43) (fun _ => X.dup2 rfl rfl dL_put_42) ?_
        refine Y.aldI dL_put_43 (fun v3 => ?_)
        refine Y.op (pc' := 46) (fun _ => X.iload rfl dL_put_44) ?_
        refine Y.op (pc' := 48) (fun _ => X.bp kb_24 dL_put_46) ?_
        refine Y.op (pc' := 50) (fun _ => X.bp kb_8 dL_put_48) ?_
        refine Y.op (pc' := 51) (fun _ => X.aloadn rfl dL_put_50) ?_
        refine Y.op (pc' := 52) (fun _ => X.ic ki_0 dL_put_51) ?_
        refine Y.aldI dL_put_52 (fun v4 => ?_)
        refine Y.op (pc' := 54) (fun _ => X.ic ki_4 dL_put_53) ?_
        refine Y.op (pc' := 55) (fun _ => X.irem (by decide) dL_put_54) ?_
        refine Y.op (pc' := 56) (fun _ => X.imul dL_put_55) ?_
        refine Y.op (pc' := 57) (fun _ => X.isub dL_put_56) ?_
        refine Y.op (pc' := 58) (fun _ => X.ishl dL_put_57) ?_
        refine Y.op (pc' := 59) (fun _ => X.ior dL_put_58) ?_
        refine Y.astI dL_put_59 (fun h5 => ?_)
        refine Y.op (pc' := 61) (fun _ => X.aloadn rfl dL_put_60) ?_
        refine Y.op (pc' := 62) (fun _ => X.ic ki_0 dL_put_61) ?_
        refine Y.op (pc' := 63) (fun _ => X.dup2 rfl rfl dL_put_62) ?_
        refine Y.aldI dL_put_63 (fun v6 => ?_)
        refine Y.op (pc' := 65) (fun _ => X.ic ki_1 dL_put_64) ?_
        refine Y.op (pc' := 66) (fun _ => X.iadd dL_put_65) ?_
        refine Y.astI dL_put_66 (fun h7 => ?_)
        refine Y.op (pc' := 68) (fun _ => X.aloadn rfl dL_put_67) ?_
        refine Y.op (pc' := 69) (fun _ => X.ic ki_0 dL_put_68) ?_
        refine Y.aldI dL_put_69 (fun v8 => ?_)
        refine Y.op (pc' := 72) (fun _ => X.bp kb_20 dL_put_70) ?_
        refine Y.op (pc' := 73) (fun _ => X.irem (by decide) dL_put_72) ?_
        refine Y.ifne 81 (by decide) dL_put_73 ?_ ?_
        · exact Y.fg (y_L_put_J81 ih hkE87 x0 x1 x2 x4 h7) (And.intro rfl (And.intro rfl (And.intro rfl (And.intro rfl trivial))))
        · refine Y.op (pc' := 77) (fun _ => X.aloadn rfl dL_put_76) ?_
          refine Y.op (pc' := 78) (fun _ => X.aloadn rfl dL_put_77) ?_
          refine Y.callSv (As := [.ref x0, .ref x1]) lk_L_9 rfl cal_L_feed sta_L_feed (Nat.le_of_ble_eq_true rfl) rfl rfl (Nat.le_of_ble_eq_true rfl) dL_put_78 (fun _ e => m_L_feed x0 x1 h7 _ e) (fun h9 => ?_)
          exact Y.fg (y_L_put_J81 ih hkE87 x0 x1 x2 x4 h9) (And.intro rfl (And.intro rfl (And.intro rfl (And.intro rfl trivial))))
      · refine Y.op (pc' := 81) (fun _ => X.goto 81 (by decide) dL_put_28) ?_
        exact Y.fg (y_L_put_J81 ih hkE87 x0 x1 x2 x4 h) (And.intro rfl (And.intro rfl (And.intro rfl (And.intro rfl trivial))))
def f_L_put (p1 : Nat) (p2 : Nat) (p3 : Int64) (h : xH) : Option (xH) :=
  f_L_put_L4 (f_L_put_J87) 5000 p1 p2 p3 (7 : Int32) h
theorem y_L_put {g : xG} {h0 : xH} (p1 : Nat) (p2 : Nat) (p3 : Int64) (h : xH) : Y g DL_put h0 false iV (f_L_put p1 p2 p3 h) 0 [some (.ref p1), some (.ref p2), some (.long p3), none, none, none] [] h := by
  unfold f_L_put
  refine Y.op (pc' := 2) (fun _ => X.bp kb_7 dL_put_0) ?_
  refine Y.op (pc' := 4) (loc' := [some (.ref p1), some (.ref p2), some (.long p3), none, some (.int (7 : Int32)), none]) (fun _ => X.istore (Nat.le_of_ble_eq_true rfl) rfl dL_put_2) ?_
  exact y_L_put_L4 (y_L_put_J87) 5000 p1 p2 p3 (7 : Int32) h
theorem m_L_put {g : xG} (p1 : Nat) (p2 : Nat) (p3 : Int64) (h : xH) (r : xH) (e : f_L_put p1 p2 p3 h = some r) : XM g DL_put [.ref p1, .ref p2, .long p3] h false (iV r) := YM.of rfl rfl (Nat.le_of_ble_eq_true rfl) (y_L_put p1 p2 p3 h) e
def f_L_texts_J16 (x0 : Nat) (x1 : Nat) (x2 : Int32) (h : xH) : Option (Int32 × xH) :=
  (sI h x1 (0 : Int32) (0 : Int32)).bind fun h1 =>
  (f_L_text x0 x2 h1).bind fun r2 =>
  some (r2.1, r2.2)
theorem y_L_texts_J16 {g : xG} {h0 : xH} (x0 : Nat) (x1 : Nat) (x2 : Int32) (h : xH) : Y g DL_texts h0 false iI (f_L_texts_J16 x0 x1 x2 h) 16 [some (.ref x0), some (.ref x1), some (.int x2)] [] h := by
  unfold f_L_texts_J16
  refine Y.op (pc' := 17) (fun _ => X.aloadn rfl dL_texts_16) ?_
  refine Y.op (pc' := 18) (fun _ => X.ic ki_0 dL_texts_17) ?_
  refine Y.op (pc' := 19) (fun _ => X.ic ki_0 dL_texts_18) ?_
  refine Y.astI dL_texts_19 (fun h1 => ?_)
  refine Y.op (pc' := 21) (fun _ => X.aloadn rfl dL_texts_20) ?_
  refine Y.op (pc' := 22) (fun _ => X.iloadn rfl dL_texts_21) ?_
  refine Y.callSWi (As := [.ref x0, .int x2]) lkw_L_text rfl calw_L_text staw_L_text (Nat.le_of_ble_eq_true rfl) rfl rfl (Nat.le_of_ble_eq_true rfl) dL_texts_22 (fun _ e => m_L_text x0 x2 h1 _ e) (fun r2 => ?_)
  exact Y.ireturn rfl dL_texts_25
def f_L_texts (p1 : Nat) (p2 : Nat) (h : xH) : Option (Int32 × xH) :=
  (aI h p2 (0 : Int32)).bind fun v1 =>
  if (v1 - v1 / (20 : Int32) * (20 : Int32)) ≤ (0 : Int32) then
    f_L_texts_J16 p1 p2 v1 h
  else
    (f_L_feed p1 p2 h).bind fun h2 =>
    f_L_texts_J16 p1 p2 v1 h2
theorem y_L_texts {g : xG} {h0 : xH} (p1 : Nat) (p2 : Nat) (h : xH) : Y g DL_texts h0 false iI (f_L_texts p1 p2 h) 0 [some (.ref p1), some (.ref p2), none] [] h := by
  unfold f_L_texts
  refine Y.op (pc' := 1) (fun _ => X.aloadn rfl dL_texts_0) ?_
  refine Y.op (pc' := 2) (fun _ => X.ic ki_0 dL_texts_1) ?_
  refine Y.aldI dL_texts_2 (fun v1 => ?_)
  refine Y.op (pc' := 4) (loc' := [some (.ref p1), some (.ref p2), some (.int v1)]) (fun _ => X.istoren (Nat.le_of_ble_eq_true rfl) rfl dL_texts_3) ?_
  refine Y.op (pc' := 5) (fun _ => X.iloadn rfl dL_texts_4) ?_
  refine Y.op (pc' := 7) (fun _ => X.bp kb_20 dL_texts_5) ?_
  refine Y.op (pc' := 8) (fun _ => X.irem (by decide) dL_texts_7) ?_
  refine Y.ifle 16 (by decide) dL_texts_8 ?_ ?_
  · exact y_L_texts_J16 p1 p2 v1 h
  · refine Y.op (pc' := 12) (fun _ => X.aloadn rfl dL_texts_11) ?_
    refine Y.op (pc' := 13) (fun _ => X.aloadn rfl dL_texts_12) ?_
    refine Y.callSv (As := [.ref p1, .ref p2]) lk_L_9 rfl cal_L_feed sta_L_feed (Nat.le_of_ble_eq_true rfl) rfl rfl (Nat.le_of_ble_eq_true rfl) dL_texts_13 (fun _ e => m_L_feed p1 p2 h _ e) (fun h2 => ?_)
    exact y_L_texts_J16 p1 p2 v1 h2
theorem m_L_texts {g : xG} (p1 : Nat) (p2 : Nat) (h : xH) (r : Int32 × xH) (e : f_L_texts p1 p2 h = some r) : XM g DL_texts [.ref p1, .ref p2] h false (iI r) := YM.of rfl rfl (Nat.le_of_ble_eq_true rfl) (y_L_texts p1 p2 h) e
def f_L_digits_J46 (h : xH) : Option (xH) :=
  some h
theorem y_L_digits_J46 {g : xG} {h0 : xH} (h : xH) : Y g DL_digits h0 false iV (f_L_digits_J46 h) 46 [none, none, none, none] [] h := by
  unfold f_L_digits_J46
  exact Y.vreturn rfl dL_digits_46
def f_L_digits_L18 (kE46 : xH → Option (xH)) : Nat → Nat → Nat → Int32 → Int32 → xH → Option (xH)
  | 0 => fun _ _ _ _ _ => none
  | n + 1 => fun x0 x1 x2 x3 h =>
    if x3 ≤ (0 : Int32) then
      kE46 h
    else
      if x3 = (0 : Int32) then none else
      (f_L_put x0 x1 ((48 : Int64) + ((x2 / x3) - (x2 / x3) / (10 : Int32) * (10 : Int32)).toInt64) h).bind fun h2 =>
      lt ((x3 / (10 : Int32))) fun v3 =>
      f_L_digits_L18 kE46 n x0 x1 x2 v3 h2
theorem y_L_digits_L18 {g : xG} {h0 : xH} {kE46 : xH → Option (xH)} (hkE46 : ∀  (h : xH), Y g DL_digits h0 false iV (kE46  h) 46 [none, none, none, none] [] h) : ∀ (n : Nat) (x0 : Nat) (x1 : Nat) (x2 : Int32) (x3 : Int32) (h : xH), Y g DL_digits h0 false iV (f_L_digits_L18 kE46 n x0 x1 x2 x3 h) 18 [some (.ref x0), some (.ref x1), some (.int x2), some (.int x3)] [] h := by
  intro n
  induction n with
  | zero => intro x0 x1 x2 x3 h; exact Y.nothing
  | succ n ih =>
    intro x0 x1 x2 x3 h
    unfold f_L_digits_L18
    refine Y.op (pc' := 19) (fun _ => X.iloadn rfl dL_digits_18) ?_
    refine Y.ifle 46 (by decide) dL_digits_19 ?_ ?_
    · exact Y.fg (hkE46 h) trivial
    · refine Y.op (pc' := 23) (fun _ => X.aloadn rfl dL_digits_22) ?_
      refine Y.op (pc' := 24) (fun _ => X.aloadn rfl dL_digits_23) ?_
      refine Y.op (pc' := 27) (fun _ => X.ldcL wl_L_24 rfl dL_digits_24) ?_
      refine Y.op (pc' := 28) (fun _ => X.iloadn rfl dL_digits_27) ?_
      refine Y.op (pc' := 29) (fun _ => X.iloadn rfl dL_digits_28) ?_
      refine Y.ite (fun _ => Y.nothing) (fun z1 => ?_)
      refine Y.op (pc' := 30) (fun _ => X.idiv z1 dL_digits_29) ?_
      refine Y.op (pc' := 32) (fun _ => X.bp kb_10 dL_digits_30) ?_
      refine Y.op (pc' := 33) (fun _ => X.irem (by decide) dL_digits_32) ?_
      refine Y.op (pc' := 34) (fun _ => X.i2l dL_digits_33) ?_
      refine Y.op (pc' := 35) (fun _ => X.ladd dL_digits_34) ?_
      refine Y.callSv (As := [.ref x0, .ref x1, .long ((48 : Int64) + ((x2 / x3) - (x2 / x3) / (10 : Int32) * (10 : Int32)).toInt64)]) lk_L_26 rfl cal_L_put sta_L_put (Nat.le_of_ble_eq_true rfl) rfl rfl (Nat.le_of_ble_eq_true rfl) dL_digits_35 (fun _ e => m_L_put x0 x1 ((48 : Int64) + ((x2 / x3) - (x2 / x3) / (10 : Int32) * (10 : Int32)).toInt64) h _ e) (fun h2 => ?_)
      refine Y.op (pc' := 39) (fun _ => X.iloadn rfl dL_digits_38) ?_
      refine Y.op (pc' := 41) (fun _ => X.bp kb_10 dL_digits_39) ?_
      refine Y.op (pc' := 42) (fun _ => X.idiv (by decide) dL_digits_41) ?_
      refine Y.top (fun v3 => ?_)
      refine Y.op (pc' := 43) (loc' := [some (.ref x0), some (.ref x1), some (.int x2), some (.int v3)]) (fun _ => X.istoren (Nat.le_of_ble_eq_true rfl) rfl dL_digits_42) ?_
      refine Y.op (pc' := 18) (fun _ => X.goto 18 (by decide) dL_digits_43) ?_
      exact ih x0 x1 x2 v3 h2
def f_L_digits_L2 (kE18 : Nat → Nat → Int32 → Int32 → xH → Option (xH)) : Nat → Nat → Nat → Int32 → Int32 → xH → Option (xH)
  | 0 => fun _ _ _ _ _ => none
  | n + 1 => fun x0 x1 x2 x3 h =>
    if x3 > (x2 / (10 : Int32)) then
      kE18 x0 x1 x2 x3 h
    else
      lt ((x3 * (10 : Int32))) fun v1 =>
      f_L_digits_L2 kE18 n x0 x1 x2 v1 h
theorem y_L_digits_L2 {g : xG} {h0 : xH} {kE18 : Nat → Nat → Int32 → Int32 → xH → Option (xH)} (hkE18 : ∀ (x0 : Nat) (x1 : Nat) (x2 : Int32) (x3 : Int32) (h : xH), Y g DL_digits h0 false iV (kE18 x0 x1 x2 x3 h) 18 [some (.ref x0), some (.ref x1), some (.int x2), some (.int x3)] [] h) : ∀ (n : Nat) (x0 : Nat) (x1 : Nat) (x2 : Int32) (x3 : Int32) (h : xH), Y g DL_digits h0 false iV (f_L_digits_L2 kE18 n x0 x1 x2 x3 h) 2 [some (.ref x0), some (.ref x1), some (.int x2), some (.int x3)] [] h := by
  intro n
  induction n with
  | zero => intro x0 x1 x2 x3 h; exact Y.nothing
  | succ n ih =>
    intro x0 x1 x2 x3 h
    unfold f_L_digits_L2
    refine Y.op (pc' := 3) (fun _ => X.iloadn rfl dL_digits_2) ?_
    refine Y.op (pc' := 4) (fun _ => X.iloadn rfl dL_digits_3) ?_
    refine Y.op (pc' := 6) (fun _ => X.bp kb_10 dL_digits_4) ?_
    refine Y.op (pc' := 7) (fun _ => X.idiv (by decide) dL_digits_6) ?_
    refine Y.cmpgt 18 (by decide) dL_digits_7 ?_ ?_
    · exact hkE18 x0 x1 x2 x3 h
    · refine Y.op (pc' := 11) (fun _ => X.iloadn rfl dL_digits_10) ?_
      refine Y.op (pc' := 13) (fun _ => X.bp kb_10 dL_digits_11) ?_
      refine Y.op (pc' := 14) (fun _ => X.imul dL_digits_13) ?_
      refine Y.top (fun v1 => ?_)
      refine Y.op (pc' := 15) (loc' := [some (.ref x0), some (.ref x1), some (.int x2), some (.int v1)]) (fun _ => X.istoren (Nat.le_of_ble_eq_true rfl) rfl dL_digits_14) ?_
      refine Y.op (pc' := 2) (fun _ => X.goto 2 (by decide) dL_digits_15) ?_
      exact ih x0 x1 x2 v1 h
def f_L_digits (p1 : Nat) (p2 : Nat) (p3 : Int32) (h : xH) : Option (xH) :=
  f_L_digits_L2 (f_L_digits_L18 (f_L_digits_J46) 5000) 5000 p1 p2 p3 (1 : Int32) h
theorem y_L_digits {g : xG} {h0 : xH} (p1 : Nat) (p2 : Nat) (p3 : Int32) (h : xH) : Y g DL_digits h0 false iV (f_L_digits p1 p2 p3 h) 0 [some (.ref p1), some (.ref p2), some (.int p3), none] [] h := by
  unfold f_L_digits
  refine Y.op (pc' := 1) (fun _ => X.ic ki_1 dL_digits_0) ?_
  refine Y.op (pc' := 2) (loc' := [some (.ref p1), some (.ref p2), some (.int p3), some (.int (1 : Int32))]) (fun _ => X.istoren (Nat.le_of_ble_eq_true rfl) rfl dL_digits_1) ?_
  exact y_L_digits_L2 (y_L_digits_L18 (y_L_digits_J46) 5000) 5000 p1 p2 p3 (1 : Int32) h
theorem m_L_digits {g : xG} (p1 : Nat) (p2 : Nat) (p3 : Int32) (h : xH) (r : xH) (e : f_L_digits p1 p2 p3 h = some r) : XM g DL_digits [.ref p1, .ref p2, .int p3] h false (iV r) := YM.of rfl rfl (Nat.le_of_ble_eq_true rfl) (y_L_digits p1 p2 p3 h) e
def f_L_tell_J27 (h : xH) : Option (xH) :=
  some h
theorem y_L_tell_J27 {g : xG} {h0 : xH} (h : xH) : Y g DL_tell h0 false iV (f_L_tell_J27 h) 27 [none, none, none, none] [] h := by
  unfold f_L_tell_J27
  exact Y.vreturn rfl dL_tell_27
def f_L_tell_L2 (kE27 : xH → Option (xH)) : Nat → Nat → Nat → Nat → Int32 → xH → Option (xH)
  | 0 => fun _ _ _ _ _ => none
  | n + 1 => fun x0 x1 x2 x3 h =>
    (f_J0_length_8abf5 x2 h).bind fun r1 =>
    if x3 ≥ r1.1 then
      kE27 r1.2
    else
      (f_J0_charAt_5068e x2 x3 r1.2).bind fun r2 =>
      (f_L_put x0 x1 r2.1.toInt64 r2.2).bind fun h3 =>
      lt (x3 + (1 : Int32)) fun v4 =>
      f_L_tell_L2 kE27 n x0 x1 x2 v4 h3
theorem y_L_tell_L2 {g : xG} {h0 : xH} {kE27 : xH → Option (xH)} (hkE27 : ∀  (h : xH), Y g DL_tell h0 false iV (kE27  h) 27 [none, none, none, none] [] h) : ∀ (n : Nat) (x0 : Nat) (x1 : Nat) (x2 : Nat) (x3 : Int32) (h : xH), Y g DL_tell h0 false iV (f_L_tell_L2 kE27 n x0 x1 x2 x3 h) 2 [some (.ref x0), some (.ref x1), some (.ref x2), some (.int x3)] [] h := by
  intro n
  induction n with
  | zero => intro x0 x1 x2 x3 h; exact Y.nothing
  | succ n ih =>
    intro x0 x1 x2 x3 h
    unfold f_L_tell_L2
    refine Y.op (pc' := 3) (fun _ => X.iloadn rfl dL_tell_2) ?_
    refine Y.op (pc' := 4) (fun _ => X.aloadn rfl dL_tell_3) ?_
    refine Y.str_J0_length_8abf5 lk_L_128 rfl (Nat.le_of_ble_eq_true rfl) (Nat.le_of_ble_eq_true rfl) dL_tell_4 (fun r1 => ?_)
    refine Y.cmpge 27 (by decide) dL_tell_7 ?_ ?_
    · exact Y.fg (hkE27 r1.2) trivial
    · refine Y.op (pc' := 11) (fun _ => X.aloadn rfl dL_tell_10) ?_
      refine Y.op (pc' := 12) (fun _ => X.aloadn rfl dL_tell_11) ?_
      refine Y.op (pc' := 13) (fun _ => X.aloadn rfl dL_tell_12) ?_
      refine Y.op (pc' := 14) (fun _ => X.iloadn rfl dL_tell_13) ?_
      refine Y.str_J0_charAt_5068e lk_L_134 rfl (Nat.le_of_ble_eq_true rfl) (Nat.le_of_ble_eq_true rfl) dL_tell_14 (fun r2 => ?_)
      refine Y.op (pc' := 18) (fun _ => X.i2l dL_tell_17) ?_
      refine Y.callSv (As := [.ref x0, .ref x1, .long r2.1.toInt64]) lk_L_26 rfl cal_L_put sta_L_put (Nat.le_of_ble_eq_true rfl) rfl rfl (Nat.le_of_ble_eq_true rfl) dL_tell_18 (fun _ e => m_L_put x0 x1 r2.1.toInt64 r2.2 _ e) (fun h3 => ?_)
      refine Y.iinc (i := 3) (loc' := fun v4 => [some (.ref x0), some (.ref x1), some (.ref x2), some (.int v4)]) rfl (Nat.le_of_ble_eq_true rfl) ki_1 (fun _ => rfl) dL_tell_21 (fun v4 => ?_)
      refine Y.op (pc' := 2) (fun _ => X.goto 2 (by decide) dL_tell_24) ?_
      exact ih x0 x1 x2 v4 h3
def f_L_tell (p1 : Nat) (p2 : Nat) (p3 : Nat) (h : xH) : Option (xH) :=
  f_L_tell_L2 (f_L_tell_J27) 5000 p1 p2 p3 (0 : Int32) h
theorem y_L_tell {g : xG} {h0 : xH} (p1 : Nat) (p2 : Nat) (p3 : Nat) (h : xH) : Y g DL_tell h0 false iV (f_L_tell p1 p2 p3 h) 0 [some (.ref p1), some (.ref p2), some (.ref p3), none] [] h := by
  unfold f_L_tell
  refine Y.op (pc' := 1) (fun _ => X.ic ki_0 dL_tell_0) ?_
  refine Y.op (pc' := 2) (loc' := [some (.ref p1), some (.ref p2), some (.ref p3), some (.int (0 : Int32))]) (fun _ => X.istoren (Nat.le_of_ble_eq_true rfl) rfl dL_tell_1) ?_
  exact y_L_tell_L2 (y_L_tell_J27) 5000 p1 p2 p3 (0 : Int32) h
theorem m_L_tell {g : xG} (p1 : Nat) (p2 : Nat) (p3 : Nat) (h : xH) (r : xH) (e : f_L_tell p1 p2 p3 h = some r) : XM g DL_tell [.ref p1, .ref p2, .ref p3] h false (iV r) := YM.of rfl rfl (Nat.le_of_ble_eq_true rfl) (y_L_tell p1 p2 p3 h) e
def f_L_book_J533 (s0 : Int32) (h : xH) : Option (Int32 × xH) :=
  if s0 = 0 ∨ s0 = 1 then some (s0, h) else none
theorem y_L_book_J533 {g : xG} {h0 : xH} (s0 : Int32) (h : xH) : Y g DL_book h0 false iI (f_L_book_J533 s0 h) 533 [none, none, none, none, none, none, none, none, none] [.int s0] h := by
  unfold f_L_book_J533
  exact Y.zreturn rfl dL_book_533
def f_L_book_J516 (x0 : Nat) (x1 : Nat) (x2 : Nat) (h : xH) : Option (Int32 × xH) :=
  (f_L_texts x0 x1 h).bind fun r1 =>
  (vc r1.2 10 x2 (f_X10_pairs x2 r1.2)).bind fun r2 =>
  if r1.1 = r2.1 then
    f_L_book_J533 (1 : Int32) r2.2
  else
    f_L_book_J533 (0 : Int32) r2.2
theorem y_L_book_J516 {g : xG} {h0 : xH} (x0 : Nat) (x1 : Nat) (x2 : Nat) (h : xH) : Y g DL_book h0 false iI (f_L_book_J516 x0 x1 x2 h) 516 [some (.ref x0), some (.ref x1), some (.ref x2), none, none, none, none, none, none] [] h := by
  unfold f_L_book_J516
  refine Y.op (pc' := 517) (fun _ => X.aloadn rfl dL_book_516) ?_
  refine Y.op (pc' := 518) (fun _ => X.aloadn rfl dL_book_517) ?_
  refine Y.callSi (As := [.ref x0, .ref x1]) lk_L_204 rfl cal_L_texts sta_L_texts (Nat.le_of_ble_eq_true rfl) rfl rfl (Nat.le_of_ble_eq_true rfl) dL_book_518 (fun _ e => m_L_texts x0 x1 h _ e) (fun r1 => ?_)
  refine Y.op (pc' := 522) (fun _ => X.aloadn rfl dL_book_521) ?_
  refine Y.callVi (As := []) lk_L_208 rfl cal_X10_pairs vir_X10_pairs (Nat.le_of_ble_eq_true rfl) (Nat.le_of_ble_eq_true rfl) rfl rfl rfl (Nat.le_of_ble_eq_true rfl) dL_book_522 (fun _ e => m_X10_pairs x2 r1.2 _ e) (fun r2 => ?_)
  refine Y.cmpne 532 (by decide) dL_book_525 ?_ ?_
  · refine Y.op (pc' := 533) (fun _ => X.ic ki_0 dL_book_532) ?_
    exact Y.fg (y_L_book_J533 (0 : Int32) r2.2) trivial
  · refine Y.op (pc' := 529) (fun _ => X.ic ki_1 dL_book_528) ?_
    refine Y.op (pc' := 533) (fun _ => X.goto 533 (by decide) dL_book_529) ?_
    exact Y.fg (y_L_book_J533 (1 : Int32) r2.2) trivial
def f_L_book_J492 (x0 : Nat) (x1 : Nat) (x2 : Nat) (h : xH) : Option (Int32 × xH) :=
  (gI h 10 x2 2).bind fun v1 =>
  if v1 = (0 : Int32) then
    (f_L_tell x0 x1 (1000021 : Nat) h).bind fun h3 =>
    f_L_book_J516 x0 x1 x2 h3
  else
    (vc h 10 x2 (f_X10_settles x2 (99 : Int32) h)).bind fun r2 =>
    f_L_book_J516 x0 x1 x2 r2.2
theorem y_L_book_J492 {g : xG} {h0 : xH} (x0 : Nat) (x1 : Nat) (x2 : Nat) (h : xH) : Y g DL_book h0 false iI (f_L_book_J492 x0 x1 x2 h) 492 [some (.ref x0), some (.ref x1), some (.ref x2), none, none, none, none, none, none] [] h := by
  unfold f_L_book_J492
  refine Y.op (pc' := 493) (fun _ => X.aloadn rfl dL_book_492) ?_
  refine Y.getI fd_L_153 rfl dL_book_493 (fun v1 => ?_)
  refine Y.ifne 509 (by decide) dL_book_496 ?_ ?_
  · refine Y.op (pc' := 510) (fun _ => X.aloadn rfl dL_book_509) ?_
    refine Y.op (pc' := 512) (fun _ => X.bp kb_99 dL_book_510) ?_
    refine Y.callVi (As := [.int (99 : Int32)]) lk_L_201 rfl cal_X10_settles vir_X10_settles (Nat.le_of_ble_eq_true rfl) (Nat.le_of_ble_eq_true rfl) rfl rfl rfl (Nat.le_of_ble_eq_true rfl) dL_book_512 (fun _ e => m_X10_settles x2 (99 : Int32) h _ e) (fun r2 => ?_)
    refine Y.op (pc' := 516) (fun _ => X.pop rfl dL_book_515) ?_
    exact y_L_book_J516 x0 x1 x2 r2.2
  · refine Y.op (pc' := 500) (fun _ => X.aloadn rfl dL_book_499) ?_
    refine Y.op (pc' := 501) (fun _ => X.aloadn rfl dL_book_500) ?_
    refine Y.op (pc' := 503) (fun _ => X.ldcS ws_L_199 rfl dL_book_501) ?_
    refine Y.callSv (As := [.ref x0, .ref x1, .ref (1000021 : Nat)]) lk_L_159 rfl cal_L_tell sta_L_tell (Nat.le_of_ble_eq_true rfl) rfl rfl (Nat.le_of_ble_eq_true rfl) dL_book_503 (fun _ e => m_L_tell x0 x1 (1000021 : Nat) h _ e) (fun h3 => ?_)
    refine Y.op (pc' := 516) (fun _ => X.goto 516 (by decide) dL_book_506) ?_
    exact y_L_book_J516 x0 x1 x2 h3
def f_L_book_J416 (x0 : Nat) (x1 : Nat) (x2 : Nat) (x3 : Int32) (x4 : Int32) (h : xH) : Option (Int32 × xH) :=
  if ((x3 >>> ((9 : Int32) &&& 31)) &&& (1 : Int32)) = (0 : Int32) then
    if x4 = (0 : Int32) then none else
    lt ((((x3 >>> ((10 : Int32) &&& 31)) &&& (255 : Int32)) - ((x3 >>> ((10 : Int32) &&& 31)) &&& (255 : Int32)) / x4 * x4)) fun v2 =>
    (gR h 10 x2 7).bind fun v3 =>
    (sI h v3 v2 ((x3 >>> ((8 : Int32) &&& 31)) &&& (63 : Int32))).bind fun h4 =>
    (f_L_tell x0 x1 (1000020 : Nat) h4).bind fun h5 =>
    (f_L_digits x0 x1 v2 h5).bind fun h6 =>
    (f_L_tell x0 x1 (1000016 : Nat) h6).bind fun h7 =>
    (gR h7 10 x2 7).bind fun v8 =>
    (aI h7 v8 v2).bind fun v9 =>
    (f_L_digits x0 x1 v9 h7).bind fun h10 =>
    (f_L_tell x0 x1 (1000017 : Nat) h10).bind fun h11 =>
    f_L_book_J492 x0 x1 x2 h11
  else
    f_L_book_J492 x0 x1 x2 h
theorem y_L_book_J416 {g : xG} {h0 : xH} (x0 : Nat) (x1 : Nat) (x2 : Nat) (x3 : Int32) (x4 : Int32) (h : xH) : Y g DL_book h0 false iI (f_L_book_J416 x0 x1 x2 x3 x4 h) 416 [some (.ref x0), some (.ref x1), some (.ref x2), some (.int x3), some (.int x4), none, none, none, none] [] h := by
  unfold f_L_book_J416
  refine Y.op (pc' := 417) (fun _ => X.iloadn rfl dL_book_416) ?_
  refine Y.op (pc' := 419) (fun _ => X.bp kb_9 dL_book_417) ?_
  refine Y.op (pc' := 420) (fun _ => X.ishr dL_book_419) ?_
  refine Y.op (pc' := 421) (fun _ => X.ic ki_1 dL_book_420) ?_
  refine Y.op (pc' := 422) (fun _ => X.iand dL_book_421) ?_
  refine Y.ifne 492 (by decide) dL_book_422 ?_ ?_
  · exact Y.fg (y_L_book_J492 x0 x1 x2 h) (And.intro rfl (And.intro rfl (And.intro rfl trivial)))
  · refine Y.op (pc' := 426) (fun _ => X.iloadn rfl dL_book_425) ?_
    refine Y.op (pc' := 428) (fun _ => X.bp kb_10 dL_book_426) ?_
    refine Y.op (pc' := 429) (fun _ => X.ishr dL_book_428) ?_
    refine Y.op (pc' := 432) (fun _ => X.sp ks_255 dL_book_429) ?_
    refine Y.op (pc' := 433) (fun _ => X.iand dL_book_432) ?_
    refine Y.op (pc' := 435) (fun _ => X.iload rfl dL_book_433) ?_
    refine Y.ite (fun _ => Y.nothing) (fun z1 => ?_)
    refine Y.op (pc' := 436) (fun _ => X.irem z1 dL_book_435) ?_
    refine Y.top (fun v2 => ?_)
    refine Y.op (pc' := 438) (loc' := [some (.ref x0), some (.ref x1), some (.ref x2), some (.int x3), some (.int x4), none, some (.int v2), none, none]) (fun _ => X.istore (Nat.le_of_ble_eq_true rfl) rfl dL_book_436) ?_
    refine Y.op (pc' := 439) (fun _ => X.aloadn rfl dL_book_438) ?_
    refine Y.getR fd_L_195 rfl dL_book_439 (fun v3 => ?_)
    refine Y.op (pc' := 444) (fun _ => X.iload rfl dL_book_442) ?_
    refine Y.op (pc' := 445) (fun _ => X.iloadn rfl dL_book_444) ?_
    refine Y.op (pc' := 447) (fun _ => X.bp kb_8 dL_book_445) ?_
    refine Y.op (pc' := 448) (fun _ => X.ishr dL_book_447) ?_
    refine Y.op (pc' := 450) (fun _ => X.bp kb_63 dL_book_448) ?_
    refine Y.op (pc' := 451) (fun _ => X.iand dL_book_450) ?_
    refine Y.astI dL_book_451 (fun h4 => ?_)
    refine Y.op (pc' := 453) (fun _ => X.aloadn rfl dL_book_452) ?_
    refine Y.op (pc' := 454) (fun _ => X.aloadn rfl dL_book_453) ?_
    refine Y.op (pc' := 456) (fun _ => X.ldcS ws_L_197 rfl dL_book_454) ?_
    refine Y.callSv (As := [.ref x0, .ref x1, .ref (1000020 : Nat)]) lk_L_159 rfl cal_L_tell sta_L_tell (Nat.le_of_ble_eq_true rfl) rfl rfl (Nat.le_of_ble_eq_true rfl) dL_book_456 (fun _ e => m_L_tell x0 x1 (1000020 : Nat) h4 _ e) (fun h5 => ?_)
    refine Y.op (pc' := 460) (fun _ => X.aloadn rfl dL_book_459) ?_
    refine Y.op (pc' := 461) (fun _ => X.aloadn rfl dL_book_460) ?_
    refine Y.op (pc' := 463) (fun _ => X.iload rfl dL_book_461) ?_
    refine Y.callSv (As := [.ref x0, .ref x1, .int v2]) lk_L_163 rfl cal_L_digits sta_L_digits (Nat.le_of_ble_eq_true rfl) rfl rfl (Nat.le_of_ble_eq_true rfl) dL_book_463 (fun _ e => m_L_digits x0 x1 v2 h5 _ e) (fun h6 => ?_)
    refine Y.op (pc' := 467) (fun _ => X.aloadn rfl dL_book_466) ?_
    refine Y.op (pc' := 468) (fun _ => X.aloadn rfl dL_book_467) ?_
    refine Y.op (pc' := 470) (fun _ => X.ldcS ws_L_176 rfl dL_book_468) ?_
    refine Y.callSv (As := [.ref x0, .ref x1, .ref (1000016 : Nat)]) lk_L_159 rfl cal_L_tell sta_L_tell (Nat.le_of_ble_eq_true rfl) rfl rfl (Nat.le_of_ble_eq_true rfl) dL_book_470 (fun _ e => m_L_tell x0 x1 (1000016 : Nat) h6 _ e) (fun h7 => ?_)
    refine Y.op (pc' := 474) (fun _ => X.aloadn rfl dL_book_473) ?_
    refine Y.op (pc' := 475) (fun _ => X.aloadn rfl dL_book_474) ?_
    refine Y.op (pc' := 476) (fun _ => X.aloadn rfl dL_book_475) ?_
    refine Y.getR fd_L_195 rfl dL_book_476 (fun v8 => ?_)
    refine Y.op (pc' := 481) (fun _ => X.iload rfl dL_book_479) ?_
    refine Y.aldI dL_book_481 (fun v9 => ?_)
    refine Y.callSv (As := [.ref x0, .ref x1, .int v9]) lk_L_163 rfl cal_L_digits sta_L_digits (Nat.le_of_ble_eq_true rfl) rfl rfl (Nat.le_of_ble_eq_true rfl) dL_book_482 (fun _ e => m_L_digits x0 x1 v9 h7 _ e) (fun h10 => ?_)
    refine Y.op (pc' := 486) (fun _ => X.aloadn rfl dL_book_485) ?_
    refine Y.op (pc' := 487) (fun _ => X.aloadn rfl dL_book_486) ?_
    refine Y.op (pc' := 489) (fun _ => X.ldcS ws_L_178 rfl dL_book_487) ?_
    refine Y.callSv (As := [.ref x0, .ref x1, .ref (1000017 : Nat)]) lk_L_159 rfl cal_L_tell sta_L_tell (Nat.le_of_ble_eq_true rfl) rfl rfl (Nat.le_of_ble_eq_true rfl) dL_book_489 (fun _ e => m_L_tell x0 x1 (1000017 : Nat) h10 _ e) (fun h11 => ?_)
    exact Y.fg (y_L_book_J492 x0 x1 x2 h11) (And.intro rfl (And.intro rfl (And.intro rfl trivial)))
def f_L_book_J410 (kH : Nat → Nat → Nat → Int32 → Int32 → Int32 → Int32 → xH → Option (Int32 × xH)) (kE416 : Nat → Nat → Nat → Int32 → Int32 → xH → Option (Int32 × xH)) (x0 : Nat) (x1 : Nat) (x2 : Nat) (x3 : Int32) (x4 : Int32) (x5 : Int32) (x6 : Int32) (h : xH) : Option (Int32 × xH) :=
  lt (x6 + (1 : Int32)) fun v1 =>
  kH x0 x1 x2 x3 x4 x5 v1 h
theorem y_L_book_J410 {g : xG} {h0 : xH} {kH : Nat → Nat → Nat → Int32 → Int32 → Int32 → Int32 → xH → Option (Int32 × xH)} {kE416 : Nat → Nat → Nat → Int32 → Int32 → xH → Option (Int32 × xH)} (hkH : ∀ (x0 : Nat) (x1 : Nat) (x2 : Nat) (x3 : Int32) (x4 : Int32) (x5 : Int32) (x6 : Int32) (h : xH), Y g DL_book h0 false iI (kH x0 x1 x2 x3 x4 x5 x6 h) 312 [some (.ref x0), some (.ref x1), some (.ref x2), some (.int x3), some (.int x4), some (.int x5), some (.int x6), none, none] [] h) (hkE416 : ∀ (x0 : Nat) (x1 : Nat) (x2 : Nat) (x3 : Int32) (x4 : Int32) (h : xH), Y g DL_book h0 false iI (kE416 x0 x1 x2 x3 x4 h) 416 [some (.ref x0), some (.ref x1), some (.ref x2), some (.int x3), some (.int x4), none, none, none, none] [] h) (x0 : Nat) (x1 : Nat) (x2 : Nat) (x3 : Int32) (x4 : Int32) (x5 : Int32) (x6 : Int32) (h : xH) : Y g DL_book h0 false iI (f_L_book_J410 kH kE416 x0 x1 x2 x3 x4 x5 x6 h) 410 [some (.ref x0), some (.ref x1), some (.ref x2), some (.int x3), some (.int x4), some (.int x5), some (.int x6), none, none] [] h := by
  unfold f_L_book_J410
  refine Y.iinc (i := 6) (loc' := fun v1 => [some (.ref x0), some (.ref x1), some (.ref x2), some (.int x3), some (.int x4), some (.int x5), some (.int v1), none, none]) rfl (Nat.le_of_ble_eq_true rfl) ki_1 (fun _ => rfl) dL_book_410 (fun v1 => ?_)
  refine Y.op (pc' := 312) (fun _ => X.goto 312 (by decide) dL_book_413) ?_
  exact hkH x0 x1 x2 x3 x4 x5 v1 h
def f_L_book_L312 (kE416 : Nat → Nat → Nat → Int32 → Int32 → xH → Option (Int32 × xH)) : Nat → Nat → Nat → Nat → Int32 → Int32 → Int32 → Int32 → xH → Option (Int32 × xH)
  | 0 => fun _ _ _ _ _ _ _ _ => none
  | n + 1 => fun x0 x1 x2 x3 x4 x5 x6 h =>
    if x6 ≥ x4 then
      kE416 x0 x1 x2 x3 x4 h
    else
      if ((x3 >>> ((7 : Int32) &&& 31)) &&& (1 : Int32)) = (0 : Int32) then
        if x5 = (0 : Int32) then none else
        lt ((((x3 >>> ((x6 + (2 : Int32)) &&& 31)) &&& (255 : Int32)) - ((x3 >>> ((x6 + (2 : Int32)) &&& 31)) &&& (255 : Int32)) / x5 * x5)) fun v2 =>
        (vc h 10 x2 (f_X10_can x2 x6 v2 h)).bind fun r3 =>
        if r3.1 = (0 : Int32) then
          f_L_book_J410 (f_L_book_L312 kE416 n) kE416 x0 x1 x2 x3 x4 x5 x6 r3.2
        else
          (vc r3.2 10 x2 (f_X10_owner x2 v2 r3.2)).bind fun r4 =>
          if r4.1 < (0 : Int32) then
            (gR r4.2 10 x2 6).bind fun v5 =>
            (sI r4.2 v5 x6 v2).bind fun h6 =>
            (f_L_tell x0 x1 (1000019 : Nat) h6).bind fun h7 =>
            (f_L_digits x0 x1 x6 h7).bind fun h8 =>
            (f_L_tell x0 x1 (1000016 : Nat) h8).bind fun h9 =>
            (f_L_digits x0 x1 v2 h9).bind fun h10 =>
            (f_L_tell x0 x1 (1000017 : Nat) h10).bind fun h11 =>
            f_L_book_J410 (f_L_book_L312 kE416 n) kE416 x0 x1 x2 x3 x4 x5 x6 h11
          else
            f_L_book_J410 (f_L_book_L312 kE416 n) kE416 x0 x1 x2 x3 x4 x5 x6 r4.2
      else
        kE416 x0 x1 x2 x3 x4 h
theorem y_L_book_L312 {g : xG} {h0 : xH} {kE416 : Nat → Nat → Nat → Int32 → Int32 → xH → Option (Int32 × xH)} (hkE416 : ∀ (x0 : Nat) (x1 : Nat) (x2 : Nat) (x3 : Int32) (x4 : Int32) (h : xH), Y g DL_book h0 false iI (kE416 x0 x1 x2 x3 x4 h) 416 [some (.ref x0), some (.ref x1), some (.ref x2), some (.int x3), some (.int x4), none, none, none, none] [] h) : ∀ (n : Nat) (x0 : Nat) (x1 : Nat) (x2 : Nat) (x3 : Int32) (x4 : Int32) (x5 : Int32) (x6 : Int32) (h : xH), Y g DL_book h0 false iI (f_L_book_L312 kE416 n x0 x1 x2 x3 x4 x5 x6 h) 312 [some (.ref x0), some (.ref x1), some (.ref x2), some (.int x3), some (.int x4), some (.int x5), some (.int x6), none, none] [] h := by
  intro n
  induction n with
  | zero => intro x0 x1 x2 x3 x4 x5 x6 h; exact Y.nothing
  | succ n ih =>
    intro x0 x1 x2 x3 x4 x5 x6 h
    unfold f_L_book_L312
    refine Y.op (pc' := 314) (fun _ => X.iload rfl dL_book_312) ?_
    refine Y.op (pc' := 316) (fun _ => X.iload rfl dL_book_314) ?_
    refine Y.cmpge 416 (by decide) dL_book_316 ?_ ?_
    · exact Y.fg (hkE416 x0 x1 x2 x3 x4 h) (And.intro rfl (And.intro rfl (And.intro rfl (And.intro rfl (And.intro rfl trivial)))))
    · refine Y.op (pc' := 320) (fun _ => X.iloadn rfl dL_book_319) ?_
      refine Y.op (pc' := 322) (fun _ => X.bp kb_7 dL_book_320) ?_
      refine Y.op (pc' := 323) (fun _ => X.ishr dL_book_322) ?_
      refine Y.op (pc' := 324) (fun _ => X.ic ki_1 dL_book_323) ?_
      refine Y.op (pc' := 325) (fun _ => X.iand dL_book_324) ?_
      refine Y.ifne 416 (by decide) dL_book_325 ?_ ?_
      · exact Y.fg (hkE416 x0 x1 x2 x3 x4 h) (And.intro rfl (And.intro rfl (And.intro rfl (And.intro rfl (And.intro rfl trivial)))))
      · refine Y.op (pc' := 329) (fun _ => X.iloadn rfl dL_book_328) ?_
        refine Y.op (pc' := 331) (fun _ => X.iload rfl dL_book_329) ?_
        refine Y.op (pc' := 332) (fun _ => X.ic ki_2 dL_book_331) ?_
        refine Y.op (pc' := 333) (fun _ => X.iadd dL_book_332) ?_
        refine Y.op (pc' := 334) (fun _ => X.ishr dL_book_333) ?_
        refine Y.op (pc' := 337) (fun _ => X.sp ks_255 dL_book_334) ?_
        refine Y.op (pc' := 338) (fun _ => X.iand dL_book_337) ?_
        refine Y.op (pc' := 340) (fun _ => X.iload rfl dL_book_338) ?_
        refine Y.ite (fun _ => Y.nothing) (fun z1 => ?_)
        refine Y.op (pc' := 341) (fun _ => X.irem z1 dL_book_340) ?_
        refine Y.top (fun v2 => ?_)
        refine Y.op (pc' := 343) (loc' := [some (.ref x0), some (.ref x1), some (.ref x2), some (.int x3), some (.int x4), some (.int x5), some (.int x6), some (.int v2), none]) (fun _ => X.istore (Nat.le_of_ble_eq_true rfl) rfl dL_book_341) ?_
        refine Y.op (pc' := 344) (fun _ => X.aloadn rfl dL_book_343) ?_
        refine Y.op (pc' := 346) (fun _ => X.iload rfl dL_book_344) ?_
        refine Y.op (pc' := 348) (fun _ => X.iload rfl dL_book_346) ?_
        refine Y.callVi (As := [.int x6, .int v2]) lk_L_182 rfl cal_X10_can vir_X10_can (Nat.le_of_ble_eq_true rfl) (Nat.le_of_ble_eq_true rfl) rfl rfl rfl (Nat.le_of_ble_eq_true rfl) dL_book_348 (fun _ e => m_X10_can x2 x6 v2 h _ e) (fun r3 => ?_)
        refine Y.ifeq 410 (by decide) dL_book_351 ?_ ?_
        · exact Y.fg (y_L_book_J410 ih hkE416 x0 x1 x2 x3 x4 x5 x6 r3.2) (And.intro rfl (And.intro rfl (And.intro rfl (And.intro rfl (And.intro rfl (And.intro rfl (And.intro rfl trivial)))))))
        · refine Y.op (pc' := 355) (fun _ => X.aloadn rfl dL_book_354) ?_
          refine Y.op (pc' := 357) (fun _ => X.iload rfl dL_book_355) ?_
          refine Y.callVi (As := [.int v2]) lk_L_186 rfl cal_X10_owner vir_X10_owner (Nat.le_of_ble_eq_true rfl) (Nat.le_of_ble_eq_true rfl) rfl rfl rfl (Nat.le_of_ble_eq_true rfl) dL_book_357 (fun _ e => m_X10_owner x2 v2 r3.2 _ e) (fun r4 => ?_)
          refine Y.iflt 366 (by decide) dL_book_360 ?_ ?_
          · refine Y.op (pc' := 367) (fun _ => X.aloadn rfl dL_book_366) ?_
            refine Y.getR fd_L_189 rfl dL_book_367 (fun v5 => ?_)
            refine Y.op (pc' := 372) (fun _ => X.iload rfl dL_book_370) ?_
            refine Y.op (pc' := 374) (fun _ => X.iload rfl dL_book_372) ?_
            refine Y.astI dL_book_374 (fun h6 => ?_)
            refine Y.op (pc' := 376) (fun _ => X.aloadn rfl dL_book_375) ?_
            refine Y.op (pc' := 377) (fun _ => X.aloadn rfl dL_book_376) ?_
            refine Y.op (pc' := 379) (fun _ => X.ldcS ws_L_193 rfl dL_book_377) ?_
            refine Y.callSv (As := [.ref x0, .ref x1, .ref (1000019 : Nat)]) lk_L_159 rfl cal_L_tell sta_L_tell (Nat.le_of_ble_eq_true rfl) rfl rfl (Nat.le_of_ble_eq_true rfl) dL_book_379 (fun _ e => m_L_tell x0 x1 (1000019 : Nat) h6 _ e) (fun h7 => ?_)
            refine Y.op (pc' := 383) (fun _ => X.aloadn rfl dL_book_382) ?_
            refine Y.op (pc' := 384) (fun _ => X.aloadn rfl dL_book_383) ?_
            refine Y.op (pc' := 386) (fun _ => X.iload rfl dL_book_384) ?_
            refine Y.callSv (As := [.ref x0, .ref x1, .int x6]) lk_L_163 rfl cal_L_digits sta_L_digits (Nat.le_of_ble_eq_true rfl) rfl rfl (Nat.le_of_ble_eq_true rfl) dL_book_386 (fun _ e => m_L_digits x0 x1 x6 h7 _ e) (fun h8 => ?_)
            refine Y.op (pc' := 390) (fun _ => X.aloadn rfl dL_book_389) ?_
            refine Y.op (pc' := 391) (fun _ => X.aloadn rfl dL_book_390) ?_
            refine Y.op (pc' := 393) (fun _ => X.ldcS ws_L_176 rfl dL_book_391) ?_
            refine Y.callSv (As := [.ref x0, .ref x1, .ref (1000016 : Nat)]) lk_L_159 rfl cal_L_tell sta_L_tell (Nat.le_of_ble_eq_true rfl) rfl rfl (Nat.le_of_ble_eq_true rfl) dL_book_393 (fun _ e => m_L_tell x0 x1 (1000016 : Nat) h8 _ e) (fun h9 => ?_)
            refine Y.op (pc' := 397) (fun _ => X.aloadn rfl dL_book_396) ?_
            refine Y.op (pc' := 398) (fun _ => X.aloadn rfl dL_book_397) ?_
            refine Y.op (pc' := 400) (fun _ => X.iload rfl dL_book_398) ?_
            refine Y.callSv (As := [.ref x0, .ref x1, .int v2]) lk_L_163 rfl cal_L_digits sta_L_digits (Nat.le_of_ble_eq_true rfl) rfl rfl (Nat.le_of_ble_eq_true rfl) dL_book_400 (fun _ e => m_L_digits x0 x1 v2 h9 _ e) (fun h10 => ?_)
            refine Y.op (pc' := 404) (fun _ => X.aloadn rfl dL_book_403) ?_
            refine Y.op (pc' := 405) (fun _ => X.aloadn rfl dL_book_404) ?_
            refine Y.op (pc' := 407) (fun _ => X.ldcS ws_L_178 rfl dL_book_405) ?_
            refine Y.callSv (As := [.ref x0, .ref x1, .ref (1000017 : Nat)]) lk_L_159 rfl cal_L_tell sta_L_tell (Nat.le_of_ble_eq_true rfl) rfl rfl (Nat.le_of_ble_eq_true rfl) dL_book_407 (fun _ e => m_L_tell x0 x1 (1000017 : Nat) h10 _ e) (fun h11 => ?_)
            exact Y.fg (y_L_book_J410 ih hkE416 x0 x1 x2 x3 x4 x5 x6 h11) (And.intro rfl (And.intro rfl (And.intro rfl (And.intro rfl (And.intro rfl (And.intro rfl (And.intro rfl trivial)))))))
          · refine Y.op (pc' := 410) (fun _ => X.goto 410 (by decide) dL_book_363) ?_
            exact Y.fg (y_L_book_J410 ih hkE416 x0 x1 x2 x3 x4 x5 x6 r4.2) (And.intro rfl (And.intro rfl (And.intro rfl (And.intro rfl (And.intro rfl (And.intro rfl (And.intro rfl trivial)))))))
def f_L_book_J309 (x0 : Nat) (x1 : Nat) (x2 : Nat) (x3 : Int32) (x4 : Int32) (x5 : Int32) (h : xH) : Option (Int32 × xH) :=
  f_L_book_L312 (f_L_book_J416) 5000 x0 x1 x2 x3 x4 x5 (0 : Int32) h
theorem y_L_book_J309 {g : xG} {h0 : xH} (x0 : Nat) (x1 : Nat) (x2 : Nat) (x3 : Int32) (x4 : Int32) (x5 : Int32) (h : xH) : Y g DL_book h0 false iI (f_L_book_J309 x0 x1 x2 x3 x4 x5 h) 309 [some (.ref x0), some (.ref x1), some (.ref x2), some (.int x3), some (.int x4), some (.int x5), none, none, none] [] h := by
  unfold f_L_book_J309
  refine Y.op (pc' := 310) (fun _ => X.ic ki_0 dL_book_309) ?_
  refine Y.op (pc' := 312) (loc' := [some (.ref x0), some (.ref x1), some (.ref x2), some (.int x3), some (.int x4), some (.int x5), some (.int (0 : Int32)), none, none]) (fun _ => X.istore (Nat.le_of_ble_eq_true rfl) rfl dL_book_310) ?_
  exact y_L_book_L312 (y_L_book_J416) 5000 x0 x1 x2 x3 x4 x5 (0 : Int32) h
def f_L_book_J252 (x0 : Nat) (x1 : Nat) (x2 : Nat) (x3 : Int32) (x4 : Int32) (x5 : Int32) (h : xH) : Option (Int32 × xH) :=
  if ((x3 >>> ((4 : Int32) &&& 31)) &&& (3 : Int32)) = (0 : Int32) then
    if x4 = (0 : Int32) then none else
    lt ((((x3 >>> ((6 : Int32) &&& 31)) &&& (255 : Int32)) - ((x3 >>> ((6 : Int32) &&& 31)) &&& (255 : Int32)) / x4 * x4)) fun v2 =>
    (gI h 10 x2 3).bind fun v3 =>
    (pI h 10 x2 3 (v3 &&& (((1 : Int32) <<< (v2 &&& 31)) ^^^ (-1 : Int32)))).bind fun h4 =>
    (f_L_tell x0 x1 (1000018 : Nat) h4).bind fun h5 =>
    (f_L_digits x0 x1 v2 h5).bind fun h6 =>
    (f_L_tell x0 x1 (1000017 : Nat) h6).bind fun h7 =>
    f_L_book_J309 x0 x1 x2 x3 x4 x5 h7
  else
    f_L_book_J309 x0 x1 x2 x3 x4 x5 h
theorem y_L_book_J252 {g : xG} {h0 : xH} (x0 : Nat) (x1 : Nat) (x2 : Nat) (x3 : Int32) (x4 : Int32) (x5 : Int32) (h : xH) : Y g DL_book h0 false iI (f_L_book_J252 x0 x1 x2 x3 x4 x5 h) 252 [some (.ref x0), some (.ref x1), some (.ref x2), some (.int x3), some (.int x4), some (.int x5), none, none, none] [] h := by
  unfold f_L_book_J252
  refine Y.op (pc' := 253) (fun _ => X.iloadn rfl dL_book_252) ?_
  refine Y.op (pc' := 254) (fun _ => X.ic ki_4 dL_book_253) ?_
  refine Y.op (pc' := 255) (fun _ => X.ishr dL_book_254) ?_
  refine Y.op (pc' := 256) (fun _ => X.ic ki_3 dL_book_255) ?_
  refine Y.op (pc' := 257) (fun _ => X.iand dL_book_256) ?_
  refine Y.ifne 309 (by decide) dL_book_257 ?_ ?_
  · exact y_L_book_J309 x0 x1 x2 x3 x4 x5 h
  · refine Y.op (pc' := 261) (fun _ => X.iloadn rfl dL_book_260) ?_
    refine Y.op (pc' := 263) (fun _ => X.bp kb_6 dL_book_261) ?_
    refine Y.op (pc' := 264) (fun _ => X.ishr dL_book_263) ?_
    refine Y.op (pc' := 267) (fun _ => X.sp ks_255 dL_book_264) ?_
    refine Y.op (pc' := 268) (fun _ => X.iand dL_book_267) ?_
    refine Y.op (pc' := 270) (fun _ => X.iload rfl dL_book_268) ?_
    refine Y.ite (fun _ => Y.nothing) (fun z1 => ?_)
    refine Y.op (pc' := 271) (fun _ => X.irem z1 dL_book_270) ?_
    refine Y.top (fun v2 => ?_)
    refine Y.op (pc' := 273) (loc' := [some (.ref x0), some (.ref x1), some (.ref x2), some (.int x3), some (.int x4), some (.int x5), some (.int v2), none, none]) (fun _ => X.istore (Nat.le_of_ble_eq_true rfl) rfl dL_book_271) ?_
    refine Y.op (pc' := 274) (fun _ => X.aloadn rfl dL_book_273) ?_
    refine Y.op (pc' := 275) (fun _ => X.dup rfl dL_book_274) ?_
    refine Y.getI fd_L_147 rfl dL_book_275 (fun v3 => ?_)
    refine Y.op (pc' := 279) (fun _ => X.ic ki_1 dL_book_278) ?_
    refine Y.op (pc' := 281) (fun _ => X.iload rfl dL_book_279) ?_
    refine Y.op (pc' := 282) (fun _ => X.ishl dL_book_281) ?_
    refine Y.op (pc' := 283) (fun _ => X.ic ki_m1 dL_book_282) ?_
    refine Y.op (pc' := 284) (fun _ => X.ixor dL_book_283) ?_
    refine Y.op (pc' := 285) (fun _ => X.iand dL_book_284) ?_
    refine Y.putI fd_L_147 rfl dL_book_285 (fun h4 => ?_)
    refine Y.op (pc' := 289) (fun _ => X.aloadn rfl dL_book_288) ?_
    refine Y.op (pc' := 290) (fun _ => X.aloadn rfl dL_book_289) ?_
    refine Y.op (pc' := 292) (fun _ => X.ldcS ws_L_180 rfl dL_book_290) ?_
    refine Y.callSv (As := [.ref x0, .ref x1, .ref (1000018 : Nat)]) lk_L_159 rfl cal_L_tell sta_L_tell (Nat.le_of_ble_eq_true rfl) rfl rfl (Nat.le_of_ble_eq_true rfl) dL_book_292 (fun _ e => m_L_tell x0 x1 (1000018 : Nat) h4 _ e) (fun h5 => ?_)
    refine Y.op (pc' := 296) (fun _ => X.aloadn rfl dL_book_295) ?_
    refine Y.op (pc' := 297) (fun _ => X.aloadn rfl dL_book_296) ?_
    refine Y.op (pc' := 299) (fun _ => X.iload rfl dL_book_297) ?_
    refine Y.callSv (As := [.ref x0, .ref x1, .int v2]) lk_L_163 rfl cal_L_digits sta_L_digits (Nat.le_of_ble_eq_true rfl) rfl rfl (Nat.le_of_ble_eq_true rfl) dL_book_299 (fun _ e => m_L_digits x0 x1 v2 h5 _ e) (fun h6 => ?_)
    refine Y.op (pc' := 303) (fun _ => X.aloadn rfl dL_book_302) ?_
    refine Y.op (pc' := 304) (fun _ => X.aloadn rfl dL_book_303) ?_
    refine Y.op (pc' := 306) (fun _ => X.ldcS ws_L_178 rfl dL_book_304) ?_
    refine Y.callSv (As := [.ref x0, .ref x1, .ref (1000017 : Nat)]) lk_L_159 rfl cal_L_tell sta_L_tell (Nat.le_of_ble_eq_true rfl) rfl rfl (Nat.le_of_ble_eq_true rfl) dL_book_306 (fun _ e => m_L_tell x0 x1 (1000017 : Nat) h6 _ e) (fun h7 => ?_)
    exact Y.fg (y_L_book_J309 x0 x1 x2 x3 x4 x5 h7) (And.intro rfl (And.intro rfl (And.intro rfl (And.intro rfl (And.intro rfl (And.intro rfl trivial))))))
def f_L_book_J246 (kH : Nat → Nat → Nat → Int32 → Int32 → Int32 → Int32 → xH → Option (Int32 × xH)) (kE252 : Nat → Nat → Nat → Int32 → Int32 → Int32 → xH → Option (Int32 × xH)) (x0 : Nat) (x1 : Nat) (x2 : Nat) (x3 : Int32) (x4 : Int32) (x5 : Int32) (x6 : Int32) (h : xH) : Option (Int32 × xH) :=
  lt (x6 + (1 : Int32)) fun v1 =>
  kH x0 x1 x2 x3 x4 x5 v1 h
theorem y_L_book_J246 {g : xG} {h0 : xH} {kH : Nat → Nat → Nat → Int32 → Int32 → Int32 → Int32 → xH → Option (Int32 × xH)} {kE252 : Nat → Nat → Nat → Int32 → Int32 → Int32 → xH → Option (Int32 × xH)} (hkH : ∀ (x0 : Nat) (x1 : Nat) (x2 : Nat) (x3 : Int32) (x4 : Int32) (x5 : Int32) (x6 : Int32) (h : xH), Y g DL_book h0 false iI (kH x0 x1 x2 x3 x4 x5 x6 h) 85 [some (.ref x0), some (.ref x1), some (.ref x2), some (.int x3), some (.int x4), some (.int x5), some (.int x6), none, none] [] h) (hkE252 : ∀ (x0 : Nat) (x1 : Nat) (x2 : Nat) (x3 : Int32) (x4 : Int32) (x5 : Int32) (h : xH), Y g DL_book h0 false iI (kE252 x0 x1 x2 x3 x4 x5 h) 252 [some (.ref x0), some (.ref x1), some (.ref x2), some (.int x3), some (.int x4), some (.int x5), none, none, none] [] h) (x0 : Nat) (x1 : Nat) (x2 : Nat) (x3 : Int32) (x4 : Int32) (x5 : Int32) (x6 : Int32) (h : xH) : Y g DL_book h0 false iI (f_L_book_J246 kH kE252 x0 x1 x2 x3 x4 x5 x6 h) 246 [some (.ref x0), some (.ref x1), some (.ref x2), some (.int x3), some (.int x4), some (.int x5), some (.int x6), none, none] [] h := by
  unfold f_L_book_J246
  refine Y.iinc (i := 6) (loc' := fun v1 => [some (.ref x0), some (.ref x1), some (.ref x2), some (.int x3), some (.int x4), some (.int x5), some (.int v1), none, none]) rfl (Nat.le_of_ble_eq_true rfl) ki_1 (fun _ => rfl) dL_book_246 (fun v1 => ?_)
  refine Y.op (pc' := 85) (fun _ => X.goto 85 (by decide) dL_book_249) ?_
  exact hkH x0 x1 x2 x3 x4 x5 v1 h
def f_L_book_J240 (kH : Nat → Nat → Nat → Int32 → Int32 → Int32 → Int32 → Int32 → xH → Option (Int32 × xH)) (kE246 : Nat → Nat → Nat → Int32 → Int32 → Int32 → Int32 → xH → Option (Int32 × xH)) (x0 : Nat) (x1 : Nat) (x2 : Nat) (x3 : Int32) (x4 : Int32) (x5 : Int32) (x6 : Int32) (x7 : Int32) (h : xH) : Option (Int32 × xH) :=
  lt (x7 + (1 : Int32)) fun v1 =>
  kH x0 x1 x2 x3 x4 x5 x6 v1 h
theorem y_L_book_J240 {g : xG} {h0 : xH} {kH : Nat → Nat → Nat → Int32 → Int32 → Int32 → Int32 → Int32 → xH → Option (Int32 × xH)} {kE246 : Nat → Nat → Nat → Int32 → Int32 → Int32 → Int32 → xH → Option (Int32 × xH)} (hkH : ∀ (x0 : Nat) (x1 : Nat) (x2 : Nat) (x3 : Int32) (x4 : Int32) (x5 : Int32) (x6 : Int32) (x7 : Int32) (h : xH), Y g DL_book h0 false iI (kH x0 x1 x2 x3 x4 x5 x6 x7 h) 95 [some (.ref x0), some (.ref x1), some (.ref x2), some (.int x3), some (.int x4), some (.int x5), some (.int x6), some (.int x7), none] [] h) (hkE246 : ∀ (x0 : Nat) (x1 : Nat) (x2 : Nat) (x3 : Int32) (x4 : Int32) (x5 : Int32) (x6 : Int32) (h : xH), Y g DL_book h0 false iI (kE246 x0 x1 x2 x3 x4 x5 x6 h) 246 [some (.ref x0), some (.ref x1), some (.ref x2), some (.int x3), some (.int x4), some (.int x5), some (.int x6), none, none] [] h) (x0 : Nat) (x1 : Nat) (x2 : Nat) (x3 : Int32) (x4 : Int32) (x5 : Int32) (x6 : Int32) (x7 : Int32) (h : xH) : Y g DL_book h0 false iI (f_L_book_J240 kH kE246 x0 x1 x2 x3 x4 x5 x6 x7 h) 240 [some (.ref x0), some (.ref x1), some (.ref x2), some (.int x3), some (.int x4), some (.int x5), some (.int x6), some (.int x7), none] [] h := by
  unfold f_L_book_J240
  refine Y.iinc (i := 7) (loc' := fun v1 => [some (.ref x0), some (.ref x1), some (.ref x2), some (.int x3), some (.int x4), some (.int x5), some (.int x6), some (.int v1), none]) rfl (Nat.le_of_ble_eq_true rfl) ki_1 (fun _ => rfl) dL_book_240 (fun v1 => ?_)
  refine Y.op (pc' := 95) (fun _ => X.goto 95 (by decide) dL_book_243) ?_
  exact hkH x0 x1 x2 x3 x4 x5 x6 v1 h
def f_L_book_J233 (kH : Nat → Nat → Nat → Int32 → Int32 → Int32 → Int32 → Int32 → xH → Option (Int32 × xH)) (kE246 : Nat → Nat → Nat → Int32 → Int32 → Int32 → Int32 → xH → Option (Int32 × xH)) (x0 : Nat) (x1 : Nat) (x2 : Nat) (x3 : Int32) (x4 : Int32) (x5 : Int32) (x6 : Int32) (x7 : Int32) (h : xH) : Option (Int32 × xH) :=
  (f_L_tell x0 x1 (1000017 : Nat) h).bind fun h1 =>
  f_L_book_J240 (kH) kE246 x0 x1 x2 x3 x4 x5 x6 x7 h1
theorem y_L_book_J233 {g : xG} {h0 : xH} {kH : Nat → Nat → Nat → Int32 → Int32 → Int32 → Int32 → Int32 → xH → Option (Int32 × xH)} {kE246 : Nat → Nat → Nat → Int32 → Int32 → Int32 → Int32 → xH → Option (Int32 × xH)} (hkH : ∀ (x0 : Nat) (x1 : Nat) (x2 : Nat) (x3 : Int32) (x4 : Int32) (x5 : Int32) (x6 : Int32) (x7 : Int32) (h : xH), Y g DL_book h0 false iI (kH x0 x1 x2 x3 x4 x5 x6 x7 h) 95 [some (.ref x0), some (.ref x1), some (.ref x2), some (.int x3), some (.int x4), some (.int x5), some (.int x6), some (.int x7), none] [] h) (hkE246 : ∀ (x0 : Nat) (x1 : Nat) (x2 : Nat) (x3 : Int32) (x4 : Int32) (x5 : Int32) (x6 : Int32) (h : xH), Y g DL_book h0 false iI (kE246 x0 x1 x2 x3 x4 x5 x6 h) 246 [some (.ref x0), some (.ref x1), some (.ref x2), some (.int x3), some (.int x4), some (.int x5), some (.int x6), none, none] [] h) (x0 : Nat) (x1 : Nat) (x2 : Nat) (x3 : Int32) (x4 : Int32) (x5 : Int32) (x6 : Int32) (x7 : Int32) (h : xH) : Y g DL_book h0 false iI (f_L_book_J233 kH kE246 x0 x1 x2 x3 x4 x5 x6 x7 h) 233 [some (.ref x0), some (.ref x1), some (.ref x2), some (.int x3), some (.int x4), some (.int x5), some (.int x6), some (.int x7), none] [] h := by
  unfold f_L_book_J233
  refine Y.op (pc' := 234) (fun _ => X.aloadn rfl dL_book_233) ?_
  refine Y.op (pc' := 235) (fun _ => X.aloadn rfl dL_book_234) ?_
  refine Y.op (pc' := 237) (fun _ => X.ldcS ws_L_178 rfl dL_book_235) ?_
  refine Y.callSv (As := [.ref x0, .ref x1, .ref (1000017 : Nat)]) lk_L_159 rfl cal_L_tell sta_L_tell (Nat.le_of_ble_eq_true rfl) rfl rfl (Nat.le_of_ble_eq_true rfl) dL_book_237 (fun _ e => m_L_tell x0 x1 (1000017 : Nat) h _ e) (fun h1 => ?_)
  exact y_L_book_J240 hkH hkE246 x0 x1 x2 x3 x4 x5 x6 x7 h1
def f_L_book_J169 (kH : Nat → Nat → Nat → Int32 → Int32 → Int32 → Int32 → Int32 → xH → Option (Int32 × xH)) (kE246 : Nat → Nat → Nat → Int32 → Int32 → Int32 → Int32 → xH → Option (Int32 × xH)) (x0 : Nat) (x1 : Nat) (x2 : Nat) (x3 : Int32) (x4 : Int32) (x5 : Int32) (x6 : Int32) (x7 : Int32) (s0 : Nat) (s1 : Int32) (s2 : Int32) (h : xH) : Option (Int32 × xH) :=
  (sI h s0 s1 s2).bind fun h1 =>
  (f_L_tell x0 x1 (1000015 : Nat) h1).bind fun h2 =>
  (f_L_digits x0 x1 x6 h2).bind fun h3 =>
  (f_L_tell x0 x1 (1000016 : Nat) h3).bind fun h4 =>
  (f_L_digits x0 x1 x7 h4).bind fun h5 =>
  (gR h5 10 x2 5).bind fun v6 =>
  (aR 102 h5 v6 x6).bind fun v7 =>
  (aI h5 v7 x7).bind fun v8 =>
  if v8 ≤ (0 : Int32) then
    f_L_book_J233 (kH) kE246 x0 x1 x2 x3 x4 x5 x6 x7 h5
  else
    (f_L_tell x0 x1 (1000016 : Nat) h5).bind fun h9 =>
    (gR h9 10 x2 5).bind fun v10 =>
    (aR 102 h9 v10 x6).bind fun v11 =>
    (aI h9 v11 x7).bind fun v12 =>
    (f_L_digits x0 x1 v12 h9).bind fun h13 =>
    f_L_book_J233 (kH) kE246 x0 x1 x2 x3 x4 x5 x6 x7 h13
theorem y_L_book_J169 {g : xG} {h0 : xH} {kH : Nat → Nat → Nat → Int32 → Int32 → Int32 → Int32 → Int32 → xH → Option (Int32 × xH)} {kE246 : Nat → Nat → Nat → Int32 → Int32 → Int32 → Int32 → xH → Option (Int32 × xH)} (hkH : ∀ (x0 : Nat) (x1 : Nat) (x2 : Nat) (x3 : Int32) (x4 : Int32) (x5 : Int32) (x6 : Int32) (x7 : Int32) (h : xH), Y g DL_book h0 false iI (kH x0 x1 x2 x3 x4 x5 x6 x7 h) 95 [some (.ref x0), some (.ref x1), some (.ref x2), some (.int x3), some (.int x4), some (.int x5), some (.int x6), some (.int x7), none] [] h) (hkE246 : ∀ (x0 : Nat) (x1 : Nat) (x2 : Nat) (x3 : Int32) (x4 : Int32) (x5 : Int32) (x6 : Int32) (h : xH), Y g DL_book h0 false iI (kE246 x0 x1 x2 x3 x4 x5 x6 h) 246 [some (.ref x0), some (.ref x1), some (.ref x2), some (.int x3), some (.int x4), some (.int x5), some (.int x6), none, none] [] h) (x0 : Nat) (x1 : Nat) (x2 : Nat) (x3 : Int32) (x4 : Int32) (x5 : Int32) (x6 : Int32) (x7 : Int32) (s0 : Nat) (s1 : Int32) (s2 : Int32) (h : xH) : Y g DL_book h0 false iI (f_L_book_J169 kH kE246 x0 x1 x2 x3 x4 x5 x6 x7 s0 s1 s2 h) 169 [some (.ref x0), some (.ref x1), some (.ref x2), some (.int x3), some (.int x4), some (.int x5), some (.int x6), some (.int x7), none] [.int s2, .int s1, .ref s0] h := by
  unfold f_L_book_J169
  refine Y.astI dL_book_169 (fun h1 => ?_)
  refine Y.op (pc' := 171) (fun _ => X.aloadn rfl dL_book_170) ?_
  refine Y.op (pc' := 172) (fun _ => X.aloadn rfl dL_book_171) ?_
  refine Y.op (pc' := 174) (fun _ => X.ldcS ws_L_174 rfl dL_book_172) ?_
  refine Y.callSv (As := [.ref x0, .ref x1, .ref (1000015 : Nat)]) lk_L_159 rfl cal_L_tell sta_L_tell (Nat.le_of_ble_eq_true rfl) rfl rfl (Nat.le_of_ble_eq_true rfl) dL_book_174 (fun _ e => m_L_tell x0 x1 (1000015 : Nat) h1 _ e) (fun h2 => ?_)
  refine Y.op (pc' := 178) (fun _ => X.aloadn rfl dL_book_177) ?_
  refine Y.op (pc' := 179) (fun _ => X.aloadn rfl dL_book_178) ?_
  refine Y.op (pc' := 181) (fun _ => X.iload rfl dL_book_179) ?_
  refine Y.callSv (As := [.ref x0, .ref x1, .int x6]) lk_L_163 rfl cal_L_digits sta_L_digits (Nat.le_of_ble_eq_true rfl) rfl rfl (Nat.le_of_ble_eq_true rfl) dL_book_181 (fun _ e => m_L_digits x0 x1 x6 h2 _ e) (fun h3 => ?_)
  refine Y.op (pc' := 185) (fun _ => X.aloadn rfl dL_book_184) ?_
  refine Y.op (pc' := 186) (fun _ => X.aloadn rfl dL_book_185) ?_
  refine Y.op (pc' := 188) (fun _ => X.ldcS ws_L_176 rfl dL_book_186) ?_
  refine Y.callSv (As := [.ref x0, .ref x1, .ref (1000016 : Nat)]) lk_L_159 rfl cal_L_tell sta_L_tell (Nat.le_of_ble_eq_true rfl) rfl rfl (Nat.le_of_ble_eq_true rfl) dL_book_188 (fun _ e => m_L_tell x0 x1 (1000016 : Nat) h3 _ e) (fun h4 => ?_)
  refine Y.op (pc' := 192) (fun _ => X.aloadn rfl dL_book_191) ?_
  refine Y.op (pc' := 193) (fun _ => X.aloadn rfl dL_book_192) ?_
  refine Y.op (pc' := 195) (fun _ => X.iload rfl dL_book_193) ?_
  refine Y.callSv (As := [.ref x0, .ref x1, .int x7]) lk_L_163 rfl cal_L_digits sta_L_digits (Nat.le_of_ble_eq_true rfl) rfl rfl (Nat.le_of_ble_eq_true rfl) dL_book_195 (fun _ e => m_L_digits x0 x1 x7 h4 _ e) (fun h5 => ?_)
  refine Y.op (pc' := 199) (fun _ => X.aloadn rfl dL_book_198) ?_
  refine Y.getR fd_L_171 rfl dL_book_199 (fun v6 => ?_)
  refine Y.op (pc' := 204) (fun _ => X.iload rfl dL_book_202) ?_
  refine Y.aldR 102 (by decide) (by decide) dL_book_204 (fun v7 => ?_)
  refine Y.op (pc' := 207) (fun _ => X.iload rfl dL_book_205) ?_
  refine Y.aldI dL_book_207 (fun v8 => ?_)
  refine Y.ifle 233 (by decide) dL_book_208 ?_ ?_
  · exact y_L_book_J233 hkH hkE246 x0 x1 x2 x3 x4 x5 x6 x7 h5
  · refine Y.op (pc' := 212) (fun _ => X.aloadn rfl dL_book_211) ?_
    refine Y.op (pc' := 213) (fun _ => X.aloadn rfl dL_book_212) ?_
    refine Y.op (pc' := 215) (fun _ => X.ldcS ws_L_176 rfl dL_book_213) ?_
    refine Y.callSv (As := [.ref x0, .ref x1, .ref (1000016 : Nat)]) lk_L_159 rfl cal_L_tell sta_L_tell (Nat.le_of_ble_eq_true rfl) rfl rfl (Nat.le_of_ble_eq_true rfl) dL_book_215 (fun _ e => m_L_tell x0 x1 (1000016 : Nat) h5 _ e) (fun h9 => ?_)
    refine Y.op (pc' := 219) (fun _ => X.aloadn rfl dL_book_218) ?_
    refine Y.op (pc' := 220) (fun _ => X.aloadn rfl dL_book_219) ?_
    refine Y.op (pc' := 221) (fun _ => X.aloadn rfl dL_book_220) ?_
    refine Y.getR fd_L_171 rfl dL_book_221 (fun v10 => ?_)
    refine Y.op (pc' := 226) (fun _ => X.iload rfl dL_book_224) ?_
    refine Y.aldR 102 (by decide) (by decide) dL_book_226 (fun v11 => ?_)
    refine Y.op (pc' := 229) (fun _ => X.iload rfl dL_book_227) ?_
    refine Y.aldI dL_book_229 (fun v12 => ?_)
    refine Y.callSv (As := [.ref x0, .ref x1, .int v12]) lk_L_163 rfl cal_L_digits sta_L_digits (Nat.le_of_ble_eq_true rfl) rfl rfl (Nat.le_of_ble_eq_true rfl) dL_book_230 (fun _ e => m_L_digits x0 x1 v12 h9 _ e) (fun h13 => ?_)
    exact y_L_book_J233 hkH hkE246 x0 x1 x2 x3 x4 x5 x6 x7 h13
def f_L_book_L95 (kE246 : Nat → Nat → Nat → Int32 → Int32 → Int32 → Int32 → xH → Option (Int32 × xH)) : Nat → Nat → Nat → Nat → Int32 → Int32 → Int32 → Int32 → Int32 → xH → Option (Int32 × xH)
  | 0 => fun _ _ _ _ _ _ _ _ _ => none
  | n + 1 => fun x0 x1 x2 x3 x4 x5 x6 x7 h =>
    if x7 ≥ x5 then
      kE246 x0 x1 x2 x3 x4 x5 x6 h
    else
      lt ((((x3 * (((2 : Int32) * x6) + (3 : Int32))) + ((11 : Int32) * x7)) + (((5 : Int32) * x6) * x7))) fun v1 =>
      if ((v1 >>> ((3 : Int32) &&& 31)) &&& (3 : Int32)) ≤ (1 : Int32) then
        (gR h 10 x2 5).bind fun v2 =>
        (aR 102 h v2 x6).bind fun v3 =>
        if ((v1 >>> ((5 : Int32) &&& 31)) &&& (1 : Int32)) = (0 : Int32) then
          f_L_book_J169 (f_L_book_L95 kE246 n) kE246 x0 x1 x2 x3 x4 x5 x6 x7 v3 x7 (0 : Int32) h
        else
          f_L_book_J169 (f_L_book_L95 kE246 n) kE246 x0 x1 x2 x3 x4 x5 x6 x7 v3 x7 ((v1 >>> ((6 : Int32) &&& 31)) &&& (15 : Int32)) h
      else
        f_L_book_J240 (f_L_book_L95 kE246 n) kE246 x0 x1 x2 x3 x4 x5 x6 x7 h
theorem y_L_book_L95 {g : xG} {h0 : xH} {kE246 : Nat → Nat → Nat → Int32 → Int32 → Int32 → Int32 → xH → Option (Int32 × xH)} (hkE246 : ∀ (x0 : Nat) (x1 : Nat) (x2 : Nat) (x3 : Int32) (x4 : Int32) (x5 : Int32) (x6 : Int32) (h : xH), Y g DL_book h0 false iI (kE246 x0 x1 x2 x3 x4 x5 x6 h) 246 [some (.ref x0), some (.ref x1), some (.ref x2), some (.int x3), some (.int x4), some (.int x5), some (.int x6), none, none] [] h) : ∀ (n : Nat) (x0 : Nat) (x1 : Nat) (x2 : Nat) (x3 : Int32) (x4 : Int32) (x5 : Int32) (x6 : Int32) (x7 : Int32) (h : xH), Y g DL_book h0 false iI (f_L_book_L95 kE246 n x0 x1 x2 x3 x4 x5 x6 x7 h) 95 [some (.ref x0), some (.ref x1), some (.ref x2), some (.int x3), some (.int x4), some (.int x5), some (.int x6), some (.int x7), none] [] h := by
  intro n
  induction n with
  | zero => intro x0 x1 x2 x3 x4 x5 x6 x7 h; exact Y.nothing
  | succ n ih =>
    intro x0 x1 x2 x3 x4 x5 x6 x7 h
    unfold f_L_book_L95
    refine Y.op (pc' := 97) (fun _ => X.iload rfl dL_book_95) ?_
    refine Y.op (pc' := 99) (fun _ => X.iload rfl dL_book_97) ?_
    refine Y.cmpge 246 (by decide) dL_book_99 ?_ ?_
    · exact Y.fg (hkE246 x0 x1 x2 x3 x4 x5 x6 h) (And.intro rfl (And.intro rfl (And.intro rfl (And.intro rfl (And.intro rfl (And.intro rfl (And.intro rfl trivial)))))))
    · refine Y.op (pc' := 103) (fun _ => X.iloadn rfl dL_book_102) ?_
      refine Y.op (pc' := 104) (fun _ => X.ic ki_2 dL_book_103) ?_
      refine Y.op (pc' := 106) (fun _ => X.iload rfl dL_book_104) ?_
      refine Y.op (pc' := 107) (fun _ => X.imul dL_book_106) ?_
      refine Y.op (pc' := 108) (fun _ => X.ic ki_3 dL_book_107) ?_
      refine Y.op (pc' := 109) (fun _ => X.iadd dL_book_108) ?_
      refine Y.op (pc' := 110) (fun _ => X.imul dL_book_109) ?_
      refine Y.op (pc' := 112) (fun _ => X.bp kb_11 dL_book_110) ?_
      refine Y.op (pc' := 114) (fun _ => X.iload rfl dL_book_112) ?_
      refine Y.op (pc' := 115) (fun _ => X.imul dL_book_114) ?_
      refine Y.op (pc' := 116) (fun _ => X.iadd dL_book_115) ?_
      refine Y.op (pc' := 117) (fun _ => X.ic ki_5 dL_book_116) ?_
      refine Y.op (pc' := 119) (fun _ => X.iload rfl dL_book_117) ?_
      refine Y.op (pc' := 120) (fun _ => X.imul dL_book_119) ?_
      refine Y.op (pc' := 122) (fun _ => X.iload rfl dL_book_120) ?_
      refine Y.op (pc' := 123) (fun _ => X.imul dL_book_122) ?_
      refine Y.op (pc' := 124) (fun _ => X.iadd dL_book_123) ?_
      refine Y.top (fun v1 => ?_)
      refine Y.op (pc' := 126) (loc' := [some (.ref x0), some (.ref x1), some (.ref x2), some (.int x3), some (.int x4), some (.int x5), some (.int x6), some (.int x7), some (.int v1)]) (fun _ => X.istore (Nat.le_of_ble_eq_true rfl) rfl dL_book_124) ?_
      refine Y.op (pc' := 128) (fun _ => X.iload rfl dL_book_126) ?_
      refine Y.op (pc' := 129) (fun _ => X.ic ki_3 dL_book_128) ?_
      refine Y.op (pc' := 130) (fun _ => X.ishr dL_book_129) ?_
      refine Y.op (pc' := 131) (fun _ => X.ic ki_3 dL_book_130) ?_
      refine Y.op (pc' := 132) (fun _ => X.iand dL_book_131) ?_
      refine Y.op (pc' := 133) (fun _ => X.ic ki_1 dL_book_132) ?_
      refine Y.cmple 139 (by decide) dL_book_133 ?_ ?_
      · refine Y.op (pc' := 140) (fun _ => X.aloadn rfl dL_book_139) ?_
        refine Y.getR fd_L_171 rfl dL_book_140 (fun v2 => ?_)
        refine Y.op (pc' := 145) (fun _ => X.iload rfl dL_book_143) ?_
        refine Y.aldR 102 (by decide) (by decide) dL_book_145 (fun v3 => ?_)
        refine Y.op (pc' := 148) (fun _ => X.iload rfl dL_book_146) ?_
        refine Y.op (pc' := 150) (fun _ => X.iload rfl dL_book_148) ?_
        refine Y.op (pc' := 151) (fun _ => X.ic ki_5 dL_book_150) ?_
        refine Y.op (pc' := 152) (fun _ => X.ishr dL_book_151) ?_
        refine Y.op (pc' := 153) (fun _ => X.ic ki_1 dL_book_152) ?_
        refine Y.op (pc' := 154) (fun _ => X.iand dL_book_153) ?_
        refine Y.ifne 161 (by decide) dL_book_154 ?_ ?_
        · refine Y.op (pc' := 163) (fun _ => X.iload rfl dL_book_161) ?_
          refine Y.op (pc' := 165) (fun _ => X.bp kb_6 dL_book_163) ?_
          refine Y.op (pc' := 166) (fun _ => X.ishr dL_book_165) ?_
          refine Y.op (pc' := 168) (fun _ => X.bp kb_15 dL_book_166) ?_
          refine Y.op (pc' := 169) (fun _ => X.iand dL_book_168) ?_
          exact Y.fg (y_L_book_J169 ih hkE246 x0 x1 x2 x3 x4 x5 x6 x7 v3 x7 ((v1 >>> ((6 : Int32) &&& 31)) &&& (15 : Int32)) h) (And.intro rfl (And.intro rfl (And.intro rfl (And.intro rfl (And.intro rfl (And.intro rfl (And.intro rfl (And.intro rfl trivial))))))))
        · refine Y.op (pc' := 158) (fun _ => X.ic ki_0 dL_book_157) ?_
          refine Y.op (pc' := 169) (fun _ => X.goto 169 (by decide) dL_book_158) ?_
          exact Y.fg (y_L_book_J169 ih hkE246 x0 x1 x2 x3 x4 x5 x6 x7 v3 x7 (0 : Int32) h) (And.intro rfl (And.intro rfl (And.intro rfl (And.intro rfl (And.intro rfl (And.intro rfl (And.intro rfl (And.intro rfl trivial))))))))
      · refine Y.op (pc' := 240) (fun _ => X.goto 240 (by decide) dL_book_136) ?_
        exact Y.fg (y_L_book_J240 ih hkE246 x0 x1 x2 x3 x4 x5 x6 x7 h) (And.intro rfl (And.intro rfl (And.intro rfl (And.intro rfl (And.intro rfl (And.intro rfl (And.intro rfl (And.intro rfl trivial))))))))
def f_L_book_L85 (kE252 : Nat → Nat → Nat → Int32 → Int32 → Int32 → xH → Option (Int32 × xH)) : Nat → Nat → Nat → Nat → Int32 → Int32 → Int32 → Int32 → xH → Option (Int32 × xH)
  | 0 => fun _ _ _ _ _ _ _ _ => none
  | n + 1 => fun x0 x1 x2 x3 x4 x5 x6 h =>
    if x6 ≥ x4 then
      kE252 x0 x1 x2 x3 x4 x5 h
    else
      f_L_book_L95 (f_L_book_J246 (f_L_book_L85 kE252 n) kE252) 5000 x0 x1 x2 x3 x4 x5 x6 (0 : Int32) h
theorem y_L_book_L85 {g : xG} {h0 : xH} {kE252 : Nat → Nat → Nat → Int32 → Int32 → Int32 → xH → Option (Int32 × xH)} (hkE252 : ∀ (x0 : Nat) (x1 : Nat) (x2 : Nat) (x3 : Int32) (x4 : Int32) (x5 : Int32) (h : xH), Y g DL_book h0 false iI (kE252 x0 x1 x2 x3 x4 x5 h) 252 [some (.ref x0), some (.ref x1), some (.ref x2), some (.int x3), some (.int x4), some (.int x5), none, none, none] [] h) : ∀ (n : Nat) (x0 : Nat) (x1 : Nat) (x2 : Nat) (x3 : Int32) (x4 : Int32) (x5 : Int32) (x6 : Int32) (h : xH), Y g DL_book h0 false iI (f_L_book_L85 kE252 n x0 x1 x2 x3 x4 x5 x6 h) 85 [some (.ref x0), some (.ref x1), some (.ref x2), some (.int x3), some (.int x4), some (.int x5), some (.int x6), none, none] [] h := by
  intro n
  induction n with
  | zero => intro x0 x1 x2 x3 x4 x5 x6 h; exact Y.nothing
  | succ n ih =>
    intro x0 x1 x2 x3 x4 x5 x6 h
    unfold f_L_book_L85
    refine Y.op (pc' := 87) (fun _ => X.iload rfl dL_book_85) ?_
    refine Y.op (pc' := 89) (fun _ => X.iload rfl dL_book_87) ?_
    refine Y.cmpge 252 (by decide) dL_book_89 ?_ ?_
    · exact Y.fg (hkE252 x0 x1 x2 x3 x4 x5 h) (And.intro rfl (And.intro rfl (And.intro rfl (And.intro rfl (And.intro rfl (And.intro rfl trivial))))))
    · refine Y.op (pc' := 93) (fun _ => X.ic ki_0 dL_book_92) ?_
      refine Y.op (pc' := 95) (loc' := [some (.ref x0), some (.ref x1), some (.ref x2), some (.int x3), some (.int x4), some (.int x5), some (.int x6), some (.int (0 : Int32)), none]) (fun _ => X.istore (Nat.le_of_ble_eq_true rfl) rfl dL_book_93) ?_
      exact y_L_book_L95 (y_L_book_J246 ih hkE252) 5000 x0 x1 x2 x3 x4 x5 x6 (0 : Int32) h
def f_L_book_J44 (x0 : Nat) (x1 : Nat) (x2 : Nat) (x3 : Int32) (x4 : Int32) (x5 : Int32) (s0 : Nat) (s1 : Int32) (h : xH) : Option (Int32 × xH) :=
  (pZ h 10 s0 2 s1).bind fun h1 =>
  (f_L_tell x0 x1 (1000012 : Nat) h1).bind fun h2 =>
  (f_L_digits x0 x1 x4 h2).bind fun h3 =>
  (f_L_tell x0 x1 (1000013 : Nat) h3).bind fun h4 =>
  (f_L_digits x0 x1 x5 h4).bind fun h5 =>
  (f_L_tell x0 x1 (1000014 : Nat) h5).bind fun h6 =>
  f_L_book_L85 (f_L_book_J252) 5000 x0 x1 x2 x3 x4 x5 (0 : Int32) h6
theorem y_L_book_J44 {g : xG} {h0 : xH} (x0 : Nat) (x1 : Nat) (x2 : Nat) (x3 : Int32) (x4 : Int32) (x5 : Int32) (s0 : Nat) (s1 : Int32) (h : xH) : Y g DL_book h0 false iI (f_L_book_J44 x0 x1 x2 x3 x4 x5 s0 s1 h) 44 [some (.ref x0), some (.ref x1), some (.ref x2), some (.int x3), some (.int x4), some (.int x5), none, none, none] [.int s1, .ref s0] h := by
  unfold f_L_book_J44
  refine Y.putZ fd_L_153 rfl dL_book_44 (fun h1 => ?_)
  refine Y.op (pc' := 48) (fun _ => X.aloadn rfl dL_book_47) ?_
  refine Y.op (pc' := 49) (fun _ => X.aloadn rfl dL_book_48) ?_
  refine Y.op (pc' := 51) (fun _ => X.ldcS ws_L_157 rfl dL_book_49) ?_
  refine Y.callSv (As := [.ref x0, .ref x1, .ref (1000012 : Nat)]) lk_L_159 rfl cal_L_tell sta_L_tell (Nat.le_of_ble_eq_true rfl) rfl rfl (Nat.le_of_ble_eq_true rfl) dL_book_51 (fun _ e => m_L_tell x0 x1 (1000012 : Nat) h1 _ e) (fun h2 => ?_)
  refine Y.op (pc' := 55) (fun _ => X.aloadn rfl dL_book_54) ?_
  refine Y.op (pc' := 56) (fun _ => X.aloadn rfl dL_book_55) ?_
  refine Y.op (pc' := 58) (fun _ => X.iload rfl dL_book_56) ?_
  refine Y.callSv (As := [.ref x0, .ref x1, .int x4]) lk_L_163 rfl cal_L_digits sta_L_digits (Nat.le_of_ble_eq_true rfl) rfl rfl (Nat.le_of_ble_eq_true rfl) dL_book_58 (fun _ e => m_L_digits x0 x1 x4 h2 _ e) (fun h3 => ?_)
  refine Y.op (pc' := 62) (fun _ => X.aloadn rfl dL_book_61) ?_
  refine Y.op (pc' := 63) (fun _ => X.aloadn rfl dL_book_62) ?_
  refine Y.op (pc' := 65) (fun _ => X.ldcS ws_L_167 rfl dL_book_63) ?_
  refine Y.callSv (As := [.ref x0, .ref x1, .ref (1000013 : Nat)]) lk_L_159 rfl cal_L_tell sta_L_tell (Nat.le_of_ble_eq_true rfl) rfl rfl (Nat.le_of_ble_eq_true rfl) dL_book_65 (fun _ e => m_L_tell x0 x1 (1000013 : Nat) h3 _ e) (fun h4 => ?_)
  refine Y.op (pc' := 69) (fun _ => X.aloadn rfl dL_book_68) ?_
  refine Y.op (pc' := 70) (fun _ => X.aloadn rfl dL_book_69) ?_
  refine Y.op (pc' := 72) (fun _ => X.iload rfl dL_book_70) ?_
  refine Y.callSv (As := [.ref x0, .ref x1, .int x5]) lk_L_163 rfl cal_L_digits sta_L_digits (Nat.le_of_ble_eq_true rfl) rfl rfl (Nat.le_of_ble_eq_true rfl) dL_book_72 (fun _ e => m_L_digits x0 x1 x5 h4 _ e) (fun h5 => ?_)
  refine Y.op (pc' := 76) (fun _ => X.aloadn rfl dL_book_75) ?_
  refine Y.op (pc' := 77) (fun _ => X.aloadn rfl dL_book_76) ?_
  refine Y.op (pc' := 79) (fun _ => X.ldcS ws_L_169 rfl dL_book_77) ?_
  refine Y.callSv (As := [.ref x0, .ref x1, .ref (1000014 : Nat)]) lk_L_159 rfl cal_L_tell sta_L_tell (Nat.le_of_ble_eq_true rfl) rfl rfl (Nat.le_of_ble_eq_true rfl) dL_book_79 (fun _ e => m_L_tell x0 x1 (1000014 : Nat) h5 _ e) (fun h6 => ?_)
  refine Y.op (pc' := 83) (fun _ => X.ic ki_0 dL_book_82) ?_
  refine Y.op (pc' := 85) (loc' := [some (.ref x0), some (.ref x1), some (.ref x2), some (.int x3), some (.int x4), some (.int x5), some (.int (0 : Int32)), none, none]) (fun _ => X.istore (Nat.le_of_ble_eq_true rfl) rfl dL_book_83) ?_
  exact y_L_book_L85 (y_L_book_J252) 5000 x0 x1 x2 x3 x4 x5 (0 : Int32) h6
def f_L_book (p1 : Nat) (p2 : Nat) (p3 : Nat) (p4 : Int32) (p5 : Int32) (p6 : Int32) (h : xH) : Option (Int32 × xH) :=
  (pI h 10 p3 0 p5).bind fun h1 =>
  (pI h1 10 p3 1 p6).bind fun h2 =>
  (pI h2 10 p3 3 (((1 : Int32) <<< (p5 &&& 31)) - (1 : Int32))).bind fun h3 =>
  (pI h3 10 p3 4 (((1 : Int32) <<< (p6 &&& 31)) - (1 : Int32))).bind fun h4 =>
  if (p4 &&& (1 : Int32)) = (0 : Int32) then
    f_L_book_J44 p1 p2 p3 p4 p5 p6 p3 (1 : Int32) h4
  else
    f_L_book_J44 p1 p2 p3 p4 p5 p6 p3 (0 : Int32) h4
theorem y_L_book {g : xG} {h0 : xH} (p1 : Nat) (p2 : Nat) (p3 : Nat) (p4 : Int32) (p5 : Int32) (p6 : Int32) (h : xH) : Y g DL_book h0 false iI (f_L_book p1 p2 p3 p4 p5 p6 h) 0 [some (.ref p1), some (.ref p2), some (.ref p3), some (.int p4), some (.int p5), some (.int p6), none, none, none] [] h := by
  unfold f_L_book
  refine Y.op (pc' := 1) (fun _ => X.aloadn rfl dL_book_0) ?_
  refine Y.op (pc' := 3) (fun _ => X.iload rfl dL_book_1) ?_
  refine Y.putI fd_L_138 rfl dL_book_3 (fun h1 => ?_)
  refine Y.op (pc' := 7) (fun _ => X.aloadn rfl dL_book_6) ?_
  refine Y.op (pc' := 9) (fun _ => X.iload rfl dL_book_7) ?_
  refine Y.putI fd_L_144 rfl dL_book_9 (fun h2 => ?_)
  refine Y.op (pc' := 13) (fun _ => X.aloadn rfl dL_book_12) ?_
  refine Y.op (pc' := 14) (fun _ => X.ic ki_1 dL_book_13) ?_
  refine Y.op (pc' := 16) (fun _ => X.iload rfl dL_book_14) ?_
  refine Y.op (pc' := 17) (fun _ => X.ishl dL_book_16) ?_
  refine Y.op (pc' := 18) (fun _ => X.ic ki_1 dL_book_17) ?_
  refine Y.op (pc' := 19) (fun _ => X.isub dL_book_18) ?_
  refine Y.putI fd_L_147 rfl dL_book_19 (fun h3 => ?_)
  refine Y.op (pc' := 23) (fun _ => X.aloadn rfl dL_book_22) ?_
  refine Y.op (pc' := 24) (fun _ => X.ic ki_1 dL_book_23) ?_
  refine Y.op (pc' := 26) (fun _ => X.iload rfl dL_book_24) ?_
  refine Y.op (pc' := 27) (fun _ => X.ishl dL_book_26) ?_
  refine Y.op (pc' := 28) (fun _ => X.ic ki_1 dL_book_27) ?_
  refine Y.op (pc' := 29) (fun _ => X.isub dL_book_28) ?_
  refine Y.putI fd_L_150 rfl dL_book_29 (fun h4 => ?_)
  refine Y.op (pc' := 33) (fun _ => X.aloadn rfl dL_book_32) ?_
  refine Y.op (pc' := 34) (fun _ => X.iloadn rfl dL_book_33) ?_
  refine Y.op (pc' := 35) (fun _ => X.ic ki_1 dL_book_34) ?_
  refine Y.op (pc' := 36) (fun _ => X.iand dL_book_35) ?_
  refine Y.ifne 43 (by decide) dL_book_36 ?_ ?_
  · refine Y.op (pc' := 44) (fun _ => X.ic ki_0 dL_book_43) ?_
    exact y_L_book_J44 p1 p2 p3 p4 p5 p6 p3 (0 : Int32) h4
  · refine Y.op (pc' := 40) (fun _ => X.ic ki_1 dL_book_39) ?_
    refine Y.op (pc' := 44) (fun _ => X.goto 44 (by decide) dL_book_40) ?_
    exact y_L_book_J44 p1 p2 p3 p4 p5 p6 p3 (1 : Int32) h4
theorem m_L_book {g : xG} (p1 : Nat) (p2 : Nat) (p3 : Nat) (p4 : Int32) (p5 : Int32) (p6 : Int32) (h : xH) (r : Int32 × xH) (e : f_L_book p1 p2 p3 p4 p5 p6 h = some r) : XM g DL_book [.ref p1, .ref p2, .ref p3, .int p4, .int p5, .int p6] h false (iI r) := YM.of rfl rfl (Nat.le_of_ble_eq_true rfl) (y_L_book p1 p2 p3 p4 p5 p6 h) e
