def f_X10_many_J251 (x3 : Int64) (h : xH) : Option (Int64 × xH) :=
  some (x3, h)
theorem y_X10_many_J251 {g : xG} {h0 : xH} {cl : Bool} (x3 : Int64) (h : xH) : Y g DX10_many h0 cl iJ (f_X10_many_J251 x3 h) 251 [none, none, none, some (.long x3), none, none] [] h := by
  unfold f_X10_many_J251
  refine Y.op (pc' := 252) (fun _ => X.lloadn rfl dX10_many_251) ?_
  exact Y.lreturn rfl dX10_many_252
def f_X10_many_J243 (kH : Nat → Int32 → Int32 → Int64 → Int32 → xH → Option (Int64 × xH)) (kE251 : Int64 → xH → Option (Int64 × xH)) (x0 : Nat) (x1 : Int32) (x2 : Int32) (x5 : Int32) (s0 : Int64) (s1 : Int64) (h : xH) : Option (Int64 × xH) :=
  lt ((s0 + s1)) fun v1 =>
  lt (x5 + (1 : Int32)) fun v2 =>
  kH x0 x1 x2 v1 v2 h
theorem y_X10_many_J243 {g : xG} {h0 : xH} {cl : Bool} {kH : Nat → Int32 → Int32 → Int64 → Int32 → xH → Option (Int64 × xH)} {kE251 : Int64 → xH → Option (Int64 × xH)} (hkH : ∀ (x0 : Nat) (x1 : Int32) (x2 : Int32) (x3 : Int64) (x5 : Int32) (h : xH), Y g DX10_many h0 cl iJ (kH x0 x1 x2 x3 x5 h) 216 [some (.ref x0), some (.int x1), some (.int x2), some (.long x3), none, some (.int x5)] [] h) (hkE251 : ∀ (x3 : Int64) (h : xH), Y g DX10_many h0 cl iJ (kE251 x3 h) 251 [none, none, none, some (.long x3), none, none] [] h) (x0 : Nat) (x1 : Int32) (x2 : Int32) (x5 : Int32) (s0 : Int64) (s1 : Int64) (h : xH) : Y g DX10_many h0 cl iJ (f_X10_many_J243 kH kE251 x0 x1 x2 x5 s0 s1 h) 243 [some (.ref x0), some (.int x1), some (.int x2), none, none, some (.int x5)] [.long s1, .long s0] h := by
  unfold f_X10_many_J243
  refine Y.op (pc' := 244) (fun _ => X.ladd dX10_many_243) ?_
  refine Y.topl (fun v1 => ?_)
  refine Y.op (pc' := 245) (loc' := [some (.ref x0), some (.int x1), some (.int x2), some (.long v1), none, some (.int x5)]) (fun _ => X.lstoren (Nat.le_of_ble_eq_true rfl) rfl dX10_many_244) ?_
  refine Y.iinc (i := 5) (loc' := fun v2 => [some (.ref x0), some (.int x1), some (.int x2), some (.long v1), none, some (.int v2)]) rfl (Nat.le_of_ble_eq_true rfl) ki_1 (fun _ => rfl) dX10_many_245 (fun v2 => ?_)
  refine Y.op (pc' := 216) (fun _ => X.goto 216 (by decide) dX10_many_248) ?_
  exact hkH x0 x1 x2 v1 v2 h
def f_X10_many_L216 (kE251 : Int64 → xH → Option (Int64 × xH)) : Nat → Nat → Int32 → Int32 → Int64 → Int32 → xH → Option (Int64 × xH)
  | 0 => fun _ _ _ _ _ _ => none
  | n + 1 => fun x0 x1 x2 x3 x5 h =>
    if x5 ≥ x1 then
      kE251 x3 h
    else
      (f_X10_ones x5 h).bind fun r1 =>
      if r1.1 = x2 then
        (gR r1.2 10 x0 35).bind fun v2 =>
        (aJ r1.2 v2 x5).bind fun v3 =>
        f_X10_many_J243 (f_X10_many_L216 kE251 n) kE251 x0 x1 x2 x5 x3 v3 r1.2
      else
        f_X10_many_J243 (f_X10_many_L216 kE251 n) kE251 x0 x1 x2 x5 x3 (0 : Int64) r1.2
theorem y_X10_many_L216 {g : xG} {h0 : xH} {cl : Bool} {kE251 : Int64 → xH → Option (Int64 × xH)} (hkE251 : ∀ (x3 : Int64) (h : xH), Y g DX10_many h0 cl iJ (kE251 x3 h) 251 [none, none, none, some (.long x3), none, none] [] h) : ∀ (n : Nat) (x0 : Nat) (x1 : Int32) (x2 : Int32) (x3 : Int64) (x5 : Int32) (h : xH), Y g DX10_many h0 cl iJ (f_X10_many_L216 kE251 n x0 x1 x2 x3 x5 h) 216 [some (.ref x0), some (.int x1), some (.int x2), some (.long x3), none, some (.int x5)] [] h := by
  intro n
  induction n with
  | zero => intro x0 x1 x2 x3 x5 h; exact Y.nothing
  | succ n ih =>
    intro x0 x1 x2 x3 x5 h
    unfold f_X10_many_L216
    refine Y.op (pc' := 218) (fun _ => X.iload rfl dX10_many_216) ?_
    refine Y.op (pc' := 219) (fun _ => X.iloadn rfl dX10_many_218) ?_
    refine Y.cmpge 251 (by decide) dX10_many_219 ?_ ?_
    · exact Y.fg (hkE251 x3 h) (And.intro rfl trivial)
    · refine Y.op (pc' := 223) (fun _ => X.lloadn rfl dX10_many_222) ?_
      refine Y.op (pc' := 225) (fun _ => X.iload rfl dX10_many_223) ?_
      refine Y.callSi (As := [.int x5]) lk_X10_270 rfl cal_X10_ones sta_X10_ones (Nat.le_of_ble_eq_true rfl) rfl rfl (Nat.le_of_ble_eq_true rfl) dX10_many_225 (fun _ e => m_X10_ones x5 h _ _ e) (fun r1 => ?_)
      refine Y.op (pc' := 229) (fun _ => X.iloadn rfl dX10_many_228) ?_
      refine Y.cmpne 242 (by decide) dX10_many_229 ?_ ?_
      · refine Y.op (pc' := 243) (fun _ => X.lc kl_0 dX10_many_242) ?_
        exact Y.fg (y_X10_many_J243 ih hkE251 x0 x1 x2 x5 x3 (0 : Int64) r1.2) (And.intro rfl (And.intro rfl (And.intro rfl (And.intro rfl trivial))))
      · refine Y.op (pc' := 233) (fun _ => X.aloadn rfl dX10_many_232) ?_
        refine Y.getR fd_X10_63 rfl dX10_many_233 (fun v2 => ?_)
        refine Y.op (pc' := 238) (fun _ => X.iload rfl dX10_many_236) ?_
        refine Y.aldJ dX10_many_238 (fun v3 => ?_)
        refine Y.op (pc' := 243) (fun _ => X.goto 243 (by decide) dX10_many_239) ?_
        exact Y.fg (y_X10_many_J243 ih hkE251 x0 x1 x2 x5 x3 v3 r1.2) (And.intro rfl (And.intro rfl (And.intro rfl (And.intro rfl trivial))))
def f_X10_many_J211 (x0 : Nat) (x1 : Int32) (x2 : Int32) (h : xH) : Option (Int64 × xH) :=
  f_X10_many_L216 (f_X10_many_J251) 5000 x0 x1 x2 (0 : Int64) (0 : Int32) h
theorem y_X10_many_J211 {g : xG} {h0 : xH} {cl : Bool} (x0 : Nat) (x1 : Int32) (x2 : Int32) (h : xH) : Y g DX10_many h0 cl iJ (f_X10_many_J211 x0 x1 x2 h) 211 [some (.ref x0), some (.int x1), some (.int x2), none, none, none] [] h := by
  unfold f_X10_many_J211
  refine Y.op (pc' := 212) (fun _ => X.lc kl_0 dX10_many_211) ?_
  refine Y.op (pc' := 213) (loc' := [some (.ref x0), some (.int x1), some (.int x2), some (.long (0 : Int64)), none, none]) (fun _ => X.lstoren (Nat.le_of_ble_eq_true rfl) rfl dX10_many_212) ?_
  refine Y.op (pc' := 214) (fun _ => X.ic ki_0 dX10_many_213) ?_
  refine Y.op (pc' := 216) (loc' := [some (.ref x0), some (.int x1), some (.int x2), some (.long (0 : Int64)), none, some (.int (0 : Int32))]) (fun _ => X.istore (Nat.le_of_ble_eq_true rfl) rfl dX10_many_214) ?_
  exact y_X10_many_L216 (y_X10_many_J251) 5000 x0 x1 x2 (0 : Int64) (0 : Int32) h
def f_X10_many_J205 (kH : Nat → Int32 → Int32 → Int32 → xH → Option (Int64 × xH)) (kE211 : Nat → Int32 → Int32 → xH → Option (Int64 × xH)) (x0 : Nat) (x1 : Int32) (x2 : Int32) (x3 : Int32) (h : xH) : Option (Int64 × xH) :=
  lt (x3 + (1 : Int32)) fun v1 =>
  kH x0 x1 x2 v1 h
theorem y_X10_many_J205 {g : xG} {h0 : xH} {cl : Bool} {kH : Nat → Int32 → Int32 → Int32 → xH → Option (Int64 × xH)} {kE211 : Nat → Int32 → Int32 → xH → Option (Int64 × xH)} (hkH : ∀ (x0 : Nat) (x1 : Int32) (x2 : Int32) (x3 : Int32) (h : xH), Y g DX10_many h0 cl iJ (kH x0 x1 x2 x3 h) 51 [some (.ref x0), some (.int x1), some (.int x2), some (.int x3), none, none] [] h) (hkE211 : ∀ (x0 : Nat) (x1 : Int32) (x2 : Int32) (h : xH), Y g DX10_many h0 cl iJ (kE211 x0 x1 x2 h) 211 [some (.ref x0), some (.int x1), some (.int x2), none, none, none] [] h) (x0 : Nat) (x1 : Int32) (x2 : Int32) (x3 : Int32) (h : xH) : Y g DX10_many h0 cl iJ (f_X10_many_J205 kH kE211 x0 x1 x2 x3 h) 205 [some (.ref x0), some (.int x1), some (.int x2), some (.int x3), none, none] [] h := by
  unfold f_X10_many_J205
  refine Y.iinc (i := 3) (loc' := fun v1 => [some (.ref x0), some (.int x1), some (.int x2), some (.int v1), none, none]) rfl (Nat.le_of_ble_eq_true rfl) ki_1 (fun _ => rfl) dX10_many_205 (fun v1 => ?_)
  refine Y.op (pc' := 51) (fun _ => X.goto 51 (by decide) dX10_many_208) ?_
  exact hkH x0 x1 x2 v1 h
def f_X10_many_L179 (kE205 : Nat → Int32 → Int32 → Int32 → xH → Option (Int64 × xH)) : Nat → Nat → Int32 → Int32 → Int32 → Int32 → xH → Option (Int64 × xH)
  | 0 => fun _ _ _ _ _ _ => none
  | n + 1 => fun x0 x1 x2 x3 x4 h =>
    if x4 ≥ x1 then
      kE205 x0 x1 x2 x3 h
    else
      (gR h 10 x0 35).bind fun v1 =>
      (gR h 10 x0 36).bind fun v2 =>
      (aJ h v2 x4).bind fun v3 =>
      (sJ h v1 x4 v3).bind fun h4 =>
      lt (x4 + (1 : Int32)) fun v5 =>
      f_X10_many_L179 kE205 n x0 x1 x2 x3 v5 h4
theorem y_X10_many_L179 {g : xG} {h0 : xH} {cl : Bool} {kE205 : Nat → Int32 → Int32 → Int32 → xH → Option (Int64 × xH)} (hkE205 : ∀ (x0 : Nat) (x1 : Int32) (x2 : Int32) (x3 : Int32) (h : xH), Y g DX10_many h0 cl iJ (kE205 x0 x1 x2 x3 h) 205 [some (.ref x0), some (.int x1), some (.int x2), some (.int x3), none, none] [] h) : ∀ (n : Nat) (x0 : Nat) (x1 : Int32) (x2 : Int32) (x3 : Int32) (x4 : Int32) (h : xH), Y g DX10_many h0 cl iJ (f_X10_many_L179 kE205 n x0 x1 x2 x3 x4 h) 179 [some (.ref x0), some (.int x1), some (.int x2), some (.int x3), some (.int x4), none] [] h := by
  intro n
  induction n with
  | zero => intro x0 x1 x2 x3 x4 h; exact Y.nothing
  | succ n ih =>
    intro x0 x1 x2 x3 x4 h
    unfold f_X10_many_L179
    refine Y.op (pc' := 181) (fun _ => X.iload rfl dX10_many_179) ?_
    refine Y.op (pc' := 182) (fun _ => X.iloadn rfl dX10_many_181) ?_
    refine Y.cmpge 205 (by decide) dX10_many_182 ?_ ?_
    · exact Y.fg (hkE205 x0 x1 x2 x3 h) (And.intro rfl (And.intro rfl (And.intro rfl (And.intro rfl trivial))))
    · refine Y.op (pc' := 186) (fun _ => X.aloadn rfl dX10_many_185) ?_
      refine Y.getR fd_X10_63 rfl dX10_many_186 (fun v1 => ?_)
      refine Y.op (pc' := 191) (fun _ => X.iload rfl dX10_many_189) ?_
      refine Y.op (pc' := 192) (fun _ => X.aloadn rfl dX10_many_191) ?_
      refine Y.getR fd_X10_67 rfl dX10_many_192 (fun v2 => ?_)
      refine Y.op (pc' := 197) (fun _ => X.iload rfl dX10_many_195) ?_
      refine Y.aldJ dX10_many_197 (fun v3 => ?_)
      refine Y.astJ dX10_many_198 (fun h4 => ?_)
      refine Y.iinc (i := 4) (loc' := fun v5 => [some (.ref x0), some (.int x1), some (.int x2), some (.int x3), some (.int v5), none]) rfl (Nat.le_of_ble_eq_true rfl) ki_1 (fun _ => rfl) dX10_many_199 (fun v5 => ?_)
      refine Y.op (pc' := 179) (fun _ => X.goto 179 (by decide) dX10_many_202) ?_
      exact ih x0 x1 x2 x3 v5 h4
def f_X10_many_J176 (kH : Nat → Int32 → Int32 → Int32 → xH → Option (Int64 × xH)) (kE211 : Nat → Int32 → Int32 → xH → Option (Int64 × xH)) (x0 : Nat) (x1 : Int32) (x2 : Int32) (x3 : Int32) (h : xH) : Option (Int64 × xH) :=
  f_X10_many_L179 (f_X10_many_J205 (kH) kE211) 5000 x0 x1 x2 x3 (0 : Int32) h
theorem y_X10_many_J176 {g : xG} {h0 : xH} {cl : Bool} {kH : Nat → Int32 → Int32 → Int32 → xH → Option (Int64 × xH)} {kE211 : Nat → Int32 → Int32 → xH → Option (Int64 × xH)} (hkH : ∀ (x0 : Nat) (x1 : Int32) (x2 : Int32) (x3 : Int32) (h : xH), Y g DX10_many h0 cl iJ (kH x0 x1 x2 x3 h) 51 [some (.ref x0), some (.int x1), some (.int x2), some (.int x3), none, none] [] h) (hkE211 : ∀ (x0 : Nat) (x1 : Int32) (x2 : Int32) (h : xH), Y g DX10_many h0 cl iJ (kE211 x0 x1 x2 h) 211 [some (.ref x0), some (.int x1), some (.int x2), none, none, none] [] h) (x0 : Nat) (x1 : Int32) (x2 : Int32) (x3 : Int32) (h : xH) : Y g DX10_many h0 cl iJ (f_X10_many_J176 kH kE211 x0 x1 x2 x3 h) 176 [some (.ref x0), some (.int x1), some (.int x2), some (.int x3), none, none] [] h := by
  unfold f_X10_many_J176
  refine Y.op (pc' := 177) (fun _ => X.ic ki_0 dX10_many_176) ?_
  refine Y.op (pc' := 179) (loc' := [some (.ref x0), some (.int x1), some (.int x2), some (.int x3), some (.int (0 : Int32)), none]) (fun _ => X.istore (Nat.le_of_ble_eq_true rfl) rfl dX10_many_177) ?_
  exact y_X10_many_L179 (y_X10_many_J205 hkH hkE211) 5000 x0 x1 x2 x3 (0 : Int32) h
def f_X10_many_J170 (kH : Nat → Int32 → Int32 → Int32 → Int32 → xH → Option (Int64 × xH)) (kE176 : Nat → Int32 → Int32 → Int32 → xH → Option (Int64 × xH)) (x0 : Nat) (x1 : Int32) (x2 : Int32) (x3 : Int32) (x4 : Int32) (h : xH) : Option (Int64 × xH) :=
  lt (x4 + (1 : Int32)) fun v1 =>
  kH x0 x1 x2 x3 v1 h
theorem y_X10_many_J170 {g : xG} {h0 : xH} {cl : Bool} {kH : Nat → Int32 → Int32 → Int32 → Int32 → xH → Option (Int64 × xH)} {kE176 : Nat → Int32 → Int32 → Int32 → xH → Option (Int64 × xH)} (hkH : ∀ (x0 : Nat) (x1 : Int32) (x2 : Int32) (x3 : Int32) (x4 : Int32) (h : xH), Y g DX10_many h0 cl iJ (kH x0 x1 x2 x3 x4 h) 78 [some (.ref x0), some (.int x1), some (.int x2), some (.int x3), some (.int x4), none] [] h) (hkE176 : ∀ (x0 : Nat) (x1 : Int32) (x2 : Int32) (x3 : Int32) (h : xH), Y g DX10_many h0 cl iJ (kE176 x0 x1 x2 x3 h) 176 [some (.ref x0), some (.int x1), some (.int x2), some (.int x3), none, none] [] h) (x0 : Nat) (x1 : Int32) (x2 : Int32) (x3 : Int32) (x4 : Int32) (h : xH) : Y g DX10_many h0 cl iJ (f_X10_many_J170 kH kE176 x0 x1 x2 x3 x4 h) 170 [some (.ref x0), some (.int x1), some (.int x2), some (.int x3), some (.int x4), none] [] h := by
  unfold f_X10_many_J170
  refine Y.iinc (i := 4) (loc' := fun v1 => [some (.ref x0), some (.int x1), some (.int x2), some (.int x3), some (.int v1), none]) rfl (Nat.le_of_ble_eq_true rfl) ki_1 (fun _ => rfl) dX10_many_170 (fun v1 => ?_)
  refine Y.op (pc' := 78) (fun _ => X.goto 78 (by decide) dX10_many_173) ?_
  exact hkH x0 x1 x2 x3 v1 h
def f_X10_many_J164 (kH : Nat → Int32 → Int32 → Int32 → Int32 → Int32 → xH → Option (Int64 × xH)) (kE170 : Nat → Int32 → Int32 → Int32 → Int32 → xH → Option (Int64 × xH)) (x0 : Nat) (x1 : Int32) (x2 : Int32) (x3 : Int32) (x4 : Int32) (x5 : Int32) (h : xH) : Option (Int64 × xH) :=
  lt (x5 + (1 : Int32)) fun v1 =>
  kH x0 x1 x2 x3 x4 v1 h
theorem y_X10_many_J164 {g : xG} {h0 : xH} {cl : Bool} {kH : Nat → Int32 → Int32 → Int32 → Int32 → Int32 → xH → Option (Int64 × xH)} {kE170 : Nat → Int32 → Int32 → Int32 → Int32 → xH → Option (Int64 × xH)} (hkH : ∀ (x0 : Nat) (x1 : Int32) (x2 : Int32) (x3 : Int32) (x4 : Int32) (x5 : Int32) (h : xH), Y g DX10_many h0 cl iJ (kH x0 x1 x2 x3 x4 x5 h) 101 [some (.ref x0), some (.int x1), some (.int x2), some (.int x3), some (.int x4), some (.int x5)] [] h) (hkE170 : ∀ (x0 : Nat) (x1 : Int32) (x2 : Int32) (x3 : Int32) (x4 : Int32) (h : xH), Y g DX10_many h0 cl iJ (kE170 x0 x1 x2 x3 x4 h) 170 [some (.ref x0), some (.int x1), some (.int x2), some (.int x3), some (.int x4), none] [] h) (x0 : Nat) (x1 : Int32) (x2 : Int32) (x3 : Int32) (x4 : Int32) (x5 : Int32) (h : xH) : Y g DX10_many h0 cl iJ (f_X10_many_J164 kH kE170 x0 x1 x2 x3 x4 x5 h) 164 [some (.ref x0), some (.int x1), some (.int x2), some (.int x3), some (.int x4), some (.int x5)] [] h := by
  unfold f_X10_many_J164
  refine Y.iinc (i := 5) (loc' := fun v1 => [some (.ref x0), some (.int x1), some (.int x2), some (.int x3), some (.int x4), some (.int v1)]) rfl (Nat.le_of_ble_eq_true rfl) ki_1 (fun _ => rfl) dX10_many_164 (fun v1 => ?_)
  refine Y.op (pc' := 101) (fun _ => X.goto 101 (by decide) dX10_many_167) ?_
  exact hkH x0 x1 x2 x3 x4 v1 h
def f_X10_many_L101 (kE170 : Nat → Int32 → Int32 → Int32 → Int32 → xH → Option (Int64 × xH)) : Nat → Nat → Int32 → Int32 → Int32 → Int32 → Int32 → xH → Option (Int64 × xH)
  | 0 => fun _ _ _ _ _ _ _ => none
  | n + 1 => fun x0 x1 x2 x3 x4 x5 h =>
    (gR h 10 x0 9).bind fun v1 =>
    (aR 102 h v1 (0 : Int32)).bind fun v2 =>
    (aI h v2 (1 : Int32)).bind fun v3 =>
    if x5 ≥ v3 then
      kE170 x0 x1 x2 x3 x4 h
    else
      (gR h 10 x0 10).bind fun v4 =>
      (aR 102 h v4 (0 : Int32)).bind fun v5 =>
      (aI h v5 x3).bind fun v6 =>
      (gR h 10 x0 9).bind fun v7 =>
      (aR 102 h v7 (0 : Int32)).bind fun v8 =>
      (aI h v8 (4 : Int32)).bind fun v9 =>
      (f_X10_has ((x4 &&& v6) &&& v9) x5 h).bind fun r10 =>
      if r10.1 = (0 : Int32) then
        f_X10_many_J164 (f_X10_many_L101 kE170 n) kE170 x0 x1 x2 x3 x4 x5 r10.2
      else
        (gR r10.2 10 x0 36).bind fun v11 =>
        (aJ r10.2 v11 x4).bind fun v12 =>
        (gR r10.2 10 x0 35).bind fun v13 =>
        (aJ r10.2 v13 (x4 ^^^ ((1 : Int32) <<< (x5 &&& 31)))).bind fun v14 =>
        (sJ r10.2 v11 x4 (v12 + v14)).bind fun h15 =>
        f_X10_many_J164 (f_X10_many_L101 kE170 n) kE170 x0 x1 x2 x3 x4 x5 h15
theorem y_X10_many_L101 {g : xG} {h0 : xH} {cl : Bool} {kE170 : Nat → Int32 → Int32 → Int32 → Int32 → xH → Option (Int64 × xH)} (hkE170 : ∀ (x0 : Nat) (x1 : Int32) (x2 : Int32) (x3 : Int32) (x4 : Int32) (h : xH), Y g DX10_many h0 cl iJ (kE170 x0 x1 x2 x3 x4 h) 170 [some (.ref x0), some (.int x1), some (.int x2), some (.int x3), some (.int x4), none] [] h) : ∀ (n : Nat) (x0 : Nat) (x1 : Int32) (x2 : Int32) (x3 : Int32) (x4 : Int32) (x5 : Int32) (h : xH), Y g DX10_many h0 cl iJ (f_X10_many_L101 kE170 n x0 x1 x2 x3 x4 x5 h) 101 [some (.ref x0), some (.int x1), some (.int x2), some (.int x3), some (.int x4), some (.int x5)] [] h := by
  intro n
  induction n with
  | zero => intro x0 x1 x2 x3 x4 x5 h; exact Y.nothing
  | succ n ih =>
    intro x0 x1 x2 x3 x4 x5 h
    unfold f_X10_many_L101
    refine Y.op (pc' := 103) (fun _ => X.iload rfl dX10_many_101) ?_
    refine Y.op (pc' := 104) (fun _ => X.aloadn rfl dX10_many_103) ?_
    refine Y.getR fd_X10_22 rfl dX10_many_104 (fun v1 => ?_)
    refine Y.op (pc' := 108) (fun _ => X.ic ki_0 dX10_many_107) ?_
    refine Y.aldR 102 (by decide) (by decide) dX10_many_108 (fun v2 => ?_)
    refine Y.op (pc' := 110) (fun _ => X.ic ki_1 dX10_many_109) ?_
    refine Y.aldI dX10_many_110 (fun v3 => ?_)
    refine Y.cmpge 170 (by decide) dX10_many_111 ?_ ?_
    · exact Y.fg (hkE170 x0 x1 x2 x3 x4 h) (And.intro rfl (And.intro rfl (And.intro rfl (And.intro rfl (And.intro rfl trivial)))))
    · refine Y.op (pc' := 116) (fun _ => X.iload rfl dX10_many_114) ?_
      refine Y.op (pc' := 117) (fun _ => X.aloadn rfl dX10_many_116) ?_
      refine Y.getR fd_X10_25 rfl dX10_many_117 (fun v4 => ?_)
      refine Y.op (pc' := 121) (fun _ => X.ic ki_0 dX10_many_120) ?_
      refine Y.aldR 102 (by decide) (by decide) dX10_many_121 (fun v5 => ?_)
      refine Y.op (pc' := 123) (fun _ => X.iloadn rfl dX10_many_122) ?_
      refine Y.aldI dX10_many_123 (fun v6 => ?_)
      refine Y.op (pc' := 125) (fun _ => X.iand dX10_many_124) ?_
      refine Y.op (pc' := 126) (fun _ => X.aloadn rfl dX10_many_125) ?_
      refine Y.getR fd_X10_22 rfl dX10_many_126 (fun v7 => ?_)
      refine Y.op (pc' := 130) (fun _ => X.ic ki_0 dX10_many_129) ?_
      refine Y.aldR 102 (by decide) (by decide) dX10_many_130 (fun v8 => ?_)
      refine Y.op (pc' := 132) (fun _ => X.ic ki_4 dX10_many_131) ?_
      refine Y.aldI dX10_many_132 (fun v9 => ?_)
      refine Y.op (pc' := 134) (fun _ => X.iand dX10_many_133) ?_
      refine Y.op (pc' := 136) (fun _ => X.iload rfl dX10_many_134) ?_
      refine Y.callSi (As := [.int ((x4 &&& v6) &&& v9), .int x5]) lk_X10_182 rfl cal_X10_has sta_X10_has (Nat.le_of_ble_eq_true rfl) rfl rfl (Nat.le_of_ble_eq_true rfl) dX10_many_136 (fun _ e => m_X10_has ((x4 &&& v6) &&& v9) x5 h _ _ e) (fun r10 => ?_)
      refine Y.ifeq 164 (by decide) dX10_many_139 ?_ ?_
      · exact y_X10_many_J164 ih hkE170 x0 x1 x2 x3 x4 x5 r10.2
      · refine Y.op (pc' := 143) (fun _ => X.aloadn rfl dX10_many_142) ?_
        refine Y.getR fd_X10_67 rfl dX10_many_143 (fun v11 => ?_)
        refine Y.op (pc' := 148) (fun _ => X.iload rfl dX10_many_146) ?_
        refine Y.op (pc' := 149) (fun _ => X.dup2 rfl rfl dX10_many_148) ?_
        refine Y.aldJ dX10_many_149 (fun v12 => ?_)
        refine Y.op (pc' := 151) (fun _ => X.aloadn rfl dX10_many_150) ?_
        refine Y.getR fd_X10_63 rfl dX10_many_151 (fun v13 => ?_)
        refine Y.op (pc' := 156) (fun _ => X.iload rfl dX10_many_154) ?_
        refine Y.op (pc' := 157) (fun _ => X.ic ki_1 dX10_many_156) ?_
        refine Y.op (pc' := 159) (fun _ => X.iload rfl dX10_many_157) ?_
        refine Y.op (pc' := 160) (fun _ => X.ishl dX10_many_159) ?_
        refine Y.op (pc' := 161) (fun _ => X.ixor dX10_many_160) ?_
        refine Y.aldJ dX10_many_161 (fun v14 => ?_)
        refine Y.op (pc' := 163) (fun _ => X.ladd dX10_many_162) ?_
        refine Y.astJ dX10_many_163 (fun h15 => ?_)
        exact y_X10_many_J164 ih hkE170 x0 x1 x2 x3 x4 x5 h15
def f_X10_many_L78 (kE176 : Nat → Int32 → Int32 → Int32 → xH → Option (Int64 × xH)) : Nat → Nat → Int32 → Int32 → Int32 → Int32 → xH → Option (Int64 × xH)
  | 0 => fun _ _ _ _ _ _ => none
  | n + 1 => fun x0 x1 x2 x3 x4 h =>
    if x4 ≥ x1 then
      kE176 x0 x1 x2 x3 h
    else
      (gR h 10 x0 36).bind fun v1 =>
      (gR h 10 x0 35).bind fun v2 =>
      (aJ h v2 x4).bind fun v3 =>
      (sJ h v1 x4 v3).bind fun h4 =>
      f_X10_many_L101 (f_X10_many_J170 (f_X10_many_L78 kE176 n) kE176) 5000 x0 x1 x2 x3 x4 (0 : Int32) h4
theorem y_X10_many_L78 {g : xG} {h0 : xH} {cl : Bool} {kE176 : Nat → Int32 → Int32 → Int32 → xH → Option (Int64 × xH)} (hkE176 : ∀ (x0 : Nat) (x1 : Int32) (x2 : Int32) (x3 : Int32) (h : xH), Y g DX10_many h0 cl iJ (kE176 x0 x1 x2 x3 h) 176 [some (.ref x0), some (.int x1), some (.int x2), some (.int x3), none, none] [] h) : ∀ (n : Nat) (x0 : Nat) (x1 : Int32) (x2 : Int32) (x3 : Int32) (x4 : Int32) (h : xH), Y g DX10_many h0 cl iJ (f_X10_many_L78 kE176 n x0 x1 x2 x3 x4 h) 78 [some (.ref x0), some (.int x1), some (.int x2), some (.int x3), some (.int x4), none] [] h := by
  intro n
  induction n with
  | zero => intro x0 x1 x2 x3 x4 h; exact Y.nothing
  | succ n ih =>
    intro x0 x1 x2 x3 x4 h
    unfold f_X10_many_L78
    refine Y.op (pc' := 80) (fun _ => X.iload rfl dX10_many_78) ?_
    refine Y.op (pc' := 81) (fun _ => X.iloadn rfl dX10_many_80) ?_
    refine Y.cmpge 176 (by decide) dX10_many_81 ?_ ?_
    · exact Y.fg (hkE176 x0 x1 x2 x3 h) (And.intro rfl (And.intro rfl (And.intro rfl (And.intro rfl trivial))))
    · refine Y.op (pc' := 85) (fun _ => X.aloadn rfl dX10_many_84) ?_
      refine Y.getR fd_X10_67 rfl dX10_many_85 (fun v1 => ?_)
      refine Y.op (pc' := 90) (fun _ => X.iload rfl dX10_many_88) ?_
      refine Y.op (pc' := 91) (fun _ => X.aloadn rfl dX10_many_90) ?_
      refine Y.getR fd_X10_63 rfl dX10_many_91 (fun v2 => ?_)
      refine Y.op (pc' := 96) (fun _ => X.iload rfl dX10_many_94) ?_
      refine Y.aldJ dX10_many_96 (fun v3 => ?_)
      refine Y.astJ dX10_many_97 (fun h4 => ?_)
      refine Y.op (pc' := 99) (fun _ => X.ic ki_0 dX10_many_98) ?_
      refine Y.op (pc' := 101) (loc' := [some (.ref x0), some (.int x1), some (.int x2), some (.int x3), some (.int x4), some (.int (0 : Int32))]) (fun _ => X.istore (Nat.le_of_ble_eq_true rfl) rfl dX10_many_99) ?_
      exact y_X10_many_L101 (y_X10_many_J170 ih hkE176) 5000 x0 x1 x2 x3 x4 (0 : Int32) h4
def f_X10_many_L51 (kE211 : Nat → Int32 → Int32 → xH → Option (Int64 × xH)) : Nat → Nat → Int32 → Int32 → Int32 → xH → Option (Int64 × xH)
  | 0 => fun _ _ _ _ _ => none
  | n + 1 => fun x0 x1 x2 x3 h =>
    (gR h 10 x0 9).bind fun v1 =>
    (aR 102 h v1 (0 : Int32)).bind fun v2 =>
    (aI h v2 (0 : Int32)).bind fun v3 =>
    if x3 ≥ v3 then
      kE211 x0 x1 x2 h
    else
      (vc h 10 x0 (f_X10_isThere x0 (0 : Int32) x3 h)).bind fun r4 =>
      if r4.1 = (0 : Int32) then
        f_X10_many_J205 (f_X10_many_L51 kE211 n) kE211 x0 x1 x2 x3 r4.2
      else
        f_X10_many_L78 (f_X10_many_J176 (f_X10_many_L51 kE211 n) kE211) 5000 x0 x1 x2 x3 (0 : Int32) r4.2
theorem y_X10_many_L51 {g : xG} {h0 : xH} {cl : Bool} {kE211 : Nat → Int32 → Int32 → xH → Option (Int64 × xH)} (hkE211 : ∀ (x0 : Nat) (x1 : Int32) (x2 : Int32) (h : xH), Y g DX10_many h0 cl iJ (kE211 x0 x1 x2 h) 211 [some (.ref x0), some (.int x1), some (.int x2), none, none, none] [] h) : ∀ (n : Nat) (x0 : Nat) (x1 : Int32) (x2 : Int32) (x3 : Int32) (h : xH), Y g DX10_many h0 cl iJ (f_X10_many_L51 kE211 n x0 x1 x2 x3 h) 51 [some (.ref x0), some (.int x1), some (.int x2), some (.int x3), none, none] [] h := by
  intro n
  induction n with
  | zero => intro x0 x1 x2 x3 h; exact Y.nothing
  | succ n ih =>
    intro x0 x1 x2 x3 h
    unfold f_X10_many_L51
    refine Y.op (pc' := 52) (fun _ => X.iloadn rfl dX10_many_51) ?_
    refine Y.op (pc' := 53) (fun _ => X.aloadn rfl dX10_many_52) ?_
    refine Y.getR fd_X10_22 rfl dX10_many_53 (fun v1 => ?_)
    refine Y.op (pc' := 57) (fun _ => X.ic ki_0 dX10_many_56) ?_
    refine Y.aldR 102 (by decide) (by decide) dX10_many_57 (fun v2 => ?_)
    refine Y.op (pc' := 59) (fun _ => X.ic ki_0 dX10_many_58) ?_
    refine Y.aldI dX10_many_59 (fun v3 => ?_)
    refine Y.cmpge 211 (by decide) dX10_many_60 ?_ ?_
    · exact Y.fg (hkE211 x0 x1 x2 h) (And.intro rfl (And.intro rfl (And.intro rfl trivial)))
    · refine Y.op (pc' := 64) (fun _ => X.aloadn rfl dX10_many_63) ?_
      refine Y.op (pc' := 65) (fun _ => X.ic ki_0 dX10_many_64) ?_
      refine Y.op (pc' := 66) (fun _ => X.iloadn rfl dX10_many_65) ?_
      refine Y.callVi (As := [.int (0 : Int32), .int x3]) lk_X10_240 rfl cal_X10_isThere vir_X10_isThere (Nat.le_of_ble_eq_true rfl) (Nat.le_of_ble_eq_true rfl) rfl rfl rfl (Nat.le_of_ble_eq_true rfl) dX10_many_66 (fun _ e => m_X10_isThere x0 (0 : Int32) x3 h _ _ e) (fun r4 => ?_)
      refine Y.ifne 75 (by decide) dX10_many_69 ?_ ?_
      · refine Y.op (pc' := 76) (fun _ => X.ic ki_0 dX10_many_75) ?_
        refine Y.op (pc' := 78) (loc' := [some (.ref x0), some (.int x1), some (.int x2), some (.int x3), some (.int (0 : Int32)), none]) (fun _ => X.istore (Nat.le_of_ble_eq_true rfl) rfl dX10_many_76) ?_
        exact y_X10_many_L78 (y_X10_many_J176 ih hkE211) 5000 x0 x1 x2 x3 (0 : Int32) r4.2
      · refine Y.op (pc' := 205) (fun _ => X.goto 205 (by decide) dX10_many_72) ?_
        exact y_X10_many_J205 ih hkE211 x0 x1 x2 x3 r4.2
def f_X10_many_J49 (x0 : Nat) (x1 : Int32) (x2 : Int32) (h : xH) : Option (Int64 × xH) :=
  f_X10_many_L51 (f_X10_many_J211) 5000 x0 x1 x2 (0 : Int32) h
theorem y_X10_many_J49 {g : xG} {h0 : xH} {cl : Bool} (x0 : Nat) (x1 : Int32) (x2 : Int32) (h : xH) : Y g DX10_many h0 cl iJ (f_X10_many_J49 x0 x1 x2 h) 49 [some (.ref x0), some (.int x1), some (.int x2), none, none, none] [] h := by
  unfold f_X10_many_J49
  refine Y.op (pc' := 50) (fun _ => X.ic ki_0 dX10_many_49) ?_
  refine Y.op (pc' := 51) (loc' := [some (.ref x0), some (.int x1), some (.int x2), some (.int (0 : Int32)), none, none]) (fun _ => X.istoren (Nat.le_of_ble_eq_true rfl) rfl dX10_many_50) ?_
  exact y_X10_many_L51 (y_X10_many_J211) 5000 x0 x1 x2 (0 : Int32) h
def f_X10_many_J42 (kH : Nat → Int32 → Int32 → Int32 → xH → Option (Int64 × xH)) (kE49 : Nat → Int32 → Int32 → xH → Option (Int64 × xH)) (x0 : Nat) (x1 : Int32) (x2 : Int32) (x3 : Int32) (s0 : Nat) (s1 : Int32) (s2 : Int64) (h : xH) : Option (Int64 × xH) :=
  (sJ h s0 s1 s2).bind fun h1 =>
  lt (x3 + (1 : Int32)) fun v2 =>
  kH x0 x1 x2 v2 h1
theorem y_X10_many_J42 {g : xG} {h0 : xH} {cl : Bool} {kH : Nat → Int32 → Int32 → Int32 → xH → Option (Int64 × xH)} {kE49 : Nat → Int32 → Int32 → xH → Option (Int64 × xH)} (hkH : ∀ (x0 : Nat) (x1 : Int32) (x2 : Int32) (x3 : Int32) (h : xH), Y g DX10_many h0 cl iJ (kH x0 x1 x2 x3 h) 23 [some (.ref x0), some (.int x1), some (.int x2), some (.int x3), none, none] [] h) (hkE49 : ∀ (x0 : Nat) (x1 : Int32) (x2 : Int32) (h : xH), Y g DX10_many h0 cl iJ (kE49 x0 x1 x2 h) 49 [some (.ref x0), some (.int x1), some (.int x2), none, none, none] [] h) (x0 : Nat) (x1 : Int32) (x2 : Int32) (x3 : Int32) (s0 : Nat) (s1 : Int32) (s2 : Int64) (h : xH) : Y g DX10_many h0 cl iJ (f_X10_many_J42 kH kE49 x0 x1 x2 x3 s0 s1 s2 h) 42 [some (.ref x0), some (.int x1), some (.int x2), some (.int x3), none, none] [.long s2, .int s1, .ref s0] h := by
  unfold f_X10_many_J42
  refine Y.astJ dX10_many_42 (fun h1 => ?_)
  refine Y.iinc (i := 3) (loc' := fun v2 => [some (.ref x0), some (.int x1), some (.int x2), some (.int v2), none, none]) rfl (Nat.le_of_ble_eq_true rfl) ki_1 (fun _ => rfl) dX10_many_43 (fun v2 => ?_)
  refine Y.op (pc' := 23) (fun _ => X.goto 23 (by decide) dX10_many_46) ?_
  exact hkH x0 x1 x2 v2 h1
def f_X10_many_L23 (kE49 : Nat → Int32 → Int32 → xH → Option (Int64 × xH)) : Nat → Nat → Int32 → Int32 → Int32 → xH → Option (Int64 × xH)
  | 0 => fun _ _ _ _ _ => none
  | n + 1 => fun x0 x1 x2 x3 h =>
    if x3 ≥ x1 then
      kE49 x0 x1 x2 h
    else
      (gR h 10 x0 35).bind fun v1 =>
      if x3 = (0 : Int32) then
        f_X10_many_J42 (f_X10_many_L23 kE49 n) kE49 x0 x1 x2 x3 v1 x3 (1 : Int64) h
      else
        f_X10_many_J42 (f_X10_many_L23 kE49 n) kE49 x0 x1 x2 x3 v1 x3 (0 : Int64) h
theorem y_X10_many_L23 {g : xG} {h0 : xH} {cl : Bool} {kE49 : Nat → Int32 → Int32 → xH → Option (Int64 × xH)} (hkE49 : ∀ (x0 : Nat) (x1 : Int32) (x2 : Int32) (h : xH), Y g DX10_many h0 cl iJ (kE49 x0 x1 x2 h) 49 [some (.ref x0), some (.int x1), some (.int x2), none, none, none] [] h) : ∀ (n : Nat) (x0 : Nat) (x1 : Int32) (x2 : Int32) (x3 : Int32) (h : xH), Y g DX10_many h0 cl iJ (f_X10_many_L23 kE49 n x0 x1 x2 x3 h) 23 [some (.ref x0), some (.int x1), some (.int x2), some (.int x3), none, none] [] h := by
  intro n
  induction n with
  | zero => intro x0 x1 x2 x3 h; exact Y.nothing
  | succ n ih =>
    intro x0 x1 x2 x3 h
    unfold f_X10_many_L23
    refine Y.op (pc' := 24) (fun _ => X.iloadn rfl dX10_many_23) ?_
    refine Y.op (pc' := 25) (fun _ => X.iloadn rfl dX10_many_24) ?_
    refine Y.cmpge 49 (by decide) dX10_many_25 ?_ ?_
    · exact Y.fg (hkE49 x0 x1 x2 h) (And.intro rfl (And.intro rfl (And.intro rfl trivial)))
    · refine Y.op (pc' := 29) (fun _ => X.aloadn rfl dX10_many_28) ?_
      refine Y.getR fd_X10_63 rfl dX10_many_29 (fun v1 => ?_)
      refine Y.op (pc' := 33) (fun _ => X.iloadn rfl dX10_many_32) ?_
      refine Y.op (pc' := 34) (fun _ => X.iloadn rfl dX10_many_33) ?_
      refine Y.ifne 41 (by decide) dX10_many_34 ?_ ?_
      · refine Y.op (pc' := 42) (fun _ => X.lc kl_0 dX10_many_41) ?_
        exact y_X10_many_J42 ih hkE49 x0 x1 x2 x3 v1 x3 (0 : Int64) h
      · refine Y.op (pc' := 38) (fun _ => X.lc kl_1 dX10_many_37) ?_
        refine Y.op (pc' := 42) (fun _ => X.goto 42 (by decide) dX10_many_38) ?_
        exact y_X10_many_J42 ih hkE49 x0 x1 x2 x3 v1 x3 (1 : Int64) h
def f_X10_many (a0 : Nat) (h : xH) : Option (Int64 × xH) :=
  (pI h 10 a0 0 (0 : Int32)).bind fun h1 =>
  (gR h1 10 a0 9).bind fun v2 =>
  (aR 102 h1 v2 (0 : Int32)).bind fun v3 =>
  (aI h1 v3 (1 : Int32)).bind fun v4 =>
  lt (((1 : Int32) <<< (v4 &&& 31))) fun v5 =>
  (vc h1 10 a0 (f_X10_nu a0 h1)).bind fun r6 =>
  f_X10_many_L23 (f_X10_many_J49) 5000 a0 v5 r6.1 (0 : Int32) r6.2
theorem y_X10_many {g : xG} {h0 : xH} {cl : Bool} (a0 : Nat) (h : xH) : Y g DX10_many h0 cl iJ (f_X10_many a0 h) 0 [some (.ref a0), none, none, none, none, none] [] h := by
  unfold f_X10_many
  refine Y.op (pc' := 1) (fun _ => X.aloadn rfl dX10_many_0) ?_
  refine Y.op (pc' := 2) (fun _ => X.ic ki_0 dX10_many_1) ?_
  refine Y.putI fd_X10_82 rfl dX10_many_2 (fun h1 => ?_)
  refine Y.op (pc' := 6) (fun _ => X.ic ki_1 dX10_many_5) ?_
  refine Y.op (pc' := 7) (fun _ => X.aloadn rfl dX10_many_6) ?_
  refine Y.getR fd_X10_22 rfl dX10_many_7 (fun v2 => ?_)
  refine Y.op (pc' := 11) (fun _ => X.ic ki_0 dX10_many_10) ?_
  refine Y.aldR 102 (by decide) (by decide) dX10_many_11 (fun v3 => ?_)
  refine Y.op (pc' := 13) (fun _ => X.ic ki_1 dX10_many_12) ?_
  refine Y.aldI dX10_many_13 (fun v4 => ?_)
  refine Y.op (pc' := 15) (fun _ => X.ishl dX10_many_14) ?_
  refine Y.top (fun v5 => ?_)
  refine Y.op (pc' := 16) (loc' := [some (.ref a0), some (.int v5), none, none, none, none]) (fun _ => X.istoren (Nat.le_of_ble_eq_true rfl) rfl dX10_many_15) ?_
  refine Y.op (pc' := 17) (fun _ => X.aloadn rfl dX10_many_16) ?_
  refine Y.callVi (As := []) lk_X10_327 rfl cal_X10_nu vir_X10_nu (Nat.le_of_ble_eq_true rfl) (Nat.le_of_ble_eq_true rfl) rfl rfl rfl (Nat.le_of_ble_eq_true rfl) dX10_many_17 (fun _ e => m_X10_nu a0 h1 _ _ e) (fun r6 => ?_)
  refine Y.op (pc' := 21) (loc' := [some (.ref a0), some (.int v5), some (.int r6.1), none, none, none]) (fun _ => X.istoren (Nat.le_of_ble_eq_true rfl) rfl dX10_many_20) ?_
  refine Y.op (pc' := 22) (fun _ => X.ic ki_0 dX10_many_21) ?_
  refine Y.op (pc' := 23) (loc' := [some (.ref a0), some (.int v5), some (.int r6.1), some (.int (0 : Int32)), none, none]) (fun _ => X.istoren (Nat.le_of_ble_eq_true rfl) rfl dX10_many_22) ?_
  exact y_X10_many_L23 (y_X10_many_J49) 5000 a0 v5 r6.1 (0 : Int32) r6.2
theorem m_X10_many {g : xG} (a0 : Nat) (h : xH) (cl : Bool) (r : Int64 × xH) (e : f_X10_many a0 h = some r) : XM g DX10_many [.ref a0] h cl (iJ r) := YM.of rfl rfl (Nat.le_of_ble_eq_true rfl) (y_X10_many a0 h) e
def f_X10_laysCheap_J409 (h : xH) : Option (xH) :=
  some h
theorem y_X10_laysCheap_J409 {g : xG} {h0 : xH} {cl : Bool} (h : xH) : Y g DX10_laysCheap h0 cl iV (f_X10_laysCheap_J409 h) 409 [none, none, none, none, none, none, none, none, none, none, none] [] h := by
  unfold f_X10_laysCheap_J409
  exact Y.vreturn rfl dX10_laysCheap_409
def f_X10_laysCheap_J403 (kH : Nat → Int32 → Int32 → xH → Option (xH)) (kE409 : xH → Option (xH)) (x0 : Nat) (x2 : Int32) (x4 : Int32) (h : xH) : Option (xH) :=
  lt (x4 + (-1 : Int32)) fun v1 =>
  kH x0 x2 v1 h
theorem y_X10_laysCheap_J403 {g : xG} {h0 : xH} {cl : Bool} {kH : Nat → Int32 → Int32 → xH → Option (xH)} {kE409 : xH → Option (xH)} (hkH : ∀ (x0 : Nat) (x2 : Int32) (x4 : Int32) (h : xH), Y g DX10_laysCheap h0 cl iV (kH x0 x2 x4 h) 92 [some (.ref x0), none, some (.int x2), none, some (.int x4), none, none, none, none, none, none] [] h) (hkE409 : ∀  (h : xH), Y g DX10_laysCheap h0 cl iV (kE409  h) 409 [none, none, none, none, none, none, none, none, none, none, none] [] h) (x0 : Nat) (x2 : Int32) (x4 : Int32) (h : xH) : Y g DX10_laysCheap h0 cl iV (f_X10_laysCheap_J403 kH kE409 x0 x2 x4 h) 403 [some (.ref x0), none, some (.int x2), none, some (.int x4), none, none, none, none, none, none] [] h := by
  unfold f_X10_laysCheap_J403
  refine Y.iinc (i := 4) (loc' := fun v1 => [some (.ref x0), none, some (.int x2), none, some (.int v1), none, none, none, none, none, none]) rfl (Nat.le_of_ble_eq_true rfl) ki_m1 (fun _ => rfl) dX10_laysCheap_403 (fun v1 => ?_)
  refine Y.op (pc' := 92) (fun _ => X.goto 92 (by decide) dX10_laysCheap_406) ?_
  exact hkH x0 x2 v1 h
def f_X10_laysCheap_J396 (kH : Nat → Int32 → Int32 → Int32 → Int32 → xH → Option (xH)) (kE403 : Nat → Int32 → Int32 → xH → Option (xH)) (x0 : Nat) (x2 : Int32) (x4 : Int32) (x5 : Int32) (x6 : Int32) (s0 : Nat) (s1 : Int32) (s2 : Int64) (h : xH) : Option (xH) :=
  (sJ h s0 s1 s2).bind fun h1 =>
  lt (x6 + (1 : Int32)) fun v2 =>
  kH x0 x2 x4 x5 v2 h1
theorem y_X10_laysCheap_J396 {g : xG} {h0 : xH} {cl : Bool} {kH : Nat → Int32 → Int32 → Int32 → Int32 → xH → Option (xH)} {kE403 : Nat → Int32 → Int32 → xH → Option (xH)} (hkH : ∀ (x0 : Nat) (x2 : Int32) (x4 : Int32) (x5 : Int32) (x6 : Int32) (h : xH), Y g DX10_laysCheap h0 cl iV (kH x0 x2 x4 x5 x6 h) 134 [some (.ref x0), none, some (.int x2), none, some (.int x4), some (.int x5), some (.int x6), none, none, none, none] [] h) (hkE403 : ∀ (x0 : Nat) (x2 : Int32) (x4 : Int32) (h : xH), Y g DX10_laysCheap h0 cl iV (kE403 x0 x2 x4 h) 403 [some (.ref x0), none, some (.int x2), none, some (.int x4), none, none, none, none, none, none] [] h) (x0 : Nat) (x2 : Int32) (x4 : Int32) (x5 : Int32) (x6 : Int32) (s0 : Nat) (s1 : Int32) (s2 : Int64) (h : xH) : Y g DX10_laysCheap h0 cl iV (f_X10_laysCheap_J396 kH kE403 x0 x2 x4 x5 x6 s0 s1 s2 h) 396 [some (.ref x0), none, some (.int x2), none, some (.int x4), some (.int x5), some (.int x6), none, none, none, none] [.long s2, .int s1, .ref s0] h := by
  unfold f_X10_laysCheap_J396
  refine Y.astJ dX10_laysCheap_396 (fun h1 => ?_)
  refine Y.iinc (i := 6) (loc' := fun v2 => [some (.ref x0), none, some (.int x2), none, some (.int x4), some (.int x5), some (.int v2), none, none, none, none]) rfl (Nat.le_of_ble_eq_true rfl) ki_1 (fun _ => rfl) dX10_laysCheap_397 (fun v2 => ?_)
  refine Y.op (pc' := 134) (fun _ => X.goto 134 (by decide) dX10_laysCheap_400) ?_
  exact hkH x0 x2 x4 x5 v2 h1
def f_X10_laysCheap_J357 (kH : Nat → Int32 → Int32 → Int32 → Int32 → xH → Option (xH)) (kE403 : Nat → Int32 → Int32 → xH → Option (xH)) (x0 : Nat) (x2 : Int32) (x4 : Int32) (x5 : Int32) (x6 : Int32) (x7 : Int32) (x8 : Int64) (h : xH) : Option (xH) :=
  (gR h 10 x0 37).bind fun v1 =>
  (aR 102 h v1 x4).bind fun v2 =>
  (f_X10_less x7 (1000000 : Int32) h).bind fun r3 =>
  (sI r3.2 v2 x6 r3.1).bind fun h4 =>
  (gR h4 10 x0 38).bind fun v5 =>
  (aR 104 h4 v5 x4).bind fun v6 =>
  if x7 < (1000000 : Int32) then
    f_X10_laysCheap_J396 (kH) kE403 x0 x2 x4 x5 x6 v6 x6 x8 h4
  else
    f_X10_laysCheap_J396 (kH) kE403 x0 x2 x4 x5 x6 v6 x6 (0 : Int64) h4
theorem y_X10_laysCheap_J357 {g : xG} {h0 : xH} {cl : Bool} {kH : Nat → Int32 → Int32 → Int32 → Int32 → xH → Option (xH)} {kE403 : Nat → Int32 → Int32 → xH → Option (xH)} (hkH : ∀ (x0 : Nat) (x2 : Int32) (x4 : Int32) (x5 : Int32) (x6 : Int32) (h : xH), Y g DX10_laysCheap h0 cl iV (kH x0 x2 x4 x5 x6 h) 134 [some (.ref x0), none, some (.int x2), none, some (.int x4), some (.int x5), some (.int x6), none, none, none, none] [] h) (hkE403 : ∀ (x0 : Nat) (x2 : Int32) (x4 : Int32) (h : xH), Y g DX10_laysCheap h0 cl iV (kE403 x0 x2 x4 h) 403 [some (.ref x0), none, some (.int x2), none, some (.int x4), none, none, none, none, none, none] [] h) (x0 : Nat) (x2 : Int32) (x4 : Int32) (x5 : Int32) (x6 : Int32) (x7 : Int32) (x8 : Int64) (h : xH) : Y g DX10_laysCheap h0 cl iV (f_X10_laysCheap_J357 kH kE403 x0 x2 x4 x5 x6 x7 x8 h) 357 [some (.ref x0), none, some (.int x2), none, some (.int x4), some (.int x5), some (.int x6), some (.int x7), some (.long x8), none, none] [] h := by
  unfold f_X10_laysCheap_J357
  refine Y.op (pc' := 358) (fun _ => X.aloadn rfl dX10_laysCheap_357) ?_
  refine Y.getR fd_X10_70 rfl dX10_laysCheap_358 (fun v1 => ?_)
  refine Y.op (pc' := 363) (fun _ => X.iload rfl dX10_laysCheap_361) ?_
  refine Y.aldR 102 (by decide) (by decide) dX10_laysCheap_363 (fun v2 => ?_)
  refine Y.op (pc' := 366) (fun _ => X.iload rfl dX10_laysCheap_364) ?_
  refine Y.op (pc' := 368) (fun _ => X.iload rfl dX10_laysCheap_366) ?_
  refine Y.op (pc' := 370) (fun _ => X.ldcI wc_X10_122 rfl dX10_laysCheap_368) ?_
  refine Y.callSi (As := [.int x7, .int (1000000 : Int32)]) lk_X10_123 rfl cal_X10_less sta_X10_less (Nat.le_of_ble_eq_true rfl) rfl rfl (Nat.le_of_ble_eq_true rfl) dX10_laysCheap_370 (fun _ e => m_X10_less x7 (1000000 : Int32) h _ _ e) (fun r3 => ?_)
  refine Y.astI dX10_laysCheap_373 (fun h4 => ?_)
  refine Y.op (pc' := 375) (fun _ => X.aloadn rfl dX10_laysCheap_374) ?_
  refine Y.getR fd_X10_75 rfl dX10_laysCheap_375 (fun v5 => ?_)
  refine Y.op (pc' := 380) (fun _ => X.iload rfl dX10_laysCheap_378) ?_
  refine Y.aldR 104 (by decide) (by decide) dX10_laysCheap_380 (fun v6 => ?_)
  refine Y.op (pc' := 383) (fun _ => X.iload rfl dX10_laysCheap_381) ?_
  refine Y.op (pc' := 385) (fun _ => X.iload rfl dX10_laysCheap_383) ?_
  refine Y.op (pc' := 387) (fun _ => X.ldcI wc_X10_122 rfl dX10_laysCheap_385) ?_
  refine Y.cmplt 394 (by decide) dX10_laysCheap_387 ?_ ?_
  · refine Y.op (pc' := 396) (fun _ => X.lload rfl dX10_laysCheap_394) ?_
    exact Y.fg (y_X10_laysCheap_J396 hkH hkE403 x0 x2 x4 x5 x6 v6 x6 x8 h4) (And.intro rfl (And.intro rfl (And.intro rfl (And.intro rfl (And.intro rfl trivial)))))
  · refine Y.op (pc' := 391) (fun _ => X.lc kl_0 dX10_laysCheap_390) ?_
    refine Y.op (pc' := 396) (fun _ => X.goto 396 (by decide) dX10_laysCheap_391) ?_
    exact Y.fg (y_X10_laysCheap_J396 hkH hkE403 x0 x2 x4 x5 x6 v6 x6 (0 : Int64) h4) (And.intro rfl (And.intro rfl (And.intro rfl (And.intro rfl (And.intro rfl trivial)))))
def f_X10_laysCheap_J351 (kH : Nat → Int32 → Int32 → Int32 → Int32 → Int32 → Int64 → Int32 → xH → Option (xH)) (kE357 : Nat → Int32 → Int32 → Int32 → Int32 → Int32 → Int64 → xH → Option (xH)) (x0 : Nat) (x2 : Int32) (x4 : Int32) (x5 : Int32) (x6 : Int32) (x7 : Int32) (x8 : Int64) (x10 : Int32) (h : xH) : Option (xH) :=
  lt (x10 + (1 : Int32)) fun v1 =>
  kH x0 x2 x4 x5 x6 x7 x8 v1 h
theorem y_X10_laysCheap_J351 {g : xG} {h0 : xH} {cl : Bool} {kH : Nat → Int32 → Int32 → Int32 → Int32 → Int32 → Int64 → Int32 → xH → Option (xH)} {kE357 : Nat → Int32 → Int32 → Int32 → Int32 → Int32 → Int64 → xH → Option (xH)} (hkH : ∀ (x0 : Nat) (x2 : Int32) (x4 : Int32) (x5 : Int32) (x6 : Int32) (x7 : Int32) (x8 : Int64) (x10 : Int32) (h : xH), Y g DX10_laysCheap h0 cl iV (kH x0 x2 x4 x5 x6 x7 x8 x10 h) 266 [some (.ref x0), none, some (.int x2), none, some (.int x4), some (.int x5), some (.int x6), some (.int x7), some (.long x8), none, some (.int x10)] [] h) (hkE357 : ∀ (x0 : Nat) (x2 : Int32) (x4 : Int32) (x5 : Int32) (x6 : Int32) (x7 : Int32) (x8 : Int64) (h : xH), Y g DX10_laysCheap h0 cl iV (kE357 x0 x2 x4 x5 x6 x7 x8 h) 357 [some (.ref x0), none, some (.int x2), none, some (.int x4), some (.int x5), some (.int x6), some (.int x7), some (.long x8), none, none] [] h) (x0 : Nat) (x2 : Int32) (x4 : Int32) (x5 : Int32) (x6 : Int32) (x7 : Int32) (x8 : Int64) (x10 : Int32) (h : xH) : Y g DX10_laysCheap h0 cl iV (f_X10_laysCheap_J351 kH kE357 x0 x2 x4 x5 x6 x7 x8 x10 h) 351 [some (.ref x0), none, some (.int x2), none, some (.int x4), some (.int x5), some (.int x6), some (.int x7), some (.long x8), none, some (.int x10)] [] h := by
  unfold f_X10_laysCheap_J351
  refine Y.iinc (i := 10) (loc' := fun v1 => [some (.ref x0), none, some (.int x2), none, some (.int x4), some (.int x5), some (.int x6), some (.int x7), some (.long x8), none, some (.int v1)]) rfl (Nat.le_of_ble_eq_true rfl) ki_1 (fun _ => rfl) dX10_laysCheap_351 (fun v1 => ?_)
  refine Y.op (pc' := 266) (fun _ => X.goto 266 (by decide) dX10_laysCheap_354) ?_
  exact hkH x0 x2 x4 x5 x6 x7 x8 v1 h
def f_X10_laysCheap_L266 (kE357 : Nat → Int32 → Int32 → Int32 → Int32 → Int32 → Int64 → xH → Option (xH)) : Nat → Nat → Int32 → Int32 → Int32 → Int32 → Int32 → Int64 → Int32 → xH → Option (xH)
  | 0 => fun _ _ _ _ _ _ _ _ _ => none
  | n + 1 => fun x0 x2 x4 x5 x6 x7 x8 x10 h =>
    (gR h 10 x0 9).bind fun v1 =>
    (aR 102 h v1 (0 : Int32)).bind fun v2 =>
    (aI h v2 (1 : Int32)).bind fun v3 =>
    if x10 ≥ v3 then
      kE357 x0 x2 x4 x5 x6 x7 x8 h
    else
      (f_X10_has (x5 &&& (x6 ^^^ (-1 : Int32))) x10 h).bind fun r4 =>
      if r4.1 = (0 : Int32) then
        f_X10_laysCheap_J351 (f_X10_laysCheap_L266 kE357 n) kE357 x0 x2 x4 x5 x6 x7 x8 x10 r4.2
      else
        (gR r4.2 10 x0 13).bind fun v5 =>
        (aR 103 r4.2 v5 (0 : Int32)).bind fun v6 =>
        (aR 102 r4.2 v6 x4).bind fun v7 =>
        (aI r4.2 v7 x10).bind fun v8 =>
        (gR r4.2 10 x0 37).bind fun v9 =>
        (aR 102 r4.2 v9 (x4 + (1 : Int32))).bind fun v10 =>
        (aI r4.2 v10 (x6 ||| ((1 : Int32) <<< (x10 &&& 31)))).bind fun v11 =>
        if (v8 + v11) = x7 then
          (gR r4.2 10 x0 38).bind fun v12 =>
          (aR 104 r4.2 v12 (x4 + (1 : Int32))).bind fun v13 =>
          (aJ r4.2 v13 (x6 ||| ((1 : Int32) <<< (x10 &&& 31)))).bind fun v14 =>
          lt ((x8 + v14)) fun v15 =>
          f_X10_laysCheap_J351 (f_X10_laysCheap_L266 kE357 n) kE357 x0 x2 x4 x5 x6 x7 v15 x10 r4.2
        else
          f_X10_laysCheap_J351 (f_X10_laysCheap_L266 kE357 n) kE357 x0 x2 x4 x5 x6 x7 x8 x10 r4.2
theorem y_X10_laysCheap_L266 {g : xG} {h0 : xH} {cl : Bool} {kE357 : Nat → Int32 → Int32 → Int32 → Int32 → Int32 → Int64 → xH → Option (xH)} (hkE357 : ∀ (x0 : Nat) (x2 : Int32) (x4 : Int32) (x5 : Int32) (x6 : Int32) (x7 : Int32) (x8 : Int64) (h : xH), Y g DX10_laysCheap h0 cl iV (kE357 x0 x2 x4 x5 x6 x7 x8 h) 357 [some (.ref x0), none, some (.int x2), none, some (.int x4), some (.int x5), some (.int x6), some (.int x7), some (.long x8), none, none] [] h) : ∀ (n : Nat) (x0 : Nat) (x2 : Int32) (x4 : Int32) (x5 : Int32) (x6 : Int32) (x7 : Int32) (x8 : Int64) (x10 : Int32) (h : xH), Y g DX10_laysCheap h0 cl iV (f_X10_laysCheap_L266 kE357 n x0 x2 x4 x5 x6 x7 x8 x10 h) 266 [some (.ref x0), none, some (.int x2), none, some (.int x4), some (.int x5), some (.int x6), some (.int x7), some (.long x8), none, some (.int x10)] [] h := by
  intro n
  induction n with
  | zero => intro x0 x2 x4 x5 x6 x7 x8 x10 h; exact Y.nothing
  | succ n ih =>
    intro x0 x2 x4 x5 x6 x7 x8 x10 h
    unfold f_X10_laysCheap_L266
    refine Y.op (pc' := 268) (fun _ => X.iload rfl dX10_laysCheap_266) ?_
    refine Y.op (pc' := 269) (fun _ => X.aloadn rfl dX10_laysCheap_268) ?_
    refine Y.getR fd_X10_22 rfl dX10_laysCheap_269 (fun v1 => ?_)
    refine Y.op (pc' := 273) (fun _ => X.ic ki_0 dX10_laysCheap_272) ?_
    refine Y.aldR 102 (by decide) (by decide) dX10_laysCheap_273 (fun v2 => ?_)
    refine Y.op (pc' := 275) (fun _ => X.ic ki_1 dX10_laysCheap_274) ?_
    refine Y.aldI dX10_laysCheap_275 (fun v3 => ?_)
    refine Y.cmpge 357 (by decide) dX10_laysCheap_276 ?_ ?_
    · exact Y.fg (hkE357 x0 x2 x4 x5 x6 x7 x8 h) (And.intro rfl (And.intro rfl (And.intro rfl (And.intro rfl (And.intro rfl (And.intro rfl (And.intro rfl trivial)))))))
    · refine Y.op (pc' := 281) (fun _ => X.iload rfl dX10_laysCheap_279) ?_
      refine Y.op (pc' := 283) (fun _ => X.iload rfl dX10_laysCheap_281) ?_
      refine Y.op (pc' := 284) (fun _ => X.ic ki_m1 dX10_laysCheap_283) ?_
      refine Y.op (pc' := 285) (fun _ => X.ixor dX10_laysCheap_284) ?_
      refine Y.op (pc' := 286) (fun _ => X.iand dX10_laysCheap_285) ?_
      refine Y.op (pc' := 288) (fun _ => X.iload rfl dX10_laysCheap_286) ?_
      refine Y.callSi (As := [.int (x5 &&& (x6 ^^^ (-1 : Int32))), .int x10]) lk_X10_182 rfl cal_X10_has sta_X10_has (Nat.le_of_ble_eq_true rfl) rfl rfl (Nat.le_of_ble_eq_true rfl) dX10_laysCheap_288 (fun _ e => m_X10_has (x5 &&& (x6 ^^^ (-1 : Int32))) x10 h _ _ e) (fun r4 => ?_)
      refine Y.ifeq 351 (by decide) dX10_laysCheap_291 ?_ ?_
      · exact y_X10_laysCheap_J351 ih hkE357 x0 x2 x4 x5 x6 x7 x8 x10 r4.2
      · refine Y.op (pc' := 295) (fun _ => X.aloadn rfl dX10_laysCheap_294) ?_
        refine Y.getR fd_X10_36 rfl dX10_laysCheap_295 (fun v5 => ?_)
        refine Y.op (pc' := 299) (fun _ => X.ic ki_0 dX10_laysCheap_298) ?_
        refine Y.aldR 103 (by decide) (by decide) dX10_laysCheap_299 (fun v6 => ?_)
        refine Y.op (pc' := 302) (fun _ => X.iload rfl dX10_laysCheap_300) ?_
        refine Y.aldR 102 (by decide) (by decide) dX10_laysCheap_302 (fun v7 => ?_)
        refine Y.op (pc' := 305) (fun _ => X.iload rfl dX10_laysCheap_303) ?_
        refine Y.aldI dX10_laysCheap_305 (fun v8 => ?_)
        refine Y.op (pc' := 307) (fun _ => X.aloadn rfl dX10_laysCheap_306) ?_
        refine Y.getR fd_X10_70 rfl dX10_laysCheap_307 (fun v9 => ?_)
        refine Y.op (pc' := 312) (fun _ => X.iload rfl dX10_laysCheap_310) ?_
        refine Y.op (pc' := 313) (fun _ => X.ic ki_1 dX10_laysCheap_312) ?_
        refine Y.op (pc' := 314) (fun _ => X.iadd dX10_laysCheap_313) ?_
        refine Y.aldR 102 (by decide) (by decide) dX10_laysCheap_314 (fun v10 => ?_)
        refine Y.op (pc' := 317) (fun _ => X.iload rfl dX10_laysCheap_315) ?_
        refine Y.op (pc' := 318) (fun _ => X.ic ki_1 dX10_laysCheap_317) ?_
        refine Y.op (pc' := 320) (fun _ => X.iload rfl dX10_laysCheap_318) ?_
        refine Y.op (pc' := 321) (fun _ => X.ishl dX10_laysCheap_320) ?_
        refine Y.op (pc' := 322) (fun _ => X.ior dX10_laysCheap_321) ?_
        refine Y.aldI dX10_laysCheap_322 (fun v11 => ?_)
        refine Y.op (pc' := 324) (fun _ => X.iadd dX10_laysCheap_323) ?_
        refine Y.op (pc' := 326) (fun _ => X.iload rfl dX10_laysCheap_324) ?_
        refine Y.cmpne 351 (by decide) dX10_laysCheap_326 ?_ ?_
        · exact y_X10_laysCheap_J351 ih hkE357 x0 x2 x4 x5 x6 x7 x8 x10 r4.2
        · refine Y.op (pc' := 331) (fun _ => X.lload rfl dX10_laysCheap_329) ?_
          refine Y.op (pc' := 332) (fun _ => X.aloadn rfl dX10_laysCheap_331) ?_
          refine Y.getR fd_X10_75 rfl dX10_laysCheap_332 (fun v12 => ?_)
          refine Y.op (pc' := 337) (fun _ => X.iload rfl dX10_laysCheap_335) ?_
          refine Y.op (pc' := 338) (fun _ => X.ic ki_1 dX10_laysCheap_337) ?_
          refine Y.op (pc' := 339) (fun _ => X.iadd dX10_laysCheap_338) ?_
          refine Y.aldR 104 (by decide) (by decide) dX10_laysCheap_339 (fun v13 => ?_)
          refine Y.op (pc' := 342) (fun _ => X.iload rfl dX10_laysCheap_340) ?_
          refine Y.op (pc' := 343) (fun _ => X.ic ki_1 dX10_laysCheap_342) ?_
          refine Y.op (pc' := 345) (fun _ => X.iload rfl dX10_laysCheap_343) ?_
          refine Y.op (pc' := 346) (fun _ => X.ishl dX10_laysCheap_345) ?_
          refine Y.op (pc' := 347) (fun _ => X.ior dX10_laysCheap_346) ?_
          refine Y.aldJ dX10_laysCheap_347 (fun v14 => ?_)
          refine Y.op (pc' := 349) (fun _ => X.ladd dX10_laysCheap_348) ?_
          refine Y.topl (fun v15 => ?_)
          refine Y.op (pc' := 351) (loc' := [some (.ref x0), none, some (.int x2), none, some (.int x4), some (.int x5), some (.int x6), some (.int x7), some (.long v15), none, some (.int x10)]) (fun _ => X.lstore (Nat.le_of_ble_eq_true rfl) rfl dX10_laysCheap_349) ?_
          exact y_X10_laysCheap_J351 ih hkE357 x0 x2 x4 x5 x6 x7 v15 x10 r4.2
def f_X10_laysCheap_J261 (kH : Nat → Int32 → Int32 → Int32 → Int32 → xH → Option (xH)) (kE403 : Nat → Int32 → Int32 → xH → Option (xH)) (x0 : Nat) (x2 : Int32) (x4 : Int32) (x5 : Int32) (x6 : Int32) (x7 : Int32) (s0 : Int64) (h : xH) : Option (xH) :=
  f_X10_laysCheap_L266 (f_X10_laysCheap_J357 (kH) kE403) 5000 x0 x2 x4 x5 x6 x7 s0 (0 : Int32) h
theorem y_X10_laysCheap_J261 {g : xG} {h0 : xH} {cl : Bool} {kH : Nat → Int32 → Int32 → Int32 → Int32 → xH → Option (xH)} {kE403 : Nat → Int32 → Int32 → xH → Option (xH)} (hkH : ∀ (x0 : Nat) (x2 : Int32) (x4 : Int32) (x5 : Int32) (x6 : Int32) (h : xH), Y g DX10_laysCheap h0 cl iV (kH x0 x2 x4 x5 x6 h) 134 [some (.ref x0), none, some (.int x2), none, some (.int x4), some (.int x5), some (.int x6), none, none, none, none] [] h) (hkE403 : ∀ (x0 : Nat) (x2 : Int32) (x4 : Int32) (h : xH), Y g DX10_laysCheap h0 cl iV (kE403 x0 x2 x4 h) 403 [some (.ref x0), none, some (.int x2), none, some (.int x4), none, none, none, none, none, none] [] h) (x0 : Nat) (x2 : Int32) (x4 : Int32) (x5 : Int32) (x6 : Int32) (x7 : Int32) (s0 : Int64) (h : xH) : Y g DX10_laysCheap h0 cl iV (f_X10_laysCheap_J261 kH kE403 x0 x2 x4 x5 x6 x7 s0 h) 261 [some (.ref x0), none, some (.int x2), none, some (.int x4), some (.int x5), some (.int x6), some (.int x7), none, none, none] [.long s0] h := by
  unfold f_X10_laysCheap_J261
  refine Y.op (pc' := 263) (loc' := [some (.ref x0), none, some (.int x2), none, some (.int x4), some (.int x5), some (.int x6), some (.int x7), some (.long s0), none, none]) (fun _ => X.lstore (Nat.le_of_ble_eq_true rfl) rfl dX10_laysCheap_261) ?_
  refine Y.op (pc' := 264) (fun _ => X.ic ki_0 dX10_laysCheap_263) ?_
  refine Y.op (pc' := 266) (loc' := [some (.ref x0), none, some (.int x2), none, some (.int x4), some (.int x5), some (.int x6), some (.int x7), some (.long s0), none, some (.int (0 : Int32))]) (fun _ => X.istore (Nat.le_of_ble_eq_true rfl) rfl dX10_laysCheap_264) ?_
  exact y_X10_laysCheap_L266 (y_X10_laysCheap_J357 hkH hkE403) 5000 x0 x2 x4 x5 x6 x7 s0 (0 : Int32) h
def f_X10_laysCheap_J228 (kH : Nat → Int32 → Int32 → Int32 → Int32 → xH → Option (xH)) (kE403 : Nat → Int32 → Int32 → xH → Option (xH)) (x0 : Nat) (x2 : Int32) (x4 : Int32) (x5 : Int32) (x6 : Int32) (x7 : Int32) (h : xH) : Option (xH) :=
  (gR h 10 x0 37).bind fun v1 =>
  (aR 102 h v1 (x4 + (1 : Int32))).bind fun v2 =>
  (aI h v2 x6).bind fun v3 =>
  if v3 = x7 then
    (gR h 10 x0 38).bind fun v4 =>
    (aR 104 h v4 (x4 + (1 : Int32))).bind fun v5 =>
    (aJ h v5 x6).bind fun v6 =>
    f_X10_laysCheap_J261 (kH) kE403 x0 x2 x4 x5 x6 x7 v6 h
  else
    f_X10_laysCheap_J261 (kH) kE403 x0 x2 x4 x5 x6 x7 (0 : Int64) h
theorem y_X10_laysCheap_J228 {g : xG} {h0 : xH} {cl : Bool} {kH : Nat → Int32 → Int32 → Int32 → Int32 → xH → Option (xH)} {kE403 : Nat → Int32 → Int32 → xH → Option (xH)} (hkH : ∀ (x0 : Nat) (x2 : Int32) (x4 : Int32) (x5 : Int32) (x6 : Int32) (h : xH), Y g DX10_laysCheap h0 cl iV (kH x0 x2 x4 x5 x6 h) 134 [some (.ref x0), none, some (.int x2), none, some (.int x4), some (.int x5), some (.int x6), none, none, none, none] [] h) (hkE403 : ∀ (x0 : Nat) (x2 : Int32) (x4 : Int32) (h : xH), Y g DX10_laysCheap h0 cl iV (kE403 x0 x2 x4 h) 403 [some (.ref x0), none, some (.int x2), none, some (.int x4), none, none, none, none, none, none] [] h) (x0 : Nat) (x2 : Int32) (x4 : Int32) (x5 : Int32) (x6 : Int32) (x7 : Int32) (h : xH) : Y g DX10_laysCheap h0 cl iV (f_X10_laysCheap_J228 kH kE403 x0 x2 x4 x5 x6 x7 h) 228 [some (.ref x0), none, some (.int x2), none, some (.int x4), some (.int x5), some (.int x6), some (.int x7), none, none, none] [] h := by
  unfold f_X10_laysCheap_J228
  refine Y.op (pc' := 229) (fun _ => X.aloadn rfl dX10_laysCheap_228) ?_
  refine Y.getR fd_X10_70 rfl dX10_laysCheap_229 (fun v1 => ?_)
  refine Y.op (pc' := 234) (fun _ => X.iload rfl dX10_laysCheap_232) ?_
  refine Y.op (pc' := 235) (fun _ => X.ic ki_1 dX10_laysCheap_234) ?_
  refine Y.op (pc' := 236) (fun _ => X.iadd dX10_laysCheap_235) ?_
  refine Y.aldR 102 (by decide) (by decide) dX10_laysCheap_236 (fun v2 => ?_)
  refine Y.op (pc' := 239) (fun _ => X.iload rfl dX10_laysCheap_237) ?_
  refine Y.aldI dX10_laysCheap_239 (fun v3 => ?_)
  refine Y.op (pc' := 242) (fun _ => X.iload rfl dX10_laysCheap_240) ?_
  refine Y.cmpne 260 (by decide) dX10_laysCheap_242 ?_ ?_
  · refine Y.op (pc' := 261) (fun _ => X.lc kl_0 dX10_laysCheap_260) ?_
    exact y_X10_laysCheap_J261 hkH hkE403 x0 x2 x4 x5 x6 x7 (0 : Int64) h
  · refine Y.op (pc' := 246) (fun _ => X.aloadn rfl dX10_laysCheap_245) ?_
    refine Y.getR fd_X10_75 rfl dX10_laysCheap_246 (fun v4 => ?_)
    refine Y.op (pc' := 251) (fun _ => X.iload rfl dX10_laysCheap_249) ?_
    refine Y.op (pc' := 252) (fun _ => X.ic ki_1 dX10_laysCheap_251) ?_
    refine Y.op (pc' := 253) (fun _ => X.iadd dX10_laysCheap_252) ?_
    refine Y.aldR 104 (by decide) (by decide) dX10_laysCheap_253 (fun v5 => ?_)
    refine Y.op (pc' := 256) (fun _ => X.iload rfl dX10_laysCheap_254) ?_
    refine Y.aldJ dX10_laysCheap_256 (fun v6 => ?_)
    refine Y.op (pc' := 261) (fun _ => X.goto 261 (by decide) dX10_laysCheap_257) ?_
    exact y_X10_laysCheap_J261 hkH hkE403 x0 x2 x4 x5 x6 x7 v6 h
def f_X10_laysCheap_J222 (kH : Nat → Int32 → Int32 → Int32 → Int32 → Int32 → Int32 → xH → Option (xH)) (kE228 : Nat → Int32 → Int32 → Int32 → Int32 → Int32 → xH → Option (xH)) (x0 : Nat) (x2 : Int32) (x4 : Int32) (x5 : Int32) (x6 : Int32) (x7 : Int32) (x8 : Int32) (h : xH) : Option (xH) :=
  lt (x8 + (1 : Int32)) fun v1 =>
  kH x0 x2 x4 x5 x6 x7 v1 h
theorem y_X10_laysCheap_J222 {g : xG} {h0 : xH} {cl : Bool} {kH : Nat → Int32 → Int32 → Int32 → Int32 → Int32 → Int32 → xH → Option (xH)} {kE228 : Nat → Int32 → Int32 → Int32 → Int32 → Int32 → xH → Option (xH)} (hkH : ∀ (x0 : Nat) (x2 : Int32) (x4 : Int32) (x5 : Int32) (x6 : Int32) (x7 : Int32) (x8 : Int32) (h : xH), Y g DX10_laysCheap h0 cl iV (kH x0 x2 x4 x5 x6 x7 x8 h) 157 [some (.ref x0), none, some (.int x2), none, some (.int x4), some (.int x5), some (.int x6), some (.int x7), some (.int x8), none, none] [] h) (hkE228 : ∀ (x0 : Nat) (x2 : Int32) (x4 : Int32) (x5 : Int32) (x6 : Int32) (x7 : Int32) (h : xH), Y g DX10_laysCheap h0 cl iV (kE228 x0 x2 x4 x5 x6 x7 h) 228 [some (.ref x0), none, some (.int x2), none, some (.int x4), some (.int x5), some (.int x6), some (.int x7), none, none, none] [] h) (x0 : Nat) (x2 : Int32) (x4 : Int32) (x5 : Int32) (x6 : Int32) (x7 : Int32) (x8 : Int32) (h : xH) : Y g DX10_laysCheap h0 cl iV (f_X10_laysCheap_J222 kH kE228 x0 x2 x4 x5 x6 x7 x8 h) 222 [some (.ref x0), none, some (.int x2), none, some (.int x4), some (.int x5), some (.int x6), some (.int x7), some (.int x8), none, none] [] h := by
  unfold f_X10_laysCheap_J222
  refine Y.iinc (i := 8) (loc' := fun v1 => [some (.ref x0), none, some (.int x2), none, some (.int x4), some (.int x5), some (.int x6), some (.int x7), some (.int v1), none, none]) rfl (Nat.le_of_ble_eq_true rfl) ki_1 (fun _ => rfl) dX10_laysCheap_222 (fun v1 => ?_)
  refine Y.op (pc' := 157) (fun _ => X.goto 157 (by decide) dX10_laysCheap_225) ?_
  exact hkH x0 x2 x4 x5 x6 x7 v1 h
def f_X10_laysCheap_L157 (kE228 : Nat → Int32 → Int32 → Int32 → Int32 → Int32 → xH → Option (xH)) : Nat → Nat → Int32 → Int32 → Int32 → Int32 → Int32 → Int32 → xH → Option (xH)
  | 0 => fun _ _ _ _ _ _ _ _ => none
  | n + 1 => fun x0 x2 x4 x5 x6 x7 x8 h =>
    (gR h 10 x0 9).bind fun v1 =>
    (aR 102 h v1 (0 : Int32)).bind fun v2 =>
    (aI h v2 (1 : Int32)).bind fun v3 =>
    if x8 ≥ v3 then
      kE228 x0 x2 x4 x5 x6 x7 h
    else
      (f_X10_has (x5 &&& (x6 ^^^ (-1 : Int32))) x8 h).bind fun r4 =>
      if r4.1 = (0 : Int32) then
        f_X10_laysCheap_J222 (f_X10_laysCheap_L157 kE228 n) kE228 x0 x2 x4 x5 x6 x7 x8 r4.2
      else
        (gR r4.2 10 x0 13).bind fun v5 =>
        (aR 103 r4.2 v5 (0 : Int32)).bind fun v6 =>
        (aR 102 r4.2 v6 x4).bind fun v7 =>
        (aI r4.2 v7 x8).bind fun v8 =>
        (gR r4.2 10 x0 37).bind fun v9 =>
        (aR 102 r4.2 v9 (x4 + (1 : Int32))).bind fun v10 =>
        (aI r4.2 v10 (x6 ||| ((1 : Int32) <<< (x8 &&& 31)))).bind fun v11 =>
        (f_X10_less x7 (v8 + v11) r4.2).bind fun r12 =>
        f_X10_laysCheap_J222 (f_X10_laysCheap_L157 kE228 n) kE228 x0 x2 x4 x5 x6 r12.1 x8 r12.2
theorem y_X10_laysCheap_L157 {g : xG} {h0 : xH} {cl : Bool} {kE228 : Nat → Int32 → Int32 → Int32 → Int32 → Int32 → xH → Option (xH)} (hkE228 : ∀ (x0 : Nat) (x2 : Int32) (x4 : Int32) (x5 : Int32) (x6 : Int32) (x7 : Int32) (h : xH), Y g DX10_laysCheap h0 cl iV (kE228 x0 x2 x4 x5 x6 x7 h) 228 [some (.ref x0), none, some (.int x2), none, some (.int x4), some (.int x5), some (.int x6), some (.int x7), none, none, none] [] h) : ∀ (n : Nat) (x0 : Nat) (x2 : Int32) (x4 : Int32) (x5 : Int32) (x6 : Int32) (x7 : Int32) (x8 : Int32) (h : xH), Y g DX10_laysCheap h0 cl iV (f_X10_laysCheap_L157 kE228 n x0 x2 x4 x5 x6 x7 x8 h) 157 [some (.ref x0), none, some (.int x2), none, some (.int x4), some (.int x5), some (.int x6), some (.int x7), some (.int x8), none, none] [] h := by
  intro n
  induction n with
  | zero => intro x0 x2 x4 x5 x6 x7 x8 h; exact Y.nothing
  | succ n ih =>
    intro x0 x2 x4 x5 x6 x7 x8 h
    unfold f_X10_laysCheap_L157
    refine Y.op (pc' := 159) (fun _ => X.iload rfl dX10_laysCheap_157) ?_
    refine Y.op (pc' := 160) (fun _ => X.aloadn rfl dX10_laysCheap_159) ?_
    refine Y.getR fd_X10_22 rfl dX10_laysCheap_160 (fun v1 => ?_)
    refine Y.op (pc' := 164) (fun _ => X.ic ki_0 dX10_laysCheap_163) ?_
    refine Y.aldR 102 (by decide) (by decide) dX10_laysCheap_164 (fun v2 => ?_)
    refine Y.op (pc' := 166) (fun _ => X.ic ki_1 dX10_laysCheap_165) ?_
    refine Y.aldI dX10_laysCheap_166 (fun v3 => ?_)
    refine Y.cmpge 228 (by decide) dX10_laysCheap_167 ?_ ?_
    · exact Y.fg (hkE228 x0 x2 x4 x5 x6 x7 h) (And.intro rfl (And.intro rfl (And.intro rfl (And.intro rfl (And.intro rfl (And.intro rfl trivial))))))
    · refine Y.op (pc' := 172) (fun _ => X.iload rfl dX10_laysCheap_170) ?_
      refine Y.op (pc' := 174) (fun _ => X.iload rfl dX10_laysCheap_172) ?_
      refine Y.op (pc' := 175) (fun _ => X.ic ki_m1 dX10_laysCheap_174) ?_
      refine Y.op (pc' := 176) (fun _ => X.ixor dX10_laysCheap_175) ?_
      refine Y.op (pc' := 177) (fun _ => X.iand dX10_laysCheap_176) ?_
      refine Y.op (pc' := 179) (fun _ => X.iload rfl dX10_laysCheap_177) ?_
      refine Y.callSi (As := [.int (x5 &&& (x6 ^^^ (-1 : Int32))), .int x8]) lk_X10_182 rfl cal_X10_has sta_X10_has (Nat.le_of_ble_eq_true rfl) rfl rfl (Nat.le_of_ble_eq_true rfl) dX10_laysCheap_179 (fun _ e => m_X10_has (x5 &&& (x6 ^^^ (-1 : Int32))) x8 h _ _ e) (fun r4 => ?_)
      refine Y.ifeq 222 (by decide) dX10_laysCheap_182 ?_ ?_
      · exact y_X10_laysCheap_J222 ih hkE228 x0 x2 x4 x5 x6 x7 x8 r4.2
      · refine Y.op (pc' := 187) (fun _ => X.iload rfl dX10_laysCheap_185) ?_
        refine Y.op (pc' := 188) (fun _ => X.aloadn rfl dX10_laysCheap_187) ?_
        refine Y.getR fd_X10_36 rfl dX10_laysCheap_188 (fun v5 => ?_)
        refine Y.op (pc' := 192) (fun _ => X.ic ki_0 dX10_laysCheap_191) ?_
        refine Y.aldR 103 (by decide) (by decide) dX10_laysCheap_192 (fun v6 => ?_)
        refine Y.op (pc' := 195) (fun _ => X.iload rfl dX10_laysCheap_193) ?_
        refine Y.aldR 102 (by decide) (by decide) dX10_laysCheap_195 (fun v7 => ?_)
        refine Y.op (pc' := 198) (fun _ => X.iload rfl dX10_laysCheap_196) ?_
        refine Y.aldI dX10_laysCheap_198 (fun v8 => ?_)
        refine Y.op (pc' := 200) (fun _ => X.aloadn rfl dX10_laysCheap_199) ?_
        refine Y.getR fd_X10_70 rfl dX10_laysCheap_200 (fun v9 => ?_)
        refine Y.op (pc' := 205) (fun _ => X.iload rfl dX10_laysCheap_203) ?_
        refine Y.op (pc' := 206) (fun _ => X.ic ki_1 dX10_laysCheap_205) ?_
        refine Y.op (pc' := 207) (fun _ => X.iadd dX10_laysCheap_206) ?_
        refine Y.aldR 102 (by decide) (by decide) dX10_laysCheap_207 (fun v10 => ?_)
        refine Y.op (pc' := 210) (fun _ => X.iload rfl dX10_laysCheap_208) ?_
        refine Y.op (pc' := 211) (fun _ => X.ic ki_1 dX10_laysCheap_210) ?_
        refine Y.op (pc' := 213) (fun _ => X.iload rfl dX10_laysCheap_211) ?_
        refine Y.op (pc' := 214) (fun _ => X.ishl dX10_laysCheap_213) ?_
        refine Y.op (pc' := 215) (fun _ => X.ior dX10_laysCheap_214) ?_
        refine Y.aldI dX10_laysCheap_215 (fun v11 => ?_)
        refine Y.op (pc' := 217) (fun _ => X.iadd dX10_laysCheap_216) ?_
        refine Y.callSi (As := [.int x7, .int (v8 + v11)]) lk_X10_123 rfl cal_X10_less sta_X10_less (Nat.le_of_ble_eq_true rfl) rfl rfl (Nat.le_of_ble_eq_true rfl) dX10_laysCheap_217 (fun _ e => m_X10_less x7 (v8 + v11) r4.2 _ _ e) (fun r12 => ?_)
        refine Y.op (pc' := 222) (loc' := [some (.ref x0), none, some (.int x2), none, some (.int x4), some (.int x5), some (.int x6), some (.int r12.1), some (.int x8), none, none]) (fun _ => X.istore (Nat.le_of_ble_eq_true rfl) rfl dX10_laysCheap_220) ?_
        exact y_X10_laysCheap_J222 ih hkE228 x0 x2 x4 x5 x6 r12.1 x8 r12.2
def f_X10_laysCheap_L134 (kE403 : Nat → Int32 → Int32 → xH → Option (xH)) : Nat → Nat → Int32 → Int32 → Int32 → Int32 → xH → Option (xH)
  | 0 => fun _ _ _ _ _ _ => none
  | n + 1 => fun x0 x2 x4 x5 x6 h =>
    if x6 ≥ x2 then
      kE403 x0 x2 x4 h
    else
      (gR h 10 x0 37).bind fun v1 =>
      (aR 102 h v1 (x4 + (1 : Int32))).bind fun v2 =>
      (aI h v2 x6).bind fun v3 =>
      f_X10_laysCheap_L157 (f_X10_laysCheap_J228 (f_X10_laysCheap_L134 kE403 n) kE403) 5000 x0 x2 x4 x5 x6 v3 (0 : Int32) h
theorem y_X10_laysCheap_L134 {g : xG} {h0 : xH} {cl : Bool} {kE403 : Nat → Int32 → Int32 → xH → Option (xH)} (hkE403 : ∀ (x0 : Nat) (x2 : Int32) (x4 : Int32) (h : xH), Y g DX10_laysCheap h0 cl iV (kE403 x0 x2 x4 h) 403 [some (.ref x0), none, some (.int x2), none, some (.int x4), none, none, none, none, none, none] [] h) : ∀ (n : Nat) (x0 : Nat) (x2 : Int32) (x4 : Int32) (x5 : Int32) (x6 : Int32) (h : xH), Y g DX10_laysCheap h0 cl iV (f_X10_laysCheap_L134 kE403 n x0 x2 x4 x5 x6 h) 134 [some (.ref x0), none, some (.int x2), none, some (.int x4), some (.int x5), some (.int x6), none, none, none, none] [] h := by
  intro n
  induction n with
  | zero => intro x0 x2 x4 x5 x6 h; exact Y.nothing
  | succ n ih =>
    intro x0 x2 x4 x5 x6 h
    unfold f_X10_laysCheap_L134
    refine Y.op (pc' := 136) (fun _ => X.iload rfl dX10_laysCheap_134) ?_
    refine Y.op (pc' := 137) (fun _ => X.iloadn rfl dX10_laysCheap_136) ?_
    refine Y.cmpge 403 (by decide) dX10_laysCheap_137 ?_ ?_
    · exact Y.fg (hkE403 x0 x2 x4 h) (And.intro rfl (And.intro rfl (And.intro rfl trivial)))
    · refine Y.op (pc' := 141) (fun _ => X.aloadn rfl dX10_laysCheap_140) ?_
      refine Y.getR fd_X10_70 rfl dX10_laysCheap_141 (fun v1 => ?_)
      refine Y.op (pc' := 146) (fun _ => X.iload rfl dX10_laysCheap_144) ?_
      refine Y.op (pc' := 147) (fun _ => X.ic ki_1 dX10_laysCheap_146) ?_
      refine Y.op (pc' := 148) (fun _ => X.iadd dX10_laysCheap_147) ?_
      refine Y.aldR 102 (by decide) (by decide) dX10_laysCheap_148 (fun v2 => ?_)
      refine Y.op (pc' := 151) (fun _ => X.iload rfl dX10_laysCheap_149) ?_
      refine Y.aldI dX10_laysCheap_151 (fun v3 => ?_)
      refine Y.op (pc' := 154) (loc' := [some (.ref x0), none, some (.int x2), none, some (.int x4), some (.int x5), some (.int x6), some (.int v3), none, none, none]) (fun _ => X.istore (Nat.le_of_ble_eq_true rfl) rfl dX10_laysCheap_152) ?_
      refine Y.op (pc' := 155) (fun _ => X.ic ki_0 dX10_laysCheap_154) ?_
      refine Y.op (pc' := 157) (loc' := [some (.ref x0), none, some (.int x2), none, some (.int x4), some (.int x5), some (.int x6), some (.int v3), some (.int (0 : Int32)), none, none]) (fun _ => X.istore (Nat.le_of_ble_eq_true rfl) rfl dX10_laysCheap_155) ?_
      exact y_X10_laysCheap_L157 (y_X10_laysCheap_J228 ih hkE403) 5000 x0 x2 x4 x5 x6 v3 (0 : Int32) h
def f_X10_laysCheap_J129 (kH : Nat → Int32 → Int32 → xH → Option (xH)) (kE409 : xH → Option (xH)) (x0 : Nat) (x2 : Int32) (x4 : Int32) (s0 : Int32) (h : xH) : Option (xH) :=
  f_X10_laysCheap_L134 (f_X10_laysCheap_J403 (kH) kE409) 5000 x0 x2 x4 s0 (0 : Int32) h
theorem y_X10_laysCheap_J129 {g : xG} {h0 : xH} {cl : Bool} {kH : Nat → Int32 → Int32 → xH → Option (xH)} {kE409 : xH → Option (xH)} (hkH : ∀ (x0 : Nat) (x2 : Int32) (x4 : Int32) (h : xH), Y g DX10_laysCheap h0 cl iV (kH x0 x2 x4 h) 92 [some (.ref x0), none, some (.int x2), none, some (.int x4), none, none, none, none, none, none] [] h) (hkE409 : ∀  (h : xH), Y g DX10_laysCheap h0 cl iV (kE409  h) 409 [none, none, none, none, none, none, none, none, none, none, none] [] h) (x0 : Nat) (x2 : Int32) (x4 : Int32) (s0 : Int32) (h : xH) : Y g DX10_laysCheap h0 cl iV (f_X10_laysCheap_J129 kH kE409 x0 x2 x4 s0 h) 129 [some (.ref x0), none, some (.int x2), none, some (.int x4), none, none, none, none, none, none] [.int s0] h := by
  unfold f_X10_laysCheap_J129
  refine Y.op (pc' := 131) (loc' := [some (.ref x0), none, some (.int x2), none, some (.int x4), some (.int s0), none, none, none, none, none]) (fun _ => X.istore (Nat.le_of_ble_eq_true rfl) rfl dX10_laysCheap_129) ?_
  refine Y.op (pc' := 132) (fun _ => X.ic ki_0 dX10_laysCheap_131) ?_
  refine Y.op (pc' := 134) (loc' := [some (.ref x0), none, some (.int x2), none, some (.int x4), some (.int s0), some (.int (0 : Int32)), none, none, none, none]) (fun _ => X.istore (Nat.le_of_ble_eq_true rfl) rfl dX10_laysCheap_132) ?_
  exact y_X10_laysCheap_L134 (y_X10_laysCheap_J403 hkH hkE409) 5000 x0 x2 x4 s0 (0 : Int32) h
def f_X10_laysCheap_L92 (kE409 : xH → Option (xH)) : Nat → Nat → Int32 → Int32 → xH → Option (xH)
  | 0 => fun _ _ _ _ => none
  | n + 1 => fun x0 x2 x4 h =>
    if x4 < (0 : Int32) then
      kE409 h
    else
      (vc h 10 x0 (f_X10_isThere x0 (0 : Int32) x4 h)).bind fun r1 =>
      if r1.1 = (0 : Int32) then
        f_X10_laysCheap_J129 (f_X10_laysCheap_L92 kE409 n) kE409 x0 x2 x4 (0 : Int32) r1.2
      else
        (gR r1.2 10 x0 10).bind fun v2 =>
        (aR 102 r1.2 v2 (0 : Int32)).bind fun v3 =>
        (aI r1.2 v3 x4).bind fun v4 =>
        (gR r1.2 10 x0 9).bind fun v5 =>
        (aR 102 r1.2 v5 (0 : Int32)).bind fun v6 =>
        (aI r1.2 v6 (4 : Int32)).bind fun v7 =>
        f_X10_laysCheap_J129 (f_X10_laysCheap_L92 kE409 n) kE409 x0 x2 x4 (v4 &&& v7) r1.2
theorem y_X10_laysCheap_L92 {g : xG} {h0 : xH} {cl : Bool} {kE409 : xH → Option (xH)} (hkE409 : ∀  (h : xH), Y g DX10_laysCheap h0 cl iV (kE409  h) 409 [none, none, none, none, none, none, none, none, none, none, none] [] h) : ∀ (n : Nat) (x0 : Nat) (x2 : Int32) (x4 : Int32) (h : xH), Y g DX10_laysCheap h0 cl iV (f_X10_laysCheap_L92 kE409 n x0 x2 x4 h) 92 [some (.ref x0), none, some (.int x2), none, some (.int x4), none, none, none, none, none, none] [] h := by
  intro n
  induction n with
  | zero => intro x0 x2 x4 h; exact Y.nothing
  | succ n ih =>
    intro x0 x2 x4 h
    unfold f_X10_laysCheap_L92
    refine Y.op (pc' := 94) (fun _ => X.iload rfl dX10_laysCheap_92) ?_
    refine Y.iflt 409 (by decide) dX10_laysCheap_94 ?_ ?_
    · exact Y.fg (hkE409 h) trivial
    · refine Y.op (pc' := 98) (fun _ => X.aloadn rfl dX10_laysCheap_97) ?_
      refine Y.op (pc' := 99) (fun _ => X.ic ki_0 dX10_laysCheap_98) ?_
      refine Y.op (pc' := 101) (fun _ => X.iload rfl dX10_laysCheap_99) ?_
      refine Y.callVi (As := [.int (0 : Int32), .int x4]) lk_X10_240 rfl cal_X10_isThere vir_X10_isThere (Nat.le_of_ble_eq_true rfl) (Nat.le_of_ble_eq_true rfl) rfl rfl rfl (Nat.le_of_ble_eq_true rfl) dX10_laysCheap_101 (fun _ e => m_X10_isThere x0 (0 : Int32) x4 h _ _ e) (fun r1 => ?_)
      refine Y.ifeq 128 (by decide) dX10_laysCheap_104 ?_ ?_
      · refine Y.op (pc' := 129) (fun _ => X.ic ki_0 dX10_laysCheap_128) ?_
        exact y_X10_laysCheap_J129 ih hkE409 x0 x2 x4 (0 : Int32) r1.2
      · refine Y.op (pc' := 108) (fun _ => X.aloadn rfl dX10_laysCheap_107) ?_
        refine Y.getR fd_X10_25 rfl dX10_laysCheap_108 (fun v2 => ?_)
        refine Y.op (pc' := 112) (fun _ => X.ic ki_0 dX10_laysCheap_111) ?_
        refine Y.aldR 102 (by decide) (by decide) dX10_laysCheap_112 (fun v3 => ?_)
        refine Y.op (pc' := 115) (fun _ => X.iload rfl dX10_laysCheap_113) ?_
        refine Y.aldI dX10_laysCheap_115 (fun v4 => ?_)
        refine Y.op (pc' := 117) (fun _ => X.aloadn rfl dX10_laysCheap_116) ?_
        refine Y.getR fd_X10_22 rfl dX10_laysCheap_117 (fun v5 => ?_)
        refine Y.op (pc' := 121) (fun _ => X.ic ki_0 dX10_laysCheap_120) ?_
        refine Y.aldR 102 (by decide) (by decide) dX10_laysCheap_121 (fun v6 => ?_)
        refine Y.op (pc' := 123) (fun _ => X.ic ki_4 dX10_laysCheap_122) ?_
        refine Y.aldI dX10_laysCheap_123 (fun v7 => ?_)
        refine Y.op (pc' := 125) (fun _ => X.iand dX10_laysCheap_124) ?_
        refine Y.op (pc' := 129) (fun _ => X.goto 129 (by decide) dX10_laysCheap_125) ?_
        exact y_X10_laysCheap_J129 ih hkE409 x0 x2 x4 (v4 &&& v7) r1.2
def f_X10_laysCheap_J87 (x0 : Nat) (x1 : Int32) (x2 : Int32) (h : xH) : Option (xH) :=
  lt ((x1 - (1 : Int32))) fun v1 =>
  f_X10_laysCheap_L92 (f_X10_laysCheap_J409) 5000 x0 x2 v1 h
theorem y_X10_laysCheap_J87 {g : xG} {h0 : xH} {cl : Bool} (x0 : Nat) (x1 : Int32) (x2 : Int32) (h : xH) : Y g DX10_laysCheap h0 cl iV (f_X10_laysCheap_J87 x0 x1 x2 h) 87 [some (.ref x0), some (.int x1), some (.int x2), none, none, none, none, none, none, none, none] [] h := by
  unfold f_X10_laysCheap_J87
  refine Y.op (pc' := 88) (fun _ => X.iloadn rfl dX10_laysCheap_87) ?_
  refine Y.op (pc' := 89) (fun _ => X.ic ki_1 dX10_laysCheap_88) ?_
  refine Y.op (pc' := 90) (fun _ => X.isub dX10_laysCheap_89) ?_
  refine Y.top (fun v1 => ?_)
  refine Y.op (pc' := 92) (loc' := [some (.ref x0), some (.int x1), some (.int x2), none, some (.int v1), none, none, none, none, none, none]) (fun _ => X.istore (Nat.le_of_ble_eq_true rfl) rfl dX10_laysCheap_90) ?_
  exact Y.fg (y_X10_laysCheap_L92 (y_X10_laysCheap_J409) 5000 x0 x2 v1 h) (And.intro rfl (And.intro rfl (And.intro rfl trivial)))
def f_X10_laysCheap_J80 (kH : Nat → Int32 → Int32 → Int32 → Int32 → xH → Option (xH)) (kE87 : Nat → Int32 → Int32 → xH → Option (xH)) (x0 : Nat) (x1 : Int32) (x2 : Int32) (x3 : Int32) (x4 : Int32) (s0 : Nat) (s1 : Int32) (s2 : Int64) (h : xH) : Option (xH) :=
  (sJ h s0 s1 s2).bind fun h1 =>
  lt (x4 + (1 : Int32)) fun v2 =>
  kH x0 x1 x2 x3 v2 h1
theorem y_X10_laysCheap_J80 {g : xG} {h0 : xH} {cl : Bool} {kH : Nat → Int32 → Int32 → Int32 → Int32 → xH → Option (xH)} {kE87 : Nat → Int32 → Int32 → xH → Option (xH)} (hkH : ∀ (x0 : Nat) (x1 : Int32) (x2 : Int32) (x3 : Int32) (x4 : Int32) (h : xH), Y g DX10_laysCheap h0 cl iV (kH x0 x1 x2 x3 x4 h) 28 [some (.ref x0), some (.int x1), some (.int x2), some (.int x3), some (.int x4), none, none, none, none, none, none] [] h) (hkE87 : ∀ (x0 : Nat) (x1 : Int32) (x2 : Int32) (h : xH), Y g DX10_laysCheap h0 cl iV (kE87 x0 x1 x2 h) 87 [some (.ref x0), some (.int x1), some (.int x2), none, none, none, none, none, none, none, none] [] h) (x0 : Nat) (x1 : Int32) (x2 : Int32) (x3 : Int32) (x4 : Int32) (s0 : Nat) (s1 : Int32) (s2 : Int64) (h : xH) : Y g DX10_laysCheap h0 cl iV (f_X10_laysCheap_J80 kH kE87 x0 x1 x2 x3 x4 s0 s1 s2 h) 80 [some (.ref x0), some (.int x1), some (.int x2), some (.int x3), some (.int x4), none, none, none, none, none, none] [.long s2, .int s1, .ref s0] h := by
  unfold f_X10_laysCheap_J80
  refine Y.astJ dX10_laysCheap_80 (fun h1 => ?_)
  refine Y.iinc (i := 4) (loc' := fun v2 => [some (.ref x0), some (.int x1), some (.int x2), some (.int x3), some (.int v2), none, none, none, none, none, none]) rfl (Nat.le_of_ble_eq_true rfl) ki_1 (fun _ => rfl) dX10_laysCheap_81 (fun v2 => ?_)
  refine Y.op (pc' := 28) (fun _ => X.goto 28 (by decide) dX10_laysCheap_84) ?_
  exact hkH x0 x1 x2 x3 v2 h1
def f_X10_laysCheap_J57 (kH : Nat → Int32 → Int32 → Int32 → Int32 → xH → Option (xH)) (kE87 : Nat → Int32 → Int32 → xH → Option (xH)) (x0 : Nat) (x1 : Int32) (x2 : Int32) (x3 : Int32) (x4 : Int32) (s0 : Nat) (s1 : Int32) (s2 : Int32) (h : xH) : Option (xH) :=
  (sI h s0 s1 s2).bind fun h1 =>
  (gR h1 10 x0 38).bind fun v2 =>
  (aR 104 h1 v2 x1).bind fun v3 =>
  (f_X10_ones x4 h1).bind fun r4 =>
  if r4.1 = x3 then
    f_X10_laysCheap_J80 (kH) kE87 x0 x1 x2 x3 x4 v3 x4 (1 : Int64) r4.2
  else
    f_X10_laysCheap_J80 (kH) kE87 x0 x1 x2 x3 x4 v3 x4 (0 : Int64) r4.2
theorem y_X10_laysCheap_J57 {g : xG} {h0 : xH} {cl : Bool} {kH : Nat → Int32 → Int32 → Int32 → Int32 → xH → Option (xH)} {kE87 : Nat → Int32 → Int32 → xH → Option (xH)} (hkH : ∀ (x0 : Nat) (x1 : Int32) (x2 : Int32) (x3 : Int32) (x4 : Int32) (h : xH), Y g DX10_laysCheap h0 cl iV (kH x0 x1 x2 x3 x4 h) 28 [some (.ref x0), some (.int x1), some (.int x2), some (.int x3), some (.int x4), none, none, none, none, none, none] [] h) (hkE87 : ∀ (x0 : Nat) (x1 : Int32) (x2 : Int32) (h : xH), Y g DX10_laysCheap h0 cl iV (kE87 x0 x1 x2 h) 87 [some (.ref x0), some (.int x1), some (.int x2), none, none, none, none, none, none, none, none] [] h) (x0 : Nat) (x1 : Int32) (x2 : Int32) (x3 : Int32) (x4 : Int32) (s0 : Nat) (s1 : Int32) (s2 : Int32) (h : xH) : Y g DX10_laysCheap h0 cl iV (f_X10_laysCheap_J57 kH kE87 x0 x1 x2 x3 x4 s0 s1 s2 h) 57 [some (.ref x0), some (.int x1), some (.int x2), some (.int x3), some (.int x4), none, none, none, none, none, none] [.int s2, .int s1, .ref s0] h := by
  unfold f_X10_laysCheap_J57
  refine Y.astI dX10_laysCheap_57 (fun h1 => ?_)
  refine Y.op (pc' := 59) (fun _ => X.aloadn rfl dX10_laysCheap_58) ?_
  refine Y.getR fd_X10_75 rfl dX10_laysCheap_59 (fun v2 => ?_)
  refine Y.op (pc' := 63) (fun _ => X.iloadn rfl dX10_laysCheap_62) ?_
  refine Y.aldR 104 (by decide) (by decide) dX10_laysCheap_63 (fun v3 => ?_)
  refine Y.op (pc' := 66) (fun _ => X.iload rfl dX10_laysCheap_64) ?_
  refine Y.op (pc' := 68) (fun _ => X.iload rfl dX10_laysCheap_66) ?_
  refine Y.callSi (As := [.int x4]) lk_X10_270 rfl cal_X10_ones sta_X10_ones (Nat.le_of_ble_eq_true rfl) rfl rfl (Nat.le_of_ble_eq_true rfl) dX10_laysCheap_68 (fun _ e => m_X10_ones x4 h1 _ _ e) (fun r4 => ?_)
  refine Y.op (pc' := 72) (fun _ => X.iloadn rfl dX10_laysCheap_71) ?_
  refine Y.cmpne 79 (by decide) dX10_laysCheap_72 ?_ ?_
  · refine Y.op (pc' := 80) (fun _ => X.lc kl_0 dX10_laysCheap_79) ?_
    exact y_X10_laysCheap_J80 hkH hkE87 x0 x1 x2 x3 x4 v3 x4 (0 : Int64) r4.2
  · refine Y.op (pc' := 76) (fun _ => X.lc kl_1 dX10_laysCheap_75) ?_
    refine Y.op (pc' := 80) (fun _ => X.goto 80 (by decide) dX10_laysCheap_76) ?_
    exact y_X10_laysCheap_J80 hkH hkE87 x0 x1 x2 x3 x4 v3 x4 (1 : Int64) r4.2
def f_X10_laysCheap_L28 (kE87 : Nat → Int32 → Int32 → xH → Option (xH)) : Nat → Nat → Int32 → Int32 → Int32 → Int32 → xH → Option (xH)
  | 0 => fun _ _ _ _ _ _ => none
  | n + 1 => fun x0 x1 x2 x3 x4 h =>
    if x4 ≥ x2 then
      kE87 x0 x1 x2 h
    else
      (gR h 10 x0 37).bind fun v1 =>
      (aR 102 h v1 x1).bind fun v2 =>
      (f_X10_ones x4 h).bind fun r3 =>
      if r3.1 = x3 then
        f_X10_laysCheap_J57 (f_X10_laysCheap_L28 kE87 n) kE87 x0 x1 x2 x3 x4 v2 x4 (0 : Int32) r3.2
      else
        f_X10_laysCheap_J57 (f_X10_laysCheap_L28 kE87 n) kE87 x0 x1 x2 x3 x4 v2 x4 (1000000 : Int32) r3.2
theorem y_X10_laysCheap_L28 {g : xG} {h0 : xH} {cl : Bool} {kE87 : Nat → Int32 → Int32 → xH → Option (xH)} (hkE87 : ∀ (x0 : Nat) (x1 : Int32) (x2 : Int32) (h : xH), Y g DX10_laysCheap h0 cl iV (kE87 x0 x1 x2 h) 87 [some (.ref x0), some (.int x1), some (.int x2), none, none, none, none, none, none, none, none] [] h) : ∀ (n : Nat) (x0 : Nat) (x1 : Int32) (x2 : Int32) (x3 : Int32) (x4 : Int32) (h : xH), Y g DX10_laysCheap h0 cl iV (f_X10_laysCheap_L28 kE87 n x0 x1 x2 x3 x4 h) 28 [some (.ref x0), some (.int x1), some (.int x2), some (.int x3), some (.int x4), none, none, none, none, none, none] [] h := by
  intro n
  induction n with
  | zero => intro x0 x1 x2 x3 x4 h; exact Y.nothing
  | succ n ih =>
    intro x0 x1 x2 x3 x4 h
    unfold f_X10_laysCheap_L28
    refine Y.op (pc' := 30) (fun _ => X.iload rfl dX10_laysCheap_28) ?_
    refine Y.op (pc' := 31) (fun _ => X.iloadn rfl dX10_laysCheap_30) ?_
    refine Y.cmpge 87 (by decide) dX10_laysCheap_31 ?_ ?_
    · exact Y.fg (hkE87 x0 x1 x2 h) (And.intro rfl (And.intro rfl (And.intro rfl trivial)))
    · refine Y.op (pc' := 35) (fun _ => X.aloadn rfl dX10_laysCheap_34) ?_
      refine Y.getR fd_X10_70 rfl dX10_laysCheap_35 (fun v1 => ?_)
      refine Y.op (pc' := 39) (fun _ => X.iloadn rfl dX10_laysCheap_38) ?_
      refine Y.aldR 102 (by decide) (by decide) dX10_laysCheap_39 (fun v2 => ?_)
      refine Y.op (pc' := 42) (fun _ => X.iload rfl dX10_laysCheap_40) ?_
      refine Y.op (pc' := 44) (fun _ => X.iload rfl dX10_laysCheap_42) ?_
      refine Y.callSi (As := [.int x4]) lk_X10_270 rfl cal_X10_ones sta_X10_ones (Nat.le_of_ble_eq_true rfl) rfl rfl (Nat.le_of_ble_eq_true rfl) dX10_laysCheap_44 (fun _ e => m_X10_ones x4 h _ _ e) (fun r3 => ?_)
      refine Y.op (pc' := 48) (fun _ => X.iloadn rfl dX10_laysCheap_47) ?_
      refine Y.cmpne 55 (by decide) dX10_laysCheap_48 ?_ ?_
      · refine Y.op (pc' := 57) (fun _ => X.ldcI wc_X10_122 rfl dX10_laysCheap_55) ?_
        exact y_X10_laysCheap_J57 ih hkE87 x0 x1 x2 x3 x4 v2 x4 (1000000 : Int32) r3.2
      · refine Y.op (pc' := 52) (fun _ => X.ic ki_0 dX10_laysCheap_51) ?_
        refine Y.op (pc' := 57) (fun _ => X.goto 57 (by decide) dX10_laysCheap_52) ?_
        exact y_X10_laysCheap_J57 ih hkE87 x0 x1 x2 x3 x4 v2 x4 (0 : Int32) r3.2
def f_X10_laysCheap (a0 : Nat) (h : xH) : Option (xH) :=
  (gR h 10 a0 9).bind fun v1 =>
  (aR 102 h v1 (0 : Int32)).bind fun v2 =>
  (aI h v2 (0 : Int32)).bind fun v3 =>
  (gR h 10 a0 9).bind fun v4 =>
  (aR 102 h v4 (0 : Int32)).bind fun v5 =>
  (aI h v5 (1 : Int32)).bind fun v6 =>
  lt (((1 : Int32) <<< (v6 &&& 31))) fun v7 =>
  (vc h 10 a0 (f_X10_nu a0 h)).bind fun r8 =>
  f_X10_laysCheap_L28 (f_X10_laysCheap_J87) 5000 a0 v3 v7 r8.1 (0 : Int32) r8.2
theorem y_X10_laysCheap {g : xG} {h0 : xH} {cl : Bool} (a0 : Nat) (h : xH) : Y g DX10_laysCheap h0 cl iV (f_X10_laysCheap a0 h) 0 [some (.ref a0), none, none, none, none, none, none, none, none, none, none] [] h := by
  unfold f_X10_laysCheap
  refine Y.op (pc' := 1) (fun _ => X.aloadn rfl dX10_laysCheap_0) ?_
  refine Y.getR fd_X10_22 rfl dX10_laysCheap_1 (fun v1 => ?_)
  refine Y.op (pc' := 5) (fun _ => X.ic ki_0 dX10_laysCheap_4) ?_
  refine Y.aldR 102 (by decide) (by decide) dX10_laysCheap_5 (fun v2 => ?_)
  refine Y.op (pc' := 7) (fun _ => X.ic ki_0 dX10_laysCheap_6) ?_
  refine Y.aldI dX10_laysCheap_7 (fun v3 => ?_)
  refine Y.op (pc' := 9) (loc' := [some (.ref a0), some (.int v3), none, none, none, none, none, none, none, none, none]) (fun _ => X.istoren (Nat.le_of_ble_eq_true rfl) rfl dX10_laysCheap_8) ?_
  refine Y.op (pc' := 10) (fun _ => X.ic ki_1 dX10_laysCheap_9) ?_
  refine Y.op (pc' := 11) (fun _ => X.aloadn rfl dX10_laysCheap_10) ?_
  refine Y.getR fd_X10_22 rfl dX10_laysCheap_11 (fun v4 => ?_)
  refine Y.op (pc' := 15) (fun _ => X.ic ki_0 dX10_laysCheap_14) ?_
  refine Y.aldR 102 (by decide) (by decide) dX10_laysCheap_15 (fun v5 => ?_)
  refine Y.op (pc' := 17) (fun _ => X.ic ki_1 dX10_laysCheap_16) ?_
  refine Y.aldI dX10_laysCheap_17 (fun v6 => ?_)
  refine Y.op (pc' := 19) (fun _ => X.ishl dX10_laysCheap_18) ?_
  refine Y.top (fun v7 => ?_)
  refine Y.op (pc' := 20) (loc' := [some (.ref a0), some (.int v3), some (.int v7), none, none, none, none, none, none, none, none]) (fun _ => X.istoren (Nat.le_of_ble_eq_true rfl) rfl dX10_laysCheap_19) ?_
  refine Y.op (pc' := 21) (fun _ => X.aloadn rfl dX10_laysCheap_20) ?_
  refine Y.callVi (As := []) lk_X10_327 rfl cal_X10_nu vir_X10_nu (Nat.le_of_ble_eq_true rfl) (Nat.le_of_ble_eq_true rfl) rfl rfl rfl (Nat.le_of_ble_eq_true rfl) dX10_laysCheap_21 (fun _ e => m_X10_nu a0 h _ _ e) (fun r8 => ?_)
  refine Y.op (pc' := 25) (loc' := [some (.ref a0), some (.int v3), some (.int v7), some (.int r8.1), none, none, none, none, none, none, none]) (fun _ => X.istoren (Nat.le_of_ble_eq_true rfl) rfl dX10_laysCheap_24) ?_
  refine Y.op (pc' := 26) (fun _ => X.ic ki_0 dX10_laysCheap_25) ?_
  refine Y.op (pc' := 28) (loc' := [some (.ref a0), some (.int v3), some (.int v7), some (.int r8.1), some (.int (0 : Int32)), none, none, none, none, none, none]) (fun _ => X.istore (Nat.le_of_ble_eq_true rfl) rfl dX10_laysCheap_26) ?_
  exact y_X10_laysCheap_L28 (y_X10_laysCheap_J87) 5000 a0 v3 v7 r8.1 (0 : Int32) r8.2
theorem m_X10_laysCheap {g : xG} (a0 : Nat) (h : xH) (cl : Bool) (r : xH) (e : f_X10_laysCheap a0 h = some r) : XM g DX10_laysCheap [.ref a0] h cl (iV r) := YM.of rfl rfl (Nat.le_of_ble_eq_true rfl) (y_X10_laysCheap a0 h) e
def f_X10_cheap_J74 (s0 : Int32) (h : xH) : Option (Int32 × xH) :=
  some (s0, h)
theorem y_X10_cheap_J74 {g : xG} {h0 : xH} {cl : Bool} (s0 : Int32) (h : xH) : Y g DX10_cheap h0 cl iI (f_X10_cheap_J74 s0 h) 74 [none, none, none, none] [.int s0] h := by
  unfold f_X10_cheap_J74
  exact Y.ireturn rfl dX10_cheap_74
def f_X10_cheap_J73 (s0 : Int64) (h : xH) : Option (Int32 × xH) :=
  f_X10_cheap_J74 s0.toInt32 h
theorem y_X10_cheap_J73 {g : xG} {h0 : xH} {cl : Bool} (s0 : Int64) (h : xH) : Y g DX10_cheap h0 cl iI (f_X10_cheap_J73 s0 h) 73 [none, none, none, none] [.long s0] h := by
  unfold f_X10_cheap_J73
  refine Y.op (pc' := 74) (fun _ => X.l2i dX10_cheap_73) ?_
  exact y_X10_cheap_J74 s0.toInt32 h
def f_X10_cheap_J20 (x0 : Nat) (x1 : Int32) (s0 : Nat) (s1 : Int32) (h : xH) : Option (Int32 × xH) :=
  (vc h 10 s0 (f_X10_bad s0 s1 (1 : Int32) (1 : Int32) h)).bind fun r1 =>
  if r1.1 = (0 : Int32) then
    (vc r1.2 10 x0 (f_X10_laysCheap x0 r1.2)).bind fun h2 =>
    (gR h2 10 x0 38).bind fun v3 =>
    (aR 104 h2 v3 (0 : Int32)).bind fun v4 =>
    (aJ h2 v4 (0 : Int32)).bind fun v5 =>
    if x1 = (0 : Int32) then
      (gR h2 10 x0 37).bind fun v6 =>
      (aR 102 h2 v6 (0 : Int32)).bind fun v7 =>
      (aI h2 v7 (0 : Int32)).bind fun v8 =>
      f_X10_cheap_J74 v8 h2
    else
      if (lg_cmp v5 (1000000000 : Int64)) ≤ (0 : Int32) then
        f_X10_cheap_J73 v5 h2
      else
        f_X10_cheap_J73 (1000000000 : Int64) h2
  else
    some ((0 : Int32), r1.2)
theorem y_X10_cheap_J20 {g : xG} {h0 : xH} {cl : Bool} (x0 : Nat) (x1 : Int32) (s0 : Nat) (s1 : Int32) (h : xH) : Y g DX10_cheap h0 cl iI (f_X10_cheap_J20 x0 x1 s0 s1 h) 20 [some (.ref x0), some (.int x1), none, none] [.int s1, .ref s0] h := by
  unfold f_X10_cheap_J20
  refine Y.op (pc' := 21) (fun _ => X.ic ki_1 dX10_cheap_20) ?_
  refine Y.op (pc' := 22) (fun _ => X.ic ki_1 dX10_cheap_21) ?_
  refine Y.callVi (As := [.int s1, .int (1 : Int32), .int (1 : Int32)]) lk_X10_217 rfl cal_X10_bad vir_X10_bad (Nat.le_of_ble_eq_true rfl) (Nat.le_of_ble_eq_true rfl) rfl rfl rfl (Nat.le_of_ble_eq_true rfl) dX10_cheap_22 (fun _ e => m_X10_bad s0 s1 (1 : Int32) (1 : Int32) h _ _ e) (fun r1 => ?_)
  refine Y.ifeq 30 (by decide) dX10_cheap_25 ?_ ?_
  · refine Y.op (pc' := 31) (fun _ => X.aloadn rfl dX10_cheap_30) ?_
    refine Y.callVv (As := []) lk_X10_374 rfl cal_X10_laysCheap vir_X10_laysCheap (Nat.le_of_ble_eq_true rfl) (Nat.le_of_ble_eq_true rfl) rfl rfl rfl (Nat.le_of_ble_eq_true rfl) dX10_cheap_31 (fun _ e => m_X10_laysCheap x0 r1.2 _ _ e) (fun h2 => ?_)
    refine Y.op (pc' := 35) (fun _ => X.aloadn rfl dX10_cheap_34) ?_
    refine Y.getR fd_X10_75 rfl dX10_cheap_35 (fun v3 => ?_)
    refine Y.op (pc' := 39) (fun _ => X.ic ki_0 dX10_cheap_38) ?_
    refine Y.aldR 104 (by decide) (by decide) dX10_cheap_39 (fun v4 => ?_)
    refine Y.op (pc' := 41) (fun _ => X.ic ki_0 dX10_cheap_40) ?_
    refine Y.aldJ dX10_cheap_41 (fun v5 => ?_)
    refine Y.op (pc' := 43) (loc' := [some (.ref x0), some (.int x1), some (.long v5), none]) (fun _ => X.lstoren (Nat.le_of_ble_eq_true rfl) rfl dX10_cheap_42) ?_
    refine Y.op (pc' := 44) (fun _ => X.iloadn rfl dX10_cheap_43) ?_
    refine Y.ifne 58 (by decide) dX10_cheap_44 ?_ ?_
    · refine Y.op (pc' := 59) (fun _ => X.lloadn rfl dX10_cheap_58) ?_
      refine Y.op (pc' := 62) (fun _ => X.ldcL wl_X10_377 rfl dX10_cheap_59) ?_
      refine Y.op (pc' := 63) (fun _ => X.lcmp dX10_cheap_62) ?_
      refine Y.ifle 72 (by decide) dX10_cheap_63 ?_ ?_
      · refine Y.op (pc' := 73) (fun _ => X.lloadn rfl dX10_cheap_72) ?_
        exact Y.fg (y_X10_cheap_J73 v5 h2) trivial
      · refine Y.op (pc' := 69) (fun _ => X.ldcL wl_X10_377 rfl dX10_cheap_66) ?_
        refine Y.op (pc' := 73) (fun _ => X.goto 73 (by decide) dX10_cheap_69) ?_
        exact Y.fg (y_X10_cheap_J73 (1000000000 : Int64) h2) trivial
    · refine Y.op (pc' := 48) (fun _ => X.aloadn rfl dX10_cheap_47) ?_
      refine Y.getR fd_X10_70 rfl dX10_cheap_48 (fun v6 => ?_)
      refine Y.op (pc' := 52) (fun _ => X.ic ki_0 dX10_cheap_51) ?_
      refine Y.aldR 102 (by decide) (by decide) dX10_cheap_52 (fun v7 => ?_)
      refine Y.op (pc' := 54) (fun _ => X.ic ki_0 dX10_cheap_53) ?_
      refine Y.aldI dX10_cheap_54 (fun v8 => ?_)
      refine Y.op (pc' := 74) (fun _ => X.goto 74 (by decide) dX10_cheap_55) ?_
      exact Y.fg (y_X10_cheap_J74 v8 h2) trivial
  · refine Y.op (pc' := 29) (fun _ => X.ic ki_0 dX10_cheap_28) ?_
    exact Y.ireturn rfl dX10_cheap_29
def f_X10_cheap (a0 : Nat) (p1 : Int32) (h : xH) : Option (Int32 × xH) :=
  (pI h 10 a0 0 (0 : Int32)).bind fun h1 =>
  (f_X10_in p1 (0 : Int32) (1 : Int32) h1).bind fun r2 =>
  if r2.1 = (0 : Int32) then
    f_X10_cheap_J20 a0 p1 a0 (1 : Int32) r2.2
  else
    f_X10_cheap_J20 a0 p1 a0 (0 : Int32) r2.2
theorem y_X10_cheap {g : xG} {h0 : xH} {cl : Bool} (a0 : Nat) (p1 : Int32) (h : xH) : Y g DX10_cheap h0 cl iI (f_X10_cheap a0 p1 h) 0 [some (.ref a0), some (.int p1), none, none] [] h := by
  unfold f_X10_cheap
  refine Y.op (pc' := 1) (fun _ => X.aloadn rfl dX10_cheap_0) ?_
  refine Y.op (pc' := 2) (fun _ => X.ic ki_0 dX10_cheap_1) ?_
  refine Y.putI fd_X10_82 rfl dX10_cheap_2 (fun h1 => ?_)
  refine Y.op (pc' := 6) (fun _ => X.aloadn rfl dX10_cheap_5) ?_
  refine Y.op (pc' := 7) (fun _ => X.iloadn rfl dX10_cheap_6) ?_
  refine Y.op (pc' := 8) (fun _ => X.ic ki_0 dX10_cheap_7) ?_
  refine Y.op (pc' := 9) (fun _ => X.ic ki_1 dX10_cheap_8) ?_
  refine Y.callSi (As := [.int p1, .int (0 : Int32), .int (1 : Int32)]) lk_X10_127 rfl cal_X10_in sta_X10_in (Nat.le_of_ble_eq_true rfl) rfl rfl (Nat.le_of_ble_eq_true rfl) dX10_cheap_9 (fun _ e => m_X10_in p1 (0 : Int32) (1 : Int32) h1 _ _ e) (fun r2 => ?_)
  refine Y.ifne 19 (by decide) dX10_cheap_12 ?_ ?_
  · refine Y.op (pc' := 20) (fun _ => X.ic ki_0 dX10_cheap_19) ?_
    exact y_X10_cheap_J20 a0 p1 a0 (0 : Int32) r2.2
  · refine Y.op (pc' := 16) (fun _ => X.ic ki_1 dX10_cheap_15) ?_
    refine Y.op (pc' := 20) (fun _ => X.goto 20 (by decide) dX10_cheap_16) ?_
    exact y_X10_cheap_J20 a0 p1 a0 (1 : Int32) r2.2
theorem m_X10_cheap {g : xG} (a0 : Nat) (p1 : Int32) (h : xH) (cl : Bool) (r : Int32 × xH) (e : f_X10_cheap a0 p1 h = some r) : XM g DX10_cheap [.ref a0, .int p1] h cl (iI r) := YM.of rfl rfl (Nat.le_of_ble_eq_true rfl) (y_X10_cheap a0 p1 h) e
def f_X10_cheapest_J185 (x3 : Int32) (h : xH) : Option (Int32 × xH) :=
  some (x3, h)
theorem y_X10_cheapest_J185 {g : xG} {h0 : xH} {cl : Bool} (x3 : Int32) (h : xH) : Y g DX10_cheapest h0 cl iI (f_X10_cheapest_J185 x3 h) 185 [none, none, none, some (.int x3), none, none, none] [] h := by
  unfold f_X10_cheapest_J185
  refine Y.op (pc' := 186) (fun _ => X.iloadn rfl dX10_cheapest_185) ?_
  exact Y.ireturn rfl dX10_cheapest_186
def f_X10_cheapest_J177 (kH : Nat → Int32 → Int32 → Int32 → Int32 → xH → Option (Int32 × xH)) (kE185 : Int32 → xH → Option (Int32 × xH)) (x0 : Nat) (x1 : Int32) (x3 : Int32) (x4 : Int32) (s0 : Int32) (s1 : Int32) (h : xH) : Option (Int32 × xH) :=
  lt ((s0 ||| s1)) fun v1 =>
  lt (x4 + (1 : Int32)) fun v2 =>
  kH x0 x1 v1 x3 v2 h
theorem y_X10_cheapest_J177 {g : xG} {h0 : xH} {cl : Bool} {kH : Nat → Int32 → Int32 → Int32 → Int32 → xH → Option (Int32 × xH)} {kE185 : Int32 → xH → Option (Int32 × xH)} (hkH : ∀ (x0 : Nat) (x1 : Int32) (x2 : Int32) (x3 : Int32) (x4 : Int32) (h : xH), Y g DX10_cheapest h0 cl iI (kH x0 x1 x2 x3 x4 h) 41 [some (.ref x0), some (.int x1), some (.int x2), some (.int x3), some (.int x4), none, none] [] h) (hkE185 : ∀ (x3 : Int32) (h : xH), Y g DX10_cheapest h0 cl iI (kE185 x3 h) 185 [none, none, none, some (.int x3), none, none, none] [] h) (x0 : Nat) (x1 : Int32) (x3 : Int32) (x4 : Int32) (s0 : Int32) (s1 : Int32) (h : xH) : Y g DX10_cheapest h0 cl iI (f_X10_cheapest_J177 kH kE185 x0 x1 x3 x4 s0 s1 h) 177 [some (.ref x0), some (.int x1), none, some (.int x3), some (.int x4), none, none] [.int s1, .int s0] h := by
  unfold f_X10_cheapest_J177
  refine Y.op (pc' := 178) (fun _ => X.ior dX10_cheapest_177) ?_
  refine Y.top (fun v1 => ?_)
  refine Y.op (pc' := 179) (loc' := [some (.ref x0), some (.int x1), some (.int v1), some (.int x3), some (.int x4), none, none]) (fun _ => X.istoren (Nat.le_of_ble_eq_true rfl) rfl dX10_cheapest_178) ?_
  refine Y.iinc (i := 4) (loc' := fun v2 => [some (.ref x0), some (.int x1), some (.int v1), some (.int x3), some (.int v2), none, none]) rfl (Nat.le_of_ble_eq_true rfl) ki_1 (fun _ => rfl) dX10_cheapest_179 (fun v2 => ?_)
  refine Y.op (pc' := 41) (fun _ => X.goto 41 (by decide) dX10_cheapest_182) ?_
  exact hkH x0 x1 v1 x3 v2 h
def f_X10_cheapest_J164 (kH : Nat → Int32 → Int32 → Int32 → Int32 → xH → Option (Int32 × xH)) (kE185 : Int32 → xH → Option (Int32 × xH)) (x0 : Nat) (x1 : Int32) (x2 : Int32) (x3 : Int32) (x4 : Int32) (h : xH) : Option (Int32 × xH) :=
  if x3 = (-1 : Int32) then
    f_X10_cheapest_J177 (kH) kE185 x0 x1 x3 x4 x2 (0 : Int32) h
  else
    f_X10_cheapest_J177 (kH) kE185 x0 x1 x3 x4 x2 ((1 : Int32) <<< (x3 &&& 31)) h
theorem y_X10_cheapest_J164 {g : xG} {h0 : xH} {cl : Bool} {kH : Nat → Int32 → Int32 → Int32 → Int32 → xH → Option (Int32 × xH)} {kE185 : Int32 → xH → Option (Int32 × xH)} (hkH : ∀ (x0 : Nat) (x1 : Int32) (x2 : Int32) (x3 : Int32) (x4 : Int32) (h : xH), Y g DX10_cheapest h0 cl iI (kH x0 x1 x2 x3 x4 h) 41 [some (.ref x0), some (.int x1), some (.int x2), some (.int x3), some (.int x4), none, none] [] h) (hkE185 : ∀ (x3 : Int32) (h : xH), Y g DX10_cheapest h0 cl iI (kE185 x3 h) 185 [none, none, none, some (.int x3), none, none, none] [] h) (x0 : Nat) (x1 : Int32) (x2 : Int32) (x3 : Int32) (x4 : Int32) (h : xH) : Y g DX10_cheapest h0 cl iI (f_X10_cheapest_J164 kH kE185 x0 x1 x2 x3 x4 h) 164 [some (.ref x0), some (.int x1), some (.int x2), some (.int x3), some (.int x4), none, none] [] h := by
  unfold f_X10_cheapest_J164
  refine Y.op (pc' := 165) (fun _ => X.iloadn rfl dX10_cheapest_164) ?_
  refine Y.op (pc' := 166) (fun _ => X.iloadn rfl dX10_cheapest_165) ?_
  refine Y.op (pc' := 167) (fun _ => X.ic ki_m1 dX10_cheapest_166) ?_
  refine Y.cmpne 174 (by decide) dX10_cheapest_167 ?_ ?_
  · refine Y.op (pc' := 175) (fun _ => X.ic ki_1 dX10_cheapest_174) ?_
    refine Y.op (pc' := 176) (fun _ => X.iloadn rfl dX10_cheapest_175) ?_
    refine Y.op (pc' := 177) (fun _ => X.ishl dX10_cheapest_176) ?_
    exact Y.fg (y_X10_cheapest_J177 hkH hkE185 x0 x1 x3 x4 x2 ((1 : Int32) <<< (x3 &&& 31)) h) (And.intro rfl (And.intro rfl (And.intro rfl (And.intro rfl trivial))))
  · refine Y.op (pc' := 171) (fun _ => X.ic ki_0 dX10_cheapest_170) ?_
    refine Y.op (pc' := 177) (fun _ => X.goto 177 (by decide) dX10_cheapest_171) ?_
    exact Y.fg (y_X10_cheapest_J177 hkH hkE185 x0 x1 x3 x4 x2 (0 : Int32) h) (And.intro rfl (And.intro rfl (And.intro rfl (And.intro rfl trivial))))
def f_X10_cheapest_J158 (kH : Nat → Int32 → Int32 → Int32 → Int32 → Int32 → Int32 → xH → Option (Int32 × xH)) (kE164 : Nat → Int32 → Int32 → Int32 → Int32 → xH → Option (Int32 × xH)) (x0 : Nat) (x1 : Int32) (x2 : Int32) (x3 : Int32) (x4 : Int32) (x5 : Int32) (x6 : Int32) (h : xH) : Option (Int32 × xH) :=
  lt (x6 + (-1 : Int32)) fun v1 =>
  kH x0 x1 x2 x3 x4 x5 v1 h
theorem y_X10_cheapest_J158 {g : xG} {h0 : xH} {cl : Bool} {kH : Nat → Int32 → Int32 → Int32 → Int32 → Int32 → Int32 → xH → Option (Int32 × xH)} {kE164 : Nat → Int32 → Int32 → Int32 → Int32 → xH → Option (Int32 × xH)} (hkH : ∀ (x0 : Nat) (x1 : Int32) (x2 : Int32) (x3 : Int32) (x4 : Int32) (x5 : Int32) (x6 : Int32) (h : xH), Y g DX10_cheapest h0 cl iI (kH x0 x1 x2 x3 x4 x5 x6 h) 99 [some (.ref x0), some (.int x1), some (.int x2), some (.int x3), some (.int x4), some (.int x5), some (.int x6)] [] h) (hkE164 : ∀ (x0 : Nat) (x1 : Int32) (x2 : Int32) (x3 : Int32) (x4 : Int32) (h : xH), Y g DX10_cheapest h0 cl iI (kE164 x0 x1 x2 x3 x4 h) 164 [some (.ref x0), some (.int x1), some (.int x2), some (.int x3), some (.int x4), none, none] [] h) (x0 : Nat) (x1 : Int32) (x2 : Int32) (x3 : Int32) (x4 : Int32) (x5 : Int32) (x6 : Int32) (h : xH) : Y g DX10_cheapest h0 cl iI (f_X10_cheapest_J158 kH kE164 x0 x1 x2 x3 x4 x5 x6 h) 158 [some (.ref x0), some (.int x1), some (.int x2), some (.int x3), some (.int x4), some (.int x5), some (.int x6)] [] h := by
  unfold f_X10_cheapest_J158
  refine Y.iinc (i := 6) (loc' := fun v1 => [some (.ref x0), some (.int x1), some (.int x2), some (.int x3), some (.int x4), some (.int x5), some (.int v1)]) rfl (Nat.le_of_ble_eq_true rfl) ki_m1 (fun _ => rfl) dX10_cheapest_158 (fun v1 => ?_)
  refine Y.op (pc' := 99) (fun _ => X.goto 99 (by decide) dX10_cheapest_161) ?_
  exact hkH x0 x1 x2 x3 x4 x5 v1 h
def f_X10_cheapest_L99 (kE164 : Nat → Int32 → Int32 → Int32 → Int32 → xH → Option (Int32 × xH)) : Nat → Nat → Int32 → Int32 → Int32 → Int32 → Int32 → Int32 → xH → Option (Int32 × xH)
  | 0 => fun _ _ _ _ _ _ _ _ => none
  | n + 1 => fun x0 x1 x2 x3 x4 x5 x6 h =>
    if x6 < (0 : Int32) then
      kE164 x0 x1 x2 x3 x4 h
    else
      (f_X10_has x5 x6 h).bind fun r1 =>
      if r1.1 = (0 : Int32) then
        f_X10_cheapest_J158 (f_X10_cheapest_L99 kE164 n) kE164 x0 x1 x2 x3 x4 x5 x6 r1.2
      else
        (gR r1.2 10 x0 13).bind fun v2 =>
        (aR 103 r1.2 v2 (0 : Int32)).bind fun v3 =>
        (aR 102 r1.2 v3 x4).bind fun v4 =>
        (aI r1.2 v4 x6).bind fun v5 =>
        (gR r1.2 10 x0 37).bind fun v6 =>
        (aR 102 r1.2 v6 (x4 + (1 : Int32))).bind fun v7 =>
        (aI r1.2 v7 (x2 ||| ((1 : Int32) <<< (x6 &&& 31)))).bind fun v8 =>
        (gR r1.2 10 x0 37).bind fun v9 =>
        (aR 102 r1.2 v9 x4).bind fun v10 =>
        (aI r1.2 v10 x2).bind fun v11 =>
        if (v5 + v8) = v11 then
          f_X10_cheapest_J158 (f_X10_cheapest_L99 kE164 n) kE164 x0 x1 x2 x6 x4 x5 x6 r1.2
        else
          f_X10_cheapest_J158 (f_X10_cheapest_L99 kE164 n) kE164 x0 x1 x2 x3 x4 x5 x6 r1.2
theorem y_X10_cheapest_L99 {g : xG} {h0 : xH} {cl : Bool} {kE164 : Nat → Int32 → Int32 → Int32 → Int32 → xH → Option (Int32 × xH)} (hkE164 : ∀ (x0 : Nat) (x1 : Int32) (x2 : Int32) (x3 : Int32) (x4 : Int32) (h : xH), Y g DX10_cheapest h0 cl iI (kE164 x0 x1 x2 x3 x4 h) 164 [some (.ref x0), some (.int x1), some (.int x2), some (.int x3), some (.int x4), none, none] [] h) : ∀ (n : Nat) (x0 : Nat) (x1 : Int32) (x2 : Int32) (x3 : Int32) (x4 : Int32) (x5 : Int32) (x6 : Int32) (h : xH), Y g DX10_cheapest h0 cl iI (f_X10_cheapest_L99 kE164 n x0 x1 x2 x3 x4 x5 x6 h) 99 [some (.ref x0), some (.int x1), some (.int x2), some (.int x3), some (.int x4), some (.int x5), some (.int x6)] [] h := by
  intro n
  induction n with
  | zero => intro x0 x1 x2 x3 x4 x5 x6 h; exact Y.nothing
  | succ n ih =>
    intro x0 x1 x2 x3 x4 x5 x6 h
    unfold f_X10_cheapest_L99
    refine Y.op (pc' := 101) (fun _ => X.iload rfl dX10_cheapest_99) ?_
    refine Y.iflt 164 (by decide) dX10_cheapest_101 ?_ ?_
    · exact Y.fg (hkE164 x0 x1 x2 x3 x4 h) (And.intro rfl (And.intro rfl (And.intro rfl (And.intro rfl (And.intro rfl trivial)))))
    · refine Y.op (pc' := 106) (fun _ => X.iload rfl dX10_cheapest_104) ?_
      refine Y.op (pc' := 108) (fun _ => X.iload rfl dX10_cheapest_106) ?_
      refine Y.callSi (As := [.int x5, .int x6]) lk_X10_182 rfl cal_X10_has sta_X10_has (Nat.le_of_ble_eq_true rfl) rfl rfl (Nat.le_of_ble_eq_true rfl) dX10_cheapest_108 (fun _ e => m_X10_has x5 x6 h _ _ e) (fun r1 => ?_)
      refine Y.ifeq 158 (by decide) dX10_cheapest_111 ?_ ?_
      · exact y_X10_cheapest_J158 ih hkE164 x0 x1 x2 x3 x4 x5 x6 r1.2
      · refine Y.op (pc' := 115) (fun _ => X.aloadn rfl dX10_cheapest_114) ?_
        refine Y.getR fd_X10_36 rfl dX10_cheapest_115 (fun v2 => ?_)
        refine Y.op (pc' := 119) (fun _ => X.ic ki_0 dX10_cheapest_118) ?_
        refine Y.aldR 103 (by decide) (by decide) dX10_cheapest_119 (fun v3 => ?_)
        refine Y.op (pc' := 122) (fun _ => X.iload rfl dX10_cheapest_120) ?_
        refine Y.aldR 102 (by decide) (by decide) dX10_cheapest_122 (fun v4 => ?_)
        refine Y.op (pc' := 125) (fun _ => X.iload rfl dX10_cheapest_123) ?_
        refine Y.aldI dX10_cheapest_125 (fun v5 => ?_)
        refine Y.op (pc' := 127) (fun _ => X.aloadn rfl dX10_cheapest_126) ?_
        refine Y.getR fd_X10_70 rfl dX10_cheapest_127 (fun v6 => ?_)
        refine Y.op (pc' := 132) (fun _ => X.iload rfl dX10_cheapest_130) ?_
        refine Y.op (pc' := 133) (fun _ => X.ic ki_1 dX10_cheapest_132) ?_
        refine Y.op (pc' := 134) (fun _ => X.iadd dX10_cheapest_133) ?_
        refine Y.aldR 102 (by decide) (by decide) dX10_cheapest_134 (fun v7 => ?_)
        refine Y.op (pc' := 136) (fun _ => X.iloadn rfl dX10_cheapest_135) ?_
        refine Y.op (pc' := 137) (fun _ => X.ic ki_1 dX10_cheapest_136) ?_
        refine Y.op (pc' := 139) (fun _ => X.iload rfl dX10_cheapest_137) ?_
        refine Y.op (pc' := 140) (fun _ => X.ishl dX10_cheapest_139) ?_
        refine Y.op (pc' := 141) (fun _ => X.ior dX10_cheapest_140) ?_
        refine Y.aldI dX10_cheapest_141 (fun v8 => ?_)
        refine Y.op (pc' := 143) (fun _ => X.iadd dX10_cheapest_142) ?_
        refine Y.op (pc' := 144) (fun _ => X.aloadn rfl dX10_cheapest_143) ?_
        refine Y.getR fd_X10_70 rfl dX10_cheapest_144 (fun v9 => ?_)
        refine Y.op (pc' := 149) (fun _ => X.iload rfl dX10_cheapest_147) ?_
        refine Y.aldR 102 (by decide) (by decide) dX10_cheapest_149 (fun v10 => ?_)
        refine Y.op (pc' := 151) (fun _ => X.iloadn rfl dX10_cheapest_150) ?_
        refine Y.aldI dX10_cheapest_151 (fun v11 => ?_)
        refine Y.cmpne 158 (by decide) dX10_cheapest_152 ?_ ?_
        · exact y_X10_cheapest_J158 ih hkE164 x0 x1 x2 x3 x4 x5 x6 r1.2
        · refine Y.op (pc' := 157) (fun _ => X.iload rfl dX10_cheapest_155) ?_
          refine Y.op (pc' := 158) (loc' := [some (.ref x0), some (.int x1), some (.int x2), some (.int x6), some (.int x4), some (.int x5), some (.int x6)]) (fun _ => X.istoren (Nat.le_of_ble_eq_true rfl) rfl dX10_cheapest_157) ?_
          exact y_X10_cheapest_J158 ih hkE164 x0 x1 x2 x6 x4 x5 x6 r1.2
def f_X10_cheapest_J83 (kH : Nat → Int32 → Int32 → Int32 → Int32 → xH → Option (Int32 × xH)) (kE185 : Int32 → xH → Option (Int32 × xH)) (x0 : Nat) (x1 : Int32) (x2 : Int32) (x4 : Int32) (s0 : Int32) (h : xH) : Option (Int32 × xH) :=
  (gR h 10 x0 9).bind fun v1 =>
  (aR 102 h v1 (0 : Int32)).bind fun v2 =>
  (aI h v2 (1 : Int32)).bind fun v3 =>
  lt ((v3 - (1 : Int32))) fun v4 =>
  f_X10_cheapest_L99 (f_X10_cheapest_J164 (kH) kE185) 5000 x0 x1 x2 (-1 : Int32) x4 s0 v4 h
theorem y_X10_cheapest_J83 {g : xG} {h0 : xH} {cl : Bool} {kH : Nat → Int32 → Int32 → Int32 → Int32 → xH → Option (Int32 × xH)} {kE185 : Int32 → xH → Option (Int32 × xH)} (hkH : ∀ (x0 : Nat) (x1 : Int32) (x2 : Int32) (x3 : Int32) (x4 : Int32) (h : xH), Y g DX10_cheapest h0 cl iI (kH x0 x1 x2 x3 x4 h) 41 [some (.ref x0), some (.int x1), some (.int x2), some (.int x3), some (.int x4), none, none] [] h) (hkE185 : ∀ (x3 : Int32) (h : xH), Y g DX10_cheapest h0 cl iI (kE185 x3 h) 185 [none, none, none, some (.int x3), none, none, none] [] h) (x0 : Nat) (x1 : Int32) (x2 : Int32) (x4 : Int32) (s0 : Int32) (h : xH) : Y g DX10_cheapest h0 cl iI (f_X10_cheapest_J83 kH kE185 x0 x1 x2 x4 s0 h) 83 [some (.ref x0), some (.int x1), some (.int x2), none, some (.int x4), none, none] [.int s0] h := by
  unfold f_X10_cheapest_J83
  refine Y.op (pc' := 85) (loc' := [some (.ref x0), some (.int x1), some (.int x2), none, some (.int x4), some (.int s0), none]) (fun _ => X.istore (Nat.le_of_ble_eq_true rfl) rfl dX10_cheapest_83) ?_
  refine Y.op (pc' := 86) (fun _ => X.ic ki_m1 dX10_cheapest_85) ?_
  refine Y.op (pc' := 87) (loc' := [some (.ref x0), some (.int x1), some (.int x2), some (.int (-1 : Int32)), some (.int x4), some (.int s0), none]) (fun _ => X.istoren (Nat.le_of_ble_eq_true rfl) rfl dX10_cheapest_86) ?_
  refine Y.op (pc' := 88) (fun _ => X.aloadn rfl dX10_cheapest_87) ?_
  refine Y.getR fd_X10_22 rfl dX10_cheapest_88 (fun v1 => ?_)
  refine Y.op (pc' := 92) (fun _ => X.ic ki_0 dX10_cheapest_91) ?_
  refine Y.aldR 102 (by decide) (by decide) dX10_cheapest_92 (fun v2 => ?_)
  refine Y.op (pc' := 94) (fun _ => X.ic ki_1 dX10_cheapest_93) ?_
  refine Y.aldI dX10_cheapest_94 (fun v3 => ?_)
  refine Y.op (pc' := 96) (fun _ => X.ic ki_1 dX10_cheapest_95) ?_
  refine Y.op (pc' := 97) (fun _ => X.isub dX10_cheapest_96) ?_
  refine Y.top (fun v4 => ?_)
  refine Y.op (pc' := 99) (loc' := [some (.ref x0), some (.int x1), some (.int x2), some (.int (-1 : Int32)), some (.int x4), some (.int s0), some (.int v4)]) (fun _ => X.istore (Nat.le_of_ble_eq_true rfl) rfl dX10_cheapest_97) ?_
  exact y_X10_cheapest_L99 (y_X10_cheapest_J164 hkH hkE185) 5000 x0 x1 x2 (-1 : Int32) x4 s0 v4 h
def f_X10_cheapest_L41 (kE185 : Int32 → xH → Option (Int32 × xH)) : Nat → Nat → Int32 → Int32 → Int32 → Int32 → xH → Option (Int32 × xH)
  | 0 => fun _ _ _ _ _ _ => none
  | n + 1 => fun x0 x1 x2 x3 x4 h =>
    if x4 > x1 then
      kE185 x3 h
    else
      (vc h 10 x0 (f_X10_isThere x0 (0 : Int32) x4 h)).bind fun r1 =>
      if r1.1 = (0 : Int32) then
        f_X10_cheapest_J83 (f_X10_cheapest_L41 kE185 n) kE185 x0 x1 x2 x4 (0 : Int32) r1.2
      else
        (gR r1.2 10 x0 10).bind fun v2 =>
        (aR 102 r1.2 v2 (0 : Int32)).bind fun v3 =>
        (aI r1.2 v3 x4).bind fun v4 =>
        (gR r1.2 10 x0 9).bind fun v5 =>
        (aR 102 r1.2 v5 (0 : Int32)).bind fun v6 =>
        (aI r1.2 v6 (4 : Int32)).bind fun v7 =>
        f_X10_cheapest_J83 (f_X10_cheapest_L41 kE185 n) kE185 x0 x1 x2 x4 ((v4 &&& v7) &&& (x2 ^^^ (-1 : Int32))) r1.2
theorem y_X10_cheapest_L41 {g : xG} {h0 : xH} {cl : Bool} {kE185 : Int32 → xH → Option (Int32 × xH)} (hkE185 : ∀ (x3 : Int32) (h : xH), Y g DX10_cheapest h0 cl iI (kE185 x3 h) 185 [none, none, none, some (.int x3), none, none, none] [] h) : ∀ (n : Nat) (x0 : Nat) (x1 : Int32) (x2 : Int32) (x3 : Int32) (x4 : Int32) (h : xH), Y g DX10_cheapest h0 cl iI (f_X10_cheapest_L41 kE185 n x0 x1 x2 x3 x4 h) 41 [some (.ref x0), some (.int x1), some (.int x2), some (.int x3), some (.int x4), none, none] [] h := by
  intro n
  induction n with
  | zero => intro x0 x1 x2 x3 x4 h; exact Y.nothing
  | succ n ih =>
    intro x0 x1 x2 x3 x4 h
    unfold f_X10_cheapest_L41
    refine Y.op (pc' := 43) (fun _ => X.iload rfl dX10_cheapest_41) ?_
    refine Y.op (pc' := 44) (fun _ => X.iloadn rfl dX10_cheapest_43) ?_
    refine Y.cmpgt 185 (by decide) dX10_cheapest_44 ?_ ?_
    · exact Y.fg (hkE185 x3 h) (And.intro rfl trivial)
    · refine Y.op (pc' := 48) (fun _ => X.aloadn rfl dX10_cheapest_47) ?_
      refine Y.op (pc' := 49) (fun _ => X.ic ki_0 dX10_cheapest_48) ?_
      refine Y.op (pc' := 51) (fun _ => X.iload rfl dX10_cheapest_49) ?_
      refine Y.callVi (As := [.int (0 : Int32), .int x4]) lk_X10_240 rfl cal_X10_isThere vir_X10_isThere (Nat.le_of_ble_eq_true rfl) (Nat.le_of_ble_eq_true rfl) rfl rfl rfl (Nat.le_of_ble_eq_true rfl) dX10_cheapest_51 (fun _ e => m_X10_isThere x0 (0 : Int32) x4 h _ _ e) (fun r1 => ?_)
      refine Y.ifeq 82 (by decide) dX10_cheapest_54 ?_ ?_
      · refine Y.op (pc' := 83) (fun _ => X.ic ki_0 dX10_cheapest_82) ?_
        exact Y.fg (y_X10_cheapest_J83 ih hkE185 x0 x1 x2 x4 (0 : Int32) r1.2) (And.intro rfl (And.intro rfl (And.intro rfl (And.intro rfl trivial))))
      · refine Y.op (pc' := 58) (fun _ => X.aloadn rfl dX10_cheapest_57) ?_
        refine Y.getR fd_X10_25 rfl dX10_cheapest_58 (fun v2 => ?_)
        refine Y.op (pc' := 62) (fun _ => X.ic ki_0 dX10_cheapest_61) ?_
        refine Y.aldR 102 (by decide) (by decide) dX10_cheapest_62 (fun v3 => ?_)
        refine Y.op (pc' := 65) (fun _ => X.iload rfl dX10_cheapest_63) ?_
        refine Y.aldI dX10_cheapest_65 (fun v4 => ?_)
        refine Y.op (pc' := 67) (fun _ => X.aloadn rfl dX10_cheapest_66) ?_
        refine Y.getR fd_X10_22 rfl dX10_cheapest_67 (fun v5 => ?_)
        refine Y.op (pc' := 71) (fun _ => X.ic ki_0 dX10_cheapest_70) ?_
        refine Y.aldR 102 (by decide) (by decide) dX10_cheapest_71 (fun v6 => ?_)
        refine Y.op (pc' := 73) (fun _ => X.ic ki_4 dX10_cheapest_72) ?_
        refine Y.aldI dX10_cheapest_73 (fun v7 => ?_)
        refine Y.op (pc' := 75) (fun _ => X.iand dX10_cheapest_74) ?_
        refine Y.op (pc' := 76) (fun _ => X.iloadn rfl dX10_cheapest_75) ?_
        refine Y.op (pc' := 77) (fun _ => X.ic ki_m1 dX10_cheapest_76) ?_
        refine Y.op (pc' := 78) (fun _ => X.ixor dX10_cheapest_77) ?_
        refine Y.op (pc' := 79) (fun _ => X.iand dX10_cheapest_78) ?_
        refine Y.op (pc' := 83) (fun _ => X.goto 83 (by decide) dX10_cheapest_79) ?_
        exact Y.fg (y_X10_cheapest_J83 ih hkE185 x0 x1 x2 x4 ((v4 &&& v7) &&& (x2 ^^^ (-1 : Int32))) r1.2) (And.intro rfl (And.intro rfl (And.intro rfl (And.intro rfl trivial))))
def f_X10_cheapest_J20 (x0 : Nat) (x1 : Int32) (s0 : Nat) (s1 : Int32) (h : xH) : Option (Int32 × xH) :=
  (vc h 10 s0 (f_X10_bad s0 s1 (1 : Int32) (0 : Int32) h)).bind fun r1 =>
  if r1.1 = (0 : Int32) then
    (vc r1.2 10 x0 (f_X10_laysCheap x0 r1.2)).bind fun h2 =>
    f_X10_cheapest_L41 (f_X10_cheapest_J185) 5000 x0 x1 (0 : Int32) (-1 : Int32) (0 : Int32) h2
  else
    some ((0 : Int32), r1.2)
theorem y_X10_cheapest_J20 {g : xG} {h0 : xH} {cl : Bool} (x0 : Nat) (x1 : Int32) (s0 : Nat) (s1 : Int32) (h : xH) : Y g DX10_cheapest h0 cl iI (f_X10_cheapest_J20 x0 x1 s0 s1 h) 20 [some (.ref x0), some (.int x1), none, none, none, none, none] [.int s1, .ref s0] h := by
  unfold f_X10_cheapest_J20
  refine Y.op (pc' := 21) (fun _ => X.ic ki_1 dX10_cheapest_20) ?_
  refine Y.op (pc' := 22) (fun _ => X.ic ki_0 dX10_cheapest_21) ?_
  refine Y.callVi (As := [.int s1, .int (1 : Int32), .int (0 : Int32)]) lk_X10_217 rfl cal_X10_bad vir_X10_bad (Nat.le_of_ble_eq_true rfl) (Nat.le_of_ble_eq_true rfl) rfl rfl rfl (Nat.le_of_ble_eq_true rfl) dX10_cheapest_22 (fun _ e => m_X10_bad s0 s1 (1 : Int32) (0 : Int32) h _ _ e) (fun r1 => ?_)
  refine Y.ifeq 30 (by decide) dX10_cheapest_25 ?_ ?_
  · refine Y.op (pc' := 31) (fun _ => X.aloadn rfl dX10_cheapest_30) ?_
    refine Y.callVv (As := []) lk_X10_374 rfl cal_X10_laysCheap vir_X10_laysCheap (Nat.le_of_ble_eq_true rfl) (Nat.le_of_ble_eq_true rfl) rfl rfl rfl (Nat.le_of_ble_eq_true rfl) dX10_cheapest_31 (fun _ e => m_X10_laysCheap x0 r1.2 _ _ e) (fun h2 => ?_)
    refine Y.op (pc' := 35) (fun _ => X.ic ki_0 dX10_cheapest_34) ?_
    refine Y.op (pc' := 36) (loc' := [some (.ref x0), some (.int x1), some (.int (0 : Int32)), none, none, none, none]) (fun _ => X.istoren (Nat.le_of_ble_eq_true rfl) rfl dX10_cheapest_35) ?_
    refine Y.op (pc' := 37) (fun _ => X.ic ki_m1 dX10_cheapest_36) ?_
    refine Y.op (pc' := 38) (loc' := [some (.ref x0), some (.int x1), some (.int (0 : Int32)), some (.int (-1 : Int32)), none, none, none]) (fun _ => X.istoren (Nat.le_of_ble_eq_true rfl) rfl dX10_cheapest_37) ?_
    refine Y.op (pc' := 39) (fun _ => X.ic ki_0 dX10_cheapest_38) ?_
    refine Y.op (pc' := 41) (loc' := [some (.ref x0), some (.int x1), some (.int (0 : Int32)), some (.int (-1 : Int32)), some (.int (0 : Int32)), none, none]) (fun _ => X.istore (Nat.le_of_ble_eq_true rfl) rfl dX10_cheapest_39) ?_
    exact y_X10_cheapest_L41 (y_X10_cheapest_J185) 5000 x0 x1 (0 : Int32) (-1 : Int32) (0 : Int32) h2
  · refine Y.op (pc' := 29) (fun _ => X.ic ki_0 dX10_cheapest_28) ?_
    exact Y.ireturn rfl dX10_cheapest_29
def f_X10_cheapest (a0 : Nat) (p1 : Int32) (h : xH) : Option (Int32 × xH) :=
  (pI h 10 a0 0 (0 : Int32)).bind fun h1 =>
  (vc h1 10 a0 (f_X10_isOne a0 (0 : Int32) p1 h1)).bind fun r2 =>
  if r2.1 = (0 : Int32) then
    f_X10_cheapest_J20 a0 p1 a0 (1 : Int32) r2.2
  else
    f_X10_cheapest_J20 a0 p1 a0 (0 : Int32) r2.2
theorem y_X10_cheapest {g : xG} {h0 : xH} {cl : Bool} (a0 : Nat) (p1 : Int32) (h : xH) : Y g DX10_cheapest h0 cl iI (f_X10_cheapest a0 p1 h) 0 [some (.ref a0), some (.int p1), none, none, none, none, none] [] h := by
  unfold f_X10_cheapest
  refine Y.op (pc' := 1) (fun _ => X.aloadn rfl dX10_cheapest_0) ?_
  refine Y.op (pc' := 2) (fun _ => X.ic ki_0 dX10_cheapest_1) ?_
  refine Y.putI fd_X10_82 rfl dX10_cheapest_2 (fun h1 => ?_)
  refine Y.op (pc' := 6) (fun _ => X.aloadn rfl dX10_cheapest_5) ?_
  refine Y.op (pc' := 7) (fun _ => X.aloadn rfl dX10_cheapest_6) ?_
  refine Y.op (pc' := 8) (fun _ => X.ic ki_0 dX10_cheapest_7) ?_
  refine Y.op (pc' := 9) (fun _ => X.iloadn rfl dX10_cheapest_8) ?_
  refine Y.callVi (As := [.int (0 : Int32), .int p1]) lk_X10_282 rfl cal_X10_isOne vir_X10_isOne (Nat.le_of_ble_eq_true rfl) (Nat.le_of_ble_eq_true rfl) rfl rfl rfl (Nat.le_of_ble_eq_true rfl) dX10_cheapest_9 (fun _ e => m_X10_isOne a0 (0 : Int32) p1 h1 _ _ e) (fun r2 => ?_)
  refine Y.ifne 19 (by decide) dX10_cheapest_12 ?_ ?_
  · refine Y.op (pc' := 20) (fun _ => X.ic ki_0 dX10_cheapest_19) ?_
    exact y_X10_cheapest_J20 a0 p1 a0 (0 : Int32) r2.2
  · refine Y.op (pc' := 16) (fun _ => X.ic ki_1 dX10_cheapest_15) ?_
    refine Y.op (pc' := 20) (fun _ => X.goto 20 (by decide) dX10_cheapest_16) ?_
    exact y_X10_cheapest_J20 a0 p1 a0 (1 : Int32) r2.2
theorem m_X10_cheapest {g : xG} (a0 : Nat) (p1 : Int32) (h : xH) (cl : Bool) (r : Int32 × xH) (e : f_X10_cheapest a0 p1 h = some r) : XM g DX10_cheapest [.ref a0, .int p1] h cl (iI r) := YM.of rfl rfl (Nat.le_of_ble_eq_true rfl) (y_X10_cheapest a0 p1 h) e
def f_X10_narrow_J139 (x0 : Nat) (x2 : Int32) (h : xH) : Option (Int32 × xH) :=
  (vc h 10 x0 (f_X10_copies x0 (17 : Int32) (0 : Int32) h)).bind fun h1 =>
  some (x2, h1)
theorem y_X10_narrow_J139 {g : xG} {h0 : xH} {cl : Bool} (x0 : Nat) (x2 : Int32) (h : xH) : Y g DX10_narrow h0 cl iI (f_X10_narrow_J139 x0 x2 h) 139 [some (.ref x0), none, some (.int x2), none, none, none] [] h := by
  unfold f_X10_narrow_J139
  refine Y.op (pc' := 140) (fun _ => X.aloadn rfl dX10_narrow_139) ?_
  refine Y.op (pc' := 142) (fun _ => X.bp kb_17 dX10_narrow_140) ?_
  refine Y.op (pc' := 143) (fun _ => X.ic ki_0 dX10_narrow_142) ?_
  refine Y.callVv (As := [.int (17 : Int32), .int (0 : Int32)]) lk_X10_228 rfl cal_X10_copies vir_X10_copies (Nat.le_of_ble_eq_true rfl) (Nat.le_of_ble_eq_true rfl) rfl rfl rfl (Nat.le_of_ble_eq_true rfl) dX10_narrow_143 (fun _ e => m_X10_copies x0 (17 : Int32) (0 : Int32) h _ _ e) (fun h1 => ?_)
  refine Y.op (pc' := 147) (fun _ => X.iloadn rfl dX10_narrow_146) ?_
  exact Y.ireturn rfl dX10_narrow_147
def f_X10_narrow_J131 (kH : Nat → Int32 → Int32 → Int32 → xH → Option (Int32 × xH)) (kE139 : Nat → Int32 → xH → Option (Int32 × xH)) (x0 : Nat) (x1 : Int32) (x2 : Int32) (h : xH) : Option (Int32 × xH) :=
  (vc h 10 x0 (f_X10_nu x0 h)).bind fun r1 =>
  kH x0 x1 x2 r1.1 r1.2
theorem y_X10_narrow_J131 {g : xG} {h0 : xH} {cl : Bool} {kH : Nat → Int32 → Int32 → Int32 → xH → Option (Int32 × xH)} {kE139 : Nat → Int32 → xH → Option (Int32 × xH)} (hkH : ∀ (x0 : Nat) (x1 : Int32) (x2 : Int32) (x3 : Int32) (h : xH), Y g DX10_narrow h0 cl iI (kH x0 x1 x2 x3 h) 27 [some (.ref x0), some (.int x1), some (.int x2), some (.int x3), none, none] [] h) (hkE139 : ∀ (x0 : Nat) (x2 : Int32) (h : xH), Y g DX10_narrow h0 cl iI (kE139 x0 x2 h) 139 [some (.ref x0), none, some (.int x2), none, none, none] [] h) (x0 : Nat) (x1 : Int32) (x2 : Int32) (h : xH) : Y g DX10_narrow h0 cl iI (f_X10_narrow_J131 kH kE139 x0 x1 x2 h) 131 [some (.ref x0), some (.int x1), some (.int x2), none, none, none] [] h := by
  unfold f_X10_narrow_J131
  refine Y.op (pc' := 132) (fun _ => X.aloadn rfl dX10_narrow_131) ?_
  refine Y.callVi (As := []) lk_X10_327 rfl cal_X10_nu vir_X10_nu (Nat.le_of_ble_eq_true rfl) (Nat.le_of_ble_eq_true rfl) rfl rfl rfl (Nat.le_of_ble_eq_true rfl) dX10_narrow_132 (fun _ e => m_X10_nu x0 h _ _ e) (fun r1 => ?_)
  refine Y.op (pc' := 136) (loc' := [some (.ref x0), some (.int x1), some (.int x2), some (.int r1.1), none, none]) (fun _ => X.istoren (Nat.le_of_ble_eq_true rfl) rfl dX10_narrow_135) ?_
  refine Y.op (pc' := 27) (fun _ => X.goto 27 (by decide) dX10_narrow_136) ?_
  exact hkH x0 x1 x2 r1.1 r1.2
def f_X10_narrow_J125 (kH : Nat → Int32 → Int32 → Int32 → xH → Option (Int32 × xH)) (kE131 : Nat → Int32 → Int32 → xH → Option (Int32 × xH)) (x0 : Nat) (x1 : Int32) (x2 : Int32) (x4 : Int32) (h : xH) : Option (Int32 × xH) :=
  lt (x4 + (1 : Int32)) fun v1 =>
  kH x0 x1 x2 v1 h
theorem y_X10_narrow_J125 {g : xG} {h0 : xH} {cl : Bool} {kH : Nat → Int32 → Int32 → Int32 → xH → Option (Int32 × xH)} {kE131 : Nat → Int32 → Int32 → xH → Option (Int32 × xH)} (hkH : ∀ (x0 : Nat) (x1 : Int32) (x2 : Int32) (x4 : Int32) (h : xH), Y g DX10_narrow h0 cl iI (kH x0 x1 x2 x4 h) 38 [some (.ref x0), some (.int x1), some (.int x2), none, some (.int x4), none] [] h) (hkE131 : ∀ (x0 : Nat) (x1 : Int32) (x2 : Int32) (h : xH), Y g DX10_narrow h0 cl iI (kE131 x0 x1 x2 h) 131 [some (.ref x0), some (.int x1), some (.int x2), none, none, none] [] h) (x0 : Nat) (x1 : Int32) (x2 : Int32) (x4 : Int32) (h : xH) : Y g DX10_narrow h0 cl iI (f_X10_narrow_J125 kH kE131 x0 x1 x2 x4 h) 125 [some (.ref x0), some (.int x1), some (.int x2), none, some (.int x4), none] [] h := by
  unfold f_X10_narrow_J125
  refine Y.iinc (i := 4) (loc' := fun v1 => [some (.ref x0), some (.int x1), some (.int x2), none, some (.int v1), none]) rfl (Nat.le_of_ble_eq_true rfl) ki_1 (fun _ => rfl) dX10_narrow_125 (fun v1 => ?_)
  refine Y.op (pc' := 38) (fun _ => X.goto 38 (by decide) dX10_narrow_128) ?_
  exact hkH x0 x1 x2 v1 h
def f_X10_narrow_J117 (kH : Nat → Int32 → Int32 → Int32 → Int32 → xH → Option (Int32 × xH)) (kE125 : Nat → Int32 → Int32 → Int32 → xH → Option (Int32 × xH)) (x0 : Nat) (x1 : Int32) (x2 : Int32) (x4 : Int32) (x5 : Int32) (s0 : Nat) (s1 : Int32) (s2 : Int32) (s3 : Int32) (h : xH) : Option (Int32 × xH) :=
  (sI h s0 s1 (s2 ||| s3)).bind fun h1 =>
  lt (x5 + (1 : Int32)) fun v2 =>
  kH x0 x1 x2 x4 v2 h1
theorem y_X10_narrow_J117 {g : xG} {h0 : xH} {cl : Bool} {kH : Nat → Int32 → Int32 → Int32 → Int32 → xH → Option (Int32 × xH)} {kE125 : Nat → Int32 → Int32 → Int32 → xH → Option (Int32 × xH)} (hkH : ∀ (x0 : Nat) (x1 : Int32) (x2 : Int32) (x4 : Int32) (x5 : Int32) (h : xH), Y g DX10_narrow h0 cl iI (kH x0 x1 x2 x4 x5 h) 58 [some (.ref x0), some (.int x1), some (.int x2), none, some (.int x4), some (.int x5)] [] h) (hkE125 : ∀ (x0 : Nat) (x1 : Int32) (x2 : Int32) (x4 : Int32) (h : xH), Y g DX10_narrow h0 cl iI (kE125 x0 x1 x2 x4 h) 125 [some (.ref x0), some (.int x1), some (.int x2), none, some (.int x4), none] [] h) (x0 : Nat) (x1 : Int32) (x2 : Int32) (x4 : Int32) (x5 : Int32) (s0 : Nat) (s1 : Int32) (s2 : Int32) (s3 : Int32) (h : xH) : Y g DX10_narrow h0 cl iI (f_X10_narrow_J117 kH kE125 x0 x1 x2 x4 x5 s0 s1 s2 s3 h) 117 [some (.ref x0), some (.int x1), some (.int x2), none, some (.int x4), some (.int x5)] [.int s3, .int s2, .int s1, .ref s0] h := by
  unfold f_X10_narrow_J117
  refine Y.op (pc' := 118) (fun _ => X.ior dX10_narrow_117) ?_
  refine Y.astI dX10_narrow_118 (fun h1 => ?_)
  refine Y.iinc (i := 5) (loc' := fun v2 => [some (.ref x0), some (.int x1), some (.int x2), none, some (.int x4), some (.int v2)]) rfl (Nat.le_of_ble_eq_true rfl) ki_1 (fun _ => rfl) dX10_narrow_119 (fun v2 => ?_)
  refine Y.op (pc' := 58) (fun _ => X.goto 58 (by decide) dX10_narrow_122) ?_
  exact hkH x0 x1 x2 x4 v2 h1
def f_X10_narrow_J116 (kH : Nat → Int32 → Int32 → Int32 → Int32 → xH → Option (Int32 × xH)) (kE125 : Nat → Int32 → Int32 → Int32 → xH → Option (Int32 × xH)) (x0 : Nat) (x1 : Int32) (x2 : Int32) (x4 : Int32) (x5 : Int32) (s0 : Nat) (s1 : Int32) (s2 : Int32) (h : xH) : Option (Int32 × xH) :=
  f_X10_narrow_J117 (kH) kE125 x0 x1 x2 x4 x5 s0 s1 s2 (0 : Int32) h
theorem y_X10_narrow_J116 {g : xG} {h0 : xH} {cl : Bool} {kH : Nat → Int32 → Int32 → Int32 → Int32 → xH → Option (Int32 × xH)} {kE125 : Nat → Int32 → Int32 → Int32 → xH → Option (Int32 × xH)} (hkH : ∀ (x0 : Nat) (x1 : Int32) (x2 : Int32) (x4 : Int32) (x5 : Int32) (h : xH), Y g DX10_narrow h0 cl iI (kH x0 x1 x2 x4 x5 h) 58 [some (.ref x0), some (.int x1), some (.int x2), none, some (.int x4), some (.int x5)] [] h) (hkE125 : ∀ (x0 : Nat) (x1 : Int32) (x2 : Int32) (x4 : Int32) (h : xH), Y g DX10_narrow h0 cl iI (kE125 x0 x1 x2 x4 h) 125 [some (.ref x0), some (.int x1), some (.int x2), none, some (.int x4), none] [] h) (x0 : Nat) (x1 : Int32) (x2 : Int32) (x4 : Int32) (x5 : Int32) (s0 : Nat) (s1 : Int32) (s2 : Int32) (h : xH) : Y g DX10_narrow h0 cl iI (f_X10_narrow_J116 kH kE125 x0 x1 x2 x4 x5 s0 s1 s2 h) 116 [some (.ref x0), some (.int x1), some (.int x2), none, some (.int x4), some (.int x5)] [.int s2, .int s1, .ref s0] h := by
  unfold f_X10_narrow_J116
  refine Y.op (pc' := 117) (fun _ => X.ic ki_0 dX10_narrow_116) ?_
  exact y_X10_narrow_J117 hkH hkE125 x0 x1 x2 x4 x5 s0 s1 s2 (0 : Int32) h
def f_X10_narrow_L58 (kE125 : Nat → Int32 → Int32 → Int32 → xH → Option (Int32 × xH)) : Nat → Nat → Int32 → Int32 → Int32 → Int32 → xH → Option (Int32 × xH)
  | 0 => fun _ _ _ _ _ _ => none
  | n + 1 => fun x0 x1 x2 x4 x5 h =>
    if x5 ≥ (12 : Int32) then
      kE125 x0 x1 x2 x4 h
    else
      (gR h 10 x0 10).bind fun v1 =>
      (aR 102 h v1 (0 : Int32)).bind fun v2 =>
      (aI h v2 x4).bind fun v3 =>
      (gR h 10 x0 10).bind fun v4 =>
      (aR 102 h v4 (17 : Int32)).bind fun v5 =>
      (aI h v5 x4).bind fun v6 =>
      (f_X10_has v6 x5 h).bind fun r7 =>
      if r7.1 = (0 : Int32) then
        f_X10_narrow_J116 (f_X10_narrow_L58 kE125 n) kE125 x0 x1 x2 x4 x5 v2 x4 v3 r7.2
      else
        (gR r7.2 10 x0 13).bind fun v8 =>
        (aR 103 r7.2 v8 (0 : Int32)).bind fun v9 =>
        (aR 102 r7.2 v9 x4).bind fun v10 =>
        (aI r7.2 v10 x5).bind fun v11 =>
        if v11 > x2 then
          f_X10_narrow_J116 (f_X10_narrow_L58 kE125 n) kE125 x0 x1 x2 x4 x5 v2 x4 v3 r7.2
        else
          f_X10_narrow_J117 (f_X10_narrow_L58 kE125 n) kE125 x0 x1 x2 x4 x5 v2 x4 v3 ((1 : Int32) <<< (x5 &&& 31)) r7.2
theorem y_X10_narrow_L58 {g : xG} {h0 : xH} {cl : Bool} {kE125 : Nat → Int32 → Int32 → Int32 → xH → Option (Int32 × xH)} (hkE125 : ∀ (x0 : Nat) (x1 : Int32) (x2 : Int32) (x4 : Int32) (h : xH), Y g DX10_narrow h0 cl iI (kE125 x0 x1 x2 x4 h) 125 [some (.ref x0), some (.int x1), some (.int x2), none, some (.int x4), none] [] h) : ∀ (n : Nat) (x0 : Nat) (x1 : Int32) (x2 : Int32) (x4 : Int32) (x5 : Int32) (h : xH), Y g DX10_narrow h0 cl iI (f_X10_narrow_L58 kE125 n x0 x1 x2 x4 x5 h) 58 [some (.ref x0), some (.int x1), some (.int x2), none, some (.int x4), some (.int x5)] [] h := by
  intro n
  induction n with
  | zero => intro x0 x1 x2 x4 x5 h; exact Y.nothing
  | succ n ih =>
    intro x0 x1 x2 x4 x5 h
    unfold f_X10_narrow_L58
    refine Y.op (pc' := 60) (fun _ => X.iload rfl dX10_narrow_58) ?_
    refine Y.op (pc' := 62) (fun _ => X.bp kb_12 dX10_narrow_60) ?_
    refine Y.cmpge 125 (by decide) dX10_narrow_62 ?_ ?_
    · exact Y.fg (hkE125 x0 x1 x2 x4 h) (And.intro rfl (And.intro rfl (And.intro rfl (And.intro rfl trivial))))
    · refine Y.op (pc' := 66) (fun _ => X.aloadn rfl dX10_narrow_65) ?_
      refine Y.getR fd_X10_25 rfl dX10_narrow_66 (fun v1 => ?_)
      refine Y.op (pc' := 70) (fun _ => X.ic ki_0 dX10_narrow_69) ?_
      refine Y.aldR 102 (by decide) (by decide) dX10_narrow_70 (fun v2 => ?_)
      refine Y.op (pc' := 73) (fun _ => X.iload rfl dX10_narrow_71) ?_
      refine Y.op (pc' := 74) (fun _ => X.dup2 rfl rfl dX10_narrow_73) ?_
      refine Y.aldI dX10_narrow_74 (fun v3 => ?_)
      refine Y.op (pc' := 76) (fun _ => X.aloadn rfl dX10_narrow_75) ?_
      refine Y.getR fd_X10_25 rfl dX10_narrow_76 (fun v4 => ?_)
      refine Y.op (pc' := 81) (fun _ => X.bp kb_17 dX10_narrow_79) ?_
      refine Y.aldR 102 (by decide) (by decide) dX10_narrow_81 (fun v5 => ?_)
      refine Y.op (pc' := 84) (fun _ => X.iload rfl dX10_narrow_82) ?_
      refine Y.aldI dX10_narrow_84 (fun v6 => ?_)
      refine Y.op (pc' := 87) (fun _ => X.iload rfl dX10_narrow_85) ?_
      refine Y.callSi (As := [.int v6, .int x5]) lk_X10_182 rfl cal_X10_has sta_X10_has (Nat.le_of_ble_eq_true rfl) rfl rfl (Nat.le_of_ble_eq_true rfl) dX10_narrow_87 (fun _ e => m_X10_has v6 x5 h _ _ e) (fun r7 => ?_)
      refine Y.ifeq 116 (by decide) dX10_narrow_90 ?_ ?_
      · exact y_X10_narrow_J116 ih hkE125 x0 x1 x2 x4 x5 v2 x4 v3 r7.2
      · refine Y.op (pc' := 94) (fun _ => X.aloadn rfl dX10_narrow_93) ?_
        refine Y.getR fd_X10_36 rfl dX10_narrow_94 (fun v8 => ?_)
        refine Y.op (pc' := 98) (fun _ => X.ic ki_0 dX10_narrow_97) ?_
        refine Y.aldR 103 (by decide) (by decide) dX10_narrow_98 (fun v9 => ?_)
        refine Y.op (pc' := 101) (fun _ => X.iload rfl dX10_narrow_99) ?_
        refine Y.aldR 102 (by decide) (by decide) dX10_narrow_101 (fun v10 => ?_)
        refine Y.op (pc' := 104) (fun _ => X.iload rfl dX10_narrow_102) ?_
        refine Y.aldI dX10_narrow_104 (fun v11 => ?_)
        refine Y.op (pc' := 106) (fun _ => X.iloadn rfl dX10_narrow_105) ?_
        refine Y.cmpgt 116 (by decide) dX10_narrow_106 ?_ ?_
        · exact y_X10_narrow_J116 ih hkE125 x0 x1 x2 x4 x5 v2 x4 v3 r7.2
        · refine Y.op (pc' := 110) (fun _ => X.ic ki_1 dX10_narrow_109) ?_
          refine Y.op (pc' := 112) (fun _ => X.iload rfl dX10_narrow_110) ?_
          refine Y.op (pc' := 113) (fun _ => X.ishl dX10_narrow_112) ?_
          refine Y.op (pc' := 117) (fun _ => X.goto 117 (by decide) dX10_narrow_113) ?_
          exact y_X10_narrow_J117 ih hkE125 x0 x1 x2 x4 x5 v2 x4 v3 ((1 : Int32) <<< (x5 &&& 31)) r7.2
def f_X10_narrow_L38 (kE131 : Nat → Int32 → Int32 → xH → Option (Int32 × xH)) : Nat → Nat → Int32 → Int32 → Int32 → xH → Option (Int32 × xH)
  | 0 => fun _ _ _ _ _ => none
  | n + 1 => fun x0 x1 x2 x4 h =>
    if x4 ≥ (12 : Int32) then
      kE131 x0 x1 x2 h
    else
      (gR h 10 x0 10).bind fun v1 =>
      (aR 102 h v1 (0 : Int32)).bind fun v2 =>
      (sI h v2 x4 (0 : Int32)).bind fun h3 =>
      f_X10_narrow_L58 (f_X10_narrow_J125 (f_X10_narrow_L38 kE131 n) kE131) 5000 x0 x1 x2 x4 (0 : Int32) h3
theorem y_X10_narrow_L38 {g : xG} {h0 : xH} {cl : Bool} {kE131 : Nat → Int32 → Int32 → xH → Option (Int32 × xH)} (hkE131 : ∀ (x0 : Nat) (x1 : Int32) (x2 : Int32) (h : xH), Y g DX10_narrow h0 cl iI (kE131 x0 x1 x2 h) 131 [some (.ref x0), some (.int x1), some (.int x2), none, none, none] [] h) : ∀ (n : Nat) (x0 : Nat) (x1 : Int32) (x2 : Int32) (x4 : Int32) (h : xH), Y g DX10_narrow h0 cl iI (f_X10_narrow_L38 kE131 n x0 x1 x2 x4 h) 38 [some (.ref x0), some (.int x1), some (.int x2), none, some (.int x4), none] [] h := by
  intro n
  induction n with
  | zero => intro x0 x1 x2 x4 h; exact Y.nothing
  | succ n ih =>
    intro x0 x1 x2 x4 h
    unfold f_X10_narrow_L38
    refine Y.op (pc' := 40) (fun _ => X.iload rfl dX10_narrow_38) ?_
    refine Y.op (pc' := 42) (fun _ => X.bp kb_12 dX10_narrow_40) ?_
    refine Y.cmpge 131 (by decide) dX10_narrow_42 ?_ ?_
    · exact Y.fg (hkE131 x0 x1 x2 h) (And.intro rfl (And.intro rfl (And.intro rfl trivial)))
    · refine Y.op (pc' := 46) (fun _ => X.aloadn rfl dX10_narrow_45) ?_
      refine Y.getR fd_X10_25 rfl dX10_narrow_46 (fun v1 => ?_)
      refine Y.op (pc' := 50) (fun _ => X.ic ki_0 dX10_narrow_49) ?_
      refine Y.aldR 102 (by decide) (by decide) dX10_narrow_50 (fun v2 => ?_)
      refine Y.op (pc' := 53) (fun _ => X.iload rfl dX10_narrow_51) ?_
      refine Y.op (pc' := 54) (fun _ => X.ic ki_0 dX10_narrow_53) ?_
      refine Y.astI dX10_narrow_54 (fun h3 => ?_)
      refine Y.op (pc' := 56) (fun _ => X.ic ki_0 dX10_narrow_55) ?_
      refine Y.op (pc' := 58) (loc' := [some (.ref x0), some (.int x1), some (.int x2), none, some (.int x4), some (.int (0 : Int32))]) (fun _ => X.istore (Nat.le_of_ble_eq_true rfl) rfl dX10_narrow_56) ?_
      exact y_X10_narrow_L58 (y_X10_narrow_J125 ih hkE131) 5000 x0 x1 x2 x4 (0 : Int32) h3
def f_X10_narrow_L27 (kE139 : Nat → Int32 → xH → Option (Int32 × xH)) : Nat → Nat → Int32 → Int32 → Int32 → xH → Option (Int32 × xH)
  | 0 => fun _ _ _ _ _ => none
  | n + 1 => fun x0 x1 x2 x3 h =>
    if x3 ≥ x1 then
      kE139 x0 x2 h
    else
      lt (x2 + (1 : Int32)) fun v1 =>
      f_X10_narrow_L38 (f_X10_narrow_J131 (f_X10_narrow_L27 kE139 n) kE139) 5000 x0 x1 v1 (0 : Int32) h
theorem y_X10_narrow_L27 {g : xG} {h0 : xH} {cl : Bool} {kE139 : Nat → Int32 → xH → Option (Int32 × xH)} (hkE139 : ∀ (x0 : Nat) (x2 : Int32) (h : xH), Y g DX10_narrow h0 cl iI (kE139 x0 x2 h) 139 [some (.ref x0), none, some (.int x2), none, none, none] [] h) : ∀ (n : Nat) (x0 : Nat) (x1 : Int32) (x2 : Int32) (x3 : Int32) (h : xH), Y g DX10_narrow h0 cl iI (f_X10_narrow_L27 kE139 n x0 x1 x2 x3 h) 27 [some (.ref x0), some (.int x1), some (.int x2), some (.int x3), none, none] [] h := by
  intro n
  induction n with
  | zero => intro x0 x1 x2 x3 h; exact Y.nothing
  | succ n ih =>
    intro x0 x1 x2 x3 h
    unfold f_X10_narrow_L27
    refine Y.op (pc' := 28) (fun _ => X.iloadn rfl dX10_narrow_27) ?_
    refine Y.op (pc' := 29) (fun _ => X.iloadn rfl dX10_narrow_28) ?_
    refine Y.cmpge 139 (by decide) dX10_narrow_29 ?_ ?_
    · exact Y.fg (hkE139 x0 x2 h) (And.intro rfl (And.intro rfl trivial))
    · refine Y.iinc (i := 2) (loc' := fun v1 => [some (.ref x0), some (.int x1), some (.int v1), some (.int x3), none, none]) rfl (Nat.le_of_ble_eq_true rfl) ki_1 (fun _ => rfl) dX10_narrow_32 (fun v1 => ?_)
      refine Y.op (pc' := 36) (fun _ => X.ic ki_0 dX10_narrow_35) ?_
      refine Y.op (pc' := 38) (loc' := [some (.ref x0), some (.int x1), some (.int v1), some (.int x3), some (.int (0 : Int32)), none]) (fun _ => X.istore (Nat.le_of_ble_eq_true rfl) rfl dX10_narrow_36) ?_
      exact Y.fg (y_X10_narrow_L38 (y_X10_narrow_J131 ih hkE139) 5000 x0 x1 v1 (0 : Int32) h) (And.intro rfl (And.intro rfl (And.intro rfl (And.intro rfl trivial))))
def f_X10_narrow (a0 : Nat) (h : xH) : Option (Int32 × xH) :=
  (pI h 10 a0 0 (0 : Int32)).bind fun h1 =>
  (vc h1 10 a0 (f_X10_nu a0 h1)).bind fun r2 =>
  if r2.1 = (0 : Int32) then
    some ((-1 : Int32), r2.2)
  else
    (vc r2.2 10 a0 (f_X10_copies a0 (0 : Int32) (17 : Int32) r2.2)).bind fun h3 =>
    f_X10_narrow_L27 (f_X10_narrow_J139) 5000 a0 r2.1 (-1 : Int32) (0 : Int32) h3
theorem y_X10_narrow {g : xG} {h0 : xH} {cl : Bool} (a0 : Nat) (h : xH) : Y g DX10_narrow h0 cl iI (f_X10_narrow a0 h) 0 [some (.ref a0), none, none, none, none, none] [] h := by
  unfold f_X10_narrow
  refine Y.op (pc' := 1) (fun _ => X.aloadn rfl dX10_narrow_0) ?_
  refine Y.op (pc' := 2) (fun _ => X.ic ki_0 dX10_narrow_1) ?_
  refine Y.putI fd_X10_82 rfl dX10_narrow_2 (fun h1 => ?_)
  refine Y.op (pc' := 6) (fun _ => X.aloadn rfl dX10_narrow_5) ?_
  refine Y.callVi (As := []) lk_X10_327 rfl cal_X10_nu vir_X10_nu (Nat.le_of_ble_eq_true rfl) (Nat.le_of_ble_eq_true rfl) rfl rfl rfl (Nat.le_of_ble_eq_true rfl) dX10_narrow_6 (fun _ e => m_X10_nu a0 h1 _ _ e) (fun r2 => ?_)
  refine Y.op (pc' := 10) (loc' := [some (.ref a0), some (.int r2.1), none, none, none, none]) (fun _ => X.istoren (Nat.le_of_ble_eq_true rfl) rfl dX10_narrow_9) ?_
  refine Y.op (pc' := 11) (fun _ => X.iloadn rfl dX10_narrow_10) ?_
  refine Y.ifne 16 (by decide) dX10_narrow_11 ?_ ?_
  · refine Y.op (pc' := 17) (fun _ => X.aloadn rfl dX10_narrow_16) ?_
    refine Y.op (pc' := 18) (fun _ => X.ic ki_0 dX10_narrow_17) ?_
    refine Y.op (pc' := 20) (fun _ => X.bp kb_17 dX10_narrow_18) ?_
    refine Y.callVv (As := [.int (0 : Int32), .int (17 : Int32)]) lk_X10_228 rfl cal_X10_copies vir_X10_copies (Nat.le_of_ble_eq_true rfl) (Nat.le_of_ble_eq_true rfl) rfl rfl rfl (Nat.le_of_ble_eq_true rfl) dX10_narrow_20 (fun _ e => m_X10_copies a0 (0 : Int32) (17 : Int32) r2.2 _ _ e) (fun h3 => ?_)
    refine Y.op (pc' := 24) (fun _ => X.ic ki_m1 dX10_narrow_23) ?_
    refine Y.op (pc' := 25) (loc' := [some (.ref a0), some (.int r2.1), some (.int (-1 : Int32)), none, none, none]) (fun _ => X.istoren (Nat.le_of_ble_eq_true rfl) rfl dX10_narrow_24) ?_
    refine Y.op (pc' := 26) (fun _ => X.ic ki_0 dX10_narrow_25) ?_
    refine Y.op (pc' := 27) (loc' := [some (.ref a0), some (.int r2.1), some (.int (-1 : Int32)), some (.int (0 : Int32)), none, none]) (fun _ => X.istoren (Nat.le_of_ble_eq_true rfl) rfl dX10_narrow_26) ?_
    exact y_X10_narrow_L27 (y_X10_narrow_J139) 5000 a0 r2.1 (-1 : Int32) (0 : Int32) h3
  · refine Y.op (pc' := 15) (fun _ => X.ic ki_m1 dX10_narrow_14) ?_
    exact Y.ireturn rfl dX10_narrow_15
theorem m_X10_narrow {g : xG} (a0 : Nat) (h : xH) (cl : Bool) (r : Int32 × xH) (e : f_X10_narrow a0 h = some r) : XM g DX10_narrow [.ref a0] h cl (iI r) := YM.of rfl rfl (Nat.le_of_ble_eq_true rfl) (y_X10_narrow a0 h) e
def f_X10_more__J206 (s0 : Int32) (h : xH) : Option (Int32 × xH) :=
  some (s0, h)
theorem y_X10_more__J206 {g : xG} {h0 : xH} {cl : Bool} (s0 : Int32) (h : xH) : Y g DX10_more_ h0 cl iI (f_X10_more__J206 s0 h) 206 [none, none, none, none, none, none, none, none] [.int s0] h := by
  unfold f_X10_more__J206
  exact Y.ireturn rfl dX10_more__206
def f_X10_more__J197 (x1 : Int32) (x2 : Int32) (x3 : Int32) (h : xH) : Option (Int32 × xH) :=
  if x1 = (0 : Int32) then
    f_X10_more__J206 x2 h
  else
    f_X10_more__J206 x3 h
theorem y_X10_more__J197 {g : xG} {h0 : xH} {cl : Bool} (x1 : Int32) (x2 : Int32) (x3 : Int32) (h : xH) : Y g DX10_more_ h0 cl iI (f_X10_more__J197 x1 x2 x3 h) 197 [none, some (.int x1), some (.int x2), some (.int x3), none, none, none, none] [] h := by
  unfold f_X10_more__J197
  refine Y.op (pc' := 198) (fun _ => X.iloadn rfl dX10_more__197) ?_
  refine Y.ifne 205 (by decide) dX10_more__198 ?_ ?_
  · refine Y.op (pc' := 206) (fun _ => X.iloadn rfl dX10_more__205) ?_
    exact Y.fg (y_X10_more__J206 x3 h) trivial
  · refine Y.op (pc' := 202) (fun _ => X.iloadn rfl dX10_more__201) ?_
    refine Y.op (pc' := 206) (fun _ => X.goto 206 (by decide) dX10_more__202) ?_
    exact Y.fg (y_X10_more__J206 x2 h) trivial
def f_X10_more__J191 (kH : Nat → Int32 → Int32 → Int32 → Int32 → Int32 → xH → Option (Int32 × xH)) (kE197 : Int32 → Int32 → Int32 → xH → Option (Int32 × xH)) (x0 : Nat) (x1 : Int32) (x2 : Int32) (x3 : Int32) (x4 : Int32) (x5 : Int32) (h : xH) : Option (Int32 × xH) :=
  lt (x5 + (1 : Int32)) fun v1 =>
  kH x0 x1 x2 x3 x4 v1 h
theorem y_X10_more__J191 {g : xG} {h0 : xH} {cl : Bool} {kH : Nat → Int32 → Int32 → Int32 → Int32 → Int32 → xH → Option (Int32 × xH)} {kE197 : Int32 → Int32 → Int32 → xH → Option (Int32 × xH)} (hkH : ∀ (x0 : Nat) (x1 : Int32) (x2 : Int32) (x3 : Int32) (x4 : Int32) (x5 : Int32) (h : xH), Y g DX10_more_ h0 cl iI (kH x0 x1 x2 x3 x4 x5 h) 43 [some (.ref x0), some (.int x1), some (.int x2), some (.int x3), some (.int x4), some (.int x5), none, none] [] h) (hkE197 : ∀ (x1 : Int32) (x2 : Int32) (x3 : Int32) (h : xH), Y g DX10_more_ h0 cl iI (kE197 x1 x2 x3 h) 197 [none, some (.int x1), some (.int x2), some (.int x3), none, none, none, none] [] h) (x0 : Nat) (x1 : Int32) (x2 : Int32) (x3 : Int32) (x4 : Int32) (x5 : Int32) (h : xH) : Y g DX10_more_ h0 cl iI (f_X10_more__J191 kH kE197 x0 x1 x2 x3 x4 x5 h) 191 [some (.ref x0), some (.int x1), some (.int x2), some (.int x3), some (.int x4), some (.int x5), none, none] [] h := by
  unfold f_X10_more__J191
  refine Y.iinc (i := 5) (loc' := fun v1 => [some (.ref x0), some (.int x1), some (.int x2), some (.int x3), some (.int x4), some (.int v1), none, none]) rfl (Nat.le_of_ble_eq_true rfl) ki_1 (fun _ => rfl) dX10_more__191 (fun v1 => ?_)
  refine Y.op (pc' := 43) (fun _ => X.goto 43 (by decide) dX10_more__194) ?_
  exact hkH x0 x1 x2 x3 x4 v1 h
def f_X10_more__J185 (kH : Nat → Int32 → Int32 → Int32 → Int32 → Int32 → Int32 → xH → Option (Int32 × xH)) (kE191 : Nat → Int32 → Int32 → Int32 → Int32 → Int32 → xH → Option (Int32 × xH)) (x0 : Nat) (x1 : Int32) (x2 : Int32) (x3 : Int32) (x4 : Int32) (x5 : Int32) (x6 : Int32) (h : xH) : Option (Int32 × xH) :=
  lt (x6 + (1 : Int32)) fun v1 =>
  kH x0 x1 x2 x3 x4 x5 v1 h
theorem y_X10_more__J185 {g : xG} {h0 : xH} {cl : Bool} {kH : Nat → Int32 → Int32 → Int32 → Int32 → Int32 → Int32 → xH → Option (Int32 × xH)} {kE191 : Nat → Int32 → Int32 → Int32 → Int32 → Int32 → xH → Option (Int32 × xH)} (hkH : ∀ (x0 : Nat) (x1 : Int32) (x2 : Int32) (x3 : Int32) (x4 : Int32) (x5 : Int32) (x6 : Int32) (h : xH), Y g DX10_more_ h0 cl iI (kH x0 x1 x2 x3 x4 x5 x6 h) 59 [some (.ref x0), some (.int x1), some (.int x2), some (.int x3), some (.int x4), some (.int x5), some (.int x6), none] [] h) (hkE191 : ∀ (x0 : Nat) (x1 : Int32) (x2 : Int32) (x3 : Int32) (x4 : Int32) (x5 : Int32) (h : xH), Y g DX10_more_ h0 cl iI (kE191 x0 x1 x2 x3 x4 x5 h) 191 [some (.ref x0), some (.int x1), some (.int x2), some (.int x3), some (.int x4), some (.int x5), none, none] [] h) (x0 : Nat) (x1 : Int32) (x2 : Int32) (x3 : Int32) (x4 : Int32) (x5 : Int32) (x6 : Int32) (h : xH) : Y g DX10_more_ h0 cl iI (f_X10_more__J185 kH kE191 x0 x1 x2 x3 x4 x5 x6 h) 185 [some (.ref x0), some (.int x1), some (.int x2), some (.int x3), some (.int x4), some (.int x5), some (.int x6), none] [] h := by
  unfold f_X10_more__J185
  refine Y.iinc (i := 6) (loc' := fun v1 => [some (.ref x0), some (.int x1), some (.int x2), some (.int x3), some (.int x4), some (.int x5), some (.int v1), none]) rfl (Nat.le_of_ble_eq_true rfl) ki_1 (fun _ => rfl) dX10_more__185 (fun v1 => ?_)
  refine Y.op (pc' := 59) (fun _ => X.goto 59 (by decide) dX10_more__188) ?_
  exact hkH x0 x1 x2 x3 x4 x5 v1 h
def f_X10_more__J181 (kH : Nat → Int32 → Int32 → Int32 → Int32 → Int32 → Int32 → xH → Option (Int32 × xH)) (kE191 : Nat → Int32 → Int32 → Int32 → Int32 → Int32 → xH → Option (Int32 × xH)) (x0 : Nat) (x1 : Int32) (x2 : Int32) (x4 : Int32) (x5 : Int32) (x6 : Int32) (s0 : Int32) (h : xH) : Option (Int32 × xH) :=
  lt (x2 + (1 : Int32)) fun v1 =>
  f_X10_more__J185 (kH) kE191 x0 x1 v1 s0 x4 x5 x6 h
theorem y_X10_more__J181 {g : xG} {h0 : xH} {cl : Bool} {kH : Nat → Int32 → Int32 → Int32 → Int32 → Int32 → Int32 → xH → Option (Int32 × xH)} {kE191 : Nat → Int32 → Int32 → Int32 → Int32 → Int32 → xH → Option (Int32 × xH)} (hkH : ∀ (x0 : Nat) (x1 : Int32) (x2 : Int32) (x3 : Int32) (x4 : Int32) (x5 : Int32) (x6 : Int32) (h : xH), Y g DX10_more_ h0 cl iI (kH x0 x1 x2 x3 x4 x5 x6 h) 59 [some (.ref x0), some (.int x1), some (.int x2), some (.int x3), some (.int x4), some (.int x5), some (.int x6), none] [] h) (hkE191 : ∀ (x0 : Nat) (x1 : Int32) (x2 : Int32) (x3 : Int32) (x4 : Int32) (x5 : Int32) (h : xH), Y g DX10_more_ h0 cl iI (kE191 x0 x1 x2 x3 x4 x5 h) 191 [some (.ref x0), some (.int x1), some (.int x2), some (.int x3), some (.int x4), some (.int x5), none, none] [] h) (x0 : Nat) (x1 : Int32) (x2 : Int32) (x4 : Int32) (x5 : Int32) (x6 : Int32) (s0 : Int32) (h : xH) : Y g DX10_more_ h0 cl iI (f_X10_more__J181 kH kE191 x0 x1 x2 x4 x5 x6 s0 h) 181 [some (.ref x0), some (.int x1), some (.int x2), none, some (.int x4), some (.int x5), some (.int x6), none] [.int s0] h := by
  unfold f_X10_more__J181
  refine Y.op (pc' := 182) (loc' := [some (.ref x0), some (.int x1), some (.int x2), some (.int s0), some (.int x4), some (.int x5), some (.int x6), none]) (fun _ => X.istoren (Nat.le_of_ble_eq_true rfl) rfl dX10_more__181) ?_
  refine Y.iinc (i := 2) (loc' := fun v1 => [some (.ref x0), some (.int x1), some (.int v1), some (.int s0), some (.int x4), some (.int x5), some (.int x6), none]) rfl (Nat.le_of_ble_eq_true rfl) ki_1 (fun _ => rfl) dX10_more__182 (fun v1 => ?_)
  exact y_X10_more__J185 hkH hkE191 x0 x1 v1 s0 x4 x5 x6 h
def f_X10_more__J136 (kH : Nat → Int32 → Int32 → Int32 → Int32 → Int32 → Int32 → xH → Option (Int32 × xH)) (kE191 : Nat → Int32 → Int32 → Int32 → Int32 → Int32 → xH → Option (Int32 × xH)) (x0 : Nat) (x1 : Int32) (x2 : Int32) (x3 : Int32) (x4 : Int32) (x5 : Int32) (x6 : Int32) (s0 : Int32) (h : xH) : Option (Int32 × xH) :=
  (gR h 10 x0 10).bind fun v1 =>
  (aR 102 h v1 (0 : Int32)).bind fun v2 =>
  (aI h v2 x5).bind fun v3 =>
  (sI h v2 x5 (v3 &&& (((1 : Int32) <<< (x6 &&& 31)) ^^^ (-1 : Int32)))).bind fun h4 =>
  if s0 = (0 : Int32) then
    f_X10_more__J185 (kH) kE191 x0 x1 x2 x3 x4 x5 x6 h4
  else
    if x3 = (-1 : Int32) then
      f_X10_more__J181 (kH) kE191 x0 x1 x2 x4 x5 x6 (((100 : Int32) * x5) + x6) h4
    else
      f_X10_more__J181 (kH) kE191 x0 x1 x2 x4 x5 x6 x3 h4
theorem y_X10_more__J136 {g : xG} {h0 : xH} {cl : Bool} {kH : Nat → Int32 → Int32 → Int32 → Int32 → Int32 → Int32 → xH → Option (Int32 × xH)} {kE191 : Nat → Int32 → Int32 → Int32 → Int32 → Int32 → xH → Option (Int32 × xH)} (hkH : ∀ (x0 : Nat) (x1 : Int32) (x2 : Int32) (x3 : Int32) (x4 : Int32) (x5 : Int32) (x6 : Int32) (h : xH), Y g DX10_more_ h0 cl iI (kH x0 x1 x2 x3 x4 x5 x6 h) 59 [some (.ref x0), some (.int x1), some (.int x2), some (.int x3), some (.int x4), some (.int x5), some (.int x6), none] [] h) (hkE191 : ∀ (x0 : Nat) (x1 : Int32) (x2 : Int32) (x3 : Int32) (x4 : Int32) (x5 : Int32) (h : xH), Y g DX10_more_ h0 cl iI (kE191 x0 x1 x2 x3 x4 x5 h) 191 [some (.ref x0), some (.int x1), some (.int x2), some (.int x3), some (.int x4), some (.int x5), none, none] [] h) (x0 : Nat) (x1 : Int32) (x2 : Int32) (x3 : Int32) (x4 : Int32) (x5 : Int32) (x6 : Int32) (s0 : Int32) (h : xH) : Y g DX10_more_ h0 cl iI (f_X10_more__J136 kH kE191 x0 x1 x2 x3 x4 x5 x6 s0 h) 136 [some (.ref x0), some (.int x1), some (.int x2), some (.int x3), some (.int x4), some (.int x5), some (.int x6), none] [.int s0] h := by
  unfold f_X10_more__J136
  refine Y.op (pc' := 138) (loc' := [some (.ref x0), some (.int x1), some (.int x2), some (.int x3), some (.int x4), some (.int x5), some (.int x6), some (.int s0)]) (fun _ => X.istore (Nat.le_of_ble_eq_true rfl) rfl dX10_more__136) ?_
  refine Y.op (pc' := 139) (fun _ => X.aloadn rfl dX10_more__138) ?_
  refine Y.getR fd_X10_25 rfl dX10_more__139 (fun v1 => ?_)
  refine Y.op (pc' := 143) (fun _ => X.ic ki_0 dX10_more__142) ?_
  refine Y.aldR 102 (by decide) (by decide) dX10_more__143 (fun v2 => ?_)
  refine Y.op (pc' := 146) (fun _ => X.iload rfl dX10_more__144) ?_
  refine Y.op (pc' := 147) (fun _ => X.dup2 rfl rfl dX10_more__146) ?_
  refine Y.aldI dX10_more__147 (fun v3 => ?_)
  refine Y.op (pc' := 149) (fun _ => X.ic ki_1 dX10_more__148) ?_
  refine Y.op (pc' := 151) (fun _ => X.iload rfl dX10_more__149) ?_
  refine Y.op (pc' := 152) (fun _ => X.ishl dX10_more__151) ?_
  refine Y.op (pc' := 153) (fun _ => X.ic ki_m1 dX10_more__152) ?_
  refine Y.op (pc' := 154) (fun _ => X.ixor dX10_more__153) ?_
  refine Y.op (pc' := 155) (fun _ => X.iand dX10_more__154) ?_
  refine Y.astI dX10_more__155 (fun h4 => ?_)
  refine Y.op (pc' := 158) (fun _ => X.iload rfl dX10_more__156) ?_
  refine Y.ifne 164 (by decide) dX10_more__158 ?_ ?_
  · refine Y.op (pc' := 165) (fun _ => X.iloadn rfl dX10_more__164) ?_
    refine Y.op (pc' := 166) (fun _ => X.ic ki_m1 dX10_more__165) ?_
    refine Y.cmpne 180 (by decide) dX10_more__166 ?_ ?_
    · refine Y.op (pc' := 181) (fun _ => X.iloadn rfl dX10_more__180) ?_
      exact Y.fg (y_X10_more__J181 hkH hkE191 x0 x1 x2 x4 x5 x6 x3 h4) (And.intro rfl (And.intro rfl (And.intro rfl (And.intro rfl (And.intro rfl (And.intro rfl trivial))))))
    · refine Y.op (pc' := 171) (fun _ => X.bp kb_100 dX10_more__169) ?_
      refine Y.op (pc' := 173) (fun _ => X.iload rfl dX10_more__171) ?_
      refine Y.op (pc' := 174) (fun _ => X.imul dX10_more__173) ?_
      refine Y.op (pc' := 176) (fun _ => X.iload rfl dX10_more__174) ?_
      refine Y.op (pc' := 177) (fun _ => X.iadd dX10_more__176) ?_
      refine Y.op (pc' := 181) (fun _ => X.goto 181 (by decide) dX10_more__177) ?_
      exact Y.fg (y_X10_more__J181 hkH hkE191 x0 x1 x2 x4 x5 x6 (((100 : Int32) * x5) + x6) h4) (And.intro rfl (And.intro rfl (And.intro rfl (And.intro rfl (And.intro rfl (And.intro rfl trivial))))))
  · refine Y.op (pc' := 185) (fun _ => X.goto 185 (by decide) dX10_more__161) ?_
    exact Y.fg (y_X10_more__J185 hkH hkE191 x0 x1 x2 x3 x4 x5 x6 h4) (And.intro rfl (And.intro rfl (And.intro rfl (And.intro rfl (And.intro rfl (And.intro rfl (And.intro rfl trivial)))))))
def f_X10_more__L59 (kE191 : Nat → Int32 → Int32 → Int32 → Int32 → Int32 → xH → Option (Int32 × xH)) : Nat → Nat → Int32 → Int32 → Int32 → Int32 → Int32 → Int32 → xH → Option (Int32 × xH)
  | 0 => fun _ _ _ _ _ _ _ _ => none
  | n + 1 => fun x0 x1 x2 x3 x4 x5 x6 h =>
    (gR h 10 x0 9).bind fun v1 =>
    (aR 102 h v1 (0 : Int32)).bind fun v2 =>
    (aI h v2 (1 : Int32)).bind fun v3 =>
    if x6 ≥ v3 then
      kE191 x0 x1 x2 x3 x4 x5 h
    else
      (vc h 10 x0 (f_X10_isFit x0 x5 x6 h)).bind fun r4 =>
      if r4.1 = (0 : Int32) then
        (vc r4.2 10 x0 (f_X10_isThere x0 (0 : Int32) x5 r4.2)).bind fun r5 =>
        if r5.1 = (0 : Int32) then
          f_X10_more__J185 (f_X10_more__L59 kE191 n) kE191 x0 x1 x2 x3 x4 x5 x6 r5.2
        else
          (vc r5.2 10 x0 (f_X10_isThere x0 (1 : Int32) x6 r5.2)).bind fun r6 =>
          if r6.1 = (0 : Int32) then
            f_X10_more__J185 (f_X10_more__L59 kE191 n) kE191 x0 x1 x2 x3 x4 x5 x6 r6.2
          else
            (gR r6.2 10 x0 10).bind fun v7 =>
            (aR 102 r6.2 v7 (0 : Int32)).bind fun v8 =>
            (aI r6.2 v8 x5).bind fun v9 =>
            (sI r6.2 v8 x5 (v9 ||| ((1 : Int32) <<< (x6 &&& 31)))).bind fun h10 =>
            (vc h10 10 x0 (f_X10_nu x0 h10)).bind fun r11 =>
            if r11.1 ≤ x4 then
              f_X10_more__J136 (f_X10_more__L59 kE191 n) kE191 x0 x1 x2 x3 x4 x5 x6 (0 : Int32) r11.2
            else
              f_X10_more__J136 (f_X10_more__L59 kE191 n) kE191 x0 x1 x2 x3 x4 x5 x6 (1 : Int32) r11.2
      else
        f_X10_more__J185 (f_X10_more__L59 kE191 n) kE191 x0 x1 x2 x3 x4 x5 x6 r4.2
theorem y_X10_more__L59 {g : xG} {h0 : xH} {cl : Bool} {kE191 : Nat → Int32 → Int32 → Int32 → Int32 → Int32 → xH → Option (Int32 × xH)} (hkE191 : ∀ (x0 : Nat) (x1 : Int32) (x2 : Int32) (x3 : Int32) (x4 : Int32) (x5 : Int32) (h : xH), Y g DX10_more_ h0 cl iI (kE191 x0 x1 x2 x3 x4 x5 h) 191 [some (.ref x0), some (.int x1), some (.int x2), some (.int x3), some (.int x4), some (.int x5), none, none] [] h) : ∀ (n : Nat) (x0 : Nat) (x1 : Int32) (x2 : Int32) (x3 : Int32) (x4 : Int32) (x5 : Int32) (x6 : Int32) (h : xH), Y g DX10_more_ h0 cl iI (f_X10_more__L59 kE191 n x0 x1 x2 x3 x4 x5 x6 h) 59 [some (.ref x0), some (.int x1), some (.int x2), some (.int x3), some (.int x4), some (.int x5), some (.int x6), none] [] h := by
  intro n
  induction n with
  | zero => intro x0 x1 x2 x3 x4 x5 x6 h; exact Y.nothing
  | succ n ih =>
    intro x0 x1 x2 x3 x4 x5 x6 h
    unfold f_X10_more__L59
    refine Y.op (pc' := 61) (fun _ => X.iload rfl dX10_more__59) ?_
    refine Y.op (pc' := 62) (fun _ => X.aloadn rfl dX10_more__61) ?_
    refine Y.getR fd_X10_22 rfl dX10_more__62 (fun v1 => ?_)
    refine Y.op (pc' := 66) (fun _ => X.ic ki_0 dX10_more__65) ?_
    refine Y.aldR 102 (by decide) (by decide) dX10_more__66 (fun v2 => ?_)
    refine Y.op (pc' := 68) (fun _ => X.ic ki_1 dX10_more__67) ?_
    refine Y.aldI dX10_more__68 (fun v3 => ?_)
    refine Y.cmpge 191 (by decide) dX10_more__69 ?_ ?_
    · exact Y.fg (hkE191 x0 x1 x2 x3 x4 x5 h) (And.intro rfl (And.intro rfl (And.intro rfl (And.intro rfl (And.intro rfl (And.intro rfl trivial))))))
    · refine Y.op (pc' := 73) (fun _ => X.aloadn rfl dX10_more__72) ?_
      refine Y.op (pc' := 75) (fun _ => X.iload rfl dX10_more__73) ?_
      refine Y.op (pc' := 77) (fun _ => X.iload rfl dX10_more__75) ?_
      refine Y.callVi (As := [.int x5, .int x6]) lk_X10_285 rfl cal_X10_isFit vir_X10_isFit (Nat.le_of_ble_eq_true rfl) (Nat.le_of_ble_eq_true rfl) rfl rfl rfl (Nat.le_of_ble_eq_true rfl) dX10_more__77 (fun _ e => m_X10_isFit x0 x5 x6 h _ _ e) (fun r4 => ?_)
      refine Y.ifne 185 (by decide) dX10_more__80 ?_ ?_
      · exact y_X10_more__J185 ih hkE191 x0 x1 x2 x3 x4 x5 x6 r4.2
      · refine Y.op (pc' := 84) (fun _ => X.aloadn rfl dX10_more__83) ?_
        refine Y.op (pc' := 85) (fun _ => X.ic ki_0 dX10_more__84) ?_
        refine Y.op (pc' := 87) (fun _ => X.iload rfl dX10_more__85) ?_
        refine Y.callVi (As := [.int (0 : Int32), .int x5]) lk_X10_240 rfl cal_X10_isThere vir_X10_isThere (Nat.le_of_ble_eq_true rfl) (Nat.le_of_ble_eq_true rfl) rfl rfl rfl (Nat.le_of_ble_eq_true rfl) dX10_more__87 (fun _ e => m_X10_isThere x0 (0 : Int32) x5 r4.2 _ _ e) (fun r5 => ?_)
        refine Y.ifeq 185 (by decide) dX10_more__90 ?_ ?_
        · exact y_X10_more__J185 ih hkE191 x0 x1 x2 x3 x4 x5 x6 r5.2
        · refine Y.op (pc' := 94) (fun _ => X.aloadn rfl dX10_more__93) ?_
          refine Y.op (pc' := 95) (fun _ => X.ic ki_1 dX10_more__94) ?_
          refine Y.op (pc' := 97) (fun _ => X.iload rfl dX10_more__95) ?_
          refine Y.callVi (As := [.int (1 : Int32), .int x6]) lk_X10_240 rfl cal_X10_isThere vir_X10_isThere (Nat.le_of_ble_eq_true rfl) (Nat.le_of_ble_eq_true rfl) rfl rfl rfl (Nat.le_of_ble_eq_true rfl) dX10_more__97 (fun _ e => m_X10_isThere x0 (1 : Int32) x6 r5.2 _ _ e) (fun r6 => ?_)
          refine Y.ifne 106 (by decide) dX10_more__100 ?_ ?_
          · refine Y.op (pc' := 107) (fun _ => X.aloadn rfl dX10_more__106) ?_
            refine Y.getR fd_X10_25 rfl dX10_more__107 (fun v7 => ?_)
            refine Y.op (pc' := 111) (fun _ => X.ic ki_0 dX10_more__110) ?_
            refine Y.aldR 102 (by decide) (by decide) dX10_more__111 (fun v8 => ?_)
            refine Y.op (pc' := 114) (fun _ => X.iload rfl dX10_more__112) ?_
            refine Y.op (pc' := 115) (fun _ => X.dup2 rfl rfl dX10_more__114) ?_
            refine Y.aldI dX10_more__115 (fun v9 => ?_)
            refine Y.op (pc' := 117) (fun _ => X.ic ki_1 dX10_more__116) ?_
            refine Y.op (pc' := 119) (fun _ => X.iload rfl dX10_more__117) ?_
            refine Y.op (pc' := 120) (fun _ => X.ishl dX10_more__119) ?_
            refine Y.op (pc' := 121) (fun _ => X.ior dX10_more__120) ?_
            refine Y.astI dX10_more__121 (fun h10 => ?_)
            refine Y.op (pc' := 123) (fun _ => X.aloadn rfl dX10_more__122) ?_
            refine Y.callVi (As := []) lk_X10_327 rfl cal_X10_nu vir_X10_nu (Nat.le_of_ble_eq_true rfl) (Nat.le_of_ble_eq_true rfl) rfl rfl rfl (Nat.le_of_ble_eq_true rfl) dX10_more__123 (fun _ e => m_X10_nu x0 h10 _ _ e) (fun r11 => ?_)
            refine Y.op (pc' := 128) (fun _ => X.iload rfl dX10_more__126) ?_
            refine Y.cmple 135 (by decide) dX10_more__128 ?_ ?_
            · refine Y.op (pc' := 136) (fun _ => X.ic ki_0 dX10_more__135) ?_
              exact y_X10_more__J136 ih hkE191 x0 x1 x2 x3 x4 x5 x6 (0 : Int32) r11.2
            · refine Y.op (pc' := 132) (fun _ => X.ic ki_1 dX10_more__131) ?_
              refine Y.op (pc' := 136) (fun _ => X.goto 136 (by decide) dX10_more__132) ?_
              exact y_X10_more__J136 ih hkE191 x0 x1 x2 x3 x4 x5 x6 (1 : Int32) r11.2
          · refine Y.op (pc' := 185) (fun _ => X.goto 185 (by decide) dX10_more__103) ?_
            exact y_X10_more__J185 ih hkE191 x0 x1 x2 x3 x4 x5 x6 r6.2
def f_X10_more__L43 (kE197 : Int32 → Int32 → Int32 → xH → Option (Int32 × xH)) : Nat → Nat → Int32 → Int32 → Int32 → Int32 → Int32 → xH → Option (Int32 × xH)
  | 0 => fun _ _ _ _ _ _ _ => none
  | n + 1 => fun x0 x1 x2 x3 x4 x5 h =>
    (gR h 10 x0 9).bind fun v1 =>
    (aR 102 h v1 (0 : Int32)).bind fun v2 =>
    (aI h v2 (0 : Int32)).bind fun v3 =>
    if x5 ≥ v3 then
      kE197 x1 x2 x3 h
    else
      f_X10_more__L59 (f_X10_more__J191 (f_X10_more__L43 kE197 n) kE197) 5000 x0 x1 x2 x3 x4 x5 (0 : Int32) h
theorem y_X10_more__L43 {g : xG} {h0 : xH} {cl : Bool} {kE197 : Int32 → Int32 → Int32 → xH → Option (Int32 × xH)} (hkE197 : ∀ (x1 : Int32) (x2 : Int32) (x3 : Int32) (h : xH), Y g DX10_more_ h0 cl iI (kE197 x1 x2 x3 h) 197 [none, some (.int x1), some (.int x2), some (.int x3), none, none, none, none] [] h) : ∀ (n : Nat) (x0 : Nat) (x1 : Int32) (x2 : Int32) (x3 : Int32) (x4 : Int32) (x5 : Int32) (h : xH), Y g DX10_more_ h0 cl iI (f_X10_more__L43 kE197 n x0 x1 x2 x3 x4 x5 h) 43 [some (.ref x0), some (.int x1), some (.int x2), some (.int x3), some (.int x4), some (.int x5), none, none] [] h := by
  intro n
  induction n with
  | zero => intro x0 x1 x2 x3 x4 x5 h; exact Y.nothing
  | succ n ih =>
    intro x0 x1 x2 x3 x4 x5 h
    unfold f_X10_more__L43
    refine Y.op (pc' := 45) (fun _ => X.iload rfl dX10_more__43) ?_
    refine Y.op (pc' := 46) (fun _ => X.aloadn rfl dX10_more__45) ?_
    refine Y.getR fd_X10_22 rfl dX10_more__46 (fun v1 => ?_)
    refine Y.op (pc' := 50) (fun _ => X.ic ki_0 dX10_more__49) ?_
    refine Y.aldR 102 (by decide) (by decide) dX10_more__50 (fun v2 => ?_)
    refine Y.op (pc' := 52) (fun _ => X.ic ki_0 dX10_more__51) ?_
    refine Y.aldI dX10_more__52 (fun v3 => ?_)
    refine Y.cmpge 197 (by decide) dX10_more__53 ?_ ?_
    · exact Y.fg (hkE197 x1 x2 x3 h) (And.intro rfl (And.intro rfl (And.intro rfl trivial)))
    · refine Y.op (pc' := 57) (fun _ => X.ic ki_0 dX10_more__56) ?_
      refine Y.op (pc' := 59) (loc' := [some (.ref x0), some (.int x1), some (.int x2), some (.int x3), some (.int x4), some (.int x5), some (.int (0 : Int32)), none]) (fun _ => X.istore (Nat.le_of_ble_eq_true rfl) rfl dX10_more__57) ?_
      exact y_X10_more__L59 (y_X10_more__J191 ih hkE197) 5000 x0 x1 x2 x3 x4 x5 (0 : Int32) h
def f_X10_more__J20 (x0 : Nat) (x1 : Int32) (s0 : Nat) (s1 : Int32) (h : xH) : Option (Int32 × xH) :=
  (vc h 10 s0 (f_X10_bad s0 s1 (1 : Int32) (1 : Int32) h)).bind fun r1 =>
  if r1.1 = (0 : Int32) then
    (vc r1.2 10 x0 (f_X10_nu x0 r1.2)).bind fun r2 =>
    f_X10_more__L43 (f_X10_more__J197) 5000 x0 x1 (0 : Int32) (-1 : Int32) r2.1 (0 : Int32) r2.2
  else
    some ((0 : Int32), r1.2)
theorem y_X10_more__J20 {g : xG} {h0 : xH} {cl : Bool} (x0 : Nat) (x1 : Int32) (s0 : Nat) (s1 : Int32) (h : xH) : Y g DX10_more_ h0 cl iI (f_X10_more__J20 x0 x1 s0 s1 h) 20 [some (.ref x0), some (.int x1), none, none, none, none, none, none] [.int s1, .ref s0] h := by
  unfold f_X10_more__J20
  refine Y.op (pc' := 21) (fun _ => X.ic ki_1 dX10_more__20) ?_
  refine Y.op (pc' := 22) (fun _ => X.ic ki_1 dX10_more__21) ?_
  refine Y.callVi (As := [.int s1, .int (1 : Int32), .int (1 : Int32)]) lk_X10_217 rfl cal_X10_bad vir_X10_bad (Nat.le_of_ble_eq_true rfl) (Nat.le_of_ble_eq_true rfl) rfl rfl rfl (Nat.le_of_ble_eq_true rfl) dX10_more__22 (fun _ e => m_X10_bad s0 s1 (1 : Int32) (1 : Int32) h _ _ e) (fun r1 => ?_)
  refine Y.ifeq 30 (by decide) dX10_more__25 ?_ ?_
  · refine Y.op (pc' := 31) (fun _ => X.ic ki_0 dX10_more__30) ?_
    refine Y.op (pc' := 32) (loc' := [some (.ref x0), some (.int x1), some (.int (0 : Int32)), none, none, none, none, none]) (fun _ => X.istoren (Nat.le_of_ble_eq_true rfl) rfl dX10_more__31) ?_
    refine Y.op (pc' := 33) (fun _ => X.ic ki_m1 dX10_more__32) ?_
    refine Y.op (pc' := 34) (loc' := [some (.ref x0), some (.int x1), some (.int (0 : Int32)), some (.int (-1 : Int32)), none, none, none, none]) (fun _ => X.istoren (Nat.le_of_ble_eq_true rfl) rfl dX10_more__33) ?_
    refine Y.op (pc' := 35) (fun _ => X.aloadn rfl dX10_more__34) ?_
    refine Y.callVi (As := []) lk_X10_327 rfl cal_X10_nu vir_X10_nu (Nat.le_of_ble_eq_true rfl) (Nat.le_of_ble_eq_true rfl) rfl rfl rfl (Nat.le_of_ble_eq_true rfl) dX10_more__35 (fun _ e => m_X10_nu x0 r1.2 _ _ e) (fun r2 => ?_)
    refine Y.op (pc' := 40) (loc' := [some (.ref x0), some (.int x1), some (.int (0 : Int32)), some (.int (-1 : Int32)), some (.int r2.1), none, none, none]) (fun _ => X.istore (Nat.le_of_ble_eq_true rfl) rfl dX10_more__38) ?_
    refine Y.op (pc' := 41) (fun _ => X.ic ki_0 dX10_more__40) ?_
    refine Y.op (pc' := 43) (loc' := [some (.ref x0), some (.int x1), some (.int (0 : Int32)), some (.int (-1 : Int32)), some (.int r2.1), some (.int (0 : Int32)), none, none]) (fun _ => X.istore (Nat.le_of_ble_eq_true rfl) rfl dX10_more__41) ?_
    exact y_X10_more__L43 (y_X10_more__J197) 5000 x0 x1 (0 : Int32) (-1 : Int32) r2.1 (0 : Int32) r2.2
  · refine Y.op (pc' := 29) (fun _ => X.ic ki_0 dX10_more__28) ?_
    exact Y.ireturn rfl dX10_more__29
def f_X10_more_ (a0 : Nat) (p1 : Int32) (h : xH) : Option (Int32 × xH) :=
  (pI h 10 a0 0 (0 : Int32)).bind fun h1 =>
  (f_X10_in p1 (0 : Int32) (1 : Int32) h1).bind fun r2 =>
  if r2.1 = (0 : Int32) then
    f_X10_more__J20 a0 p1 a0 (1 : Int32) r2.2
  else
    f_X10_more__J20 a0 p1 a0 (0 : Int32) r2.2
theorem y_X10_more_ {g : xG} {h0 : xH} {cl : Bool} (a0 : Nat) (p1 : Int32) (h : xH) : Y g DX10_more_ h0 cl iI (f_X10_more_ a0 p1 h) 0 [some (.ref a0), some (.int p1), none, none, none, none, none, none] [] h := by
  unfold f_X10_more_
  refine Y.op (pc' := 1) (fun _ => X.aloadn rfl dX10_more__0) ?_
  refine Y.op (pc' := 2) (fun _ => X.ic ki_0 dX10_more__1) ?_
  refine Y.putI fd_X10_82 rfl dX10_more__2 (fun h1 => ?_)
  refine Y.op (pc' := 6) (fun _ => X.aloadn rfl dX10_more__5) ?_
  refine Y.op (pc' := 7) (fun _ => X.iloadn rfl dX10_more__6) ?_
  refine Y.op (pc' := 8) (fun _ => X.ic ki_0 dX10_more__7) ?_
  refine Y.op (pc' := 9) (fun _ => X.ic ki_1 dX10_more__8) ?_
  refine Y.callSi (As := [.int p1, .int (0 : Int32), .int (1 : Int32)]) lk_X10_127 rfl cal_X10_in sta_X10_in (Nat.le_of_ble_eq_true rfl) rfl rfl (Nat.le_of_ble_eq_true rfl) dX10_more__9 (fun _ e => m_X10_in p1 (0 : Int32) (1 : Int32) h1 _ _ e) (fun r2 => ?_)
  refine Y.ifne 19 (by decide) dX10_more__12 ?_ ?_
  · refine Y.op (pc' := 20) (fun _ => X.ic ki_0 dX10_more__19) ?_
    exact y_X10_more__J20 a0 p1 a0 (0 : Int32) r2.2
  · refine Y.op (pc' := 16) (fun _ => X.ic ki_1 dX10_more__15) ?_
    refine Y.op (pc' := 20) (fun _ => X.goto 20 (by decide) dX10_more__16) ?_
    exact y_X10_more__J20 a0 p1 a0 (1 : Int32) r2.2
theorem m_X10_more_ {g : xG} (a0 : Nat) (p1 : Int32) (h : xH) (cl : Bool) (r : Int32 × xH) (e : f_X10_more_ a0 p1 h = some r) : XM g DX10_more_ [.ref a0, .int p1] h cl (iI r) := YM.of rfl rfl (Nat.le_of_ble_eq_true rfl) (y_X10_more_ a0 p1 h) e
