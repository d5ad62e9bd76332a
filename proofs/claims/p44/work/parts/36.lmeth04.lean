def f_L_isChosen_J394 (s0 : Int32) (h : xH) : Option (Int32 × xH) :=
  if s0 = 0 ∨ s0 = 1 then some (s0, h) else none
theorem y_L_isChosen_J394 {g : xG} {h0 : xH} (s0 : Int32) (h : xH) : Y g DL_isChosen h0 false iI (f_L_isChosen_J394 s0 h) 394 [none, none, none, none, none, none, none, none, none, none, none, none, none] [.int s0] h := by
  unfold f_L_isChosen_J394
  exact Y.zreturn rfl dL_isChosen_394
def f_L_isChosen_J380 (x0 : Nat) (x5 : Int32) (h : xH) : Option (Int32 × xH) :=
  (vc h 9 x0 (f_X9_rounds x0 h)).bind fun r1 =>
  if r1.1 = x5 then
    f_L_isChosen_J394 (1 : Int32) r1.2
  else
    f_L_isChosen_J394 (0 : Int32) r1.2
theorem y_L_isChosen_J380 {g : xG} {h0 : xH} (x0 : Nat) (x5 : Int32) (h : xH) : Y g DL_isChosen h0 false iI (f_L_isChosen_J380 x0 x5 h) 380 [some (.ref x0), none, none, none, none, some (.int x5), none, none, none, none, none, none, none] [] h := by
  unfold f_L_isChosen_J380
  refine Y.op (pc' := 381) (fun _ => X.aloadn rfl dL_isChosen_380) ?_
  refine Y.callVi (As := []) lk_L_284 rfl cal_X9_rounds vir_X9_rounds (Nat.le_of_ble_eq_true rfl) (Nat.le_of_ble_eq_true rfl) rfl rfl rfl (Nat.le_of_ble_eq_true rfl) dL_isChosen_381 (fun _ e => m_X9_rounds x0 h _ _ e) (fun r1 => ?_)
  refine Y.op (pc' := 386) (fun _ => X.iload rfl dL_isChosen_384) ?_
  refine Y.cmpne 393 (by decide) dL_isChosen_386 ?_ ?_
  · refine Y.op (pc' := 394) (fun _ => X.ic ki_0 dL_isChosen_393) ?_
    exact Y.fg (y_L_isChosen_J394 (0 : Int32) r1.2) trivial
  · refine Y.op (pc' := 390) (fun _ => X.ic ki_1 dL_isChosen_389) ?_
    refine Y.op (pc' := 394) (fun _ => X.goto 394 (by decide) dL_isChosen_390) ?_
    exact Y.fg (y_L_isChosen_J394 (1 : Int32) r1.2) trivial
def f_L_isChosen_J357 (h : xH) : Option (Int32 × xH) :=
  if (0 : Int32) = 0 ∨ (0 : Int32) = 1 then some ((0 : Int32), h) else none
theorem y_L_isChosen_J357 {g : xG} {h0 : xH} (h : xH) : Y g DL_isChosen h0 false iI (f_L_isChosen_J357 h) 357 [none, none, none, none, none, none, none, none, none, none, none, none, none] [] h := by
  unfold f_L_isChosen_J357
  refine Y.op (pc' := 358) (fun _ => X.ic ki_0 dL_isChosen_357) ?_
  exact Y.zreturn rfl dL_isChosen_358
def f_L_isChosen_J301 (h : xH) : Option (Int32 × xH) :=
  if (0 : Int32) = 0 ∨ (0 : Int32) = 1 then some ((0 : Int32), h) else none
theorem y_L_isChosen_J301 {g : xG} {h0 : xH} (h : xH) : Y g DL_isChosen h0 false iI (f_L_isChosen_J301 h) 301 [none, none, none, none, none, none, none, none, none, none, none, none, none] [] h := by
  unfold f_L_isChosen_J301
  refine Y.op (pc' := 302) (fun _ => X.ic ki_0 dL_isChosen_301) ?_
  exact Y.zreturn rfl dL_isChosen_302
def f_L_isChosen_J266 (h : xH) : Option (Int32 × xH) :=
  if (0 : Int32) = 0 ∨ (0 : Int32) = 1 then some ((0 : Int32), h) else none
theorem y_L_isChosen_J266 {g : xG} {h0 : xH} (h : xH) : Y g DL_isChosen h0 false iI (f_L_isChosen_J266 h) 266 [none, none, none, none, none, none, none, none, none, none, none, none, none] [] h := by
  unfold f_L_isChosen_J266
  refine Y.op (pc' := 267) (fun _ => X.ic ki_0 dL_isChosen_266) ?_
  exact Y.zreturn rfl dL_isChosen_267
def f_L_isChosen_J365 (kH : Nat → Nat → Int32 → Nat → Nat → Int32 → xH → Option (Int32 × xH)) (kE266 : xH → Option (Int32 × xH)) (kE301 : xH → Option (Int32 × xH)) (kE357 : xH → Option (Int32 × xH)) (kE380 : Nat → Int32 → xH → Option (Int32 × xH)) (x0 : Nat) (x1 : Nat) (x5 : Int32) (x6 : Nat) (x7 : Nat) (x8 : Int32) (x9 : Int32) (h : xH) : Option (Int32 × xH) :=
  lt ((imax x5 x9)) fun v1 =>
  lt (x8 + (1 : Int32)) fun v2 =>
  kH x0 x1 v1 x6 x7 v2 h
theorem y_L_isChosen_J365 {g : xG} {h0 : xH} {kH : Nat → Nat → Int32 → Nat → Nat → Int32 → xH → Option (Int32 × xH)} {kE266 : xH → Option (Int32 × xH)} {kE301 : xH → Option (Int32 × xH)} {kE357 : xH → Option (Int32 × xH)} {kE380 : Nat → Int32 → xH → Option (Int32 × xH)} (hkH : ∀ (x0 : Nat) (x1 : Nat) (x5 : Int32) (x6 : Nat) (x7 : Nat) (x8 : Int32) (h : xH), Y g DL_isChosen h0 false iI (kH x0 x1 x5 x6 x7 x8 h) 208 [some (.ref x0), some (.ref x1), none, none, none, some (.int x5), some (.ref x6), some (.ref x7), some (.int x8), none, none, none, none] [] h) (hkE266 : ∀  (h : xH), Y g DL_isChosen h0 false iI (kE266  h) 266 [none, none, none, none, none, none, none, none, none, none, none, none, none] [] h) (hkE301 : ∀  (h : xH), Y g DL_isChosen h0 false iI (kE301  h) 301 [none, none, none, none, none, none, none, none, none, none, none, none, none] [] h) (hkE357 : ∀  (h : xH), Y g DL_isChosen h0 false iI (kE357  h) 357 [none, none, none, none, none, none, none, none, none, none, none, none, none] [] h) (hkE380 : ∀ (x0 : Nat) (x5 : Int32) (h : xH), Y g DL_isChosen h0 false iI (kE380 x0 x5 h) 380 [some (.ref x0), none, none, none, none, some (.int x5), none, none, none, none, none, none, none] [] h) (x0 : Nat) (x1 : Nat) (x5 : Int32) (x6 : Nat) (x7 : Nat) (x8 : Int32) (x9 : Int32) (h : xH) : Y g DL_isChosen h0 false iI (f_L_isChosen_J365 kH kE266 kE301 kE357 kE380 x0 x1 x5 x6 x7 x8 x9 h) 365 [some (.ref x0), some (.ref x1), none, none, none, some (.int x5), some (.ref x6), some (.ref x7), some (.int x8), some (.int x9), none, none, none] [] h := by
  unfold f_L_isChosen_J365
  refine Y.op (pc' := 367) (fun _ => X.iload rfl dL_isChosen_365) ?_
  refine Y.op (pc' := 369) (fun _ => X.iload rfl dL_isChosen_367) ?_
  refine Y.mmax mw_L_275 rfl (Nat.le_of_ble_eq_true rfl) (Nat.le_of_ble_eq_true rfl) dL_isChosen_369 ?_
  refine Y.top (fun v1 => ?_)
  refine Y.op (pc' := 374) (loc' := [some (.ref x0), some (.ref x1), none, none, none, some (.int v1), some (.ref x6), some (.ref x7), some (.int x8), some (.int x9), none, none, none]) (fun _ => X.istore (Nat.le_of_ble_eq_true rfl) rfl dL_isChosen_372) ?_
  refine Y.iinc (i := 8) (loc' := fun v2 => [some (.ref x0), some (.ref x1), none, none, none, some (.int v1), some (.ref x6), some (.ref x7), some (.int v2), some (.int x9), none, none, none]) rfl (Nat.le_of_ble_eq_true rfl) ki_1 (fun _ => rfl) dL_isChosen_374 (fun v2 => ?_)
  refine Y.op (pc' := 208) (fun _ => X.goto 208 (by decide) dL_isChosen_377) ?_
  exact Y.fg (hkH x0 x1 v1 x6 x7 v2 h) (And.intro rfl (And.intro rfl (And.intro rfl (And.intro rfl (And.intro rfl (And.intro rfl trivial))))))
def f_L_isChosen_J359 (kH : Nat → Nat → Int32 → Nat → Nat → Int32 → Int32 → Int32 → Int32 → xH → Option (Int32 × xH)) (kE266 : xH → Option (Int32 × xH)) (kE301 : xH → Option (Int32 × xH)) (kE357 : xH → Option (Int32 × xH)) (kE365 : Nat → Nat → Int32 → Nat → Nat → Int32 → Int32 → xH → Option (Int32 × xH)) (x0 : Nat) (x1 : Nat) (x5 : Int32) (x6 : Nat) (x7 : Nat) (x8 : Int32) (x9 : Int32) (x10 : Int32) (x11 : Int32) (h : xH) : Option (Int32 × xH) :=
  lt (x11 + (1 : Int32)) fun v1 =>
  kH x0 x1 x5 x6 x7 x8 x9 x10 v1 h
theorem y_L_isChosen_J359 {g : xG} {h0 : xH} {kH : Nat → Nat → Int32 → Nat → Nat → Int32 → Int32 → Int32 → Int32 → xH → Option (Int32 × xH)} {kE266 : xH → Option (Int32 × xH)} {kE301 : xH → Option (Int32 × xH)} {kE357 : xH → Option (Int32 × xH)} {kE365 : Nat → Nat → Int32 → Nat → Nat → Int32 → Int32 → xH → Option (Int32 × xH)} (hkH : ∀ (x0 : Nat) (x1 : Nat) (x5 : Int32) (x6 : Nat) (x7 : Nat) (x8 : Int32) (x9 : Int32) (x10 : Int32) (x11 : Int32) (h : xH), Y g DL_isChosen h0 false iI (kH x0 x1 x5 x6 x7 x8 x9 x10 x11 h) 226 [some (.ref x0), some (.ref x1), none, none, none, some (.int x5), some (.ref x6), some (.ref x7), some (.int x8), some (.int x9), some (.int x10), some (.int x11), none] [] h) (hkE266 : ∀  (h : xH), Y g DL_isChosen h0 false iI (kE266  h) 266 [none, none, none, none, none, none, none, none, none, none, none, none, none] [] h) (hkE301 : ∀  (h : xH), Y g DL_isChosen h0 false iI (kE301  h) 301 [none, none, none, none, none, none, none, none, none, none, none, none, none] [] h) (hkE357 : ∀  (h : xH), Y g DL_isChosen h0 false iI (kE357  h) 357 [none, none, none, none, none, none, none, none, none, none, none, none, none] [] h) (hkE365 : ∀ (x0 : Nat) (x1 : Nat) (x5 : Int32) (x6 : Nat) (x7 : Nat) (x8 : Int32) (x9 : Int32) (h : xH), Y g DL_isChosen h0 false iI (kE365 x0 x1 x5 x6 x7 x8 x9 h) 365 [some (.ref x0), some (.ref x1), none, none, none, some (.int x5), some (.ref x6), some (.ref x7), some (.int x8), some (.int x9), none, none, none] [] h) (x0 : Nat) (x1 : Nat) (x5 : Int32) (x6 : Nat) (x7 : Nat) (x8 : Int32) (x9 : Int32) (x10 : Int32) (x11 : Int32) (h : xH) : Y g DL_isChosen h0 false iI (f_L_isChosen_J359 kH kE266 kE301 kE357 kE365 x0 x1 x5 x6 x7 x8 x9 x10 x11 h) 359 [some (.ref x0), some (.ref x1), none, none, none, some (.int x5), some (.ref x6), some (.ref x7), some (.int x8), some (.int x9), some (.int x10), some (.int x11), none] [] h := by
  unfold f_L_isChosen_J359
  refine Y.iinc (i := 11) (loc' := fun v1 => [some (.ref x0), some (.ref x1), none, none, none, some (.int x5), some (.ref x6), some (.ref x7), some (.int x8), some (.int x9), some (.int x10), some (.int v1), none]) rfl (Nat.le_of_ble_eq_true rfl) ki_1 (fun _ => rfl) dL_isChosen_359 (fun v1 => ?_)
  refine Y.op (pc' := 226) (fun _ => X.goto 226 (by decide) dL_isChosen_362) ?_
  exact hkH x0 x1 x5 x6 x7 x8 x9 x10 v1 h
def f_L_isChosen_J255 (kH : Nat → Nat → Int32 → Nat → Nat → Int32 → Int32 → Int32 → Int32 → xH → Option (Int32 × xH)) (kE266 : xH → Option (Int32 × xH)) (kE301 : xH → Option (Int32 × xH)) (kE357 : xH → Option (Int32 × xH)) (kE365 : Nat → Nat → Int32 → Nat → Nat → Int32 → Int32 → xH → Option (Int32 × xH)) (x0 : Nat) (x1 : Nat) (x5 : Int32) (x6 : Nat) (x7 : Nat) (x8 : Int32) (x9 : Int32) (x10 : Int32) (x11 : Int32) (x12 : Int32) (s0 : Int32) (h : xH) : Option (Int32 × xH) :=
  (vc h 10 x1 (f_X10_can x1 x8 x11 h)).bind fun r1 =>
  if s0 = r1.1 then
    if x12 ≥ (0 : Int32) then
      if ((x10 >>> (x12 &&& 31)) &&& (1 : Int32)) = (1 : Int32) then
        kE301 r1.2
      else
        (aI r1.2 x7 x11).bind fun v2 =>
        if ((v2 >>> (x12 &&& 31)) &&& (1 : Int32)) = (1 : Int32) then
          kE301 r1.2
        else
          lt ((x10 ||| ((1 : Int32) <<< (x12 &&& 31)))) fun v3 =>
          (aI r1.2 x7 x11).bind fun v4 =>
          (sI r1.2 x7 x11 (v4 ||| ((1 : Int32) <<< (x12 &&& 31)))).bind fun h5 =>
          lt (x9 + (1 : Int32)) fun v6 =>
          (aI h5 x6 x11).bind fun v7 =>
          (sI h5 x6 x11 (v7 + (1 : Int32))).bind fun h8 =>
          (aI h8 x6 x11).bind fun v9 =>
          lt ((imax x5 v9)) fun v10 =>
          (vc h8 9 x0 (f_X9_rounds x0 h8)).bind fun r11 =>
          if x12 < r11.1 then
            f_L_isChosen_J359 (kH) kE266 kE301 kE357 kE365 x0 x1 v10 x6 x7 x8 v6 v3 x11 r11.2
          else
            kE357 r11.2
    else
      f_L_isChosen_J359 (kH) kE266 kE301 kE357 kE365 x0 x1 x5 x6 x7 x8 x9 x10 x11 r1.2
  else
    kE266 r1.2
theorem y_L_isChosen_J255 {g : xG} {h0 : xH} {kH : Nat → Nat → Int32 → Nat → Nat → Int32 → Int32 → Int32 → Int32 → xH → Option (Int32 × xH)} {kE266 : xH → Option (Int32 × xH)} {kE301 : xH → Option (Int32 × xH)} {kE357 : xH → Option (Int32 × xH)} {kE365 : Nat → Nat → Int32 → Nat → Nat → Int32 → Int32 → xH → Option (Int32 × xH)} (hkH : ∀ (x0 : Nat) (x1 : Nat) (x5 : Int32) (x6 : Nat) (x7 : Nat) (x8 : Int32) (x9 : Int32) (x10 : Int32) (x11 : Int32) (h : xH), Y g DL_isChosen h0 false iI (kH x0 x1 x5 x6 x7 x8 x9 x10 x11 h) 226 [some (.ref x0), some (.ref x1), none, none, none, some (.int x5), some (.ref x6), some (.ref x7), some (.int x8), some (.int x9), some (.int x10), some (.int x11), none] [] h) (hkE266 : ∀  (h : xH), Y g DL_isChosen h0 false iI (kE266  h) 266 [none, none, none, none, none, none, none, none, none, none, none, none, none] [] h) (hkE301 : ∀  (h : xH), Y g DL_isChosen h0 false iI (kE301  h) 301 [none, none, none, none, none, none, none, none, none, none, none, none, none] [] h) (hkE357 : ∀  (h : xH), Y g DL_isChosen h0 false iI (kE357  h) 357 [none, none, none, none, none, none, none, none, none, none, none, none, none] [] h) (hkE365 : ∀ (x0 : Nat) (x1 : Nat) (x5 : Int32) (x6 : Nat) (x7 : Nat) (x8 : Int32) (x9 : Int32) (h : xH), Y g DL_isChosen h0 false iI (kE365 x0 x1 x5 x6 x7 x8 x9 h) 365 [some (.ref x0), some (.ref x1), none, none, none, some (.int x5), some (.ref x6), some (.ref x7), some (.int x8), some (.int x9), none, none, none] [] h) (x0 : Nat) (x1 : Nat) (x5 : Int32) (x6 : Nat) (x7 : Nat) (x8 : Int32) (x9 : Int32) (x10 : Int32) (x11 : Int32) (x12 : Int32) (s0 : Int32) (h : xH) : Y g DL_isChosen h0 false iI (f_L_isChosen_J255 kH kE266 kE301 kE357 kE365 x0 x1 x5 x6 x7 x8 x9 x10 x11 x12 s0 h) 255 [some (.ref x0), some (.ref x1), none, none, none, some (.int x5), some (.ref x6), some (.ref x7), some (.int x8), some (.int x9), some (.int x10), some (.int x11), some (.int x12)] [.int s0] h := by
  unfold f_L_isChosen_J255
  refine Y.op (pc' := 256) (fun _ => X.aloadn rfl dL_isChosen_255) ?_
  refine Y.op (pc' := 258) (fun _ => X.iload rfl dL_isChosen_256) ?_
  refine Y.op (pc' := 260) (fun _ => X.iload rfl dL_isChosen_258) ?_
  refine Y.callVi (As := [.int x8, .int x11]) lk_L_182 rfl cal_X10_can vir_X10_can (Nat.le_of_ble_eq_true rfl) (Nat.le_of_ble_eq_true rfl) rfl rfl rfl (Nat.le_of_ble_eq_true rfl) dL_isChosen_260 (fun _ e => m_X10_can x1 x8 x11 h _ e) (fun r1 => ?_)
  refine Y.cmpeq 268 (by decide) dL_isChosen_263 ?_ ?_
  · refine Y.op (pc' := 270) (fun _ => X.iload rfl dL_isChosen_268) ?_
    refine Y.ifge 276 (by decide) dL_isChosen_270 ?_ ?_
    · refine Y.op (pc' := 278) (fun _ => X.iload rfl dL_isChosen_276) ?_
      refine Y.op (pc' := 280) (fun _ => X.iload rfl dL_isChosen_278) ?_
      refine Y.op (pc' := 281) (fun _ => X.ishr dL_isChosen_280) ?_
      refine Y.op (pc' := 282) (fun _ => X.ic ki_1 dL_isChosen_281) ?_
      refine Y.op (pc' := 283) (fun _ => X.iand dL_isChosen_282) ?_
      refine Y.op (pc' := 284) (fun _ => X.ic ki_1 dL_isChosen_283) ?_
      refine Y.cmpeq 301 (by decide) dL_isChosen_284 ?_ ?_
      · exact Y.fg (hkE301 r1.2) trivial
      · refine Y.op (pc' := 289) (fun _ => X.aload rfl dL_isChosen_287) ?_
        refine Y.op (pc' := 291) (fun _ => X.iload rfl dL_isChosen_289) ?_
        refine Y.aldI dL_isChosen_291 (fun v2 => ?_)
        refine Y.op (pc' := 294) (fun _ => X.iload rfl dL_isChosen_292) ?_
        refine Y.op (pc' := 295) (fun _ => X.ishr dL_isChosen_294) ?_
        refine Y.op (pc' := 296) (fun _ => X.ic ki_1 dL_isChosen_295) ?_
        refine Y.op (pc' := 297) (fun _ => X.iand dL_isChosen_296) ?_
        refine Y.op (pc' := 298) (fun _ => X.ic ki_1 dL_isChosen_297) ?_
        refine Y.cmpne 303 (by decide) dL_isChosen_298 ?_ ?_
        · refine Y.op (pc' := 305) (fun _ => X.iload rfl dL_isChosen_303) ?_
          refine Y.op (pc' := 306) (fun _ => X.ic ki_1 dL_isChosen_305) ?_
          refine Y.op (pc' := 308) (fun _ => X.iload rfl dL_isChosen_306) ?_
          refine Y.op (pc' := 309) (fun _ => X.ishl dL_isChosen_308) ?_
          refine Y.op (pc' := 310) (fun _ => X.ior dL_isChosen_309) ?_
          refine Y.top (fun v3 => ?_)
          refine Y.op (pc' := 312) (loc' := [some (.ref x0), some (.ref x1), none, none, none, some (.int x5), some (.ref x6), some (.ref x7), some (.int x8), some (.int x9), some (.int v3), some (.int x11), some (.int x12)]) (fun _ => X.istore (Nat.le_of_ble_eq_true rfl) rfl dL_isChosen_310) ?_
          refine Y.op (pc' := 314) (fun _ => X.aload rfl dL_isChosen_312) ?_
          refine Y.op (pc' := 316) (fun _ => X.iload rfl dL_isChosen_314) ?_
          refine Y.op (pc' := 317) (fun _ => X.dup2 rfl rfl dL_isChosen_316) ?_
          refine Y.aldI dL_isChosen_317 (fun v4 => ?_)
          refine Y.op (pc' := 319) (fun _ => X.ic ki_1 dL_isChosen_318) ?_
          refine Y.op (pc' := 321) (fun _ => X.iload rfl dL_isChosen_319) ?_
          refine Y.op (pc' := 322) (fun _ => X.ishl dL_isChosen_321) ?_
          refine Y.op (pc' := 323) (fun _ => X.ior dL_isChosen_322) ?_
          refine Y.astI dL_isChosen_323 (fun h5 => ?_)
          refine Y.iinc (i := 9) (loc' := fun v6 => [some (.ref x0), some (.ref x1), none, none, none, some (.int x5), some (.ref x6), some (.ref x7), some (.int x8), some (.int v6), some (.int v3), some (.int x11), some (.int x12)]) rfl (Nat.le_of_ble_eq_true rfl) ki_1 (fun _ => rfl) dL_isChosen_324 (fun v6 => ?_)
          refine Y.op (pc' := 329) (fun _ => X.aload rfl dL_isChosen_327) ?_
          refine Y.op (pc' := 331) (fun _ => X.iload rfl dL_isChosen_329) ?_
          refine Y.op (pc' := 332) (fun _ => X.dup2 rfl rfl dL_isChosen_331) ?_
          refine Y.aldI dL_isChosen_332 (fun v7 => ?_)
          refine Y.op (pc' := 334) (fun _ => X.ic ki_1 dL_isChosen_333) ?_
          refine Y.op (pc' := 335) (fun _ => X.iadd dL_isChosen_334) ?_
          refine Y.astI dL_isChosen_335 (fun h8 => ?_)
          refine Y.op (pc' := 338) (fun _ => X.iload rfl dL_isChosen_336) ?_
          refine Y.op (pc' := 340) (fun _ => X.aload rfl dL_isChosen_338) ?_
          refine Y.op (pc' := 342) (fun _ => X.iload rfl dL_isChosen_340) ?_
          refine Y.aldI dL_isChosen_342 (fun v9 => ?_)
          refine Y.mmax mw_L_275 rfl (Nat.le_of_ble_eq_true rfl) (Nat.le_of_ble_eq_true rfl) dL_isChosen_343 ?_
          refine Y.top (fun v10 => ?_)
          refine Y.op (pc' := 348) (loc' := [some (.ref x0), some (.ref x1), none, none, none, some (.int v10), some (.ref x6), some (.ref x7), some (.int x8), some (.int v6), some (.int v3), some (.int x11), some (.int x12)]) (fun _ => X.istore (Nat.le_of_ble_eq_true rfl) rfl dL_isChosen_346) ?_
          refine Y.op (pc' := 350) (fun _ => X.iload rfl dL_isChosen_348) ?_
          refine Y.op (pc' := 351) (fun _ => X.aloadn rfl dL_isChosen_350) ?_
          refine Y.callVi (As := []) lk_L_284 rfl cal_X9_rounds vir_X9_rounds (Nat.le_of_ble_eq_true rfl) (Nat.le_of_ble_eq_true rfl) rfl rfl rfl (Nat.le_of_ble_eq_true rfl) dL_isChosen_351 (fun _ e => m_X9_rounds x0 h8 _ _ e) (fun r11 => ?_)
          refine Y.cmplt 359 (by decide) dL_isChosen_354 ?_ ?_
          · exact Y.fg (y_L_isChosen_J359 hkH hkE266 hkE301 hkE357 hkE365 x0 x1 v10 x6 x7 x8 v6 v3 x11 r11.2) (And.intro rfl (And.intro rfl (And.intro rfl (And.intro rfl (And.intro rfl (And.intro rfl (And.intro rfl (And.intro rfl (And.intro rfl trivial)))))))))
          · exact Y.fg (hkE357 r11.2) trivial
        · exact Y.fg (hkE301 r1.2) trivial
    · refine Y.op (pc' := 359) (fun _ => X.goto 359 (by decide) dL_isChosen_273) ?_
      exact Y.fg (y_L_isChosen_J359 hkH hkE266 hkE301 hkE357 hkE365 x0 x1 x5 x6 x7 x8 x9 x10 x11 r1.2) (And.intro rfl (And.intro rfl (And.intro rfl (And.intro rfl (And.intro rfl (And.intro rfl (And.intro rfl (And.intro rfl (And.intro rfl trivial)))))))))
  · exact Y.fg (hkE266 r1.2) trivial
def f_L_isChosen_L226 (kE266 : xH → Option (Int32 × xH)) (kE301 : xH → Option (Int32 × xH)) (kE357 : xH → Option (Int32 × xH)) (kE365 : Nat → Nat → Int32 → Nat → Nat → Int32 → Int32 → xH → Option (Int32 × xH)) : Nat → Nat → Nat → Int32 → Nat → Nat → Int32 → Int32 → Int32 → Int32 → xH → Option (Int32 × xH)
  | 0 => fun _ _ _ _ _ _ _ _ _ _ => none
  | n + 1 => fun x0 x1 x5 x6 x7 x8 x9 x10 x11 h =>
    (gI h 10 x1 1).bind fun v1 =>
    if x11 ≥ v1 then
      kE365 x0 x1 x5 x6 x7 x8 x9 h
    else
      (f_L_round x0 x8 x11 h).bind fun r2 =>
      if r2.1 < (0 : Int32) then
        f_L_isChosen_J255 (f_L_isChosen_L226 kE266 kE301 kE357 kE365 n) kE266 kE301 kE357 kE365 x0 x1 x5 x6 x7 x8 x9 x10 x11 r2.1 (0 : Int32) r2.2
      else
        f_L_isChosen_J255 (f_L_isChosen_L226 kE266 kE301 kE357 kE365 n) kE266 kE301 kE357 kE365 x0 x1 x5 x6 x7 x8 x9 x10 x11 r2.1 (1 : Int32) r2.2
theorem y_L_isChosen_L226 {g : xG} {h0 : xH} {kE266 : xH → Option (Int32 × xH)} {kE301 : xH → Option (Int32 × xH)} {kE357 : xH → Option (Int32 × xH)} {kE365 : Nat → Nat → Int32 → Nat → Nat → Int32 → Int32 → xH → Option (Int32 × xH)} (hkE266 : ∀  (h : xH), Y g DL_isChosen h0 false iI (kE266  h) 266 [none, none, none, none, none, none, none, none, none, none, none, none, none] [] h) (hkE301 : ∀  (h : xH), Y g DL_isChosen h0 false iI (kE301  h) 301 [none, none, none, none, none, none, none, none, none, none, none, none, none] [] h) (hkE357 : ∀  (h : xH), Y g DL_isChosen h0 false iI (kE357  h) 357 [none, none, none, none, none, none, none, none, none, none, none, none, none] [] h) (hkE365 : ∀ (x0 : Nat) (x1 : Nat) (x5 : Int32) (x6 : Nat) (x7 : Nat) (x8 : Int32) (x9 : Int32) (h : xH), Y g DL_isChosen h0 false iI (kE365 x0 x1 x5 x6 x7 x8 x9 h) 365 [some (.ref x0), some (.ref x1), none, none, none, some (.int x5), some (.ref x6), some (.ref x7), some (.int x8), some (.int x9), none, none, none] [] h) : ∀ (n : Nat) (x0 : Nat) (x1 : Nat) (x5 : Int32) (x6 : Nat) (x7 : Nat) (x8 : Int32) (x9 : Int32) (x10 : Int32) (x11 : Int32) (h : xH), Y g DL_isChosen h0 false iI (f_L_isChosen_L226 kE266 kE301 kE357 kE365 n x0 x1 x5 x6 x7 x8 x9 x10 x11 h) 226 [some (.ref x0), some (.ref x1), none, none, none, some (.int x5), some (.ref x6), some (.ref x7), some (.int x8), some (.int x9), some (.int x10), some (.int x11), none] [] h := by
  intro n
  induction n with
  | zero => intro x0 x1 x5 x6 x7 x8 x9 x10 x11 h; exact Y.nothing
  | succ n ih =>
    intro x0 x1 x5 x6 x7 x8 x9 x10 x11 h
    unfold f_L_isChosen_L226
    refine Y.op (pc' := 228) (fun _ => X.iload rfl dL_isChosen_226) ?_
    refine Y.op (pc' := 229) (fun _ => X.aloadn rfl dL_isChosen_228) ?_
    refine Y.getI fd_L_144 rfl dL_isChosen_229 (fun v1 => ?_)
    refine Y.cmpge 365 (by decide) dL_isChosen_232 ?_ ?_
    · exact Y.fg (hkE365 x0 x1 x5 x6 x7 x8 x9 h) (And.intro rfl (And.intro rfl (And.intro rfl (And.intro rfl (And.intro rfl (And.intro rfl (And.intro rfl trivial)))))))
    · refine Y.op (pc' := 236) (fun _ => X.aloadn rfl dL_isChosen_235) ?_
      refine Y.op (pc' := 238) (fun _ => X.iload rfl dL_isChosen_236) ?_
      refine Y.op (pc' := 240) (fun _ => X.iload rfl dL_isChosen_238) ?_
      refine Y.callSWi (As := [.ref x0, .int x8, .int x11]) lkw_L_round rfl calw_L_round staw_L_round (Nat.le_of_ble_eq_true rfl) rfl rfl (Nat.le_of_ble_eq_true rfl) dL_isChosen_240 (fun _ e => m_L_round x0 x8 x11 h _ e) (fun r2 => ?_)
      refine Y.op (pc' := 245) (loc' := [some (.ref x0), some (.ref x1), none, none, none, some (.int x5), some (.ref x6), some (.ref x7), some (.int x8), some (.int x9), some (.int x10), some (.int x11), some (.int r2.1)]) (fun _ => X.istore (Nat.le_of_ble_eq_true rfl) rfl dL_isChosen_243) ?_
      refine Y.op (pc' := 247) (fun _ => X.iload rfl dL_isChosen_245) ?_
      refine Y.iflt 254 (by decide) dL_isChosen_247 ?_ ?_
      · refine Y.op (pc' := 255) (fun _ => X.ic ki_0 dL_isChosen_254) ?_
        exact y_L_isChosen_J255 ih hkE266 hkE301 hkE357 hkE365 x0 x1 x5 x6 x7 x8 x9 x10 x11 r2.1 (0 : Int32) r2.2
      · refine Y.op (pc' := 251) (fun _ => X.ic ki_1 dL_isChosen_250) ?_
        refine Y.op (pc' := 255) (fun _ => X.goto 255 (by decide) dL_isChosen_251) ?_
        exact y_L_isChosen_J255 ih hkE266 hkE301 hkE357 hkE365 x0 x1 x5 x6 x7 x8 x9 x10 x11 r2.1 (1 : Int32) r2.2
def f_L_isChosen_L208 (kE266 : xH → Option (Int32 × xH)) (kE301 : xH → Option (Int32 × xH)) (kE357 : xH → Option (Int32 × xH)) (kE380 : Nat → Int32 → xH → Option (Int32 × xH)) : Nat → Nat → Nat → Int32 → Nat → Nat → Int32 → xH → Option (Int32 × xH)
  | 0 => fun _ _ _ _ _ _ _ => none
  | n + 1 => fun x0 x1 x5 x6 x7 x8 h =>
    (gI h 10 x1 0).bind fun v1 =>
    if x8 ≥ v1 then
      kE380 x0 x5 h
    else
      f_L_isChosen_L226 (kE266) (kE301) (kE357) (f_L_isChosen_J365 (f_L_isChosen_L208 kE266 kE301 kE357 kE380 n) kE266 kE301 kE357 kE380) 5000 x0 x1 x5 x6 x7 x8 (0 : Int32) (0 : Int32) (0 : Int32) h
theorem y_L_isChosen_L208 {g : xG} {h0 : xH} {kE266 : xH → Option (Int32 × xH)} {kE301 : xH → Option (Int32 × xH)} {kE357 : xH → Option (Int32 × xH)} {kE380 : Nat → Int32 → xH → Option (Int32 × xH)} (hkE266 : ∀  (h : xH), Y g DL_isChosen h0 false iI (kE266  h) 266 [none, none, none, none, none, none, none, none, none, none, none, none, none] [] h) (hkE301 : ∀  (h : xH), Y g DL_isChosen h0 false iI (kE301  h) 301 [none, none, none, none, none, none, none, none, none, none, none, none, none] [] h) (hkE357 : ∀  (h : xH), Y g DL_isChosen h0 false iI (kE357  h) 357 [none, none, none, none, none, none, none, none, none, none, none, none, none] [] h) (hkE380 : ∀ (x0 : Nat) (x5 : Int32) (h : xH), Y g DL_isChosen h0 false iI (kE380 x0 x5 h) 380 [some (.ref x0), none, none, none, none, some (.int x5), none, none, none, none, none, none, none] [] h) : ∀ (n : Nat) (x0 : Nat) (x1 : Nat) (x5 : Int32) (x6 : Nat) (x7 : Nat) (x8 : Int32) (h : xH), Y g DL_isChosen h0 false iI (f_L_isChosen_L208 kE266 kE301 kE357 kE380 n x0 x1 x5 x6 x7 x8 h) 208 [some (.ref x0), some (.ref x1), none, none, none, some (.int x5), some (.ref x6), some (.ref x7), some (.int x8), none, none, none, none] [] h := by
  intro n
  induction n with
  | zero => intro x0 x1 x5 x6 x7 x8 h; exact Y.nothing
  | succ n ih =>
    intro x0 x1 x5 x6 x7 x8 h
    unfold f_L_isChosen_L208
    refine Y.op (pc' := 210) (fun _ => X.iload rfl dL_isChosen_208) ?_
    refine Y.op (pc' := 211) (fun _ => X.aloadn rfl dL_isChosen_210) ?_
    refine Y.getI fd_L_138 rfl dL_isChosen_211 (fun v1 => ?_)
    refine Y.cmpge 380 (by decide) dL_isChosen_214 ?_ ?_
    · exact Y.fg (hkE380 x0 x5 h) (And.intro rfl (And.intro rfl trivial))
    · refine Y.op (pc' := 218) (fun _ => X.ic ki_0 dL_isChosen_217) ?_
      refine Y.op (pc' := 220) (loc' := [some (.ref x0), some (.ref x1), none, none, none, some (.int x5), some (.ref x6), some (.ref x7), some (.int x8), some (.int (0 : Int32)), none, none, none]) (fun _ => X.istore (Nat.le_of_ble_eq_true rfl) rfl dL_isChosen_218) ?_
      refine Y.op (pc' := 221) (fun _ => X.ic ki_0 dL_isChosen_220) ?_
      refine Y.op (pc' := 223) (loc' := [some (.ref x0), some (.ref x1), none, none, none, some (.int x5), some (.ref x6), some (.ref x7), some (.int x8), some (.int (0 : Int32)), some (.int (0 : Int32)), none, none]) (fun _ => X.istore (Nat.le_of_ble_eq_true rfl) rfl dL_isChosen_221) ?_
      refine Y.op (pc' := 224) (fun _ => X.ic ki_0 dL_isChosen_223) ?_
      refine Y.op (pc' := 226) (loc' := [some (.ref x0), some (.ref x1), none, none, none, some (.int x5), some (.ref x6), some (.ref x7), some (.int x8), some (.int (0 : Int32)), some (.int (0 : Int32)), some (.int (0 : Int32)), none]) (fun _ => X.istore (Nat.le_of_ble_eq_true rfl) rfl dL_isChosen_224) ?_
      exact y_L_isChosen_L226 (hkE266) (hkE301) (hkE357) (y_L_isChosen_J365 ih hkE266 hkE301 hkE357 hkE380) 5000 x0 x1 x5 x6 x7 x8 (0 : Int32) (0 : Int32) (0 : Int32) h
def f_L_isChosen_J184 (h : xH) : Option (Int32 × xH) :=
  if (0 : Int32) = 0 ∨ (0 : Int32) = 1 then some ((0 : Int32), h) else none
theorem y_L_isChosen_J184 {g : xG} {h0 : xH} (h : xH) : Y g DL_isChosen h0 false iI (f_L_isChosen_J184 h) 184 [none, none, none, none, none, none, none, none, none, none, none, none, none] [] h := by
  unfold f_L_isChosen_J184
  refine Y.op (pc' := 185) (fun _ => X.ic ki_0 dL_isChosen_184) ?_
  exact Y.zreturn rfl dL_isChosen_185
def f_L_isChosen_J160 (x0 : Nat) (x1 : Nat) (x2 : Int32) (x3 : Int32) (x4 : Int32) (h : xH) : Option (Int32 × xH) :=
  (f_L_chosen x0 (0 : Int32) h).bind fun r1 =>
  if r1.1 = x2 then
    (f_L_chosen x0 (1 : Int32) r1.2).bind fun r2 =>
    if r2.1 = x3 then
      if x4 = x3 then
        (gI r2.2 10 x1 1).bind fun v3 =>
        (nwI r2.2 v3).bind fun r4 =>
        (gI r4.2 10 x1 1).bind fun v5 =>
        (nwI r4.2 v5).bind fun r6 =>
        f_L_isChosen_L208 (f_L_isChosen_J266) (f_L_isChosen_J301) (f_L_isChosen_J357) (f_L_isChosen_J380) 5000 x0 x1 (0 : Int32) r4.1 r6.1 (0 : Int32) r6.2
      else
        f_L_isChosen_J184 r2.2
    else
      f_L_isChosen_J184 r2.2
  else
    f_L_isChosen_J184 r1.2
theorem y_L_isChosen_J160 {g : xG} {h0 : xH} (x0 : Nat) (x1 : Nat) (x2 : Int32) (x3 : Int32) (x4 : Int32) (h : xH) : Y g DL_isChosen h0 false iI (f_L_isChosen_J160 x0 x1 x2 x3 x4 h) 160 [some (.ref x0), some (.ref x1), some (.int x2), some (.int x3), some (.int x4), none, none, none, none, none, none, none, none] [] h := by
  unfold f_L_isChosen_J160
  refine Y.op (pc' := 161) (fun _ => X.aloadn rfl dL_isChosen_160) ?_
  refine Y.op (pc' := 162) (fun _ => X.ic ki_0 dL_isChosen_161) ?_
  refine Y.callSWi (As := [.ref x0, .int (0 : Int32)]) lkw_L_chosen rfl calw_L_chosen staw_L_chosen (Nat.le_of_ble_eq_true rfl) rfl rfl (Nat.le_of_ble_eq_true rfl) dL_isChosen_162 (fun _ e => m_L_chosen x0 (0 : Int32) h _ e) (fun r1 => ?_)
  refine Y.op (pc' := 166) (fun _ => X.iloadn rfl dL_isChosen_165) ?_
  refine Y.cmpne 184 (by decide) dL_isChosen_166 ?_ ?_
  · exact Y.fg (y_L_isChosen_J184 r1.2) trivial
  · refine Y.op (pc' := 170) (fun _ => X.aloadn rfl dL_isChosen_169) ?_
    refine Y.op (pc' := 171) (fun _ => X.ic ki_1 dL_isChosen_170) ?_
    refine Y.callSWi (As := [.ref x0, .int (1 : Int32)]) lkw_L_chosen rfl calw_L_chosen staw_L_chosen (Nat.le_of_ble_eq_true rfl) rfl rfl (Nat.le_of_ble_eq_true rfl) dL_isChosen_171 (fun _ e => m_L_chosen x0 (1 : Int32) r1.2 _ e) (fun r2 => ?_)
    refine Y.op (pc' := 175) (fun _ => X.iloadn rfl dL_isChosen_174) ?_
    refine Y.cmpne 184 (by decide) dL_isChosen_175 ?_ ?_
    · exact Y.fg (y_L_isChosen_J184 r2.2) trivial
    · refine Y.op (pc' := 180) (fun _ => X.iload rfl dL_isChosen_178) ?_
      refine Y.op (pc' := 181) (fun _ => X.iloadn rfl dL_isChosen_180) ?_
      refine Y.cmpeq 186 (by decide) dL_isChosen_181 ?_ ?_
      · refine Y.op (pc' := 187) (fun _ => X.ic ki_0 dL_isChosen_186) ?_
        refine Y.op (pc' := 189) (loc' := [some (.ref x0), some (.ref x1), some (.int x2), some (.int x3), some (.int x4), some (.int (0 : Int32)), none, none, none, none, none, none, none]) (fun _ => X.istore (Nat.le_of_ble_eq_true rfl) rfl dL_isChosen_187) ?_
        refine Y.op (pc' := 190) (fun _ => X.aloadn rfl dL_isChosen_189) ?_
        refine Y.getI fd_L_144 rfl dL_isChosen_190 (fun v3 => ?_)
        refine Y.newI waI dL_isChosen_193 (fun r4 => ?_)
        refine Y.op (pc' := 197) (loc' := [some (.ref x0), some (.ref x1), some (.int x2), some (.int x3), some (.int x4), some (.int (0 : Int32)), some (.ref r4.1), none, none, none, none, none, none]) (fun _ => X.astore (Nat.le_of_ble_eq_true rfl) rfl dL_isChosen_195) ?_
        refine Y.op (pc' := 198) (fun _ => X.aloadn rfl dL_isChosen_197) ?_
        refine Y.getI fd_L_144 rfl dL_isChosen_198 (fun v5 => ?_)
        refine Y.newI waI dL_isChosen_201 (fun r6 => ?_)
        refine Y.op (pc' := 205) (loc' := [some (.ref x0), some (.ref x1), some (.int x2), some (.int x3), some (.int x4), some (.int (0 : Int32)), some (.ref r4.1), some (.ref r6.1), none, none, none, none, none]) (fun _ => X.astore (Nat.le_of_ble_eq_true rfl) rfl dL_isChosen_203) ?_
        refine Y.op (pc' := 206) (fun _ => X.ic ki_0 dL_isChosen_205) ?_
        refine Y.op (pc' := 208) (loc' := [some (.ref x0), some (.ref x1), some (.int x2), some (.int x3), some (.int x4), some (.int (0 : Int32)), some (.ref r4.1), some (.ref r6.1), some (.int (0 : Int32)), none, none, none, none]) (fun _ => X.istore (Nat.le_of_ble_eq_true rfl) rfl dL_isChosen_206) ?_
        exact Y.fg (y_L_isChosen_L208 (y_L_isChosen_J266) (y_L_isChosen_J301) (y_L_isChosen_J357) (y_L_isChosen_J380) 5000 x0 x1 (0 : Int32) r4.1 r6.1 (0 : Int32) r6.2) (And.intro rfl (And.intro rfl (And.intro rfl (And.intro rfl (And.intro rfl (And.intro rfl trivial))))))
      · exact Y.fg (y_L_isChosen_J184 r2.2) trivial
def f_L_isChosen_J154 (kH : Nat → Nat → Int32 → Int32 → Int32 → Int32 → xH → Option (Int32 × xH)) (kE160 : Nat → Nat → Int32 → Int32 → Int32 → xH → Option (Int32 × xH)) (x0 : Nat) (x1 : Nat) (x2 : Int32) (x3 : Int32) (x4 : Int32) (x5 : Int32) (h : xH) : Option (Int32 × xH) :=
  lt (x5 + (1 : Int32)) fun v1 =>
  kH x0 x1 x2 x3 x4 v1 h
theorem y_L_isChosen_J154 {g : xG} {h0 : xH} {kH : Nat → Nat → Int32 → Int32 → Int32 → Int32 → xH → Option (Int32 × xH)} {kE160 : Nat → Nat → Int32 → Int32 → Int32 → xH → Option (Int32 × xH)} (hkH : ∀ (x0 : Nat) (x1 : Nat) (x2 : Int32) (x3 : Int32) (x4 : Int32) (x5 : Int32) (h : xH), Y g DL_isChosen h0 false iI (kH x0 x1 x2 x3 x4 x5 h) 51 [some (.ref x0), some (.ref x1), some (.int x2), some (.int x3), some (.int x4), some (.int x5), none, none, none, none, none, none, none] [] h) (hkE160 : ∀ (x0 : Nat) (x1 : Nat) (x2 : Int32) (x3 : Int32) (x4 : Int32) (h : xH), Y g DL_isChosen h0 false iI (kE160 x0 x1 x2 x3 x4 h) 160 [some (.ref x0), some (.ref x1), some (.int x2), some (.int x3), some (.int x4), none, none, none, none, none, none, none, none] [] h) (x0 : Nat) (x1 : Nat) (x2 : Int32) (x3 : Int32) (x4 : Int32) (x5 : Int32) (h : xH) : Y g DL_isChosen h0 false iI (f_L_isChosen_J154 kH kE160 x0 x1 x2 x3 x4 x5 h) 154 [some (.ref x0), some (.ref x1), some (.int x2), some (.int x3), some (.int x4), some (.int x5), none, none, none, none, none, none, none] [] h := by
  unfold f_L_isChosen_J154
  refine Y.iinc (i := 5) (loc' := fun v1 => [some (.ref x0), some (.ref x1), some (.int x2), some (.int x3), some (.int x4), some (.int v1), none, none, none, none, none, none, none]) rfl (Nat.le_of_ble_eq_true rfl) ki_1 (fun _ => rfl) dL_isChosen_154 (fun v1 => ?_)
  refine Y.op (pc' := 51) (fun _ => X.goto 51 (by decide) dL_isChosen_157) ?_
  exact hkH x0 x1 x2 x3 x4 v1 h
def f_L_isChosen_J127 (kH : Nat → Nat → Int32 → Int32 → Int32 → Int32 → xH → Option (Int32 × xH)) (kE160 : Nat → Nat → Int32 → Int32 → Int32 → xH → Option (Int32 × xH)) (x0 : Nat) (x1 : Nat) (x2 : Int32) (x3 : Int32) (x4 : Int32) (x5 : Int32) (x6 : Nat) (x7 : Int32) (h : xH) : Option (Int32 × xH) :=
  (vc h 10 x6 (f_X10_most 40 x6 (0 : Int32) (0 : Int32) h)).bind fun r1 =>
  (gI r1.2 10 x6 3).bind fun v2 =>
  (f_J6_bitCount_0f7a4 v2 r1.2).bind fun r3 =>
  if r1.1 = r3.1 then
    lt ((imax x4 x7)) fun v4 =>
    f_L_isChosen_J154 (kH) kE160 x0 x1 x2 x3 v4 x5 r3.2
  else
    f_L_isChosen_J154 (kH) kE160 x0 x1 x2 x3 x4 x5 r3.2
theorem y_L_isChosen_J127 {g : xG} {h0 : xH} {kH : Nat → Nat → Int32 → Int32 → Int32 → Int32 → xH → Option (Int32 × xH)} {kE160 : Nat → Nat → Int32 → Int32 → Int32 → xH → Option (Int32 × xH)} (hkH : ∀ (x0 : Nat) (x1 : Nat) (x2 : Int32) (x3 : Int32) (x4 : Int32) (x5 : Int32) (h : xH), Y g DL_isChosen h0 false iI (kH x0 x1 x2 x3 x4 x5 h) 51 [some (.ref x0), some (.ref x1), some (.int x2), some (.int x3), some (.int x4), some (.int x5), none, none, none, none, none, none, none] [] h) (hkE160 : ∀ (x0 : Nat) (x1 : Nat) (x2 : Int32) (x3 : Int32) (x4 : Int32) (h : xH), Y g DL_isChosen h0 false iI (kE160 x0 x1 x2 x3 x4 h) 160 [some (.ref x0), some (.ref x1), some (.int x2), some (.int x3), some (.int x4), none, none, none, none, none, none, none, none] [] h) (x0 : Nat) (x1 : Nat) (x2 : Int32) (x3 : Int32) (x4 : Int32) (x5 : Int32) (x6 : Nat) (x7 : Int32) (h : xH) : Y g DL_isChosen h0 false iI (f_L_isChosen_J127 kH kE160 x0 x1 x2 x3 x4 x5 x6 x7 h) 127 [some (.ref x0), some (.ref x1), some (.int x2), some (.int x3), some (.int x4), some (.int x5), some (.ref x6), some (.int x7), none, none, none, none, none] [] h := by
  unfold f_L_isChosen_J127
  refine Y.op (pc' := 129) (fun _ => X.aload rfl dL_isChosen_127) ?_
  refine Y.op (pc' := 130) (fun _ => X.ic ki_0 dL_isChosen_129) ?_
  refine Y.op (pc' := 131) (fun _ => X.ic ki_0 dL_isChosen_130) ?_
  refine Y.callVi (As := [.int (0 : Int32), .int (0 : Int32)]) lk_L_211 rfl (cal_X10_most _) (vir_X10_most _) (Nat.le_of_ble_eq_true rfl) (Nat.le_of_ble_eq_true rfl) rfl rfl rfl (Nat.le_of_ble_eq_true rfl) dL_isChosen_131 (fun _ e => m_X10_most 40 x6 (0 : Int32) (0 : Int32) h _ e) (fun r1 => ?_)
  refine Y.op (pc' := 136) (fun _ => X.aload rfl dL_isChosen_134) ?_
  refine Y.getI fd_L_147 rfl dL_isChosen_136 (fun v2 => ?_)
  refine Y.callSi (As := [.int v2]) lk_L_250 rfl cal_J6_bitCount_0f7a4 sta_J6_bitCount_0f7a4 (Nat.le_of_ble_eq_true rfl) rfl rfl (Nat.le_of_ble_eq_true rfl) dL_isChosen_139 (fun _ e => m_J6_bitCount_0f7a4 v2 r1.2 _ _ e) (fun r3 => ?_)
  refine Y.cmpne 154 (by decide) dL_isChosen_142 ?_ ?_
  · exact Y.fg (y_L_isChosen_J154 hkH hkE160 x0 x1 x2 x3 x4 x5 r3.2) (And.intro rfl (And.intro rfl (And.intro rfl (And.intro rfl (And.intro rfl (And.intro rfl trivial))))))
  · refine Y.op (pc' := 147) (fun _ => X.iload rfl dL_isChosen_145) ?_
    refine Y.op (pc' := 149) (fun _ => X.iload rfl dL_isChosen_147) ?_
    refine Y.mmax mw_L_275 rfl (Nat.le_of_ble_eq_true rfl) (Nat.le_of_ble_eq_true rfl) dL_isChosen_149 ?_
    refine Y.top (fun v4 => ?_)
    refine Y.op (pc' := 154) (loc' := [some (.ref x0), some (.ref x1), some (.int x2), some (.int x3), some (.int v4), some (.int x5), some (.ref x6), some (.int x7), none, none, none, none, none]) (fun _ => X.istore (Nat.le_of_ble_eq_true rfl) rfl dL_isChosen_152) ?_
    exact Y.fg (y_L_isChosen_J154 hkH hkE160 x0 x1 x2 x3 v4 x5 r3.2) (And.intro rfl (And.intro rfl (And.intro rfl (And.intro rfl (And.intro rfl (And.intro rfl trivial))))))
def f_L_isChosen_J121 (kH : Nat → Nat → Int32 → Int32 → Int32 → Int32 → Nat → Int32 → Int32 → xH → Option (Int32 × xH)) (kE127 : Nat → Nat → Int32 → Int32 → Int32 → Int32 → Nat → Int32 → xH → Option (Int32 × xH)) (x0 : Nat) (x1 : Nat) (x2 : Int32) (x3 : Int32) (x4 : Int32) (x5 : Int32) (x6 : Nat) (x7 : Int32) (x8 : Int32) (h : xH) : Option (Int32 × xH) :=
  lt (x8 + (1 : Int32)) fun v1 =>
  kH x0 x1 x2 x3 x4 x5 x6 x7 v1 h
theorem y_L_isChosen_J121 {g : xG} {h0 : xH} {kH : Nat → Nat → Int32 → Int32 → Int32 → Int32 → Nat → Int32 → Int32 → xH → Option (Int32 × xH)} {kE127 : Nat → Nat → Int32 → Int32 → Int32 → Int32 → Nat → Int32 → xH → Option (Int32 × xH)} (hkH : ∀ (x0 : Nat) (x1 : Nat) (x2 : Int32) (x3 : Int32) (x4 : Int32) (x5 : Int32) (x6 : Nat) (x7 : Int32) (x8 : Int32) (h : xH), Y g DL_isChosen h0 false iI (kH x0 x1 x2 x3 x4 x5 x6 x7 x8 h) 86 [some (.ref x0), some (.ref x1), some (.int x2), some (.int x3), some (.int x4), some (.int x5), some (.ref x6), some (.int x7), some (.int x8), none, none, none, none] [] h) (hkE127 : ∀ (x0 : Nat) (x1 : Nat) (x2 : Int32) (x3 : Int32) (x4 : Int32) (x5 : Int32) (x6 : Nat) (x7 : Int32) (h : xH), Y g DL_isChosen h0 false iI (kE127 x0 x1 x2 x3 x4 x5 x6 x7 h) 127 [some (.ref x0), some (.ref x1), some (.int x2), some (.int x3), some (.int x4), some (.int x5), some (.ref x6), some (.int x7), none, none, none, none, none] [] h) (x0 : Nat) (x1 : Nat) (x2 : Int32) (x3 : Int32) (x4 : Int32) (x5 : Int32) (x6 : Nat) (x7 : Int32) (x8 : Int32) (h : xH) : Y g DL_isChosen h0 false iI (f_L_isChosen_J121 kH kE127 x0 x1 x2 x3 x4 x5 x6 x7 x8 h) 121 [some (.ref x0), some (.ref x1), some (.int x2), some (.int x3), some (.int x4), some (.int x5), some (.ref x6), some (.int x7), some (.int x8), none, none, none, none] [] h := by
  unfold f_L_isChosen_J121
  refine Y.iinc (i := 8) (loc' := fun v1 => [some (.ref x0), some (.ref x1), some (.int x2), some (.int x3), some (.int x4), some (.int x5), some (.ref x6), some (.int x7), some (.int v1), none, none, none, none]) rfl (Nat.le_of_ble_eq_true rfl) ki_1 (fun _ => rfl) dL_isChosen_121 (fun v1 => ?_)
  refine Y.op (pc' := 86) (fun _ => X.goto 86 (by decide) dL_isChosen_124) ?_
  exact hkH x0 x1 x2 x3 x4 x5 x6 x7 v1 h
def f_L_isChosen_L86 (kE127 : Nat → Nat → Int32 → Int32 → Int32 → Int32 → Nat → Int32 → xH → Option (Int32 × xH)) : Nat → Nat → Nat → Int32 → Int32 → Int32 → Int32 → Nat → Int32 → Int32 → xH → Option (Int32 × xH)
  | 0 => fun _ _ _ _ _ _ _ _ _ _ => none
  | n + 1 => fun x0 x1 x2 x3 x4 x5 x6 x7 x8 h =>
    (gI h 10 x1 0).bind fun v1 =>
    if x8 ≥ v1 then
      kE127 x0 x1 x2 x3 x4 x5 x6 x7 h
    else
      (gI h 10 x6 3).bind fun v2 =>
      if ((v2 >>> (x8 &&& 31)) &&& (1 : Int32)) = (1 : Int32) then
        (gR h 10 x1 7).bind fun v3 =>
        (aI h v3 x8).bind fun v4 =>
        lt ((x7 + v4)) fun v5 =>
        f_L_isChosen_J121 (f_L_isChosen_L86 kE127 n) kE127 x0 x1 x2 x3 x4 x5 x6 v5 x8 h
      else
        f_L_isChosen_J121 (f_L_isChosen_L86 kE127 n) kE127 x0 x1 x2 x3 x4 x5 x6 x7 x8 h
theorem y_L_isChosen_L86 {g : xG} {h0 : xH} {kE127 : Nat → Nat → Int32 → Int32 → Int32 → Int32 → Nat → Int32 → xH → Option (Int32 × xH)} (hkE127 : ∀ (x0 : Nat) (x1 : Nat) (x2 : Int32) (x3 : Int32) (x4 : Int32) (x5 : Int32) (x6 : Nat) (x7 : Int32) (h : xH), Y g DL_isChosen h0 false iI (kE127 x0 x1 x2 x3 x4 x5 x6 x7 h) 127 [some (.ref x0), some (.ref x1), some (.int x2), some (.int x3), some (.int x4), some (.int x5), some (.ref x6), some (.int x7), none, none, none, none, none] [] h) : ∀ (n : Nat) (x0 : Nat) (x1 : Nat) (x2 : Int32) (x3 : Int32) (x4 : Int32) (x5 : Int32) (x6 : Nat) (x7 : Int32) (x8 : Int32) (h : xH), Y g DL_isChosen h0 false iI (f_L_isChosen_L86 kE127 n x0 x1 x2 x3 x4 x5 x6 x7 x8 h) 86 [some (.ref x0), some (.ref x1), some (.int x2), some (.int x3), some (.int x4), some (.int x5), some (.ref x6), some (.int x7), some (.int x8), none, none, none, none] [] h := by
  intro n
  induction n with
  | zero => intro x0 x1 x2 x3 x4 x5 x6 x7 x8 h; exact Y.nothing
  | succ n ih =>
    intro x0 x1 x2 x3 x4 x5 x6 x7 x8 h
    unfold f_L_isChosen_L86
    refine Y.op (pc' := 88) (fun _ => X.iload rfl dL_isChosen_86) ?_
    refine Y.op (pc' := 89) (fun _ => X.aloadn rfl dL_isChosen_88) ?_
    refine Y.getI fd_L_138 rfl dL_isChosen_89 (fun v1 => ?_)
    refine Y.cmpge 127 (by decide) dL_isChosen_92 ?_ ?_
    · exact Y.fg (hkE127 x0 x1 x2 x3 x4 x5 x6 x7 h) (And.intro rfl (And.intro rfl (And.intro rfl (And.intro rfl (And.intro rfl (And.intro rfl (And.intro rfl (And.intro rfl trivial))))))))
    · refine Y.op (pc' := 97) (fun _ => X.aload rfl dL_isChosen_95) ?_
      refine Y.getI fd_L_147 rfl dL_isChosen_97 (fun v2 => ?_)
      refine Y.op (pc' := 102) (fun _ => X.iload rfl dL_isChosen_100) ?_
      refine Y.op (pc' := 103) (fun _ => X.ishr dL_isChosen_102) ?_
      refine Y.op (pc' := 104) (fun _ => X.ic ki_1 dL_isChosen_103) ?_
      refine Y.op (pc' := 105) (fun _ => X.iand dL_isChosen_104) ?_
      refine Y.op (pc' := 106) (fun _ => X.ic ki_1 dL_isChosen_105) ?_
      refine Y.cmpne 121 (by decide) dL_isChosen_106 ?_ ?_
      · exact y_L_isChosen_J121 ih hkE127 x0 x1 x2 x3 x4 x5 x6 x7 x8 h
      · refine Y.op (pc' := 111) (fun _ => X.iload rfl dL_isChosen_109) ?_
        refine Y.op (pc' := 112) (fun _ => X.aloadn rfl dL_isChosen_111) ?_
        refine Y.getR fd_L_195 rfl dL_isChosen_112 (fun v3 => ?_)
        refine Y.op (pc' := 117) (fun _ => X.iload rfl dL_isChosen_115) ?_
        refine Y.aldI dL_isChosen_117 (fun v4 => ?_)
        refine Y.op (pc' := 119) (fun _ => X.iadd dL_isChosen_118) ?_
        refine Y.top (fun v5 => ?_)
        refine Y.op (pc' := 121) (loc' := [some (.ref x0), some (.ref x1), some (.int x2), some (.int x3), some (.int x4), some (.int x5), some (.ref x6), some (.int v5), some (.int x8), none, none, none, none]) (fun _ => X.istore (Nat.le_of_ble_eq_true rfl) rfl dL_isChosen_119) ?_
        exact y_L_isChosen_J121 ih hkE127 x0 x1 x2 x3 x4 x5 x6 v5 x8 h
def f_L_isChosen_L51 (kE160 : Nat → Nat → Int32 → Int32 → Int32 → xH → Option (Int32 × xH)) : Nat → Nat → Nat → Int32 → Int32 → Int32 → Int32 → xH → Option (Int32 × xH)
  | 0 => fun _ _ _ _ _ _ _ => none
  | n + 1 => fun x0 x1 x2 x3 x4 x5 h =>
    (gI h 10 x1 0).bind fun v1 =>
    if x5 ≥ ((1 : Int32) <<< (v1 &&& 31)) then
      kE160 x0 x1 x2 x3 x4 h
    else
      (vc h 10 x1 (f_X10_like x1 h)).bind fun r2 =>
      (r2.1).bind fun b3 =>
      (gI r2.2 10 x1 3).bind fun v4 =>
      (pI r2.2 10 b3 3 (x5 &&& v4)).bind fun h5 =>
      f_L_isChosen_L86 (f_L_isChosen_J127 (f_L_isChosen_L51 kE160 n) kE160) 5000 x0 x1 x2 x3 x4 x5 b3 (0 : Int32) (0 : Int32) h5
theorem y_L_isChosen_L51 {g : xG} {h0 : xH} {kE160 : Nat → Nat → Int32 → Int32 → Int32 → xH → Option (Int32 × xH)} (hkE160 : ∀ (x0 : Nat) (x1 : Nat) (x2 : Int32) (x3 : Int32) (x4 : Int32) (h : xH), Y g DL_isChosen h0 false iI (kE160 x0 x1 x2 x3 x4 h) 160 [some (.ref x0), some (.ref x1), some (.int x2), some (.int x3), some (.int x4), none, none, none, none, none, none, none, none] [] h) : ∀ (n : Nat) (x0 : Nat) (x1 : Nat) (x2 : Int32) (x3 : Int32) (x4 : Int32) (x5 : Int32) (h : xH), Y g DL_isChosen h0 false iI (f_L_isChosen_L51 kE160 n x0 x1 x2 x3 x4 x5 h) 51 [some (.ref x0), some (.ref x1), some (.int x2), some (.int x3), some (.int x4), some (.int x5), none, none, none, none, none, none, none] [] h := by
  intro n
  induction n with
  | zero => intro x0 x1 x2 x3 x4 x5 h; exact Y.nothing
  | succ n ih =>
    intro x0 x1 x2 x3 x4 x5 h
    unfold f_L_isChosen_L51
    refine Y.op (pc' := 53) (fun _ => X.iload rfl dL_isChosen_51) ?_
    refine Y.op (pc' := 54) (fun _ => X.ic ki_1 dL_isChosen_53) ?_
    refine Y.op (pc' := 55) (fun _ => X.aloadn rfl dL_isChosen_54) ?_
    refine Y.getI fd_L_138 rfl dL_isChosen_55 (fun v1 => ?_)
    refine Y.op (pc' := 59) (fun _ => X.ishl dL_isChosen_58) ?_
    refine Y.cmpge 160 (by decide) dL_isChosen_59 ?_ ?_
    · exact Y.fg (hkE160 x0 x1 x2 x3 x4 h) (And.intro rfl (And.intro rfl (And.intro rfl (And.intro rfl (And.intro rfl trivial)))))
    · refine Y.op (pc' := 63) (fun _ => X.aloadn rfl dL_isChosen_62) ?_
      refine Y.callVn (As := []) lk_L_226 rfl cal_X10_like vir_X10_like (Nat.le_of_ble_eq_true rfl) (Nat.le_of_ble_eq_true rfl) rfl rfl rfl (Nat.le_of_ble_eq_true rfl) dL_isChosen_63 (fun _ e => m_X10_like x1 h _ e) (fun r2 => ?_)
      refine Y.un (fun b3 => ?_)
      refine Y.op (pc' := 68) (loc' := [some (.ref x0), some (.ref x1), some (.int x2), some (.int x3), some (.int x4), some (.int x5), some (.ref b3), none, none, none, none, none, none]) (fun _ => X.astore (Nat.le_of_ble_eq_true rfl) rfl dL_isChosen_66) ?_
      refine Y.op (pc' := 70) (fun _ => X.aload rfl dL_isChosen_68) ?_
      refine Y.op (pc' := 72) (fun _ => X.iload rfl dL_isChosen_70) ?_
      refine Y.op (pc' := 73) (fun _ => X.aloadn rfl dL_isChosen_72) ?_
      refine Y.getI fd_L_147 rfl dL_isChosen_73 (fun v4 => ?_)
      refine Y.op (pc' := 77) (fun _ => X.iand dL_isChosen_76) ?_
      refine Y.putI fd_L_147 rfl dL_isChosen_77 (fun h5 => ?_)
      refine Y.op (pc' := 81) (fun _ => X.ic ki_0 dL_isChosen_80) ?_
      refine Y.op (pc' := 83) (loc' := [some (.ref x0), some (.ref x1), some (.int x2), some (.int x3), some (.int x4), some (.int x5), some (.ref b3), some (.int (0 : Int32)), none, none, none, none, none]) (fun _ => X.istore (Nat.le_of_ble_eq_true rfl) rfl dL_isChosen_81) ?_
      refine Y.op (pc' := 84) (fun _ => X.ic ki_0 dL_isChosen_83) ?_
      refine Y.op (pc' := 86) (loc' := [some (.ref x0), some (.ref x1), some (.int x2), some (.int x3), some (.int x4), some (.int x5), some (.ref b3), some (.int (0 : Int32)), some (.int (0 : Int32)), none, none, none, none]) (fun _ => X.istore (Nat.le_of_ble_eq_true rfl) rfl dL_isChosen_84) ?_
      exact y_L_isChosen_L86 (y_L_isChosen_J127 ih hkE160) 5000 x0 x1 x2 x3 x4 x5 b3 (0 : Int32) (0 : Int32) h5
def f_L_isChosen_J48 (x0 : Nat) (x1 : Nat) (x2 : Int32) (x3 : Int32) (x4 : Int32) (h : xH) : Option (Int32 × xH) :=
  f_L_isChosen_L51 (f_L_isChosen_J160) 5000 x0 x1 x2 x3 x4 (0 : Int32) h
theorem y_L_isChosen_J48 {g : xG} {h0 : xH} (x0 : Nat) (x1 : Nat) (x2 : Int32) (x3 : Int32) (x4 : Int32) (h : xH) : Y g DL_isChosen h0 false iI (f_L_isChosen_J48 x0 x1 x2 x3 x4 h) 48 [some (.ref x0), some (.ref x1), some (.int x2), some (.int x3), some (.int x4), none, none, none, none, none, none, none, none] [] h := by
  unfold f_L_isChosen_J48
  refine Y.op (pc' := 49) (fun _ => X.ic ki_0 dL_isChosen_48) ?_
  refine Y.op (pc' := 51) (loc' := [some (.ref x0), some (.ref x1), some (.int x2), some (.int x3), some (.int x4), some (.int (0 : Int32)), none, none, none, none, none, none, none]) (fun _ => X.istore (Nat.le_of_ble_eq_true rfl) rfl dL_isChosen_49) ?_
  exact y_L_isChosen_L51 (y_L_isChosen_J160) 5000 x0 x1 x2 x3 x4 (0 : Int32) h
def f_L_isChosen_J42 (kH : Nat → Nat → Int32 → Int32 → Int32 → Int32 → xH → Option (Int32 × xH)) (kE48 : Nat → Nat → Int32 → Int32 → Int32 → xH → Option (Int32 × xH)) (x0 : Nat) (x1 : Nat) (x2 : Int32) (x3 : Int32) (x4 : Int32) (x5 : Int32) (h : xH) : Option (Int32 × xH) :=
  lt (x5 + (1 : Int32)) fun v1 =>
  kH x0 x1 x2 x3 x4 v1 h
theorem y_L_isChosen_J42 {g : xG} {h0 : xH} {kH : Nat → Nat → Int32 → Int32 → Int32 → Int32 → xH → Option (Int32 × xH)} {kE48 : Nat → Nat → Int32 → Int32 → Int32 → xH → Option (Int32 × xH)} (hkH : ∀ (x0 : Nat) (x1 : Nat) (x2 : Int32) (x3 : Int32) (x4 : Int32) (x5 : Int32) (h : xH), Y g DL_isChosen h0 false iI (kH x0 x1 x2 x3 x4 x5 h) 13 [some (.ref x0), some (.ref x1), some (.int x2), some (.int x3), some (.int x4), some (.int x5), none, none, none, none, none, none, none] [] h) (hkE48 : ∀ (x0 : Nat) (x1 : Nat) (x2 : Int32) (x3 : Int32) (x4 : Int32) (h : xH), Y g DL_isChosen h0 false iI (kE48 x0 x1 x2 x3 x4 h) 48 [some (.ref x0), some (.ref x1), some (.int x2), some (.int x3), some (.int x4), none, none, none, none, none, none, none, none] [] h) (x0 : Nat) (x1 : Nat) (x2 : Int32) (x3 : Int32) (x4 : Int32) (x5 : Int32) (h : xH) : Y g DL_isChosen h0 false iI (f_L_isChosen_J42 kH kE48 x0 x1 x2 x3 x4 x5 h) 42 [some (.ref x0), some (.ref x1), some (.int x2), some (.int x3), some (.int x4), some (.int x5), none, none, none, none, none, none, none] [] h := by
  unfold f_L_isChosen_J42
  refine Y.iinc (i := 5) (loc' := fun v1 => [some (.ref x0), some (.ref x1), some (.int x2), some (.int x3), some (.int x4), some (.int v1), none, none, none, none, none, none, none]) rfl (Nat.le_of_ble_eq_true rfl) ki_1 (fun _ => rfl) dL_isChosen_42 (fun v1 => ?_)
  refine Y.op (pc' := 13) (fun _ => X.goto 13 (by decide) dL_isChosen_45) ?_
  exact hkH x0 x1 x2 x3 x4 v1 h
def f_L_isChosen_L13 (kE48 : Nat → Nat → Int32 → Int32 → Int32 → xH → Option (Int32 × xH)) : Nat → Nat → Nat → Int32 → Int32 → Int32 → Int32 → xH → Option (Int32 × xH)
  | 0 => fun _ _ _ _ _ _ _ => none
  | n + 1 => fun x0 x1 x2 x3 x4 x5 h =>
    (gI h 10 x1 0).bind fun v1 =>
    if x5 ≥ v1 then
      kE48 x0 x1 x2 x3 x4 h
    else
      if ((x2 >>> (x5 &&& 31)) &&& (1 : Int32)) = (1 : Int32) then
        (gR h 10 x1 7).bind fun v2 =>
        (aI h v2 x5).bind fun v3 =>
        lt ((x3 + v3)) fun v4 =>
        f_L_isChosen_J42 (f_L_isChosen_L13 kE48 n) kE48 x0 x1 x2 v4 x4 x5 h
      else
        f_L_isChosen_J42 (f_L_isChosen_L13 kE48 n) kE48 x0 x1 x2 x3 x4 x5 h
theorem y_L_isChosen_L13 {g : xG} {h0 : xH} {kE48 : Nat → Nat → Int32 → Int32 → Int32 → xH → Option (Int32 × xH)} (hkE48 : ∀ (x0 : Nat) (x1 : Nat) (x2 : Int32) (x3 : Int32) (x4 : Int32) (h : xH), Y g DL_isChosen h0 false iI (kE48 x0 x1 x2 x3 x4 h) 48 [some (.ref x0), some (.ref x1), some (.int x2), some (.int x3), some (.int x4), none, none, none, none, none, none, none, none] [] h) : ∀ (n : Nat) (x0 : Nat) (x1 : Nat) (x2 : Int32) (x3 : Int32) (x4 : Int32) (x5 : Int32) (h : xH), Y g DL_isChosen h0 false iI (f_L_isChosen_L13 kE48 n x0 x1 x2 x3 x4 x5 h) 13 [some (.ref x0), some (.ref x1), some (.int x2), some (.int x3), some (.int x4), some (.int x5), none, none, none, none, none, none, none] [] h := by
  intro n
  induction n with
  | zero => intro x0 x1 x2 x3 x4 x5 h; exact Y.nothing
  | succ n ih =>
    intro x0 x1 x2 x3 x4 x5 h
    unfold f_L_isChosen_L13
    refine Y.op (pc' := 15) (fun _ => X.iload rfl dL_isChosen_13) ?_
    refine Y.op (pc' := 16) (fun _ => X.aloadn rfl dL_isChosen_15) ?_
    refine Y.getI fd_L_138 rfl dL_isChosen_16 (fun v1 => ?_)
    refine Y.cmpge 48 (by decide) dL_isChosen_19 ?_ ?_
    · exact Y.fg (hkE48 x0 x1 x2 x3 x4 h) (And.intro rfl (And.intro rfl (And.intro rfl (And.intro rfl (And.intro rfl trivial)))))
    · refine Y.op (pc' := 23) (fun _ => X.iloadn rfl dL_isChosen_22) ?_
      refine Y.op (pc' := 25) (fun _ => X.iload rfl dL_isChosen_23) ?_
      refine Y.op (pc' := 26) (fun _ => X.ishr dL_isChosen_25) ?_
      refine Y.op (pc' := 27) (fun _ => X.ic ki_1 dL_isChosen_26) ?_
      refine Y.op (pc' := 28) (fun _ => X.iand dL_isChosen_27) ?_
      refine Y.op (pc' := 29) (fun _ => X.ic ki_1 dL_isChosen_28) ?_
      refine Y.cmpne 42 (by decide) dL_isChosen_29 ?_ ?_
      · exact y_L_isChosen_J42 ih hkE48 x0 x1 x2 x3 x4 x5 h
      · refine Y.op (pc' := 33) (fun _ => X.iloadn rfl dL_isChosen_32) ?_
        refine Y.op (pc' := 34) (fun _ => X.aloadn rfl dL_isChosen_33) ?_
        refine Y.getR fd_L_195 rfl dL_isChosen_34 (fun v2 => ?_)
        refine Y.op (pc' := 39) (fun _ => X.iload rfl dL_isChosen_37) ?_
        refine Y.aldI dL_isChosen_39 (fun v3 => ?_)
        refine Y.op (pc' := 41) (fun _ => X.iadd dL_isChosen_40) ?_
        refine Y.top (fun v4 => ?_)
        refine Y.op (pc' := 42) (loc' := [some (.ref x0), some (.ref x1), some (.int x2), some (.int v4), some (.int x4), some (.int x5), none, none, none, none, none, none, none]) (fun _ => X.istoren (Nat.le_of_ble_eq_true rfl) rfl dL_isChosen_41) ?_
        exact y_L_isChosen_J42 ih hkE48 x0 x1 x2 v4 x4 x5 h
def f_L_isChosen (p1 : Nat) (p2 : Nat) (h : xH) : Option (Int32 × xH) :=
  (vc h 10 p2 (f_X10_chosen p2 h)).bind fun r1 =>
  f_L_isChosen_L13 (f_L_isChosen_J48) 5000 p1 p2 r1.1 (0 : Int32) (0 : Int32) (0 : Int32) r1.2
theorem y_L_isChosen {g : xG} {h0 : xH} (p1 : Nat) (p2 : Nat) (h : xH) : Y g DL_isChosen h0 false iI (f_L_isChosen p1 p2 h) 0 [some (.ref p1), some (.ref p2), none, none, none, none, none, none, none, none, none, none, none] [] h := by
  unfold f_L_isChosen
  refine Y.op (pc' := 1) (fun _ => X.aloadn rfl dL_isChosen_0) ?_
  refine Y.callVi (As := []) lk_L_273 rfl cal_X10_chosen vir_X10_chosen (Nat.le_of_ble_eq_true rfl) (Nat.le_of_ble_eq_true rfl) rfl rfl rfl (Nat.le_of_ble_eq_true rfl) dL_isChosen_1 (fun _ e => m_X10_chosen p2 h _ e) (fun r1 => ?_)
  refine Y.op (pc' := 5) (loc' := [some (.ref p1), some (.ref p2), some (.int r1.1), none, none, none, none, none, none, none, none, none, none]) (fun _ => X.istoren (Nat.le_of_ble_eq_true rfl) rfl dL_isChosen_4) ?_
  refine Y.op (pc' := 6) (fun _ => X.ic ki_0 dL_isChosen_5) ?_
  refine Y.op (pc' := 7) (loc' := [some (.ref p1), some (.ref p2), some (.int r1.1), some (.int (0 : Int32)), none, none, none, none, none, none, none, none, none]) (fun _ => X.istoren (Nat.le_of_ble_eq_true rfl) rfl dL_isChosen_6) ?_
  refine Y.op (pc' := 8) (fun _ => X.ic ki_0 dL_isChosen_7) ?_
  refine Y.op (pc' := 10) (loc' := [some (.ref p1), some (.ref p2), some (.int r1.1), some (.int (0 : Int32)), some (.int (0 : Int32)), none, none, none, none, none, none, none, none]) (fun _ => X.istore (Nat.le_of_ble_eq_true rfl) rfl dL_isChosen_8) ?_
  refine Y.op (pc' := 11) (fun _ => X.ic ki_0 dL_isChosen_10) ?_
  refine Y.op (pc' := 13) (loc' := [some (.ref p1), some (.ref p2), some (.int r1.1), some (.int (0 : Int32)), some (.int (0 : Int32)), some (.int (0 : Int32)), none, none, none, none, none, none, none]) (fun _ => X.istore (Nat.le_of_ble_eq_true rfl) rfl dL_isChosen_11) ?_
  exact y_L_isChosen_L13 (y_L_isChosen_J48) 5000 p1 p2 r1.1 (0 : Int32) (0 : Int32) (0 : Int32) r1.2
theorem m_L_isChosen {g : xG} (p1 : Nat) (p2 : Nat) (h : xH) (r : Int32 × xH) (e : f_L_isChosen p1 p2 h = some r) : XM g DL_isChosen [.ref p1, .ref p2] h false (iI r) := YM.of rfl rfl (Nat.le_of_ble_eq_true rfl) (y_L_isChosen p1 p2 h) e
