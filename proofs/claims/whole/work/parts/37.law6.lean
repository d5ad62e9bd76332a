/-! the law's body (by program) -/
def f_L_C220 (S : List Int32) (x1 x2 x3 : Nat) (K : Int32 → xH → Nat → Option (Int32 × xH × Nat)) (i : Int32) (h : xH) (ex : Nat) : Option (Int32 × xH × Nat) :=
  (sc S (i + (1 : Int32))).bind fun v1 =>
  (sc S (i + (2 : Int32))).bind fun v2 =>
  (sc S (i + (3 : Int32))).bind fun v3 =>
  (sc S (i + (4 : Int32))).bind fun v4 =>
  (sc S (i + (5 : Int32))).bind fun v5 =>
  (vc h 9 x1 (f_X9_feed x1 v1 v2 v3 v4 v5 h)).bind fun r6 =>
  (sc S (i + (1 : Int32))).bind fun v7 =>
  (sc S (i + (2 : Int32))).bind fun v8 =>
  (sc S (i + (3 : Int32))).bind fun v9 =>
  (sc S (i + (4 : Int32))).bind fun v10 =>
  (sc S (i + (5 : Int32))).bind fun v11 =>
  (vc r6.2 10 x2 (f_X10_feed x2 v7 v8 v9 v10 v11 r6.2)).bind fun r12 =>
  if r6.1 = r12.1 then
    K i r12.2 ex
  else
    some ((0 : Int32), r12.2, ex)
theorem y_L_C220 {g : xG} {h0 : xH} (x1 x2 x3 : Nat) {K : Int32 → xH → Nat → Option (Int32 × xH × Nat)} (hK : ∀ (i : Int32) (h : xH) (ex : Nat), YE g DL_law h0 false iW (K i h ex) 2297 [some (.ref 1000000), some (.ref x1), some (.ref x2), some (.ref x3), some (.int i), none, none] [] h ex) (i : Int32) (h : xH) (ex : Nat) : YE g DL_law h0 false iW (f_L_C220 (gX g) x1 x2 x3 K i h ex) 220 [some (.ref 1000000), some (.ref x1), some (.ref x2), some (.ref x3), some (.int i), none, none] [] h ex := by
  unfold f_L_C220
  refine YE.op (pc' := 221) (fun _ => X.aloadn rfl dL_law_220) ?_
  refine YE.op (pc' := 222) (fun _ => X.aloadn rfl dL_law_221) ?_
  refine YE.op (pc' := 224) (fun _ => X.iload rfl dL_law_222) ?_
  refine YE.op (pc' := 225) (fun _ => X.ic (v := 1) (by decide) dL_law_224) ?_
  refine YE.op (pc' := 226) (fun _ => X.iadd dL_law_225) ?_
  refine YE.sald dL_law_226 (fun v1 => ?_)
  refine YE.op (pc' := 228) (fun _ => X.aloadn rfl dL_law_227) ?_
  refine YE.op (pc' := 230) (fun _ => X.iload rfl dL_law_228) ?_
  refine YE.op (pc' := 231) (fun _ => X.ic (v := 2) (by decide) dL_law_230) ?_
  refine YE.op (pc' := 232) (fun _ => X.iadd dL_law_231) ?_
  refine YE.sald dL_law_232 (fun v2 => ?_)
  refine YE.op (pc' := 234) (fun _ => X.aloadn rfl dL_law_233) ?_
  refine YE.op (pc' := 236) (fun _ => X.iload rfl dL_law_234) ?_
  refine YE.op (pc' := 237) (fun _ => X.ic (v := 3) (by decide) dL_law_236) ?_
  refine YE.op (pc' := 238) (fun _ => X.iadd dL_law_237) ?_
  refine YE.sald dL_law_238 (fun v3 => ?_)
  refine YE.op (pc' := 240) (fun _ => X.aloadn rfl dL_law_239) ?_
  refine YE.op (pc' := 242) (fun _ => X.iload rfl dL_law_240) ?_
  refine YE.op (pc' := 243) (fun _ => X.ic (v := 4) (by decide) dL_law_242) ?_
  refine YE.op (pc' := 244) (fun _ => X.iadd dL_law_243) ?_
  refine YE.sald dL_law_244 (fun v4 => ?_)
  refine YE.op (pc' := 246) (fun _ => X.aloadn rfl dL_law_245) ?_
  refine YE.op (pc' := 248) (fun _ => X.iload rfl dL_law_246) ?_
  refine YE.op (pc' := 249) (fun _ => X.ic (v := 5) (by decide) dL_law_248) ?_
  refine YE.op (pc' := 250) (fun _ => X.iadd dL_law_249) ?_
  refine YE.sald dL_law_250 (fun v5 => ?_)
  refine YE.callVi (As := [.int v1, .int v2, .int v3, .int v4, .int v5]) lk_L_110 rfl cal_X9_feed vir_X9_feed (Nat.le_of_ble_eq_true rfl) (Nat.le_of_ble_eq_true rfl) rfl rfl rfl (Nat.le_of_ble_eq_true rfl) dL_law_251 (fun _ e => m_X9_feed x1 v1 v2 v3 v4 v5 h _ _ e) (fun r6 => ?_)
  refine YE.op (pc' := 255) (fun _ => X.aloadn rfl dL_law_254) ?_
  refine YE.op (pc' := 256) (fun _ => X.aloadn rfl dL_law_255) ?_
  refine YE.op (pc' := 258) (fun _ => X.iload rfl dL_law_256) ?_
  refine YE.op (pc' := 259) (fun _ => X.ic (v := 1) (by decide) dL_law_258) ?_
  refine YE.op (pc' := 260) (fun _ => X.iadd dL_law_259) ?_
  refine YE.sald dL_law_260 (fun v7 => ?_)
  refine YE.op (pc' := 262) (fun _ => X.aloadn rfl dL_law_261) ?_
  refine YE.op (pc' := 264) (fun _ => X.iload rfl dL_law_262) ?_
  refine YE.op (pc' := 265) (fun _ => X.ic (v := 2) (by decide) dL_law_264) ?_
  refine YE.op (pc' := 266) (fun _ => X.iadd dL_law_265) ?_
  refine YE.sald dL_law_266 (fun v8 => ?_)
  refine YE.op (pc' := 268) (fun _ => X.aloadn rfl dL_law_267) ?_
  refine YE.op (pc' := 270) (fun _ => X.iload rfl dL_law_268) ?_
  refine YE.op (pc' := 271) (fun _ => X.ic (v := 3) (by decide) dL_law_270) ?_
  refine YE.op (pc' := 272) (fun _ => X.iadd dL_law_271) ?_
  refine YE.sald dL_law_272 (fun v9 => ?_)
  refine YE.op (pc' := 274) (fun _ => X.aloadn rfl dL_law_273) ?_
  refine YE.op (pc' := 276) (fun _ => X.iload rfl dL_law_274) ?_
  refine YE.op (pc' := 277) (fun _ => X.ic (v := 4) (by decide) dL_law_276) ?_
  refine YE.op (pc' := 278) (fun _ => X.iadd dL_law_277) ?_
  refine YE.sald dL_law_278 (fun v10 => ?_)
  refine YE.op (pc' := 280) (fun _ => X.aloadn rfl dL_law_279) ?_
  refine YE.op (pc' := 282) (fun _ => X.iload rfl dL_law_280) ?_
  refine YE.op (pc' := 283) (fun _ => X.ic (v := 5) (by decide) dL_law_282) ?_
  refine YE.op (pc' := 284) (fun _ => X.iadd dL_law_283) ?_
  refine YE.sald dL_law_284 (fun v11 => ?_)
  refine YE.callVi (As := [.int v7, .int v8, .int v9, .int v10, .int v11]) lk_L_114 rfl cal_X10_feed vir_X10_feed (Nat.le_of_ble_eq_true rfl) (Nat.le_of_ble_eq_true rfl) rfl rfl rfl (Nat.le_of_ble_eq_true rfl) dL_law_285 (fun _ e => m_X10_feed x2 v7 v8 v9 v10 v11 r6.2 _ _ e) (fun r12 => ?_)
  refine YE.cmpeq 2297 (by decide) dL_law_288 ?_ ?_
  · exact hK i r12.2 ex
  · refine YE.op (pc' := 292) (fun _ => X.ic (v := 0) (by decide) dL_law_291) ?_
    exact YE.zret rfl (by decide) dL_law_292
def f_L_C293 (S : List Int32) (x1 x2 x3 : Nat) (K : Int32 → xH → Nat → Option (Int32 × xH × Nat)) (i : Int32) (h : xH) (ex : Nat) : Option (Int32 × xH × Nat) :=
  (sc S (i + (1 : Int32))).bind fun v1 =>
  (f_L_text x1 v1 x3 h).bind fun r2 =>
  (sc S (i + (1 : Int32))).bind fun v3 =>
  (vc r2.2.1 10 x2 (f_X10_text x2 v3 r2.2.1)).bind fun r4 =>
  (vc r4.2 10 x2 (f_X10_thrown x2 r4.2)).bind fun r5 =>
  if r5.1 = r2.1 then
    if r2.1 = (0 : Int32) then
      (aJ r5.2 x3 (0 : Int32)).bind fun v6 =>
      if (lg_cmp v6 r4.1.toInt64) = (0 : Int32) then
        K i r5.2 (ex + r2.2.2)
      else
        some ((0 : Int32), r5.2, (ex + r2.2.2))
    else
      K i r5.2 (ex + r2.2.2)
  else
    some ((0 : Int32), r5.2, (ex + r2.2.2))
theorem y_L_C293 {g : xG} {h0 : xH} (x1 x2 x3 : Nat) {K : Int32 → xH → Nat → Option (Int32 × xH × Nat)} (hK : ∀ (i : Int32) (h : xH) (ex : Nat), YE g DL_law h0 false iW (K i h ex) 2297 [some (.ref 1000000), some (.ref x1), some (.ref x2), some (.ref x3), some (.int i), none, none] [] h ex) (i : Int32) (h : xH) (ex : Nat) : YE g DL_law h0 false iW (f_L_C293 (gX g) x1 x2 x3 K i h ex) 293 [some (.ref 1000000), some (.ref x1), some (.ref x2), some (.ref x3), some (.int i), none, none] [] h ex := by
  unfold f_L_C293
  refine YE.op (pc' := 294) (fun _ => X.aloadn rfl dL_law_293) ?_
  refine YE.op (pc' := 295) (fun _ => X.aloadn rfl dL_law_294) ?_
  refine YE.op (pc' := 297) (fun _ => X.iload rfl dL_law_295) ?_
  refine YE.op (pc' := 298) (fun _ => X.ic (v := 1) (by decide) dL_law_297) ?_
  refine YE.op (pc' := 299) (fun _ => X.iadd dL_law_298) ?_
  refine YE.sald dL_law_299 (fun v1 => ?_)
  refine YE.op (pc' := 301) (fun _ => X.aloadn rfl dL_law_300) ?_
  refine YE.callW (As := [.ref x1, .int v1, .ref x3]) lkw_L_text rfl calw_L_text staw_L_text (Nat.le_of_ble_eq_true rfl) rfl rfl (Nat.le_of_ble_eq_true rfl) dL_law_301 (fun _ e => m_L_text x1 v1 x3 h _ _ e) (fun r2 => ?_)
  refine YE.op (pc' := 306) (loc' := [some (.ref 1000000), some (.ref x1), some (.ref x2), some (.ref x3), some (.int i), some (.int r2.1), none]) (fun _ => X.istore (Nat.le_of_ble_eq_true rfl) rfl dL_law_304) ?_
  refine YE.op (pc' := 307) (fun _ => X.aloadn rfl dL_law_306) ?_
  refine YE.op (pc' := 308) (fun _ => X.aloadn rfl dL_law_307) ?_
  refine YE.op (pc' := 310) (fun _ => X.iload rfl dL_law_308) ?_
  refine YE.op (pc' := 311) (fun _ => X.ic (v := 1) (by decide) dL_law_310) ?_
  refine YE.op (pc' := 312) (fun _ => X.iadd dL_law_311) ?_
  refine YE.sald dL_law_312 (fun v3 => ?_)
  refine YE.callVi (As := [.int v3]) lk_L_120 rfl cal_X10_text vir_X10_text (Nat.le_of_ble_eq_true rfl) (Nat.le_of_ble_eq_true rfl) rfl rfl rfl (Nat.le_of_ble_eq_true rfl) dL_law_313 (fun _ e => m_X10_text x2 v3 r2.2.1 _ _ e) (fun r4 => ?_)
  refine YE.op (pc' := 318) (loc' := [some (.ref 1000000), some (.ref x1), some (.ref x2), some (.ref x3), some (.int i), some (.int r2.1), some (.int r4.1)]) (fun _ => X.istore (Nat.le_of_ble_eq_true rfl) rfl dL_law_316) ?_
  refine YE.op (pc' := 319) (fun _ => X.aloadn rfl dL_law_318) ?_
  refine YE.callVi (As := []) lk_L_121 rfl cal_X10_thrown vir_X10_thrown (Nat.le_of_ble_eq_true rfl) (Nat.le_of_ble_eq_true rfl) rfl rfl rfl (Nat.le_of_ble_eq_true rfl) dL_law_319 (fun _ e => m_X10_thrown x2 r4.2 _ _ e) (fun r5 => ?_)
  refine YE.op (pc' := 324) (fun _ => X.iload rfl dL_law_322) ?_
  refine YE.cmpeq 329 (by decide) dL_law_324 ?_ ?_
  · refine YE.op (pc' := 331) (fun _ => X.iload rfl dL_law_329) ?_
    refine YE.ifne 346 (by decide) dL_law_331 ?_ ?_
    · refine YE.op (pc' := 2297) (fun _ => X.goto 2297 (by decide) dL_law_346) ?_
      exact YE.fg (hK i r5.2 (ex + r2.2.2)) (And.intro rfl (And.intro rfl (And.intro rfl (And.intro rfl (And.intro rfl trivial)))))
    · refine YE.op (pc' := 335) (fun _ => X.aloadn rfl dL_law_334) ?_
      refine YE.op (pc' := 336) (fun _ => X.ic (v := 0) (by decide) dL_law_335) ?_
      refine YE.aldJ dL_law_336 (fun v6 => ?_)
      refine YE.op (pc' := 339) (fun _ => X.iload rfl dL_law_337) ?_
      refine YE.op (pc' := 340) (fun _ => X.i2l dL_law_339) ?_
      refine YE.op (pc' := 341) (fun _ => X.lcmp dL_law_340) ?_
      refine YE.ifeq 346 (by decide) dL_law_341 ?_ ?_
      · refine YE.op (pc' := 2297) (fun _ => X.goto 2297 (by decide) dL_law_346) ?_
        exact YE.fg (hK i r5.2 (ex + r2.2.2)) (And.intro rfl (And.intro rfl (And.intro rfl (And.intro rfl (And.intro rfl trivial)))))
      · refine YE.op (pc' := 345) (fun _ => X.ic (v := 0) (by decide) dL_law_344) ?_
        exact YE.zret rfl (by decide) dL_law_345
  · refine YE.op (pc' := 328) (fun _ => X.ic (v := 0) (by decide) dL_law_327) ?_
    exact YE.zret rfl (by decide) dL_law_328
def f_L_C349 (S : List Int32) (x1 x2 x3 : Nat) (K : Int32 → xH → Nat → Option (Int32 × xH × Nat)) (i : Int32) (h : xH) (ex : Nat) : Option (Int32 × xH × Nat) :=
  (vc h 9 x1 (f_X9_fault x1 h)).bind fun r1 =>
  (vc r1.2 10 x2 (f_X10_fault x2 r1.2)).bind fun r2 =>
  if r1.1 = r2.1 then
    K i r2.2 ex
  else
    some ((0 : Int32), r2.2, ex)
theorem y_L_C349 {g : xG} {h0 : xH} (x1 x2 x3 : Nat) {K : Int32 → xH → Nat → Option (Int32 × xH × Nat)} (hK : ∀ (i : Int32) (h : xH) (ex : Nat), YE g DL_law h0 false iW (K i h ex) 2297 [some (.ref 1000000), some (.ref x1), some (.ref x2), some (.ref x3), some (.int i), none, none] [] h ex) (i : Int32) (h : xH) (ex : Nat) : YE g DL_law h0 false iW (f_L_C349 (gX g) x1 x2 x3 K i h ex) 349 [some (.ref 1000000), some (.ref x1), some (.ref x2), some (.ref x3), some (.int i), none, none] [] h ex := by
  unfold f_L_C349
  refine YE.op (pc' := 350) (fun _ => X.aloadn rfl dL_law_349) ?_
  refine YE.callVi (As := []) lk_L_125 rfl cal_X9_fault vir_X9_fault (Nat.le_of_ble_eq_true rfl) (Nat.le_of_ble_eq_true rfl) rfl rfl rfl (Nat.le_of_ble_eq_true rfl) dL_law_350 (fun _ e => m_X9_fault x1 h _ _ e) (fun r1 => ?_)
  refine YE.op (pc' := 354) (fun _ => X.aloadn rfl dL_law_353) ?_
  refine YE.callVi (As := []) lk_L_128 rfl cal_X10_fault vir_X10_fault (Nat.le_of_ble_eq_true rfl) (Nat.le_of_ble_eq_true rfl) rfl rfl rfl (Nat.le_of_ble_eq_true rfl) dL_law_354 (fun _ e => m_X10_fault x2 r1.2 _ _ e) (fun r2 => ?_)
  refine YE.cmpeq 2297 (by decide) dL_law_357 ?_ ?_
  · exact hK i r2.2 ex
  · refine YE.op (pc' := 361) (fun _ => X.ic (v := 0) (by decide) dL_law_360) ?_
    exact YE.zret rfl (by decide) dL_law_361
def f_L_C362 (S : List Int32) (x1 x2 x3 : Nat) (K : Int32 → xH → Nat → Option (Int32 × xH × Nat)) (i : Int32) (h : xH) (ex : Nat) : Option (Int32 × xH × Nat) :=
  (sc S (i + (1 : Int32))).bind fun v1 =>
  (f_L_told x1 v1 x3 h).bind fun r2 =>
  (sc S (i + (1 : Int32))).bind fun v3 =>
  (vc r2.2.1 10 x2 (f_X10_told x2 v3 r2.2.1)).bind fun r4 =>
  (vc r4.2 10 x2 (f_X10_thrown x2 r4.2)).bind fun r5 =>
  if r5.1 = r2.1 then
    if r2.1 = (0 : Int32) then
      (aJ r5.2 x3 (0 : Int32)).bind fun v6 =>
      if (lg_cmp v6 r4.1.toInt64) = (0 : Int32) then
        K i r5.2 (ex + r2.2.2)
      else
        some ((0 : Int32), r5.2, (ex + r2.2.2))
    else
      K i r5.2 (ex + r2.2.2)
  else
    some ((0 : Int32), r5.2, (ex + r2.2.2))
theorem y_L_C362 {g : xG} {h0 : xH} (x1 x2 x3 : Nat) {K : Int32 → xH → Nat → Option (Int32 × xH × Nat)} (hK : ∀ (i : Int32) (h : xH) (ex : Nat), YE g DL_law h0 false iW (K i h ex) 2297 [some (.ref 1000000), some (.ref x1), some (.ref x2), some (.ref x3), some (.int i), none, none] [] h ex) (i : Int32) (h : xH) (ex : Nat) : YE g DL_law h0 false iW (f_L_C362 (gX g) x1 x2 x3 K i h ex) 362 [some (.ref 1000000), some (.ref x1), some (.ref x2), some (.ref x3), some (.int i), none, none] [] h ex := by
  unfold f_L_C362
  refine YE.op (pc' := 363) (fun _ => X.aloadn rfl dL_law_362) ?_
  refine YE.op (pc' := 364) (fun _ => X.aloadn rfl dL_law_363) ?_
  refine YE.op (pc' := 366) (fun _ => X.iload rfl dL_law_364) ?_
  refine YE.op (pc' := 367) (fun _ => X.ic (v := 1) (by decide) dL_law_366) ?_
  refine YE.op (pc' := 368) (fun _ => X.iadd dL_law_367) ?_
  refine YE.sald dL_law_368 (fun v1 => ?_)
  refine YE.op (pc' := 370) (fun _ => X.aloadn rfl dL_law_369) ?_
  refine YE.callW (As := [.ref x1, .int v1, .ref x3]) lkw_L_told rfl calw_L_told staw_L_told (Nat.le_of_ble_eq_true rfl) rfl rfl (Nat.le_of_ble_eq_true rfl) dL_law_370 (fun _ e => m_L_told x1 v1 x3 h _ _ e) (fun r2 => ?_)
  refine YE.op (pc' := 375) (loc' := [some (.ref 1000000), some (.ref x1), some (.ref x2), some (.ref x3), some (.int i), some (.int r2.1), none]) (fun _ => X.istore (Nat.le_of_ble_eq_true rfl) rfl dL_law_373) ?_
  refine YE.op (pc' := 376) (fun _ => X.aloadn rfl dL_law_375) ?_
  refine YE.op (pc' := 377) (fun _ => X.aloadn rfl dL_law_376) ?_
  refine YE.op (pc' := 379) (fun _ => X.iload rfl dL_law_377) ?_
  refine YE.op (pc' := 380) (fun _ => X.ic (v := 1) (by decide) dL_law_379) ?_
  refine YE.op (pc' := 381) (fun _ => X.iadd dL_law_380) ?_
  refine YE.sald dL_law_381 (fun v3 => ?_)
  refine YE.callVi (As := [.int v3]) lk_L_131 rfl cal_X10_told vir_X10_told (Nat.le_of_ble_eq_true rfl) (Nat.le_of_ble_eq_true rfl) rfl rfl rfl (Nat.le_of_ble_eq_true rfl) dL_law_382 (fun _ e => m_X10_told x2 v3 r2.2.1 _ _ e) (fun r4 => ?_)
  refine YE.op (pc' := 387) (loc' := [some (.ref 1000000), some (.ref x1), some (.ref x2), some (.ref x3), some (.int i), some (.int r2.1), some (.int r4.1)]) (fun _ => X.istore (Nat.le_of_ble_eq_true rfl) rfl dL_law_385) ?_
  refine YE.op (pc' := 388) (fun _ => X.aloadn rfl dL_law_387) ?_
  refine YE.callVi (As := []) lk_L_121 rfl cal_X10_thrown vir_X10_thrown (Nat.le_of_ble_eq_true rfl) (Nat.le_of_ble_eq_true rfl) rfl rfl rfl (Nat.le_of_ble_eq_true rfl) dL_law_388 (fun _ e => m_X10_thrown x2 r4.2 _ _ e) (fun r5 => ?_)
  refine YE.op (pc' := 393) (fun _ => X.iload rfl dL_law_391) ?_
  refine YE.cmpeq 398 (by decide) dL_law_393 ?_ ?_
  · refine YE.op (pc' := 400) (fun _ => X.iload rfl dL_law_398) ?_
    refine YE.ifne 415 (by decide) dL_law_400 ?_ ?_
    · refine YE.op (pc' := 2297) (fun _ => X.goto 2297 (by decide) dL_law_415) ?_
      exact YE.fg (hK i r5.2 (ex + r2.2.2)) (And.intro rfl (And.intro rfl (And.intro rfl (And.intro rfl (And.intro rfl trivial)))))
    · refine YE.op (pc' := 404) (fun _ => X.aloadn rfl dL_law_403) ?_
      refine YE.op (pc' := 405) (fun _ => X.ic (v := 0) (by decide) dL_law_404) ?_
      refine YE.aldJ dL_law_405 (fun v6 => ?_)
      refine YE.op (pc' := 408) (fun _ => X.iload rfl dL_law_406) ?_
      refine YE.op (pc' := 409) (fun _ => X.i2l dL_law_408) ?_
      refine YE.op (pc' := 410) (fun _ => X.lcmp dL_law_409) ?_
      refine YE.ifeq 415 (by decide) dL_law_410 ?_ ?_
      · refine YE.op (pc' := 2297) (fun _ => X.goto 2297 (by decide) dL_law_415) ?_
        exact YE.fg (hK i r5.2 (ex + r2.2.2)) (And.intro rfl (And.intro rfl (And.intro rfl (And.intro rfl (And.intro rfl trivial)))))
      · refine YE.op (pc' := 414) (fun _ => X.ic (v := 0) (by decide) dL_law_413) ?_
        exact YE.zret rfl (by decide) dL_law_414
  · refine YE.op (pc' := 397) (fun _ => X.ic (v := 0) (by decide) dL_law_396) ?_
    exact YE.zret rfl (by decide) dL_law_397
def f_L_C418 (S : List Int32) (x1 x2 x3 : Nat) (K : Int32 → xH → Nat → Option (Int32 × xH × Nat)) (i : Int32) (h : xH) (ex : Nat) : Option (Int32 × xH × Nat) :=
  (sc S (i + (1 : Int32))).bind fun v1 =>
  (sc S (i + (2 : Int32))).bind fun v2 =>
  (f_L_partner x1 v1 v2 x3 h).bind fun r3 =>
  (sc S (i + (1 : Int32))).bind fun v4 =>
  (sc S (i + (2 : Int32))).bind fun v5 =>
  (vc r3.2.1 10 x2 (f_X10_partner x2 v4 v5 r3.2.1)).bind fun r6 =>
  (vc r6.2 10 x2 (f_X10_thrown x2 r6.2)).bind fun r7 =>
  if r7.1 = r3.1 then
    if r3.1 = (0 : Int32) then
      (aJ r7.2 x3 (0 : Int32)).bind fun v8 =>
      if (lg_cmp v8 r6.1.toInt64) = (0 : Int32) then
        K i r7.2 (ex + r3.2.2)
      else
        some ((0 : Int32), r7.2, (ex + r3.2.2))
    else
      K i r7.2 (ex + r3.2.2)
  else
    some ((0 : Int32), r7.2, (ex + r3.2.2))
theorem y_L_C418 {g : xG} {h0 : xH} (x1 x2 x3 : Nat) {K : Int32 → xH → Nat → Option (Int32 × xH × Nat)} (hK : ∀ (i : Int32) (h : xH) (ex : Nat), YE g DL_law h0 false iW (K i h ex) 2297 [some (.ref 1000000), some (.ref x1), some (.ref x2), some (.ref x3), some (.int i), none, none] [] h ex) (i : Int32) (h : xH) (ex : Nat) : YE g DL_law h0 false iW (f_L_C418 (gX g) x1 x2 x3 K i h ex) 418 [some (.ref 1000000), some (.ref x1), some (.ref x2), some (.ref x3), some (.int i), none, none] [] h ex := by
  unfold f_L_C418
  refine YE.op (pc' := 419) (fun _ => X.aloadn rfl dL_law_418) ?_
  refine YE.op (pc' := 420) (fun _ => X.aloadn rfl dL_law_419) ?_
  refine YE.op (pc' := 422) (fun _ => X.iload rfl dL_law_420) ?_
  refine YE.op (pc' := 423) (fun _ => X.ic (v := 1) (by decide) dL_law_422) ?_
  refine YE.op (pc' := 424) (fun _ => X.iadd dL_law_423) ?_
  refine YE.sald dL_law_424 (fun v1 => ?_)
  refine YE.op (pc' := 426) (fun _ => X.aloadn rfl dL_law_425) ?_
  refine YE.op (pc' := 428) (fun _ => X.iload rfl dL_law_426) ?_
  refine YE.op (pc' := 429) (fun _ => X.ic (v := 2) (by decide) dL_law_428) ?_
  refine YE.op (pc' := 430) (fun _ => X.iadd dL_law_429) ?_
  refine YE.sald dL_law_430 (fun v2 => ?_)
  refine YE.op (pc' := 432) (fun _ => X.aloadn rfl dL_law_431) ?_
  refine YE.callW (As := [.ref x1, .int v1, .int v2, .ref x3]) lkw_L_partner rfl calw_L_partner staw_L_partner (Nat.le_of_ble_eq_true rfl) rfl rfl (Nat.le_of_ble_eq_true rfl) dL_law_432 (fun _ e => m_L_partner x1 v1 v2 x3 h _ _ e) (fun r3 => ?_)
  refine YE.op (pc' := 437) (loc' := [some (.ref 1000000), some (.ref x1), some (.ref x2), some (.ref x3), some (.int i), some (.int r3.1), none]) (fun _ => X.istore (Nat.le_of_ble_eq_true rfl) rfl dL_law_435) ?_
  refine YE.op (pc' := 438) (fun _ => X.aloadn rfl dL_law_437) ?_
  refine YE.op (pc' := 439) (fun _ => X.aloadn rfl dL_law_438) ?_
  refine YE.op (pc' := 441) (fun _ => X.iload rfl dL_law_439) ?_
  refine YE.op (pc' := 442) (fun _ => X.ic (v := 1) (by decide) dL_law_441) ?_
  refine YE.op (pc' := 443) (fun _ => X.iadd dL_law_442) ?_
  refine YE.sald dL_law_443 (fun v4 => ?_)
  refine YE.op (pc' := 445) (fun _ => X.aloadn rfl dL_law_444) ?_
  refine YE.op (pc' := 447) (fun _ => X.iload rfl dL_law_445) ?_
  refine YE.op (pc' := 448) (fun _ => X.ic (v := 2) (by decide) dL_law_447) ?_
  refine YE.op (pc' := 449) (fun _ => X.iadd dL_law_448) ?_
  refine YE.sald dL_law_449 (fun v5 => ?_)
  refine YE.callVi (As := [.int v4, .int v5]) lk_L_135 rfl cal_X10_partner vir_X10_partner (Nat.le_of_ble_eq_true rfl) (Nat.le_of_ble_eq_true rfl) rfl rfl rfl (Nat.le_of_ble_eq_true rfl) dL_law_450 (fun _ e => m_X10_partner x2 v4 v5 r3.2.1 _ _ e) (fun r6 => ?_)
  refine YE.op (pc' := 455) (loc' := [some (.ref 1000000), some (.ref x1), some (.ref x2), some (.ref x3), some (.int i), some (.int r3.1), some (.int r6.1)]) (fun _ => X.istore (Nat.le_of_ble_eq_true rfl) rfl dL_law_453) ?_
  refine YE.op (pc' := 456) (fun _ => X.aloadn rfl dL_law_455) ?_
  refine YE.callVi (As := []) lk_L_121 rfl cal_X10_thrown vir_X10_thrown (Nat.le_of_ble_eq_true rfl) (Nat.le_of_ble_eq_true rfl) rfl rfl rfl (Nat.le_of_ble_eq_true rfl) dL_law_456 (fun _ e => m_X10_thrown x2 r6.2 _ _ e) (fun r7 => ?_)
  refine YE.op (pc' := 461) (fun _ => X.iload rfl dL_law_459) ?_
  refine YE.cmpeq 466 (by decide) dL_law_461 ?_ ?_
  · refine YE.op (pc' := 468) (fun _ => X.iload rfl dL_law_466) ?_
    refine YE.ifne 483 (by decide) dL_law_468 ?_ ?_
    · refine YE.op (pc' := 2297) (fun _ => X.goto 2297 (by decide) dL_law_483) ?_
      exact YE.fg (hK i r7.2 (ex + r3.2.2)) (And.intro rfl (And.intro rfl (And.intro rfl (And.intro rfl (And.intro rfl trivial)))))
    · refine YE.op (pc' := 472) (fun _ => X.aloadn rfl dL_law_471) ?_
      refine YE.op (pc' := 473) (fun _ => X.ic (v := 0) (by decide) dL_law_472) ?_
      refine YE.aldJ dL_law_473 (fun v8 => ?_)
      refine YE.op (pc' := 476) (fun _ => X.iload rfl dL_law_474) ?_
      refine YE.op (pc' := 477) (fun _ => X.i2l dL_law_476) ?_
      refine YE.op (pc' := 478) (fun _ => X.lcmp dL_law_477) ?_
      refine YE.ifeq 483 (by decide) dL_law_478 ?_ ?_
      · refine YE.op (pc' := 2297) (fun _ => X.goto 2297 (by decide) dL_law_483) ?_
        exact YE.fg (hK i r7.2 (ex + r3.2.2)) (And.intro rfl (And.intro rfl (And.intro rfl (And.intro rfl (And.intro rfl trivial)))))
      · refine YE.op (pc' := 482) (fun _ => X.ic (v := 0) (by decide) dL_law_481) ?_
        exact YE.zret rfl (by decide) dL_law_482
  · refine YE.op (pc' := 465) (fun _ => X.ic (v := 0) (by decide) dL_law_464) ?_
    exact YE.zret rfl (by decide) dL_law_465
def f_L_C486 (S : List Int32) (x1 x2 x3 : Nat) (K : Int32 → xH → Nat → Option (Int32 × xH × Nat)) (i : Int32) (h : xH) (ex : Nat) : Option (Int32 × xH × Nat) :=
  (sc S (i + (1 : Int32))).bind fun v1 =>
  (sc S (i + (2 : Int32))).bind fun v2 =>
  (f_L_cost x1 v1 v2 x3 h).bind fun r3 =>
  (sc S (i + (1 : Int32))).bind fun v4 =>
  (sc S (i + (2 : Int32))).bind fun v5 =>
  (vc r3.2.1 10 x2 (f_X10_cost x2 v4 v5 r3.2.1)).bind fun r6 =>
  (vc r6.2 10 x2 (f_X10_thrown x2 r6.2)).bind fun r7 =>
  if r7.1 = r3.1 then
    if r3.1 = (0 : Int32) then
      (aJ r7.2 x3 (0 : Int32)).bind fun v8 =>
      if (lg_cmp v8 r6.1.toInt64) = (0 : Int32) then
        K i r7.2 (ex + r3.2.2)
      else
        some ((0 : Int32), r7.2, (ex + r3.2.2))
    else
      K i r7.2 (ex + r3.2.2)
  else
    some ((0 : Int32), r7.2, (ex + r3.2.2))
theorem y_L_C486 {g : xG} {h0 : xH} (x1 x2 x3 : Nat) {K : Int32 → xH → Nat → Option (Int32 × xH × Nat)} (hK : ∀ (i : Int32) (h : xH) (ex : Nat), YE g DL_law h0 false iW (K i h ex) 2297 [some (.ref 1000000), some (.ref x1), some (.ref x2), some (.ref x3), some (.int i), none, none] [] h ex) (i : Int32) (h : xH) (ex : Nat) : YE g DL_law h0 false iW (f_L_C486 (gX g) x1 x2 x3 K i h ex) 486 [some (.ref 1000000), some (.ref x1), some (.ref x2), some (.ref x3), some (.int i), none, none] [] h ex := by
  unfold f_L_C486
  refine YE.op (pc' := 487) (fun _ => X.aloadn rfl dL_law_486) ?_
  refine YE.op (pc' := 488) (fun _ => X.aloadn rfl dL_law_487) ?_
  refine YE.op (pc' := 490) (fun _ => X.iload rfl dL_law_488) ?_
  refine YE.op (pc' := 491) (fun _ => X.ic (v := 1) (by decide) dL_law_490) ?_
  refine YE.op (pc' := 492) (fun _ => X.iadd dL_law_491) ?_
  refine YE.sald dL_law_492 (fun v1 => ?_)
  refine YE.op (pc' := 494) (fun _ => X.aloadn rfl dL_law_493) ?_
  refine YE.op (pc' := 496) (fun _ => X.iload rfl dL_law_494) ?_
  refine YE.op (pc' := 497) (fun _ => X.ic (v := 2) (by decide) dL_law_496) ?_
  refine YE.op (pc' := 498) (fun _ => X.iadd dL_law_497) ?_
  refine YE.sald dL_law_498 (fun v2 => ?_)
  refine YE.op (pc' := 500) (fun _ => X.aloadn rfl dL_law_499) ?_
  refine YE.callW (As := [.ref x1, .int v1, .int v2, .ref x3]) lkw_L_cost rfl calw_L_cost staw_L_cost (Nat.le_of_ble_eq_true rfl) rfl rfl (Nat.le_of_ble_eq_true rfl) dL_law_500 (fun _ e => m_L_cost x1 v1 v2 x3 h _ _ e) (fun r3 => ?_)
  refine YE.op (pc' := 505) (loc' := [some (.ref 1000000), some (.ref x1), some (.ref x2), some (.ref x3), some (.int i), some (.int r3.1), none]) (fun _ => X.istore (Nat.le_of_ble_eq_true rfl) rfl dL_law_503) ?_
  refine YE.op (pc' := 506) (fun _ => X.aloadn rfl dL_law_505) ?_
  refine YE.op (pc' := 507) (fun _ => X.aloadn rfl dL_law_506) ?_
  refine YE.op (pc' := 509) (fun _ => X.iload rfl dL_law_507) ?_
  refine YE.op (pc' := 510) (fun _ => X.ic (v := 1) (by decide) dL_law_509) ?_
  refine YE.op (pc' := 511) (fun _ => X.iadd dL_law_510) ?_
  refine YE.sald dL_law_511 (fun v4 => ?_)
  refine YE.op (pc' := 513) (fun _ => X.aloadn rfl dL_law_512) ?_
  refine YE.op (pc' := 515) (fun _ => X.iload rfl dL_law_513) ?_
  refine YE.op (pc' := 516) (fun _ => X.ic (v := 2) (by decide) dL_law_515) ?_
  refine YE.op (pc' := 517) (fun _ => X.iadd dL_law_516) ?_
  refine YE.sald dL_law_517 (fun v5 => ?_)
  refine YE.callVi (As := [.int v4, .int v5]) lk_L_138 rfl cal_X10_cost vir_X10_cost (Nat.le_of_ble_eq_true rfl) (Nat.le_of_ble_eq_true rfl) rfl rfl rfl (Nat.le_of_ble_eq_true rfl) dL_law_518 (fun _ e => m_X10_cost x2 v4 v5 r3.2.1 _ _ e) (fun r6 => ?_)
  refine YE.op (pc' := 523) (loc' := [some (.ref 1000000), some (.ref x1), some (.ref x2), some (.ref x3), some (.int i), some (.int r3.1), some (.int r6.1)]) (fun _ => X.istore (Nat.le_of_ble_eq_true rfl) rfl dL_law_521) ?_
  refine YE.op (pc' := 524) (fun _ => X.aloadn rfl dL_law_523) ?_
  refine YE.callVi (As := []) lk_L_121 rfl cal_X10_thrown vir_X10_thrown (Nat.le_of_ble_eq_true rfl) (Nat.le_of_ble_eq_true rfl) rfl rfl rfl (Nat.le_of_ble_eq_true rfl) dL_law_524 (fun _ e => m_X10_thrown x2 r6.2 _ _ e) (fun r7 => ?_)
  refine YE.op (pc' := 529) (fun _ => X.iload rfl dL_law_527) ?_
  refine YE.cmpeq 534 (by decide) dL_law_529 ?_ ?_
  · refine YE.op (pc' := 536) (fun _ => X.iload rfl dL_law_534) ?_
    refine YE.ifne 551 (by decide) dL_law_536 ?_ ?_
    · refine YE.op (pc' := 2297) (fun _ => X.goto 2297 (by decide) dL_law_551) ?_
      exact YE.fg (hK i r7.2 (ex + r3.2.2)) (And.intro rfl (And.intro rfl (And.intro rfl (And.intro rfl (And.intro rfl trivial)))))
    · refine YE.op (pc' := 540) (fun _ => X.aloadn rfl dL_law_539) ?_
      refine YE.op (pc' := 541) (fun _ => X.ic (v := 0) (by decide) dL_law_540) ?_
      refine YE.aldJ dL_law_541 (fun v8 => ?_)
      refine YE.op (pc' := 544) (fun _ => X.iload rfl dL_law_542) ?_
      refine YE.op (pc' := 545) (fun _ => X.i2l dL_law_544) ?_
      refine YE.op (pc' := 546) (fun _ => X.lcmp dL_law_545) ?_
      refine YE.ifeq 551 (by decide) dL_law_546 ?_ ?_
      · refine YE.op (pc' := 2297) (fun _ => X.goto 2297 (by decide) dL_law_551) ?_
        exact YE.fg (hK i r7.2 (ex + r3.2.2)) (And.intro rfl (And.intro rfl (And.intro rfl (And.intro rfl (And.intro rfl trivial)))))
      · refine YE.op (pc' := 550) (fun _ => X.ic (v := 0) (by decide) dL_law_549) ?_
        exact YE.zret rfl (by decide) dL_law_550
  · refine YE.op (pc' := 533) (fun _ => X.ic (v := 0) (by decide) dL_law_532) ?_
    exact YE.zret rfl (by decide) dL_law_533
def f_L_C554 (S : List Int32) (x1 x2 x3 : Nat) (K : Int32 → xH → Nat → Option (Int32 × xH × Nat)) (i : Int32) (h : xH) (ex : Nat) : Option (Int32 × xH × Nat) :=
  (sc S (i + (1 : Int32))).bind fun v1 =>
  (sc S (i + (2 : Int32))).bind fun v2 =>
  (f_L_fits x1 v1 v2 x3 h).bind fun r3 =>
  (sc S (i + (1 : Int32))).bind fun v4 =>
  (sc S (i + (2 : Int32))).bind fun v5 =>
  (vc r3.2.1 10 x2 (f_X10_fits x2 v4 v5 r3.2.1)).bind fun r6 =>
  (vc r6.2 10 x2 (f_X10_thrown x2 r6.2)).bind fun r7 =>
  if r7.1 = r3.1 then
    if r3.1 = (0 : Int32) then
      (aJ r7.2 x3 (0 : Int32)).bind fun v8 =>
      if (lg_cmp v8 r6.1.toInt64) = (0 : Int32) then
        K i r7.2 (ex + r3.2.2)
      else
        some ((0 : Int32), r7.2, (ex + r3.2.2))
    else
      K i r7.2 (ex + r3.2.2)
  else
    some ((0 : Int32), r7.2, (ex + r3.2.2))
theorem y_L_C554 {g : xG} {h0 : xH} (x1 x2 x3 : Nat) {K : Int32 → xH → Nat → Option (Int32 × xH × Nat)} (hK : ∀ (i : Int32) (h : xH) (ex : Nat), YE g DL_law h0 false iW (K i h ex) 2297 [some (.ref 1000000), some (.ref x1), some (.ref x2), some (.ref x3), some (.int i), none, none] [] h ex) (i : Int32) (h : xH) (ex : Nat) : YE g DL_law h0 false iW (f_L_C554 (gX g) x1 x2 x3 K i h ex) 554 [some (.ref 1000000), some (.ref x1), some (.ref x2), some (.ref x3), some (.int i), none, none] [] h ex := by
  unfold f_L_C554
  refine YE.op (pc' := 555) (fun _ => X.aloadn rfl dL_law_554) ?_
  refine YE.op (pc' := 556) (fun _ => X.aloadn rfl dL_law_555) ?_
  refine YE.op (pc' := 558) (fun _ => X.iload rfl dL_law_556) ?_
  refine YE.op (pc' := 559) (fun _ => X.ic (v := 1) (by decide) dL_law_558) ?_
  refine YE.op (pc' := 560) (fun _ => X.iadd dL_law_559) ?_
  refine YE.sald dL_law_560 (fun v1 => ?_)
  refine YE.op (pc' := 562) (fun _ => X.aloadn rfl dL_law_561) ?_
  refine YE.op (pc' := 564) (fun _ => X.iload rfl dL_law_562) ?_
  refine YE.op (pc' := 565) (fun _ => X.ic (v := 2) (by decide) dL_law_564) ?_
  refine YE.op (pc' := 566) (fun _ => X.iadd dL_law_565) ?_
  refine YE.sald dL_law_566 (fun v2 => ?_)
  refine YE.op (pc' := 568) (fun _ => X.aloadn rfl dL_law_567) ?_
  refine YE.callW (As := [.ref x1, .int v1, .int v2, .ref x3]) lkw_L_fits rfl calw_L_fits staw_L_fits (Nat.le_of_ble_eq_true rfl) rfl rfl (Nat.le_of_ble_eq_true rfl) dL_law_568 (fun _ e => m_L_fits x1 v1 v2 x3 h _ _ e) (fun r3 => ?_)
  refine YE.op (pc' := 573) (loc' := [some (.ref 1000000), some (.ref x1), some (.ref x2), some (.ref x3), some (.int i), some (.int r3.1), none]) (fun _ => X.istore (Nat.le_of_ble_eq_true rfl) rfl dL_law_571) ?_
  refine YE.op (pc' := 574) (fun _ => X.aloadn rfl dL_law_573) ?_
  refine YE.op (pc' := 575) (fun _ => X.aloadn rfl dL_law_574) ?_
  refine YE.op (pc' := 577) (fun _ => X.iload rfl dL_law_575) ?_
  refine YE.op (pc' := 578) (fun _ => X.ic (v := 1) (by decide) dL_law_577) ?_
  refine YE.op (pc' := 579) (fun _ => X.iadd dL_law_578) ?_
  refine YE.sald dL_law_579 (fun v4 => ?_)
  refine YE.op (pc' := 581) (fun _ => X.aloadn rfl dL_law_580) ?_
  refine YE.op (pc' := 583) (fun _ => X.iload rfl dL_law_581) ?_
  refine YE.op (pc' := 584) (fun _ => X.ic (v := 2) (by decide) dL_law_583) ?_
  refine YE.op (pc' := 585) (fun _ => X.iadd dL_law_584) ?_
  refine YE.sald dL_law_585 (fun v5 => ?_)
  refine YE.callVi (As := [.int v4, .int v5]) lk_L_141 rfl cal_X10_fits vir_X10_fits (Nat.le_of_ble_eq_true rfl) (Nat.le_of_ble_eq_true rfl) rfl rfl rfl (Nat.le_of_ble_eq_true rfl) dL_law_586 (fun _ e => m_X10_fits x2 v4 v5 r3.2.1 _ _ e) (fun r6 => ?_)
  refine YE.op (pc' := 591) (loc' := [some (.ref 1000000), some (.ref x1), some (.ref x2), some (.ref x3), some (.int i), some (.int r3.1), some (.int r6.1)]) (fun _ => X.istore (Nat.le_of_ble_eq_true rfl) rfl dL_law_589) ?_
  refine YE.op (pc' := 592) (fun _ => X.aloadn rfl dL_law_591) ?_
  refine YE.callVi (As := []) lk_L_121 rfl cal_X10_thrown vir_X10_thrown (Nat.le_of_ble_eq_true rfl) (Nat.le_of_ble_eq_true rfl) rfl rfl rfl (Nat.le_of_ble_eq_true rfl) dL_law_592 (fun _ e => m_X10_thrown x2 r6.2 _ _ e) (fun r7 => ?_)
  refine YE.op (pc' := 597) (fun _ => X.iload rfl dL_law_595) ?_
  refine YE.cmpeq 602 (by decide) dL_law_597 ?_ ?_
  · refine YE.op (pc' := 604) (fun _ => X.iload rfl dL_law_602) ?_
    refine YE.ifne 619 (by decide) dL_law_604 ?_ ?_
    · refine YE.op (pc' := 2297) (fun _ => X.goto 2297 (by decide) dL_law_619) ?_
      exact YE.fg (hK i r7.2 (ex + r3.2.2)) (And.intro rfl (And.intro rfl (And.intro rfl (And.intro rfl (And.intro rfl trivial)))))
    · refine YE.op (pc' := 608) (fun _ => X.aloadn rfl dL_law_607) ?_
      refine YE.op (pc' := 609) (fun _ => X.ic (v := 0) (by decide) dL_law_608) ?_
      refine YE.aldJ dL_law_609 (fun v8 => ?_)
      refine YE.op (pc' := 612) (fun _ => X.iload rfl dL_law_610) ?_
      refine YE.op (pc' := 613) (fun _ => X.i2l dL_law_612) ?_
      refine YE.op (pc' := 614) (fun _ => X.lcmp dL_law_613) ?_
      refine YE.ifeq 619 (by decide) dL_law_614 ?_ ?_
      · refine YE.op (pc' := 2297) (fun _ => X.goto 2297 (by decide) dL_law_619) ?_
        exact YE.fg (hK i r7.2 (ex + r3.2.2)) (And.intro rfl (And.intro rfl (And.intro rfl (And.intro rfl (And.intro rfl trivial)))))
      · refine YE.op (pc' := 618) (fun _ => X.ic (v := 0) (by decide) dL_law_617) ?_
        exact YE.zret rfl (by decide) dL_law_618
  · refine YE.op (pc' := 601) (fun _ => X.ic (v := 0) (by decide) dL_law_600) ?_
    exact YE.zret rfl (by decide) dL_law_601
def f_L_C622 (S : List Int32) (x1 x2 x3 : Nat) (K : Int32 → xH → Nat → Option (Int32 × xH × Nat)) (i : Int32) (h : xH) (ex : Nat) : Option (Int32 × xH × Nat) :=
  (vc h 9 x1 (f_X9_way x1 h)).bind fun r1 =>
  (vc r1.2 10 x2 (f_X10_way x2 r1.2)).bind fun r2 =>
  if r1.1 = r2.1 then
    K i r2.2 ex
  else
    some ((0 : Int32), r2.2, ex)
theorem y_L_C622 {g : xG} {h0 : xH} (x1 x2 x3 : Nat) {K : Int32 → xH → Nat → Option (Int32 × xH × Nat)} (hK : ∀ (i : Int32) (h : xH) (ex : Nat), YE g DL_law h0 false iW (K i h ex) 2297 [some (.ref 1000000), some (.ref x1), some (.ref x2), some (.ref x3), some (.int i), none, none] [] h ex) (i : Int32) (h : xH) (ex : Nat) : YE g DL_law h0 false iW (f_L_C622 (gX g) x1 x2 x3 K i h ex) 622 [some (.ref 1000000), some (.ref x1), some (.ref x2), some (.ref x3), some (.int i), none, none] [] h ex := by
  unfold f_L_C622
  refine YE.op (pc' := 623) (fun _ => X.aloadn rfl dL_law_622) ?_
  refine YE.callVi (As := []) lk_L_142 rfl cal_X9_way vir_X9_way (Nat.le_of_ble_eq_true rfl) (Nat.le_of_ble_eq_true rfl) rfl rfl rfl (Nat.le_of_ble_eq_true rfl) dL_law_623 (fun _ e => m_X9_way x1 h _ _ e) (fun r1 => ?_)
  refine YE.op (pc' := 627) (fun _ => X.aloadn rfl dL_law_626) ?_
  refine YE.callVi (As := []) lk_L_145 rfl cal_X10_way vir_X10_way (Nat.le_of_ble_eq_true rfl) (Nat.le_of_ble_eq_true rfl) rfl rfl rfl (Nat.le_of_ble_eq_true rfl) dL_law_627 (fun _ e => m_X10_way x2 r1.2 _ _ e) (fun r2 => ?_)
  refine YE.cmpeq 2297 (by decide) dL_law_630 ?_ ?_
  · exact hK i r2.2 ex
  · refine YE.op (pc' := 634) (fun _ => X.ic (v := 0) (by decide) dL_law_633) ?_
    exact YE.zret rfl (by decide) dL_law_634
def f_L_C635 (S : List Int32) (x1 x2 x3 : Nat) (K : Int32 → xH → Nat → Option (Int32 × xH × Nat)) (i : Int32) (h : xH) (ex : Nat) : Option (Int32 × xH × Nat) :=
  (sc S (i + (1 : Int32))).bind fun v1 =>
  (f_L_wayAt x1 v1 x3 h).bind fun r2 =>
  (sc S (i + (1 : Int32))).bind fun v3 =>
  (vc r2.2.1 10 x2 (f_X10_wayAt x2 v3 r2.2.1)).bind fun r4 =>
  (vc r4.2 10 x2 (f_X10_thrown x2 r4.2)).bind fun r5 =>
  if r5.1 = r2.1 then
    if r2.1 = (0 : Int32) then
      (aJ r5.2 x3 (0 : Int32)).bind fun v6 =>
      if (lg_cmp v6 r4.1.toInt64) = (0 : Int32) then
        K i r5.2 (ex + r2.2.2)
      else
        some ((0 : Int32), r5.2, (ex + r2.2.2))
    else
      K i r5.2 (ex + r2.2.2)
  else
    some ((0 : Int32), r5.2, (ex + r2.2.2))
theorem y_L_C635 {g : xG} {h0 : xH} (x1 x2 x3 : Nat) {K : Int32 → xH → Nat → Option (Int32 × xH × Nat)} (hK : ∀ (i : Int32) (h : xH) (ex : Nat), YE g DL_law h0 false iW (K i h ex) 2297 [some (.ref 1000000), some (.ref x1), some (.ref x2), some (.ref x3), some (.int i), none, none] [] h ex) (i : Int32) (h : xH) (ex : Nat) : YE g DL_law h0 false iW (f_L_C635 (gX g) x1 x2 x3 K i h ex) 635 [some (.ref 1000000), some (.ref x1), some (.ref x2), some (.ref x3), some (.int i), none, none] [] h ex := by
  unfold f_L_C635
  refine YE.op (pc' := 636) (fun _ => X.aloadn rfl dL_law_635) ?_
  refine YE.op (pc' := 637) (fun _ => X.aloadn rfl dL_law_636) ?_
  refine YE.op (pc' := 639) (fun _ => X.iload rfl dL_law_637) ?_
  refine YE.op (pc' := 640) (fun _ => X.ic (v := 1) (by decide) dL_law_639) ?_
  refine YE.op (pc' := 641) (fun _ => X.iadd dL_law_640) ?_
  refine YE.sald dL_law_641 (fun v1 => ?_)
  refine YE.op (pc' := 643) (fun _ => X.aloadn rfl dL_law_642) ?_
  refine YE.callW (As := [.ref x1, .int v1, .ref x3]) lkw_L_wayAt rfl calw_L_wayAt staw_L_wayAt (Nat.le_of_ble_eq_true rfl) rfl rfl (Nat.le_of_ble_eq_true rfl) dL_law_643 (fun _ e => m_L_wayAt x1 v1 x3 h _ _ e) (fun r2 => ?_)
  refine YE.op (pc' := 648) (loc' := [some (.ref 1000000), some (.ref x1), some (.ref x2), some (.ref x3), some (.int i), some (.int r2.1), none]) (fun _ => X.istore (Nat.le_of_ble_eq_true rfl) rfl dL_law_646) ?_
  refine YE.op (pc' := 649) (fun _ => X.aloadn rfl dL_law_648) ?_
  refine YE.op (pc' := 650) (fun _ => X.aloadn rfl dL_law_649) ?_
  refine YE.op (pc' := 652) (fun _ => X.iload rfl dL_law_650) ?_
  refine YE.op (pc' := 653) (fun _ => X.ic (v := 1) (by decide) dL_law_652) ?_
  refine YE.op (pc' := 654) (fun _ => X.iadd dL_law_653) ?_
  refine YE.sald dL_law_654 (fun v3 => ?_)
  refine YE.callVi (As := [.int v3]) lk_L_148 rfl cal_X10_wayAt vir_X10_wayAt (Nat.le_of_ble_eq_true rfl) (Nat.le_of_ble_eq_true rfl) rfl rfl rfl (Nat.le_of_ble_eq_true rfl) dL_law_655 (fun _ e => m_X10_wayAt x2 v3 r2.2.1 _ _ e) (fun r4 => ?_)
  refine YE.op (pc' := 660) (loc' := [some (.ref 1000000), some (.ref x1), some (.ref x2), some (.ref x3), some (.int i), some (.int r2.1), some (.int r4.1)]) (fun _ => X.istore (Nat.le_of_ble_eq_true rfl) rfl dL_law_658) ?_
  refine YE.op (pc' := 661) (fun _ => X.aloadn rfl dL_law_660) ?_
  refine YE.callVi (As := []) lk_L_121 rfl cal_X10_thrown vir_X10_thrown (Nat.le_of_ble_eq_true rfl) (Nat.le_of_ble_eq_true rfl) rfl rfl rfl (Nat.le_of_ble_eq_true rfl) dL_law_661 (fun _ e => m_X10_thrown x2 r4.2 _ _ e) (fun r5 => ?_)
  refine YE.op (pc' := 666) (fun _ => X.iload rfl dL_law_664) ?_
  refine YE.cmpeq 671 (by decide) dL_law_666 ?_ ?_
  · refine YE.op (pc' := 673) (fun _ => X.iload rfl dL_law_671) ?_
    refine YE.ifne 688 (by decide) dL_law_673 ?_ ?_
    · refine YE.op (pc' := 2297) (fun _ => X.goto 2297 (by decide) dL_law_688) ?_
      exact YE.fg (hK i r5.2 (ex + r2.2.2)) (And.intro rfl (And.intro rfl (And.intro rfl (And.intro rfl (And.intro rfl trivial)))))
    · refine YE.op (pc' := 677) (fun _ => X.aloadn rfl dL_law_676) ?_
      refine YE.op (pc' := 678) (fun _ => X.ic (v := 0) (by decide) dL_law_677) ?_
      refine YE.aldJ dL_law_678 (fun v6 => ?_)
      refine YE.op (pc' := 681) (fun _ => X.iload rfl dL_law_679) ?_
      refine YE.op (pc' := 682) (fun _ => X.i2l dL_law_681) ?_
      refine YE.op (pc' := 683) (fun _ => X.lcmp dL_law_682) ?_
      refine YE.ifeq 688 (by decide) dL_law_683 ?_ ?_
      · refine YE.op (pc' := 2297) (fun _ => X.goto 2297 (by decide) dL_law_688) ?_
        exact YE.fg (hK i r5.2 (ex + r2.2.2)) (And.intro rfl (And.intro rfl (And.intro rfl (And.intro rfl (And.intro rfl trivial)))))
      · refine YE.op (pc' := 687) (fun _ => X.ic (v := 0) (by decide) dL_law_686) ?_
        exact YE.zret rfl (by decide) dL_law_687
  · refine YE.op (pc' := 670) (fun _ => X.ic (v := 0) (by decide) dL_law_669) ?_
    exact YE.zret rfl (by decide) dL_law_670
def f_L_C691 (S : List Int32) (x1 x2 x3 : Nat) (K : Int32 → xH → Nat → Option (Int32 × xH × Nat)) (i : Int32) (h : xH) (ex : Nat) : Option (Int32 × xH × Nat) :=
  (sc S (i + (1 : Int32))).bind fun v1 =>
  (sc S (i + (2 : Int32))).bind fun v2 =>
  (f_L_wayFrom x1 v1 v2 x3 h).bind fun r3 =>
  (sc S (i + (1 : Int32))).bind fun v4 =>
  (sc S (i + (2 : Int32))).bind fun v5 =>
  (vc r3.2.1 10 x2 (f_X10_wayFrom x2 v4 v5 r3.2.1)).bind fun r6 =>
  (vc r6.2 10 x2 (f_X10_thrown x2 r6.2)).bind fun r7 =>
  if r7.1 = r3.1 then
    if r3.1 = (0 : Int32) then
      (aJ r7.2 x3 (0 : Int32)).bind fun v8 =>
      if (lg_cmp v8 r6.1.toInt64) = (0 : Int32) then
        K i r7.2 (ex + r3.2.2)
      else
        some ((0 : Int32), r7.2, (ex + r3.2.2))
    else
      K i r7.2 (ex + r3.2.2)
  else
    some ((0 : Int32), r7.2, (ex + r3.2.2))
theorem y_L_C691 {g : xG} {h0 : xH} (x1 x2 x3 : Nat) {K : Int32 → xH → Nat → Option (Int32 × xH × Nat)} (hK : ∀ (i : Int32) (h : xH) (ex : Nat), YE g DL_law h0 false iW (K i h ex) 2297 [some (.ref 1000000), some (.ref x1), some (.ref x2), some (.ref x3), some (.int i), none, none] [] h ex) (i : Int32) (h : xH) (ex : Nat) : YE g DL_law h0 false iW (f_L_C691 (gX g) x1 x2 x3 K i h ex) 691 [some (.ref 1000000), some (.ref x1), some (.ref x2), some (.ref x3), some (.int i), none, none] [] h ex := by
  unfold f_L_C691
  refine YE.op (pc' := 692) (fun _ => X.aloadn rfl dL_law_691) ?_
  refine YE.op (pc' := 693) (fun _ => X.aloadn rfl dL_law_692) ?_
  refine YE.op (pc' := 695) (fun _ => X.iload rfl dL_law_693) ?_
  refine YE.op (pc' := 696) (fun _ => X.ic (v := 1) (by decide) dL_law_695) ?_
  refine YE.op (pc' := 697) (fun _ => X.iadd dL_law_696) ?_
  refine YE.sald dL_law_697 (fun v1 => ?_)
  refine YE.op (pc' := 699) (fun _ => X.aloadn rfl dL_law_698) ?_
  refine YE.op (pc' := 701) (fun _ => X.iload rfl dL_law_699) ?_
  refine YE.op (pc' := 702) (fun _ => X.ic (v := 2) (by decide) dL_law_701) ?_
  refine YE.op (pc' := 703) (fun _ => X.iadd dL_law_702) ?_
  refine YE.sald dL_law_703 (fun v2 => ?_)
  refine YE.op (pc' := 705) (fun _ => X.aloadn rfl dL_law_704) ?_
  refine YE.callW (As := [.ref x1, .int v1, .int v2, .ref x3]) lkw_L_wayFrom rfl calw_L_wayFrom staw_L_wayFrom (Nat.le_of_ble_eq_true rfl) rfl rfl (Nat.le_of_ble_eq_true rfl) dL_law_705 (fun _ e => m_L_wayFrom x1 v1 v2 x3 h _ _ e) (fun r3 => ?_)
  refine YE.op (pc' := 710) (loc' := [some (.ref 1000000), some (.ref x1), some (.ref x2), some (.ref x3), some (.int i), some (.int r3.1), none]) (fun _ => X.istore (Nat.le_of_ble_eq_true rfl) rfl dL_law_708) ?_
  refine YE.op (pc' := 711) (fun _ => X.aloadn rfl dL_law_710) ?_
  refine YE.op (pc' := 712) (fun _ => X.aloadn rfl dL_law_711) ?_
  refine YE.op (pc' := 714) (fun _ => X.iload rfl dL_law_712) ?_
  refine YE.op (pc' := 715) (fun _ => X.ic (v := 1) (by decide) dL_law_714) ?_
  refine YE.op (pc' := 716) (fun _ => X.iadd dL_law_715) ?_
  refine YE.sald dL_law_716 (fun v4 => ?_)
  refine YE.op (pc' := 718) (fun _ => X.aloadn rfl dL_law_717) ?_
  refine YE.op (pc' := 720) (fun _ => X.iload rfl dL_law_718) ?_
  refine YE.op (pc' := 721) (fun _ => X.ic (v := 2) (by decide) dL_law_720) ?_
  refine YE.op (pc' := 722) (fun _ => X.iadd dL_law_721) ?_
  refine YE.sald dL_law_722 (fun v5 => ?_)
  refine YE.callVi (As := [.int v4, .int v5]) lk_L_151 rfl cal_X10_wayFrom vir_X10_wayFrom (Nat.le_of_ble_eq_true rfl) (Nat.le_of_ble_eq_true rfl) rfl rfl rfl (Nat.le_of_ble_eq_true rfl) dL_law_723 (fun _ e => m_X10_wayFrom x2 v4 v5 r3.2.1 _ _ e) (fun r6 => ?_)
  refine YE.op (pc' := 728) (loc' := [some (.ref 1000000), some (.ref x1), some (.ref x2), some (.ref x3), some (.int i), some (.int r3.1), some (.int r6.1)]) (fun _ => X.istore (Nat.le_of_ble_eq_true rfl) rfl dL_law_726) ?_
  refine YE.op (pc' := 729) (fun _ => X.aloadn rfl dL_law_728) ?_
  refine YE.callVi (As := []) lk_L_121 rfl cal_X10_thrown vir_X10_thrown (Nat.le_of_ble_eq_true rfl) (Nat.le_of_ble_eq_true rfl) rfl rfl rfl (Nat.le_of_ble_eq_true rfl) dL_law_729 (fun _ e => m_X10_thrown x2 r6.2 _ _ e) (fun r7 => ?_)
  refine YE.op (pc' := 734) (fun _ => X.iload rfl dL_law_732) ?_
  refine YE.cmpeq 739 (by decide) dL_law_734 ?_ ?_
  · refine YE.op (pc' := 741) (fun _ => X.iload rfl dL_law_739) ?_
    refine YE.ifne 756 (by decide) dL_law_741 ?_ ?_
    · refine YE.op (pc' := 2297) (fun _ => X.goto 2297 (by decide) dL_law_756) ?_
      exact YE.fg (hK i r7.2 (ex + r3.2.2)) (And.intro rfl (And.intro rfl (And.intro rfl (And.intro rfl (And.intro rfl trivial)))))
    · refine YE.op (pc' := 745) (fun _ => X.aloadn rfl dL_law_744) ?_
      refine YE.op (pc' := 746) (fun _ => X.ic (v := 0) (by decide) dL_law_745) ?_
      refine YE.aldJ dL_law_746 (fun v8 => ?_)
      refine YE.op (pc' := 749) (fun _ => X.iload rfl dL_law_747) ?_
      refine YE.op (pc' := 750) (fun _ => X.i2l dL_law_749) ?_
      refine YE.op (pc' := 751) (fun _ => X.lcmp dL_law_750) ?_
      refine YE.ifeq 756 (by decide) dL_law_751 ?_ ?_
      · refine YE.op (pc' := 2297) (fun _ => X.goto 2297 (by decide) dL_law_756) ?_
        exact YE.fg (hK i r7.2 (ex + r3.2.2)) (And.intro rfl (And.intro rfl (And.intro rfl (And.intro rfl (And.intro rfl trivial)))))
      · refine YE.op (pc' := 755) (fun _ => X.ic (v := 0) (by decide) dL_law_754) ?_
        exact YE.zret rfl (by decide) dL_law_755
  · refine YE.op (pc' := 738) (fun _ => X.ic (v := 0) (by decide) dL_law_737) ?_
    exact YE.zret rfl (by decide) dL_law_738
def f_L_C759 (S : List Int32) (x1 x2 x3 : Nat) (K : Int32 → xH → Nat → Option (Int32 × xH × Nat)) (i : Int32) (h : xH) (ex : Nat) : Option (Int32 × xH × Nat) :=
  (sc S (i + (1 : Int32))).bind fun v1 =>
  (f_L_phases x1 v1 x3 h).bind fun r2 =>
  (sc S (i + (1 : Int32))).bind fun v3 =>
  (vc r2.2.1 10 x2 (f_X10_phases x2 v3 r2.2.1)).bind fun r4 =>
  (vc r4.2 10 x2 (f_X10_thrown x2 r4.2)).bind fun r5 =>
  if r5.1 = r2.1 then
    if r2.1 = (0 : Int32) then
      (aJ r5.2 x3 (0 : Int32)).bind fun v6 =>
      if (lg_cmp v6 r4.1.toInt64) = (0 : Int32) then
        K i r5.2 (ex + r2.2.2)
      else
        some ((0 : Int32), r5.2, (ex + r2.2.2))
    else
      K i r5.2 (ex + r2.2.2)
  else
    some ((0 : Int32), r5.2, (ex + r2.2.2))
theorem y_L_C759 {g : xG} {h0 : xH} (x1 x2 x3 : Nat) {K : Int32 → xH → Nat → Option (Int32 × xH × Nat)} (hK : ∀ (i : Int32) (h : xH) (ex : Nat), YE g DL_law h0 false iW (K i h ex) 2297 [some (.ref 1000000), some (.ref x1), some (.ref x2), some (.ref x3), some (.int i), none, none] [] h ex) (i : Int32) (h : xH) (ex : Nat) : YE g DL_law h0 false iW (f_L_C759 (gX g) x1 x2 x3 K i h ex) 759 [some (.ref 1000000), some (.ref x1), some (.ref x2), some (.ref x3), some (.int i), none, none] [] h ex := by
  unfold f_L_C759
  refine YE.op (pc' := 760) (fun _ => X.aloadn rfl dL_law_759) ?_
  refine YE.op (pc' := 761) (fun _ => X.aloadn rfl dL_law_760) ?_
  refine YE.op (pc' := 763) (fun _ => X.iload rfl dL_law_761) ?_
  refine YE.op (pc' := 764) (fun _ => X.ic (v := 1) (by decide) dL_law_763) ?_
  refine YE.op (pc' := 765) (fun _ => X.iadd dL_law_764) ?_
  refine YE.sald dL_law_765 (fun v1 => ?_)
  refine YE.op (pc' := 767) (fun _ => X.aloadn rfl dL_law_766) ?_
  refine YE.callW (As := [.ref x1, .int v1, .ref x3]) lkw_L_phases rfl calw_L_phases staw_L_phases (Nat.le_of_ble_eq_true rfl) rfl rfl (Nat.le_of_ble_eq_true rfl) dL_law_767 (fun _ e => m_L_phases x1 v1 x3 h _ _ e) (fun r2 => ?_)
  refine YE.op (pc' := 772) (loc' := [some (.ref 1000000), some (.ref x1), some (.ref x2), some (.ref x3), some (.int i), some (.int r2.1), none]) (fun _ => X.istore (Nat.le_of_ble_eq_true rfl) rfl dL_law_770) ?_
  refine YE.op (pc' := 773) (fun _ => X.aloadn rfl dL_law_772) ?_
  refine YE.op (pc' := 774) (fun _ => X.aloadn rfl dL_law_773) ?_
  refine YE.op (pc' := 776) (fun _ => X.iload rfl dL_law_774) ?_
  refine YE.op (pc' := 777) (fun _ => X.ic (v := 1) (by decide) dL_law_776) ?_
  refine YE.op (pc' := 778) (fun _ => X.iadd dL_law_777) ?_
  refine YE.sald dL_law_778 (fun v3 => ?_)
  refine YE.callVi (As := [.int v3]) lk_L_154 rfl cal_X10_phases vir_X10_phases (Nat.le_of_ble_eq_true rfl) (Nat.le_of_ble_eq_true rfl) rfl rfl rfl (Nat.le_of_ble_eq_true rfl) dL_law_779 (fun _ e => m_X10_phases x2 v3 r2.2.1 _ _ e) (fun r4 => ?_)
  refine YE.op (pc' := 784) (loc' := [some (.ref 1000000), some (.ref x1), some (.ref x2), some (.ref x3), some (.int i), some (.int r2.1), some (.int r4.1)]) (fun _ => X.istore (Nat.le_of_ble_eq_true rfl) rfl dL_law_782) ?_
  refine YE.op (pc' := 785) (fun _ => X.aloadn rfl dL_law_784) ?_
  refine YE.callVi (As := []) lk_L_121 rfl cal_X10_thrown vir_X10_thrown (Nat.le_of_ble_eq_true rfl) (Nat.le_of_ble_eq_true rfl) rfl rfl rfl (Nat.le_of_ble_eq_true rfl) dL_law_785 (fun _ e => m_X10_thrown x2 r4.2 _ _ e) (fun r5 => ?_)
  refine YE.op (pc' := 790) (fun _ => X.iload rfl dL_law_788) ?_
  refine YE.cmpeq 795 (by decide) dL_law_790 ?_ ?_
  · refine YE.op (pc' := 797) (fun _ => X.iload rfl dL_law_795) ?_
    refine YE.ifne 812 (by decide) dL_law_797 ?_ ?_
    · refine YE.op (pc' := 2297) (fun _ => X.goto 2297 (by decide) dL_law_812) ?_
      exact YE.fg (hK i r5.2 (ex + r2.2.2)) (And.intro rfl (And.intro rfl (And.intro rfl (And.intro rfl (And.intro rfl trivial)))))
    · refine YE.op (pc' := 801) (fun _ => X.aloadn rfl dL_law_800) ?_
      refine YE.op (pc' := 802) (fun _ => X.ic (v := 0) (by decide) dL_law_801) ?_
      refine YE.aldJ dL_law_802 (fun v6 => ?_)
      refine YE.op (pc' := 805) (fun _ => X.iload rfl dL_law_803) ?_
      refine YE.op (pc' := 806) (fun _ => X.i2l dL_law_805) ?_
      refine YE.op (pc' := 807) (fun _ => X.lcmp dL_law_806) ?_
      refine YE.ifeq 812 (by decide) dL_law_807 ?_ ?_
      · refine YE.op (pc' := 2297) (fun _ => X.goto 2297 (by decide) dL_law_812) ?_
        exact YE.fg (hK i r5.2 (ex + r2.2.2)) (And.intro rfl (And.intro rfl (And.intro rfl (And.intro rfl (And.intro rfl trivial)))))
      · refine YE.op (pc' := 811) (fun _ => X.ic (v := 0) (by decide) dL_law_810) ?_
        exact YE.zret rfl (by decide) dL_law_811
  · refine YE.op (pc' := 794) (fun _ => X.ic (v := 0) (by decide) dL_law_793) ?_
    exact YE.zret rfl (by decide) dL_law_794
def f_L_C815 (S : List Int32) (x1 x2 x3 : Nat) (K : Int32 → xH → Nat → Option (Int32 × xH × Nat)) (i : Int32) (h : xH) (ex : Nat) : Option (Int32 × xH × Nat) :=
  (sc S (i + (1 : Int32))).bind fun v1 =>
  (f_L_phased x1 v1 x3 h).bind fun r2 =>
  (sc S (i + (1 : Int32))).bind fun v3 =>
  (vc r2.2.1 10 x2 (f_X10_phased x2 v3 r2.2.1)).bind fun r4 =>
  (vc r4.2 10 x2 (f_X10_thrown x2 r4.2)).bind fun r5 =>
  if r5.1 = r2.1 then
    if r2.1 = (0 : Int32) then
      (aJ r5.2 x3 (0 : Int32)).bind fun v6 =>
      if (lg_cmp v6 r4.1.toInt64) = (0 : Int32) then
        K i r5.2 (ex + r2.2.2)
      else
        some ((0 : Int32), r5.2, (ex + r2.2.2))
    else
      K i r5.2 (ex + r2.2.2)
  else
    some ((0 : Int32), r5.2, (ex + r2.2.2))
theorem y_L_C815 {g : xG} {h0 : xH} (x1 x2 x3 : Nat) {K : Int32 → xH → Nat → Option (Int32 × xH × Nat)} (hK : ∀ (i : Int32) (h : xH) (ex : Nat), YE g DL_law h0 false iW (K i h ex) 2297 [some (.ref 1000000), some (.ref x1), some (.ref x2), some (.ref x3), some (.int i), none, none] [] h ex) (i : Int32) (h : xH) (ex : Nat) : YE g DL_law h0 false iW (f_L_C815 (gX g) x1 x2 x3 K i h ex) 815 [some (.ref 1000000), some (.ref x1), some (.ref x2), some (.ref x3), some (.int i), none, none] [] h ex := by
  unfold f_L_C815
  refine YE.op (pc' := 816) (fun _ => X.aloadn rfl dL_law_815) ?_
  refine YE.op (pc' := 817) (fun _ => X.aloadn rfl dL_law_816) ?_
  refine YE.op (pc' := 819) (fun _ => X.iload rfl dL_law_817) ?_
  refine YE.op (pc' := 820) (fun _ => X.ic (v := 1) (by decide) dL_law_819) ?_
  refine YE.op (pc' := 821) (fun _ => X.iadd dL_law_820) ?_
  refine YE.sald dL_law_821 (fun v1 => ?_)
  refine YE.op (pc' := 823) (fun _ => X.aloadn rfl dL_law_822) ?_
  refine YE.callW (As := [.ref x1, .int v1, .ref x3]) lkw_L_phased rfl calw_L_phased staw_L_phased (Nat.le_of_ble_eq_true rfl) rfl rfl (Nat.le_of_ble_eq_true rfl) dL_law_823 (fun _ e => m_L_phased x1 v1 x3 h _ _ e) (fun r2 => ?_)
  refine YE.op (pc' := 828) (loc' := [some (.ref 1000000), some (.ref x1), some (.ref x2), some (.ref x3), some (.int i), some (.int r2.1), none]) (fun _ => X.istore (Nat.le_of_ble_eq_true rfl) rfl dL_law_826) ?_
  refine YE.op (pc' := 829) (fun _ => X.aloadn rfl dL_law_828) ?_
  refine YE.op (pc' := 830) (fun _ => X.aloadn rfl dL_law_829) ?_
  refine YE.op (pc' := 832) (fun _ => X.iload rfl dL_law_830) ?_
  refine YE.op (pc' := 833) (fun _ => X.ic (v := 1) (by decide) dL_law_832) ?_
  refine YE.op (pc' := 834) (fun _ => X.iadd dL_law_833) ?_
  refine YE.sald dL_law_834 (fun v3 => ?_)
  refine YE.callVi (As := [.int v3]) lk_L_157 rfl cal_X10_phased vir_X10_phased (Nat.le_of_ble_eq_true rfl) (Nat.le_of_ble_eq_true rfl) rfl rfl rfl (Nat.le_of_ble_eq_true rfl) dL_law_835 (fun _ e => m_X10_phased x2 v3 r2.2.1 _ _ e) (fun r4 => ?_)
  refine YE.op (pc' := 840) (loc' := [some (.ref 1000000), some (.ref x1), some (.ref x2), some (.ref x3), some (.int i), some (.int r2.1), some (.int r4.1)]) (fun _ => X.istore (Nat.le_of_ble_eq_true rfl) rfl dL_law_838) ?_
  refine YE.op (pc' := 841) (fun _ => X.aloadn rfl dL_law_840) ?_
  refine YE.callVi (As := []) lk_L_121 rfl cal_X10_thrown vir_X10_thrown (Nat.le_of_ble_eq_true rfl) (Nat.le_of_ble_eq_true rfl) rfl rfl rfl (Nat.le_of_ble_eq_true rfl) dL_law_841 (fun _ e => m_X10_thrown x2 r4.2 _ _ e) (fun r5 => ?_)
  refine YE.op (pc' := 846) (fun _ => X.iload rfl dL_law_844) ?_
  refine YE.cmpeq 851 (by decide) dL_law_846 ?_ ?_
  · refine YE.op (pc' := 853) (fun _ => X.iload rfl dL_law_851) ?_
    refine YE.ifne 868 (by decide) dL_law_853 ?_ ?_
    · refine YE.op (pc' := 2297) (fun _ => X.goto 2297 (by decide) dL_law_868) ?_
      exact YE.fg (hK i r5.2 (ex + r2.2.2)) (And.intro rfl (And.intro rfl (And.intro rfl (And.intro rfl (And.intro rfl trivial)))))
    · refine YE.op (pc' := 857) (fun _ => X.aloadn rfl dL_law_856) ?_
      refine YE.op (pc' := 858) (fun _ => X.ic (v := 0) (by decide) dL_law_857) ?_
      refine YE.aldJ dL_law_858 (fun v6 => ?_)
      refine YE.op (pc' := 861) (fun _ => X.iload rfl dL_law_859) ?_
      refine YE.op (pc' := 862) (fun _ => X.i2l dL_law_861) ?_
      refine YE.op (pc' := 863) (fun _ => X.lcmp dL_law_862) ?_
      refine YE.ifeq 868 (by decide) dL_law_863 ?_ ?_
      · refine YE.op (pc' := 2297) (fun _ => X.goto 2297 (by decide) dL_law_868) ?_
        exact YE.fg (hK i r5.2 (ex + r2.2.2)) (And.intro rfl (And.intro rfl (And.intro rfl (And.intro rfl (And.intro rfl trivial)))))
      · refine YE.op (pc' := 867) (fun _ => X.ic (v := 0) (by decide) dL_law_866) ?_
        exact YE.zret rfl (by decide) dL_law_867
  · refine YE.op (pc' := 850) (fun _ => X.ic (v := 0) (by decide) dL_law_849) ?_
    exact YE.zret rfl (by decide) dL_law_850
def f_L_C871 (S : List Int32) (x1 x2 x3 : Nat) (K : Int32 → xH → Nat → Option (Int32 × xH × Nat)) (i : Int32) (h : xH) (ex : Nat) : Option (Int32 × xH × Nat) :=
  (vc h 9 x1 (f_X9_most x1 h)).bind fun r1 =>
  (vc r1.2 10 x2 (f_X10_most x2 r1.2)).bind fun r2 =>
  if r1.1 = r2.1 then
    K i r2.2 ex
  else
    some ((0 : Int32), r2.2, ex)
theorem y_L_C871 {g : xG} {h0 : xH} (x1 x2 x3 : Nat) {K : Int32 → xH → Nat → Option (Int32 × xH × Nat)} (hK : ∀ (i : Int32) (h : xH) (ex : Nat), YE g DL_law h0 false iW (K i h ex) 2297 [some (.ref 1000000), some (.ref x1), some (.ref x2), some (.ref x3), some (.int i), none, none] [] h ex) (i : Int32) (h : xH) (ex : Nat) : YE g DL_law h0 false iW (f_L_C871 (gX g) x1 x2 x3 K i h ex) 871 [some (.ref 1000000), some (.ref x1), some (.ref x2), some (.ref x3), some (.int i), none, none] [] h ex := by
  unfold f_L_C871
  refine YE.op (pc' := 872) (fun _ => X.aloadn rfl dL_law_871) ?_
  refine YE.callVi (As := []) lk_L_158 rfl cal_X9_most vir_X9_most (Nat.le_of_ble_eq_true rfl) (Nat.le_of_ble_eq_true rfl) rfl rfl rfl (Nat.le_of_ble_eq_true rfl) dL_law_872 (fun _ e => m_X9_most x1 h _ _ e) (fun r1 => ?_)
  refine YE.op (pc' := 876) (fun _ => X.aloadn rfl dL_law_875) ?_
  refine YE.callVi (As := []) lk_L_161 rfl cal_X10_most vir_X10_most (Nat.le_of_ble_eq_true rfl) (Nat.le_of_ble_eq_true rfl) rfl rfl rfl (Nat.le_of_ble_eq_true rfl) dL_law_876 (fun _ e => m_X10_most x2 r1.2 _ _ e) (fun r2 => ?_)
  refine YE.cmpeq 2297 (by decide) dL_law_879 ?_ ?_
  · exact hK i r2.2 ex
  · refine YE.op (pc' := 883) (fun _ => X.ic (v := 0) (by decide) dL_law_882) ?_
    exact YE.zret rfl (by decide) dL_law_883
def f_L_C884 (S : List Int32) (x1 x2 x3 : Nat) (K : Int32 → xH → Nat → Option (Int32 × xH × Nat)) (i : Int32) (h : xH) (ex : Nat) : Option (Int32 × xH × Nat) :=
  (sc S (i + (1 : Int32))).bind fun v1 =>
  (f_L_reached x1 v1 x3 h).bind fun r2 =>
  (sc S (i + (1 : Int32))).bind fun v3 =>
  (vc r2.2.1 10 x2 (f_X10_reached x2 v3 r2.2.1)).bind fun r4 =>
  (vc r4.2 10 x2 (f_X10_thrown x2 r4.2)).bind fun r5 =>
  if r5.1 = r2.1 then
    if r2.1 = (0 : Int32) then
      (aJ r5.2 x3 (0 : Int32)).bind fun v6 =>
      if (lg_cmp v6 r4.1.toInt64) = (0 : Int32) then
        K i r5.2 (ex + r2.2.2)
      else
        some ((0 : Int32), r5.2, (ex + r2.2.2))
    else
      K i r5.2 (ex + r2.2.2)
  else
    some ((0 : Int32), r5.2, (ex + r2.2.2))
theorem y_L_C884 {g : xG} {h0 : xH} (x1 x2 x3 : Nat) {K : Int32 → xH → Nat → Option (Int32 × xH × Nat)} (hK : ∀ (i : Int32) (h : xH) (ex : Nat), YE g DL_law h0 false iW (K i h ex) 2297 [some (.ref 1000000), some (.ref x1), some (.ref x2), some (.ref x3), some (.int i), none, none] [] h ex) (i : Int32) (h : xH) (ex : Nat) : YE g DL_law h0 false iW (f_L_C884 (gX g) x1 x2 x3 K i h ex) 884 [some (.ref 1000000), some (.ref x1), some (.ref x2), some (.ref x3), some (.int i), none, none] [] h ex := by
  unfold f_L_C884
  refine YE.op (pc' := 885) (fun _ => X.aloadn rfl dL_law_884) ?_
  refine YE.op (pc' := 886) (fun _ => X.aloadn rfl dL_law_885) ?_
  refine YE.op (pc' := 888) (fun _ => X.iload rfl dL_law_886) ?_
  refine YE.op (pc' := 889) (fun _ => X.ic (v := 1) (by decide) dL_law_888) ?_
  refine YE.op (pc' := 890) (fun _ => X.iadd dL_law_889) ?_
  refine YE.sald dL_law_890 (fun v1 => ?_)
  refine YE.op (pc' := 892) (fun _ => X.aloadn rfl dL_law_891) ?_
  refine YE.callW (As := [.ref x1, .int v1, .ref x3]) lkw_L_reached rfl calw_L_reached staw_L_reached (Nat.le_of_ble_eq_true rfl) rfl rfl (Nat.le_of_ble_eq_true rfl) dL_law_892 (fun _ e => m_L_reached x1 v1 x3 h _ _ e) (fun r2 => ?_)
  refine YE.op (pc' := 897) (loc' := [some (.ref 1000000), some (.ref x1), some (.ref x2), some (.ref x3), some (.int i), some (.int r2.1), none]) (fun _ => X.istore (Nat.le_of_ble_eq_true rfl) rfl dL_law_895) ?_
  refine YE.op (pc' := 898) (fun _ => X.aloadn rfl dL_law_897) ?_
  refine YE.op (pc' := 899) (fun _ => X.aloadn rfl dL_law_898) ?_
  refine YE.op (pc' := 901) (fun _ => X.iload rfl dL_law_899) ?_
  refine YE.op (pc' := 902) (fun _ => X.ic (v := 1) (by decide) dL_law_901) ?_
  refine YE.op (pc' := 903) (fun _ => X.iadd dL_law_902) ?_
  refine YE.sald dL_law_903 (fun v3 => ?_)
  refine YE.callVi (As := [.int v3]) lk_L_164 rfl cal_X10_reached vir_X10_reached (Nat.le_of_ble_eq_true rfl) (Nat.le_of_ble_eq_true rfl) rfl rfl rfl (Nat.le_of_ble_eq_true rfl) dL_law_904 (fun _ e => m_X10_reached x2 v3 r2.2.1 _ _ e) (fun r4 => ?_)
  refine YE.op (pc' := 909) (loc' := [some (.ref 1000000), some (.ref x1), some (.ref x2), some (.ref x3), some (.int i), some (.int r2.1), some (.int r4.1)]) (fun _ => X.istore (Nat.le_of_ble_eq_true rfl) rfl dL_law_907) ?_
  refine YE.op (pc' := 910) (fun _ => X.aloadn rfl dL_law_909) ?_
  refine YE.callVi (As := []) lk_L_121 rfl cal_X10_thrown vir_X10_thrown (Nat.le_of_ble_eq_true rfl) (Nat.le_of_ble_eq_true rfl) rfl rfl rfl (Nat.le_of_ble_eq_true rfl) dL_law_910 (fun _ e => m_X10_thrown x2 r4.2 _ _ e) (fun r5 => ?_)
  refine YE.op (pc' := 915) (fun _ => X.iload rfl dL_law_913) ?_
  refine YE.cmpeq 920 (by decide) dL_law_915 ?_ ?_
  · refine YE.op (pc' := 922) (fun _ => X.iload rfl dL_law_920) ?_
    refine YE.ifne 937 (by decide) dL_law_922 ?_ ?_
    · refine YE.op (pc' := 2297) (fun _ => X.goto 2297 (by decide) dL_law_937) ?_
      exact YE.fg (hK i r5.2 (ex + r2.2.2)) (And.intro rfl (And.intro rfl (And.intro rfl (And.intro rfl (And.intro rfl trivial)))))
    · refine YE.op (pc' := 926) (fun _ => X.aloadn rfl dL_law_925) ?_
      refine YE.op (pc' := 927) (fun _ => X.ic (v := 0) (by decide) dL_law_926) ?_
      refine YE.aldJ dL_law_927 (fun v6 => ?_)
      refine YE.op (pc' := 930) (fun _ => X.iload rfl dL_law_928) ?_
      refine YE.op (pc' := 931) (fun _ => X.i2l dL_law_930) ?_
      refine YE.op (pc' := 932) (fun _ => X.lcmp dL_law_931) ?_
      refine YE.ifeq 937 (by decide) dL_law_932 ?_ ?_
      · refine YE.op (pc' := 2297) (fun _ => X.goto 2297 (by decide) dL_law_937) ?_
        exact YE.fg (hK i r5.2 (ex + r2.2.2)) (And.intro rfl (And.intro rfl (And.intro rfl (And.intro rfl (And.intro rfl trivial)))))
      · refine YE.op (pc' := 936) (fun _ => X.ic (v := 0) (by decide) dL_law_935) ?_
        exact YE.zret rfl (by decide) dL_law_936
  · refine YE.op (pc' := 919) (fun _ => X.ic (v := 0) (by decide) dL_law_918) ?_
    exact YE.zret rfl (by decide) dL_law_919
def f_L_C940 (S : List Int32) (x1 x2 x3 : Nat) (K : Int32 → xH → Nat → Option (Int32 × xH × Nat)) (i : Int32) (h : xH) (ex : Nat) : Option (Int32 × xH × Nat) :=
  (sc S (i + (1 : Int32))).bind fun v1 =>
  (f_L_cover x1 v1 x3 h).bind fun r2 =>
  (sc S (i + (1 : Int32))).bind fun v3 =>
  (vc r2.2.1 10 x2 (f_X10_cover x2 v3 r2.2.1)).bind fun r4 =>
  (vc r4.2 10 x2 (f_X10_thrown x2 r4.2)).bind fun r5 =>
  if r5.1 = r2.1 then
    if r2.1 = (0 : Int32) then
      (aJ r5.2 x3 (0 : Int32)).bind fun v6 =>
      if (lg_cmp v6 r4.1.toInt64) = (0 : Int32) then
        K i r5.2 (ex + r2.2.2)
      else
        some ((0 : Int32), r5.2, (ex + r2.2.2))
    else
      K i r5.2 (ex + r2.2.2)
  else
    some ((0 : Int32), r5.2, (ex + r2.2.2))
theorem y_L_C940 {g : xG} {h0 : xH} (x1 x2 x3 : Nat) {K : Int32 → xH → Nat → Option (Int32 × xH × Nat)} (hK : ∀ (i : Int32) (h : xH) (ex : Nat), YE g DL_law h0 false iW (K i h ex) 2297 [some (.ref 1000000), some (.ref x1), some (.ref x2), some (.ref x3), some (.int i), none, none] [] h ex) (i : Int32) (h : xH) (ex : Nat) : YE g DL_law h0 false iW (f_L_C940 (gX g) x1 x2 x3 K i h ex) 940 [some (.ref 1000000), some (.ref x1), some (.ref x2), some (.ref x3), some (.int i), none, none] [] h ex := by
  unfold f_L_C940
  refine YE.op (pc' := 941) (fun _ => X.aloadn rfl dL_law_940) ?_
  refine YE.op (pc' := 942) (fun _ => X.aloadn rfl dL_law_941) ?_
  refine YE.op (pc' := 944) (fun _ => X.iload rfl dL_law_942) ?_
  refine YE.op (pc' := 945) (fun _ => X.ic (v := 1) (by decide) dL_law_944) ?_
  refine YE.op (pc' := 946) (fun _ => X.iadd dL_law_945) ?_
  refine YE.sald dL_law_946 (fun v1 => ?_)
  refine YE.op (pc' := 948) (fun _ => X.aloadn rfl dL_law_947) ?_
  refine YE.callW (As := [.ref x1, .int v1, .ref x3]) lkw_L_cover rfl calw_L_cover staw_L_cover (Nat.le_of_ble_eq_true rfl) rfl rfl (Nat.le_of_ble_eq_true rfl) dL_law_948 (fun _ e => m_L_cover x1 v1 x3 h _ _ e) (fun r2 => ?_)
  refine YE.op (pc' := 953) (loc' := [some (.ref 1000000), some (.ref x1), some (.ref x2), some (.ref x3), some (.int i), some (.int r2.1), none]) (fun _ => X.istore (Nat.le_of_ble_eq_true rfl) rfl dL_law_951) ?_
  refine YE.op (pc' := 954) (fun _ => X.aloadn rfl dL_law_953) ?_
  refine YE.op (pc' := 955) (fun _ => X.aloadn rfl dL_law_954) ?_
  refine YE.op (pc' := 957) (fun _ => X.iload rfl dL_law_955) ?_
  refine YE.op (pc' := 958) (fun _ => X.ic (v := 1) (by decide) dL_law_957) ?_
  refine YE.op (pc' := 959) (fun _ => X.iadd dL_law_958) ?_
  refine YE.sald dL_law_959 (fun v3 => ?_)
  refine YE.callVi (As := [.int v3]) lk_L_167 rfl cal_X10_cover vir_X10_cover (Nat.le_of_ble_eq_true rfl) (Nat.le_of_ble_eq_true rfl) rfl rfl rfl (Nat.le_of_ble_eq_true rfl) dL_law_960 (fun _ e => m_X10_cover x2 v3 r2.2.1 _ _ e) (fun r4 => ?_)
  refine YE.op (pc' := 965) (loc' := [some (.ref 1000000), some (.ref x1), some (.ref x2), some (.ref x3), some (.int i), some (.int r2.1), some (.int r4.1)]) (fun _ => X.istore (Nat.le_of_ble_eq_true rfl) rfl dL_law_963) ?_
  refine YE.op (pc' := 966) (fun _ => X.aloadn rfl dL_law_965) ?_
  refine YE.callVi (As := []) lk_L_121 rfl cal_X10_thrown vir_X10_thrown (Nat.le_of_ble_eq_true rfl) (Nat.le_of_ble_eq_true rfl) rfl rfl rfl (Nat.le_of_ble_eq_true rfl) dL_law_966 (fun _ e => m_X10_thrown x2 r4.2 _ _ e) (fun r5 => ?_)
  refine YE.op (pc' := 971) (fun _ => X.iload rfl dL_law_969) ?_
  refine YE.cmpeq 976 (by decide) dL_law_971 ?_ ?_
  · refine YE.op (pc' := 978) (fun _ => X.iload rfl dL_law_976) ?_
    refine YE.ifne 993 (by decide) dL_law_978 ?_ ?_
    · refine YE.op (pc' := 2297) (fun _ => X.goto 2297 (by decide) dL_law_993) ?_
      exact YE.fg (hK i r5.2 (ex + r2.2.2)) (And.intro rfl (And.intro rfl (And.intro rfl (And.intro rfl (And.intro rfl trivial)))))
    · refine YE.op (pc' := 982) (fun _ => X.aloadn rfl dL_law_981) ?_
      refine YE.op (pc' := 983) (fun _ => X.ic (v := 0) (by decide) dL_law_982) ?_
      refine YE.aldJ dL_law_983 (fun v6 => ?_)
      refine YE.op (pc' := 986) (fun _ => X.iload rfl dL_law_984) ?_
      refine YE.op (pc' := 987) (fun _ => X.i2l dL_law_986) ?_
      refine YE.op (pc' := 988) (fun _ => X.lcmp dL_law_987) ?_
      refine YE.ifeq 993 (by decide) dL_law_988 ?_ ?_
      · refine YE.op (pc' := 2297) (fun _ => X.goto 2297 (by decide) dL_law_993) ?_
        exact YE.fg (hK i r5.2 (ex + r2.2.2)) (And.intro rfl (And.intro rfl (And.intro rfl (And.intro rfl (And.intro rfl trivial)))))
      · refine YE.op (pc' := 992) (fun _ => X.ic (v := 0) (by decide) dL_law_991) ?_
        exact YE.zret rfl (by decide) dL_law_992
  · refine YE.op (pc' := 975) (fun _ => X.ic (v := 0) (by decide) dL_law_974) ?_
    exact YE.zret rfl (by decide) dL_law_975
def f_L_C996 (S : List Int32) (x1 x2 x3 : Nat) (K : Int32 → xH → Nat → Option (Int32 × xH × Nat)) (i : Int32) (h : xH) (ex : Nat) : Option (Int32 × xH × Nat) :=
  (sc S (i + (1 : Int32))).bind fun v1 =>
  (sc S (i + (2 : Int32))).bind fun v2 =>
  (sc S (i + (3 : Int32))).bind fun v3 =>
  (f_L_of x1 v1 v2 v3 x3 h).bind fun r4 =>
  (sc S (i + (1 : Int32))).bind fun v5 =>
  (sc S (i + (2 : Int32))).bind fun v6 =>
  (sc S (i + (3 : Int32))).bind fun v7 =>
  (vc r4.2.1 10 x2 (f_X10_of x2 v5 v6 v7 r4.2.1)).bind fun r8 =>
  (vc r8.2 10 x2 (f_X10_thrown x2 r8.2)).bind fun r9 =>
  if r9.1 = r4.1 then
    if r4.1 = (0 : Int32) then
      (aJ r9.2 x3 (0 : Int32)).bind fun v10 =>
      if (lg_cmp v10 r8.1.toInt64) = (0 : Int32) then
        K i r9.2 (ex + r4.2.2)
      else
        some ((0 : Int32), r9.2, (ex + r4.2.2))
    else
      K i r9.2 (ex + r4.2.2)
  else
    some ((0 : Int32), r9.2, (ex + r4.2.2))
theorem y_L_C996 {g : xG} {h0 : xH} (x1 x2 x3 : Nat) {K : Int32 → xH → Nat → Option (Int32 × xH × Nat)} (hK : ∀ (i : Int32) (h : xH) (ex : Nat), YE g DL_law h0 false iW (K i h ex) 2297 [some (.ref 1000000), some (.ref x1), some (.ref x2), some (.ref x3), some (.int i), none, none] [] h ex) (i : Int32) (h : xH) (ex : Nat) : YE g DL_law h0 false iW (f_L_C996 (gX g) x1 x2 x3 K i h ex) 996 [some (.ref 1000000), some (.ref x1), some (.ref x2), some (.ref x3), some (.int i), none, none] [] h ex := by
  unfold f_L_C996
  refine YE.op (pc' := 997) (fun _ => X.aloadn rfl dL_law_996) ?_
  refine YE.op (pc' := 998) (fun _ => X.aloadn rfl dL_law_997) ?_
  refine YE.op (pc' := 1000) (fun _ => X.iload rfl dL_law_998) ?_
  refine YE.op (pc' := 1001) (fun _ => X.ic (v := 1) (by decide) dL_law_1000) ?_
  refine YE.op (pc' := 1002) (fun _ => X.iadd dL_law_1001) ?_
  refine YE.sald dL_law_1002 (fun v1 => ?_)
  refine YE.op (pc' := 1004) (fun _ => X.aloadn rfl dL_law_1003) ?_
  refine YE.op (pc' := 1006) (fun _ => X.iload rfl dL_law_1004) ?_
  refine YE.op (pc' := 1007) (fun _ => X.ic (v := 2) (by decide) dL_law_1006) ?_
  refine YE.op (pc' := 1008) (fun _ => X.iadd dL_law_1007) ?_
  refine YE.sald dL_law_1008 (fun v2 => ?_)
  refine YE.op (pc' := 1010) (fun _ => X.aloadn rfl dL_law_1009) ?_
  refine YE.op (pc' := 1012) (fun _ => X.iload rfl dL_law_1010) ?_
  refine YE.op (pc' := 1013) (fun _ => X.ic (v := 3) (by decide) dL_law_1012) ?_
  refine YE.op (pc' := 1014) (fun _ => X.iadd dL_law_1013) ?_
  refine YE.sald dL_law_1014 (fun v3 => ?_)
  refine YE.op (pc' := 1016) (fun _ => X.aloadn rfl dL_law_1015) ?_
  refine YE.callW (As := [.ref x1, .int v1, .int v2, .int v3, .ref x3]) lkw_L_of rfl calw_L_of staw_L_of (Nat.le_of_ble_eq_true rfl) rfl rfl (Nat.le_of_ble_eq_true rfl) dL_law_1016 (fun _ e => m_L_of x1 v1 v2 v3 x3 h _ _ e) (fun r4 => ?_)
  refine YE.op (pc' := 1021) (loc' := [some (.ref 1000000), some (.ref x1), some (.ref x2), some (.ref x3), some (.int i), some (.int r4.1), none]) (fun _ => X.istore (Nat.le_of_ble_eq_true rfl) rfl dL_law_1019) ?_
  refine YE.op (pc' := 1022) (fun _ => X.aloadn rfl dL_law_1021) ?_
  refine YE.op (pc' := 1023) (fun _ => X.aloadn rfl dL_law_1022) ?_
  refine YE.op (pc' := 1025) (fun _ => X.iload rfl dL_law_1023) ?_
  refine YE.op (pc' := 1026) (fun _ => X.ic (v := 1) (by decide) dL_law_1025) ?_
  refine YE.op (pc' := 1027) (fun _ => X.iadd dL_law_1026) ?_
  refine YE.sald dL_law_1027 (fun v5 => ?_)
  refine YE.op (pc' := 1029) (fun _ => X.aloadn rfl dL_law_1028) ?_
  refine YE.op (pc' := 1031) (fun _ => X.iload rfl dL_law_1029) ?_
  refine YE.op (pc' := 1032) (fun _ => X.ic (v := 2) (by decide) dL_law_1031) ?_
  refine YE.op (pc' := 1033) (fun _ => X.iadd dL_law_1032) ?_
  refine YE.sald dL_law_1033 (fun v6 => ?_)
  refine YE.op (pc' := 1035) (fun _ => X.aloadn rfl dL_law_1034) ?_
  refine YE.op (pc' := 1037) (fun _ => X.iload rfl dL_law_1035) ?_
  refine YE.op (pc' := 1038) (fun _ => X.ic (v := 3) (by decide) dL_law_1037) ?_
  refine YE.op (pc' := 1039) (fun _ => X.iadd dL_law_1038) ?_
  refine YE.sald dL_law_1039 (fun v7 => ?_)
  refine YE.callVi (As := [.int v5, .int v6, .int v7]) lk_L_171 rfl cal_X10_of vir_X10_of (Nat.le_of_ble_eq_true rfl) (Nat.le_of_ble_eq_true rfl) rfl rfl rfl (Nat.le_of_ble_eq_true rfl) dL_law_1040 (fun _ e => m_X10_of x2 v5 v6 v7 r4.2.1 _ _ e) (fun r8 => ?_)
  refine YE.op (pc' := 1045) (loc' := [some (.ref 1000000), some (.ref x1), some (.ref x2), some (.ref x3), some (.int i), some (.int r4.1), some (.int r8.1)]) (fun _ => X.istore (Nat.le_of_ble_eq_true rfl) rfl dL_law_1043) ?_
  refine YE.op (pc' := 1046) (fun _ => X.aloadn rfl dL_law_1045) ?_
  refine YE.callVi (As := []) lk_L_121 rfl cal_X10_thrown vir_X10_thrown (Nat.le_of_ble_eq_true rfl) (Nat.le_of_ble_eq_true rfl) rfl rfl rfl (Nat.le_of_ble_eq_true rfl) dL_law_1046 (fun _ e => m_X10_thrown x2 r8.2 _ _ e) (fun r9 => ?_)
  refine YE.op (pc' := 1051) (fun _ => X.iload rfl dL_law_1049) ?_
  refine YE.cmpeq 1056 (by decide) dL_law_1051 ?_ ?_
  · refine YE.op (pc' := 1058) (fun _ => X.iload rfl dL_law_1056) ?_
    refine YE.ifne 1073 (by decide) dL_law_1058 ?_ ?_
    · refine YE.op (pc' := 2297) (fun _ => X.goto 2297 (by decide) dL_law_1073) ?_
      exact YE.fg (hK i r9.2 (ex + r4.2.2)) (And.intro rfl (And.intro rfl (And.intro rfl (And.intro rfl (And.intro rfl trivial)))))
    · refine YE.op (pc' := 1062) (fun _ => X.aloadn rfl dL_law_1061) ?_
      refine YE.op (pc' := 1063) (fun _ => X.ic (v := 0) (by decide) dL_law_1062) ?_
      refine YE.aldJ dL_law_1063 (fun v10 => ?_)
      refine YE.op (pc' := 1066) (fun _ => X.iload rfl dL_law_1064) ?_
      refine YE.op (pc' := 1067) (fun _ => X.i2l dL_law_1066) ?_
      refine YE.op (pc' := 1068) (fun _ => X.lcmp dL_law_1067) ?_
      refine YE.ifeq 1073 (by decide) dL_law_1068 ?_ ?_
      · refine YE.op (pc' := 2297) (fun _ => X.goto 2297 (by decide) dL_law_1073) ?_
        exact YE.fg (hK i r9.2 (ex + r4.2.2)) (And.intro rfl (And.intro rfl (And.intro rfl (And.intro rfl (And.intro rfl trivial)))))
      · refine YE.op (pc' := 1072) (fun _ => X.ic (v := 0) (by decide) dL_law_1071) ?_
        exact YE.zret rfl (by decide) dL_law_1072
  · refine YE.op (pc' := 1055) (fun _ => X.ic (v := 0) (by decide) dL_law_1054) ?_
    exact YE.zret rfl (by decide) dL_law_1055
def f_L_C1076 (S : List Int32) (x1 x2 x3 : Nat) (K : Int32 → xH → Nat → Option (Int32 × xH × Nat)) (i : Int32) (h : xH) (ex : Nat) : Option (Int32 × xH × Nat) :=
  (sc S (i + (1 : Int32))).bind fun v1 =>
  (sc S (i + (2 : Int32))).bind fun v2 =>
  (f_L_fit x1 v1 v2 x3 h).bind fun r3 =>
  (sc S (i + (1 : Int32))).bind fun v4 =>
  (sc S (i + (2 : Int32))).bind fun v5 =>
  (vc r3.2.1 10 x2 (f_X10_fit x2 v4 v5 r3.2.1)).bind fun r6 =>
  (vc r6.2 10 x2 (f_X10_thrown x2 r6.2)).bind fun r7 =>
  if r7.1 = r3.1 then
    if r3.1 = (0 : Int32) then
      (aJ r7.2 x3 (0 : Int32)).bind fun v8 =>
      if (lg_cmp v8 r6.1.toInt64) = (0 : Int32) then
        K i r7.2 (ex + r3.2.2)
      else
        some ((0 : Int32), r7.2, (ex + r3.2.2))
    else
      K i r7.2 (ex + r3.2.2)
  else
    some ((0 : Int32), r7.2, (ex + r3.2.2))
theorem y_L_C1076 {g : xG} {h0 : xH} (x1 x2 x3 : Nat) {K : Int32 → xH → Nat → Option (Int32 × xH × Nat)} (hK : ∀ (i : Int32) (h : xH) (ex : Nat), YE g DL_law h0 false iW (K i h ex) 2297 [some (.ref 1000000), some (.ref x1), some (.ref x2), some (.ref x3), some (.int i), none, none] [] h ex) (i : Int32) (h : xH) (ex : Nat) : YE g DL_law h0 false iW (f_L_C1076 (gX g) x1 x2 x3 K i h ex) 1076 [some (.ref 1000000), some (.ref x1), some (.ref x2), some (.ref x3), some (.int i), none, none] [] h ex := by
  unfold f_L_C1076
  refine YE.op (pc' := 1077) (fun _ => X.aloadn rfl dL_law_1076) ?_
  refine YE.op (pc' := 1078) (fun _ => X.aloadn rfl dL_law_1077) ?_
  refine YE.op (pc' := 1080) (fun _ => X.iload rfl dL_law_1078) ?_
  refine YE.op (pc' := 1081) (fun _ => X.ic (v := 1) (by decide) dL_law_1080) ?_
  refine YE.op (pc' := 1082) (fun _ => X.iadd dL_law_1081) ?_
  refine YE.sald dL_law_1082 (fun v1 => ?_)
  refine YE.op (pc' := 1084) (fun _ => X.aloadn rfl dL_law_1083) ?_
  refine YE.op (pc' := 1086) (fun _ => X.iload rfl dL_law_1084) ?_
  refine YE.op (pc' := 1087) (fun _ => X.ic (v := 2) (by decide) dL_law_1086) ?_
  refine YE.op (pc' := 1088) (fun _ => X.iadd dL_law_1087) ?_
  refine YE.sald dL_law_1088 (fun v2 => ?_)
  refine YE.op (pc' := 1090) (fun _ => X.aloadn rfl dL_law_1089) ?_
  refine YE.callW (As := [.ref x1, .int v1, .int v2, .ref x3]) lkw_L_fit rfl calw_L_fit staw_L_fit (Nat.le_of_ble_eq_true rfl) rfl rfl (Nat.le_of_ble_eq_true rfl) dL_law_1090 (fun _ e => m_L_fit x1 v1 v2 x3 h _ _ e) (fun r3 => ?_)
  refine YE.op (pc' := 1095) (loc' := [some (.ref 1000000), some (.ref x1), some (.ref x2), some (.ref x3), some (.int i), some (.int r3.1), none]) (fun _ => X.istore (Nat.le_of_ble_eq_true rfl) rfl dL_law_1093) ?_
  refine YE.op (pc' := 1096) (fun _ => X.aloadn rfl dL_law_1095) ?_
  refine YE.op (pc' := 1097) (fun _ => X.aloadn rfl dL_law_1096) ?_
  refine YE.op (pc' := 1099) (fun _ => X.iload rfl dL_law_1097) ?_
  refine YE.op (pc' := 1100) (fun _ => X.ic (v := 1) (by decide) dL_law_1099) ?_
  refine YE.op (pc' := 1101) (fun _ => X.iadd dL_law_1100) ?_
  refine YE.sald dL_law_1101 (fun v4 => ?_)
  refine YE.op (pc' := 1103) (fun _ => X.aloadn rfl dL_law_1102) ?_
  refine YE.op (pc' := 1105) (fun _ => X.iload rfl dL_law_1103) ?_
  refine YE.op (pc' := 1106) (fun _ => X.ic (v := 2) (by decide) dL_law_1105) ?_
  refine YE.op (pc' := 1107) (fun _ => X.iadd dL_law_1106) ?_
  refine YE.sald dL_law_1107 (fun v5 => ?_)
  refine YE.callVi (As := [.int v4, .int v5]) lk_L_174 rfl cal_X10_fit vir_X10_fit (Nat.le_of_ble_eq_true rfl) (Nat.le_of_ble_eq_true rfl) rfl rfl rfl (Nat.le_of_ble_eq_true rfl) dL_law_1108 (fun _ e => m_X10_fit x2 v4 v5 r3.2.1 _ _ e) (fun r6 => ?_)
  refine YE.op (pc' := 1113) (loc' := [some (.ref 1000000), some (.ref x1), some (.ref x2), some (.ref x3), some (.int i), some (.int r3.1), some (.int r6.1)]) (fun _ => X.istore (Nat.le_of_ble_eq_true rfl) rfl dL_law_1111) ?_
  refine YE.op (pc' := 1114) (fun _ => X.aloadn rfl dL_law_1113) ?_
  refine YE.callVi (As := []) lk_L_121 rfl cal_X10_thrown vir_X10_thrown (Nat.le_of_ble_eq_true rfl) (Nat.le_of_ble_eq_true rfl) rfl rfl rfl (Nat.le_of_ble_eq_true rfl) dL_law_1114 (fun _ e => m_X10_thrown x2 r6.2 _ _ e) (fun r7 => ?_)
  refine YE.op (pc' := 1119) (fun _ => X.iload rfl dL_law_1117) ?_
  refine YE.cmpeq 1124 (by decide) dL_law_1119 ?_ ?_
  · refine YE.op (pc' := 1126) (fun _ => X.iload rfl dL_law_1124) ?_
    refine YE.ifne 1141 (by decide) dL_law_1126 ?_ ?_
    · refine YE.op (pc' := 2297) (fun _ => X.goto 2297 (by decide) dL_law_1141) ?_
      exact YE.fg (hK i r7.2 (ex + r3.2.2)) (And.intro rfl (And.intro rfl (And.intro rfl (And.intro rfl (And.intro rfl trivial)))))
    · refine YE.op (pc' := 1130) (fun _ => X.aloadn rfl dL_law_1129) ?_
      refine YE.op (pc' := 1131) (fun _ => X.ic (v := 0) (by decide) dL_law_1130) ?_
      refine YE.aldJ dL_law_1131 (fun v8 => ?_)
      refine YE.op (pc' := 1134) (fun _ => X.iload rfl dL_law_1132) ?_
      refine YE.op (pc' := 1135) (fun _ => X.i2l dL_law_1134) ?_
      refine YE.op (pc' := 1136) (fun _ => X.lcmp dL_law_1135) ?_
      refine YE.ifeq 1141 (by decide) dL_law_1136 ?_ ?_
      · refine YE.op (pc' := 2297) (fun _ => X.goto 2297 (by decide) dL_law_1141) ?_
        exact YE.fg (hK i r7.2 (ex + r3.2.2)) (And.intro rfl (And.intro rfl (And.intro rfl (And.intro rfl (And.intro rfl trivial)))))
      · refine YE.op (pc' := 1140) (fun _ => X.ic (v := 0) (by decide) dL_law_1139) ?_
        exact YE.zret rfl (by decide) dL_law_1140
  · refine YE.op (pc' := 1123) (fun _ => X.ic (v := 0) (by decide) dL_law_1122) ?_
    exact YE.zret rfl (by decide) dL_law_1123
def f_L_C1144 (S : List Int32) (x1 x2 x3 : Nat) (K : Int32 → xH → Nat → Option (Int32 × xH × Nat)) (i : Int32) (h : xH) (ex : Nat) : Option (Int32 × xH × Nat) :=
  (sc S (i + (1 : Int32))).bind fun v1 =>
  (f_L_fitMany x1 v1 x3 h).bind fun r2 =>
  (sc S (i + (1 : Int32))).bind fun v3 =>
  (vc r2.2.1 10 x2 (f_X10_fitMany x2 v3 r2.2.1)).bind fun r4 =>
  (vc r4.2 10 x2 (f_X10_thrown x2 r4.2)).bind fun r5 =>
  if r5.1 = r2.1 then
    if r2.1 = (0 : Int32) then
      (aJ r5.2 x3 (0 : Int32)).bind fun v6 =>
      if (lg_cmp v6 r4.1.toInt64) = (0 : Int32) then
        K i r5.2 (ex + r2.2.2)
      else
        some ((0 : Int32), r5.2, (ex + r2.2.2))
    else
      K i r5.2 (ex + r2.2.2)
  else
    some ((0 : Int32), r5.2, (ex + r2.2.2))
theorem y_L_C1144 {g : xG} {h0 : xH} (x1 x2 x3 : Nat) {K : Int32 → xH → Nat → Option (Int32 × xH × Nat)} (hK : ∀ (i : Int32) (h : xH) (ex : Nat), YE g DL_law h0 false iW (K i h ex) 2297 [some (.ref 1000000), some (.ref x1), some (.ref x2), some (.ref x3), some (.int i), none, none] [] h ex) (i : Int32) (h : xH) (ex : Nat) : YE g DL_law h0 false iW (f_L_C1144 (gX g) x1 x2 x3 K i h ex) 1144 [some (.ref 1000000), some (.ref x1), some (.ref x2), some (.ref x3), some (.int i), none, none] [] h ex := by
  unfold f_L_C1144
  refine YE.op (pc' := 1145) (fun _ => X.aloadn rfl dL_law_1144) ?_
  refine YE.op (pc' := 1146) (fun _ => X.aloadn rfl dL_law_1145) ?_
  refine YE.op (pc' := 1148) (fun _ => X.iload rfl dL_law_1146) ?_
  refine YE.op (pc' := 1149) (fun _ => X.ic (v := 1) (by decide) dL_law_1148) ?_
  refine YE.op (pc' := 1150) (fun _ => X.iadd dL_law_1149) ?_
  refine YE.sald dL_law_1150 (fun v1 => ?_)
  refine YE.op (pc' := 1152) (fun _ => X.aloadn rfl dL_law_1151) ?_
  refine YE.callW (As := [.ref x1, .int v1, .ref x3]) lkw_L_fitMany rfl calw_L_fitMany staw_L_fitMany (Nat.le_of_ble_eq_true rfl) rfl rfl (Nat.le_of_ble_eq_true rfl) dL_law_1152 (fun _ e => m_L_fitMany x1 v1 x3 h _ _ e) (fun r2 => ?_)
  refine YE.op (pc' := 1157) (loc' := [some (.ref 1000000), some (.ref x1), some (.ref x2), some (.ref x3), some (.int i), some (.int r2.1), none]) (fun _ => X.istore (Nat.le_of_ble_eq_true rfl) rfl dL_law_1155) ?_
  refine YE.op (pc' := 1158) (fun _ => X.aloadn rfl dL_law_1157) ?_
  refine YE.op (pc' := 1159) (fun _ => X.aloadn rfl dL_law_1158) ?_
  refine YE.op (pc' := 1161) (fun _ => X.iload rfl dL_law_1159) ?_
  refine YE.op (pc' := 1162) (fun _ => X.ic (v := 1) (by decide) dL_law_1161) ?_
  refine YE.op (pc' := 1163) (fun _ => X.iadd dL_law_1162) ?_
  refine YE.sald dL_law_1163 (fun v3 => ?_)
  refine YE.callVi (As := [.int v3]) lk_L_177 rfl cal_X10_fitMany vir_X10_fitMany (Nat.le_of_ble_eq_true rfl) (Nat.le_of_ble_eq_true rfl) rfl rfl rfl (Nat.le_of_ble_eq_true rfl) dL_law_1164 (fun _ e => m_X10_fitMany x2 v3 r2.2.1 _ _ e) (fun r4 => ?_)
  refine YE.op (pc' := 1169) (loc' := [some (.ref 1000000), some (.ref x1), some (.ref x2), some (.ref x3), some (.int i), some (.int r2.1), some (.int r4.1)]) (fun _ => X.istore (Nat.le_of_ble_eq_true rfl) rfl dL_law_1167) ?_
  refine YE.op (pc' := 1170) (fun _ => X.aloadn rfl dL_law_1169) ?_
  refine YE.callVi (As := []) lk_L_121 rfl cal_X10_thrown vir_X10_thrown (Nat.le_of_ble_eq_true rfl) (Nat.le_of_ble_eq_true rfl) rfl rfl rfl (Nat.le_of_ble_eq_true rfl) dL_law_1170 (fun _ e => m_X10_thrown x2 r4.2 _ _ e) (fun r5 => ?_)
  refine YE.op (pc' := 1175) (fun _ => X.iload rfl dL_law_1173) ?_
  refine YE.cmpeq 1180 (by decide) dL_law_1175 ?_ ?_
  · refine YE.op (pc' := 1182) (fun _ => X.iload rfl dL_law_1180) ?_
    refine YE.ifne 1197 (by decide) dL_law_1182 ?_ ?_
    · refine YE.op (pc' := 2297) (fun _ => X.goto 2297 (by decide) dL_law_1197) ?_
      exact YE.fg (hK i r5.2 (ex + r2.2.2)) (And.intro rfl (And.intro rfl (And.intro rfl (And.intro rfl (And.intro rfl trivial)))))
    · refine YE.op (pc' := 1186) (fun _ => X.aloadn rfl dL_law_1185) ?_
      refine YE.op (pc' := 1187) (fun _ => X.ic (v := 0) (by decide) dL_law_1186) ?_
      refine YE.aldJ dL_law_1187 (fun v6 => ?_)
      refine YE.op (pc' := 1190) (fun _ => X.iload rfl dL_law_1188) ?_
      refine YE.op (pc' := 1191) (fun _ => X.i2l dL_law_1190) ?_
      refine YE.op (pc' := 1192) (fun _ => X.lcmp dL_law_1191) ?_
      refine YE.ifeq 1197 (by decide) dL_law_1192 ?_ ?_
      · refine YE.op (pc' := 2297) (fun _ => X.goto 2297 (by decide) dL_law_1197) ?_
        exact YE.fg (hK i r5.2 (ex + r2.2.2)) (And.intro rfl (And.intro rfl (And.intro rfl (And.intro rfl (And.intro rfl trivial)))))
      · refine YE.op (pc' := 1196) (fun _ => X.ic (v := 0) (by decide) dL_law_1195) ?_
        exact YE.zret rfl (by decide) dL_law_1196
  · refine YE.op (pc' := 1179) (fun _ => X.ic (v := 0) (by decide) dL_law_1178) ?_
    exact YE.zret rfl (by decide) dL_law_1179
def f_L_C1200 (S : List Int32) (x1 x2 x3 : Nat) (K : Int32 → xH → Nat → Option (Int32 × xH × Nat)) (i : Int32) (h : xH) (ex : Nat) : Option (Int32 × xH × Nat) :=
  (sc S (i + (1 : Int32))).bind fun v1 =>
  (f_L_lack x1 v1 x3 h).bind fun r2 =>
  (sc S (i + (1 : Int32))).bind fun v3 =>
  (vc r2.2.1 10 x2 (f_X10_lack x2 v3 r2.2.1)).bind fun r4 =>
  (vc r4.2 10 x2 (f_X10_thrown x2 r4.2)).bind fun r5 =>
  if r5.1 = r2.1 then
    if r2.1 = (0 : Int32) then
      (aJ r5.2 x3 (0 : Int32)).bind fun v6 =>
      if (lg_cmp v6 r4.1.toInt64) = (0 : Int32) then
        K i r5.2 (ex + r2.2.2)
      else
        some ((0 : Int32), r5.2, (ex + r2.2.2))
    else
      K i r5.2 (ex + r2.2.2)
  else
    some ((0 : Int32), r5.2, (ex + r2.2.2))
theorem y_L_C1200 {g : xG} {h0 : xH} (x1 x2 x3 : Nat) {K : Int32 → xH → Nat → Option (Int32 × xH × Nat)} (hK : ∀ (i : Int32) (h : xH) (ex : Nat), YE g DL_law h0 false iW (K i h ex) 2297 [some (.ref 1000000), some (.ref x1), some (.ref x2), some (.ref x3), some (.int i), none, none] [] h ex) (i : Int32) (h : xH) (ex : Nat) : YE g DL_law h0 false iW (f_L_C1200 (gX g) x1 x2 x3 K i h ex) 1200 [some (.ref 1000000), some (.ref x1), some (.ref x2), some (.ref x3), some (.int i), none, none] [] h ex := by
  unfold f_L_C1200
  refine YE.op (pc' := 1201) (fun _ => X.aloadn rfl dL_law_1200) ?_
  refine YE.op (pc' := 1202) (fun _ => X.aloadn rfl dL_law_1201) ?_
  refine YE.op (pc' := 1204) (fun _ => X.iload rfl dL_law_1202) ?_
  refine YE.op (pc' := 1205) (fun _ => X.ic (v := 1) (by decide) dL_law_1204) ?_
  refine YE.op (pc' := 1206) (fun _ => X.iadd dL_law_1205) ?_
  refine YE.sald dL_law_1206 (fun v1 => ?_)
  refine YE.op (pc' := 1208) (fun _ => X.aloadn rfl dL_law_1207) ?_
  refine YE.callW (As := [.ref x1, .int v1, .ref x3]) lkw_L_lack rfl calw_L_lack staw_L_lack (Nat.le_of_ble_eq_true rfl) rfl rfl (Nat.le_of_ble_eq_true rfl) dL_law_1208 (fun _ e => m_L_lack x1 v1 x3 h _ _ e) (fun r2 => ?_)
  refine YE.op (pc' := 1213) (loc' := [some (.ref 1000000), some (.ref x1), some (.ref x2), some (.ref x3), some (.int i), some (.int r2.1), none]) (fun _ => X.istore (Nat.le_of_ble_eq_true rfl) rfl dL_law_1211) ?_
  refine YE.op (pc' := 1214) (fun _ => X.aloadn rfl dL_law_1213) ?_
  refine YE.op (pc' := 1215) (fun _ => X.aloadn rfl dL_law_1214) ?_
  refine YE.op (pc' := 1217) (fun _ => X.iload rfl dL_law_1215) ?_
  refine YE.op (pc' := 1218) (fun _ => X.ic (v := 1) (by decide) dL_law_1217) ?_
  refine YE.op (pc' := 1219) (fun _ => X.iadd dL_law_1218) ?_
  refine YE.sald dL_law_1219 (fun v3 => ?_)
  refine YE.callVi (As := [.int v3]) lk_L_180 rfl cal_X10_lack vir_X10_lack (Nat.le_of_ble_eq_true rfl) (Nat.le_of_ble_eq_true rfl) rfl rfl rfl (Nat.le_of_ble_eq_true rfl) dL_law_1220 (fun _ e => m_X10_lack x2 v3 r2.2.1 _ _ e) (fun r4 => ?_)
  refine YE.op (pc' := 1225) (loc' := [some (.ref 1000000), some (.ref x1), some (.ref x2), some (.ref x3), some (.int i), some (.int r2.1), some (.int r4.1)]) (fun _ => X.istore (Nat.le_of_ble_eq_true rfl) rfl dL_law_1223) ?_
  refine YE.op (pc' := 1226) (fun _ => X.aloadn rfl dL_law_1225) ?_
  refine YE.callVi (As := []) lk_L_121 rfl cal_X10_thrown vir_X10_thrown (Nat.le_of_ble_eq_true rfl) (Nat.le_of_ble_eq_true rfl) rfl rfl rfl (Nat.le_of_ble_eq_true rfl) dL_law_1226 (fun _ e => m_X10_thrown x2 r4.2 _ _ e) (fun r5 => ?_)
  refine YE.op (pc' := 1231) (fun _ => X.iload rfl dL_law_1229) ?_
  refine YE.cmpeq 1236 (by decide) dL_law_1231 ?_ ?_
  · refine YE.op (pc' := 1238) (fun _ => X.iload rfl dL_law_1236) ?_
    refine YE.ifne 1253 (by decide) dL_law_1238 ?_ ?_
    · refine YE.op (pc' := 2297) (fun _ => X.goto 2297 (by decide) dL_law_1253) ?_
      exact YE.fg (hK i r5.2 (ex + r2.2.2)) (And.intro rfl (And.intro rfl (And.intro rfl (And.intro rfl (And.intro rfl trivial)))))
    · refine YE.op (pc' := 1242) (fun _ => X.aloadn rfl dL_law_1241) ?_
      refine YE.op (pc' := 1243) (fun _ => X.ic (v := 0) (by decide) dL_law_1242) ?_
      refine YE.aldJ dL_law_1243 (fun v6 => ?_)
      refine YE.op (pc' := 1246) (fun _ => X.iload rfl dL_law_1244) ?_
      refine YE.op (pc' := 1247) (fun _ => X.i2l dL_law_1246) ?_
      refine YE.op (pc' := 1248) (fun _ => X.lcmp dL_law_1247) ?_
      refine YE.ifeq 1253 (by decide) dL_law_1248 ?_ ?_
      · refine YE.op (pc' := 2297) (fun _ => X.goto 2297 (by decide) dL_law_1253) ?_
        exact YE.fg (hK i r5.2 (ex + r2.2.2)) (And.intro rfl (And.intro rfl (And.intro rfl (And.intro rfl (And.intro rfl trivial)))))
      · refine YE.op (pc' := 1252) (fun _ => X.ic (v := 0) (by decide) dL_law_1251) ?_
        exact YE.zret rfl (by decide) dL_law_1252
  · refine YE.op (pc' := 1235) (fun _ => X.ic (v := 0) (by decide) dL_law_1234) ?_
    exact YE.zret rfl (by decide) dL_law_1235
def f_L_C1256 (S : List Int32) (x1 x2 x3 : Nat) (K : Int32 → xH → Nat → Option (Int32 × xH × Nat)) (i : Int32) (h : xH) (ex : Nat) : Option (Int32 × xH × Nat) :=
  (sc S (i + (1 : Int32))).bind fun v1 =>
  (f_L_hall x1 v1 x3 h).bind fun r2 =>
  (sc S (i + (1 : Int32))).bind fun v3 =>
  (vc r2.2.1 10 x2 (f_X10_hall x2 v3 r2.2.1)).bind fun r4 =>
  (vc r4.2 10 x2 (f_X10_thrown x2 r4.2)).bind fun r5 =>
  if r5.1 = r2.1 then
    if r2.1 = (0 : Int32) then
      (aJ r5.2 x3 (0 : Int32)).bind fun v6 =>
      if (lg_cmp v6 r4.1.toInt64) = (0 : Int32) then
        K i r5.2 (ex + r2.2.2)
      else
        some ((0 : Int32), r5.2, (ex + r2.2.2))
    else
      K i r5.2 (ex + r2.2.2)
  else
    some ((0 : Int32), r5.2, (ex + r2.2.2))
theorem y_L_C1256 {g : xG} {h0 : xH} (x1 x2 x3 : Nat) {K : Int32 → xH → Nat → Option (Int32 × xH × Nat)} (hK : ∀ (i : Int32) (h : xH) (ex : Nat), YE g DL_law h0 false iW (K i h ex) 2297 [some (.ref 1000000), some (.ref x1), some (.ref x2), some (.ref x3), some (.int i), none, none] [] h ex) (i : Int32) (h : xH) (ex : Nat) : YE g DL_law h0 false iW (f_L_C1256 (gX g) x1 x2 x3 K i h ex) 1256 [some (.ref 1000000), some (.ref x1), some (.ref x2), some (.ref x3), some (.int i), none, none] [] h ex := by
  unfold f_L_C1256
  refine YE.op (pc' := 1257) (fun _ => X.aloadn rfl dL_law_1256) ?_
  refine YE.op (pc' := 1258) (fun _ => X.aloadn rfl dL_law_1257) ?_
  refine YE.op (pc' := 1260) (fun _ => X.iload rfl dL_law_1258) ?_
  refine YE.op (pc' := 1261) (fun _ => X.ic (v := 1) (by decide) dL_law_1260) ?_
  refine YE.op (pc' := 1262) (fun _ => X.iadd dL_law_1261) ?_
  refine YE.sald dL_law_1262 (fun v1 => ?_)
  refine YE.op (pc' := 1264) (fun _ => X.aloadn rfl dL_law_1263) ?_
  refine YE.callW (As := [.ref x1, .int v1, .ref x3]) lkw_L_hall rfl calw_L_hall staw_L_hall (Nat.le_of_ble_eq_true rfl) rfl rfl (Nat.le_of_ble_eq_true rfl) dL_law_1264 (fun _ e => m_L_hall x1 v1 x3 h _ _ e) (fun r2 => ?_)
  refine YE.op (pc' := 1269) (loc' := [some (.ref 1000000), some (.ref x1), some (.ref x2), some (.ref x3), some (.int i), some (.int r2.1), none]) (fun _ => X.istore (Nat.le_of_ble_eq_true rfl) rfl dL_law_1267) ?_
  refine YE.op (pc' := 1270) (fun _ => X.aloadn rfl dL_law_1269) ?_
  refine YE.op (pc' := 1271) (fun _ => X.aloadn rfl dL_law_1270) ?_
  refine YE.op (pc' := 1273) (fun _ => X.iload rfl dL_law_1271) ?_
  refine YE.op (pc' := 1274) (fun _ => X.ic (v := 1) (by decide) dL_law_1273) ?_
  refine YE.op (pc' := 1275) (fun _ => X.iadd dL_law_1274) ?_
  refine YE.sald dL_law_1275 (fun v3 => ?_)
  refine YE.callVi (As := [.int v3]) lk_L_183 rfl cal_X10_hall vir_X10_hall (Nat.le_of_ble_eq_true rfl) (Nat.le_of_ble_eq_true rfl) rfl rfl rfl (Nat.le_of_ble_eq_true rfl) dL_law_1276 (fun _ e => m_X10_hall x2 v3 r2.2.1 _ _ e) (fun r4 => ?_)
  refine YE.op (pc' := 1281) (loc' := [some (.ref 1000000), some (.ref x1), some (.ref x2), some (.ref x3), some (.int i), some (.int r2.1), some (.int r4.1)]) (fun _ => X.istore (Nat.le_of_ble_eq_true rfl) rfl dL_law_1279) ?_
  refine YE.op (pc' := 1282) (fun _ => X.aloadn rfl dL_law_1281) ?_
  refine YE.callVi (As := []) lk_L_121 rfl cal_X10_thrown vir_X10_thrown (Nat.le_of_ble_eq_true rfl) (Nat.le_of_ble_eq_true rfl) rfl rfl rfl (Nat.le_of_ble_eq_true rfl) dL_law_1282 (fun _ e => m_X10_thrown x2 r4.2 _ _ e) (fun r5 => ?_)
  refine YE.op (pc' := 1287) (fun _ => X.iload rfl dL_law_1285) ?_
  refine YE.cmpeq 1292 (by decide) dL_law_1287 ?_ ?_
  · refine YE.op (pc' := 1294) (fun _ => X.iload rfl dL_law_1292) ?_
    refine YE.ifne 1309 (by decide) dL_law_1294 ?_ ?_
    · refine YE.op (pc' := 2297) (fun _ => X.goto 2297 (by decide) dL_law_1309) ?_
      exact YE.fg (hK i r5.2 (ex + r2.2.2)) (And.intro rfl (And.intro rfl (And.intro rfl (And.intro rfl (And.intro rfl trivial)))))
    · refine YE.op (pc' := 1298) (fun _ => X.aloadn rfl dL_law_1297) ?_
      refine YE.op (pc' := 1299) (fun _ => X.ic (v := 0) (by decide) dL_law_1298) ?_
      refine YE.aldJ dL_law_1299 (fun v6 => ?_)
      refine YE.op (pc' := 1302) (fun _ => X.iload rfl dL_law_1300) ?_
      refine YE.op (pc' := 1303) (fun _ => X.i2l dL_law_1302) ?_
      refine YE.op (pc' := 1304) (fun _ => X.lcmp dL_law_1303) ?_
      refine YE.ifeq 1309 (by decide) dL_law_1304 ?_ ?_
      · refine YE.op (pc' := 2297) (fun _ => X.goto 2297 (by decide) dL_law_1309) ?_
        exact YE.fg (hK i r5.2 (ex + r2.2.2)) (And.intro rfl (And.intro rfl (And.intro rfl (And.intro rfl (And.intro rfl trivial)))))
      · refine YE.op (pc' := 1308) (fun _ => X.ic (v := 0) (by decide) dL_law_1307) ?_
        exact YE.zret rfl (by decide) dL_law_1308
  · refine YE.op (pc' := 1291) (fun _ => X.ic (v := 0) (by decide) dL_law_1290) ?_
    exact YE.zret rfl (by decide) dL_law_1291
def f_L_C1312 (S : List Int32) (x1 x2 x3 : Nat) (K : Int32 → xH → Nat → Option (Int32 × xH × Nat)) (i : Int32) (h : xH) (ex : Nat) : Option (Int32 × xH × Nat) :=
  (vc h 9 x1 (f_X9_many x1 h)).bind fun r1 =>
  (vc r1.2 10 x2 (f_X10_many x2 r1.2)).bind fun r2 =>
  if (lg_cmp r1.1 r2.1) = (0 : Int32) then
    K i r2.2 ex
  else
    some ((0 : Int32), r2.2, ex)
theorem y_L_C1312 {g : xG} {h0 : xH} (x1 x2 x3 : Nat) {K : Int32 → xH → Nat → Option (Int32 × xH × Nat)} (hK : ∀ (i : Int32) (h : xH) (ex : Nat), YE g DL_law h0 false iW (K i h ex) 2297 [some (.ref 1000000), some (.ref x1), some (.ref x2), some (.ref x3), some (.int i), none, none] [] h ex) (i : Int32) (h : xH) (ex : Nat) : YE g DL_law h0 false iW (f_L_C1312 (gX g) x1 x2 x3 K i h ex) 1312 [some (.ref 1000000), some (.ref x1), some (.ref x2), some (.ref x3), some (.int i), none, none] [] h ex := by
  unfold f_L_C1312
  refine YE.op (pc' := 1313) (fun _ => X.aloadn rfl dL_law_1312) ?_
  refine YE.callVj (As := []) lk_L_184 rfl cal_X9_many vir_X9_many (Nat.le_of_ble_eq_true rfl) (Nat.le_of_ble_eq_true rfl) rfl rfl rfl (Nat.le_of_ble_eq_true rfl) dL_law_1313 (fun _ e => m_X9_many x1 h _ _ e) (fun r1 => ?_)
  refine YE.op (pc' := 1317) (fun _ => X.aloadn rfl dL_law_1316) ?_
  refine YE.callVj (As := []) lk_L_188 rfl cal_X10_many vir_X10_many (Nat.le_of_ble_eq_true rfl) (Nat.le_of_ble_eq_true rfl) rfl rfl rfl (Nat.le_of_ble_eq_true rfl) dL_law_1317 (fun _ e => m_X10_many x2 r1.2 _ _ e) (fun r2 => ?_)
  refine YE.op (pc' := 1321) (fun _ => X.lcmp dL_law_1320) ?_
  refine YE.ifeq 2297 (by decide) dL_law_1321 ?_ ?_
  · exact hK i r2.2 ex
  · refine YE.op (pc' := 1325) (fun _ => X.ic (v := 0) (by decide) dL_law_1324) ?_
    exact YE.zret rfl (by decide) dL_law_1325
def f_L_C1326 (S : List Int32) (x1 x2 x3 : Nat) (K : Int32 → xH → Nat → Option (Int32 × xH × Nat)) (i : Int32) (h : xH) (ex : Nat) : Option (Int32 × xH × Nat) :=
  (sc S (i + (1 : Int32))).bind fun v1 =>
  (f_L_cheap x1 v1 x3 h).bind fun r2 =>
  (sc S (i + (1 : Int32))).bind fun v3 =>
  (vc r2.2.1 10 x2 (f_X10_cheap x2 v3 r2.2.1)).bind fun r4 =>
  (vc r4.2 10 x2 (f_X10_thrown x2 r4.2)).bind fun r5 =>
  if r5.1 = r2.1 then
    if r2.1 = (0 : Int32) then
      (aJ r5.2 x3 (0 : Int32)).bind fun v6 =>
      if (lg_cmp v6 r4.1.toInt64) = (0 : Int32) then
        K i r5.2 (ex + r2.2.2)
      else
        some ((0 : Int32), r5.2, (ex + r2.2.2))
    else
      K i r5.2 (ex + r2.2.2)
  else
    some ((0 : Int32), r5.2, (ex + r2.2.2))
theorem y_L_C1326 {g : xG} {h0 : xH} (x1 x2 x3 : Nat) {K : Int32 → xH → Nat → Option (Int32 × xH × Nat)} (hK : ∀ (i : Int32) (h : xH) (ex : Nat), YE g DL_law h0 false iW (K i h ex) 2297 [some (.ref 1000000), some (.ref x1), some (.ref x2), some (.ref x3), some (.int i), none, none] [] h ex) (i : Int32) (h : xH) (ex : Nat) : YE g DL_law h0 false iW (f_L_C1326 (gX g) x1 x2 x3 K i h ex) 1326 [some (.ref 1000000), some (.ref x1), some (.ref x2), some (.ref x3), some (.int i), none, none] [] h ex := by
  unfold f_L_C1326
  refine YE.op (pc' := 1327) (fun _ => X.aloadn rfl dL_law_1326) ?_
  refine YE.op (pc' := 1328) (fun _ => X.aloadn rfl dL_law_1327) ?_
  refine YE.op (pc' := 1330) (fun _ => X.iload rfl dL_law_1328) ?_
  refine YE.op (pc' := 1331) (fun _ => X.ic (v := 1) (by decide) dL_law_1330) ?_
  refine YE.op (pc' := 1332) (fun _ => X.iadd dL_law_1331) ?_
  refine YE.sald dL_law_1332 (fun v1 => ?_)
  refine YE.op (pc' := 1334) (fun _ => X.aloadn rfl dL_law_1333) ?_
  refine YE.callW (As := [.ref x1, .int v1, .ref x3]) lkw_L_cheap rfl calw_L_cheap staw_L_cheap (Nat.le_of_ble_eq_true rfl) rfl rfl (Nat.le_of_ble_eq_true rfl) dL_law_1334 (fun _ e => m_L_cheap x1 v1 x3 h _ _ e) (fun r2 => ?_)
  refine YE.op (pc' := 1339) (loc' := [some (.ref 1000000), some (.ref x1), some (.ref x2), some (.ref x3), some (.int i), some (.int r2.1), none]) (fun _ => X.istore (Nat.le_of_ble_eq_true rfl) rfl dL_law_1337) ?_
  refine YE.op (pc' := 1340) (fun _ => X.aloadn rfl dL_law_1339) ?_
  refine YE.op (pc' := 1341) (fun _ => X.aloadn rfl dL_law_1340) ?_
  refine YE.op (pc' := 1343) (fun _ => X.iload rfl dL_law_1341) ?_
  refine YE.op (pc' := 1344) (fun _ => X.ic (v := 1) (by decide) dL_law_1343) ?_
  refine YE.op (pc' := 1345) (fun _ => X.iadd dL_law_1344) ?_
  refine YE.sald dL_law_1345 (fun v3 => ?_)
  refine YE.callVi (As := [.int v3]) lk_L_191 rfl cal_X10_cheap vir_X10_cheap (Nat.le_of_ble_eq_true rfl) (Nat.le_of_ble_eq_true rfl) rfl rfl rfl (Nat.le_of_ble_eq_true rfl) dL_law_1346 (fun _ e => m_X10_cheap x2 v3 r2.2.1 _ _ e) (fun r4 => ?_)
  refine YE.op (pc' := 1351) (loc' := [some (.ref 1000000), some (.ref x1), some (.ref x2), some (.ref x3), some (.int i), some (.int r2.1), some (.int r4.1)]) (fun _ => X.istore (Nat.le_of_ble_eq_true rfl) rfl dL_law_1349) ?_
  refine YE.op (pc' := 1352) (fun _ => X.aloadn rfl dL_law_1351) ?_
  refine YE.callVi (As := []) lk_L_121 rfl cal_X10_thrown vir_X10_thrown (Nat.le_of_ble_eq_true rfl) (Nat.le_of_ble_eq_true rfl) rfl rfl rfl (Nat.le_of_ble_eq_true rfl) dL_law_1352 (fun _ e => m_X10_thrown x2 r4.2 _ _ e) (fun r5 => ?_)
  refine YE.op (pc' := 1357) (fun _ => X.iload rfl dL_law_1355) ?_
  refine YE.cmpeq 1362 (by decide) dL_law_1357 ?_ ?_
  · refine YE.op (pc' := 1364) (fun _ => X.iload rfl dL_law_1362) ?_
    refine YE.ifne 1379 (by decide) dL_law_1364 ?_ ?_
    · refine YE.op (pc' := 2297) (fun _ => X.goto 2297 (by decide) dL_law_1379) ?_
      exact YE.fg (hK i r5.2 (ex + r2.2.2)) (And.intro rfl (And.intro rfl (And.intro rfl (And.intro rfl (And.intro rfl trivial)))))
    · refine YE.op (pc' := 1368) (fun _ => X.aloadn rfl dL_law_1367) ?_
      refine YE.op (pc' := 1369) (fun _ => X.ic (v := 0) (by decide) dL_law_1368) ?_
      refine YE.aldJ dL_law_1369 (fun v6 => ?_)
      refine YE.op (pc' := 1372) (fun _ => X.iload rfl dL_law_1370) ?_
      refine YE.op (pc' := 1373) (fun _ => X.i2l dL_law_1372) ?_
      refine YE.op (pc' := 1374) (fun _ => X.lcmp dL_law_1373) ?_
      refine YE.ifeq 1379 (by decide) dL_law_1374 ?_ ?_
      · refine YE.op (pc' := 2297) (fun _ => X.goto 2297 (by decide) dL_law_1379) ?_
        exact YE.fg (hK i r5.2 (ex + r2.2.2)) (And.intro rfl (And.intro rfl (And.intro rfl (And.intro rfl (And.intro rfl trivial)))))
      · refine YE.op (pc' := 1378) (fun _ => X.ic (v := 0) (by decide) dL_law_1377) ?_
        exact YE.zret rfl (by decide) dL_law_1378
  · refine YE.op (pc' := 1361) (fun _ => X.ic (v := 0) (by decide) dL_law_1360) ?_
    exact YE.zret rfl (by decide) dL_law_1361
def f_L_C1382 (S : List Int32) (x1 x2 x3 : Nat) (K : Int32 → xH → Nat → Option (Int32 × xH × Nat)) (i : Int32) (h : xH) (ex : Nat) : Option (Int32 × xH × Nat) :=
  (sc S (i + (1 : Int32))).bind fun v1 =>
  (f_L_cheapest x1 v1 x3 h).bind fun r2 =>
  (sc S (i + (1 : Int32))).bind fun v3 =>
  (vc r2.2.1 10 x2 (f_X10_cheapest x2 v3 r2.2.1)).bind fun r4 =>
  (vc r4.2 10 x2 (f_X10_thrown x2 r4.2)).bind fun r5 =>
  if r5.1 = r2.1 then
    if r2.1 = (0 : Int32) then
      (aJ r5.2 x3 (0 : Int32)).bind fun v6 =>
      if (lg_cmp v6 r4.1.toInt64) = (0 : Int32) then
        K i r5.2 (ex + r2.2.2)
      else
        some ((0 : Int32), r5.2, (ex + r2.2.2))
    else
      K i r5.2 (ex + r2.2.2)
  else
    some ((0 : Int32), r5.2, (ex + r2.2.2))
theorem y_L_C1382 {g : xG} {h0 : xH} (x1 x2 x3 : Nat) {K : Int32 → xH → Nat → Option (Int32 × xH × Nat)} (hK : ∀ (i : Int32) (h : xH) (ex : Nat), YE g DL_law h0 false iW (K i h ex) 2297 [some (.ref 1000000), some (.ref x1), some (.ref x2), some (.ref x3), some (.int i), none, none] [] h ex) (i : Int32) (h : xH) (ex : Nat) : YE g DL_law h0 false iW (f_L_C1382 (gX g) x1 x2 x3 K i h ex) 1382 [some (.ref 1000000), some (.ref x1), some (.ref x2), some (.ref x3), some (.int i), none, none] [] h ex := by
  unfold f_L_C1382
  refine YE.op (pc' := 1383) (fun _ => X.aloadn rfl dL_law_1382) ?_
  refine YE.op (pc' := 1384) (fun _ => X.aloadn rfl dL_law_1383) ?_
  refine YE.op (pc' := 1386) (fun _ => X.iload rfl dL_law_1384) ?_
  refine YE.op (pc' := 1387) (fun _ => X.ic (v := 1) (by decide) dL_law_1386) ?_
  refine YE.op (pc' := 1388) (fun _ => X.iadd dL_law_1387) ?_
  refine YE.sald dL_law_1388 (fun v1 => ?_)
  refine YE.op (pc' := 1390) (fun _ => X.aloadn rfl dL_law_1389) ?_
  refine YE.callW (As := [.ref x1, .int v1, .ref x3]) lkw_L_cheapest rfl calw_L_cheapest staw_L_cheapest (Nat.le_of_ble_eq_true rfl) rfl rfl (Nat.le_of_ble_eq_true rfl) dL_law_1390 (fun _ e => m_L_cheapest x1 v1 x3 h _ _ e) (fun r2 => ?_)
  refine YE.op (pc' := 1395) (loc' := [some (.ref 1000000), some (.ref x1), some (.ref x2), some (.ref x3), some (.int i), some (.int r2.1), none]) (fun _ => X.istore (Nat.le_of_ble_eq_true rfl) rfl dL_law_1393) ?_
  refine YE.op (pc' := 1396) (fun _ => X.aloadn rfl dL_law_1395) ?_
  refine YE.op (pc' := 1397) (fun _ => X.aloadn rfl dL_law_1396) ?_
  refine YE.op (pc' := 1399) (fun _ => X.iload rfl dL_law_1397) ?_
  refine YE.op (pc' := 1400) (fun _ => X.ic (v := 1) (by decide) dL_law_1399) ?_
  refine YE.op (pc' := 1401) (fun _ => X.iadd dL_law_1400) ?_
  refine YE.sald dL_law_1401 (fun v3 => ?_)
  refine YE.callVi (As := [.int v3]) lk_L_194 rfl cal_X10_cheapest vir_X10_cheapest (Nat.le_of_ble_eq_true rfl) (Nat.le_of_ble_eq_true rfl) rfl rfl rfl (Nat.le_of_ble_eq_true rfl) dL_law_1402 (fun _ e => m_X10_cheapest x2 v3 r2.2.1 _ _ e) (fun r4 => ?_)
  refine YE.op (pc' := 1407) (loc' := [some (.ref 1000000), some (.ref x1), some (.ref x2), some (.ref x3), some (.int i), some (.int r2.1), some (.int r4.1)]) (fun _ => X.istore (Nat.le_of_ble_eq_true rfl) rfl dL_law_1405) ?_
  refine YE.op (pc' := 1408) (fun _ => X.aloadn rfl dL_law_1407) ?_
  refine YE.callVi (As := []) lk_L_121 rfl cal_X10_thrown vir_X10_thrown (Nat.le_of_ble_eq_true rfl) (Nat.le_of_ble_eq_true rfl) rfl rfl rfl (Nat.le_of_ble_eq_true rfl) dL_law_1408 (fun _ e => m_X10_thrown x2 r4.2 _ _ e) (fun r5 => ?_)
  refine YE.op (pc' := 1413) (fun _ => X.iload rfl dL_law_1411) ?_
  refine YE.cmpeq 1418 (by decide) dL_law_1413 ?_ ?_
  · refine YE.op (pc' := 1420) (fun _ => X.iload rfl dL_law_1418) ?_
    refine YE.ifne 1435 (by decide) dL_law_1420 ?_ ?_
    · refine YE.op (pc' := 2297) (fun _ => X.goto 2297 (by decide) dL_law_1435) ?_
      exact YE.fg (hK i r5.2 (ex + r2.2.2)) (And.intro rfl (And.intro rfl (And.intro rfl (And.intro rfl (And.intro rfl trivial)))))
    · refine YE.op (pc' := 1424) (fun _ => X.aloadn rfl dL_law_1423) ?_
      refine YE.op (pc' := 1425) (fun _ => X.ic (v := 0) (by decide) dL_law_1424) ?_
      refine YE.aldJ dL_law_1425 (fun v6 => ?_)
      refine YE.op (pc' := 1428) (fun _ => X.iload rfl dL_law_1426) ?_
      refine YE.op (pc' := 1429) (fun _ => X.i2l dL_law_1428) ?_
      refine YE.op (pc' := 1430) (fun _ => X.lcmp dL_law_1429) ?_
      refine YE.ifeq 1435 (by decide) dL_law_1430 ?_ ?_
      · refine YE.op (pc' := 2297) (fun _ => X.goto 2297 (by decide) dL_law_1435) ?_
        exact YE.fg (hK i r5.2 (ex + r2.2.2)) (And.intro rfl (And.intro rfl (And.intro rfl (And.intro rfl (And.intro rfl trivial)))))
      · refine YE.op (pc' := 1434) (fun _ => X.ic (v := 0) (by decide) dL_law_1433) ?_
        exact YE.zret rfl (by decide) dL_law_1434
  · refine YE.op (pc' := 1417) (fun _ => X.ic (v := 0) (by decide) dL_law_1416) ?_
    exact YE.zret rfl (by decide) dL_law_1417
def f_L_C1438 (S : List Int32) (x1 x2 x3 : Nat) (K : Int32 → xH → Nat → Option (Int32 × xH × Nat)) (i : Int32) (h : xH) (ex : Nat) : Option (Int32 × xH × Nat) :=
  (vc h 9 x1 (f_X9_narrow x1 h)).bind fun r1 =>
  (vc r1.2 10 x2 (f_X10_narrow x2 r1.2)).bind fun r2 =>
  if r1.1 = r2.1 then
    K i r2.2 ex
  else
    some ((0 : Int32), r2.2, ex)
theorem y_L_C1438 {g : xG} {h0 : xH} (x1 x2 x3 : Nat) {K : Int32 → xH → Nat → Option (Int32 × xH × Nat)} (hK : ∀ (i : Int32) (h : xH) (ex : Nat), YE g DL_law h0 false iW (K i h ex) 2297 [some (.ref 1000000), some (.ref x1), some (.ref x2), some (.ref x3), some (.int i), none, none] [] h ex) (i : Int32) (h : xH) (ex : Nat) : YE g DL_law h0 false iW (f_L_C1438 (gX g) x1 x2 x3 K i h ex) 1438 [some (.ref 1000000), some (.ref x1), some (.ref x2), some (.ref x3), some (.int i), none, none] [] h ex := by
  unfold f_L_C1438
  refine YE.op (pc' := 1439) (fun _ => X.aloadn rfl dL_law_1438) ?_
  refine YE.callVi (As := []) lk_L_195 rfl cal_X9_narrow vir_X9_narrow (Nat.le_of_ble_eq_true rfl) (Nat.le_of_ble_eq_true rfl) rfl rfl rfl (Nat.le_of_ble_eq_true rfl) dL_law_1439 (fun _ e => m_X9_narrow x1 h _ _ e) (fun r1 => ?_)
  refine YE.op (pc' := 1443) (fun _ => X.aloadn rfl dL_law_1442) ?_
  refine YE.callVi (As := []) lk_L_198 rfl cal_X10_narrow vir_X10_narrow (Nat.le_of_ble_eq_true rfl) (Nat.le_of_ble_eq_true rfl) rfl rfl rfl (Nat.le_of_ble_eq_true rfl) dL_law_1443 (fun _ e => m_X10_narrow x2 r1.2 _ _ e) (fun r2 => ?_)
  refine YE.cmpeq 2297 (by decide) dL_law_1446 ?_ ?_
  · exact hK i r2.2 ex
  · refine YE.op (pc' := 1450) (fun _ => X.ic (v := 0) (by decide) dL_law_1449) ?_
    exact YE.zret rfl (by decide) dL_law_1450
def f_L_C1451 (S : List Int32) (x1 x2 x3 : Nat) (K : Int32 → xH → Nat → Option (Int32 × xH × Nat)) (i : Int32) (h : xH) (ex : Nat) : Option (Int32 × xH × Nat) :=
  (sc S (i + (1 : Int32))).bind fun v1 =>
  (f_L_more x1 v1 x3 h).bind fun r2 =>
  (sc S (i + (1 : Int32))).bind fun v3 =>
  (vc r2.2.1 10 x2 (f_X10_more_ x2 v3 r2.2.1)).bind fun r4 =>
  (vc r4.2 10 x2 (f_X10_thrown x2 r4.2)).bind fun r5 =>
  if r5.1 = r2.1 then
    if r2.1 = (0 : Int32) then
      (aJ r5.2 x3 (0 : Int32)).bind fun v6 =>
      if (lg_cmp v6 r4.1.toInt64) = (0 : Int32) then
        K i r5.2 (ex + r2.2.2)
      else
        some ((0 : Int32), r5.2, (ex + r2.2.2))
    else
      K i r5.2 (ex + r2.2.2)
  else
    some ((0 : Int32), r5.2, (ex + r2.2.2))
theorem y_L_C1451 {g : xG} {h0 : xH} (x1 x2 x3 : Nat) {K : Int32 → xH → Nat → Option (Int32 × xH × Nat)} (hK : ∀ (i : Int32) (h : xH) (ex : Nat), YE g DL_law h0 false iW (K i h ex) 2297 [some (.ref 1000000), some (.ref x1), some (.ref x2), some (.ref x3), some (.int i), none, none] [] h ex) (i : Int32) (h : xH) (ex : Nat) : YE g DL_law h0 false iW (f_L_C1451 (gX g) x1 x2 x3 K i h ex) 1451 [some (.ref 1000000), some (.ref x1), some (.ref x2), some (.ref x3), some (.int i), none, none] [] h ex := by
  unfold f_L_C1451
  refine YE.op (pc' := 1452) (fun _ => X.aloadn rfl dL_law_1451) ?_
  refine YE.op (pc' := 1453) (fun _ => X.aloadn rfl dL_law_1452) ?_
  refine YE.op (pc' := 1455) (fun _ => X.iload rfl dL_law_1453) ?_
  refine YE.op (pc' := 1456) (fun _ => X.ic (v := 1) (by decide) dL_law_1455) ?_
  refine YE.op (pc' := 1457) (fun _ => X.iadd dL_law_1456) ?_
  refine YE.sald dL_law_1457 (fun v1 => ?_)
  refine YE.op (pc' := 1459) (fun _ => X.aloadn rfl dL_law_1458) ?_
  refine YE.callW (As := [.ref x1, .int v1, .ref x3]) lkw_L_more rfl calw_L_more staw_L_more (Nat.le_of_ble_eq_true rfl) rfl rfl (Nat.le_of_ble_eq_true rfl) dL_law_1459 (fun _ e => m_L_more x1 v1 x3 h _ _ e) (fun r2 => ?_)
  refine YE.op (pc' := 1464) (loc' := [some (.ref 1000000), some (.ref x1), some (.ref x2), some (.ref x3), some (.int i), some (.int r2.1), none]) (fun _ => X.istore (Nat.le_of_ble_eq_true rfl) rfl dL_law_1462) ?_
  refine YE.op (pc' := 1465) (fun _ => X.aloadn rfl dL_law_1464) ?_
  refine YE.op (pc' := 1466) (fun _ => X.aloadn rfl dL_law_1465) ?_
  refine YE.op (pc' := 1468) (fun _ => X.iload rfl dL_law_1466) ?_
  refine YE.op (pc' := 1469) (fun _ => X.ic (v := 1) (by decide) dL_law_1468) ?_
  refine YE.op (pc' := 1470) (fun _ => X.iadd dL_law_1469) ?_
  refine YE.sald dL_law_1470 (fun v3 => ?_)
  refine YE.callVi (As := [.int v3]) lk_L_201 rfl cal_X10_more_ vir_X10_more_ (Nat.le_of_ble_eq_true rfl) (Nat.le_of_ble_eq_true rfl) rfl rfl rfl (Nat.le_of_ble_eq_true rfl) dL_law_1471 (fun _ e => m_X10_more_ x2 v3 r2.2.1 _ _ e) (fun r4 => ?_)
  refine YE.op (pc' := 1476) (loc' := [some (.ref 1000000), some (.ref x1), some (.ref x2), some (.ref x3), some (.int i), some (.int r2.1), some (.int r4.1)]) (fun _ => X.istore (Nat.le_of_ble_eq_true rfl) rfl dL_law_1474) ?_
  refine YE.op (pc' := 1477) (fun _ => X.aloadn rfl dL_law_1476) ?_
  refine YE.callVi (As := []) lk_L_121 rfl cal_X10_thrown vir_X10_thrown (Nat.le_of_ble_eq_true rfl) (Nat.le_of_ble_eq_true rfl) rfl rfl rfl (Nat.le_of_ble_eq_true rfl) dL_law_1477 (fun _ e => m_X10_thrown x2 r4.2 _ _ e) (fun r5 => ?_)
  refine YE.op (pc' := 1482) (fun _ => X.iload rfl dL_law_1480) ?_
  refine YE.cmpeq 1487 (by decide) dL_law_1482 ?_ ?_
  · refine YE.op (pc' := 1489) (fun _ => X.iload rfl dL_law_1487) ?_
    refine YE.ifne 1504 (by decide) dL_law_1489 ?_ ?_
    · refine YE.op (pc' := 2297) (fun _ => X.goto 2297 (by decide) dL_law_1504) ?_
      exact YE.fg (hK i r5.2 (ex + r2.2.2)) (And.intro rfl (And.intro rfl (And.intro rfl (And.intro rfl (And.intro rfl trivial)))))
    · refine YE.op (pc' := 1493) (fun _ => X.aloadn rfl dL_law_1492) ?_
      refine YE.op (pc' := 1494) (fun _ => X.ic (v := 0) (by decide) dL_law_1493) ?_
      refine YE.aldJ dL_law_1494 (fun v6 => ?_)
      refine YE.op (pc' := 1497) (fun _ => X.iload rfl dL_law_1495) ?_
      refine YE.op (pc' := 1498) (fun _ => X.i2l dL_law_1497) ?_
      refine YE.op (pc' := 1499) (fun _ => X.lcmp dL_law_1498) ?_
      refine YE.ifeq 1504 (by decide) dL_law_1499 ?_ ?_
      · refine YE.op (pc' := 2297) (fun _ => X.goto 2297 (by decide) dL_law_1504) ?_
        exact YE.fg (hK i r5.2 (ex + r2.2.2)) (And.intro rfl (And.intro rfl (And.intro rfl (And.intro rfl (And.intro rfl trivial)))))
      · refine YE.op (pc' := 1503) (fun _ => X.ic (v := 0) (by decide) dL_law_1502) ?_
        exact YE.zret rfl (by decide) dL_law_1503
  · refine YE.op (pc' := 1486) (fun _ => X.ic (v := 0) (by decide) dL_law_1485) ?_
    exact YE.zret rfl (by decide) dL_law_1486
def f_L_C1507 (S : List Int32) (x1 x2 x3 : Nat) (K : Int32 → xH → Nat → Option (Int32 × xH × Nat)) (i : Int32) (h : xH) (ex : Nat) : Option (Int32 × xH × Nat) :=
  (sc S (i + (1 : Int32))).bind fun v1 =>
  (f_L_fewest x1 v1 x3 h).bind fun r2 =>
  (sc S (i + (1 : Int32))).bind fun v3 =>
  (vc r2.2.1 10 x2 (f_X10_fewest x2 v3 r2.2.1)).bind fun r4 =>
  (vc r4.2 10 x2 (f_X10_thrown x2 r4.2)).bind fun r5 =>
  if r5.1 = r2.1 then
    if r2.1 = (0 : Int32) then
      (aJ r5.2 x3 (0 : Int32)).bind fun v6 =>
      if (lg_cmp v6 r4.1.toInt64) = (0 : Int32) then
        K i r5.2 (ex + r2.2.2)
      else
        some ((0 : Int32), r5.2, (ex + r2.2.2))
    else
      K i r5.2 (ex + r2.2.2)
  else
    some ((0 : Int32), r5.2, (ex + r2.2.2))
theorem y_L_C1507 {g : xG} {h0 : xH} (x1 x2 x3 : Nat) {K : Int32 → xH → Nat → Option (Int32 × xH × Nat)} (hK : ∀ (i : Int32) (h : xH) (ex : Nat), YE g DL_law h0 false iW (K i h ex) 2297 [some (.ref 1000000), some (.ref x1), some (.ref x2), some (.ref x3), some (.int i), none, none] [] h ex) (i : Int32) (h : xH) (ex : Nat) : YE g DL_law h0 false iW (f_L_C1507 (gX g) x1 x2 x3 K i h ex) 1507 [some (.ref 1000000), some (.ref x1), some (.ref x2), some (.ref x3), some (.int i), none, none] [] h ex := by
  unfold f_L_C1507
  refine YE.op (pc' := 1508) (fun _ => X.aloadn rfl dL_law_1507) ?_
  refine YE.op (pc' := 1509) (fun _ => X.aloadn rfl dL_law_1508) ?_
  refine YE.op (pc' := 1511) (fun _ => X.iload rfl dL_law_1509) ?_
  refine YE.op (pc' := 1512) (fun _ => X.ic (v := 1) (by decide) dL_law_1511) ?_
  refine YE.op (pc' := 1513) (fun _ => X.iadd dL_law_1512) ?_
  refine YE.sald dL_law_1513 (fun v1 => ?_)
  refine YE.op (pc' := 1515) (fun _ => X.aloadn rfl dL_law_1514) ?_
  refine YE.callW (As := [.ref x1, .int v1, .ref x3]) lkw_L_fewest rfl calw_L_fewest staw_L_fewest (Nat.le_of_ble_eq_true rfl) rfl rfl (Nat.le_of_ble_eq_true rfl) dL_law_1515 (fun _ e => m_L_fewest x1 v1 x3 h _ _ e) (fun r2 => ?_)
  refine YE.op (pc' := 1520) (loc' := [some (.ref 1000000), some (.ref x1), some (.ref x2), some (.ref x3), some (.int i), some (.int r2.1), none]) (fun _ => X.istore (Nat.le_of_ble_eq_true rfl) rfl dL_law_1518) ?_
  refine YE.op (pc' := 1521) (fun _ => X.aloadn rfl dL_law_1520) ?_
  refine YE.op (pc' := 1522) (fun _ => X.aloadn rfl dL_law_1521) ?_
  refine YE.op (pc' := 1524) (fun _ => X.iload rfl dL_law_1522) ?_
  refine YE.op (pc' := 1525) (fun _ => X.ic (v := 1) (by decide) dL_law_1524) ?_
  refine YE.op (pc' := 1526) (fun _ => X.iadd dL_law_1525) ?_
  refine YE.sald dL_law_1526 (fun v3 => ?_)
  refine YE.callVi (As := [.int v3]) lk_L_204 rfl cal_X10_fewest vir_X10_fewest (Nat.le_of_ble_eq_true rfl) (Nat.le_of_ble_eq_true rfl) rfl rfl rfl (Nat.le_of_ble_eq_true rfl) dL_law_1527 (fun _ e => m_X10_fewest x2 v3 r2.2.1 _ _ e) (fun r4 => ?_)
  refine YE.op (pc' := 1532) (loc' := [some (.ref 1000000), some (.ref x1), some (.ref x2), some (.ref x3), some (.int i), some (.int r2.1), some (.int r4.1)]) (fun _ => X.istore (Nat.le_of_ble_eq_true rfl) rfl dL_law_1530) ?_
  refine YE.op (pc' := 1533) (fun _ => X.aloadn rfl dL_law_1532) ?_
  refine YE.callVi (As := []) lk_L_121 rfl cal_X10_thrown vir_X10_thrown (Nat.le_of_ble_eq_true rfl) (Nat.le_of_ble_eq_true rfl) rfl rfl rfl (Nat.le_of_ble_eq_true rfl) dL_law_1533 (fun _ e => m_X10_thrown x2 r4.2 _ _ e) (fun r5 => ?_)
  refine YE.op (pc' := 1538) (fun _ => X.iload rfl dL_law_1536) ?_
  refine YE.cmpeq 1543 (by decide) dL_law_1538 ?_ ?_
  · refine YE.op (pc' := 1545) (fun _ => X.iload rfl dL_law_1543) ?_
    refine YE.ifne 1560 (by decide) dL_law_1545 ?_ ?_
    · refine YE.op (pc' := 2297) (fun _ => X.goto 2297 (by decide) dL_law_1560) ?_
      exact YE.fg (hK i r5.2 (ex + r2.2.2)) (And.intro rfl (And.intro rfl (And.intro rfl (And.intro rfl (And.intro rfl trivial)))))
    · refine YE.op (pc' := 1549) (fun _ => X.aloadn rfl dL_law_1548) ?_
      refine YE.op (pc' := 1550) (fun _ => X.ic (v := 0) (by decide) dL_law_1549) ?_
      refine YE.aldJ dL_law_1550 (fun v6 => ?_)
      refine YE.op (pc' := 1553) (fun _ => X.iload rfl dL_law_1551) ?_
      refine YE.op (pc' := 1554) (fun _ => X.i2l dL_law_1553) ?_
      refine YE.op (pc' := 1555) (fun _ => X.lcmp dL_law_1554) ?_
      refine YE.ifeq 1560 (by decide) dL_law_1555 ?_ ?_
      · refine YE.op (pc' := 2297) (fun _ => X.goto 2297 (by decide) dL_law_1560) ?_
        exact YE.fg (hK i r5.2 (ex + r2.2.2)) (And.intro rfl (And.intro rfl (And.intro rfl (And.intro rfl (And.intro rfl trivial)))))
      · refine YE.op (pc' := 1559) (fun _ => X.ic (v := 0) (by decide) dL_law_1558) ?_
        exact YE.zret rfl (by decide) dL_law_1559
  · refine YE.op (pc' := 1542) (fun _ => X.ic (v := 0) (by decide) dL_law_1541) ?_
    exact YE.zret rfl (by decide) dL_law_1542
def f_L_C1563 (S : List Int32) (x1 x2 x3 : Nat) (K : Int32 → xH → Nat → Option (Int32 × xH × Nat)) (i : Int32) (h : xH) (ex : Nat) : Option (Int32 × xH × Nat) :=
  (sc S (i + (1 : Int32))).bind fun v1 =>
  (f_L_chosen x1 v1 x3 h).bind fun r2 =>
  (sc S (i + (1 : Int32))).bind fun v3 =>
  (vc r2.2.1 10 x2 (f_X10_chosen x2 v3 r2.2.1)).bind fun r4 =>
  (vc r4.2 10 x2 (f_X10_thrown x2 r4.2)).bind fun r5 =>
  if r5.1 = r2.1 then
    if r2.1 = (0 : Int32) then
      (aJ r5.2 x3 (0 : Int32)).bind fun v6 =>
      if (lg_cmp v6 r4.1.toInt64) = (0 : Int32) then
        K i r5.2 (ex + r2.2.2)
      else
        some ((0 : Int32), r5.2, (ex + r2.2.2))
    else
      K i r5.2 (ex + r2.2.2)
  else
    some ((0 : Int32), r5.2, (ex + r2.2.2))
theorem y_L_C1563 {g : xG} {h0 : xH} (x1 x2 x3 : Nat) {K : Int32 → xH → Nat → Option (Int32 × xH × Nat)} (hK : ∀ (i : Int32) (h : xH) (ex : Nat), YE g DL_law h0 false iW (K i h ex) 2297 [some (.ref 1000000), some (.ref x1), some (.ref x2), some (.ref x3), some (.int i), none, none] [] h ex) (i : Int32) (h : xH) (ex : Nat) : YE g DL_law h0 false iW (f_L_C1563 (gX g) x1 x2 x3 K i h ex) 1563 [some (.ref 1000000), some (.ref x1), some (.ref x2), some (.ref x3), some (.int i), none, none] [] h ex := by
  unfold f_L_C1563
  refine YE.op (pc' := 1564) (fun _ => X.aloadn rfl dL_law_1563) ?_
  refine YE.op (pc' := 1565) (fun _ => X.aloadn rfl dL_law_1564) ?_
  refine YE.op (pc' := 1567) (fun _ => X.iload rfl dL_law_1565) ?_
  refine YE.op (pc' := 1568) (fun _ => X.ic (v := 1) (by decide) dL_law_1567) ?_
  refine YE.op (pc' := 1569) (fun _ => X.iadd dL_law_1568) ?_
  refine YE.sald dL_law_1569 (fun v1 => ?_)
  refine YE.op (pc' := 1571) (fun _ => X.aloadn rfl dL_law_1570) ?_
  refine YE.callW (As := [.ref x1, .int v1, .ref x3]) lkw_L_chosen rfl calw_L_chosen staw_L_chosen (Nat.le_of_ble_eq_true rfl) rfl rfl (Nat.le_of_ble_eq_true rfl) dL_law_1571 (fun _ e => m_L_chosen x1 v1 x3 h _ _ e) (fun r2 => ?_)
  refine YE.op (pc' := 1576) (loc' := [some (.ref 1000000), some (.ref x1), some (.ref x2), some (.ref x3), some (.int i), some (.int r2.1), none]) (fun _ => X.istore (Nat.le_of_ble_eq_true rfl) rfl dL_law_1574) ?_
  refine YE.op (pc' := 1577) (fun _ => X.aloadn rfl dL_law_1576) ?_
  refine YE.op (pc' := 1578) (fun _ => X.aloadn rfl dL_law_1577) ?_
  refine YE.op (pc' := 1580) (fun _ => X.iload rfl dL_law_1578) ?_
  refine YE.op (pc' := 1581) (fun _ => X.ic (v := 1) (by decide) dL_law_1580) ?_
  refine YE.op (pc' := 1582) (fun _ => X.iadd dL_law_1581) ?_
  refine YE.sald dL_law_1582 (fun v3 => ?_)
  refine YE.callVi (As := [.int v3]) lk_L_207 rfl cal_X10_chosen vir_X10_chosen (Nat.le_of_ble_eq_true rfl) (Nat.le_of_ble_eq_true rfl) rfl rfl rfl (Nat.le_of_ble_eq_true rfl) dL_law_1583 (fun _ e => m_X10_chosen x2 v3 r2.2.1 _ _ e) (fun r4 => ?_)
  refine YE.op (pc' := 1588) (loc' := [some (.ref 1000000), some (.ref x1), some (.ref x2), some (.ref x3), some (.int i), some (.int r2.1), some (.int r4.1)]) (fun _ => X.istore (Nat.le_of_ble_eq_true rfl) rfl dL_law_1586) ?_
  refine YE.op (pc' := 1589) (fun _ => X.aloadn rfl dL_law_1588) ?_
  refine YE.callVi (As := []) lk_L_121 rfl cal_X10_thrown vir_X10_thrown (Nat.le_of_ble_eq_true rfl) (Nat.le_of_ble_eq_true rfl) rfl rfl rfl (Nat.le_of_ble_eq_true rfl) dL_law_1589 (fun _ e => m_X10_thrown x2 r4.2 _ _ e) (fun r5 => ?_)
  refine YE.op (pc' := 1594) (fun _ => X.iload rfl dL_law_1592) ?_
  refine YE.cmpeq 1599 (by decide) dL_law_1594 ?_ ?_
  · refine YE.op (pc' := 1601) (fun _ => X.iload rfl dL_law_1599) ?_
    refine YE.ifne 1616 (by decide) dL_law_1601 ?_ ?_
    · refine YE.op (pc' := 2297) (fun _ => X.goto 2297 (by decide) dL_law_1616) ?_
      exact YE.fg (hK i r5.2 (ex + r2.2.2)) (And.intro rfl (And.intro rfl (And.intro rfl (And.intro rfl (And.intro rfl trivial)))))
    · refine YE.op (pc' := 1605) (fun _ => X.aloadn rfl dL_law_1604) ?_
      refine YE.op (pc' := 1606) (fun _ => X.ic (v := 0) (by decide) dL_law_1605) ?_
      refine YE.aldJ dL_law_1606 (fun v6 => ?_)
      refine YE.op (pc' := 1609) (fun _ => X.iload rfl dL_law_1607) ?_
      refine YE.op (pc' := 1610) (fun _ => X.i2l dL_law_1609) ?_
      refine YE.op (pc' := 1611) (fun _ => X.lcmp dL_law_1610) ?_
      refine YE.ifeq 1616 (by decide) dL_law_1611 ?_ ?_
      · refine YE.op (pc' := 2297) (fun _ => X.goto 2297 (by decide) dL_law_1616) ?_
        exact YE.fg (hK i r5.2 (ex + r2.2.2)) (And.intro rfl (And.intro rfl (And.intro rfl (And.intro rfl (And.intro rfl trivial)))))
      · refine YE.op (pc' := 1615) (fun _ => X.ic (v := 0) (by decide) dL_law_1614) ?_
        exact YE.zret rfl (by decide) dL_law_1615
  · refine YE.op (pc' := 1598) (fun _ => X.ic (v := 0) (by decide) dL_law_1597) ?_
    exact YE.zret rfl (by decide) dL_law_1598
def f_L_C1619 (S : List Int32) (x1 x2 x3 : Nat) (K : Int32 → xH → Nat → Option (Int32 × xH × Nat)) (i : Int32) (h : xH) (ex : Nat) : Option (Int32 × xH × Nat) :=
  (vc h 9 x1 (f_X9_rounds x1 h)).bind fun r1 =>
  (vc r1.2 10 x2 (f_X10_rounds x2 r1.2)).bind fun r2 =>
  if r1.1 = r2.1 then
    K i r2.2 ex
  else
    some ((0 : Int32), r2.2, ex)
theorem y_L_C1619 {g : xG} {h0 : xH} (x1 x2 x3 : Nat) {K : Int32 → xH → Nat → Option (Int32 × xH × Nat)} (hK : ∀ (i : Int32) (h : xH) (ex : Nat), YE g DL_law h0 false iW (K i h ex) 2297 [some (.ref 1000000), some (.ref x1), some (.ref x2), some (.ref x3), some (.int i), none, none] [] h ex) (i : Int32) (h : xH) (ex : Nat) : YE g DL_law h0 false iW (f_L_C1619 (gX g) x1 x2 x3 K i h ex) 1619 [some (.ref 1000000), some (.ref x1), some (.ref x2), some (.ref x3), some (.int i), none, none] [] h ex := by
  unfold f_L_C1619
  refine YE.op (pc' := 1620) (fun _ => X.aloadn rfl dL_law_1619) ?_
  refine YE.callVi (As := []) lk_L_208 rfl cal_X9_rounds vir_X9_rounds (Nat.le_of_ble_eq_true rfl) (Nat.le_of_ble_eq_true rfl) rfl rfl rfl (Nat.le_of_ble_eq_true rfl) dL_law_1620 (fun _ e => m_X9_rounds x1 h _ _ e) (fun r1 => ?_)
  refine YE.op (pc' := 1624) (fun _ => X.aloadn rfl dL_law_1623) ?_
  refine YE.callVi (As := []) lk_L_211 rfl cal_X10_rounds vir_X10_rounds (Nat.le_of_ble_eq_true rfl) (Nat.le_of_ble_eq_true rfl) rfl rfl rfl (Nat.le_of_ble_eq_true rfl) dL_law_1624 (fun _ e => m_X10_rounds x2 r1.2 _ _ e) (fun r2 => ?_)
  refine YE.cmpeq 2297 (by decide) dL_law_1627 ?_ ?_
  · exact hK i r2.2 ex
  · refine YE.op (pc' := 1631) (fun _ => X.ic (v := 0) (by decide) dL_law_1630) ?_
    exact YE.zret rfl (by decide) dL_law_1631
def f_L_C1632 (S : List Int32) (x1 x2 x3 : Nat) (K : Int32 → xH → Nat → Option (Int32 × xH × Nat)) (i : Int32) (h : xH) (ex : Nat) : Option (Int32 × xH × Nat) :=
  (sc S (i + (1 : Int32))).bind fun v1 =>
  (sc S (i + (2 : Int32))).bind fun v2 =>
  (f_L_round x1 v1 v2 x3 h).bind fun r3 =>
  (sc S (i + (1 : Int32))).bind fun v4 =>
  (sc S (i + (2 : Int32))).bind fun v5 =>
  (vc r3.2.1 10 x2 (f_X10_round x2 v4 v5 r3.2.1)).bind fun r6 =>
  (vc r6.2 10 x2 (f_X10_thrown x2 r6.2)).bind fun r7 =>
  if r7.1 = r3.1 then
    if r3.1 = (0 : Int32) then
      (aJ r7.2 x3 (0 : Int32)).bind fun v8 =>
      if (lg_cmp v8 r6.1.toInt64) = (0 : Int32) then
        K i r7.2 (ex + r3.2.2)
      else
        some ((0 : Int32), r7.2, (ex + r3.2.2))
    else
      K i r7.2 (ex + r3.2.2)
  else
    some ((0 : Int32), r7.2, (ex + r3.2.2))
theorem y_L_C1632 {g : xG} {h0 : xH} (x1 x2 x3 : Nat) {K : Int32 → xH → Nat → Option (Int32 × xH × Nat)} (hK : ∀ (i : Int32) (h : xH) (ex : Nat), YE g DL_law h0 false iW (K i h ex) 2297 [some (.ref 1000000), some (.ref x1), some (.ref x2), some (.ref x3), some (.int i), none, none] [] h ex) (i : Int32) (h : xH) (ex : Nat) : YE g DL_law h0 false iW (f_L_C1632 (gX g) x1 x2 x3 K i h ex) 1632 [some (.ref 1000000), some (.ref x1), some (.ref x2), some (.ref x3), some (.int i), none, none] [] h ex := by
  unfold f_L_C1632
  refine YE.op (pc' := 1633) (fun _ => X.aloadn rfl dL_law_1632) ?_
  refine YE.op (pc' := 1634) (fun _ => X.aloadn rfl dL_law_1633) ?_
  refine YE.op (pc' := 1636) (fun _ => X.iload rfl dL_law_1634) ?_
  refine YE.op (pc' := 1637) (fun _ => X.ic (v := 1) (by decide) dL_law_1636) ?_
  refine YE.op (pc' := 1638) (fun _ => X.iadd dL_law_1637) ?_
  refine YE.sald dL_law_1638 (fun v1 => ?_)
  refine YE.op (pc' := 1640) (fun _ => X.aloadn rfl dL_law_1639) ?_
  refine YE.op (pc' := 1642) (fun _ => X.iload rfl dL_law_1640) ?_
  refine YE.op (pc' := 1643) (fun _ => X.ic (v := 2) (by decide) dL_law_1642) ?_
  refine YE.op (pc' := 1644) (fun _ => X.iadd dL_law_1643) ?_
  refine YE.sald dL_law_1644 (fun v2 => ?_)
  refine YE.op (pc' := 1646) (fun _ => X.aloadn rfl dL_law_1645) ?_
  refine YE.callW (As := [.ref x1, .int v1, .int v2, .ref x3]) lkw_L_round rfl calw_L_round staw_L_round (Nat.le_of_ble_eq_true rfl) rfl rfl (Nat.le_of_ble_eq_true rfl) dL_law_1646 (fun _ e => m_L_round x1 v1 v2 x3 h _ _ e) (fun r3 => ?_)
  refine YE.op (pc' := 1651) (loc' := [some (.ref 1000000), some (.ref x1), some (.ref x2), some (.ref x3), some (.int i), some (.int r3.1), none]) (fun _ => X.istore (Nat.le_of_ble_eq_true rfl) rfl dL_law_1649) ?_
  refine YE.op (pc' := 1652) (fun _ => X.aloadn rfl dL_law_1651) ?_
  refine YE.op (pc' := 1653) (fun _ => X.aloadn rfl dL_law_1652) ?_
  refine YE.op (pc' := 1655) (fun _ => X.iload rfl dL_law_1653) ?_
  refine YE.op (pc' := 1656) (fun _ => X.ic (v := 1) (by decide) dL_law_1655) ?_
  refine YE.op (pc' := 1657) (fun _ => X.iadd dL_law_1656) ?_
  refine YE.sald dL_law_1657 (fun v4 => ?_)
  refine YE.op (pc' := 1659) (fun _ => X.aloadn rfl dL_law_1658) ?_
  refine YE.op (pc' := 1661) (fun _ => X.iload rfl dL_law_1659) ?_
  refine YE.op (pc' := 1662) (fun _ => X.ic (v := 2) (by decide) dL_law_1661) ?_
  refine YE.op (pc' := 1663) (fun _ => X.iadd dL_law_1662) ?_
  refine YE.sald dL_law_1663 (fun v5 => ?_)
  refine YE.callVi (As := [.int v4, .int v5]) lk_L_214 rfl cal_X10_round vir_X10_round (Nat.le_of_ble_eq_true rfl) (Nat.le_of_ble_eq_true rfl) rfl rfl rfl (Nat.le_of_ble_eq_true rfl) dL_law_1664 (fun _ e => m_X10_round x2 v4 v5 r3.2.1 _ _ e) (fun r6 => ?_)
  refine YE.op (pc' := 1669) (loc' := [some (.ref 1000000), some (.ref x1), some (.ref x2), some (.ref x3), some (.int i), some (.int r3.1), some (.int r6.1)]) (fun _ => X.istore (Nat.le_of_ble_eq_true rfl) rfl dL_law_1667) ?_
  refine YE.op (pc' := 1670) (fun _ => X.aloadn rfl dL_law_1669) ?_
  refine YE.callVi (As := []) lk_L_121 rfl cal_X10_thrown vir_X10_thrown (Nat.le_of_ble_eq_true rfl) (Nat.le_of_ble_eq_true rfl) rfl rfl rfl (Nat.le_of_ble_eq_true rfl) dL_law_1670 (fun _ e => m_X10_thrown x2 r6.2 _ _ e) (fun r7 => ?_)
  refine YE.op (pc' := 1675) (fun _ => X.iload rfl dL_law_1673) ?_
  refine YE.cmpeq 1680 (by decide) dL_law_1675 ?_ ?_
  · refine YE.op (pc' := 1682) (fun _ => X.iload rfl dL_law_1680) ?_
    refine YE.ifne 1697 (by decide) dL_law_1682 ?_ ?_
    · refine YE.op (pc' := 2297) (fun _ => X.goto 2297 (by decide) dL_law_1697) ?_
      exact YE.fg (hK i r7.2 (ex + r3.2.2)) (And.intro rfl (And.intro rfl (And.intro rfl (And.intro rfl (And.intro rfl trivial)))))
    · refine YE.op (pc' := 1686) (fun _ => X.aloadn rfl dL_law_1685) ?_
      refine YE.op (pc' := 1687) (fun _ => X.ic (v := 0) (by decide) dL_law_1686) ?_
      refine YE.aldJ dL_law_1687 (fun v8 => ?_)
      refine YE.op (pc' := 1690) (fun _ => X.iload rfl dL_law_1688) ?_
      refine YE.op (pc' := 1691) (fun _ => X.i2l dL_law_1690) ?_
      refine YE.op (pc' := 1692) (fun _ => X.lcmp dL_law_1691) ?_
      refine YE.ifeq 1697 (by decide) dL_law_1692 ?_ ?_
      · refine YE.op (pc' := 2297) (fun _ => X.goto 2297 (by decide) dL_law_1697) ?_
        exact YE.fg (hK i r7.2 (ex + r3.2.2)) (And.intro rfl (And.intro rfl (And.intro rfl (And.intro rfl (And.intro rfl trivial)))))
      · refine YE.op (pc' := 1696) (fun _ => X.ic (v := 0) (by decide) dL_law_1695) ?_
        exact YE.zret rfl (by decide) dL_law_1696
  · refine YE.op (pc' := 1679) (fun _ => X.ic (v := 0) (by decide) dL_law_1678) ?_
    exact YE.zret rfl (by decide) dL_law_1679
def f_L_C1700 (S : List Int32) (x1 x2 x3 : Nat) (K : Int32 → xH → Nat → Option (Int32 × xH × Nat)) (i : Int32) (h : xH) (ex : Nat) : Option (Int32 × xH × Nat) :=
  (sc S (i + (1 : Int32))).bind fun v1 =>
  (sc S (i + (2 : Int32))).bind fun v2 =>
  (sc S (i + (3 : Int32))).bind fun v3 =>
  (f_L_add x1 v1 v2 v3 x3 h).bind fun r4 =>
  (sc S (i + (1 : Int32))).bind fun v5 =>
  (sc S (i + (2 : Int32))).bind fun v6 =>
  (sc S (i + (3 : Int32))).bind fun v7 =>
  (vc r4.2.1 10 x2 (f_X10_add x2 v5 v6 v7 r4.2.1)).bind fun r8 =>
  (vc r8.2 10 x2 (f_X10_thrown x2 r8.2)).bind fun r9 =>
  if r9.1 = r4.1 then
    if r4.1 = (0 : Int32) then
      (aJ r9.2 x3 (0 : Int32)).bind fun v10 =>
      if (lg_cmp v10 r8.1.toInt64) = (0 : Int32) then
        K i r9.2 (ex + r4.2.2)
      else
        some ((0 : Int32), r9.2, (ex + r4.2.2))
    else
      K i r9.2 (ex + r4.2.2)
  else
    some ((0 : Int32), r9.2, (ex + r4.2.2))
theorem y_L_C1700 {g : xG} {h0 : xH} (x1 x2 x3 : Nat) {K : Int32 → xH → Nat → Option (Int32 × xH × Nat)} (hK : ∀ (i : Int32) (h : xH) (ex : Nat), YE g DL_law h0 false iW (K i h ex) 2297 [some (.ref 1000000), some (.ref x1), some (.ref x2), some (.ref x3), some (.int i), none, none] [] h ex) (i : Int32) (h : xH) (ex : Nat) : YE g DL_law h0 false iW (f_L_C1700 (gX g) x1 x2 x3 K i h ex) 1700 [some (.ref 1000000), some (.ref x1), some (.ref x2), some (.ref x3), some (.int i), none, none] [] h ex := by
  unfold f_L_C1700
  refine YE.op (pc' := 1701) (fun _ => X.aloadn rfl dL_law_1700) ?_
  refine YE.op (pc' := 1702) (fun _ => X.aloadn rfl dL_law_1701) ?_
  refine YE.op (pc' := 1704) (fun _ => X.iload rfl dL_law_1702) ?_
  refine YE.op (pc' := 1705) (fun _ => X.ic (v := 1) (by decide) dL_law_1704) ?_
  refine YE.op (pc' := 1706) (fun _ => X.iadd dL_law_1705) ?_
  refine YE.sald dL_law_1706 (fun v1 => ?_)
  refine YE.op (pc' := 1708) (fun _ => X.aloadn rfl dL_law_1707) ?_
  refine YE.op (pc' := 1710) (fun _ => X.iload rfl dL_law_1708) ?_
  refine YE.op (pc' := 1711) (fun _ => X.ic (v := 2) (by decide) dL_law_1710) ?_
  refine YE.op (pc' := 1712) (fun _ => X.iadd dL_law_1711) ?_
  refine YE.sald dL_law_1712 (fun v2 => ?_)
  refine YE.op (pc' := 1714) (fun _ => X.aloadn rfl dL_law_1713) ?_
  refine YE.op (pc' := 1716) (fun _ => X.iload rfl dL_law_1714) ?_
  refine YE.op (pc' := 1717) (fun _ => X.ic (v := 3) (by decide) dL_law_1716) ?_
  refine YE.op (pc' := 1718) (fun _ => X.iadd dL_law_1717) ?_
  refine YE.sald dL_law_1718 (fun v3 => ?_)
  refine YE.op (pc' := 1720) (fun _ => X.aloadn rfl dL_law_1719) ?_
  refine YE.callW (As := [.ref x1, .int v1, .int v2, .int v3, .ref x3]) lkw_L_add rfl calw_L_add staw_L_add (Nat.le_of_ble_eq_true rfl) rfl rfl (Nat.le_of_ble_eq_true rfl) dL_law_1720 (fun _ e => m_L_add x1 v1 v2 v3 x3 h _ _ e) (fun r4 => ?_)
  refine YE.op (pc' := 1725) (loc' := [some (.ref 1000000), some (.ref x1), some (.ref x2), some (.ref x3), some (.int i), some (.int r4.1), none]) (fun _ => X.istore (Nat.le_of_ble_eq_true rfl) rfl dL_law_1723) ?_
  refine YE.op (pc' := 1726) (fun _ => X.aloadn rfl dL_law_1725) ?_
  refine YE.op (pc' := 1727) (fun _ => X.aloadn rfl dL_law_1726) ?_
  refine YE.op (pc' := 1729) (fun _ => X.iload rfl dL_law_1727) ?_
  refine YE.op (pc' := 1730) (fun _ => X.ic (v := 1) (by decide) dL_law_1729) ?_
  refine YE.op (pc' := 1731) (fun _ => X.iadd dL_law_1730) ?_
  refine YE.sald dL_law_1731 (fun v5 => ?_)
  refine YE.op (pc' := 1733) (fun _ => X.aloadn rfl dL_law_1732) ?_
  refine YE.op (pc' := 1735) (fun _ => X.iload rfl dL_law_1733) ?_
  refine YE.op (pc' := 1736) (fun _ => X.ic (v := 2) (by decide) dL_law_1735) ?_
  refine YE.op (pc' := 1737) (fun _ => X.iadd dL_law_1736) ?_
  refine YE.sald dL_law_1737 (fun v6 => ?_)
  refine YE.op (pc' := 1739) (fun _ => X.aloadn rfl dL_law_1738) ?_
  refine YE.op (pc' := 1741) (fun _ => X.iload rfl dL_law_1739) ?_
  refine YE.op (pc' := 1742) (fun _ => X.ic (v := 3) (by decide) dL_law_1741) ?_
  refine YE.op (pc' := 1743) (fun _ => X.iadd dL_law_1742) ?_
  refine YE.sald dL_law_1743 (fun v7 => ?_)
  refine YE.callVi (As := [.int v5, .int v6, .int v7]) lk_L_217 rfl cal_X10_add vir_X10_add (Nat.le_of_ble_eq_true rfl) (Nat.le_of_ble_eq_true rfl) rfl rfl rfl (Nat.le_of_ble_eq_true rfl) dL_law_1744 (fun _ e => m_X10_add x2 v5 v6 v7 r4.2.1 _ _ e) (fun r8 => ?_)
  refine YE.op (pc' := 1749) (loc' := [some (.ref 1000000), some (.ref x1), some (.ref x2), some (.ref x3), some (.int i), some (.int r4.1), some (.int r8.1)]) (fun _ => X.istore (Nat.le_of_ble_eq_true rfl) rfl dL_law_1747) ?_
  refine YE.op (pc' := 1750) (fun _ => X.aloadn rfl dL_law_1749) ?_
  refine YE.callVi (As := []) lk_L_121 rfl cal_X10_thrown vir_X10_thrown (Nat.le_of_ble_eq_true rfl) (Nat.le_of_ble_eq_true rfl) rfl rfl rfl (Nat.le_of_ble_eq_true rfl) dL_law_1750 (fun _ e => m_X10_thrown x2 r8.2 _ _ e) (fun r9 => ?_)
  refine YE.op (pc' := 1755) (fun _ => X.iload rfl dL_law_1753) ?_
  refine YE.cmpeq 1760 (by decide) dL_law_1755 ?_ ?_
  · refine YE.op (pc' := 1762) (fun _ => X.iload rfl dL_law_1760) ?_
    refine YE.ifne 1777 (by decide) dL_law_1762 ?_ ?_
    · refine YE.op (pc' := 2297) (fun _ => X.goto 2297 (by decide) dL_law_1777) ?_
      exact YE.fg (hK i r9.2 (ex + r4.2.2)) (And.intro rfl (And.intro rfl (And.intro rfl (And.intro rfl (And.intro rfl trivial)))))
    · refine YE.op (pc' := 1766) (fun _ => X.aloadn rfl dL_law_1765) ?_
      refine YE.op (pc' := 1767) (fun _ => X.ic (v := 0) (by decide) dL_law_1766) ?_
      refine YE.aldJ dL_law_1767 (fun v10 => ?_)
      refine YE.op (pc' := 1770) (fun _ => X.iload rfl dL_law_1768) ?_
      refine YE.op (pc' := 1771) (fun _ => X.i2l dL_law_1770) ?_
      refine YE.op (pc' := 1772) (fun _ => X.lcmp dL_law_1771) ?_
      refine YE.ifeq 1777 (by decide) dL_law_1772 ?_ ?_
      · refine YE.op (pc' := 2297) (fun _ => X.goto 2297 (by decide) dL_law_1777) ?_
        exact YE.fg (hK i r9.2 (ex + r4.2.2)) (And.intro rfl (And.intro rfl (And.intro rfl (And.intro rfl (And.intro rfl trivial)))))
      · refine YE.op (pc' := 1776) (fun _ => X.ic (v := 0) (by decide) dL_law_1775) ?_
        exact YE.zret rfl (by decide) dL_law_1776
  · refine YE.op (pc' := 1759) (fun _ => X.ic (v := 0) (by decide) dL_law_1758) ?_
    exact YE.zret rfl (by decide) dL_law_1759
def f_L_C1780 (S : List Int32) (x1 x2 x3 : Nat) (K : Int32 → xH → Nat → Option (Int32 × xH × Nat)) (i : Int32) (h : xH) (ex : Nat) : Option (Int32 × xH × Nat) :=
  (sc S (i + (1 : Int32))).bind fun v1 =>
  (sc S (i + (2 : Int32))).bind fun v2 =>
  (f_L_drop x1 v1 v2 x3 h).bind fun r3 =>
  (sc S (i + (1 : Int32))).bind fun v4 =>
  (sc S (i + (2 : Int32))).bind fun v5 =>
  (vc r3.2.1 10 x2 (f_X10_drop x2 v4 v5 r3.2.1)).bind fun r6 =>
  (vc r6.2 10 x2 (f_X10_thrown x2 r6.2)).bind fun r7 =>
  if r7.1 = r3.1 then
    if r3.1 = (0 : Int32) then
      (aJ r7.2 x3 (0 : Int32)).bind fun v8 =>
      if (lg_cmp v8 r6.1.toInt64) = (0 : Int32) then
        K i r7.2 (ex + r3.2.2)
      else
        some ((0 : Int32), r7.2, (ex + r3.2.2))
    else
      K i r7.2 (ex + r3.2.2)
  else
    some ((0 : Int32), r7.2, (ex + r3.2.2))
theorem y_L_C1780 {g : xG} {h0 : xH} (x1 x2 x3 : Nat) {K : Int32 → xH → Nat → Option (Int32 × xH × Nat)} (hK : ∀ (i : Int32) (h : xH) (ex : Nat), YE g DL_law h0 false iW (K i h ex) 2297 [some (.ref 1000000), some (.ref x1), some (.ref x2), some (.ref x3), some (.int i), none, none] [] h ex) (i : Int32) (h : xH) (ex : Nat) : YE g DL_law h0 false iW (f_L_C1780 (gX g) x1 x2 x3 K i h ex) 1780 [some (.ref 1000000), some (.ref x1), some (.ref x2), some (.ref x3), some (.int i), none, none] [] h ex := by
  unfold f_L_C1780
  refine YE.op (pc' := 1781) (fun _ => X.aloadn rfl dL_law_1780) ?_
  refine YE.op (pc' := 1782) (fun _ => X.aloadn rfl dL_law_1781) ?_
  refine YE.op (pc' := 1784) (fun _ => X.iload rfl dL_law_1782) ?_
  refine YE.op (pc' := 1785) (fun _ => X.ic (v := 1) (by decide) dL_law_1784) ?_
  refine YE.op (pc' := 1786) (fun _ => X.iadd dL_law_1785) ?_
  refine YE.sald dL_law_1786 (fun v1 => ?_)
  refine YE.op (pc' := 1788) (fun _ => X.aloadn rfl dL_law_1787) ?_
  refine YE.op (pc' := 1790) (fun _ => X.iload rfl dL_law_1788) ?_
  refine YE.op (pc' := 1791) (fun _ => X.ic (v := 2) (by decide) dL_law_1790) ?_
  refine YE.op (pc' := 1792) (fun _ => X.iadd dL_law_1791) ?_
  refine YE.sald dL_law_1792 (fun v2 => ?_)
  refine YE.op (pc' := 1794) (fun _ => X.aloadn rfl dL_law_1793) ?_
  refine YE.callW (As := [.ref x1, .int v1, .int v2, .ref x3]) lkw_L_drop rfl calw_L_drop staw_L_drop (Nat.le_of_ble_eq_true rfl) rfl rfl (Nat.le_of_ble_eq_true rfl) dL_law_1794 (fun _ e => m_L_drop x1 v1 v2 x3 h _ _ e) (fun r3 => ?_)
  refine YE.op (pc' := 1799) (loc' := [some (.ref 1000000), some (.ref x1), some (.ref x2), some (.ref x3), some (.int i), some (.int r3.1), none]) (fun _ => X.istore (Nat.le_of_ble_eq_true rfl) rfl dL_law_1797) ?_
  refine YE.op (pc' := 1800) (fun _ => X.aloadn rfl dL_law_1799) ?_
  refine YE.op (pc' := 1801) (fun _ => X.aloadn rfl dL_law_1800) ?_
  refine YE.op (pc' := 1803) (fun _ => X.iload rfl dL_law_1801) ?_
  refine YE.op (pc' := 1804) (fun _ => X.ic (v := 1) (by decide) dL_law_1803) ?_
  refine YE.op (pc' := 1805) (fun _ => X.iadd dL_law_1804) ?_
  refine YE.sald dL_law_1805 (fun v4 => ?_)
  refine YE.op (pc' := 1807) (fun _ => X.aloadn rfl dL_law_1806) ?_
  refine YE.op (pc' := 1809) (fun _ => X.iload rfl dL_law_1807) ?_
  refine YE.op (pc' := 1810) (fun _ => X.ic (v := 2) (by decide) dL_law_1809) ?_
  refine YE.op (pc' := 1811) (fun _ => X.iadd dL_law_1810) ?_
  refine YE.sald dL_law_1811 (fun v5 => ?_)
  refine YE.callVi (As := [.int v4, .int v5]) lk_L_220 rfl cal_X10_drop vir_X10_drop (Nat.le_of_ble_eq_true rfl) (Nat.le_of_ble_eq_true rfl) rfl rfl rfl (Nat.le_of_ble_eq_true rfl) dL_law_1812 (fun _ e => m_X10_drop x2 v4 v5 r3.2.1 _ _ e) (fun r6 => ?_)
  refine YE.op (pc' := 1817) (loc' := [some (.ref 1000000), some (.ref x1), some (.ref x2), some (.ref x3), some (.int i), some (.int r3.1), some (.int r6.1)]) (fun _ => X.istore (Nat.le_of_ble_eq_true rfl) rfl dL_law_1815) ?_
  refine YE.op (pc' := 1818) (fun _ => X.aloadn rfl dL_law_1817) ?_
  refine YE.callVi (As := []) lk_L_121 rfl cal_X10_thrown vir_X10_thrown (Nat.le_of_ble_eq_true rfl) (Nat.le_of_ble_eq_true rfl) rfl rfl rfl (Nat.le_of_ble_eq_true rfl) dL_law_1818 (fun _ e => m_X10_thrown x2 r6.2 _ _ e) (fun r7 => ?_)
  refine YE.op (pc' := 1823) (fun _ => X.iload rfl dL_law_1821) ?_
  refine YE.cmpeq 1828 (by decide) dL_law_1823 ?_ ?_
  · refine YE.op (pc' := 1830) (fun _ => X.iload rfl dL_law_1828) ?_
    refine YE.ifne 1845 (by decide) dL_law_1830 ?_ ?_
    · refine YE.op (pc' := 2297) (fun _ => X.goto 2297 (by decide) dL_law_1845) ?_
      exact YE.fg (hK i r7.2 (ex + r3.2.2)) (And.intro rfl (And.intro rfl (And.intro rfl (And.intro rfl (And.intro rfl trivial)))))
    · refine YE.op (pc' := 1834) (fun _ => X.aloadn rfl dL_law_1833) ?_
      refine YE.op (pc' := 1835) (fun _ => X.ic (v := 0) (by decide) dL_law_1834) ?_
      refine YE.aldJ dL_law_1835 (fun v8 => ?_)
      refine YE.op (pc' := 1838) (fun _ => X.iload rfl dL_law_1836) ?_
      refine YE.op (pc' := 1839) (fun _ => X.i2l dL_law_1838) ?_
      refine YE.op (pc' := 1840) (fun _ => X.lcmp dL_law_1839) ?_
      refine YE.ifeq 1845 (by decide) dL_law_1840 ?_ ?_
      · refine YE.op (pc' := 2297) (fun _ => X.goto 2297 (by decide) dL_law_1845) ?_
        exact YE.fg (hK i r7.2 (ex + r3.2.2)) (And.intro rfl (And.intro rfl (And.intro rfl (And.intro rfl (And.intro rfl trivial)))))
      · refine YE.op (pc' := 1844) (fun _ => X.ic (v := 0) (by decide) dL_law_1843) ?_
        exact YE.zret rfl (by decide) dL_law_1844
  · refine YE.op (pc' := 1827) (fun _ => X.ic (v := 0) (by decide) dL_law_1826) ?_
    exact YE.zret rfl (by decide) dL_law_1827
def f_L_C1848 (S : List Int32) (x1 x2 x3 : Nat) (K : Int32 → xH → Nat → Option (Int32 × xH × Nat)) (i : Int32) (h : xH) (ex : Nat) : Option (Int32 × xH × Nat) :=
  (sc S (i + (1 : Int32))).bind fun v1 =>
  (sc S (i + (2 : Int32))).bind fun v2 =>
  (sc S (i + (3 : Int32))).bind fun v3 =>
  (f_L_is x1 v1 v2 v3 x3 h).bind fun r4 =>
  (sc S (i + (1 : Int32))).bind fun v5 =>
  (sc S (i + (2 : Int32))).bind fun v6 =>
  (sc S (i + (3 : Int32))).bind fun v7 =>
  (vc r4.2.1 10 x2 (f_X10_is x2 v5 v6 v7 r4.2.1)).bind fun r8 =>
  (vc r8.2 10 x2 (f_X10_thrown x2 r8.2)).bind fun r9 =>
  if r9.1 = r4.1 then
    if r4.1 = (0 : Int32) then
      (aJ r9.2 x3 (0 : Int32)).bind fun v10 =>
      if (lg_cmp v10 r8.1.toInt64) = (0 : Int32) then
        K i r9.2 (ex + r4.2.2)
      else
        some ((0 : Int32), r9.2, (ex + r4.2.2))
    else
      K i r9.2 (ex + r4.2.2)
  else
    some ((0 : Int32), r9.2, (ex + r4.2.2))
theorem y_L_C1848 {g : xG} {h0 : xH} (x1 x2 x3 : Nat) {K : Int32 → xH → Nat → Option (Int32 × xH × Nat)} (hK : ∀ (i : Int32) (h : xH) (ex : Nat), YE g DL_law h0 false iW (K i h ex) 2297 [some (.ref 1000000), some (.ref x1), some (.ref x2), some (.ref x3), some (.int i), none, none] [] h ex) (i : Int32) (h : xH) (ex : Nat) : YE g DL_law h0 false iW (f_L_C1848 (gX g) x1 x2 x3 K i h ex) 1848 [some (.ref 1000000), some (.ref x1), some (.ref x2), some (.ref x3), some (.int i), none, none] [] h ex := by
  unfold f_L_C1848
  refine YE.op (pc' := 1849) (fun _ => X.aloadn rfl dL_law_1848) ?_
  refine YE.op (pc' := 1850) (fun _ => X.aloadn rfl dL_law_1849) ?_
  refine YE.op (pc' := 1852) (fun _ => X.iload rfl dL_law_1850) ?_
  refine YE.op (pc' := 1853) (fun _ => X.ic (v := 1) (by decide) dL_law_1852) ?_
  refine YE.op (pc' := 1854) (fun _ => X.iadd dL_law_1853) ?_
  refine YE.sald dL_law_1854 (fun v1 => ?_)
  refine YE.op (pc' := 1856) (fun _ => X.aloadn rfl dL_law_1855) ?_
  refine YE.op (pc' := 1858) (fun _ => X.iload rfl dL_law_1856) ?_
  refine YE.op (pc' := 1859) (fun _ => X.ic (v := 2) (by decide) dL_law_1858) ?_
  refine YE.op (pc' := 1860) (fun _ => X.iadd dL_law_1859) ?_
  refine YE.sald dL_law_1860 (fun v2 => ?_)
  refine YE.op (pc' := 1862) (fun _ => X.aloadn rfl dL_law_1861) ?_
  refine YE.op (pc' := 1864) (fun _ => X.iload rfl dL_law_1862) ?_
  refine YE.op (pc' := 1865) (fun _ => X.ic (v := 3) (by decide) dL_law_1864) ?_
  refine YE.op (pc' := 1866) (fun _ => X.iadd dL_law_1865) ?_
  refine YE.sald dL_law_1866 (fun v3 => ?_)
  refine YE.op (pc' := 1868) (fun _ => X.aloadn rfl dL_law_1867) ?_
  refine YE.callW (As := [.ref x1, .int v1, .int v2, .int v3, .ref x3]) lkw_L_is rfl calw_L_is staw_L_is (Nat.le_of_ble_eq_true rfl) rfl rfl (Nat.le_of_ble_eq_true rfl) dL_law_1868 (fun _ e => m_L_is x1 v1 v2 v3 x3 h _ _ e) (fun r4 => ?_)
  refine YE.op (pc' := 1873) (loc' := [some (.ref 1000000), some (.ref x1), some (.ref x2), some (.ref x3), some (.int i), some (.int r4.1), none]) (fun _ => X.istore (Nat.le_of_ble_eq_true rfl) rfl dL_law_1871) ?_
  refine YE.op (pc' := 1874) (fun _ => X.aloadn rfl dL_law_1873) ?_
  refine YE.op (pc' := 1875) (fun _ => X.aloadn rfl dL_law_1874) ?_
  refine YE.op (pc' := 1877) (fun _ => X.iload rfl dL_law_1875) ?_
  refine YE.op (pc' := 1878) (fun _ => X.ic (v := 1) (by decide) dL_law_1877) ?_
  refine YE.op (pc' := 1879) (fun _ => X.iadd dL_law_1878) ?_
  refine YE.sald dL_law_1879 (fun v5 => ?_)
  refine YE.op (pc' := 1881) (fun _ => X.aloadn rfl dL_law_1880) ?_
  refine YE.op (pc' := 1883) (fun _ => X.iload rfl dL_law_1881) ?_
  refine YE.op (pc' := 1884) (fun _ => X.ic (v := 2) (by decide) dL_law_1883) ?_
  refine YE.op (pc' := 1885) (fun _ => X.iadd dL_law_1884) ?_
  refine YE.sald dL_law_1885 (fun v6 => ?_)
  refine YE.op (pc' := 1887) (fun _ => X.aloadn rfl dL_law_1886) ?_
  refine YE.op (pc' := 1889) (fun _ => X.iload rfl dL_law_1887) ?_
  refine YE.op (pc' := 1890) (fun _ => X.ic (v := 3) (by decide) dL_law_1889) ?_
  refine YE.op (pc' := 1891) (fun _ => X.iadd dL_law_1890) ?_
  refine YE.sald dL_law_1891 (fun v7 => ?_)
  refine YE.callVi (As := [.int v5, .int v6, .int v7]) lk_L_223 rfl cal_X10_is vir_X10_is (Nat.le_of_ble_eq_true rfl) (Nat.le_of_ble_eq_true rfl) rfl rfl rfl (Nat.le_of_ble_eq_true rfl) dL_law_1892 (fun _ e => m_X10_is x2 v5 v6 v7 r4.2.1 _ _ e) (fun r8 => ?_)
  refine YE.op (pc' := 1897) (loc' := [some (.ref 1000000), some (.ref x1), some (.ref x2), some (.ref x3), some (.int i), some (.int r4.1), some (.int r8.1)]) (fun _ => X.istore (Nat.le_of_ble_eq_true rfl) rfl dL_law_1895) ?_
  refine YE.op (pc' := 1898) (fun _ => X.aloadn rfl dL_law_1897) ?_
  refine YE.callVi (As := []) lk_L_121 rfl cal_X10_thrown vir_X10_thrown (Nat.le_of_ble_eq_true rfl) (Nat.le_of_ble_eq_true rfl) rfl rfl rfl (Nat.le_of_ble_eq_true rfl) dL_law_1898 (fun _ e => m_X10_thrown x2 r8.2 _ _ e) (fun r9 => ?_)
  refine YE.op (pc' := 1903) (fun _ => X.iload rfl dL_law_1901) ?_
  refine YE.cmpeq 1908 (by decide) dL_law_1903 ?_ ?_
  · refine YE.op (pc' := 1910) (fun _ => X.iload rfl dL_law_1908) ?_
    refine YE.ifne 1925 (by decide) dL_law_1910 ?_ ?_
    · refine YE.op (pc' := 2297) (fun _ => X.goto 2297 (by decide) dL_law_1925) ?_
      exact YE.fg (hK i r9.2 (ex + r4.2.2)) (And.intro rfl (And.intro rfl (And.intro rfl (And.intro rfl (And.intro rfl trivial)))))
    · refine YE.op (pc' := 1914) (fun _ => X.aloadn rfl dL_law_1913) ?_
      refine YE.op (pc' := 1915) (fun _ => X.ic (v := 0) (by decide) dL_law_1914) ?_
      refine YE.aldJ dL_law_1915 (fun v10 => ?_)
      refine YE.op (pc' := 1918) (fun _ => X.iload rfl dL_law_1916) ?_
      refine YE.op (pc' := 1919) (fun _ => X.i2l dL_law_1918) ?_
      refine YE.op (pc' := 1920) (fun _ => X.lcmp dL_law_1919) ?_
      refine YE.ifeq 1925 (by decide) dL_law_1920 ?_ ?_
      · refine YE.op (pc' := 2297) (fun _ => X.goto 2297 (by decide) dL_law_1925) ?_
        exact YE.fg (hK i r9.2 (ex + r4.2.2)) (And.intro rfl (And.intro rfl (And.intro rfl (And.intro rfl (And.intro rfl trivial)))))
      · refine YE.op (pc' := 1924) (fun _ => X.ic (v := 0) (by decide) dL_law_1923) ?_
        exact YE.zret rfl (by decide) dL_law_1924
  · refine YE.op (pc' := 1907) (fun _ => X.ic (v := 0) (by decide) dL_law_1906) ?_
    exact YE.zret rfl (by decide) dL_law_1907
def f_L_C1928 (S : List Int32) (x1 x2 x3 : Nat) (K : Int32 → xH → Nat → Option (Int32 × xH × Nat)) (i : Int32) (h : xH) (ex : Nat) : Option (Int32 × xH × Nat) :=
  (sc S (i + (1 : Int32))).bind fun v1 =>
  (sc S (i + (2 : Int32))).bind fun v2 =>
  (f_L_pair x1 v1 v2 x3 h).bind fun r3 =>
  (sc S (i + (1 : Int32))).bind fun v4 =>
  (sc S (i + (2 : Int32))).bind fun v5 =>
  (vc r3.2.1 10 x2 (f_X10_pair x2 v4 v5 r3.2.1)).bind fun r6 =>
  (vc r6.2 10 x2 (f_X10_thrown x2 r6.2)).bind fun r7 =>
  if r7.1 = r3.1 then
    if r3.1 = (0 : Int32) then
      (aJ r7.2 x3 (0 : Int32)).bind fun v8 =>
      if (lg_cmp v8 r6.1.toInt64) = (0 : Int32) then
        K i r7.2 (ex + r3.2.2)
      else
        some ((0 : Int32), r7.2, (ex + r3.2.2))
    else
      K i r7.2 (ex + r3.2.2)
  else
    some ((0 : Int32), r7.2, (ex + r3.2.2))
theorem y_L_C1928 {g : xG} {h0 : xH} (x1 x2 x3 : Nat) {K : Int32 → xH → Nat → Option (Int32 × xH × Nat)} (hK : ∀ (i : Int32) (h : xH) (ex : Nat), YE g DL_law h0 false iW (K i h ex) 2297 [some (.ref 1000000), some (.ref x1), some (.ref x2), some (.ref x3), some (.int i), none, none] [] h ex) (i : Int32) (h : xH) (ex : Nat) : YE g DL_law h0 false iW (f_L_C1928 (gX g) x1 x2 x3 K i h ex) 1928 [some (.ref 1000000), some (.ref x1), some (.ref x2), some (.ref x3), some (.int i), none, none] [] h ex := by
  unfold f_L_C1928
  refine YE.op (pc' := 1929) (fun _ => X.aloadn rfl dL_law_1928) ?_
  refine YE.op (pc' := 1930) (fun _ => X.aloadn rfl dL_law_1929) ?_
  refine YE.op (pc' := 1932) (fun _ => X.iload rfl dL_law_1930) ?_
  refine YE.op (pc' := 1933) (fun _ => X.ic (v := 1) (by decide) dL_law_1932) ?_
  refine YE.op (pc' := 1934) (fun _ => X.iadd dL_law_1933) ?_
  refine YE.sald dL_law_1934 (fun v1 => ?_)
  refine YE.op (pc' := 1936) (fun _ => X.aloadn rfl dL_law_1935) ?_
  refine YE.op (pc' := 1938) (fun _ => X.iload rfl dL_law_1936) ?_
  refine YE.op (pc' := 1939) (fun _ => X.ic (v := 2) (by decide) dL_law_1938) ?_
  refine YE.op (pc' := 1940) (fun _ => X.iadd dL_law_1939) ?_
  refine YE.sald dL_law_1940 (fun v2 => ?_)
  refine YE.op (pc' := 1942) (fun _ => X.aloadn rfl dL_law_1941) ?_
  refine YE.callW (As := [.ref x1, .int v1, .int v2, .ref x3]) lkw_L_pair rfl calw_L_pair staw_L_pair (Nat.le_of_ble_eq_true rfl) rfl rfl (Nat.le_of_ble_eq_true rfl) dL_law_1942 (fun _ e => m_L_pair x1 v1 v2 x3 h _ _ e) (fun r3 => ?_)
  refine YE.op (pc' := 1947) (loc' := [some (.ref 1000000), some (.ref x1), some (.ref x2), some (.ref x3), some (.int i), some (.int r3.1), none]) (fun _ => X.istore (Nat.le_of_ble_eq_true rfl) rfl dL_law_1945) ?_
  refine YE.op (pc' := 1948) (fun _ => X.aloadn rfl dL_law_1947) ?_
  refine YE.op (pc' := 1949) (fun _ => X.aloadn rfl dL_law_1948) ?_
  refine YE.op (pc' := 1951) (fun _ => X.iload rfl dL_law_1949) ?_
  refine YE.op (pc' := 1952) (fun _ => X.ic (v := 1) (by decide) dL_law_1951) ?_
  refine YE.op (pc' := 1953) (fun _ => X.iadd dL_law_1952) ?_
  refine YE.sald dL_law_1953 (fun v4 => ?_)
  refine YE.op (pc' := 1955) (fun _ => X.aloadn rfl dL_law_1954) ?_
  refine YE.op (pc' := 1957) (fun _ => X.iload rfl dL_law_1955) ?_
  refine YE.op (pc' := 1958) (fun _ => X.ic (v := 2) (by decide) dL_law_1957) ?_
  refine YE.op (pc' := 1959) (fun _ => X.iadd dL_law_1958) ?_
  refine YE.sald dL_law_1959 (fun v5 => ?_)
  refine YE.callVi (As := [.int v4, .int v5]) lk_L_226 rfl cal_X10_pair vir_X10_pair (Nat.le_of_ble_eq_true rfl) (Nat.le_of_ble_eq_true rfl) rfl rfl rfl (Nat.le_of_ble_eq_true rfl) dL_law_1960 (fun _ e => m_X10_pair x2 v4 v5 r3.2.1 _ _ e) (fun r6 => ?_)
  refine YE.op (pc' := 1965) (loc' := [some (.ref 1000000), some (.ref x1), some (.ref x2), some (.ref x3), some (.int i), some (.int r3.1), some (.int r6.1)]) (fun _ => X.istore (Nat.le_of_ble_eq_true rfl) rfl dL_law_1963) ?_
  refine YE.op (pc' := 1966) (fun _ => X.aloadn rfl dL_law_1965) ?_
  refine YE.callVi (As := []) lk_L_121 rfl cal_X10_thrown vir_X10_thrown (Nat.le_of_ble_eq_true rfl) (Nat.le_of_ble_eq_true rfl) rfl rfl rfl (Nat.le_of_ble_eq_true rfl) dL_law_1966 (fun _ e => m_X10_thrown x2 r6.2 _ _ e) (fun r7 => ?_)
  refine YE.op (pc' := 1971) (fun _ => X.iload rfl dL_law_1969) ?_
  refine YE.cmpeq 1976 (by decide) dL_law_1971 ?_ ?_
  · refine YE.op (pc' := 1978) (fun _ => X.iload rfl dL_law_1976) ?_
    refine YE.ifne 1993 (by decide) dL_law_1978 ?_ ?_
    · refine YE.op (pc' := 2297) (fun _ => X.goto 2297 (by decide) dL_law_1993) ?_
      exact YE.fg (hK i r7.2 (ex + r3.2.2)) (And.intro rfl (And.intro rfl (And.intro rfl (And.intro rfl (And.intro rfl trivial)))))
    · refine YE.op (pc' := 1982) (fun _ => X.aloadn rfl dL_law_1981) ?_
      refine YE.op (pc' := 1983) (fun _ => X.ic (v := 0) (by decide) dL_law_1982) ?_
      refine YE.aldJ dL_law_1983 (fun v8 => ?_)
      refine YE.op (pc' := 1986) (fun _ => X.iload rfl dL_law_1984) ?_
      refine YE.op (pc' := 1987) (fun _ => X.i2l dL_law_1986) ?_
      refine YE.op (pc' := 1988) (fun _ => X.lcmp dL_law_1987) ?_
      refine YE.ifeq 1993 (by decide) dL_law_1988 ?_ ?_
      · refine YE.op (pc' := 2297) (fun _ => X.goto 2297 (by decide) dL_law_1993) ?_
        exact YE.fg (hK i r7.2 (ex + r3.2.2)) (And.intro rfl (And.intro rfl (And.intro rfl (And.intro rfl (And.intro rfl trivial)))))
      · refine YE.op (pc' := 1992) (fun _ => X.ic (v := 0) (by decide) dL_law_1991) ?_
        exact YE.zret rfl (by decide) dL_law_1992
  · refine YE.op (pc' := 1975) (fun _ => X.ic (v := 0) (by decide) dL_law_1974) ?_
    exact YE.zret rfl (by decide) dL_law_1975
def f_L_C1996 (S : List Int32) (x1 x2 x3 : Nat) (K : Int32 → xH → Nat → Option (Int32 × xH × Nat)) (i : Int32) (h : xH) (ex : Nat) : Option (Int32 × xH × Nat) :=
  (sc S (i + (1 : Int32))).bind fun v1 =>
  (f_L_part x1 v1 x3 h).bind fun r2 =>
  (sc S (i + (1 : Int32))).bind fun v3 =>
  (vc r2.2.1 10 x2 (f_X10_part x2 v3 r2.2.1)).bind fun r4 =>
  (vc r4.2 10 x2 (f_X10_thrown x2 r4.2)).bind fun r5 =>
  if r5.1 = r2.1 then
    if r2.1 = (0 : Int32) then
      (aJ r5.2 x3 (0 : Int32)).bind fun v6 =>
      if (lg_cmp v6 r4.1.toInt64) = (0 : Int32) then
        K i r5.2 (ex + r2.2.2)
      else
        some ((0 : Int32), r5.2, (ex + r2.2.2))
    else
      K i r5.2 (ex + r2.2.2)
  else
    some ((0 : Int32), r5.2, (ex + r2.2.2))
theorem y_L_C1996 {g : xG} {h0 : xH} (x1 x2 x3 : Nat) {K : Int32 → xH → Nat → Option (Int32 × xH × Nat)} (hK : ∀ (i : Int32) (h : xH) (ex : Nat), YE g DL_law h0 false iW (K i h ex) 2297 [some (.ref 1000000), some (.ref x1), some (.ref x2), some (.ref x3), some (.int i), none, none] [] h ex) (i : Int32) (h : xH) (ex : Nat) : YE g DL_law h0 false iW (f_L_C1996 (gX g) x1 x2 x3 K i h ex) 1996 [some (.ref 1000000), some (.ref x1), some (.ref x2), some (.ref x3), some (.int i), none, none] [] h ex := by
  unfold f_L_C1996
  refine YE.op (pc' := 1997) (fun _ => X.aloadn rfl dL_law_1996) ?_
  refine YE.op (pc' := 1998) (fun _ => X.aloadn rfl dL_law_1997) ?_
  refine YE.op (pc' := 2000) (fun _ => X.iload rfl dL_law_1998) ?_
  refine YE.op (pc' := 2001) (fun _ => X.ic (v := 1) (by decide) dL_law_2000) ?_
  refine YE.op (pc' := 2002) (fun _ => X.iadd dL_law_2001) ?_
  refine YE.sald dL_law_2002 (fun v1 => ?_)
  refine YE.op (pc' := 2004) (fun _ => X.aloadn rfl dL_law_2003) ?_
  refine YE.callW (As := [.ref x1, .int v1, .ref x3]) lkw_L_part rfl calw_L_part staw_L_part (Nat.le_of_ble_eq_true rfl) rfl rfl (Nat.le_of_ble_eq_true rfl) dL_law_2004 (fun _ e => m_L_part x1 v1 x3 h _ _ e) (fun r2 => ?_)
  refine YE.op (pc' := 2009) (loc' := [some (.ref 1000000), some (.ref x1), some (.ref x2), some (.ref x3), some (.int i), some (.int r2.1), none]) (fun _ => X.istore (Nat.le_of_ble_eq_true rfl) rfl dL_law_2007) ?_
  refine YE.op (pc' := 2010) (fun _ => X.aloadn rfl dL_law_2009) ?_
  refine YE.op (pc' := 2011) (fun _ => X.aloadn rfl dL_law_2010) ?_
  refine YE.op (pc' := 2013) (fun _ => X.iload rfl dL_law_2011) ?_
  refine YE.op (pc' := 2014) (fun _ => X.ic (v := 1) (by decide) dL_law_2013) ?_
  refine YE.op (pc' := 2015) (fun _ => X.iadd dL_law_2014) ?_
  refine YE.sald dL_law_2015 (fun v3 => ?_)
  refine YE.callVi (As := [.int v3]) lk_L_229 rfl cal_X10_part vir_X10_part (Nat.le_of_ble_eq_true rfl) (Nat.le_of_ble_eq_true rfl) rfl rfl rfl (Nat.le_of_ble_eq_true rfl) dL_law_2016 (fun _ e => m_X10_part x2 v3 r2.2.1 _ _ e) (fun r4 => ?_)
  refine YE.op (pc' := 2021) (loc' := [some (.ref 1000000), some (.ref x1), some (.ref x2), some (.ref x3), some (.int i), some (.int r2.1), some (.int r4.1)]) (fun _ => X.istore (Nat.le_of_ble_eq_true rfl) rfl dL_law_2019) ?_
  refine YE.op (pc' := 2022) (fun _ => X.aloadn rfl dL_law_2021) ?_
  refine YE.callVi (As := []) lk_L_121 rfl cal_X10_thrown vir_X10_thrown (Nat.le_of_ble_eq_true rfl) (Nat.le_of_ble_eq_true rfl) rfl rfl rfl (Nat.le_of_ble_eq_true rfl) dL_law_2022 (fun _ e => m_X10_thrown x2 r4.2 _ _ e) (fun r5 => ?_)
  refine YE.op (pc' := 2027) (fun _ => X.iload rfl dL_law_2025) ?_
  refine YE.cmpeq 2032 (by decide) dL_law_2027 ?_ ?_
  · refine YE.op (pc' := 2034) (fun _ => X.iload rfl dL_law_2032) ?_
    refine YE.ifne 2049 (by decide) dL_law_2034 ?_ ?_
    · refine YE.op (pc' := 2297) (fun _ => X.goto 2297 (by decide) dL_law_2049) ?_
      exact YE.fg (hK i r5.2 (ex + r2.2.2)) (And.intro rfl (And.intro rfl (And.intro rfl (And.intro rfl (And.intro rfl trivial)))))
    · refine YE.op (pc' := 2038) (fun _ => X.aloadn rfl dL_law_2037) ?_
      refine YE.op (pc' := 2039) (fun _ => X.ic (v := 0) (by decide) dL_law_2038) ?_
      refine YE.aldJ dL_law_2039 (fun v6 => ?_)
      refine YE.op (pc' := 2042) (fun _ => X.iload rfl dL_law_2040) ?_
      refine YE.op (pc' := 2043) (fun _ => X.i2l dL_law_2042) ?_
      refine YE.op (pc' := 2044) (fun _ => X.lcmp dL_law_2043) ?_
      refine YE.ifeq 2049 (by decide) dL_law_2044 ?_ ?_
      · refine YE.op (pc' := 2297) (fun _ => X.goto 2297 (by decide) dL_law_2049) ?_
        exact YE.fg (hK i r5.2 (ex + r2.2.2)) (And.intro rfl (And.intro rfl (And.intro rfl (And.intro rfl (And.intro rfl trivial)))))
      · refine YE.op (pc' := 2048) (fun _ => X.ic (v := 0) (by decide) dL_law_2047) ?_
        exact YE.zret rfl (by decide) dL_law_2048
  · refine YE.op (pc' := 2031) (fun _ => X.ic (v := 0) (by decide) dL_law_2030) ?_
    exact YE.zret rfl (by decide) dL_law_2031
def f_L_C2052 (S : List Int32) (x1 x2 x3 : Nat) (K : Int32 → xH → Nat → Option (Int32 × xH × Nat)) (i : Int32) (h : xH) (ex : Nat) : Option (Int32 × xH × Nat) :=
  (sc S (i + (1 : Int32))).bind fun v1 =>
  (sc S (i + (2 : Int32))).bind fun v2 =>
  (f_L_weight x1 v1 v2 x3 h).bind fun r3 =>
  (sc S (i + (1 : Int32))).bind fun v4 =>
  (sc S (i + (2 : Int32))).bind fun v5 =>
  (vc r3.2.1 10 x2 (f_X10_weight x2 v4 v5 r3.2.1)).bind fun r6 =>
  (vc r6.2 10 x2 (f_X10_thrown x2 r6.2)).bind fun r7 =>
  if r7.1 = r3.1 then
    if r3.1 = (0 : Int32) then
      (aJ r7.2 x3 (0 : Int32)).bind fun v8 =>
      if (lg_cmp v8 r6.1.toInt64) = (0 : Int32) then
        K i r7.2 (ex + r3.2.2)
      else
        some ((0 : Int32), r7.2, (ex + r3.2.2))
    else
      K i r7.2 (ex + r3.2.2)
  else
    some ((0 : Int32), r7.2, (ex + r3.2.2))
theorem y_L_C2052 {g : xG} {h0 : xH} (x1 x2 x3 : Nat) {K : Int32 → xH → Nat → Option (Int32 × xH × Nat)} (hK : ∀ (i : Int32) (h : xH) (ex : Nat), YE g DL_law h0 false iW (K i h ex) 2297 [some (.ref 1000000), some (.ref x1), some (.ref x2), some (.ref x3), some (.int i), none, none] [] h ex) (i : Int32) (h : xH) (ex : Nat) : YE g DL_law h0 false iW (f_L_C2052 (gX g) x1 x2 x3 K i h ex) 2052 [some (.ref 1000000), some (.ref x1), some (.ref x2), some (.ref x3), some (.int i), none, none] [] h ex := by
  unfold f_L_C2052
  refine YE.op (pc' := 2053) (fun _ => X.aloadn rfl dL_law_2052) ?_
  refine YE.op (pc' := 2054) (fun _ => X.aloadn rfl dL_law_2053) ?_
  refine YE.op (pc' := 2056) (fun _ => X.iload rfl dL_law_2054) ?_
  refine YE.op (pc' := 2057) (fun _ => X.ic (v := 1) (by decide) dL_law_2056) ?_
  refine YE.op (pc' := 2058) (fun _ => X.iadd dL_law_2057) ?_
  refine YE.sald dL_law_2058 (fun v1 => ?_)
  refine YE.op (pc' := 2060) (fun _ => X.aloadn rfl dL_law_2059) ?_
  refine YE.op (pc' := 2062) (fun _ => X.iload rfl dL_law_2060) ?_
  refine YE.op (pc' := 2063) (fun _ => X.ic (v := 2) (by decide) dL_law_2062) ?_
  refine YE.op (pc' := 2064) (fun _ => X.iadd dL_law_2063) ?_
  refine YE.sald dL_law_2064 (fun v2 => ?_)
  refine YE.op (pc' := 2066) (fun _ => X.aloadn rfl dL_law_2065) ?_
  refine YE.callW (As := [.ref x1, .int v1, .int v2, .ref x3]) lkw_L_weight rfl calw_L_weight staw_L_weight (Nat.le_of_ble_eq_true rfl) rfl rfl (Nat.le_of_ble_eq_true rfl) dL_law_2066 (fun _ e => m_L_weight x1 v1 v2 x3 h _ _ e) (fun r3 => ?_)
  refine YE.op (pc' := 2071) (loc' := [some (.ref 1000000), some (.ref x1), some (.ref x2), some (.ref x3), some (.int i), some (.int r3.1), none]) (fun _ => X.istore (Nat.le_of_ble_eq_true rfl) rfl dL_law_2069) ?_
  refine YE.op (pc' := 2072) (fun _ => X.aloadn rfl dL_law_2071) ?_
  refine YE.op (pc' := 2073) (fun _ => X.aloadn rfl dL_law_2072) ?_
  refine YE.op (pc' := 2075) (fun _ => X.iload rfl dL_law_2073) ?_
  refine YE.op (pc' := 2076) (fun _ => X.ic (v := 1) (by decide) dL_law_2075) ?_
  refine YE.op (pc' := 2077) (fun _ => X.iadd dL_law_2076) ?_
  refine YE.sald dL_law_2077 (fun v4 => ?_)
  refine YE.op (pc' := 2079) (fun _ => X.aloadn rfl dL_law_2078) ?_
  refine YE.op (pc' := 2081) (fun _ => X.iload rfl dL_law_2079) ?_
  refine YE.op (pc' := 2082) (fun _ => X.ic (v := 2) (by decide) dL_law_2081) ?_
  refine YE.op (pc' := 2083) (fun _ => X.iadd dL_law_2082) ?_
  refine YE.sald dL_law_2083 (fun v5 => ?_)
  refine YE.callVi (As := [.int v4, .int v5]) lk_L_232 rfl cal_X10_weight vir_X10_weight (Nat.le_of_ble_eq_true rfl) (Nat.le_of_ble_eq_true rfl) rfl rfl rfl (Nat.le_of_ble_eq_true rfl) dL_law_2084 (fun _ e => m_X10_weight x2 v4 v5 r3.2.1 _ _ e) (fun r6 => ?_)
  refine YE.op (pc' := 2089) (loc' := [some (.ref 1000000), some (.ref x1), some (.ref x2), some (.ref x3), some (.int i), some (.int r3.1), some (.int r6.1)]) (fun _ => X.istore (Nat.le_of_ble_eq_true rfl) rfl dL_law_2087) ?_
  refine YE.op (pc' := 2090) (fun _ => X.aloadn rfl dL_law_2089) ?_
  refine YE.callVi (As := []) lk_L_121 rfl cal_X10_thrown vir_X10_thrown (Nat.le_of_ble_eq_true rfl) (Nat.le_of_ble_eq_true rfl) rfl rfl rfl (Nat.le_of_ble_eq_true rfl) dL_law_2090 (fun _ e => m_X10_thrown x2 r6.2 _ _ e) (fun r7 => ?_)
  refine YE.op (pc' := 2095) (fun _ => X.iload rfl dL_law_2093) ?_
  refine YE.cmpeq 2100 (by decide) dL_law_2095 ?_ ?_
  · refine YE.op (pc' := 2102) (fun _ => X.iload rfl dL_law_2100) ?_
    refine YE.ifne 2117 (by decide) dL_law_2102 ?_ ?_
    · refine YE.op (pc' := 2297) (fun _ => X.goto 2297 (by decide) dL_law_2117) ?_
      exact YE.fg (hK i r7.2 (ex + r3.2.2)) (And.intro rfl (And.intro rfl (And.intro rfl (And.intro rfl (And.intro rfl trivial)))))
    · refine YE.op (pc' := 2106) (fun _ => X.aloadn rfl dL_law_2105) ?_
      refine YE.op (pc' := 2107) (fun _ => X.ic (v := 0) (by decide) dL_law_2106) ?_
      refine YE.aldJ dL_law_2107 (fun v8 => ?_)
      refine YE.op (pc' := 2110) (fun _ => X.iload rfl dL_law_2108) ?_
      refine YE.op (pc' := 2111) (fun _ => X.i2l dL_law_2110) ?_
      refine YE.op (pc' := 2112) (fun _ => X.lcmp dL_law_2111) ?_
      refine YE.ifeq 2117 (by decide) dL_law_2112 ?_ ?_
      · refine YE.op (pc' := 2297) (fun _ => X.goto 2297 (by decide) dL_law_2117) ?_
        exact YE.fg (hK i r7.2 (ex + r3.2.2)) (And.intro rfl (And.intro rfl (And.intro rfl (And.intro rfl (And.intro rfl trivial)))))
      · refine YE.op (pc' := 2116) (fun _ => X.ic (v := 0) (by decide) dL_law_2115) ?_
        exact YE.zret rfl (by decide) dL_law_2116
  · refine YE.op (pc' := 2099) (fun _ => X.ic (v := 0) (by decide) dL_law_2098) ?_
    exact YE.zret rfl (by decide) dL_law_2099
def f_L_C2120 (S : List Int32) (x1 x2 x3 : Nat) (K : Int32 → xH → Nat → Option (Int32 × xH × Nat)) (i : Int32) (h : xH) (ex : Nat) : Option (Int32 × xH × Nat) :=
  (vc h 9 x1 (f_X9_trade x1 h)).bind fun r1 =>
  (vc r1.2 10 x2 (f_X10_trade x2 r1.2)).bind fun r2 =>
  if r1.1 = r2.1 then
    K i r2.2 ex
  else
    some ((0 : Int32), r2.2, ex)
theorem y_L_C2120 {g : xG} {h0 : xH} (x1 x2 x3 : Nat) {K : Int32 → xH → Nat → Option (Int32 × xH × Nat)} (hK : ∀ (i : Int32) (h : xH) (ex : Nat), YE g DL_law h0 false iW (K i h ex) 2297 [some (.ref 1000000), some (.ref x1), some (.ref x2), some (.ref x3), some (.int i), none, none] [] h ex) (i : Int32) (h : xH) (ex : Nat) : YE g DL_law h0 false iW (f_L_C2120 (gX g) x1 x2 x3 K i h ex) 2120 [some (.ref 1000000), some (.ref x1), some (.ref x2), some (.ref x3), some (.int i), none, none] [] h ex := by
  unfold f_L_C2120
  refine YE.op (pc' := 2121) (fun _ => X.aloadn rfl dL_law_2120) ?_
  refine YE.callVi (As := []) lk_L_233 rfl cal_X9_trade vir_X9_trade (Nat.le_of_ble_eq_true rfl) (Nat.le_of_ble_eq_true rfl) rfl rfl rfl (Nat.le_of_ble_eq_true rfl) dL_law_2121 (fun _ e => m_X9_trade x1 h _ _ e) (fun r1 => ?_)
  refine YE.op (pc' := 2125) (fun _ => X.aloadn rfl dL_law_2124) ?_
  refine YE.callVi (As := []) lk_L_236 rfl cal_X10_trade vir_X10_trade (Nat.le_of_ble_eq_true rfl) (Nat.le_of_ble_eq_true rfl) rfl rfl rfl (Nat.le_of_ble_eq_true rfl) dL_law_2125 (fun _ e => m_X10_trade x2 r1.2 _ _ e) (fun r2 => ?_)
  refine YE.cmpeq 2297 (by decide) dL_law_2128 ?_ ?_
  · exact hK i r2.2 ex
  · refine YE.op (pc' := 2132) (fun _ => X.ic (v := 0) (by decide) dL_law_2131) ?_
    exact YE.zret rfl (by decide) dL_law_2132
def f_L_C2133 (S : List Int32) (x1 x2 x3 : Nat) (K : Int32 → xH → Nat → Option (Int32 × xH × Nat)) (i : Int32) (h : xH) (ex : Nat) : Option (Int32 × xH × Nat) :=
  (sc S (i + (1 : Int32))).bind fun v1 =>
  (f_L_keep x1 v1 x3 h).bind fun r2 =>
  (sc S (i + (1 : Int32))).bind fun v3 =>
  (vc r2.2.1 10 x2 (f_X10_keep x2 v3 r2.2.1)).bind fun r4 =>
  (vc r4.2 10 x2 (f_X10_thrown x2 r4.2)).bind fun r5 =>
  if r5.1 = r2.1 then
    if r2.1 = (0 : Int32) then
      (aJ r5.2 x3 (0 : Int32)).bind fun v6 =>
      if (lg_cmp v6 r4.1.toInt64) = (0 : Int32) then
        K i r5.2 (ex + r2.2.2)
      else
        some ((0 : Int32), r5.2, (ex + r2.2.2))
    else
      K i r5.2 (ex + r2.2.2)
  else
    some ((0 : Int32), r5.2, (ex + r2.2.2))
theorem y_L_C2133 {g : xG} {h0 : xH} (x1 x2 x3 : Nat) {K : Int32 → xH → Nat → Option (Int32 × xH × Nat)} (hK : ∀ (i : Int32) (h : xH) (ex : Nat), YE g DL_law h0 false iW (K i h ex) 2297 [some (.ref 1000000), some (.ref x1), some (.ref x2), some (.ref x3), some (.int i), none, none] [] h ex) (i : Int32) (h : xH) (ex : Nat) : YE g DL_law h0 false iW (f_L_C2133 (gX g) x1 x2 x3 K i h ex) 2133 [some (.ref 1000000), some (.ref x1), some (.ref x2), some (.ref x3), some (.int i), none, none] [] h ex := by
  unfold f_L_C2133
  refine YE.op (pc' := 2134) (fun _ => X.aloadn rfl dL_law_2133) ?_
  refine YE.op (pc' := 2135) (fun _ => X.aloadn rfl dL_law_2134) ?_
  refine YE.op (pc' := 2137) (fun _ => X.iload rfl dL_law_2135) ?_
  refine YE.op (pc' := 2138) (fun _ => X.ic (v := 1) (by decide) dL_law_2137) ?_
  refine YE.op (pc' := 2139) (fun _ => X.iadd dL_law_2138) ?_
  refine YE.sald dL_law_2139 (fun v1 => ?_)
  refine YE.op (pc' := 2141) (fun _ => X.aloadn rfl dL_law_2140) ?_
  refine YE.callW (As := [.ref x1, .int v1, .ref x3]) lkw_L_keep rfl calw_L_keep staw_L_keep (Nat.le_of_ble_eq_true rfl) rfl rfl (Nat.le_of_ble_eq_true rfl) dL_law_2141 (fun _ e => m_L_keep x1 v1 x3 h _ _ e) (fun r2 => ?_)
  refine YE.op (pc' := 2146) (loc' := [some (.ref 1000000), some (.ref x1), some (.ref x2), some (.ref x3), some (.int i), some (.int r2.1), none]) (fun _ => X.istore (Nat.le_of_ble_eq_true rfl) rfl dL_law_2144) ?_
  refine YE.op (pc' := 2147) (fun _ => X.aloadn rfl dL_law_2146) ?_
  refine YE.op (pc' := 2148) (fun _ => X.aloadn rfl dL_law_2147) ?_
  refine YE.op (pc' := 2150) (fun _ => X.iload rfl dL_law_2148) ?_
  refine YE.op (pc' := 2151) (fun _ => X.ic (v := 1) (by decide) dL_law_2150) ?_
  refine YE.op (pc' := 2152) (fun _ => X.iadd dL_law_2151) ?_
  refine YE.sald dL_law_2152 (fun v3 => ?_)
  refine YE.callVi (As := [.int v3]) lk_L_239 rfl cal_X10_keep vir_X10_keep (Nat.le_of_ble_eq_true rfl) (Nat.le_of_ble_eq_true rfl) rfl rfl rfl (Nat.le_of_ble_eq_true rfl) dL_law_2153 (fun _ e => m_X10_keep x2 v3 r2.2.1 _ _ e) (fun r4 => ?_)
  refine YE.op (pc' := 2158) (loc' := [some (.ref 1000000), some (.ref x1), some (.ref x2), some (.ref x3), some (.int i), some (.int r2.1), some (.int r4.1)]) (fun _ => X.istore (Nat.le_of_ble_eq_true rfl) rfl dL_law_2156) ?_
  refine YE.op (pc' := 2159) (fun _ => X.aloadn rfl dL_law_2158) ?_
  refine YE.callVi (As := []) lk_L_121 rfl cal_X10_thrown vir_X10_thrown (Nat.le_of_ble_eq_true rfl) (Nat.le_of_ble_eq_true rfl) rfl rfl rfl (Nat.le_of_ble_eq_true rfl) dL_law_2159 (fun _ e => m_X10_thrown x2 r4.2 _ _ e) (fun r5 => ?_)
  refine YE.op (pc' := 2164) (fun _ => X.iload rfl dL_law_2162) ?_
  refine YE.cmpeq 2169 (by decide) dL_law_2164 ?_ ?_
  · refine YE.op (pc' := 2171) (fun _ => X.iload rfl dL_law_2169) ?_
    refine YE.ifne 2186 (by decide) dL_law_2171 ?_ ?_
    · refine YE.op (pc' := 2297) (fun _ => X.goto 2297 (by decide) dL_law_2186) ?_
      exact YE.fg (hK i r5.2 (ex + r2.2.2)) (And.intro rfl (And.intro rfl (And.intro rfl (And.intro rfl (And.intro rfl trivial)))))
    · refine YE.op (pc' := 2175) (fun _ => X.aloadn rfl dL_law_2174) ?_
      refine YE.op (pc' := 2176) (fun _ => X.ic (v := 0) (by decide) dL_law_2175) ?_
      refine YE.aldJ dL_law_2176 (fun v6 => ?_)
      refine YE.op (pc' := 2179) (fun _ => X.iload rfl dL_law_2177) ?_
      refine YE.op (pc' := 2180) (fun _ => X.i2l dL_law_2179) ?_
      refine YE.op (pc' := 2181) (fun _ => X.lcmp dL_law_2180) ?_
      refine YE.ifeq 2186 (by decide) dL_law_2181 ?_ ?_
      · refine YE.op (pc' := 2297) (fun _ => X.goto 2297 (by decide) dL_law_2186) ?_
        exact YE.fg (hK i r5.2 (ex + r2.2.2)) (And.intro rfl (And.intro rfl (And.intro rfl (And.intro rfl (And.intro rfl trivial)))))
      · refine YE.op (pc' := 2185) (fun _ => X.ic (v := 0) (by decide) dL_law_2184) ?_
        exact YE.zret rfl (by decide) dL_law_2185
  · refine YE.op (pc' := 2168) (fun _ => X.ic (v := 0) (by decide) dL_law_2167) ?_
    exact YE.zret rfl (by decide) dL_law_2168
def f_L_C2189 (S : List Int32) (x1 x2 x3 : Nat) (K : Int32 → xH → Nat → Option (Int32 × xH × Nat)) (i : Int32) (h : xH) (ex : Nat) : Option (Int32 × xH × Nat) :=
  (sc S (i + (1 : Int32))).bind fun v1 =>
  (f_L_settle x1 v1 x3 h).bind fun r2 =>
  (sc S (i + (1 : Int32))).bind fun v3 =>
  (vc r2.2.1 10 x2 (f_X10_settle x2 v3 r2.2.1)).bind fun r4 =>
  (vc r4.2 10 x2 (f_X10_thrown x2 r4.2)).bind fun r5 =>
  if r5.1 = r2.1 then
    if r2.1 = (0 : Int32) then
      (aJ r5.2 x3 (0 : Int32)).bind fun v6 =>
      if (lg_cmp v6 r4.1.toInt64) = (0 : Int32) then
        K i r5.2 (ex + r2.2.2)
      else
        some ((0 : Int32), r5.2, (ex + r2.2.2))
    else
      K i r5.2 (ex + r2.2.2)
  else
    some ((0 : Int32), r5.2, (ex + r2.2.2))
theorem y_L_C2189 {g : xG} {h0 : xH} (x1 x2 x3 : Nat) {K : Int32 → xH → Nat → Option (Int32 × xH × Nat)} (hK : ∀ (i : Int32) (h : xH) (ex : Nat), YE g DL_law h0 false iW (K i h ex) 2297 [some (.ref 1000000), some (.ref x1), some (.ref x2), some (.ref x3), some (.int i), none, none] [] h ex) (i : Int32) (h : xH) (ex : Nat) : YE g DL_law h0 false iW (f_L_C2189 (gX g) x1 x2 x3 K i h ex) 2189 [some (.ref 1000000), some (.ref x1), some (.ref x2), some (.ref x3), some (.int i), none, none] [] h ex := by
  unfold f_L_C2189
  refine YE.op (pc' := 2190) (fun _ => X.aloadn rfl dL_law_2189) ?_
  refine YE.op (pc' := 2191) (fun _ => X.aloadn rfl dL_law_2190) ?_
  refine YE.op (pc' := 2193) (fun _ => X.iload rfl dL_law_2191) ?_
  refine YE.op (pc' := 2194) (fun _ => X.ic (v := 1) (by decide) dL_law_2193) ?_
  refine YE.op (pc' := 2195) (fun _ => X.iadd dL_law_2194) ?_
  refine YE.sald dL_law_2195 (fun v1 => ?_)
  refine YE.op (pc' := 2197) (fun _ => X.aloadn rfl dL_law_2196) ?_
  refine YE.callW (As := [.ref x1, .int v1, .ref x3]) lkw_L_settle rfl calw_L_settle staw_L_settle (Nat.le_of_ble_eq_true rfl) rfl rfl (Nat.le_of_ble_eq_true rfl) dL_law_2197 (fun _ e => m_L_settle x1 v1 x3 h _ _ e) (fun r2 => ?_)
  refine YE.op (pc' := 2202) (loc' := [some (.ref 1000000), some (.ref x1), some (.ref x2), some (.ref x3), some (.int i), some (.int r2.1), none]) (fun _ => X.istore (Nat.le_of_ble_eq_true rfl) rfl dL_law_2200) ?_
  refine YE.op (pc' := 2203) (fun _ => X.aloadn rfl dL_law_2202) ?_
  refine YE.op (pc' := 2204) (fun _ => X.aloadn rfl dL_law_2203) ?_
  refine YE.op (pc' := 2206) (fun _ => X.iload rfl dL_law_2204) ?_
  refine YE.op (pc' := 2207) (fun _ => X.ic (v := 1) (by decide) dL_law_2206) ?_
  refine YE.op (pc' := 2208) (fun _ => X.iadd dL_law_2207) ?_
  refine YE.sald dL_law_2208 (fun v3 => ?_)
  refine YE.callVi (As := [.int v3]) lk_L_242 rfl cal_X10_settle vir_X10_settle (Nat.le_of_ble_eq_true rfl) (Nat.le_of_ble_eq_true rfl) rfl rfl rfl (Nat.le_of_ble_eq_true rfl) dL_law_2209 (fun _ e => m_X10_settle x2 v3 r2.2.1 _ _ e) (fun r4 => ?_)
  refine YE.op (pc' := 2214) (loc' := [some (.ref 1000000), some (.ref x1), some (.ref x2), some (.ref x3), some (.int i), some (.int r2.1), some (.int r4.1)]) (fun _ => X.istore (Nat.le_of_ble_eq_true rfl) rfl dL_law_2212) ?_
  refine YE.op (pc' := 2215) (fun _ => X.aloadn rfl dL_law_2214) ?_
  refine YE.callVi (As := []) lk_L_121 rfl cal_X10_thrown vir_X10_thrown (Nat.le_of_ble_eq_true rfl) (Nat.le_of_ble_eq_true rfl) rfl rfl rfl (Nat.le_of_ble_eq_true rfl) dL_law_2215 (fun _ e => m_X10_thrown x2 r4.2 _ _ e) (fun r5 => ?_)
  refine YE.op (pc' := 2220) (fun _ => X.iload rfl dL_law_2218) ?_
  refine YE.cmpeq 2225 (by decide) dL_law_2220 ?_ ?_
  · refine YE.op (pc' := 2227) (fun _ => X.iload rfl dL_law_2225) ?_
    refine YE.ifne 2242 (by decide) dL_law_2227 ?_ ?_
    · refine YE.op (pc' := 2297) (fun _ => X.goto 2297 (by decide) dL_law_2242) ?_
      exact YE.fg (hK i r5.2 (ex + r2.2.2)) (And.intro rfl (And.intro rfl (And.intro rfl (And.intro rfl (And.intro rfl trivial)))))
    · refine YE.op (pc' := 2231) (fun _ => X.aloadn rfl dL_law_2230) ?_
      refine YE.op (pc' := 2232) (fun _ => X.ic (v := 0) (by decide) dL_law_2231) ?_
      refine YE.aldJ dL_law_2232 (fun v6 => ?_)
      refine YE.op (pc' := 2235) (fun _ => X.iload rfl dL_law_2233) ?_
      refine YE.op (pc' := 2236) (fun _ => X.i2l dL_law_2235) ?_
      refine YE.op (pc' := 2237) (fun _ => X.lcmp dL_law_2236) ?_
      refine YE.ifeq 2242 (by decide) dL_law_2237 ?_ ?_
      · refine YE.op (pc' := 2297) (fun _ => X.goto 2297 (by decide) dL_law_2242) ?_
        exact YE.fg (hK i r5.2 (ex + r2.2.2)) (And.intro rfl (And.intro rfl (And.intro rfl (And.intro rfl (And.intro rfl trivial)))))
      · refine YE.op (pc' := 2241) (fun _ => X.ic (v := 0) (by decide) dL_law_2240) ?_
        exact YE.zret rfl (by decide) dL_law_2241
  · refine YE.op (pc' := 2224) (fun _ => X.ic (v := 0) (by decide) dL_law_2223) ?_
    exact YE.zret rfl (by decide) dL_law_2224
def f_L_C2245 (S : List Int32) (x1 x2 x3 : Nat) (K : Int32 → xH → Nat → Option (Int32 × xH × Nat)) (i : Int32) (h : xH) (ex : Nat) : Option (Int32 × xH × Nat) :=
  (vc h 9 x1 (f_X9_undo x1 h)).bind fun r1 =>
  (vc r1.2 10 x2 (f_X10_undo x2 r1.2)).bind fun r2 =>
  if r1.1 = r2.1 then
    K i r2.2 ex
  else
    some ((0 : Int32), r2.2, ex)
theorem y_L_C2245 {g : xG} {h0 : xH} (x1 x2 x3 : Nat) {K : Int32 → xH → Nat → Option (Int32 × xH × Nat)} (hK : ∀ (i : Int32) (h : xH) (ex : Nat), YE g DL_law h0 false iW (K i h ex) 2297 [some (.ref 1000000), some (.ref x1), some (.ref x2), some (.ref x3), some (.int i), none, none] [] h ex) (i : Int32) (h : xH) (ex : Nat) : YE g DL_law h0 false iW (f_L_C2245 (gX g) x1 x2 x3 K i h ex) 2245 [some (.ref 1000000), some (.ref x1), some (.ref x2), some (.ref x3), some (.int i), none, none] [] h ex := by
  unfold f_L_C2245
  refine YE.op (pc' := 2246) (fun _ => X.aloadn rfl dL_law_2245) ?_
  refine YE.callVi (As := []) lk_L_243 rfl cal_X9_undo vir_X9_undo (Nat.le_of_ble_eq_true rfl) (Nat.le_of_ble_eq_true rfl) rfl rfl rfl (Nat.le_of_ble_eq_true rfl) dL_law_2246 (fun _ e => m_X9_undo x1 h _ _ e) (fun r1 => ?_)
  refine YE.op (pc' := 2250) (fun _ => X.aloadn rfl dL_law_2249) ?_
  refine YE.callVi (As := []) lk_L_246 rfl cal_X10_undo vir_X10_undo (Nat.le_of_ble_eq_true rfl) (Nat.le_of_ble_eq_true rfl) rfl rfl rfl (Nat.le_of_ble_eq_true rfl) dL_law_2250 (fun _ e => m_X10_undo x2 r1.2 _ _ e) (fun r2 => ?_)
  refine YE.cmpeq 2297 (by decide) dL_law_2253 ?_ ?_
  · exact hK i r2.2 ex
  · refine YE.op (pc' := 2257) (fun _ => X.ic (v := 0) (by decide) dL_law_2256) ?_
    exact YE.zret rfl (by decide) dL_law_2257
def f_L_C2258 (S : List Int32) (x1 x2 x3 : Nat) (K : Int32 → xH → Nat → Option (Int32 × xH × Nat)) (i : Int32) (h : xH) (ex : Nat) : Option (Int32 × xH × Nat) :=
  (vc h 9 x1 (f_X9_print x1 h)).bind fun r1 =>
  (vc r1.2 10 x2 (f_X10_print x2 r1.2)).bind fun r2 =>
  if (lg_cmp r1.1 r2.1) = (0 : Int32) then
    K i r2.2 ex
  else
    some ((0 : Int32), r2.2, ex)
theorem y_L_C2258 {g : xG} {h0 : xH} (x1 x2 x3 : Nat) {K : Int32 → xH → Nat → Option (Int32 × xH × Nat)} (hK : ∀ (i : Int32) (h : xH) (ex : Nat), YE g DL_law h0 false iW (K i h ex) 2297 [some (.ref 1000000), some (.ref x1), some (.ref x2), some (.ref x3), some (.int i), none, none] [] h ex) (i : Int32) (h : xH) (ex : Nat) : YE g DL_law h0 false iW (f_L_C2258 (gX g) x1 x2 x3 K i h ex) 2258 [some (.ref 1000000), some (.ref x1), some (.ref x2), some (.ref x3), some (.int i), none, none] [] h ex := by
  unfold f_L_C2258
  refine YE.op (pc' := 2259) (fun _ => X.aloadn rfl dL_law_2258) ?_
  refine YE.callVj (As := []) lk_L_247 rfl cal_X9_print vir_X9_print (Nat.le_of_ble_eq_true rfl) (Nat.le_of_ble_eq_true rfl) rfl rfl rfl (Nat.le_of_ble_eq_true rfl) dL_law_2259 (fun _ e => m_X9_print x1 h _ _ e) (fun r1 => ?_)
  refine YE.op (pc' := 2263) (fun _ => X.aloadn rfl dL_law_2262) ?_
  refine YE.callVj (As := []) lk_L_250 rfl cal_X10_print vir_X10_print (Nat.le_of_ble_eq_true rfl) (Nat.le_of_ble_eq_true rfl) rfl rfl rfl (Nat.le_of_ble_eq_true rfl) dL_law_2263 (fun _ e => m_X10_print x2 r1.2 _ _ e) (fun r2 => ?_)
  refine YE.op (pc' := 2267) (fun _ => X.lcmp dL_law_2266) ?_
  refine YE.ifeq 2297 (by decide) dL_law_2267 ?_ ?_
  · exact hK i r2.2 ex
  · refine YE.op (pc' := 2271) (fun _ => X.ic (v := 0) (by decide) dL_law_2270) ?_
    exact YE.zret rfl (by decide) dL_law_2271
def f_L_C2272 (S : List Int32) (x1 x2 x3 : Nat) (K : Int32 → xH → Nat → Option (Int32 × xH × Nat)) (i : Int32) (h : xH) (ex : Nat) : Option (Int32 × xH × Nat) :=
  (sc S (i + (1 : Int32))).bind fun v1 =>
  (vc h 9 x1 (f_X9_status x1 v1 h)).bind fun r2 =>
  (sc S (i + (1 : Int32))).bind fun v3 =>
  (vc r2.2 10 x2 (f_X10_status x2 v3 r2.2)).bind fun r4 =>
  if r2.1 = r4.1 then
    K i r4.2 ex
  else
    some ((0 : Int32), r4.2, ex)
theorem y_L_C2272 {g : xG} {h0 : xH} (x1 x2 x3 : Nat) {K : Int32 → xH → Nat → Option (Int32 × xH × Nat)} (hK : ∀ (i : Int32) (h : xH) (ex : Nat), YE g DL_law h0 false iW (K i h ex) 2297 [some (.ref 1000000), some (.ref x1), some (.ref x2), some (.ref x3), some (.int i), none, none] [] h ex) (i : Int32) (h : xH) (ex : Nat) : YE g DL_law h0 false iW (f_L_C2272 (gX g) x1 x2 x3 K i h ex) 2272 [some (.ref 1000000), some (.ref x1), some (.ref x2), some (.ref x3), some (.int i), none, none] [] h ex := by
  unfold f_L_C2272
  refine YE.op (pc' := 2273) (fun _ => X.aloadn rfl dL_law_2272) ?_
  refine YE.op (pc' := 2274) (fun _ => X.aloadn rfl dL_law_2273) ?_
  refine YE.op (pc' := 2276) (fun _ => X.iload rfl dL_law_2274) ?_
  refine YE.op (pc' := 2277) (fun _ => X.ic (v := 1) (by decide) dL_law_2276) ?_
  refine YE.op (pc' := 2278) (fun _ => X.iadd dL_law_2277) ?_
  refine YE.sald dL_law_2278 (fun v1 => ?_)
  refine YE.callVi (As := [.int v1]) lk_L_251 rfl cal_X9_status vir_X9_status (Nat.le_of_ble_eq_true rfl) (Nat.le_of_ble_eq_true rfl) rfl rfl rfl (Nat.le_of_ble_eq_true rfl) dL_law_2279 (fun _ e => m_X9_status x1 v1 h _ _ e) (fun r2 => ?_)
  refine YE.op (pc' := 2283) (fun _ => X.aloadn rfl dL_law_2282) ?_
  refine YE.op (pc' := 2284) (fun _ => X.aloadn rfl dL_law_2283) ?_
  refine YE.op (pc' := 2286) (fun _ => X.iload rfl dL_law_2284) ?_
  refine YE.op (pc' := 2287) (fun _ => X.ic (v := 1) (by decide) dL_law_2286) ?_
  refine YE.op (pc' := 2288) (fun _ => X.iadd dL_law_2287) ?_
  refine YE.sald dL_law_2288 (fun v3 => ?_)
  refine YE.callVi (As := [.int v3]) lk_L_254 rfl cal_X10_status vir_X10_status (Nat.le_of_ble_eq_true rfl) (Nat.le_of_ble_eq_true rfl) rfl rfl rfl (Nat.le_of_ble_eq_true rfl) dL_law_2289 (fun _ e => m_X10_status x2 v3 r2.2 _ _ e) (fun r4 => ?_)
  refine YE.cmpeq 2297 (by decide) dL_law_2292 ?_ ?_
  · exact hK i r4.2 ex
  · refine YE.op (pc' := 2296) (fun _ => X.ic (v := 0) (by decide) dL_law_2295) ?_
    exact YE.zret rfl (by decide) dL_law_2296
def f_L_S (S : List Int32) (x1 x2 x3 : Nat) (K : Int32 → xH → Nat → Option (Int32 × xH × Nat)) (v : Int32) (i : Int32) (h : xH) (ex : Nat) : Option (Int32 × xH × Nat) :=
  if v.toInt < 0 ∨ 40 < v.toInt then
    K i h ex
  else tsf (fun k : Nat => match k with
    | 0 => f_L_C220 S x1 x2 x3 K i h ex
    | 1 => f_L_C293 S x1 x2 x3 K i h ex
    | 2 => f_L_C349 S x1 x2 x3 K i h ex
    | 3 => f_L_C362 S x1 x2 x3 K i h ex
    | 4 => f_L_C418 S x1 x2 x3 K i h ex
    | 5 => f_L_C486 S x1 x2 x3 K i h ex
    | 6 => f_L_C554 S x1 x2 x3 K i h ex
    | 7 => f_L_C622 S x1 x2 x3 K i h ex
    | 8 => f_L_C635 S x1 x2 x3 K i h ex
    | 9 => f_L_C691 S x1 x2 x3 K i h ex
    | 10 => f_L_C759 S x1 x2 x3 K i h ex
    | 11 => f_L_C815 S x1 x2 x3 K i h ex
    | 12 => f_L_C871 S x1 x2 x3 K i h ex
    | 13 => f_L_C884 S x1 x2 x3 K i h ex
    | 14 => f_L_C940 S x1 x2 x3 K i h ex
    | 15 => f_L_C996 S x1 x2 x3 K i h ex
    | 16 => f_L_C1076 S x1 x2 x3 K i h ex
    | 17 => f_L_C1144 S x1 x2 x3 K i h ex
    | 18 => f_L_C1200 S x1 x2 x3 K i h ex
    | 19 => f_L_C1256 S x1 x2 x3 K i h ex
    | 20 => f_L_C1312 S x1 x2 x3 K i h ex
    | 21 => f_L_C1326 S x1 x2 x3 K i h ex
    | 22 => f_L_C1382 S x1 x2 x3 K i h ex
    | 23 => f_L_C1438 S x1 x2 x3 K i h ex
    | 24 => f_L_C1451 S x1 x2 x3 K i h ex
    | 25 => f_L_C1507 S x1 x2 x3 K i h ex
    | 26 => f_L_C1563 S x1 x2 x3 K i h ex
    | 27 => f_L_C1619 S x1 x2 x3 K i h ex
    | 28 => f_L_C1632 S x1 x2 x3 K i h ex
    | 29 => f_L_C1700 S x1 x2 x3 K i h ex
    | 30 => f_L_C1780 S x1 x2 x3 K i h ex
    | 31 => f_L_C1848 S x1 x2 x3 K i h ex
    | 32 => f_L_C1928 S x1 x2 x3 K i h ex
    | 33 => f_L_C1996 S x1 x2 x3 K i h ex
    | 34 => f_L_C2052 S x1 x2 x3 K i h ex
    | 35 => f_L_C2120 S x1 x2 x3 K i h ex
    | 36 => f_L_C2133 S x1 x2 x3 K i h ex
    | 37 => f_L_C2189 S x1 x2 x3 K i h ex
    | 38 => f_L_C2245 S x1 x2 x3 K i h ex
    | 39 => f_L_C2258 S x1 x2 x3 K i h ex
    | 40 => f_L_C2272 S x1 x2 x3 K i h ex
    | _ => none) (v.toInt - 0).toNat
theorem y_L_S {g : xG} {h0 : xH} (x1 x2 x3 : Nat) {K : Int32 → xH → Nat → Option (Int32 × xH × Nat)} (hK : ∀ (i : Int32) (h : xH) (ex : Nat), YE g DL_law h0 false iW (K i h ex) 2297 [some (.ref 1000000), some (.ref x1), some (.ref x2), some (.ref x3), some (.int i), none, none] [] h ex) (v : Int32) (i : Int32) (h : xH) (ex : Nat) : YE g DL_law h0 false iW (f_L_S (gX g) x1 x2 x3 K v i h ex) 40 [some (.ref 1000000), some (.ref x1), some (.ref x2), some (.ref x3), some (.int i), none, none] [.int v] h ex := by
  unfold f_L_S
  refine YE.tswf (dt := 2297) (by decide) dL_law_40 rfl ?_ (fun k hk => ?_)
  · exact hK i h ex
  · match k, hk with
    | 0, _ => exact ⟨220, _, rfl, by decide, y_L_C220 x1 x2 x3 hK i h ex⟩
    | 1, _ => exact ⟨293, _, rfl, by decide, y_L_C293 x1 x2 x3 hK i h ex⟩
    | 2, _ => exact ⟨349, _, rfl, by decide, y_L_C349 x1 x2 x3 hK i h ex⟩
    | 3, _ => exact ⟨362, _, rfl, by decide, y_L_C362 x1 x2 x3 hK i h ex⟩
    | 4, _ => exact ⟨418, _, rfl, by decide, y_L_C418 x1 x2 x3 hK i h ex⟩
    | 5, _ => exact ⟨486, _, rfl, by decide, y_L_C486 x1 x2 x3 hK i h ex⟩
    | 6, _ => exact ⟨554, _, rfl, by decide, y_L_C554 x1 x2 x3 hK i h ex⟩
    | 7, _ => exact ⟨622, _, rfl, by decide, y_L_C622 x1 x2 x3 hK i h ex⟩
    | 8, _ => exact ⟨635, _, rfl, by decide, y_L_C635 x1 x2 x3 hK i h ex⟩
    | 9, _ => exact ⟨691, _, rfl, by decide, y_L_C691 x1 x2 x3 hK i h ex⟩
    | 10, _ => exact ⟨759, _, rfl, by decide, y_L_C759 x1 x2 x3 hK i h ex⟩
    | 11, _ => exact ⟨815, _, rfl, by decide, y_L_C815 x1 x2 x3 hK i h ex⟩
    | 12, _ => exact ⟨871, _, rfl, by decide, y_L_C871 x1 x2 x3 hK i h ex⟩
    | 13, _ => exact ⟨884, _, rfl, by decide, y_L_C884 x1 x2 x3 hK i h ex⟩
    | 14, _ => exact ⟨940, _, rfl, by decide, y_L_C940 x1 x2 x3 hK i h ex⟩
    | 15, _ => exact ⟨996, _, rfl, by decide, y_L_C996 x1 x2 x3 hK i h ex⟩
    | 16, _ => exact ⟨1076, _, rfl, by decide, y_L_C1076 x1 x2 x3 hK i h ex⟩
    | 17, _ => exact ⟨1144, _, rfl, by decide, y_L_C1144 x1 x2 x3 hK i h ex⟩
    | 18, _ => exact ⟨1200, _, rfl, by decide, y_L_C1200 x1 x2 x3 hK i h ex⟩
    | 19, _ => exact ⟨1256, _, rfl, by decide, y_L_C1256 x1 x2 x3 hK i h ex⟩
    | 20, _ => exact ⟨1312, _, rfl, by decide, y_L_C1312 x1 x2 x3 hK i h ex⟩
    | 21, _ => exact ⟨1326, _, rfl, by decide, y_L_C1326 x1 x2 x3 hK i h ex⟩
    | 22, _ => exact ⟨1382, _, rfl, by decide, y_L_C1382 x1 x2 x3 hK i h ex⟩
    | 23, _ => exact ⟨1438, _, rfl, by decide, y_L_C1438 x1 x2 x3 hK i h ex⟩
    | 24, _ => exact ⟨1451, _, rfl, by decide, y_L_C1451 x1 x2 x3 hK i h ex⟩
    | 25, _ => exact ⟨1507, _, rfl, by decide, y_L_C1507 x1 x2 x3 hK i h ex⟩
    | 26, _ => exact ⟨1563, _, rfl, by decide, y_L_C1563 x1 x2 x3 hK i h ex⟩
    | 27, _ => exact ⟨1619, _, rfl, by decide, y_L_C1619 x1 x2 x3 hK i h ex⟩
    | 28, _ => exact ⟨1632, _, rfl, by decide, y_L_C1632 x1 x2 x3 hK i h ex⟩
    | 29, _ => exact ⟨1700, _, rfl, by decide, y_L_C1700 x1 x2 x3 hK i h ex⟩
    | 30, _ => exact ⟨1780, _, rfl, by decide, y_L_C1780 x1 x2 x3 hK i h ex⟩
    | 31, _ => exact ⟨1848, _, rfl, by decide, y_L_C1848 x1 x2 x3 hK i h ex⟩
    | 32, _ => exact ⟨1928, _, rfl, by decide, y_L_C1928 x1 x2 x3 hK i h ex⟩
    | 33, _ => exact ⟨1996, _, rfl, by decide, y_L_C1996 x1 x2 x3 hK i h ex⟩
    | 34, _ => exact ⟨2052, _, rfl, by decide, y_L_C2052 x1 x2 x3 hK i h ex⟩
    | 35, _ => exact ⟨2120, _, rfl, by decide, y_L_C2120 x1 x2 x3 hK i h ex⟩
    | 36, _ => exact ⟨2133, _, rfl, by decide, y_L_C2133 x1 x2 x3 hK i h ex⟩
    | 37, _ => exact ⟨2189, _, rfl, by decide, y_L_C2189 x1 x2 x3 hK i h ex⟩
    | 38, _ => exact ⟨2245, _, rfl, by decide, y_L_C2245 x1 x2 x3 hK i h ex⟩
    | 39, _ => exact ⟨2258, _, rfl, by decide, y_L_C2258 x1 x2 x3 hK i h ex⟩
    | 40, _ => exact ⟨2272, _, rfl, by decide, y_L_C2272 x1 x2 x3 hK i h ex⟩
    | k + 41, hk => exact absurd hk (Nat.not_lt.mpr (Nat.le_add_left 41 k))
def f_L_L23 (S : List Int32) (x1 x2 x3 : Nat) : Nat → Int32 → xH → Nat → Option (Int32 × xH × Nat)
  | 0 => fun _ _ _ => none
  | n + 1 => fun i h ex =>
    if i > (Int32.ofNat S.length - 6) then
      some (1, h, ex)
    else
      (sc S i).bind fun v1 =>
      f_L_S S x1 x2 x3 (fun i h ex => f_L_L23 S x1 x2 x3 n (i + 6) h ex) (v1 &&& (63 : Int32)) i h ex
theorem y_L_L23 {g : xG} {h0 : xH} (x1 x2 x3 : Nat) : ∀ (n : Nat) (i : Int32) (h : xH) (ex : Nat), YE g DL_law h0 false iW (f_L_L23 (gX g) x1 x2 x3 n i h ex) 23 [some (.ref 1000000), some (.ref x1), some (.ref x2), some (.ref x3), some (.int i), none, none] [] h ex := by
  intro n
  induction n with
  | zero => intro i h ex; exact YE.nothing
  | succ n ih =>
    intro i h ex
    unfold f_L_L23
    refine YE.op (pc' := 25) (fun _ => X.iload rfl dL_law_23) ?_
    refine YE.op (pc' := 26) (fun _ => X.aloadn rfl dL_law_25) ?_
    refine YE.op (pc' := 27) (fun _ => X.scrLen dL_law_26) ?_
    refine YE.op (pc' := 29) (fun _ => X.bp (v := 6) (by decide) dL_law_27) ?_
    refine YE.op (pc' := 30) (fun _ => X.isub dL_law_29) ?_
    refine YE.cmpgt 2303 (by decide) dL_law_30 ?_ ?_
    · refine YE.op (pc' := 2304) (fun _ => X.ic (v := 1) (by decide) dL_law_2303) ?_
      exact YE.zret rfl (by decide) dL_law_2304
    · refine YE.op (pc' := 34) (fun _ => X.aloadn rfl dL_law_33) ?_
      refine YE.op (pc' := 36) (fun _ => X.iload rfl dL_law_34) ?_
      refine YE.sald dL_law_36 (fun v1 => ?_)
      refine YE.op (pc' := 39) (fun _ => X.bp (v := 63) (by decide) dL_law_37) ?_
      refine YE.op (pc' := 40) (fun _ => X.iand dL_law_39) ?_
      refine y_L_S x1 x2 x3 (fun i h ex => ?_) _ i h ex
      refine YE.iinc (i := 4) (a := i) (b := 6) (loc' := fun v => [some (.ref 1000000), some (.ref x1), some (.ref x2), some (.ref x3), some (.int v), none, none]) (K := fun v => f_L_L23 (gX g) x1 x2 x3 n v h ex) rfl (Nat.le_of_ble_eq_true rfl) (by decide) (fun _ => rfl) dL_law_2297 (fun v => ?_)
      refine YE.op (pc' := 23) (fun _ => X.goto 23 (by decide) dL_law_2300) ?_
      exact ih v h ex
def f_L_law (S : List Int32) (h : xH) : Option (Int32 × xH × Nat) :=
  (nwC h (9, dv_X9)).bind fun r1 =>
  (ic r1.2 r1.1 (f_X9_init r1.1 r1.2)).bind fun h2 =>
  (nwC h2 (10, dv_X10)).bind fun r3 =>
  (ic r3.2 r3.1 (f_X10_init r3.1 r3.2)).bind fun h4 =>
  (nwJ h4 1).bind fun r5 =>
  f_L_L23 S r1.1 r3.1 r5.1 5000 0 r5.2 0
theorem y_L_law {g : xG} {h0 : xH} (h : xH) : Y g DL_law h0 false iW (f_L_law (gX g) h) 0 [some (.ref 1000000), none, none, none, none, none, none] [] h := by
  unfold f_L_law
  refine Y.new wn_L_8 rfl rfl dL_law_0 (fun r1 => ?_)
  refine Y.op (pc' := 4) (fun _ => X.dup rfl dL_law_3) ?_
  refine Y.callIv (As := []) lk_L_106 rfl cal_X9_init ini_X9_init (Nat.le_of_ble_eq_true rfl) rfl rfl (Nat.le_of_ble_eq_true rfl) dL_law_4 (fun _ e => m_X9_init r1.1 r1.2 _ e) (fun h2 => ?_)
  refine Y.op (pc' := 8) (loc' := [some (.ref 1000000), some (.ref r1.1), none, none, none, none, none]) (fun _ => X.astoren (Nat.le_of_ble_eq_true rfl) rfl dL_law_7) ?_
  refine Y.new wn_L_107 rfl rfl dL_law_8 (fun r3 => ?_)
  refine Y.op (pc' := 12) (fun _ => X.dup rfl dL_law_11) ?_
  refine Y.callIv (As := []) lk_L_109 rfl cal_X10_init ini_X10_init (Nat.le_of_ble_eq_true rfl) rfl rfl (Nat.le_of_ble_eq_true rfl) dL_law_12 (fun _ e => m_X10_init r3.1 r3.2 _ e) (fun h4 => ?_)
  refine Y.op (pc' := 16) (loc' := [some (.ref 1000000), some (.ref r1.1), some (.ref r3.1), none, none, none, none]) (fun _ => X.astoren (Nat.le_of_ble_eq_true rfl) rfl dL_law_15) ?_
  refine Y.op (pc' := 17) (fun _ => X.ic (v := 1) (by decide) dL_law_16) ?_
  refine Y.newJ waJ dL_law_17 (fun r5 => ?_)
  refine Y.op (pc' := 20) (loc' := [some (.ref 1000000), some (.ref r1.1), some (.ref r3.1), some (.ref r5.1), none, none, none]) (fun _ => X.astoren (Nat.le_of_ble_eq_true rfl) rfl dL_law_19) ?_
  refine Y.op (pc' := 21) (fun _ => X.ic (v := 0) (by decide) dL_law_20) ?_
  refine Y.op (pc' := 23) (loc' := [some (.ref 1000000), some (.ref r1.1), some (.ref r3.1), some (.ref r5.1), some (.int 0), none, none]) (fun _ => X.istore (Nat.le_of_ble_eq_true rfl) rfl dL_law_21) ?_
  exact y_L_L23 r1.1 r3.1 r5.1 5000 0 r5.2 0
