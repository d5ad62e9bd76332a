/-! THE MODEL'S ROWS BEGUN -/
def rowOK (sh : xH) (r : Nat) : Bool := slot sh 102 171 r (isRef (172 + r)) && slot sh 102 190 r (isRef (191 + r)) && slot sh 102 209 r (isRef (210 + r)) && slot sh 102 228 r (isRef (229 + r)) && slot sh 103 247 r (isRef (248 + 13 * r)) &&
  isA sh 100 (172 + r) 5 isInt && isA sh 100 (191 + r) 12 isInt && isA sh 100 (210 + r) 12 isInt && isA sh 100 (229 + r) 12 isInt
def cstOK (sh : xH) (r w : Nat) : Bool := slot sh 102 (248 + 13 * r) w (isRef (249 + 13 * r + w)) && isA sh 100 (249 + 13 * r + w) 12 isInt
def mdOK (sh : xH) : Bool := isT sh 10 168 && slot sh 10 168 9 (isRef 171) && slot sh 10 168 10 (isRef 190) && slot sh 10 168 11 (isRef 209) && slot sh 10 168 12 (isRef 228) && slot sh 10 168 13 (isRef 247) && (List.range 18).all fun r => rowOK sh r && (List.range 12).all fun w => cstOK sh r w
theorem mdOK_spec {sh : xH} (h : mdOK sh = true) : (isT sh 10 168 = true ∧ slot sh 10 168 9 (isRef 171) = true ∧ slot sh 10 168 10 (isRef 190) = true ∧ slot sh 10 168 11 (isRef 209) = true ∧ slot sh 10 168 12 (isRef 228) = true ∧ slot sh 10 168 13 (isRef 247) = true) ∧ ∀ r, r < 18 → rowOK sh r = true ∧ ∀ w, w < 12 → cstOK sh r w = true := by
  simp only [mdOK, Bool.and_eq_true, List.all_eq_true, List.mem_range] at h
  obtain ⟨⟨⟨⟨⟨⟨h1, h2⟩, h3⟩, h4⟩, h5⟩, h6⟩, h7⟩ := h
  exact ⟨⟨h1, h2, h3, h4, h5, h6⟩, fun r hr => ⟨(h7 r hr).1, fun w hw => (h7 r hr).2 w hw⟩⟩
theorem rowOK_spec {sh : xH} {r : Nat} (h : rowOK sh r = true) : slot sh 102 171 r (isRef (172 + r)) = true ∧ slot sh 102 190 r (isRef (191 + r)) = true ∧ slot sh 102 209 r (isRef (210 + r)) = true ∧ slot sh 102 228 r (isRef (229 + r)) = true ∧ slot sh 103 247 r (isRef (248 + 13 * r)) = true ∧
    isA sh 100 (172 + r) 5 isInt = true ∧ isA sh 100 (191 + r) 12 isInt = true ∧ isA sh 100 (210 + r) 12 isInt = true ∧ isA sh 100 (229 + r) 12 isInt = true := by
  simpa [rowOK, Bool.and_eq_true, and_assoc] using h
theorem cstOK_spec {sh : xH} {r w : Nat} (h : cstOK sh r w = true) : slot sh 102 (248 + 13 * r) w (isRef (249 + 13 * r + w)) = true ∧ isA sh 100 (249 + 13 * r + w) 12 isInt = true := by
  simpa [cstOK, Bool.and_eq_true] using h
theorem mdOK_M : mdOK shM = true := by decide +kernel
theorem mdOK_I : mdOK shI = true := by decide +kernel
def crM (μ : MM) (r : Nat) : Nat → MM
  | 0 => μ
  | w + 1 => rw_ (crM μ r w) (249 + 13 * r + w) 12 fun _ => 0
theorem st_crM {μ : MM} {r a k : Nat} {v : Int32} (h : a < 249) : ∀ w, st (crM μ r w) a k v = crM (st μ a k v) r w
  | 0 => rfl
  | w + 1 => by rw [crM, crM, st_rw (by omega), st_crM h w]
def mhM (μ : MM) (r : Nat) (n m : Int32) : MM := st (st (st (st (st μ (172 + r) 0 n) (172 + r) 1 m) (172 + r) 2 1) (172 + r) 3 ((1 <<< (n &&& 31)) - 1)) (172 + r) 4 ((1 <<< (m &&& 31)) - 1)
def mrM (μ : MM) (r w : Nat) : MM := crM (rw_ (rw_ (rw_ μ (191 + r) w fun _ => 0) (210 + r) w fun _ => -1) (229 + r) w fun _ => 1) r w
def mbM (μ : MM) (r : Nat) (n m : Int32) : MM := mrM (mhM μ r n m) r 12
theorem c_X10_begins {sh : xH} {μ : MM} {r : Nat} {n m : Int32} (h : mdOK sh = true) (hr : r < 18) : f_X10_begins 168 (Int32.ofNat r) n m (mS sh μ) = some (mS sh (mbM μ r n m)) := by
  obtain ⟨⟨-, m9, m10, m11, m12, m13⟩, hrow⟩ := mdOK_spec h
  obtain ⟨hr1, hc⟩ := hrow r hr
  obtain ⟨r1, r2, r3, r4, r5, a1, a2, a3, a4⟩ := rowOK_spec hr1
  have e0 : ∀ {t q a : Nat} {μ : MM} (e : slot sh t a r (isRef q) = true), aR t (mS sh μ) a (Int32.ofNat r) = some q := fun e => aR_k e (by omega)
  have L96 : ∀ (K : Nat → Int32 → Int32 → xH → Option xH) (w : Nat) (ν : MM), w < 12 → f_X10_begins_L96 K 5000 168 (Int32.ofNat r) (Int32.ofNat w) 0 (mS sh ν) = K 168 (Int32.ofNat r) (Int32.ofNat w) (mS sh (rw_ ν (249 + 13 * r + w) 12 fun _ => 0)) := fun K w ν hw => by
    obtain ⟨c1, c2⟩ := cstOK_spec (hc w hw)
    have := loopN (L := fun n i (ν : MM) => f_X10_begins_L96 K n 168 (Int32.ofNat r) (Int32.ofNat w) i (mS sh ν)) (N := 12) (fuel := 5000) (S := fun i => rw_ ν (249 + 13 * r + w) i fun _ => 0) (r := K 168 (Int32.ofNat r) (Int32.ofNat w) (mS sh (rw_ ν (249 + 13 * r + w) 12 fun _ => 0))) (by decide) (fun i hi n => ?_) (fun n => ?_)
    · simp only [rw_zero] at this
      exact this
    · simp only [f_X10_begins_L96, if_neg (nge (m := 12) (n := 12) rfl (by decide) hi), gR_m m13, e0 r5, aR_k c1 (show w < 100000 by omega), Option.bind_some, sI_k c2 hi (by omega), lt, i_succ]
      rw [rw_succ]
    · simp only [f_X10_begins_L96, if_pos (yge (m := 12) (n := 12) rfl (by decide))]
  have L56 : ∀ ν : MM, f_X10_begins_L56 f_X10_begins_J128 5000 168 (Int32.ofNat r) 0 (mS sh ν) = some (mS sh (mrM ν r 12)) := fun ν => by
    have := loopN (L := fun n i (ν : MM) => f_X10_begins_L56 f_X10_begins_J128 n 168 (Int32.ofNat r) i (mS sh ν)) (N := 12) (fuel := 5000) (S := fun w => mrM ν r w) (r := some (mS sh (mrM ν r 12))) (by decide) (fun i hi n => ?_) (fun n => ?_)
    · have e : mrM ν r 0 = ν := by simp only [mrM, rw_zero, crM]
      simp only [e] at this
      exact this
    · simp only [f_X10_begins_L56, if_neg (nge (m := 12) (n := 12) rfl (by decide) hi), gR_m m10, gR_m m11, gR_m m12, e0 r2, e0 r3, e0 r4, Option.bind_some, sI_k a2 hi (by omega), sI_k a3 hi (by omega), sI_k a4 hi (by omega), L96 _ i _ hi, f_X10_begins_J122, lt, i_succ]
      rw [mrM, mrM, crM, st_crM (by omega), st_crM (by omega), st_crM (by omega), st_rw (show 191 + r ≠ 229 + r by omega), st_rw (show 191 + r ≠ 210 + r by omega), rw_succ, st_rw (show 210 + r ≠ 229 + r by omega), rw_succ, rw_succ]
    · simp only [f_X10_begins_L56, if_pos (yge (m := 12) (n := 12) rfl (by decide)), f_X10_begins_J128]
  have s : ∀ {k : Nat} {v : Int32} {ν : MM} (hk : k < 5), sI (mS sh ν) (172 + r) (Int32.ofNat k) v = some (mS sh (st ν (172 + r) k v)) := fun hk => sI_k a1 hk (by omega)
  have s0 := fun {v : Int32} {ν : MM} => s (k := 0) (v := v) (ν := ν) (by omega)
  have s1 := fun {v : Int32} {ν : MM} => s (k := 1) (v := v) (ν := ν) (by omega)
  have s2 := fun {v : Int32} {ν : MM} => s (k := 2) (v := v) (ν := ν) (by omega)
  have s3 := fun {v : Int32} {ν : MM} => s (k := 3) (v := v) (ν := ν) (by omega)
  have s4 := fun {v : Int32} {ν : MM} => s (k := 4) (v := v) (ν := ν) (by omega)
  unfold f_X10_begins
  simp only [gR_m m9, e0 r1, Option.bind_some]
  rw [show (0 : Int32) = Int32.ofNat 0 from rfl]
  rw [s0]
  simp only [gR_m m9, e0 r1, Option.bind_some]
  rw [show sI (mS sh (st μ (172 + r) 0 n)) (172 + r) 1 m = _ from s1]
  simp only [gR_m m9, e0 r1, Option.bind_some]
  rw [show ∀ ν : MM, sI (mS sh ν) (172 + r) 2 1 = _ from fun ν => s2 (ν := ν)]
  simp only [gR_m m9, e0 r1, Option.bind_some]
  rw [show ∀ (ν : MM) (v : Int32), sI (mS sh ν) (172 + r) 3 v = _ from fun ν v => s3 (ν := ν) (v := v)]
  simp only [gR_m m9, e0 r1, Option.bind_some]
  rw [show ∀ (ν : MM) (v : Int32), sI (mS sh ν) (172 + r) 4 v = _ from fun ν v => s4 (ν := ν) (v := v)]
  simp only [Option.bind_some]
  exact L56 _
