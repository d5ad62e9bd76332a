/-! CONSTRUCTORS: the model, but for its begins() -/
theorem step10 {β : Type} {sh R C : xH} {fs : List Value} {μ : MM} {k N : Nat} {A : Option (Nat × xH)} {K : xH → Option β} (e : sh.length = 168) (hk : k < fs.length) (hA : A = some (N, mS ((sh ++ ((10, fs) :: R)) ++ C) μ)) :
    (A.bind fun r => (pR r.2 10 168 k r.1).bind fun h => K h) = K (mS (sh ++ ((10, fs.set k (.ref N)) :: (R ++ C))) μ) := by
  rw [hA]
  simp only [Option.bind_some]
  rw [List.append_assoc, ← e]
  rw [show pR (mS (sh ++ ((10, fs) :: R ++ C)) μ) 10 sh.length k N = some (mS (sh ++ ((10, fs.set k (.ref N)) :: (R ++ C))) μ) from pR_t (t := (10, fs) :: R ++ C) (j := 0) (l := fs) rfl hk]
  rfl
theorem len10 {sh R : xH} {fs : List Value} {r : Nat} (e : sh.length = 168) (hr : R.length = r) : (sh ++ ((10, fs) :: R)).length = 169 + r := by
  rw [List.length_append, List.length_cons, e, hr]; omega
theorem st_Z {μ : MM} {n a k : Nat} {v : Int32} (h : Z μ n) (ha : a < n) : Z (st μ a k v) n := h.st ha
def RA_0 : xH := []
theorem RA_0_len : RA_0.length = 0 := rfl
def fA_0 : List Value := dv_X10
def RA_1 : xH := RA_0 ++ [(100, dI 2)]
theorem RA_1_len : RA_1.length = 1 := by rw [RA_1, List.length_append, RA_0_len, List.length_cons, List.length_nil]
def fA_1 : List Value := fA_0.set 1 (.ref 169)
def RA_2 : xH := RA_1 ++ [(100, dI 300)]
theorem RA_2_len : RA_2.length = 2 := by rw [RA_2, List.length_append, RA_1_len, List.length_cons, List.length_nil]
def fA_2 : List Value := fA_1.set 8 (.ref 170)
def RA_3 : xH := RA_2 ++ gC 171 102 100 (.int 0) 18 5
theorem RA_3_len : RA_3.length = 21 := by rw [RA_3, List.length_append, RA_2_len, gC_len]
def fA_3 : List Value := fA_2.set 9 (.ref 171)
def RA_4 : xH := RA_3 ++ gC 190 102 100 (.int 0) 18 12
theorem RA_4_len : RA_4.length = 40 := by rw [RA_4, List.length_append, RA_3_len, gC_len]
def fA_4 : List Value := fA_3.set 10 (.ref 190)
def RA_5 : xH := RA_4 ++ gC 209 102 100 (.int 0) 18 12
theorem RA_5_len : RA_5.length = 59 := by rw [RA_5, List.length_append, RA_4_len, gC_len]
def fA_5 : List Value := fA_4.set 11 (.ref 209)
def RA_6 : xH := RA_5 ++ gC 228 102 100 (.int 0) 18 12
theorem RA_6_len : RA_6.length = 78 := by rw [RA_6, List.length_append, RA_5_len, gC_len]
def fA_6 : List Value := fA_5.set 12 (.ref 228)
def RA_7 : xH := RA_6 ++ g3C 247 18 12 12
theorem RA_7_len : RA_7.length = 313 := by rw [RA_7, List.length_append, RA_6_len, g3C_len]
def fA_7 : List Value := fA_6.set 13 (.ref 247)
def RA_8 : xH := RA_7 ++ [(100, dI 12)]
theorem RA_8_len : RA_8.length = 314 := by rw [RA_8, List.length_append, RA_7_len, List.length_cons, List.length_nil]
def fA_8 : List Value := fA_7.set 17 (.ref 482)
def RA_9 : xH := RA_8 ++ [(100, dI 24)]
theorem RA_9_len : RA_9.length = 315 := by rw [RA_9, List.length_append, RA_8_len, List.length_cons, List.length_nil]
def fA_9 : List Value := fA_8.set 19 (.ref 483)
def RA_10 : xH := RA_9 ++ [(100, dI 12)]
theorem RA_10_len : RA_10.length = 316 := by rw [RA_10, List.length_append, RA_9_len, List.length_cons, List.length_nil]
def fA_10 : List Value := fA_9.set 24 (.ref 484)
def RA_11 : xH := RA_10 ++ [(100, dI 12)]
theorem RA_11_len : RA_11.length = 317 := by rw [RA_11, List.length_append, RA_10_len, List.length_cons, List.length_nil]
def fA_11 : List Value := fA_10.set 25 (.ref 485)
def RA_12 : xH := RA_11 ++ [(100, dI 12)]
theorem RA_12_len : RA_12.length = 318 := by rw [RA_12, List.length_append, RA_11_len, List.length_cons, List.length_nil]
def fA_12 : List Value := fA_11.set 28 (.ref 486)
def RA_13 : xH := RA_12 ++ gC 487 102 100 (.int 0) 12 12
theorem RA_13_len : RA_13.length = 331 := by rw [RA_13, List.length_append, RA_12_len, gC_len]
def fA_13 : List Value := fA_12.set 32 (.ref 487)
def RA_14 : xH := RA_13 ++ [(100, dI 2)]
theorem RA_14_len : RA_14.length = 332 := by rw [RA_14, List.length_append, RA_13_len, List.length_cons, List.length_nil]
def fA_14 : List Value := fA_13.set 33 (.ref 500)
def RA_15 : xH := RA_14 ++ [(100, dI 2)]
theorem RA_15_len : RA_15.length = 333 := by rw [RA_15, List.length_append, RA_14_len, List.length_cons, List.length_nil]
def fA_15 : List Value := fA_14.set 34 (.ref 501)
def RA_16 : xH := RA_15 ++ [(101, dJ 4096)]
theorem RA_16_len : RA_16.length = 334 := by rw [RA_16, List.length_append, RA_15_len, List.length_cons, List.length_nil]
def fA_16 : List Value := fA_15.set 35 (.ref 502)
def RA_17 : xH := RA_16 ++ [(101, dJ 4096)]
theorem RA_17_len : RA_17.length = 335 := by rw [RA_17, List.length_append, RA_16_len, List.length_cons, List.length_nil]
def fA_17 : List Value := fA_16.set 36 (.ref 503)
def RA_18 : xH := RA_17 ++ gC 504 102 100 (.int 0) 13 4096
theorem RA_18_len : RA_18.length = 349 := by rw [RA_18, List.length_append, RA_17_len, gC_len]
def fA_18 : List Value := fA_17.set 37 (.ref 504)
def RA_19 : xH := RA_18 ++ gC 518 104 101 (.long 0) 13 4096
theorem RA_19_len : RA_19.length = 363 := by rw [RA_19, List.length_append, RA_18_len, gC_len]
def fA_19 : List Value := fA_18.set 38 (.ref 518)
theorem c_X10_alloc {sh : xH} {μ : MM} (e : sh.length = 168) (h : Z μ 169) : f_X10_init 168 (mS (sh ++ [(10, dv_X10)]) μ) = (vc (mS (sh ++ ((10, fA_19) :: RA_19)) (st μ 168 5 (-1))) 10 168 (f_X10_begins 168 0 1 1 (mS (sh ++ ((10, fA_19) :: RA_19)) (st μ 168 5 (-1))))).bind fun h => some h := by
  unfold f_X10_init
  show ((nwI (mS (sh ++ ((10, fA_0) :: RA_0)) μ) 2).bind fun r1 => _) = _
  refine (step10 (sh := sh) (fs := fA_0) (R := RA_0) (C := [(100, dI 2)]) (μ := μ) (k := 1) (N := 169) (A := nwI (mS (sh ++ ((10, fA_0) :: RA_0)) μ) 2) e (Nat.le_of_ble_eq_true rfl) (by rw [nwI_s (n := 2) (k := 2) (by rw [len10 e RA_0_len]; exact h.mono (by omega)) rfl (by decide) (by rw [len10 e RA_0_len]; omega), len10 e RA_0_len])).trans ?_
  show (pI (mS (sh ++ ((10, fA_1) :: RA_1)) μ) 10 168 5 (-1)).bind _ = _
  rw [show pI (mS (sh ++ ((10, fA_1) :: RA_1)) μ) 10 168 5 (-1) = some (mS (sh ++ ((10, fA_1) :: RA_1)) (st μ 168 5 (-1))) by rw [← e]; exact pI_t (t := (10, fA_1) :: RA_1) (j := 0) rfl]
  simp only [Option.bind_some]
  refine (step10 (sh := sh) (fs := fA_1) (R := RA_1) (C := [(100, dI 300)]) (μ := (st μ 168 5 (-1))) (k := 8) (N := 170) (A := nwI (mS (sh ++ ((10, fA_1) :: RA_1)) (st μ 168 5 (-1))) 300) e (Nat.le_of_ble_eq_true rfl) (by rw [nwI_s (n := 300) (k := 300) (by rw [len10 e RA_1_len]; exact (st_Z h (by omega)).mono (by omega)) rfl (by decide) (by rw [len10 e RA_1_len]; omega), len10 e RA_1_len])).trans ?_
  refine (step10 (sh := sh) (fs := fA_2) (R := RA_2) (C := gC 171 102 100 (.int 0) 18 5) (μ := (st μ 168 5 (-1))) (k := 9) (N := 171) (A := nwG 102 100 (.int 0) (mS (sh ++ ((10, fA_2) :: RA_2)) (st μ 168 5 (-1))) 18 5) e (Nat.le_of_ble_eq_true rfl) (by rw [nwG_s (t := 102) (t1 := 100) (dv := (.int 0)) (n := 18) (k := 5) (N := 18) (M := 5) (by rw [len10 e RA_2_len]; exact (st_Z h (by omega)).mono (by omega)) rfl rfl rfl (by decide) (by decide) (by rw [len10 e RA_2_len]; omega), len10 e RA_2_len])).trans ?_
  refine (step10 (sh := sh) (fs := fA_3) (R := RA_3) (C := gC 190 102 100 (.int 0) 18 12) (μ := (st μ 168 5 (-1))) (k := 10) (N := 190) (A := nwG 102 100 (.int 0) (mS (sh ++ ((10, fA_3) :: RA_3)) (st μ 168 5 (-1))) 18 12) e (Nat.le_of_ble_eq_true rfl) (by rw [nwG_s (t := 102) (t1 := 100) (dv := (.int 0)) (n := 18) (k := 12) (N := 18) (M := 12) (by rw [len10 e RA_3_len]; exact (st_Z h (by omega)).mono (by omega)) rfl rfl rfl (by decide) (by decide) (by rw [len10 e RA_3_len]; omega), len10 e RA_3_len])).trans ?_
  refine (step10 (sh := sh) (fs := fA_4) (R := RA_4) (C := gC 209 102 100 (.int 0) 18 12) (μ := (st μ 168 5 (-1))) (k := 11) (N := 209) (A := nwG 102 100 (.int 0) (mS (sh ++ ((10, fA_4) :: RA_4)) (st μ 168 5 (-1))) 18 12) e (Nat.le_of_ble_eq_true rfl) (by rw [nwG_s (t := 102) (t1 := 100) (dv := (.int 0)) (n := 18) (k := 12) (N := 18) (M := 12) (by rw [len10 e RA_4_len]; exact (st_Z h (by omega)).mono (by omega)) rfl rfl rfl (by decide) (by decide) (by rw [len10 e RA_4_len]; omega), len10 e RA_4_len])).trans ?_
  refine (step10 (sh := sh) (fs := fA_5) (R := RA_5) (C := gC 228 102 100 (.int 0) 18 12) (μ := (st μ 168 5 (-1))) (k := 12) (N := 228) (A := nwG 102 100 (.int 0) (mS (sh ++ ((10, fA_5) :: RA_5)) (st μ 168 5 (-1))) 18 12) e (Nat.le_of_ble_eq_true rfl) (by rw [nwG_s (t := 102) (t1 := 100) (dv := (.int 0)) (n := 18) (k := 12) (N := 18) (M := 12) (by rw [len10 e RA_5_len]; exact (st_Z h (by omega)).mono (by omega)) rfl rfl rfl (by decide) (by decide) (by rw [len10 e RA_5_len]; omega), len10 e RA_5_len])).trans ?_
  refine (step10 (sh := sh) (fs := fA_6) (R := RA_6) (C := g3C 247 18 12 12) (μ := (st μ 168 5 (-1))) (k := 13) (N := 247) (A := nwG3 (mS (sh ++ ((10, fA_6) :: RA_6)) (st μ 168 5 (-1))) 18 12 12) e (Nat.le_of_ble_eq_true rfl) (by rw [nwG3_s (n := 18) (k := 12) (q := 12) (N := 18) (M := 12) (K := 12) (by rw [len10 e RA_6_len]; exact (st_Z h (by omega)).mono (by omega)) rfl rfl rfl (by decide) (by decide) (by decide) (by rw [len10 e RA_6_len]; omega), len10 e RA_6_len])).trans ?_
  refine (step10 (sh := sh) (fs := fA_7) (R := RA_7) (C := [(100, dI 12)]) (μ := (st μ 168 5 (-1))) (k := 17) (N := 482) (A := nwI (mS (sh ++ ((10, fA_7) :: RA_7)) (st μ 168 5 (-1))) 12) e (Nat.le_of_ble_eq_true rfl) (by rw [nwI_s (n := 12) (k := 12) (by rw [len10 e RA_7_len]; exact (st_Z h (by omega)).mono (by omega)) rfl (by decide) (by rw [len10 e RA_7_len]; omega), len10 e RA_7_len])).trans ?_
  refine (step10 (sh := sh) (fs := fA_8) (R := RA_8) (C := [(100, dI 24)]) (μ := (st μ 168 5 (-1))) (k := 19) (N := 483) (A := nwI (mS (sh ++ ((10, fA_8) :: RA_8)) (st μ 168 5 (-1))) 24) e (Nat.le_of_ble_eq_true rfl) (by rw [nwI_s (n := 24) (k := 24) (by rw [len10 e RA_8_len]; exact (st_Z h (by omega)).mono (by omega)) rfl (by decide) (by rw [len10 e RA_8_len]; omega), len10 e RA_8_len])).trans ?_
  refine (step10 (sh := sh) (fs := fA_9) (R := RA_9) (C := [(100, dI 12)]) (μ := (st μ 168 5 (-1))) (k := 24) (N := 484) (A := nwI (mS (sh ++ ((10, fA_9) :: RA_9)) (st μ 168 5 (-1))) 12) e (Nat.le_of_ble_eq_true rfl) (by rw [nwI_s (n := 12) (k := 12) (by rw [len10 e RA_9_len]; exact (st_Z h (by omega)).mono (by omega)) rfl (by decide) (by rw [len10 e RA_9_len]; omega), len10 e RA_9_len])).trans ?_
  refine (step10 (sh := sh) (fs := fA_10) (R := RA_10) (C := [(100, dI 12)]) (μ := (st μ 168 5 (-1))) (k := 25) (N := 485) (A := nwI (mS (sh ++ ((10, fA_10) :: RA_10)) (st μ 168 5 (-1))) 12) e (Nat.le_of_ble_eq_true rfl) (by rw [nwI_s (n := 12) (k := 12) (by rw [len10 e RA_10_len]; exact (st_Z h (by omega)).mono (by omega)) rfl (by decide) (by rw [len10 e RA_10_len]; omega), len10 e RA_10_len])).trans ?_
  refine (step10 (sh := sh) (fs := fA_11) (R := RA_11) (C := [(100, dI 12)]) (μ := (st μ 168 5 (-1))) (k := 28) (N := 486) (A := nwI (mS (sh ++ ((10, fA_11) :: RA_11)) (st μ 168 5 (-1))) 12) e (Nat.le_of_ble_eq_true rfl) (by rw [nwI_s (n := 12) (k := 12) (by rw [len10 e RA_11_len]; exact (st_Z h (by omega)).mono (by omega)) rfl (by decide) (by rw [len10 e RA_11_len]; omega), len10 e RA_11_len])).trans ?_
  refine (step10 (sh := sh) (fs := fA_12) (R := RA_12) (C := gC 487 102 100 (.int 0) 12 12) (μ := (st μ 168 5 (-1))) (k := 32) (N := 487) (A := nwG 102 100 (.int 0) (mS (sh ++ ((10, fA_12) :: RA_12)) (st μ 168 5 (-1))) 12 12) e (Nat.le_of_ble_eq_true rfl) (by rw [nwG_s (t := 102) (t1 := 100) (dv := (.int 0)) (n := 12) (k := 12) (N := 12) (M := 12) (by rw [len10 e RA_12_len]; exact (st_Z h (by omega)).mono (by omega)) rfl rfl rfl (by decide) (by decide) (by rw [len10 e RA_12_len]; omega), len10 e RA_12_len])).trans ?_
  refine (step10 (sh := sh) (fs := fA_13) (R := RA_13) (C := [(100, dI 2)]) (μ := (st μ 168 5 (-1))) (k := 33) (N := 500) (A := nwI (mS (sh ++ ((10, fA_13) :: RA_13)) (st μ 168 5 (-1))) 2) e (Nat.le_of_ble_eq_true rfl) (by rw [nwI_s (n := 2) (k := 2) (by rw [len10 e RA_13_len]; exact (st_Z h (by omega)).mono (by omega)) rfl (by decide) (by rw [len10 e RA_13_len]; omega), len10 e RA_13_len])).trans ?_
  refine (step10 (sh := sh) (fs := fA_14) (R := RA_14) (C := [(100, dI 2)]) (μ := (st μ 168 5 (-1))) (k := 34) (N := 501) (A := nwI (mS (sh ++ ((10, fA_14) :: RA_14)) (st μ 168 5 (-1))) 2) e (Nat.le_of_ble_eq_true rfl) (by rw [nwI_s (n := 2) (k := 2) (by rw [len10 e RA_14_len]; exact (st_Z h (by omega)).mono (by omega)) rfl (by decide) (by rw [len10 e RA_14_len]; omega), len10 e RA_14_len])).trans ?_
  refine (step10 (sh := sh) (fs := fA_15) (R := RA_15) (C := [(101, dJ 4096)]) (μ := (st μ 168 5 (-1))) (k := 35) (N := 502) (A := nwJ (mS (sh ++ ((10, fA_15) :: RA_15)) (st μ 168 5 (-1))) 4096) e (Nat.le_of_ble_eq_true rfl) (by rw [nwJ_s (n := 4096) (k := 4096) (by rw [len10 e RA_15_len]; exact (st_Z h (by omega)).mono (by omega)) rfl (by decide) (by rw [len10 e RA_15_len]; omega), len10 e RA_15_len])).trans ?_
  refine (step10 (sh := sh) (fs := fA_16) (R := RA_16) (C := [(101, dJ 4096)]) (μ := (st μ 168 5 (-1))) (k := 36) (N := 503) (A := nwJ (mS (sh ++ ((10, fA_16) :: RA_16)) (st μ 168 5 (-1))) 4096) e (Nat.le_of_ble_eq_true rfl) (by rw [nwJ_s (n := 4096) (k := 4096) (by rw [len10 e RA_16_len]; exact (st_Z h (by omega)).mono (by omega)) rfl (by decide) (by rw [len10 e RA_16_len]; omega), len10 e RA_16_len])).trans ?_
  refine (step10 (sh := sh) (fs := fA_17) (R := RA_17) (C := gC 504 102 100 (.int 0) 13 4096) (μ := (st μ 168 5 (-1))) (k := 37) (N := 504) (A := nwG 102 100 (.int 0) (mS (sh ++ ((10, fA_17) :: RA_17)) (st μ 168 5 (-1))) 13 4096) e (Nat.le_of_ble_eq_true rfl) (by rw [nwG_s (t := 102) (t1 := 100) (dv := (.int 0)) (n := 13) (k := 4096) (N := 13) (M := 4096) (by rw [len10 e RA_17_len]; exact (st_Z h (by omega)).mono (by omega)) rfl rfl rfl (by decide) (by decide) (by rw [len10 e RA_17_len]; omega), len10 e RA_17_len])).trans ?_
  refine (step10 (sh := sh) (fs := fA_18) (R := RA_18) (C := gC 518 104 101 (.long 0) 13 4096) (μ := (st μ 168 5 (-1))) (k := 38) (N := 518) (A := nwG 104 101 (.long 0) (mS (sh ++ ((10, fA_18) :: RA_18)) (st μ 168 5 (-1))) 13 4096) e (Nat.le_of_ble_eq_true rfl) (by rw [nwG_s (t := 104) (t1 := 101) (dv := (.long 0)) (n := 13) (k := 4096) (N := 13) (M := 4096) (by rw [len10 e RA_18_len]; exact (st_Z h (by omega)).mono (by omega)) rfl rfl rfl (by decide) (by decide) (by rw [len10 e RA_18_len]; omega), len10 e RA_18_len])).trans ?_
  rfl
