/-! CONSTRUCTORS: PairKeeper -/
theorem step9 {β : Type} {fs : List Value} {R C : xH} {μ μ' : MM} {k ci N : Nat} {dv : List Value} {f : Nat → xH → Option xH} {K : xH → Option β} (hN : ((9, fs) :: R : xH).length = N) (hZ : Z μ N) (hl : N + 1 < 1000000) (hd : dv.all dfl = true) (hk : k < fs.length)
    (hf : f N (mS (((9, fs) :: R) ++ [(ci, dv)]) μ) = some (mS (((9, fs) :: R) ++ C) μ')) :
    ((nwC (mS ((9, fs) :: R) μ) (ci, dv)).bind fun r => (ic r.2 r.1 (f r.1 r.2)).bind fun h => (pR h 9 0 k r.1).bind fun h' => K h') = K (mS ((9, fs.set k (.ref N)) :: (R ++ C)) μ') := by
  rw [nwC_s (by rw [hN]; exact hZ) hd (by rw [hN]; exact hl), hN]
  simp only [Option.bind_some]
  rw [ic_s (by rw [List.length_append, hN]; simp), hf]
  simp only [Option.bind_some]
  rw [pR_s (sh := ((9, fs) :: R) ++ C) (l := fs) rfl hk]
  rfl
def R9_0 : xH := []
def M9_0 (μ : MM) : MM := μ
theorem R9_0_len : R9_0.length = 0 := rfl
theorem M9_0_Z {μ : MM} (h : Z μ 1) : Z (M9_0 μ) 1 := h
def R9_1 : xH := R9_0 ++ bkC 1
def M9_1 (μ : MM) : MM := bgM (prM (M9_0 μ) (1 + 5)) 1 1 1
theorem R9_1_len : R9_1.length = 8 := by rw [R9_1, List.length_append, R9_0_len, show (bkC 1).length = 8 from rfl]
theorem M9_1_Z {μ : MM} (h : Z μ 1) : Z (M9_1 μ) 9 := bgM_Z (prM_Z ((M9_0_Z h).mono (by omega)) (by omega)) (by omega)
def R9_2 : xH := R9_1 ++ bkC 9
def M9_2 (μ : MM) : MM := bgM (prM (M9_1 μ) (9 + 5)) 9 1 1
theorem R9_2_len : R9_2.length = 16 := by rw [R9_2, List.length_append, R9_1_len, show (bkC 9).length = 8 from rfl]
theorem M9_2_Z {μ : MM} (h : Z μ 1) : Z (M9_2 μ) 17 := bgM_Z (prM_Z ((M9_1_Z h).mono (by omega)) (by omega)) (by omega)
def R9_3 : xH := R9_2 ++ hsC 17 15
def M9_3 (μ : MM) : MM := hsM (M9_2 μ) 17 15
theorem R9_3_len : R9_3.length = 138 := by rw [R9_3, List.length_append, R9_2_len, hsC_len]
theorem M9_3_Z {μ : MM} (h : Z μ 1) : Z (M9_3 μ) 139 := (hsM_Z (M9_2_Z h) 15).mono (by omega)
def R9_4 : xH := R9_3 ++ x6C 139
def M9_4 (μ : MM) : MM := x6M (M9_3 μ) 139
theorem R9_4_len : R9_4.length = 140 := by rw [R9_4, List.length_append, R9_3_len, show (x6C 139).length = 2 from rfl]
theorem M9_4_Z {μ : MM} (h : Z μ 1) : Z (M9_4 μ) 141 := x6M_Z ((M9_3_Z h).mono (by omega)) (by omega)
def R9_5 : xH := R9_4 ++ x7C 141
def M9_5 (μ : MM) : MM := x7M (M9_4 μ) 141
theorem R9_5_len : R9_5.length = 148 := by rw [R9_5, List.length_append, R9_4_len, show (x7C 141).length = 8 from rfl]
theorem M9_5_Z {μ : MM} (h : Z μ 1) : Z (M9_5 μ) 149 := x7M_Z ((M9_4_Z h).mono (by omega)) (by omega)
def R9_6 : xH := R9_5 ++ x5C 149
def M9_6 (μ : MM) : MM := x5M (M9_5 μ) 149
theorem R9_6_len : R9_6.length = 150 := by rw [R9_6, List.length_append, R9_5_len, show (x5C 149).length = 2 from rfl]
theorem M9_6_Z {μ : MM} (h : Z μ 1) : Z (M9_6 μ) 151 := x5M_Z ((M9_5_Z h).mono (by omega)) (by omega)
def R9_7 : xH := R9_6 ++ x4C 151
def M9_7 (μ : MM) : MM := x4M (M9_6 μ) 151
theorem R9_7_len : R9_7.length = 155 := by rw [R9_7, List.length_append, R9_6_len, show (x4C 151).length = 5 from rfl]
theorem M9_7_Z {μ : MM} (h : Z μ 1) : Z (M9_7 μ) 156 := x4M_Z ((M9_6_Z h).mono (by omega)) (by omega)
def R9_8 : xH := R9_7 ++ x8C 156
def M9_8 (μ : MM) : MM := x8M (M9_7 μ) 156
theorem R9_8_len : R9_8.length = 161 := by rw [R9_8, List.length_append, R9_7_len, show (x8C 156).length = 6 from rfl]
theorem M9_8_Z {μ : MM} (h : Z μ 1) : Z (M9_8 μ) 162 := x8M_Z ((M9_7_Z h).mono (by omega)) (by omega)
def R9_9 : xH := R9_8 ++ x1C 162
def M9_9 (μ : MM) : MM := x1M (M9_8 μ) 162
theorem R9_9_len : R9_9.length = 167 := by rw [R9_9, List.length_append, R9_8_len, show (x1C 162).length = 6 from rfl]
theorem M9_9_Z {μ : MM} (h : Z μ 1) : Z (M9_9 μ) 168 := x1M_Z ((M9_8_Z h).mono (by omega)) (by omega)
def f9 (k : Nat) : List Value := ([.ref 1, .ref 9, .ref 17, .ref 139, .ref 141, .ref 149, .ref 151, .ref 156, .ref 162] : List Value).take k ++ List.replicate (9 - k) .null ++ [.int 0, .int 0, .int 0]
theorem c_X9_init {μ : MM} (h : Z μ 1) : f_X9_init 0 (mS [(9, dv_X9)] μ) = some (mS ((9, f9 9) :: R9_9) (st (st (st (M9_9 μ) 0 9 0) 0 10 0) 0 11 0)) := by
  unfold f_X9_init
  have q0 := c_X0_init (sh := (9, f9 0) :: R9_0) (μ := M9_0 μ) (by rw [List.length_cons, R9_0_len]; exact M9_0_Z h) (by rw [List.length_cons, R9_0_len]; omega)
  rw [show ((9, f9 0) :: R9_0 : xH).length = 1 by rw [List.length_cons, R9_0_len]] at q0
  refine (step9 (fs := f9 0) (R := R9_0) (μ := M9_0 μ) (k := 0) (N := 1) (by rw [List.length_cons, R9_0_len]) (M9_0_Z h) (by decide) rfl (Nat.le_of_ble_eq_true rfl) q0).trans ?_
  have q1 := c_X0_init (sh := (9, f9 1) :: R9_1) (μ := M9_1 μ) (by rw [List.length_cons, R9_1_len]; exact M9_1_Z h) (by rw [List.length_cons, R9_1_len]; omega)
  rw [show ((9, f9 1) :: R9_1 : xH).length = 9 by rw [List.length_cons, R9_1_len]] at q1
  refine (step9 (fs := f9 1) (R := R9_1) (μ := M9_1 μ) (k := 1) (N := 9) (by rw [List.length_cons, R9_1_len]) (M9_1_Z h) (by decide) rfl (Nat.le_of_ble_eq_true rfl) q1).trans ?_
  have q2 := c_X2_init (sh := (9, f9 2) :: R9_2) (μ := M9_2 μ) (by rw [List.length_cons, R9_2_len]; exact M9_2_Z h) (by rw [List.length_cons, R9_2_len]; omega)
  rw [show ((9, f9 2) :: R9_2 : xH).length = 17 by rw [List.length_cons, R9_2_len]] at q2
  refine (step9 (fs := f9 2) (R := R9_2) (μ := M9_2 μ) (k := 2) (N := 17) (by rw [List.length_cons, R9_2_len]) (M9_2_Z h) (by decide) rfl (Nat.le_of_ble_eq_true rfl) q2).trans ?_
  have q3 := c_X6_init (sh := (9, f9 3) :: R9_3) (μ := M9_3 μ) (by rw [List.length_cons, R9_3_len]; exact M9_3_Z h) (by rw [List.length_cons, R9_3_len]; omega)
  rw [show ((9, f9 3) :: R9_3 : xH).length = 139 by rw [List.length_cons, R9_3_len]] at q3
  refine (step9 (fs := f9 3) (R := R9_3) (μ := M9_3 μ) (k := 3) (N := 139) (by rw [List.length_cons, R9_3_len]) (M9_3_Z h) (by decide) rfl (Nat.le_of_ble_eq_true rfl) q3).trans ?_
  have q4 := c_X7_init (sh := (9, f9 4) :: R9_4) (μ := M9_4 μ) (by rw [List.length_cons, R9_4_len]; exact M9_4_Z h) (by rw [List.length_cons, R9_4_len]; omega)
  rw [show ((9, f9 4) :: R9_4 : xH).length = 141 by rw [List.length_cons, R9_4_len]] at q4
  refine (step9 (fs := f9 4) (R := R9_4) (μ := M9_4 μ) (k := 4) (N := 141) (by rw [List.length_cons, R9_4_len]) (M9_4_Z h) (by decide) rfl (Nat.le_of_ble_eq_true rfl) q4).trans ?_
  have q5 := c_X5_init (sh := (9, f9 5) :: R9_5) (μ := M9_5 μ) (by rw [List.length_cons, R9_5_len]; exact M9_5_Z h) (by rw [List.length_cons, R9_5_len]; omega)
  rw [show ((9, f9 5) :: R9_5 : xH).length = 149 by rw [List.length_cons, R9_5_len]] at q5
  refine (step9 (fs := f9 5) (R := R9_5) (μ := M9_5 μ) (k := 5) (N := 149) (by rw [List.length_cons, R9_5_len]) (M9_5_Z h) (by decide) rfl (Nat.le_of_ble_eq_true rfl) q5).trans ?_
  have q6 := c_X4_init (sh := (9, f9 6) :: R9_6) (μ := M9_6 μ) (by rw [List.length_cons, R9_6_len]; exact M9_6_Z h) (by rw [List.length_cons, R9_6_len]; omega)
  rw [show ((9, f9 6) :: R9_6 : xH).length = 151 by rw [List.length_cons, R9_6_len]] at q6
  refine (step9 (fs := f9 6) (R := R9_6) (μ := M9_6 μ) (k := 6) (N := 151) (by rw [List.length_cons, R9_6_len]) (M9_6_Z h) (by decide) rfl (Nat.le_of_ble_eq_true rfl) q6).trans ?_
  have q7 := c_X8_init (sh := (9, f9 7) :: R9_7) (μ := M9_7 μ) (by rw [List.length_cons, R9_7_len]; exact M9_7_Z h) (by rw [List.length_cons, R9_7_len]; omega)
  rw [show ((9, f9 7) :: R9_7 : xH).length = 156 by rw [List.length_cons, R9_7_len]] at q7
  refine (step9 (fs := f9 7) (R := R9_7) (μ := M9_7 μ) (k := 7) (N := 156) (by rw [List.length_cons, R9_7_len]) (M9_7_Z h) (by decide) rfl (Nat.le_of_ble_eq_true rfl) q7).trans ?_
  have q8 := c_X1_init (sh := (9, f9 8) :: R9_8) (μ := M9_8 μ) (by rw [List.length_cons, R9_8_len]; exact M9_8_Z h) (by rw [List.length_cons, R9_8_len]; omega)
  rw [show ((9, f9 8) :: R9_8 : xH).length = 162 by rw [List.length_cons, R9_8_len]] at q8
  refine (step9 (fs := f9 8) (R := R9_8) (μ := M9_8 μ) (k := 8) (N := 162) (by rw [List.length_cons, R9_8_len]) (M9_8_Z h) (by decide) rfl (Nat.le_of_ble_eq_true rfl) q8).trans ?_
  show (pZ (mS ((9, f9 9) :: R9_9) (M9_9 μ)) 9 0 9 0).bind _ = _
  rw [pZ_m (by rfl) (Or.inl rfl)]
  simp only [Option.bind_some]
  rw [pI_m (by rfl)]
  simp only [Option.bind_some]
  rw [pI_m (by rfl)]
  rfl
