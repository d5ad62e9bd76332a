/-! OPERATIONS: told, case by case -/
theorem tsf_at {β : Type} {F : Nat → β} {n k : Nat} (e : n = k) : tsf F n = F k := by rw [e]; rfl
section O16
variable {T : MM → Bk → Prop} {μ : MM} {A : AS} {B : Bk}
theorem told_0 (hT : TF T) (hA : AOK A) (hC : RC T μ A) (hM : RM μ A) : OKc T μ (LB wc_L_told (f_X9_told 0 0) (f_X10_told 168 0)) := by
  have hB := hA.1
  have p6 : prOK shI 6 = true := bk_pr bk1
  have hb1 := hC.1
  refine told_ok hT hA hC hM (v := Int32.ofNat (bn (aB A))) (by decide) ?_ (fun ν hν => ?_)
  · have e : μ.1 1 0 = Int32.ofNat (bn (aB A)) := hb1.1.1
    simp only [f_X9_told_J16, ↓hvc (fun _ => vc_0), ↓hbind c_da1, ↓thr_ok, ↓thr_er, show (((0 : Int32)).toInt < 0 ∨ 10 < ((0 : Int32)).toInt) = False from eq_false (by decide), ↓reduceIte, ↓tsf_at (show (((0 : Int32)).toInt - 0).toNat = 0 from by decide), ↓hbind gR_0_0, ↓hvc (fun _ => bk_v bk1), ↓hbind (bk_i0 bk1), e]
  · have hm := hν.t.1
    have e : (tz ν).1 172 0 = Int32.ofNat (bn (aB A)) := hm.1.1
    simp only [f_X10_told_J21, ↓hvc (fun _ => vc_168), ↓hbind m_b0t, show (((0 : Int32)).toInt < 0 ∨ 10 < ((0 : Int32)).toInt) = False from eq_false (by decide), ↓reduceIte, ↓tsf_at (show (((0 : Int32)).toInt - 0).toNat = 0 from by decide), f_X10_told_J92, ↓hbind gR_168_9, ↓hbind mr_h0, ↓hbind mh_a0_0, e]
theorem told_1 (hT : TF T) (hA : AOK A) (hC : RC T μ A) (hM : RM μ A) : OKc T μ (LB wc_L_told (f_X9_told 0 1) (f_X10_told 168 1)) := by
  have hB := hA.1
  have p6 : prOK shI 6 = true := bk_pr bk1
  have hb1 := hC.1
  refine told_ok hT hA hC hM (v := Int32.ofNat (bm (aB A))) (by decide) ?_ (fun ν hν => ?_)
  · have e : μ.1 1 1 = Int32.ofNat (bm (aB A)) := hb1.1.2.1
    simp only [f_X9_told_J16, ↓hvc (fun _ => vc_0), ↓hbind c_da1, ↓thr_ok, ↓thr_er, show (((1 : Int32)).toInt < 0 ∨ 10 < ((1 : Int32)).toInt) = False from eq_false (by decide), ↓reduceIte, ↓tsf_at (show (((1 : Int32)).toInt - 0).toNat = 1 from by decide), ↓hbind gR_0_0, ↓hvc (fun _ => bk_v bk1), ↓hbind (bk_i1 bk1), e]
  · have hm := hν.t.1
    have e : (tz ν).1 172 1 = Int32.ofNat (bm (aB A)) := hm.1.2.1
    simp only [f_X10_told_J21, ↓hvc (fun _ => vc_168), ↓hbind m_b0t, show (((1 : Int32)).toInt < 0 ∨ 10 < ((1 : Int32)).toInt) = False from eq_false (by decide), ↓reduceIte, ↓tsf_at (show (((1 : Int32)).toInt - 0).toNat = 1 from by decide), f_X10_told_J92, ↓hbind gR_168_9, ↓hbind mr_h0, ↓hbind mh_a0_1, e]
theorem told_2 (hT : TF T) (hA : AOK A) (hC : RC T μ A) (hM : RM μ A) : OKc T μ (LB wc_L_told (f_X9_told 0 2) (f_X10_told 168 2)) := by
  have hB := hA.1
  have p6 : prOK shI 6 = true := bk_pr bk1
  have hb1 := hC.1
  refine told_ok hT hA hC hM (v := fcs (aB A) 12) (by decide) ?_ (fun ν hν => ?_)
  · have e := c_fitCount hb1 hB
    simp only [f_X9_told_J16, ↓hvc (fun _ => vc_0), ↓hbind c_da1, ↓thr_ok, ↓thr_er, show (((2 : Int32)).toInt < 0 ∨ 10 < ((2 : Int32)).toInt) = False from eq_false (by decide), ↓reduceIte, ↓tsf_at (show (((2 : Int32)).toInt - 0).toNat = 2 from by decide), ↓hbind gR_0_0, ↓hvc (fun _ => bk_v bk1), ↓hbind e]
  · have hm := hν.t.1
    have e := m_fitCount hm hB
    simp only [f_X10_told_J21, ↓hvc (fun _ => vc_168), ↓hbind m_b0t, show (((2 : Int32)).toInt < 0 ∨ 10 < ((2 : Int32)).toInt) = False from eq_false (by decide), ↓reduceIte, ↓tsf_at (show (((2 : Int32)).toInt - 0).toNat = 2 from by decide), ↓hbind e]
theorem told_3 (hT : TF T) (hA : AOK A) (hC : RC T μ A) (hM : RM μ A) : OKc T μ (LB wc_L_told (f_X9_told 0 3) (f_X10_told 168 3)) := by
  have hB := hA.1
  have p6 : prOK shI 6 = true := bk_pr bk1
  have hb1 := hC.1
  refine told_ok hT hA hC hM (v := Int32.ofNat (sz (bM (aB A)))) (by decide) ?_ (fun ν hν => ?_)
  · have e := c_size (μ := μ) p6 hb1.2.2.2.2.2
    simp only [f_X9_told_J16, ↓hvc (fun _ => vc_0), ↓hbind c_da1, ↓thr_ok, ↓thr_er, show (((3 : Int32)).toInt < 0 ∨ 10 < ((3 : Int32)).toInt) = False from eq_false (by decide), ↓reduceIte, ↓tsf_at (show (((3 : Int32)).toInt - 0).toNat = 3 from by decide), ↓hbind gR_0_0, ↓hvc (fun _ => bk_v bk1), ↓hbind (bk_r9 bk1), ↓hvc (fun _ => pr_v p6), ↓hbind e]
  · have hm := hν.t.1
    have e := m_pairs hB.M.1.1 hm.2.2.1
    simp only [f_X10_told_J21, ↓hvc (fun _ => vc_168), ↓hbind m_b0t, show (((3 : Int32)).toInt < 0 ∨ 10 < ((3 : Int32)).toInt) = False from eq_false (by decide), ↓reduceIte, ↓tsf_at (show (((3 : Int32)).toInt - 0).toNat = 3 from by decide), ↓hbind e]
theorem told_4 (hT : TF T) (hA : AOK A) (hC : RC T μ A) (hM : RM μ A) : OKc T μ (LB wc_L_told (f_X9_told 0 4) (f_X10_told 168 4)) := by
  have hB := hA.1
  have p6 : prOK shI 6 = true := bk_pr bk1
  have hb1 := hC.1
  refine told_ok hT hA hC hM (v := Int32.ofNat (bk (aB A))) (by decide) ?_ (fun ν hν => ?_)
  · have e : μ.1 1 4 = Int32.ofNat (bk (aB A)) := hb1.1.2.2.2.2
    simp only [f_X9_told_J16, ↓hvc (fun _ => vc_0), ↓hbind c_da1, ↓thr_ok, ↓thr_er, show (((4 : Int32)).toInt < 0 ∨ 10 < ((4 : Int32)).toInt) = False from eq_false (by decide), ↓reduceIte, ↓tsf_at (show (((4 : Int32)).toInt - 0).toNat = 4 from by decide), ↓hbind gR_0_0, ↓hvc (fun _ => bk_v bk1), ↓hbind (bk_i4 bk1), e]
  · have hm := hν.t.1
    have e : (tz ν).1 172 2 = Int32.ofNat (bk (aB A)) := hm.1.2.2.1
    simp only [f_X10_told_J21, ↓hvc (fun _ => vc_168), ↓hbind m_b0t, show (((4 : Int32)).toInt < 0 ∨ 10 < ((4 : Int32)).toInt) = False from eq_false (by decide), ↓reduceIte, ↓tsf_at (show (((4 : Int32)).toInt - 0).toNat = 4 from by decide), ↓hbind gR_168_9, ↓hbind mr_h0, ↓hbind mh_a0_2, e]
theorem told_5 (hT : TF T) (hA : AOK A) (hC : RC T μ A) (hM : RM μ A) : OKc T μ (LB wc_L_told (f_X9_told 0 5) (f_X10_told 168 5)) := by
  have hB := hA.1
  have p6 : prOK shI 6 = true := bk_pr bk1
  have hb1 := hC.1
  refine told_ok hT hA hC hM (v := bw (aB A)) (by decide) ?_ (fun ν hν => ?_)
  · have e : μ.1 1 2 = bw (aB A) := hb1.1.2.2.1
    simp only [f_X9_told_J16, ↓hvc (fun _ => vc_0), ↓hbind c_da1, ↓thr_ok, ↓thr_er, show (((5 : Int32)).toInt < 0 ∨ 10 < ((5 : Int32)).toInt) = False from eq_false (by decide), ↓reduceIte, ↓tsf_at (show (((5 : Int32)).toInt - 0).toNat = 5 from by decide), ↓hbind gR_0_0, ↓hvc (fun _ => bk_v bk1), ↓hbind (bk_i2 bk1), e]
  · have hm := hν.t.1
    have e : (tz ν).1 172 3 = bw (aB A) := hm.1.2.2.2.1
    simp only [f_X10_told_J21, ↓hvc (fun _ => vc_168), ↓hbind m_b0t, show (((5 : Int32)).toInt < 0 ∨ 10 < ((5 : Int32)).toInt) = False from eq_false (by decide), ↓reduceIte, ↓tsf_at (show (((5 : Int32)).toInt - 0).toNat = 5 from by decide), f_X10_told_J120, show (5 : Int32) - 2 = 3 from by decide, ↓hbind gR_168_9, ↓hbind mr_h0, ↓hbind mh_a0_3, e]
theorem told_6 (hT : TF T) (hA : AOK A) (hC : RC T μ A) (hM : RM μ A) : OKc T μ (LB wc_L_told (f_X9_told 0 6) (f_X10_told 168 6)) := by
  have hB := hA.1
  have p6 : prOK shI 6 = true := bk_pr bk1
  have hb1 := hC.1
  refine told_ok hT hA hC hM (v := bt (aB A)) (by decide) ?_ (fun ν hν => ?_)
  · have e : μ.1 1 3 = bt (aB A) := hb1.1.2.2.2.1
    simp only [f_X9_told_J16, ↓hvc (fun _ => vc_0), ↓hbind c_da1, ↓thr_ok, ↓thr_er, show (((6 : Int32)).toInt < 0 ∨ 10 < ((6 : Int32)).toInt) = False from eq_false (by decide), ↓reduceIte, ↓tsf_at (show (((6 : Int32)).toInt - 0).toNat = 6 from by decide), ↓hbind gR_0_0, ↓hvc (fun _ => bk_v bk1), ↓hbind (bk_i3 bk1), e]
  · have hm := hν.t.1
    have e : (tz ν).1 172 4 = bt (aB A) := hm.1.2.2.2.2
    simp only [f_X10_told_J21, ↓hvc (fun _ => vc_168), ↓hbind m_b0t, show (((6 : Int32)).toInt < 0 ∨ 10 < ((6 : Int32)).toInt) = False from eq_false (by decide), ↓reduceIte, ↓tsf_at (show (((6 : Int32)).toInt - 0).toNat = 6 from by decide), f_X10_told_J120, show (6 : Int32) - 2 = 4 from by decide, ↓hbind gR_168_9, ↓hbind mr_h0, ↓hbind mh_a0_4, e]
theorem told_7 (hT : TF T) (hA : AOK A) (hC : RC T μ A) (hM : RM μ A) : OKc T μ (LB wc_L_told (f_X9_told 0 7) (f_X10_told 168 7)) := by
  have hB := hA.1
  have p6 : prOK shI 6 = true := bk_pr bk1
  have hb1 := hC.1
  obtain ⟨x, ex, hx⟩ := c_workersIn (μ := μ) p6 hb1.2.2.2.2.2
  refine told_ok hT hA hC hM (v := bw (aB A) &&& (x ^^^ (-1))) (by decide) ?_ (fun ν hν => ?_)
  · have e : μ.1 1 2 = bw (aB A) := hb1.1.2.2.1
    simp only [f_X9_told_J16, ↓hvc (fun _ => vc_0), ↓hbind c_da1, ↓thr_ok, ↓thr_er, show (((7 : Int32)).toInt < 0 ∨ 10 < ((7 : Int32)).toInt) = False from eq_false (by decide), ↓reduceIte, ↓tsf_at (show (((7 : Int32)).toInt - 0).toNat = 7 from by decide), ↓hbind gR_0_0, ↓hvc (fun _ => bk_v bk1), ↓hbind (bk_i2 bk1), ↓hbind (bk_r9 bk1), ↓hvc (fun _ => pr_v p6), ↓hbind ex, e]
  · have hm := hν.t.1
    have e0 : aI (mem (tz ν)) 172 0 = some (Int32.ofNat (bn (aB A))) := by rw [mh_a0_0]; exact congrArg some hm.1.1
    obtain ⟨y, ey, hy⟩ := m_freeOf (s := 0) (F := fun k => hb (bw (aB A)) k && decide (bM (aB A) k = 12)) (by decide) hB.n e0 (fun i hi => m_isFree0 (hm.MS hB) hi) (fun k q => hB.w ((Bool.and_eq_true _ _).mp q).1)
    have exy : y = bw (aB A) &&& (x ^^^ (-1)) := by
      apply hb_ext; intro k hk
      rw [hy k, hb_and, hb_not, hx k]
      cases q : hb (bw (aB A)) k with
      | false => simp
      | true =>
        have k1 := hB.w q
        have k2 := hB.n
        have k3 : bM (aB A) k ≤ 12 := hB.M.1.1 k
        by_cases z : bM (aB A) k = 12
        · simp [z, hk]
        · simp [z, hk, show k < 12 by omega, show bM (aB A) k < 12 by omega]
    rw [exy] at ey
    simp only [f_X10_told_J21, ↓hvc (fun _ => vc_168), ↓hbind m_b0t, show (((7 : Int32)).toInt < 0 ∨ 10 < ((7 : Int32)).toInt) = False from eq_false (by decide), ↓reduceIte, ↓tsf_at (show (((7 : Int32)).toInt - 0).toNat = 7 from by decide), f_X10_told_J131, show (7 : Int32) - 7 = 0 from by decide, ↓hbind ey]
theorem told_8 (hT : TF T) (hA : AOK A) (hC : RC T μ A) (hM : RM μ A) : OKc T μ (LB wc_L_told (f_X9_told 0 8) (f_X10_told 168 8)) := by
  have hB := hA.1
  have p6 : prOK shI 6 = true := bk_pr bk1
  have hb1 := hC.1
  obtain ⟨x, ex, hx⟩ := c_tasksIn (μ := μ) p6 hb1.2.2.2.2.2
  refine told_ok hT hA hC hM (v := bt (aB A) &&& (x ^^^ (-1))) (by decide) ?_ (fun ν hν => ?_)
  · have e : μ.1 1 3 = bt (aB A) := hb1.1.2.2.2.1
    simp only [f_X9_told_J16, ↓hvc (fun _ => vc_0), ↓hbind c_da1, ↓thr_ok, ↓thr_er, show (((8 : Int32)).toInt < 0 ∨ 10 < ((8 : Int32)).toInt) = False from eq_false (by decide), ↓reduceIte, ↓tsf_at (show (((8 : Int32)).toInt - 0).toNat = 8 from by decide), ↓hbind gR_0_0, ↓hvc (fun _ => bk_v bk1), ↓hbind (bk_i3 bk1), ↓hbind (bk_r9 bk1), ↓hvc (fun _ => pr_v p6), ↓hbind ex, e]
  · have hm := hν.t.1
    have e0 : aI (mem (tz ν)) 172 1 = some (Int32.ofNat (bm (aB A))) := by rw [mh_a0_1]; exact congrArg some hm.1.2.1
    obtain ⟨y, ey, hy⟩ := m_freeOf (s := 1) (F := fun k => hb (bt (aB A)) k && decide (ow (bM (aB A)) k = 12)) (by decide) hB.m e0 (fun i hi => m_isFree1 (hm.MS hB) hi) (fun k q => hB.t ((Bool.and_eq_true _ _).mp q).1)
    have exy : y = bt (aB A) &&& (x ^^^ (-1)) := by
      apply hb_ext; intro k hk
      rw [hy k, hb_and, hb_not, hx k]
      cases q : hb (bt (aB A)) k with
      | false => simp
      | true =>
        have k1 := hB.t q
        have k2 := hB.m
        have k3 : ow (bM (aB A)) k ≤ 12 := ow_le _ _
        by_cases z : ow (bM (aB A)) k = 12
        · simp [z, hk]
        · simp [z, hk, show k < 12 by omega, show ow (bM (aB A)) k < 12 by omega]
    rw [exy] at ey
    simp only [f_X10_told_J21, ↓hvc (fun _ => vc_168), ↓hbind m_b0t, show (((8 : Int32)).toInt < 0 ∨ 10 < ((8 : Int32)).toInt) = False from eq_false (by decide), ↓reduceIte, ↓tsf_at (show (((8 : Int32)).toInt - 0).toNat = 8 from by decide), f_X10_told_J131, show (8 : Int32) - 7 = 1 from by decide, ↓hbind ey]
theorem told_9 (hT : TF T) (hA : AOK A) (hC : RC T μ A) (hM : RM μ A) : OKc T μ (LB wc_L_told (f_X9_told 0 9) (f_X10_told 168 9)) := by
  have hB := hA.1
  have p6 : prOK shI 6 = true := bk_pr bk1
  have hb1 := hC.1
  refine told_ok hT hA hC hM (v := pcs (aB A) (bn (aB A))) (by decide) ?_ (fun ν hν => ?_)
  · have e := c_pairCost hb1 hB
    simp only [f_X9_told_J16, ↓hvc (fun _ => vc_0), ↓hbind c_da1, ↓thr_ok, ↓thr_er, show (((9 : Int32)).toInt < 0 ∨ 10 < ((9 : Int32)).toInt) = False from eq_false (by decide), ↓reduceIte, ↓tsf_at (show (((9 : Int32)).toInt - 0).toNat = 9 from by decide), ↓hbind gR_0_0, ↓hvc (fun _ => bk_v bk1), ↓hbind e]
  · have hm := hν.t.1
    have e := m_pairCost hm hB
    simp only [f_X10_told_J21, ↓hvc (fun _ => vc_168), ↓hbind m_b0t, show (((9 : Int32)).toInt < 0 ∨ 10 < ((9 : Int32)).toInt) = False from eq_false (by decide), ↓reduceIte, ↓tsf_at (show (((9 : Int32)).toInt - 0).toNat = 9 from by decide), ↓hbind e]
theorem told_10 (hT : TF T) (hA : AOK A) (hC : RC T μ A) (hM : RM μ A) : OKc T μ (LB wc_L_told (f_X9_told 0 10) (f_X10_told 168 10)) := by
  have hB := hA.1
  have p6 : prOK shI 6 = true := bk_pr bk1
  have hb1 := hC.1
  refine told_ok hT hA hC hM (v := Int32.ofNat (aH A).length) (by decide) ?_ (fun ν hν => ?_)
  · have e : μ.1 17 2 = Int32.ofNat (aH A).length := by obtain ⟨x, h1, h2, h3, h4⟩ := hC.2.1; exact h3
    simp only [f_X9_told_J16, ↓hvc (fun _ => vc_0), ↓hbind c_da1, ↓thr_ok, ↓thr_er, show (((10 : Int32)).toInt < 0 ∨ 10 < ((10 : Int32)).toInt) = False from eq_false (by decide), ↓reduceIte, ↓tsf_at (show (((10 : Int32)).toInt - 0).toNat = 10 from by decide), ↓hbind gR_0_0, ↓hvc (fun _ => bk_v bk1), ↓hbind gR_0_2, ↓hbind gI_17_2, e]
  · have hm := hν.t.1
    have e : (tz ν).1 168 14 = Int32.ofNat (aH A).length := hν.t.2.1.1
    simp only [f_X10_told_J21, ↓hvc (fun _ => vc_168), ↓hbind m_b0t, show (((10 : Int32)).toInt < 0 ∨ 10 < ((10 : Int32)).toInt) = False from eq_false (by decide), ↓reduceIte, ↓tsf_at (show (((10 : Int32)).toInt - 0).toNat = 10 from by decide), ↓hbind gI_168_14, e]
theorem told_11 (hT : TF T) (hA : AOK A) (hC : RC T μ A) (hM : RM μ A) : OKc T μ (LB wc_L_told (f_X9_told 0 11) (f_X10_told 168 11)) := by
  have hB := hA.1
  have p6 : prOK shI 6 = true := bk_pr bk1
  have hb1 := hC.1
  refine told_ok hT hA hC hM (v := Int32.ofNat (aN A)) (by decide) ?_ (fun ν hν => ?_)
  · have e : μ.1 139 1 = Int32.ofNat (aN A) := hC.2.2.1.1
    simp only [f_X9_told_J16, ↓hvc (fun _ => vc_0), ↓hbind c_da1, ↓thr_ok, ↓thr_er, show (((11 : Int32)).toInt < 0 ∨ 10 < ((11 : Int32)).toInt) = True from eq_true (by decide), ↓reduceIte, ↓hbind gR_0_0, ↓hvc (fun _ => bk_v bk1), ↓hbind gR_0_3, ↓hbind gI_139_1, e]
  · have hm := hν.t.1
    have e : (tz ν).1 168 2 = Int32.ofNat (aN A) := hν.t.2.2.1.1
    simp only [f_X10_told_J21, ↓hvc (fun _ => vc_168), ↓hbind m_b0t, show (((11 : Int32)).toInt < 0 ∨ 10 < ((11 : Int32)).toInt) = True from eq_true (by decide), ↓reduceIte, ↓hbind gI_168_2, e]
theorem in011 {x : Int32} : (0 ≤ x ∧ x ≤ 11) → ∃ k, k < 12 ∧ x = Int32.ofNat k := by
  rintro ⟨a, b⟩
  rcases i32_cases x with q | ⟨k, hk, rfl⟩
  · exact absurd q (Int32.not_lt.mpr a)
  · rw [show (11 : Int32) = Int32.ofNat 11 from rfl, oN_le hk (by omega)] at b
    exact ⟨k, by omega, rfl⟩
theorem op_told (hT : TF T) (hA : AOK A) (hC : RC T μ A) (hM : RM μ A) (x : Int32) : OKc T μ (LB wc_L_told (f_X9_told 0 x) (f_X10_told 168 x)) := by
  by_cases c : 0 ≤ x ∧ x ≤ 11
  · obtain ⟨k, hk, rfl⟩ := in011 c
    match k, hk with
    | 0, _ => exact told_0 hT hA hC hM
    | 1, _ => exact told_1 hT hA hC hM
    | 2, _ => exact told_2 hT hA hC hM
    | 3, _ => exact told_3 hT hA hC hM
    | 4, _ => exact told_4 hT hA hC hM
    | 5, _ => exact told_5 hT hA hC hM
    | 6, _ => exact told_6 hT hA hC hM
    | 7, _ => exact told_7 hT hA hC hM
    | 8, _ => exact told_8 hT hA hC hM
    | 9, _ => exact told_9 hT hA hC hM
    | 10, _ => exact told_10 hT hA hC hM
    | 11, _ => exact told_11 hT hA hC hM
    | k + 12, h => omega
  · exact told_no hT hA hC hM c
end O16
