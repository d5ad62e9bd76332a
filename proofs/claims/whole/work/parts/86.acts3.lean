/-! ACTS: part pair -/
section O5
variable {T : MM → Bk → Prop} {μ : MM} {A : AS}
theorem op_part_k (hT : TF T) (hA : AOK A) (hC : RC T μ A) (hM : RM μ A) {w : Nat} (w2 : w < 12) (c : KN (aB A) 0 (Int32.ofNat w)) (q : bM (aB A) w < 12) : OKc T μ (LB wc_L_part (f_X9_part 0 (Int32.ofNat w)) (f_X10_part 168 (Int32.ofNat w))) := by
  have hB := hA.1
  have hB2 := wM_ok hB (drop_Ms hB.M w)
  have p6 : prOK shI 6 = true := bk_pr bk1
  have nz : ¬ (eI (bM (aB A) w) = -1) := by rw [eI_n1]; omega
  have hw6 := c_taskOf (μ := μ) p6 hC.1.2.2.2.2.2 w2
  refine LB_ok hT hM (SK.uq (A := A) (v := eI (bM (aB A) w)) (B := wM (aB A) (up (bM (aB A)) w 12))) (CX_K hT hC hA hB2 fun ν1 e1 b1 => ?_) (fun ν hν => MX_K hν hB2 fun ν1 e1 b1 => ?_)
  · obtain ⟨ν2, e2, b2, f2⟩ := c_loosenWorker (μ := ν1) p6 b1.2.2.2.2.2 (k := w) (by omega)
    rw [eI_lt w2] at e2
    refine ⟨ν2, b1.prs b2 f2, f2.mono fun q i z => by unfold FP at z; unfold FB; omega, fun ν3 e3 => ?_⟩
    simp only [f_X9_part, f_X9_part_J36, ↓hvc (fun _ => vc_0), ↓hvc (fun _ => bk_v bk1), ↓hvc (fun _ => pr_v p6), ↓hbind gR_0_0, ↓hbind (bk_r9 bk1), ↓hbind (c_kn bk1 hC.1 hB _ _), pb_1 c, show bI true = 1 from rfl, ↓hbind c_dp1, ↓hbind c_da1, thr, ↓hbind hw6, nz, ↓reduceIte, ↓hbind e1, ↓hbind e2, ↓hbind e3]
  · refine ⟨_, b1.mate (t := 12) (w := w) rfl, (Fr.refl _ _).st (by unfold FR; omega), fun ν3 e3 => ?_⟩
    have e5 : (tz ν).1 210 w = eI (bM (aB A) w) := hν.t.1.2.2.1 w w2
    have e6 : ν1.1 210 w = eI (bM (aB A) w) := b1.2.2.1 w w2
    have e3 : f_X10_keeps 168 (mem (st ν1 210 w (-1))) = some (mem ν3) := e3
    simp only [f_X10_part, f_X10_part_J54, f_X10_part_J46, f_X10_part_J20, ↓hvc (fun _ => vc_168), ↓hbind pI_t0, ↓hbind (m_isOne hν.t.1 hB _ _), pb_1 c, bI_0, Bool.true_eq_false, ↓reduceIte, ↓hbind m_b0t, ↓hbind gR_168_11, ↓hbind mr_m0, ↓hbind (ma_m0 w2), ↓hbind (ms_m0 w2), e5, e6, nz, ↓hbind e1, ↓hbind e3]
theorem op_part (hT : TF T) (hA : AOK A) (hC : RC T μ A) (hM : RM μ A) (x : Int32) : OKc T μ (LB wc_L_part (f_X9_part 0 x) (f_X10_part 168 x)) := by
  have hB := hA.1
  have p6 : prOK shI 6 = true := bk_pr bk1
  by_cases c : KN (aB A) 0 x
  · obtain ⟨w, w1, w2, rfl⟩ := c.w hB
    by_cases q : bM (aB A) w < 12
    · exact op_part_k hT hA hC hM w2 c q
    · have nz : (eI (bM (aB A) w) = -1) = True := by rw [eI_n1]; exact eq_true (by omega)
      have hw6 := c_taskOf (μ := μ) p6 hC.1.2.2.2.2.2 w2
      refine LB_ok hT hM (SA.uq (A := A)) (CX_A hT hC hA fun ν e1 => ?_) (fun ν hν => MX_A hν (w := 2) (b := 0) rfl (by decide) ?_)
      · simp only [f_X9_part, f_X9_part_J36, ↓hvc (fun _ => vc_0), ↓hvc (fun _ => bk_v bk1), ↓hvc (fun _ => pr_v p6), ↓hbind gR_0_0, ↓hbind (bk_r9 bk1), ↓hbind (c_kn bk1 hC.1 hB _ _), pb_1 c, show bI true = 1 from rfl, ↓hbind c_dp1, thr, ↓hbind hw6, nz, ↓reduceIte, ↓hbind e1]
      · have e5 : (tz ν).1 210 w = eI (bM (aB A) w) := hν.t.1.2.2.1 w w2
        simp only [f_X10_part, f_X10_part_J54, f_X10_part_J46, f_X10_part_J20, ↓hvc (fun _ => vc_168), ↓hbind pI_t0, ↓hbind (m_isOne hν.t.1 hB _ _), pb_1 c, bI_0, Bool.true_eq_false, ↓reduceIte, ↓hbind m_b0t, ↓hbind gR_168_11, ↓hbind mr_m0, ↓hbind (ma_m0 w2), e5, nz, ↓hbind (m_bA (show (2 : Int32) ≠ 0 by decide)), z_1]
  · refine LB_ok hT hM (SP.uq (A := A)) (CX_P hT hC hA fun ν e => ?_) (fun ν hν => MX_P hν (w := 1) (b := 0) rfl (by decide) ?_)
    · simp only [f_X9_part, ↓hvc (fun _ => vc_0), ↓hvc (fun _ => bk_v bk1), ↓hbind gR_0_0, ↓hbind (c_kn bk1 hC.1 hB _ _), pb_f c, show bI false = 0 from rfl, ↓hbind e, thr]
    · simp only [f_X10_part, f_X10_part_J54, f_X10_part_J46, f_X10_part_J20, ↓hvc (fun _ => vc_168), ↓hbind pI_t0, ↓hbind (m_isOne hν.t.1 hB _ _), pb_f c, bI_0, ↓reduceIte, ↓hbind (m_bP (show (1 : Int32) ≠ 0 by decide)), z_1]
end O5
