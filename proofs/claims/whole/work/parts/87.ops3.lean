/-! OPERATIONS: print status -/
/-- from 0 on, 13 times what there is -/
def prn (M : Nat → Nat) : Nat → Int64
  | 0 => 0
  | n + 1 => prn M n * 13 + (eI (M n)).toInt64 + 1
section O6
variable {T : MM → Bk → Prop} {μ : MM} {A : AS}
theorem op_print (hT : TF T) (hA : AOK A) (hC : RC T μ A) (hM : RM μ A) : OKc T μ (LJ (f_X9_print 0) (f_X10_print 168)) := by
  have hB := hA.1
  have hn := hB.n
  have p6 : prOK shI 6 = true := bk_pr bk1
  refine LJ_ok hT (S := fun v A' => v = prn (bM (aB A)) (bn (aB A)) ∧ A' = A) hM (fun _ _ _ _ h h' => ⟨h.1.trans h'.1.symm, h.2.trans h'.2.symm⟩) ⟨_, μ, A, ?_, Fr.refl _ _, hC, hA, rfl, rfl⟩ (fun ν hν => ⟨_, tz ν, A, ?_, t0_ML, hν.t, rfl, rfl⟩)
  · apply hw_eq
    have e0 : μ.1 1 0 = Int32.ofNat (bn (aB A)) := hC.1.1.1
    refine hw_for (L := fun n w (v : Int64) => f_X9_print_L4 f_X9_print_J42 n 0 v w (mem μ)) (s0 := 0) (bn (aB A)) (fun w v => v = prn (bM (aB A)) w) rfl (by omega) (fun w hw v hv => Or.inl ⟨_, rfl, fun n => ?_⟩) (fun v hv n => ?_)
    · have ht := c_taskOf (μ := μ) p6 hC.1.2.2.2.2.2 (show w < 12 by omega)
      rw [hv]
      have c : ¬ Int32.ofNat w ≥ Int32.ofNat (bn (aB A)) := by rw [oN_ge (by omega) (by omega)]; omega
      simp only [f_X9_print_L4, ↓hbind gR_0_0, ↓hbind (bk_i0 bk1), e0, if_neg c, ↓hbind (bk_r9 bk1), ↓hvc (fun _ => pr_v p6), ↓hbind ht, lt, i_succ, prn]
    · have c : Int32.ofNat (bn (aB A)) ≥ Int32.ofNat (bn (aB A)) := by rw [oN_ge (by omega) (by omega)]; omega
      simp only [f_X9_print_L4, ↓hbind gR_0_0, ↓hbind (bk_i0 bk1), e0, if_pos c, f_X9_print_J42]
      exact hw_ret (by rw [hv])
  · apply hw_eq
    have e0 : (tz ν).1 172 0 = Int32.ofNat (bn (aB A)) := hν.t.1.1.1
    simp only [f_X10_print, ↓hbind pI_t0]
    refine hw_for (L := fun n w (v : Int64) => f_X10_print_L9 f_X10_print_J45 n 168 v w (mem (tz ν))) (s0 := 0) (bn (aB A)) (fun w v => v = prn (bM (aB A)) w) rfl (by omega) (fun w hw v hv => Or.inl ⟨_, rfl, fun n => ?_⟩) (fun v hv n => ?_)
    · rw [hv]
      have c : ¬ Int32.ofNat w ≥ Int32.ofNat (bn (aB A)) := by rw [oN_ge (by omega) (by omega)]; omega
      have e5 : (tz ν).1 210 w = eI (bM (aB A) w) := hν.t.1.2.2.1 w (by omega)
      simp only [f_X10_print_L9, ↓hbind gR_168_9, ↓hbind mr_h0, ↓hbind mh_a0_0, e0, if_neg c, ↓hbind gR_168_11, ↓hbind mr_m0, ↓hbind (ma_m0 (show w < 12 by omega)), e5, lt, i_succ, prn, Int64.mul_comm]
    · have c : Int32.ofNat (bn (aB A)) ≥ Int32.ofNat (bn (aB A)) := by rw [oN_ge (by omega) (by omega)]; omega
      simp only [f_X10_print_L9, ↓hbind gR_168_9, ↓hbind mr_h0, ↓hbind mh_a0_0, e0, if_pos c, f_X10_print_J45]
      exact hw_ret (by rw [hv])
theorem op_status (hT : TF T) (hA : AOK A) (hC : RC T μ A) (hM : RM μ A) (x : Int32) : OKc T μ (LI (f_X9_status 0 x) (f_X10_status 168 x)) := by
  have z10 : ¬ ((1 : Int32) = 0) := by decide
  refine LI_ok hT (S := fun v A' => v = (if x = 0 then aX A else if x = 1 then aZ A else -1) ∧ A' = A) hM (fun _ _ _ _ h h' => ⟨h.1.trans h'.1.symm, h.2.trans h'.2.symm⟩) ⟨_, μ, A, ?_, Fr.refl _ _, hC, hA, rfl, rfl⟩ (fun ν hν => ⟨_, tz ν, A, ?_, t0_ML, hν.t, rfl, rfl⟩)
  · by_cases c0 : x = 0
    · simp only [f_X9_status, f_X9_status_J24, if_pos c0, ↓hbind gI_0_10, hC.2.2.2.2.1]
    · by_cases c1 : x = 1
      · simp only [f_X9_status, f_X9_status_J24, if_neg c0, if_pos c1, ↓hbind gI_0_11, hC.2.2.2.2.2.1]
      · simp only [f_X9_status, f_X9_status_J24, if_neg c0, if_neg c1]
  · have e0 : (tz ν).1 169 0 = aX A := hν.t.2.2.2.2.1
    have e1 : (tz ν).1 169 1 = aZ A := hν.t.2.2.2.2.2
    by_cases c0 : x = 0
    · subst c0
      have a0 : aI (mem (tz ν)) 169 0 = some ((tz ν).1 169 0) := aI_169 (i := 0) (by omega)
      simp only [f_X10_status, f_X10_status_J24, ↓hbind pI_t0, ↓hbind (m_in01 (Or.inl rfl)), ↓reduceIte, z10, ↓hbind gR_168_1, ↓hbind a0, e0]
    · by_cases c1 : x = 1
      · subst c1
        have a1 : aI (mem (tz ν)) 169 1 = some ((tz ν).1 169 1) := aI_169 (i := 1) (by omega)
        simp only [f_X10_status, f_X10_status_J24, ↓hbind pI_t0, ↓hbind (m_in01 (Or.inr rfl)), ↓reduceIte, z10, ↓hbind gR_168_1, ↓hbind a1, e1]
      · simp only [f_X10_status, f_X10_status_J24, ↓hbind pI_t0, ↓hbind (m_out01 (show ¬ (x = 0 ∨ x = 1) by simp [c0, c1])), ↓reduceIte, if_neg c0, if_neg c1]
end O6
