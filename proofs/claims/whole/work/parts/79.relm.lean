/-! THE MODEL: keeps, pairs, refusals; THE LAW'S CASES -/
theorem Fs.Q {q i : Nat} (h : Fs q i) : (q = 168 ∧ i = 18) ∨ q = 482 ∨ q = 483 ∨ q = 210 := by unfold Fs Fh Fm at h; omega
section Mr
variable {μ : MM} {A : AS} {B : Bk}
theorem MR.pairs {ν : MM} {P : Nat → Nat → Prop} {M : Nat → Nat} (h : MR μ 0 B) (f : Fr P μ ν) (n : ∀ q i, FR 0 q i → q ≠ 210 → ¬ P q i) (hm : ∀ w, w < 12 → ν.1 210 w = eI (M w)) : MR ν 0 (wM B M) := by
  obtain ⟨⟨h0, h1, h2, h3, h4⟩, h5, h6, h7, h8⟩ := h
  have e : ∀ q i, FR 0 q i → q ≠ 210 → ν.1 q i = μ.1 q i := fun q i a b => (f q i (n q i a b)).1
  refine ⟨⟨?_, ?_, ?_, ?_, ?_⟩, fun w hw => ?_, hm, fun w hw => ?_, fun w t hw ht q => ?_⟩
  · rw [e _ _ (by unfold FR; omega) (by omega)]; exact h0
  · rw [e _ _ (by unfold FR; omega) (by omega)]; exact h1
  · rw [e _ _ (by unfold FR; omega) (by omega)]; exact h2
  · rw [e _ _ (by unfold FR; omega) (by omega)]; exact h3
  · rw [e _ _ (by unfold FR; omega) (by omega)]; exact h4
  · rw [e _ _ (by unfold FR; omega) (by omega)]; exact h5 w hw
  · rw [e _ _ (by unfold FR; omega) (by omega)]; exact h7 w hw
  · rw [e _ _ (by unfold FR; omega) (by omega)]; exact h8 w t hw ht q
theorem m_keeps (h : MR μ 0 B) (hB : BOK B) : ∃ ν B', f_X10_keeps 168 (mem μ) = some (mem ν) ∧ MR ν 0 B' ∧ Kp B B' ∧ Fr Fs μ ν := by
  have hk := hB.k
  have e2 : μ.1 172 2 = Int32.ofNat (bk B) := h.1.2.2.1
  by_cases c : bk B = 1
  · obtain ⟨k, ν, M', e, f, s, o, g⟩ := m_settles (h.MS hB) hB.SOK (Nat.le_refl 12)
    have e' : f_X10_settles 168 12 (mem μ) = some (Int32.ofNat k, mem ν) := e
    refine ⟨ν, wM B M', ?_, h.pairs f (fun q i a b z => by have := z.Q; unfold FR at a; omega) s.2.2.2, Or.inl ⟨c, k, M', g, rfl⟩, f⟩
    rw [c] at e2
    have e2 : μ.1 172 2 = 1 := e2
    simp only [f_X10_keeps, f_X10_keeps_J19, vc_168, gI_168_0, pI_168_0, gR_168_1, gI_168_2, pI_168_2, gI_168_3, pI_168_3, gI_168_4, pI_168_4, gI_168_5, pI_168_5, gI_168_6, pI_168_6, gI_168_7, pI_168_7, gR_168_8, gR_168_9, gR_168_10, gR_168_11, gR_168_12, gR_168_13, gI_168_14, pI_168_14, gI_168_15, pI_168_15, gI_168_16, pI_168_16, gR_168_17, gI_168_18, pI_168_18, gR_168_19, gI_168_20, pI_168_20, gI_168_21, pI_168_21, gI_168_22, pI_168_22, gI_168_23, pI_168_23, gR_168_24, gR_168_25, gI_168_26, pI_168_26, gI_168_27, pI_168_27, gR_168_28, gI_168_29, pI_168_29, gI_168_30, pI_168_30, gI_168_31, pI_168_31, gR_168_32, gR_168_33, gR_168_34, gR_168_35, gR_168_36, gR_168_37, gR_168_38, mr_h0, mr_f0, mr_m0, mr_w0, mr_c0, mc_c0, mc_a0, mc_s0, mh_a0_0, mh_s0_0, mh_a0_1, mh_s0_1, mh_a0_2, mh_s0_2, mh_a0_3, mh_s0_3, mh_a0_4, mh_s0_4, ma_f0, ms_f0, ma_m0, ms_m0, ma_w0, ms_w0, e2, if_true, e', Option.bind_some]
  · refine ⟨μ, B, ?_, h, Or.inr ⟨c, rfl⟩, Fr.refl _ _⟩
    have c0 : bk B = 0 := by omega
    rw [c0] at e2
    have e2 : μ.1 172 2 = 0 := e2
    have n01 : ¬ ((0 : Int32) = 1) := by decide
    simp only [f_X10_keeps, f_X10_keeps_J19, vc_168, gI_168_0, pI_168_0, gR_168_1, gI_168_2, pI_168_2, gI_168_3, pI_168_3, gI_168_4, pI_168_4, gI_168_5, pI_168_5, gI_168_6, pI_168_6, gI_168_7, pI_168_7, gR_168_8, gR_168_9, gR_168_10, gR_168_11, gR_168_12, gR_168_13, gI_168_14, pI_168_14, gI_168_15, pI_168_15, gI_168_16, pI_168_16, gR_168_17, gI_168_18, pI_168_18, gR_168_19, gI_168_20, pI_168_20, gI_168_21, pI_168_21, gI_168_22, pI_168_22, gI_168_23, pI_168_23, gR_168_24, gR_168_25, gI_168_26, pI_168_26, gI_168_27, pI_168_27, gR_168_28, gI_168_29, pI_168_29, gI_168_30, pI_168_30, gI_168_31, pI_168_31, gR_168_32, gR_168_33, gR_168_34, gR_168_35, gR_168_36, gR_168_37, gR_168_38, mr_h0, mr_f0, mr_m0, mr_w0, mr_c0, mc_c0, mc_a0, mc_s0, mh_a0_0, mh_s0_0, mh_a0_1, mh_s0_1, mh_a0_2, mh_s0_2, mh_a0_3, mh_s0_3, mh_a0_4, mh_s0_4, ma_f0, ms_f0, ma_m0, ms_m0, ma_w0, ms_w0, e2, if_neg n01, Option.bind_some]
theorem m_pairs {M : Nat → Nat} (hl : ∀ w, M w ≤ 12) (hm : ∀ w, w < 12 → μ.1 210 w = eI (M w)) : f_X10_pairs 168 (mem μ) = some (Int32.ofNat (sz M), mem μ) := by
  apply hw_eq
  refine hw_for (L := fun n i (k : Nat) => f_X10_pairs_L4 f_X10_pairs_J36 n 168 (Int32.ofNat k) i (mem μ)) (s0 := 0) 12 (fun i k => k = cnt (fun w => decide (M w < 12)) i) rfl (by decide) (fun i hi k hk => Or.inl ?_) (fun k hk n => ?_)
  · have e := hm i hi
    by_cases c : M i < 12
    · refine ⟨k + 1, by rw [hk]; simp [cnt, c], fun n => ?_⟩
      simp (disch := omega) only [f_X10_pairs_L4, f_X10_pairs_J36, f_X10_pairs_J28, vc_168, gI_168_0, pI_168_0, gR_168_1, gI_168_2, pI_168_2, gI_168_3, pI_168_3, gI_168_4, pI_168_4, gI_168_5, pI_168_5, gI_168_6, pI_168_6, gI_168_7, pI_168_7, gR_168_8, gR_168_9, gR_168_10, gR_168_11, gR_168_12, gR_168_13, gI_168_14, pI_168_14, gI_168_15, pI_168_15, gI_168_16, pI_168_16, gR_168_17, gI_168_18, pI_168_18, gR_168_19, gI_168_20, pI_168_20, gI_168_21, pI_168_21, gI_168_22, pI_168_22, gI_168_23, pI_168_23, gR_168_24, gR_168_25, gI_168_26, pI_168_26, gI_168_27, pI_168_27, gR_168_28, gI_168_29, pI_168_29, gI_168_30, pI_168_30, gI_168_31, pI_168_31, gR_168_32, gR_168_33, gR_168_34, gR_168_35, gR_168_36, gR_168_37, gR_168_38, mr_h0, mr_f0, mr_m0, mr_w0, mr_c0, mc_c0, mc_a0, mc_s0, mh_a0_0, mh_s0_0, mh_a0_1, mh_s0_1, mh_a0_2, mh_s0_2, mh_a0_3, mh_s0_3, mh_a0_4, mh_s0_4, ma_f0, ms_f0, ma_m0, ms_m0, ma_w0, ms_w0, e, lt, true_or, or_true, false_or, or_false, Option.bind_some, if_true, if_false, bI_0, bI_1, bI_z, eI_n1, eI_l0, eI_g12, oN_n1, oN_l0, oN_g0, n1_l0, n1_g12, n1_0, n1_n1, z_0, z_1, z_2, z_3, z_4, z_5, z_6, z_7, z_8, z_9, z_a, z_b, z_c, z_d, z_e, z_f, oN_inj, oN_lt, oN_gt, oN_ge, oN_le, i_succ, if_pos, if_neg, c_has, c_bit, Bool.true_eq_false, Bool.false_eq_true, decide_true, decide_false, decide_eq_true_eq, decide_eq_false_iff_not, eI_lt, lle_0, lge_0, llt_0, lgt_0, leq_0, lle_1, lge_1, llt_1, lgt_1, leq_1, lle_2, lge_2, llt_2, lgt_2, leq_2, lle_3, lge_3, llt_3, lgt_3, leq_3, lle_4, lge_4, llt_4, lgt_4, leq_4, lle_5, lge_5, llt_5, lgt_5, leq_5, lle_6, lge_6, llt_6, lgt_6, leq_6, lle_7, lge_7, llt_7, lgt_7, leq_7, lle_11, lge_11, llt_11, lgt_11, leq_11, lle_12, lge_12, llt_12, lgt_12, leq_12, lle_15, lge_15, llt_15, lgt_15, leq_15, lle_20, lge_20, llt_20, lgt_20, leq_20, lle_24, lge_24, llt_24, lgt_24, leq_24, lle_25, lge_25, llt_25, lgt_25, leq_25, lle_31, lge_31, llt_31, lgt_31, leq_31, lle_48, lge_48, llt_48, lgt_48, leq_48, lle_57, lge_57, llt_57, lgt_57, leq_57, lle_32, lge_32, llt_32, lgt_32, leq_32, lle_59, lge_59, llt_59, lgt_59, leq_59, lle_97, lge_97, llt_97, lgt_97, leq_97, lle_122, lge_122, llt_122, lgt_122, leq_122, lle_99, lge_99, llt_99, lgt_99, leq_99, lle_100, lge_100, llt_100, lgt_100, leq_100, lle_144, lge_144, llt_144, lgt_144, leq_144, lle_255, lge_255, llt_255, lgt_255, leq_255, lle_300, lge_300, llt_300, lgt_300, leq_300, lle_1000, lge_1000, llt_1000, lgt_1000, leq_1000, lle_1000000, lge_1000000, llt_1000000, lgt_1000000, leq_1000000, lle_4096, lge_4096, llt_4096, lgt_4096, leq_4096, b_ft]
    · refine ⟨k, by rw [hk]; simp [cnt, c], fun n => ?_⟩
      simp (disch := omega) only [f_X10_pairs_L4, f_X10_pairs_J36, f_X10_pairs_J28, vc_168, gI_168_0, pI_168_0, gR_168_1, gI_168_2, pI_168_2, gI_168_3, pI_168_3, gI_168_4, pI_168_4, gI_168_5, pI_168_5, gI_168_6, pI_168_6, gI_168_7, pI_168_7, gR_168_8, gR_168_9, gR_168_10, gR_168_11, gR_168_12, gR_168_13, gI_168_14, pI_168_14, gI_168_15, pI_168_15, gI_168_16, pI_168_16, gR_168_17, gI_168_18, pI_168_18, gR_168_19, gI_168_20, pI_168_20, gI_168_21, pI_168_21, gI_168_22, pI_168_22, gI_168_23, pI_168_23, gR_168_24, gR_168_25, gI_168_26, pI_168_26, gI_168_27, pI_168_27, gR_168_28, gI_168_29, pI_168_29, gI_168_30, pI_168_30, gI_168_31, pI_168_31, gR_168_32, gR_168_33, gR_168_34, gR_168_35, gR_168_36, gR_168_37, gR_168_38, mr_h0, mr_f0, mr_m0, mr_w0, mr_c0, mc_c0, mc_a0, mc_s0, mh_a0_0, mh_s0_0, mh_a0_1, mh_s0_1, mh_a0_2, mh_s0_2, mh_a0_3, mh_s0_3, mh_a0_4, mh_s0_4, ma_f0, ms_f0, ma_m0, ms_m0, ma_w0, ms_w0, e, Int32.add_zero, lt, true_or, or_true, false_or, or_false, Option.bind_some, if_true, if_false, bI_0, bI_1, bI_z, eI_n1, eI_l0, eI_g12, oN_n1, oN_l0, oN_g0, n1_l0, n1_g12, n1_0, n1_n1, z_0, z_1, z_2, z_3, z_4, z_5, z_6, z_7, z_8, z_9, z_a, z_b, z_c, z_d, z_e, z_f, oN_inj, oN_lt, oN_gt, oN_ge, oN_le, i_succ, if_pos, if_neg, c_has, c_bit, Bool.true_eq_false, Bool.false_eq_true, decide_true, decide_false, decide_eq_true_eq, decide_eq_false_iff_not, eI_lt, lle_0, lge_0, llt_0, lgt_0, leq_0, lle_1, lge_1, llt_1, lgt_1, leq_1, lle_2, lge_2, llt_2, lgt_2, leq_2, lle_3, lge_3, llt_3, lgt_3, leq_3, lle_4, lge_4, llt_4, lgt_4, leq_4, lle_5, lge_5, llt_5, lgt_5, leq_5, lle_6, lge_6, llt_6, lgt_6, leq_6, lle_7, lge_7, llt_7, lgt_7, leq_7, lle_11, lge_11, llt_11, lgt_11, leq_11, lle_12, lge_12, llt_12, lgt_12, leq_12, lle_15, lge_15, llt_15, lgt_15, leq_15, lle_20, lge_20, llt_20, lgt_20, leq_20, lle_24, lge_24, llt_24, lgt_24, leq_24, lle_25, lge_25, llt_25, lgt_25, leq_25, lle_31, lge_31, llt_31, lgt_31, leq_31, lle_48, lge_48, llt_48, lgt_48, leq_48, lle_57, lge_57, llt_57, lgt_57, leq_57, lle_32, lge_32, llt_32, lgt_32, leq_32, lle_59, lge_59, llt_59, lgt_59, leq_59, lle_97, lge_97, llt_97, lgt_97, leq_97, lle_122, lge_122, llt_122, lgt_122, leq_122, lle_99, lge_99, llt_99, lgt_99, leq_99, lle_100, lge_100, llt_100, lgt_100, leq_100, lle_144, lge_144, llt_144, lgt_144, leq_144, lle_255, lge_255, llt_255, lgt_255, leq_255, lle_300, lge_300, llt_300, lgt_300, leq_300, lle_1000, lge_1000, llt_1000, lgt_1000, leq_1000, lle_1000000, lge_1000000, llt_1000000, lgt_1000000, leq_1000000, lle_4096, lge_4096, llt_4096, lgt_4096, leq_4096, b_ft]
  · simp (disch := omega) only [f_X10_pairs_L4, f_X10_pairs_J36, f_X10_pairs_J28, lt, true_or, or_true, false_or, or_false, Option.bind_some, if_true, if_false, bI_0, bI_1, bI_z, eI_n1, eI_l0, eI_g12, oN_n1, oN_l0, oN_g0, n1_l0, n1_g12, n1_0, n1_n1, z_0, z_1, z_2, z_3, z_4, z_5, z_6, z_7, z_8, z_9, z_a, z_b, z_c, z_d, z_e, z_f, oN_inj, oN_lt, oN_gt, oN_ge, oN_le, i_succ, if_pos, if_neg, c_has, c_bit, Bool.true_eq_false, Bool.false_eq_true, decide_true, decide_false, decide_eq_true_eq, decide_eq_false_iff_not, eI_lt, lle_0, lge_0, llt_0, lgt_0, leq_0, lle_1, lge_1, llt_1, lgt_1, leq_1, lle_2, lge_2, llt_2, lgt_2, leq_2, lle_3, lge_3, llt_3, lgt_3, leq_3, lle_4, lge_4, llt_4, lgt_4, leq_4, lle_5, lge_5, llt_5, lgt_5, leq_5, lle_6, lge_6, llt_6, lgt_6, leq_6, lle_7, lge_7, llt_7, lgt_7, leq_7, lle_11, lge_11, llt_11, lgt_11, leq_11, lle_12, lge_12, llt_12, lgt_12, leq_12, lle_15, lge_15, llt_15, lgt_15, leq_15, lle_20, lge_20, llt_20, lgt_20, leq_20, lle_24, lge_24, llt_24, lgt_24, leq_24, lle_25, lge_25, llt_25, lgt_25, leq_25, lle_31, lge_31, llt_31, lgt_31, leq_31, lle_48, lge_48, llt_48, lgt_48, leq_48, lle_57, lge_57, llt_57, lgt_57, leq_57, lle_32, lge_32, llt_32, lgt_32, leq_32, lle_59, lge_59, llt_59, lgt_59, leq_59, lle_97, lge_97, llt_97, lgt_97, leq_97, lle_122, lge_122, llt_122, lgt_122, leq_122, lle_99, lge_99, llt_99, lgt_99, leq_99, lle_100, lge_100, llt_100, lgt_100, leq_100, lle_144, lge_144, llt_144, lgt_144, leq_144, lle_255, lge_255, llt_255, lgt_255, leq_255, lle_300, lge_300, llt_300, lgt_300, leq_300, lle_1000, lge_1000, llt_1000, lgt_1000, leq_1000, lle_1000000, lge_1000000, llt_1000000, lgt_1000000, leq_1000000, lle_4096, lge_4096, llt_4096, lgt_4096, leq_4096, b_ft]
    exact hw_ret (by rw [hk]; rfl)
/-- a refusal that isn't due, or is late -/
theorem m_bad_no {w r : Int32} (h0 : μ.1 168 0 = 0) : f_X10_bad 168 0 w r (mem μ) = some (0, mem μ) := by
  simp only [f_X10_bad, f_X10_bad_J38, f_X10_bad_J26, vc_168, gI_168_0, pI_168_0, gR_168_1, gI_168_2, pI_168_2, gI_168_3, pI_168_3, gI_168_4, pI_168_4, gI_168_5, pI_168_5, gI_168_6, pI_168_6, gI_168_7, pI_168_7, gR_168_8, gR_168_9, gR_168_10, gR_168_11, gR_168_12, gR_168_13, gI_168_14, pI_168_14, gI_168_15, pI_168_15, gI_168_16, pI_168_16, gR_168_17, gI_168_18, pI_168_18, gR_168_19, gI_168_20, pI_168_20, gI_168_21, pI_168_21, gI_168_22, pI_168_22, gI_168_23, pI_168_23, gR_168_24, gR_168_25, gI_168_26, pI_168_26, gI_168_27, pI_168_27, gR_168_28, gI_168_29, pI_168_29, gI_168_30, pI_168_30, gI_168_31, pI_168_31, gR_168_32, gR_168_33, gR_168_34, gR_168_35, gR_168_36, gR_168_37, gR_168_38, h0, if_true, Option.bind_some, z_0, true_or]
theorem a169 {r : Nat} (hr : r < 2) {v : Int32} : aI (mem μ) 169 (Int32.ofNat r) = some (μ.1 169 r) ∧ sI (mem μ) 169 (Int32.ofNat r) v = some (mem (st μ 169 r v)) := ⟨aI_169 hr, sI_169 hr⟩
theorem m_bad_p {w : Int32} (hw : w ≠ 0) (h0 : μ.1 168 0 = 0) : f_X10_bad 168 1 w 0 (mem μ) = some (1, mem (st (st μ 168 0 w) 169 0 (μ.1 169 0 + 1))) := by
  have e1 : ∀ ν : MM, aI (mem ν) 169 0 = some (ν.1 169 0) := fun ν => aI_169 (i := 0) (by omega)
  have e2 : ∀ (ν : MM) v, sI (mem ν) 169 0 v = some (mem (st ν 169 0 v)) := fun ν v => sI_169 (i := 0) (by omega)
  have e3 : (st μ 168 0 w).1 169 0 = μ.1 169 0 := st_ne (Or.inl (by omega))
  have e4 : ∀ v, (st (st μ 168 0 w) 169 0 v).1 168 0 = w := fun v => by rw [st_ne (Or.inl (by omega)), st_same]
  simp only [f_X10_bad, f_X10_bad_J38, f_X10_bad_J26, vc_168, gI_168_0, pI_168_0, gR_168_1, gI_168_2, pI_168_2, gI_168_3, pI_168_3, gI_168_4, pI_168_4, gI_168_5, pI_168_5, gI_168_6, pI_168_6, gI_168_7, pI_168_7, gR_168_8, gR_168_9, gR_168_10, gR_168_11, gR_168_12, gR_168_13, gI_168_14, pI_168_14, gI_168_15, pI_168_15, gI_168_16, pI_168_16, gR_168_17, gI_168_18, pI_168_18, gR_168_19, gI_168_20, pI_168_20, gI_168_21, pI_168_21, gI_168_22, pI_168_22, gI_168_23, pI_168_23, gR_168_24, gR_168_25, gI_168_26, pI_168_26, gI_168_27, pI_168_27, gR_168_28, gI_168_29, pI_168_29, gI_168_30, pI_168_30, gI_168_31, pI_168_31, gR_168_32, gR_168_33, gR_168_34, gR_168_35, gR_168_36, gR_168_37, gR_168_38, h0, if_true, if_false, Option.bind_some, z_0, z_1, z_2, e1, e2, e3, e4, if_neg hw, or_true]
theorem m_bad_a {w : Int32} (hw : w ≠ 0) (h0 : μ.1 168 0 = 0) : f_X10_bad 168 1 w 1 (mem μ) = some (1, mem (st (st μ 168 0 w) 169 1 (μ.1 169 1 + 1))) := by
  have e1 : ∀ ν : MM, aI (mem ν) 169 1 = some (ν.1 169 1) := fun ν => aI_169 (i := 1) (by omega)
  have e2 : ∀ (ν : MM) v, sI (mem ν) 169 1 v = some (mem (st ν 169 1 v)) := fun ν v => sI_169 (i := 1) (by omega)
  have e3 : (st μ 168 0 w).1 169 1 = μ.1 169 1 := st_ne (Or.inl (by omega))
  have e4 : ∀ v, (st (st μ 168 0 w) 169 1 v).1 168 0 = w := fun v => by rw [st_ne (Or.inl (by omega)), st_same]
  simp only [f_X10_bad, f_X10_bad_J38, f_X10_bad_J26, vc_168, gI_168_0, pI_168_0, gR_168_1, gI_168_2, pI_168_2, gI_168_3, pI_168_3, gI_168_4, pI_168_4, gI_168_5, pI_168_5, gI_168_6, pI_168_6, gI_168_7, pI_168_7, gR_168_8, gR_168_9, gR_168_10, gR_168_11, gR_168_12, gR_168_13, gI_168_14, pI_168_14, gI_168_15, pI_168_15, gI_168_16, pI_168_16, gR_168_17, gI_168_18, pI_168_18, gR_168_19, gI_168_20, pI_168_20, gI_168_21, pI_168_21, gI_168_22, pI_168_22, gI_168_23, pI_168_23, gR_168_24, gR_168_25, gI_168_26, pI_168_26, gI_168_27, pI_168_27, gR_168_28, gI_168_29, pI_168_29, gI_168_30, pI_168_30, gI_168_31, pI_168_31, gR_168_32, gR_168_33, gR_168_34, gR_168_35, gR_168_36, gR_168_37, gR_168_38, h0, if_true, if_false, Option.bind_some, z_0, z_1, z_2, e1, e2, e3, e4, if_neg hw, or_true]
theorem RM.refP (h : RM μ A) (w : Int32) : RM (st (st μ 168 0 w) 169 0 (μ.1 169 0 + 1)) (refP A) := by
  have f1 : Fr (fun q i => q = 168 ∧ i = 0) μ (st μ 168 0 w) := (Fr.refl _ _).st ⟨rfl, rfl⟩
  have h' := h.fr f1 fun q i a b c => by unfold QM; omega
  obtain ⟨h1, h2, ⟨h3, h4⟩, h5, h6, h7⟩ := h'
  have f2 : Fr (fun q i => q = 169 ∧ i = 0) (st μ 168 0 w) (st (st μ 168 0 w) 169 0 (μ.1 169 0 + 1)) := (Fr.refl _ _).st ⟨rfl, rfl⟩
  refine ⟨h1.fr f2 fun q i a b => by unfold FR at a; omega, h2.fr f2 (by omega) (fun r q i a b c => by unfold FR at c; omega), ⟨?_, fun k hk => ?_⟩, ?_, ?_, ?_⟩
  · rw [(f2 _ _ (by omega)).1]; exact h3
  · rw [(f2 _ _ (by omega)).1]; exact h4 k hk
  · rw [(f2 _ _ (by omega)).1]; exact h5
  · rw [st_same]
    show μ.1 169 0 + 1 = aX A + 1
    rw [← h6, st_ne (Or.inl (by omega))]
  · rw [(f2 _ _ (by omega)).1]; exact h7
theorem RM.refA (h : RM μ A) (w : Int32) : RM (st (st μ 168 0 w) 169 1 (μ.1 169 1 + 1)) (refA A) := by
  have f1 : Fr (fun q i => q = 168 ∧ i = 0) μ (st μ 168 0 w) := (Fr.refl _ _).st ⟨rfl, rfl⟩
  have h' := h.fr f1 fun q i a b c => by unfold QM; omega
  obtain ⟨h1, h2, ⟨h3, h4⟩, h5, h6, h7⟩ := h'
  have f2 : Fr (fun q i => q = 169 ∧ i = 1) (st μ 168 0 w) (st (st μ 168 0 w) 169 1 (μ.1 169 1 + 1)) := (Fr.refl _ _).st ⟨rfl, rfl⟩
  refine ⟨h1.fr f2 fun q i a b => by unfold FR at a; omega, h2.fr f2 (by omega) (fun r q i a b c => by unfold FR at c; omega), ⟨?_, fun k hk => ?_⟩, ?_, ?_, ?_⟩
  · rw [(f2 _ _ (by omega)).1]; exact h3
  · rw [(f2 _ _ (by omega)).1]; exact h4 k hk
  · rw [(f2 _ _ (by omega)).1]; exact h5
  · rw [(f2 _ _ (by omega)).1]; exact h6
  · rw [st_same]
    show μ.1 169 1 + 1 = aZ A + 1
    rw [← h7, st_ne (Or.inl (by omega))]
/-- the model's call begins -/
theorem RM.t0 (h : RM μ A) : RM (st μ 168 0 0) A := h.fr ((Fr.refl (fun q i => q = 168 ∧ i = 0) _).st ⟨rfl, rfl⟩) fun q i a b c => by unfold QM; omega
/-- an act of the model: remembered, then the book as it is -/
theorem m_remember (h : RM μ A) : ∃ ν, f_X10_remembers 168 (mem μ) = some (mem ν) ∧ HM ν (hpush (aH A) (aB A)) ∧ MR ν 0 (aB A) ∧ Fr FM μ ν := by
  obtain ⟨h1, h2, -⟩ := h
  obtain ⟨ν, e, p1, p2⟩ := m_remembers h2 h1
  exact ⟨ν, e, p1, h1.fr p2 fun q i a c => by
    rcases c with c | ⟨r, c1, c2, c3⟩
    · unfold FR at a; omega
    · unfold FR at a c3; omega, p2⟩
theorem RM.act (h : RM μ A) {ν : MM} {B' : Bk} (b : MR ν 0 B') (hh : HM ν (hpush (aH A) (aB A))) (f : Fr (fun q i => FM q i ∨ FR 0 q i ∨ QM q i) μ ν) : RM ν (wAct A B') := by
  obtain ⟨h1, h2, ⟨h3, h4⟩, h5, h6, h7⟩ := h
  have nn : ∀ q i, ((q = 168 ∧ (i = 2 ∨ i = 5)) ∨ q = 169 ∨ q = 170) → ν.1 q i = μ.1 q i := fun q i a => (f q i (by
    rintro (c | c | c)
    · rcases c with c | ⟨r, c1, c2, c3⟩
      · omega
      · unfold FR at c3; omega
    · unfold FR at c; omega
    · unfold QM FR at c; omega)).1
  refine ⟨b, hh, ⟨?_, fun k hk => ?_⟩, ?_, ?_, ?_⟩
  · rw [nn _ _ (by omega)]; exact h3
  · rw [nn _ _ (by omega)]; exact h4 k hk
  · rw [nn _ _ (by omega)]; exact h5
  · rw [nn _ _ (by omega)]; exact h6
  · rw [nn _ _ (by omega)]; exact h7
end Mr
