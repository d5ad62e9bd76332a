/-! THE MODEL: laysFar to its end, laysWay, hasWay -/
section Lg
variable {μ : MM} {n m : Nat} {Wt Tt : Int32} {E : Nat → Nat → Bool} {M : Nat → Nat}
theorem MS.fl {ν : MM} (h : MS μ n m Wt Tt E M) (f : Fr Fl μ ν) : MS ν n m Wt Tt E M := h.fr f (fun i => by unfold Fl; omega) (fun i => by unfold Fl; omega) (fun i => by unfold Fl; omega)
theorem m_far_w {kE150 : Nat → Int32 → xH → Option xH} {P : xH → Prop} (hS : MS μ n m Wt Tt E M) (hO : SOK n m Wt E M) {m0 : Nat} {ν : MM} {K : Nat → Nat} {b : Bool} (h : SI μ ν E M K m0 b 0 0)
    (A : ∀ (ν : MM) (K : Nat → Nat) (b : Bool), SI μ ν E M K m0 b n 0 → Hw (kE150 168 (bI b) (mem ν)) P) : Hw (f_X10_laysFar_L32 kE150 5000 168 (bI b) (Int32.ofNat 0) (mem ν)) P := by
  have hn := hO.1
  refine hw_rec (L := fun i (s : Bool × (Nat → Nat) × Nat × MM) => f_X10_laysFar_L32 kE150 i 168 (bI s.1) (Int32.ofNat s.2.2.1) (mem s.2.2.2)) (I := fun k s => s.2.2.1 + k = n ∧ SI μ s.2.2.2 E M s.2.1 m0 s.1 s.2.2.1 0) ?_ n (b, K, 0, ν) ⟨by simp, h⟩ 5000 (by omega)
  rintro k ⟨b, K, w, ν⟩ i ⟨hk, hs⟩ ih
  simp only at hk hs ih
  have hS' := hS.fl hs.1
  have e0 := hS'.1.1
  have e3 := hS'.1.2.2.1
  by_cases c : w < n
  · cases e : hb Wt w with
    | false =>
      have := ih (k - 1) (b, K, w + 1, ν) (by omega) ⟨by show w + 1 + (k - 1) = n; omega, hs.1, hs.2.1, hs.2.2.1, hs.2.2.2.1, hs.2.2.2.2.1, fun z v s q e' m' => ?_⟩
      · show Hw (f_X10_laysFar_L32 kE150 (i + 1) 168 (bI b) (Int32.ofNat w) (mem ν)) P
        simp (disch := omega) only [f_X10_laysFar_L32, f_X10_laysFar_J153, f_X10_laysFar_J150, f_X10_laysFar_J144, f_X10_laysFar_J138, f_X10_laysFar_J112, f_X10_laysFar_J22, vc_168, gI_168_0, pI_168_0, gR_168_1, gI_168_2, pI_168_2, gI_168_3, pI_168_3, gI_168_4, pI_168_4, gI_168_5, pI_168_5, gI_168_6, pI_168_6, gI_168_7, pI_168_7, gR_168_8, gR_168_9, gR_168_10, gR_168_11, gR_168_12, gR_168_13, gI_168_14, pI_168_14, gI_168_15, pI_168_15, gI_168_16, pI_168_16, gR_168_17, gI_168_18, pI_168_18, gR_168_19, gI_168_20, pI_168_20, gI_168_21, pI_168_21, gI_168_22, pI_168_22, gI_168_23, pI_168_23, gR_168_24, gR_168_25, gI_168_26, pI_168_26, gI_168_27, pI_168_27, gR_168_28, gI_168_29, pI_168_29, gI_168_30, pI_168_30, gI_168_31, pI_168_31, gR_168_32, gR_168_33, gR_168_34, gR_168_35, gR_168_36, gR_168_37, gR_168_38, mr_h0, mr_f0, mr_m0, mr_w0, mr_c0, mc_c0, mc_a0, mc_s0, mh_a0_0, mh_s0_0, mh_a0_1, mh_s0_1, mh_a0_2, mh_s0_2, mh_a0_3, mh_s0_3, mh_a0_4, mh_s0_4, ma_f0, ms_f0, ma_m0, ms_m0, ma_w0, ms_w0, e0, m_isThere0, e3, e, lt, true_or, or_true, false_or, or_false, Option.bind_some, if_true, if_false, bI_0, bI_1, bI_z, eI_n1, eI_l0, eI_g12, oN_n1, oN_l0, oN_g0, n1_l0, n1_g12, n1_0, n1_n1, z_0, z_1, z_2, z_3, z_4, z_5, z_6, z_7, z_8, z_9, z_a, z_b, z_c, z_d, z_e, z_f, oN_inj, oN_lt, oN_gt, oN_ge, oN_le, i_succ, if_pos, if_neg, c_has, c_bit, Bool.true_eq_false, Bool.false_eq_true, decide_true, decide_false, decide_eq_true_eq, decide_eq_false_iff_not, eI_lt, lle_0, lge_0, llt_0, lgt_0, leq_0, lle_1, lge_1, llt_1, lgt_1, leq_1, lle_2, lge_2, llt_2, lgt_2, leq_2, lle_3, lge_3, llt_3, lgt_3, leq_3, lle_4, lge_4, llt_4, lgt_4, leq_4, lle_5, lge_5, llt_5, lgt_5, leq_5, lle_6, lge_6, llt_6, lgt_6, leq_6, lle_7, lge_7, llt_7, lgt_7, leq_7, lle_11, lge_11, llt_11, lgt_11, leq_11, lle_12, lge_12, llt_12, lgt_12, leq_12, lle_15, lge_15, llt_15, lgt_15, leq_15, lle_20, lge_20, llt_20, lgt_20, leq_20, lle_24, lge_24, llt_24, lgt_24, leq_24, lle_25, lge_25, llt_25, lgt_25, leq_25, lle_31, lge_31, llt_31, lgt_31, leq_31, lle_48, lge_48, llt_48, lgt_48, leq_48, lle_57, lge_57, llt_57, lgt_57, leq_57, lle_32, lge_32, llt_32, lgt_32, leq_32, lle_59, lge_59, llt_59, lgt_59, leq_59, lle_97, lge_97, llt_97, lgt_97, leq_97, lle_122, lge_122, llt_122, lgt_122, leq_122, lle_99, lge_99, llt_99, lgt_99, leq_99, lle_100, lge_100, llt_100, lgt_100, leq_100, lle_144, lge_144, llt_144, lgt_144, leq_144, lle_255, lge_255, llt_255, lgt_255, leq_255, lle_300, lge_300, llt_300, lgt_300, leq_300, lle_1000, lge_1000, llt_1000, lgt_1000, leq_1000, lle_1000000, lge_1000000, llt_1000000, lgt_1000000, leq_1000000, lle_4096, lge_4096, llt_4096, lgt_4096, leq_4096, b_ft]
        exact this
      · by_cases y : v = w
        · have := (hO.2.2.1 v s e').2.2
          rw [y, e] at this; cases this
        · exact hs.2.2.2.2.2 z v s (by have q : v < w + 1 ∨ v = w + 1 ∧ s < 0 := q; omega) e' m'
    | true =>
      have := m_far_t (kE144 := f_X10_laysFar_J144 (f_X10_laysFar_L32 kE150 i) kE150) (P := P) hO.Eb hO.2.1 hS (fun w t q => (hO.2.2.1 w t q).2.1) (w := w) (m0 := m0) (by omega) e hs (fun ν' K' b' h' => by
        simp only [f_X10_laysFar_J144, lt, i_succ]
        exact ih (k - 1) (b', K', w + 1, ν') (by omega) ⟨by show w + 1 + (k - 1) = n; omega, h'⟩)
      show Hw (f_X10_laysFar_L32 kE150 (i + 1) 168 (bI b) (Int32.ofNat w) (mem ν)) P
      simp (disch := omega) only [f_X10_laysFar_L32, vc_168, gI_168_0, pI_168_0, gR_168_1, gI_168_2, pI_168_2, gI_168_3, pI_168_3, gI_168_4, pI_168_4, gI_168_5, pI_168_5, gI_168_6, pI_168_6, gI_168_7, pI_168_7, gR_168_8, gR_168_9, gR_168_10, gR_168_11, gR_168_12, gR_168_13, gI_168_14, pI_168_14, gI_168_15, pI_168_15, gI_168_16, pI_168_16, gR_168_17, gI_168_18, pI_168_18, gR_168_19, gI_168_20, pI_168_20, gI_168_21, pI_168_21, gI_168_22, pI_168_22, gI_168_23, pI_168_23, gR_168_24, gR_168_25, gI_168_26, pI_168_26, gI_168_27, pI_168_27, gR_168_28, gI_168_29, pI_168_29, gI_168_30, pI_168_30, gI_168_31, pI_168_31, gR_168_32, gR_168_33, gR_168_34, gR_168_35, gR_168_36, gR_168_37, gR_168_38, mr_h0, mr_f0, mr_m0, mr_w0, mr_c0, mc_c0, mc_a0, mc_s0, mh_a0_0, mh_s0_0, mh_a0_1, mh_s0_1, mh_a0_2, mh_s0_2, mh_a0_3, mh_s0_3, mh_a0_4, mh_s0_4, ma_f0, ms_f0, ma_m0, ms_m0, ma_w0, ms_w0, e0, m_isThere0, e3, e, lt, true_or, or_true, false_or, or_false, Option.bind_some, if_true, if_false, bI_0, bI_1, bI_z, eI_n1, eI_l0, eI_g12, oN_n1, oN_l0, oN_g0, n1_l0, n1_g12, n1_0, n1_n1, z_0, z_1, z_2, z_3, z_4, z_5, z_6, z_7, z_8, z_9, z_a, z_b, z_c, z_d, z_e, z_f, oN_inj, oN_lt, oN_gt, oN_ge, oN_le, i_succ, if_pos, if_neg, c_has, c_bit, Bool.true_eq_false, Bool.false_eq_true, decide_true, decide_false, decide_eq_true_eq, decide_eq_false_iff_not, eI_lt, lle_0, lge_0, llt_0, lgt_0, leq_0, lle_1, lge_1, llt_1, lgt_1, leq_1, lle_2, lge_2, llt_2, lgt_2, leq_2, lle_3, lge_3, llt_3, lgt_3, leq_3, lle_4, lge_4, llt_4, lgt_4, leq_4, lle_5, lge_5, llt_5, lgt_5, leq_5, lle_6, lge_6, llt_6, lgt_6, leq_6, lle_7, lge_7, llt_7, lgt_7, leq_7, lle_11, lge_11, llt_11, lgt_11, leq_11, lle_12, lge_12, llt_12, lgt_12, leq_12, lle_15, lge_15, llt_15, lgt_15, leq_15, lle_20, lge_20, llt_20, lgt_20, leq_20, lle_24, lge_24, llt_24, lgt_24, leq_24, lle_25, lge_25, llt_25, lgt_25, leq_25, lle_31, lge_31, llt_31, lgt_31, leq_31, lle_48, lge_48, llt_48, lgt_48, leq_48, lle_57, lge_57, llt_57, lgt_57, leq_57, lle_32, lge_32, llt_32, lgt_32, leq_32, lle_59, lge_59, llt_59, lgt_59, leq_59, lle_97, lge_97, llt_97, lgt_97, leq_97, lle_122, lge_122, llt_122, lgt_122, leq_122, lle_99, lge_99, llt_99, lgt_99, leq_99, lle_100, lge_100, llt_100, lgt_100, leq_100, lle_144, lge_144, llt_144, lgt_144, leq_144, lle_255, lge_255, llt_255, lgt_255, leq_255, lle_300, lge_300, llt_300, lgt_300, leq_300, lle_1000, lge_1000, llt_1000, lgt_1000, leq_1000, lle_1000000, lge_1000000, llt_1000000, lgt_1000000, leq_1000000, lle_4096, lge_4096, llt_4096, lgt_4096, leq_4096, b_ft]
      exact this
  · have hw : w = n := by omega
    subst hw
    show Hw (f_X10_laysFar_L32 kE150 (i + 1) 168 (bI b) (Int32.ofNat w) (mem ν)) P
    simp (disch := omega) only [f_X10_laysFar_L32, vc_168, gI_168_0, pI_168_0, gR_168_1, gI_168_2, pI_168_2, gI_168_3, pI_168_3, gI_168_4, pI_168_4, gI_168_5, pI_168_5, gI_168_6, pI_168_6, gI_168_7, pI_168_7, gR_168_8, gR_168_9, gR_168_10, gR_168_11, gR_168_12, gR_168_13, gI_168_14, pI_168_14, gI_168_15, pI_168_15, gI_168_16, pI_168_16, gR_168_17, gI_168_18, pI_168_18, gR_168_19, gI_168_20, pI_168_20, gI_168_21, pI_168_21, gI_168_22, pI_168_22, gI_168_23, pI_168_23, gR_168_24, gR_168_25, gI_168_26, pI_168_26, gI_168_27, pI_168_27, gR_168_28, gI_168_29, pI_168_29, gI_168_30, pI_168_30, gI_168_31, pI_168_31, gR_168_32, gR_168_33, gR_168_34, gR_168_35, gR_168_36, gR_168_37, gR_168_38, mr_h0, mr_f0, mr_m0, mr_w0, mr_c0, mc_c0, mc_a0, mc_s0, mh_a0_0, mh_s0_0, mh_a0_1, mh_s0_1, mh_a0_2, mh_s0_2, mh_a0_3, mh_s0_3, mh_a0_4, mh_s0_4, ma_f0, ms_f0, ma_m0, ms_m0, ma_w0, ms_w0, e0, lt, true_or, or_true, false_or, or_false, Option.bind_some, if_true, if_false, bI_0, bI_1, bI_z, eI_n1, eI_l0, eI_g12, oN_n1, oN_l0, oN_g0, n1_l0, n1_g12, n1_0, n1_n1, z_0, z_1, z_2, z_3, z_4, z_5, z_6, z_7, z_8, z_9, z_a, z_b, z_c, z_d, z_e, z_f, oN_inj, oN_lt, oN_gt, oN_ge, oN_le, i_succ, if_pos, if_neg, c_has, c_bit, Bool.true_eq_false, Bool.false_eq_true, decide_true, decide_false, decide_eq_true_eq, decide_eq_false_iff_not, eI_lt, lle_0, lge_0, llt_0, lgt_0, leq_0, lle_1, lge_1, llt_1, lgt_1, leq_1, lle_2, lge_2, llt_2, lgt_2, leq_2, lle_3, lge_3, llt_3, lgt_3, leq_3, lle_4, lge_4, llt_4, lgt_4, leq_4, lle_5, lge_5, llt_5, lgt_5, leq_5, lle_6, lge_6, llt_6, lgt_6, leq_6, lle_7, lge_7, llt_7, lgt_7, leq_7, lle_11, lge_11, llt_11, lgt_11, leq_11, lle_12, lge_12, llt_12, lgt_12, leq_12, lle_15, lge_15, llt_15, lgt_15, leq_15, lle_20, lge_20, llt_20, lgt_20, leq_20, lle_24, lge_24, llt_24, lgt_24, leq_24, lle_25, lge_25, llt_25, lgt_25, leq_25, lle_31, lge_31, llt_31, lgt_31, leq_31, lle_48, lge_48, llt_48, lgt_48, leq_48, lle_57, lge_57, llt_57, lgt_57, leq_57, lle_32, lge_32, llt_32, lgt_32, leq_32, lle_59, lge_59, llt_59, lgt_59, leq_59, lle_97, lge_97, llt_97, lgt_97, leq_97, lle_122, lge_122, llt_122, lgt_122, leq_122, lle_99, lge_99, llt_99, lgt_99, leq_99, lle_100, lge_100, llt_100, lgt_100, leq_100, lle_144, lge_144, llt_144, lgt_144, leq_144, lle_255, lge_255, llt_255, lgt_255, leq_255, lle_300, lge_300, llt_300, lgt_300, leq_300, lle_1000, lge_1000, llt_1000, lgt_1000, leq_1000, lle_1000000, lge_1000000, llt_1000000, lgt_1000000, leq_1000000, lle_4096, lge_4096, llt_4096, lgt_4096, leq_4096, b_ft]
    exact A ν K b hs
theorem m_laysFar (hS : MS μ n m Wt Tt E M) (hO : SOK n m Wt E M) : ∃ ν K, f_X10_laysFar 168 (mem μ) = some (mem ν) ∧ Fr Fl μ ν ∧ (∀ v, v < 12 → ν.1 482 v = Int32.ofNat (fK (K v))) ∧ (∀ v, v < 12 → K v ≤ 12) ∧ Kx E M K := by
  have key : Hw (f_X10_laysFar 168 (mem μ)) (fun r => ∃ ν K, r = mem ν ∧ Fr Fl μ ν ∧ (∀ v, v < 12 → ν.1 482 v = Int32.ofNat (fK (K v))) ∧ (∀ v, v < 12 → K v ≤ 12) ∧ Kx E M K) := by
    refine hw_for (L := fun i w (ν : MM) => f_X10_laysFar_L2 f_X10_laysFar_J22 i 168 w (mem ν)) (s0 := μ) 12 (fun w ν => Fr Fl μ ν ∧ ∀ v, v < w → ν.1 482 v = Int32.ofNat (fK 0)) ⟨Fr.refl _ _, fun v hv => absurd hv (Nat.not_lt_zero _)⟩ (by decide) (fun w hw ν hs => Or.inl ?_) (fun ν hs i => ?_)
    · refine ⟨st ν 482 w 1000000, ⟨hs.1.st rfl, fun v hv => ?_⟩, fun i => ?_⟩
      · by_cases z : v = w
        · rw [z, st_same, fK_0]; rfl
        · rw [st_ne (Or.inr z)]; exact hs.2 v (by omega)
      · simp (disch := omega) only [f_X10_laysFar_L2, vc_168, gI_168_0, pI_168_0, gR_168_1, gI_168_2, pI_168_2, gI_168_3, pI_168_3, gI_168_4, pI_168_4, gI_168_5, pI_168_5, gI_168_6, pI_168_6, gI_168_7, pI_168_7, gR_168_8, gR_168_9, gR_168_10, gR_168_11, gR_168_12, gR_168_13, gI_168_14, pI_168_14, gI_168_15, pI_168_15, gI_168_16, pI_168_16, gR_168_17, gI_168_18, pI_168_18, gR_168_19, gI_168_20, pI_168_20, gI_168_21, pI_168_21, gI_168_22, pI_168_22, gI_168_23, pI_168_23, gR_168_24, gR_168_25, gI_168_26, pI_168_26, gI_168_27, pI_168_27, gR_168_28, gI_168_29, pI_168_29, gI_168_30, pI_168_30, gI_168_31, pI_168_31, gR_168_32, gR_168_33, gR_168_34, gR_168_35, gR_168_36, gR_168_37, gR_168_38, aI_482, sI_482, lt, true_or, or_true, false_or, or_false, Option.bind_some, if_true, if_false, bI_0, bI_1, bI_z, eI_n1, eI_l0, eI_g12, oN_n1, oN_l0, oN_g0, n1_l0, n1_g12, n1_0, n1_n1, z_0, z_1, z_2, z_3, z_4, z_5, z_6, z_7, z_8, z_9, z_a, z_b, z_c, z_d, z_e, z_f, oN_inj, oN_lt, oN_gt, oN_ge, oN_le, i_succ, if_pos, if_neg, c_has, c_bit, Bool.true_eq_false, Bool.false_eq_true, decide_true, decide_false, decide_eq_true_eq, decide_eq_false_iff_not, eI_lt, lle_0, lge_0, llt_0, lgt_0, leq_0, lle_1, lge_1, llt_1, lgt_1, leq_1, lle_2, lge_2, llt_2, lgt_2, leq_2, lle_3, lge_3, llt_3, lgt_3, leq_3, lle_4, lge_4, llt_4, lgt_4, leq_4, lle_5, lge_5, llt_5, lgt_5, leq_5, lle_6, lge_6, llt_6, lgt_6, leq_6, lle_7, lge_7, llt_7, lgt_7, leq_7, lle_11, lge_11, llt_11, lgt_11, leq_11, lle_12, lge_12, llt_12, lgt_12, leq_12, lle_15, lge_15, llt_15, lgt_15, leq_15, lle_20, lge_20, llt_20, lgt_20, leq_20, lle_24, lge_24, llt_24, lgt_24, leq_24, lle_25, lge_25, llt_25, lgt_25, leq_25, lle_31, lge_31, llt_31, lgt_31, leq_31, lle_48, lge_48, llt_48, lgt_48, leq_48, lle_57, lge_57, llt_57, lgt_57, leq_57, lle_32, lge_32, llt_32, lgt_32, leq_32, lle_59, lge_59, llt_59, lgt_59, leq_59, lle_97, lge_97, llt_97, lgt_97, leq_97, lle_122, lge_122, llt_122, lgt_122, leq_122, lle_99, lge_99, llt_99, lgt_99, leq_99, lle_100, lge_100, llt_100, lgt_100, leq_100, lle_144, lge_144, llt_144, lgt_144, leq_144, lle_255, lge_255, llt_255, lgt_255, leq_255, lle_300, lge_300, llt_300, lgt_300, leq_300, lle_1000, lge_1000, llt_1000, lgt_1000, leq_1000, lle_1000000, lge_1000000, llt_1000000, lgt_1000000, leq_1000000, lle_4096, lge_4096, llt_4096, lgt_4096, leq_4096, b_ft]
    · obtain ⟨h1, h2⟩ := hs
      simp (disch := omega) only [f_X10_laysFar_L2, f_X10_laysFar_J22, lt, true_or, or_true, false_or, or_false, Option.bind_some, if_true, if_false, bI_0, bI_1, bI_z, eI_n1, eI_l0, eI_g12, oN_n1, oN_l0, oN_g0, n1_l0, n1_g12, n1_0, n1_n1, z_0, z_1, z_2, z_3, z_4, z_5, z_6, z_7, z_8, z_9, z_a, z_b, z_c, z_d, z_e, z_f, oN_inj, oN_lt, oN_gt, oN_ge, oN_le, i_succ, if_pos, if_neg, c_has, c_bit, Bool.true_eq_false, Bool.false_eq_true, decide_true, decide_false, decide_eq_true_eq, decide_eq_false_iff_not, eI_lt, lle_0, lge_0, llt_0, lgt_0, leq_0, lle_1, lge_1, llt_1, lgt_1, leq_1, lle_2, lge_2, llt_2, lgt_2, leq_2, lle_3, lge_3, llt_3, lgt_3, leq_3, lle_4, lge_4, llt_4, lgt_4, leq_4, lle_5, lge_5, llt_5, lgt_5, leq_5, lle_6, lge_6, llt_6, lgt_6, leq_6, lle_7, lge_7, llt_7, lgt_7, leq_7, lle_11, lge_11, llt_11, lgt_11, leq_11, lle_12, lge_12, llt_12, lgt_12, leq_12, lle_15, lge_15, llt_15, lgt_15, leq_15, lle_20, lge_20, llt_20, lgt_20, leq_20, lle_24, lge_24, llt_24, lgt_24, leq_24, lle_25, lge_25, llt_25, lgt_25, leq_25, lle_31, lge_31, llt_31, lgt_31, leq_31, lle_48, lge_48, llt_48, lgt_48, leq_48, lle_57, lge_57, llt_57, lgt_57, leq_57, lle_32, lge_32, llt_32, lgt_32, leq_32, lle_59, lge_59, llt_59, lgt_59, leq_59, lle_97, lge_97, llt_97, lgt_97, leq_97, lle_122, lge_122, llt_122, lgt_122, leq_122, lle_99, lge_99, llt_99, lgt_99, leq_99, lle_100, lge_100, llt_100, lgt_100, leq_100, lle_144, lge_144, llt_144, lgt_144, leq_144, lle_255, lge_255, llt_255, lgt_255, leq_255, lle_300, lge_300, llt_300, lgt_300, leq_300, lle_1000, lge_1000, llt_1000, lgt_1000, leq_1000, lle_1000000, lge_1000000, llt_1000000, lgt_1000000, leq_1000000, lle_4096, lge_4096, llt_4096, lgt_4096, leq_4096, b_ft]
      have k0 : KJ E M (fun _ => 0) := ⟨fun w _ q => absurd rfl q, fun w _ => Nat.zero_le _⟩
      refine hw_rec (L := fun i (s : Int32 × MM) => f_X10_laysFar_L24 f_X10_laysFar_J153 i 168 s.1 (mem s.2)) (I := fun k s => ∃ K, Fr Fl μ s.2 ∧ (∀ v, v < 12 → s.2.1 482 v = Int32.ofNat (fK (K v))) ∧ KJ E M K ∧ ((s.1 = 1 ∧ k = mK K + 1) ∨ (s.1 = 0 ∧ ∀ w t, E w t = true → M w ≠ t → ¬ bet (nx M K t) (K w)))) ?_ (mK (fun _ => 0) + 1) (1, ν) ⟨fun _ => 0, h1, h2, k0, Or.inl ⟨rfl, rfl⟩⟩ 5000 (by decide)
      rintro k ⟨x, ν⟩ i ⟨K, a1, a2, a3, a4⟩ ih
      simp only at a1 a2 a4 ih
      rcases a4 with ⟨b1, b2⟩ | ⟨b1, b2⟩
      · subst b1
        have := m_far_w (kE150 := f_X10_laysFar_J150 (f_X10_laysFar_L24 f_X10_laysFar_J153 i) f_X10_laysFar_J153) (P := fun r => ∃ ν K, r = mem ν ∧ Fr Fl μ ν ∧ (∀ v, v < 12 → ν.1 482 v = Int32.ofNat (fK (K v))) ∧ (∀ v, v < 12 → K v ≤ 12) ∧ Kx E M K) hS hO (m0 := mK K) (b := false) (K := K) (ν := ν) ⟨a1, a2, a3, Nat.le_refl _, fun z => (nomatch z), fun _ v s q => by omega⟩ (fun ν' K' b' h' => by
          simp only [f_X10_laysFar_J150]
          obtain ⟨c1, c2, c3, c4, c5, c6⟩ := h'
          cases b' with
          | true => exact ih (mK K' + 1) (1, ν') (by have := c5 rfl; omega) ⟨K', c1, c2, c3, Or.inl ⟨rfl, rfl⟩⟩
          | false => exact ih 0 (0, ν') (by omega) ⟨K', c1, c2, c3, Or.inr ⟨rfl, fun w t e m => c6 rfl w t (Or.inl (hO.2.2.1 w t e).1) e m⟩⟩)
        show Hw (f_X10_laysFar_L24 f_X10_laysFar_J153 (i + 1) 168 1 (mem ν)) _
        simp (disch := omega) only [f_X10_laysFar_L24, lt, true_or, or_true, false_or, or_false, Option.bind_some, if_true, if_false, bI_0, bI_1, bI_z, eI_n1, eI_l0, eI_g12, oN_n1, oN_l0, oN_g0, n1_l0, n1_g12, n1_0, n1_n1, z_0, z_1, z_2, z_3, z_4, z_5, z_6, z_7, z_8, z_9, z_a, z_b, z_c, z_d, z_e, z_f, oN_inj, oN_lt, oN_gt, oN_ge, oN_le, i_succ, if_pos, if_neg, c_has, c_bit, Bool.true_eq_false, Bool.false_eq_true, decide_true, decide_false, decide_eq_true_eq, decide_eq_false_iff_not, eI_lt, lle_0, lge_0, llt_0, lgt_0, leq_0, lle_1, lge_1, llt_1, lgt_1, leq_1, lle_2, lge_2, llt_2, lgt_2, leq_2, lle_3, lge_3, llt_3, lgt_3, leq_3, lle_4, lge_4, llt_4, lgt_4, leq_4, lle_5, lge_5, llt_5, lgt_5, leq_5, lle_6, lge_6, llt_6, lgt_6, leq_6, lle_7, lge_7, llt_7, lgt_7, leq_7, lle_11, lge_11, llt_11, lgt_11, leq_11, lle_12, lge_12, llt_12, lgt_12, leq_12, lle_15, lge_15, llt_15, lgt_15, leq_15, lle_20, lge_20, llt_20, lgt_20, leq_20, lle_24, lge_24, llt_24, lgt_24, leq_24, lle_25, lge_25, llt_25, lgt_25, leq_25, lle_31, lge_31, llt_31, lgt_31, leq_31, lle_48, lge_48, llt_48, lgt_48, leq_48, lle_57, lge_57, llt_57, lgt_57, leq_57, lle_32, lge_32, llt_32, lgt_32, leq_32, lle_59, lge_59, llt_59, lgt_59, leq_59, lle_97, lge_97, llt_97, lgt_97, leq_97, lle_122, lge_122, llt_122, lgt_122, leq_122, lle_99, lge_99, llt_99, lgt_99, leq_99, lle_100, lge_100, llt_100, lgt_100, leq_100, lle_144, lge_144, llt_144, lgt_144, leq_144, lle_255, lge_255, llt_255, lgt_255, leq_255, lle_300, lge_300, llt_300, lgt_300, leq_300, lle_1000, lge_1000, llt_1000, lgt_1000, leq_1000, lle_1000000, lge_1000000, llt_1000000, lgt_1000000, leq_1000000, lle_4096, lge_4096, llt_4096, lgt_4096, leq_4096, b_ft]
        exact this
      · subst b1
        show Hw (f_X10_laysFar_L24 f_X10_laysFar_J153 (i + 1) 168 0 (mem ν)) _
        simp (disch := omega) only [f_X10_laysFar_L24, f_X10_laysFar_J153, f_X10_laysFar_J150, f_X10_laysFar_J144, f_X10_laysFar_J138, f_X10_laysFar_J112, f_X10_laysFar_J22, lt, true_or, or_true, false_or, or_false, Option.bind_some, if_true, if_false, bI_0, bI_1, bI_z, eI_n1, eI_l0, eI_g12, oN_n1, oN_l0, oN_g0, n1_l0, n1_g12, n1_0, n1_n1, z_0, z_1, z_2, z_3, z_4, z_5, z_6, z_7, z_8, z_9, z_a, z_b, z_c, z_d, z_e, z_f, oN_inj, oN_lt, oN_gt, oN_ge, oN_le, i_succ, if_pos, if_neg, c_has, c_bit, Bool.true_eq_false, Bool.false_eq_true, decide_true, decide_false, decide_eq_true_eq, decide_eq_false_iff_not, eI_lt, lle_0, lge_0, llt_0, lgt_0, leq_0, lle_1, lge_1, llt_1, lgt_1, leq_1, lle_2, lge_2, llt_2, lgt_2, leq_2, lle_3, lge_3, llt_3, lgt_3, leq_3, lle_4, lge_4, llt_4, lgt_4, leq_4, lle_5, lge_5, llt_5, lgt_5, leq_5, lle_6, lge_6, llt_6, lgt_6, leq_6, lle_7, lge_7, llt_7, lgt_7, leq_7, lle_11, lge_11, llt_11, lgt_11, leq_11, lle_12, lge_12, llt_12, lgt_12, leq_12, lle_15, lge_15, llt_15, lgt_15, leq_15, lle_20, lge_20, llt_20, lgt_20, leq_20, lle_24, lge_24, llt_24, lgt_24, leq_24, lle_25, lge_25, llt_25, lgt_25, leq_25, lle_31, lge_31, llt_31, lgt_31, leq_31, lle_48, lge_48, llt_48, lgt_48, leq_48, lle_57, lge_57, llt_57, lgt_57, leq_57, lle_32, lge_32, llt_32, lgt_32, leq_32, lle_59, lge_59, llt_59, lgt_59, leq_59, lle_97, lge_97, llt_97, lgt_97, leq_97, lle_122, lge_122, llt_122, lgt_122, leq_122, lle_99, lge_99, llt_99, lgt_99, leq_99, lle_100, lge_100, llt_100, lgt_100, leq_100, lle_144, lge_144, llt_144, lgt_144, leq_144, lle_255, lge_255, llt_255, lgt_255, leq_255, lle_300, lge_300, llt_300, lgt_300, leq_300, lle_1000, lge_1000, llt_1000, lgt_1000, leq_1000, lle_1000000, lge_1000000, llt_1000000, lgt_1000000, leq_1000000, lle_4096, lge_4096, llt_4096, lgt_4096, leq_4096, b_ft]
        exact hw_ret ⟨ν, K, rfl, a1, a2, fun v hv => a3.le hv, Kx.of a3 hO.Eb b2⟩
  obtain ⟨r, e, ν, K, rfl, h⟩ := key
  exact ⟨ν, K, e, h⟩
end Lg
/-! exact labels and the shortest way -/
section Kp
variable {E : Nat → Nat → Bool} {M K : Nat → Nat}
theorem Kx.stp (h : Kx E M K) (hb : Eb E) {w t k : Nat} (he : E w t = true) (hm : M w ≠ t) (hk : K w = k) (h0 : k ≠ 0) : stp E M k t ↔ nx M K t = k := by
  have hw := (hb w t he).1
  have ht := (hb w t he).2
  have hol := ow_le M t
  obtain ⟨r1, r2⟩ := (h w hw).2 (by omega)
  rw [hk] at r1 r2
  constructor
  · rintro (o | o)
    · rw [nx_1 o]
      apply Classical.byContradiction
      intro z
      exact r2 (rch_le (a := 1) (by omega) ⟨t, ht, he, hm, Or.inl o⟩)
    · have o12 : ow M t < 12 := rch_12 hb o
      have kne : K (ow M t) ≠ 0 := fun z => (h _ o12).1 z _ o
      obtain ⟨q1, q2⟩ := (h _ o12).2 kne
      rw [nx_s (by omega) kne]
      have l1 : K (ow M t) ≤ k - 1 := by
        apply Nat.le_of_not_lt
        intro z
        exact q2 (rch_le (by omega) o)
      apply Classical.byContradiction
      intro z
      refine r2 (rch_le (a := K (ow M t) + 1) (by omega) ?_)
      obtain ⟨a, ha⟩ : ∃ a, a = K (ow M t) := ⟨_, rfl⟩
      rw [← ha] at q1 ⊢
      exact ⟨t, ht, he, hm, Or.inr q1⟩
  · intro z
    by_cases o : ow M t = 12
    · exact Or.inl o
    · by_cases d : K (ow M t) = 0
      · rw [nx_0 o d] at z; omega
      · rw [nx_s o d] at z
        obtain ⟨q1, -⟩ := (h _ (show ow M t < 12 by omega)).2 d
        have : k - 1 = K (ow M t) := by omega
        right
        rw [this]
        exact q1
theorem Kx.ex (h : Kx E M K) (hb : Eb E) {w : Nat} (hw : w < 12) (hk : K w ≠ 0) : ∃ t, E w t = true ∧ M w ≠ t ∧ nx M K t = K w := by
  obtain ⟨r1, r2⟩ := (h w hw).2 hk
  obtain ⟨k, hk2⟩ : ∃ k, K w = k + 1 := ⟨K w - 1, by omega⟩
  have r1' := r1
  rw [hk2] at r1'
  obtain ⟨t, t1, t2, t3, t4⟩ := r1'
  refine ⟨t, t2, t3, (h.stp hb t2 t3 rfl hk).mp ?_⟩
  rw [hk2]
  exact t4
end Kp
