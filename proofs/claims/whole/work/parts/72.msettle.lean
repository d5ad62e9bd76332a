/-! THE MODEL: laysWay, hasWay, doesWay, settles -/
def Fw (q i : Nat) : Prop := q = 483 ∨ (q = 168 ∧ i = 18)
def Fh (q i : Nat) : Prop := q = 482 ∨ q = 483 ∨ (q = 168 ∧ i = 18)
theorem c168_18 {μ : MM} {v : Int32} : (st μ 168 18 v).1 168 18 = v := st_same _ _ _ _
section Lw
variable {μ : MM} {n m : Nat} {Wt Tt : Int32} {E : Nat → Nat → Bool} {M : Nat → Nat}
theorem MS.fh {ν : MM} (h : MS μ n m Wt Tt E M) (f : Fr Fh μ ν) : MS ν n m Wt Tt E M := h.fr f (fun i => by unfold Fh; omega) (fun i => by unfold Fh; omega) (fun i => by unfold Fh; omega)
theorem MS.fw {ν : MM} (h : MS μ n m Wt Tt E M) (f : Fr Fw μ ν) : MS ν n m Wt Tt E M := h.fr f (fun i => by unfold Fw; omega) (fun i => by unfold Fw; omega) (fun i => by unfold Fw; omega)
/-- the first task of a worker that brings it to its label -/
theorem m_way_t {K : Nat → Nat} {kE68 : Nat → Int32 → Int32 → xH → Option xH} (hS : MS μ n m Wt Tt E M) (hO : SOK n m Wt E M) (h2 : ∀ v, v < 12 → μ.1 482 v = Int32.ofNat (fK (K v))) (h3 : ∀ v, v < 12 → K v ≤ 12) (hK : Kx E M K) {w : Nat} (hw : w < 12) (hk : K w ≠ 0) {P : xH → Prop}
    (A : ∀ t, E w t = true → M w ≠ t → nx M K t = K w → (∀ s, s < t → E w s = true → M w ≠ s → nx M K s ≠ K w) → Hw (kE68 168 (Int32.ofNat w) (Int32.ofNat t) (mem μ)) P) : Hw (f_X10_laysWay_L14 kE68 5000 168 (Int32.ofNat w) (Int32.ofNat 0) (mem μ)) P := by
  have hE := hO.Eb
  obtain ⟨t0, e0, m0, n0⟩ := hK.ex hE hw hk
  have t12 := (hE _ _ e0).2
  have wt : hb Wt w = true := (hO.2.2.1 _ _ e0).2.2
  obtain ⟨x, ex, hx⟩ := m_openTo hE hS hw wt
  refine hw_loop (L := fun i (s : Nat) => f_X10_laysWay_L14 kE68 i 168 (Int32.ofNat w) (Int32.ofNat s) (mem μ)) (I := fun k t => t + k = 12 ∧ ∀ s, s < t → E w s = true → M w ≠ s → nx M K s ≠ K w) ?_ 12 0 ⟨rfl, fun s hs => absurd hs (Nat.not_lt_zero _)⟩ 5000 (by omega)
  rintro k t ⟨hk2, hs⟩
  have ht : t < 12 := by
    apply Nat.lt_of_not_le
    intro z
    exact hs t0 (by omega) e0 m0 n0
  have hxt := hx t (by omega)
  by_cases c : E w t = true ∧ M w ≠ t
  · have hxt : hb x t = true := by rw [hxt, c.1, decide_eq_true c.2]; rfl
    have hp := m_partner1 hS (t := t) ht
    have hol := ow_le M t
    have kw := h3 w hw
    have vw := h2 w hw
    have ng : nx M K t ≤ 13 := by
      by_cases o : ow M t = 12
      · rw [nx_1 o]; omega
      · by_cases d : K (ow M t) = 0
        · rw [nx_0 o d]; omega
        · rw [nx_s o d]
          have := h3 (ow M t) (by omega)
          omega
    have l1 := gK_lt _ ng
    have l2 := fK_lt _ (show K w ≤ 13 by omega)
    have eq : gK (nx M K t) = fK (K w) ↔ nx M K t = K w := by
      rw [fK_s hk]
      by_cases z : nx M K t = 0
      · rw [z, gK_0]; omega
      · rw [gK_s z]; omega
    have go : ∀ i, f_X10_laysWay_L14 kE68 (i + 1) 168 (Int32.ofNat w) (Int32.ofNat t) (mem μ) = f_X10_laysWay_J53 (f_X10_laysWay_L14 kE68 i) kE68 168 (Int32.ofNat w) (Int32.ofNat t) (Int32.ofNat (gK (nx M K t))) (mem μ) := fun i => by
      by_cases o : ow M t < 12
      · have vo := h2 (ow M t) o
        have e2 : Int32.ofNat (fK (K (ow M t))) + (2 : Int32) = Int32.ofNat (gK (nx M K t)) := by
          rw [show (2 : Int32) = Int32.ofNat 2 from rfl, oN_add, fK_nx (show ow M t ≠ 12 by omega)]
        simp (disch := omega) only [f_X10_laysWay_L14, vc_168, gI_168_0, pI_168_0, gR_168_1, gI_168_2, pI_168_2, gI_168_3, pI_168_3, gI_168_4, pI_168_4, gI_168_5, pI_168_5, gI_168_6, pI_168_6, gI_168_7, pI_168_7, gR_168_8, gR_168_9, gR_168_10, gR_168_11, gR_168_12, gR_168_13, gI_168_14, pI_168_14, gI_168_15, pI_168_15, gI_168_16, pI_168_16, gR_168_17, gI_168_18, pI_168_18, gR_168_19, gI_168_20, pI_168_20, gI_168_21, pI_168_21, gI_168_22, pI_168_22, gI_168_23, pI_168_23, gR_168_24, gR_168_25, gI_168_26, pI_168_26, gI_168_27, pI_168_27, gR_168_28, gI_168_29, pI_168_29, gI_168_30, pI_168_30, gI_168_31, pI_168_31, gR_168_32, gR_168_33, gR_168_34, gR_168_35, gR_168_36, gR_168_37, gR_168_38, mr_h0, mr_f0, mr_m0, mr_w0, mr_c0, mc_c0, mc_a0, mc_s0, mh_a0_0, mh_s0_0, mh_a0_1, mh_s0_1, mh_a0_2, mh_s0_2, mh_a0_3, mh_s0_3, mh_a0_4, mh_s0_4, ma_f0, ms_f0, ma_m0, ms_m0, ma_w0, ms_w0, aI_482, sI_482, m_has, ex, hxt, hp, vo, e2, lt, true_or, or_true, false_or, or_false, Option.bind_some, if_true, if_false, bI_0, bI_1, bI_z, eI_n1, eI_l0, eI_g12, oN_n1, oN_l0, oN_g0, n1_l0, n1_g12, n1_0, n1_n1, z_0, z_1, z_2, z_3, z_4, z_5, z_6, z_7, z_8, z_9, z_a, z_b, z_c, z_d, z_e, z_f, oN_inj, oN_lt, oN_gt, oN_ge, oN_le, i_succ, if_pos, if_neg, c_has, c_bit, Bool.true_eq_false, Bool.false_eq_true, decide_true, decide_false, decide_eq_true_eq, decide_eq_false_iff_not, eI_lt, lle_0, lge_0, llt_0, lgt_0, leq_0, lle_1, lge_1, llt_1, lgt_1, leq_1, lle_2, lge_2, llt_2, lgt_2, leq_2, lle_3, lge_3, llt_3, lgt_3, leq_3, lle_4, lge_4, llt_4, lgt_4, leq_4, lle_5, lge_5, llt_5, lgt_5, leq_5, lle_6, lge_6, llt_6, lgt_6, leq_6, lle_7, lge_7, llt_7, lgt_7, leq_7, lle_11, lge_11, llt_11, lgt_11, leq_11, lle_12, lge_12, llt_12, lgt_12, leq_12, lle_15, lge_15, llt_15, lgt_15, leq_15, lle_20, lge_20, llt_20, lgt_20, leq_20, lle_24, lge_24, llt_24, lgt_24, leq_24, lle_25, lge_25, llt_25, lgt_25, leq_25, lle_31, lge_31, llt_31, lgt_31, leq_31, lle_48, lge_48, llt_48, lgt_48, leq_48, lle_57, lge_57, llt_57, lgt_57, leq_57, lle_32, lge_32, llt_32, lgt_32, leq_32, lle_59, lge_59, llt_59, lgt_59, leq_59, lle_97, lge_97, llt_97, lgt_97, leq_97, lle_122, lge_122, llt_122, lgt_122, leq_122, lle_99, lge_99, llt_99, lgt_99, leq_99, lle_100, lge_100, llt_100, lgt_100, leq_100, lle_144, lge_144, llt_144, lgt_144, leq_144, lle_255, lge_255, llt_255, lgt_255, leq_255, lle_300, lge_300, llt_300, lgt_300, leq_300, lle_1000, lge_1000, llt_1000, lgt_1000, leq_1000, lle_1000000, lge_1000000, llt_1000000, lgt_1000000, leq_1000000, lle_4096, lge_4096, llt_4096, lgt_4096, leq_4096, b_ft]
      · have e2 : (1 : Int32) = Int32.ofNat (gK (nx M K t)) := by
          rw [nx_1 (show ow M t = 12 by omega), gK_s (by omega)]; rfl
        simp (disch := omega) only [f_X10_laysWay_L14, vc_168, gI_168_0, pI_168_0, gR_168_1, gI_168_2, pI_168_2, gI_168_3, pI_168_3, gI_168_4, pI_168_4, gI_168_5, pI_168_5, gI_168_6, pI_168_6, gI_168_7, pI_168_7, gR_168_8, gR_168_9, gR_168_10, gR_168_11, gR_168_12, gR_168_13, gI_168_14, pI_168_14, gI_168_15, pI_168_15, gI_168_16, pI_168_16, gR_168_17, gI_168_18, pI_168_18, gR_168_19, gI_168_20, pI_168_20, gI_168_21, pI_168_21, gI_168_22, pI_168_22, gI_168_23, pI_168_23, gR_168_24, gR_168_25, gI_168_26, pI_168_26, gI_168_27, pI_168_27, gR_168_28, gI_168_29, pI_168_29, gI_168_30, pI_168_30, gI_168_31, pI_168_31, gR_168_32, gR_168_33, gR_168_34, gR_168_35, gR_168_36, gR_168_37, gR_168_38, mr_h0, mr_f0, mr_m0, mr_w0, mr_c0, mc_c0, mc_a0, mc_s0, mh_a0_0, mh_s0_0, mh_a0_1, mh_s0_1, mh_a0_2, mh_s0_2, mh_a0_3, mh_s0_3, mh_a0_4, mh_s0_4, ma_f0, ms_f0, ma_m0, ms_m0, ma_w0, ms_w0, aI_482, sI_482, m_has, ex, hxt, hp, lt, true_or, or_true, false_or, or_false, Option.bind_some, if_true, if_false, bI_0, bI_1, bI_z, eI_n1, eI_l0, eI_g12, oN_n1, oN_l0, oN_g0, n1_l0, n1_g12, n1_0, n1_n1, z_0, z_1, z_2, z_3, z_4, z_5, z_6, z_7, z_8, z_9, z_a, z_b, z_c, z_d, z_e, z_f, oN_inj, oN_lt, oN_gt, oN_ge, oN_le, i_succ, if_pos, if_neg, c_has, c_bit, Bool.true_eq_false, Bool.false_eq_true, decide_true, decide_false, decide_eq_true_eq, decide_eq_false_iff_not, eI_lt, lle_0, lge_0, llt_0, lgt_0, leq_0, lle_1, lge_1, llt_1, lgt_1, leq_1, lle_2, lge_2, llt_2, lgt_2, leq_2, lle_3, lge_3, llt_3, lgt_3, leq_3, lle_4, lge_4, llt_4, lgt_4, leq_4, lle_5, lge_5, llt_5, lgt_5, leq_5, lle_6, lge_6, llt_6, lgt_6, leq_6, lle_7, lge_7, llt_7, lgt_7, leq_7, lle_11, lge_11, llt_11, lgt_11, leq_11, lle_12, lge_12, llt_12, lgt_12, leq_12, lle_15, lge_15, llt_15, lgt_15, leq_15, lle_20, lge_20, llt_20, lgt_20, leq_20, lle_24, lge_24, llt_24, lgt_24, leq_24, lle_25, lge_25, llt_25, lgt_25, leq_25, lle_31, lge_31, llt_31, lgt_31, leq_31, lle_48, lge_48, llt_48, lgt_48, leq_48, lle_57, lge_57, llt_57, lgt_57, leq_57, lle_32, lge_32, llt_32, lgt_32, leq_32, lle_59, lge_59, llt_59, lgt_59, leq_59, lle_97, lge_97, llt_97, lgt_97, leq_97, lle_122, lge_122, llt_122, lgt_122, leq_122, lle_99, lge_99, llt_99, lgt_99, leq_99, lle_100, lge_100, llt_100, lgt_100, leq_100, lle_144, lge_144, llt_144, lgt_144, leq_144, lle_255, lge_255, llt_255, lgt_255, leq_255, lle_300, lge_300, llt_300, lgt_300, leq_300, lle_1000, lge_1000, llt_1000, lgt_1000, leq_1000, lle_1000000, lge_1000000, llt_1000000, lgt_1000000, leq_1000000, lle_4096, lge_4096, llt_4096, lgt_4096, leq_4096, b_ft]
        rw [e2]
    by_cases d : nx M K t = K w
    · right
      intro i
      have d' := eq.mpr d
      rw [go i]
      simp (disch := omega) only [f_X10_laysWay_J53, vc_168, gI_168_0, pI_168_0, gR_168_1, gI_168_2, pI_168_2, gI_168_3, pI_168_3, gI_168_4, pI_168_4, gI_168_5, pI_168_5, gI_168_6, pI_168_6, gI_168_7, pI_168_7, gR_168_8, gR_168_9, gR_168_10, gR_168_11, gR_168_12, gR_168_13, gI_168_14, pI_168_14, gI_168_15, pI_168_15, gI_168_16, pI_168_16, gR_168_17, gI_168_18, pI_168_18, gR_168_19, gI_168_20, pI_168_20, gI_168_21, pI_168_21, gI_168_22, pI_168_22, gI_168_23, pI_168_23, gR_168_24, gR_168_25, gI_168_26, pI_168_26, gI_168_27, pI_168_27, gR_168_28, gI_168_29, pI_168_29, gI_168_30, pI_168_30, gI_168_31, pI_168_31, gR_168_32, gR_168_33, gR_168_34, gR_168_35, gR_168_36, gR_168_37, gR_168_38, aI_482, sI_482, vw, d', lt, true_or, or_true, false_or, or_false, Option.bind_some, if_true, if_false, bI_0, bI_1, bI_z, eI_n1, eI_l0, eI_g12, oN_n1, oN_l0, oN_g0, n1_l0, n1_g12, n1_0, n1_n1, z_0, z_1, z_2, z_3, z_4, z_5, z_6, z_7, z_8, z_9, z_a, z_b, z_c, z_d, z_e, z_f, oN_inj, oN_lt, oN_gt, oN_ge, oN_le, i_succ, if_pos, if_neg, c_has, c_bit, Bool.true_eq_false, Bool.false_eq_true, decide_true, decide_false, decide_eq_true_eq, decide_eq_false_iff_not, eI_lt, lle_0, lge_0, llt_0, lgt_0, leq_0, lle_1, lge_1, llt_1, lgt_1, leq_1, lle_2, lge_2, llt_2, lgt_2, leq_2, lle_3, lge_3, llt_3, lgt_3, leq_3, lle_4, lge_4, llt_4, lgt_4, leq_4, lle_5, lge_5, llt_5, lgt_5, leq_5, lle_6, lge_6, llt_6, lgt_6, leq_6, lle_7, lge_7, llt_7, lgt_7, leq_7, lle_11, lge_11, llt_11, lgt_11, leq_11, lle_12, lge_12, llt_12, lgt_12, leq_12, lle_15, lge_15, llt_15, lgt_15, leq_15, lle_20, lge_20, llt_20, lgt_20, leq_20, lle_24, lge_24, llt_24, lgt_24, leq_24, lle_25, lge_25, llt_25, lgt_25, leq_25, lle_31, lge_31, llt_31, lgt_31, leq_31, lle_48, lge_48, llt_48, lgt_48, leq_48, lle_57, lge_57, llt_57, lgt_57, leq_57, lle_32, lge_32, llt_32, lgt_32, leq_32, lle_59, lge_59, llt_59, lgt_59, leq_59, lle_97, lge_97, llt_97, lgt_97, leq_97, lle_122, lge_122, llt_122, lgt_122, leq_122, lle_99, lge_99, llt_99, lgt_99, leq_99, lle_100, lge_100, llt_100, lgt_100, leq_100, lle_144, lge_144, llt_144, lgt_144, leq_144, lle_255, lge_255, llt_255, lgt_255, leq_255, lle_300, lge_300, llt_300, lgt_300, leq_300, lle_1000, lge_1000, llt_1000, lgt_1000, leq_1000, lle_1000000, lge_1000000, llt_1000000, lgt_1000000, leq_1000000, lle_4096, lge_4096, llt_4096, lgt_4096, leq_4096, b_ft]
      exact A t c.1 c.2 d hs
    · left
      have d' : ¬ gK (nx M K t) = fK (K w) := fun z => d (eq.mp z)
      refine ⟨k - 1, t + 1, by omega, ⟨by omega, fun s q e m => ?_⟩, fun i => ?_⟩
      · by_cases z : s = t
        · rw [z]; exact d
        · exact hs s (by omega) e m
      · rw [go i]
        simp (disch := omega) only [f_X10_laysWay_J53, f_X10_laysWay_J62, vc_168, gI_168_0, pI_168_0, gR_168_1, gI_168_2, pI_168_2, gI_168_3, pI_168_3, gI_168_4, pI_168_4, gI_168_5, pI_168_5, gI_168_6, pI_168_6, gI_168_7, pI_168_7, gR_168_8, gR_168_9, gR_168_10, gR_168_11, gR_168_12, gR_168_13, gI_168_14, pI_168_14, gI_168_15, pI_168_15, gI_168_16, pI_168_16, gR_168_17, gI_168_18, pI_168_18, gR_168_19, gI_168_20, pI_168_20, gI_168_21, pI_168_21, gI_168_22, pI_168_22, gI_168_23, pI_168_23, gR_168_24, gR_168_25, gI_168_26, pI_168_26, gI_168_27, pI_168_27, gR_168_28, gI_168_29, pI_168_29, gI_168_30, pI_168_30, gI_168_31, pI_168_31, gR_168_32, gR_168_33, gR_168_34, gR_168_35, gR_168_36, gR_168_37, gR_168_38, aI_482, sI_482, vw, d', lt, true_or, or_true, false_or, or_false, Option.bind_some, if_true, if_false, bI_0, bI_1, bI_z, eI_n1, eI_l0, eI_g12, oN_n1, oN_l0, oN_g0, n1_l0, n1_g12, n1_0, n1_n1, z_0, z_1, z_2, z_3, z_4, z_5, z_6, z_7, z_8, z_9, z_a, z_b, z_c, z_d, z_e, z_f, oN_inj, oN_lt, oN_gt, oN_ge, oN_le, i_succ, if_pos, if_neg, c_has, c_bit, Bool.true_eq_false, Bool.false_eq_true, decide_true, decide_false, decide_eq_true_eq, decide_eq_false_iff_not, eI_lt, lle_0, lge_0, llt_0, lgt_0, leq_0, lle_1, lge_1, llt_1, lgt_1, leq_1, lle_2, lge_2, llt_2, lgt_2, leq_2, lle_3, lge_3, llt_3, lgt_3, leq_3, lle_4, lge_4, llt_4, lgt_4, leq_4, lle_5, lge_5, llt_5, lgt_5, leq_5, lle_6, lge_6, llt_6, lgt_6, leq_6, lle_7, lge_7, llt_7, lgt_7, leq_7, lle_11, lge_11, llt_11, lgt_11, leq_11, lle_12, lge_12, llt_12, lgt_12, leq_12, lle_15, lge_15, llt_15, lgt_15, leq_15, lle_20, lge_20, llt_20, lgt_20, leq_20, lle_24, lge_24, llt_24, lgt_24, leq_24, lle_25, lge_25, llt_25, lgt_25, leq_25, lle_31, lge_31, llt_31, lgt_31, leq_31, lle_48, lge_48, llt_48, lgt_48, leq_48, lle_57, lge_57, llt_57, lgt_57, leq_57, lle_32, lge_32, llt_32, lgt_32, leq_32, lle_59, lge_59, llt_59, lgt_59, leq_59, lle_97, lge_97, llt_97, lgt_97, leq_97, lle_122, lge_122, llt_122, lgt_122, leq_122, lle_99, lge_99, llt_99, lgt_99, leq_99, lle_100, lge_100, llt_100, lgt_100, leq_100, lle_144, lge_144, llt_144, lgt_144, leq_144, lle_255, lge_255, llt_255, lgt_255, leq_255, lle_300, lge_300, llt_300, lgt_300, leq_300, lle_1000, lge_1000, llt_1000, lgt_1000, leq_1000, lle_1000000, lge_1000000, llt_1000000, lgt_1000000, leq_1000000, lle_4096, lge_4096, llt_4096, lgt_4096, leq_4096, b_ft]
  · have hxt : hb x t = false := by
      rw [hxt]
      cases q : E w t with
      | false => rfl
      | true =>
        have : M w = t := Classical.byContradiction fun z => c ⟨q, z⟩
        simp [this]
    left
    refine ⟨k - 1, t + 1, by omega, ⟨by omega, fun s q e m => ?_⟩, fun i => ?_⟩
    · by_cases z : s = t
      · rw [z] at e m; exact absurd ⟨e, m⟩ c
      · exact hs s (by omega) e m
    · simp (disch := omega) only [f_X10_laysWay_L14, f_X10_laysWay_J62, vc_168, gI_168_0, pI_168_0, gR_168_1, gI_168_2, pI_168_2, gI_168_3, pI_168_3, gI_168_4, pI_168_4, gI_168_5, pI_168_5, gI_168_6, pI_168_6, gI_168_7, pI_168_7, gR_168_8, gR_168_9, gR_168_10, gR_168_11, gR_168_12, gR_168_13, gI_168_14, pI_168_14, gI_168_15, pI_168_15, gI_168_16, pI_168_16, gR_168_17, gI_168_18, pI_168_18, gR_168_19, gI_168_20, pI_168_20, gI_168_21, pI_168_21, gI_168_22, pI_168_22, gI_168_23, pI_168_23, gR_168_24, gR_168_25, gI_168_26, pI_168_26, gI_168_27, pI_168_27, gR_168_28, gI_168_29, pI_168_29, gI_168_30, pI_168_30, gI_168_31, pI_168_31, gR_168_32, gR_168_33, gR_168_34, gR_168_35, gR_168_36, gR_168_37, gR_168_38, m_has, ex, hxt, lt, true_or, or_true, false_or, or_false, Option.bind_some, if_true, if_false, bI_0, bI_1, bI_z, eI_n1, eI_l0, eI_g12, oN_n1, oN_l0, oN_g0, n1_l0, n1_g12, n1_0, n1_n1, z_0, z_1, z_2, z_3, z_4, z_5, z_6, z_7, z_8, z_9, z_a, z_b, z_c, z_d, z_e, z_f, oN_inj, oN_lt, oN_gt, oN_ge, oN_le, i_succ, if_pos, if_neg, c_has, c_bit, Bool.true_eq_false, Bool.false_eq_true, decide_true, decide_false, decide_eq_true_eq, decide_eq_false_iff_not, eI_lt, lle_0, lge_0, llt_0, lgt_0, leq_0, lle_1, lge_1, llt_1, lgt_1, leq_1, lle_2, lge_2, llt_2, lgt_2, leq_2, lle_3, lge_3, llt_3, lgt_3, leq_3, lle_4, lge_4, llt_4, lgt_4, leq_4, lle_5, lge_5, llt_5, lgt_5, leq_5, lle_6, lge_6, llt_6, lgt_6, leq_6, lle_7, lge_7, llt_7, lgt_7, leq_7, lle_11, lge_11, llt_11, lgt_11, leq_11, lle_12, lge_12, llt_12, lgt_12, leq_12, lle_15, lge_15, llt_15, lgt_15, leq_15, lle_20, lge_20, llt_20, lgt_20, leq_20, lle_24, lge_24, llt_24, lgt_24, leq_24, lle_25, lge_25, llt_25, lgt_25, leq_25, lle_31, lge_31, llt_31, lgt_31, leq_31, lle_48, lge_48, llt_48, lgt_48, leq_48, lle_57, lge_57, llt_57, lgt_57, leq_57, lle_32, lge_32, llt_32, lgt_32, leq_32, lle_59, lge_59, llt_59, lgt_59, leq_59, lle_97, lge_97, llt_97, lgt_97, leq_97, lle_122, lge_122, llt_122, lgt_122, leq_122, lle_99, lge_99, llt_99, lgt_99, leq_99, lle_100, lge_100, llt_100, lgt_100, leq_100, lle_144, lge_144, llt_144, lgt_144, leq_144, lle_255, lge_255, llt_255, lgt_255, leq_255, lle_300, lge_300, llt_300, lgt_300, leq_300, lle_1000, lge_1000, llt_1000, lgt_1000, leq_1000, lle_1000000, lge_1000000, llt_1000000, lgt_1000000, leq_1000000, lle_4096, lge_4096, llt_4096, lgt_4096, leq_4096, b_ft]
/-- the way down to its i-th worker -/
def WI (E : Nat → Nat → Bool) (M K : Nat → Nat) (L w : Nat) (pw pt : Nat → Nat) (i cur : Nat) : Prop :=
  (i = 0 → cur = w) ∧ (i < L → cur < 12 ∧ K cur = L - i) ∧ (i = L → cur = 12) ∧ (i ≠ 0 → ow M (pt (i - 1)) = cur ∧ pw 0 = w) ∧
  ∀ j, j < i → pw j < 12 ∧ K (pw j) = L - j ∧ E (pw j) (pt j) = true ∧ M (pw j) ≠ pt j ∧ nx M K (pt j) = L - j ∧ (∀ s, s < pt j → E (pw j) s = true → M (pw j) ≠ s → nx M K s ≠ L - j) ∧ (j + 1 < i → ow M (pt j) = pw (j + 1))
theorem WI.tw {K : Nat → Nat} {L w : Nat} {pw pt : Nat → Nat} {cur : Nat} (hE : Eb E) (hK : Kx E M K) (hL : 0 < L) (hm : M w = 12) (h : WI E M K L w pw pt L cur) : Tw E M L pw pt ∧ pw 0 = w := by
  obtain ⟨h1, h2, h3, h4, h5⟩ := h
  have p0 := (h4 (by omega)).2
  have q0 := h5 0 hL
  refine ⟨⟨hL, by rw [p0]; exact hm, q0.1, fun i hi => ?_⟩, p0⟩
  obtain ⟨a1, a2, a3, a4, a5, a6, a7⟩ := h5 i hi
  obtain ⟨r1, r2⟩ := (hK _ a1).2 (by omega)
  rw [a2] at r1 r2
  refine ⟨r1, r2, a3, a4, (hK.stp hE a3 a4 a2 (by omega)).mpr a5, fun t q e m z => ?_, a7⟩
  exact a6 t q e m ((hK.stp hE e m a2 (by omega)).mp z)
theorem m_laysWay {K : Nat → Nat} (hS : MS μ n m Wt Tt E M) (hO : SOK n m Wt E M) (h2 : ∀ v, v < 12 → μ.1 482 v = Int32.ofNat (fK (K v))) (h3 : ∀ v, v < 12 → K v ≤ 12) (hK : Kx E M K) {w : Nat} (hw : w < 12) (hk : K w ≠ 0) (hm : M w = 12) :
    ∃ ν pw pt, f_X10_laysWay 168 (Int32.ofNat w) (mem μ) = some (mem ν) ∧ Fr Fw μ ν ∧ Tw E M (K w) pw pt ∧ pw 0 = w ∧ ν.1 168 18 = Int32.ofNat (2 * K w) ∧ ∀ i, i < K w → ν.1 483 (2 * i) = Int32.ofNat (pw i) ∧ ν.1 483 (2 * i + 1) = Int32.ofNat (pt i) := by
  have hE := hO.Eb
  have kw := h3 w hw
  have key : Hw (f_X10_laysWay 168 (Int32.ofNat w) (mem μ)) (fun r => ∃ ν pw pt, r = mem ν ∧ Fr Fw μ ν ∧ Tw E M (K w) pw pt ∧ pw 0 = w ∧ ν.1 168 18 = Int32.ofNat (2 * K w) ∧ ∀ i, i < K w → ν.1 483 (2 * i) = Int32.ofNat (pw i) ∧ ν.1 483 (2 * i + 1) = Int32.ofNat (pt i)) := by
    simp (disch := omega) only [f_X10_laysWay, vc_168, gI_168_0, pI_168_0, gR_168_1, gI_168_2, pI_168_2, gI_168_3, pI_168_3, gI_168_4, pI_168_4, gI_168_5, pI_168_5, gI_168_6, pI_168_6, gI_168_7, pI_168_7, gR_168_8, gR_168_9, gR_168_10, gR_168_11, gR_168_12, gR_168_13, gI_168_14, pI_168_14, gI_168_15, pI_168_15, gI_168_16, pI_168_16, gR_168_17, gI_168_18, pI_168_18, gR_168_19, gI_168_20, pI_168_20, gI_168_21, pI_168_21, gI_168_22, pI_168_22, gI_168_23, pI_168_23, gR_168_24, gR_168_25, gI_168_26, pI_168_26, gI_168_27, pI_168_27, gR_168_28, gI_168_29, pI_168_29, gI_168_30, pI_168_30, gI_168_31, pI_168_31, gR_168_32, gR_168_33, gR_168_34, gR_168_35, gR_168_36, gR_168_37, gR_168_38, lt, true_or, or_true, false_or, or_false, Option.bind_some, if_true, if_false, bI_0, bI_1, bI_z, eI_n1, eI_l0, eI_g12, oN_n1, oN_l0, oN_g0, n1_l0, n1_g12, n1_0, n1_n1, z_0, z_1, z_2, z_3, z_4, z_5, z_6, z_7, z_8, z_9, z_a, z_b, z_c, z_d, z_e, z_f, oN_inj, oN_lt, oN_gt, oN_ge, oN_le, i_succ, if_pos, if_neg, c_has, c_bit, Bool.true_eq_false, Bool.false_eq_true, decide_true, decide_false, decide_eq_true_eq, decide_eq_false_iff_not, eI_lt, lle_0, lge_0, llt_0, lgt_0, leq_0, lle_1, lge_1, llt_1, lgt_1, leq_1, lle_2, lge_2, llt_2, lgt_2, leq_2, lle_3, lge_3, llt_3, lgt_3, leq_3, lle_4, lge_4, llt_4, lgt_4, leq_4, lle_5, lge_5, llt_5, lgt_5, leq_5, lle_6, lge_6, llt_6, lgt_6, leq_6, lle_7, lge_7, llt_7, lgt_7, leq_7, lle_11, lge_11, llt_11, lgt_11, leq_11, lle_12, lge_12, llt_12, lgt_12, leq_12, lle_15, lge_15, llt_15, lgt_15, leq_15, lle_20, lge_20, llt_20, lgt_20, leq_20, lle_24, lge_24, llt_24, lgt_24, leq_24, lle_25, lge_25, llt_25, lgt_25, leq_25, lle_31, lge_31, llt_31, lgt_31, leq_31, lle_48, lge_48, llt_48, lgt_48, leq_48, lle_57, lge_57, llt_57, lgt_57, leq_57, lle_32, lge_32, llt_32, lgt_32, leq_32, lle_59, lge_59, llt_59, lgt_59, leq_59, lle_97, lge_97, llt_97, lgt_97, leq_97, lle_122, lge_122, llt_122, lgt_122, leq_122, lle_99, lge_99, llt_99, lgt_99, leq_99, lle_100, lge_100, llt_100, lgt_100, leq_100, lle_144, lge_144, llt_144, lgt_144, leq_144, lle_255, lge_255, llt_255, lgt_255, leq_255, lle_300, lge_300, llt_300, lgt_300, leq_300, lle_1000, lge_1000, llt_1000, lgt_1000, leq_1000, lle_1000000, lge_1000000, llt_1000000, lgt_1000000, leq_1000000, lle_4096, lge_4096, llt_4096, lgt_4096, leq_4096, b_ft]
    refine hw_rec (L := fun i (s : Int32 × MM) => f_X10_laysWay_L7 f_X10_laysWay_J110 i 168 s.1 (mem s.2)) (I := fun k s => ∃ i cur pw pt, i + k = K w ∧ s.1 = eI cur ∧ Fr Fw μ s.2 ∧ WI E M K (K w) w pw pt i cur ∧ s.2.1 168 18 = Int32.ofNat (2 * i) ∧ ∀ j, j < i → s.2.1 483 (2 * j) = Int32.ofNat (pw j) ∧ s.2.1 483 (2 * j + 1) = Int32.ofNat (pt j)) ?_ (K w) (Int32.ofNat w, st μ 168 18 0) ⟨0, w, fun _ => 0, fun _ => 0, by omega, (eI_lt hw).symm, (Fr.refl _ _).st (Or.inr ⟨rfl, rfl⟩), ⟨fun _ => rfl, fun _ => ⟨hw, by omega⟩, fun z => by omega, fun z => absurd rfl z, fun j hj => absurd hj (Nat.not_lt_zero _)⟩, st_same _ _ _ _, fun j hj => absurd hj (Nat.not_lt_zero _)⟩ 5000 (by omega)
    rintro k ⟨x, ν⟩ f ⟨i, cur, pw, pt, a1, a2, a3, a4, a5, a6⟩ ih
    simp only at a2 a3 a5 a6 ih
    subst a2
    have hS' := hS.fw a3
    by_cases c : i < K w
    · obtain ⟨u1, u2⟩ := a4.2.1 c
      have := m_way_t (K := K) (kE68 := f_X10_laysWay_J68 (f_X10_laysWay_L7 f_X10_laysWay_J110 f) f_X10_laysWay_J110) hS' hO (fun v hv => by rw [(a3 _ _ (by unfold Fw; omega)).1]; exact h2 v hv) h3 hK u1 (by omega) (P := fun r => ∃ ν pw pt, r = mem ν ∧ Fr Fw μ ν ∧ Tw E M (K w) pw pt ∧ pw 0 = w ∧ ν.1 168 18 = Int32.ofNat (2 * K w) ∧ ∀ i, i < K w → ν.1 483 (2 * i) = Int32.ofNat (pw i) ∧ ν.1 483 (2 * i + 1) = Int32.ofNat (pt i)) (fun t e m nt lt' => by
        have t12 := (hE _ _ e).2
        let ν2 := st (st (st ν 483 (2 * i) (Int32.ofNat cur)) 483 (2 * i + 1) (Int32.ofNat t)) 168 18 (Int32.ofNat (2 * (i + 1)))
        have f2 : Fr Fw μ ν2 := ((a3.st (Or.inl rfl)).st (Or.inl rfl)).st (Or.inr ⟨rfl, rfl⟩)
        have hp := m_partner1 (hS.fw f2) t12
        have v1 : (st ν 483 (2 * i) (Int32.ofNat cur)).1 168 18 = Int32.ofNat (2 * i) := by rw [st_ne (Or.inl (by omega))]; exact a5
        have v2 : (st (st ν 483 (2 * i) (Int32.ofNat cur)) 483 (2 * i + 1) (Int32.ofNat t)).1 168 18 = Int32.ofNat (2 * i) := by rw [st_ne (Or.inl (by omega))]; exact v1
        have e2 : Int32.ofNat (2 * i) + (2 : Int32) = Int32.ofNat (2 * (i + 1)) := by
          rw [show (2 : Int32) = Int32.ofNat 2 from rfl, oN_add]; rfl
        have := ih (k - 1) (eI (ow M t), ν2) (by omega) ⟨i + 1, ow M t, up pw i cur, up pt i t, by omega, rfl, f2, ?_, st_same _ _ _ _, fun j hj => ?_⟩
        · simp (disch := omega) only [f_X10_laysWay_J68, vc_168, gI_168_0, pI_168_0, gR_168_1, gI_168_2, pI_168_2, gI_168_3, pI_168_3, gI_168_4, pI_168_4, gI_168_5, pI_168_5, gI_168_6, pI_168_6, gI_168_7, pI_168_7, gR_168_8, gR_168_9, gR_168_10, gR_168_11, gR_168_12, gR_168_13, gI_168_14, pI_168_14, gI_168_15, pI_168_15, gI_168_16, pI_168_16, gR_168_17, gI_168_18, pI_168_18, gR_168_19, gI_168_20, pI_168_20, gI_168_21, pI_168_21, gI_168_22, pI_168_22, gI_168_23, pI_168_23, gR_168_24, gR_168_25, gI_168_26, pI_168_26, gI_168_27, pI_168_27, gR_168_28, gI_168_29, pI_168_29, gI_168_30, pI_168_30, gI_168_31, pI_168_31, gR_168_32, gR_168_33, gR_168_34, gR_168_35, gR_168_36, gR_168_37, gR_168_38, aI_483, sI_483, a5, v1, v2, e2, lt, true_or, or_true, false_or, or_false, Option.bind_some, if_true, if_false, bI_0, bI_1, bI_z, eI_n1, eI_l0, eI_g12, oN_n1, oN_l0, oN_g0, n1_l0, n1_g12, n1_0, n1_n1, z_0, z_1, z_2, z_3, z_4, z_5, z_6, z_7, z_8, z_9, z_a, z_b, z_c, z_d, z_e, z_f, oN_inj, oN_lt, oN_gt, oN_ge, oN_le, i_succ, if_pos, if_neg, c_has, c_bit, Bool.true_eq_false, Bool.false_eq_true, decide_true, decide_false, decide_eq_true_eq, decide_eq_false_iff_not, eI_lt, lle_0, lge_0, llt_0, lgt_0, leq_0, lle_1, lge_1, llt_1, lgt_1, leq_1, lle_2, lge_2, llt_2, lgt_2, leq_2, lle_3, lge_3, llt_3, lgt_3, leq_3, lle_4, lge_4, llt_4, lgt_4, leq_4, lle_5, lge_5, llt_5, lgt_5, leq_5, lle_6, lge_6, llt_6, lgt_6, leq_6, lle_7, lge_7, llt_7, lgt_7, leq_7, lle_11, lge_11, llt_11, lgt_11, leq_11, lle_12, lge_12, llt_12, lgt_12, leq_12, lle_15, lge_15, llt_15, lgt_15, leq_15, lle_20, lge_20, llt_20, lgt_20, leq_20, lle_24, lge_24, llt_24, lgt_24, leq_24, lle_25, lge_25, llt_25, lgt_25, leq_25, lle_31, lge_31, llt_31, lgt_31, leq_31, lle_48, lge_48, llt_48, lgt_48, leq_48, lle_57, lge_57, llt_57, lgt_57, leq_57, lle_32, lge_32, llt_32, lgt_32, leq_32, lle_59, lge_59, llt_59, lgt_59, leq_59, lle_97, lge_97, llt_97, lgt_97, leq_97, lle_122, lge_122, llt_122, lgt_122, leq_122, lle_99, lge_99, llt_99, lgt_99, leq_99, lle_100, lge_100, llt_100, lgt_100, leq_100, lle_144, lge_144, llt_144, lgt_144, leq_144, lle_255, lge_255, llt_255, lgt_255, leq_255, lle_300, lge_300, llt_300, lgt_300, leq_300, lle_1000, lge_1000, llt_1000, lgt_1000, leq_1000, lle_1000000, lge_1000000, llt_1000000, lgt_1000000, leq_1000000, lle_4096, lge_4096, llt_4096, lgt_4096, leq_4096, b_ft]
          rw [show f_X10_partnerOf 168 1 (Int32.ofNat t) (mem (st (st (st ν 483 (2 * i) (Int32.ofNat cur)) 483 (2 * i + 1) (Int32.ofNat t)) 168 18 (Int32.ofNat (2 * (i + 1))))) = _ from hp]
          simp only [Option.bind_some]
          exact this
        · obtain ⟨w1, w2, w3, w4, w5⟩ := a4
          have hol := ow_le M t
          refine ⟨fun z => by omega, fun z => ?_, fun z => ?_, fun _ => ⟨by rw [Nat.add_sub_cancel, up_same], ?_⟩, fun j hj => ?_⟩
          · by_cases o : ow M t = 12
            · rw [nx_1 o] at nt; omega
            · by_cases d : K (ow M t) = 0
              · rw [nx_0 o d] at nt; omega
              · rw [nx_s o d] at nt; exact ⟨by omega, by omega⟩
          · by_cases o : ow M t = 12
            · exact o
            · by_cases d : K (ow M t) = 0
              · rw [nx_0 o d] at nt; omega
              · rw [nx_s o d] at nt; omega
          · by_cases z : i = 0
            · rw [z, up_same]; exact w1 z
            · rw [up_ne (Ne.symm z)]; exact (w4 z).2
          · by_cases z : j = i
            · rw [z, up_same, up_same]
              refine ⟨u1, u2, e, m, by rw [nt, u2], fun s hs e' m' => ?_, fun z => by omega⟩
              rw [← u2]; exact lt' s hs e' m'
            · obtain ⟨b1, b2, b3, b4, b5, b6, b7⟩ := w5 j (by omega)
              rw [up_ne z, up_ne z]
              refine ⟨b1, b2, b3, b4, b5, b6, fun y => ?_⟩
              by_cases y2 : j + 1 = i
              · rw [y2, up_same]
                have := (w4 (by omega)).1
                rw [← y2, Nat.add_sub_cancel] at this
                exact this
              · rw [up_ne y2]; exact b7 (by omega)
        · show ν2.1 483 (2 * j) = Int32.ofNat (up pw i cur j) ∧ ν2.1 483 (2 * j + 1) = Int32.ofNat (up pt i t j)
          by_cases z : j = i
          · rw [z, st_ne (Or.inl (by omega)), st_ne (Or.inr (by omega)), st_same, st_ne (Or.inl (by omega)), st_same, up_same, up_same]
            exact ⟨rfl, rfl⟩
          · rw [st_ne (Or.inl (by omega)), st_ne (Or.inr (by omega)), st_ne (Or.inr (by omega)), st_ne (Or.inl (by omega)), st_ne (Or.inr (by omega)), st_ne (Or.inr (by omega)), up_ne z, up_ne z]
            exact a6 j (by omega))
      show Hw (f_X10_laysWay_L7 f_X10_laysWay_J110 (f + 1) 168 (eI cur) (mem ν)) _
      simp (disch := omega) only [f_X10_laysWay_L7, lt, true_or, or_true, false_or, or_false, Option.bind_some, if_true, if_false, bI_0, bI_1, bI_z, eI_n1, eI_l0, eI_g12, oN_n1, oN_l0, oN_g0, n1_l0, n1_g12, n1_0, n1_n1, z_0, z_1, z_2, z_3, z_4, z_5, z_6, z_7, z_8, z_9, z_a, z_b, z_c, z_d, z_e, z_f, oN_inj, oN_lt, oN_gt, oN_ge, oN_le, i_succ, if_pos, if_neg, c_has, c_bit, Bool.true_eq_false, Bool.false_eq_true, decide_true, decide_false, decide_eq_true_eq, decide_eq_false_iff_not, eI_lt, lle_0, lge_0, llt_0, lgt_0, leq_0, lle_1, lge_1, llt_1, lgt_1, leq_1, lle_2, lge_2, llt_2, lgt_2, leq_2, lle_3, lge_3, llt_3, lgt_3, leq_3, lle_4, lge_4, llt_4, lgt_4, leq_4, lle_5, lge_5, llt_5, lgt_5, leq_5, lle_6, lge_6, llt_6, lgt_6, leq_6, lle_7, lge_7, llt_7, lgt_7, leq_7, lle_11, lge_11, llt_11, lgt_11, leq_11, lle_12, lge_12, llt_12, lgt_12, leq_12, lle_15, lge_15, llt_15, lgt_15, leq_15, lle_20, lge_20, llt_20, lgt_20, leq_20, lle_24, lge_24, llt_24, lgt_24, leq_24, lle_25, lge_25, llt_25, lgt_25, leq_25, lle_31, lge_31, llt_31, lgt_31, leq_31, lle_48, lge_48, llt_48, lgt_48, leq_48, lle_57, lge_57, llt_57, lgt_57, leq_57, lle_32, lge_32, llt_32, lgt_32, leq_32, lle_59, lge_59, llt_59, lgt_59, leq_59, lle_97, lge_97, llt_97, lgt_97, leq_97, lle_122, lge_122, llt_122, lgt_122, leq_122, lle_99, lge_99, llt_99, lgt_99, leq_99, lle_100, lge_100, llt_100, lgt_100, leq_100, lle_144, lge_144, llt_144, lgt_144, leq_144, lle_255, lge_255, llt_255, lgt_255, leq_255, lle_300, lge_300, llt_300, lgt_300, leq_300, lle_1000, lge_1000, llt_1000, lgt_1000, leq_1000, lle_1000000, lge_1000000, llt_1000000, lgt_1000000, leq_1000000, lle_4096, lge_4096, llt_4096, lgt_4096, leq_4096, b_ft]
      exact this
    · have hi : i = K w := by omega
      subst hi
      have hc := a4.2.2.1 rfl
      obtain ⟨t1, t2⟩ := a4.tw hE hK (by omega) hm
      show Hw (f_X10_laysWay_L7 f_X10_laysWay_J110 (f + 1) 168 (eI cur) (mem ν)) _
      rw [hc]
      simp (disch := omega) only [f_X10_laysWay_L7, f_X10_laysWay_J110, f_X10_laysWay_J68, f_X10_laysWay_J62, f_X10_laysWay_J53, lt, true_or, or_true, false_or, or_false, Option.bind_some, if_true, if_false, bI_0, bI_1, bI_z, eI_n1, eI_l0, eI_g12, oN_n1, oN_l0, oN_g0, n1_l0, n1_g12, n1_0, n1_n1, z_0, z_1, z_2, z_3, z_4, z_5, z_6, z_7, z_8, z_9, z_a, z_b, z_c, z_d, z_e, z_f, oN_inj, oN_lt, oN_gt, oN_ge, oN_le, i_succ, if_pos, if_neg, c_has, c_bit, Bool.true_eq_false, Bool.false_eq_true, decide_true, decide_false, decide_eq_true_eq, decide_eq_false_iff_not, eI_lt, lle_0, lge_0, llt_0, lgt_0, leq_0, lle_1, lge_1, llt_1, lgt_1, leq_1, lle_2, lge_2, llt_2, lgt_2, leq_2, lle_3, lge_3, llt_3, lgt_3, leq_3, lle_4, lge_4, llt_4, lgt_4, leq_4, lle_5, lge_5, llt_5, lgt_5, leq_5, lle_6, lge_6, llt_6, lgt_6, leq_6, lle_7, lge_7, llt_7, lgt_7, leq_7, lle_11, lge_11, llt_11, lgt_11, leq_11, lle_12, lge_12, llt_12, lgt_12, leq_12, lle_15, lge_15, llt_15, lgt_15, leq_15, lle_20, lge_20, llt_20, lgt_20, leq_20, lle_24, lge_24, llt_24, lgt_24, leq_24, lle_25, lge_25, llt_25, lgt_25, leq_25, lle_31, lge_31, llt_31, lgt_31, leq_31, lle_48, lge_48, llt_48, lgt_48, leq_48, lle_57, lge_57, llt_57, lgt_57, leq_57, lle_32, lge_32, llt_32, lgt_32, leq_32, lle_59, lge_59, llt_59, lgt_59, leq_59, lle_97, lge_97, llt_97, lgt_97, leq_97, lle_122, lge_122, llt_122, lgt_122, leq_122, lle_99, lge_99, llt_99, lgt_99, leq_99, lle_100, lge_100, llt_100, lgt_100, leq_100, lle_144, lge_144, llt_144, lgt_144, leq_144, lle_255, lge_255, llt_255, lgt_255, leq_255, lle_300, lge_300, llt_300, lgt_300, leq_300, lle_1000, lge_1000, llt_1000, lgt_1000, leq_1000, lle_1000000, lge_1000000, llt_1000000, lgt_1000000, leq_1000000, lle_4096, lge_4096, llt_4096, lgt_4096, leq_4096, b_ft]
      exact hw_ret ⟨ν, pw, pt, rfl, a3, t1, t2, a5, a6⟩
  obtain ⟨r, e, ν, pw, pt, rfl, h⟩ := key
  exact ⟨ν, pw, pt, e, h⟩
end Lw
