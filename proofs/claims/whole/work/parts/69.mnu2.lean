/-! THE MODEL: nu -/
section Nv
variable {E : Nat → Nat → Bool} {Wt : Int32} {μ : MM}
/-- behind a worker's turn -/
def KL (E : Nat → Nat → Bool) (V : Nat → Nat) (D : Nat → Bool) (w : Nat) : Prop :=
  KV E V ∧ KI V ∧ (∀ t, D t = true → V t < 12 ∧ ∀ s, E (V t) s = true → D s = true) ∧ (∀ v, v < w → (∃ t, V t = v) ∨ ∀ t, E v t = true → D t = true) ∧ ∀ v, w ≤ v → v < 12 → ∀ t, V t ≠ v
theorem KL.start : KL E (fun _ => 12) (fun _ => false) 0 :=
  ⟨⟨fun _ => Nat.le_refl _, fun _ _ => rfl, fun _ h => absurd h (Nat.lt_irrefl 12)⟩, fun _ _ _ h => absurd h (Nat.lt_irrefl 12), fun _ h => (nomatch h), fun v hv => absurd hv (Nat.not_lt_zero _), fun v _ h t z => by have z : 12 = v := z; omega⟩
theorem KL.got {V V' : Nat → Nat} {D : Nat → Bool} {w : Nat} {x : Int32} (h : KL E V D w) (hw : w < 12) (hx : ∀ t, hb x t = false) (g : KG E V w (hb x) V') : KL E V' D (w + 1) := by
  obtain ⟨h1, h2, h3, h4, h5⟩ := h
  have gi := g.root (h5 w (Nat.le_refl _) hw) hx
  obtain ⟨a1, a2, a3, a4, a5, a6, a7⟩ := g
  have a8 := (a7 D h3).2
  refine ⟨a1, gi, fun t q => by rw [a8 t q]; exact h3 t q, fun v hv => ?_, fun v hv hv2 t z => ?_⟩
  · by_cases z : v = w
    · left; exact (a6 v (by omega)).mpr (Or.inr z)
    · rcases h4 v (by omega) with q | q
      · left; exact (a6 v (by omega)).mpr (Or.inl q)
      · exact Or.inr q
  · rcases (a6 v hv2).mp ⟨t, z⟩ with ⟨s, q⟩ | q
    · exact h5 v (by omega) hv2 s q
    · omega
theorem KL.vain {V : Nat → Nat} {D : Nat → Bool} {w : Nat} {x x' : Int32} (h : KL E V D w) (hx : ∀ t, hb x t = false) (g : KF E V w (hb x) (hb x')) : KL E V (fun t => D t || hb x' t) (w + 1) := by
  obtain ⟨h1, h2, h3, h4, h5⟩ := h
  obtain ⟨g1, g2, g3⟩ := g
  refine ⟨h1, h2, fun t q => ?_, fun v hv => ?_, fun v hv hv2 => h5 v (by omega) hv2⟩
  · rcases (Bool.or_eq_true _ _).mp q with q | q
    · obtain ⟨a, b⟩ := h3 t q
      exact ⟨a, fun s e => by simp [b s e]⟩
    · rcases g3 t q with z | ⟨a, b⟩
      · rw [hx t] at z; cases z
      · exact ⟨a, fun s e => by simp [b s e]⟩
  · by_cases z : v = w
    · right; intro t e; rw [z] at e; simp [g2 t e]
    · rcases h4 v (by omega) with q | q
      · exact Or.inl q
      · exact Or.inr fun t e => by simp [q t e]
theorem KL.away {V : Nat → Nat} {D : Nat → Bool} {w : Nat} (h : KL E V D w) (hw : ∀ t, E w t = false) : KL E V D (w + 1) := by
  obtain ⟨h1, h2, h3, h4, h5⟩ := h
  refine ⟨h1, h2, h3, fun v hv => ?_, fun v hv hv2 => h5 v (by omega) hv2⟩
  by_cases z : v = w
  · right; intro t e; rw [z, hw t] at e; cases e
  · exact h4 v (by omega)
/-- tookBy is emptied -/
theorem m_took {β : Type} {L : Nat → Int32 → xH → Option β} {K : xH → Option β} {Q : β → Prop} (hL : ∀ n i ν, i < 12 → L (n + 1) (Int32.ofNat i) (mem ν) = L n (Int32.ofNat (i + 1)) (mem (st ν 486 i (-1)))) (hE : ∀ n ν, L (n + 1) (Int32.ofNat 12) (mem ν) = K (mem ν))
    (hK : ∀ ν, Fr Fk μ ν → (∀ t, t < 12 → ν.1 486 t = eI 12) → ν.1 168 29 = μ.1 168 29 → Hw (K (mem ν)) Q) : Hw (L 5000 (Int32.ofNat 0) (mem μ)) Q := by
  refine hw_for (L := fun n i (ν : MM) => L n i (mem ν)) (s0 := μ) 12 (fun i ν => Fr Fk μ ν ∧ ν.1 168 29 = μ.1 168 29 ∧ ∀ t, t < i → ν.1 486 t = -1) ⟨Fr.refl _ _, rfl, fun t ht => absurd ht (Nat.not_lt_zero _)⟩ (by decide) (fun i hi ν hν => Or.inl ?_) (fun ν hν n => ?_)
  · obtain ⟨h1, h2, h3⟩ := hν
    refine ⟨_, ⟨h1.st (Or.inl rfl), ?_, fun t ht => ?_⟩, fun n => hL n i ν hi⟩
    · rw [st_ne (Or.inl (by omega))]; exact h2
    · by_cases z : t = i
      · rw [z, st_same]
      · rw [st_ne (Or.inr z)]; exact h3 t (by omega)
  · obtain ⟨h1, h2, h3⟩ := hν
    show Hw (L (n + 1) (Int32.ofNat 12) (mem ν)) Q
    rw [hE]
    exact hK ν h1 (fun t ht => by rw [h3 t ht]; rfl) h2
theorem m_nu (hE : Eb E) (hW : ∀ w t, E w t = true → hb Wt w = true) (hG : MG μ Wt E) : ∃ k ν, f_X10_nu 168 (mem μ) = some (Int32.ofNat k, mem ν) ∧ Fr Fk μ ν ∧ Nu E k := by
  have key : Hw (f_X10_nu 168 (mem μ)) (fun r => ∃ k ν, r = (Int32.ofNat k, mem ν) ∧ Fr Fk μ ν ∧ Nu E k) := by
    refine m_took (μ := μ) (L := fun n i h => f_X10_nu_L4 f_X10_nu_J23 n 168 0 i h) (K := fun h => f_X10_nu_J23 168 0 h) (fun n i ν hi => ?_) (fun n ν => ?_) (fun ν h1 h2 _ => ?_)
    · simp (disch := omega) only [f_X10_nu_L4, vc_168, gI_168_0, pI_168_0, gR_168_1, gI_168_2, pI_168_2, gI_168_3, pI_168_3, gI_168_4, pI_168_4, gI_168_5, pI_168_5, gI_168_6, pI_168_6, gI_168_7, pI_168_7, gR_168_8, gR_168_9, gR_168_10, gR_168_11, gR_168_12, gR_168_13, gI_168_14, pI_168_14, gI_168_15, pI_168_15, gI_168_16, pI_168_16, gR_168_17, gI_168_18, pI_168_18, gR_168_19, gI_168_20, pI_168_20, gI_168_21, pI_168_21, gI_168_22, pI_168_22, gI_168_23, pI_168_23, gR_168_24, gR_168_25, gI_168_26, pI_168_26, gI_168_27, pI_168_27, gR_168_28, gI_168_29, pI_168_29, gI_168_30, pI_168_30, gI_168_31, pI_168_31, gR_168_32, gR_168_33, gR_168_34, gR_168_35, gR_168_36, gR_168_37, gR_168_38, aI_486, sI_486, lt, true_or, or_true, false_or, or_false, Option.bind_some, if_true, if_false, bI_0, bI_1, bI_z, eI_n1, eI_l0, eI_g12, oN_n1, oN_l0, oN_g0, n1_l0, n1_g12, n1_0, n1_n1, z_0, z_1, z_2, z_3, z_4, z_5, z_6, z_7, z_8, z_9, z_a, z_b, z_c, z_d, z_e, z_f, oN_inj, oN_lt, oN_gt, oN_ge, oN_le, i_succ, if_pos, if_neg, c_has, c_bit, Bool.true_eq_false, Bool.false_eq_true, decide_true, decide_false, decide_eq_true_eq, decide_eq_false_iff_not, eI_lt, lle_0, lge_0, llt_0, lgt_0, leq_0, lle_1, lge_1, llt_1, lgt_1, leq_1, lle_2, lge_2, llt_2, lgt_2, leq_2, lle_3, lge_3, llt_3, lgt_3, leq_3, lle_4, lge_4, llt_4, lgt_4, leq_4, lle_5, lge_5, llt_5, lgt_5, leq_5, lle_6, lge_6, llt_6, lgt_6, leq_6, lle_7, lge_7, llt_7, lgt_7, leq_7, lle_11, lge_11, llt_11, lgt_11, leq_11, lle_12, lge_12, llt_12, lgt_12, leq_12, lle_15, lge_15, llt_15, lgt_15, leq_15, lle_20, lge_20, llt_20, lgt_20, leq_20, lle_24, lge_24, llt_24, lgt_24, leq_24, lle_25, lge_25, llt_25, lgt_25, leq_25, lle_31, lge_31, llt_31, lgt_31, leq_31, lle_48, lge_48, llt_48, lgt_48, leq_48, lle_57, lge_57, llt_57, lgt_57, leq_57, lle_32, lge_32, llt_32, lgt_32, leq_32, lle_59, lge_59, llt_59, lgt_59, leq_59, lle_97, lge_97, llt_97, lgt_97, leq_97, lle_122, lge_122, llt_122, lgt_122, leq_122, lle_99, lge_99, llt_99, lgt_99, leq_99, lle_100, lge_100, llt_100, lgt_100, leq_100, lle_144, lge_144, llt_144, lgt_144, leq_144, lle_255, lge_255, llt_255, lgt_255, leq_255, lle_300, lge_300, llt_300, lgt_300, leq_300, lle_1000, lge_1000, llt_1000, lgt_1000, leq_1000, lle_1000000, lge_1000000, llt_1000000, lgt_1000000, leq_1000000, lle_4096, lge_4096, llt_4096, lgt_4096, leq_4096, b_ft]
    · simp (disch := omega) only [f_X10_nu_L4, lt, true_or, or_true, false_or, or_false, Option.bind_some, if_true, if_false, bI_0, bI_1, bI_z, eI_n1, eI_l0, eI_g12, oN_n1, oN_l0, oN_g0, n1_l0, n1_g12, n1_0, n1_n1, z_0, z_1, z_2, z_3, z_4, z_5, z_6, z_7, z_8, z_9, z_a, z_b, z_c, z_d, z_e, z_f, oN_inj, oN_lt, oN_gt, oN_ge, oN_le, i_succ, if_pos, if_neg, c_has, c_bit, Bool.true_eq_false, Bool.false_eq_true, decide_true, decide_false, decide_eq_true_eq, decide_eq_false_iff_not, eI_lt, lle_0, lge_0, llt_0, lgt_0, leq_0, lle_1, lge_1, llt_1, lgt_1, leq_1, lle_2, lge_2, llt_2, lgt_2, leq_2, lle_3, lge_3, llt_3, lgt_3, leq_3, lle_4, lge_4, llt_4, lgt_4, leq_4, lle_5, lge_5, llt_5, lgt_5, leq_5, lle_6, lge_6, llt_6, lgt_6, leq_6, lle_7, lge_7, llt_7, lgt_7, leq_7, lle_11, lge_11, llt_11, lgt_11, leq_11, lle_12, lge_12, llt_12, lgt_12, leq_12, lle_15, lge_15, llt_15, lgt_15, leq_15, lle_20, lge_20, llt_20, lgt_20, leq_20, lle_24, lge_24, llt_24, lgt_24, leq_24, lle_25, lge_25, llt_25, lgt_25, leq_25, lle_31, lge_31, llt_31, lgt_31, leq_31, lle_48, lge_48, llt_48, lgt_48, leq_48, lle_57, lge_57, llt_57, lgt_57, leq_57, lle_32, lge_32, llt_32, lgt_32, leq_32, lle_59, lge_59, llt_59, lgt_59, leq_59, lle_97, lge_97, llt_97, lgt_97, leq_97, lle_122, lge_122, llt_122, lgt_122, leq_122, lle_99, lge_99, llt_99, lgt_99, leq_99, lle_100, lge_100, llt_100, lgt_100, leq_100, lle_144, lge_144, llt_144, lgt_144, leq_144, lle_255, lge_255, llt_255, lgt_255, leq_255, lle_300, lge_300, llt_300, lgt_300, leq_300, lle_1000, lge_1000, llt_1000, lgt_1000, leq_1000, lle_1000000, lge_1000000, llt_1000000, lgt_1000000, leq_1000000, lle_4096, lge_4096, llt_4096, lgt_4096, leq_4096, b_ft]
    · refine hw_for (L := fun n w (s : Nat × MM) => f_X10_nu_L25 f_X10_nu_J73 n 168 (Int32.ofNat s.1) w (mem s.2)) (s0 := (0, ν)) 12 (fun w s => ∃ (V : Nat → Nat) (D : Nat → Bool), s.1 = cnt (fun t => decide (V t < 12)) 12 ∧ Fr Fk μ s.2 ∧ (∀ t, t < 12 → s.2.1 486 t = eI (V t)) ∧ KL E V D w) ⟨fun _ => 12, fun _ => false, sz_e.symm, h1, h2, KL.start⟩ (by decide) (fun w hw s hs => ?_) (fun s hs n => ?_)
      · obtain ⟨k, ξ⟩ := s
        obtain ⟨V, D, c1, c2, c3, c4⟩ := hs
        simp only at c1 c2 c3
        left
        have f0 : Fr Fk μ (st ξ 168 29 0) := c2.st (Or.inr ⟨rfl, rfl⟩)
        have s0 : KS (st ξ 168 29 0) V 0 := ⟨fun t ht => by rw [st_ne (Or.inl (by omega))]; exact c3 t ht, st_same _ _ _ _⟩
        have w3 : (st ξ 168 29 0).1 172 3 = Wt := (hG.fr f0).1
        cases e : hb Wt w with
        | false =>
          refine ⟨(k, st ξ 168 29 0), ⟨V, D, c1, f0, s0.1, c4.away fun t => ?_⟩, fun n => ?_⟩
          · cases q : E w t with
            | false => rfl
            | true => rw [hW w t q] at e; cases e
          · simp (disch := omega) only [f_X10_nu_L25, f_X10_nu_J73, f_X10_nu_J65, f_X10_nu_J64, f_X10_nu_J23, vc_168, gI_168_0, pI_168_0, gR_168_1, gI_168_2, pI_168_2, gI_168_3, pI_168_3, gI_168_4, pI_168_4, gI_168_5, pI_168_5, gI_168_6, pI_168_6, gI_168_7, pI_168_7, gR_168_8, gR_168_9, gR_168_10, gR_168_11, gR_168_12, gR_168_13, gI_168_14, pI_168_14, gI_168_15, pI_168_15, gI_168_16, pI_168_16, gR_168_17, gI_168_18, pI_168_18, gR_168_19, gI_168_20, pI_168_20, gI_168_21, pI_168_21, gI_168_22, pI_168_22, gI_168_23, pI_168_23, gR_168_24, gR_168_25, gI_168_26, pI_168_26, gI_168_27, pI_168_27, gR_168_28, gI_168_29, pI_168_29, gI_168_30, pI_168_30, gI_168_31, pI_168_31, gR_168_32, gR_168_33, gR_168_34, gR_168_35, gR_168_36, gR_168_37, gR_168_38, mr_h0, mr_f0, mr_m0, mr_w0, mr_c0, mc_c0, mc_a0, mc_s0, mh_a0_0, mh_s0_0, mh_a0_1, mh_s0_1, mh_a0_2, mh_s0_2, mh_a0_3, mh_s0_3, mh_a0_4, mh_s0_4, ma_f0, ms_f0, ma_m0, ms_m0, ma_w0, ms_w0, m_has, w3, e, Int32.add_zero, lt, true_or, or_true, false_or, or_false, Option.bind_some, if_true, if_false, bI_0, bI_1, bI_z, eI_n1, eI_l0, eI_g12, oN_n1, oN_l0, oN_g0, n1_l0, n1_g12, n1_0, n1_n1, z_0, z_1, z_2, z_3, z_4, z_5, z_6, z_7, z_8, z_9, z_a, z_b, z_c, z_d, z_e, z_f, oN_inj, oN_lt, oN_gt, oN_ge, oN_le, i_succ, if_pos, if_neg, c_has, c_bit, Bool.true_eq_false, Bool.false_eq_true, decide_true, decide_false, decide_eq_true_eq, decide_eq_false_iff_not, eI_lt, lle_0, lge_0, llt_0, lgt_0, leq_0, lle_1, lge_1, llt_1, lgt_1, leq_1, lle_2, lge_2, llt_2, lgt_2, leq_2, lle_3, lge_3, llt_3, lgt_3, leq_3, lle_4, lge_4, llt_4, lgt_4, leq_4, lle_5, lge_5, llt_5, lgt_5, leq_5, lle_6, lge_6, llt_6, lgt_6, leq_6, lle_7, lge_7, llt_7, lgt_7, leq_7, lle_11, lge_11, llt_11, lgt_11, leq_11, lle_12, lge_12, llt_12, lgt_12, leq_12, lle_15, lge_15, llt_15, lgt_15, leq_15, lle_20, lge_20, llt_20, lgt_20, leq_20, lle_24, lge_24, llt_24, lgt_24, leq_24, lle_25, lge_25, llt_25, lgt_25, leq_25, lle_31, lge_31, llt_31, lgt_31, leq_31, lle_48, lge_48, llt_48, lgt_48, leq_48, lle_57, lge_57, llt_57, lgt_57, leq_57, lle_32, lge_32, llt_32, lgt_32, leq_32, lle_59, lge_59, llt_59, lgt_59, leq_59, lle_97, lge_97, llt_97, lgt_97, leq_97, lle_122, lge_122, llt_122, lgt_122, leq_122, lle_99, lge_99, llt_99, lgt_99, leq_99, lle_100, lge_100, llt_100, lgt_100, leq_100, lle_144, lge_144, llt_144, lgt_144, leq_144, lle_255, lge_255, llt_255, lgt_255, leq_255, lle_300, lge_300, llt_300, lgt_300, leq_300, lle_1000, lge_1000, llt_1000, lgt_1000, leq_1000, lle_1000000, lge_1000000, llt_1000000, lgt_1000000, leq_1000000, lle_4096, lge_4096, llt_4096, lgt_4096, leq_4096, b_ft]
        | true =>
          obtain ⟨⟨r1, r2⟩, er, ζ, x', h, f1, q⟩ := m_moves hE hW 40 (hG.fr f0) s0 c4.1 c4.2.1 hw e (fun t z => absurd z (c4.2.2.2.2 w (Nat.le_refl _) hw t)) (Nat.lt_of_le_of_lt (cnt_le _ _) (by decide))
          simp only at h q
          subst h
          rcases q with ⟨q0, q1, q2⟩ | ⟨V', q0, q1, q2⟩
          · subst q0
            refine ⟨(k, ζ), ⟨V, _, c1, f0.trans f1, q1.1, c4.vain (x := 0) (fun t => hb_zero t) q2⟩, fun n => ?_⟩
            simp (disch := omega) only [f_X10_nu_L25, f_X10_nu_J73, f_X10_nu_J65, f_X10_nu_J64, f_X10_nu_J23, vc_168, gI_168_0, pI_168_0, gR_168_1, gI_168_2, pI_168_2, gI_168_3, pI_168_3, gI_168_4, pI_168_4, gI_168_5, pI_168_5, gI_168_6, pI_168_6, gI_168_7, pI_168_7, gR_168_8, gR_168_9, gR_168_10, gR_168_11, gR_168_12, gR_168_13, gI_168_14, pI_168_14, gI_168_15, pI_168_15, gI_168_16, pI_168_16, gR_168_17, gI_168_18, pI_168_18, gR_168_19, gI_168_20, pI_168_20, gI_168_21, pI_168_21, gI_168_22, pI_168_22, gI_168_23, pI_168_23, gR_168_24, gR_168_25, gI_168_26, pI_168_26, gI_168_27, pI_168_27, gR_168_28, gI_168_29, pI_168_29, gI_168_30, pI_168_30, gI_168_31, pI_168_31, gR_168_32, gR_168_33, gR_168_34, gR_168_35, gR_168_36, gR_168_37, gR_168_38, mr_h0, mr_f0, mr_m0, mr_w0, mr_c0, mc_c0, mc_a0, mc_s0, mh_a0_0, mh_s0_0, mh_a0_1, mh_s0_1, mh_a0_2, mh_s0_2, mh_a0_3, mh_s0_3, mh_a0_4, mh_s0_4, ma_f0, ms_f0, ma_m0, ms_m0, ma_w0, ms_w0, m_has, w3, e, er, Int32.add_zero, lt, true_or, or_true, false_or, or_false, Option.bind_some, if_true, if_false, bI_0, bI_1, bI_z, eI_n1, eI_l0, eI_g12, oN_n1, oN_l0, oN_g0, n1_l0, n1_g12, n1_0, n1_n1, z_0, z_1, z_2, z_3, z_4, z_5, z_6, z_7, z_8, z_9, z_a, z_b, z_c, z_d, z_e, z_f, oN_inj, oN_lt, oN_gt, oN_ge, oN_le, i_succ, if_pos, if_neg, c_has, c_bit, Bool.true_eq_false, Bool.false_eq_true, decide_true, decide_false, decide_eq_true_eq, decide_eq_false_iff_not, eI_lt, lle_0, lge_0, llt_0, lgt_0, leq_0, lle_1, lge_1, llt_1, lgt_1, leq_1, lle_2, lge_2, llt_2, lgt_2, leq_2, lle_3, lge_3, llt_3, lgt_3, leq_3, lle_4, lge_4, llt_4, lgt_4, leq_4, lle_5, lge_5, llt_5, lgt_5, leq_5, lle_6, lge_6, llt_6, lgt_6, leq_6, lle_7, lge_7, llt_7, lgt_7, leq_7, lle_11, lge_11, llt_11, lgt_11, leq_11, lle_12, lge_12, llt_12, lgt_12, leq_12, lle_15, lge_15, llt_15, lgt_15, leq_15, lle_20, lge_20, llt_20, lgt_20, leq_20, lle_24, lge_24, llt_24, lgt_24, leq_24, lle_25, lge_25, llt_25, lgt_25, leq_25, lle_31, lge_31, llt_31, lgt_31, leq_31, lle_48, lge_48, llt_48, lgt_48, leq_48, lle_57, lge_57, llt_57, lgt_57, leq_57, lle_32, lge_32, llt_32, lgt_32, leq_32, lle_59, lge_59, llt_59, lgt_59, leq_59, lle_97, lge_97, llt_97, lgt_97, leq_97, lle_122, lge_122, llt_122, lgt_122, leq_122, lle_99, lge_99, llt_99, lgt_99, leq_99, lle_100, lge_100, llt_100, lgt_100, leq_100, lle_144, lge_144, llt_144, lgt_144, leq_144, lle_255, lge_255, llt_255, lgt_255, leq_255, lle_300, lge_300, llt_300, lgt_300, leq_300, lle_1000, lge_1000, llt_1000, lgt_1000, leq_1000, lle_1000000, lge_1000000, llt_1000000, lgt_1000000, leq_1000000, lle_4096, lge_4096, llt_4096, lgt_4096, leq_4096, b_ft]
          · subst q0
            refine ⟨(k + 1, ζ), ⟨V', D, ?_, f0.trans f1, q1.1, c4.got (x := 0) hw (fun t => hb_zero t) q2⟩, fun n => ?_⟩
            · rw [q2.2.2.2.2.1, ← c1]
            · simp (disch := omega) only [f_X10_nu_L25, f_X10_nu_J73, f_X10_nu_J65, f_X10_nu_J64, f_X10_nu_J23, vc_168, gI_168_0, pI_168_0, gR_168_1, gI_168_2, pI_168_2, gI_168_3, pI_168_3, gI_168_4, pI_168_4, gI_168_5, pI_168_5, gI_168_6, pI_168_6, gI_168_7, pI_168_7, gR_168_8, gR_168_9, gR_168_10, gR_168_11, gR_168_12, gR_168_13, gI_168_14, pI_168_14, gI_168_15, pI_168_15, gI_168_16, pI_168_16, gR_168_17, gI_168_18, pI_168_18, gR_168_19, gI_168_20, pI_168_20, gI_168_21, pI_168_21, gI_168_22, pI_168_22, gI_168_23, pI_168_23, gR_168_24, gR_168_25, gI_168_26, pI_168_26, gI_168_27, pI_168_27, gR_168_28, gI_168_29, pI_168_29, gI_168_30, pI_168_30, gI_168_31, pI_168_31, gR_168_32, gR_168_33, gR_168_34, gR_168_35, gR_168_36, gR_168_37, gR_168_38, mr_h0, mr_f0, mr_m0, mr_w0, mr_c0, mc_c0, mc_a0, mc_s0, mh_a0_0, mh_s0_0, mh_a0_1, mh_s0_1, mh_a0_2, mh_s0_2, mh_a0_3, mh_s0_3, mh_a0_4, mh_s0_4, ma_f0, ms_f0, ma_m0, ms_m0, ma_w0, ms_w0, m_has, w3, e, er, lt, true_or, or_true, false_or, or_false, Option.bind_some, if_true, if_false, bI_0, bI_1, bI_z, eI_n1, eI_l0, eI_g12, oN_n1, oN_l0, oN_g0, n1_l0, n1_g12, n1_0, n1_n1, z_0, z_1, z_2, z_3, z_4, z_5, z_6, z_7, z_8, z_9, z_a, z_b, z_c, z_d, z_e, z_f, oN_inj, oN_lt, oN_gt, oN_ge, oN_le, i_succ, if_pos, if_neg, c_has, c_bit, Bool.true_eq_false, Bool.false_eq_true, decide_true, decide_false, decide_eq_true_eq, decide_eq_false_iff_not, eI_lt, lle_0, lge_0, llt_0, lgt_0, leq_0, lle_1, lge_1, llt_1, lgt_1, leq_1, lle_2, lge_2, llt_2, lgt_2, leq_2, lle_3, lge_3, llt_3, lgt_3, leq_3, lle_4, lge_4, llt_4, lgt_4, leq_4, lle_5, lge_5, llt_5, lgt_5, leq_5, lle_6, lge_6, llt_6, lgt_6, leq_6, lle_7, lge_7, llt_7, lgt_7, leq_7, lle_11, lge_11, llt_11, lgt_11, leq_11, lle_12, lge_12, llt_12, lgt_12, leq_12, lle_15, lge_15, llt_15, lgt_15, leq_15, lle_20, lge_20, llt_20, lgt_20, leq_20, lle_24, lge_24, llt_24, lgt_24, leq_24, lle_25, lge_25, llt_25, lgt_25, leq_25, lle_31, lge_31, llt_31, lgt_31, leq_31, lle_48, lge_48, llt_48, lgt_48, leq_48, lle_57, lge_57, llt_57, lgt_57, leq_57, lle_32, lge_32, llt_32, lgt_32, leq_32, lle_59, lge_59, llt_59, lgt_59, leq_59, lle_97, lge_97, llt_97, lgt_97, leq_97, lle_122, lge_122, llt_122, lgt_122, leq_122, lle_99, lge_99, llt_99, lgt_99, leq_99, lle_100, lge_100, llt_100, lgt_100, leq_100, lle_144, lge_144, llt_144, lgt_144, leq_144, lle_255, lge_255, llt_255, lgt_255, leq_255, lle_300, lge_300, llt_300, lgt_300, leq_300, lle_1000, lge_1000, llt_1000, lgt_1000, leq_1000, lle_1000000, lge_1000000, llt_1000000, lgt_1000000, leq_1000000, lle_4096, lge_4096, llt_4096, lgt_4096, leq_4096, b_ft]
      · obtain ⟨k, ξ⟩ := s
        obtain ⟨V, D, c1, c2, c3, c4⟩ := hs
        simp only at c1 c2 c3
        simp (disch := omega) only [f_X10_nu_L25, f_X10_nu_J73, f_X10_nu_J65, f_X10_nu_J64, f_X10_nu_J23, lt, true_or, or_true, false_or, or_false, Option.bind_some, if_true, if_false, bI_0, bI_1, bI_z, eI_n1, eI_l0, eI_g12, oN_n1, oN_l0, oN_g0, n1_l0, n1_g12, n1_0, n1_n1, z_0, z_1, z_2, z_3, z_4, z_5, z_6, z_7, z_8, z_9, z_a, z_b, z_c, z_d, z_e, z_f, oN_inj, oN_lt, oN_gt, oN_ge, oN_le, i_succ, if_pos, if_neg, c_has, c_bit, Bool.true_eq_false, Bool.false_eq_true, decide_true, decide_false, decide_eq_true_eq, decide_eq_false_iff_not, eI_lt, lle_0, lge_0, llt_0, lgt_0, leq_0, lle_1, lge_1, llt_1, lgt_1, leq_1, lle_2, lge_2, llt_2, lgt_2, leq_2, lle_3, lge_3, llt_3, lgt_3, leq_3, lle_4, lge_4, llt_4, lgt_4, leq_4, lle_5, lge_5, llt_5, lgt_5, leq_5, lle_6, lge_6, llt_6, lgt_6, leq_6, lle_7, lge_7, llt_7, lgt_7, leq_7, lle_11, lge_11, llt_11, lgt_11, leq_11, lle_12, lge_12, llt_12, lgt_12, leq_12, lle_15, lge_15, llt_15, lgt_15, leq_15, lle_20, lge_20, llt_20, lgt_20, leq_20, lle_24, lge_24, llt_24, lgt_24, leq_24, lle_25, lge_25, llt_25, lgt_25, leq_25, lle_31, lge_31, llt_31, lgt_31, leq_31, lle_48, lge_48, llt_48, lgt_48, leq_48, lle_57, lge_57, llt_57, lgt_57, leq_57, lle_32, lge_32, llt_32, lgt_32, leq_32, lle_59, lge_59, llt_59, lgt_59, leq_59, lle_97, lge_97, llt_97, lgt_97, leq_97, lle_122, lge_122, llt_122, lgt_122, leq_122, lle_99, lge_99, llt_99, lgt_99, leq_99, lle_100, lge_100, llt_100, lgt_100, leq_100, lle_144, lge_144, llt_144, lgt_144, leq_144, lle_255, lge_255, llt_255, lgt_255, leq_255, lle_300, lge_300, llt_300, lgt_300, leq_300, lle_1000, lge_1000, llt_1000, lgt_1000, leq_1000, lle_1000000, lge_1000000, llt_1000000, lgt_1000000, leq_1000000, lle_4096, lge_4096, llt_4096, lgt_4096, leq_4096, b_ft]
        refine hw_ret ⟨k, ξ, rfl, c2, ?_⟩
        rw [c1]
        exact kn_nu hE c4.1 c4.2.1 c4.2.2.1 c4.2.2.2.1
  obtain ⟨r, e, k, ν, rfl, h⟩ := key
  exact ⟨k, ν, e, h⟩
end Nv
