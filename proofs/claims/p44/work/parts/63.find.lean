/-! SEARCH: find, follow, grow -/
variable {Ξ : xH}
def Ff (q i : Nat) : Prop := q = 146 ∨ q = 147 ∨ q = 148 ∨ (q = 141 ∧ i = 5)
theorem Ff.S {q i : Nat} (h : Ff q i) : FS q i := by unfold Ff at h; unfold FS; omega
theorem SR.ff {μ ν : MM} {n m : Nat} {Wt Tt : Int32} {E : Nat → Nat → Bool} {M : Nat → Nat} (h : SR μ n m Wt Tt E M) (f : Fr Ff μ ν) : SR ν n m Wt Tt E M :=
  h.fr f (fun i a b => by unfold Ff; omega) (fun i => by unfold Ff; omega) (fun i => by unfold Ff; omega) (fun i => by unfold Ff; omega)
theorem oN_dec {a : Nat} (h : 1 ≤ a) : Int32.ofNat a + (-1) = Int32.ofNat (a - 1) := by
  have : Int32.ofNat a = Int32.ofNat (a - 1) + 1 := by rw [i_succ, Nat.sub_add_cancel h]
  rw [this, Int32.add_assoc, show (1 : Int32) + (-1) = 0 by decide, Int32.add_zero]
theorem o_dec0 : Int32.ofNat 0 + (-1) = -1 := by decide
theorem two_mul_oN (a : Nat) : (2 : Int32) * Int32.ofNat a = Int32.ofNat (2 * a) := by rw [show (2 : Int32) = Int32.ofNat 2 from rfl, oN_mul]
section Tr
variable {μ : MM} {n m : Nat} {Wt Tt : Int32} {E : Nat → Nat → Bool} {M : Nat → Nat}
def Ft (q i : Nat) : Prop := q = 148 ∨ (q = 141 ∧ i = 5)
theorem c_trace {d : Nat} {pw pt : Nat → Nat} (hp : PR μ 142 M) (hd : d < 12) (h1 : ∀ i, i ≤ d → pw i < 12 ∧ pt i < 12 ∧ μ.1 147 (pt i) = Int32.ofNat (pw i)) (h2 : ∀ i, i < d → M (pw (i + 1)) = pt i) (h3 : M (pw 0) = 12) :
    ∃ ν, f_X7_trace 141 (Int32.ofNat (pt d)) ((mX Ξ) μ) = some ((mX Ξ) ν) ∧ Fr Ft μ ν ∧ ν.1 141 5 = Int32.ofNat (2 * (d + 1)) ∧ ∀ i, i ≤ d → ν.1 148 (2 * i) = Int32.ofNat (pw i) ∧ ν.1 148 (2 * i + 1) = Int32.ofNat (pt i) := by
  have mw : ∀ i, i ≤ d → M (pw i) = if 1 ≤ i then pt (i - 1) else 12 := fun i hi => by
    by_cases z : 1 ≤ i
    · rw [if_pos z]
      have := h2 (i - 1) (by omega)
      rwa [Nat.sub_add_cancel z] at this
    · rw [if_neg z, show i = 0 by omega]; exact h3
  -- the second loop
  have L51 : ∀ ν0 : MM, Fr Ft μ ν0 → ν0.1 141 5 = Int32.ofNat (2 * (d + 1)) → Hw (f_X7_trace_L51 f_X7_trace_J110 5000 141 (Int32.ofNat (pt d)) (Int32.ofNat d) ((mX Ξ) ν0)) (fun r => ∃ ν, r = (mX Ξ) ν ∧ Fr Ft μ ν ∧ ν.1 141 5 = Int32.ofNat (2 * (d + 1)) ∧ ∀ i, i ≤ d → ν.1 148 (2 * i) = Int32.ofNat (pw i) ∧ ν.1 148 (2 * i + 1) = Int32.ofNat (pt i)) := by
    intro ν0 f0 v0
    refine hw_loop (L := fun n (s : Int32 × Int32 × MM) => f_X7_trace_L51 f_X7_trace_J110 n 141 s.1 s.2.1 ((mX Ξ) s.2.2)) (I := fun k s => k ≤ d + 1 ∧ s.1 = eI (if 1 ≤ k then pt (k - 1) else 12) ∧ s.2.1 = (if 1 ≤ k then Int32.ofNat (k - 1) else -1) ∧ Fr Ft μ s.2.2 ∧ s.2.2.1 141 5 = Int32.ofNat (2 * (d + 1)) ∧ ∀ i, k ≤ i → i ≤ d → s.2.2.1 148 (2 * i) = Int32.ofNat (pw i) ∧ s.2.2.1 148 (2 * i + 1) = Int32.ofNat (pt i)) ?_ (d + 1) (Int32.ofNat (pt d), Int32.ofNat d, ν0) ⟨Nat.le_refl _, ?_, ?_, f0, v0, fun i a b => by omega⟩ 5000 (by omega)
    · rintro k ⟨x, y, ν⟩ ⟨hk, hx, hy, hf, hv, hc⟩
      simp only at hx hy hf hv hc
      cases k with
      | zero =>
        right
        intro n
        rw [if_neg (by omega)] at hx hy
        subst hx; subst hy
        simp (disch := omega) only [f_X7_trace_L51, f_X7_trace_J110, f_X7_trace_J37, lt, true_or, or_true, false_or, or_false, Option.bind_some, if_true, if_false, bI_0, bI_1, bI_z, eI_n1, eI_l0, eI_g12, oN_n1, oN_l0, oN_g0, n1_l0, n1_g12, n1_0, n1_n1, z_0, z_1, z_2, z_3, z_4, z_5, z_6, z_7, z_8, z_9, z_a, z_b, z_c, z_d, z_e, z_f, oN_inj, oN_lt, oN_gt, oN_ge, oN_le, i_succ, if_pos, if_neg, c_has, c_bit, Bool.true_eq_false, Bool.false_eq_true, decide_true, decide_false, decide_eq_true_eq, decide_eq_false_iff_not, eI_lt, lle_0, lge_0, llt_0, lgt_0, leq_0, lle_1, lge_1, llt_1, lgt_1, leq_1, lle_2, lge_2, llt_2, lgt_2, leq_2, lle_3, lge_3, llt_3, lgt_3, leq_3, lle_4, lge_4, llt_4, lgt_4, leq_4, lle_5, lge_5, llt_5, lgt_5, leq_5, lle_6, lge_6, llt_6, lgt_6, leq_6, lle_7, lge_7, llt_7, lgt_7, leq_7, lle_11, lge_11, llt_11, lgt_11, leq_11, lle_12, lge_12, llt_12, lgt_12, leq_12, lle_15, lge_15, llt_15, lgt_15, leq_15, lle_20, lge_20, llt_20, lgt_20, leq_20, lle_24, lge_24, llt_24, lgt_24, leq_24, lle_25, lge_25, llt_25, lgt_25, leq_25, lle_31, lge_31, llt_31, lgt_31, leq_31, lle_48, lge_48, llt_48, lgt_48, leq_48, lle_57, lge_57, llt_57, lgt_57, leq_57, lle_32, lge_32, llt_32, lgt_32, leq_32, lle_59, lge_59, llt_59, lgt_59, leq_59, lle_97, lge_97, llt_97, lgt_97, leq_97, lle_122, lge_122, llt_122, lgt_122, leq_122, lle_99, lge_99, llt_99, lgt_99, leq_99, lle_100, lge_100, llt_100, lgt_100, leq_100, lle_144, lge_144, llt_144, lgt_144, leq_144, lle_255, lge_255, llt_255, lgt_255, leq_255, lle_300, lge_300, llt_300, lgt_300, leq_300, lle_1000, lge_1000, llt_1000, lgt_1000, leq_1000, lle_1000000, lge_1000000, llt_1000000, lgt_1000000, leq_1000000, lle_4096, lge_4096, llt_4096, lgt_4096, leq_4096]
        exact hw_ret ⟨ν, rfl, hf, hv, fun i a => hc i (by omega) a⟩
      | succ k =>
        left
        rw [if_pos (by omega), Nat.add_sub_cancel] at hx hy
        obtain ⟨b1, b2, b3⟩ := h1 k (by omega)
        subst hx; subst hy
        have e1 : ν.1 147 (pt k) = Int32.ofNat (pw k) := by rw [(hf _ _ (by unfold Ft; omega)).1]; exact b3
        have hp' : ∀ ξ, Fr Ft μ ξ → PR ξ 142 M := fun ξ f => hp.fr f (fun i => by unfold Ft; omega) (fun i => by unfold Ft; omega)
        let ν2 := st (st ν 148 (2 * k) (Int32.ofNat (pw k))) 148 (2 * k + 1) (Int32.ofNat (pt k))
        have f2 : Fr Ft μ ν2 := (hf.st (Or.inl rfl)).st (Or.inl rfl)
        have e2 : ν2.1 147 (pt k) = Int32.ofNat (pw k) := by rw [st_ne (Or.inl (by omega)), st_ne (Or.inl (by omega))]; exact e1
        have e3 := c_taskOf (Ξ := Ξ) pr142 (hp' ν2 f2) b1
        refine ⟨k, (eI (M (pw k)), (if 1 ≤ k then Int32.ofNat (k - 1) else -1), ν2), by omega, ⟨by omega, ?_, rfl, f2, ?_, fun i a b => ?_⟩, fun n => ?_⟩
        · show eI (M (pw k)) = _
          rw [mw k (by omega)]
        · show ν2.1 141 5 = _
          rw [st_ne (Or.inl (by omega)), st_ne (Or.inl (by omega))]; exact hv
        · show ν2.1 148 (2 * i) = _ ∧ ν2.1 148 (2 * i + 1) = _
          by_cases z : i = k
          · subst z
            rw [st_ne (Or.inr (by omega)), st_same, st_same]
            exact ⟨rfl, rfl⟩
          · rw [st_ne (Or.inr (by omega)), st_ne (Or.inr (by omega)), st_ne (Or.inr (by omega)), st_ne (Or.inr (by omega))]
            exact hc i (by omega) b
        · have e4 : (Int32.ofNat k + (-1) : Int32) = if 1 ≤ k then Int32.ofNat (k - 1) else -1 := by
            by_cases z : 1 ≤ k
            · rw [if_pos z, oN_dec z]
            · rw [if_neg z, show k = 0 by omega, o_dec0]
          have e5 : (st (st ν 148 (2 * k) (Int32.ofNat (pw k))) 148 (2 * k + 1) (Int32.ofNat (pt k))).1 147 (pt k) = Int32.ofNat (pw k) := e2
          show f_X7_trace_L51 f_X7_trace_J110 (n + 1) 141 (eI (pt k)) (Int32.ofNat k) ((mX Ξ) ν) = f_X7_trace_L51 f_X7_trace_J110 n 141 (eI (M (pw k))) (if 1 ≤ k then Int32.ofNat (k - 1) else -1) ((mX Ξ) ν2)
          rw [← e4]
          simp (disch := omega) only [f_X7_trace_L51, f_X7_trace_J110, f_X7_trace_J37, vc_141, gR_141_0, gR_141_1, gR_141_2, gR_141_3, gR_141_4, gI_141_5, pI_141_5, gI_141_6, pI_141_6, gI_141_7, pI_141_7, gI_141_8, pI_141_8, gI_141_9, pI_141_9, aI_147, sI_147, aI_148, sI_148, c_inLimit_n, b2, two_mul_oN, e1, e5, pr_v pr142, e3, oN_l0, lt, true_or, or_true, false_or, or_false, Option.bind_some, if_true, if_false, bI_0, bI_1, bI_z, eI_n1, eI_l0, eI_g12, oN_n1, oN_l0, oN_g0, n1_l0, n1_g12, n1_0, n1_n1, z_0, z_1, z_2, z_3, z_4, z_5, z_6, z_7, z_8, z_9, z_a, z_b, z_c, z_d, z_e, z_f, oN_inj, oN_lt, oN_gt, oN_ge, oN_le, i_succ, if_pos, if_neg, c_has, c_bit, Bool.true_eq_false, Bool.false_eq_true, decide_true, decide_false, decide_eq_true_eq, decide_eq_false_iff_not, eI_lt, lle_0, lge_0, llt_0, lgt_0, leq_0, lle_1, lge_1, llt_1, lgt_1, leq_1, lle_2, lge_2, llt_2, lgt_2, leq_2, lle_3, lge_3, llt_3, lgt_3, leq_3, lle_4, lge_4, llt_4, lgt_4, leq_4, lle_5, lge_5, llt_5, lgt_5, leq_5, lle_6, lge_6, llt_6, lgt_6, leq_6, lle_7, lge_7, llt_7, lgt_7, leq_7, lle_11, lge_11, llt_11, lgt_11, leq_11, lle_12, lge_12, llt_12, lgt_12, leq_12, lle_15, lge_15, llt_15, lgt_15, leq_15, lle_20, lge_20, llt_20, lgt_20, leq_20, lle_24, lge_24, llt_24, lgt_24, leq_24, lle_25, lge_25, llt_25, lgt_25, leq_25, lle_31, lge_31, llt_31, lgt_31, leq_31, lle_48, lge_48, llt_48, lgt_48, leq_48, lle_57, lge_57, llt_57, lgt_57, leq_57, lle_32, lge_32, llt_32, lgt_32, leq_32, lle_59, lge_59, llt_59, lgt_59, leq_59, lle_97, lge_97, llt_97, lgt_97, leq_97, lle_122, lge_122, llt_122, lgt_122, leq_122, lle_99, lge_99, llt_99, lgt_99, leq_99, lle_100, lge_100, llt_100, lgt_100, leq_100, lle_144, lge_144, llt_144, lgt_144, leq_144, lle_255, lge_255, llt_255, lgt_255, leq_255, lle_300, lge_300, llt_300, lgt_300, leq_300, lle_1000, lge_1000, llt_1000, lgt_1000, leq_1000, lle_1000000, lge_1000000, llt_1000000, lgt_1000000, leq_1000000, lle_4096, lge_4096, llt_4096, lgt_4096, leq_4096]
          rw [e3]
          simp (disch := omega) only [lt, true_or, or_true, false_or, or_false, Option.bind_some, if_true, if_false, bI_0, bI_1, bI_z, eI_n1, eI_l0, eI_g12, oN_n1, oN_l0, oN_g0, n1_l0, n1_g12, n1_0, n1_n1, z_0, z_1, z_2, z_3, z_4, z_5, z_6, z_7, z_8, z_9, z_a, z_b, z_c, z_d, z_e, z_f, oN_inj, oN_lt, oN_gt, oN_ge, oN_le, i_succ, if_pos, if_neg, c_has, c_bit, Bool.true_eq_false, Bool.false_eq_true, decide_true, decide_false, decide_eq_true_eq, decide_eq_false_iff_not, eI_lt, lle_0, lge_0, llt_0, lgt_0, leq_0, lle_1, lge_1, llt_1, lgt_1, leq_1, lle_2, lge_2, llt_2, lgt_2, leq_2, lle_3, lge_3, llt_3, lgt_3, leq_3, lle_4, lge_4, llt_4, lgt_4, leq_4, lle_5, lge_5, llt_5, lgt_5, leq_5, lle_6, lge_6, llt_6, lgt_6, leq_6, lle_7, lge_7, llt_7, lgt_7, leq_7, lle_11, lge_11, llt_11, lgt_11, leq_11, lle_12, lge_12, llt_12, lgt_12, leq_12, lle_15, lge_15, llt_15, lgt_15, leq_15, lle_20, lge_20, llt_20, lgt_20, leq_20, lle_24, lge_24, llt_24, lgt_24, leq_24, lle_25, lge_25, llt_25, lgt_25, leq_25, lle_31, lge_31, llt_31, lgt_31, leq_31, lle_48, lge_48, llt_48, lgt_48, leq_48, lle_57, lge_57, llt_57, lgt_57, leq_57, lle_32, lge_32, llt_32, lgt_32, leq_32, lle_59, lge_59, llt_59, lgt_59, leq_59, lle_97, lge_97, llt_97, lgt_97, leq_97, lle_122, lge_122, llt_122, lgt_122, leq_122, lle_99, lge_99, llt_99, lgt_99, leq_99, lle_100, lge_100, llt_100, lgt_100, leq_100, lle_144, lge_144, llt_144, lgt_144, leq_144, lle_255, lge_255, llt_255, lgt_255, leq_255, lle_300, lge_300, llt_300, lgt_300, leq_300, lle_1000, lge_1000, llt_1000, lgt_1000, leq_1000, lle_1000000, lge_1000000, llt_1000000, lgt_1000000, leq_1000000, lle_4096, lge_4096, llt_4096, lgt_4096, leq_4096]
    · show Int32.ofNat (pt d) = eI _
      rw [if_pos (by omega), Nat.add_sub_cancel, eI_lt (h1 d (Nat.le_refl _)).2.1]
    · show Int32.ofNat d = _
      rw [if_pos (by omega), Nat.add_sub_cancel]
  have : Hw (f_X7_trace 141 (Int32.ofNat (pt d)) ((mX Ξ) μ)) (fun r => ∃ ν, r = (mX Ξ) ν ∧ Fr Ft μ ν ∧ ν.1 141 5 = Int32.ofNat (2 * (d + 1)) ∧ ∀ i, i ≤ d → ν.1 148 (2 * i) = Int32.ofNat (pw i) ∧ ν.1 148 (2 * i + 1) = Int32.ofNat (pt i)) := by
    show Hw (f_X7_trace_L4 f_X7_trace_J37 5000 141 (Int32.ofNat (pt d)) (Int32.ofNat 0) (Int32.ofNat (pt d)) ((mX Ξ) μ)) _
    refine hw_loop (L := fun n (s : Int32 × Int32) => f_X7_trace_L4 f_X7_trace_J37 n 141 (Int32.ofNat (pt d)) s.1 s.2 ((mX Ξ) μ)) (I := fun k s => k ≤ d + 1 ∧ s.1 = Int32.ofNat (d + 1 - k) ∧ s.2 = eI (if 1 ≤ k then pt (k - 1) else 12)) ?_ (d + 1) (Int32.ofNat 0, Int32.ofNat (pt d)) ⟨Nat.le_refl _, by simp, ?_⟩ 5000 (by omega)
    · rintro k ⟨x, y⟩ ⟨hk, hx, hy⟩
      simp only at hx hy
      cases k with
      | zero =>
        right
        intro n
        rw [Nat.sub_zero] at hx
        rw [if_neg (by omega)] at hy
        subst hx; subst hy
        have q : ¬ (12 : Nat) < 12 := by omega
        have e1 : Int32.ofNat (d + 1) - (1 : Int32) = Int32.ofNat d := by rw [show (1 : Int32) = Int32.ofNat 1 from rfl, oN_sub (by omega), Nat.add_sub_cancel]
        simp (disch := omega) only [f_X7_trace_L4, f_X7_trace_J110, f_X7_trace_J37, vc_141, gR_141_0, gR_141_1, gR_141_2, gR_141_3, gR_141_4, gI_141_5, pI_141_5, gI_141_6, pI_141_6, gI_141_7, pI_141_7, gI_141_8, pI_141_8, gI_141_9, pI_141_9, c_inLimit_e, q, two_mul_oN, e1, lt, true_or, or_true, false_or, or_false, Option.bind_some, if_true, if_false, bI_0, bI_1, bI_z, eI_n1, eI_l0, eI_g12, oN_n1, oN_l0, oN_g0, n1_l0, n1_g12, n1_0, n1_n1, z_0, z_1, z_2, z_3, z_4, z_5, z_6, z_7, z_8, z_9, z_a, z_b, z_c, z_d, z_e, z_f, oN_inj, oN_lt, oN_gt, oN_ge, oN_le, i_succ, if_pos, if_neg, c_has, c_bit, Bool.true_eq_false, Bool.false_eq_true, decide_true, decide_false, decide_eq_true_eq, decide_eq_false_iff_not, eI_lt, lle_0, lge_0, llt_0, lgt_0, leq_0, lle_1, lge_1, llt_1, lgt_1, leq_1, lle_2, lge_2, llt_2, lgt_2, leq_2, lle_3, lge_3, llt_3, lgt_3, leq_3, lle_4, lge_4, llt_4, lgt_4, leq_4, lle_5, lge_5, llt_5, lgt_5, leq_5, lle_6, lge_6, llt_6, lgt_6, leq_6, lle_7, lge_7, llt_7, lgt_7, leq_7, lle_11, lge_11, llt_11, lgt_11, leq_11, lle_12, lge_12, llt_12, lgt_12, leq_12, lle_15, lge_15, llt_15, lgt_15, leq_15, lle_20, lge_20, llt_20, lgt_20, leq_20, lle_24, lge_24, llt_24, lgt_24, leq_24, lle_25, lge_25, llt_25, lgt_25, leq_25, lle_31, lge_31, llt_31, lgt_31, leq_31, lle_48, lge_48, llt_48, lgt_48, leq_48, lle_57, lge_57, llt_57, lgt_57, leq_57, lle_32, lge_32, llt_32, lgt_32, leq_32, lle_59, lge_59, llt_59, lgt_59, leq_59, lle_97, lge_97, llt_97, lgt_97, leq_97, lle_122, lge_122, llt_122, lgt_122, leq_122, lle_99, lge_99, llt_99, lgt_99, leq_99, lle_100, lge_100, llt_100, lgt_100, leq_100, lle_144, lge_144, llt_144, lgt_144, leq_144, lle_255, lge_255, llt_255, lgt_255, leq_255, lle_300, lge_300, llt_300, lgt_300, leq_300, lle_1000, lge_1000, llt_1000, lgt_1000, leq_1000, lle_1000000, lge_1000000, llt_1000000, lgt_1000000, leq_1000000, lle_4096, lge_4096, llt_4096, lgt_4096, leq_4096]
        refine L51 _ ((Fr.refl _ _).st (Or.inr ⟨rfl, rfl⟩)) (st_same _ _ _ _)
      | succ k =>
        left
        rw [if_pos (by omega), Nat.add_sub_cancel] at hy
        obtain ⟨b1, b2, b3⟩ := h1 k (by omega)
        subst hx; subst hy
        refine ⟨k, (Int32.ofNat (d + 1 - k), eI (M (pw k))), by omega, ⟨by omega, rfl, ?_⟩, fun n => ?_⟩
        · show eI (M (pw k)) = _
          rw [mw k (by omega)]
        · have e6 : d + 1 - (k + 1) + 1 = d + 1 - k := by omega
          show f_X7_trace_L4 f_X7_trace_J37 (n + 1) 141 (Int32.ofNat (pt d)) (Int32.ofNat (d + 1 - (k + 1))) (eI (pt k)) ((mX Ξ) μ) = f_X7_trace_L4 f_X7_trace_J37 n 141 (Int32.ofNat (pt d)) (Int32.ofNat (d + 1 - k)) (eI (M (pw k))) ((mX Ξ) μ)
          simp (disch := omega) only [f_X7_trace_L4, vc_141, gR_141_0, gR_141_1, gR_141_2, gR_141_3, gR_141_4, gI_141_5, pI_141_5, gI_141_6, pI_141_6, gI_141_7, pI_141_7, gI_141_8, pI_141_8, gI_141_9, pI_141_9, aI_147, sI_147, c_inLimit_n, b2, b3, pr_v pr142, c_taskOf pr142 hp, e6, lt, true_or, or_true, false_or, or_false, Option.bind_some, if_true, if_false, bI_0, bI_1, bI_z, eI_n1, eI_l0, eI_g12, oN_n1, oN_l0, oN_g0, n1_l0, n1_g12, n1_0, n1_n1, z_0, z_1, z_2, z_3, z_4, z_5, z_6, z_7, z_8, z_9, z_a, z_b, z_c, z_d, z_e, z_f, oN_inj, oN_lt, oN_gt, oN_ge, oN_le, i_succ, if_pos, if_neg, c_has, c_bit, Bool.true_eq_false, Bool.false_eq_true, decide_true, decide_false, decide_eq_true_eq, decide_eq_false_iff_not, eI_lt, lle_0, lge_0, llt_0, lgt_0, leq_0, lle_1, lge_1, llt_1, lgt_1, leq_1, lle_2, lge_2, llt_2, lgt_2, leq_2, lle_3, lge_3, llt_3, lgt_3, leq_3, lle_4, lge_4, llt_4, lgt_4, leq_4, lle_5, lge_5, llt_5, lgt_5, leq_5, lle_6, lge_6, llt_6, lgt_6, leq_6, lle_7, lge_7, llt_7, lgt_7, leq_7, lle_11, lge_11, llt_11, lgt_11, leq_11, lle_12, lge_12, llt_12, lgt_12, leq_12, lle_15, lge_15, llt_15, lgt_15, leq_15, lle_20, lge_20, llt_20, lgt_20, leq_20, lle_24, lge_24, llt_24, lgt_24, leq_24, lle_25, lge_25, llt_25, lgt_25, leq_25, lle_31, lge_31, llt_31, lgt_31, leq_31, lle_48, lge_48, llt_48, lgt_48, leq_48, lle_57, lge_57, llt_57, lgt_57, leq_57, lle_32, lge_32, llt_32, lgt_32, leq_32, lle_59, lge_59, llt_59, lgt_59, leq_59, lle_97, lge_97, llt_97, lgt_97, leq_97, lle_122, lge_122, llt_122, lgt_122, leq_122, lle_99, lge_99, llt_99, lgt_99, leq_99, lle_100, lge_100, llt_100, lgt_100, leq_100, lle_144, lge_144, llt_144, lgt_144, leq_144, lle_255, lge_255, llt_255, lgt_255, leq_255, lle_300, lge_300, llt_300, lgt_300, leq_300, lle_1000, lge_1000, llt_1000, lgt_1000, leq_1000, lle_1000000, lge_1000000, llt_1000000, lgt_1000000, leq_1000000, lle_4096, lge_4096, llt_4096, lgt_4096, leq_4096]
    · show Int32.ofNat (pt d) = eI _
      rw [if_pos (by omega), Nat.add_sub_cancel, eI_lt (h1 d (Nat.le_refl _)).2.1]
  obtain ⟨r, e, ν, rfl, a1, a2, a3⟩ := this
  exact ⟨ν, e, a1, a2, a3⟩
end Tr
