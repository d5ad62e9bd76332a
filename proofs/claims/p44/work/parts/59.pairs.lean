/-! PAIRS: their methods -/
variable {Ξ : xH}
theorem c_inLimit_n {k : Nat} {h : xH} (hk : k < 2147483648) : f_X9_inLimit (Int32.ofNat k) h = some (bI (decide (k < 12)), h) := by
  by_cases q : k < 12
  · simp (disch := omega) only [f_X9_inLimit, f_X9_inLimit_J15, f_X9_inLimit_J14, q, lt, true_or, or_true, false_or, or_false, Option.bind_some, if_true, if_false, bI_0, bI_1, bI_z, eI_n1, eI_l0, eI_g12, oN_n1, oN_l0, oN_g0, n1_l0, n1_g12, n1_0, n1_n1, z_0, z_1, z_2, z_3, z_4, z_5, z_6, z_7, z_8, z_9, z_a, z_b, z_c, z_d, z_e, z_f, oN_inj, oN_lt, oN_gt, oN_ge, oN_le, i_succ, if_pos, if_neg, c_has, c_bit, Bool.true_eq_false, Bool.false_eq_true, decide_true, decide_false, decide_eq_true_eq, decide_eq_false_iff_not, eI_lt, lle_0, lge_0, llt_0, lgt_0, leq_0, lle_1, lge_1, llt_1, lgt_1, leq_1, lle_2, lge_2, llt_2, lgt_2, leq_2, lle_3, lge_3, llt_3, lgt_3, leq_3, lle_4, lge_4, llt_4, lgt_4, leq_4, lle_5, lge_5, llt_5, lgt_5, leq_5, lle_6, lge_6, llt_6, lgt_6, leq_6, lle_7, lge_7, llt_7, lgt_7, leq_7, lle_11, lge_11, llt_11, lgt_11, leq_11, lle_12, lge_12, llt_12, lgt_12, leq_12, lle_15, lge_15, llt_15, lgt_15, leq_15, lle_20, lge_20, llt_20, lgt_20, leq_20, lle_24, lge_24, llt_24, lgt_24, leq_24, lle_25, lge_25, llt_25, lgt_25, leq_25, lle_31, lge_31, llt_31, lgt_31, leq_31, lle_48, lge_48, llt_48, lgt_48, leq_48, lle_57, lge_57, llt_57, lgt_57, leq_57, lle_32, lge_32, llt_32, lgt_32, leq_32, lle_59, lge_59, llt_59, lgt_59, leq_59, lle_97, lge_97, llt_97, lgt_97, leq_97, lle_122, lge_122, llt_122, lgt_122, leq_122, lle_99, lge_99, llt_99, lgt_99, leq_99, lle_100, lge_100, llt_100, lgt_100, leq_100, lle_144, lge_144, llt_144, lgt_144, leq_144, lle_255, lge_255, llt_255, lgt_255, leq_255, lle_300, lge_300, llt_300, lgt_300, leq_300, lle_1000, lge_1000, llt_1000, lgt_1000, leq_1000, lle_1000000, lge_1000000, llt_1000000, lgt_1000000, leq_1000000, lle_4096, lge_4096, llt_4096, lgt_4096, leq_4096]
    rfl
  · simp (disch := omega) only [f_X9_inLimit, f_X9_inLimit_J15, f_X9_inLimit_J14, q, lt, true_or, or_true, false_or, or_false, Option.bind_some, if_true, if_false, bI_0, bI_1, bI_z, eI_n1, eI_l0, eI_g12, oN_n1, oN_l0, oN_g0, n1_l0, n1_g12, n1_0, n1_n1, z_0, z_1, z_2, z_3, z_4, z_5, z_6, z_7, z_8, z_9, z_a, z_b, z_c, z_d, z_e, z_f, oN_inj, oN_lt, oN_gt, oN_ge, oN_le, i_succ, if_pos, if_neg, c_has, c_bit, Bool.true_eq_false, Bool.false_eq_true, decide_true, decide_false, decide_eq_true_eq, decide_eq_false_iff_not, eI_lt, lle_0, lge_0, llt_0, lgt_0, leq_0, lle_1, lge_1, llt_1, lgt_1, leq_1, lle_2, lge_2, llt_2, lgt_2, leq_2, lle_3, lge_3, llt_3, lgt_3, leq_3, lle_4, lge_4, llt_4, lgt_4, leq_4, lle_5, lge_5, llt_5, lgt_5, leq_5, lle_6, lge_6, llt_6, lgt_6, leq_6, lle_7, lge_7, llt_7, lgt_7, leq_7, lle_11, lge_11, llt_11, lgt_11, leq_11, lle_12, lge_12, llt_12, lgt_12, leq_12, lle_15, lge_15, llt_15, lgt_15, leq_15, lle_20, lge_20, llt_20, lgt_20, leq_20, lle_24, lge_24, llt_24, lgt_24, leq_24, lle_25, lge_25, llt_25, lgt_25, leq_25, lle_31, lge_31, llt_31, lgt_31, leq_31, lle_48, lge_48, llt_48, lgt_48, leq_48, lle_57, lge_57, llt_57, lgt_57, leq_57, lle_32, lge_32, llt_32, lgt_32, leq_32, lle_59, lge_59, llt_59, lgt_59, leq_59, lle_97, lge_97, llt_97, lgt_97, leq_97, lle_122, lge_122, llt_122, lgt_122, leq_122, lle_99, lge_99, llt_99, lgt_99, leq_99, lle_100, lge_100, llt_100, lgt_100, leq_100, lle_144, lge_144, llt_144, lgt_144, leq_144, lle_255, lge_255, llt_255, lgt_255, leq_255, lle_300, lge_300, llt_300, lgt_300, leq_300, lle_1000, lge_1000, llt_1000, lgt_1000, leq_1000, lle_1000000, lge_1000000, llt_1000000, lgt_1000000, leq_1000000, lle_4096, lge_4096, llt_4096, lgt_4096, leq_4096]
    rfl
theorem c_inLimit_e {k : Nat} {h : xH} : f_X9_inLimit (eI k) h = some (bI (decide (k < 12)), h) := by
  by_cases q : k < 12
  · rw [eI_lt q, c_inLimit_n (by omega)]
  · rw [eI_ge (by omega)]
    simp only [q, decide_false]
    rfl
section P
variable {p : Nat} {μ : MM} {i : Nat} {v : Int32}
theorem pr_1 (h : prOK shI p = true) : gR ((mX Ξ) μ) 3 p 0 = some (p + 1) := gR_x (prOK_spec h).2.1
theorem pr_2 (h : prOK shI p = true) : gR ((mX Ξ) μ) 3 p 1 = some (p + 2) := gR_x (prOK_spec h).2.2.1
theorem pr_v {β : Type} {o : Option β} (h : prOK shI p = true) : vc ((mX Ξ) μ) 3 p o = o := vc_x (prOK_spec h).1
theorem pr_a1 (h : prOK shI p = true) (hi : i < 12) : aI ((mX Ξ) μ) (p + 1) (Int32.ofNat i) = some (μ.1 (p + 1) i) := aI_kx (prOK_spec h).2.2.2.1 hi (by decide)
theorem pr_a2 (h : prOK shI p = true) (hi : i < 12) : aI ((mX Ξ) μ) (p + 2) (Int32.ofNat i) = some (μ.1 (p + 2) i) := aI_kx (prOK_spec h).2.2.2.2 hi (by decide)
theorem pr_s1 (h : prOK shI p = true) (hi : i < 12) : sI ((mX Ξ) μ) (p + 1) (Int32.ofNat i) v = some ((mX Ξ) (st μ (p + 1) i v)) := sI_kx (prOK_spec h).2.2.2.1 hi (by decide)
theorem pr_s2 (h : prOK shI p = true) (hi : i < 12) : sI ((mX Ξ) μ) (p + 2) (Int32.ofNat i) v = some ((mX Ξ) (st μ (p + 2) i v)) := sI_kx (prOK_spec h).2.2.2.2 hi (by decide)
end P
/-- the pairs that stand at p -/
def PR (μ : MM) (p : Nat) (M : Nat → Nat) : Prop := Mt M ∧ (∀ w, w < 12 → μ.1 (p + 1) w = eI (M w)) ∧ ∀ t, t < 12 → μ.1 (p + 2) t = eI (ow M t)
def FP (p : Nat) (q _i : Nat) : Prop := q = p + 1 ∨ q = p + 2
theorem PR.fr {μ ν : MM} {p : Nat} {M : Nat → Nat} {P : Nat → Nat → Prop} (h : PR μ p M) (f : Fr P μ ν) (h1 : ∀ i, ¬ P (p + 1) i) (h2 : ∀ i, ¬ P (p + 2) i) : PR ν p M :=
  ⟨h.1, fun w hw => by rw [(f _ _ (h1 w)).1]; exact h.2.1 w hw, fun t ht => by rw [(f _ _ (h2 t)).1]; exact h.2.2 t ht⟩
/-- a worker and a task become a pair, what they had is none -/
def jo (M : Nat → Nat) (w t : Nat) : Nat → Nat := fun x => if x = w then t else if M x = t then 12 else M x
theorem jo_Mt {M : Nat → Nat} {w t : Nat} (h : Mt M) (hw : w < 12) (ht : t < 12) : Mt (jo M w t) := by
  refine ⟨fun x => ?_, fun x hx => ?_, fun x y q e => ?_⟩
  · unfold jo; split
    · omega
    · split
      · omega
      · exact h.1 x
  · unfold jo; rw [if_neg (by omega)]; split
    · rfl
    · exact h.2.1 x hx
  · unfold jo at q e
    by_cases h1 : x = w
    · by_cases h2 : y = w
      · rw [h1, h2]
      · rw [if_pos h1, if_neg h2] at e
        split at e
        · omega
        · rename_i n; exact absurd e.symm n
    · rw [if_neg h1] at q e
      split at q
      · omega
      · rename_i n
        rw [if_neg n] at e
        by_cases h2 : y = w
        · rw [if_pos h2] at e; exact absurd e n
        · rw [if_neg h2] at e
          split at e
          · omega
          · exact h.2.2 x y q e
theorem jo_ow {M : Nat → Nat} {w t s : Nat} (h : Mt M) (hw : w < 12) (ht : t < 12) (hs : s < 12) : ow (jo M w t) s = if s = t then w else if ow M s = w then 12 else ow M s := by
  by_cases h1 : s = t
  · rw [if_pos h1, h1]
    exact (ow_iff (jo_Mt h hw ht) ht hw).mpr (if_pos rfl)
  · rw [if_neg h1]
    by_cases h2 : ow M s = w
    · rw [if_pos h2]
      refine ow_none.mpr fun x hx z => ?_
      unfold jo at z
      split at z
      · exact h1 z.symm
      · split at z
        · omega
        · rename_i n _
          have := (ow_iff h hs hx).mpr z
          rw [h2] at this; exact n this.symm
    · rw [if_neg h2]
      refine fi_congr fun x hx => ?_
      unfold jo
      by_cases e : x = w
      · rw [if_pos e]
        have : M w ≠ s := fun z => h2 ((ow_iff h hs hw).mpr z)
        rw [e]; simp [this, Ne.symm h1]
      · rw [if_neg e]
        by_cases e2 : M x = t
        · rw [if_pos e2, e2]
          have : (12 : Nat) ≠ s := by omega
          simp [this, Ne.symm h1]
        · rw [if_neg e2]
theorem dr_ow {M : Nat → Nat} {w s : Nat} (h : Mt M) (hs : s < 12) : ow (up M w 12) s = if M w = s then 12 else ow M s := by
  by_cases h1 : M w = s
  · rw [if_pos h1, ← h1]
    exact ow_drop h (by omega)
  · rw [if_neg h1, ow_up_ne (by omega) (Ne.symm h1)]
theorem dr_Mt {M : Nat → Nat} (h : Mt M) (w : Nat) : Mt (up M w 12) := (drop_Ms (E := fun _ _ => true) ⟨h, fun _ _ => rfl⟩ w).1
section PM
variable {p : Nat} {μ : MM} {M : Nat → Nat}
theorem c_taskOf (hp : prOK shI p = true) (h : PR μ p M) {w : Nat} (hw : w < 12) : f_X3_taskOf p (Int32.ofNat w) ((mX Ξ) μ) = some (eI (M w), (mX Ξ) μ) := by
  simp (disch := omega) only [f_X3_taskOf, f_X3_taskOf_J20, f_X3_taskOf_J19, pr_v hp, pr_1 hp, pr_2 hp, pr_a1 hp, pr_a2 hp, pr_s1 hp, pr_s2 hp, lt, true_or, or_true, false_or, or_false, Option.bind_some, if_true, if_false, bI_0, bI_1, bI_z, eI_n1, eI_l0, eI_g12, oN_n1, oN_l0, oN_g0, n1_l0, n1_g12, n1_0, n1_n1, z_0, z_1, z_2, z_3, z_4, z_5, z_6, z_7, z_8, z_9, z_a, z_b, z_c, z_d, z_e, z_f, oN_inj, oN_lt, oN_gt, oN_ge, oN_le, i_succ, if_pos, if_neg, c_has, c_bit, Bool.true_eq_false, Bool.false_eq_true, decide_true, decide_false, decide_eq_true_eq, decide_eq_false_iff_not, eI_lt, lle_0, lge_0, llt_0, lgt_0, leq_0, lle_1, lge_1, llt_1, lgt_1, leq_1, lle_2, lge_2, llt_2, lgt_2, leq_2, lle_3, lge_3, llt_3, lgt_3, leq_3, lle_4, lge_4, llt_4, lgt_4, leq_4, lle_5, lge_5, llt_5, lgt_5, leq_5, lle_6, lge_6, llt_6, lgt_6, leq_6, lle_7, lge_7, llt_7, lgt_7, leq_7, lle_11, lge_11, llt_11, lgt_11, leq_11, lle_12, lge_12, llt_12, lgt_12, leq_12, lle_15, lge_15, llt_15, lgt_15, leq_15, lle_20, lge_20, llt_20, lgt_20, leq_20, lle_24, lge_24, llt_24, lgt_24, leq_24, lle_25, lge_25, llt_25, lgt_25, leq_25, lle_31, lge_31, llt_31, lgt_31, leq_31, lle_48, lge_48, llt_48, lgt_48, leq_48, lle_57, lge_57, llt_57, lgt_57, leq_57, lle_32, lge_32, llt_32, lgt_32, leq_32, lle_59, lge_59, llt_59, lgt_59, leq_59, lle_97, lge_97, llt_97, lgt_97, leq_97, lle_122, lge_122, llt_122, lgt_122, leq_122, lle_99, lge_99, llt_99, lgt_99, leq_99, lle_100, lge_100, llt_100, lgt_100, leq_100, lle_144, lge_144, llt_144, lgt_144, leq_144, lle_255, lge_255, llt_255, lgt_255, leq_255, lle_300, lge_300, llt_300, lgt_300, leq_300, lle_1000, lge_1000, llt_1000, lgt_1000, leq_1000, lle_1000000, lge_1000000, llt_1000000, lgt_1000000, leq_1000000, lle_4096, lge_4096, llt_4096, lgt_4096, leq_4096]
  rw [h.2.1 w hw]
theorem c_taskOf_e (hp : prOK shI p = true) (h : PR μ p M) {k : Nat} (hk : k ≤ 12) : f_X3_taskOf p (eI k) ((mX Ξ) μ) = some (eI (M k), (mX Ξ) μ) := by
  by_cases q : k < 12
  · rw [eI_lt q]; exact c_taskOf hp h q
  · rw [eI_ge (by omega), h.1.2.1 k (by omega)]; rfl
theorem c_workerOf (hp : prOK shI p = true) (h : PR μ p M) {t : Nat} (ht : t < 12) : f_X3_workerOf p (Int32.ofNat t) ((mX Ξ) μ) = some (eI (ow M t), (mX Ξ) μ) := by
  simp (disch := omega) only [f_X3_workerOf, f_X3_workerOf_J20, f_X3_workerOf_J19, pr_v hp, pr_1 hp, pr_2 hp, pr_a1 hp, pr_a2 hp, pr_s1 hp, pr_s2 hp, lt, true_or, or_true, false_or, or_false, Option.bind_some, if_true, if_false, bI_0, bI_1, bI_z, eI_n1, eI_l0, eI_g12, oN_n1, oN_l0, oN_g0, n1_l0, n1_g12, n1_0, n1_n1, z_0, z_1, z_2, z_3, z_4, z_5, z_6, z_7, z_8, z_9, z_a, z_b, z_c, z_d, z_e, z_f, oN_inj, oN_lt, oN_gt, oN_ge, oN_le, i_succ, if_pos, if_neg, c_has, c_bit, Bool.true_eq_false, Bool.false_eq_true, decide_true, decide_false, decide_eq_true_eq, decide_eq_false_iff_not, eI_lt, lle_0, lge_0, llt_0, lgt_0, leq_0, lle_1, lge_1, llt_1, lgt_1, leq_1, lle_2, lge_2, llt_2, lgt_2, leq_2, lle_3, lge_3, llt_3, lgt_3, leq_3, lle_4, lge_4, llt_4, lgt_4, leq_4, lle_5, lge_5, llt_5, lgt_5, leq_5, lle_6, lge_6, llt_6, lgt_6, leq_6, lle_7, lge_7, llt_7, lgt_7, leq_7, lle_11, lge_11, llt_11, lgt_11, leq_11, lle_12, lge_12, llt_12, lgt_12, leq_12, lle_15, lge_15, llt_15, lgt_15, leq_15, lle_20, lge_20, llt_20, lgt_20, leq_20, lle_24, lge_24, llt_24, lgt_24, leq_24, lle_25, lge_25, llt_25, lgt_25, leq_25, lle_31, lge_31, llt_31, lgt_31, leq_31, lle_48, lge_48, llt_48, lgt_48, leq_48, lle_57, lge_57, llt_57, lgt_57, leq_57, lle_32, lge_32, llt_32, lgt_32, leq_32, lle_59, lge_59, llt_59, lgt_59, leq_59, lle_97, lge_97, llt_97, lgt_97, leq_97, lle_122, lge_122, llt_122, lgt_122, leq_122, lle_99, lge_99, llt_99, lgt_99, leq_99, lle_100, lge_100, llt_100, lgt_100, leq_100, lle_144, lge_144, llt_144, lgt_144, leq_144, lle_255, lge_255, llt_255, lgt_255, leq_255, lle_300, lge_300, llt_300, lgt_300, leq_300, lle_1000, lge_1000, llt_1000, lgt_1000, leq_1000, lle_1000000, lge_1000000, llt_1000000, lgt_1000000, leq_1000000, lle_4096, lge_4096, llt_4096, lgt_4096, leq_4096]
  rw [h.2.2 t ht]
theorem c_workerOf_e (hp : prOK shI p = true) (h : PR μ p M) {k : Nat} (hk : k ≤ 12) : f_X3_workerOf p (eI k) ((mX Ξ) μ) = some (eI (if k < 12 then ow M k else 12), (mX Ξ) μ) := by
  by_cases q : k < 12
  · rw [eI_lt q, if_pos q]; exact c_workerOf hp h q
  · rw [eI_ge (by omega), if_neg q]; rfl
theorem c_loosenWorker (hp : prOK shI p = true) (h : PR μ p M) {k : Nat} (hk : k ≤ 12) : ∃ ν, f_X3_loosenWorker p (eI k) ((mX Ξ) μ) = some ((mX Ξ) ν) ∧ PR ν p (up M k 12) ∧ Fr (FP p) μ ν := by
  by_cases q : k < 12
  · by_cases q2 : M k < 12
    · refine ⟨st (st μ (p + 1) k (-1)) (p + 2) (M k) (-1), ?_, ⟨dr_Mt h.1 k, fun w hw => ?_, fun t ht => ?_⟩, ((Fr.refl _ _).st (Or.inl rfl)).st (Or.inr rfl)⟩
      · simp (disch := omega) only [f_X3_loosenWorker, f_X3_loosenWorker_J34, pr_v hp, pr_1 hp, pr_2 hp, pr_a1 hp, pr_a2 hp, pr_s1 hp, pr_s2 hp, c_taskOf hp h, c_taskOf_e hp h, c_inLimit_n, c_inLimit_e, q, q2, lt, true_or, or_true, false_or, or_false, Option.bind_some, if_true, if_false, bI_0, bI_1, bI_z, eI_n1, eI_l0, eI_g12, oN_n1, oN_l0, oN_g0, n1_l0, n1_g12, n1_0, n1_n1, z_0, z_1, z_2, z_3, z_4, z_5, z_6, z_7, z_8, z_9, z_a, z_b, z_c, z_d, z_e, z_f, oN_inj, oN_lt, oN_gt, oN_ge, oN_le, i_succ, if_pos, if_neg, c_has, c_bit, Bool.true_eq_false, Bool.false_eq_true, decide_true, decide_false, decide_eq_true_eq, decide_eq_false_iff_not, eI_lt, lle_0, lge_0, llt_0, lgt_0, leq_0, lle_1, lge_1, llt_1, lgt_1, leq_1, lle_2, lge_2, llt_2, lgt_2, leq_2, lle_3, lge_3, llt_3, lgt_3, leq_3, lle_4, lge_4, llt_4, lgt_4, leq_4, lle_5, lge_5, llt_5, lgt_5, leq_5, lle_6, lge_6, llt_6, lgt_6, leq_6, lle_7, lge_7, llt_7, lgt_7, leq_7, lle_11, lge_11, llt_11, lgt_11, leq_11, lle_12, lge_12, llt_12, lgt_12, leq_12, lle_15, lge_15, llt_15, lgt_15, leq_15, lle_20, lge_20, llt_20, lgt_20, leq_20, lle_24, lge_24, llt_24, lgt_24, leq_24, lle_25, lge_25, llt_25, lgt_25, leq_25, lle_31, lge_31, llt_31, lgt_31, leq_31, lle_48, lge_48, llt_48, lgt_48, leq_48, lle_57, lge_57, llt_57, lgt_57, leq_57, lle_32, lge_32, llt_32, lgt_32, leq_32, lle_59, lge_59, llt_59, lgt_59, leq_59, lle_97, lge_97, llt_97, lgt_97, leq_97, lle_122, lge_122, llt_122, lgt_122, leq_122, lle_99, lge_99, llt_99, lgt_99, leq_99, lle_100, lge_100, llt_100, lgt_100, leq_100, lle_144, lge_144, llt_144, lgt_144, leq_144, lle_255, lge_255, llt_255, lgt_255, leq_255, lle_300, lge_300, llt_300, lgt_300, leq_300, lle_1000, lge_1000, llt_1000, lgt_1000, leq_1000, lle_1000000, lge_1000000, llt_1000000, lgt_1000000, leq_1000000, lle_4096, lge_4096, llt_4096, lgt_4096, leq_4096]
      · rw [st_ne (Or.inl (by omega)), st_at]
        by_cases e : w = k
        · rw [if_pos ⟨rfl, e⟩, e, up_same]; rfl
        · rw [if_neg (fun z => e z.2), up_ne e]; exact h.2.1 w hw
      · rw [st_at, dr_ow h.1 ht]
        by_cases e : M k = t
        · rw [if_pos ⟨rfl, e.symm⟩, if_pos e]; rfl
        · rw [if_neg (fun z => e z.2.symm), if_neg e, st_ne (Or.inl (by omega))]; exact h.2.2 t ht
    · refine ⟨μ, ?_, ?_, Fr.refl _ _⟩
      · simp (disch := omega) only [f_X3_loosenWorker, f_X3_loosenWorker_J34, pr_v hp, pr_1 hp, pr_2 hp, pr_a1 hp, pr_a2 hp, pr_s1 hp, pr_s2 hp, c_taskOf hp h, c_taskOf_e hp h, c_inLimit_n, c_inLimit_e, q, q2, lt, true_or, or_true, false_or, or_false, Option.bind_some, if_true, if_false, bI_0, bI_1, bI_z, eI_n1, eI_l0, eI_g12, oN_n1, oN_l0, oN_g0, n1_l0, n1_g12, n1_0, n1_n1, z_0, z_1, z_2, z_3, z_4, z_5, z_6, z_7, z_8, z_9, z_a, z_b, z_c, z_d, z_e, z_f, oN_inj, oN_lt, oN_gt, oN_ge, oN_le, i_succ, if_pos, if_neg, c_has, c_bit, Bool.true_eq_false, Bool.false_eq_true, decide_true, decide_false, decide_eq_true_eq, decide_eq_false_iff_not, eI_lt, lle_0, lge_0, llt_0, lgt_0, leq_0, lle_1, lge_1, llt_1, lgt_1, leq_1, lle_2, lge_2, llt_2, lgt_2, leq_2, lle_3, lge_3, llt_3, lgt_3, leq_3, lle_4, lge_4, llt_4, lgt_4, leq_4, lle_5, lge_5, llt_5, lgt_5, leq_5, lle_6, lge_6, llt_6, lgt_6, leq_6, lle_7, lge_7, llt_7, lgt_7, leq_7, lle_11, lge_11, llt_11, lgt_11, leq_11, lle_12, lge_12, llt_12, lgt_12, leq_12, lle_15, lge_15, llt_15, lgt_15, leq_15, lle_20, lge_20, llt_20, lgt_20, leq_20, lle_24, lge_24, llt_24, lgt_24, leq_24, lle_25, lge_25, llt_25, lgt_25, leq_25, lle_31, lge_31, llt_31, lgt_31, leq_31, lle_48, lge_48, llt_48, lgt_48, leq_48, lle_57, lge_57, llt_57, lgt_57, leq_57, lle_32, lge_32, llt_32, lgt_32, leq_32, lle_59, lge_59, llt_59, lgt_59, leq_59, lle_97, lge_97, llt_97, lgt_97, leq_97, lle_122, lge_122, llt_122, lgt_122, leq_122, lle_99, lge_99, llt_99, lgt_99, leq_99, lle_100, lge_100, llt_100, lgt_100, leq_100, lle_144, lge_144, llt_144, lgt_144, leq_144, lle_255, lge_255, llt_255, lgt_255, leq_255, lle_300, lge_300, llt_300, lgt_300, leq_300, lle_1000, lge_1000, llt_1000, lgt_1000, leq_1000, lle_1000000, lge_1000000, llt_1000000, lgt_1000000, leq_1000000, lle_4096, lge_4096, llt_4096, lgt_4096, leq_4096]
      · rw [up_eq (by have := h.1.1 k; omega)]; exact h
  · refine ⟨μ, ?_, ?_, Fr.refl _ _⟩
    · simp (disch := omega) only [f_X3_loosenWorker, f_X3_loosenWorker_J34, pr_v hp, pr_1 hp, pr_2 hp, pr_a1 hp, pr_a2 hp, pr_s1 hp, pr_s2 hp, c_taskOf hp h, c_taskOf_e hp h, c_inLimit_n, c_inLimit_e, q, lt, true_or, or_true, false_or, or_false, Option.bind_some, if_true, if_false, bI_0, bI_1, bI_z, eI_n1, eI_l0, eI_g12, oN_n1, oN_l0, oN_g0, n1_l0, n1_g12, n1_0, n1_n1, z_0, z_1, z_2, z_3, z_4, z_5, z_6, z_7, z_8, z_9, z_a, z_b, z_c, z_d, z_e, z_f, oN_inj, oN_lt, oN_gt, oN_ge, oN_le, i_succ, if_pos, if_neg, c_has, c_bit, Bool.true_eq_false, Bool.false_eq_true, decide_true, decide_false, decide_eq_true_eq, decide_eq_false_iff_not, eI_lt, lle_0, lge_0, llt_0, lgt_0, leq_0, lle_1, lge_1, llt_1, lgt_1, leq_1, lle_2, lge_2, llt_2, lgt_2, leq_2, lle_3, lge_3, llt_3, lgt_3, leq_3, lle_4, lge_4, llt_4, lgt_4, leq_4, lle_5, lge_5, llt_5, lgt_5, leq_5, lle_6, lge_6, llt_6, lgt_6, leq_6, lle_7, lge_7, llt_7, lgt_7, leq_7, lle_11, lge_11, llt_11, lgt_11, leq_11, lle_12, lge_12, llt_12, lgt_12, leq_12, lle_15, lge_15, llt_15, lgt_15, leq_15, lle_20, lge_20, llt_20, lgt_20, leq_20, lle_24, lge_24, llt_24, lgt_24, leq_24, lle_25, lge_25, llt_25, lgt_25, leq_25, lle_31, lge_31, llt_31, lgt_31, leq_31, lle_48, lge_48, llt_48, lgt_48, leq_48, lle_57, lge_57, llt_57, lgt_57, leq_57, lle_32, lge_32, llt_32, lgt_32, leq_32, lle_59, lge_59, llt_59, lgt_59, leq_59, lle_97, lge_97, llt_97, lgt_97, leq_97, lle_122, lge_122, llt_122, lgt_122, leq_122, lle_99, lge_99, llt_99, lgt_99, leq_99, lle_100, lge_100, llt_100, lgt_100, leq_100, lle_144, lge_144, llt_144, lgt_144, leq_144, lle_255, lge_255, llt_255, lgt_255, leq_255, lle_300, lge_300, llt_300, lgt_300, leq_300, lle_1000, lge_1000, llt_1000, lgt_1000, leq_1000, lle_1000000, lge_1000000, llt_1000000, lgt_1000000, leq_1000000, lle_4096, lge_4096, llt_4096, lgt_4096, leq_4096]
    · rw [up_eq (h.1.2.1 k (by omega))]; exact h
theorem c_loosenTask (hp : prOK shI p = true) (h : PR μ p M) {t : Nat} (ht : t < 12) : ∃ ν, f_X3_loosenTask p (Int32.ofNat t) ((mX Ξ) μ) = some ((mX Ξ) ν) ∧ PR ν p (up M (ow M t) 12) ∧ Fr (FP p) μ ν := by
  obtain ⟨ν, e, h1, h2⟩ := c_loosenWorker (Ξ := Ξ) hp h (ow_le M t)
  refine ⟨ν, ?_, h1, h2⟩
  simp only [f_X3_loosenTask, pr_v hp, c_workerOf hp h ht, Option.bind_some, e]
theorem c_join (hp : prOK shI p = true) (h : PR μ p M) {w t : Nat} (hw : w < 12) (ht : t < 12) : ∃ ν, f_X3_join p (Int32.ofNat w) (Int32.ofNat t) ((mX Ξ) μ) = some ((mX Ξ) ν) ∧ PR ν p (jo M w t) ∧ Fr (FP p) μ ν := by
  have e1 := h.2.1 w hw
  have e2 := h.2.2 t ht
  have m1 := h.1.1 w
  have m2 := ow_le M t
  have fin : ∀ ν : MM, Fr (FP p) μ ν → (∀ x, x < 12 → ν.1 (p + 1) x = if ow M t < 12 ∧ x = ow M t then -1 else μ.1 (p + 1) x) → (∀ s, s < 12 → ν.1 (p + 2) s = if M w < 12 ∧ s = M w then -1 else μ.1 (p + 2) s) →
      PR (st (st ν (p + 1) w (Int32.ofNat t)) (p + 2) t (Int32.ofNat w)) p (jo M w t) ∧ Fr (FP p) μ (st (st ν (p + 1) w (Int32.ofNat t)) (p + 2) t (Int32.ofNat w)) := by
    intro ν hf a b
    refine ⟨⟨jo_Mt h.1 hw ht, fun x hx => ?_, fun s hs => ?_⟩, (hf.st (Or.inl rfl)).st (Or.inr rfl)⟩
    · rw [st_ne (Or.inl (by omega)), st_at]
      unfold jo
      by_cases c : x = w
      · rw [if_pos ⟨rfl, c⟩, if_pos c, eI_lt ht]
      · rw [if_neg (fun z => c z.2), if_neg c, a x hx]
        by_cases d : M x = t
        · have := (ow_iff h.1 ht hx).mpr d
          rw [if_pos ⟨by omega, this.symm⟩, if_pos d]; rfl
        · rw [if_neg (fun z => d (by rw [z.2]; exact ow_M z.1)), if_neg d]; exact h.2.1 x hx
    · rw [st_at, jo_ow h.1 hw ht hs]
      by_cases c : s = t
      · rw [if_pos ⟨rfl, c⟩, if_pos c, eI_lt hw]
      · rw [if_neg (fun z => c z.2), if_neg c, st_ne (Or.inl (by omega)), b s hs]
        by_cases d : ow M s = w
        · have := (ow_iff h.1 hs hw).mp d
          rw [if_pos ⟨by omega, this.symm⟩, if_pos d]; rfl
        · rw [if_neg (fun z => d ((ow_iff h.1 hs hw).mpr z.2.symm)), if_neg d]; exact h.2.2 s hs
  by_cases q1 : M w < 12
  · by_cases q2 : ow M t < 12
    · refine ⟨_, ?_, fin (st (st μ (p + 2) (M w) (-1)) (p + 1) (ow M t) (-1)) (((Fr.refl _ _).st (Or.inr rfl)).st (Or.inl rfl)) (fun x hx => ?_) (fun s hs => ?_)⟩
      · simp (disch := omega) only [f_X3_join, f_X3_join_J60, f_X3_join_J44, f_X3_join_J14, pr_v hp, pr_1 hp, pr_2 hp, pr_a1 hp, pr_a2 hp, pr_s1 hp, pr_s2 hp, c_inLimit_n, c_inLimit_e, e1, e2, q1, q2, hw, ht, lt, true_or, or_true, false_or, or_false, Option.bind_some, if_true, if_false, bI_0, bI_1, bI_z, eI_n1, eI_l0, eI_g12, oN_n1, oN_l0, oN_g0, n1_l0, n1_g12, n1_0, n1_n1, z_0, z_1, z_2, z_3, z_4, z_5, z_6, z_7, z_8, z_9, z_a, z_b, z_c, z_d, z_e, z_f, oN_inj, oN_lt, oN_gt, oN_ge, oN_le, i_succ, if_pos, if_neg, c_has, c_bit, Bool.true_eq_false, Bool.false_eq_true, decide_true, decide_false, decide_eq_true_eq, decide_eq_false_iff_not, eI_lt, lle_0, lge_0, llt_0, lgt_0, leq_0, lle_1, lge_1, llt_1, lgt_1, leq_1, lle_2, lge_2, llt_2, lgt_2, leq_2, lle_3, lge_3, llt_3, lgt_3, leq_3, lle_4, lge_4, llt_4, lgt_4, leq_4, lle_5, lge_5, llt_5, lgt_5, leq_5, lle_6, lge_6, llt_6, lgt_6, leq_6, lle_7, lge_7, llt_7, lgt_7, leq_7, lle_11, lge_11, llt_11, lgt_11, leq_11, lle_12, lge_12, llt_12, lgt_12, leq_12, lle_15, lge_15, llt_15, lgt_15, leq_15, lle_20, lge_20, llt_20, lgt_20, leq_20, lle_24, lge_24, llt_24, lgt_24, leq_24, lle_25, lge_25, llt_25, lgt_25, leq_25, lle_31, lge_31, llt_31, lgt_31, leq_31, lle_48, lge_48, llt_48, lgt_48, leq_48, lle_57, lge_57, llt_57, lgt_57, leq_57, lle_32, lge_32, llt_32, lgt_32, leq_32, lle_59, lge_59, llt_59, lgt_59, leq_59, lle_97, lge_97, llt_97, lgt_97, leq_97, lle_122, lge_122, llt_122, lgt_122, leq_122, lle_99, lge_99, llt_99, lgt_99, leq_99, lle_100, lge_100, llt_100, lgt_100, leq_100, lle_144, lge_144, llt_144, lgt_144, leq_144, lle_255, lge_255, llt_255, lgt_255, leq_255, lle_300, lge_300, llt_300, lgt_300, leq_300, lle_1000, lge_1000, llt_1000, lgt_1000, leq_1000, lle_1000000, lge_1000000, llt_1000000, lgt_1000000, leq_1000000, lle_4096, lge_4096, llt_4096, lgt_4096, leq_4096]
      · rw [st_at]
        by_cases c : x = ow M t
        · rw [if_pos ⟨rfl, c⟩, if_pos ⟨q2, c⟩]
        · rw [if_neg (fun z => c z.2), if_neg (fun z => c z.2), st_ne (Or.inl (by omega))]
      · rw [st_ne (Or.inl (by omega)), st_at]
        by_cases c : s = M w
        · rw [if_pos ⟨rfl, c⟩, if_pos ⟨q1, c⟩]
        · rw [if_neg (fun z => c z.2), if_neg (fun z => c z.2)]
    · refine ⟨_, ?_, fin (st μ (p + 2) (M w) (-1)) ((Fr.refl _ _).st (Or.inr rfl)) (fun x hx => ?_) (fun s hs => ?_)⟩
      · simp (disch := omega) only [f_X3_join, f_X3_join_J60, f_X3_join_J44, f_X3_join_J14, pr_v hp, pr_1 hp, pr_2 hp, pr_a1 hp, pr_a2 hp, pr_s1 hp, pr_s2 hp, c_inLimit_n, c_inLimit_e, e1, e2, q1, q2, hw, ht, lt, true_or, or_true, false_or, or_false, Option.bind_some, if_true, if_false, bI_0, bI_1, bI_z, eI_n1, eI_l0, eI_g12, oN_n1, oN_l0, oN_g0, n1_l0, n1_g12, n1_0, n1_n1, z_0, z_1, z_2, z_3, z_4, z_5, z_6, z_7, z_8, z_9, z_a, z_b, z_c, z_d, z_e, z_f, oN_inj, oN_lt, oN_gt, oN_ge, oN_le, i_succ, if_pos, if_neg, c_has, c_bit, Bool.true_eq_false, Bool.false_eq_true, decide_true, decide_false, decide_eq_true_eq, decide_eq_false_iff_not, eI_lt, lle_0, lge_0, llt_0, lgt_0, leq_0, lle_1, lge_1, llt_1, lgt_1, leq_1, lle_2, lge_2, llt_2, lgt_2, leq_2, lle_3, lge_3, llt_3, lgt_3, leq_3, lle_4, lge_4, llt_4, lgt_4, leq_4, lle_5, lge_5, llt_5, lgt_5, leq_5, lle_6, lge_6, llt_6, lgt_6, leq_6, lle_7, lge_7, llt_7, lgt_7, leq_7, lle_11, lge_11, llt_11, lgt_11, leq_11, lle_12, lge_12, llt_12, lgt_12, leq_12, lle_15, lge_15, llt_15, lgt_15, leq_15, lle_20, lge_20, llt_20, lgt_20, leq_20, lle_24, lge_24, llt_24, lgt_24, leq_24, lle_25, lge_25, llt_25, lgt_25, leq_25, lle_31, lge_31, llt_31, lgt_31, leq_31, lle_48, lge_48, llt_48, lgt_48, leq_48, lle_57, lge_57, llt_57, lgt_57, leq_57, lle_32, lge_32, llt_32, lgt_32, leq_32, lle_59, lge_59, llt_59, lgt_59, leq_59, lle_97, lge_97, llt_97, lgt_97, leq_97, lle_122, lge_122, llt_122, lgt_122, leq_122, lle_99, lge_99, llt_99, lgt_99, leq_99, lle_100, lge_100, llt_100, lgt_100, leq_100, lle_144, lge_144, llt_144, lgt_144, leq_144, lle_255, lge_255, llt_255, lgt_255, leq_255, lle_300, lge_300, llt_300, lgt_300, leq_300, lle_1000, lge_1000, llt_1000, lgt_1000, leq_1000, lle_1000000, lge_1000000, llt_1000000, lgt_1000000, leq_1000000, lle_4096, lge_4096, llt_4096, lgt_4096, leq_4096]
      · rw [if_neg (fun z => q2 z.1), st_ne (Or.inl (by omega))]
      · rw [st_at]
        by_cases c : s = M w
        · rw [if_pos ⟨rfl, c⟩, if_pos ⟨q1, c⟩]
        · rw [if_neg (fun z => c z.2), if_neg (fun z => c z.2)]
  · by_cases q2 : ow M t < 12
    · refine ⟨_, ?_, fin (st μ (p + 1) (ow M t) (-1)) ((Fr.refl _ _).st (Or.inl rfl)) (fun x hx => ?_) (fun s hs => ?_)⟩
      · simp (disch := omega) only [f_X3_join, f_X3_join_J60, f_X3_join_J44, f_X3_join_J14, pr_v hp, pr_1 hp, pr_2 hp, pr_a1 hp, pr_a2 hp, pr_s1 hp, pr_s2 hp, c_inLimit_n, c_inLimit_e, e1, e2, q1, q2, hw, ht, lt, true_or, or_true, false_or, or_false, Option.bind_some, if_true, if_false, bI_0, bI_1, bI_z, eI_n1, eI_l0, eI_g12, oN_n1, oN_l0, oN_g0, n1_l0, n1_g12, n1_0, n1_n1, z_0, z_1, z_2, z_3, z_4, z_5, z_6, z_7, z_8, z_9, z_a, z_b, z_c, z_d, z_e, z_f, oN_inj, oN_lt, oN_gt, oN_ge, oN_le, i_succ, if_pos, if_neg, c_has, c_bit, Bool.true_eq_false, Bool.false_eq_true, decide_true, decide_false, decide_eq_true_eq, decide_eq_false_iff_not, eI_lt, lle_0, lge_0, llt_0, lgt_0, leq_0, lle_1, lge_1, llt_1, lgt_1, leq_1, lle_2, lge_2, llt_2, lgt_2, leq_2, lle_3, lge_3, llt_3, lgt_3, leq_3, lle_4, lge_4, llt_4, lgt_4, leq_4, lle_5, lge_5, llt_5, lgt_5, leq_5, lle_6, lge_6, llt_6, lgt_6, leq_6, lle_7, lge_7, llt_7, lgt_7, leq_7, lle_11, lge_11, llt_11, lgt_11, leq_11, lle_12, lge_12, llt_12, lgt_12, leq_12, lle_15, lge_15, llt_15, lgt_15, leq_15, lle_20, lge_20, llt_20, lgt_20, leq_20, lle_24, lge_24, llt_24, lgt_24, leq_24, lle_25, lge_25, llt_25, lgt_25, leq_25, lle_31, lge_31, llt_31, lgt_31, leq_31, lle_48, lge_48, llt_48, lgt_48, leq_48, lle_57, lge_57, llt_57, lgt_57, leq_57, lle_32, lge_32, llt_32, lgt_32, leq_32, lle_59, lge_59, llt_59, lgt_59, leq_59, lle_97, lge_97, llt_97, lgt_97, leq_97, lle_122, lge_122, llt_122, lgt_122, leq_122, lle_99, lge_99, llt_99, lgt_99, leq_99, lle_100, lge_100, llt_100, lgt_100, leq_100, lle_144, lge_144, llt_144, lgt_144, leq_144, lle_255, lge_255, llt_255, lgt_255, leq_255, lle_300, lge_300, llt_300, lgt_300, leq_300, lle_1000, lge_1000, llt_1000, lgt_1000, leq_1000, lle_1000000, lge_1000000, llt_1000000, lgt_1000000, leq_1000000, lle_4096, lge_4096, llt_4096, lgt_4096, leq_4096]
      · rw [st_at]
        by_cases c : x = ow M t
        · rw [if_pos ⟨rfl, c⟩, if_pos ⟨q2, c⟩]
        · rw [if_neg (fun z => c z.2), if_neg (fun z => c z.2)]
      · rw [if_neg (fun z => q1 z.1), st_ne (Or.inl (by omega))]
    · refine ⟨_, ?_, fin μ (Fr.refl _ _) (fun x hx => ?_) (fun s hs => ?_)⟩
      · simp (disch := omega) only [f_X3_join, f_X3_join_J60, f_X3_join_J44, f_X3_join_J14, pr_v hp, pr_1 hp, pr_2 hp, pr_a1 hp, pr_a2 hp, pr_s1 hp, pr_s2 hp, c_inLimit_n, c_inLimit_e, e1, e2, q1, q2, hw, ht, lt, true_or, or_true, false_or, or_false, Option.bind_some, if_true, if_false, bI_0, bI_1, bI_z, eI_n1, eI_l0, eI_g12, oN_n1, oN_l0, oN_g0, n1_l0, n1_g12, n1_0, n1_n1, z_0, z_1, z_2, z_3, z_4, z_5, z_6, z_7, z_8, z_9, z_a, z_b, z_c, z_d, z_e, z_f, oN_inj, oN_lt, oN_gt, oN_ge, oN_le, i_succ, if_pos, if_neg, c_has, c_bit, Bool.true_eq_false, Bool.false_eq_true, decide_true, decide_false, decide_eq_true_eq, decide_eq_false_iff_not, eI_lt, lle_0, lge_0, llt_0, lgt_0, leq_0, lle_1, lge_1, llt_1, lgt_1, leq_1, lle_2, lge_2, llt_2, lgt_2, leq_2, lle_3, lge_3, llt_3, lgt_3, leq_3, lle_4, lge_4, llt_4, lgt_4, leq_4, lle_5, lge_5, llt_5, lgt_5, leq_5, lle_6, lge_6, llt_6, lgt_6, leq_6, lle_7, lge_7, llt_7, lgt_7, leq_7, lle_11, lge_11, llt_11, lgt_11, leq_11, lle_12, lge_12, llt_12, lgt_12, leq_12, lle_15, lge_15, llt_15, lgt_15, leq_15, lle_20, lge_20, llt_20, lgt_20, leq_20, lle_24, lge_24, llt_24, lgt_24, leq_24, lle_25, lge_25, llt_25, lgt_25, leq_25, lle_31, lge_31, llt_31, lgt_31, leq_31, lle_48, lge_48, llt_48, lgt_48, leq_48, lle_57, lge_57, llt_57, lgt_57, leq_57, lle_32, lge_32, llt_32, lgt_32, leq_32, lle_59, lge_59, llt_59, lgt_59, leq_59, lle_97, lge_97, llt_97, lgt_97, leq_97, lle_122, lge_122, llt_122, lgt_122, leq_122, lle_99, lge_99, llt_99, lgt_99, leq_99, lle_100, lge_100, llt_100, lgt_100, leq_100, lle_144, lge_144, llt_144, lgt_144, leq_144, lle_255, lge_255, llt_255, lgt_255, leq_255, lle_300, lge_300, llt_300, lgt_300, leq_300, lle_1000, lge_1000, llt_1000, lgt_1000, leq_1000, lle_1000000, lge_1000000, llt_1000000, lgt_1000000, leq_1000000, lle_4096, lge_4096, llt_4096, lgt_4096, leq_4096]
      · rw [if_neg (fun z => q2 z.1)]
      · rw [if_neg (fun z => q1 z.1)]
/-- a mask of what holds below 12 -/
def Mk (x : Int32) (f : Nat → Bool) : Prop := ∀ k, hb x k = (decide (k < 12) && f k)
theorem Mk.m12 {x : Int32} {f : Nat → Bool} (h : Mk x f) : m12 x := fun k hk => by rw [h k]; simp; omega
theorem Mk.at {x : Int32} {f : Nat → Bool} (h : Mk x f) {k : Nat} (hk : k < 12) : hb x k = f k := by rw [h k]; simp [hk]
theorem Mk.uniq {x y : Int32} {f : Nat → Bool} (h : Mk x f) (h' : Mk y f) : x = y := hb_ext fun k _ => by rw [h k, h' k]
theorem Mk.cnt {x : Int32} {f : Nat → Bool} (h : Mk x f) : cnt (hb x) 12 = cnt f 12 := cnt_congr fun k hk => h.at hk
theorem c_workersIn (hp : prOK shI p = true) (h : PR μ p M) : ∃ x, f_X3_workersIn p ((mX Ξ) μ) = some (x, (mX Ξ) μ) ∧ Mk x (fun w => decide (M w < 12)) := by
  have : Hw (f_X3_workersIn p ((mX Ξ) μ)) (fun r => r.2 = (mX Ξ) μ ∧ Mk r.1 (fun w => decide (M w < 12))) := by
    refine hw_for (L := fun n i (x : Int32) => f_X3_workersIn_L4 f_X3_workersIn_J33 n p x i ((mX Ξ) μ)) (s0 := 0) 12 (fun i x => ∀ k, hb x k = (decide (k < i) && decide (M k < 12))) (fun k => by simp [hb_zero]) (by decide) (fun i hi x hx => Or.inl ?_) (fun x hx n => ?_)
    · by_cases q : M i < 12
      · refine ⟨x ||| ((1 : Int32) <<< (Int32.ofNat i &&& 31)), fun k => ?_, fun n => ?_⟩
        · rw [hb_or, hx k, hb_bit k (by omega)]
          by_cases e : k = i
          · subst e; simp [q]
          · by_cases e2 : k < i
            · simp [e, e2, show k < i + 1 by omega]
            · simp [e, e2, show ¬ k < i + 1 by omega]
        · simp (disch := omega) only [f_X3_workersIn_L4, f_X3_workersIn_J33, f_X3_workersIn_J27, pr_v hp, pr_1 hp, pr_2 hp, pr_a1 hp, pr_a2 hp, pr_s1 hp, pr_s2 hp, h.2.1 i hi, lt, true_or, or_true, false_or, or_false, Option.bind_some, if_true, if_false, bI_0, bI_1, bI_z, eI_n1, eI_l0, eI_g12, oN_n1, oN_l0, oN_g0, n1_l0, n1_g12, n1_0, n1_n1, z_0, z_1, z_2, z_3, z_4, z_5, z_6, z_7, z_8, z_9, z_a, z_b, z_c, z_d, z_e, z_f, oN_inj, oN_lt, oN_gt, oN_ge, oN_le, i_succ, if_pos, if_neg, c_has, c_bit, Bool.true_eq_false, Bool.false_eq_true, decide_true, decide_false, decide_eq_true_eq, decide_eq_false_iff_not, eI_lt, lle_0, lge_0, llt_0, lgt_0, leq_0, lle_1, lge_1, llt_1, lgt_1, leq_1, lle_2, lge_2, llt_2, lgt_2, leq_2, lle_3, lge_3, llt_3, lgt_3, leq_3, lle_4, lge_4, llt_4, lgt_4, leq_4, lle_5, lge_5, llt_5, lgt_5, leq_5, lle_6, lge_6, llt_6, lgt_6, leq_6, lle_7, lge_7, llt_7, lgt_7, leq_7, lle_11, lge_11, llt_11, lgt_11, leq_11, lle_12, lge_12, llt_12, lgt_12, leq_12, lle_15, lge_15, llt_15, lgt_15, leq_15, lle_20, lge_20, llt_20, lgt_20, leq_20, lle_24, lge_24, llt_24, lgt_24, leq_24, lle_25, lge_25, llt_25, lgt_25, leq_25, lle_31, lge_31, llt_31, lgt_31, leq_31, lle_48, lge_48, llt_48, lgt_48, leq_48, lle_57, lge_57, llt_57, lgt_57, leq_57, lle_32, lge_32, llt_32, lgt_32, leq_32, lle_59, lge_59, llt_59, lgt_59, leq_59, lle_97, lge_97, llt_97, lgt_97, leq_97, lle_122, lge_122, llt_122, lgt_122, leq_122, lle_99, lge_99, llt_99, lgt_99, leq_99, lle_100, lge_100, llt_100, lgt_100, leq_100, lle_144, lge_144, llt_144, lgt_144, leq_144, lle_255, lge_255, llt_255, lgt_255, leq_255, lle_300, lge_300, llt_300, lgt_300, leq_300, lle_1000, lge_1000, llt_1000, lgt_1000, leq_1000, lle_1000000, lge_1000000, llt_1000000, lgt_1000000, leq_1000000, lle_4096, lge_4096, llt_4096, lgt_4096, leq_4096]
      · refine ⟨x, fun k => ?_, fun n => ?_⟩
        · rw [hx k]
          by_cases e : k = i
          · subst e; simp [q]
          · by_cases e2 : k < i
            · simp [e2, show k < i + 1 by omega]
            · simp [e2, show ¬ k < i + 1 by omega]
        · simp (disch := omega) only [f_X3_workersIn_L4, f_X3_workersIn_J33, f_X3_workersIn_J27, pr_v hp, pr_1 hp, pr_2 hp, pr_a1 hp, pr_a2 hp, pr_s1 hp, pr_s2 hp, h.2.1 i hi, lt, true_or, or_true, false_or, or_false, Option.bind_some, if_true, if_false, bI_0, bI_1, bI_z, eI_n1, eI_l0, eI_g12, oN_n1, oN_l0, oN_g0, n1_l0, n1_g12, n1_0, n1_n1, z_0, z_1, z_2, z_3, z_4, z_5, z_6, z_7, z_8, z_9, z_a, z_b, z_c, z_d, z_e, z_f, oN_inj, oN_lt, oN_gt, oN_ge, oN_le, i_succ, if_pos, if_neg, c_has, c_bit, Bool.true_eq_false, Bool.false_eq_true, decide_true, decide_false, decide_eq_true_eq, decide_eq_false_iff_not, eI_lt, lle_0, lge_0, llt_0, lgt_0, leq_0, lle_1, lge_1, llt_1, lgt_1, leq_1, lle_2, lge_2, llt_2, lgt_2, leq_2, lle_3, lge_3, llt_3, lgt_3, leq_3, lle_4, lge_4, llt_4, lgt_4, leq_4, lle_5, lge_5, llt_5, lgt_5, leq_5, lle_6, lge_6, llt_6, lgt_6, leq_6, lle_7, lge_7, llt_7, lgt_7, leq_7, lle_11, lge_11, llt_11, lgt_11, leq_11, lle_12, lge_12, llt_12, lgt_12, leq_12, lle_15, lge_15, llt_15, lgt_15, leq_15, lle_20, lge_20, llt_20, lgt_20, leq_20, lle_24, lge_24, llt_24, lgt_24, leq_24, lle_25, lge_25, llt_25, lgt_25, leq_25, lle_31, lge_31, llt_31, lgt_31, leq_31, lle_48, lge_48, llt_48, lgt_48, leq_48, lle_57, lge_57, llt_57, lgt_57, leq_57, lle_32, lge_32, llt_32, lgt_32, leq_32, lle_59, lge_59, llt_59, lgt_59, leq_59, lle_97, lge_97, llt_97, lgt_97, leq_97, lle_122, lge_122, llt_122, lgt_122, leq_122, lle_99, lge_99, llt_99, lgt_99, leq_99, lle_100, lge_100, llt_100, lgt_100, leq_100, lle_144, lge_144, llt_144, lgt_144, leq_144, lle_255, lge_255, llt_255, lgt_255, leq_255, lle_300, lge_300, llt_300, lgt_300, leq_300, lle_1000, lge_1000, llt_1000, lgt_1000, leq_1000, lle_1000000, lge_1000000, llt_1000000, lgt_1000000, leq_1000000, lle_4096, lge_4096, llt_4096, lgt_4096, leq_4096]
    · simp (disch := omega) only [f_X3_workersIn_L4, f_X3_workersIn_J33, f_X3_workersIn_J27, lt, true_or, or_true, false_or, or_false, Option.bind_some, if_true, if_false, bI_0, bI_1, bI_z, eI_n1, eI_l0, eI_g12, oN_n1, oN_l0, oN_g0, n1_l0, n1_g12, n1_0, n1_n1, z_0, z_1, z_2, z_3, z_4, z_5, z_6, z_7, z_8, z_9, z_a, z_b, z_c, z_d, z_e, z_f, oN_inj, oN_lt, oN_gt, oN_ge, oN_le, i_succ, if_pos, if_neg, c_has, c_bit, Bool.true_eq_false, Bool.false_eq_true, decide_true, decide_false, decide_eq_true_eq, decide_eq_false_iff_not, eI_lt, lle_0, lge_0, llt_0, lgt_0, leq_0, lle_1, lge_1, llt_1, lgt_1, leq_1, lle_2, lge_2, llt_2, lgt_2, leq_2, lle_3, lge_3, llt_3, lgt_3, leq_3, lle_4, lge_4, llt_4, lgt_4, leq_4, lle_5, lge_5, llt_5, lgt_5, leq_5, lle_6, lge_6, llt_6, lgt_6, leq_6, lle_7, lge_7, llt_7, lgt_7, leq_7, lle_11, lge_11, llt_11, lgt_11, leq_11, lle_12, lge_12, llt_12, lgt_12, leq_12, lle_15, lge_15, llt_15, lgt_15, leq_15, lle_20, lge_20, llt_20, lgt_20, leq_20, lle_24, lge_24, llt_24, lgt_24, leq_24, lle_25, lge_25, llt_25, lgt_25, leq_25, lle_31, lge_31, llt_31, lgt_31, leq_31, lle_48, lge_48, llt_48, lgt_48, leq_48, lle_57, lge_57, llt_57, lgt_57, leq_57, lle_32, lge_32, llt_32, lgt_32, leq_32, lle_59, lge_59, llt_59, lgt_59, leq_59, lle_97, lge_97, llt_97, lgt_97, leq_97, lle_122, lge_122, llt_122, lgt_122, leq_122, lle_99, lge_99, llt_99, lgt_99, leq_99, lle_100, lge_100, llt_100, lgt_100, leq_100, lle_144, lge_144, llt_144, lgt_144, leq_144, lle_255, lge_255, llt_255, lgt_255, leq_255, lle_300, lge_300, llt_300, lgt_300, leq_300, lle_1000, lge_1000, llt_1000, lgt_1000, leq_1000, lle_1000000, lge_1000000, llt_1000000, lgt_1000000, leq_1000000, lle_4096, lge_4096, llt_4096, lgt_4096, leq_4096]
      exact hw_ret ⟨rfl, hx⟩
  obtain ⟨⟨x, y⟩, e, rfl, h2⟩ := this
  exact ⟨x, e, h2⟩
theorem c_tasksIn (hp : prOK shI p = true) (h : PR μ p M) : ∃ x, f_X3_tasksIn p ((mX Ξ) μ) = some (x, (mX Ξ) μ) ∧ Mk x (fun t => decide (ow M t < 12)) := by
  have : Hw (f_X3_tasksIn p ((mX Ξ) μ)) (fun r => r.2 = (mX Ξ) μ ∧ Mk r.1 (fun w => decide (ow M w < 12))) := by
    refine hw_for (L := fun n i (x : Int32) => f_X3_tasksIn_L4 f_X3_tasksIn_J33 n p x i ((mX Ξ) μ)) (s0 := 0) 12 (fun i x => ∀ k, hb x k = (decide (k < i) && decide (ow M k < 12))) (fun k => by simp [hb_zero]) (by decide) (fun i hi x hx => Or.inl ?_) (fun x hx n => ?_)
    · by_cases q : ow M i < 12
      · refine ⟨x ||| ((1 : Int32) <<< (Int32.ofNat i &&& 31)), fun k => ?_, fun n => ?_⟩
        · rw [hb_or, hx k, hb_bit k (by omega)]
          by_cases e : k = i
          · subst e; simp [q]
          · by_cases e2 : k < i
            · simp [e, e2, show k < i + 1 by omega]
            · simp [e, e2, show ¬ k < i + 1 by omega]
        · simp (disch := omega) only [f_X3_tasksIn_L4, f_X3_tasksIn_J33, f_X3_tasksIn_J27, pr_v hp, pr_1 hp, pr_2 hp, pr_a1 hp, pr_a2 hp, pr_s1 hp, pr_s2 hp, h.2.2 i hi, lt, true_or, or_true, false_or, or_false, Option.bind_some, if_true, if_false, bI_0, bI_1, bI_z, eI_n1, eI_l0, eI_g12, oN_n1, oN_l0, oN_g0, n1_l0, n1_g12, n1_0, n1_n1, z_0, z_1, z_2, z_3, z_4, z_5, z_6, z_7, z_8, z_9, z_a, z_b, z_c, z_d, z_e, z_f, oN_inj, oN_lt, oN_gt, oN_ge, oN_le, i_succ, if_pos, if_neg, c_has, c_bit, Bool.true_eq_false, Bool.false_eq_true, decide_true, decide_false, decide_eq_true_eq, decide_eq_false_iff_not, eI_lt, lle_0, lge_0, llt_0, lgt_0, leq_0, lle_1, lge_1, llt_1, lgt_1, leq_1, lle_2, lge_2, llt_2, lgt_2, leq_2, lle_3, lge_3, llt_3, lgt_3, leq_3, lle_4, lge_4, llt_4, lgt_4, leq_4, lle_5, lge_5, llt_5, lgt_5, leq_5, lle_6, lge_6, llt_6, lgt_6, leq_6, lle_7, lge_7, llt_7, lgt_7, leq_7, lle_11, lge_11, llt_11, lgt_11, leq_11, lle_12, lge_12, llt_12, lgt_12, leq_12, lle_15, lge_15, llt_15, lgt_15, leq_15, lle_20, lge_20, llt_20, lgt_20, leq_20, lle_24, lge_24, llt_24, lgt_24, leq_24, lle_25, lge_25, llt_25, lgt_25, leq_25, lle_31, lge_31, llt_31, lgt_31, leq_31, lle_48, lge_48, llt_48, lgt_48, leq_48, lle_57, lge_57, llt_57, lgt_57, leq_57, lle_32, lge_32, llt_32, lgt_32, leq_32, lle_59, lge_59, llt_59, lgt_59, leq_59, lle_97, lge_97, llt_97, lgt_97, leq_97, lle_122, lge_122, llt_122, lgt_122, leq_122, lle_99, lge_99, llt_99, lgt_99, leq_99, lle_100, lge_100, llt_100, lgt_100, leq_100, lle_144, lge_144, llt_144, lgt_144, leq_144, lle_255, lge_255, llt_255, lgt_255, leq_255, lle_300, lge_300, llt_300, lgt_300, leq_300, lle_1000, lge_1000, llt_1000, lgt_1000, leq_1000, lle_1000000, lge_1000000, llt_1000000, lgt_1000000, leq_1000000, lle_4096, lge_4096, llt_4096, lgt_4096, leq_4096]
      · refine ⟨x, fun k => ?_, fun n => ?_⟩
        · rw [hx k]
          by_cases e : k = i
          · subst e; simp [q]
          · by_cases e2 : k < i
            · simp [e2, show k < i + 1 by omega]
            · simp [e2, show ¬ k < i + 1 by omega]
        · simp (disch := omega) only [f_X3_tasksIn_L4, f_X3_tasksIn_J33, f_X3_tasksIn_J27, pr_v hp, pr_1 hp, pr_2 hp, pr_a1 hp, pr_a2 hp, pr_s1 hp, pr_s2 hp, h.2.2 i hi, lt, true_or, or_true, false_or, or_false, Option.bind_some, if_true, if_false, bI_0, bI_1, bI_z, eI_n1, eI_l0, eI_g12, oN_n1, oN_l0, oN_g0, n1_l0, n1_g12, n1_0, n1_n1, z_0, z_1, z_2, z_3, z_4, z_5, z_6, z_7, z_8, z_9, z_a, z_b, z_c, z_d, z_e, z_f, oN_inj, oN_lt, oN_gt, oN_ge, oN_le, i_succ, if_pos, if_neg, c_has, c_bit, Bool.true_eq_false, Bool.false_eq_true, decide_true, decide_false, decide_eq_true_eq, decide_eq_false_iff_not, eI_lt, lle_0, lge_0, llt_0, lgt_0, leq_0, lle_1, lge_1, llt_1, lgt_1, leq_1, lle_2, lge_2, llt_2, lgt_2, leq_2, lle_3, lge_3, llt_3, lgt_3, leq_3, lle_4, lge_4, llt_4, lgt_4, leq_4, lle_5, lge_5, llt_5, lgt_5, leq_5, lle_6, lge_6, llt_6, lgt_6, leq_6, lle_7, lge_7, llt_7, lgt_7, leq_7, lle_11, lge_11, llt_11, lgt_11, leq_11, lle_12, lge_12, llt_12, lgt_12, leq_12, lle_15, lge_15, llt_15, lgt_15, leq_15, lle_20, lge_20, llt_20, lgt_20, leq_20, lle_24, lge_24, llt_24, lgt_24, leq_24, lle_25, lge_25, llt_25, lgt_25, leq_25, lle_31, lge_31, llt_31, lgt_31, leq_31, lle_48, lge_48, llt_48, lgt_48, leq_48, lle_57, lge_57, llt_57, lgt_57, leq_57, lle_32, lge_32, llt_32, lgt_32, leq_32, lle_59, lge_59, llt_59, lgt_59, leq_59, lle_97, lge_97, llt_97, lgt_97, leq_97, lle_122, lge_122, llt_122, lgt_122, leq_122, lle_99, lge_99, llt_99, lgt_99, leq_99, lle_100, lge_100, llt_100, lgt_100, leq_100, lle_144, lge_144, llt_144, lgt_144, leq_144, lle_255, lge_255, llt_255, lgt_255, leq_255, lle_300, lge_300, llt_300, lgt_300, leq_300, lle_1000, lge_1000, llt_1000, lgt_1000, leq_1000, lle_1000000, lge_1000000, llt_1000000, lgt_1000000, leq_1000000, lle_4096, lge_4096, llt_4096, lgt_4096, leq_4096]
    · simp (disch := omega) only [f_X3_tasksIn_L4, f_X3_tasksIn_J33, f_X3_tasksIn_J27, lt, true_or, or_true, false_or, or_false, Option.bind_some, if_true, if_false, bI_0, bI_1, bI_z, eI_n1, eI_l0, eI_g12, oN_n1, oN_l0, oN_g0, n1_l0, n1_g12, n1_0, n1_n1, z_0, z_1, z_2, z_3, z_4, z_5, z_6, z_7, z_8, z_9, z_a, z_b, z_c, z_d, z_e, z_f, oN_inj, oN_lt, oN_gt, oN_ge, oN_le, i_succ, if_pos, if_neg, c_has, c_bit, Bool.true_eq_false, Bool.false_eq_true, decide_true, decide_false, decide_eq_true_eq, decide_eq_false_iff_not, eI_lt, lle_0, lge_0, llt_0, lgt_0, leq_0, lle_1, lge_1, llt_1, lgt_1, leq_1, lle_2, lge_2, llt_2, lgt_2, leq_2, lle_3, lge_3, llt_3, lgt_3, leq_3, lle_4, lge_4, llt_4, lgt_4, leq_4, lle_5, lge_5, llt_5, lgt_5, leq_5, lle_6, lge_6, llt_6, lgt_6, leq_6, lle_7, lge_7, llt_7, lgt_7, leq_7, lle_11, lge_11, llt_11, lgt_11, leq_11, lle_12, lge_12, llt_12, lgt_12, leq_12, lle_15, lge_15, llt_15, lgt_15, leq_15, lle_20, lge_20, llt_20, lgt_20, leq_20, lle_24, lge_24, llt_24, lgt_24, leq_24, lle_25, lge_25, llt_25, lgt_25, leq_25, lle_31, lge_31, llt_31, lgt_31, leq_31, lle_48, lge_48, llt_48, lgt_48, leq_48, lle_57, lge_57, llt_57, lgt_57, leq_57, lle_32, lge_32, llt_32, lgt_32, leq_32, lle_59, lge_59, llt_59, lgt_59, leq_59, lle_97, lge_97, llt_97, lgt_97, leq_97, lle_122, lge_122, llt_122, lgt_122, leq_122, lle_99, lge_99, llt_99, lgt_99, leq_99, lle_100, lge_100, llt_100, lgt_100, leq_100, lle_144, lge_144, llt_144, lgt_144, leq_144, lle_255, lge_255, llt_255, lgt_255, leq_255, lle_300, lge_300, llt_300, lgt_300, leq_300, lle_1000, lge_1000, llt_1000, lgt_1000, leq_1000, lle_1000000, lge_1000000, llt_1000000, lgt_1000000, leq_1000000, lle_4096, lge_4096, llt_4096, lgt_4096, leq_4096]
      exact hw_ret ⟨rfl, hx⟩
  obtain ⟨⟨x, y⟩, e, rfl, h2⟩ := this
  exact ⟨x, e, h2⟩
theorem c_size (hp : prOK shI p = true) (h : PR μ p M) : f_X3_size p ((mX Ξ) μ) = some (Int32.ofNat (sz M), (mX Ξ) μ) := by
  obtain ⟨x, e, hx⟩ := c_workersIn (Ξ := Ξ) hp h
  simp only [f_X3_size, pr_v hp, e, Option.bind_some, c_bitCount hx.m12, hx.cnt]
  rfl
theorem prOK_x {Ξ : xH} {p : Nat} (h : prOK shI p = true) : prOK (shI ++ Ξ) p = true := by
  unfold prOK at h ⊢
  simp only [Bool.and_eq_true] at h ⊢
  exact ⟨⟨⟨⟨isT_x h.1.1.1.1, slot_x h.1.1.1.2⟩, slot_x h.1.1.2⟩, isA_x h.1.2⟩, isA_x h.2⟩
theorem c_pclear (hp : prOK shI p = true) : ∃ ν, f_X3_clear p ((mX Ξ) μ) = some ((mX Ξ) ν) ∧ PR ν p (fun _ => 12) ∧ Fr (FP p) μ ν := by
  refine ⟨prM μ p, c_clear (prOK_x hp), ⟨e_Mt, fun w hw => ?_, fun t ht => ?_⟩, fun q i n => ⟨?_, rfl⟩⟩
  · show (if p + 1 = p + 2 ∧ w < 12 then (-1 : Int32) else if p + 1 = p + 1 ∧ w < 12 then -1 else μ.1 (p + 1) w) = _
    rw [if_neg (by omega), if_pos ⟨rfl, hw⟩]; rfl
  · show (if p + 2 = p + 2 ∧ t < 12 then (-1 : Int32) else if p + 2 = p + 1 ∧ t < 12 then -1 else μ.1 (p + 2) t) = _
    rw [if_pos ⟨rfl, ht⟩, ow_none.mpr (fun w _ => by show 12 ≠ t; omega)]; rfl
  · show (if q = p + 2 ∧ i < 12 then (-1 : Int32) else if q = p + 1 ∧ i < 12 then -1 else μ.1 q i) = _
    rw [if_neg (fun z => n (Or.inr z.1)), if_neg (fun z => n (Or.inl z.1))]
theorem c_pcopy {p' : Nat} (hp : prOK shI p = true) (hp' : prOK shI p' = true) (hd : p' + 2 < p ∨ p + 2 < p') (h : PR μ p' M) : ∃ ν, f_X3_copy p p' ((mX Ξ) μ) = some ((mX Ξ) ν) ∧ PR ν p M ∧ Fr (FP p) μ ν := by
  have : Hw (f_X3_copy p p' ((mX Ξ) μ)) (fun r => ∃ ν, r = (mX Ξ) ν ∧ PR ν p M ∧ Fr (FP p) μ ν) := by
    refine hw_for (L := fun n i (ν : MM) => f_X3_copy_L2 f_X3_copy_J38 n p p' i ((mX Ξ) ν)) (s0 := μ) 12 (fun i ν => Fr (FP p) μ ν ∧ ∀ k, k < i → ν.1 (p + 1) k = eI (M k) ∧ ν.1 (p + 2) k = eI (ow M k)) ⟨Fr.refl _ _, fun k hk => absurd hk (Nat.not_lt_zero _)⟩ (by decide) (fun i hi ν hν => Or.inl ?_) (fun ν hν n => ?_)
    · obtain ⟨hf, hv⟩ := hν
      have h' : PR ν p' M := h.fr hf (fun _ z => by unfold FP at z; omega) (fun _ z => by unfold FP at z; omega)
      refine ⟨st (st ν (p + 1) i (eI (M i))) (p + 2) i (eI (ow M i)), ⟨(hf.st (Or.inl rfl)).st (Or.inr rfl), fun k hk => ?_⟩, fun n => ?_⟩
      · rw [st_ne (Or.inl (by omega)), st_at, st_at]
        by_cases e : k = i
        · subst e; simp
        · rw [if_neg (fun z => e z.2), if_neg (fun z => e z.2), st_ne (Or.inl (by omega))]
          exact hv k (by omega)
      · have e3 : (st ν (p + 1) i (eI (M i))).1 (p' + 2) i = eI (ow M i) := by rw [st_ne (Or.inl (by omega))]; exact h'.2.2 i hi
        simp (disch := omega) only [f_X3_copy_L2, pr_v hp, pr_1 hp, pr_2 hp, pr_a1 hp, pr_a2 hp, pr_s1 hp, pr_s2 hp, pr_v hp', pr_1 hp', pr_2 hp', pr_a1 hp', pr_a2 hp', pr_s1 hp', pr_s2 hp', h'.2.1 i hi, e3, lt, true_or, or_true, false_or, or_false, Option.bind_some, if_true, if_false, bI_0, bI_1, bI_z, eI_n1, eI_l0, eI_g12, oN_n1, oN_l0, oN_g0, n1_l0, n1_g12, n1_0, n1_n1, z_0, z_1, z_2, z_3, z_4, z_5, z_6, z_7, z_8, z_9, z_a, z_b, z_c, z_d, z_e, z_f, oN_inj, oN_lt, oN_gt, oN_ge, oN_le, i_succ, if_pos, if_neg, c_has, c_bit, Bool.true_eq_false, Bool.false_eq_true, decide_true, decide_false, decide_eq_true_eq, decide_eq_false_iff_not, eI_lt, lle_0, lge_0, llt_0, lgt_0, leq_0, lle_1, lge_1, llt_1, lgt_1, leq_1, lle_2, lge_2, llt_2, lgt_2, leq_2, lle_3, lge_3, llt_3, lgt_3, leq_3, lle_4, lge_4, llt_4, lgt_4, leq_4, lle_5, lge_5, llt_5, lgt_5, leq_5, lle_6, lge_6, llt_6, lgt_6, leq_6, lle_7, lge_7, llt_7, lgt_7, leq_7, lle_11, lge_11, llt_11, lgt_11, leq_11, lle_12, lge_12, llt_12, lgt_12, leq_12, lle_15, lge_15, llt_15, lgt_15, leq_15, lle_20, lge_20, llt_20, lgt_20, leq_20, lle_24, lge_24, llt_24, lgt_24, leq_24, lle_25, lge_25, llt_25, lgt_25, leq_25, lle_31, lge_31, llt_31, lgt_31, leq_31, lle_48, lge_48, llt_48, lgt_48, leq_48, lle_57, lge_57, llt_57, lgt_57, leq_57, lle_32, lge_32, llt_32, lgt_32, leq_32, lle_59, lge_59, llt_59, lgt_59, leq_59, lle_97, lge_97, llt_97, lgt_97, leq_97, lle_122, lge_122, llt_122, lgt_122, leq_122, lle_99, lge_99, llt_99, lgt_99, leq_99, lle_100, lge_100, llt_100, lgt_100, leq_100, lle_144, lge_144, llt_144, lgt_144, leq_144, lle_255, lge_255, llt_255, lgt_255, leq_255, lle_300, lge_300, llt_300, lgt_300, leq_300, lle_1000, lge_1000, llt_1000, lgt_1000, leq_1000, lle_1000000, lge_1000000, llt_1000000, lgt_1000000, leq_1000000, lle_4096, lge_4096, llt_4096, lgt_4096, leq_4096]
    · simp (disch := omega) only [f_X3_copy_L2, f_X3_copy_J38, lt, true_or, or_true, false_or, or_false, Option.bind_some, if_true, if_false, bI_0, bI_1, bI_z, eI_n1, eI_l0, eI_g12, oN_n1, oN_l0, oN_g0, n1_l0, n1_g12, n1_0, n1_n1, z_0, z_1, z_2, z_3, z_4, z_5, z_6, z_7, z_8, z_9, z_a, z_b, z_c, z_d, z_e, z_f, oN_inj, oN_lt, oN_gt, oN_ge, oN_le, i_succ, if_pos, if_neg, c_has, c_bit, Bool.true_eq_false, Bool.false_eq_true, decide_true, decide_false, decide_eq_true_eq, decide_eq_false_iff_not, eI_lt, lle_0, lge_0, llt_0, lgt_0, leq_0, lle_1, lge_1, llt_1, lgt_1, leq_1, lle_2, lge_2, llt_2, lgt_2, leq_2, lle_3, lge_3, llt_3, lgt_3, leq_3, lle_4, lge_4, llt_4, lgt_4, leq_4, lle_5, lge_5, llt_5, lgt_5, leq_5, lle_6, lge_6, llt_6, lgt_6, leq_6, lle_7, lge_7, llt_7, lgt_7, leq_7, lle_11, lge_11, llt_11, lgt_11, leq_11, lle_12, lge_12, llt_12, lgt_12, leq_12, lle_15, lge_15, llt_15, lgt_15, leq_15, lle_20, lge_20, llt_20, lgt_20, leq_20, lle_24, lge_24, llt_24, lgt_24, leq_24, lle_25, lge_25, llt_25, lgt_25, leq_25, lle_31, lge_31, llt_31, lgt_31, leq_31, lle_48, lge_48, llt_48, lgt_48, leq_48, lle_57, lge_57, llt_57, lgt_57, leq_57, lle_32, lge_32, llt_32, lgt_32, leq_32, lle_59, lge_59, llt_59, lgt_59, leq_59, lle_97, lge_97, llt_97, lgt_97, leq_97, lle_122, lge_122, llt_122, lgt_122, leq_122, lle_99, lge_99, llt_99, lgt_99, leq_99, lle_100, lge_100, llt_100, lgt_100, leq_100, lle_144, lge_144, llt_144, lgt_144, leq_144, lle_255, lge_255, llt_255, lgt_255, leq_255, lle_300, lge_300, llt_300, lgt_300, leq_300, lle_1000, lge_1000, llt_1000, lgt_1000, leq_1000, lle_1000000, lge_1000000, llt_1000000, lgt_1000000, leq_1000000, lle_4096, lge_4096, llt_4096, lgt_4096, leq_4096]
      exact hw_ret ⟨ν, rfl, ⟨h.1, fun w hw => (hν.2 w hw).1, fun t ht => (hν.2 t ht).2⟩, hν.1⟩
  obtain ⟨r, e, ν, rfl, h1, h2⟩ := this
  exact ⟨ν, e, h1, h2⟩
theorem c_swap (hp : prOK shI p = true) (h : PR μ p M) {v w : Nat} (hv : v < 12) (hw : w < 12) (h1 : M v < 12) (h2 : M w < 12) : ∃ ν, f_X3_swap p (Int32.ofNat v) (Int32.ofNat w) ((mX Ξ) μ) = some ((mX Ξ) ν) ∧ PR ν p (jo (jo M v (M w)) w (M v)) ∧ Fr (FP p) μ ν := by
  obtain ⟨ν, e1, a1, a2⟩ := c_join (Ξ := Ξ) hp h hv h2
  obtain ⟨ξ, e2, b1, b2⟩ := c_join (Ξ := Ξ) hp a1 hw h1
  refine ⟨ξ, ?_, b1, a2.trans b2⟩
  simp (disch := omega) only [f_X3_swap, pr_v hp, pr_1 hp, pr_2 hp, pr_a1 hp, pr_a2 hp, pr_s1 hp, pr_s2 hp, c_taskOf hp h, e1, e2, lt, true_or, or_true, false_or, or_false, Option.bind_some, if_true, if_false, bI_0, bI_1, bI_z, eI_n1, eI_l0, eI_g12, oN_n1, oN_l0, oN_g0, n1_l0, n1_g12, n1_0, n1_n1, z_0, z_1, z_2, z_3, z_4, z_5, z_6, z_7, z_8, z_9, z_a, z_b, z_c, z_d, z_e, z_f, oN_inj, oN_lt, oN_gt, oN_ge, oN_le, i_succ, if_pos, if_neg, c_has, c_bit, Bool.true_eq_false, Bool.false_eq_true, decide_true, decide_false, decide_eq_true_eq, decide_eq_false_iff_not, eI_lt, lle_0, lge_0, llt_0, lgt_0, leq_0, lle_1, lge_1, llt_1, lgt_1, leq_1, lle_2, lge_2, llt_2, lgt_2, leq_2, lle_3, lge_3, llt_3, lgt_3, leq_3, lle_4, lge_4, llt_4, lgt_4, leq_4, lle_5, lge_5, llt_5, lgt_5, leq_5, lle_6, lge_6, llt_6, lgt_6, leq_6, lle_7, lge_7, llt_7, lgt_7, leq_7, lle_11, lge_11, llt_11, lgt_11, leq_11, lle_12, lge_12, llt_12, lgt_12, leq_12, lle_15, lge_15, llt_15, lgt_15, leq_15, lle_20, lge_20, llt_20, lgt_20, leq_20, lle_24, lge_24, llt_24, lgt_24, leq_24, lle_25, lge_25, llt_25, lgt_25, leq_25, lle_31, lge_31, llt_31, lgt_31, leq_31, lle_48, lge_48, llt_48, lgt_48, leq_48, lle_57, lge_57, llt_57, lgt_57, leq_57, lle_32, lge_32, llt_32, lgt_32, leq_32, lle_59, lge_59, llt_59, lgt_59, leq_59, lle_97, lge_97, llt_97, lgt_97, leq_97, lle_122, lge_122, llt_122, lgt_122, leq_122, lle_99, lge_99, llt_99, lgt_99, leq_99, lle_100, lge_100, llt_100, lgt_100, leq_100, lle_144, lge_144, llt_144, lgt_144, leq_144, lle_255, lge_255, llt_255, lgt_255, leq_255, lle_300, lge_300, llt_300, lgt_300, leq_300, lle_1000, lge_1000, llt_1000, lgt_1000, leq_1000, lle_1000000, lge_1000000, llt_1000000, lgt_1000000, leq_1000000, lle_4096, lge_4096, llt_4096, lgt_4096, leq_4096]
end PM
