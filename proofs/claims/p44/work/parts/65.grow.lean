/-! SEARCH: follow, grow, findFirst -/
variable {Ξ : xH}
section Gw
variable {μ : MM} {n m : Nat} {Wt Tt : Int32} {E : Nat → Nat → Bool} {M : Nat → Nat}
theorem c_wayAtPlace {j L : Nat} (h5 : μ.1 141 5 = Int32.ofNat L) (hj : j < L) (hL : L ≤ 24) : f_X7_wayAtPlace 141 (Int32.ofNat j) ((mX Ξ) μ) = some (μ.1 148 j, (mX Ξ) μ) := by
  simp (disch := omega) only [f_X7_wayAtPlace, f_X7_wayAtPlace_J28, f_X7_wayAtPlace_J27, vc_141, gR_141_0, gR_141_1, gR_141_2, gR_141_3, gR_141_4, gI_141_5, pI_141_5, gI_141_6, pI_141_6, gI_141_7, pI_141_7, gI_141_8, pI_141_8, gI_141_9, pI_141_9, aI_148, sI_148, h5, lt, true_or, or_true, false_or, or_false, Option.bind_some, if_true, if_false, bI_0, bI_1, bI_z, eI_n1, eI_l0, eI_g12, oN_n1, oN_l0, oN_g0, n1_l0, n1_g12, n1_0, n1_n1, z_0, z_1, z_2, z_3, z_4, z_5, z_6, z_7, z_8, z_9, z_a, z_b, z_c, z_d, z_e, z_f, oN_inj, oN_lt, oN_gt, oN_ge, oN_le, i_succ, if_pos, if_neg, c_has, c_bit, Bool.true_eq_false, Bool.false_eq_true, decide_true, decide_false, decide_eq_true_eq, decide_eq_false_iff_not, eI_lt, lle_0, lge_0, llt_0, lgt_0, leq_0, lle_1, lge_1, llt_1, lgt_1, leq_1, lle_2, lge_2, llt_2, lgt_2, leq_2, lle_3, lge_3, llt_3, lgt_3, leq_3, lle_4, lge_4, llt_4, lgt_4, leq_4, lle_5, lge_5, llt_5, lgt_5, leq_5, lle_6, lge_6, llt_6, lgt_6, leq_6, lle_7, lge_7, llt_7, lgt_7, leq_7, lle_11, lge_11, llt_11, lgt_11, leq_11, lle_12, lge_12, llt_12, lgt_12, leq_12, lle_15, lge_15, llt_15, lgt_15, leq_15, lle_20, lge_20, llt_20, lgt_20, leq_20, lle_24, lge_24, llt_24, lgt_24, leq_24, lle_25, lge_25, llt_25, lgt_25, leq_25, lle_31, lge_31, llt_31, lgt_31, leq_31, lle_48, lge_48, llt_48, lgt_48, leq_48, lle_57, lge_57, llt_57, lgt_57, leq_57, lle_32, lge_32, llt_32, lgt_32, leq_32, lle_59, lge_59, llt_59, lgt_59, leq_59, lle_97, lge_97, llt_97, lgt_97, leq_97, lle_122, lge_122, llt_122, lgt_122, leq_122, lle_99, lge_99, llt_99, lgt_99, leq_99, lle_100, lge_100, llt_100, lgt_100, leq_100, lle_144, lge_144, llt_144, lgt_144, leq_144, lle_255, lge_255, llt_255, lgt_255, leq_255, lle_300, lge_300, llt_300, lgt_300, leq_300, lle_1000, lge_1000, llt_1000, lgt_1000, leq_1000, lle_1000000, lge_1000000, llt_1000000, lgt_1000000, leq_1000000, lle_4096, lge_4096, llt_4096, lgt_4096, leq_4096]
/-- the pairs when i pairs of the way are made -/
noncomputable def par (M : Nat → Nat) (L : Nat) (pw pt : Nat → Nat) (i : Nat) (x : Nat) : Nat := if fi (fun j => decide (pw j = x)) i < i then pt (fi (fun j => decide (pw j = x)) i) else if i < L ∧ x = pw i then 12 else M x
theorem par_0 {L : Nat} {pw pt : Nat → Nat} (t : Tw E M L pw pt) : par M L pw pt 0 = M := by
  funext x
  unfold par
  rw [if_neg (Nat.not_lt_zero _)]
  split
  · rename_i c; rw [c.2, t.2.1]
  · rfl
theorem par_L {L : Nat} {pw pt : Nat → Nat} : par M L pw pt L = aug M L pw pt := by
  funext x
  unfold par aug
  split
  · rfl
  · rw [if_neg (fun z => Nat.lt_irrefl _ z.1)]
theorem par_on {L : Nat} {pw pt : Nat → Nat} (t : Tw E M L pw pt) {i j : Nat} (hi : i ≤ L) (hj : j < i) : par M L pw pt i (pw j) = pt j := by
  have e1 : fi (fun k => decide (pw k = pw j)) i = j := fi_eq hj (by simp) (fun b hb => by
    simp only [decide_eq_false_iff_not]
    intro z
    have := t.inj (by omega) (by omega) z
    omega)
  unfold par
  rw [e1, if_pos hj]
theorem par_off {L : Nat} {pw pt : Nat → Nat} {i x : Nat} (h : ∀ j, j < i → pw j ≠ x) : par M L pw pt i x = if i < L ∧ x = pw i then 12 else M x := by
  have e0 : fi (fun j => decide (pw j = x)) i = i := fi_none fun a ha => by simp [h a ha]
  unfold par
  rw [e0, if_neg (Nat.lt_irrefl _)]
theorem par_s (hE : Eb E) (h : Ms E M) {L : Nat} {pw pt : Nat → Nat} (t : Tw E M L pw pt) {i : Nat} (hi : i < L) : jo (par M L pw pt i) (pw i) (pt i) = par M L pw pt (i + 1) := by
  funext x
  have pi := (t.w12 hE hi).2
  show (if x = pw i then pt i else if par M L pw pt i x = pt i then 12 else par M L pw pt i x) = _
  rcases path_or pw i x with ⟨j, j1, j2⟩ | nn
  · subst j2
    have ne : pw j ≠ pw i := fun z => by
      have := t.inj (by omega) hi z
      omega
    have ne2 : pt j ≠ pt i := fun z => by
      have := t.tinj hE (by omega) hi z
      omega
    rw [par_on t (by omega) j1, par_on t (by omega) (by omega), if_neg ne, if_neg ne2]
  · by_cases c : x = pw i
    · rw [if_pos c, c, par_on t (by omega) (by omega)]
    · rw [if_neg c, par_off nn, par_off (i := i + 1) (fun a ha => by
        by_cases z : a = i
        · rw [z]; exact Ne.symm c
        · exact nn a (by omega))]
      have c2 : ¬ (i < L ∧ x = pw i) := fun z => c z.2
      rw [if_neg c2]
      by_cases d : i + 1 < L ∧ x = pw (i + 1)
      · have e : M x = pt i := by rw [d.2]; exact t.mate hE d.1
        rw [if_pos d, if_pos e]
      · rw [if_neg d]
        by_cases e : M x = pt i
        · exfalso
          have := ow_of h.1 (w := x) (by omega)
          rw [e] at this
          by_cases z : i + 1 < L
          · rw [t.next z] at this; exact d ⟨z, this.symm⟩
          · have l := t.last
            rw [show L - 1 = i by omega, this] at l
            have := h.1.2.1 x (by omega)
            omega
        · rw [if_neg e]
theorem c_follow (hS : SR μ n m Wt Tt E M) (hO : SOK n m Wt E M) {L : Nat} {pw pt : Nat → Nat} (t : Tw E M L pw pt) (h5 : μ.1 141 5 = Int32.ofNat (2 * L)) (hw : ∀ i, i < L → μ.1 148 (2 * i) = Int32.ofNat (pw i) ∧ μ.1 148 (2 * i + 1) = Int32.ofNat (pt i)) :
    ∃ ν, f_X7_follow 141 ((mX Ξ) μ) = some ((mX Ξ) ν) ∧ Fr FS μ ν ∧ SR ν n m Wt Tt E (aug M L pw pt) ∧ SOK n m Wt E (aug M L pw pt) := by
  have hE := hO.Eb
  have hL := t.len hE
  have key : Hw (f_X7_follow 141 ((mX Ξ) μ)) (fun r => ∃ ν, r = (mX Ξ) ν ∧ Fr (FP 142) μ ν ∧ PR ν 142 (aug M L pw pt)) := by
    refine hw_loop (L := fun i (s : Int32 × MM) => f_X7_follow_L2 f_X7_follow_J37 i 141 s.1 ((mX Ξ) s.2)) (I := fun a s => a ≤ L ∧ s.1 = Int32.ofNat (2 * (L - a)) ∧ Fr (FP 142) μ s.2 ∧ PR s.2 142 (par M L pw pt (L - a))) ?_ L (0, μ) ⟨Nat.le_refl _, by rw [Nat.sub_self]; rfl, Fr.refl _ _, ?_⟩ 5000 (by omega)
    · rintro a ⟨x, ν⟩ ⟨ha, hx, hf, hp⟩
      simp only at hx hf hp
      have g5 : ν.1 141 5 = Int32.ofNat (2 * L) := by rw [(hf _ _ (by unfold FP; omega)).1]; exact h5
      subst hx
      cases a with
      | zero =>
        right
        intro i
        rw [Nat.sub_zero, par_L] at hp
        have q : 2 * L ≤ 2 * (L - 0) + 1 := by omega
        simp (disch := omega) only [f_X7_follow_L2, f_X7_follow_J37, vc_141, gR_141_0, gR_141_1, gR_141_2, gR_141_3, gR_141_4, gI_141_5, pI_141_5, gI_141_6, pI_141_6, gI_141_7, pI_141_7, gI_141_8, pI_141_8, gI_141_9, pI_141_9, g5, lt, true_or, or_true, false_or, or_false, Option.bind_some, if_true, if_false, bI_0, bI_1, bI_z, eI_n1, eI_l0, eI_g12, oN_n1, oN_l0, oN_g0, n1_l0, n1_g12, n1_0, n1_n1, z_0, z_1, z_2, z_3, z_4, z_5, z_6, z_7, z_8, z_9, z_a, z_b, z_c, z_d, z_e, z_f, oN_inj, oN_lt, oN_gt, oN_ge, oN_le, i_succ, if_pos, if_neg, c_has, c_bit, Bool.true_eq_false, Bool.false_eq_true, decide_true, decide_false, decide_eq_true_eq, decide_eq_false_iff_not, eI_lt, lle_0, lge_0, llt_0, lgt_0, leq_0, lle_1, lge_1, llt_1, lgt_1, leq_1, lle_2, lge_2, llt_2, lgt_2, leq_2, lle_3, lge_3, llt_3, lgt_3, leq_3, lle_4, lge_4, llt_4, lgt_4, leq_4, lle_5, lge_5, llt_5, lgt_5, leq_5, lle_6, lge_6, llt_6, lgt_6, leq_6, lle_7, lge_7, llt_7, lgt_7, leq_7, lle_11, lge_11, llt_11, lgt_11, leq_11, lle_12, lge_12, llt_12, lgt_12, leq_12, lle_15, lge_15, llt_15, lgt_15, leq_15, lle_20, lge_20, llt_20, lgt_20, leq_20, lle_24, lge_24, llt_24, lgt_24, leq_24, lle_25, lge_25, llt_25, lgt_25, leq_25, lle_31, lge_31, llt_31, lgt_31, leq_31, lle_48, lge_48, llt_48, lgt_48, leq_48, lle_57, lge_57, llt_57, lgt_57, leq_57, lle_32, lge_32, llt_32, lgt_32, leq_32, lle_59, lge_59, llt_59, lgt_59, leq_59, lle_97, lge_97, llt_97, lgt_97, leq_97, lle_122, lge_122, llt_122, lgt_122, leq_122, lle_99, lge_99, llt_99, lgt_99, leq_99, lle_100, lge_100, llt_100, lgt_100, leq_100, lle_144, lge_144, llt_144, lgt_144, leq_144, lle_255, lge_255, llt_255, lgt_255, leq_255, lle_300, lge_300, llt_300, lgt_300, leq_300, lle_1000, lge_1000, llt_1000, lgt_1000, leq_1000, lle_1000000, lge_1000000, llt_1000000, lgt_1000000, leq_1000000, lle_4096, lge_4096, llt_4096, lgt_4096, leq_4096]
        exact hw_ret ⟨ν, rfl, hf, hp⟩
      | succ a =>
        left
        have hi : L - (a + 1) < L := by omega
        obtain ⟨v1, v2⟩ := hw (L - (a + 1)) hi
        have u1 : ν.1 148 (2 * (L - (a + 1))) = Int32.ofNat (pw (L - (a + 1))) := by rw [(hf _ _ (by unfold FP; omega)).1]; exact v1
        have u2 : ν.1 148 (2 * (L - (a + 1)) + 1) = Int32.ofNat (pt (L - (a + 1))) := by rw [(hf _ _ (by unfold FP; omega)).1]; exact v2
        obtain ⟨b1, b2⟩ := t.w12 hE hi
        obtain ⟨ξ, e, p1, p2⟩ := c_join (Ξ := Ξ) pr142 hp b1 b2
        rw [par_s hE hO.2.2.2.2 t hi] at p1
        refine ⟨a, (Int32.ofNat (2 * (L - a)), ξ), by omega, ⟨by omega, rfl, hf.trans p2, by rw [show L - a = L - (a + 1) + 1 by omega]; exact p1⟩, fun i => ?_⟩
        have e2 : Int32.ofNat (2 * (L - (a + 1))) + (2 : Int32) = Int32.ofNat (2 * (L - a)) := by
          rw [show (2 : Int32) = Int32.ofNat 2 from rfl, oN_add]; congr 1; omega
        show f_X7_follow_L2 f_X7_follow_J37 (i + 1) 141 (Int32.ofNat (2 * (L - (a + 1)))) ((mX Ξ) ν) = f_X7_follow_L2 f_X7_follow_J37 i 141 (Int32.ofNat (2 * (L - a))) ((mX Ξ) ξ)
        simp (disch := omega) only [f_X7_follow_L2, vc_141, gR_141_0, gR_141_1, gR_141_2, gR_141_3, gR_141_4, gI_141_5, pI_141_5, gI_141_6, pI_141_6, gI_141_7, pI_141_7, gI_141_8, pI_141_8, gI_141_9, pI_141_9, g5, c_wayAtPlace g5, u1, u2, pr_v pr142, e, e2, lt, true_or, or_true, false_or, or_false, Option.bind_some, if_true, if_false, bI_0, bI_1, bI_z, eI_n1, eI_l0, eI_g12, oN_n1, oN_l0, oN_g0, n1_l0, n1_g12, n1_0, n1_n1, z_0, z_1, z_2, z_3, z_4, z_5, z_6, z_7, z_8, z_9, z_a, z_b, z_c, z_d, z_e, z_f, oN_inj, oN_lt, oN_gt, oN_ge, oN_le, i_succ, if_pos, if_neg, c_has, c_bit, Bool.true_eq_false, Bool.false_eq_true, decide_true, decide_false, decide_eq_true_eq, decide_eq_false_iff_not, eI_lt, lle_0, lge_0, llt_0, lgt_0, leq_0, lle_1, lge_1, llt_1, lgt_1, leq_1, lle_2, lge_2, llt_2, lgt_2, leq_2, lle_3, lge_3, llt_3, lgt_3, leq_3, lle_4, lge_4, llt_4, lgt_4, leq_4, lle_5, lge_5, llt_5, lgt_5, leq_5, lle_6, lge_6, llt_6, lgt_6, leq_6, lle_7, lge_7, llt_7, lgt_7, leq_7, lle_11, lge_11, llt_11, lgt_11, leq_11, lle_12, lge_12, llt_12, lgt_12, leq_12, lle_15, lge_15, llt_15, lgt_15, leq_15, lle_20, lge_20, llt_20, lgt_20, leq_20, lle_24, lge_24, llt_24, lgt_24, leq_24, lle_25, lge_25, llt_25, lgt_25, leq_25, lle_31, lge_31, llt_31, lgt_31, leq_31, lle_48, lge_48, llt_48, lgt_48, leq_48, lle_57, lge_57, llt_57, lgt_57, leq_57, lle_32, lge_32, llt_32, lgt_32, leq_32, lle_59, lge_59, llt_59, lgt_59, leq_59, lle_97, lge_97, llt_97, lgt_97, leq_97, lle_122, lge_122, llt_122, lgt_122, leq_122, lle_99, lge_99, llt_99, lgt_99, leq_99, lle_100, lge_100, llt_100, lgt_100, leq_100, lle_144, lge_144, llt_144, lgt_144, leq_144, lle_255, lge_255, llt_255, lgt_255, leq_255, lle_300, lge_300, llt_300, lgt_300, leq_300, lle_1000, lge_1000, llt_1000, lgt_1000, leq_1000, lle_1000000, lge_1000000, llt_1000000, lgt_1000000, leq_1000000, lle_4096, lge_4096, llt_4096, lgt_4096, leq_4096]
    · rw [Nat.sub_self, par_0 t]; exact hS.2.2
  obtain ⟨r, e, ν, rfl, h1, h2⟩ := key
  refine ⟨ν, e, h1.mono (fun q i z => by unfold FP at z; unfold FS; omega), ?_, hO.M (aug_Ms hE hO.2.2.2.2 t)⟩
  obtain ⟨⟨a1, a2, a3, a4⟩, a5, a6⟩ := hS
  refine ⟨⟨?_, ?_, ?_, ?_⟩, fun w hw k => ?_, h2⟩
  · rw [(h1 _ _ (by unfold FP; omega)).1]; exact a1
  · rw [(h1 _ _ (by unfold FP; omega)).1]; exact a2
  · rw [(h1 _ _ (by unfold FP; omega)).1]; exact a3
  · rw [(h1 _ _ (by unfold FP; omega)).1]; exact a4
  · rw [(h1 _ _ (by unfold FP; omega)).1]; exact a5 w hw k
theorem nr_ge (hO : SOK n m Wt E M) {v : Nat} (h : n ≤ v) : Nr E M v := by
  intro k q
  cases k with
  | zero => exact q
  | succ k =>
    obtain ⟨t, -, e, -⟩ := q
    have := (hO.2.2.1 v t e).1
    omega
theorem c_grow (hS : SR μ n m Wt Tt E M) (hO : SOK n m Wt E M) {most : Nat} (hm : most ≤ 12) : ∃ k ν M', f_X7_grow 141 (Int32.ofNat most) ((mX Ξ) μ) = some (Int32.ofNat k, (mX Ξ) ν) ∧ Fr FS μ ν ∧ SR ν n m Wt Tt E M' ∧ SOK n m Wt E M' ∧ Gr E most k M M' := by
  have hE := hO.Eb
  have key : Hw (f_X7_grow 141 (Int32.ofNat most) ((mX Ξ) μ)) (fun r => ∃ k ν M', r = (Int32.ofNat k, (mX Ξ) ν) ∧ Fr FS μ ν ∧ SR ν n m Wt Tt E M' ∧ SOK n m Wt E M' ∧ Gr E most k M M') := by
    have hn := hO.1
    refine hw_for (L := fun i w (s : Nat × MM) => f_X7_grow_L4 f_X7_grow_J38 i 141 (Int32.ofNat most) (Int32.ofNat s.1) w ((mX Ξ) s.2)) (s0 := (0, μ)) n (fun w s => ∃ M', Fr FS μ s.2 ∧ SR s.2 n m Wt Tt E M' ∧ SOK n m Wt E M' ∧ Ch E s.1 M M' ∧ s.1 ≤ most ∧ ∀ v, v < w → M' v = 12 → Nr E M' v) ⟨M, Fr.refl _ _, hS, hO, rfl, Nat.zero_le _, fun v hv => absurd hv (Nat.not_lt_zero _)⟩ (by omega) (fun w hw s hs => ?_) (fun s hs i => ?_)
    · obtain ⟨k, ν⟩ := s
      obtain ⟨M', a1, a2, a3, a4, a5, a6⟩ := hs
      simp only at a1 a2 a4 a5
      have g6 := a2.1.1
      by_cases c : k < most
      · left
        obtain ⟨r, ξ, e, f1, f2⟩ := c_find (Ξ := Ξ) a2 a3 (w := w) (by omega)
        rcases f2 with ⟨r0, f2⟩ | ⟨L, pw, pt, t, p0, rL, l5, lw⟩
        · refine ⟨(k, ξ), ⟨M', a1.trans (f1.mono fun q i z => z.S), a2.ff f1, a3, a4, a5, fun v hv hm => ?_⟩, fun i => ?_⟩
          · by_cases z : v = w
            · rw [z] at hm ⊢; exact f2 hm
            · exact a6 v (by omega) hm
          · show f_X7_grow_L4 f_X7_grow_J38 (i + 1) 141 (Int32.ofNat most) (Int32.ofNat k) (Int32.ofNat w) ((mX Ξ) ν) = f_X7_grow_L4 f_X7_grow_J38 i 141 (Int32.ofNat most) (Int32.ofNat k) (Int32.ofNat (w + 1)) ((mX Ξ) ξ)
            simp (disch := omega) only [f_X7_grow_L4, f_X7_grow_J38, f_X7_grow_J32, vc_141, gR_141_0, gR_141_1, gR_141_2, gR_141_3, gR_141_4, gI_141_5, pI_141_5, gI_141_6, pI_141_6, gI_141_7, pI_141_7, gI_141_8, pI_141_8, gI_141_9, pI_141_9, g6, e, r0, lt, true_or, or_true, false_or, or_false, Option.bind_some, if_true, if_false, bI_0, bI_1, bI_z, eI_n1, eI_l0, eI_g12, oN_n1, oN_l0, oN_g0, n1_l0, n1_g12, n1_0, n1_n1, z_0, z_1, z_2, z_3, z_4, z_5, z_6, z_7, z_8, z_9, z_a, z_b, z_c, z_d, z_e, z_f, oN_inj, oN_lt, oN_gt, oN_ge, oN_le, i_succ, if_pos, if_neg, c_has, c_bit, Bool.true_eq_false, Bool.false_eq_true, decide_true, decide_false, decide_eq_true_eq, decide_eq_false_iff_not, eI_lt, lle_0, lge_0, llt_0, lgt_0, leq_0, lle_1, lge_1, llt_1, lgt_1, leq_1, lle_2, lge_2, llt_2, lgt_2, leq_2, lle_3, lge_3, llt_3, lgt_3, leq_3, lle_4, lge_4, llt_4, lgt_4, leq_4, lle_5, lge_5, llt_5, lgt_5, leq_5, lle_6, lge_6, llt_6, lgt_6, leq_6, lle_7, lge_7, llt_7, lgt_7, leq_7, lle_11, lge_11, llt_11, lgt_11, leq_11, lle_12, lge_12, llt_12, lgt_12, leq_12, lle_15, lge_15, llt_15, lgt_15, leq_15, lle_20, lge_20, llt_20, lgt_20, leq_20, lle_24, lge_24, llt_24, lgt_24, leq_24, lle_25, lge_25, llt_25, lgt_25, leq_25, lle_31, lge_31, llt_31, lgt_31, leq_31, lle_48, lge_48, llt_48, lgt_48, leq_48, lle_57, lge_57, llt_57, lgt_57, leq_57, lle_32, lge_32, llt_32, lgt_32, leq_32, lle_59, lge_59, llt_59, lgt_59, leq_59, lle_97, lge_97, llt_97, lgt_97, leq_97, lle_122, lge_122, llt_122, lgt_122, leq_122, lle_99, lge_99, llt_99, lgt_99, leq_99, lle_100, lge_100, llt_100, lgt_100, leq_100, lle_144, lge_144, llt_144, lgt_144, leq_144, lle_255, lge_255, llt_255, lgt_255, leq_255, lle_300, lge_300, llt_300, lgt_300, leq_300, lle_1000, lge_1000, llt_1000, lgt_1000, leq_1000, lle_1000000, lge_1000000, llt_1000000, lgt_1000000, leq_1000000, lle_4096, lge_4096, llt_4096, lgt_4096, leq_4096]
        · have hL := t.1
          have hL2 := t.len hE
          obtain ⟨ζ, e2, g1, g2, g3⟩ := c_follow (Ξ := Ξ) (a2.ff f1) a3 t l5 lw
          have nr0 : ∀ v, v < pw 0 → M' v = 12 → Nr E M' v := fun v hv => a6 v (by omega)
          refine ⟨(k + 1, ζ), ⟨aug M' L pw pt, (a1.trans (f1.mono fun q i z => z.S)).trans g1, g2, g3, a4.snoc ⟨L, pw, pt, t, nr0, rfl⟩, c, fun v hv hm => ?_⟩, fun i => ?_⟩
          · obtain ⟨h1, h2⟩ := (aug_free hE t v).mp hm
            exact aug_nr hE a3.2.2.2.2 t h1 (a6 v (by omega) h1)
          · show f_X7_grow_L4 f_X7_grow_J38 (i + 1) 141 (Int32.ofNat most) (Int32.ofNat k) (Int32.ofNat w) ((mX Ξ) ν) = f_X7_grow_L4 f_X7_grow_J38 i 141 (Int32.ofNat most) (Int32.ofNat (k + 1)) (Int32.ofNat (w + 1)) ((mX Ξ) ζ)
            simp (disch := omega) only [f_X7_grow_L4, f_X7_grow_J38, f_X7_grow_J32, vc_141, gR_141_0, gR_141_1, gR_141_2, gR_141_3, gR_141_4, gI_141_5, pI_141_5, gI_141_6, pI_141_6, gI_141_7, pI_141_7, gI_141_8, pI_141_8, gI_141_9, pI_141_9, g6, e, rL, e2, lt, true_or, or_true, false_or, or_false, Option.bind_some, if_true, if_false, bI_0, bI_1, bI_z, eI_n1, eI_l0, eI_g12, oN_n1, oN_l0, oN_g0, n1_l0, n1_g12, n1_0, n1_n1, z_0, z_1, z_2, z_3, z_4, z_5, z_6, z_7, z_8, z_9, z_a, z_b, z_c, z_d, z_e, z_f, oN_inj, oN_lt, oN_gt, oN_ge, oN_le, i_succ, if_pos, if_neg, c_has, c_bit, Bool.true_eq_false, Bool.false_eq_true, decide_true, decide_false, decide_eq_true_eq, decide_eq_false_iff_not, eI_lt, lle_0, lge_0, llt_0, lgt_0, leq_0, lle_1, lge_1, llt_1, lgt_1, leq_1, lle_2, lge_2, llt_2, lgt_2, leq_2, lle_3, lge_3, llt_3, lgt_3, leq_3, lle_4, lge_4, llt_4, lgt_4, leq_4, lle_5, lge_5, llt_5, lgt_5, leq_5, lle_6, lge_6, llt_6, lgt_6, leq_6, lle_7, lge_7, llt_7, lgt_7, leq_7, lle_11, lge_11, llt_11, lgt_11, leq_11, lle_12, lge_12, llt_12, lgt_12, leq_12, lle_15, lge_15, llt_15, lgt_15, leq_15, lle_20, lge_20, llt_20, lgt_20, leq_20, lle_24, lge_24, llt_24, lgt_24, leq_24, lle_25, lge_25, llt_25, lgt_25, leq_25, lle_31, lge_31, llt_31, lgt_31, leq_31, lle_48, lge_48, llt_48, lgt_48, leq_48, lle_57, lge_57, llt_57, lgt_57, leq_57, lle_32, lge_32, llt_32, lgt_32, leq_32, lle_59, lge_59, llt_59, lgt_59, leq_59, lle_97, lge_97, llt_97, lgt_97, leq_97, lle_122, lge_122, llt_122, lgt_122, leq_122, lle_99, lge_99, llt_99, lgt_99, leq_99, lle_100, lge_100, llt_100, lgt_100, leq_100, lle_144, lge_144, llt_144, lgt_144, leq_144, lle_255, lge_255, llt_255, lgt_255, leq_255, lle_300, lge_300, llt_300, lgt_300, leq_300, lle_1000, lge_1000, llt_1000, lgt_1000, leq_1000, lle_1000000, lge_1000000, llt_1000000, lgt_1000000, leq_1000000, lle_4096, lge_4096, llt_4096, lgt_4096, leq_4096]
      · right
        intro i
        show Hw (f_X7_grow_L4 f_X7_grow_J38 (i + 1) 141 (Int32.ofNat most) (Int32.ofNat k) (Int32.ofNat w) ((mX Ξ) ν)) _
        simp (disch := omega) only [f_X7_grow_L4, f_X7_grow_J38, f_X7_grow_J32, vc_141, gR_141_0, gR_141_1, gR_141_2, gR_141_3, gR_141_4, gI_141_5, pI_141_5, gI_141_6, pI_141_6, gI_141_7, pI_141_7, gI_141_8, pI_141_8, gI_141_9, pI_141_9, g6, lt, true_or, or_true, false_or, or_false, Option.bind_some, if_true, if_false, bI_0, bI_1, bI_z, eI_n1, eI_l0, eI_g12, oN_n1, oN_l0, oN_g0, n1_l0, n1_g12, n1_0, n1_n1, z_0, z_1, z_2, z_3, z_4, z_5, z_6, z_7, z_8, z_9, z_a, z_b, z_c, z_d, z_e, z_f, oN_inj, oN_lt, oN_gt, oN_ge, oN_le, i_succ, if_pos, if_neg, c_has, c_bit, Bool.true_eq_false, Bool.false_eq_true, decide_true, decide_false, decide_eq_true_eq, decide_eq_false_iff_not, eI_lt, lle_0, lge_0, llt_0, lgt_0, leq_0, lle_1, lge_1, llt_1, lgt_1, leq_1, lle_2, lge_2, llt_2, lgt_2, leq_2, lle_3, lge_3, llt_3, lgt_3, leq_3, lle_4, lge_4, llt_4, lgt_4, leq_4, lle_5, lge_5, llt_5, lgt_5, leq_5, lle_6, lge_6, llt_6, lgt_6, leq_6, lle_7, lge_7, llt_7, lgt_7, leq_7, lle_11, lge_11, llt_11, lgt_11, leq_11, lle_12, lge_12, llt_12, lgt_12, leq_12, lle_15, lge_15, llt_15, lgt_15, leq_15, lle_20, lge_20, llt_20, lgt_20, leq_20, lle_24, lge_24, llt_24, lgt_24, leq_24, lle_25, lge_25, llt_25, lgt_25, leq_25, lle_31, lge_31, llt_31, lgt_31, leq_31, lle_48, lge_48, llt_48, lgt_48, leq_48, lle_57, lge_57, llt_57, lgt_57, leq_57, lle_32, lge_32, llt_32, lgt_32, leq_32, lle_59, lge_59, llt_59, lgt_59, leq_59, lle_97, lge_97, llt_97, lgt_97, leq_97, lle_122, lge_122, llt_122, lgt_122, leq_122, lle_99, lge_99, llt_99, lgt_99, leq_99, lle_100, lge_100, llt_100, lgt_100, leq_100, lle_144, lge_144, llt_144, lgt_144, leq_144, lle_255, lge_255, llt_255, lgt_255, leq_255, lle_300, lge_300, llt_300, lgt_300, leq_300, lle_1000, lge_1000, llt_1000, lgt_1000, leq_1000, lle_1000000, lge_1000000, llt_1000000, lgt_1000000, leq_1000000, lle_4096, lge_4096, llt_4096, lgt_4096, leq_4096]
        exact hw_ret ⟨k, ν, M', rfl, a1, a2, a3, a4, a5, Or.inl (by omega)⟩
    · obtain ⟨k, ν⟩ := s
      obtain ⟨M', a1, a2, a3, a4, a5, a6⟩ := hs
      simp only at a1 a2 a4 a5
      have g6 := a2.1.1
      show Hw (f_X7_grow_L4 f_X7_grow_J38 (i + 1) 141 (Int32.ofNat most) (Int32.ofNat k) (Int32.ofNat n) ((mX Ξ) ν)) _
      simp (disch := omega) only [f_X7_grow_L4, f_X7_grow_J38, f_X7_grow_J32, vc_141, gR_141_0, gR_141_1, gR_141_2, gR_141_3, gR_141_4, gI_141_5, pI_141_5, gI_141_6, pI_141_6, gI_141_7, pI_141_7, gI_141_8, pI_141_8, gI_141_9, pI_141_9, g6, lt, true_or, or_true, false_or, or_false, Option.bind_some, if_true, if_false, bI_0, bI_1, bI_z, eI_n1, eI_l0, eI_g12, oN_n1, oN_l0, oN_g0, n1_l0, n1_g12, n1_0, n1_n1, z_0, z_1, z_2, z_3, z_4, z_5, z_6, z_7, z_8, z_9, z_a, z_b, z_c, z_d, z_e, z_f, oN_inj, oN_lt, oN_gt, oN_ge, oN_le, i_succ, if_pos, if_neg, c_has, c_bit, Bool.true_eq_false, Bool.false_eq_true, decide_true, decide_false, decide_eq_true_eq, decide_eq_false_iff_not, eI_lt, lle_0, lge_0, llt_0, lgt_0, leq_0, lle_1, lge_1, llt_1, lgt_1, leq_1, lle_2, lge_2, llt_2, lgt_2, leq_2, lle_3, lge_3, llt_3, lgt_3, leq_3, lle_4, lge_4, llt_4, lgt_4, leq_4, lle_5, lge_5, llt_5, lgt_5, leq_5, lle_6, lge_6, llt_6, lgt_6, leq_6, lle_7, lge_7, llt_7, lgt_7, leq_7, lle_11, lge_11, llt_11, lgt_11, leq_11, lle_12, lge_12, llt_12, lgt_12, leq_12, lle_15, lge_15, llt_15, lgt_15, leq_15, lle_20, lge_20, llt_20, lgt_20, leq_20, lle_24, lge_24, llt_24, lgt_24, leq_24, lle_25, lge_25, llt_25, lgt_25, leq_25, lle_31, lge_31, llt_31, lgt_31, leq_31, lle_48, lge_48, llt_48, lgt_48, leq_48, lle_57, lge_57, llt_57, lgt_57, leq_57, lle_32, lge_32, llt_32, lgt_32, leq_32, lle_59, lge_59, llt_59, lgt_59, leq_59, lle_97, lge_97, llt_97, lgt_97, leq_97, lle_122, lge_122, llt_122, lgt_122, leq_122, lle_99, lge_99, llt_99, lgt_99, leq_99, lle_100, lge_100, llt_100, lgt_100, leq_100, lle_144, lge_144, llt_144, lgt_144, leq_144, lle_255, lge_255, llt_255, lgt_255, leq_255, lle_300, lge_300, llt_300, lgt_300, leq_300, lle_1000, lge_1000, llt_1000, lgt_1000, leq_1000, lle_1000000, lge_1000000, llt_1000000, lgt_1000000, leq_1000000, lle_4096, lge_4096, llt_4096, lgt_4096, leq_4096]
      exact hw_ret ⟨k, ν, M', rfl, a1, a2, a3, a4, a5, Or.inr fun v hv hm => by
        by_cases z : v < n
        · exact a6 v z hm
        · exact nr_ge a3 (by omega)⟩
  obtain ⟨r, e, k, ν, M', rfl, h⟩ := key
  exact ⟨k, ν, M', e, h⟩
/-- the first way: of the least worker that has one -/
theorem c_findFirst (hS : SR μ n m Wt Tt E M) (hO : SOK n m Wt E M) : ∃ r ν, f_X7_findFirst 141 ((mX Ξ) μ) = some (r, (mX Ξ) ν) ∧ Fr Ff μ ν ∧ ((r = 0 ∧ Fin' E M) ∨
    ∃ L pw pt, Tw E M L pw pt ∧ (∀ v, v < pw 0 → M v = 12 → Nr E M v) ∧ r = Int32.ofNat (2 * L) ∧ ν.1 141 5 = Int32.ofNat (2 * L) ∧ ∀ i, i < L → ν.1 148 (2 * i) = Int32.ofNat (pw i) ∧ ν.1 148 (2 * i + 1) = Int32.ofNat (pt i)) := by
  have hE := hO.Eb
  have key : Hw (f_X7_findFirst 141 ((mX Ξ) μ)) (fun r => ∃ ν, r.2 = (mX Ξ) ν ∧ Fr Ff μ ν ∧ ((r.1 = 0 ∧ Fin' E M) ∨
    ∃ L pw pt, Tw E M L pw pt ∧ (∀ v, v < pw 0 → M v = 12 → Nr E M v) ∧ r.1 = Int32.ofNat (2 * L) ∧ ν.1 141 5 = Int32.ofNat (2 * L) ∧ ∀ i, i < L → ν.1 148 (2 * i) = Int32.ofNat (pw i) ∧ ν.1 148 (2 * i + 1) = Int32.ofNat (pt i))) := by
    have hn := hO.1
    refine hw_for (L := fun i w (s : MM) => f_X7_findFirst_L2 f_X7_findFirst_J18 f_X7_findFirst_J29 i 141 w ((mX Ξ) s)) (s0 := μ) n (fun w s => Fr Ff μ s ∧ ∀ v, v < w → M v = 12 → Nr E M v) ⟨Fr.refl _ _, fun v hv => absurd hv (Nat.not_lt_zero _)⟩ (by omega) (fun w hw ν hs => ?_) (fun ν hs i => ?_)
    · obtain ⟨a1, a6⟩ := hs
      have g6 := (hS.ff a1).1.1
      obtain ⟨r, ξ, e, f1, f2⟩ := c_find (Ξ := Ξ) (hS.ff a1) hO (w := w) (by omega)
      rcases f2 with ⟨r0, f2⟩ | ⟨L, pw, pt, t, p0, rL, l5, lw⟩
      · left
        refine ⟨ξ, ⟨a1.trans f1, fun v hv hm => ?_⟩, fun i => ?_⟩
        · by_cases z : v = w
          · rw [z] at hm ⊢; exact f2 hm
          · exact a6 v (by omega) hm
        · simp (disch := omega) only [f_X7_findFirst_L2, vc_141, gR_141_0, gR_141_1, gR_141_2, gR_141_3, gR_141_4, gI_141_5, pI_141_5, gI_141_6, pI_141_6, gI_141_7, pI_141_7, gI_141_8, pI_141_8, gI_141_9, pI_141_9, g6, e, r0, lt, true_or, or_true, false_or, or_false, Option.bind_some, if_true, if_false, bI_0, bI_1, bI_z, eI_n1, eI_l0, eI_g12, oN_n1, oN_l0, oN_g0, n1_l0, n1_g12, n1_0, n1_n1, z_0, z_1, z_2, z_3, z_4, z_5, z_6, z_7, z_8, z_9, z_a, z_b, z_c, z_d, z_e, z_f, oN_inj, oN_lt, oN_gt, oN_ge, oN_le, i_succ, if_pos, if_neg, c_has, c_bit, Bool.true_eq_false, Bool.false_eq_true, decide_true, decide_false, decide_eq_true_eq, decide_eq_false_iff_not, eI_lt, lle_0, lge_0, llt_0, lgt_0, leq_0, lle_1, lge_1, llt_1, lgt_1, leq_1, lle_2, lge_2, llt_2, lgt_2, leq_2, lle_3, lge_3, llt_3, lgt_3, leq_3, lle_4, lge_4, llt_4, lgt_4, leq_4, lle_5, lge_5, llt_5, lgt_5, leq_5, lle_6, lge_6, llt_6, lgt_6, leq_6, lle_7, lge_7, llt_7, lgt_7, leq_7, lle_11, lge_11, llt_11, lgt_11, leq_11, lle_12, lge_12, llt_12, lgt_12, leq_12, lle_15, lge_15, llt_15, lgt_15, leq_15, lle_20, lge_20, llt_20, lgt_20, leq_20, lle_24, lge_24, llt_24, lgt_24, leq_24, lle_25, lge_25, llt_25, lgt_25, leq_25, lle_31, lge_31, llt_31, lgt_31, leq_31, lle_48, lge_48, llt_48, lgt_48, leq_48, lle_57, lge_57, llt_57, lgt_57, leq_57, lle_32, lge_32, llt_32, lgt_32, leq_32, lle_59, lge_59, llt_59, lgt_59, leq_59, lle_97, lge_97, llt_97, lgt_97, leq_97, lle_122, lge_122, llt_122, lgt_122, leq_122, lle_99, lge_99, llt_99, lgt_99, leq_99, lle_100, lge_100, llt_100, lgt_100, leq_100, lle_144, lge_144, llt_144, lgt_144, leq_144, lle_255, lge_255, llt_255, lgt_255, leq_255, lle_300, lge_300, llt_300, lgt_300, leq_300, lle_1000, lge_1000, llt_1000, lgt_1000, leq_1000, lle_1000000, lge_1000000, llt_1000000, lgt_1000000, leq_1000000, lle_4096, lge_4096, llt_4096, lgt_4096, leq_4096]
      · right
        intro i
        have hL := t.1
        have hL2 := t.len hE
        simp (disch := omega) only [f_X7_findFirst_L2, f_X7_findFirst_J29, f_X7_findFirst_J18, vc_141, gR_141_0, gR_141_1, gR_141_2, gR_141_3, gR_141_4, gI_141_5, pI_141_5, gI_141_6, pI_141_6, gI_141_7, pI_141_7, gI_141_8, pI_141_8, gI_141_9, pI_141_9, g6, e, rL, l5, lt, true_or, or_true, false_or, or_false, Option.bind_some, if_true, if_false, bI_0, bI_1, bI_z, eI_n1, eI_l0, eI_g12, oN_n1, oN_l0, oN_g0, n1_l0, n1_g12, n1_0, n1_n1, z_0, z_1, z_2, z_3, z_4, z_5, z_6, z_7, z_8, z_9, z_a, z_b, z_c, z_d, z_e, z_f, oN_inj, oN_lt, oN_gt, oN_ge, oN_le, i_succ, if_pos, if_neg, c_has, c_bit, Bool.true_eq_false, Bool.false_eq_true, decide_true, decide_false, decide_eq_true_eq, decide_eq_false_iff_not, eI_lt, lle_0, lge_0, llt_0, lgt_0, leq_0, lle_1, lge_1, llt_1, lgt_1, leq_1, lle_2, lge_2, llt_2, lgt_2, leq_2, lle_3, lge_3, llt_3, lgt_3, leq_3, lle_4, lge_4, llt_4, lgt_4, leq_4, lle_5, lge_5, llt_5, lgt_5, leq_5, lle_6, lge_6, llt_6, lgt_6, leq_6, lle_7, lge_7, llt_7, lgt_7, leq_7, lle_11, lge_11, llt_11, lgt_11, leq_11, lle_12, lge_12, llt_12, lgt_12, leq_12, lle_15, lge_15, llt_15, lgt_15, leq_15, lle_20, lge_20, llt_20, lgt_20, leq_20, lle_24, lge_24, llt_24, lgt_24, leq_24, lle_25, lge_25, llt_25, lgt_25, leq_25, lle_31, lge_31, llt_31, lgt_31, leq_31, lle_48, lge_48, llt_48, lgt_48, leq_48, lle_57, lge_57, llt_57, lgt_57, leq_57, lle_32, lge_32, llt_32, lgt_32, leq_32, lle_59, lge_59, llt_59, lgt_59, leq_59, lle_97, lge_97, llt_97, lgt_97, leq_97, lle_122, lge_122, llt_122, lgt_122, leq_122, lle_99, lge_99, llt_99, lgt_99, leq_99, lle_100, lge_100, llt_100, lgt_100, leq_100, lle_144, lge_144, llt_144, lgt_144, leq_144, lle_255, lge_255, llt_255, lgt_255, leq_255, lle_300, lge_300, llt_300, lgt_300, leq_300, lle_1000, lge_1000, llt_1000, lgt_1000, leq_1000, lle_1000000, lge_1000000, llt_1000000, lgt_1000000, leq_1000000, lle_4096, lge_4096, llt_4096, lgt_4096, leq_4096]
        exact hw_ret ⟨ξ, rfl, a1.trans f1, Or.inr ⟨L, pw, pt, t, fun v hv => a6 v (by omega), rfl, l5, lw⟩⟩
    · obtain ⟨a1, a6⟩ := hs
      have g6 := (hS.ff a1).1.1
      simp (disch := omega) only [f_X7_findFirst_L2, f_X7_findFirst_J29, f_X7_findFirst_J18, vc_141, gR_141_0, gR_141_1, gR_141_2, gR_141_3, gR_141_4, gI_141_5, pI_141_5, gI_141_6, pI_141_6, gI_141_7, pI_141_7, gI_141_8, pI_141_8, gI_141_9, pI_141_9, g6, lt, true_or, or_true, false_or, or_false, Option.bind_some, if_true, if_false, bI_0, bI_1, bI_z, eI_n1, eI_l0, eI_g12, oN_n1, oN_l0, oN_g0, n1_l0, n1_g12, n1_0, n1_n1, z_0, z_1, z_2, z_3, z_4, z_5, z_6, z_7, z_8, z_9, z_a, z_b, z_c, z_d, z_e, z_f, oN_inj, oN_lt, oN_gt, oN_ge, oN_le, i_succ, if_pos, if_neg, c_has, c_bit, Bool.true_eq_false, Bool.false_eq_true, decide_true, decide_false, decide_eq_true_eq, decide_eq_false_iff_not, eI_lt, lle_0, lge_0, llt_0, lgt_0, leq_0, lle_1, lge_1, llt_1, lgt_1, leq_1, lle_2, lge_2, llt_2, lgt_2, leq_2, lle_3, lge_3, llt_3, lgt_3, leq_3, lle_4, lge_4, llt_4, lgt_4, leq_4, lle_5, lge_5, llt_5, lgt_5, leq_5, lle_6, lge_6, llt_6, lgt_6, leq_6, lle_7, lge_7, llt_7, lgt_7, leq_7, lle_11, lge_11, llt_11, lgt_11, leq_11, lle_12, lge_12, llt_12, lgt_12, leq_12, lle_15, lge_15, llt_15, lgt_15, leq_15, lle_20, lge_20, llt_20, lgt_20, leq_20, lle_24, lge_24, llt_24, lgt_24, leq_24, lle_25, lge_25, llt_25, lgt_25, leq_25, lle_31, lge_31, llt_31, lgt_31, leq_31, lle_48, lge_48, llt_48, lgt_48, leq_48, lle_57, lge_57, llt_57, lgt_57, leq_57, lle_32, lge_32, llt_32, lgt_32, leq_32, lle_59, lge_59, llt_59, lgt_59, leq_59, lle_97, lge_97, llt_97, lgt_97, leq_97, lle_122, lge_122, llt_122, lgt_122, leq_122, lle_99, lge_99, llt_99, lgt_99, leq_99, lle_100, lge_100, llt_100, lgt_100, leq_100, lle_144, lge_144, llt_144, lgt_144, leq_144, lle_255, lge_255, llt_255, lgt_255, leq_255, lle_300, lge_300, llt_300, lgt_300, leq_300, lle_1000, lge_1000, llt_1000, lgt_1000, leq_1000, lle_1000000, lge_1000000, llt_1000000, lgt_1000000, leq_1000000, lle_4096, lge_4096, llt_4096, lgt_4096, leq_4096]
      exact hw_ret ⟨ν, rfl, a1, Or.inl ⟨rfl, fun v hv hm => by
        by_cases z : v < n
        · exact a6 v z hm
        · exact nr_ge hO (by omega)⟩⟩
  obtain ⟨⟨r, h⟩, e, ν, rfl, h2⟩ := key
  exact ⟨r, ν, e, h2⟩
end Gw
