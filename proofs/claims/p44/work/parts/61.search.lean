/-! SEARCH: its state, its plain methods -/
variable {Ξ : xH}
def FS (q _i : Nat) : Prop := 141 ≤ q ∧ q ≤ 148
/-- N, M, who is there; E: the rows; M: the pairs -/
def SR (μ : MM) (n m : Nat) (Wt Tt : Int32) (E : Nat → Nat → Bool) (M : Nat → Nat) : Prop :=
  (μ.1 141 6 = Int32.ofNat n ∧ μ.1 141 7 = Int32.ofNat m ∧ μ.1 141 8 = Wt ∧ μ.1 141 9 = Tt) ∧ (∀ w, w < 12 → ∀ k, hb (μ.1 145 w) k = E w k) ∧ PR μ 142 M
def SOK (n m : Nat) (Wt : Int32) (E : Nat → Nat → Bool) (M : Nat → Nat) : Prop :=
  n ≤ 12 ∧ m ≤ 12 ∧ (∀ w t, E w t = true → w < n ∧ t < m ∧ hb Wt w = true) ∧ (∀ w, hb Wt w = true → w < n) ∧ Ms E M
theorem SOK.Eb {n m : Nat} {Wt : Int32} {E : Nat → Nat → Bool} {M : Nat → Nat} (h : SOK n m Wt E M) : Eb E := fun w t q => by
  obtain ⟨h1, h2, h3, -⟩ := h
  have := h3 w t q
  omega
theorem SOK.M {n m : Nat} {Wt : Int32} {E : Nat → Nat → Bool} {M M' : Nat → Nat} (h : SOK n m Wt E M) (h' : Ms E M') : SOK n m Wt E M' := ⟨h.1, h.2.1, h.2.2.1, h.2.2.2.1, h'⟩
theorem SR.fr {μ ν : MM} {n m : Nat} {Wt Tt : Int32} {E : Nat → Nat → Bool} {M : Nat → Nat} {P : Nat → Nat → Prop} (h : SR μ n m Wt Tt E M) (f : Fr P μ ν) (n1 : ∀ i, 6 ≤ i → i ≤ 9 → ¬ P 141 i) (n2 : ∀ i, ¬ P 143 i) (n3 : ∀ i, ¬ P 144 i) (n4 : ∀ i, ¬ P 145 i) : SR ν n m Wt Tt E M := by
  obtain ⟨⟨h1, h2, h3, h4⟩, h5, h6⟩ := h
  refine ⟨⟨?_, ?_, ?_, ?_⟩, fun w hw k => ?_, h6.fr f n2 n3⟩
  · rw [(f _ _ (n1 6 (by omega) (by omega))).1]; exact h1
  · rw [(f _ _ (n1 7 (by omega) (by omega))).1]; exact h2
  · rw [(f _ _ (n1 8 (by omega) (by omega))).1]; exact h3
  · rw [(f _ _ (n1 9 (by omega) (by omega))).1]; exact h4
  · rw [(f _ _ (n4 w)).1]; exact h5 w hw k
theorem imin12 {n : Nat} (h : n ≤ 12) : imin (12 : Int32) (Int32.ofNat n) = Int32.ofNat n := by
  unfold imin
  by_cases q : n < 12
  · rw [if_pos (by rw [llt_12 (by omega)]; exact q)]
  · rw [if_neg (by rw [llt_12 (by omega)]; exact q), show n = 12 by omega]; rfl
section SM
variable {μ : MM} {n m : Nat} {Wt Tt : Int32} {E : Nat → Nat → Bool} {M : Nat → Nat}
theorem c_row {w : Nat} (hw : w < 12) : f_X7_row 141 (Int32.ofNat w) ((mX Ξ) μ) = some (μ.1 145 w, (mX Ξ) μ) := by
  simp (disch := omega) only [f_X7_row, f_X7_row_J17, vc_141, gR_141_0, gR_141_1, gR_141_2, gR_141_3, gR_141_4, gI_141_5, pI_141_5, gI_141_6, pI_141_6, gI_141_7, pI_141_7, gI_141_8, pI_141_8, gI_141_9, pI_141_9, aI_145, sI_145, c_inLimit_n, hw, lt, true_or, or_true, false_or, or_false, Option.bind_some, if_true, if_false, bI_0, bI_1, bI_z, eI_n1, eI_l0, eI_g12, oN_n1, oN_l0, oN_g0, n1_l0, n1_g12, n1_0, n1_n1, z_0, z_1, z_2, z_3, z_4, z_5, z_6, z_7, z_8, z_9, z_a, z_b, z_c, z_d, z_e, z_f, oN_inj, oN_lt, oN_gt, oN_ge, oN_le, i_succ, if_pos, if_neg, c_has, c_bit, Bool.true_eq_false, Bool.false_eq_true, decide_true, decide_false, decide_eq_true_eq, decide_eq_false_iff_not, eI_lt, lle_0, lge_0, llt_0, lgt_0, leq_0, lle_1, lge_1, llt_1, lgt_1, leq_1, lle_2, lge_2, llt_2, lgt_2, leq_2, lle_3, lge_3, llt_3, lgt_3, leq_3, lle_4, lge_4, llt_4, lgt_4, leq_4, lle_5, lge_5, llt_5, lgt_5, leq_5, lle_6, lge_6, llt_6, lgt_6, leq_6, lle_7, lge_7, llt_7, lgt_7, leq_7, lle_11, lge_11, llt_11, lgt_11, leq_11, lle_12, lge_12, llt_12, lgt_12, leq_12, lle_15, lge_15, llt_15, lgt_15, leq_15, lle_20, lge_20, llt_20, lgt_20, leq_20, lle_24, lge_24, llt_24, lgt_24, leq_24, lle_25, lge_25, llt_25, lgt_25, leq_25, lle_31, lge_31, llt_31, lgt_31, leq_31, lle_48, lge_48, llt_48, lgt_48, leq_48, lle_57, lge_57, llt_57, lgt_57, leq_57, lle_32, lge_32, llt_32, lgt_32, leq_32, lle_59, lge_59, llt_59, lgt_59, leq_59, lle_97, lge_97, llt_97, lgt_97, leq_97, lle_122, lge_122, llt_122, lgt_122, leq_122, lle_99, lge_99, llt_99, lgt_99, leq_99, lle_100, lge_100, llt_100, lgt_100, leq_100, lle_144, lge_144, llt_144, lgt_144, leq_144, lle_255, lge_255, llt_255, lgt_255, leq_255, lle_300, lge_300, llt_300, lgt_300, leq_300, lle_1000, lge_1000, llt_1000, lgt_1000, leq_1000, lle_1000000, lge_1000000, llt_1000000, lgt_1000000, leq_1000000, lle_4096, lge_4096, llt_4096, lgt_4096, leq_4096]
theorem c_isOpen (h : SR μ n m Wt Tt E M) {w t : Nat} (hw : w < 12) (ht : t < 12) : f_X7_isOpen 141 (Int32.ofNat w) (Int32.ofNat t) ((mX Ξ) μ) = some (bI (E w t), (mX Ξ) μ) := by
  have e := h.2.1 w hw t
  cases c : E w t with
  | false =>
    rw [c] at e
    simp (disch := omega) only [f_X7_isOpen, f_X7_isOpen_J24, f_X7_isOpen_J23, vc_141, gR_141_0, gR_141_1, gR_141_2, gR_141_3, gR_141_4, gI_141_5, pI_141_5, gI_141_6, pI_141_6, gI_141_7, pI_141_7, gI_141_8, pI_141_8, gI_141_9, pI_141_9, c_inLimit_n, c_row, hw, ht, e, lt, true_or, or_true, false_or, or_false, Option.bind_some, if_true, if_false, bI_0, bI_1, bI_z, eI_n1, eI_l0, eI_g12, oN_n1, oN_l0, oN_g0, n1_l0, n1_g12, n1_0, n1_n1, z_0, z_1, z_2, z_3, z_4, z_5, z_6, z_7, z_8, z_9, z_a, z_b, z_c, z_d, z_e, z_f, oN_inj, oN_lt, oN_gt, oN_ge, oN_le, i_succ, if_pos, if_neg, c_has, c_bit, Bool.true_eq_false, Bool.false_eq_true, decide_true, decide_false, decide_eq_true_eq, decide_eq_false_iff_not, eI_lt, lle_0, lge_0, llt_0, lgt_0, leq_0, lle_1, lge_1, llt_1, lgt_1, leq_1, lle_2, lge_2, llt_2, lgt_2, leq_2, lle_3, lge_3, llt_3, lgt_3, leq_3, lle_4, lge_4, llt_4, lgt_4, leq_4, lle_5, lge_5, llt_5, lgt_5, leq_5, lle_6, lge_6, llt_6, lgt_6, leq_6, lle_7, lge_7, llt_7, lgt_7, leq_7, lle_11, lge_11, llt_11, lgt_11, leq_11, lle_12, lge_12, llt_12, lgt_12, leq_12, lle_15, lge_15, llt_15, lgt_15, leq_15, lle_20, lge_20, llt_20, lgt_20, leq_20, lle_24, lge_24, llt_24, lgt_24, leq_24, lle_25, lge_25, llt_25, lgt_25, leq_25, lle_31, lge_31, llt_31, lgt_31, leq_31, lle_48, lge_48, llt_48, lgt_48, leq_48, lle_57, lge_57, llt_57, lgt_57, leq_57, lle_32, lge_32, llt_32, lgt_32, leq_32, lle_59, lge_59, llt_59, lgt_59, leq_59, lle_97, lge_97, llt_97, lgt_97, leq_97, lle_122, lge_122, llt_122, lgt_122, leq_122, lle_99, lge_99, llt_99, lgt_99, leq_99, lle_100, lge_100, llt_100, lgt_100, leq_100, lle_144, lge_144, llt_144, lgt_144, leq_144, lle_255, lge_255, llt_255, lgt_255, leq_255, lle_300, lge_300, llt_300, lgt_300, leq_300, lle_1000, lge_1000, llt_1000, lgt_1000, leq_1000, lle_1000000, lge_1000000, llt_1000000, lgt_1000000, leq_1000000, lle_4096, lge_4096, llt_4096, lgt_4096, leq_4096]
    rfl
  | true =>
    rw [c] at e
    simp (disch := omega) only [f_X7_isOpen, f_X7_isOpen_J24, f_X7_isOpen_J23, vc_141, gR_141_0, gR_141_1, gR_141_2, gR_141_3, gR_141_4, gI_141_5, pI_141_5, gI_141_6, pI_141_6, gI_141_7, pI_141_7, gI_141_8, pI_141_8, gI_141_9, pI_141_9, c_inLimit_n, c_row, hw, ht, e, lt, true_or, or_true, false_or, or_false, Option.bind_some, if_true, if_false, bI_0, bI_1, bI_z, eI_n1, eI_l0, eI_g12, oN_n1, oN_l0, oN_g0, n1_l0, n1_g12, n1_0, n1_n1, z_0, z_1, z_2, z_3, z_4, z_5, z_6, z_7, z_8, z_9, z_a, z_b, z_c, z_d, z_e, z_f, oN_inj, oN_lt, oN_gt, oN_ge, oN_le, i_succ, if_pos, if_neg, c_has, c_bit, Bool.true_eq_false, Bool.false_eq_true, decide_true, decide_false, decide_eq_true_eq, decide_eq_false_iff_not, eI_lt, lle_0, lge_0, llt_0, lgt_0, leq_0, lle_1, lge_1, llt_1, lgt_1, leq_1, lle_2, lge_2, llt_2, lgt_2, leq_2, lle_3, lge_3, llt_3, lgt_3, leq_3, lle_4, lge_4, llt_4, lgt_4, leq_4, lle_5, lge_5, llt_5, lgt_5, leq_5, lle_6, lge_6, llt_6, lgt_6, leq_6, lle_7, lge_7, llt_7, lgt_7, leq_7, lle_11, lge_11, llt_11, lgt_11, leq_11, lle_12, lge_12, llt_12, lgt_12, leq_12, lle_15, lge_15, llt_15, lgt_15, leq_15, lle_20, lge_20, llt_20, lgt_20, leq_20, lle_24, lge_24, llt_24, lgt_24, leq_24, lle_25, lge_25, llt_25, lgt_25, leq_25, lle_31, lge_31, llt_31, lgt_31, leq_31, lle_48, lge_48, llt_48, lgt_48, leq_48, lle_57, lge_57, llt_57, lgt_57, leq_57, lle_32, lge_32, llt_32, lgt_32, leq_32, lle_59, lge_59, llt_59, lgt_59, leq_59, lle_97, lge_97, llt_97, lgt_97, leq_97, lle_122, lge_122, llt_122, lgt_122, leq_122, lle_99, lge_99, llt_99, lgt_99, leq_99, lle_100, lge_100, llt_100, lgt_100, leq_100, lle_144, lge_144, llt_144, lgt_144, leq_144, lle_255, lge_255, llt_255, lgt_255, leq_255, lle_300, lge_300, llt_300, lgt_300, leq_300, lle_1000, lge_1000, llt_1000, lgt_1000, leq_1000, lle_1000000, lge_1000000, llt_1000000, lgt_1000000, leq_1000000, lle_4096, lge_4096, llt_4096, lgt_4096, leq_4096]
    rfl
theorem c_load {b : Nat} {B : Bk} (hk : bkOK shI b = true) (hd : b + 8 ≤ 141) (h : BC μ b B) (hB : BOK B) : ∃ ν, f_X7_load 141 b ((mX Ξ) μ) = some ((mX Ξ) ν) ∧ Fr FS μ ν ∧ SR ν (bn B) (bm B) (bw B) (bt B) (gE B) (bM B) ∧ SOK (bn B) (bm B) (bw B) (gE B) (bM B) := by
  have hn := hB.n
  have hm := hB.m
  have hok : SOK (bn B) (bm B) (bw B) (gE B) (bM B) := ⟨hn, hm, fun w t q => by
    simp only [gE, Bool.and_eq_true] at q
    have := hB.f q.1.1
    exact ⟨this.1, this.2, q.1.2⟩, fun w q => hB.w q, hB.M⟩
  have hbk : ∀ ν, Fr FS μ ν → BC ν b B := fun ν f => h.fr f fun q i a c z => by unfold FS at z; omega
  have key : Hw (f_X7_load 141 b ((mX Ξ) μ)) (fun r => ∃ ν, r = (mX Ξ) ν ∧ Fr FS μ ν ∧ SR ν (bn B) (bm B) (bw B) (bt B) (gE B) (bM B)) := by
    let μ1 := st (st (st (st μ 141 6 (Int32.ofNat (bn B))) 141 7 (Int32.ofNat (bm B))) 141 8 (bw B)) 141 9 (bt B)
    have f1 : Fr FS μ μ1 := ((((Fr.refl _ _).st (by unfold FS; omega)).st (by unfold FS; omega)).st (by unfold FS; omega)).st (by unfold FS; omega)
    have h1 := h.1
    have e1 : f_X7_load 141 b ((mX Ξ) μ) = f_X7_load_L44 f_X7_load_J87 5000 141 b (Int32.ofNat 0) ((mX Ξ) μ1) := by
      have a1 : ∀ {a c v}, b ≠ a → (st μ a c v).1 b = μ.1 b := fun z => by funext i; exact st_ne (Or.inl z)
      have q1 : (st μ 141 6 (Int32.ofNat (bn B))).1 b 1 = Int32.ofNat (bm B) := by rw [st_ne (Or.inl (by omega))]; exact h1.2.1
      have q2 : (st (st μ 141 6 (Int32.ofNat (bn B))) 141 7 (Int32.ofNat (bm B))).1 b 2 = bw B := by rw [st_ne (Or.inl (by omega)), st_ne (Or.inl (by omega))]; exact h1.2.2.1
      have q3 : (st (st (st μ 141 6 (Int32.ofNat (bn B))) 141 7 (Int32.ofNat (bm B))) 141 8 (bw B)).1 b 3 = bt B := by rw [st_ne (Or.inl (by omega)), st_ne (Or.inl (by omega)), st_ne (Or.inl (by omega))]; exact h1.2.2.2.1
      simp only [f_X7_load, vc_141, gR_141_0, gR_141_1, gR_141_2, gR_141_3, gR_141_4, gI_141_5, pI_141_5, gI_141_6, pI_141_6, gI_141_7, pI_141_7, gI_141_8, pI_141_8, gI_141_9, pI_141_9, bk_v hk, bk_i0 hk, bk_i1 hk, bk_i2 hk, bk_i3 hk, bk_i4 hk, bk_p0 hk, bk_p1 hk, bk_p2 hk, bk_p3 hk, bk_p4 hk, bk_r5 hk, bk_r6 hk, bk_r7 hk, bk_r8 hk, bk_r9 hk, bk_a1 hk, bk_a2 hk, bk_a3 hk, bk_a4 hk, bk_s1 hk, bk_s2 hk, bk_s3 hk, bk_s4 hk, Option.bind_some, h1.1, imin12 hn, q1, imin12 hm, q2, q3]
      rfl
    rw [e1]
    refine hw_for (L := fun n i (ν : MM) => f_X7_load_L44 f_X7_load_J87 n 141 b i ((mX Ξ) ν)) (s0 := μ1) 12 (fun i ν => Fr FS μ ν ∧ (ν.1 141 6 = Int32.ofNat (bn B) ∧ ν.1 141 7 = Int32.ofNat (bm B) ∧ ν.1 141 8 = bw B ∧ ν.1 141 9 = bt B) ∧ ∀ w, w < i → ∀ k, hb (ν.1 145 w) k = gE B w k) ⟨f1, ⟨?_, ?_, ?_, ?_⟩, fun w hw => absurd hw (Nat.not_lt_zero _)⟩ (by decide) (fun i hi ν hν => Or.inl ?_) (fun ν hν n => ?_)
    · rfl
    · rfl
    · rfl
    · rfl
    · obtain ⟨hf, ⟨a1, a2, a3, a4⟩, hr⟩ := hν
      have hb' := hbk ν hf
      have nxt : ∀ v : Int32, (∀ k, hb v k = gE B i k) → Fr FS μ (st ν 145 i v) ∧ ((st ν 145 i v).1 141 6 = Int32.ofNat (bn B) ∧ (st ν 145 i v).1 141 7 = Int32.ofNat (bm B) ∧ (st ν 145 i v).1 141 8 = bw B ∧ (st ν 145 i v).1 141 9 = bt B) ∧ ∀ w, w < i + 1 → ∀ k, hb ((st ν 145 i v).1 145 w) k = gE B w k := fun v hv => by
        refine ⟨hf.st (by unfold FS; omega), ⟨?_, ?_, ?_, ?_⟩, fun w hw k => ?_⟩
        · rw [st_ne (Or.inl (by omega))]; exact a1
        · rw [st_ne (Or.inl (by omega))]; exact a2
        · rw [st_ne (Or.inl (by omega))]; exact a3
        · rw [st_ne (Or.inl (by omega))]; exact a4
        · by_cases e : w = i
          · subst e; rw [st_same]; exact hv k
          · rw [st_ne (Or.inr e)]; exact hr w (by omega) k
      cases c : hb (bw B) i with
      | false =>
        refine ⟨st ν 145 i 0, nxt 0 (fun k => by simp [gE, hb_zero, c]), fun n => ?_⟩
        simp (disch := omega) only [f_X7_load_L44, f_X7_load_J87, f_X7_load_J80, vc_141, gR_141_0, gR_141_1, gR_141_2, gR_141_3, gR_141_4, gI_141_5, pI_141_5, gI_141_6, pI_141_6, gI_141_7, pI_141_7, gI_141_8, pI_141_8, gI_141_9, pI_141_9, aI_145, sI_145, a3, c, lt, true_or, or_true, false_or, or_false, Option.bind_some, if_true, if_false, bI_0, bI_1, bI_z, eI_n1, eI_l0, eI_g12, oN_n1, oN_l0, oN_g0, n1_l0, n1_g12, n1_0, n1_n1, z_0, z_1, z_2, z_3, z_4, z_5, z_6, z_7, z_8, z_9, z_a, z_b, z_c, z_d, z_e, z_f, oN_inj, oN_lt, oN_gt, oN_ge, oN_le, i_succ, if_pos, if_neg, c_has, c_bit, Bool.true_eq_false, Bool.false_eq_true, decide_true, decide_false, decide_eq_true_eq, decide_eq_false_iff_not, eI_lt, lle_0, lge_0, llt_0, lgt_0, leq_0, lle_1, lge_1, llt_1, lgt_1, leq_1, lle_2, lge_2, llt_2, lgt_2, leq_2, lle_3, lge_3, llt_3, lgt_3, leq_3, lle_4, lge_4, llt_4, lgt_4, leq_4, lle_5, lge_5, llt_5, lgt_5, leq_5, lle_6, lge_6, llt_6, lgt_6, leq_6, lle_7, lge_7, llt_7, lgt_7, leq_7, lle_11, lge_11, llt_11, lgt_11, leq_11, lle_12, lge_12, llt_12, lgt_12, leq_12, lle_15, lge_15, llt_15, lgt_15, leq_15, lle_20, lge_20, llt_20, lgt_20, leq_20, lle_24, lge_24, llt_24, lgt_24, leq_24, lle_25, lge_25, llt_25, lgt_25, leq_25, lle_31, lge_31, llt_31, lgt_31, leq_31, lle_48, lge_48, llt_48, lgt_48, leq_48, lle_57, lge_57, llt_57, lgt_57, leq_57, lle_32, lge_32, llt_32, lgt_32, leq_32, lle_59, lge_59, llt_59, lgt_59, leq_59, lle_97, lge_97, llt_97, lgt_97, leq_97, lle_122, lge_122, llt_122, lgt_122, leq_122, lle_99, lge_99, llt_99, lgt_99, leq_99, lle_100, lge_100, llt_100, lgt_100, leq_100, lle_144, lge_144, llt_144, lgt_144, leq_144, lle_255, lge_255, llt_255, lgt_255, leq_255, lle_300, lge_300, llt_300, lgt_300, leq_300, lle_1000, lge_1000, llt_1000, lgt_1000, leq_1000, lle_1000000, lge_1000000, llt_1000000, lgt_1000000, leq_1000000, lle_4096, lge_4096, llt_4096, lgt_4096, leq_4096]
      | true =>
        refine ⟨st ν 145 i (bf B i &&& bt B), nxt _ (fun k => by simp [gE, hb_and, c]), fun n => ?_⟩
        simp (disch := omega) only [f_X7_load_L44, f_X7_load_J87, f_X7_load_J80, vc_141, gR_141_0, gR_141_1, gR_141_2, gR_141_3, gR_141_4, gI_141_5, pI_141_5, gI_141_6, pI_141_6, gI_141_7, pI_141_7, gI_141_8, pI_141_8, gI_141_9, pI_141_9, aI_145, sI_145, bk_v hk, bk_i0 hk, bk_i1 hk, bk_i2 hk, bk_i3 hk, bk_i4 hk, bk_p0 hk, bk_p1 hk, bk_p2 hk, bk_p3 hk, bk_p4 hk, bk_r5 hk, bk_r6 hk, bk_r7 hk, bk_r8 hk, bk_r9 hk, bk_a1 hk, bk_a2 hk, bk_a3 hk, bk_a4 hk, bk_s1 hk, bk_s2 hk, bk_s3 hk, bk_s4 hk, c_tasksFor hk hb', a3, a4, c, lt, true_or, or_true, false_or, or_false, Option.bind_some, if_true, if_false, bI_0, bI_1, bI_z, eI_n1, eI_l0, eI_g12, oN_n1, oN_l0, oN_g0, n1_l0, n1_g12, n1_0, n1_n1, z_0, z_1, z_2, z_3, z_4, z_5, z_6, z_7, z_8, z_9, z_a, z_b, z_c, z_d, z_e, z_f, oN_inj, oN_lt, oN_gt, oN_ge, oN_le, i_succ, if_pos, if_neg, c_has, c_bit, Bool.true_eq_false, Bool.false_eq_true, decide_true, decide_false, decide_eq_true_eq, decide_eq_false_iff_not, eI_lt, lle_0, lge_0, llt_0, lgt_0, leq_0, lle_1, lge_1, llt_1, lgt_1, leq_1, lle_2, lge_2, llt_2, lgt_2, leq_2, lle_3, lge_3, llt_3, lgt_3, leq_3, lle_4, lge_4, llt_4, lgt_4, leq_4, lle_5, lge_5, llt_5, lgt_5, leq_5, lle_6, lge_6, llt_6, lgt_6, leq_6, lle_7, lge_7, llt_7, lgt_7, leq_7, lle_11, lge_11, llt_11, lgt_11, leq_11, lle_12, lge_12, llt_12, lgt_12, leq_12, lle_15, lge_15, llt_15, lgt_15, leq_15, lle_20, lge_20, llt_20, lgt_20, leq_20, lle_24, lge_24, llt_24, lgt_24, leq_24, lle_25, lge_25, llt_25, lgt_25, leq_25, lle_31, lge_31, llt_31, lgt_31, leq_31, lle_48, lge_48, llt_48, lgt_48, leq_48, lle_57, lge_57, llt_57, lgt_57, leq_57, lle_32, lge_32, llt_32, lgt_32, leq_32, lle_59, lge_59, llt_59, lgt_59, leq_59, lle_97, lge_97, llt_97, lgt_97, leq_97, lle_122, lge_122, llt_122, lgt_122, leq_122, lle_99, lge_99, llt_99, lgt_99, leq_99, lle_100, lge_100, llt_100, lgt_100, leq_100, lle_144, lge_144, llt_144, lgt_144, leq_144, lle_255, lge_255, llt_255, lgt_255, leq_255, lle_300, lge_300, llt_300, lgt_300, leq_300, lle_1000, lge_1000, llt_1000, lgt_1000, leq_1000, lle_1000000, lge_1000000, llt_1000000, lgt_1000000, leq_1000000, lle_4096, lge_4096, llt_4096, lgt_4096, leq_4096]
    · obtain ⟨hf, ⟨a1, a2, a3, a4⟩, hr⟩ := hν
      have hb' := hbk ν hf
      obtain ⟨ξ, e, p1, p2⟩ := c_pcopy (Ξ := Ξ) pr142 (bk_pr hk) (Or.inl (by omega)) hb'.2.2.2.2.2
      simp (disch := omega) only [f_X7_load_L44, f_X7_load_J87, f_X7_load_J80, vc_141, gR_141_0, gR_141_1, gR_141_2, gR_141_3, gR_141_4, gI_141_5, pI_141_5, gI_141_6, pI_141_6, gI_141_7, pI_141_7, gI_141_8, pI_141_8, gI_141_9, pI_141_9, bk_v hk, bk_i0 hk, bk_i1 hk, bk_i2 hk, bk_i3 hk, bk_i4 hk, bk_p0 hk, bk_p1 hk, bk_p2 hk, bk_p3 hk, bk_p4 hk, bk_r5 hk, bk_r6 hk, bk_r7 hk, bk_r8 hk, bk_r9 hk, bk_a1 hk, bk_a2 hk, bk_a3 hk, bk_a4 hk, bk_s1 hk, bk_s2 hk, bk_s3 hk, bk_s4 hk, pr_v pr142, e, lt, true_or, or_true, false_or, or_false, Option.bind_some, if_true, if_false, bI_0, bI_1, bI_z, eI_n1, eI_l0, eI_g12, oN_n1, oN_l0, oN_g0, n1_l0, n1_g12, n1_0, n1_n1, z_0, z_1, z_2, z_3, z_4, z_5, z_6, z_7, z_8, z_9, z_a, z_b, z_c, z_d, z_e, z_f, oN_inj, oN_lt, oN_gt, oN_ge, oN_le, i_succ, if_pos, if_neg, c_has, c_bit, Bool.true_eq_false, Bool.false_eq_true, decide_true, decide_false, decide_eq_true_eq, decide_eq_false_iff_not, eI_lt, lle_0, lge_0, llt_0, lgt_0, leq_0, lle_1, lge_1, llt_1, lgt_1, leq_1, lle_2, lge_2, llt_2, lgt_2, leq_2, lle_3, lge_3, llt_3, lgt_3, leq_3, lle_4, lge_4, llt_4, lgt_4, leq_4, lle_5, lge_5, llt_5, lgt_5, leq_5, lle_6, lge_6, llt_6, lgt_6, leq_6, lle_7, lge_7, llt_7, lgt_7, leq_7, lle_11, lge_11, llt_11, lgt_11, leq_11, lle_12, lge_12, llt_12, lgt_12, leq_12, lle_15, lge_15, llt_15, lgt_15, leq_15, lle_20, lge_20, llt_20, lgt_20, leq_20, lle_24, lge_24, llt_24, lgt_24, leq_24, lle_25, lge_25, llt_25, lgt_25, leq_25, lle_31, lge_31, llt_31, lgt_31, leq_31, lle_48, lge_48, llt_48, lgt_48, leq_48, lle_57, lge_57, llt_57, lgt_57, leq_57, lle_32, lge_32, llt_32, lgt_32, leq_32, lle_59, lge_59, llt_59, lgt_59, leq_59, lle_97, lge_97, llt_97, lgt_97, leq_97, lle_122, lge_122, llt_122, lgt_122, leq_122, lle_99, lge_99, llt_99, lgt_99, leq_99, lle_100, lge_100, llt_100, lgt_100, leq_100, lle_144, lge_144, llt_144, lgt_144, leq_144, lle_255, lge_255, llt_255, lgt_255, leq_255, lle_300, lge_300, llt_300, lgt_300, leq_300, lle_1000, lge_1000, llt_1000, lgt_1000, leq_1000, lle_1000000, lge_1000000, llt_1000000, lgt_1000000, leq_1000000, lle_4096, lge_4096, llt_4096, lgt_4096, leq_4096]
      refine hw_ret ⟨_, rfl, ?_, ⟨?_, ?_, ?_, ?_⟩, fun w hw k => ?_, ?_⟩
      · exact (hf.trans (p2.mono fun q j z => by unfold FP at z; unfold FS; omega)).st (by unfold FS; omega)
      · rw [st_ne (Or.inr (by omega)), (p2 _ _ (by unfold FP; omega)).1]; exact a1
      · rw [st_ne (Or.inr (by omega)), (p2 _ _ (by unfold FP; omega)).1]; exact a2
      · rw [st_ne (Or.inr (by omega)), (p2 _ _ (by unfold FP; omega)).1]; exact a3
      · rw [st_ne (Or.inr (by omega)), (p2 _ _ (by unfold FP; omega)).1]; exact a4
      · rw [st_ne (Or.inl (by omega)), (p2 _ _ (by unfold FP; omega)).1]; exact hr w hw k
      · exact p1.fr ((Fr.refl (fun q i => q = 141) _).st rfl) (fun i => by omega) (fun i => by omega)
  obtain ⟨r, e, ν, rfl, h1, h2⟩ := key
  exact ⟨ν, e, h1, h2, hok⟩
end SM
