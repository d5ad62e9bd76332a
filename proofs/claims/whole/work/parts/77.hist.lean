/-! HISTORY, of the class and of the model -/
/-- the latest 15 -/
def hpush (H : List Bk) (B : Bk) : List Bk := if H.length < 15 then H ++ [B] else H.tail ++ [B]
def HC (μ : MM) (H : List Bk) : Prop := ∃ x, x < 15 ∧ μ.1 17 1 = Int32.ofNat x ∧ μ.1 17 2 = Int32.ofNat H.length ∧ H.length ≤ 15 ∧ ∀ j B, H[j]? = some B → BC μ (19 + 8 * ((x + 15 - H.length + j) % 15)) B
def HM (μ : MM) (H : List Bk) : Prop := μ.1 168 14 = Int32.ofNat H.length ∧ H.length ≤ 15 ∧ ∀ j B, H[j]? = some B → MR μ (2 + j) B
def FH (q i : Nat) : Prop := (19 ≤ q ∧ q < 139) ∨ (q = 17 ∧ (i = 1 ∨ i = 2))
theorem HC.fr {μ ν : MM} {H : List Bk} {P : Nat → Nat → Prop} (h : HC μ H) (f : Fr P μ ν) (n : ∀ q i, FH q i → ¬ P q i) : HC ν H := by
  obtain ⟨x, h1, h2, h3, h4, h5⟩ := h
  refine ⟨x, h1, ?_, ?_, h4, fun j B e => (h5 j B e).fr f fun q i a c => n q i ?_⟩
  · rw [(f _ _ (n _ _ (by unfold FH; omega))).1]; exact h2
  · rw [(f _ _ (n _ _ (by unfold FH; omega))).1]; exact h3
  · unfold FH; omega
theorem HM.fr {μ ν : MM} {H : List Bk} {P : Nat → Nat → Prop} (h : HM μ H) (f : Fr P μ ν) (n0 : ¬ P 168 14) (n : ∀ r q i, 2 ≤ r → r < 17 → FR r q i → ¬ P q i) : HM ν H := by
  obtain ⟨h1, h2, h3⟩ := h
  refine ⟨by rw [(f _ _ n0).1]; exact h1, h2, fun j B e => (h3 j B e).fr f fun q i a => n (2 + j) q i (by omega) ?_ a⟩
  have := (List.getElem?_eq_some_iff.mp e).1
  omega
theorem hpush_len (H : List Bk) (B : Bk) (h : H.length ≤ 15) : (hpush H B).length = if H.length < 15 then H.length + 1 else 15 := by
  unfold hpush
  by_cases c : H.length < 15
  · rw [if_pos c, if_pos c, List.length_append]; rfl
  · rw [if_neg c, if_neg c, List.length_append, List.length_tail]
    show H.length - 1 + 1 = 15
    omega
theorem hpush_at (H : List Bk) (B : Bk) (h : H.length ≤ 15) (j : Nat) (C : Bk) (e : (hpush H B)[j]? = some C) : (j + 1 = (hpush H B).length ∧ C = B) ∨ (j + 1 < (hpush H B).length ∧ H[if H.length < 15 then j else j + 1]? = some C) := by
  have hl := hpush_len H B h
  have hj := (List.getElem?_eq_some_iff.mp e).1
  unfold hpush at e
  by_cases c : H.length < 15
  · rw [if_pos c] at e hl
    rw [if_pos c]
    by_cases d : j < H.length
    · rw [List.getElem?_append_left d] at e
      exact Or.inr ⟨by omega, e⟩
    · have : j = H.length := by omega
      rw [List.getElem?_append_right (by omega), this, Nat.sub_self] at e
      simp at e
      exact Or.inl ⟨by omega, e.symm⟩
  · rw [if_neg c] at e hl
    rw [if_neg c]
    have lt : H.tail.length = 14 := by rw [List.length_tail]; omega
    by_cases d : j < 14
    · rw [List.getElem?_append_left (by omega)] at e
      refine Or.inr ⟨by omega, ?_⟩
      cases H with
      | nil => simp at e
      | cons a t => simpa using e
    · have : j = 14 := by omega
      rw [List.getElem?_append_right (by omega), lt, this, Nat.sub_self] at e
      simp at e
      exact Or.inl ⟨by omega, e.symm⟩
section Hc
variable {μ : MM} {H : List Bk} {B : Bk}
theorem aR_18 {x : Nat} (hx : x < 15) : aR 105 (mem μ) 18 (Int32.ofNat x) = some (19 + 8 * x) := by
  have : ∀ x, x < 15 → slot shI 105 18 x (isRef (19 + 8 * x)) = true := by decide +kernel
  exact aR_k (this x hx) (by omega)
theorem c_bookAt {x : Nat} (hx : x < 15) : f_X2_bookAt 17 (Int32.ofNat x) (mem μ) = some (some (19 + 8 * x), mem μ) := by
  simp (disch := omega) only [f_X2_bookAt, f_X2_bookAt_J20, f_X2_bookAt_J19, vc_17, gR_17_0, gI_17_1, pI_17_1, gI_17_2, pI_17_2, aR_18, lt, true_or, or_true, false_or, or_false, Option.bind_some, if_true, if_false, bI_0, bI_1, bI_z, eI_n1, eI_l0, eI_g12, oN_n1, oN_l0, oN_g0, n1_l0, n1_g12, n1_0, n1_n1, z_0, z_1, z_2, z_3, z_4, z_5, z_6, z_7, z_8, z_9, z_a, z_b, z_c, z_d, z_e, z_f, oN_inj, oN_lt, oN_gt, oN_ge, oN_le, i_succ, if_pos, if_neg, c_has, c_bit, Bool.true_eq_false, Bool.false_eq_true, decide_true, decide_false, decide_eq_true_eq, decide_eq_false_iff_not, eI_lt, lle_0, lge_0, llt_0, lgt_0, leq_0, lle_1, lge_1, llt_1, lgt_1, leq_1, lle_2, lge_2, llt_2, lgt_2, leq_2, lle_3, lge_3, llt_3, lgt_3, leq_3, lle_4, lge_4, llt_4, lgt_4, leq_4, lle_5, lge_5, llt_5, lgt_5, leq_5, lle_6, lge_6, llt_6, lgt_6, leq_6, lle_7, lge_7, llt_7, lgt_7, leq_7, lle_11, lge_11, llt_11, lgt_11, leq_11, lle_12, lge_12, llt_12, lgt_12, leq_12, lle_15, lge_15, llt_15, lgt_15, leq_15, lle_20, lge_20, llt_20, lgt_20, leq_20, lle_24, lge_24, llt_24, lgt_24, leq_24, lle_25, lge_25, llt_25, lgt_25, leq_25, lle_31, lge_31, llt_31, lgt_31, leq_31, lle_48, lge_48, llt_48, lgt_48, leq_48, lle_57, lge_57, llt_57, lgt_57, leq_57, lle_32, lge_32, llt_32, lgt_32, leq_32, lle_59, lge_59, llt_59, lgt_59, leq_59, lle_97, lge_97, llt_97, lgt_97, leq_97, lle_122, lge_122, llt_122, lgt_122, leq_122, lle_99, lge_99, llt_99, lgt_99, leq_99, lle_100, lge_100, llt_100, lgt_100, leq_100, lle_144, lge_144, llt_144, lgt_144, leq_144, lle_255, lge_255, llt_255, lgt_255, leq_255, lle_300, lge_300, llt_300, lgt_300, leq_300, lle_1000, lge_1000, llt_1000, lgt_1000, leq_1000, lle_1000000, lge_1000000, llt_1000000, lgt_1000000, leq_1000000, lle_4096, lge_4096, llt_4096, lgt_4096, leq_4096, b_ft]
theorem c_save (h : HC μ H) (hb' : BC μ 1 B) : ∃ ν, f_X2_save 17 1 (mem μ) = some (mem ν) ∧ HC ν (hpush H B) ∧ Fr FH μ ν := by
  obtain ⟨x, h1, h2, h3, h4, h5⟩ := h
  have hk := bkH x h1
  obtain ⟨ν, e, p1, p2⟩ := c_bcopy hk bk1 (Or.inr (by omega)) hb'
  have g1 : ν.1 17 1 = Int32.ofNat x := by rw [(p2 _ _ (by unfold FB; omega)).1]; exact h2
  let x' := if x + 1 < 15 then x + 1 else 0
  let c' := if H.length < 15 then H.length + 1 else 15
  let ξ := st (st ν 17 1 (Int32.ofNat x')) 17 2 (Int32.ofNat c')
  have fξ : Fr FH μ ξ := ((p2.mono fun q i z => by unfold FB at z; unfold FH; omega).st (by unfold FH; omega)).st (by unfold FH; omega)
  have f2 : Fr (fun q _ => q = 17) ν ξ := ((Fr.refl (fun q _ => q = 17) ν).st rfl).st rfl
  have hl := hpush_len H B h4
  refine ⟨ξ, ?_, ⟨x', ?_, ?_, ?_, ?_, fun j C ej => ?_⟩, fξ⟩
  · have g2 : ∀ v, (st ν 17 1 v).1 17 2 = Int32.ofNat H.length := fun v => by rw [st_ne (Or.inr (by omega)), (p2 _ _ (by unfold FB; omega)).1]; exact h3
    have e' : f_X0_copy (19 + 8 * x) 1 (mem μ) = some (mem ν) := e
    by_cases c : x + 1 < 15
    · have ex : x' = x + 1 := if_pos c
      by_cases d : H.length < 15
      · have ed : c' = H.length + 1 := if_pos d
        show _ = some (mem (st (st ν 17 1 (Int32.ofNat x')) 17 2 (Int32.ofNat c')))
        rw [ex, ed]
        simp (disch := omega) only [f_X2_save, f_X2_save_J67, f_X2_save_J64, f_X2_save_J40, vc_17, gR_17_0, gI_17_1, pI_17_1, gI_17_2, pI_17_2, h2, c_bookAt, nl, bk_v hk, e', g1, g2, lt, true_or, or_true, false_or, or_false, Option.bind_some, if_true, if_false, bI_0, bI_1, bI_z, eI_n1, eI_l0, eI_g12, oN_n1, oN_l0, oN_g0, n1_l0, n1_g12, n1_0, n1_n1, z_0, z_1, z_2, z_3, z_4, z_5, z_6, z_7, z_8, z_9, z_a, z_b, z_c, z_d, z_e, z_f, oN_inj, oN_lt, oN_gt, oN_ge, oN_le, i_succ, if_pos, if_neg, c_has, c_bit, Bool.true_eq_false, Bool.false_eq_true, decide_true, decide_false, decide_eq_true_eq, decide_eq_false_iff_not, eI_lt, lle_0, lge_0, llt_0, lgt_0, leq_0, lle_1, lge_1, llt_1, lgt_1, leq_1, lle_2, lge_2, llt_2, lgt_2, leq_2, lle_3, lge_3, llt_3, lgt_3, leq_3, lle_4, lge_4, llt_4, lgt_4, leq_4, lle_5, lge_5, llt_5, lgt_5, leq_5, lle_6, lge_6, llt_6, lgt_6, leq_6, lle_7, lge_7, llt_7, lgt_7, leq_7, lle_11, lge_11, llt_11, lgt_11, leq_11, lle_12, lge_12, llt_12, lgt_12, leq_12, lle_15, lge_15, llt_15, lgt_15, leq_15, lle_20, lge_20, llt_20, lgt_20, leq_20, lle_24, lge_24, llt_24, lgt_24, leq_24, lle_25, lge_25, llt_25, lgt_25, leq_25, lle_31, lge_31, llt_31, lgt_31, leq_31, lle_48, lge_48, llt_48, lgt_48, leq_48, lle_57, lge_57, llt_57, lgt_57, leq_57, lle_32, lge_32, llt_32, lgt_32, leq_32, lle_59, lge_59, llt_59, lgt_59, leq_59, lle_97, lge_97, llt_97, lgt_97, leq_97, lle_122, lge_122, llt_122, lgt_122, leq_122, lle_99, lge_99, llt_99, lgt_99, leq_99, lle_100, lge_100, llt_100, lgt_100, leq_100, lle_144, lge_144, llt_144, lgt_144, leq_144, lle_255, lge_255, llt_255, lgt_255, leq_255, lle_300, lge_300, llt_300, lgt_300, leq_300, lle_1000, lge_1000, llt_1000, lgt_1000, leq_1000, lle_1000000, lge_1000000, llt_1000000, lgt_1000000, leq_1000000, lle_4096, lge_4096, llt_4096, lgt_4096, leq_4096, b_ft]
      · have ed : c' = 15 := if_neg d
        show _ = some (mem (st (st ν 17 1 (Int32.ofNat x')) 17 2 (Int32.ofNat c')))
        rw [ex, ed]
        simp (disch := omega) only [f_X2_save, f_X2_save_J67, f_X2_save_J64, f_X2_save_J40, vc_17, gR_17_0, gI_17_1, pI_17_1, gI_17_2, pI_17_2, h2, c_bookAt, nl, bk_v hk, e', g1, g2, lt, true_or, or_true, false_or, or_false, Option.bind_some, if_true, if_false, bI_0, bI_1, bI_z, eI_n1, eI_l0, eI_g12, oN_n1, oN_l0, oN_g0, n1_l0, n1_g12, n1_0, n1_n1, z_0, z_1, z_2, z_3, z_4, z_5, z_6, z_7, z_8, z_9, z_a, z_b, z_c, z_d, z_e, z_f, oN_inj, oN_lt, oN_gt, oN_ge, oN_le, i_succ, if_pos, if_neg, c_has, c_bit, Bool.true_eq_false, Bool.false_eq_true, decide_true, decide_false, decide_eq_true_eq, decide_eq_false_iff_not, eI_lt, lle_0, lge_0, llt_0, lgt_0, leq_0, lle_1, lge_1, llt_1, lgt_1, leq_1, lle_2, lge_2, llt_2, lgt_2, leq_2, lle_3, lge_3, llt_3, lgt_3, leq_3, lle_4, lge_4, llt_4, lgt_4, leq_4, lle_5, lge_5, llt_5, lgt_5, leq_5, lle_6, lge_6, llt_6, lgt_6, leq_6, lle_7, lge_7, llt_7, lgt_7, leq_7, lle_11, lge_11, llt_11, lgt_11, leq_11, lle_12, lge_12, llt_12, lgt_12, leq_12, lle_15, lge_15, llt_15, lgt_15, leq_15, lle_20, lge_20, llt_20, lgt_20, leq_20, lle_24, lge_24, llt_24, lgt_24, leq_24, lle_25, lge_25, llt_25, lgt_25, leq_25, lle_31, lge_31, llt_31, lgt_31, leq_31, lle_48, lge_48, llt_48, lgt_48, leq_48, lle_57, lge_57, llt_57, lgt_57, leq_57, lle_32, lge_32, llt_32, lgt_32, leq_32, lle_59, lge_59, llt_59, lgt_59, leq_59, lle_97, lge_97, llt_97, lgt_97, leq_97, lle_122, lge_122, llt_122, lgt_122, leq_122, lle_99, lge_99, llt_99, lgt_99, leq_99, lle_100, lge_100, llt_100, lgt_100, leq_100, lle_144, lge_144, llt_144, lgt_144, leq_144, lle_255, lge_255, llt_255, lgt_255, leq_255, lle_300, lge_300, llt_300, lgt_300, leq_300, lle_1000, lge_1000, llt_1000, lgt_1000, leq_1000, lle_1000000, lge_1000000, llt_1000000, lgt_1000000, leq_1000000, lle_4096, lge_4096, llt_4096, lgt_4096, leq_4096, b_ft]
        rfl
    · have ex : x' = 0 := if_neg c
      by_cases d : H.length < 15
      · have ed : c' = H.length + 1 := if_pos d
        show _ = some (mem (st (st ν 17 1 (Int32.ofNat x')) 17 2 (Int32.ofNat c')))
        rw [ex, ed]
        simp (disch := omega) only [f_X2_save, f_X2_save_J67, f_X2_save_J64, f_X2_save_J40, vc_17, gR_17_0, gI_17_1, pI_17_1, gI_17_2, pI_17_2, h2, c_bookAt, nl, bk_v hk, e', g1, g2, lt, true_or, or_true, false_or, or_false, Option.bind_some, if_true, if_false, bI_0, bI_1, bI_z, eI_n1, eI_l0, eI_g12, oN_n1, oN_l0, oN_g0, n1_l0, n1_g12, n1_0, n1_n1, z_0, z_1, z_2, z_3, z_4, z_5, z_6, z_7, z_8, z_9, z_a, z_b, z_c, z_d, z_e, z_f, oN_inj, oN_lt, oN_gt, oN_ge, oN_le, i_succ, if_pos, if_neg, c_has, c_bit, Bool.true_eq_false, Bool.false_eq_true, decide_true, decide_false, decide_eq_true_eq, decide_eq_false_iff_not, eI_lt, lle_0, lge_0, llt_0, lgt_0, leq_0, lle_1, lge_1, llt_1, lgt_1, leq_1, lle_2, lge_2, llt_2, lgt_2, leq_2, lle_3, lge_3, llt_3, lgt_3, leq_3, lle_4, lge_4, llt_4, lgt_4, leq_4, lle_5, lge_5, llt_5, lgt_5, leq_5, lle_6, lge_6, llt_6, lgt_6, leq_6, lle_7, lge_7, llt_7, lgt_7, leq_7, lle_11, lge_11, llt_11, lgt_11, leq_11, lle_12, lge_12, llt_12, lgt_12, leq_12, lle_15, lge_15, llt_15, lgt_15, leq_15, lle_20, lge_20, llt_20, lgt_20, leq_20, lle_24, lge_24, llt_24, lgt_24, leq_24, lle_25, lge_25, llt_25, lgt_25, leq_25, lle_31, lge_31, llt_31, lgt_31, leq_31, lle_48, lge_48, llt_48, lgt_48, leq_48, lle_57, lge_57, llt_57, lgt_57, leq_57, lle_32, lge_32, llt_32, lgt_32, leq_32, lle_59, lge_59, llt_59, lgt_59, leq_59, lle_97, lge_97, llt_97, lgt_97, leq_97, lle_122, lge_122, llt_122, lgt_122, leq_122, lle_99, lge_99, llt_99, lgt_99, leq_99, lle_100, lge_100, llt_100, lgt_100, leq_100, lle_144, lge_144, llt_144, lgt_144, leq_144, lle_255, lge_255, llt_255, lgt_255, leq_255, lle_300, lge_300, llt_300, lgt_300, leq_300, lle_1000, lge_1000, llt_1000, lgt_1000, leq_1000, lle_1000000, lge_1000000, llt_1000000, lgt_1000000, leq_1000000, lle_4096, lge_4096, llt_4096, lgt_4096, leq_4096, b_ft]
        rfl
      · have ed : c' = 15 := if_neg d
        show _ = some (mem (st (st ν 17 1 (Int32.ofNat x')) 17 2 (Int32.ofNat c')))
        rw [ex, ed]
        simp (disch := omega) only [f_X2_save, f_X2_save_J67, f_X2_save_J64, f_X2_save_J40, vc_17, gR_17_0, gI_17_1, pI_17_1, gI_17_2, pI_17_2, h2, c_bookAt, nl, bk_v hk, e', g1, g2, lt, true_or, or_true, false_or, or_false, Option.bind_some, if_true, if_false, bI_0, bI_1, bI_z, eI_n1, eI_l0, eI_g12, oN_n1, oN_l0, oN_g0, n1_l0, n1_g12, n1_0, n1_n1, z_0, z_1, z_2, z_3, z_4, z_5, z_6, z_7, z_8, z_9, z_a, z_b, z_c, z_d, z_e, z_f, oN_inj, oN_lt, oN_gt, oN_ge, oN_le, i_succ, if_pos, if_neg, c_has, c_bit, Bool.true_eq_false, Bool.false_eq_true, decide_true, decide_false, decide_eq_true_eq, decide_eq_false_iff_not, eI_lt, lle_0, lge_0, llt_0, lgt_0, leq_0, lle_1, lge_1, llt_1, lgt_1, leq_1, lle_2, lge_2, llt_2, lgt_2, leq_2, lle_3, lge_3, llt_3, lgt_3, leq_3, lle_4, lge_4, llt_4, lgt_4, leq_4, lle_5, lge_5, llt_5, lgt_5, leq_5, lle_6, lge_6, llt_6, lgt_6, leq_6, lle_7, lge_7, llt_7, lgt_7, leq_7, lle_11, lge_11, llt_11, lgt_11, leq_11, lle_12, lge_12, llt_12, lgt_12, leq_12, lle_15, lge_15, llt_15, lgt_15, leq_15, lle_20, lge_20, llt_20, lgt_20, leq_20, lle_24, lge_24, llt_24, lgt_24, leq_24, lle_25, lge_25, llt_25, lgt_25, leq_25, lle_31, lge_31, llt_31, lgt_31, leq_31, lle_48, lge_48, llt_48, lgt_48, leq_48, lle_57, lge_57, llt_57, lgt_57, leq_57, lle_32, lge_32, llt_32, lgt_32, leq_32, lle_59, lge_59, llt_59, lgt_59, leq_59, lle_97, lge_97, llt_97, lgt_97, leq_97, lle_122, lge_122, llt_122, lgt_122, leq_122, lle_99, lge_99, llt_99, lgt_99, leq_99, lle_100, lge_100, llt_100, lgt_100, leq_100, lle_144, lge_144, llt_144, lgt_144, leq_144, lle_255, lge_255, llt_255, lgt_255, leq_255, lle_300, lge_300, llt_300, lgt_300, leq_300, lle_1000, lge_1000, llt_1000, lgt_1000, leq_1000, lle_1000000, lge_1000000, llt_1000000, lgt_1000000, leq_1000000, lle_4096, lge_4096, llt_4096, lgt_4096, leq_4096, b_ft]
        rfl
  · show (if x + 1 < 15 then x + 1 else 0) < 15
    split <;> omega
  · rw [st_ne (Or.inr (by omega)), st_same]
  · rw [st_same, hl]
  · rw [hl]; split <;> omega
  · have hj := (List.getElem?_eq_some_iff.mp ej).1
    rw [hl] at hj ⊢
    have ex : x' = if x + 1 < 15 then x + 1 else 0 := rfl
    rcases hpush_at H B h4 j C ej with ⟨a1, rfl⟩ | ⟨a1, a2⟩
    · rw [hl] at a1
      have : (x' + 15 - (if H.length < 15 then H.length + 1 else 15) + j) % 15 = x := by
        rw [ex]
        split at a1 <;> split <;> omega
      rw [this]
      exact p1.fr f2 fun q i a c z => by omega
    · rw [hl] at a1
      have lj := (List.getElem?_eq_some_iff.mp a2).1
      have := h5 _ _ a2
      have e1 : (x' + 15 - (if H.length < 15 then H.length + 1 else 15) + j) % 15 = (x + 15 - H.length + (if H.length < 15 then j else j + 1)) % 15 := by
        rw [ex]
        split at a1 <;> split <;> omega
      have e2 : (x + 15 - H.length + (if H.length < 15 then j else j + 1)) % 15 ≠ x := by
        split at lj <;> split <;> omega
      rw [e1]
      generalize hz : (x + 15 - H.length + (if H.length < 15 then j else j + 1)) % 15 = z at this e2 ⊢
      have hz15 : z < 15 := by omega
      exact (this.fr p2 fun q i a c y => by unfold FB at y; omega).fr f2 fun q i a c y => by omega
theorem c_takeBack_0 (h : HC μ []) : ∃ r ν, f_X2_takeBack 17 1 (mem μ) = some (r, mem ν) ∧ r = 0 ∧ ν = μ := by
  obtain ⟨x, h1, h2, h3, h4, h5⟩ := h
  have h3 : μ.1 17 2 = Int32.ofNat 0 := h3
  refine ⟨0, μ, ?_, rfl, rfl⟩
  by_cases c : x = 0
  · subst c
    have e : f_X2_bookAt 17 14 (mem μ) = some (some (19 + 8 * 14), mem μ) := c_bookAt (x := 14) (by omega)
    simp (disch := omega) only [f_X2_takeBack, f_X2_takeBack_J36, f_X2_takeBack_J18, vc_17, gR_17_0, gI_17_1, pI_17_1, gI_17_2, pI_17_2, h2, h3, e, lt, true_or, or_true, false_or, or_false, Option.bind_some, if_true, if_false, bI_0, bI_1, bI_z, eI_n1, eI_l0, eI_g12, oN_n1, oN_l0, oN_g0, n1_l0, n1_g12, n1_0, n1_n1, z_0, z_1, z_2, z_3, z_4, z_5, z_6, z_7, z_8, z_9, z_a, z_b, z_c, z_d, z_e, z_f, oN_inj, oN_lt, oN_gt, oN_ge, oN_le, i_succ, if_pos, if_neg, c_has, c_bit, Bool.true_eq_false, Bool.false_eq_true, decide_true, decide_false, decide_eq_true_eq, decide_eq_false_iff_not, eI_lt, lle_0, lge_0, llt_0, lgt_0, leq_0, lle_1, lge_1, llt_1, lgt_1, leq_1, lle_2, lge_2, llt_2, lgt_2, leq_2, lle_3, lge_3, llt_3, lgt_3, leq_3, lle_4, lge_4, llt_4, lgt_4, leq_4, lle_5, lge_5, llt_5, lgt_5, leq_5, lle_6, lge_6, llt_6, lgt_6, leq_6, lle_7, lge_7, llt_7, lgt_7, leq_7, lle_11, lge_11, llt_11, lgt_11, leq_11, lle_12, lge_12, llt_12, lgt_12, leq_12, lle_15, lge_15, llt_15, lgt_15, leq_15, lle_20, lge_20, llt_20, lgt_20, leq_20, lle_24, lge_24, llt_24, lgt_24, leq_24, lle_25, lge_25, llt_25, lgt_25, leq_25, lle_31, lge_31, llt_31, lgt_31, leq_31, lle_48, lge_48, llt_48, lgt_48, leq_48, lle_57, lge_57, llt_57, lgt_57, leq_57, lle_32, lge_32, llt_32, lgt_32, leq_32, lle_59, lge_59, llt_59, lgt_59, leq_59, lle_97, lge_97, llt_97, lgt_97, leq_97, lle_122, lge_122, llt_122, lgt_122, leq_122, lle_99, lge_99, llt_99, lgt_99, leq_99, lle_100, lge_100, llt_100, lgt_100, leq_100, lle_144, lge_144, llt_144, lgt_144, leq_144, lle_255, lge_255, llt_255, lgt_255, leq_255, lle_300, lge_300, llt_300, lgt_300, leq_300, lle_1000, lge_1000, llt_1000, lgt_1000, leq_1000, lle_1000000, lge_1000000, llt_1000000, lgt_1000000, leq_1000000, lle_4096, lge_4096, llt_4096, lgt_4096, leq_4096, b_ft]
  · have e1 : Int32.ofNat x - (1 : Int32) = Int32.ofNat (x - 1) := by rw [show (1 : Int32) = Int32.ofNat 1 from rfl, oN_sub (by omega)]
    simp (disch := omega) only [f_X2_takeBack, f_X2_takeBack_J36, f_X2_takeBack_J18, vc_17, gR_17_0, gI_17_1, pI_17_1, gI_17_2, pI_17_2, h2, h3, e1, c_bookAt, lt, true_or, or_true, false_or, or_false, Option.bind_some, if_true, if_false, bI_0, bI_1, bI_z, eI_n1, eI_l0, eI_g12, oN_n1, oN_l0, oN_g0, n1_l0, n1_g12, n1_0, n1_n1, z_0, z_1, z_2, z_3, z_4, z_5, z_6, z_7, z_8, z_9, z_a, z_b, z_c, z_d, z_e, z_f, oN_inj, oN_lt, oN_gt, oN_ge, oN_le, i_succ, if_pos, if_neg, c_has, c_bit, Bool.true_eq_false, Bool.false_eq_true, decide_true, decide_false, decide_eq_true_eq, decide_eq_false_iff_not, eI_lt, lle_0, lge_0, llt_0, lgt_0, leq_0, lle_1, lge_1, llt_1, lgt_1, leq_1, lle_2, lge_2, llt_2, lgt_2, leq_2, lle_3, lge_3, llt_3, lgt_3, leq_3, lle_4, lge_4, llt_4, lgt_4, leq_4, lle_5, lge_5, llt_5, lgt_5, leq_5, lle_6, lge_6, llt_6, lgt_6, leq_6, lle_7, lge_7, llt_7, lgt_7, leq_7, lle_11, lge_11, llt_11, lgt_11, leq_11, lle_12, lge_12, llt_12, lgt_12, leq_12, lle_15, lge_15, llt_15, lgt_15, leq_15, lle_20, lge_20, llt_20, lgt_20, leq_20, lle_24, lge_24, llt_24, lgt_24, leq_24, lle_25, lge_25, llt_25, lgt_25, leq_25, lle_31, lge_31, llt_31, lgt_31, leq_31, lle_48, lge_48, llt_48, lgt_48, leq_48, lle_57, lge_57, llt_57, lgt_57, leq_57, lle_32, lge_32, llt_32, lgt_32, leq_32, lle_59, lge_59, llt_59, lgt_59, leq_59, lle_97, lge_97, llt_97, lgt_97, leq_97, lle_122, lge_122, llt_122, lgt_122, leq_122, lle_99, lge_99, llt_99, lgt_99, leq_99, lle_100, lge_100, llt_100, lgt_100, leq_100, lle_144, lge_144, llt_144, lgt_144, leq_144, lle_255, lge_255, llt_255, lgt_255, leq_255, lle_300, lge_300, llt_300, lgt_300, leq_300, lle_1000, lge_1000, llt_1000, lgt_1000, leq_1000, lle_1000000, lge_1000000, llt_1000000, lgt_1000000, leq_1000000, lle_4096, lge_4096, llt_4096, lgt_4096, leq_4096, b_ft]
theorem c_takeBack (h : HC μ (H ++ [B])) : ∃ ν, f_X2_takeBack 17 1 (mem μ) = some (1, mem ν) ∧ BC ν 1 B ∧ HC ν H ∧ Fr (fun q i => FH q i ∨ FB 1 q i) μ ν := by
  obtain ⟨x, h1, h2, h3, h4, h5⟩ := h
  rw [List.length_append] at h3 h4 h5
  have h3 : μ.1 17 2 = Int32.ofNat (H.length + 1) := h3
  have h4 : H.length + 1 ≤ 15 := h4
  let y := if x = 0 then 14 else x - 1
  have hy : y < 15 := by show (if x = 0 then 14 else x - 1) < 15; split <;> omega
  have hB := h5 H.length B (by simp)
  have ey : (x + 15 - (H.length + [B].length) + H.length) % 15 = y := by
    show (x + 15 - (H.length + 1) + H.length) % 15 = if x = 0 then 14 else x - 1
    split <;> omega
  rw [ey] at hB
  have hk := bkH y hy
  obtain ⟨ν, e, p1, p2⟩ := c_bcopy bk1 hk (Or.inl (by omega)) hB
  let ξ := st (st ν 17 1 (Int32.ofNat y)) 17 2 (Int32.ofNat H.length)
  have f2 : Fr (fun q _ => q = 17) ν ξ := ((Fr.refl (fun q _ => q = 17) ν).st rfl).st rfl
  refine ⟨ξ, ?_, p1.fr f2 (fun q i a c z => by omega), ⟨y, hy, ?_, ?_, by omega, fun j C ej => ?_⟩, ?_⟩
  · have g2 : ∀ v, (st ν 17 1 v).1 17 2 = Int32.ofNat (H.length + 1) := fun v => by rw [st_ne (Or.inr (by omega)), (p2 _ _ (by unfold FB; omega)).1]; exact h3
    have e3 : Int32.ofNat (H.length + 1) - (1 : Int32) = Int32.ofNat H.length := by rw [show (1 : Int32) = Int32.ofNat 1 from rfl, oN_sub (by omega), Nat.add_sub_cancel]
    show _ = some (1, mem (st (st ν 17 1 (Int32.ofNat y)) 17 2 (Int32.ofNat H.length)))
    by_cases c : x = 0
    · have ey : y = 14 := if_pos c
      subst c
      rw [ey] at e hk ⊢
      have eb : f_X2_bookAt 17 14 (mem μ) = some (some (19 + 8 * 14), mem μ) := c_bookAt (x := 14) (by omega)
      have e' : f_X0_copy 1 (19 + 8 * 14) (mem μ) = some (mem ν) := e
      simp only [f_X2_takeBack, vc_17, gR_17_0, gI_17_1, pI_17_1, gI_17_2, pI_17_2, h2, Option.bind_some, show (Int32.ofNat 0 ≤ 0) = True from eq_true (by decide), if_true, f_X2_takeBack_J18, eb, h3, leq_0 (show H.length + 1 < 2147483648 by omega), if_neg (show ¬ H.length + 1 = 0 by omega), nl, bk_v bk1, e', g2, e3]
      rfl
    · have ey : y = x - 1 := if_neg c
      rw [ey] at e hk ⊢
      have e1 : Int32.ofNat x - (1 : Int32) = Int32.ofNat (x - 1) := by rw [show (1 : Int32) = Int32.ofNat 1 from rfl, oN_sub (by omega)]
      have e' : f_X0_copy 1 (19 + 8 * (x - 1)) (mem μ) = some (mem ν) := e
      simp (disch := omega) only [f_X2_takeBack, f_X2_takeBack_J36, f_X2_takeBack_J18, vc_17, gR_17_0, gI_17_1, pI_17_1, gI_17_2, pI_17_2, h2, h3, e1, c_bookAt, nl, bk_v bk1, e', g2, e3, lt, true_or, or_true, false_or, or_false, Option.bind_some, if_true, if_false, bI_0, bI_1, bI_z, eI_n1, eI_l0, eI_g12, oN_n1, oN_l0, oN_g0, n1_l0, n1_g12, n1_0, n1_n1, z_0, z_1, z_2, z_3, z_4, z_5, z_6, z_7, z_8, z_9, z_a, z_b, z_c, z_d, z_e, z_f, oN_inj, oN_lt, oN_gt, oN_ge, oN_le, i_succ, if_pos, if_neg, c_has, c_bit, Bool.true_eq_false, Bool.false_eq_true, decide_true, decide_false, decide_eq_true_eq, decide_eq_false_iff_not, eI_lt, lle_0, lge_0, llt_0, lgt_0, leq_0, lle_1, lge_1, llt_1, lgt_1, leq_1, lle_2, lge_2, llt_2, lgt_2, leq_2, lle_3, lge_3, llt_3, lgt_3, leq_3, lle_4, lge_4, llt_4, lgt_4, leq_4, lle_5, lge_5, llt_5, lgt_5, leq_5, lle_6, lge_6, llt_6, lgt_6, leq_6, lle_7, lge_7, llt_7, lgt_7, leq_7, lle_11, lge_11, llt_11, lgt_11, leq_11, lle_12, lge_12, llt_12, lgt_12, leq_12, lle_15, lge_15, llt_15, lgt_15, leq_15, lle_20, lge_20, llt_20, lgt_20, leq_20, lle_24, lge_24, llt_24, lgt_24, leq_24, lle_25, lge_25, llt_25, lgt_25, leq_25, lle_31, lge_31, llt_31, lgt_31, leq_31, lle_48, lge_48, llt_48, lgt_48, leq_48, lle_57, lge_57, llt_57, lgt_57, leq_57, lle_32, lge_32, llt_32, lgt_32, leq_32, lle_59, lge_59, llt_59, lgt_59, leq_59, lle_97, lge_97, llt_97, lgt_97, leq_97, lle_122, lge_122, llt_122, lgt_122, leq_122, lle_99, lge_99, llt_99, lgt_99, leq_99, lle_100, lge_100, llt_100, lgt_100, leq_100, lle_144, lge_144, llt_144, lgt_144, leq_144, lle_255, lge_255, llt_255, lgt_255, leq_255, lle_300, lge_300, llt_300, lgt_300, leq_300, lle_1000, lge_1000, llt_1000, lgt_1000, leq_1000, lle_1000000, lge_1000000, llt_1000000, lgt_1000000, leq_1000000, lle_4096, lge_4096, llt_4096, lgt_4096, leq_4096, b_ft]
  · rw [st_ne (Or.inr (by omega)), st_same]
  · rw [st_same]
  · have lj := (List.getElem?_eq_some_iff.mp ej).1
    have := h5 j C (by rw [List.getElem?_append_left lj]; exact ej)
    have e1 : (x + 15 - (H.length + [B].length) + j) % 15 = (y + 15 - H.length + j) % 15 := by
      show (x + 15 - (H.length + 1) + j) % 15 = ((if x = 0 then 14 else x - 1) + 15 - H.length + j) % 15
      split <;> omega
    rw [e1] at this
    exact (this.fr p2 fun q i a c y => by unfold FB at y; omega).fr f2 fun q i a c y => by omega
  · exact ((p2.mono fun q i z => Or.inr z).st (Or.inl (by unfold FH; omega))).st (Or.inl (by unfold FH; omega))
end Hc
section Hm
variable {μ : MM} {H : List Bk} {B : Bk}
/-- the rows of the history -/
def FM (q i : Nat) : Prop := (q = 168 ∧ i = 14) ∨ ∃ r, 2 ≤ r ∧ r < 17 ∧ FR r q i
theorem m_rem_last {ν : MM} {L : List Bk} (hL : L.length < 15) (e14 : ν.1 168 14 = Int32.ofNat L.length) (hr : MR ν 0 B) (hrow : ∀ j C, L[j]? = some C → MR ν (2 + j) C) : ∃ ξ, f_X10_remembers_J43 168 (mem ν) = some (mem ξ) ∧ HM ξ (L ++ [B]) ∧ Fr FM ν ξ := by
  obtain ⟨ξ, e, p1, p2⟩ := m_copies (x := 0) (y := (2 : Int32) + Int32.ofNat L.length) (f := 0) (t := 2 + L.length) rfl (by rw [show (2 : Int32) = Int32.ofNat 2 from rfl, oN_add]) (by omega) (by omega) (by omega) hr
  have g14 : ξ.1 168 14 = Int32.ofNat L.length := by rw [(p2 _ _ (by unfold FR; omega)).1]; exact e14
  have f2 : Fr (fun q i => q = 168 ∧ i = 14) ξ (st ξ 168 14 (Int32.ofNat (L.length + 1))) := (Fr.refl _ _).st ⟨rfl, rfl⟩
  refine ⟨st ξ 168 14 (Int32.ofNat (L.length + 1)), ?_, ⟨?_, ?_, fun j C ej => ?_⟩, (p2.mono fun q i z => Or.inr ⟨2 + L.length, by omega, by omega, z⟩).trans (f2.mono fun q i z => Or.inl z)⟩
  · simp (disch := omega) only [f_X10_remembers_J43, vc_168, gI_168_0, pI_168_0, gR_168_1, gI_168_2, pI_168_2, gI_168_3, pI_168_3, gI_168_4, pI_168_4, gI_168_5, pI_168_5, gI_168_6, pI_168_6, gI_168_7, pI_168_7, gR_168_8, gR_168_9, gR_168_10, gR_168_11, gR_168_12, gR_168_13, gI_168_14, pI_168_14, gI_168_15, pI_168_15, gI_168_16, pI_168_16, gR_168_17, gI_168_18, pI_168_18, gR_168_19, gI_168_20, pI_168_20, gI_168_21, pI_168_21, gI_168_22, pI_168_22, gI_168_23, pI_168_23, gR_168_24, gR_168_25, gI_168_26, pI_168_26, gI_168_27, pI_168_27, gR_168_28, gI_168_29, pI_168_29, gI_168_30, pI_168_30, gI_168_31, pI_168_31, gR_168_32, gR_168_33, gR_168_34, gR_168_35, gR_168_36, gR_168_37, gR_168_38, e14, e, g14, lt, true_or, or_true, false_or, or_false, Option.bind_some, if_true, if_false, bI_0, bI_1, bI_z, eI_n1, eI_l0, eI_g12, oN_n1, oN_l0, oN_g0, n1_l0, n1_g12, n1_0, n1_n1, z_0, z_1, z_2, z_3, z_4, z_5, z_6, z_7, z_8, z_9, z_a, z_b, z_c, z_d, z_e, z_f, oN_inj, oN_lt, oN_gt, oN_ge, oN_le, i_succ, if_pos, if_neg, c_has, c_bit, Bool.true_eq_false, Bool.false_eq_true, decide_true, decide_false, decide_eq_true_eq, decide_eq_false_iff_not, eI_lt, lle_0, lge_0, llt_0, lgt_0, leq_0, lle_1, lge_1, llt_1, lgt_1, leq_1, lle_2, lge_2, llt_2, lgt_2, leq_2, lle_3, lge_3, llt_3, lgt_3, leq_3, lle_4, lge_4, llt_4, lgt_4, leq_4, lle_5, lge_5, llt_5, lgt_5, leq_5, lle_6, lge_6, llt_6, lgt_6, leq_6, lle_7, lge_7, llt_7, lgt_7, leq_7, lle_11, lge_11, llt_11, lgt_11, leq_11, lle_12, lge_12, llt_12, lgt_12, leq_12, lle_15, lge_15, llt_15, lgt_15, leq_15, lle_20, lge_20, llt_20, lgt_20, leq_20, lle_24, lge_24, llt_24, lgt_24, leq_24, lle_25, lge_25, llt_25, lgt_25, leq_25, lle_31, lge_31, llt_31, lgt_31, leq_31, lle_48, lge_48, llt_48, lgt_48, leq_48, lle_57, lge_57, llt_57, lgt_57, leq_57, lle_32, lge_32, llt_32, lgt_32, leq_32, lle_59, lge_59, llt_59, lgt_59, leq_59, lle_97, lge_97, llt_97, lgt_97, leq_97, lle_122, lge_122, llt_122, lgt_122, leq_122, lle_99, lge_99, llt_99, lgt_99, leq_99, lle_100, lge_100, llt_100, lgt_100, leq_100, lle_144, lge_144, llt_144, lgt_144, leq_144, lle_255, lge_255, llt_255, lgt_255, leq_255, lle_300, lge_300, llt_300, lgt_300, leq_300, lle_1000, lge_1000, llt_1000, lgt_1000, leq_1000, lle_1000000, lge_1000000, llt_1000000, lgt_1000000, leq_1000000, lle_4096, lge_4096, llt_4096, lgt_4096, leq_4096, b_ft]
  · rw [st_same, List.length_append]; rfl
  · rw [List.length_append]; show L.length + 1 ≤ 15; omega
  · by_cases d : j < L.length
    · rw [List.getElem?_append_left d] at ej
      exact ((hrow j C ej).fr p2 fun q i a c => by unfold FR at a c; omega).fr f2 fun q i a c => by unfold FR at a; omega
    · have lj := (List.getElem?_eq_some_iff.mp ej).1
      rw [List.length_append] at lj
      have lj : j < L.length + 1 := lj
      have : j = L.length := by omega
      rw [List.getElem?_append_right (by omega), this, Nat.sub_self] at ej
      simp at ej
      subst ej
      rw [this]
      exact p1.fr f2 fun q i a c => by unfold FR at a; omega
/-- the rows are moved on: i of them -/
def RI (μ ν : MM) (H : List Bk) (B : Bk) (i : Nat) : Prop := 1 ≤ i ∧ Fr FM μ ν ∧ ν.1 168 14 = Int32.ofNat H.length ∧ MR ν 0 B ∧ (∀ j C, H[j]? = some C → i ≤ j → MR ν (2 + j) C) ∧ ∀ j C, H[j + 1]? = some C → j + 1 < i → MR ν (2 + j) C
theorem m_rem_step {ν : MM} {i : Nat} (h15 : H.length = 15) (hi : i < 15) (h : RI μ ν H B i) : ∃ ξ, f_X10_copies 168 ((2 : Int32) + Int32.ofNat i) ((1 : Int32) + Int32.ofNat i) (mem ν) = some (mem ξ) ∧ RI μ ξ H B (i + 1) := by
  obtain ⟨a2, a3, a4, a5, a6, a7⟩ := h
  obtain ⟨C, eC⟩ : ∃ C, H[i]? = some C := ⟨_, List.getElem?_eq_getElem (show i < H.length by omega)⟩
  obtain ⟨ξ, e, p1, p2⟩ := m_copies (x := (2 : Int32) + Int32.ofNat i) (y := (1 : Int32) + Int32.ofNat i) (f := 2 + i) (t := 1 + i) (by rw [show (2 : Int32) = Int32.ofNat 2 from rfl, oN_add]) (by rw [show (1 : Int32) = Int32.ofNat 1 from rfl, oN_add]) (by omega) (by omega) (by omega) (a6 i C eC (Nat.le_refl _))
  refine ⟨ξ, e, by omega, a3.trans (p2.mono fun q j z => Or.inr ⟨1 + i, by omega, by omega, z⟩), ?_, a5.fr p2 (fun q j a c => by unfold FR at a c; omega), fun j C' ej hj => ?_, fun j C' ej hj => ?_⟩
  · rw [(p2 _ _ (by unfold FR; omega)).1]; exact a4
  · have lj := (List.getElem?_eq_some_iff.mp ej).1
    exact (a6 j C' ej (by omega)).fr p2 fun q j a c => by unfold FR at a c; omega
  · by_cases z : j + 1 = i
    · subst z
      rw [eC] at ej; cases ej
      rw [show 2 + j = 1 + (j + 1) by omega]
      exact p1
    · exact (a7 j C' ej (by omega)).fr p2 fun q j a c => by unfold FR at a c; omega
theorem m_rem_eq {ν ξ : MM} {i : Nat} (d : i < 15) (e : f_X10_copies 168 ((2 : Int32) + Int32.ofNat i) ((1 : Int32) + Int32.ofNat i) (mem ν) = some (mem ξ)) (n : Nat) : f_X10_remembers_L11 f_X10_remembers_J33 (n + 1) 168 (Int32.ofNat i) (mem ν) = f_X10_remembers_L11 f_X10_remembers_J33 n 168 (Int32.ofNat (i + 1)) (mem ξ) := by
  simp (disch := omega) only [f_X10_remembers_L11, vc_168, gI_168_0, pI_168_0, gR_168_1, gI_168_2, pI_168_2, gI_168_3, pI_168_3, gI_168_4, pI_168_4, gI_168_5, pI_168_5, gI_168_6, pI_168_6, gI_168_7, pI_168_7, gR_168_8, gR_168_9, gR_168_10, gR_168_11, gR_168_12, gR_168_13, gI_168_14, pI_168_14, gI_168_15, pI_168_15, gI_168_16, pI_168_16, gR_168_17, gI_168_18, pI_168_18, gR_168_19, gI_168_20, pI_168_20, gI_168_21, pI_168_21, gI_168_22, pI_168_22, gI_168_23, pI_168_23, gR_168_24, gR_168_25, gI_168_26, pI_168_26, gI_168_27, pI_168_27, gR_168_28, gI_168_29, pI_168_29, gI_168_30, pI_168_30, gI_168_31, pI_168_31, gR_168_32, gR_168_33, gR_168_34, gR_168_35, gR_168_36, gR_168_37, gR_168_38, e, lt, true_or, or_true, false_or, or_false, Option.bind_some, if_true, if_false, bI_0, bI_1, bI_z, eI_n1, eI_l0, eI_g12, oN_n1, oN_l0, oN_g0, n1_l0, n1_g12, n1_0, n1_n1, z_0, z_1, z_2, z_3, z_4, z_5, z_6, z_7, z_8, z_9, z_a, z_b, z_c, z_d, z_e, z_f, oN_inj, oN_lt, oN_gt, oN_ge, oN_le, i_succ, if_pos, if_neg, c_has, c_bit, Bool.true_eq_false, Bool.false_eq_true, decide_true, decide_false, decide_eq_true_eq, decide_eq_false_iff_not, eI_lt, lle_0, lge_0, llt_0, lgt_0, leq_0, lle_1, lge_1, llt_1, lgt_1, leq_1, lle_2, lge_2, llt_2, lgt_2, leq_2, lle_3, lge_3, llt_3, lgt_3, leq_3, lle_4, lge_4, llt_4, lgt_4, leq_4, lle_5, lge_5, llt_5, lgt_5, leq_5, lle_6, lge_6, llt_6, lgt_6, leq_6, lle_7, lge_7, llt_7, lgt_7, leq_7, lle_11, lge_11, llt_11, lgt_11, leq_11, lle_12, lge_12, llt_12, lgt_12, leq_12, lle_15, lge_15, llt_15, lgt_15, leq_15, lle_20, lge_20, llt_20, lgt_20, leq_20, lle_24, lge_24, llt_24, lgt_24, leq_24, lle_25, lge_25, llt_25, lgt_25, leq_25, lle_31, lge_31, llt_31, lgt_31, leq_31, lle_48, lge_48, llt_48, lgt_48, leq_48, lle_57, lge_57, llt_57, lgt_57, leq_57, lle_32, lge_32, llt_32, lgt_32, leq_32, lle_59, lge_59, llt_59, lgt_59, leq_59, lle_97, lge_97, llt_97, lgt_97, leq_97, lle_122, lge_122, llt_122, lgt_122, leq_122, lle_99, lge_99, llt_99, lgt_99, leq_99, lle_100, lge_100, llt_100, lgt_100, leq_100, lle_144, lge_144, llt_144, lgt_144, leq_144, lle_255, lge_255, llt_255, lgt_255, leq_255, lle_300, lge_300, llt_300, lgt_300, leq_300, lle_1000, lge_1000, llt_1000, lgt_1000, leq_1000, lle_1000000, lge_1000000, llt_1000000, lgt_1000000, leq_1000000, lle_4096, lge_4096, llt_4096, lgt_4096, leq_4096, b_ft]
theorem m_rem_out1 {ν : MM} {l : Nat} (h15 : 15 ≤ l) (hl : l < 100) (n : Nat) (K : Nat → xH → Option xH) : f_X10_remembers_L11 K (n + 1) 168 (Int32.ofNat l) (mem ν) = K 168 (mem ν) := by
  have c : Int32.ofNat l ≥ 15 := by rw [lge_15 (by omega)]; exact h15
  exact if_pos c
theorem m_rem_out2 {ν : MM} {l : Nat} (h15 : 1 ≤ l) (a4 : ν.1 168 14 = Int32.ofNat l) : f_X10_remembers_J33 168 (mem ν) = f_X10_remembers_J43 168 (mem (st ν 168 14 (Int32.ofNat (l - 1)))) := by
  have e1 : ν.1 168 14 - (1 : Int32) = Int32.ofNat (l - 1) := by rw [a4, show (1 : Int32) = Int32.ofNat 1 from rfl, oN_sub h15]
  rw [← e1]
  unfold f_X10_remembers_J33
  rw [gI_168_14]
  simp only [Option.bind_some]
  rw [pI_168_14]
  simp only [Option.bind_some]
theorem m_rem_out {ν : MM} {l : Nat} (h15 : l = 15) (n : Nat) (a4 : ν.1 168 14 = Int32.ofNat l) : f_X10_remembers_L11 f_X10_remembers_J33 (n + 1) 168 (Int32.ofNat l) (mem ν) = f_X10_remembers_J43 168 (mem (st ν 168 14 (Int32.ofNat (l - 1)))) :=
  (m_rem_out1 (by omega) (by omega) n _).trans (m_rem_out2 (by omega) a4)
theorem m_rem_end {ν : MM} (h15 : H.length = 15) (a2 : RI μ ν H B H.length) : ∃ ξ, f_X10_remembers_J43 168 (mem (st ν 168 14 (Int32.ofNat (H.length - 1)))) = some (mem ξ) ∧ HM ξ (H.tail ++ [B]) ∧ Fr FM μ ξ := by
  obtain ⟨_, a3, a4, a5, a6, a7⟩ := a2
  have f2 : Fr (fun q i => q = 168 ∧ i = 14) ν (st ν 168 14 (Int32.ofNat (H.length - 1))) := (Fr.refl _ _).st ⟨rfl, rfl⟩
  have lt : H.tail.length = H.length - 1 := List.length_tail
  obtain ⟨ξ, e, b1, b2⟩ := m_rem_last (ν := st ν 168 14 (Int32.ofNat (H.length - 1))) (L := H.tail) (B := B) (by omega) (by rw [st_same, lt]) (a5.fr f2 fun q i a c => by unfold FR at a; omega) (fun j C ej => by
    have ej' : H[j + 1]? = some C := by
      cases H with
      | nil => simp at ej
      | cons a t => simpa using ej
    have lj := (List.getElem?_eq_some_iff.mp ej').1
    exact (a7 j C ej' lj).fr f2 fun q i a c => by unfold FR at a; omega)
  exact ⟨ξ, e, b1, (a3.trans (f2.mono fun q i z => Or.inl z)).trans b2⟩
theorem m_rem_15 (h15 : H.length = 15) (h1 : μ.1 168 14 = Int32.ofNat H.length) (h3 : ∀ j B, H[j]? = some B → MR μ (2 + j) B) (hb' : MR μ 0 B) : Hw (f_X10_remembers_L11 f_X10_remembers_J33 5000 168 1 (mem μ)) (fun r => ∃ ν, r = mem ν ∧ HM ν (H.tail ++ [B]) ∧ Fr FM μ ν) := by
  have h0 : RI μ μ H B 1 := ⟨Nat.le_refl _, Fr.refl _ _, h1, hb', fun j C ej _ => h3 j C ej, fun j C ej hj => absurd hj (by omega)⟩
  refine hw_loop (L := fun n (s : Int32 × MM) => f_X10_remembers_L11 f_X10_remembers_J33 n 168 s.1 (mem s.2)) (I := fun k s => ∃ i, i + k = H.length ∧ s.1 = Int32.ofNat i ∧ RI μ s.2 H B i) ?_ (H.length - 1) (1, μ) ⟨1, by omega, rfl, h0⟩ 5000 (by omega)
  rintro k ⟨x, ν⟩ ⟨i, a1, ax, a2⟩
  have ax : x = Int32.ofNat i := ax
  have a2 : RI μ ν H B i := a2
  subst ax
  by_cases d : i < 15
  · obtain ⟨ξ, e, b⟩ := m_rem_step h15 d a2
    exact Or.inl ⟨k - 1, (Int32.ofNat (i + 1), ξ), by omega, ⟨i + 1, by omega, rfl, b⟩, m_rem_eq d e⟩
  · have hi : i = H.length := by omega
    subst hi
    obtain ⟨ξ, e, b1, b2⟩ := m_rem_end h15 a2
    exact Or.inr fun n => ⟨mem ξ, (m_rem_out h15 n a2.2.2.1).trans e, ξ, rfl, b1, b2⟩
theorem m_remembers (h : HM μ H) (hb' : MR μ 0 B) : ∃ ν, f_X10_remembers 168 (mem μ) = some (mem ν) ∧ HM ν (hpush H B) ∧ Fr FM μ ν := by
  obtain ⟨h1, h2, h3⟩ := h
  by_cases c : H.length < 15
  · obtain ⟨ξ, e, a1, a2⟩ := m_rem_last c h1 hb' h3
    refine ⟨ξ, ?_, ?_, a2⟩
    · simp (disch := omega) only [f_X10_remembers, vc_168, gI_168_0, pI_168_0, gR_168_1, gI_168_2, pI_168_2, gI_168_3, pI_168_3, gI_168_4, pI_168_4, gI_168_5, pI_168_5, gI_168_6, pI_168_6, gI_168_7, pI_168_7, gR_168_8, gR_168_9, gR_168_10, gR_168_11, gR_168_12, gR_168_13, gI_168_14, pI_168_14, gI_168_15, pI_168_15, gI_168_16, pI_168_16, gR_168_17, gI_168_18, pI_168_18, gR_168_19, gI_168_20, pI_168_20, gI_168_21, pI_168_21, gI_168_22, pI_168_22, gI_168_23, pI_168_23, gR_168_24, gR_168_25, gI_168_26, pI_168_26, gI_168_27, pI_168_27, gR_168_28, gI_168_29, pI_168_29, gI_168_30, pI_168_30, gI_168_31, pI_168_31, gR_168_32, gR_168_33, gR_168_34, gR_168_35, gR_168_36, gR_168_37, gR_168_38, h1, lt, true_or, or_true, false_or, or_false, Option.bind_some, if_true, if_false, bI_0, bI_1, bI_z, eI_n1, eI_l0, eI_g12, oN_n1, oN_l0, oN_g0, n1_l0, n1_g12, n1_0, n1_n1, z_0, z_1, z_2, z_3, z_4, z_5, z_6, z_7, z_8, z_9, z_a, z_b, z_c, z_d, z_e, z_f, oN_inj, oN_lt, oN_gt, oN_ge, oN_le, i_succ, if_pos, if_neg, c_has, c_bit, Bool.true_eq_false, Bool.false_eq_true, decide_true, decide_false, decide_eq_true_eq, decide_eq_false_iff_not, eI_lt, lle_0, lge_0, llt_0, lgt_0, leq_0, lle_1, lge_1, llt_1, lgt_1, leq_1, lle_2, lge_2, llt_2, lgt_2, leq_2, lle_3, lge_3, llt_3, lgt_3, leq_3, lle_4, lge_4, llt_4, lgt_4, leq_4, lle_5, lge_5, llt_5, lgt_5, leq_5, lle_6, lge_6, llt_6, lgt_6, leq_6, lle_7, lge_7, llt_7, lgt_7, leq_7, lle_11, lge_11, llt_11, lgt_11, leq_11, lle_12, lge_12, llt_12, lgt_12, leq_12, lle_15, lge_15, llt_15, lgt_15, leq_15, lle_20, lge_20, llt_20, lgt_20, leq_20, lle_24, lge_24, llt_24, lgt_24, leq_24, lle_25, lge_25, llt_25, lgt_25, leq_25, lle_31, lge_31, llt_31, lgt_31, leq_31, lle_48, lge_48, llt_48, lgt_48, leq_48, lle_57, lge_57, llt_57, lgt_57, leq_57, lle_32, lge_32, llt_32, lgt_32, leq_32, lle_59, lge_59, llt_59, lgt_59, leq_59, lle_97, lge_97, llt_97, lgt_97, leq_97, lle_122, lge_122, llt_122, lgt_122, leq_122, lle_99, lge_99, llt_99, lgt_99, leq_99, lle_100, lge_100, llt_100, lgt_100, leq_100, lle_144, lge_144, llt_144, lgt_144, leq_144, lle_255, lge_255, llt_255, lgt_255, leq_255, lle_300, lge_300, llt_300, lgt_300, leq_300, lle_1000, lge_1000, llt_1000, lgt_1000, leq_1000, lle_1000000, lge_1000000, llt_1000000, lgt_1000000, leq_1000000, lle_4096, lge_4096, llt_4096, lgt_4096, leq_4096, b_ft]
      exact e
    · unfold hpush; rw [if_pos c]; exact a1
  · have h15 : H.length = 15 := by omega
    obtain ⟨r, e, ν, rfl, a1, a2⟩ := m_rem_15 h15 h1 h3 hb'
    refine ⟨ν, ?_, ?_, a2⟩
    · simp (disch := omega) only [f_X10_remembers, vc_168, gI_168_0, pI_168_0, gR_168_1, gI_168_2, pI_168_2, gI_168_3, pI_168_3, gI_168_4, pI_168_4, gI_168_5, pI_168_5, gI_168_6, pI_168_6, gI_168_7, pI_168_7, gR_168_8, gR_168_9, gR_168_10, gR_168_11, gR_168_12, gR_168_13, gI_168_14, pI_168_14, gI_168_15, pI_168_15, gI_168_16, pI_168_16, gR_168_17, gI_168_18, pI_168_18, gR_168_19, gI_168_20, pI_168_20, gI_168_21, pI_168_21, gI_168_22, pI_168_22, gI_168_23, pI_168_23, gR_168_24, gR_168_25, gI_168_26, pI_168_26, gI_168_27, pI_168_27, gR_168_28, gI_168_29, pI_168_29, gI_168_30, pI_168_30, gI_168_31, pI_168_31, gR_168_32, gR_168_33, gR_168_34, gR_168_35, gR_168_36, gR_168_37, gR_168_38, h1, lt, true_or, or_true, false_or, or_false, Option.bind_some, if_true, if_false, bI_0, bI_1, bI_z, eI_n1, eI_l0, eI_g12, oN_n1, oN_l0, oN_g0, n1_l0, n1_g12, n1_0, n1_n1, z_0, z_1, z_2, z_3, z_4, z_5, z_6, z_7, z_8, z_9, z_a, z_b, z_c, z_d, z_e, z_f, oN_inj, oN_lt, oN_gt, oN_ge, oN_le, i_succ, if_pos, if_neg, c_has, c_bit, Bool.true_eq_false, Bool.false_eq_true, decide_true, decide_false, decide_eq_true_eq, decide_eq_false_iff_not, eI_lt, lle_0, lge_0, llt_0, lgt_0, leq_0, lle_1, lge_1, llt_1, lgt_1, leq_1, lle_2, lge_2, llt_2, lgt_2, leq_2, lle_3, lge_3, llt_3, lgt_3, leq_3, lle_4, lge_4, llt_4, lgt_4, leq_4, lle_5, lge_5, llt_5, lgt_5, leq_5, lle_6, lge_6, llt_6, lgt_6, leq_6, lle_7, lge_7, llt_7, lgt_7, leq_7, lle_11, lge_11, llt_11, lgt_11, leq_11, lle_12, lge_12, llt_12, lgt_12, leq_12, lle_15, lge_15, llt_15, lgt_15, leq_15, lle_20, lge_20, llt_20, lgt_20, leq_20, lle_24, lge_24, llt_24, lgt_24, leq_24, lle_25, lge_25, llt_25, lgt_25, leq_25, lle_31, lge_31, llt_31, lgt_31, leq_31, lle_48, lge_48, llt_48, lgt_48, leq_48, lle_57, lge_57, llt_57, lgt_57, leq_57, lle_32, lge_32, llt_32, lgt_32, leq_32, lle_59, lge_59, llt_59, lgt_59, leq_59, lle_97, lge_97, llt_97, lgt_97, leq_97, lle_122, lge_122, llt_122, lgt_122, leq_122, lle_99, lge_99, llt_99, lgt_99, leq_99, lle_100, lge_100, llt_100, lgt_100, leq_100, lle_144, lge_144, llt_144, lgt_144, leq_144, lle_255, lge_255, llt_255, lgt_255, leq_255, lle_300, lge_300, llt_300, lgt_300, leq_300, lle_1000, lge_1000, llt_1000, lgt_1000, leq_1000, lle_1000000, lge_1000000, llt_1000000, lgt_1000000, leq_1000000, lle_4096, lge_4096, llt_4096, lgt_4096, leq_4096, b_ft]
      exact e
    · unfold hpush; rw [if_neg c]; exact a1
end Hm
