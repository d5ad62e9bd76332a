/-! HISTORY, of the class and of the model -/
variable {Ξ : xH}
/-- the latest 15 -/
def hpush (H : List Bk) (B : Bk) : List Bk := if H.length < 15 then H ++ [B] else H.tail ++ [B]
def HC (μ : MM) (H : List Bk) : Prop := ∃ x, x < 15 ∧ μ.1 17 1 = Int32.ofNat x ∧ μ.1 17 2 = Int32.ofNat H.length ∧ H.length ≤ 15 ∧ ∀ j B, H[j]? = some B → BC μ (19 + 8 * ((x + 15 - H.length + j) % 15)) B
def FH (q i : Nat) : Prop := (19 ≤ q ∧ q < 139) ∨ (q = 17 ∧ (i = 1 ∨ i = 2))
theorem HC.fr {μ ν : MM} {H : List Bk} {P : Nat → Nat → Prop} (h : HC μ H) (f : Fr P μ ν) (n : ∀ q i, FH q i → ¬ P q i) : HC ν H := by
  obtain ⟨x, h1, h2, h3, h4, h5⟩ := h
  refine ⟨x, h1, ?_, ?_, h4, fun j B e => (h5 j B e).fr f fun q i a c => n q i ?_⟩
  · rw [(f _ _ (n _ _ (by unfold FH; omega))).1]; exact h2
  · rw [(f _ _ (n _ _ (by unfold FH; omega))).1]; exact h3
  · unfold FH; omega
theorem hpush_len (H : List Bk) (B : Bk) (h : H.length ≤ 15) : (hpush H B).length = if H.length < 15 then H.length + 1 else 15 := by
  unfold hpush
  by_cases c : H.length < 15
  · rw [if_pos c, if_pos c, List.length_append]; rfl
  · rw [if_neg c, if_neg c, List.length_append, List.length_tail]
    show H.length - 1 + 1 = 15
    omega
theorem hpush_at (H : List Bk) (B : Bk) (h : H.length ≤ 15) (j : Nat) (C : Bk) (e : (hpush H B)[j]? = some C) : (j + 1 = (hpush H B).length ∧ C = B) ∨ (j + 1 < (hpush H B).length ∧ H[if H.length < 15 then j else j + 1]? = some C) := by
  have hl := hpush_len H B h
  have hj := (List.getElem?_eq_some_iff.mp e).1
  unfold hpush at e
  by_cases c : H.length < 15
  · rw [if_pos c] at e hl
    rw [if_pos c]
    by_cases d : j < H.length
    · rw [List.getElem?_append_left d] at e
      exact Or.inr ⟨by omega, e⟩
    · have : j = H.length := by omega
      rw [List.getElem?_append_right (by omega), this, Nat.sub_self] at e
      simp at e
      exact Or.inl ⟨by omega, e.symm⟩
  · rw [if_neg c] at e hl
    rw [if_neg c]
    have lt : H.tail.length = 14 := by rw [List.length_tail]; omega
    by_cases d : j < 14
    · rw [List.getElem?_append_left (by omega)] at e
      refine Or.inr ⟨by omega, ?_⟩
      cases H with
      | nil => simp at e
      | cons a t => simpa using e
    · have : j = 14 := by omega
      rw [List.getElem?_append_right (by omega), lt, this, Nat.sub_self] at e
      simp at e
      exact Or.inl ⟨by omega, e.symm⟩
section Hc
variable {μ : MM} {H : List Bk} {B : Bk}
theorem aR_18 {x : Nat} (hx : x < 15) : aR 105 ((mX Ξ) μ) 18 (Int32.ofNat x) = some (19 + 8 * x) := by
  have : ∀ x, x < 15 → slot shI 105 18 x (isRef (19 + 8 * x)) = true := by decide +kernel
  exact aR_kx (this x hx) (by omega)
theorem c_bookAt {x : Nat} (hx : x < 15) : f_X2_bookAt 17 (Int32.ofNat x) ((mX Ξ) μ) = some (some (19 + 8 * x), (mX Ξ) μ) := by
  simp (disch := omega) only [f_X2_bookAt, f_X2_bookAt_J20, f_X2_bookAt_J19, vc_17, gR_17_0, gI_17_1, pI_17_1, gI_17_2, pI_17_2, aR_18, lt, true_or, or_true, false_or, or_false, Option.bind_some, if_true, if_false, bI_0, bI_1, bI_z, eI_n1, eI_l0, eI_g12, oN_n1, oN_l0, oN_g0, n1_l0, n1_g12, n1_0, n1_n1, z_0, z_1, z_2, z_3, z_4, z_5, z_6, z_7, z_8, z_9, z_a, z_b, z_c, z_d, z_e, z_f, oN_inj, oN_lt, oN_gt, oN_ge, oN_le, i_succ, if_pos, if_neg, c_has, c_bit, Bool.true_eq_false, Bool.false_eq_true, decide_true, decide_false, decide_eq_true_eq, decide_eq_false_iff_not, eI_lt, lle_0, lge_0, llt_0, lgt_0, leq_0, lle_1, lge_1, llt_1, lgt_1, leq_1, lle_2, lge_2, llt_2, lgt_2, leq_2, lle_3, lge_3, llt_3, lgt_3, leq_3, lle_4, lge_4, llt_4, lgt_4, leq_4, lle_5, lge_5, llt_5, lgt_5, leq_5, lle_6, lge_6, llt_6, lgt_6, leq_6, lle_7, lge_7, llt_7, lgt_7, leq_7, lle_11, lge_11, llt_11, lgt_11, leq_11, lle_12, lge_12, llt_12, lgt_12, leq_12, lle_15, lge_15, llt_15, lgt_15, leq_15, lle_20, lge_20, llt_20, lgt_20, leq_20, lle_24, lge_24, llt_24, lgt_24, leq_24, lle_25, lge_25, llt_25, lgt_25, leq_25, lle_31, lge_31, llt_31, lgt_31, leq_31, lle_48, lge_48, llt_48, lgt_48, leq_48, lle_57, lge_57, llt_57, lgt_57, leq_57, lle_32, lge_32, llt_32, lgt_32, leq_32, lle_59, lge_59, llt_59, lgt_59, leq_59, lle_97, lge_97, llt_97, lgt_97, leq_97, lle_122, lge_122, llt_122, lgt_122, leq_122, lle_99, lge_99, llt_99, lgt_99, leq_99, lle_100, lge_100, llt_100, lgt_100, leq_100, lle_144, lge_144, llt_144, lgt_144, leq_144, lle_255, lge_255, llt_255, lgt_255, leq_255, lle_300, lge_300, llt_300, lgt_300, leq_300, lle_1000, lge_1000, llt_1000, lgt_1000, leq_1000, lle_1000000, lge_1000000, llt_1000000, lgt_1000000, leq_1000000, lle_4096, lge_4096, llt_4096, lgt_4096, leq_4096, b_ft]
theorem c_save (h : HC μ H) (hb' : BC μ 1 B) : ∃ ν, f_X2_save 17 1 ((mX Ξ) μ) = some ((mX Ξ) ν) ∧ HC ν (hpush H B) ∧ Fr FH μ ν := by
  obtain ⟨x, h1, h2, h3, h4, h5⟩ := h
  have hk := bkH x h1
  obtain ⟨ν, e, p1, p2⟩ := c_bcopy (Ξ := Ξ) hk bk1 (Or.inr (by omega)) hb'
  have g1 : ν.1 17 1 = Int32.ofNat x := by rw [(p2 _ _ (by unfold FB; omega)).1]; exact h2
  let x' := if x + 1 < 15 then x + 1 else 0
  let c' := if H.length < 15 then H.length + 1 else 15
  let ξ := st (st ν 17 1 (Int32.ofNat x')) 17 2 (Int32.ofNat c')
  have fξ : Fr FH μ ξ := ((p2.mono fun q i z => by unfold FB at z; unfold FH; omega).st (by unfold FH; omega)).st (by unfold FH; omega)
  have f2 : Fr (fun q _ => q = 17) ν ξ := ((Fr.refl (fun q _ => q = 17) ν).st rfl).st rfl
  have hl := hpush_len H B h4
  refine ⟨ξ, ?_, ⟨x', ?_, ?_, ?_, ?_, fun j C ej => ?_⟩, fξ⟩
  · have g2 : ∀ v, (st ν 17 1 v).1 17 2 = Int32.ofNat H.length := fun v => by rw [st_ne (Or.inr (by omega)), (p2 _ _ (by unfold FB; omega)).1]; exact h3
    have e' : f_X0_copy (19 + 8 * x) 1 ((mX Ξ) μ) = some ((mX Ξ) ν) := e
    by_cases c : x + 1 < 15
    · have ex : x' = x + 1 := if_pos c
      by_cases d : H.length < 15
      · have ed : c' = H.length + 1 := if_pos d
        show _ = some ((mX Ξ) (st (st ν 17 1 (Int32.ofNat x')) 17 2 (Int32.ofNat c')))
        rw [ex, ed]
        simp (disch := omega) only [f_X2_save, f_X2_save_J67, f_X2_save_J64, f_X2_save_J40, vc_17, gR_17_0, gI_17_1, pI_17_1, gI_17_2, pI_17_2, h2, c_bookAt, nl, bk_v hk, e', g1, g2, lt, true_or, or_true, false_or, or_false, Option.bind_some, if_true, if_false, bI_0, bI_1, bI_z, eI_n1, eI_l0, eI_g12, oN_n1, oN_l0, oN_g0, n1_l0, n1_g12, n1_0, n1_n1, z_0, z_1, z_2, z_3, z_4, z_5, z_6, z_7, z_8, z_9, z_a, z_b, z_c, z_d, z_e, z_f, oN_inj, oN_lt, oN_gt, oN_ge, oN_le, i_succ, if_pos, if_neg, c_has, c_bit, Bool.true_eq_false, Bool.false_eq_true, decide_true, decide_false, decide_eq_true_eq, decide_eq_false_iff_not, eI_lt, lle_0, lge_0, llt_0, lgt_0, leq_0, lle_1, lge_1, llt_1, lgt_1, leq_1, lle_2, lge_2, llt_2, lgt_2, leq_2, lle_3, lge_3, llt_3, lgt_3, leq_3, lle_4, lge_4, llt_4, lgt_4, leq_4, lle_5, lge_5, llt_5, lgt_5, leq_5, lle_6, lge_6, llt_6, lgt_6, leq_6, lle_7, lge_7, llt_7, lgt_7, leq_7, lle_11, lge_11, llt_11, lgt_11, leq_11, lle_12, lge_12, llt_12, lgt_12, leq_12, lle_15, lge_15, llt_15, lgt_15, leq_15, lle_20, lge_20, llt_20, lgt_20, leq_20, lle_24, lge_24, llt_24, lgt_24, leq_24, lle_25, lge_25, llt_25, lgt_25, leq_25, lle_31, lge_31, llt_31, lgt_31, leq_31, lle_48, lge_48, llt_48, lgt_48, leq_48, lle_57, lge_57, llt_57, lgt_57, leq_57, lle_32, lge_32, llt_32, lgt_32, leq_32, lle_59, lge_59, llt_59, lgt_59, leq_59, lle_97, lge_97, llt_97, lgt_97, leq_97, lle_122, lge_122, llt_122, lgt_122, leq_122, lle_99, lge_99, llt_99, lgt_99, leq_99, lle_100, lge_100, llt_100, lgt_100, leq_100, lle_144, lge_144, llt_144, lgt_144, leq_144, lle_255, lge_255, llt_255, lgt_255, leq_255, lle_300, lge_300, llt_300, lgt_300, leq_300, lle_1000, lge_1000, llt_1000, lgt_1000, leq_1000, lle_1000000, lge_1000000, llt_1000000, lgt_1000000, leq_1000000, lle_4096, lge_4096, llt_4096, lgt_4096, leq_4096, b_ft]
      · have ed : c' = 15 := if_neg d
        show _ = some ((mX Ξ) (st (st ν 17 1 (Int32.ofNat x')) 17 2 (Int32.ofNat c')))
        rw [ex, ed]
        simp (disch := omega) only [f_X2_save, f_X2_save_J67, f_X2_save_J64, f_X2_save_J40, vc_17, gR_17_0, gI_17_1, pI_17_1, gI_17_2, pI_17_2, h2, c_bookAt, nl, bk_v hk, e', g1, g2, lt, true_or, or_true, false_or, or_false, Option.bind_some, if_true, if_false, bI_0, bI_1, bI_z, eI_n1, eI_l0, eI_g12, oN_n1, oN_l0, oN_g0, n1_l0, n1_g12, n1_0, n1_n1, z_0, z_1, z_2, z_3, z_4, z_5, z_6, z_7, z_8, z_9, z_a, z_b, z_c, z_d, z_e, z_f, oN_inj, oN_lt, oN_gt, oN_ge, oN_le, i_succ, if_pos, if_neg, c_has, c_bit, Bool.true_eq_false, Bool.false_eq_true, decide_true, decide_false, decide_eq_true_eq, decide_eq_false_iff_not, eI_lt, lle_0, lge_0, llt_0, lgt_0, leq_0, lle_1, lge_1, llt_1, lgt_1, leq_1, lle_2, lge_2, llt_2, lgt_2, leq_2, lle_3, lge_3, llt_3, lgt_3, leq_3, lle_4, lge_4, llt_4, lgt_4, leq_4, lle_5, lge_5, llt_5, lgt_5, leq_5, lle_6, lge_6, llt_6, lgt_6, leq_6, lle_7, lge_7, llt_7, lgt_7, leq_7, lle_11, lge_11, llt_11, lgt_11, leq_11, lle_12, lge_12, llt_12, lgt_12, leq_12, lle_15, lge_15, llt_15, lgt_15, leq_15, lle_20, lge_20, llt_20, lgt_20, leq_20, lle_24, lge_24, llt_24, lgt_24, leq_24, lle_25, lge_25, llt_25, lgt_25, leq_25, lle_31, lge_31, llt_31, lgt_31, leq_31, lle_48, lge_48, llt_48, lgt_48, leq_48, lle_57, lge_57, llt_57, lgt_57, leq_57, lle_32, lge_32, llt_32, lgt_32, leq_32, lle_59, lge_59, llt_59, lgt_59, leq_59, lle_97, lge_97, llt_97, lgt_97, leq_97, lle_122, lge_122, llt_122, lgt_122, leq_122, lle_99, lge_99, llt_99, lgt_99, leq_99, lle_100, lge_100, llt_100, lgt_100, leq_100, lle_144, lge_144, llt_144, lgt_144, leq_144, lle_255, lge_255, llt_255, lgt_255, leq_255, lle_300, lge_300, llt_300, lgt_300, leq_300, lle_1000, lge_1000, llt_1000, lgt_1000, leq_1000, lle_1000000, lge_1000000, llt_1000000, lgt_1000000, leq_1000000, lle_4096, lge_4096, llt_4096, lgt_4096, leq_4096, b_ft]
        rfl
    · have ex : x' = 0 := if_neg c
      by_cases d : H.length < 15
      · have ed : c' = H.length + 1 := if_pos d
        show _ = some ((mX Ξ) (st (st ν 17 1 (Int32.ofNat x')) 17 2 (Int32.ofNat c')))
        rw [ex, ed]
        simp (disch := omega) only [f_X2_save, f_X2_save_J67, f_X2_save_J64, f_X2_save_J40, vc_17, gR_17_0, gI_17_1, pI_17_1, gI_17_2, pI_17_2, h2, c_bookAt, nl, bk_v hk, e', g1, g2, lt, true_or, or_true, false_or, or_false, Option.bind_some, if_true, if_false, bI_0, bI_1, bI_z, eI_n1, eI_l0, eI_g12, oN_n1, oN_l0, oN_g0, n1_l0, n1_g12, n1_0, n1_n1, z_0, z_1, z_2, z_3, z_4, z_5, z_6, z_7, z_8, z_9, z_a, z_b, z_c, z_d, z_e, z_f, oN_inj, oN_lt, oN_gt, oN_ge, oN_le, i_succ, if_pos, if_neg, c_has, c_bit, Bool.true_eq_false, Bool.false_eq_true, decide_true, decide_false, decide_eq_true_eq, decide_eq_false_iff_not, eI_lt, lle_0, lge_0, llt_0, lgt_0, leq_0, lle_1, lge_1, llt_1, lgt_1, leq_1, lle_2, lge_2, llt_2, lgt_2, leq_2, lle_3, lge_3, llt_3, lgt_3, leq_3, lle_4, lge_4, llt_4, lgt_4, leq_4, lle_5, lge_5, llt_5, lgt_5, leq_5, lle_6, lge_6, llt_6, lgt_6, leq_6, lle_7, lge_7, llt_7, lgt_7, leq_7, lle_11, lge_11, llt_11, lgt_11, leq_11, lle_12, lge_12, llt_12, lgt_12, leq_12, lle_15, lge_15, llt_15, lgt_15, leq_15, lle_20, lge_20, llt_20, lgt_20, leq_20, lle_24, lge_24, llt_24, lgt_24, leq_24, lle_25, lge_25, llt_25, lgt_25, leq_25, lle_31, lge_31, llt_31, lgt_31, leq_31, lle_48, lge_48, llt_48, lgt_48, leq_48, lle_57, lge_57, llt_57, lgt_57, leq_57, lle_32, lge_32, llt_32, lgt_32, leq_32, lle_59, lge_59, llt_59, lgt_59, leq_59, lle_97, lge_97, llt_97, lgt_97, leq_97, lle_122, lge_122, llt_122, lgt_122, leq_122, lle_99, lge_99, llt_99, lgt_99, leq_99, lle_100, lge_100, llt_100, lgt_100, leq_100, lle_144, lge_144, llt_144, lgt_144, leq_144, lle_255, lge_255, llt_255, lgt_255, leq_255, lle_300, lge_300, llt_300, lgt_300, leq_300, lle_1000, lge_1000, llt_1000, lgt_1000, leq_1000, lle_1000000, lge_1000000, llt_1000000, lgt_1000000, leq_1000000, lle_4096, lge_4096, llt_4096, lgt_4096, leq_4096, b_ft]
        rfl
      · have ed : c' = 15 := if_neg d
        show _ = some ((mX Ξ) (st (st ν 17 1 (Int32.ofNat x')) 17 2 (Int32.ofNat c')))
        rw [ex, ed]
        simp (disch := omega) only [f_X2_save, f_X2_save_J67, f_X2_save_J64, f_X2_save_J40, vc_17, gR_17_0, gI_17_1, pI_17_1, gI_17_2, pI_17_2, h2, c_bookAt, nl, bk_v hk, e', g1, g2, lt, true_or, or_true, false_or, or_false, Option.bind_some, if_true, if_false, bI_0, bI_1, bI_z, eI_n1, eI_l0, eI_g12, oN_n1, oN_l0, oN_g0, n1_l0, n1_g12, n1_0, n1_n1, z_0, z_1, z_2, z_3, z_4, z_5, z_6, z_7, z_8, z_9, z_a, z_b, z_c, z_d, z_e, z_f, oN_inj, oN_lt, oN_gt, oN_ge, oN_le, i_succ, if_pos, if_neg, c_has, c_bit, Bool.true_eq_false, Bool.false_eq_true, decide_true, decide_false, decide_eq_true_eq, decide_eq_false_iff_not, eI_lt, lle_0, lge_0, llt_0, lgt_0, leq_0, lle_1, lge_1, llt_1, lgt_1, leq_1, lle_2, lge_2, llt_2, lgt_2, leq_2, lle_3, lge_3, llt_3, lgt_3, leq_3, lle_4, lge_4, llt_4, lgt_4, leq_4, lle_5, lge_5, llt_5, lgt_5, leq_5, lle_6, lge_6, llt_6, lgt_6, leq_6, lle_7, lge_7, llt_7, lgt_7, leq_7, lle_11, lge_11, llt_11, lgt_11, leq_11, lle_12, lge_12, llt_12, lgt_12, leq_12, lle_15, lge_15, llt_15, lgt_15, leq_15, lle_20, lge_20, llt_20, lgt_20, leq_20, lle_24, lge_24, llt_24, lgt_24, leq_24, lle_25, lge_25, llt_25, lgt_25, leq_25, lle_31, lge_31, llt_31, lgt_31, leq_31, lle_48, lge_48, llt_48, lgt_48, leq_48, lle_57, lge_57, llt_57, lgt_57, leq_57, lle_32, lge_32, llt_32, lgt_32, leq_32, lle_59, lge_59, llt_59, lgt_59, leq_59, lle_97, lge_97, llt_97, lgt_97, leq_97, lle_122, lge_122, llt_122, lgt_122, leq_122, lle_99, lge_99, llt_99, lgt_99, leq_99, lle_100, lge_100, llt_100, lgt_100, leq_100, lle_144, lge_144, llt_144, lgt_144, leq_144, lle_255, lge_255, llt_255, lgt_255, leq_255, lle_300, lge_300, llt_300, lgt_300, leq_300, lle_1000, lge_1000, llt_1000, lgt_1000, leq_1000, lle_1000000, lge_1000000, llt_1000000, lgt_1000000, leq_1000000, lle_4096, lge_4096, llt_4096, lgt_4096, leq_4096, b_ft]
        rfl
  · show (if x + 1 < 15 then x + 1 else 0) < 15
    split <;> omega
  · rw [st_ne (Or.inr (by omega)), st_same]
  · rw [st_same, hl]
  · rw [hl]; split <;> omega
  · have hj := (List.getElem?_eq_some_iff.mp ej).1
    rw [hl] at hj ⊢
    have ex : x' = if x + 1 < 15 then x + 1 else 0 := rfl
    rcases hpush_at H B h4 j C ej with ⟨a1, rfl⟩ | ⟨a1, a2⟩
    · rw [hl] at a1
      have : (x' + 15 - (if H.length < 15 then H.length + 1 else 15) + j) % 15 = x := by
        rw [ex]
        split at a1 <;> split <;> omega
      rw [this]
      exact p1.fr f2 fun q i a c z => by omega
    · rw [hl] at a1
      have lj := (List.getElem?_eq_some_iff.mp a2).1
      have := h5 _ _ a2
      have e1 : (x' + 15 - (if H.length < 15 then H.length + 1 else 15) + j) % 15 = (x + 15 - H.length + (if H.length < 15 then j else j + 1)) % 15 := by
        rw [ex]
        split at a1 <;> split <;> omega
      have e2 : (x + 15 - H.length + (if H.length < 15 then j else j + 1)) % 15 ≠ x := by
        split at lj <;> split <;> omega
      rw [e1]
      generalize hz : (x + 15 - H.length + (if H.length < 15 then j else j + 1)) % 15 = z at this e2 ⊢
      have hz15 : z < 15 := by omega
      exact (this.fr p2 fun q i a c y => by unfold FB at y; omega).fr f2 fun q i a c y => by omega
theorem c_takeBack_0 (h : HC μ []) : ∃ r ν, f_X2_takeBack 17 1 ((mX Ξ) μ) = some (r, (mX Ξ) ν) ∧ r = 0 ∧ ν = μ := by
  obtain ⟨x, h1, h2, h3, h4, h5⟩ := h
  have h3 : μ.1 17 2 = Int32.ofNat 0 := h3
  refine ⟨0, μ, ?_, rfl, rfl⟩
  by_cases c : x = 0
  · subst c
    have e : f_X2_bookAt 17 14 ((mX Ξ) μ) = some (some (19 + 8 * 14), (mX Ξ) μ) := c_bookAt (Ξ := Ξ) (x := 14) (by omega)
    simp (disch := omega) only [f_X2_takeBack, f_X2_takeBack_J36, f_X2_takeBack_J18, vc_17, gR_17_0, gI_17_1, pI_17_1, gI_17_2, pI_17_2, h2, h3, e, lt, true_or, or_true, false_or, or_false, Option.bind_some, if_true, if_false, bI_0, bI_1, bI_z, eI_n1, eI_l0, eI_g12, oN_n1, oN_l0, oN_g0, n1_l0, n1_g12, n1_0, n1_n1, z_0, z_1, z_2, z_3, z_4, z_5, z_6, z_7, z_8, z_9, z_a, z_b, z_c, z_d, z_e, z_f, oN_inj, oN_lt, oN_gt, oN_ge, oN_le, i_succ, if_pos, if_neg, c_has, c_bit, Bool.true_eq_false, Bool.false_eq_true, decide_true, decide_false, decide_eq_true_eq, decide_eq_false_iff_not, eI_lt, lle_0, lge_0, llt_0, lgt_0, leq_0, lle_1, lge_1, llt_1, lgt_1, leq_1, lle_2, lge_2, llt_2, lgt_2, leq_2, lle_3, lge_3, llt_3, lgt_3, leq_3, lle_4, lge_4, llt_4, lgt_4, leq_4, lle_5, lge_5, llt_5, lgt_5, leq_5, lle_6, lge_6, llt_6, lgt_6, leq_6, lle_7, lge_7, llt_7, lgt_7, leq_7, lle_11, lge_11, llt_11, lgt_11, leq_11, lle_12, lge_12, llt_12, lgt_12, leq_12, lle_15, lge_15, llt_15, lgt_15, leq_15, lle_20, lge_20, llt_20, lgt_20, leq_20, lle_24, lge_24, llt_24, lgt_24, leq_24, lle_25, lge_25, llt_25, lgt_25, leq_25, lle_31, lge_31, llt_31, lgt_31, leq_31, lle_48, lge_48, llt_48, lgt_48, leq_48, lle_57, lge_57, llt_57, lgt_57, leq_57, lle_32, lge_32, llt_32, lgt_32, leq_32, lle_59, lge_59, llt_59, lgt_59, leq_59, lle_97, lge_97, llt_97, lgt_97, leq_97, lle_122, lge_122, llt_122, lgt_122, leq_122, lle_99, lge_99, llt_99, lgt_99, leq_99, lle_100, lge_100, llt_100, lgt_100, leq_100, lle_144, lge_144, llt_144, lgt_144, leq_144, lle_255, lge_255, llt_255, lgt_255, leq_255, lle_300, lge_300, llt_300, lgt_300, leq_300, lle_1000, lge_1000, llt_1000, lgt_1000, leq_1000, lle_1000000, lge_1000000, llt_1000000, lgt_1000000, leq_1000000, lle_4096, lge_4096, llt_4096, lgt_4096, leq_4096, b_ft]
  · have e1 : Int32.ofNat x - (1 : Int32) = Int32.ofNat (x - 1) := by rw [show (1 : Int32) = Int32.ofNat 1 from rfl, oN_sub (by omega)]
    simp (disch := omega) only [f_X2_takeBack, f_X2_takeBack_J36, f_X2_takeBack_J18, vc_17, gR_17_0, gI_17_1, pI_17_1, gI_17_2, pI_17_2, h2, h3, e1, c_bookAt, lt, true_or, or_true, false_or, or_false, Option.bind_some, if_true, if_false, bI_0, bI_1, bI_z, eI_n1, eI_l0, eI_g12, oN_n1, oN_l0, oN_g0, n1_l0, n1_g12, n1_0, n1_n1, z_0, z_1, z_2, z_3, z_4, z_5, z_6, z_7, z_8, z_9, z_a, z_b, z_c, z_d, z_e, z_f, oN_inj, oN_lt, oN_gt, oN_ge, oN_le, i_succ, if_pos, if_neg, c_has, c_bit, Bool.true_eq_false, Bool.false_eq_true, decide_true, decide_false, decide_eq_true_eq, decide_eq_false_iff_not, eI_lt, lle_0, lge_0, llt_0, lgt_0, leq_0, lle_1, lge_1, llt_1, lgt_1, leq_1, lle_2, lge_2, llt_2, lgt_2, leq_2, lle_3, lge_3, llt_3, lgt_3, leq_3, lle_4, lge_4, llt_4, lgt_4, leq_4, lle_5, lge_5, llt_5, lgt_5, leq_5, lle_6, lge_6, llt_6, lgt_6, leq_6, lle_7, lge_7, llt_7, lgt_7, leq_7, lle_11, lge_11, llt_11, lgt_11, leq_11, lle_12, lge_12, llt_12, lgt_12, leq_12, lle_15, lge_15, llt_15, lgt_15, leq_15, lle_20, lge_20, llt_20, lgt_20, leq_20, lle_24, lge_24, llt_24, lgt_24, leq_24, lle_25, lge_25, llt_25, lgt_25, leq_25, lle_31, lge_31, llt_31, lgt_31, leq_31, lle_48, lge_48, llt_48, lgt_48, leq_48, lle_57, lge_57, llt_57, lgt_57, leq_57, lle_32, lge_32, llt_32, lgt_32, leq_32, lle_59, lge_59, llt_59, lgt_59, leq_59, lle_97, lge_97, llt_97, lgt_97, leq_97, lle_122, lge_122, llt_122, lgt_122, leq_122, lle_99, lge_99, llt_99, lgt_99, leq_99, lle_100, lge_100, llt_100, lgt_100, leq_100, lle_144, lge_144, llt_144, lgt_144, leq_144, lle_255, lge_255, llt_255, lgt_255, leq_255, lle_300, lge_300, llt_300, lgt_300, leq_300, lle_1000, lge_1000, llt_1000, lgt_1000, leq_1000, lle_1000000, lge_1000000, llt_1000000, lgt_1000000, leq_1000000, lle_4096, lge_4096, llt_4096, lgt_4096, leq_4096, b_ft]
theorem c_takeBack (h : HC μ (H ++ [B])) : ∃ ν, f_X2_takeBack 17 1 ((mX Ξ) μ) = some (1, (mX Ξ) ν) ∧ BC ν 1 B ∧ HC ν H ∧ Fr (fun q i => FH q i ∨ FB 1 q i) μ ν := by
  obtain ⟨x, h1, h2, h3, h4, h5⟩ := h
  rw [List.length_append] at h3 h4 h5
  have h3 : μ.1 17 2 = Int32.ofNat (H.length + 1) := h3
  have h4 : H.length + 1 ≤ 15 := h4
  let y := if x = 0 then 14 else x - 1
  have hy : y < 15 := by show (if x = 0 then 14 else x - 1) < 15; split <;> omega
  have hB := h5 H.length B (by simp)
  have ey : (x + 15 - (H.length + [B].length) + H.length) % 15 = y := by
    show (x + 15 - (H.length + 1) + H.length) % 15 = if x = 0 then 14 else x - 1
    split <;> omega
  rw [ey] at hB
  have hk := bkH y hy
  obtain ⟨ν, e, p1, p2⟩ := c_bcopy (Ξ := Ξ) bk1 hk (Or.inl (by omega)) hB
  let ξ := st (st ν 17 1 (Int32.ofNat y)) 17 2 (Int32.ofNat H.length)
  have f2 : Fr (fun q _ => q = 17) ν ξ := ((Fr.refl (fun q _ => q = 17) ν).st rfl).st rfl
  refine ⟨ξ, ?_, p1.fr f2 (fun q i a c z => by omega), ⟨y, hy, ?_, ?_, by omega, fun j C ej => ?_⟩, ?_⟩
  · have g2 : ∀ v, (st ν 17 1 v).1 17 2 = Int32.ofNat (H.length + 1) := fun v => by rw [st_ne (Or.inr (by omega)), (p2 _ _ (by unfold FB; omega)).1]; exact h3
    have e3 : Int32.ofNat (H.length + 1) - (1 : Int32) = Int32.ofNat H.length := by rw [show (1 : Int32) = Int32.ofNat 1 from rfl, oN_sub (by omega), Nat.add_sub_cancel]
    show _ = some (1, (mX Ξ) (st (st ν 17 1 (Int32.ofNat y)) 17 2 (Int32.ofNat H.length)))
    by_cases c : x = 0
    · have ey : y = 14 := if_pos c
      subst c
      rw [ey] at e hk ⊢
      have eb : f_X2_bookAt 17 14 ((mX Ξ) μ) = some (some (19 + 8 * 14), (mX Ξ) μ) := c_bookAt (Ξ := Ξ) (x := 14) (by omega)
      have e' : f_X0_copy 1 (19 + 8 * 14) ((mX Ξ) μ) = some ((mX Ξ) ν) := e
      simp only [f_X2_takeBack, vc_17, gR_17_0, gI_17_1, pI_17_1, gI_17_2, pI_17_2, h2, Option.bind_some, show (Int32.ofNat 0 ≤ 0) = True from eq_true (by decide), if_true, f_X2_takeBack_J18, eb, h3, leq_0 (show H.length + 1 < 2147483648 by omega), if_neg (show ¬ H.length + 1 = 0 by omega), nl, bk_v bk1, e', g2, e3]
      rfl
    · have ey : y = x - 1 := if_neg c
      rw [ey] at e hk ⊢
      have e1 : Int32.ofNat x - (1 : Int32) = Int32.ofNat (x - 1) := by rw [show (1 : Int32) = Int32.ofNat 1 from rfl, oN_sub (by omega)]
      have e' : f_X0_copy 1 (19 + 8 * (x - 1)) ((mX Ξ) μ) = some ((mX Ξ) ν) := e
      simp (disch := omega) only [f_X2_takeBack, f_X2_takeBack_J36, f_X2_takeBack_J18, vc_17, gR_17_0, gI_17_1, pI_17_1, gI_17_2, pI_17_2, h2, h3, e1, c_bookAt, nl, bk_v bk1, e', g2, e3, lt, true_or, or_true, false_or, or_false, Option.bind_some, if_true, if_false, bI_0, bI_1, bI_z, eI_n1, eI_l0, eI_g12, oN_n1, oN_l0, oN_g0, n1_l0, n1_g12, n1_0, n1_n1, z_0, z_1, z_2, z_3, z_4, z_5, z_6, z_7, z_8, z_9, z_a, z_b, z_c, z_d, z_e, z_f, oN_inj, oN_lt, oN_gt, oN_ge, oN_le, i_succ, if_pos, if_neg, c_has, c_bit, Bool.true_eq_false, Bool.false_eq_true, decide_true, decide_false, decide_eq_true_eq, decide_eq_false_iff_not, eI_lt, lle_0, lge_0, llt_0, lgt_0, leq_0, lle_1, lge_1, llt_1, lgt_1, leq_1, lle_2, lge_2, llt_2, lgt_2, leq_2, lle_3, lge_3, llt_3, lgt_3, leq_3, lle_4, lge_4, llt_4, lgt_4, leq_4, lle_5, lge_5, llt_5, lgt_5, leq_5, lle_6, lge_6, llt_6, lgt_6, leq_6, lle_7, lge_7, llt_7, lgt_7, leq_7, lle_11, lge_11, llt_11, lgt_11, leq_11, lle_12, lge_12, llt_12, lgt_12, leq_12, lle_15, lge_15, llt_15, lgt_15, leq_15, lle_20, lge_20, llt_20, lgt_20, leq_20, lle_24, lge_24, llt_24, lgt_24, leq_24, lle_25, lge_25, llt_25, lgt_25, leq_25, lle_31, lge_31, llt_31, lgt_31, leq_31, lle_48, lge_48, llt_48, lgt_48, leq_48, lle_57, lge_57, llt_57, lgt_57, leq_57, lle_32, lge_32, llt_32, lgt_32, leq_32, lle_59, lge_59, llt_59, lgt_59, leq_59, lle_97, lge_97, llt_97, lgt_97, leq_97, lle_122, lge_122, llt_122, lgt_122, leq_122, lle_99, lge_99, llt_99, lgt_99, leq_99, lle_100, lge_100, llt_100, lgt_100, leq_100, lle_144, lge_144, llt_144, lgt_144, leq_144, lle_255, lge_255, llt_255, lgt_255, leq_255, lle_300, lge_300, llt_300, lgt_300, leq_300, lle_1000, lge_1000, llt_1000, lgt_1000, leq_1000, lle_1000000, lge_1000000, llt_1000000, lgt_1000000, leq_1000000, lle_4096, lge_4096, llt_4096, lgt_4096, leq_4096, b_ft]
  · rw [st_ne (Or.inr (by omega)), st_same]
  · rw [st_same]
  · have lj := (List.getElem?_eq_some_iff.mp ej).1
    have := h5 j C (by rw [List.getElem?_append_left lj]; exact ej)
    have e1 : (x + 15 - (H.length + [B].length) + j) % 15 = (y + 15 - H.length + j) % 15 := by
      show (x + 15 - (H.length + 1) + j) % 15 = ((if x = 0 then 14 else x - 1) + 15 - H.length + j) % 15
      split <;> omega
    rw [e1] at this
    exact (this.fr p2 fun q i a c y => by unfold FB at y; omega).fr f2 fun q i a c y => by omega
  · exact ((p2.mono fun q i z => Or.inr z).st (Or.inl (by unfold FH; omega))).st (Or.inl (by unfold FH; omega))
end Hc
section Hm
variable {μ : MM} {H : List Bk} {B : Bk}
end Hm
