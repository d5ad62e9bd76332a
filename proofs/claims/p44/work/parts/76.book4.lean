/-! BOOKS of the class: who is there, weights; ROWS of the model -/
variable {Ξ : xH}
section Bd
variable {b : Nat} {μ : MM} {B : Bk}
theorem BC.upd {ν : MM} {B' : Bk} (h : BC μ b B) (hp : PR ν (b + 5) (bM B')) (e0 : ν.1 b 0 = Int32.ofNat (bn B')) (e1 : ν.1 b 1 = Int32.ofNat (bm B')) (e2 : ν.1 b 2 = bw B') (e3 : ν.1 b 3 = bt B') (e4 : ν.1 b 4 = Int32.ofNat (bk B'))
    (n : ∀ q i, b < q → q < b + 5 → ν.1 q i = μ.1 q i) (q1 : be B' = be B) (q2 : bf B' = bf B) (q3 : bc B' = bc B) : BC ν b B' := by
  obtain ⟨-, h5, h6, h7, h8, h9⟩ := h
  refine ⟨⟨e0, e1, e2, e3, e4⟩, fun w hw => ?_, fun w hw => ?_, fun t ht => ?_, fun w t hw ht => ?_, hp⟩
  · rw [n _ _ (by omega) (by omega), q1]; exact h5 w hw
  · rw [n _ _ (by omega) (by omega), q2]; exact h6 w hw
  · rw [n _ _ (by omega) (by omega), q2]; exact h7 t ht
  · rw [n _ _ (by omega) (by omega), q2, q3]; exact h8 w t hw ht
theorem c_setThere0 (hk : bkOK shI b = true) (h : BC μ b B) {w : Nat} {th : Bool} (hw : w < 12) : ∃ ν, f_X0_setThere b 0 (Int32.ofNat w) (bI th) ((mX Ξ) μ) = some ((mX Ξ) ν) ∧ BC ν b (wW B w th) ∧ Fr (FB b) μ ν := by
  have hp := bk_pr hk
  have h' := h
  obtain ⟨⟨h0, h1, h2, h3, h4⟩, -, -, -, -, h9⟩ := h'
  let v := bw (wW B w th)
  have f1 : Fr (fun q i => q = b ∧ i = 2) μ (st μ b 2 v) := (Fr.refl _ _).st ⟨rfl, rfl⟩
  obtain ⟨ξ, e, p1, p2⟩ := c_loosenWorker (Ξ := Ξ) hp (h9.fr f1 (fun i => by omega) (fun i => by omega)) (k := w) (by omega)
  have g : ∀ q i, q ≠ b + 6 → q ≠ b + 7 → ξ.1 q i = (st μ b 2 v).1 q i := fun q i x y => (p2 q i (by unfold FP; omega)).1
  rw [eI_lt hw] at e
  refine ⟨ξ, ?_, h.upd (B' := wW B w th) p1 ?_ ?_ ?_ ?_ ?_ (fun q i a c => by rw [g _ _ (by omega) (by omega), st_ne (Or.inl (by omega))]) rfl rfl rfl, (f1.mono fun q i z => by unfold FB; omega).trans (p2.mono fun q i z => by unfold FP at z; unfold FB; omega)⟩
  · cases th with
    | true =>
      have e : f_X3_loosenWorker (b + 5) (Int32.ofNat w) ((mX Ξ) (st μ b 2 (bw B ||| ((1 : Int32) <<< (Int32.ofNat w &&& 31))))) = some ((mX Ξ) ξ) := e
      simp (disch := omega) only [f_X0_setThere, f_X0_setThere_J85, f_X0_setThere_J74, f_X0_setThere_J32, bk_v hk, bk_i0 hk, bk_i1 hk, bk_i2 hk, bk_i3 hk, bk_i4 hk, bk_p0 hk, bk_p1 hk, bk_p2 hk, bk_p3 hk, bk_p4 hk, bk_r5 hk, bk_r6 hk, bk_r7 hk, bk_r8 hk, bk_r9 hk, bk_a1 hk, bk_a2 hk, bk_a3 hk, bk_a4 hk, bk_s1 hk, bk_s2 hk, bk_s3 hk, bk_s4 hk, pr_v hp, pr_1 hp, pr_2 hp, pr_a1 hp, pr_a2 hp, pr_s1 hp, pr_s2 hp, h2, show bI true = 1 from rfl, e, lt, true_or, or_true, false_or, or_false, Option.bind_some, if_true, if_false, bI_0, bI_1, bI_z, eI_n1, eI_l0, eI_g12, oN_n1, oN_l0, oN_g0, n1_l0, n1_g12, n1_0, n1_n1, z_0, z_1, z_2, z_3, z_4, z_5, z_6, z_7, z_8, z_9, z_a, z_b, z_c, z_d, z_e, z_f, oN_inj, oN_lt, oN_gt, oN_ge, oN_le, i_succ, if_pos, if_neg, c_has, c_bit, Bool.true_eq_false, Bool.false_eq_true, decide_true, decide_false, decide_eq_true_eq, decide_eq_false_iff_not, eI_lt, lle_0, lge_0, llt_0, lgt_0, leq_0, lle_1, lge_1, llt_1, lgt_1, leq_1, lle_2, lge_2, llt_2, lgt_2, leq_2, lle_3, lge_3, llt_3, lgt_3, leq_3, lle_4, lge_4, llt_4, lgt_4, leq_4, lle_5, lge_5, llt_5, lgt_5, leq_5, lle_6, lge_6, llt_6, lgt_6, leq_6, lle_7, lge_7, llt_7, lgt_7, leq_7, lle_11, lge_11, llt_11, lgt_11, leq_11, lle_12, lge_12, llt_12, lgt_12, leq_12, lle_15, lge_15, llt_15, lgt_15, leq_15, lle_20, lge_20, llt_20, lgt_20, leq_20, lle_24, lge_24, llt_24, lgt_24, leq_24, lle_25, lge_25, llt_25, lgt_25, leq_25, lle_31, lge_31, llt_31, lgt_31, leq_31, lle_48, lge_48, llt_48, lgt_48, leq_48, lle_57, lge_57, llt_57, lgt_57, leq_57, lle_32, lge_32, llt_32, lgt_32, leq_32, lle_59, lge_59, llt_59, lgt_59, leq_59, lle_97, lge_97, llt_97, lgt_97, leq_97, lle_122, lge_122, llt_122, lgt_122, leq_122, lle_99, lge_99, llt_99, lgt_99, leq_99, lle_100, lge_100, llt_100, lgt_100, leq_100, lle_144, lge_144, llt_144, lgt_144, leq_144, lle_255, lge_255, llt_255, lgt_255, leq_255, lle_300, lge_300, llt_300, lgt_300, leq_300, lle_1000, lge_1000, llt_1000, lgt_1000, leq_1000, lle_1000000, lge_1000000, llt_1000000, lgt_1000000, leq_1000000, lle_4096, lge_4096, llt_4096, lgt_4096, leq_4096, b_ft]
    | false =>
      have e : f_X3_loosenWorker (b + 5) (Int32.ofNat w) ((mX Ξ) (st μ b 2 (bw B &&& (((1 : Int32) <<< (Int32.ofNat w &&& 31)) ^^^ (-1))))) = some ((mX Ξ) ξ) := e
      simp (disch := omega) only [f_X0_setThere, f_X0_setThere_J85, f_X0_setThere_J74, f_X0_setThere_J32, bk_v hk, bk_i0 hk, bk_i1 hk, bk_i2 hk, bk_i3 hk, bk_i4 hk, bk_p0 hk, bk_p1 hk, bk_p2 hk, bk_p3 hk, bk_p4 hk, bk_r5 hk, bk_r6 hk, bk_r7 hk, bk_r8 hk, bk_r9 hk, bk_a1 hk, bk_a2 hk, bk_a3 hk, bk_a4 hk, bk_s1 hk, bk_s2 hk, bk_s3 hk, bk_s4 hk, pr_v hp, pr_1 hp, pr_2 hp, pr_a1 hp, pr_a2 hp, pr_s1 hp, pr_s2 hp, h2, show bI false = 0 from rfl, e, lt, true_or, or_true, false_or, or_false, Option.bind_some, if_true, if_false, bI_0, bI_1, bI_z, eI_n1, eI_l0, eI_g12, oN_n1, oN_l0, oN_g0, n1_l0, n1_g12, n1_0, n1_n1, z_0, z_1, z_2, z_3, z_4, z_5, z_6, z_7, z_8, z_9, z_a, z_b, z_c, z_d, z_e, z_f, oN_inj, oN_lt, oN_gt, oN_ge, oN_le, i_succ, if_pos, if_neg, c_has, c_bit, Bool.true_eq_false, Bool.false_eq_true, decide_true, decide_false, decide_eq_true_eq, decide_eq_false_iff_not, eI_lt, lle_0, lge_0, llt_0, lgt_0, leq_0, lle_1, lge_1, llt_1, lgt_1, leq_1, lle_2, lge_2, llt_2, lgt_2, leq_2, lle_3, lge_3, llt_3, lgt_3, leq_3, lle_4, lge_4, llt_4, lgt_4, leq_4, lle_5, lge_5, llt_5, lgt_5, leq_5, lle_6, lge_6, llt_6, lgt_6, leq_6, lle_7, lge_7, llt_7, lgt_7, leq_7, lle_11, lge_11, llt_11, lgt_11, leq_11, lle_12, lge_12, llt_12, lgt_12, leq_12, lle_15, lge_15, llt_15, lgt_15, leq_15, lle_20, lge_20, llt_20, lgt_20, leq_20, lle_24, lge_24, llt_24, lgt_24, leq_24, lle_25, lge_25, llt_25, lgt_25, leq_25, lle_31, lge_31, llt_31, lgt_31, leq_31, lle_48, lge_48, llt_48, lgt_48, leq_48, lle_57, lge_57, llt_57, lgt_57, leq_57, lle_32, lge_32, llt_32, lgt_32, leq_32, lle_59, lge_59, llt_59, lgt_59, leq_59, lle_97, lge_97, llt_97, lgt_97, leq_97, lle_122, lge_122, llt_122, lgt_122, leq_122, lle_99, lge_99, llt_99, lgt_99, leq_99, lle_100, lge_100, llt_100, lgt_100, leq_100, lle_144, lge_144, llt_144, lgt_144, leq_144, lle_255, lge_255, llt_255, lgt_255, leq_255, lle_300, lge_300, llt_300, lgt_300, leq_300, lle_1000, lge_1000, llt_1000, lgt_1000, leq_1000, lle_1000000, lge_1000000, llt_1000000, lgt_1000000, leq_1000000, lle_4096, lge_4096, llt_4096, lgt_4096, leq_4096, b_ft]
  · rw [g _ _ (by omega) (by omega), st_ne (Or.inr (by omega))]; exact h0
  · rw [g _ _ (by omega) (by omega), st_ne (Or.inr (by omega))]; exact h1
  · rw [g _ _ (by omega) (by omega), st_same]
  · rw [g _ _ (by omega) (by omega), st_ne (Or.inr (by omega))]; exact h3
  · rw [g _ _ (by omega) (by omega), st_ne (Or.inr (by omega))]; exact h4
theorem c_setThere1 (hk : bkOK shI b = true) (h : BC μ b B) {t : Nat} {th : Bool} (ht : t < 12) : ∃ ν, f_X0_setThere b 1 (Int32.ofNat t) (bI th) ((mX Ξ) μ) = some ((mX Ξ) ν) ∧ BC ν b (wT B t th) ∧ Fr (FB b) μ ν := by
  have hp := bk_pr hk
  have h' := h
  obtain ⟨⟨h0, h1, h2, h3, h4⟩, -, -, -, -, h9⟩ := h'
  let v := bt (wT B t th)
  have f1 : Fr (fun q i => q = b ∧ i = 3) μ (st μ b 3 v) := (Fr.refl _ _).st ⟨rfl, rfl⟩
  obtain ⟨ξ, e, p1, p2⟩ := c_loosenTask (Ξ := Ξ) hp (h9.fr f1 (fun i => by omega) (fun i => by omega)) ht
  have g : ∀ q i, q ≠ b + 6 → q ≠ b + 7 → ξ.1 q i = (st μ b 3 v).1 q i := fun q i x y => (p2 q i (by unfold FP; omega)).1
  refine ⟨ξ, ?_, h.upd (B' := wT B t th) p1 ?_ ?_ ?_ ?_ ?_ (fun q i a c => by rw [g _ _ (by omega) (by omega), st_ne (Or.inl (by omega))]) rfl rfl rfl, (f1.mono fun q i z => by unfold FB; omega).trans (p2.mono fun q i z => by unfold FP at z; unfold FB; omega)⟩
  · cases th with
    | true =>
      have e : f_X3_loosenTask (b + 5) (Int32.ofNat t) ((mX Ξ) (st μ b 3 (bt B ||| ((1 : Int32) <<< (Int32.ofNat t &&& 31))))) = some ((mX Ξ) ξ) := e
      simp (disch := omega) only [f_X0_setThere, f_X0_setThere_J85, f_X0_setThere_J74, f_X0_setThere_J32, bk_v hk, bk_i0 hk, bk_i1 hk, bk_i2 hk, bk_i3 hk, bk_i4 hk, bk_p0 hk, bk_p1 hk, bk_p2 hk, bk_p3 hk, bk_p4 hk, bk_r5 hk, bk_r6 hk, bk_r7 hk, bk_r8 hk, bk_r9 hk, bk_a1 hk, bk_a2 hk, bk_a3 hk, bk_a4 hk, bk_s1 hk, bk_s2 hk, bk_s3 hk, bk_s4 hk, pr_v hp, pr_1 hp, pr_2 hp, pr_a1 hp, pr_a2 hp, pr_s1 hp, pr_s2 hp, h3, show bI true = 1 from rfl, e, lt, true_or, or_true, false_or, or_false, Option.bind_some, if_true, if_false, bI_0, bI_1, bI_z, eI_n1, eI_l0, eI_g12, oN_n1, oN_l0, oN_g0, n1_l0, n1_g12, n1_0, n1_n1, z_0, z_1, z_2, z_3, z_4, z_5, z_6, z_7, z_8, z_9, z_a, z_b, z_c, z_d, z_e, z_f, oN_inj, oN_lt, oN_gt, oN_ge, oN_le, i_succ, if_pos, if_neg, c_has, c_bit, Bool.true_eq_false, Bool.false_eq_true, decide_true, decide_false, decide_eq_true_eq, decide_eq_false_iff_not, eI_lt, lle_0, lge_0, llt_0, lgt_0, leq_0, lle_1, lge_1, llt_1, lgt_1, leq_1, lle_2, lge_2, llt_2, lgt_2, leq_2, lle_3, lge_3, llt_3, lgt_3, leq_3, lle_4, lge_4, llt_4, lgt_4, leq_4, lle_5, lge_5, llt_5, lgt_5, leq_5, lle_6, lge_6, llt_6, lgt_6, leq_6, lle_7, lge_7, llt_7, lgt_7, leq_7, lle_11, lge_11, llt_11, lgt_11, leq_11, lle_12, lge_12, llt_12, lgt_12, leq_12, lle_15, lge_15, llt_15, lgt_15, leq_15, lle_20, lge_20, llt_20, lgt_20, leq_20, lle_24, lge_24, llt_24, lgt_24, leq_24, lle_25, lge_25, llt_25, lgt_25, leq_25, lle_31, lge_31, llt_31, lgt_31, leq_31, lle_48, lge_48, llt_48, lgt_48, leq_48, lle_57, lge_57, llt_57, lgt_57, leq_57, lle_32, lge_32, llt_32, lgt_32, leq_32, lle_59, lge_59, llt_59, lgt_59, leq_59, lle_97, lge_97, llt_97, lgt_97, leq_97, lle_122, lge_122, llt_122, lgt_122, leq_122, lle_99, lge_99, llt_99, lgt_99, leq_99, lle_100, lge_100, llt_100, lgt_100, leq_100, lle_144, lge_144, llt_144, lgt_144, leq_144, lle_255, lge_255, llt_255, lgt_255, leq_255, lle_300, lge_300, llt_300, lgt_300, leq_300, lle_1000, lge_1000, llt_1000, lgt_1000, leq_1000, lle_1000000, lge_1000000, llt_1000000, lgt_1000000, leq_1000000, lle_4096, lge_4096, llt_4096, lgt_4096, leq_4096, b_ft]
    | false =>
      have e : f_X3_loosenTask (b + 5) (Int32.ofNat t) ((mX Ξ) (st μ b 3 (bt B &&& (((1 : Int32) <<< (Int32.ofNat t &&& 31)) ^^^ (-1))))) = some ((mX Ξ) ξ) := e
      simp (disch := omega) only [f_X0_setThere, f_X0_setThere_J85, f_X0_setThere_J74, f_X0_setThere_J32, bk_v hk, bk_i0 hk, bk_i1 hk, bk_i2 hk, bk_i3 hk, bk_i4 hk, bk_p0 hk, bk_p1 hk, bk_p2 hk, bk_p3 hk, bk_p4 hk, bk_r5 hk, bk_r6 hk, bk_r7 hk, bk_r8 hk, bk_r9 hk, bk_a1 hk, bk_a2 hk, bk_a3 hk, bk_a4 hk, bk_s1 hk, bk_s2 hk, bk_s3 hk, bk_s4 hk, pr_v hp, pr_1 hp, pr_2 hp, pr_a1 hp, pr_a2 hp, pr_s1 hp, pr_s2 hp, h3, show bI false = 0 from rfl, e, lt, true_or, or_true, false_or, or_false, Option.bind_some, if_true, if_false, bI_0, bI_1, bI_z, eI_n1, eI_l0, eI_g12, oN_n1, oN_l0, oN_g0, n1_l0, n1_g12, n1_0, n1_n1, z_0, z_1, z_2, z_3, z_4, z_5, z_6, z_7, z_8, z_9, z_a, z_b, z_c, z_d, z_e, z_f, oN_inj, oN_lt, oN_gt, oN_ge, oN_le, i_succ, if_pos, if_neg, c_has, c_bit, Bool.true_eq_false, Bool.false_eq_true, decide_true, decide_false, decide_eq_true_eq, decide_eq_false_iff_not, eI_lt, lle_0, lge_0, llt_0, lgt_0, leq_0, lle_1, lge_1, llt_1, lgt_1, leq_1, lle_2, lge_2, llt_2, lgt_2, leq_2, lle_3, lge_3, llt_3, lgt_3, leq_3, lle_4, lge_4, llt_4, lgt_4, leq_4, lle_5, lge_5, llt_5, lgt_5, leq_5, lle_6, lge_6, llt_6, lgt_6, leq_6, lle_7, lge_7, llt_7, lgt_7, leq_7, lle_11, lge_11, llt_11, lgt_11, leq_11, lle_12, lge_12, llt_12, lgt_12, leq_12, lle_15, lge_15, llt_15, lgt_15, leq_15, lle_20, lge_20, llt_20, lgt_20, leq_20, lle_24, lge_24, llt_24, lgt_24, leq_24, lle_25, lge_25, llt_25, lgt_25, leq_25, lle_31, lge_31, llt_31, lgt_31, leq_31, lle_48, lge_48, llt_48, lgt_48, leq_48, lle_57, lge_57, llt_57, lgt_57, leq_57, lle_32, lge_32, llt_32, lgt_32, leq_32, lle_59, lge_59, llt_59, lgt_59, leq_59, lle_97, lge_97, llt_97, lgt_97, leq_97, lle_122, lge_122, llt_122, lgt_122, leq_122, lle_99, lge_99, llt_99, lgt_99, leq_99, lle_100, lge_100, llt_100, lgt_100, leq_100, lle_144, lge_144, llt_144, lgt_144, leq_144, lle_255, lge_255, llt_255, lgt_255, leq_255, lle_300, lge_300, llt_300, lgt_300, leq_300, lle_1000, lge_1000, llt_1000, lgt_1000, leq_1000, lle_1000000, lge_1000000, llt_1000000, lgt_1000000, leq_1000000, lle_4096, lge_4096, llt_4096, lgt_4096, leq_4096, b_ft]
  · rw [g _ _ (by omega) (by omega), st_ne (Or.inr (by omega))]; exact h0
  · rw [g _ _ (by omega) (by omega), st_ne (Or.inr (by omega))]; exact h1
  · rw [g _ _ (by omega) (by omega), st_ne (Or.inr (by omega))]; exact h2
  · rw [g _ _ (by omega) (by omega), st_same]
  · rw [g _ _ (by omega) (by omega), st_ne (Or.inr (by omega))]; exact h4
theorem c_setWeight (hk : bkOK shI b = true) (h : BC μ b B) {w v : Nat} (hw : w < 12) : ∃ ν, f_X0_setWeight b (Int32.ofNat w) (Int32.ofNat v) ((mX Ξ) μ) = some ((mX Ξ) ν) ∧ BC ν b (wE B w v) ∧ Fr (FB b) μ ν := by
  have f1 : Fr (fun q i => q = b + 1) μ (st μ (b + 1) w (Int32.ofNat v)) := (Fr.refl _ _).st rfl
  obtain ⟨⟨h0, h1, h2, h3, h4⟩, h5, h6, h7, h8, h9⟩ := h
  refine ⟨st μ (b + 1) w (Int32.ofNat v), ?_, ⟨⟨?_, ?_, ?_, ?_, ?_⟩, fun x hx => ?_, fun x hx => ?_, fun t ht => ?_, fun x t hx ht => ?_, h9.fr f1 (fun i => by omega) (fun i => by omega)⟩, f1.mono fun q i z => by unfold FB; omega⟩
  · simp (disch := omega) only [f_X0_setWeight, f_X0_setWeight_J14, bk_v hk, bk_i0 hk, bk_i1 hk, bk_i2 hk, bk_i3 hk, bk_i4 hk, bk_p0 hk, bk_p1 hk, bk_p2 hk, bk_p3 hk, bk_p4 hk, bk_r5 hk, bk_r6 hk, bk_r7 hk, bk_r8 hk, bk_r9 hk, bk_a1 hk, bk_a2 hk, bk_a3 hk, bk_a4 hk, bk_s1 hk, bk_s2 hk, bk_s3 hk, bk_s4 hk, c_inLimit_n, hw, lt, true_or, or_true, false_or, or_false, Option.bind_some, if_true, if_false, bI_0, bI_1, bI_z, eI_n1, eI_l0, eI_g12, oN_n1, oN_l0, oN_g0, n1_l0, n1_g12, n1_0, n1_n1, z_0, z_1, z_2, z_3, z_4, z_5, z_6, z_7, z_8, z_9, z_a, z_b, z_c, z_d, z_e, z_f, oN_inj, oN_lt, oN_gt, oN_ge, oN_le, i_succ, if_pos, if_neg, c_has, c_bit, Bool.true_eq_false, Bool.false_eq_true, decide_true, decide_false, decide_eq_true_eq, decide_eq_false_iff_not, eI_lt, lle_0, lge_0, llt_0, lgt_0, leq_0, lle_1, lge_1, llt_1, lgt_1, leq_1, lle_2, lge_2, llt_2, lgt_2, leq_2, lle_3, lge_3, llt_3, lgt_3, leq_3, lle_4, lge_4, llt_4, lgt_4, leq_4, lle_5, lge_5, llt_5, lgt_5, leq_5, lle_6, lge_6, llt_6, lgt_6, leq_6, lle_7, lge_7, llt_7, lgt_7, leq_7, lle_11, lge_11, llt_11, lgt_11, leq_11, lle_12, lge_12, llt_12, lgt_12, leq_12, lle_15, lge_15, llt_15, lgt_15, leq_15, lle_20, lge_20, llt_20, lgt_20, leq_20, lle_24, lge_24, llt_24, lgt_24, leq_24, lle_25, lge_25, llt_25, lgt_25, leq_25, lle_31, lge_31, llt_31, lgt_31, leq_31, lle_48, lge_48, llt_48, lgt_48, leq_48, lle_57, lge_57, llt_57, lgt_57, leq_57, lle_32, lge_32, llt_32, lgt_32, leq_32, lle_59, lge_59, llt_59, lgt_59, leq_59, lle_97, lge_97, llt_97, lgt_97, leq_97, lle_122, lge_122, llt_122, lgt_122, leq_122, lle_99, lge_99, llt_99, lgt_99, leq_99, lle_100, lge_100, llt_100, lgt_100, leq_100, lle_144, lge_144, llt_144, lgt_144, leq_144, lle_255, lge_255, llt_255, lgt_255, leq_255, lle_300, lge_300, llt_300, lgt_300, leq_300, lle_1000, lge_1000, llt_1000, lgt_1000, leq_1000, lle_1000000, lge_1000000, llt_1000000, lgt_1000000, leq_1000000, lle_4096, lge_4096, llt_4096, lgt_4096, leq_4096, b_ft]
  · rw [st_ne (Or.inl (by omega))]; exact h0
  · rw [st_ne (Or.inl (by omega))]; exact h1
  · rw [st_ne (Or.inl (by omega))]; exact h2
  · rw [st_ne (Or.inl (by omega))]; exact h3
  · rw [st_ne (Or.inl (by omega))]; exact h4
  · rw [st_at]
    show _ = Int32.ofNat (up (be B) w v x)
    by_cases z : x = w
    · rw [if_pos ⟨rfl, z⟩, z, up_same]
    · rw [if_neg (fun y => z y.2), up_ne z]; exact h5 x hx
  · rw [st_ne (Or.inl (by omega))]; exact h6 x hx
  · rw [st_ne (Or.inl (by omega))]; exact h7 t ht
  · rw [st_ne (Or.inl (by omega))]; exact h8 x t hx ht
/-- a book's pairs are replaced -/
theorem c_pairs {p' : Nat} {M : Nat → Nat} (hk : bkOK shI b = true) (hp' : prOK shI p' = true) (hd : p' + 2 < b ∨ b + 7 < p') (h : BC μ b B) (h' : PR μ p' M) : ∃ ν, f_X3_copy (b + 5) p' ((mX Ξ) μ) = some ((mX Ξ) ν) ∧ BC ν b (wM B M) ∧ Fr (FB b) μ ν := by
  obtain ⟨ν, e, p1, p2⟩ := c_pcopy (Ξ := Ξ) (bk_pr hk) hp' (by omega) h'
  have g : ∀ q i, q ≠ b + 6 → q ≠ b + 7 → ν.1 q i = μ.1 q i := fun q i x y => (p2 q i (by unfold FP; omega)).1
  have h1 := h.1
  refine ⟨ν, e, h.upd (B' := wM B M) p1 ?_ ?_ ?_ ?_ ?_ (fun q i a c => g _ _ (by omega) (by omega)) rfl rfl rfl, p2.mono fun q i z => by unfold FP at z; unfold FB; omega⟩
  · rw [g _ _ (by omega) (by omega)]; exact h1.1
  · rw [g _ _ (by omega) (by omega)]; exact h1.2.1
  · rw [g _ _ (by omega) (by omega)]; exact h1.2.2.1
  · rw [g _ _ (by omega) (by omega)]; exact h1.2.2.2.1
  · rw [g _ _ (by omega) (by omega)]; exact h1.2.2.2.2
end Bd
theorem BOK.SOK {B : Bk} (hB : BOK B) : SOK (bn B) (bm B) (bw B) (gE B) (bM B) := ⟨hB.n, hB.m, fun w t q => by
    simp only [gE, Bool.and_eq_true] at q
    have := hB.f q.1.1
    exact ⟨this.1, this.2, q.1.2⟩, fun w q => hB.w q, hB.M⟩
section Mc
variable {μ : MM}
end Mc
