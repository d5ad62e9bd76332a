/-! ACTS: is -/
theorem wW_xor {B : Bk} {w : Nat} {th : Bool} (hw : w < 12) (q : hb (bw B) w = !th) : bw (wW B w th) = bw B ^^^ ((1 : Int32) <<< (Int32.ofNat w &&& 31)) := by
  apply hb_ext
  intro k hk
  rw [wW_hb hw, hb_xor, hb_bit k (by omega)]
  by_cases e : k = w
  · rw [if_pos e, e, q]; cases th <;> simp
  · rw [if_neg e]; simp [e]
theorem wT_xor {B : Bk} {t : Nat} {th : Bool} (ht : t < 12) (q : hb (bt B) t = !th) : bt (wT B t th) = bt B ^^^ ((1 : Int32) <<< (Int32.ofNat t &&& 31)) := by
  apply hb_ext
  intro k hk
  rw [wT_hb ht, hb_xor, hb_bit k (by omega)]
  by_cases e : k = t
  · rw [if_pos e, e, q]; cases th <;> simp
  · rw [if_neg e]; simp [e]
section Mr1
variable {μ : MM} {B : Bk}
theorem MR.h3 (h : MR μ 0 B) {v : Int32} : MR (st μ 172 3 v) 0 (mkB (bn B) (bm B) (bk B) v (bt B) (be B) (bf B) (bc B) (bM B)) := by
  obtain ⟨⟨h0, h1, h2, h3, h4⟩, h5, h6, h7, h8⟩ := h
  refine ⟨⟨?_, ?_, ?_, ?_, ?_⟩, fun x hx => ?_, fun x hx => ?_, fun x hx => ?_, fun x s hx hs q => ?_⟩
  · rw [st_ne (Or.inr (by omega))]; exact h0
  · rw [st_ne (Or.inr (by omega))]; exact h1
  · rw [st_ne (Or.inr (by omega))]; exact h2
  · exact st_same _ _ _ _
  · rw [st_ne (Or.inr (by omega))]; exact h4
  · rw [st_ne (Or.inl (by omega))]; exact h5 x hx
  · rw [st_ne (Or.inl (by omega))]; exact h6 x hx
  · rw [st_ne (Or.inl (by omega))]; exact h7 x hx
  · rw [st_ne (Or.inl (by omega))]; exact h8 x s hx hs q
theorem MR.h4 (h : MR μ 0 B) {v : Int32} : MR (st μ 172 4 v) 0 (mkB (bn B) (bm B) (bk B) (bw B) v (be B) (bf B) (bc B) (bM B)) := by
  obtain ⟨⟨h0, h1, h2, h3, h4⟩, h5, h6, h7, h8⟩ := h
  refine ⟨⟨?_, ?_, ?_, ?_, ?_⟩, fun x hx => ?_, fun x hx => ?_, fun x hx => ?_, fun x s hx hs q => ?_⟩
  · rw [st_ne (Or.inr (by omega))]; exact h0
  · rw [st_ne (Or.inr (by omega))]; exact h1
  · rw [st_ne (Or.inr (by omega))]; exact h2
  · rw [st_ne (Or.inr (by omega))]; exact h3
  · exact st_same _ _ _ _
  · rw [st_ne (Or.inl (by omega))]; exact h5 x hx
  · rw [st_ne (Or.inl (by omega))]; exact h6 x hx
  · rw [st_ne (Or.inl (by omega))]; exact h7 x hx
  · rw [st_ne (Or.inl (by omega))]; exact h8 x s hx hs q
/-- the model parts a worker -/
theorem m_parts0 {w : Nat} (hw : w < 12) : f_X10_parts 168 0 (Int32.ofNat w) (mem μ) = some (mem (st μ 210 w (-1))) := by
  simp (disch := omega) only [f_X10_parts, f_X10_parts_J29, f_X10_parts_J14, vc_168, gI_168_0, pI_168_0, gR_168_1, gI_168_2, pI_168_2, gI_168_3, pI_168_3, gI_168_4, pI_168_4, gI_168_5, pI_168_5, gI_168_6, pI_168_6, gI_168_7, pI_168_7, gR_168_8, gR_168_9, gR_168_10, gR_168_11, gR_168_12, gR_168_13, gI_168_14, pI_168_14, gI_168_15, pI_168_15, gI_168_16, pI_168_16, gR_168_17, gI_168_18, pI_168_18, gR_168_19, gI_168_20, pI_168_20, gI_168_21, pI_168_21, gI_168_22, pI_168_22, gI_168_23, pI_168_23, gR_168_24, gR_168_25, gI_168_26, pI_168_26, gI_168_27, pI_168_27, gR_168_28, gI_168_29, pI_168_29, gI_168_30, pI_168_30, gI_168_31, pI_168_31, gR_168_32, gR_168_33, gR_168_34, gR_168_35, gR_168_36, gR_168_37, gR_168_38, mr_h0, mr_f0, mr_m0, mr_w0, mr_c0, mc_c0, mc_a0, mc_s0, mh_a0_0, mh_s0_0, mh_a0_1, mh_s0_1, mh_a0_2, mh_s0_2, mh_a0_3, mh_s0_3, mh_a0_4, mh_s0_4, ma_f0, ms_f0, ma_m0, ms_m0, ma_w0, ms_w0, hw, lt, true_or, or_true, false_or, or_false, Option.bind_some, if_true, if_false, bI_0, bI_1, bI_z, eI_n1, eI_l0, eI_g12, oN_n1, oN_l0, oN_g0, n1_l0, n1_g12, n1_0, n1_n1, z_0, z_1, z_2, z_3, z_4, z_5, z_6, z_7, z_8, z_9, z_a, z_b, z_c, z_d, z_e, z_f, oN_inj, oN_lt, oN_gt, oN_ge, oN_le, i_succ, if_pos, if_neg, c_has, c_bit, Bool.true_eq_false, Bool.false_eq_true, decide_true, decide_false, decide_eq_true_eq, decide_eq_false_iff_not, eI_lt, lle_0, lge_0, llt_0, lgt_0, leq_0, lle_1, lge_1, llt_1, lgt_1, leq_1, lle_2, lge_2, llt_2, lgt_2, leq_2, lle_3, lge_3, llt_3, lgt_3, leq_3, lle_4, lge_4, llt_4, lgt_4, leq_4, lle_5, lge_5, llt_5, lgt_5, leq_5, lle_6, lge_6, llt_6, lgt_6, leq_6, lle_7, lge_7, llt_7, lgt_7, leq_7, lle_11, lge_11, llt_11, lgt_11, leq_11, lle_12, lge_12, llt_12, lgt_12, leq_12, lle_15, lge_15, llt_15, lgt_15, leq_15, lle_20, lge_20, llt_20, lgt_20, leq_20, lle_24, lge_24, llt_24, lgt_24, leq_24, lle_25, lge_25, llt_25, lgt_25, leq_25, lle_31, lge_31, llt_31, lgt_31, leq_31, lle_48, lge_48, llt_48, lgt_48, leq_48, lle_57, lge_57, llt_57, lgt_57, leq_57, lle_32, lge_32, llt_32, lgt_32, leq_32, lle_59, lge_59, llt_59, lgt_59, leq_59, lle_97, lge_97, llt_97, lgt_97, leq_97, lle_122, lge_122, llt_122, lgt_122, leq_122, lle_99, lge_99, llt_99, lgt_99, leq_99, lle_100, lge_100, llt_100, lgt_100, leq_100, lle_144, lge_144, llt_144, lgt_144, leq_144, lle_255, lge_255, llt_255, lgt_255, leq_255, lle_300, lge_300, llt_300, lgt_300, leq_300, lle_1000, lge_1000, llt_1000, lgt_1000, leq_1000, lle_1000000, lge_1000000, llt_1000000, lgt_1000000, leq_1000000, lle_4096, lge_4096, llt_4096, lgt_4096, leq_4096, b_ft]
theorem m_parts1 (h : MR μ 0 B) (hB : BOK B) {t : Nat} (ht : t < 12) : ∃ ν, f_X10_parts 168 1 (Int32.ofNat t) (mem μ) = some (mem ν) ∧ MR ν 0 (wM B (up (bM B) (ow (bM B) t) 12)) ∧ Fr (fun q _ => q = 210) μ ν := by
  have e := m_partner1 (h.MS hB) ht
  by_cases c : ow (bM B) t < 12
  · refine ⟨st μ 210 (ow (bM B) t) (-1), ?_, h.mate (t := 12) rfl, (Fr.refl (fun q _ => q = 210) _).st rfl⟩
    rw [eI_lt c] at e
    simp (disch := omega) only [f_X10_parts, f_X10_parts_J29, f_X10_parts_J14, vc_168, gI_168_0, pI_168_0, gR_168_1, gI_168_2, pI_168_2, gI_168_3, pI_168_3, gI_168_4, pI_168_4, gI_168_5, pI_168_5, gI_168_6, pI_168_6, gI_168_7, pI_168_7, gR_168_8, gR_168_9, gR_168_10, gR_168_11, gR_168_12, gR_168_13, gI_168_14, pI_168_14, gI_168_15, pI_168_15, gI_168_16, pI_168_16, gR_168_17, gI_168_18, pI_168_18, gR_168_19, gI_168_20, pI_168_20, gI_168_21, pI_168_21, gI_168_22, pI_168_22, gI_168_23, pI_168_23, gR_168_24, gR_168_25, gI_168_26, pI_168_26, gI_168_27, pI_168_27, gR_168_28, gI_168_29, pI_168_29, gI_168_30, pI_168_30, gI_168_31, pI_168_31, gR_168_32, gR_168_33, gR_168_34, gR_168_35, gR_168_36, gR_168_37, gR_168_38, mr_h0, mr_f0, mr_m0, mr_w0, mr_c0, mc_c0, mc_a0, mc_s0, mh_a0_0, mh_s0_0, mh_a0_1, mh_s0_1, mh_a0_2, mh_s0_2, mh_a0_3, mh_s0_3, mh_a0_4, mh_s0_4, ma_f0, ms_f0, ma_m0, ms_m0, ma_w0, ms_w0, e, c, lt, true_or, or_true, false_or, or_false, Option.bind_some, if_true, if_false, bI_0, bI_1, bI_z, eI_n1, eI_l0, eI_g12, oN_n1, oN_l0, oN_g0, n1_l0, n1_g12, n1_0, n1_n1, z_0, z_1, z_2, z_3, z_4, z_5, z_6, z_7, z_8, z_9, z_a, z_b, z_c, z_d, z_e, z_f, oN_inj, oN_lt, oN_gt, oN_ge, oN_le, i_succ, if_pos, if_neg, c_has, c_bit, Bool.true_eq_false, Bool.false_eq_true, decide_true, decide_false, decide_eq_true_eq, decide_eq_false_iff_not, eI_lt, lle_0, lge_0, llt_0, lgt_0, leq_0, lle_1, lge_1, llt_1, lgt_1, leq_1, lle_2, lge_2, llt_2, lgt_2, leq_2, lle_3, lge_3, llt_3, lgt_3, leq_3, lle_4, lge_4, llt_4, lgt_4, leq_4, lle_5, lge_5, llt_5, lgt_5, leq_5, lle_6, lge_6, llt_6, lgt_6, leq_6, lle_7, lge_7, llt_7, lgt_7, leq_7, lle_11, lge_11, llt_11, lgt_11, leq_11, lle_12, lge_12, llt_12, lgt_12, leq_12, lle_15, lge_15, llt_15, lgt_15, leq_15, lle_20, lge_20, llt_20, lgt_20, leq_20, lle_24, lge_24, llt_24, lgt_24, leq_24, lle_25, lge_25, llt_25, lgt_25, leq_25, lle_31, lge_31, llt_31, lgt_31, leq_31, lle_48, lge_48, llt_48, lgt_48, leq_48, lle_57, lge_57, llt_57, lgt_57, leq_57, lle_32, lge_32, llt_32, lgt_32, leq_32, lle_59, lge_59, llt_59, lgt_59, leq_59, lle_97, lge_97, llt_97, lgt_97, leq_97, lle_122, lge_122, llt_122, lgt_122, leq_122, lle_99, lge_99, llt_99, lgt_99, leq_99, lle_100, lge_100, llt_100, lgt_100, leq_100, lle_144, lge_144, llt_144, lgt_144, leq_144, lle_255, lge_255, llt_255, lgt_255, leq_255, lle_300, lge_300, llt_300, lgt_300, leq_300, lle_1000, lge_1000, llt_1000, lgt_1000, leq_1000, lle_1000000, lge_1000000, llt_1000000, lgt_1000000, leq_1000000, lle_4096, lge_4096, llt_4096, lgt_4096, leq_4096, b_ft]
  · have c12 : ow (bM B) t = 12 := Nat.le_antisymm (ow_le _ _) (by omega)
    refine ⟨μ, ?_, ?_, Fr.refl _ _⟩
    · rw [c12, eI_ge (Nat.le_refl 12)] at e
      simp (disch := omega) only [f_X10_parts, f_X10_parts_J29, f_X10_parts_J14, vc_168, gI_168_0, pI_168_0, gR_168_1, gI_168_2, pI_168_2, gI_168_3, pI_168_3, gI_168_4, pI_168_4, gI_168_5, pI_168_5, gI_168_6, pI_168_6, gI_168_7, pI_168_7, gR_168_8, gR_168_9, gR_168_10, gR_168_11, gR_168_12, gR_168_13, gI_168_14, pI_168_14, gI_168_15, pI_168_15, gI_168_16, pI_168_16, gR_168_17, gI_168_18, pI_168_18, gR_168_19, gI_168_20, pI_168_20, gI_168_21, pI_168_21, gI_168_22, pI_168_22, gI_168_23, pI_168_23, gR_168_24, gR_168_25, gI_168_26, pI_168_26, gI_168_27, pI_168_27, gR_168_28, gI_168_29, pI_168_29, gI_168_30, pI_168_30, gI_168_31, pI_168_31, gR_168_32, gR_168_33, gR_168_34, gR_168_35, gR_168_36, gR_168_37, gR_168_38, mr_h0, mr_f0, mr_m0, mr_w0, mr_c0, mc_c0, mc_a0, mc_s0, mh_a0_0, mh_s0_0, mh_a0_1, mh_s0_1, mh_a0_2, mh_s0_2, mh_a0_3, mh_s0_3, mh_a0_4, mh_s0_4, ma_f0, ms_f0, ma_m0, ms_m0, ma_w0, ms_w0, e, lt, true_or, or_true, false_or, or_false, Option.bind_some, if_true, if_false, bI_0, bI_1, bI_z, eI_n1, eI_l0, eI_g12, oN_n1, oN_l0, oN_g0, n1_l0, n1_g12, n1_0, n1_n1, z_0, z_1, z_2, z_3, z_4, z_5, z_6, z_7, z_8, z_9, z_a, z_b, z_c, z_d, z_e, z_f, oN_inj, oN_lt, oN_gt, oN_ge, oN_le, i_succ, if_pos, if_neg, c_has, c_bit, Bool.true_eq_false, Bool.false_eq_true, decide_true, decide_false, decide_eq_true_eq, decide_eq_false_iff_not, eI_lt, lle_0, lge_0, llt_0, lgt_0, leq_0, lle_1, lge_1, llt_1, lgt_1, leq_1, lle_2, lge_2, llt_2, lgt_2, leq_2, lle_3, lge_3, llt_3, lgt_3, leq_3, lle_4, lge_4, llt_4, lgt_4, leq_4, lle_5, lge_5, llt_5, lgt_5, leq_5, lle_6, lge_6, llt_6, lgt_6, leq_6, lle_7, lge_7, llt_7, lgt_7, leq_7, lle_11, lge_11, llt_11, lgt_11, leq_11, lle_12, lge_12, llt_12, lgt_12, leq_12, lle_15, lge_15, llt_15, lgt_15, leq_15, lle_20, lge_20, llt_20, lgt_20, leq_20, lle_24, lge_24, llt_24, lgt_24, leq_24, lle_25, lge_25, llt_25, lgt_25, leq_25, lle_31, lge_31, llt_31, lgt_31, leq_31, lle_48, lge_48, llt_48, lgt_48, leq_48, lle_57, lge_57, llt_57, lgt_57, leq_57, lle_32, lge_32, llt_32, lgt_32, leq_32, lle_59, lge_59, llt_59, lgt_59, leq_59, lle_97, lge_97, llt_97, lgt_97, leq_97, lle_122, lge_122, llt_122, lgt_122, leq_122, lle_99, lge_99, llt_99, lgt_99, leq_99, lle_100, lge_100, llt_100, lgt_100, leq_100, lle_144, lge_144, llt_144, lgt_144, leq_144, lle_255, lge_255, llt_255, lgt_255, leq_255, lle_300, lge_300, llt_300, lgt_300, leq_300, lle_1000, lge_1000, llt_1000, lgt_1000, leq_1000, lle_1000000, lge_1000000, llt_1000000, lgt_1000000, leq_1000000, lle_4096, lge_4096, llt_4096, lgt_4096, leq_4096, b_ft]
    · rw [c12, up_eq (hB.M.1.2.1 12 (Nat.le_refl 12))]; exact h
end Mr1
section O10
variable {T : MM → Bk → Prop} {μ : MM} {A : AS}
theorem op_is_w (hT : TF T) (hA : AOK A) (hC : RC T μ A) (hM : RM μ A) {w : Nat} (w1 : w < bn (aB A)) (w2 : w < 12) (c : KN (aB A) 0 (Int32.ofNat w)) {th : Bool} (q : hb (bw (aB A)) w = !th) : OKc T μ (LB wc_L_is (f_X9_is 0 0 (Int32.ofNat w) (bI th)) (f_X10_is 168 0 (Int32.ofNat w) (bI th))) := by
  have hB := hA.1
  have hB2 := wW_ok (th := th) hB w1
  refine LB_ok hT hM (SK.uq (A := A) (v := eI (bM (aB A) w)) (B := wW (aB A) w th)) (CX_K hT hC hA hB2 fun ν1 e1 b1 => ?_) (fun ν hν => MX_K hν hB2 fun ν1 e1 b1 => ?_)
  · obtain ⟨ν2, e2, b2, f2⟩ := c_setThere0 bk1 b1 (th := th) w2
    refine ⟨ν2, b2, f2, fun ν3 e3 => ?_⟩
    have ep := c_partnerOf0 bk1 b1 w2
    have et := c_isThere0 bk1 hC.1 hB (show w < 32 by omega)
    rw [q] at et
    have s1 : f_X9_is 0 0 (Int32.ofNat w) (bI th) (mem μ) = f_X9_is_J59 0 0 (Int32.ofNat w) (bI th) 0 1 (mem μ) := by
      cases th with
      | true => simp only [f_X9_is, f_X9_is_J23, f_X9_is_J28, f_X9_is_J51, ↓hbind gR_0_0, ↓hvc (fun _ => bk_v bk1), ↓hvc (fun _ => vc_0), ↓hbind (c_kn bk1 hC.1 hB _ _), pb_1 c, show bI true = 1 from rfl, show bI (!true) = 0 from rfl, ↓hbind c_dp1, ↓hbind c_da1, thr, ↓reduceIte, z_1, z_3, ↓hbind et]
      | false => simp only [f_X9_is, f_X9_is_J23, f_X9_is_J28, f_X9_is_J51, ↓hbind gR_0_0, ↓hvc (fun _ => bk_v bk1), ↓hvc (fun _ => vc_0), ↓hbind (c_kn bk1 hC.1 hB _ _), pb_1 c, show bI true = 1 from rfl, show bI false = 0 from rfl, show bI (!false) = 1 from rfl, ↓hbind c_dp1, ↓hbind c_da1, thr, ↓reduceIte, z_1, z_3, ↓hbind et]
    rw [s1]
    cases th with
    | true => simp only [f_X9_is_J59, f_X9_is_J93, ↓hbind gR_0_0, ↓hvc (fun _ => bk_v bk1), ↓hvc (fun _ => vc_0), ↓hbind c_da1, thr, ↓hbind e1, ↓hbind ep, show bI true = 1 from rfl, ↓reduceIte, ↓hbind (show f_X0_setThere 1 0 (Int32.ofNat w) 1 (mem ν1) = some (mem ν2) from e2), ↓hbind e3]
    | false => simp only [f_X9_is_J59, f_X9_is_J93, ↓hbind gR_0_0, ↓hvc (fun _ => bk_v bk1), ↓hvc (fun _ => vc_0), ↓hbind c_da1, thr, ↓hbind e1, ↓hbind ep, show bI false = 0 from rfl, ↓reduceIte, z_3, ↓hbind (show f_X0_setThere 1 0 (Int32.ofNat w) 0 (mem ν1) = some (mem ν2) from e2), ↓hbind e3]
  · have bx := (b1.mate (t := 12) (w := w) (v := -1) rfl).h3 (v := bw (aB A) ^^^ ((1 : Int32) <<< (Int32.ofNat w &&& 31)))
    have ex : (st ν1 210 w (-1)).1 172 3 = bw (aB A) := by rw [st_ne (Or.inl (by omega))]; exact b1.1.2.2.2.1
    refine ⟨st (st ν1 210 w (-1)) 172 3 (bw (aB A) ^^^ ((1 : Int32) <<< (Int32.ofNat w &&& 31))), ?_, ((Fr.refl _ _).st (by unfold FR; omega)).st (by unfold FR; omega), fun ν3 e3 => ?_⟩
    · have := wW_xor w2 q
      rw [← this] at bx ⊢
      exact bx
    · have ep := m_partner0 (b1.MS hB) w2
      have et := m_isThere0 (μ := tz ν) (show w < 32 by omega)
      rw [show (tz ν).1 172 3 = bw (aB A) from hν.t.1.1.2.2.2.1, q] at et
      have s1 : f_X10_is 168 0 (Int32.ofNat w) (bI th) (mem ν) = f_X10_is_J62 168 0 (Int32.ofNat w) 168 0 (mem (tz ν)) := by
        cases th with
        | true => simp only [f_X10_is, f_X10_is_J20, f_X10_is_J54, ↓hbind pI_t0, ↓hvc (fun _ => vc_168), ↓hbind (m_isOne hν.t.1 hB _ _), pb_1 c, bI_0, Bool.true_eq_false, ↓reduceIte, ↓hbind m_b0t, ↓hbind (m_in01 (show bI true = 0 ∨ bI true = 1 from Or.inr rfl)), z_1, show (bI true = 1) = True from eq_true rfl, ↓hbind et, show bI (!true) = 0 from rfl, z_3]
        | false => simp only [f_X10_is, f_X10_is_J20, f_X10_is_J54, ↓hbind pI_t0, ↓hvc (fun _ => vc_168), ↓hbind (m_isOne hν.t.1 hB _ _), pb_1 c, bI_0, Bool.true_eq_false, ↓reduceIte, ↓hbind m_b0t, ↓hbind (m_in01 (show bI false = 0 ∨ bI false = 1 from Or.inl rfl)), z_1, show (bI false = 1) = False from eq_false (by decide), ↓hbind et, show bI (!false) = 1 from rfl, z_1]
      rw [s1]
      simp only [f_X10_is_J62, f_X10_is_J105, ↓hbind m_b0t, ↓hvc (fun _ => vc_168), ↓reduceIte, ↓hbind e1, ↓hbind ep, ↓hbind (m_parts0 w2), ↓hbind gR_168_9, ↓hbind mr_h0, ↓hbind mh_a0_3, ex, ↓hbind mh_s0_3, ↓hbind e3]
theorem op_is_t (hT : TF T) (hA : AOK A) (hC : RC T μ A) (hM : RM μ A) {t : Nat} (t1 : t < bm (aB A)) (t2 : t < 12) (c : KN (aB A) 1 (Int32.ofNat t)) {th : Bool} (q : hb (bt (aB A)) t = !th) : OKc T μ (LB wc_L_is (f_X9_is 0 1 (Int32.ofNat t) (bI th)) (f_X10_is 168 1 (Int32.ofNat t) (bI th))) := by
  have hB := hA.1
  have hB2 := wT_ok (th := th) hB t1
  refine LB_ok hT hM (SK.uq (A := A) (v := eI (ow (bM (aB A)) t)) (B := wT (aB A) t th)) (CX_K hT hC hA hB2 fun ν1 e1 b1 => ?_) (fun ν hν => MX_K hν hB2 fun ν1 e1 b1 => ?_)
  · obtain ⟨ν2, e2, b2, f2⟩ := c_setThere1 bk1 b1 (th := th) t2
    refine ⟨ν2, b2, f2, fun ν3 e3 => ?_⟩
    have ep := c_partnerOf1 bk1 b1 t2
    have et := c_isThere1 bk1 hC.1 hB (show t < 32 by omega)
    rw [q] at et
    have s1 : f_X9_is 0 1 (Int32.ofNat t) (bI th) (mem μ) = f_X9_is_J59 0 1 (Int32.ofNat t) (bI th) 0 1 (mem μ) := by
      cases th with
      | true => simp only [f_X9_is, f_X9_is_J23, f_X9_is_J28, f_X9_is_J51, ↓hbind gR_0_0, ↓hvc (fun _ => bk_v bk1), ↓hvc (fun _ => vc_0), ↓hbind (c_kn bk1 hC.1 hB _ _), pb_1 c, show bI true = 1 from rfl, show bI (!true) = 0 from rfl, ↓hbind c_dp1, ↓hbind c_da1, thr, ↓reduceIte, z_1, z_3, ↓hbind et]
      | false => simp only [f_X9_is, f_X9_is_J23, f_X9_is_J28, f_X9_is_J51, ↓hbind gR_0_0, ↓hvc (fun _ => bk_v bk1), ↓hvc (fun _ => vc_0), ↓hbind (c_kn bk1 hC.1 hB _ _), pb_1 c, show bI true = 1 from rfl, show bI false = 0 from rfl, show bI (!false) = 1 from rfl, ↓hbind c_dp1, ↓hbind c_da1, thr, ↓reduceIte, z_1, z_3, ↓hbind et]
    rw [s1]
    cases th with
    | true => simp only [f_X9_is_J59, f_X9_is_J93, ↓hbind gR_0_0, ↓hvc (fun _ => bk_v bk1), ↓hvc (fun _ => vc_0), ↓hbind c_da1, thr, ↓hbind e1, ↓hbind ep, show bI true = 1 from rfl, ↓reduceIte, ↓hbind (show f_X0_setThere 1 1 (Int32.ofNat t) 1 (mem ν1) = some (mem ν2) from e2), ↓hbind e3]
    | false => simp only [f_X9_is_J59, f_X9_is_J93, ↓hbind gR_0_0, ↓hvc (fun _ => bk_v bk1), ↓hvc (fun _ => vc_0), ↓hbind c_da1, thr, ↓hbind e1, ↓hbind ep, show bI false = 0 from rfl, ↓reduceIte, z_3, ↓hbind (show f_X0_setThere 1 1 (Int32.ofNat t) 0 (mem ν1) = some (mem ν2) from e2), ↓hbind e3]
  · obtain ⟨ν2, e2, b2, f2⟩ := m_parts1 b1 hB t2
    have bx := b2.h4 (v := bt (aB A) ^^^ ((1 : Int32) <<< (Int32.ofNat t &&& 31)))
    have ex : ν2.1 172 4 = bt (aB A) := b2.1.2.2.2.2
    refine ⟨st ν2 172 4 (bt (aB A) ^^^ ((1 : Int32) <<< (Int32.ofNat t &&& 31))), ?_, (f2.mono fun q i z => by unfold FR; omega).st (by unfold FR; omega), fun ν3 e3 => ?_⟩
    · have := wT_xor t2 q
      rw [← this] at bx ⊢
      exact bx
    · have ep := m_partner1 (b1.MS hB) t2
      have et := m_isThere1 (μ := tz ν) (show t < 32 by omega)
      rw [show (tz ν).1 172 4 = bt (aB A) from hν.t.1.1.2.2.2.2, q] at et
      have s1 : f_X10_is 168 1 (Int32.ofNat t) (bI th) (mem ν) = f_X10_is_J62 168 1 (Int32.ofNat t) 168 0 (mem (tz ν)) := by
        cases th with
        | true => simp only [f_X10_is, f_X10_is_J20, f_X10_is_J54, ↓hbind pI_t0, ↓hvc (fun _ => vc_168), ↓hbind (m_isOne hν.t.1 hB _ _), pb_1 c, bI_0, Bool.true_eq_false, ↓reduceIte, ↓hbind m_b0t, ↓hbind (m_in01 (show bI true = 0 ∨ bI true = 1 from Or.inr rfl)), z_1, show (bI true = 1) = True from eq_true rfl, ↓hbind et, show bI (!true) = 0 from rfl, z_3]
        | false => simp only [f_X10_is, f_X10_is_J20, f_X10_is_J54, ↓hbind pI_t0, ↓hvc (fun _ => vc_168), ↓hbind (m_isOne hν.t.1 hB _ _), pb_1 c, bI_0, Bool.true_eq_false, ↓reduceIte, ↓hbind m_b0t, ↓hbind (m_in01 (show bI false = 0 ∨ bI false = 1 from Or.inl rfl)), z_1, show (bI false = 1) = False from eq_false (by decide), ↓hbind et, show bI (!false) = 1 from rfl, z_1]
      rw [s1]
      simp only [f_X10_is_J62, f_X10_is_J105, ↓hbind m_b0t, ↓hvc (fun _ => vc_168), ↓reduceIte, z_1, ↓hbind e1, ↓hbind ep, ↓hbind e2, ↓hbind gR_168_9, ↓hbind mr_h0, ↓hbind mh_a0_4, ex, ↓hbind mh_s0_4, ↓hbind e3]
/-- is what it is already: refused -/
theorem op_is_a (hT : TF T) (hA : AOK A) (hC : RC T μ A) (hM : RM μ A) {s : Int32} {k : Nat} (c : KN (aB A) s (Int32.ofNat k)) {th : Bool} (e1 : f_X0_isThere 1 s (Int32.ofNat k) (mem μ) = some (bI th, mem μ)) (e2 : ∀ ν, RM ν A → f_X10_isThere 168 s (Int32.ofNat k) (mem (tz ν)) = some (bI th, mem (tz ν))) : OKc T μ (LB wc_L_is (f_X9_is 0 s (Int32.ofNat k) (bI th)) (f_X10_is 168 s (Int32.ofNat k) (bI th))) := by
  have hB := hA.1
  refine LB_ok hT hM (SA.uq (A := A)) (CX_A hT hC hA fun ν e => ?_) (fun ν hν => MX_A hν (w := 2) (b := 0) rfl (by decide) ?_)
  · cases th with
    | true => simp only [f_X9_is, f_X9_is_J23, f_X9_is_J28, f_X9_is_J51, f_X9_is_J59, ↓hbind gR_0_0, ↓hvc (fun _ => bk_v bk1), ↓hvc (fun _ => vc_0), ↓hbind (c_kn bk1 hC.1 hB _ _), pb_1 c, show bI true = 1 from rfl, ↓hbind c_dp1, ↓hbind c_da1, thr, ↓reduceIte, z_1, z_3, ↓hbind e1, ↓hbind e]
    | false => simp only [f_X9_is, f_X9_is_J23, f_X9_is_J28, f_X9_is_J51, f_X9_is_J59, ↓hbind gR_0_0, ↓hvc (fun _ => bk_v bk1), ↓hvc (fun _ => vc_0), ↓hbind (c_kn bk1 hC.1 hB _ _), pb_1 c, show bI true = 1 from rfl, show bI false = 0 from rfl, ↓hbind c_dp1, ↓hbind c_da1, thr, ↓reduceIte, z_1, z_3, ↓hbind e1, ↓hbind e]
  · have e2 := e2 ν hν
    cases th with
    | true => simp only [f_X10_is, f_X10_is_J20, f_X10_is_J54, f_X10_is_J57, f_X10_is_J62, f_X10_is_J70, ↓hbind pI_t0, ↓hvc (fun _ => vc_168), ↓hbind (m_isOne hν.t.1 hB _ _), pb_1 c, bI_0, Bool.true_eq_false, ↓reduceIte, ↓hbind m_b0t, ↓hbind (m_in01 (show bI true = 0 ∨ bI true = 1 from Or.inr rfl)), z_1, show (bI true = 1) = True from eq_true rfl, ↓hbind e2, ↓hbind (m_bA (show (2 : Int32) ≠ 0 by decide))]
    | false => simp only [f_X10_is, f_X10_is_J20, f_X10_is_J54, f_X10_is_J57, f_X10_is_J62, f_X10_is_J70, ↓hbind pI_t0, ↓hvc (fun _ => vc_168), ↓hbind (m_isOne hν.t.1 hB _ _), pb_1 c, bI_0, Bool.true_eq_false, ↓reduceIte, ↓hbind m_b0t, ↓hbind (m_in01 (show bI false = 0 ∨ bI false = 1 from Or.inl rfl)), z_1, show (bI false = 1) = False from eq_false (by decide), ↓hbind e2, show (bI false = 0) = True from eq_true rfl, ↓hbind (m_bA (show (2 : Int32) ≠ 0 by decide))]
theorem op_is_b (hT : TF T) (hA : AOK A) (hC : RC T μ A) (hM : RM μ A) {s x y : Int32} (c : KN (aB A) s x) (d : ¬ (y = 0 ∨ y = 1)) : OKc T μ (LB wc_L_is (f_X9_is 0 s x y) (f_X10_is 168 s x y)) := by
  have hB := hA.1
  have d1 : ¬ y = 0 := fun z => d (Or.inl z)
  have d2 : ¬ y = 1 := fun z => d (Or.inr z)
  refine LB_ok hT hM (SA.uq (A := A)) (CX_A hT hC hA fun ν e => ?_) (fun ν hν => MX_A hν (w := 2) (b := 0) rfl (by decide) ?_)
  · simp only [f_X9_is, f_X9_is_J28, ↓hbind gR_0_0, ↓hvc (fun _ => bk_v bk1), ↓hvc (fun _ => vc_0), ↓hbind (c_kn bk1 hC.1 hB _ _), pb_1 c, show bI true = 1 from rfl, ↓hbind c_dp1, thr, if_neg d1, if_neg d2, ↓hbind e]
  · simp only [f_X10_is, f_X10_is_J20, f_X10_is_J57, f_X10_is_J62, f_X10_is_J70, ↓hbind pI_t0, ↓hvc (fun _ => vc_168), ↓hbind (m_isOne hν.t.1 hB _ _), pb_1 c, bI_0, Bool.true_eq_false, ↓reduceIte, ↓hbind m_b0t, ↓hbind (m_out01 d), ↓hbind (m_bA (show (2 : Int32) ≠ 0 by decide)), z_1]
theorem op_is_p (hT : TF T) (hA : AOK A) (hC : RC T μ A) (hM : RM μ A) {s x y : Int32} (c : ¬ KN (aB A) s x) : OKc T μ (LB wc_L_is (f_X9_is 0 s x y) (f_X10_is 168 s x y)) := by
  have hB := hA.1
  refine LB_ok hT hM (SP.uq (A := A)) (CX_P hT hC hA fun ν e => ?_) (fun ν hν => MX_P hν (w := 1) (b := 0) rfl (by decide) ?_)
  · simp only [f_X9_is, ↓hbind gR_0_0, ↓hvc (fun _ => bk_v bk1), ↓hvc (fun _ => vc_0), ↓hbind (c_kn bk1 hC.1 hB _ _), pb_f c, show bI false = 0 from rfl, ↓hbind e, thr]
  · simp only [f_X10_is, f_X10_is_J20, f_X10_is_J70, ↓hbind pI_t0, ↓hvc (fun _ => vc_168), ↓hbind (m_isOne hν.t.1 hB _ _), pb_f c, bI_0, ↓reduceIte, ↓hbind (m_bP (show (1 : Int32) ≠ 0 by decide)), z_1]
theorem op_is (hT : TF T) (hA : AOK A) (hC : RC T μ A) (hM : RM μ A) (s x y : Int32) : OKc T μ (LB wc_L_is (f_X9_is 0 s x y) (f_X10_is 168 s x y)) := by
  have hB := hA.1
  by_cases c : KN (aB A) s x
  · by_cases d : y = 0 ∨ y = 1
    · obtain ⟨th, rfl⟩ : ∃ th, y = bI th := by
        rcases d with d | d
        · exact ⟨false, d⟩
        · exact ⟨true, d⟩
      rcases c.c hB with ⟨rfl, k, k1, k2, rfl⟩ | ⟨rfl, k, k1, k2, rfl⟩
      · by_cases q : hb (bw (aB A)) k = th
        · refine op_is_a hT hA hC hM c ?_ fun ν hν => ?_
          · rw [c_isThere0 bk1 hC.1 hB (show k < 32 by omega), q]
          · rw [m_isThere0 (show k < 32 by omega), show (tz ν).1 172 3 = bw (aB A) from hν.t.1.1.2.2.2.1, q]
        · exact op_is_w hT hA hC hM k1 k2 c (by cases h : hb (bw (aB A)) k <;> cases th <;> simp_all)
      · by_cases q : hb (bt (aB A)) k = th
        · refine op_is_a hT hA hC hM c ?_ fun ν hν => ?_
          · rw [c_isThere1 bk1 hC.1 hB (show k < 32 by omega), q]
          · rw [m_isThere1 (show k < 32 by omega), show (tz ν).1 172 4 = bt (aB A) from hν.t.1.1.2.2.2.2, q]
        · exact op_is_t hT hA hC hM k1 k2 c (by cases h : hb (bt (aB A)) k <;> cases th <;> simp_all)
    · exact op_is_b hT hA hC hM c d
  · exact op_is_p hT hA hC hM c
end O10
