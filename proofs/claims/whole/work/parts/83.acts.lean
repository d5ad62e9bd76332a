/-! ACTS: helpers; the model's changes of row 0 -/
section Ac
variable {T : MM → Bk → Prop} {μ : MM} {A : AS}
theorem CX_K (hT : TF T) (h : RC T μ A) (hA : AOK A) {o : Option ((Int32 ⊕ String) × xH)} {v : Int32} {B2 : Bk} (hB2 : BOK B2)
    (e : ∀ ν1, f_X9_beginAct 0 (mem μ) = some (mem ν1) → BC ν1 1 (aB A) → ∃ ν2, BC ν2 1 B2 ∧ Fr (FB 1) ν1 ν2 ∧ ∀ ν3, f_X9_keepUp 0 (mem ν2) = some (mem ν3) → o = some (.inl v, mem ν3)) : CX T μ o (SK A v B2) := by
  obtain ⟨ν1, e1, b1, h1, t1, f1⟩ := c_beginAct h hA
  obtain ⟨ν2, b2, f2, e2⟩ := e ν1 e1 b1
  obtain ⟨ν3, B', e3, b3, k3, f3⟩ := c_keepUp b2 hB2
  have f23 : Fr (fun q i => FS q i ∨ FB 1 q i) ν1 ν3 := (f2.mono fun q i z => Or.inr z).trans f3
  have ff : Fr (fun q i => FS q i ∨ FB 1 q i ∨ FH q i ∨ (q = 0 ∧ i = 9)) μ ν3 := (f1.mono fun q i z => Or.inr (Or.inr z)).trans (f23.mono fun q i z => z.elim Or.inl fun y => Or.inr (Or.inl y))
  refine ⟨_, ν3, wAct A B', e2 ν3 e3, ff.mono fun q i z => by unfold FS FB FH at z; unfold CL; omega, h.act hT b3 (h1.fr f23 fun q i a z => by unfold FH at a; unfold FS FB at z; omega) ?_ ff, wAct_ok hA (k3.ok hB2), rfl, B', k3, rfl⟩
  rw [(f23 _ _ (by unfold FS FB; omega)).1]; exact t1
theorem MX_K (h : RM μ A) {o : Option (Int32 × xH)} {wc : String → Option Int32} {v : Int32} {B2 : Bk} (hB2 : BOK B2)
    (e : ∀ ν1, f_X10_remembers 168 (mem (tz μ)) = some (mem ν1) → MR ν1 0 (aB A) → ∃ ν2, MR ν2 0 B2 ∧ Fr (FR 0) ν1 ν2 ∧ ∀ ν3, f_X10_keeps 168 (mem ν2) = some (mem ν3) → o = some (v, mem ν3)) : MX μ o wc (SK A v B2) := by
  obtain ⟨ν1, e1, h1, b1, f1⟩ := m_remember h.t
  obtain ⟨ν2, b2, f2, e2⟩ := e ν1 e1 b1
  obtain ⟨ν3, B', e3, b3, k3, f3⟩ := m_keeps b2 hB2
  have f3' : Fr (fun q i => FR 0 q i ∨ QM q i) ν2 ν3 := f3.mono fun q i z => by have := z.Q; unfold FR QM; omega
  have f23 : Fr (fun q i => FR 0 q i ∨ QM q i) ν1 ν3 := (f2.mono fun q i z => Or.inl z).trans f3'
  have ff : Fr (fun q i => FM q i ∨ FR 0 q i ∨ QM q i) (tz μ) ν3 := (f1.mono fun q i z => Or.inl z).trans (f23.mono fun q i z => Or.inr z)
  have hh : HM ν3 (hpush (aH A) (aB A)) := by
    refine (h1.fr f2 (by unfold FR; omega) (fun r q i a b c => by unfold FR at c ⊢; omega)).fr f3 (fun z => by have := z.Q; omega) (fun r q i a b c z => by have := z.Q; unfold FR at c; omega)
  refine ⟨v, _, ν3, wAct A B', e2 ν3 e3, (t0_ML.trans (ff.mono fun q i z => ?_)), h.t.act b3 hh ff, ⟨rfl, B', k3, rfl⟩, ?_, rfl⟩
  · rcases z with z | z | z
    · rcases z with z | ⟨r, z1, z2, z3⟩
      · unfold ML; omega
      · unfold FR at z3; unfold ML; omega
    · unfold FR at z; unfold ML; omega
    · exact z.L
  · rw [(f3 _ _ (fun z => by have := z.Q; omega)).1, (f2 _ _ (by unfold FR; omega)).1, (f1 _ _ (by
      rintro (z | ⟨r, z1, z2, z3⟩)
      · omega
      · unfold FR at z3; omega)).1]
    exact t0_0
end Ac
section Mr0
variable {μ : MM} {B : Bk}
theorem MR.wF (h : MR μ 0 B) {w t c : Nat} (hw : w < 12) (ht : t < 12) : MR (st (st μ 191 w (bf B w ||| ((1 : Int32) <<< (Int32.ofNat t &&& 31)))) (249 + w) t (Int32.ofNat c)) 0 (wF B w t c) := by
  obtain ⟨⟨h0, h1, h2, h3, h4⟩, h5, h6, h7, h8⟩ := h
  refine ⟨⟨?_, ?_, ?_, ?_, ?_⟩, fun x hx => ?_, fun x hx => ?_, fun x hx => ?_, fun x s hx hs q => ?_⟩
  · rw [st_ne (Or.inl (by omega)), st_ne (Or.inl (by omega))]; exact h0
  · rw [st_ne (Or.inl (by omega)), st_ne (Or.inl (by omega))]; exact h1
  · rw [st_ne (Or.inl (by omega)), st_ne (Or.inl (by omega))]; exact h2
  · rw [st_ne (Or.inl (by omega)), st_ne (Or.inl (by omega))]; exact h3
  · rw [st_ne (Or.inl (by omega)), st_ne (Or.inl (by omega))]; exact h4
  · rw [st_ne (Or.inl (by omega)), st_at]
    show _ = if x = w then bf B w ||| ((1 : Int32) <<< (Int32.ofNat t &&& 31)) else bf B x
    by_cases z : x = w
    · rw [if_pos ⟨rfl, z⟩, if_pos z]
    · rw [if_neg (fun y => z y.2), if_neg z]; exact h5 x hx
  · rw [st_ne (Or.inl (by omega)), st_ne (Or.inl (by omega))]; exact h6 x hx
  · rw [st_ne (Or.inl (by omega)), st_ne (Or.inl (by omega))]; exact h7 x hx
  · rw [wF_hb ht] at q
    rw [st_at]
    show _ = Int32.ofNat (if x = w ∧ s = t then c else bc B x s)
    by_cases z : x = w ∧ s = t
    · rw [if_pos (by omega), if_pos z]
    · rw [if_neg (by omega), if_neg z, st_ne (Or.inl (by omega))]
      refine h8 x s hx hs ?_
      rcases (Bool.or_eq_true _ _).mp q with y | y
      · exact y
      · simp only [Bool.and_eq_true, decide_eq_true_eq] at y; exact absurd y z
theorem MR.wE (h : MR μ 0 B) {w v : Nat} (hw : w < 12) : MR (st μ 229 w (Int32.ofNat v)) 0 (wE B w v) := by
  obtain ⟨⟨h0, h1, h2, h3, h4⟩, h5, h6, h7, h8⟩ := h
  refine ⟨⟨?_, ?_, ?_, ?_, ?_⟩, fun x hx => ?_, fun x hx => ?_, fun x hx => ?_, fun x s hx hs q => ?_⟩
  · rw [st_ne (Or.inl (by omega))]; exact h0
  · rw [st_ne (Or.inl (by omega))]; exact h1
  · rw [st_ne (Or.inl (by omega))]; exact h2
  · rw [st_ne (Or.inl (by omega))]; exact h3
  · rw [st_ne (Or.inl (by omega))]; exact h4
  · rw [st_ne (Or.inl (by omega))]; exact h5 x hx
  · rw [st_ne (Or.inl (by omega))]; exact h6 x hx
  · rw [st_at]
    show _ = Int32.ofNat (up (be B) w v x)
    by_cases z : x = w
    · rw [if_pos ⟨rfl, z⟩, z, up_same]
    · rw [if_neg (fun y => z y.2), up_ne z]; exact h7 x hx
  · rw [st_ne (Or.inl (by omega))]; exact h8 x s hx hs q
theorem MR.wk (h : MR μ 0 B) {k : Nat} : MR (st μ 172 2 (Int32.ofNat k)) 0 (wk B k) := by
  obtain ⟨⟨h0, h1, h2, h3, h4⟩, h5, h6, h7, h8⟩ := h
  refine ⟨⟨?_, ?_, ?_, ?_, ?_⟩, fun x hx => ?_, fun x hx => ?_, fun x hx => ?_, fun x s hx hs q => ?_⟩
  · rw [st_ne (Or.inr (by omega))]; exact h0
  · rw [st_ne (Or.inr (by omega))]; exact h1
  · exact st_same _ _ _ _
  · rw [st_ne (Or.inr (by omega))]; exact h3
  · rw [st_ne (Or.inr (by omega))]; exact h4
  · rw [st_ne (Or.inl (by omega))]; exact h5 x hx
  · rw [st_ne (Or.inl (by omega))]; exact h6 x hx
  · rw [st_ne (Or.inl (by omega))]; exact h7 x hx
  · rw [st_ne (Or.inl (by omega))]; exact h8 x s hx hs q
/-- one worker's mate is another -/
theorem MR.mate (h : MR μ 0 B) {w t : Nat} {v : Int32} (hv : v = eI t) : MR (st μ 210 w v) 0 (wM B (up (bM B) w t)) := by
  have f : Fr (fun q _ => q = 210) μ (st μ 210 w v) := (Fr.refl (fun q _ => q = 210) _).st rfl
  refine h.pairs f (fun q i a b c => b c) (fun x hx => ?_)
  rw [st_at]
  by_cases z : x = w
  · rw [if_pos ⟨rfl, z⟩, z, up_same]; exact hv
  · rw [if_neg (fun y => z y.2), up_ne z]; exact h.2.2.1 x hx
end Mr0
section O3
variable {T : MM → Bk → Prop} {μ : MM} {A : AS}
/-- 0 to 99 -/
theorem in99 {x : Int32} : (0 ≤ x ∧ x ≤ 99) ↔ ∃ c, c ≤ 99 ∧ x = Int32.ofNat c := by
  have := inN_iff (n := 100) (x := x) (by omega)
  have e : (x ≤ 99) ↔ x < Int32.ofNat 100 := by
    rcases i32_cases x with q | ⟨k, hk, rfl⟩
    · exact ⟨fun _ => Int32.lt_of_lt_of_le q (by decide), fun _ => Int32.le_of_lt (Int32.lt_of_lt_of_le q (by decide))⟩
    · rw [show (99 : Int32) = Int32.ofNat 99 from rfl, oN_le hk (by omega), oN_lt hk (by omega)]; omega
  rw [e, this]
  constructor
  · rintro ⟨k, a, b⟩; exact ⟨k, by omega, b⟩
  · rintro ⟨k, a, b⟩; exact ⟨k, by omega, b⟩
theorem m_in99 {c : Nat} (hc : c ≤ 99) {h : xH} : f_X10_in (Int32.ofNat c) 0 99 h = some (1, h) := by
  rw [m_in, decide_eq_true (in99.mpr ⟨c, hc, rfl⟩)]; rfl
theorem m_out99 {x : Int32} (hc : ¬ (0 ≤ x ∧ x ≤ 99)) {h : xH} : f_X10_in x 0 99 h = some (0, h) := by
  rw [m_in, decide_eq_false hc]; rfl
theorem op_add (hT : TF T) (hA : AOK A) (hC : RC T μ A) (hM : RM μ A) (x y z : Int32) : OKc T μ (LB wc_L_add (f_X9_add 0 x y z) (f_X10_add 168 x y z)) := by
  have hB := hA.1
  by_cases c : KN (aB A) 0 x
  · by_cases d : KN (aB A) 1 y
    · obtain ⟨w, w1, w2, rfl⟩ := c.w hB
      obtain ⟨t, t1, t2, rfl⟩ := d.t hB
      by_cases e : 0 ≤ z ∧ z ≤ 99
      · obtain ⟨k, k1, rfl⟩ := in99.mp e
        have n1 : ¬ (Int32.ofNat k < 0) := by rw [oN_l0 (by omega)]; exact id
        have n2 : ¬ (Int32.ofNat k > 99) := by rw [lgt_99 (by omega)]; omega
        have hB2 := wF_ok hB w1 t1 k1
        refine LB_ok hT hM (SK.uq (A := A) (v := if hb (bf (aB A) w) t then Int32.ofNat (bc (aB A) w t) else -1) (B := wF (aB A) w t k)) (CX_K hT hC hA hB2 fun ν1 e1 b1 => ?_) (fun ν hν => MX_K hν hB2 fun ν1 e1 b1 => ?_)
        · obtain ⟨ν2, e2, b2, f2⟩ := c_setFit bk1 b1 w2 t2 (c := k)
          refine ⟨ν2, b2, f2, fun ν3 e3 => ?_⟩
          simp only [f_X9_add, f_X9_add_J29, f_X9_add_J28, vc_0, gR_0_0, gR_0_1, gR_0_2, gR_0_3, gR_0_4, gR_0_5, gR_0_6, gR_0_7, gR_0_8, gI_0_9, pI_0_9, gI_0_10, pI_0_10, gI_0_11, pI_0_11, bk_v bk1, c_kb bk1 hC.1 hB, pb_1 c, pb_1 d, Bool.and_self, show bI true = 1 from rfl, c_dp1, c_da1, thr, if_neg n1, if_neg n2, e1, c_costOf bk1 b1 w2 t2, e2, e3, Option.bind_some]
        · refine ⟨_, b1.wF w2 t2, ((Fr.refl _ _).st (by unfold FR; omega)).st (by unfold FR; omega), fun ν3 e3 => ?_⟩
          have ef := m_isFit b1 w2 (show t < 32 by omega)
          have e5 : ν1.1 191 w = bf (aB A) w := b1.2.1 w w2
          cases q : hb (bf (aB A) w) t with
          | false =>
            rw [q] at ef
            simp only [f_X10_add, f_X10_add_J90, f_X10_add_J61, f_X10_add_J53, f_X10_add_J29, f_X10_add_J24, pI_t0, vc_168, gI_168_0, gR_168_1, gI_168_2, pI_168_2, gI_168_3, pI_168_3, gI_168_4, pI_168_4, gI_168_5, pI_168_5, gI_168_6, pI_168_6, gI_168_7, pI_168_7, gR_168_8, gR_168_9, gR_168_10, gR_168_11, gR_168_12, gR_168_13, gI_168_14, pI_168_14, gI_168_15, pI_168_15, gI_168_16, pI_168_16, gR_168_17, gI_168_18, pI_168_18, gR_168_19, gI_168_20, pI_168_20, gI_168_21, pI_168_21, gI_168_22, pI_168_22, gI_168_23, pI_168_23, gR_168_24, gR_168_25, gI_168_26, pI_168_26, gI_168_27, pI_168_27, gR_168_28, gI_168_29, pI_168_29, gI_168_30, pI_168_30, gI_168_31, pI_168_31, gR_168_32, gR_168_33, gR_168_34, gR_168_35, gR_168_36, gR_168_37, gR_168_38, mr_h0, mr_f0, mr_m0, mr_w0, mr_c0, mc_c0, mc_a0, mc_s0, mh_a0_0, mh_s0_0, mh_a0_1, mh_s0_1, mh_a0_2, mh_s0_2, mh_a0_3, mh_s0_3, mh_a0_4, mh_s0_4, ma_f0, ms_f0, ma_m0, ms_m0, ma_w0, ms_w0, m_isOne hν.t.1 hB, pb_1 c, pb_1 d, bI_0, Bool.true_eq_false, if_false, m_b0t, if_true, m_in99 k1, z_1, e1, ef, ma_f0 w2, ms_f0 w2, e5, mc_c0 w2, mc_s0 w2 t2, e3, Option.bind_some]
            rfl
          | true =>
            rw [q] at ef
            have ec := m_cost b1 w2 t2 q
            simp only [f_X10_add, f_X10_add_J90, f_X10_add_J61, f_X10_add_J53, f_X10_add_J29, f_X10_add_J24, pI_t0, vc_168, gI_168_0, gR_168_1, gI_168_2, pI_168_2, gI_168_3, pI_168_3, gI_168_4, pI_168_4, gI_168_5, pI_168_5, gI_168_6, pI_168_6, gI_168_7, pI_168_7, gR_168_8, gR_168_9, gR_168_10, gR_168_11, gR_168_12, gR_168_13, gI_168_14, pI_168_14, gI_168_15, pI_168_15, gI_168_16, pI_168_16, gR_168_17, gI_168_18, pI_168_18, gR_168_19, gI_168_20, pI_168_20, gI_168_21, pI_168_21, gI_168_22, pI_168_22, gI_168_23, pI_168_23, gR_168_24, gR_168_25, gI_168_26, pI_168_26, gI_168_27, pI_168_27, gR_168_28, gI_168_29, pI_168_29, gI_168_30, pI_168_30, gI_168_31, pI_168_31, gR_168_32, gR_168_33, gR_168_34, gR_168_35, gR_168_36, gR_168_37, gR_168_38, mr_h0, mr_f0, mr_m0, mr_w0, mr_c0, mc_c0, mc_a0, mc_s0, mh_a0_0, mh_s0_0, mh_a0_1, mh_s0_1, mh_a0_2, mh_s0_2, mh_a0_3, mh_s0_3, mh_a0_4, mh_s0_4, ma_f0, ms_f0, ma_m0, ms_m0, ma_w0, ms_w0, m_isOne hν.t.1 hB, pb_1 c, pb_1 d, bI_0, Bool.true_eq_false, if_false, m_b0t, if_true, m_in99 k1, z_1, e1, ef, ma_f0 w2, ms_f0 w2, e5, mc_c0 w2, mc_a0 w2 t2, ec, mc_s0 w2 t2, e3, Option.bind_some]
      · refine LB_ok hT hM (SA.uq (A := A)) (CX_A hT hC hA fun ν e1 => ?_) (fun ν hν => MX_A hν (w := 2) (b := 0) rfl (by decide) ?_)
        · have n3 : f_X9_add_J28 0 (Int32.ofNat w) (Int32.ofNat t) z 0 (mem μ) = some (.inr IAE, mem ν) := by
            simp only [f_X9_add_J29, f_X9_add_J28, vc_0, gR_0_0, gR_0_1, gR_0_2, gR_0_3, gR_0_4, gR_0_5, gR_0_6, gR_0_7, gR_0_8, gI_0_9, pI_0_9, gI_0_10, pI_0_10, gI_0_11, pI_0_11, e1, thr, Option.bind_some]
          simp only [f_X9_add, vc_0, gR_0_0, gR_0_1, gR_0_2, gR_0_3, gR_0_4, gR_0_5, gR_0_6, gR_0_7, gR_0_8, gI_0_9, pI_0_9, gI_0_10, pI_0_10, gI_0_11, pI_0_11, bk_v bk1, c_kb bk1 hC.1 hB, pb_1 c, pb_1 d, Bool.and_self, show bI true = 1 from rfl, c_dp1, thr, Option.bind_some]
          by_cases n1 : z < 0
          · rw [if_pos n1]; exact n3
          · rw [if_neg n1]
            by_cases n2 : z > 99
            · rw [if_pos n2]; exact n3
            · exact absurd ⟨Int32.not_lt.mp n1, Int32.not_lt.mp n2⟩ e
        · simp only [f_X10_add, f_X10_add_J90, f_X10_add_J61, f_X10_add_J53, f_X10_add_J29, f_X10_add_J24, pI_t0, vc_168, gI_168_0, gR_168_1, gI_168_2, pI_168_2, gI_168_3, pI_168_3, gI_168_4, pI_168_4, gI_168_5, pI_168_5, gI_168_6, pI_168_6, gI_168_7, pI_168_7, gR_168_8, gR_168_9, gR_168_10, gR_168_11, gR_168_12, gR_168_13, gI_168_14, pI_168_14, gI_168_15, pI_168_15, gI_168_16, pI_168_16, gR_168_17, gI_168_18, pI_168_18, gR_168_19, gI_168_20, pI_168_20, gI_168_21, pI_168_21, gI_168_22, pI_168_22, gI_168_23, pI_168_23, gR_168_24, gR_168_25, gI_168_26, pI_168_26, gI_168_27, pI_168_27, gR_168_28, gI_168_29, pI_168_29, gI_168_30, pI_168_30, gI_168_31, pI_168_31, gR_168_32, gR_168_33, gR_168_34, gR_168_35, gR_168_36, gR_168_37, gR_168_38, m_isOne hν.t.1 hB, pb_1 c, pb_1 d, bI_0, Bool.true_eq_false, if_false, m_b0t, if_true, m_out99 e, m_bA (show (2 : Int32) ≠ 0 by decide), z_1, Option.bind_some]
    · refine LB_ok hT hM (SP.uq (A := A)) (CX_P hT hC hA fun ν e => ?_) (fun ν hν => MX_P hν (w := 1) (b := 0) rfl (by decide) ?_)
      · simp only [f_X9_add, vc_0, gR_0_0, gR_0_1, gR_0_2, gR_0_3, gR_0_4, gR_0_5, gR_0_6, gR_0_7, gR_0_8, gI_0_9, pI_0_9, gI_0_10, pI_0_10, gI_0_11, pI_0_11, bk_v bk1, c_kb bk1 hC.1 hB, pb_f d, Bool.and_false, show bI false = 0 from rfl, e, thr, Option.bind_some]
      · simp only [f_X10_add, f_X10_add_J90, f_X10_add_J61, f_X10_add_J53, f_X10_add_J29, f_X10_add_J24, pI_t0, vc_168, gI_168_0, gR_168_1, gI_168_2, pI_168_2, gI_168_3, pI_168_3, gI_168_4, pI_168_4, gI_168_5, pI_168_5, gI_168_6, pI_168_6, gI_168_7, pI_168_7, gR_168_8, gR_168_9, gR_168_10, gR_168_11, gR_168_12, gR_168_13, gI_168_14, pI_168_14, gI_168_15, pI_168_15, gI_168_16, pI_168_16, gR_168_17, gI_168_18, pI_168_18, gR_168_19, gI_168_20, pI_168_20, gI_168_21, pI_168_21, gI_168_22, pI_168_22, gI_168_23, pI_168_23, gR_168_24, gR_168_25, gI_168_26, pI_168_26, gI_168_27, pI_168_27, gR_168_28, gI_168_29, pI_168_29, gI_168_30, pI_168_30, gI_168_31, pI_168_31, gR_168_32, gR_168_33, gR_168_34, gR_168_35, gR_168_36, gR_168_37, gR_168_38, m_isOne hν.t.1 hB, pb_1 c, pb_f d, bI_0, Bool.true_eq_false, if_true, m_bP (show (1 : Int32) ≠ 0 by decide), z_1, if_false, Option.bind_some]
  · refine LB_ok hT hM (SP.uq (A := A)) (CX_P hT hC hA fun ν e => ?_) (fun ν hν => MX_P hν (w := 1) (b := 0) rfl (by decide) ?_)
    · simp only [f_X9_add, vc_0, gR_0_0, gR_0_1, gR_0_2, gR_0_3, gR_0_4, gR_0_5, gR_0_6, gR_0_7, gR_0_8, gI_0_9, pI_0_9, gI_0_10, pI_0_10, gI_0_11, pI_0_11, bk_v bk1, c_kb bk1 hC.1 hB, pb_f c, Bool.false_and, show bI false = 0 from rfl, e, thr, Option.bind_some]
    · simp only [f_X10_add, f_X10_add_J90, f_X10_add_J61, f_X10_add_J53, f_X10_add_J29, f_X10_add_J24, pI_t0, vc_168, gI_168_0, gR_168_1, gI_168_2, pI_168_2, gI_168_3, pI_168_3, gI_168_4, pI_168_4, gI_168_5, pI_168_5, gI_168_6, pI_168_6, gI_168_7, pI_168_7, gR_168_8, gR_168_9, gR_168_10, gR_168_11, gR_168_12, gR_168_13, gI_168_14, pI_168_14, gI_168_15, pI_168_15, gI_168_16, pI_168_16, gR_168_17, gI_168_18, pI_168_18, gR_168_19, gI_168_20, pI_168_20, gI_168_21, pI_168_21, gI_168_22, pI_168_22, gI_168_23, pI_168_23, gR_168_24, gR_168_25, gI_168_26, pI_168_26, gI_168_27, pI_168_27, gR_168_28, gI_168_29, pI_168_29, gI_168_30, pI_168_30, gI_168_31, pI_168_31, gR_168_32, gR_168_33, gR_168_34, gR_168_35, gR_168_36, gR_168_37, gR_168_38, m_isOne hν.t.1 hB, pb_f c, bI_0, if_true, m_bP (show (1 : Int32) ≠ 0 by decide), z_1, if_false, Option.bind_some]
end O3
