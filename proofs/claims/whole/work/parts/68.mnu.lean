/-! THE MODEL: moves, nu -/
def Fk (q i : Nat) : Prop := q = 486 ∨ (q = 168 ∧ i = 29)
/-- tookBy and triedTasks -/
def KS (μ : MM) (V : Nat → Nat) (x : Int32) : Prop := (∀ t, t < 12 → μ.1 486 t = eI (V t)) ∧ μ.1 168 29 = x
/-- the model's rows as a graph, whoever its workers are -/
def MG (μ : MM) (Wt : Int32) (E : Nat → Nat → Bool) : Prop := μ.1 172 3 = Wt ∧ ∀ w, w < 12 → hb Wt w = true → ∀ k, hb (μ.1 191 w &&& μ.1 172 4) k = E w k
theorem MG.fr {μ ν : MM} {Wt : Int32} {E : Nat → Nat → Bool} (h : MG μ Wt E) (f : Fr Fk μ ν) : MG ν Wt E := by
  refine ⟨by rw [(f _ _ (by unfold Fk; omega)).1]; exact h.1, fun w hw ht k => ?_⟩
  rw [(f _ _ (by unfold Fk; omega)).1, (f _ _ (by unfold Fk; omega)).1]; exact h.2 w hw ht k
theorem KG.weak {E : Nat → Nat → Bool} {V V' : Nat → Nat} {w : Nat} {X Y : Nat → Bool} (g : KG E V w Y V') (h : ∀ t, X t = true → Y t = true) : KG E V w X V' := by
  obtain ⟨a1, a2, a3, ⟨t0, b1, b2, b3⟩, a5, a6, a7⟩ := g
  refine ⟨a1, fun t q => a2 t (h t q), a3, ⟨t0, b1, ?_, b3⟩, a5, a6, a7⟩
  cases q : X t0 with
  | false => rfl
  | true => rw [h t0 q] at b2; cases b2
section Mv
variable {E : Nat → Nat → Bool} {Wt : Int32}
theorem m_moves (hE : Eb E) (hW : ∀ w t, E w t = true → hb Wt w = true) : ∀ (d : Nat) {μ : MM} {V : Nat → Nat} {x : Int32} {w : Nat}, MG μ Wt E → KS μ V x → KV E V → KI V → w < 12 → hb Wt w = true → (∀ t, V t = w → hb x t = true) → cnt (fun t => !hb x t) 12 < d →
    Hw (f_X10_moves d 168 (Int32.ofNat w) (mem μ)) (fun r => ∃ ν x', r.2 = mem ν ∧ Fr Fk μ ν ∧
      ((r.1 = 0 ∧ KS ν V x' ∧ KF E V w (hb x) (hb x')) ∨ (∃ V', r.1 = 1 ∧ KS ν V' x' ∧ KG E V w (hb x) V')))
  | 0, _, _, _, _, _, _, _, _, _, _, _, hd => absurd hd (Nat.not_lt_zero _)
  | d + 1, μ, V, x, w, hG, hS, hV, hI, hw, ht, ho, hd => by
    show Hw (f_X10_moves_L2 (f_X10_moves d) (f_X10_moves_J84 (f_X10_moves d)) (f_X10_moves_J99 (f_X10_moves d)) 5000 168 (Int32.ofNat w) (Int32.ofNat 0) (mem μ)) _
    refine hw_for (L := fun i t (s : MM × Int32) => f_X10_moves_L2 (f_X10_moves d) (f_X10_moves_J84 (f_X10_moves d)) (f_X10_moves_J99 (f_X10_moves d)) i 168 (Int32.ofNat w) t (mem s.1)) (s0 := (μ, x)) 12 (fun t s => Fr Fk μ s.1 ∧ KS s.1 V s.2 ∧ (∀ a, hb x a = true → hb s.2 a = true) ∧ (∀ a, a < t → E w a = true → hb s.2 a = true) ∧ ∀ a, hb s.2 a = true → hb x a = true ∨ (V a < 12 ∧ ∀ b, E (V a) b = true → hb s.2 b = true)) ⟨Fr.refl _ _, hS, fun _ q => q, fun a ha => absurd ha (Nat.not_lt_zero _), fun a q => Or.inl q⟩ (by decide) (fun t h12 s hs => ?_) (fun s hs i => ?_)
    · obtain ⟨ν, y⟩ := s
      obtain ⟨a1, a2, a3, a4, a5⟩ := hs
      simp only at a1 a2 a3 a4 a5
      have hG' := hG.fr a1
      have row := hG'.2 w hw ht t
      cases e : E w t with
      | false =>
        left
        rw [e] at row
        refine ⟨(ν, y), ⟨a1, a2, a3, fun a ha he => ?_, a5⟩, fun i => ?_⟩
        · by_cases z : a = t
          · rw [z, e] at he; cases he
          · exact a4 a (by omega) he
        · simp (disch := omega) only [f_X10_moves_L2, f_X10_moves_J99, f_X10_moves_J84, f_X10_moves_J93, vc_168, gI_168_0, pI_168_0, gR_168_1, gI_168_2, pI_168_2, gI_168_3, pI_168_3, gI_168_4, pI_168_4, gI_168_5, pI_168_5, gI_168_6, pI_168_6, gI_168_7, pI_168_7, gR_168_8, gR_168_9, gR_168_10, gR_168_11, gR_168_12, gR_168_13, gI_168_14, pI_168_14, gI_168_15, pI_168_15, gI_168_16, pI_168_16, gR_168_17, gI_168_18, pI_168_18, gR_168_19, gI_168_20, pI_168_20, gI_168_21, pI_168_21, gI_168_22, pI_168_22, gI_168_23, pI_168_23, gR_168_24, gR_168_25, gI_168_26, pI_168_26, gI_168_27, pI_168_27, gR_168_28, gI_168_29, pI_168_29, gI_168_30, pI_168_30, gI_168_31, pI_168_31, gR_168_32, gR_168_33, gR_168_34, gR_168_35, gR_168_36, gR_168_37, gR_168_38, mr_h0, mr_f0, mr_m0, mr_w0, mr_c0, mc_c0, mc_a0, mc_s0, mh_a0_0, mh_s0_0, mh_a0_1, mh_s0_1, mh_a0_2, mh_s0_2, mh_a0_3, mh_s0_3, mh_a0_4, mh_s0_4, ma_f0, ms_f0, ma_m0, ms_m0, ma_w0, ms_w0, m_has, row, lt, true_or, or_true, false_or, or_false, Option.bind_some, if_true, if_false, bI_0, bI_1, bI_z, eI_n1, eI_l0, eI_g12, oN_n1, oN_l0, oN_g0, n1_l0, n1_g12, n1_0, n1_n1, z_0, z_1, z_2, z_3, z_4, z_5, z_6, z_7, z_8, z_9, z_a, z_b, z_c, z_d, z_e, z_f, oN_inj, oN_lt, oN_gt, oN_ge, oN_le, i_succ, if_pos, if_neg, c_has, c_bit, Bool.true_eq_false, Bool.false_eq_true, decide_true, decide_false, decide_eq_true_eq, decide_eq_false_iff_not, eI_lt, lle_0, lge_0, llt_0, lgt_0, leq_0, lle_1, lge_1, llt_1, lgt_1, leq_1, lle_2, lge_2, llt_2, lgt_2, leq_2, lle_3, lge_3, llt_3, lgt_3, leq_3, lle_4, lge_4, llt_4, lgt_4, leq_4, lle_5, lge_5, llt_5, lgt_5, leq_5, lle_6, lge_6, llt_6, lgt_6, leq_6, lle_7, lge_7, llt_7, lgt_7, leq_7, lle_11, lge_11, llt_11, lgt_11, leq_11, lle_12, lge_12, llt_12, lgt_12, leq_12, lle_15, lge_15, llt_15, lgt_15, leq_15, lle_20, lge_20, llt_20, lgt_20, leq_20, lle_24, lge_24, llt_24, lgt_24, leq_24, lle_25, lge_25, llt_25, lgt_25, leq_25, lle_31, lge_31, llt_31, lgt_31, leq_31, lle_48, lge_48, llt_48, lgt_48, leq_48, lle_57, lge_57, llt_57, lgt_57, leq_57, lle_32, lge_32, llt_32, lgt_32, leq_32, lle_59, lge_59, llt_59, lgt_59, leq_59, lle_97, lge_97, llt_97, lgt_97, leq_97, lle_122, lge_122, llt_122, lgt_122, leq_122, lle_99, lge_99, llt_99, lgt_99, leq_99, lle_100, lge_100, llt_100, lgt_100, leq_100, lle_144, lge_144, llt_144, lgt_144, leq_144, lle_255, lge_255, llt_255, lgt_255, leq_255, lle_300, lge_300, llt_300, lgt_300, leq_300, lle_1000, lge_1000, llt_1000, lgt_1000, leq_1000, lle_1000000, lge_1000000, llt_1000000, lgt_1000000, leq_1000000, lle_4096, lge_4096, llt_4096, lgt_4096, leq_4096, b_ft]
      | true =>
        rw [e] at row
        have y29 : ν.1 168 29 = y := a2.2
        cases ey : hb y t with
        | true =>
          left
          refine ⟨(ν, y), ⟨a1, a2, a3, fun a ha he => ?_, a5⟩, fun i => ?_⟩
          · by_cases z : a = t
            · rw [z]; exact ey
            · exact a4 a (by omega) he
          · simp (disch := omega) only [f_X10_moves_L2, f_X10_moves_J99, f_X10_moves_J84, f_X10_moves_J93, vc_168, gI_168_0, pI_168_0, gR_168_1, gI_168_2, pI_168_2, gI_168_3, pI_168_3, gI_168_4, pI_168_4, gI_168_5, pI_168_5, gI_168_6, pI_168_6, gI_168_7, pI_168_7, gR_168_8, gR_168_9, gR_168_10, gR_168_11, gR_168_12, gR_168_13, gI_168_14, pI_168_14, gI_168_15, pI_168_15, gI_168_16, pI_168_16, gR_168_17, gI_168_18, pI_168_18, gR_168_19, gI_168_20, pI_168_20, gI_168_21, pI_168_21, gI_168_22, pI_168_22, gI_168_23, pI_168_23, gR_168_24, gR_168_25, gI_168_26, pI_168_26, gI_168_27, pI_168_27, gR_168_28, gI_168_29, pI_168_29, gI_168_30, pI_168_30, gI_168_31, pI_168_31, gR_168_32, gR_168_33, gR_168_34, gR_168_35, gR_168_36, gR_168_37, gR_168_38, mr_h0, mr_f0, mr_m0, mr_w0, mr_c0, mc_c0, mc_a0, mc_s0, mh_a0_0, mh_s0_0, mh_a0_1, mh_s0_1, mh_a0_2, mh_s0_2, mh_a0_3, mh_s0_3, mh_a0_4, mh_s0_4, ma_f0, ms_f0, ma_m0, ms_m0, ma_w0, ms_w0, m_has, row, y29, ey, lt, true_or, or_true, false_or, or_false, Option.bind_some, if_true, if_false, bI_0, bI_1, bI_z, eI_n1, eI_l0, eI_g12, oN_n1, oN_l0, oN_g0, n1_l0, n1_g12, n1_0, n1_n1, z_0, z_1, z_2, z_3, z_4, z_5, z_6, z_7, z_8, z_9, z_a, z_b, z_c, z_d, z_e, z_f, oN_inj, oN_lt, oN_gt, oN_ge, oN_le, i_succ, if_pos, if_neg, c_has, c_bit, Bool.true_eq_false, Bool.false_eq_true, decide_true, decide_false, decide_eq_true_eq, decide_eq_false_iff_not, eI_lt, lle_0, lge_0, llt_0, lgt_0, leq_0, lle_1, lge_1, llt_1, lgt_1, leq_1, lle_2, lge_2, llt_2, lgt_2, leq_2, lle_3, lge_3, llt_3, lgt_3, leq_3, lle_4, lge_4, llt_4, lgt_4, leq_4, lle_5, lge_5, llt_5, lgt_5, leq_5, lle_6, lge_6, llt_6, lgt_6, leq_6, lle_7, lge_7, llt_7, lgt_7, leq_7, lle_11, lge_11, llt_11, lgt_11, leq_11, lle_12, lge_12, llt_12, lgt_12, leq_12, lle_15, lge_15, llt_15, lgt_15, leq_15, lle_20, lge_20, llt_20, lgt_20, leq_20, lle_24, lge_24, llt_24, lgt_24, leq_24, lle_25, lge_25, llt_25, lgt_25, leq_25, lle_31, lge_31, llt_31, lgt_31, leq_31, lle_48, lge_48, llt_48, lgt_48, leq_48, lle_57, lge_57, llt_57, lgt_57, leq_57, lle_32, lge_32, llt_32, lgt_32, leq_32, lle_59, lge_59, llt_59, lgt_59, leq_59, lle_97, lge_97, llt_97, lgt_97, leq_97, lle_122, lge_122, llt_122, lgt_122, leq_122, lle_99, lge_99, llt_99, lgt_99, leq_99, lle_100, lge_100, llt_100, lgt_100, leq_100, lle_144, lge_144, llt_144, lgt_144, leq_144, lle_255, lge_255, llt_255, lgt_255, leq_255, lle_300, lge_300, llt_300, lgt_300, leq_300, lle_1000, lge_1000, llt_1000, lgt_1000, leq_1000, lle_1000000, lge_1000000, llt_1000000, lgt_1000000, leq_1000000, lle_4096, lge_4096, llt_4096, lgt_4096, leq_4096, b_ft]
        | false =>
          -- t is tried now
          have hx : hb x t = false := by
            cases q : hb x t with
            | false => rfl
            | true => rw [a3 t q] at ey; cases ey
          have hvw : V t ≠ w := fun z => by rw [ho t z] at hx; cases hx
          let y1 := y ||| ((1 : Int32) <<< (Int32.ofNat t &&& 31))
          have y1b : ∀ a, hb y1 a = (hb y a || decide (a = t)) := fun a => by rw [hb_or, hb_bit a (by omega)]
          let ν1 := st ν 168 29 y1
          have f1 : Fr Fk μ ν1 := a1.st (Or.inr ⟨rfl, rfl⟩)
          have s1 : KS ν1 V y1 := ⟨fun a ha => by rw [st_ne (Or.inl (by omega))]; exact a2.1 a ha, st_same _ _ _ _⟩
          have v28 : (st ν 168 29 (y ||| ((1 : Int32) <<< (Int32.ofNat t &&& 31)))).1 486 t = eI (V t) := s1.1 t h12
          have vle := hV.1 t
          by_cases c : V t < 12
          · -- its worker is asked to move
            have hv2 : E (V t) t = true := hV.2.2 t c
            have cd : cnt (fun a => !hb y1 a) 12 < d := by
              have l1 : cnt (fun a => !hb y1 a) 12 < cnt (fun a => !hb x a) 12 := by
                refine cnt_lt (j := t) (fun a _ q => ?_) h12 ?_ ?_
                · rw [y1b] at q
                  cases z : hb x a with
                  | false => rfl
                  | true => rw [a3 a z] at q; simp at q
                · rw [y1b]; simp
                · rw [hx]; rfl
              omega
            obtain ⟨r, er, ν2, y2, h2, f2, q⟩ := m_moves hE hW d (hG.fr f1) s1 hV hI c (hW _ _ hv2) (fun a z => by rw [y1b, hI a t z (by omega)]; simp) cd
            obtain ⟨r1, r2⟩ := r
            simp only at h2 q
            subst h2
            rcases q with ⟨q0, q1, q2⟩ | ⟨V', q0, q1, q2⟩
            · left
              refine ⟨(ν2, y2), ⟨f1.trans f2, q1, fun a z => q2.1 a (by rw [y1b, a3 a z]; rfl), fun a ha he => ?_, fun a z => ?_⟩, fun i => ?_⟩
              · by_cases z : a = t
                · exact q2.1 a (by rw [y1b]; simp [z])
                · exact q2.1 a (by rw [y1b, a4 a (by omega) he]; rfl)
              · rcases q2.2.2 a z with z1 | z1
                · rw [y1b] at z1
                  by_cases z2 : a = t
                  · right
                    rw [z2]
                    exact ⟨c, fun b hb' => q2.2.1 b hb'⟩
                  · rcases a5 a (by simpa [z2] using z1) with z3 | z3
                    · exact Or.inl z3
                    · exact Or.inr ⟨z3.1, fun b hb' => q2.1 b (by rw [y1b, z3.2 b hb']; rfl)⟩
                · exact Or.inr z1
              · subst q0
                have er' : f_X10_moves d 168 (Int32.ofNat (V t)) (mem (st ν 168 29 (y ||| ((1 : Int32) <<< (Int32.ofNat t &&& 31))))) = some (0, mem ν2) := er
                simp (disch := omega) only [f_X10_moves_L2, f_X10_moves_J99, f_X10_moves_J84, f_X10_moves_J93, vc_168, gI_168_0, pI_168_0, gR_168_1, gI_168_2, pI_168_2, gI_168_3, pI_168_3, gI_168_4, pI_168_4, gI_168_5, pI_168_5, gI_168_6, pI_168_6, gI_168_7, pI_168_7, gR_168_8, gR_168_9, gR_168_10, gR_168_11, gR_168_12, gR_168_13, gI_168_14, pI_168_14, gI_168_15, pI_168_15, gI_168_16, pI_168_16, gR_168_17, gI_168_18, pI_168_18, gR_168_19, gI_168_20, pI_168_20, gI_168_21, pI_168_21, gI_168_22, pI_168_22, gI_168_23, pI_168_23, gR_168_24, gR_168_25, gI_168_26, pI_168_26, gI_168_27, pI_168_27, gR_168_28, gI_168_29, pI_168_29, gI_168_30, pI_168_30, gI_168_31, pI_168_31, gR_168_32, gR_168_33, gR_168_34, gR_168_35, gR_168_36, gR_168_37, gR_168_38, mr_h0, mr_f0, mr_m0, mr_w0, mr_c0, mc_c0, mc_a0, mc_s0, mh_a0_0, mh_s0_0, mh_a0_1, mh_s0_1, mh_a0_2, mh_s0_2, mh_a0_3, mh_s0_3, mh_a0_4, mh_s0_4, ma_f0, ms_f0, ma_m0, ms_m0, ma_w0, ms_w0, aI_486, sI_486, m_has, row, y29, ey, v28, er', lt, true_or, or_true, false_or, or_false, Option.bind_some, if_true, if_false, bI_0, bI_1, bI_z, eI_n1, eI_l0, eI_g12, oN_n1, oN_l0, oN_g0, n1_l0, n1_g12, n1_0, n1_n1, z_0, z_1, z_2, z_3, z_4, z_5, z_6, z_7, z_8, z_9, z_a, z_b, z_c, z_d, z_e, z_f, oN_inj, oN_lt, oN_gt, oN_ge, oN_le, i_succ, if_pos, if_neg, c_has, c_bit, Bool.true_eq_false, Bool.false_eq_true, decide_true, decide_false, decide_eq_true_eq, decide_eq_false_iff_not, eI_lt, lle_0, lge_0, llt_0, lgt_0, leq_0, lle_1, lge_1, llt_1, lgt_1, leq_1, lle_2, lge_2, llt_2, lgt_2, leq_2, lle_3, lge_3, llt_3, lgt_3, leq_3, lle_4, lge_4, llt_4, lgt_4, leq_4, lle_5, lge_5, llt_5, lgt_5, leq_5, lle_6, lge_6, llt_6, lgt_6, leq_6, lle_7, lge_7, llt_7, lgt_7, leq_7, lle_11, lge_11, llt_11, lgt_11, leq_11, lle_12, lge_12, llt_12, lgt_12, leq_12, lle_15, lge_15, llt_15, lgt_15, leq_15, lle_20, lge_20, llt_20, lgt_20, leq_20, lle_24, lge_24, llt_24, lgt_24, leq_24, lle_25, lge_25, llt_25, lgt_25, leq_25, lle_31, lge_31, llt_31, lgt_31, leq_31, lle_48, lge_48, llt_48, lgt_48, leq_48, lle_57, lge_57, llt_57, lgt_57, leq_57, lle_32, lge_32, llt_32, lgt_32, leq_32, lle_59, lge_59, llt_59, lgt_59, leq_59, lle_97, lge_97, llt_97, lgt_97, leq_97, lle_122, lge_122, llt_122, lgt_122, leq_122, lle_99, lge_99, llt_99, lgt_99, leq_99, lle_100, lge_100, llt_100, lgt_100, leq_100, lle_144, lge_144, llt_144, lgt_144, leq_144, lle_255, lge_255, llt_255, lgt_255, leq_255, lle_300, lge_300, llt_300, lgt_300, leq_300, lle_1000, lge_1000, llt_1000, lgt_1000, leq_1000, lle_1000000, lge_1000000, llt_1000000, lgt_1000000, leq_1000000, lle_4096, lge_4096, llt_4096, lgt_4096, leq_4096, b_ft]
            · right
              intro i
              subst q0
              have er' : f_X10_moves d 168 (Int32.ofNat (V t)) (mem (st ν 168 29 (y ||| ((1 : Int32) <<< (Int32.ofNat t &&& 31))))) = some (1, mem ν2) := er
              have g := q2
              have e1 : hb y1 = fun s => hb y s || decide (s = t) := funext y1b
              rw [e1] at g
              have g2 := KG.move hE hV hI ey e c hvw g (fun a z => a3 a (ho a z))
              simp (disch := omega) only [f_X10_moves_L2, f_X10_moves_J99, f_X10_moves_J84, f_X10_moves_J93, vc_168, gI_168_0, pI_168_0, gR_168_1, gI_168_2, pI_168_2, gI_168_3, pI_168_3, gI_168_4, pI_168_4, gI_168_5, pI_168_5, gI_168_6, pI_168_6, gI_168_7, pI_168_7, gR_168_8, gR_168_9, gR_168_10, gR_168_11, gR_168_12, gR_168_13, gI_168_14, pI_168_14, gI_168_15, pI_168_15, gI_168_16, pI_168_16, gR_168_17, gI_168_18, pI_168_18, gR_168_19, gI_168_20, pI_168_20, gI_168_21, pI_168_21, gI_168_22, pI_168_22, gI_168_23, pI_168_23, gR_168_24, gR_168_25, gI_168_26, pI_168_26, gI_168_27, pI_168_27, gR_168_28, gI_168_29, pI_168_29, gI_168_30, pI_168_30, gI_168_31, pI_168_31, gR_168_32, gR_168_33, gR_168_34, gR_168_35, gR_168_36, gR_168_37, gR_168_38, mr_h0, mr_f0, mr_m0, mr_w0, mr_c0, mc_c0, mc_a0, mc_s0, mh_a0_0, mh_s0_0, mh_a0_1, mh_s0_1, mh_a0_2, mh_s0_2, mh_a0_3, mh_s0_3, mh_a0_4, mh_s0_4, ma_f0, ms_f0, ma_m0, ms_m0, ma_w0, ms_w0, aI_486, sI_486, m_has, row, y29, ey, v28, er', lt, true_or, or_true, false_or, or_false, Option.bind_some, if_true, if_false, bI_0, bI_1, bI_z, eI_n1, eI_l0, eI_g12, oN_n1, oN_l0, oN_g0, n1_l0, n1_g12, n1_0, n1_n1, z_0, z_1, z_2, z_3, z_4, z_5, z_6, z_7, z_8, z_9, z_a, z_b, z_c, z_d, z_e, z_f, oN_inj, oN_lt, oN_gt, oN_ge, oN_le, i_succ, if_pos, if_neg, c_has, c_bit, Bool.true_eq_false, Bool.false_eq_true, decide_true, decide_false, decide_eq_true_eq, decide_eq_false_iff_not, eI_lt, lle_0, lge_0, llt_0, lgt_0, leq_0, lle_1, lge_1, llt_1, lgt_1, leq_1, lle_2, lge_2, llt_2, lgt_2, leq_2, lle_3, lge_3, llt_3, lgt_3, leq_3, lle_4, lge_4, llt_4, lgt_4, leq_4, lle_5, lge_5, llt_5, lgt_5, leq_5, lle_6, lge_6, llt_6, lgt_6, leq_6, lle_7, lge_7, llt_7, lgt_7, leq_7, lle_11, lge_11, llt_11, lgt_11, leq_11, lle_12, lge_12, llt_12, lgt_12, leq_12, lle_15, lge_15, llt_15, lgt_15, leq_15, lle_20, lge_20, llt_20, lgt_20, leq_20, lle_24, lge_24, llt_24, lgt_24, leq_24, lle_25, lge_25, llt_25, lgt_25, leq_25, lle_31, lge_31, llt_31, lgt_31, leq_31, lle_48, lge_48, llt_48, lgt_48, leq_48, lle_57, lge_57, llt_57, lgt_57, leq_57, lle_32, lge_32, llt_32, lgt_32, leq_32, lle_59, lge_59, llt_59, lgt_59, leq_59, lle_97, lge_97, llt_97, lgt_97, leq_97, lle_122, lge_122, llt_122, lgt_122, leq_122, lle_99, lge_99, llt_99, lgt_99, leq_99, lle_100, lge_100, llt_100, lgt_100, leq_100, lle_144, lge_144, llt_144, lgt_144, leq_144, lle_255, lge_255, llt_255, lgt_255, leq_255, lle_300, lge_300, llt_300, lgt_300, leq_300, lle_1000, lge_1000, llt_1000, lgt_1000, leq_1000, lle_1000000, lge_1000000, llt_1000000, lgt_1000000, leq_1000000, lle_4096, lge_4096, llt_4096, lgt_4096, leq_4096, b_ft]
              refine hw_ret ⟨st ν2 486 t (Int32.ofNat w), y2, rfl, (f1.trans f2).st (Or.inl rfl), Or.inr ⟨up V' t w, rfl, ⟨fun a ha => ?_, ?_⟩, g2.weak a3⟩⟩
              · by_cases z : a = t
                · rw [z, st_same, up_same, eI_lt hw]
                · rw [st_ne (Or.inr z), up_ne z]; exact q1.1 a ha
              · rw [st_ne (Or.inl (by omega))]; exact q1.2
          · right
            intro i
            have c : V t = 12 := by omega
            have g2 := KG.free hE hV hI (fun a z => a3 a (ho a z)) e ey c
            simp (disch := omega) only [f_X10_moves_L2, f_X10_moves_J99, f_X10_moves_J84, f_X10_moves_J93, vc_168, gI_168_0, pI_168_0, gR_168_1, gI_168_2, pI_168_2, gI_168_3, pI_168_3, gI_168_4, pI_168_4, gI_168_5, pI_168_5, gI_168_6, pI_168_6, gI_168_7, pI_168_7, gR_168_8, gR_168_9, gR_168_10, gR_168_11, gR_168_12, gR_168_13, gI_168_14, pI_168_14, gI_168_15, pI_168_15, gI_168_16, pI_168_16, gR_168_17, gI_168_18, pI_168_18, gR_168_19, gI_168_20, pI_168_20, gI_168_21, pI_168_21, gI_168_22, pI_168_22, gI_168_23, pI_168_23, gR_168_24, gR_168_25, gI_168_26, pI_168_26, gI_168_27, pI_168_27, gR_168_28, gI_168_29, pI_168_29, gI_168_30, pI_168_30, gI_168_31, pI_168_31, gR_168_32, gR_168_33, gR_168_34, gR_168_35, gR_168_36, gR_168_37, gR_168_38, mr_h0, mr_f0, mr_m0, mr_w0, mr_c0, mc_c0, mc_a0, mc_s0, mh_a0_0, mh_s0_0, mh_a0_1, mh_s0_1, mh_a0_2, mh_s0_2, mh_a0_3, mh_s0_3, mh_a0_4, mh_s0_4, ma_f0, ms_f0, ma_m0, ms_m0, ma_w0, ms_w0, aI_486, sI_486, m_has, row, y29, ey, v28, c, lt, true_or, or_true, false_or, or_false, Option.bind_some, if_true, if_false, bI_0, bI_1, bI_z, eI_n1, eI_l0, eI_g12, oN_n1, oN_l0, oN_g0, n1_l0, n1_g12, n1_0, n1_n1, z_0, z_1, z_2, z_3, z_4, z_5, z_6, z_7, z_8, z_9, z_a, z_b, z_c, z_d, z_e, z_f, oN_inj, oN_lt, oN_gt, oN_ge, oN_le, i_succ, if_pos, if_neg, c_has, c_bit, Bool.true_eq_false, Bool.false_eq_true, decide_true, decide_false, decide_eq_true_eq, decide_eq_false_iff_not, eI_lt, lle_0, lge_0, llt_0, lgt_0, leq_0, lle_1, lge_1, llt_1, lgt_1, leq_1, lle_2, lge_2, llt_2, lgt_2, leq_2, lle_3, lge_3, llt_3, lgt_3, leq_3, lle_4, lge_4, llt_4, lgt_4, leq_4, lle_5, lge_5, llt_5, lgt_5, leq_5, lle_6, lge_6, llt_6, lgt_6, leq_6, lle_7, lge_7, llt_7, lgt_7, leq_7, lle_11, lge_11, llt_11, lgt_11, leq_11, lle_12, lge_12, llt_12, lgt_12, leq_12, lle_15, lge_15, llt_15, lgt_15, leq_15, lle_20, lge_20, llt_20, lgt_20, leq_20, lle_24, lge_24, llt_24, lgt_24, leq_24, lle_25, lge_25, llt_25, lgt_25, leq_25, lle_31, lge_31, llt_31, lgt_31, leq_31, lle_48, lge_48, llt_48, lgt_48, leq_48, lle_57, lge_57, llt_57, lgt_57, leq_57, lle_32, lge_32, llt_32, lgt_32, leq_32, lle_59, lge_59, llt_59, lgt_59, leq_59, lle_97, lge_97, llt_97, lgt_97, leq_97, lle_122, lge_122, llt_122, lgt_122, leq_122, lle_99, lge_99, llt_99, lgt_99, leq_99, lle_100, lge_100, llt_100, lgt_100, leq_100, lle_144, lge_144, llt_144, lgt_144, leq_144, lle_255, lge_255, llt_255, lgt_255, leq_255, lle_300, lge_300, llt_300, lgt_300, leq_300, lle_1000, lge_1000, llt_1000, lgt_1000, leq_1000, lle_1000000, lge_1000000, llt_1000000, lgt_1000000, leq_1000000, lle_4096, lge_4096, llt_4096, lgt_4096, leq_4096, b_ft]
            refine hw_ret ⟨st ν1 486 t (Int32.ofNat w), y1, rfl, f1.st (Or.inl rfl), Or.inr ⟨up V t w, rfl, ⟨fun a ha => ?_, ?_⟩, g2.weak a3⟩⟩
            · by_cases z : a = t
              · rw [z, st_same, up_same, eI_lt hw]
              · rw [st_ne (Or.inr z), up_ne z]; exact s1.1 a ha
            · rw [st_ne (Or.inl (by omega))]; exact s1.2
    · obtain ⟨ν, y⟩ := s
      obtain ⟨a1, a2, a3, a4, a5⟩ := hs
      simp only at a1 a2 a3 a4 a5
      simp (disch := omega) only [f_X10_moves_L2, f_X10_moves_J99, f_X10_moves_J84, f_X10_moves_J93, lt, true_or, or_true, false_or, or_false, Option.bind_some, if_true, if_false, bI_0, bI_1, bI_z, eI_n1, eI_l0, eI_g12, oN_n1, oN_l0, oN_g0, n1_l0, n1_g12, n1_0, n1_n1, z_0, z_1, z_2, z_3, z_4, z_5, z_6, z_7, z_8, z_9, z_a, z_b, z_c, z_d, z_e, z_f, oN_inj, oN_lt, oN_gt, oN_ge, oN_le, i_succ, if_pos, if_neg, c_has, c_bit, Bool.true_eq_false, Bool.false_eq_true, decide_true, decide_false, decide_eq_true_eq, decide_eq_false_iff_not, eI_lt, lle_0, lge_0, llt_0, lgt_0, leq_0, lle_1, lge_1, llt_1, lgt_1, leq_1, lle_2, lge_2, llt_2, lgt_2, leq_2, lle_3, lge_3, llt_3, lgt_3, leq_3, lle_4, lge_4, llt_4, lgt_4, leq_4, lle_5, lge_5, llt_5, lgt_5, leq_5, lle_6, lge_6, llt_6, lgt_6, leq_6, lle_7, lge_7, llt_7, lgt_7, leq_7, lle_11, lge_11, llt_11, lgt_11, leq_11, lle_12, lge_12, llt_12, lgt_12, leq_12, lle_15, lge_15, llt_15, lgt_15, leq_15, lle_20, lge_20, llt_20, lgt_20, leq_20, lle_24, lge_24, llt_24, lgt_24, leq_24, lle_25, lge_25, llt_25, lgt_25, leq_25, lle_31, lge_31, llt_31, lgt_31, leq_31, lle_48, lge_48, llt_48, lgt_48, leq_48, lle_57, lge_57, llt_57, lgt_57, leq_57, lle_32, lge_32, llt_32, lgt_32, leq_32, lle_59, lge_59, llt_59, lgt_59, leq_59, lle_97, lge_97, llt_97, lgt_97, leq_97, lle_122, lge_122, llt_122, lgt_122, leq_122, lle_99, lge_99, llt_99, lgt_99, leq_99, lle_100, lge_100, llt_100, lgt_100, leq_100, lle_144, lge_144, llt_144, lgt_144, leq_144, lle_255, lge_255, llt_255, lgt_255, leq_255, lle_300, lge_300, llt_300, lgt_300, leq_300, lle_1000, lge_1000, llt_1000, lgt_1000, leq_1000, lle_1000000, lge_1000000, llt_1000000, lgt_1000000, leq_1000000, lle_4096, lge_4096, llt_4096, lgt_4096, leq_4096, b_ft]
      exact hw_ret ⟨ν, y, rfl, a1, Or.inl ⟨rfl, a2, a3, fun a he => a4 a (hE _ _ he).2 he, a5⟩⟩
end Mv
