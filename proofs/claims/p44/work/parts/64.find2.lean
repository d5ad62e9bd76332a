/-! SEARCH: find -/
variable {Ξ : xH}
/-- the queue, from and seen as they stand in the cells -/
def FI (μ ν : MM) (E : Nat → Nat → Bool) (M : Nat → Nat) (w : Nat) (Q J T : Nat → Nat) (N k t : Nat) (x : Int32) : Prop :=
  Bf E M w Q J T N k t (hb x) ∧ (∀ p, p < N → ν.1 146 p = Int32.ofNat (Q p)) ∧ (∀ p, 1 ≤ p → p < N → ν.1 147 (T p) = Int32.ofNat (Q (J p))) ∧ Fr Ff μ ν
section Fd
variable {μ : MM} {n m : Nat} {Wt Tt : Int32} {E : Nat → Nat → Bool} {M : Nat → Nat} {w : Nat}
theorem c_find_in {kE144 : Nat → Int32 → xH → Option (Int32 × xH)} {kE178 : Nat → Int32 → Int32 → Int32 → xH → Option (Int32 × xH)} {P : Int32 × xH → Prop} (hS : SR μ n m Wt Tt E M) (hO : SOK n m Wt E M)
    {Q J T : Nat → Nat} {N k : Nat} {x x6 : Int32} {ν : MM} (h : FI μ ν E M w Q J T N k 0 x) (hk : k < N) (h6 : ∀ s, hb x6 s = (E (Q k) s && !hb x s))
    (A : ∀ (Q J T : Nat → Nat) (N : Nat) (x : Int32) (ν : MM), k < N → FI μ ν E M w Q J T N (k + 1) 0 x → Hw (kE178 141 x (Int32.ofNat N) (Int32.ofNat k) ((mX Ξ) ν)) P)
    (Bz : ∀ (Q J T : Nat → Nat) (N t : Nat) (x : Int32) (ν : MM), k < N → FI μ ν E M w Q J T N k t x → E (Q k) t = true → hb x t = false → ow M t = 12 → ν.1 147 t = Int32.ofNat (Q k) → Hw (kE144 141 (Int32.ofNat t) ((mX Ξ) ν)) P) :
    Hw (f_X7_find_L88 kE144 kE178 5000 141 x (Int32.ofNat N) (Int32.ofNat k) (Int32.ofNat (Q k)) x6 (Int32.ofNat 0) ((mX Ξ) ν)) P := by
  have hE := hO.Eb
  have hm := hO.2.1
  have hM := hO.2.2.2.2
  refine hw_for (L := fun i t (s : Int32 × Nat × (Nat → Nat) × (Nat → Nat) × (Nat → Nat) × MM) => f_X7_find_L88 kE144 kE178 i 141 s.1 (Int32.ofNat s.2.1) (Int32.ofNat k) (Int32.ofNat (Q k)) x6 t ((mX Ξ) s.2.2.2.2.2)) (s0 := (x, N, Q, J, T, ν)) 12
    (fun t s => k < s.2.1 ∧ s.2.2.1 k = Q k ∧ FI μ s.2.2.2.2.2 E M w s.2.2.1 s.2.2.2.1 s.2.2.2.2.1 s.2.1 k t s.1 ∧ (∀ a, t ≤ a → hb s.1 a = hb x a) ∧ ∀ a, hb x a = true → hb s.1 a = true) ⟨hk, rfl, h, fun _ _ => rfl, fun _ q => q⟩ (by omega) (fun t ht s hs => ?_) (fun s hs i => ?_)
  · obtain ⟨y, N, Q', J, T, ν⟩ := s
    obtain ⟨k1, k2, ⟨b1, b2, b3, b4⟩, g1, g2⟩ := hs
    simp only at k1 k2 b1 b2 b3 b4 g1 g2
    have s7 : ν.1 141 7 = Int32.ofNat m := (hS.ff b4).1.2.1
    by_cases c0 : x6 = 0
    · right
      intro i
      have nx : FI μ ν E M w Q' J T N (k + 1) 0 y := by
        refine ⟨b1.next k1 (fun a ha he => ?_) (fun p p1 p2 => b1.t12 hE p1 p2), b2, b3, b4⟩
        have := h6 a
        rw [c0, hb_zero, ← k2, he] at this
        exact g2 a (by simpa using this)
      have := A Q' J T N y ν k1 nx
      simp (disch := omega) only [f_X7_find_L88, vc_141, gR_141_0, gR_141_1, gR_141_2, gR_141_3, gR_141_4, gI_141_5, pI_141_5, gI_141_6, pI_141_6, gI_141_7, pI_141_7, gI_141_8, pI_141_8, gI_141_9, pI_141_9, s7, c0, lt, true_or, or_true, false_or, or_false, Option.bind_some, if_true, if_false, bI_0, bI_1, bI_z, eI_n1, eI_l0, eI_g12, oN_n1, oN_l0, oN_g0, n1_l0, n1_g12, n1_0, n1_n1, z_0, z_1, z_2, z_3, z_4, z_5, z_6, z_7, z_8, z_9, z_a, z_b, z_c, z_d, z_e, z_f, oN_inj, oN_lt, oN_gt, oN_ge, oN_le, i_succ, if_pos, if_neg, c_has, c_bit, Bool.true_eq_false, Bool.false_eq_true, decide_true, decide_false, decide_eq_true_eq, decide_eq_false_iff_not, eI_lt, lle_0, lge_0, llt_0, lgt_0, leq_0, lle_1, lge_1, llt_1, lgt_1, leq_1, lle_2, lge_2, llt_2, lgt_2, leq_2, lle_3, lge_3, llt_3, lgt_3, leq_3, lle_4, lge_4, llt_4, lgt_4, leq_4, lle_5, lge_5, llt_5, lgt_5, leq_5, lle_6, lge_6, llt_6, lgt_6, leq_6, lle_7, lge_7, llt_7, lgt_7, leq_7, lle_11, lge_11, llt_11, lgt_11, leq_11, lle_12, lge_12, llt_12, lgt_12, leq_12, lle_15, lge_15, llt_15, lgt_15, leq_15, lle_20, lge_20, llt_20, lgt_20, leq_20, lle_24, lge_24, llt_24, lgt_24, leq_24, lle_25, lge_25, llt_25, lgt_25, leq_25, lle_31, lge_31, llt_31, lgt_31, leq_31, lle_48, lge_48, llt_48, lgt_48, leq_48, lle_57, lge_57, llt_57, lgt_57, leq_57, lle_32, lge_32, llt_32, lgt_32, leq_32, lle_59, lge_59, llt_59, lgt_59, leq_59, lle_97, lge_97, llt_97, lgt_97, leq_97, lle_122, lge_122, llt_122, lgt_122, leq_122, lle_99, lge_99, llt_99, lgt_99, leq_99, lle_100, lge_100, llt_100, lgt_100, leq_100, lle_144, lge_144, llt_144, lgt_144, leq_144, lle_255, lge_255, llt_255, lgt_255, leq_255, lle_300, lge_300, llt_300, lgt_300, leq_300, lle_1000, lge_1000, llt_1000, lgt_1000, leq_1000, lle_1000000, lge_1000000, llt_1000000, lgt_1000000, leq_1000000, lle_4096, lge_4096, llt_4096, lgt_4096, leq_4096]
      exact this
    · cases c1 : hb x6 t with
      | false =>
        left
        have sk : E (Q' k) t = true → hb y t = true := fun he => by
          have := h6 t
          rw [c1, ← k2, he] at this
          exact g2 t (by simpa using this)
        refine ⟨(y, N, Q', J, T, ν), ⟨k1, k2, ⟨b1.skip fun _ => sk, b2, b3, b4⟩, fun a ha => g1 a (by omega), g2⟩, fun i => ?_⟩
        simp (disch := omega) only [f_X7_find_L88, f_X7_find_J184, f_X7_find_J144, f_X7_find_J178, f_X7_find_J172, f_X7_find_J35, vc_141, gR_141_0, gR_141_1, gR_141_2, gR_141_3, gR_141_4, gI_141_5, pI_141_5, gI_141_6, pI_141_6, gI_141_7, pI_141_7, gI_141_8, pI_141_8, gI_141_9, pI_141_9, s7, c0, c1, lt, true_or, or_true, false_or, or_false, Option.bind_some, if_true, if_false, bI_0, bI_1, bI_z, eI_n1, eI_l0, eI_g12, oN_n1, oN_l0, oN_g0, n1_l0, n1_g12, n1_0, n1_n1, z_0, z_1, z_2, z_3, z_4, z_5, z_6, z_7, z_8, z_9, z_a, z_b, z_c, z_d, z_e, z_f, oN_inj, oN_lt, oN_gt, oN_ge, oN_le, i_succ, if_pos, if_neg, c_has, c_bit, Bool.true_eq_false, Bool.false_eq_true, decide_true, decide_false, decide_eq_true_eq, decide_eq_false_iff_not, eI_lt, lle_0, lge_0, llt_0, lgt_0, leq_0, lle_1, lge_1, llt_1, lgt_1, leq_1, lle_2, lge_2, llt_2, lgt_2, leq_2, lle_3, lge_3, llt_3, lgt_3, leq_3, lle_4, lge_4, llt_4, lgt_4, leq_4, lle_5, lge_5, llt_5, lgt_5, leq_5, lle_6, lge_6, llt_6, lgt_6, leq_6, lle_7, lge_7, llt_7, lgt_7, leq_7, lle_11, lge_11, llt_11, lgt_11, leq_11, lle_12, lge_12, llt_12, lgt_12, leq_12, lle_15, lge_15, llt_15, lgt_15, leq_15, lle_20, lge_20, llt_20, lgt_20, leq_20, lle_24, lge_24, llt_24, lgt_24, leq_24, lle_25, lge_25, llt_25, lgt_25, leq_25, lle_31, lge_31, llt_31, lgt_31, leq_31, lle_48, lge_48, llt_48, lgt_48, leq_48, lle_57, lge_57, llt_57, lgt_57, leq_57, lle_32, lge_32, llt_32, lgt_32, leq_32, lle_59, lge_59, llt_59, lgt_59, leq_59, lle_97, lge_97, llt_97, lgt_97, leq_97, lle_122, lge_122, llt_122, lgt_122, leq_122, lle_99, lge_99, llt_99, lgt_99, leq_99, lle_100, lge_100, llt_100, lgt_100, leq_100, lle_144, lge_144, llt_144, lgt_144, leq_144, lle_255, lge_255, llt_255, lgt_255, leq_255, lle_300, lge_300, llt_300, lgt_300, leq_300, lle_1000, lge_1000, llt_1000, lgt_1000, leq_1000, lle_1000000, lge_1000000, llt_1000000, lgt_1000000, leq_1000000, lle_4096, lge_4096, llt_4096, lgt_4096, leq_4096]
      | true =>
        have e6 := h6 t
        rw [c1] at e6
        have e6 := e6.symm
        simp only [Bool.and_eq_true, Bool.not_eq_true'] at e6
        have he : E (Q' k) t = true := by rw [k2]; exact e6.1
        have hs : hb y t = false := by rw [g1 t (Nat.le_refl _)]; exact e6.2
        have ht12 : t < 12 := by omega
        let ν2 := st ν 147 t (Int32.ofNat (Q k))
        have f2 : Fr Ff μ ν2 := b4.st (Or.inr (Or.inl rfl))
        have nt : ∀ p, 1 ≤ p → p < N → T p ≠ t := fun p p1 p2 z => by
          have := (b1.2.2.1 p p1 p2).2.2.2.2
          rw [z, hs] at this; cases this
        have q46 : ∀ p, p < N → ν2.1 146 p = Int32.ofNat (Q' p) := fun p hp => by rw [st_ne (Or.inl (by omega))]; exact b2 p hp
        have q47 : ∀ p, 1 ≤ p → p < N → ν2.1 147 (T p) = Int32.ofNat (Q' (J p)) := fun p p1 p2 => by rw [st_ne (Or.inr (nt p p1 p2))]; exact b3 p p1 p2
        have cw := c_workerOf (Ξ := Ξ) pr142 (hS.ff f2).2.2 ht12
        by_cases ho : ow M t < 12
        · left
          have hN := b1.room hE hM.1 k1 he hs ho
          refine ⟨(y ||| ((1 : Int32) <<< (Int32.ofNat t &&& 31)), N + 1, up Q' N (ow M t), up J N k, up T N t, st ν2 146 N (Int32.ofNat (ow M t))), ⟨by show k < N + 1; omega, ?_, ⟨?_, fun p hp => ?_, fun p p1 p2 => ?_, ?_⟩, fun a ha => ?_, fun a ha => ?_⟩, fun i => ?_⟩
          · show up Q' N (ow M t) k = Q k
            rw [up_ne (by omega)]; exact k2
          · have := b1.put hE hM.1 k1 he hs ho
            have e : hb (y ||| ((1 : Int32) <<< (Int32.ofNat t &&& 31))) = fun s => hb y s || decide (s = t) := by
              funext s; rw [hb_or, hb_bit s (by omega)]
            show Bf E M w _ _ _ (N + 1) k (t + 1) (hb (y ||| ((1 : Int32) <<< (Int32.ofNat t &&& 31))))
            rw [e]; exact this
          · show (st ν2 146 N (Int32.ofNat (ow M t))).1 146 p = Int32.ofNat (up Q' N (ow M t) p)
            by_cases z : p = N
            · rw [z, st_same, up_same]
            · rw [st_ne (Or.inr z), up_ne z]; exact q46 p (by have : p < N + 1 := hp; omega)
          · show (st ν2 146 N (Int32.ofNat (ow M t))).1 147 (up T N t p) = Int32.ofNat (up Q' N (ow M t) (up J N k p))
            rw [st_ne (Or.inl (by omega))]
            by_cases z : p = N
            · rw [z, up_same, up_same, up_ne (by omega), k2, st_same]
            · have p2 : p < N := by have : p < N + 1 := p2; omega
              have := (b1.2.2.1 p p1 p2).1
              rw [up_ne z, up_ne z, up_ne (by omega)]; exact q47 p p1 p2
          · exact f2.st (Or.inl rfl)
          · show hb (y ||| _) a = hb x a
            rw [hb_or, hb_bit a (by omega), g1 a (by omega)]
            have : a ≠ t := by omega
            simp [this]
          · show hb (y ||| _) a = true
            rw [hb_or, g2 a ha]; rfl
          · show f_X7_find_L88 kE144 kE178 (i + 1) 141 y (Int32.ofNat N) (Int32.ofNat k) (Int32.ofNat (Q k)) x6 (Int32.ofNat t) ((mX Ξ) ν) = f_X7_find_L88 kE144 kE178 i 141 (y ||| ((1 : Int32) <<< (Int32.ofNat t &&& 31))) (Int32.ofNat (N + 1)) (Int32.ofNat k) (Int32.ofNat (Q k)) x6 (Int32.ofNat (t + 1)) ((mX Ξ) (st ν2 146 N (Int32.ofNat (ow M t))))
            simp (disch := omega) only [f_X7_find_L88, f_X7_find_J184, f_X7_find_J144, f_X7_find_J178, f_X7_find_J172, f_X7_find_J35, vc_141, gR_141_0, gR_141_1, gR_141_2, gR_141_3, gR_141_4, gI_141_5, pI_141_5, gI_141_6, pI_141_6, gI_141_7, pI_141_7, gI_141_8, pI_141_8, gI_141_9, pI_141_9, aI_146, sI_146, aI_147, sI_147, s7, c0, c1, pr_v pr142, lt, true_or, or_true, false_or, or_false, Option.bind_some, if_true, if_false, bI_0, bI_1, bI_z, eI_n1, eI_l0, eI_g12, oN_n1, oN_l0, oN_g0, n1_l0, n1_g12, n1_0, n1_n1, z_0, z_1, z_2, z_3, z_4, z_5, z_6, z_7, z_8, z_9, z_a, z_b, z_c, z_d, z_e, z_f, oN_inj, oN_lt, oN_gt, oN_ge, oN_le, i_succ, if_pos, if_neg, c_has, c_bit, Bool.true_eq_false, Bool.false_eq_true, decide_true, decide_false, decide_eq_true_eq, decide_eq_false_iff_not, eI_lt, lle_0, lge_0, llt_0, lgt_0, leq_0, lle_1, lge_1, llt_1, lgt_1, leq_1, lle_2, lge_2, llt_2, lgt_2, leq_2, lle_3, lge_3, llt_3, lgt_3, leq_3, lle_4, lge_4, llt_4, lgt_4, leq_4, lle_5, lge_5, llt_5, lgt_5, leq_5, lle_6, lge_6, llt_6, lgt_6, leq_6, lle_7, lge_7, llt_7, lgt_7, leq_7, lle_11, lge_11, llt_11, lgt_11, leq_11, lle_12, lge_12, llt_12, lgt_12, leq_12, lle_15, lge_15, llt_15, lgt_15, leq_15, lle_20, lge_20, llt_20, lgt_20, leq_20, lle_24, lge_24, llt_24, lgt_24, leq_24, lle_25, lge_25, llt_25, lgt_25, leq_25, lle_31, lge_31, llt_31, lgt_31, leq_31, lle_48, lge_48, llt_48, lgt_48, leq_48, lle_57, lge_57, llt_57, lgt_57, leq_57, lle_32, lge_32, llt_32, lgt_32, leq_32, lle_59, lge_59, llt_59, lgt_59, leq_59, lle_97, lge_97, llt_97, lgt_97, leq_97, lle_122, lge_122, llt_122, lgt_122, leq_122, lle_99, lge_99, llt_99, lgt_99, leq_99, lle_100, lge_100, llt_100, lgt_100, leq_100, lle_144, lge_144, llt_144, lgt_144, leq_144, lle_255, lge_255, llt_255, lgt_255, leq_255, lle_300, lge_300, llt_300, lgt_300, leq_300, lle_1000, lge_1000, llt_1000, lgt_1000, leq_1000, lle_1000000, lge_1000000, llt_1000000, lgt_1000000, leq_1000000, lle_4096, lge_4096, llt_4096, lgt_4096, leq_4096]
            rw [show f_X3_workerOf 142 (Int32.ofNat t) ((mX Ξ) (st ν 147 t (Int32.ofNat (Q k)))) = _ from cw]
            simp (disch := omega) only [vc_141, gR_141_0, gR_141_1, gR_141_2, gR_141_3, gR_141_4, gI_141_5, pI_141_5, gI_141_6, pI_141_6, gI_141_7, pI_141_7, gI_141_8, pI_141_8, gI_141_9, pI_141_9, aI_146, sI_146, lt, true_or, or_true, false_or, or_false, Option.bind_some, if_true, if_false, bI_0, bI_1, bI_z, eI_n1, eI_l0, eI_g12, oN_n1, oN_l0, oN_g0, n1_l0, n1_g12, n1_0, n1_n1, z_0, z_1, z_2, z_3, z_4, z_5, z_6, z_7, z_8, z_9, z_a, z_b, z_c, z_d, z_e, z_f, oN_inj, oN_lt, oN_gt, oN_ge, oN_le, i_succ, if_pos, if_neg, c_has, c_bit, Bool.true_eq_false, Bool.false_eq_true, decide_true, decide_false, decide_eq_true_eq, decide_eq_false_iff_not, eI_lt, lle_0, lge_0, llt_0, lgt_0, leq_0, lle_1, lge_1, llt_1, lgt_1, leq_1, lle_2, lge_2, llt_2, lgt_2, leq_2, lle_3, lge_3, llt_3, lgt_3, leq_3, lle_4, lge_4, llt_4, lgt_4, leq_4, lle_5, lge_5, llt_5, lgt_5, leq_5, lle_6, lge_6, llt_6, lgt_6, leq_6, lle_7, lge_7, llt_7, lgt_7, leq_7, lle_11, lge_11, llt_11, lgt_11, leq_11, lle_12, lge_12, llt_12, lgt_12, leq_12, lle_15, lge_15, llt_15, lgt_15, leq_15, lle_20, lge_20, llt_20, lgt_20, leq_20, lle_24, lge_24, llt_24, lgt_24, leq_24, lle_25, lge_25, llt_25, lgt_25, leq_25, lle_31, lge_31, llt_31, lgt_31, leq_31, lle_48, lge_48, llt_48, lgt_48, leq_48, lle_57, lge_57, llt_57, lgt_57, leq_57, lle_32, lge_32, llt_32, lgt_32, leq_32, lle_59, lge_59, llt_59, lgt_59, leq_59, lle_97, lge_97, llt_97, lgt_97, leq_97, lle_122, lge_122, llt_122, lgt_122, leq_122, lle_99, lge_99, llt_99, lgt_99, leq_99, lle_100, lge_100, llt_100, lgt_100, leq_100, lle_144, lge_144, llt_144, lgt_144, leq_144, lle_255, lge_255, llt_255, lgt_255, leq_255, lle_300, lge_300, llt_300, lgt_300, leq_300, lle_1000, lge_1000, llt_1000, lgt_1000, leq_1000, lle_1000000, lge_1000000, llt_1000000, lgt_1000000, leq_1000000, lle_4096, lge_4096, llt_4096, lgt_4096, leq_4096]
        · right
          intro i
          have ho : ow M t = 12 := by have := ow_le M t; omega
          have := Bz Q' J T N t y ν2 k1 ⟨b1, q46, q47, f2⟩ he hs ho (by rw [k2]; exact st_same _ _ _ _)
          show Hw (f_X7_find_L88 kE144 kE178 (i + 1) 141 y (Int32.ofNat N) (Int32.ofNat k) (Int32.ofNat (Q k)) x6 (Int32.ofNat t) ((mX Ξ) ν)) P
          simp (disch := omega) only [f_X7_find_L88, vc_141, gR_141_0, gR_141_1, gR_141_2, gR_141_3, gR_141_4, gI_141_5, pI_141_5, gI_141_6, pI_141_6, gI_141_7, pI_141_7, gI_141_8, pI_141_8, gI_141_9, pI_141_9, aI_147, sI_147, s7, c0, c1, pr_v pr142, lt, true_or, or_true, false_or, or_false, Option.bind_some, if_true, if_false, bI_0, bI_1, bI_z, eI_n1, eI_l0, eI_g12, oN_n1, oN_l0, oN_g0, n1_l0, n1_g12, n1_0, n1_n1, z_0, z_1, z_2, z_3, z_4, z_5, z_6, z_7, z_8, z_9, z_a, z_b, z_c, z_d, z_e, z_f, oN_inj, oN_lt, oN_gt, oN_ge, oN_le, i_succ, if_pos, if_neg, c_has, c_bit, Bool.true_eq_false, Bool.false_eq_true, decide_true, decide_false, decide_eq_true_eq, decide_eq_false_iff_not, eI_lt, lle_0, lge_0, llt_0, lgt_0, leq_0, lle_1, lge_1, llt_1, lgt_1, leq_1, lle_2, lge_2, llt_2, lgt_2, leq_2, lle_3, lge_3, llt_3, lgt_3, leq_3, lle_4, lge_4, llt_4, lgt_4, leq_4, lle_5, lge_5, llt_5, lgt_5, leq_5, lle_6, lge_6, llt_6, lgt_6, leq_6, lle_7, lge_7, llt_7, lgt_7, leq_7, lle_11, lge_11, llt_11, lgt_11, leq_11, lle_12, lge_12, llt_12, lgt_12, leq_12, lle_15, lge_15, llt_15, lgt_15, leq_15, lle_20, lge_20, llt_20, lgt_20, leq_20, lle_24, lge_24, llt_24, lgt_24, leq_24, lle_25, lge_25, llt_25, lgt_25, leq_25, lle_31, lge_31, llt_31, lgt_31, leq_31, lle_48, lge_48, llt_48, lgt_48, leq_48, lle_57, lge_57, llt_57, lgt_57, leq_57, lle_32, lge_32, llt_32, lgt_32, leq_32, lle_59, lge_59, llt_59, lgt_59, leq_59, lle_97, lge_97, llt_97, lgt_97, leq_97, lle_122, lge_122, llt_122, lgt_122, leq_122, lle_99, lge_99, llt_99, lgt_99, leq_99, lle_100, lge_100, llt_100, lgt_100, leq_100, lle_144, lge_144, llt_144, lgt_144, leq_144, lle_255, lge_255, llt_255, lgt_255, leq_255, lle_300, lge_300, llt_300, lgt_300, leq_300, lle_1000, lge_1000, llt_1000, lgt_1000, leq_1000, lle_1000000, lge_1000000, llt_1000000, lgt_1000000, leq_1000000, lle_4096, lge_4096, llt_4096, lgt_4096, leq_4096]
          rw [show f_X3_workerOf 142 (Int32.ofNat t) ((mX Ξ) (st ν 147 t (Int32.ofNat (Q k)))) = _ from cw]
          simp (disch := omega) only [ho, lt, true_or, or_true, false_or, or_false, Option.bind_some, if_true, if_false, bI_0, bI_1, bI_z, eI_n1, eI_l0, eI_g12, oN_n1, oN_l0, oN_g0, n1_l0, n1_g12, n1_0, n1_n1, z_0, z_1, z_2, z_3, z_4, z_5, z_6, z_7, z_8, z_9, z_a, z_b, z_c, z_d, z_e, z_f, oN_inj, oN_lt, oN_gt, oN_ge, oN_le, i_succ, if_pos, if_neg, c_has, c_bit, Bool.true_eq_false, Bool.false_eq_true, decide_true, decide_false, decide_eq_true_eq, decide_eq_false_iff_not, eI_lt, lle_0, lge_0, llt_0, lgt_0, leq_0, lle_1, lge_1, llt_1, lgt_1, leq_1, lle_2, lge_2, llt_2, lgt_2, leq_2, lle_3, lge_3, llt_3, lgt_3, leq_3, lle_4, lge_4, llt_4, lgt_4, leq_4, lle_5, lge_5, llt_5, lgt_5, leq_5, lle_6, lge_6, llt_6, lgt_6, leq_6, lle_7, lge_7, llt_7, lgt_7, leq_7, lle_11, lge_11, llt_11, lgt_11, leq_11, lle_12, lge_12, llt_12, lgt_12, leq_12, lle_15, lge_15, llt_15, lgt_15, leq_15, lle_20, lge_20, llt_20, lgt_20, leq_20, lle_24, lge_24, llt_24, lgt_24, leq_24, lle_25, lge_25, llt_25, lgt_25, leq_25, lle_31, lge_31, llt_31, lgt_31, leq_31, lle_48, lge_48, llt_48, lgt_48, leq_48, lle_57, lge_57, llt_57, lgt_57, leq_57, lle_32, lge_32, llt_32, lgt_32, leq_32, lle_59, lge_59, llt_59, lgt_59, leq_59, lle_97, lge_97, llt_97, lgt_97, leq_97, lle_122, lge_122, llt_122, lgt_122, leq_122, lle_99, lge_99, llt_99, lgt_99, leq_99, lle_100, lge_100, llt_100, lgt_100, leq_100, lle_144, lge_144, llt_144, lgt_144, leq_144, lle_255, lge_255, llt_255, lgt_255, leq_255, lle_300, lge_300, llt_300, lgt_300, leq_300, lle_1000, lge_1000, llt_1000, lgt_1000, leq_1000, lle_1000000, lge_1000000, llt_1000000, lgt_1000000, leq_1000000, lle_4096, lge_4096, llt_4096, lgt_4096, leq_4096]
          exact this
  · obtain ⟨y, N, Q', J, T, ν⟩ := s
    obtain ⟨k1, k2, ⟨b1, b2, b3, b4⟩, g1, g2⟩ := hs
    simp only at k1 k2 b1 b2 b3 b4 g1 g2
    have s7 : ν.1 141 7 = Int32.ofNat m := (hS.ff b4).1.2.1
    have nx : FI μ ν E M w Q' J T N (k + 1) 0 y := by
      refine ⟨b1.next k1 (fun a ha he => ?_) (fun p p1 p2 => b1.t12 hE p1 p2), b2, b3, b4⟩
      have := (hO.2.2.1 _ _ he).2.1
      omega
    have := A Q' J T N y ν k1 nx
    show Hw (f_X7_find_L88 kE144 kE178 (i + 1) 141 y (Int32.ofNat N) (Int32.ofNat k) (Int32.ofNat (Q k)) x6 (Int32.ofNat 12) ((mX Ξ) ν)) P
    have e12 : (Int32.ofNat 12 ≥ 12) = True := eq_true (by decide)
    simp (disch := omega) only [f_X7_find_L88, vc_141, gR_141_0, gR_141_1, gR_141_2, gR_141_3, gR_141_4, gI_141_5, pI_141_5, gI_141_6, pI_141_6, gI_141_7, pI_141_7, gI_141_8, pI_141_8, gI_141_9, pI_141_9, e12, lt, true_or, or_true, false_or, or_false, Option.bind_some, if_true, if_false, bI_0, bI_1, bI_z, eI_n1, eI_l0, eI_g12, oN_n1, oN_l0, oN_g0, n1_l0, n1_g12, n1_0, n1_n1, z_0, z_1, z_2, z_3, z_4, z_5, z_6, z_7, z_8, z_9, z_a, z_b, z_c, z_d, z_e, z_f, oN_inj, oN_lt, oN_gt, oN_ge, oN_le, i_succ, if_pos, if_neg, c_has, c_bit, Bool.true_eq_false, Bool.false_eq_true, decide_true, decide_false, decide_eq_true_eq, decide_eq_false_iff_not, eI_lt, lle_0, lge_0, llt_0, lgt_0, leq_0, lle_1, lge_1, llt_1, lgt_1, leq_1, lle_2, lge_2, llt_2, lgt_2, leq_2, lle_3, lge_3, llt_3, lgt_3, leq_3, lle_4, lge_4, llt_4, lgt_4, leq_4, lle_5, lge_5, llt_5, lgt_5, leq_5, lle_6, lge_6, llt_6, lgt_6, leq_6, lle_7, lge_7, llt_7, lgt_7, leq_7, lle_11, lge_11, llt_11, lgt_11, leq_11, lle_12, lge_12, llt_12, lgt_12, leq_12, lle_15, lge_15, llt_15, lgt_15, leq_15, lle_20, lge_20, llt_20, lgt_20, leq_20, lle_24, lge_24, llt_24, lgt_24, leq_24, lle_25, lge_25, llt_25, lgt_25, leq_25, lle_31, lge_31, llt_31, lgt_31, leq_31, lle_48, lge_48, llt_48, lgt_48, leq_48, lle_57, lge_57, llt_57, lgt_57, leq_57, lle_32, lge_32, llt_32, lgt_32, leq_32, lle_59, lge_59, llt_59, lgt_59, leq_59, lle_97, lge_97, llt_97, lgt_97, leq_97, lle_122, lge_122, llt_122, lgt_122, leq_122, lle_99, lge_99, llt_99, lgt_99, leq_99, lle_100, lge_100, llt_100, lgt_100, leq_100, lle_144, lge_144, llt_144, lgt_144, leq_144, lle_255, lge_255, llt_255, lgt_255, leq_255, lle_300, lge_300, llt_300, lgt_300, leq_300, lle_1000, lge_1000, llt_1000, lgt_1000, leq_1000, lle_1000000, lge_1000000, llt_1000000, lgt_1000000, leq_1000000, lle_4096, lge_4096, llt_4096, lgt_4096, leq_4096]
    exact this
/-- what find answers -/
def FdR (μ : MM) (E : Nat → Nat → Bool) (M : Nat → Nat) (w : Nat) (r : Int32) (ν : MM) : Prop :=
  Fr Ff μ ν ∧ ((r = 0 ∧ (M w = 12 → Nr E M w)) ∨
    ∃ L pw pt, Tw E M L pw pt ∧ pw 0 = w ∧ r = Int32.ofNat (2 * L) ∧ ν.1 141 5 = Int32.ofNat (2 * L) ∧ ∀ i, i < L → ν.1 148 (2 * i) = Int32.ofNat (pw i) ∧ ν.1 148 (2 * i + 1) = Int32.ofNat (pt i))
theorem c_find (hS : SR μ n m Wt Tt E M) (hO : SOK n m Wt E M) (hw : w < 12) : ∃ r ν, f_X7_find 141 (Int32.ofNat w) ((mX Ξ) μ) = some (r, (mX Ξ) ν) ∧ FdR μ E M w r ν := by
  have hE := hO.Eb
  have key : Hw (f_X7_find 141 (Int32.ofNat w) ((mX Ξ) μ)) (fun r => ∃ ν, r.2 = (mX Ξ) ν ∧ FdR μ E M w r.1 ν) := by
    let μ1 := st μ 141 5 0
    have f1 : Fr Ff μ μ1 := (Fr.refl _ _).st (by unfold Ff; omega)
    have hS1 := hS.ff f1
    have ct := c_taskOf (Ξ := Ξ) pr142 hS1.2.2 hw
    have w8 : (st μ 141 5 0).1 141 8 = Wt := hS1.1.2.2.1
    have m1 := hO.2.2.2.2.1.1 w
    cases c : hb Wt w with
    | false =>
      refine ⟨(0, (mX Ξ) μ1), ?_, μ1, rfl, f1, Or.inl ⟨rfl, fun _ k q => ?_⟩⟩
      · simp (disch := omega) only [f_X7_find, f_X7_find_J184, f_X7_find_J144, f_X7_find_J178, f_X7_find_J172, f_X7_find_J35, vc_141, gR_141_0, gR_141_1, gR_141_2, gR_141_3, gR_141_4, gI_141_5, pI_141_5, gI_141_6, pI_141_6, gI_141_7, pI_141_7, gI_141_8, pI_141_8, gI_141_9, pI_141_9, c_inLimit_n, hw, w8, c, lt, true_or, or_true, false_or, or_false, Option.bind_some, if_true, if_false, bI_0, bI_1, bI_z, eI_n1, eI_l0, eI_g12, oN_n1, oN_l0, oN_g0, n1_l0, n1_g12, n1_0, n1_n1, z_0, z_1, z_2, z_3, z_4, z_5, z_6, z_7, z_8, z_9, z_a, z_b, z_c, z_d, z_e, z_f, oN_inj, oN_lt, oN_gt, oN_ge, oN_le, i_succ, if_pos, if_neg, c_has, c_bit, Bool.true_eq_false, Bool.false_eq_true, decide_true, decide_false, decide_eq_true_eq, decide_eq_false_iff_not, eI_lt, lle_0, lge_0, llt_0, lgt_0, leq_0, lle_1, lge_1, llt_1, lgt_1, leq_1, lle_2, lge_2, llt_2, lgt_2, leq_2, lle_3, lge_3, llt_3, lgt_3, leq_3, lle_4, lge_4, llt_4, lgt_4, leq_4, lle_5, lge_5, llt_5, lgt_5, leq_5, lle_6, lge_6, llt_6, lgt_6, leq_6, lle_7, lge_7, llt_7, lgt_7, leq_7, lle_11, lge_11, llt_11, lgt_11, leq_11, lle_12, lge_12, llt_12, lgt_12, leq_12, lle_15, lge_15, llt_15, lgt_15, leq_15, lle_20, lge_20, llt_20, lgt_20, leq_20, lle_24, lge_24, llt_24, lgt_24, leq_24, lle_25, lge_25, llt_25, lgt_25, leq_25, lle_31, lge_31, llt_31, lgt_31, leq_31, lle_48, lge_48, llt_48, lgt_48, leq_48, lle_57, lge_57, llt_57, lgt_57, leq_57, lle_32, lge_32, llt_32, lgt_32, leq_32, lle_59, lge_59, llt_59, lgt_59, leq_59, lle_97, lge_97, llt_97, lgt_97, leq_97, lle_122, lge_122, llt_122, lgt_122, leq_122, lle_99, lge_99, llt_99, lgt_99, leq_99, lle_100, lge_100, llt_100, lgt_100, leq_100, lle_144, lge_144, llt_144, lgt_144, leq_144, lle_255, lge_255, llt_255, lgt_255, leq_255, lle_300, lge_300, llt_300, lgt_300, leq_300, lle_1000, lge_1000, llt_1000, lgt_1000, leq_1000, lle_1000000, lge_1000000, llt_1000000, lgt_1000000, leq_1000000, lle_4096, lge_4096, llt_4096, lgt_4096, leq_4096]
        rfl
      · cases k with
        | zero => exact q
        | succ k =>
          obtain ⟨t, -, e, -⟩ := q
          have := (hO.2.2.1 w t e).2.2
          rw [c] at this; cases this
    | true =>
      by_cases c2 : M w < 12
      · refine ⟨(0, (mX Ξ) μ1), ?_, μ1, rfl, f1, Or.inl ⟨rfl, fun z => by omega⟩⟩
        simp (disch := omega) only [f_X7_find, f_X7_find_J184, f_X7_find_J144, f_X7_find_J178, f_X7_find_J172, f_X7_find_J35, vc_141, gR_141_0, gR_141_1, gR_141_2, gR_141_3, gR_141_4, gI_141_5, pI_141_5, gI_141_6, pI_141_6, gI_141_7, pI_141_7, gI_141_8, pI_141_8, gI_141_9, pI_141_9, c_inLimit_n, hw, w8, c, pr_v pr142, lt, true_or, or_true, false_or, or_false, Option.bind_some, if_true, if_false, bI_0, bI_1, bI_z, eI_n1, eI_l0, eI_g12, oN_n1, oN_l0, oN_g0, n1_l0, n1_g12, n1_0, n1_n1, z_0, z_1, z_2, z_3, z_4, z_5, z_6, z_7, z_8, z_9, z_a, z_b, z_c, z_d, z_e, z_f, oN_inj, oN_lt, oN_gt, oN_ge, oN_le, i_succ, if_pos, if_neg, c_has, c_bit, Bool.true_eq_false, Bool.false_eq_true, decide_true, decide_false, decide_eq_true_eq, decide_eq_false_iff_not, eI_lt, lle_0, lge_0, llt_0, lgt_0, leq_0, lle_1, lge_1, llt_1, lgt_1, leq_1, lle_2, lge_2, llt_2, lgt_2, leq_2, lle_3, lge_3, llt_3, lgt_3, leq_3, lle_4, lge_4, llt_4, lgt_4, leq_4, lle_5, lge_5, llt_5, lgt_5, leq_5, lle_6, lge_6, llt_6, lgt_6, leq_6, lle_7, lge_7, llt_7, lgt_7, leq_7, lle_11, lge_11, llt_11, lgt_11, leq_11, lle_12, lge_12, llt_12, lgt_12, leq_12, lle_15, lge_15, llt_15, lgt_15, leq_15, lle_20, lge_20, llt_20, lgt_20, leq_20, lle_24, lge_24, llt_24, lgt_24, leq_24, lle_25, lge_25, llt_25, lgt_25, leq_25, lle_31, lge_31, llt_31, lgt_31, leq_31, lle_48, lge_48, llt_48, lgt_48, leq_48, lle_57, lge_57, llt_57, lgt_57, leq_57, lle_32, lge_32, llt_32, lgt_32, leq_32, lle_59, lge_59, llt_59, lgt_59, leq_59, lle_97, lge_97, llt_97, lgt_97, leq_97, lle_122, lge_122, llt_122, lgt_122, leq_122, lle_99, lge_99, llt_99, lgt_99, leq_99, lle_100, lge_100, llt_100, lgt_100, leq_100, lle_144, lge_144, llt_144, lgt_144, leq_144, lle_255, lge_255, llt_255, lgt_255, leq_255, lle_300, lge_300, llt_300, lgt_300, leq_300, lle_1000, lge_1000, llt_1000, lgt_1000, leq_1000, lle_1000000, lge_1000000, llt_1000000, lgt_1000000, leq_1000000, lle_4096, lge_4096, llt_4096, lgt_4096, leq_4096]
        rw [show f_X3_taskOf 142 (Int32.ofNat w) ((mX Ξ) (st μ 141 5 0)) = _ from ct]
        simp (disch := omega) only [lt, true_or, or_true, false_or, or_false, Option.bind_some, if_true, if_false, bI_0, bI_1, bI_z, eI_n1, eI_l0, eI_g12, oN_n1, oN_l0, oN_g0, n1_l0, n1_g12, n1_0, n1_n1, z_0, z_1, z_2, z_3, z_4, z_5, z_6, z_7, z_8, z_9, z_a, z_b, z_c, z_d, z_e, z_f, oN_inj, oN_lt, oN_gt, oN_ge, oN_le, i_succ, if_pos, if_neg, c_has, c_bit, Bool.true_eq_false, Bool.false_eq_true, decide_true, decide_false, decide_eq_true_eq, decide_eq_false_iff_not, eI_lt, lle_0, lge_0, llt_0, lgt_0, leq_0, lle_1, lge_1, llt_1, lgt_1, leq_1, lle_2, lge_2, llt_2, lgt_2, leq_2, lle_3, lge_3, llt_3, lgt_3, leq_3, lle_4, lge_4, llt_4, lgt_4, leq_4, lle_5, lge_5, llt_5, lgt_5, leq_5, lle_6, lge_6, llt_6, lgt_6, leq_6, lle_7, lge_7, llt_7, lgt_7, leq_7, lle_11, lge_11, llt_11, lgt_11, leq_11, lle_12, lge_12, llt_12, lgt_12, leq_12, lle_15, lge_15, llt_15, lgt_15, leq_15, lle_20, lge_20, llt_20, lgt_20, leq_20, lle_24, lge_24, llt_24, lgt_24, leq_24, lle_25, lge_25, llt_25, lgt_25, leq_25, lle_31, lge_31, llt_31, lgt_31, leq_31, lle_48, lge_48, llt_48, lgt_48, leq_48, lle_57, lge_57, llt_57, lgt_57, leq_57, lle_32, lge_32, llt_32, lgt_32, leq_32, lle_59, lge_59, llt_59, lgt_59, leq_59, lle_97, lge_97, llt_97, lgt_97, leq_97, lle_122, lge_122, llt_122, lgt_122, leq_122, lle_99, lge_99, llt_99, lgt_99, leq_99, lle_100, lge_100, llt_100, lgt_100, leq_100, lle_144, lge_144, llt_144, lgt_144, leq_144, lle_255, lge_255, llt_255, lgt_255, leq_255, lle_300, lge_300, llt_300, lgt_300, leq_300, lle_1000, lge_1000, llt_1000, lgt_1000, leq_1000, lle_1000000, lge_1000000, llt_1000000, lgt_1000000, leq_1000000, lle_4096, lge_4096, llt_4096, lgt_4096, leq_4096]
      · have mw : M w = 12 := by omega
        have e0 : f_X7_find 141 (Int32.ofNat w) ((mX Ξ) μ) = f_X7_find_L51 f_X7_find_J144 f_X7_find_J184 5000 141 0 1 0 ((mX Ξ) (st μ1 146 0 (Int32.ofNat w))) := by
          simp (disch := omega) only [f_X7_find, f_X7_find_J184, f_X7_find_J144, f_X7_find_J178, f_X7_find_J172, f_X7_find_J35, vc_141, gR_141_0, gR_141_1, gR_141_2, gR_141_3, gR_141_4, gI_141_5, pI_141_5, gI_141_6, pI_141_6, gI_141_7, pI_141_7, gI_141_8, pI_141_8, gI_141_9, pI_141_9, c_inLimit_n, hw, w8, c, pr_v pr142, lt, true_or, or_true, false_or, or_false, Option.bind_some, if_true, if_false, bI_0, bI_1, bI_z, eI_n1, eI_l0, eI_g12, oN_n1, oN_l0, oN_g0, n1_l0, n1_g12, n1_0, n1_n1, z_0, z_1, z_2, z_3, z_4, z_5, z_6, z_7, z_8, z_9, z_a, z_b, z_c, z_d, z_e, z_f, oN_inj, oN_lt, oN_gt, oN_ge, oN_le, i_succ, if_pos, if_neg, c_has, c_bit, Bool.true_eq_false, Bool.false_eq_true, decide_true, decide_false, decide_eq_true_eq, decide_eq_false_iff_not, eI_lt, lle_0, lge_0, llt_0, lgt_0, leq_0, lle_1, lge_1, llt_1, lgt_1, leq_1, lle_2, lge_2, llt_2, lgt_2, leq_2, lle_3, lge_3, llt_3, lgt_3, leq_3, lle_4, lge_4, llt_4, lgt_4, leq_4, lle_5, lge_5, llt_5, lgt_5, leq_5, lle_6, lge_6, llt_6, lgt_6, leq_6, lle_7, lge_7, llt_7, lgt_7, leq_7, lle_11, lge_11, llt_11, lgt_11, leq_11, lle_12, lge_12, llt_12, lgt_12, leq_12, lle_15, lge_15, llt_15, lgt_15, leq_15, lle_20, lge_20, llt_20, lgt_20, leq_20, lle_24, lge_24, llt_24, lgt_24, leq_24, lle_25, lge_25, llt_25, lgt_25, leq_25, lle_31, lge_31, llt_31, lgt_31, leq_31, lle_48, lge_48, llt_48, lgt_48, leq_48, lle_57, lge_57, llt_57, lgt_57, leq_57, lle_32, lge_32, llt_32, lgt_32, leq_32, lle_59, lge_59, llt_59, lgt_59, leq_59, lle_97, lge_97, llt_97, lgt_97, leq_97, lle_122, lge_122, llt_122, lgt_122, leq_122, lle_99, lge_99, llt_99, lgt_99, leq_99, lle_100, lge_100, llt_100, lgt_100, leq_100, lle_144, lge_144, llt_144, lgt_144, leq_144, lle_255, lge_255, llt_255, lgt_255, leq_255, lle_300, lge_300, llt_300, lgt_300, leq_300, lle_1000, lge_1000, llt_1000, lgt_1000, leq_1000, lle_1000000, lge_1000000, llt_1000000, lgt_1000000, leq_1000000, lle_4096, lge_4096, llt_4096, lgt_4096, leq_4096]
          rw [show f_X3_taskOf 142 (Int32.ofNat w) ((mX Ξ) (st μ 141 5 0)) = _ from ct]
          simp (disch := omega) only [vc_141, gR_141_0, gR_141_1, gR_141_2, gR_141_3, gR_141_4, gI_141_5, pI_141_5, gI_141_6, pI_141_6, gI_141_7, pI_141_7, gI_141_8, pI_141_8, gI_141_9, pI_141_9, lt, true_or, or_true, false_or, or_false, Option.bind_some, if_true, if_false, bI_0, bI_1, bI_z, eI_n1, eI_l0, eI_g12, oN_n1, oN_l0, oN_g0, n1_l0, n1_g12, n1_0, n1_n1, z_0, z_1, z_2, z_3, z_4, z_5, z_6, z_7, z_8, z_9, z_a, z_b, z_c, z_d, z_e, z_f, oN_inj, oN_lt, oN_gt, oN_ge, oN_le, i_succ, if_pos, if_neg, c_has, c_bit, Bool.true_eq_false, Bool.false_eq_true, decide_true, decide_false, decide_eq_true_eq, decide_eq_false_iff_not, eI_lt, lle_0, lge_0, llt_0, lgt_0, leq_0, lle_1, lge_1, llt_1, lgt_1, leq_1, lle_2, lge_2, llt_2, lgt_2, leq_2, lle_3, lge_3, llt_3, lgt_3, leq_3, lle_4, lge_4, llt_4, lgt_4, leq_4, lle_5, lge_5, llt_5, lgt_5, leq_5, lle_6, lge_6, llt_6, lgt_6, leq_6, lle_7, lge_7, llt_7, lgt_7, leq_7, lle_11, lge_11, llt_11, lgt_11, leq_11, lle_12, lge_12, llt_12, lgt_12, leq_12, lle_15, lge_15, llt_15, lgt_15, leq_15, lle_20, lge_20, llt_20, lgt_20, leq_20, lle_24, lge_24, llt_24, lgt_24, leq_24, lle_25, lge_25, llt_25, lgt_25, leq_25, lle_31, lge_31, llt_31, lgt_31, leq_31, lle_48, lge_48, llt_48, lgt_48, leq_48, lle_57, lge_57, llt_57, lgt_57, leq_57, lle_32, lge_32, llt_32, lgt_32, leq_32, lle_59, lge_59, llt_59, lgt_59, leq_59, lle_97, lge_97, llt_97, lgt_97, leq_97, lle_122, lge_122, llt_122, lgt_122, leq_122, lle_99, lge_99, llt_99, lgt_99, leq_99, lle_100, lge_100, llt_100, lgt_100, leq_100, lle_144, lge_144, llt_144, lgt_144, leq_144, lle_255, lge_255, llt_255, lgt_255, leq_255, lle_300, lge_300, llt_300, lgt_300, leq_300, lle_1000, lge_1000, llt_1000, lgt_1000, leq_1000, lle_1000000, lge_1000000, llt_1000000, lgt_1000000, leq_1000000, lle_4096, lge_4096, llt_4096, lgt_4096, leq_4096]
          rw [show sI ((mX Ξ) (st μ 141 5 0)) 146 0 (Int32.ofNat w) = _ from sI_146 (i := 0) (by omega)]
          simp (disch := omega) only [lt, true_or, or_true, false_or, or_false, Option.bind_some, if_true, if_false, bI_0, bI_1, bI_z, eI_n1, eI_l0, eI_g12, oN_n1, oN_l0, oN_g0, n1_l0, n1_g12, n1_0, n1_n1, z_0, z_1, z_2, z_3, z_4, z_5, z_6, z_7, z_8, z_9, z_a, z_b, z_c, z_d, z_e, z_f, oN_inj, oN_lt, oN_gt, oN_ge, oN_le, i_succ, if_pos, if_neg, c_has, c_bit, Bool.true_eq_false, Bool.false_eq_true, decide_true, decide_false, decide_eq_true_eq, decide_eq_false_iff_not, eI_lt, lle_0, lge_0, llt_0, lgt_0, leq_0, lle_1, lge_1, llt_1, lgt_1, leq_1, lle_2, lge_2, llt_2, lgt_2, leq_2, lle_3, lge_3, llt_3, lgt_3, leq_3, lle_4, lge_4, llt_4, lgt_4, leq_4, lle_5, lge_5, llt_5, lgt_5, leq_5, lle_6, lge_6, llt_6, lgt_6, leq_6, lle_7, lge_7, llt_7, lgt_7, leq_7, lle_11, lge_11, llt_11, lgt_11, leq_11, lle_12, lge_12, llt_12, lgt_12, leq_12, lle_15, lge_15, llt_15, lgt_15, leq_15, lle_20, lge_20, llt_20, lgt_20, leq_20, lle_24, lge_24, llt_24, lgt_24, leq_24, lle_25, lge_25, llt_25, lgt_25, leq_25, lle_31, lge_31, llt_31, lgt_31, leq_31, lle_48, lge_48, llt_48, lgt_48, leq_48, lle_57, lge_57, llt_57, lgt_57, leq_57, lle_32, lge_32, llt_32, lgt_32, leq_32, lle_59, lge_59, llt_59, lgt_59, leq_59, lle_97, lge_97, llt_97, lgt_97, leq_97, lle_122, lge_122, llt_122, lgt_122, leq_122, lle_99, lge_99, llt_99, lgt_99, leq_99, lle_100, lge_100, llt_100, lgt_100, leq_100, lle_144, lge_144, llt_144, lgt_144, leq_144, lle_255, lge_255, llt_255, lgt_255, leq_255, lle_300, lge_300, llt_300, lgt_300, leq_300, lle_1000, lge_1000, llt_1000, lgt_1000, leq_1000, lle_1000000, lge_1000000, llt_1000000, lgt_1000000, leq_1000000, lle_4096, lge_4096, llt_4096, lgt_4096, leq_4096]
          rfl
        rw [e0]
        have f2 : Fr Ff μ (st μ1 146 0 (Int32.ofNat w)) := f1.st (Or.inl rfl)
        have B0 : FI μ (st μ1 146 0 (Int32.ofNat w)) E M w (fun _ => w) (fun _ => 0) (fun _ => 12) 1 0 0 0 := by
          refine ⟨⟨⟨by omega, by omega, rfl, mw, hw⟩, fun p _ => hw, fun p p1 p2 => by omega, fun p q p1 pq q2 => by omega, fun s q => (by rw [hb_zero] at q; cases q), fun j s q => by omega⟩, fun p hp => ?_, fun p p1 p2 => by omega, f2⟩
          rw [show p = 0 by omega]; exact st_same _ _ _ _
        refine hw_rec (L := fun i (s : Int32 × Int32 × Int32 × MM) => f_X7_find_L51 f_X7_find_J144 f_X7_find_J184 i 141 s.1 s.2.1 s.2.2.1 ((mX Ξ) s.2.2.2)) (I := fun a s => ∃ Q J T N k, s.2.1 = Int32.ofNat N ∧ s.2.2.1 = Int32.ofNat k ∧ k + a = 12 ∧ FI μ s.2.2.2 E M w Q J T N k 0 s.1) ?_ 12 (0, 1, 0, st μ1 146 0 (Int32.ofNat w)) ⟨_, _, _, 1, 0, rfl, rfl, rfl, B0⟩ 5000 (by omega)
        rintro a ⟨x, y2, y3, ν⟩ i ⟨Q, J, T, N, k, q1, q2, q3, q4⟩ ih
        simp only at q1 q2 q3 q4 ih
        subst q1; subst q2
        have hN := q4.1.le12 hE
        have hkN := q4.1.1.2.1
        by_cases ck : k < N
        · have e1 := q4.2.1 k ck
          have hQ := q4.1.2.1 k ck
          have hrow := (hS.ff q4.2.2.2).2.1 (Q k) hQ
          have h6 : ∀ s, hb (ν.1 145 (Q k) &&& (x ^^^ (-1))) s = (E (Q k) s && !hb x s) := fun s => by
            rw [hb_and, hb_not, hrow]
            by_cases z : s < 32
            · simp [z]
            · have : E (Q k) s = false := by
                cases q : E (Q k) s with
                | false => rfl
                | true => have := (hE _ _ q).2; omega
              simp [z, this]
          have := c_find_in (Ξ := Ξ) (kE144 := f_X7_find_J144) (kE178 := f_X7_find_J178 (f_X7_find_L51 f_X7_find_J144 f_X7_find_J184 i) f_X7_find_J144 f_X7_find_J184) (P := fun r => ∃ ν, r.2 = (mX Ξ) ν ∧ FdR μ E M w r.1 ν) hS hO q4 ck h6 (fun Q' J' T' N' x' ν' k1 b => ?_) (fun Q' J' T' N' t x' ν' k1 b he hs ho v7 => ?_)
          · show Hw (f_X7_find_L51 f_X7_find_J144 f_X7_find_J184 (i + 1) 141 x (Int32.ofNat N) (Int32.ofNat k) ((mX Ξ) ν)) _
            simp (disch := omega) only [f_X7_find_L51, vc_141, gR_141_0, gR_141_1, gR_141_2, gR_141_3, gR_141_4, gI_141_5, pI_141_5, gI_141_6, pI_141_6, gI_141_7, pI_141_7, gI_141_8, pI_141_8, gI_141_9, pI_141_9, aI_146, sI_146, e1, c_row, lt, true_or, or_true, false_or, or_false, Option.bind_some, if_true, if_false, bI_0, bI_1, bI_z, eI_n1, eI_l0, eI_g12, oN_n1, oN_l0, oN_g0, n1_l0, n1_g12, n1_0, n1_n1, z_0, z_1, z_2, z_3, z_4, z_5, z_6, z_7, z_8, z_9, z_a, z_b, z_c, z_d, z_e, z_f, oN_inj, oN_lt, oN_gt, oN_ge, oN_le, i_succ, if_pos, if_neg, c_has, c_bit, Bool.true_eq_false, Bool.false_eq_true, decide_true, decide_false, decide_eq_true_eq, decide_eq_false_iff_not, eI_lt, lle_0, lge_0, llt_0, lgt_0, leq_0, lle_1, lge_1, llt_1, lgt_1, leq_1, lle_2, lge_2, llt_2, lgt_2, leq_2, lle_3, lge_3, llt_3, lgt_3, leq_3, lle_4, lge_4, llt_4, lgt_4, leq_4, lle_5, lge_5, llt_5, lgt_5, leq_5, lle_6, lge_6, llt_6, lgt_6, leq_6, lle_7, lge_7, llt_7, lgt_7, leq_7, lle_11, lge_11, llt_11, lgt_11, leq_11, lle_12, lge_12, llt_12, lgt_12, leq_12, lle_15, lge_15, llt_15, lgt_15, leq_15, lle_20, lge_20, llt_20, lgt_20, leq_20, lle_24, lge_24, llt_24, lgt_24, leq_24, lle_25, lge_25, llt_25, lgt_25, leq_25, lle_31, lge_31, llt_31, lgt_31, leq_31, lle_48, lge_48, llt_48, lgt_48, leq_48, lle_57, lge_57, llt_57, lgt_57, leq_57, lle_32, lge_32, llt_32, lgt_32, leq_32, lle_59, lge_59, llt_59, lgt_59, leq_59, lle_97, lge_97, llt_97, lgt_97, leq_97, lle_122, lge_122, llt_122, lgt_122, leq_122, lle_99, lge_99, llt_99, lgt_99, leq_99, lle_100, lge_100, llt_100, lgt_100, leq_100, lle_144, lge_144, llt_144, lgt_144, leq_144, lle_255, lge_255, llt_255, lgt_255, leq_255, lle_300, lge_300, llt_300, lgt_300, leq_300, lle_1000, lge_1000, llt_1000, lgt_1000, leq_1000, lle_1000000, lge_1000000, llt_1000000, lgt_1000000, leq_1000000, lle_4096, lge_4096, llt_4096, lgt_4096, leq_4096]
            exact this
          · simp only [f_X7_find_J178, lt, i_succ]
            exact ih (11 - k) (x', Int32.ofNat N', Int32.ofNat (k + 1), ν') (by omega) ⟨Q', J', T', N', k + 1, rfl, rfl, by omega, b⟩
          · obtain ⟨d, c, c0, cd, dl, cl, cs⟩ := b.1.path k k1
            have tw := b.1.found hE k1 he hs ho c0 cd cl cs
            have hd : d < 12 := by have := tw.len hE; omega
            have q1 : ∀ j, j ≤ d → Q' (c j) < 12 ∧ (if j = d then t else T' (c (j + 1))) < 12 ∧ ν'.1 147 (if j = d then t else T' (c (j + 1))) = Int32.ofNat (Q' (c j)) := fun j hj => by
              have u := tw.w12 hE (i := j) (by omega)
              refine ⟨u.1, u.2, ?_⟩
              by_cases z : j = d
              · rw [if_pos z, z, cd]; exact v7
              · rw [if_neg z, b.2.2.1 _ (cs j (by omega)).1 (cl _ (by omega)), (cs j (by omega)).2]
            obtain ⟨ξ, e2, t1, t2, t3⟩ := c_trace (Ξ := Ξ) (d := d) (pw := fun i => Q' (c i)) (pt := fun i => if i = d then t else T' (c (i + 1))) (hS.ff b.2.2.2).2.2 hd q1 (fun j hj => tw.mate hE (i := j) (by omega)) tw.2.1
            simp only [if_true] at e2
            simp only [f_X7_find_J144, vc_141, gR_141_0, gR_141_1, gR_141_2, gR_141_3, gR_141_4, gI_141_5, pI_141_5, gI_141_6, pI_141_6, gI_141_7, pI_141_7, gI_141_8, pI_141_8, gI_141_9, pI_141_9, e2, Option.bind_some]
            refine hw_ret ⟨ξ, rfl, b.2.2.2.trans (t1.mono fun q i z => by unfold Ft at z; unfold Ff; omega), Or.inr ⟨d + 1, _, _, tw, ?_, ?_, t2, fun j hj => t3 j (by omega)⟩⟩
            · show Q' (c 0) = w
              rw [c0]; exact b.1.1.2.2.1
            · exact t2
        · have ek : k = N := by omega
          subst ek
          show Hw (f_X7_find_L51 f_X7_find_J144 f_X7_find_J184 (i + 1) 141 x (Int32.ofNat k) (Int32.ofNat k) ((mX Ξ) ν)) _
          simp (disch := omega) only [f_X7_find_L51, f_X7_find_J184, f_X7_find_J144, f_X7_find_J178, f_X7_find_J172, f_X7_find_J35, lt, true_or, or_true, false_or, or_false, Option.bind_some, if_true, if_false, bI_0, bI_1, bI_z, eI_n1, eI_l0, eI_g12, oN_n1, oN_l0, oN_g0, n1_l0, n1_g12, n1_0, n1_n1, z_0, z_1, z_2, z_3, z_4, z_5, z_6, z_7, z_8, z_9, z_a, z_b, z_c, z_d, z_e, z_f, oN_inj, oN_lt, oN_gt, oN_ge, oN_le, i_succ, if_pos, if_neg, c_has, c_bit, Bool.true_eq_false, Bool.false_eq_true, decide_true, decide_false, decide_eq_true_eq, decide_eq_false_iff_not, eI_lt, lle_0, lge_0, llt_0, lgt_0, leq_0, lle_1, lge_1, llt_1, lgt_1, leq_1, lle_2, lge_2, llt_2, lgt_2, leq_2, lle_3, lge_3, llt_3, lgt_3, leq_3, lle_4, lge_4, llt_4, lgt_4, leq_4, lle_5, lge_5, llt_5, lgt_5, leq_5, lle_6, lge_6, llt_6, lgt_6, leq_6, lle_7, lge_7, llt_7, lgt_7, leq_7, lle_11, lge_11, llt_11, lgt_11, leq_11, lle_12, lge_12, llt_12, lgt_12, leq_12, lle_15, lge_15, llt_15, lgt_15, leq_15, lle_20, lge_20, llt_20, lgt_20, leq_20, lle_24, lge_24, llt_24, lgt_24, leq_24, lle_25, lge_25, llt_25, lgt_25, leq_25, lle_31, lge_31, llt_31, lgt_31, leq_31, lle_48, lge_48, llt_48, lgt_48, leq_48, lle_57, lge_57, llt_57, lgt_57, leq_57, lle_32, lge_32, llt_32, lgt_32, leq_32, lle_59, lge_59, llt_59, lgt_59, leq_59, lle_97, lge_97, llt_97, lgt_97, leq_97, lle_122, lge_122, llt_122, lgt_122, leq_122, lle_99, lge_99, llt_99, lgt_99, leq_99, lle_100, lge_100, llt_100, lgt_100, leq_100, lle_144, lge_144, llt_144, lgt_144, leq_144, lle_255, lge_255, llt_255, lgt_255, leq_255, lle_300, lge_300, llt_300, lgt_300, leq_300, lle_1000, lge_1000, llt_1000, lgt_1000, leq_1000, lle_1000000, lge_1000000, llt_1000000, lgt_1000000, leq_1000000, lle_4096, lge_4096, llt_4096, lgt_4096, leq_4096]
          exact hw_ret ⟨ν, rfl, q4.2.2.2, Or.inl ⟨rfl, fun _ => q4.1.none hE⟩⟩
  obtain ⟨⟨r, h⟩, e, ν, rfl, h2⟩ := key
  exact ⟨r, ν, e, h2⟩
end Fd
