/-! OPERATIONS: lack -/
theorem one_shl {n : Nat} (hn : n ≤ 12) : (1 : Int32) <<< (Int32.ofNat n &&& 31) = Int32.ofNat (2 ^ n) := by
  have : ∀ n, n < 13 → (1 : Int32) <<< (Int32.ofNat n &&& 31) = Int32.ofNat (2 ^ n) := by decide
  exact this n (by omega)
theorem pow_12 {n : Nat} (hn : n ≤ 12) : 1 ≤ 2 ^ n ∧ 2 ^ n ≤ 4096 := ⟨Nat.one_le_two_pow, Nat.pow_le_pow_right (n := 2) (by omega) hn⟩
theorem or_zero' (x : Int32) : x ||| 0 = x := by
  apply hb_ext; intro k _; rw [hb_or, hb_zero, Bool.or_false]
theorem zero_or' (x : Int32) : 0 ||| x = x := by
  apply hb_ext; intro k _; rw [hb_or, hb_zero, Bool.false_or]
theorem BOK.bw12 {B : Bk} (h : BOK B) : m12 (bw B) := fun k hk => by
  cases q : hb (bw B) k with
  | false => rfl
  | true => have := h.w q; have := h.n; omega
theorem BOK.bt12 {B : Bk} (h : BOK B) : m12 (bt B) := fun k hk => by
  cases q : hb (bt B) k with
  | false => rfl
  | true => have := h.t q; have := h.m; omega
theorem BOK.bf12 {B : Bk} (h : BOK B) (w : Nat) : m12 (bf B w) := fun k hk => by
  cases q : hb (bf B w) k with
  | false => rfl
  | true => have := (h.f q).2; have := h.m; omega
theorem m12_and {x y : Int32} (h : m12 y) : m12 (x &&& y) := fun k hk => by rw [hb_and, h k hk, Bool.and_false]
theorem m12_or {x y : Int32} (h : m12 x) (h' : m12 y) : m12 (x ||| y) := fun k hk => by rw [hb_or, h k hk, h' k hk]; rfl
theorem m12_0 : m12 0 := fun k _ => hb_zero k
/-- tasks that workers of a mask fit -/
def lk (B : Bk) (x : Int32) : Nat → Int32
  | 0 => 0
  | i + 1 => if hb x i then lk B x i ||| (bf B i &&& bt B) else lk B x i
theorem lk_12 {B : Bk} (hB : BOK B) (x : Int32) : ∀ i, m12 (lk B x i)
  | 0 => m12_0
  | i + 1 => by
    unfold lk
    split
    · exact m12_or (lk_12 hB x i) (m12_and hB.bt12)
    · exact lk_12 hB x i
theorem lk_n {B : Bk} {x : Int32} {n : Nat} (h : ∀ k, n ≤ k → hb x k = false) : ∀ d, lk B x (n + d) = lk B x n
  | 0 => rfl
  | d + 1 => by
    rw [show n + (d + 1) = (n + d) + 1 from rfl, lk, h (n + d) (by omega)]
    exact lk_n h d
section O12
variable {T : MM → Bk → Prop} {μ : MM} {A : AS}
theorem c_lack_L {x : Int32} (hb' : BC μ 1 (aB A)) (hB : BOK (aB A)) (hx : m12 x) : f_X9_lack_L41 f_X9_lack_J88 5000 0 x 0 0 (mem μ) = some (.inl (Int32.ofNat (cnt (hb x) 12) - Int32.ofNat (cnt (hb (lk (aB A) x (bn (aB A)))) 12)), mem μ) := by
  have hn := hB.n
  have e0 : μ.1 1 0 = Int32.ofNat (bn (aB A)) := hb'.1.1
  have e3 : μ.1 1 3 = bt (aB A) := hb'.1.2.2.2.1
  apply hw_eq
  refine hw_for (L := fun n i (s : Int32) => f_X9_lack_L41 f_X9_lack_J88 n 0 x s i (mem μ)) (s0 := 0) (bn (aB A)) (fun i s => s = lk (aB A) x i) rfl (by omega) (fun i hi s hs => Or.inl ⟨lk (aB A) x (i + 1), rfl, fun n => ?_⟩) (fun s hs n => ?_)
  · subst hs
    have et := c_tasksFor bk1 hb' (show i < 12 by omega)
    cases q : hb x i with
    | false =>
      have e9 : lk (aB A) x (i + 1) = lk (aB A) x i := by rw [lk, q]; rfl
      rw [e9]
      simp (disch := omega) only [f_X9_lack_L41, f_X9_lack_J82, vc_0, gR_0_0, gR_0_1, gR_0_2, gR_0_3, gR_0_4, gR_0_5, gR_0_6, gR_0_7, gR_0_8, gI_0_9, pI_0_9, gI_0_10, pI_0_10, gI_0_11, pI_0_11, bk_v bk1, bk_i0 bk1, bk_i1 bk1, bk_i2 bk1, bk_i3 bk1, bk_i4 bk1, bk_p0 bk1, bk_p1 bk1, bk_p2 bk1, bk_p3 bk1, bk_p4 bk1, bk_r5 bk1, bk_r6 bk1, bk_r7 bk1, bk_r8 bk1, bk_r9 bk1, bk_a1 bk1, bk_a2 bk1, bk_a3 bk1, bk_a4 bk1, bk_s1 bk1, bk_s2 bk1, bk_s3 bk1, bk_s4 bk1, e0, q, lt, true_or, or_true, false_or, or_false, Option.bind_some, if_true, if_false, bI_0, bI_1, bI_z, eI_n1, eI_l0, eI_g12, oN_n1, oN_l0, oN_g0, n1_l0, n1_g12, n1_0, n1_n1, z_0, z_1, z_2, z_3, z_4, z_5, z_6, z_7, z_8, z_9, z_a, z_b, z_c, z_d, z_e, z_f, oN_inj, oN_lt, oN_gt, oN_ge, oN_le, i_succ, if_pos, if_neg, c_has, c_bit, Bool.true_eq_false, Bool.false_eq_true, decide_true, decide_false, decide_eq_true_eq, decide_eq_false_iff_not, eI_lt, lle_0, lge_0, llt_0, lgt_0, leq_0, lle_1, lge_1, llt_1, lgt_1, leq_1, lle_2, lge_2, llt_2, lgt_2, leq_2, lle_3, lge_3, llt_3, lgt_3, leq_3, lle_4, lge_4, llt_4, lgt_4, leq_4, lle_5, lge_5, llt_5, lgt_5, leq_5, lle_6, lge_6, llt_6, lgt_6, leq_6, lle_7, lge_7, llt_7, lgt_7, leq_7, lle_11, lge_11, llt_11, lgt_11, leq_11, lle_12, lge_12, llt_12, lgt_12, leq_12, lle_15, lge_15, llt_15, lgt_15, leq_15, lle_20, lge_20, llt_20, lgt_20, leq_20, lle_24, lge_24, llt_24, lgt_24, leq_24, lle_25, lge_25, llt_25, lgt_25, leq_25, lle_31, lge_31, llt_31, lgt_31, leq_31, lle_48, lge_48, llt_48, lgt_48, leq_48, lle_57, lge_57, llt_57, lgt_57, leq_57, lle_32, lge_32, llt_32, lgt_32, leq_32, lle_59, lge_59, llt_59, lgt_59, leq_59, lle_97, lge_97, llt_97, lgt_97, leq_97, lle_122, lge_122, llt_122, lgt_122, leq_122, lle_99, lge_99, llt_99, lgt_99, leq_99, lle_100, lge_100, llt_100, lgt_100, leq_100, lle_144, lge_144, llt_144, lgt_144, leq_144, lle_255, lge_255, llt_255, lgt_255, leq_255, lle_300, lge_300, llt_300, lgt_300, leq_300, lle_1000, lge_1000, llt_1000, lgt_1000, leq_1000, lle_1000000, lge_1000000, llt_1000000, lgt_1000000, leq_1000000, lle_4096, lge_4096, llt_4096, lgt_4096, leq_4096, b_ft]
    | true =>
      have e9 : lk (aB A) x (i + 1) = lk (aB A) x i ||| (bf (aB A) i &&& bt (aB A)) := by rw [lk, q]; rfl
      rw [e9]
      simp (disch := omega) only [f_X9_lack_L41, f_X9_lack_J82, vc_0, gR_0_0, gR_0_1, gR_0_2, gR_0_3, gR_0_4, gR_0_5, gR_0_6, gR_0_7, gR_0_8, gI_0_9, pI_0_9, gI_0_10, pI_0_10, gI_0_11, pI_0_11, bk_v bk1, bk_i0 bk1, bk_i1 bk1, bk_i2 bk1, bk_i3 bk1, bk_i4 bk1, bk_p0 bk1, bk_p1 bk1, bk_p2 bk1, bk_p3 bk1, bk_p4 bk1, bk_r5 bk1, bk_r6 bk1, bk_r7 bk1, bk_r8 bk1, bk_r9 bk1, bk_a1 bk1, bk_a2 bk1, bk_a3 bk1, bk_a4 bk1, bk_s1 bk1, bk_s2 bk1, bk_s3 bk1, bk_s4 bk1, e0, e3, q, et, lt, true_or, or_true, false_or, or_false, Option.bind_some, if_true, if_false, bI_0, bI_1, bI_z, eI_n1, eI_l0, eI_g12, oN_n1, oN_l0, oN_g0, n1_l0, n1_g12, n1_0, n1_n1, z_0, z_1, z_2, z_3, z_4, z_5, z_6, z_7, z_8, z_9, z_a, z_b, z_c, z_d, z_e, z_f, oN_inj, oN_lt, oN_gt, oN_ge, oN_le, i_succ, if_pos, if_neg, c_has, c_bit, Bool.true_eq_false, Bool.false_eq_true, decide_true, decide_false, decide_eq_true_eq, decide_eq_false_iff_not, eI_lt, lle_0, lge_0, llt_0, lgt_0, leq_0, lle_1, lge_1, llt_1, lgt_1, leq_1, lle_2, lge_2, llt_2, lgt_2, leq_2, lle_3, lge_3, llt_3, lgt_3, leq_3, lle_4, lge_4, llt_4, lgt_4, leq_4, lle_5, lge_5, llt_5, lgt_5, leq_5, lle_6, lge_6, llt_6, lgt_6, leq_6, lle_7, lge_7, llt_7, lgt_7, leq_7, lle_11, lge_11, llt_11, lgt_11, leq_11, lle_12, lge_12, llt_12, lgt_12, leq_12, lle_15, lge_15, llt_15, lgt_15, leq_15, lle_20, lge_20, llt_20, lgt_20, leq_20, lle_24, lge_24, llt_24, lgt_24, leq_24, lle_25, lge_25, llt_25, lgt_25, leq_25, lle_31, lge_31, llt_31, lgt_31, leq_31, lle_48, lge_48, llt_48, lgt_48, leq_48, lle_57, lge_57, llt_57, lgt_57, leq_57, lle_32, lge_32, llt_32, lgt_32, leq_32, lle_59, lge_59, llt_59, lgt_59, leq_59, lle_97, lge_97, llt_97, lgt_97, leq_97, lle_122, lge_122, llt_122, lgt_122, leq_122, lle_99, lge_99, llt_99, lgt_99, leq_99, lle_100, lge_100, llt_100, lgt_100, leq_100, lle_144, lge_144, llt_144, lgt_144, leq_144, lle_255, lge_255, llt_255, lgt_255, leq_255, lle_300, lge_300, llt_300, lgt_300, leq_300, lle_1000, lge_1000, llt_1000, lgt_1000, leq_1000, lle_1000000, lge_1000000, llt_1000000, lgt_1000000, leq_1000000, lle_4096, lge_4096, llt_4096, lgt_4096, leq_4096, b_ft]
  · subst hs
    have c1 := c_bitCount (h := mem μ) hx
    have c2 := c_bitCount (h := mem μ) (lk_12 hB x (bn (aB A)))
    refine hw_of (r := (.inl (Int32.ofNat (cnt (hb x) 12) - Int32.ofNat (cnt (hb (lk (aB A) x (bn (aB A)))) 12)), mem μ)) ?_ rfl
    simp (disch := omega) only [f_X9_lack_L41, f_X9_lack_J88, vc_0, gR_0_0, gR_0_1, gR_0_2, gR_0_3, gR_0_4, gR_0_5, gR_0_6, gR_0_7, gR_0_8, gI_0_9, pI_0_9, gI_0_10, pI_0_10, gI_0_11, pI_0_11, bk_v bk1, bk_i0 bk1, bk_i1 bk1, bk_i2 bk1, bk_i3 bk1, bk_i4 bk1, bk_p0 bk1, bk_p1 bk1, bk_p2 bk1, bk_p3 bk1, bk_p4 bk1, bk_r5 bk1, bk_r6 bk1, bk_r7 bk1, bk_r8 bk1, bk_r9 bk1, bk_a1 bk1, bk_a2 bk1, bk_a3 bk1, bk_a4 bk1, bk_s1 bk1, bk_s2 bk1, bk_s3 bk1, bk_s4 bk1, e0, c1, c2, lt, true_or, or_true, false_or, or_false, Option.bind_some, if_true, if_false, bI_0, bI_1, bI_z, eI_n1, eI_l0, eI_g12, oN_n1, oN_l0, oN_g0, n1_l0, n1_g12, n1_0, n1_n1, z_0, z_1, z_2, z_3, z_4, z_5, z_6, z_7, z_8, z_9, z_a, z_b, z_c, z_d, z_e, z_f, oN_inj, oN_lt, oN_gt, oN_ge, oN_le, i_succ, if_pos, if_neg, c_has, c_bit, Bool.true_eq_false, Bool.false_eq_true, decide_true, decide_false, decide_eq_true_eq, decide_eq_false_iff_not, eI_lt, lle_0, lge_0, llt_0, lgt_0, leq_0, lle_1, lge_1, llt_1, lgt_1, leq_1, lle_2, lge_2, llt_2, lgt_2, leq_2, lle_3, lge_3, llt_3, lgt_3, leq_3, lle_4, lge_4, llt_4, lgt_4, leq_4, lle_5, lge_5, llt_5, lgt_5, leq_5, lle_6, lge_6, llt_6, lgt_6, leq_6, lle_7, lge_7, llt_7, lgt_7, leq_7, lle_11, lge_11, llt_11, lgt_11, leq_11, lle_12, lge_12, llt_12, lgt_12, leq_12, lle_15, lge_15, llt_15, lgt_15, leq_15, lle_20, lge_20, llt_20, lgt_20, leq_20, lle_24, lge_24, llt_24, lgt_24, leq_24, lle_25, lge_25, llt_25, lgt_25, leq_25, lle_31, lge_31, llt_31, lgt_31, leq_31, lle_48, lge_48, llt_48, lgt_48, leq_48, lle_57, lge_57, llt_57, lgt_57, leq_57, lle_32, lge_32, llt_32, lgt_32, leq_32, lle_59, lge_59, llt_59, lgt_59, leq_59, lle_97, lge_97, llt_97, lgt_97, leq_97, lle_122, lge_122, llt_122, lgt_122, leq_122, lle_99, lge_99, llt_99, lgt_99, leq_99, lle_100, lge_100, llt_100, lgt_100, leq_100, lle_144, lge_144, llt_144, lgt_144, leq_144, lle_255, lge_255, llt_255, lgt_255, leq_255, lle_300, lge_300, llt_300, lgt_300, leq_300, lle_1000, lge_1000, llt_1000, lgt_1000, leq_1000, lle_1000000, lge_1000000, llt_1000000, lgt_1000000, leq_1000000, lle_4096, lge_4096, llt_4096, lgt_4096, leq_4096, b_ft]
theorem m_lack_L {x : Int32} (hm : MR μ 0 (aB A)) (hB : BOK (aB A)) (hx : m12 x) : f_X10_lack_L57 f_X10_lack_J104 5000 168 0 x 0 (mem μ) = some (Int32.ofNat (cnt (hb x) 12) - Int32.ofNat (cnt (hb (lk (aB A) x 12)) 12), mem μ) := by
  have e4 : μ.1 172 4 = bt (aB A) := hm.1.2.2.2.2
  apply hw_eq
  refine hw_for (L := fun n i (s : Int32) => f_X10_lack_L57 f_X10_lack_J104 n 168 s x i (mem μ)) (s0 := 0) 12 (fun i s => s = lk (aB A) x i) rfl (by omega) (fun i hi s hs => Or.inl ⟨lk (aB A) x (i + 1), rfl, fun n => ?_⟩) (fun s hs n => ?_)
  · subst hs
    have ef : μ.1 191 i = bf (aB A) i := hm.2.1 i hi
    have eh := m_has (x := x) (h := mem μ) (show i < 32 by omega)
    cases q : hb x i with
    | false =>
      have e9 : lk (aB A) x (i + 1) = lk (aB A) x i := by rw [lk, q]; rfl
      rw [e9]
      rw [q] at eh
      simp (disch := omega) only [f_X10_lack_L57, f_X10_lack_J96, vc_168, gI_168_0, pI_168_0, gR_168_1, gI_168_2, pI_168_2, gI_168_3, pI_168_3, gI_168_4, pI_168_4, gI_168_5, pI_168_5, gI_168_6, pI_168_6, gI_168_7, pI_168_7, gR_168_8, gR_168_9, gR_168_10, gR_168_11, gR_168_12, gR_168_13, gI_168_14, pI_168_14, gI_168_15, pI_168_15, gI_168_16, pI_168_16, gR_168_17, gI_168_18, pI_168_18, gR_168_19, gI_168_20, pI_168_20, gI_168_21, pI_168_21, gI_168_22, pI_168_22, gI_168_23, pI_168_23, gR_168_24, gR_168_25, gI_168_26, pI_168_26, gI_168_27, pI_168_27, gR_168_28, gI_168_29, pI_168_29, gI_168_30, pI_168_30, gI_168_31, pI_168_31, gR_168_32, gR_168_33, gR_168_34, gR_168_35, gR_168_36, gR_168_37, gR_168_38, mr_h0, mr_f0, mr_m0, mr_w0, mr_c0, mc_c0, mc_a0, mc_s0, mh_a0_0, mh_s0_0, mh_a0_1, mh_s0_1, mh_a0_2, mh_s0_2, mh_a0_3, mh_s0_3, mh_a0_4, mh_s0_4, ma_f0, ms_f0, ma_m0, ms_m0, ma_w0, ms_w0, eh, or_zero', lt, true_or, or_true, false_or, or_false, Option.bind_some, if_true, if_false, bI_0, bI_1, bI_z, eI_n1, eI_l0, eI_g12, oN_n1, oN_l0, oN_g0, n1_l0, n1_g12, n1_0, n1_n1, z_0, z_1, z_2, z_3, z_4, z_5, z_6, z_7, z_8, z_9, z_a, z_b, z_c, z_d, z_e, z_f, oN_inj, oN_lt, oN_gt, oN_ge, oN_le, i_succ, if_pos, if_neg, c_has, c_bit, Bool.true_eq_false, Bool.false_eq_true, decide_true, decide_false, decide_eq_true_eq, decide_eq_false_iff_not, eI_lt, lle_0, lge_0, llt_0, lgt_0, leq_0, lle_1, lge_1, llt_1, lgt_1, leq_1, lle_2, lge_2, llt_2, lgt_2, leq_2, lle_3, lge_3, llt_3, lgt_3, leq_3, lle_4, lge_4, llt_4, lgt_4, leq_4, lle_5, lge_5, llt_5, lgt_5, leq_5, lle_6, lge_6, llt_6, lgt_6, leq_6, lle_7, lge_7, llt_7, lgt_7, leq_7, lle_11, lge_11, llt_11, lgt_11, leq_11, lle_12, lge_12, llt_12, lgt_12, leq_12, lle_15, lge_15, llt_15, lgt_15, leq_15, lle_20, lge_20, llt_20, lgt_20, leq_20, lle_24, lge_24, llt_24, lgt_24, leq_24, lle_25, lge_25, llt_25, lgt_25, leq_25, lle_31, lge_31, llt_31, lgt_31, leq_31, lle_48, lge_48, llt_48, lgt_48, leq_48, lle_57, lge_57, llt_57, lgt_57, leq_57, lle_32, lge_32, llt_32, lgt_32, leq_32, lle_59, lge_59, llt_59, lgt_59, leq_59, lle_97, lge_97, llt_97, lgt_97, leq_97, lle_122, lge_122, llt_122, lgt_122, leq_122, lle_99, lge_99, llt_99, lgt_99, leq_99, lle_100, lge_100, llt_100, lgt_100, leq_100, lle_144, lge_144, llt_144, lgt_144, leq_144, lle_255, lge_255, llt_255, lgt_255, leq_255, lle_300, lge_300, llt_300, lgt_300, leq_300, lle_1000, lge_1000, llt_1000, lgt_1000, leq_1000, lle_1000000, lge_1000000, llt_1000000, lgt_1000000, leq_1000000, lle_4096, lge_4096, llt_4096, lgt_4096, leq_4096, b_ft]
    | true =>
      have e9 : lk (aB A) x (i + 1) = lk (aB A) x i ||| (bf (aB A) i &&& bt (aB A)) := by rw [lk, q]; rfl
      rw [e9]
      rw [q] at eh
      simp (disch := omega) only [f_X10_lack_L57, f_X10_lack_J96, vc_168, gI_168_0, pI_168_0, gR_168_1, gI_168_2, pI_168_2, gI_168_3, pI_168_3, gI_168_4, pI_168_4, gI_168_5, pI_168_5, gI_168_6, pI_168_6, gI_168_7, pI_168_7, gR_168_8, gR_168_9, gR_168_10, gR_168_11, gR_168_12, gR_168_13, gI_168_14, pI_168_14, gI_168_15, pI_168_15, gI_168_16, pI_168_16, gR_168_17, gI_168_18, pI_168_18, gR_168_19, gI_168_20, pI_168_20, gI_168_21, pI_168_21, gI_168_22, pI_168_22, gI_168_23, pI_168_23, gR_168_24, gR_168_25, gI_168_26, pI_168_26, gI_168_27, pI_168_27, gR_168_28, gI_168_29, pI_168_29, gI_168_30, pI_168_30, gI_168_31, pI_168_31, gR_168_32, gR_168_33, gR_168_34, gR_168_35, gR_168_36, gR_168_37, gR_168_38, mr_h0, mr_f0, mr_m0, mr_w0, mr_c0, mc_c0, mc_a0, mc_s0, mh_a0_0, mh_s0_0, mh_a0_1, mh_s0_1, mh_a0_2, mh_s0_2, mh_a0_3, mh_s0_3, mh_a0_4, mh_s0_4, ma_f0, ms_f0, ma_m0, ms_m0, ma_w0, ms_w0, eh, e4, ef, lt, true_or, or_true, false_or, or_false, Option.bind_some, if_true, if_false, bI_0, bI_1, bI_z, eI_n1, eI_l0, eI_g12, oN_n1, oN_l0, oN_g0, n1_l0, n1_g12, n1_0, n1_n1, z_0, z_1, z_2, z_3, z_4, z_5, z_6, z_7, z_8, z_9, z_a, z_b, z_c, z_d, z_e, z_f, oN_inj, oN_lt, oN_gt, oN_ge, oN_le, i_succ, if_pos, if_neg, c_has, c_bit, Bool.true_eq_false, Bool.false_eq_true, decide_true, decide_false, decide_eq_true_eq, decide_eq_false_iff_not, eI_lt, lle_0, lge_0, llt_0, lgt_0, leq_0, lle_1, lge_1, llt_1, lgt_1, leq_1, lle_2, lge_2, llt_2, lgt_2, leq_2, lle_3, lge_3, llt_3, lgt_3, leq_3, lle_4, lge_4, llt_4, lgt_4, leq_4, lle_5, lge_5, llt_5, lgt_5, leq_5, lle_6, lge_6, llt_6, lgt_6, leq_6, lle_7, lge_7, llt_7, lgt_7, leq_7, lle_11, lge_11, llt_11, lgt_11, leq_11, lle_12, lge_12, llt_12, lgt_12, leq_12, lle_15, lge_15, llt_15, lgt_15, leq_15, lle_20, lge_20, llt_20, lgt_20, leq_20, lle_24, lge_24, llt_24, lgt_24, leq_24, lle_25, lge_25, llt_25, lgt_25, leq_25, lle_31, lge_31, llt_31, lgt_31, leq_31, lle_48, lge_48, llt_48, lgt_48, leq_48, lle_57, lge_57, llt_57, lgt_57, leq_57, lle_32, lge_32, llt_32, lgt_32, leq_32, lle_59, lge_59, llt_59, lgt_59, leq_59, lle_97, lge_97, llt_97, lgt_97, leq_97, lle_122, lge_122, llt_122, lgt_122, leq_122, lle_99, lge_99, llt_99, lgt_99, leq_99, lle_100, lge_100, llt_100, lgt_100, leq_100, lle_144, lge_144, llt_144, lgt_144, leq_144, lle_255, lge_255, llt_255, lgt_255, leq_255, lle_300, lge_300, llt_300, lgt_300, leq_300, lle_1000, lge_1000, llt_1000, lgt_1000, leq_1000, lle_1000000, lge_1000000, llt_1000000, lgt_1000000, leq_1000000, lle_4096, lge_4096, llt_4096, lgt_4096, leq_4096, b_ft]
  · subst hs
    have c1 := m_ones (h := mem μ) hx
    have c2 := m_ones (h := mem μ) (lk_12 hB x 12)
    refine hw_of (r := (Int32.ofNat (cnt (hb x) 12) - Int32.ofNat (cnt (hb (lk (aB A) x 12)) 12), mem μ)) ?_ rfl
    simp (disch := omega) only [f_X10_lack_L57, f_X10_lack_J104, c1, c2, lt, true_or, or_true, false_or, or_false, Option.bind_some, if_true, if_false, bI_0, bI_1, bI_z, eI_n1, eI_l0, eI_g12, oN_n1, oN_l0, oN_g0, n1_l0, n1_g12, n1_0, n1_n1, z_0, z_1, z_2, z_3, z_4, z_5, z_6, z_7, z_8, z_9, z_a, z_b, z_c, z_d, z_e, z_f, oN_inj, oN_lt, oN_gt, oN_ge, oN_le, i_succ, if_pos, if_neg, c_has, c_bit, Bool.true_eq_false, Bool.false_eq_true, decide_true, decide_false, decide_eq_true_eq, decide_eq_false_iff_not, eI_lt, lle_0, lge_0, llt_0, lgt_0, leq_0, lle_1, lge_1, llt_1, lgt_1, leq_1, lle_2, lge_2, llt_2, lgt_2, leq_2, lle_3, lge_3, llt_3, lgt_3, leq_3, lle_4, lge_4, llt_4, lgt_4, leq_4, lle_5, lge_5, llt_5, lgt_5, leq_5, lle_6, lge_6, llt_6, lgt_6, leq_6, lle_7, lge_7, llt_7, lgt_7, leq_7, lle_11, lge_11, llt_11, lgt_11, leq_11, lle_12, lge_12, llt_12, lgt_12, leq_12, lle_15, lge_15, llt_15, lgt_15, leq_15, lle_20, lge_20, llt_20, lgt_20, leq_20, lle_24, lge_24, llt_24, lgt_24, leq_24, lle_25, lge_25, llt_25, lgt_25, leq_25, lle_31, lge_31, llt_31, lgt_31, leq_31, lle_48, lge_48, llt_48, lgt_48, leq_48, lle_57, lge_57, llt_57, lgt_57, leq_57, lle_32, lge_32, llt_32, lgt_32, leq_32, lle_59, lge_59, llt_59, lgt_59, leq_59, lle_97, lge_97, llt_97, lgt_97, leq_97, lle_122, lge_122, llt_122, lgt_122, leq_122, lle_99, lge_99, llt_99, lgt_99, leq_99, lle_100, lge_100, llt_100, lgt_100, leq_100, lle_144, lge_144, llt_144, lgt_144, leq_144, lle_255, lge_255, llt_255, lgt_255, leq_255, lle_300, lge_300, llt_300, lgt_300, leq_300, lle_1000, lge_1000, llt_1000, lgt_1000, leq_1000, lle_1000000, lge_1000000, llt_1000000, lgt_1000000, leq_1000000, lle_4096, lge_4096, llt_4096, lgt_4096, leq_4096, b_ft]
theorem op_lack (hT : TF T) (hA : AOK A) (hC : RC T μ A) (hM : RM μ A) (x : Int32) : OKc T μ (LB wc_L_lack (f_X9_lack 0 x) (f_X10_lack 168 x)) := by
  have hB := hA.1
  have hn := hB.n
  have hp := pow_12 hn
  have e0 : μ.1 1 0 = Int32.ofNat (bn (aB A)) := hC.1.1.1
  have e2 : μ.1 1 2 = bw (aB A) := hC.1.1.2.2.1
  by_cases c : 0 ≤ x ∧ x < Int32.ofNat (2 ^ bn (aB A))
  · have hx : m12 (x &&& bw (aB A)) := m12_and hB.bw12
    have h1 : ¬ (x < 0) := Int32.not_lt.mpr c.1
    have h2 : ¬ (x ≥ Int32.ofNat (2 ^ bn (aB A))) := Int32.not_le.mpr c.2
    have el := c_lack_L hC.1 hB hx
    refine LB_ok hT hM (SV.uq (A := A) (v := Int32.ofNat (cnt (hb (x &&& bw (aB A))) 12) - Int32.ofNat (cnt (hb (lk (aB A) (x &&& bw (aB A)) (bn (aB A)))) 12))) (CX_V hT hC hA (ν := μ) ?_ (Fr.refl _ _)) (fun ν hν => MX_V hν (ν := tz ν) ?_ t0_Q t0_0)
    · simp only [f_X9_lack, f_X9_lack_J23, ↓hbind gR_0_0, ↓hbind (bk_i0 bk1), ↓hbind (bk_i2 bk1), e0, e2, one_shl hn, if_neg h1, if_neg h2, ↓hvc (fun _ => vc_0), ↓hbind c_da1, ↓thr_ok, ↓thr_er, lt, el]
    · have ein : f_X10_in x 0 (Int32.ofNat (2 ^ bn (aB A)) - 1) (mem (tz ν)) = some (1, mem (tz ν)) := by
        rw [m_in, decide_eq_true]
        · rfl
        · obtain ⟨k, hk, rfl⟩ := (inN_iff (by omega)).mp c
          rw [show (1 : Int32) = Int32.ofNat 1 from rfl, oN_sub hp.1, oN_le (by omega) (by omega)]
          exact ⟨c.1, by omega⟩
      have e3 : (tz ν).1 172 0 = Int32.ofNat (bn (aB A)) := hν.t.1.1.1
      have e4 : (tz ν).1 172 3 = bw (aB A) := hν.t.1.1.2.2.2.1
      have el2 := m_lack_L hν.t.1 hB hx
      have e9 : lk (aB A) (x &&& bw (aB A)) 12 = lk (aB A) (x &&& bw (aB A)) (bn (aB A)) := by
        have := lk_n (B := aB A) (x := x &&& bw (aB A)) (n := bn (aB A)) (fun k hk => by
          rw [hb_and]
          cases q : hb (bw (aB A)) k with
          | false => rw [Bool.and_false]
          | true => have := hB.w q; omega) (12 - bn (aB A))
        rw [← this, show bn (aB A) + (12 - bn (aB A)) = 12 by omega]
      rw [e9] at el2
      simp only [f_X10_lack, f_X10_lack_J31, ↓hbind pI_t0, ↓hbind gR_168_9, ↓hbind mr_h0, ↓hbind mh_a0_0, e3, one_shl hn, ↓hbind ein, z_1, ↓reduceIte, ↓hvc (fun _ => vc_168), ↓hbind m_b0t, ↓hbind mh_a0_3, e4, lt, el2]
  · refine LB_ok hT hM (SA.uq (A := A)) (CX_A hT hC hA fun ν e => ?_) (fun ν hν => MX_A hν (w := 1) (b := 0) rfl (by decide) ?_)
    · have n3 : f_X9_lack_J22 0 x 0 (mem μ) = some (.inr IAE, mem ν) := by
        simp only [f_X9_lack_J22, f_X9_lack_J23, ↓hvc (fun _ => vc_0), ↓hbind e, ↓thr_ok, ↓thr_er]
      simp only [f_X9_lack, ↓hbind gR_0_0, ↓hbind (bk_i0 bk1), e0, one_shl hn]
      by_cases n1 : x < 0
      · rw [if_pos n1]; exact n3
      · rw [if_neg n1]
        by_cases n2 : x ≥ Int32.ofNat (2 ^ bn (aB A))
        · rw [if_pos n2]; exact n3
        · exact absurd ⟨Int32.not_lt.mp n1, Int32.not_le.mp n2⟩ c
    · have ein : f_X10_in x 0 (Int32.ofNat (2 ^ bn (aB A)) - 1) (mem (tz ν)) = some (0, mem (tz ν)) := by
        rw [m_in, decide_eq_false]
        · rfl
        · rintro ⟨z1, z2⟩
          apply c
          refine ⟨z1, ?_⟩
          rw [show (1 : Int32) = Int32.ofNat 1 from rfl, oN_sub hp.1] at z2
          rcases i32_cases x with q | ⟨k, hk, rfl⟩
          · exact absurd q (Int32.not_lt.mpr z1)
          · rw [oN_le hk (by omega)] at z2
            rw [oN_lt hk (by omega)]; omega
      have e3 : (tz ν).1 172 0 = Int32.ofNat (bn (aB A)) := hν.t.1.1.1
      simp only [f_X10_lack, f_X10_lack_J31, ↓hbind pI_t0, ↓hbind gR_168_9, ↓hbind mr_h0, ↓hbind mh_a0_0, e3, one_shl hn, ↓hbind ein, z_1, ↓reduceIte, ↓hvc (fun _ => vc_168), ↓hbind (m_bA (show (1 : Int32) ≠ 0 by decide))]
end O12
