/-! BOOKS: methods that change one -/
variable {Ξ : xH}
theorem b_ft (b : Bool) : (b = false ∨ b = true) = True := by cases b <;> simp
theorem cpI_g {sh : xH} {μ : MM} {a b n : Nat} (ha : isA sh 100 a n isInt = true) (hb' : isA sh 100 b n isInt = true) (hab : a ≠ b) (hn : n < 100000) : cpI (mS sh μ) a 0 b 0 (Int32.ofNat n) = some (mS sh (rw_ μ b n fun i => μ.1 a i)) := by
  obtain ⟨la, e1, e2, e3⟩ := isA_spec ha
  obtain ⟨lb, f1, f2, f3⟩ := isA_spec hb'
  have z0 : (0 : Int32).toNatClampNeg = 0 := rfl
  have hn2 : (Int32.ofNat n).toNatClampNeg = n := (ain_nat (k := n) (n := n + 1) (by omega) (by omega)).2
  have hn3 : ¬ Int32.ofNat n < 0 := by rw [oN_l0 (by omega)]; exact id
  have h0 : ¬ (0 : Int32) < 0 := by decide
  unfold cpI
  rw [mem_get e1, mem_get f1]
  simp only [memV_len, e2, f2, z0, hn2, Nat.zero_add, Nat.sub_zero]
  rw [if_pos ⟨trivial, trivial, h0, h0, hn3, Nat.le_refl _, Nat.le_refl _, hab⟩]
  refine congrArg some (List.ext_getElem? fun q => ?_)
  have hl : b < (mS sh μ).length := (List.getElem?_eq_some_iff.mp (mem_get (μ := μ) f1)).1
  rw [List.getElem?_set, mem_at, mem_at]
  by_cases h : b = q
  · subst h
    rw [if_pos rfl, if_pos hl, f1]
    refine congrArg some (Prod.ext rfl ?_)
    show (List.range n).map _ = memV _ b 0 lb
    apply List.ext_getElem?
    intro i
    rw [memV_at, Nat.zero_add, List.getElem?_map]
    by_cases hi : i < n
    · rw [List.getElem?_range hi]
      obtain ⟨v, g1, g2⟩ := f3 i hi
      obtain ⟨u, g3, g4⟩ := e3 i hi
      rw [g1]
      show some _ = some _
      simp only [Nat.zero_le, hi, and_self, if_true]
      rw [List.getD_eq_getElem?_getD, memV_at, g3]
      cases v <;> simp [isInt] at g2
      cases u <;> simp [isInt] at g4
      simp [ov, vI, rw_, hi]
    · rw [List.getElem?_eq_none (by rw [List.length_range]; omega), List.getElem?_eq_none (by omega)]
      rfl
  · rw [if_neg h]
    cases sh[q]? with
    | none => rfl
    | some d =>
      refine congrArg some (Prod.ext rfl (memV_ext fun i u _ => ?_))
      cases u <;> simp [ov, rw_, Ne.symm h]
theorem cpI_m {μ : MM} {a b n : Nat} (ha : isA shI 100 a n isInt = true) (hb' : isA shI 100 b n isInt = true) (hab : a ≠ b) (hn : n < 100000) : cpI ((mX Ξ) μ) a 0 b 0 (Int32.ofNat n) = some ((mX Ξ) (rw_ μ b n fun i => μ.1 a i)) := cpI_g (isA_x ha) (isA_x hb') hab hn
theorem Fr.rw {P : Nat → Nat → Prop} {μ ν : MM} {q n : Nat} {f : Nat → Int32} (h : Fr P μ ν) (hp : ∀ i, P q i) : Fr P μ (rw_ ν q n f) := fun p i z => by
  refine ⟨?_, (h p i z).2⟩
  show (if p = q ∧ i < n then f i else ν.1 p i) = _
  rw [if_neg (fun y => z (by rw [y.1]; exact hp i))]
  exact (h p i z).1
theorem rw_ne {μ : MM} {q n p i : Nat} {f : Nat → Int32} (h : p ≠ q) : (rw_ μ q n f).1 p i = μ.1 p i := if_neg (fun z => h z.1)
theorem rw_in {μ : MM} {q n i : Nat} {f : Nat → Int32} (h : i < n) : (rw_ μ q n f).1 q i = f i := if_pos ⟨rfl, h⟩
/-- the cells of the book at b -/
def FB (b : Nat) (q _i : Nat) : Prop := b ≤ q ∧ q < b + 8
section Bc
variable {μ : MM} {b : Nat} {B : Bk}
theorem c_bcopy {b' : Nat} (hk : bkOK shI b = true) (hk' : bkOK shI b' = true) (hd : b + 8 ≤ b' ∨ b' + 8 ≤ b) (h : BC μ b' B) : ∃ ν, f_X0_copy b b' ((mX Ξ) μ) = some ((mX Ξ) ν) ∧ BC ν b B ∧ Fr (FB b) μ ν := by
  have hfb : ∀ ν, Fr (FB b) μ ν → BC ν b' B := fun ν f => h.fr f fun q i a c z => by unfold FB at z; omega
  have key : Hw (f_X0_copy b b' ((mX Ξ) μ)) (fun r => ∃ ν, r = (mX Ξ) ν ∧ BC ν b B ∧ Fr (FB b) μ ν) := by
    obtain ⟨⟨h0, h1, h2, h3, h4⟩, -⟩ := id h
    let μ1 := st (st (st (st (st μ b 0 (Int32.ofNat (bn B))) b 1 (Int32.ofNat (bm B))) b 2 (bw B)) b 3 (bt B)) b 4 (Int32.ofNat (bk B))
    have ff : ∀ {ν : MM} {k : Nat} {v : Int32}, Fr (FB b) μ ν → Fr (FB b) μ (st ν b k v) := fun f => f.st (by unfold FB; omega)
    have f1 : Fr (FB b) μ μ1 := ff (ff (ff (ff (ff (Fr.refl _ _)))))
    have e1 : f_X0_copy b b' ((mX Ξ) μ) = f_X0_copy_L42 f_X0_copy_J90 5000 b b' (Int32.ofNat 0) ((mX Ξ) μ1) := by
      have q1 : ∀ {v0 : Int32}, (st μ b 0 v0).1 b' 1 = Int32.ofNat (bm B) := by intro v0; rw [st_ne (Or.inl (by omega))]; exact h1
      have q2 : ∀ {v0 v1 : Int32}, (st (st μ b 0 v0) b 1 v1).1 b' 2 = bw B := by intro v0 v1; rw [st_ne (Or.inl (by omega)), st_ne (Or.inl (by omega))]; exact h2
      have q3 : ∀ {v0 v1 v2 : Int32}, (st (st (st μ b 0 v0) b 1 v1) b 2 v2).1 b' 3 = bt B := by intro v0 v1 v2; rw [st_ne (Or.inl (by omega)), st_ne (Or.inl (by omega)), st_ne (Or.inl (by omega))]; exact h3
      have q4 : ∀ {v0 v1 v2 v3 : Int32}, (st (st (st (st μ b 0 v0) b 1 v1) b 2 v2) b 3 v3).1 b' 4 = Int32.ofNat (bk B) := by intro v0 v1 v2 v3; rw [st_ne (Or.inl (by omega)), st_ne (Or.inl (by omega)), st_ne (Or.inl (by omega)), st_ne (Or.inl (by omega))]; exact h4
      simp only [f_X0_copy, bk_v hk, bk_i0 hk, bk_i1 hk, bk_i2 hk, bk_i3 hk, bk_i4 hk, bk_p0 hk, bk_p1 hk, bk_p2 hk, bk_p3 hk, bk_p4 hk, bk_r5 hk, bk_r6 hk, bk_r7 hk, bk_r8 hk, bk_r9 hk, bk_a1 hk, bk_a2 hk, bk_a3 hk, bk_a4 hk, bk_s1 hk, bk_s2 hk, bk_s3 hk, bk_s4 hk, bk_v hk', bk_i0 hk', bk_i1 hk', bk_i2 hk', bk_i3 hk', bk_i4 hk', bk_p0 hk', bk_p1 hk', bk_p2 hk', bk_p3 hk', bk_p4 hk', bk_r5 hk', bk_r6 hk', bk_r7 hk', bk_r8 hk', bk_r9 hk', bk_a1 hk', bk_a2 hk', bk_a3 hk', bk_a4 hk', bk_s1 hk', bk_s2 hk', bk_s3 hk', bk_s4 hk', Option.bind_some, h0, q1, q2, q3, q4]
      rfl
    rw [e1]
    refine hw_for (L := fun n i (ν : MM) => f_X0_copy_L42 f_X0_copy_J90 n b b' i ((mX Ξ) ν)) (s0 := μ1) 12 (fun i ν => Fr (FB b) μ ν ∧ (ν.1 b 0 = Int32.ofNat (bn B) ∧ ν.1 b 1 = Int32.ofNat (bm B) ∧ ν.1 b 2 = bw B ∧ ν.1 b 3 = bt B ∧ ν.1 b 4 = Int32.ofNat (bk B)) ∧ ∀ k, k < i → ν.1 (b + 1) k = μ.1 (b' + 1) k ∧ ν.1 (b + 2) k = μ.1 (b' + 2) k ∧ ν.1 (b + 3) k = μ.1 (b' + 3) k) ⟨f1, ⟨?_, ?_, ?_, ?_, ?_⟩, fun k hk => absurd hk (Nat.not_lt_zero _)⟩ (by decide) (fun i hi ν hν => Or.inl ?_) (fun ν hν n => ?_)
    · show (st (st (st (st (st μ b 0 _) b 1 _) b 2 _) b 3 _) b 4 _).1 b 0 = _
      rw [st_ne (Or.inr (by omega)), st_ne (Or.inr (by omega)), st_ne (Or.inr (by omega)), st_ne (Or.inr (by omega)), st_same]
    · show (st (st (st (st (st μ b 0 _) b 1 _) b 2 _) b 3 _) b 4 _).1 b 1 = _
      rw [st_ne (Or.inr (by omega)), st_ne (Or.inr (by omega)), st_ne (Or.inr (by omega)), st_same]
    · show (st (st (st (st (st μ b 0 _) b 1 _) b 2 _) b 3 _) b 4 _).1 b 2 = _
      rw [st_ne (Or.inr (by omega)), st_ne (Or.inr (by omega)), st_same]
    · show (st (st (st (st (st μ b 0 _) b 1 _) b 2 _) b 3 _) b 4 _).1 b 3 = _
      rw [st_ne (Or.inr (by omega)), st_same]
    · exact st_same _ _ _ _
    · obtain ⟨hf, ⟨a0, a1, a2, a3, a4⟩, hv⟩ := hν
      have o : ∀ q i, (q < b ∨ b + 8 ≤ q) → ν.1 q i = μ.1 q i := fun q i hq => (hf q i (by unfold FB; omega)).1
      let ν1 := st ν (b + 1) i (μ.1 (b' + 1) i)
      let ν2 := st ν1 (b + 2) i (μ.1 (b' + 2) i)
      let ν3 := st ν2 (b + 3) i (μ.1 (b' + 3) i)
      refine ⟨ν3, ⟨((hf.st (by unfold FB; omega)).st (by unfold FB; omega)).st (by unfold FB; omega), ⟨?_, ?_, ?_, ?_, ?_⟩, fun k hk' => ?_⟩, fun n => ?_⟩
      · rw [st_ne (Or.inl (by omega)), st_ne (Or.inl (by omega)), st_ne (Or.inl (by omega))]; exact a0
      · rw [st_ne (Or.inl (by omega)), st_ne (Or.inl (by omega)), st_ne (Or.inl (by omega))]; exact a1
      · rw [st_ne (Or.inl (by omega)), st_ne (Or.inl (by omega)), st_ne (Or.inl (by omega))]; exact a2
      · rw [st_ne (Or.inl (by omega)), st_ne (Or.inl (by omega)), st_ne (Or.inl (by omega))]; exact a3
      · rw [st_ne (Or.inl (by omega)), st_ne (Or.inl (by omega)), st_ne (Or.inl (by omega))]; exact a4
      · by_cases e : k = i
        · subst e
          refine ⟨?_, ?_, ?_⟩
          · rw [st_ne (Or.inl (by omega)), st_ne (Or.inl (by omega)), st_same]
          · rw [st_ne (Or.inl (by omega)), st_same]
          · exact st_same _ _ _ _
        · obtain ⟨v1, v2, v3⟩ := hv k (by omega)
          refine ⟨?_, ?_, ?_⟩
          · rw [st_ne (Or.inl (by omega)), st_ne (Or.inl (by omega)), st_ne (Or.inr e)]; exact v1
          · rw [st_ne (Or.inl (by omega)), st_ne (Or.inr e), st_ne (Or.inl (by omega))]; exact v2
          · rw [st_ne (Or.inr e), st_ne (Or.inl (by omega)), st_ne (Or.inl (by omega))]; exact v3
      · have p1 : ν.1 (b' + 1) i = μ.1 (b' + 1) i := o _ _ (by omega)
        have p2 : (st ν (b + 1) i (μ.1 (b' + 1) i)).1 (b' + 2) i = μ.1 (b' + 2) i := by rw [st_ne (Or.inl (by omega))]; exact o _ _ (by omega)
        have p3 : (st (st ν (b + 1) i (μ.1 (b' + 1) i)) (b + 2) i (μ.1 (b' + 2) i)).1 (b' + 3) i = μ.1 (b' + 3) i := by rw [st_ne (Or.inl (by omega)), st_ne (Or.inl (by omega))]; exact o _ _ (by omega)
        simp (disch := omega) only [f_X0_copy_L42, bk_v hk, bk_i0 hk, bk_i1 hk, bk_i2 hk, bk_i3 hk, bk_i4 hk, bk_p0 hk, bk_p1 hk, bk_p2 hk, bk_p3 hk, bk_p4 hk, bk_r5 hk, bk_r6 hk, bk_r7 hk, bk_r8 hk, bk_r9 hk, bk_a1 hk, bk_a2 hk, bk_a3 hk, bk_a4 hk, bk_s1 hk, bk_s2 hk, bk_s3 hk, bk_s4 hk, bk_v hk', bk_i0 hk', bk_i1 hk', bk_i2 hk', bk_i3 hk', bk_i4 hk', bk_p0 hk', bk_p1 hk', bk_p2 hk', bk_p3 hk', bk_p4 hk', bk_r5 hk', bk_r6 hk', bk_r7 hk', bk_r8 hk', bk_r9 hk', bk_a1 hk', bk_a2 hk', bk_a3 hk', bk_a4 hk', bk_s1 hk', bk_s2 hk', bk_s3 hk', bk_s4 hk', p1, p2, p3, lt, true_or, or_true, false_or, or_false, Option.bind_some, if_true, if_false, bI_0, bI_1, bI_z, eI_n1, eI_l0, eI_g12, oN_n1, oN_l0, oN_g0, n1_l0, n1_g12, n1_0, n1_n1, z_0, z_1, z_2, z_3, z_4, z_5, z_6, z_7, z_8, z_9, z_a, z_b, z_c, z_d, z_e, z_f, oN_inj, oN_lt, oN_gt, oN_ge, oN_le, i_succ, if_pos, if_neg, c_has, c_bit, Bool.true_eq_false, Bool.false_eq_true, decide_true, decide_false, decide_eq_true_eq, decide_eq_false_iff_not, eI_lt, lle_0, lge_0, llt_0, lgt_0, leq_0, lle_1, lge_1, llt_1, lgt_1, leq_1, lle_2, lge_2, llt_2, lgt_2, leq_2, lle_3, lge_3, llt_3, lgt_3, leq_3, lle_4, lge_4, llt_4, lgt_4, leq_4, lle_5, lge_5, llt_5, lgt_5, leq_5, lle_6, lge_6, llt_6, lgt_6, leq_6, lle_7, lge_7, llt_7, lgt_7, leq_7, lle_11, lge_11, llt_11, lgt_11, leq_11, lle_12, lge_12, llt_12, lgt_12, leq_12, lle_15, lge_15, llt_15, lgt_15, leq_15, lle_20, lge_20, llt_20, lgt_20, leq_20, lle_24, lge_24, llt_24, lgt_24, leq_24, lle_25, lge_25, llt_25, lgt_25, leq_25, lle_31, lge_31, llt_31, lgt_31, leq_31, lle_48, lge_48, llt_48, lgt_48, leq_48, lle_57, lge_57, llt_57, lgt_57, leq_57, lle_32, lge_32, llt_32, lgt_32, leq_32, lle_59, lge_59, llt_59, lgt_59, leq_59, lle_97, lge_97, llt_97, lgt_97, leq_97, lle_122, lge_122, llt_122, lgt_122, leq_122, lle_99, lge_99, llt_99, lgt_99, leq_99, lle_100, lge_100, llt_100, lgt_100, leq_100, lle_144, lge_144, llt_144, lgt_144, leq_144, lle_255, lge_255, llt_255, lgt_255, leq_255, lle_300, lge_300, llt_300, lgt_300, leq_300, lle_1000, lge_1000, llt_1000, lgt_1000, leq_1000, lle_1000000, lge_1000000, llt_1000000, lgt_1000000, leq_1000000, lle_4096, lge_4096, llt_4096, lgt_4096, leq_4096, b_ft]
        rfl
    · obtain ⟨hf, ⟨a0, a1, a2, a3, a4⟩, hv⟩ := hν
      let ν1 := rw_ ν (b + 4) 144 fun i => ν.1 (b' + 4) i
      have f2 : Fr (FB b) μ ν1 := hf.rw (fun i => by unfold FB; omega)
      obtain ⟨ξ, e, p1, p2⟩ := c_pcopy (Ξ := Ξ) (μ := ν1) (bk_pr hk) (bk_pr hk') (by omega) (hfb ν1 f2).2.2.2.2.2
      have ec := cpI_m (Ξ := Ξ) (μ := ν) (bkOK_spec hk').2.2.2.2.2.2.2.2.2.2.2.2.2.2.1 (bkOK_spec hk).2.2.2.2.2.2.2.2.2.2.2.2.2.2.1 (show b' + 4 ≠ b + 4 by omega) (by decide)
      have ec' : cpI ((mX Ξ) ν) (b' + 4) 0 (b + 4) 0 144 = some ((mX Ξ) ν1) := ec
      simp (disch := omega) only [f_X0_copy_L42, f_X0_copy_J90, bk_v hk, bk_i0 hk, bk_i1 hk, bk_i2 hk, bk_i3 hk, bk_i4 hk, bk_p0 hk, bk_p1 hk, bk_p2 hk, bk_p3 hk, bk_p4 hk, bk_r5 hk, bk_r6 hk, bk_r7 hk, bk_r8 hk, bk_r9 hk, bk_a1 hk, bk_a2 hk, bk_a3 hk, bk_a4 hk, bk_s1 hk, bk_s2 hk, bk_s3 hk, bk_s4 hk, bk_v hk', bk_i0 hk', bk_i1 hk', bk_i2 hk', bk_i3 hk', bk_i4 hk', bk_p0 hk', bk_p1 hk', bk_p2 hk', bk_p3 hk', bk_p4 hk', bk_r5 hk', bk_r6 hk', bk_r7 hk', bk_r8 hk', bk_r9 hk', bk_a1 hk', bk_a2 hk', bk_a3 hk', bk_a4 hk', bk_s1 hk', bk_s2 hk', bk_s3 hk', bk_s4 hk', ec', lt, true_or, or_true, false_or, or_false, Option.bind_some, if_true, if_false, bI_0, bI_1, bI_z, eI_n1, eI_l0, eI_g12, oN_n1, oN_l0, oN_g0, n1_l0, n1_g12, n1_0, n1_n1, z_0, z_1, z_2, z_3, z_4, z_5, z_6, z_7, z_8, z_9, z_a, z_b, z_c, z_d, z_e, z_f, oN_inj, oN_lt, oN_gt, oN_ge, oN_le, i_succ, if_pos, if_neg, c_has, c_bit, Bool.true_eq_false, Bool.false_eq_true, decide_true, decide_false, decide_eq_true_eq, decide_eq_false_iff_not, eI_lt, lle_0, lge_0, llt_0, lgt_0, leq_0, lle_1, lge_1, llt_1, lgt_1, leq_1, lle_2, lge_2, llt_2, lgt_2, leq_2, lle_3, lge_3, llt_3, lgt_3, leq_3, lle_4, lge_4, llt_4, lgt_4, leq_4, lle_5, lge_5, llt_5, lgt_5, leq_5, lle_6, lge_6, llt_6, lgt_6, leq_6, lle_7, lge_7, llt_7, lgt_7, leq_7, lle_11, lge_11, llt_11, lgt_11, leq_11, lle_12, lge_12, llt_12, lgt_12, leq_12, lle_15, lge_15, llt_15, lgt_15, leq_15, lle_20, lge_20, llt_20, lgt_20, leq_20, lle_24, lge_24, llt_24, lgt_24, leq_24, lle_25, lge_25, llt_25, lgt_25, leq_25, lle_31, lge_31, llt_31, lgt_31, leq_31, lle_48, lge_48, llt_48, lgt_48, leq_48, lle_57, lge_57, llt_57, lgt_57, leq_57, lle_32, lge_32, llt_32, lgt_32, leq_32, lle_59, lge_59, llt_59, lgt_59, leq_59, lle_97, lge_97, llt_97, lgt_97, leq_97, lle_122, lge_122, llt_122, lgt_122, leq_122, lle_99, lge_99, llt_99, lgt_99, leq_99, lle_100, lge_100, llt_100, lgt_100, leq_100, lle_144, lge_144, llt_144, lgt_144, leq_144, lle_255, lge_255, llt_255, lgt_255, leq_255, lle_300, lge_300, llt_300, lgt_300, leq_300, lle_1000, lge_1000, llt_1000, lgt_1000, leq_1000, lle_1000000, lge_1000000, llt_1000000, lgt_1000000, leq_1000000, lle_4096, lge_4096, llt_4096, lgt_4096, leq_4096, b_ft]
      have hp := bk_pr hk
      simp (disch := omega) only [pr_v hp, pr_1 hp, pr_2 hp, pr_a1 hp, pr_a2 hp, pr_s1 hp, pr_s2 hp, bk_v hk, bk_i0 hk, bk_i1 hk, bk_i2 hk, bk_i3 hk, bk_i4 hk, bk_p0 hk, bk_p1 hk, bk_p2 hk, bk_p3 hk, bk_p4 hk, bk_r5 hk, bk_r6 hk, bk_r7 hk, bk_r8 hk, bk_r9 hk, bk_a1 hk, bk_a2 hk, bk_a3 hk, bk_a4 hk, bk_s1 hk, bk_s2 hk, bk_s3 hk, bk_s4 hk, bk_v hk', bk_i0 hk', bk_i1 hk', bk_i2 hk', bk_i3 hk', bk_i4 hk', bk_p0 hk', bk_p1 hk', bk_p2 hk', bk_p3 hk', bk_p4 hk', bk_r5 hk', bk_r6 hk', bk_r7 hk', bk_r8 hk', bk_r9 hk', bk_a1 hk', bk_a2 hk', bk_a3 hk', bk_a4 hk', bk_s1 hk', bk_s2 hk', bk_s3 hk', bk_s4 hk', e, lt, true_or, or_true, false_or, or_false, Option.bind_some, if_true, if_false, bI_0, bI_1, bI_z, eI_n1, eI_l0, eI_g12, oN_n1, oN_l0, oN_g0, n1_l0, n1_g12, n1_0, n1_n1, z_0, z_1, z_2, z_3, z_4, z_5, z_6, z_7, z_8, z_9, z_a, z_b, z_c, z_d, z_e, z_f, oN_inj, oN_lt, oN_gt, oN_ge, oN_le, i_succ, if_pos, if_neg, c_has, c_bit, Bool.true_eq_false, Bool.false_eq_true, decide_true, decide_false, decide_eq_true_eq, decide_eq_false_iff_not, eI_lt, lle_0, lge_0, llt_0, lgt_0, leq_0, lle_1, lge_1, llt_1, lgt_1, leq_1, lle_2, lge_2, llt_2, lgt_2, leq_2, lle_3, lge_3, llt_3, lgt_3, leq_3, lle_4, lge_4, llt_4, lgt_4, leq_4, lle_5, lge_5, llt_5, lgt_5, leq_5, lle_6, lge_6, llt_6, lgt_6, leq_6, lle_7, lge_7, llt_7, lgt_7, leq_7, lle_11, lge_11, llt_11, lgt_11, leq_11, lle_12, lge_12, llt_12, lgt_12, leq_12, lle_15, lge_15, llt_15, lgt_15, leq_15, lle_20, lge_20, llt_20, lgt_20, leq_20, lle_24, lge_24, llt_24, lgt_24, leq_24, lle_25, lge_25, llt_25, lgt_25, leq_25, lle_31, lge_31, llt_31, lgt_31, leq_31, lle_48, lge_48, llt_48, lgt_48, leq_48, lle_57, lge_57, llt_57, lgt_57, leq_57, lle_32, lge_32, llt_32, lgt_32, leq_32, lle_59, lge_59, llt_59, lgt_59, leq_59, lle_97, lge_97, llt_97, lgt_97, leq_97, lle_122, lge_122, llt_122, lgt_122, leq_122, lle_99, lge_99, llt_99, lgt_99, leq_99, lle_100, lge_100, llt_100, lgt_100, leq_100, lle_144, lge_144, llt_144, lgt_144, leq_144, lle_255, lge_255, llt_255, lgt_255, leq_255, lle_300, lge_300, llt_300, lgt_300, leq_300, lle_1000, lge_1000, llt_1000, lgt_1000, leq_1000, lle_1000000, lge_1000000, llt_1000000, lgt_1000000, leq_1000000, lle_4096, lge_4096, llt_4096, lgt_4096, leq_4096, b_ft]
      have g : ∀ q i, q ≠ b + 6 → q ≠ b + 7 → ξ.1 q i = ν1.1 q i := fun q i x y => (p2 q i (by unfold FP; omega)).1
      have cc := (hfb ν hf)
      refine hw_ret ⟨ξ, rfl, ⟨⟨?_, ?_, ?_, ?_, ?_⟩, fun w hw => ?_, fun w hw => ?_, fun t ht => ?_, fun w t hw ht => ?_, p1⟩, f2.trans (p2.mono fun q i z => by unfold FP at z; unfold FB; omega)⟩
      · rw [g _ _ (by omega) (by omega), rw_ne (by omega)]; exact a0
      · rw [g _ _ (by omega) (by omega), rw_ne (by omega)]; exact a1
      · rw [g _ _ (by omega) (by omega), rw_ne (by omega)]; exact a2
      · rw [g _ _ (by omega) (by omega), rw_ne (by omega)]; exact a3
      · rw [g _ _ (by omega) (by omega), rw_ne (by omega)]; exact a4
      · rw [g _ _ (by omega) (by omega), rw_ne (by omega), (hv w hw).1]; exact h.2.1 w hw
      · rw [g _ _ (by omega) (by omega), rw_ne (by omega), (hv w hw).2.1]; exact h.2.2.1 w hw
      · rw [g _ _ (by omega) (by omega), rw_ne (by omega), (hv t ht).2.2]; exact h.2.2.2.1 t ht
      · rw [g _ _ (by omega) (by omega), rw_in (by omega)]; exact cc.2.2.2.2.1 w t hw ht
  obtain ⟨r, e, ν, rfl, h1, h2⟩ := key
  exact ⟨ν, e, h1, h2⟩
end Bc
