/-! THE CLASS'S FACE: chosen rounds round; acts -/
variable {Ξ : xH}
/-- an act: its answer, a cell more at most, the book's change and what KEEP makes of it -/
def Act (Ξ : xH) (μ : MM) (B2 : Bk) (H' : List Bk) (o : Option (Int32 × xH)) (v : Int32) : Prop := ∃ Δ ν, o = some (v, mX (Ξ ++ Δ) ν) ∧ Gw 1 Δ ∧ Fr CL μ ν ∧ ∃ B', Kp B2 B' ∧ RS ν B' H'
section E4
variable {μ : MM} {B : Bk} {H : List Bk}
theorem q_chosen (h : RS μ B H) (hl : (shI ++ Ξ).length + 1 < 1000000) {C : Nat → Bool} (hc : ChS B C fun _ => True) {x y : Int32} (hx : x = 0 ∨ x = 1) (hy : ∀ k, hb y k = C k) : Ask Ξ μ B H (f_L_chosen 0 x (mX Ξ μ)) (if x = 0 then y else Int32.ofNat (wsum B C 12)) := by
  obtain ⟨A, hC, hA, rfl, h2, h3⟩ := h
  refine q_of (F := f_X9_chosen 0 x) hl (c_chosen TT_F hA hC hx) fun z A' s => ?_
  obtain ⟨rfl, C', y', c', hy', rfl⟩ := s
  have e := c'.uniq hc
  subst e
  have ey : y' = y := hb_ext fun k _ => by rw [hy', hy]
  subst ey
  exact ⟨Or.inl rfl, rfl, h2, h3⟩
theorem q_rounds (h : RS μ B H) : ∃ ν, f_X9_rounds 0 (mX Ξ μ) = some (Int32.ofNat (allR (gE B) (bm B) (bn B) 0 CV0).2, mX Ξ ν) ∧ Fr CL μ ν ∧ RS ν B H := by
  obtain ⟨A, hC, hA, rfl, h2, h3⟩ := h
  obtain ⟨ν, e1, f1, r1, g1⟩ := c_fill (Ξ := Ξ) hC.1 hA.1
  have fq : Fr CQ μ ν := f1.mono fun q i z => by unfold FC4 at z; unfold CQ; omega
  refine ⟨ν, ?_, fq.mono fun _ _ z => z.L, A, hC.fr TT_F fq fun q i _ z => Or.inl z, hA, rfl, h2, h3⟩
  simp only [f_X9_rounds, ↓hbind gR_0_8, ↓hbind gR_0_0, ↓hvc (fun _ => vc_162), ↓hbind e1, ↓hbind gI_162_5, g1]
theorem q_round (h : RS μ B H) (hl : (shI ++ Ξ).length + 1 < 1000000) {w t : Nat} (hw : w < bn B) (ht : t < bm B) : Ask Ξ μ B H (f_L_round 0 (Int32.ofNat w) (Int32.ofNat t) (mX Ξ μ)) (eI ((allR (gE B) (bm B) (bn B) 0 CV0).1 w t)) :=
  q_v (F := f_X9_round 0 (Int32.ofNat w) (Int32.ofNat t)) h hl fun A hC hA e => by
    subst e
    have hB := hA.1
    have c := knw hB hw
    have d := knt hB ht
    have ek := c_kb (Ξ := Ξ) bk1 hC.1 hB (Int32.ofNat w) (Int32.ofNat t)
    rw [pb_1 c, pb_1 d] at ek
    obtain ⟨ν, e1, f1, r1, g1⟩ := c_fill (Ξ := Ξ) hC.1 hB
    have fq : Fr CQ μ ν := f1.mono fun q i z => by unfold FC4 at z; unfold CQ; omega
    have w2 : w < 12 := Nat.lt_of_lt_of_le hw hB.n
    have t2 : t < 12 := Nat.lt_of_lt_of_le ht hB.m
    refine CX_V TT_F hC hA (ν := ν) ?_ fq
    have ec := c_cellOf (Ξ := Ξ) (μ := ν) aI_165 w2 t2
    rw [r1.2.2 w t w2 t2] at ec
    simp only [f_X9_round, ↓hbind gR_0_0, ↓hvc (fun _ => bk_v bk1), ↓hbind ek, Bool.and_self, show bI true = 1 from rfl, ↓hvc (fun _ => vc_0), ↓hbind c_dp1, ↓thr_ok, ↓thr_er, ↓hbind gR_0_8, ↓hvc (fun _ => vc_162), ↓hbind e1, f_X1_roundOf, ↓hbind gR_162_2, ↓hbind ec, Option.bind_some]
/-! acts -/
theorem q_k (h : RS μ B H) (hl : (shI ++ Ξ).length + 1 < 1000000) {F : xH → Option ((Int32 ⊕ String) × xH)} {wc : String → Option Int32} {v : Int32} {B2 : Bk} (c : ∀ A, RC TT μ A → AOK A → aB A = B → CX Ξ TT μ (F (mX Ξ μ)) (SK A v B2)) : Act Ξ μ B2 (hpush H B) ((vc (mX Ξ μ) 9 0 (F (mX Ξ μ))).bind (wrp wc)) v := by
  obtain ⟨A, hC, hA, rfl, rfl, h3⟩ := h
  obtain ⟨x, ν, A', Δ, e, hΔ, f, r, ok, rfl, B', k, rfl⟩ := c A hC hA rfl hl
  refine ⟨Δ, ν, ?_, hΔ, f, B', k, _, r, ok, rfl, rfl, h3⟩
  rw [vc_0, e, Option.bind_some]
  rfl
theorem q_add (h : RS μ B H) (hl : (shI ++ Ξ).length + 1 < 1000000) {w t k : Nat} (hw : w < bn B) (ht : t < bm B) (k1 : k ≤ 99) : Act Ξ μ (wF B w t k) (hpush H B) (f_L_add 0 (Int32.ofNat w) (Int32.ofNat t) (Int32.ofNat k) (mX Ξ μ)) (if hb (bf B w) t then Int32.ofNat (bc B w t) else -1) :=
  q_k (F := f_X9_add 0 (Int32.ofNat w) (Int32.ofNat t) (Int32.ofNat k)) h hl fun A hC hA e => by
    subst e
    have hB := hA.1
    have c := knw hB hw
    have d := knt hB ht
    have w2 : w < 12 := Nat.lt_of_lt_of_le hw hB.n
    have t2 : t < 12 := Nat.lt_of_lt_of_le ht hB.m
    have n1 : ¬ (Int32.ofNat k < 0) := by rw [oN_l0 (by omega)]; exact id
    have n2 : ¬ (Int32.ofNat k > 99) := by rw [lgt_99 (by omega)]; omega
    have hB2 := wF_ok hB hw ht k1
    refine CX_K TT_F hC hA hB2 fun ν1 e1 b1 => ?_
    obtain ⟨ν2, e2, b2, f2⟩ := c_setFit (Ξ := Ξ) bk1 b1 w2 t2 (c := k)
    refine ⟨ν2, b2, f2, fun ν3 e3 => ?_⟩
    simp only [f_X9_add, f_X9_add_J29, f_X9_add_J28, vc_0, gR_0_0, gR_0_1, gR_0_2, gR_0_3, gR_0_4, gR_0_5, gR_0_6, gR_0_7, gR_0_8, gI_0_9, pI_0_9, gI_0_10, pI_0_10, gI_0_11, pI_0_11, bk_v bk1, c_kb bk1 hC.1 hB, pb_1 c, pb_1 d, Bool.and_self, show bI true = 1 from rfl, c_dp1, c_da1, thr, if_neg n1, if_neg n2, e1, c_costOf bk1 b1 w2 t2, e2, e3, Option.bind_some]
theorem q_drop_k (h : RS μ B H) (hl : (shI ++ Ξ).length + 1 < 1000000) {w t : Nat} (hw : w < bn B) (ht : t < bm B) (q : hb (bf B w) t = true) : Act Ξ μ (wD B w t) (hpush H B) (f_L_drop 0 (Int32.ofNat w) (Int32.ofNat t) (mX Ξ μ)) (Int32.ofNat (bc B w t)) :=
  q_k (F := f_X9_drop 0 (Int32.ofNat w) (Int32.ofNat t)) h hl fun A hC hA e => by
    subst e
    have hB := hA.1
    have c := knw hB hw
    have d := knt hB ht
    have w2 : w < 12 := Nat.lt_of_lt_of_le hw hB.n
    have t2 : t < 12 := Nat.lt_of_lt_of_le ht hB.m
    have hB2 := wD_ok hB (w := w) t2
    have n1 : (if hb (bf (aB A) w) t = true then Int32.ofNat (bc (aB A) w t) else -1) = Int32.ofNat (bc (aB A) w t) := if_pos q
    refine CX_K TT_F hC hA hB2 fun ν1 e1 b1 => ?_
    obtain ⟨ν2, e2, b2, f2⟩ := c_removeFit (Ξ := Ξ) bk1 b1 w2 t2
    refine ⟨ν2, b2, f2, fun ν3 e3 => ?_⟩
    simp only [f_X9_drop, vc_0, gR_0_0, gR_0_1, gR_0_2, gR_0_3, gR_0_4, gR_0_5, gR_0_6, gR_0_7, gR_0_8, gI_0_9, pI_0_9, gI_0_10, pI_0_10, gI_0_11, pI_0_11, bk_v bk1, c_kb bk1 hC.1 hB, pb_1 c, pb_1 d, Bool.and_self, show bI true = 1 from rfl, c_dp1, c_da1, thr, c_isFit bk1 hC.1 hB w2 t2, q, e1, c_costOf bk1 b1 w2 t2, if_true, e2, e3, Option.bind_some]
theorem q_drop_a (h : RS μ B H) (hl : (shI ++ Ξ).length + 1 < 1000000) {w t : Nat} (hw : w < bn B) (ht : t < bm B) (q : hb (bf B w) t = false) : Ask Ξ μ B H (f_L_drop 0 (Int32.ofNat w) (Int32.ofNat t) (mX Ξ μ)) (-2000000098) :=
  q_a (F := f_X9_drop 0 (Int32.ofNat w) (Int32.ofNat t)) h hl rfl fun A hC hA e => by
    subst e
    have hB := hA.1
    have c := knw hB hw
    have d := knt hB ht
    have w2 : w < 12 := Nat.lt_of_lt_of_le hw hB.n
    have t2 : t < 12 := Nat.lt_of_lt_of_le ht hB.m
    refine CX_A TT_F hC hA fun ν e1 => ?_
    simp only [f_X9_drop, vc_0, gR_0_0, gR_0_1, gR_0_2, gR_0_3, gR_0_4, gR_0_5, gR_0_6, gR_0_7, gR_0_8, gI_0_9, pI_0_9, gI_0_10, pI_0_10, gI_0_11, pI_0_11, bk_v bk1, c_kb bk1 hC.1 hB, pb_1 c, pb_1 d, Bool.and_self, show bI true = 1 from rfl, c_dp1, thr, c_isFit bk1 hC.1 hB w2 t2, q, show bI false = 0 from rfl, e1, Option.bind_some]
theorem q_weight (h : RS μ B H) (hl : (shI ++ Ξ).length + 1 < 1000000) {w k : Nat} (hw : w < bn B) (k1 : k ≤ 99) : Act Ξ μ (wE B w k) (hpush H B) (f_L_weight 0 (Int32.ofNat w) (Int32.ofNat k) (mX Ξ μ)) (Int32.ofNat (be B w)) :=
  q_k (F := f_X9_weight 0 (Int32.ofNat w) (Int32.ofNat k)) h hl fun A hC hA e => by
    subst e
    have hB := hA.1
    have c := knw hB hw
    have w2 : w < 12 := Nat.lt_of_lt_of_le hw hB.n
    have n1 : ¬ (Int32.ofNat k < 0) := by rw [oN_l0 (by omega)]; exact id
    have n2 : ¬ (Int32.ofNat k > 99) := by rw [lgt_99 (by omega)]; omega
    have hB2 := wE_ok hB (w := w) k1
    refine CX_K TT_F hC hA hB2 fun ν1 e1 b1 => ?_
    obtain ⟨ν2, e2, b2, f2⟩ := c_setWeight (Ξ := Ξ) bk1 b1 w2 (v := k)
    refine ⟨ν2, b2, f2, fun ν3 e3 => ?_⟩
    simp only [f_X9_weight, f_X9_weight_J29, f_X9_weight_J28, vc_0, gR_0_0, gR_0_1, gR_0_2, gR_0_3, gR_0_4, gR_0_5, gR_0_6, gR_0_7, gR_0_8, gI_0_9, pI_0_9, gI_0_10, pI_0_10, gI_0_11, pI_0_11, bk_v bk1, c_kn bk1 hC.1 hB, pb_1 c, show bI true = 1 from rfl, c_dp1, c_da1, thr, if_neg n1, if_neg n2, e1, c_weightOf bk1 b1 w2, e2, e3, Option.bind_some]
theorem q_keep (h : RS μ B H) (hl : (shI ++ Ξ).length + 1 < 1000000) {k : Nat} (hk : k ≤ 1) : Act Ξ μ (wk B k) (hpush H B) (f_L_keep 0 (Int32.ofNat k) (mX Ξ μ)) (Int32.ofNat (bk B)) :=
  q_k (F := f_X9_keep 0 (Int32.ofNat k)) h hl fun A hC hA e => by
    subst e
    have hB := hA.1
    have hB2 := wk_ok hB hk
    refine CX_K TT_F hC hA hB2 fun ν1 e1 b1 => ?_
    refine ⟨_, b_wk b1, (Fr.refl _ _).st (by unfold FB; omega), fun ν3 e3 => ?_⟩
    have n3 : f_X9_keep_J10 0 (Int32.ofNat k) 0 (mX Ξ μ) = some (.inl (Int32.ofNat (bk (aB A))), mX Ξ ν3) := by
      simp only [f_X9_keep_J15, f_X9_keep_J10, vc_0, gR_0_0, gR_0_1, gR_0_2, gR_0_3, gR_0_4, gR_0_5, gR_0_6, gR_0_7, gR_0_8, gI_0_9, pI_0_9, gI_0_10, pI_0_10, gI_0_11, pI_0_11, bk_v bk1, bk_i0 bk1, bk_i1 bk1, bk_i2 bk1, bk_i3 bk1, bk_i4 bk1, bk_p0 bk1, bk_p1 bk1, bk_p2 bk1, bk_p3 bk1, bk_p4 bk1, bk_r5 bk1, bk_r6 bk1, bk_r7 bk1, bk_r8 bk1, bk_r9 bk1, bk_a1 bk1, bk_a2 bk1, bk_a3 bk1, bk_a4 bk1, bk_s1 bk1, bk_s2 bk1, bk_s3 bk1, bk_s4 bk1, c_da1, thr, e1, b1.1.2.2.2.2, e3, Option.bind_some]
    unfold f_X9_keep
    by_cases n1 : Int32.ofNat k = 0
    · rw [if_pos n1]; exact n3
    · rw [if_neg n1]
      by_cases n2 : Int32.ofNat k = 1
      · rw [if_pos n2]; exact n3
      · rw [show (0 : Int32) = Int32.ofNat 0 from rfl, oN_inj (by omega) (by omega)] at n1
        rw [show (1 : Int32) = Int32.ofNat 1 from rfl, oN_inj (by omega) (by omega)] at n2
        omega
theorem q_part_k (h : RS μ B H) (hl : (shI ++ Ξ).length + 1 < 1000000) {w : Nat} (hw : w < bn B) (q : bM B w < 12) : Act Ξ μ (wM B (up (bM B) w 12)) (hpush H B) (f_L_part 0 (Int32.ofNat w) (mX Ξ μ)) (eI (bM B w)) :=
  q_k (F := f_X9_part 0 (Int32.ofNat w)) h hl fun A hC hA e => by
    subst e
    have hB := hA.1
    have c := knw hB hw
    have w2 : w < 12 := Nat.lt_of_lt_of_le hw hB.n
    have hB2 := wM_ok hB (drop_Ms hB.M w)
    have p6 : prOK shI 6 = true := bk_pr bk1
    have nz : ¬ (eI (bM (aB A) w) = -1) := by rw [eI_n1]; omega
    have hw6 := c_taskOf (Ξ := Ξ) (μ := μ) p6 hC.1.2.2.2.2.2 w2
    refine CX_K TT_F hC hA hB2 fun ν1 e1 b1 => ?_
    obtain ⟨ν2, e2, b2, f2⟩ := c_loosenWorker (Ξ := Ξ) (μ := ν1) p6 b1.2.2.2.2.2 (k := w) (by omega)
    rw [eI_lt w2] at e2
    refine ⟨ν2, b1.prs b2 f2, f2.mono fun q i z => by unfold FP at z; unfold FB; omega, fun ν3 e3 => ?_⟩
    simp only [f_X9_part, f_X9_part_J36, ↓hvc (fun _ => vc_0), ↓hvc (fun _ => bk_v bk1), ↓hvc (fun _ => pr_v p6), ↓hbind gR_0_0, ↓hbind (bk_r9 bk1), ↓hbind (c_kn bk1 hC.1 hB _ _), pb_1 c, show bI true = 1 from rfl, ↓hbind c_dp1, ↓hbind c_da1, thr, ↓hbind hw6, nz, ↓reduceIte, ↓hbind e1, ↓hbind e2, ↓hbind e3]
theorem q_part_a (h : RS μ B H) (hl : (shI ++ Ξ).length + 1 < 1000000) {w : Nat} (hw : w < bn B) (q : bM B w = 12) : Ask Ξ μ B H (f_L_part 0 (Int32.ofNat w) (mX Ξ μ)) (-2000000098) :=
  q_a (F := f_X9_part 0 (Int32.ofNat w)) h hl rfl fun A hC hA e => by
    subst e
    have hB := hA.1
    have c := knw hB hw
    have w2 : w < 12 := Nat.lt_of_lt_of_le hw hB.n
    have p6 : prOK shI 6 = true := bk_pr bk1
    have nz : (eI (bM (aB A) w) = -1) = True := by rw [eI_n1]; exact eq_true (by omega)
    have hw6 := c_taskOf (Ξ := Ξ) (μ := μ) p6 hC.1.2.2.2.2.2 w2
    refine CX_A TT_F hC hA fun ν e1 => ?_
    simp only [f_X9_part, f_X9_part_J36, ↓hvc (fun _ => vc_0), ↓hvc (fun _ => bk_v bk1), ↓hvc (fun _ => pr_v p6), ↓hbind gR_0_0, ↓hbind (bk_r9 bk1), ↓hbind (c_kn bk1 hC.1 hB _ _), pb_1 c, show bI true = 1 from rfl, ↓hbind c_dp1, thr, ↓hbind hw6, nz, ↓reduceIte, ↓hbind e1]
end E4
