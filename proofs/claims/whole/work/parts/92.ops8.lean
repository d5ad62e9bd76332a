/-! ACTS: pair settle -/
/-- what goes on, what is thrown: as rules of their own (unfolded, the kernel walks into the heap) -/
theorem thr_ok {α β : Type} {u : α} {h : xH} {K : xH → Option ((β ⊕ String) × xH)} : thr ((.inl u, h) : (α ⊕ String) × xH) K = K h := by simp only [thr]
theorem thr_er {α β : Type} {E : String} {h : xH} {K : xH → Option ((β ⊕ String) × xH)} : thr ((.inr E, h) : (α ⊕ String) × xH) K = some (.inr E, h) := by simp only [thr]
theorem up_jo {M : Nat → Nat} (h : Mt M) {w t : Nat} (hw : w < 12) (ht : t < 12) : up (up (up M w 12) (ow (up M w 12) t) 12) w t = jo M w t := by
  have h1 := dr_Mt h w
  funext x
  by_cases e : x = w
  · rw [e, up_same]; unfold jo; rw [if_pos rfl]
  · rw [up_ne e]
    unfold jo
    rw [if_neg e]
    have e1 : up M w 12 x = M x := up_ne e
    by_cases q : M x = t
    · rw [if_pos q]
      have hx : x < 12 := h.w12 (by omega)
      have : ow (up M w 12) t = x := (ow_iff h1 ht hx).mpr (by rw [e1]; exact q)
      rw [this, up_same]
    · rw [if_neg q]
      by_cases y : x = ow (up M w 12) t
      · have y' := y
        rw [y, up_same]
        by_cases z : x < 12
        · exact absurd (e1.symm.trans ((ow_iff h1 ht z).mp y.symm)) q
        · rw [← y]; exact (h.2.1 x (by omega)).symm
      · rw [up_ne y, e1]
theorem jo_Ms {E : Nat → Nat → Bool} {M : Nat → Nat} (h : Ms E M) {w t : Nat} (hw : w < 12) (ht : t < 12) (e : E w t = true) : Ms E (jo M w t) := by
  refine ⟨jo_Mt h.1 hw ht, fun x q => ?_⟩
  unfold jo at q ⊢
  by_cases z : x = w
  · rw [if_pos z, z]; exact e
  · rw [if_neg z] at q ⊢
    by_cases y : M x = t
    · rw [if_pos y] at q; omega
    · rw [if_neg y] at q ⊢; exact h.2 x q
section O11
variable {T : MM → Bk → Prop} {μ : MM} {A : AS}
theorem op_pair_k (hT : TF T) (hA : AOK A) (hC : RC T μ A) (hM : RM μ A) {w t : Nat} (w2 : w < 12) (t2 : t < 12) (c : KN (aB A) 0 (Int32.ofNat w)) (d : KN (aB A) 1 (Int32.ofNat t)) (q1 : hb (bf (aB A) w) t = true) (q2 : hb (bw (aB A)) w = true) (q3 : hb (bt (aB A)) t = true) (q4 : bM (aB A) w ≠ t) : OKc T μ (LB wc_L_pair (f_X9_pair 0 (Int32.ofNat w) (Int32.ofNat t)) (f_X10_pair 168 (Int32.ofNat w) (Int32.ofNat t))) := by
  have hB := hA.1
  have p6 : prOK shI 6 = true := bk_pr bk1
  have hMs : Ms (gE (aB A)) (jo (bM (aB A)) w t) := jo_Ms hB.M w2 t2 (by unfold gE; rw [q1, q2, q3]; rfl)
  have hB2 := wM_ok hB hMs
  have n4 : (eI (bM (aB A) w) = Int32.ofNat t) = False := by rw [eI_oN (hB.M.1.1 w) t2]; exact eq_false q4
  refine LB_ok hT hM (SK.uq (A := A) (v := Int32.ofNat (sz (jo (bM (aB A)) w t))) (B := wM (aB A) (jo (bM (aB A)) w t))) (CX_K hT hC hA hB2 fun ν1 e1 b1 => ?_) (fun ν hν => MX_K hν hB2 fun ν1 e1 b1 => ?_)
  · obtain ⟨ν2, e2, b2, f2⟩ := c_join p6 b1.2.2.2.2.2 w2 t2
    refine ⟨ν2, b1.prs b2 f2, f2.mono fun q i z => by unfold FP at z; unfold FB; omega, fun ν3 e3 => ?_⟩
    have ef := c_isFit bk1 hC.1 hB w2 t2
    have ea := c_isThere0 bk1 hC.1 hB (show w < 32 by omega)
    have eb := c_isThere1 bk1 hC.1 hB (show t < 32 by omega)
    have et := c_taskOf (μ := μ) p6 hC.1.2.2.2.2.2 w2
    have es := c_size (μ := ν2) p6 b2
    rw [q1] at ef
    rw [q2] at ea
    rw [q3] at eb
    have s1 : f_X9_pair 0 (Int32.ofNat w) (Int32.ofNat t) (mem μ) = f_X9_pair_J79 0 (Int32.ofNat w) (Int32.ofNat t) 0 1 (mem μ) := by
      simp only [f_X9_pair, f_X9_pair_J55, ↓hbind gR_0_0, ↓hbind (bk_r9 bk1), ↓hvc (fun _ => bk_v bk1), ↓hvc (fun _ => vc_0), ↓hvc (fun _ => pr_v p6), ↓hbind (c_kb bk1 hC.1 hB _ _), pb_1 c, pb_1 d, Bool.and_self, show bI true = 1 from rfl, ↓hbind c_dp1, ↓hbind c_da1, ↓thr_ok, ↓thr_er, ↓hbind ef, ↓hbind ea, ↓hbind eb, ↓hbind et, ↓reduceIte, z_1, n4]
    rw [s1]
    simp only [f_X9_pair_J79, ↓hbind gR_0_0, ↓hbind (bk_r9 bk1), ↓hvc (fun _ => bk_v bk1), ↓hvc (fun _ => vc_0), ↓hvc (fun _ => pr_v p6), ↓hbind c_da1, ↓thr_ok, ↓thr_er, ↓hbind e1, ↓hbind e2, ↓hbind es, ↓hbind e3]
  · have m1 := b1.mate (t := 12) (w := w) (v := -1) rfl
    have hB1 := wM_ok hB (drop_Ms hB.M w)
    obtain ⟨ν2, e2, b2, f2⟩ := m_parts1 m1 hB1 t2
    have m3 := b2.mate (t := t) (w := w) (v := Int32.ofNat t) (eI_lt t2).symm
    have ej := up_jo hB.M.1 w2 t2
    have m4 : MR (st ν2 210 w (Int32.ofNat t)) 0 (wM (aB A) (jo (bM (aB A)) w t)) := by rw [← ej]; exact m3
    refine ⟨st ν2 210 w (Int32.ofNat t), m4, (((Fr.refl _ _).st (by unfold FR; omega)).trans (f2.mono fun q i z => by unfold FR; omega)).st (by unfold FR; omega), fun ν3 e3 => ?_⟩
    have ef := m_isFit hν.t.1 w2 (show t < 32 by omega)
    have ea := m_isThere0 (μ := tz ν) (show w < 32 by omega)
    have eb := m_isThere1 (μ := tz ν) (show t < 32 by omega)
    have et : (tz ν).1 210 w = eI (bM (aB A) w) := hν.t.1.2.2.1 w w2
    have es := m_pairs (μ := st ν2 210 w (Int32.ofNat t)) (M := jo (bM (aB A)) w t) hMs.1.1 m4.2.2.1
    rw [q1] at ef
    rw [show (tz ν).1 172 3 = bw (aB A) from hν.t.1.1.2.2.2.1, q2] at ea
    rw [show (tz ν).1 172 4 = bt (aB A) from hν.t.1.1.2.2.2.2, q3] at eb
    have s1 : f_X10_pair 168 (Int32.ofNat w) (Int32.ofNat t) (mem ν) = f_X10_pair_J82 168 (Int32.ofNat w) (Int32.ofNat t) 168 0 (mem (tz ν)) := by
      simp only [f_X10_pair, f_X10_pair_J29, ↓hbind pI_t0, ↓hvc (fun _ => vc_168), ↓hbind (m_isOne hν.t.1 hB _ _), pb_1 c, pb_1 d, bI_0, Bool.true_eq_false, ↓reduceIte, ↓hbind m_b0t, ↓hbind ef, ↓hbind ea, ↓hbind eb, ↓hbind gR_168_11, ↓hbind mr_m0, ↓hbind (ma_m0 w2), et, n4]
    rw [s1]
    simp only [f_X10_pair_J82, ↓hvc (fun _ => vc_168), ↓hbind m_b0t, ↓reduceIte, ↓hbind e1, ↓hbind (m_parts0 w2), ↓hbind e2, ↓hbind gR_168_11, ↓hbind mr_m0, ↓hbind (ms_m0 w2), ↓hbind es, ↓hbind e3]
theorem op_pair_a (hT : TF T) (hA : AOK A) (hC : RC T μ A) (hM : RM μ A) {w t : Nat} (w2 : w < 12) (t2 : t < 12) (c : KN (aB A) 0 (Int32.ofNat w)) (d : KN (aB A) 1 (Int32.ofNat t)) (q : hb (bf (aB A) w) t = true → hb (bw (aB A)) w = true → hb (bt (aB A)) t = true → bM (aB A) w = t) : OKc T μ (LB wc_L_pair (f_X9_pair 0 (Int32.ofNat w) (Int32.ofNat t)) (f_X10_pair 168 (Int32.ofNat w) (Int32.ofNat t))) := by
  have hB := hA.1
  have p6 : prOK shI 6 = true := bk_pr bk1
  refine LB_ok hT hM (SA.uq (A := A)) (CX_A hT hC hA fun ν e => ?_) (fun ν hν => MX_A hν (w := 2) (b := 0) rfl (by decide) ?_)
  · have ef := c_isFit bk1 hC.1 hB w2 t2
    have ea := c_isThere0 bk1 hC.1 hB (show w < 32 by omega)
    have eb := c_isThere1 bk1 hC.1 hB (show t < 32 by omega)
    have et := c_taskOf (μ := μ) p6 hC.1.2.2.2.2.2 w2
    have s1 : f_X9_pair 0 (Int32.ofNat w) (Int32.ofNat t) (mem μ) = if bI (hb (bf (aB A) w) t) = 0 then f_X9_pair_J54 0 (Int32.ofNat w) (Int32.ofNat t) 0 (mem μ) else if bI (hb (bw (aB A)) w) = 0 then f_X9_pair_J54 0 (Int32.ofNat w) (Int32.ofNat t) 0 (mem μ) else if bI (hb (bt (aB A)) t) = 0 then f_X9_pair_J54 0 (Int32.ofNat w) (Int32.ofNat t) 0 (mem μ) else f_X9_pair_J55 0 (Int32.ofNat w) (Int32.ofNat t) 0 1 (mem μ) := by
      simp only [f_X9_pair, ↓hbind gR_0_0, ↓hvc (fun _ => bk_v bk1), ↓hvc (fun _ => vc_0), ↓hbind (c_kb bk1 hC.1 hB _ _), pb_1 c, pb_1 d, Bool.and_self, show bI true = 1 from rfl, ↓hbind c_dp1, ↓thr_ok, ↓thr_er, ↓hbind ef, ↓hbind ea, ↓hbind eb]
    have n1 : f_X9_pair_J54 0 (Int32.ofNat w) (Int32.ofNat t) 0 (mem μ) = some (.inr IAE, mem ν) := by
      simp only [f_X9_pair_J54, f_X9_pair_J55, ↓hvc (fun _ => vc_0), ↓hbind e, ↓thr_ok, ↓thr_er]
    rw [s1]
    by_cases q1 : hb (bf (aB A) w) t = false
    · rw [if_pos (by rw [bI_0]; exact q1)]; exact n1
    · rw [if_neg (by rw [bI_0]; exact q1)]
      by_cases q2 : hb (bw (aB A)) w = false
      · rw [if_pos (by rw [bI_0]; exact q2)]; exact n1
      · rw [if_neg (by rw [bI_0]; exact q2)]
        by_cases q3 : hb (bt (aB A)) t = false
        · rw [if_pos (by rw [bI_0]; exact q3)]; exact n1
        · rw [if_neg (by rw [bI_0]; exact q3)]
          have q4 := q (by simpa using q1) (by simpa using q2) (by simpa using q3)
          have n4 : (eI (bM (aB A) w) = Int32.ofNat t) = True := by rw [q4, eI_lt t2]; exact eq_true rfl
          simp only [f_X9_pair_J55, f_X9_pair_J79, ↓hbind gR_0_0, ↓hbind (bk_r9 bk1), ↓hvc (fun _ => vc_0), ↓hvc (fun _ => pr_v p6), ↓hbind c_da1, ↓thr_ok, ↓thr_er, ↓hbind et, ↓reduceIte, n4, ↓hbind e]
  · have ef := m_isFit hν.t.1 w2 (show t < 32 by omega)
    have ea := m_isThere0 (μ := tz ν) (show w < 32 by omega)
    have eb := m_isThere1 (μ := tz ν) (show t < 32 by omega)
    have et : (tz ν).1 210 w = eI (bM (aB A) w) := hν.t.1.2.2.1 w w2
    rw [show (tz ν).1 172 3 = bw (aB A) from hν.t.1.1.2.2.2.1] at ea
    rw [show (tz ν).1 172 4 = bt (aB A) from hν.t.1.1.2.2.2.2] at eb
    have s1 : f_X10_pair 168 (Int32.ofNat w) (Int32.ofNat t) (mem ν) = if bI (hb (bf (aB A) w) t) = 0 then f_X10_pair_J77 168 (Int32.ofNat w) (Int32.ofNat t) 168 (mem (tz ν)) else if bI (hb (bw (aB A)) w) = 0 then f_X10_pair_J77 168 (Int32.ofNat w) (Int32.ofNat t) 168 (mem (tz ν)) else if bI (hb (bt (aB A)) t) = 0 then f_X10_pair_J77 168 (Int32.ofNat w) (Int32.ofNat t) 168 (mem (tz ν)) else if eI (bM (aB A) w) = Int32.ofNat t then f_X10_pair_J77 168 (Int32.ofNat w) (Int32.ofNat t) 168 (mem (tz ν)) else f_X10_pair_J82 168 (Int32.ofNat w) (Int32.ofNat t) 168 0 (mem (tz ν)) := by
      simp only [f_X10_pair, f_X10_pair_J29, ↓hbind pI_t0, ↓hvc (fun _ => vc_168), ↓hbind (m_isOne hν.t.1 hB _ _), pb_1 c, pb_1 d, show (bI true = 0) = False from eq_false (by decide), ↓reduceIte, ↓hbind m_b0t, ↓hbind ef, ↓hbind ea, ↓hbind eb, ↓hbind gR_168_11, ↓hbind mr_m0, ↓hbind (ma_m0 w2), et]
    have n1 : f_X10_pair_J77 168 (Int32.ofNat w) (Int32.ofNat t) 168 (mem (tz ν)) = some (0, mem (bA (tz ν) 2)) := by
      simp only [f_X10_pair_J77, f_X10_pair_J82, f_X10_pair_J90, ↓hvc (fun _ => vc_168), ↓hbind (m_bA (show (2 : Int32) ≠ 0 by decide)), z_1, ↓reduceIte]
    rw [s1]
    by_cases q1 : hb (bf (aB A) w) t = false
    · rw [if_pos (by rw [bI_0]; exact q1)]; exact n1
    · rw [if_neg (by rw [bI_0]; exact q1)]
      by_cases q2 : hb (bw (aB A)) w = false
      · rw [if_pos (by rw [bI_0]; exact q2)]; exact n1
      · rw [if_neg (by rw [bI_0]; exact q2)]
        by_cases q3 : hb (bt (aB A)) t = false
        · rw [if_pos (by rw [bI_0]; exact q3)]; exact n1
        · rw [if_neg (by rw [bI_0]; exact q3)]
          have q4 := q (by simpa using q1) (by simpa using q2) (by simpa using q3)
          rw [if_pos (by rw [q4, eI_lt t2])]; exact n1
theorem op_pair_p (hT : TF T) (hA : AOK A) (hC : RC T μ A) (hM : RM μ A) {x y : Int32} (c : ¬ (KN (aB A) 0 x ∧ KN (aB A) 1 y)) : OKc T μ (LB wc_L_pair (f_X9_pair 0 x y) (f_X10_pair 168 x y)) := by
  have hB := hA.1
  have e0 : (pb (KN (aB A) 0 x) && pb (KN (aB A) 1 y)) = false := by
    by_cases z : KN (aB A) 0 x
    · rw [pb_f (fun y => c ⟨z, y⟩), Bool.and_false]
    · rw [pb_f z, Bool.false_and]
  refine LB_ok hT hM (SP.uq (A := A)) (CX_P hT hC hA fun ν e => ?_) (fun ν hν => MX_P hν (w := 1) (b := 0) rfl (by decide) ?_)
  · simp only [f_X9_pair, ↓hbind gR_0_0, ↓hvc (fun _ => bk_v bk1), ↓hvc (fun _ => vc_0), ↓hbind (c_kb bk1 hC.1 hB _ _), e0, show bI false = 0 from rfl, ↓hbind e, ↓thr_ok, ↓thr_er]
  · have n1 : f_X10_pair_J24 168 x y 168 (mem (tz ν)) = some (0, mem (bP (tz ν) 1)) := by
      simp only [f_X10_pair_J24, f_X10_pair_J29, f_X10_pair_J90, ↓hvc (fun _ => vc_168), ↓hbind (m_bP (show (1 : Int32) ≠ 0 by decide)), z_1, ↓reduceIte]
    have s1 : f_X10_pair 168 x y (mem ν) = if bI (pb (KN (aB A) 0 x)) = 0 then f_X10_pair_J24 168 x y 168 (mem (tz ν)) else if bI (pb (KN (aB A) 1 y)) = 0 then f_X10_pair_J24 168 x y 168 (mem (tz ν)) else f_X10_pair_J29 168 x y 168 0 (mem (tz ν)) := by
      simp only [f_X10_pair, ↓hbind pI_t0, ↓hvc (fun _ => vc_168), ↓hbind (m_isOne hν.t.1 hB _ _)]
    rw [s1]
    by_cases z : KN (aB A) 0 x
    · rw [if_neg (by rw [bI_0, pb_1 z]; simp), if_pos (by rw [bI_0]; exact pb_f (fun y => c ⟨z, y⟩))]; exact n1
    · rw [if_pos (by rw [bI_0]; exact pb_f z)]; exact n1
theorem op_pair (hT : TF T) (hA : AOK A) (hC : RC T μ A) (hM : RM μ A) (x y : Int32) : OKc T μ (LB wc_L_pair (f_X9_pair 0 x y) (f_X10_pair 168 x y)) := by
  by_cases c : KN (aB A) 0 x ∧ KN (aB A) 1 y
  · obtain ⟨c, d⟩ := c
    obtain ⟨w, w1, w2, rfl⟩ := c.w hA.1
    obtain ⟨t, t1, t2, rfl⟩ := d.t hA.1
    by_cases q : hb (bf (aB A) w) t = true ∧ hb (bw (aB A)) w = true ∧ hb (bt (aB A)) t = true ∧ bM (aB A) w ≠ t
    · exact op_pair_k hT hA hC hM w2 t2 c d q.1 q.2.1 q.2.2.1 q.2.2.2
    · exact op_pair_a hT hA hC hM w2 t2 c d fun q1 q2 q3 => Classical.byContradiction fun q4 => q ⟨q1, q2, q3, q4⟩
  · exact op_pair_p hT hA hC hM c
/-- 1 to 12 -/
theorem in112 {x : Int32} : (1 ≤ x ∧ x ≤ 12) ↔ ∃ k, 1 ≤ k ∧ k ≤ 12 ∧ x = Int32.ofNat k := by
  rcases i32_cases x with q | ⟨k, hk, rfl⟩
  · constructor
    · rintro ⟨a, _⟩; exact absurd (Int32.lt_of_lt_of_le (Int32.lt_of_lt_of_le q (show (0 : Int32) ≤ 1 by decide)) a) (Int32.lt_irrefl)
    · rintro ⟨k, a, b, rfl⟩
      rw [oN_l0 (by omega)] at q; exact q.elim
  · rw [show (1 : Int32) = Int32.ofNat 1 from rfl, show (12 : Int32) = Int32.ofNat 12 from rfl, oN_le (by omega) hk, oN_le hk (by omega)]
    constructor
    · rintro ⟨a, b⟩; exact ⟨k, a, b, rfl⟩
    · rintro ⟨j, a, b, e⟩
      rw [oN_inj hk (by omega)] at e
      omega
/-- what settle answers and does -/
def SS (A : AS) (n : Nat) (x : Int32 ⊕ String) (A' : AS) : Prop := ∃ k M', Gr (gE (aB A)) n k (bM (aB A)) M' ∧ x = .inl (Int32.ofNat k) ∧ A' = if k = 0 then A else wAct A (wM (aB A) M')
theorem SS.uq {n : Nat} : UQ (SS A n) := fun _ _ _ _ h h' => by
  obtain ⟨k, M1, g, e1, e2⟩ := h
  obtain ⟨k', M2, g', e1', e2'⟩ := h'
  obtain ⟨rfl, rfl⟩ := g.uniq g'
  exact ⟨e1.trans e1'.symm, e2.trans e2'.symm⟩
theorem c_settle (hT : TF T) (hA : AOK A) (hC : RC T μ A) {n : Nat} (n1 : 1 ≤ n) (n2 : n ≤ 12) : CX T μ (f_X9_settle 0 (Int32.ofNat n) (mem μ)) (SS A n) := by
  have hB := hA.1
  have p6 : prOK shI 6 = true := bk_pr bk1
  obtain ⟨ν, e1, f1, s1, o1⟩ := c_loaded hC hA
  obtain ⟨k, ξ, M', e2, f2, s2, o2, g⟩ := c_grow s1 o1 n2
  have f12 : Fr FS μ ξ := f1.trans f2
  have hC2 : RC T ξ A := hC.fr hT f12 fun q i _ z => Or.inl z.Q
  have kn : k ≤ 12 := Nat.le_trans g.2.1 n2
  have c1 : ¬ (Int32.ofNat n < 1) := by rw [llt_1 (by omega)]; omega
  have c2 : ¬ (Int32.ofNat n > 12) := by rw [lgt_12 (by omega)]; omega
  have t1 : f_X9_settle 0 (Int32.ofNat n) (mem μ) = f_X9_settle_J17 0 (Int32.ofNat n) 0 1 (mem μ) := by
    unfold f_X9_settle; rw [if_neg c1, if_neg c2]
  by_cases k0 : k = 0
  · have c3 : (Int32.ofNat k ≤ 0) = True := by rw [lle_0 (by omega)]; exact eq_true (by omega)
    refine ⟨_, ξ, A, ?_, f12.mono fun q i z => z.Q.L, hC2, hA, k, M', g, rfl, (if_pos k0).symm⟩
    rw [t1]
    simp only [f_X9_settle_J17, f_X9_settle_J65, ↓hbind gR_0_0, ↓hbind gR_0_4, ↓hvc (fun _ => vc_0), ↓hvc (fun _ => vc_141), ↓hbind c_da1, ↓thr_ok, ↓thr_er, ↓hbind e1, ↓hbind e2, c3, ↓reduceIte]
  · have c3 : (Int32.ofNat k ≤ 0) = False := by rw [lle_0 (by omega)]; exact eq_false (by omega)
    obtain ⟨ν1, e3, b1, h1, z1, f3⟩ := c_beginAct hC2 hA
    have pr : PR ν1 142 M' := s2.2.2.fr f3 (fun i z => by unfold FH at z; omega) (fun i z => by unfold FH at z; omega)
    obtain ⟨ν2, e4, b2, f4⟩ := c_pairs bk1 pr142 (Or.inr (by omega)) b1 pr
    have ff : Fr (fun q i => FS q i ∨ FB 1 q i ∨ FH q i ∨ (q = 0 ∧ i = 9)) ξ ν2 := (f3.mono fun q i z => Or.inr (Or.inr z)).trans (f4.mono fun q i z => Or.inr (Or.inl z))
    refine ⟨_, ν2, wAct A (wM (aB A) M'), ?_, (f12.mono fun q i z => z.Q.L).trans (ff.mono fun q i z => by unfold FS FB FH at z; unfold CL; omega), hC2.act hT b2 (h1.fr f4 fun q i a z => by unfold FH at a; unfold FB at z; omega) ?_ ff, wAct_ok hA (wM_ok hB o2.2.2.2.2), k, M', g, rfl, (if_neg k0).symm⟩
    · have e4 : f_X3_copy 6 142 (mem ν1) = some (mem ν2) := e4
      rw [t1]
      simp only [f_X9_settle_J17, f_X9_settle_J65, ↓hbind gR_0_0, ↓hbind gR_0_4, ↓hbind gR_141_0, ↓hbind (bk_r9 bk1), ↓hvc (fun _ => vc_0), ↓hvc (fun _ => vc_141), ↓hvc (fun _ => pr_v p6), ↓hbind c_da1, ↓thr_ok, ↓thr_er, ↓hbind e1, ↓hbind e2, c3, ↓reduceIte, ↓hbind e3, ↓hbind e4]
    · rw [(f4 _ _ (by unfold FB; omega)).1]; exact z1
theorem m_settle (hA : AOK A) (hM : RM μ A) {n : Nat} (n1 : 1 ≤ n) (n2 : n ≤ 12) : MX μ (f_X10_settle 168 (Int32.ofNat n) (mem μ)) wc_L_settle (SS A n) := by
  have hB := hA.1
  have ein : f_X10_in (Int32.ofNat n) 1 12 (mem (tz μ)) = some (1, mem (tz μ)) := by
    rw [m_in, decide_eq_true (in112.mpr ⟨n, n1, n2, rfl⟩)]; rfl
  have t1 : f_X10_settle 168 (Int32.ofNat n) (mem μ) = f_X10_settle_J21 168 (Int32.ofNat n) 168 0 (mem (tz μ)) := by
    simp only [f_X10_settle, ↓hbind pI_t0, ↓hbind ein, z_1, ↓reduceIte]
  obtain ⟨r', ζ, g1, g2, g3⟩ := m_hasWay (hM.t.1.MS hB) hB.SOK
  have fq : Fr QM (tz μ) ζ := g2.mono fun _ _ z => z.Q
  have hz : RM ζ A := hM.t.fr fq fun q i _ _ z => z
  have z0 := Fh_0 g2
  rcases g3 with ⟨r0, g3, -⟩ | ⟨r0, L, pw, pt, g3, g4, -⟩
  · refine ⟨0, .inl 0, ζ, A, ?_, t0_ML.trans (fq.mono fun _ _ z => z.L), hz, ⟨0, bM (aB A), ⟨rfl, by omega, Or.inr g3⟩, rfl, (if_pos rfl).symm⟩, z0, rfl⟩
    rw [t1]
    simp only [f_X10_settle_J21, ↓hvc (fun _ => vc_168), ↓hbind m_b0t, ↓reduceIte, ↓hbind g1, r0]
  · obtain ⟨ν1, e1, h1, b1, f1⟩ := m_remember hz
    obtain ⟨k, ν2, M', e2, f2, s2, o2, g⟩ := m_settles (b1.MS hB) hB.SOK n2
    have b2 := b1.pairs f2 (fun q i a b z => by have := z.Q; unfold FR at a; omega) s2.2.2.2
    have k0 : k ≠ 0 := by
      rintro rfl
      obtain ⟨c1, c2, c3⟩ := g
      have c1 : M' = bM (aB A) := c1
      rcases c3 with c3 | c3
      · omega
      · rw [c1] at c3; exact g3.fin c3
    have f2' : Fr (fun q i => FR 0 q i ∨ QM q i) ν1 ν2 := f2.mono fun q i z => by have := z.Q; unfold FR QM; omega
    have ff : Fr (fun q i => FM q i ∨ FR 0 q i ∨ QM q i) ζ ν2 := (f1.mono fun q i z => Or.inl z).trans (f2'.mono fun q i z => Or.inr z)
    have hh : HM ν2 (hpush (aH A) (aB A)) := h1.fr f2 (fun z => by have := z.Q; omega) (fun r q i a b c z => by have := z.Q; unfold FR at c; omega)
    refine ⟨_, .inl (Int32.ofNat k), ν2, wAct A (wM (aB A) M'), ?_, (t0_ML.trans (fq.mono fun _ _ z => z.L)).trans (ff.mono fun q i z => ?_), hz.act b2 hh ff, ⟨k, M', g, rfl, (if_neg k0).symm⟩, ?_, rfl⟩
    · rw [t1]
      have e2 : f_X10_settles 168 (Int32.ofNat n) (mem ν1) = some (Int32.ofNat k, mem ν2) := e2
      simp only [f_X10_settle_J21, ↓hvc (fun _ => vc_168), ↓hbind m_b0t, ↓reduceIte, ↓hbind g1, r0, z_1, ↓hbind e1, ↓hbind e2]
    · rcases z with z | z | z
      · rcases z with z | ⟨r, z1, z2, z3⟩
        · unfold ML; omega
        · unfold FR at z3; unfold ML; omega
      · unfold FR at z; unfold ML; omega
      · exact z.L
    · rw [(f2 _ _ (fun z => by have := z.Q; omega)).1, (f1 _ _ (by
        rintro (z | ⟨r, z1, z2, z3⟩)
        · omega
        · unfold FR at z3; omega)).1]
      exact z0
theorem op_settle (hT : TF T) (hA : AOK A) (hC : RC T μ A) (hM : RM μ A) (x : Int32) : OKc T μ (LB wc_L_settle (f_X9_settle 0 x) (f_X10_settle 168 x)) := by
  by_cases c : 1 ≤ x ∧ x ≤ 12
  · obtain ⟨n, n1, n2, rfl⟩ := in112.mp c
    exact LB_ok hT hM SS.uq (c_settle hT hA hC n1 n2) (fun ν hν => m_settle hA hν n1 n2)
  · refine LB_ok hT hM (SA.uq (A := A)) (CX_A hT hC hA fun ν e => ?_) (fun ν hν => MX_A hν (w := 1) (b := 0) rfl (by decide) ?_)
    · have n3 : f_X9_settle_J16 0 x 0 (mem μ) = some (.inr IAE, mem ν) := by
        simp only [f_X9_settle_J16, f_X9_settle_J17, ↓hvc (fun _ => vc_0), ↓hbind e, ↓thr_ok, ↓thr_er]
      unfold f_X9_settle
      by_cases n1 : x < 1
      · rw [if_pos n1]; exact n3
      · rw [if_neg n1]
        by_cases n2 : x > 12
        · rw [if_pos n2]; exact n3
        · exact absurd ⟨Int32.not_lt.mp n1, Int32.not_lt.mp n2⟩ c
    · have ein : f_X10_in x 1 12 (mem (tz ν)) = some (0, mem (tz ν)) := by
        rw [m_in, decide_eq_false c]; rfl
      simp only [f_X10_settle, f_X10_settle_J21, ↓hbind pI_t0, ↓hbind ein, z_1, ↓reduceIte, ↓hvc (fun _ => vc_168), ↓hbind (m_bA (show (1 : Int32) ≠ 0 by decide))]
end O11
