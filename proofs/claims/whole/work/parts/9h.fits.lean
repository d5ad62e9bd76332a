/-! OPERATIONS: fit fitMany -/
noncomputable def fmR (B : Bk) (x : Int32) (w : Nat) : Nat → Nat → Int32 → Int32
  | 0, _, s => s
  | k + 1, j, s => fmR B x w k (j + 1) (if kv B w j = x then s + 1 else s)
noncomputable def fmQ (B : Bk) (x : Int32) : Nat → Nat → Int32 → Int32
  | 0, _, s => s
  | k + 1, i, s => fmQ B x k (i + 1) (fmR B x i (bm B) 0 s)
section O19
variable {T : MM → Bk → Prop} {μ : MM} {A : AS} {B : Bk} {M : Nat → Nat}
theorem MX_V2 (h : RM μ A) {o : Option (Int32 × xH)} {wc : String → Option Int32} {v : Int32} {ν : MM} (e : o = some (v, mem ν)) (f : Fr FRk (tz μ) ν) (m : MR ν 0 (aB A)) : MX μ o wc (SV A v) := by
  have f' : Fr (fun q i => QM q i ∨ FR 0 q i) (tz μ) ν := f.mono fun q i z => z.elim (fun y => Or.inl y.Q) Or.inr
  refine ⟨v, .inl v, ν, A, e, t0_ML.trans (CQ_ML f' fun _ _ z => z), h.t.re f' m, ⟨rfl, rfl⟩, ?_, rfl⟩
  rw [(f _ _ (by unfold FRk Fk FR; omega)).1]; exact t0_0
theorem c_prep (hC : RC T μ A) (hA : AOK A) : ∃ ν ξ ζ N M', f_X9_makeMost 0 (mem μ) = some (Int32.ofNat N, mem ν) ∧ f_X5_look 149 141 (mem ν) = some (mem ξ) ∧ f_X5_close 149 141 (mem ξ) = some (mem ζ) ∧ Fr CQ μ ζ ∧ KSt ζ (aB A) M' ∧ BC ζ 1 (aB A) := by
  have hB := hA.1
  obtain ⟨ν, ξ, k, M', e1, e2, fq, g, s, o, r⟩ := c_mmLook hC hA
  obtain ⟨ζ, e3, f3, d⟩ := c_close s hB.Eb
  have fq2 : Fr CQ μ ζ := fq.trans (f3.mono fun q i z => by unfold CQ; omega)
  have nu := g.nu hB.Eb hB.M
  refine ⟨ν, ξ, ζ, _, M', e1, e2, e3, fq2, ⟨?_, nu.1, nu.2.1, ?_, d⟩, hC.1.fr fq2 fun q i a c z => by unfold CQ at z; omega⟩
  · obtain ⟨⟨h1, h2, h3, h4⟩, h5, h6⟩ := s
    refine ⟨⟨?_, ?_, ?_, ?_⟩, fun w hw k => ?_, h6.fr f3 (fun i z => by omega) (fun i z => by omega)⟩
    · rw [(f3 _ _ (by omega)).1]; exact h1
    · rw [(f3 _ _ (by omega)).1]; exact h2
    · rw [(f3 _ _ (by omega)).1]; exact h3
    · rw [(f3 _ _ (by omega)).1]; exact h4
    · rw [(f3 _ _ (by omega)).1]; exact h5 w hw k
  · unfold CRs
    rw [(f3 149 0 (by omega)).1, (f3 149 1 (by omega)).1, (f3 149 2 (by omega)).1, (f3 149 3 (by omega)).1]; exact r
theorem op_fit_k (hT : TF T) (hA : AOK A) (hC : RC T μ A) (hM : RM μ A) {w t : Nat} (w2 : w < 12) (t2 : t < 12) (c : KN (aB A) 0 (Int32.ofNat w)) (d : KN (aB A) 1 (Int32.ofNat t)) : OKc T μ (LB wc_L_fit (f_X9_fit 0 (Int32.ofNat w) (Int32.ofNat t)) (f_X10_fit 168 (Int32.ofNat w) (Int32.ofNat t))) := by
  have hB := hA.1
  obtain ⟨ν, ξ, ζ, N, M', e1, e2, e3, fq, ks, hb1⟩ := c_prep hC hA
  have ek := c_kindOf ks hB hb1 w2 t2
  refine LB_ok hT hM (SV.uq (A := A) (v := kv (aB A) w t)) (CX_V hT hC hA (ν := ζ) ?_ fq) (fun ν hν => ?_)
  · simp only [f_X9_fit, ↓hbind gR_0_0, ↓hvc (fun _ => bk_v bk1), ↓hvc (fun _ => vc_0), ↓hbind (c_kb bk1 hC.1 hB _ _), pb_1 c, pb_1 d, Bool.and_self, show bI true = 1 from rfl, ↓hbind c_dp1, ↓thr_ok, ↓hbind e1, ↓hbind gR_0_5, ↓hbind gR_0_4, ↓hvc (fun _ => vc_149), ↓hbind e2, ↓hbind e3, ↓hbind ek]
  · obtain ⟨ω, e4, f4, m4⟩ := m_fitOf hν.t.1 hB w2 t2
    refine MX_V2 hν ?_ f4 m4
    simp only [f_X10_fit, f_X10_fit_J29, ↓hbind pI_t0, ↓hvc (fun _ => vc_168), ↓hbind (m_isOne hν.t.1 hB _ _), pb_1 c, pb_1 d, show bI true = 1 from rfl, z_1, ↓reduceIte, ↓hbind m_b0t, ↓hbind e4]
theorem op_fit_p (hT : TF T) (hA : AOK A) (hC : RC T μ A) (hM : RM μ A) {x y : Int32} (c : ¬ (KN (aB A) 0 x ∧ KN (aB A) 1 y)) : OKc T μ (LB wc_L_fit (f_X9_fit 0 x y) (f_X10_fit 168 x y)) := by
  have hB := hA.1
  have e0 : (pb (KN (aB A) 0 x) && pb (KN (aB A) 1 y)) = false := by
    by_cases z : KN (aB A) 0 x
    · rw [pb_f (fun y => c ⟨z, y⟩), Bool.and_false]
    · rw [pb_f z, Bool.false_and]
  refine LB_ok hT hM (SP.uq (A := A)) (CX_P hT hC hA fun ν e => ?_) (fun ν hν => MX_P hν (w := 1) (b := 0) rfl (by decide) ?_)
  · simp only [f_X9_fit, ↓hbind gR_0_0, ↓hvc (fun _ => bk_v bk1), ↓hvc (fun _ => vc_0), ↓hbind (c_kb bk1 hC.1 hB _ _), e0, show bI false = 0 from rfl, ↓hbind e, ↓thr_er]
  · have n1 : f_X10_fit_J24 168 x y 168 (mem (tz ν)) = some (0, mem (bP (tz ν) 1)) := by
      simp only [f_X10_fit_J24, f_X10_fit_J29, ↓hvc (fun _ => vc_168), ↓hbind (m_bP (show (1 : Int32) ≠ 0 by decide)), z_1, ↓reduceIte]
    have s1 : f_X10_fit 168 x y (mem ν) = if bI (pb (KN (aB A) 0 x)) = 0 then f_X10_fit_J24 168 x y 168 (mem (tz ν)) else if bI (pb (KN (aB A) 1 y)) = 0 then f_X10_fit_J24 168 x y 168 (mem (tz ν)) else f_X10_fit_J29 168 x y 168 0 (mem (tz ν)) := by
      simp only [f_X10_fit, ↓hbind pI_t0, ↓hvc (fun _ => vc_168), ↓hbind (m_isOne hν.t.1 hB _ _)]
    rw [s1]
    by_cases z : KN (aB A) 0 x
    · rw [if_neg (by rw [bI_0, pb_1 z]; simp), if_pos (by rw [bI_0]; exact pb_f (fun y => c ⟨z, y⟩))]; exact n1
    · rw [if_pos (by rw [bI_0]; exact pb_f z)]; exact n1
theorem op_fit (hT : TF T) (hA : AOK A) (hC : RC T μ A) (hM : RM μ A) (x y : Int32) : OKc T μ (LB wc_L_fit (f_X9_fit 0 x y) (f_X10_fit 168 x y)) := by
  by_cases c : KN (aB A) 0 x ∧ KN (aB A) 1 y
  · obtain ⟨c, d⟩ := c
    obtain ⟨w, w1, w2, rfl⟩ := c.w hA.1
    obtain ⟨t, t1, t2, rfl⟩ := d.t hA.1
    exact op_fit_k hT hA hC hM w2 t2 c d
  · exact op_fit_p hT hA hC hM c
/-- fitMany's loops -/
theorem c_fm_in (ks : KSt μ B M) (hB : BOK B) (hb1 : BC μ 1 B) {x : Int32} {w : Nat} (hw : w < 12) (K : Nat → Int32 → Int32 → Int32 → xH → Option ((Int32 ⊕ String) × xH)) : ∀ (k j : Nat) (s : Int32) (f : Nat), j + k = bm B → f_X9_fitMany_L64 K (k + 1 + f) 0 x s (Int32.ofNat w) (Int32.ofNat j) (mem μ) = K 0 x (fmR B x w k j s) (Int32.ofNat w) (mem μ)
  | 0, j, s, f, h => by
    have e0 : μ.1 1 1 = Int32.ofNat (bm B) := hb1.1.2.1
    have hm := hB.m
    have c : (Int32.ofNat j ≥ Int32.ofNat (bm B)) = True := by rw [oN_ge (by omega) (by omega)]; exact eq_true (by omega)
    rw [show 0 + 1 + f = f + 1 by omega]
    simp only [f_X9_fitMany_L64, ↓hbind gR_0_0, ↓hbind (bk_i1 bk1), e0, c, ↓reduceIte, fmR]
  | k + 1, j, s, f, h => by
    have e0 : μ.1 1 1 = Int32.ofNat (bm B) := hb1.1.2.1
    have hm := hB.m
    have c : (Int32.ofNat j ≥ Int32.ofNat (bm B)) = False := by rw [oN_ge (by omega) (by omega)]; exact eq_false (by omega)
    have ek := c_kindOf ks hB hb1 hw (show j < 12 by omega)
    have ih := c_fm_in ks hB hb1 (x := x) hw K k (j + 1) (if kv B w j = x then s + 1 else s) f (by omega)
    rw [show k + 1 + 1 + f = (k + 1 + f) + 1 by omega, fmR, ← ih]
    by_cases g : kv B w j = x
    · rw [if_pos g]
      simp only [f_X9_fitMany_L64, f_X9_fitMany_J90, ↓hbind gR_0_0, ↓hbind (bk_i1 bk1), e0, c, ↓reduceIte, ↓hvc (fun _ => vc_0), ↓hbind ek, if_pos g, lt, i_succ]
    · rw [if_neg g]
      simp only [f_X9_fitMany_L64, f_X9_fitMany_J90, ↓hbind gR_0_0, ↓hbind (bk_i1 bk1), e0, c, ↓reduceIte, ↓hvc (fun _ => vc_0), ↓hbind ek, if_neg g, lt, i_succ]
theorem c_fm_out (ks : KSt μ B M) (hB : BOK B) (hb1 : BC μ 1 B) {x : Int32} (K : Int32 → xH → Option ((Int32 ⊕ String) × xH)) : ∀ (k i : Nat) (s : Int32) (f : Nat), i + k = bn B → f_X9_fitMany_L50 K (k + 1 + f) 0 x s (Int32.ofNat i) (mem μ) = K (fmQ B x k i s) (mem μ)
  | 0, i, s, f, h => by
    have e0 : μ.1 1 0 = Int32.ofNat (bn B) := hb1.1.1
    have hn := hB.n
    have c : (Int32.ofNat i ≥ Int32.ofNat (bn B)) = True := by rw [oN_ge (by omega) (by omega)]; exact eq_true (by omega)
    rw [show 0 + 1 + f = f + 1 by omega]
    simp only [f_X9_fitMany_L50, ↓hbind gR_0_0, ↓hbind (bk_i0 bk1), e0, c, ↓reduceIte, fmQ]
  | k + 1, i, s, f, h => by
    have e0 : μ.1 1 0 = Int32.ofNat (bn B) := hb1.1.1
    have hn := hB.n
    have hm := hB.m
    have c : (Int32.ofNat i ≥ Int32.ofNat (bn B)) = False := by rw [oN_ge (by omega) (by omega)]; exact eq_false (by omega)
    have ih := c_fm_out ks hB hb1 (x := x) K k (i + 1) (fmR B x i (bm B) 0 s) f (by omega)
    have ei := c_fm_in ks hB hb1 (x := x) (show i < 12 by omega) (f_X9_fitMany_J96 (f_X9_fitMany_L50 K (k + 1 + f)) K) (bm B) 0 s (5000 - (bm B + 1)) (by omega)
    rw [show bm B + 1 + (5000 - (bm B + 1)) = 5000 by omega] at ei
    have ei : f_X9_fitMany_L64 (f_X9_fitMany_J96 (f_X9_fitMany_L50 K (k + 1 + f)) K) 5000 0 x s (Int32.ofNat i) 0 (mem μ) = _ := ei
    rw [show k + 1 + 1 + f = (k + 1 + f) + 1 by omega, fmQ, ← ih]
    simp only [f_X9_fitMany_L50, ↓hbind gR_0_0, ↓hbind (bk_i0 bk1), e0, c, ↓reduceIte, ei, f_X9_fitMany_J96, lt, i_succ]
theorem m_fm_in (hB : BOK B) {x : Int32} {w : Nat} (hw : w < 12) : ∀ (k j : Nat) (s : Int32) (ν : MM), j + k = bm B → MR ν 0 B → ∃ ξ, (∀ f K, f_X10_fitMany_L49 K (k + 1 + f) 168 x s (Int32.ofNat w) (Int32.ofNat j) (mem ν) = K 168 x (fmR B x w k j s) (Int32.ofNat w) (mem ξ)) ∧ Fr FRk ν ξ ∧ MR ξ 0 B
  | 0, j, s, ν, h, hm => by
    have e0 : ν.1 172 1 = Int32.ofNat (bm B) := hm.1.2.1
    have hm' := hB.m
    have c : (Int32.ofNat j ≥ Int32.ofNat (bm B)) = True := by rw [oN_ge (by omega) (by omega)]; exact eq_true (by omega)
    refine ⟨ν, fun f K => ?_, Fr.refl _ _, hm⟩
    rw [show 0 + 1 + f = f + 1 by omega]
    simp only [f_X10_fitMany_L49, ↓hbind gR_168_9, ↓hbind mr_h0, ↓hbind mh_a0_1, e0, c, ↓reduceIte, fmR]
  | k + 1, j, s, ν, h, hm => by
    have e0 : ν.1 172 1 = Int32.ofNat (bm B) := hm.1.2.1
    have hm' := hB.m
    have c : (Int32.ofNat j ≥ Int32.ofNat (bm B)) = False := by rw [oN_ge (by omega) (by omega)]; exact eq_false (by omega)
    obtain ⟨ζ, ek, f1, m1⟩ := m_fitOf hm hB hw (show j < 12 by omega)
    obtain ⟨ξ, ih, f2, m2⟩ := m_fm_in hB (x := x) hw k (j + 1) (if kv B w j = x then s + 1 else s) ζ (by omega) m1
    refine ⟨ξ, fun f K => ?_, f1.trans f2, m2⟩
    rw [show k + 1 + 1 + f = (k + 1 + f) + 1 by omega, fmR, ← ih f K]
    by_cases g : kv B w j = x
    · rw [if_pos g]
      simp only [f_X10_fitMany_L49, f_X10_fitMany_J79, ↓hbind gR_168_9, ↓hbind mr_h0, ↓hbind mh_a0_1, e0, c, ↓reduceIte, ↓hvc (fun _ => vc_168), ↓hbind ek, if_pos g, lt, i_succ]
    · rw [if_neg g]
      simp only [f_X10_fitMany_L49, f_X10_fitMany_J79, ↓hbind gR_168_9, ↓hbind mr_h0, ↓hbind mh_a0_1, e0, c, ↓reduceIte, ↓hvc (fun _ => vc_168), ↓hbind ek, if_neg g, lt, i_succ, add_0']
theorem m_fm_out (hB : BOK B) {x : Int32} (K : Int32 → xH → Option (Int32 × xH)) : ∀ (k i : Nat) (s : Int32) (ν : MM), i + k = bn B → MR ν 0 B → ∃ ξ, (∀ f, f_X10_fitMany_L34 K (k + 1 + f) 168 x s (Int32.ofNat i) (mem ν) = K (fmQ B x k i s) (mem ξ)) ∧ Fr FRk ν ξ ∧ MR ξ 0 B
  | 0, i, s, ν, h, hm => by
    have e0 : ν.1 172 0 = Int32.ofNat (bn B) := hm.1.1
    have hn := hB.n
    have c : (Int32.ofNat i ≥ Int32.ofNat (bn B)) = True := by rw [oN_ge (by omega) (by omega)]; exact eq_true (by omega)
    refine ⟨ν, fun f => ?_, Fr.refl _ _, hm⟩
    rw [show 0 + 1 + f = f + 1 by omega]
    simp only [f_X10_fitMany_L34, ↓hbind gR_168_9, ↓hbind mr_h0, ↓hbind mh_a0_0, e0, c, ↓reduceIte, fmQ]
  | k + 1, i, s, ν, h, hm => by
    have e0 : ν.1 172 0 = Int32.ofNat (bn B) := hm.1.1
    have hn := hB.n
    have hm' := hB.m
    have c : (Int32.ofNat i ≥ Int32.ofNat (bn B)) = False := by rw [oN_ge (by omega) (by omega)]; exact eq_false (by omega)
    obtain ⟨ζ, hz, f1, m1⟩ := m_fm_in hB (x := x) (show i < 12 by omega) (bm B) 0 s ν (by omega) hm
    have hz := hz (5000 - (bm B + 1))
    rw [show bm B + 1 + (5000 - (bm B + 1)) = 5000 by omega] at hz
    have hz : ∀ K', f_X10_fitMany_L49 K' 5000 168 x s (Int32.ofNat i) 0 (mem ν) = K' 168 x (fmR B x i (bm B) 0 s) (Int32.ofNat i) (mem ζ) := hz
    obtain ⟨ξ, ih, f2, m2⟩ := m_fm_out hB (x := x) K k (i + 1) (fmR B x i (bm B) 0 s) ζ (by omega) m1
    refine ⟨ξ, fun f => ?_, f1.trans f2, m2⟩
    rw [show k + 1 + 1 + f = (k + 1 + f) + 1 by omega, fmQ, ← ih f]
    simp only [f_X10_fitMany_L34, ↓hbind gR_168_9, ↓hbind mr_h0, ↓hbind mh_a0_0, e0, c, ↓reduceIte, hz, f_X10_fitMany_J87, lt, i_succ]
theorem in13 {x : Int32} (h : 1 ≤ x ∧ x ≤ 3) : ¬ x < 1 ∧ ¬ x > 3 := ⟨Int32.not_lt.mpr h.1, Int32.not_lt.mpr h.2⟩
theorem op_fitMany (hT : TF T) (hA : AOK A) (hC : RC T μ A) (hM : RM μ A) (x : Int32) : OKc T μ (LB wc_L_fitMany (f_X9_fitMany 0 x) (f_X10_fitMany 168 x)) := by
  have hB := hA.1
  have hn := hB.n
  by_cases c : 1 ≤ x ∧ x ≤ 3
  · obtain ⟨c1, c2⟩ := in13 c
    obtain ⟨ν, ξ, ζ, N, M', e1, e2, e3, fq, ks, hb1⟩ := c_prep hC hA
    have eo := c_fm_out ks hB hb1 (x := x) f_X9_fitMany_J102 (bn (aB A)) 0 0 (5000 - (bn (aB A) + 1)) (by omega)
    rw [show bn (aB A) + 1 + (5000 - (bn (aB A) + 1)) = 5000 by omega] at eo
    have eo : f_X9_fitMany_L50 f_X9_fitMany_J102 5000 0 x 0 0 (mem ζ) = _ := eo
    refine LB_ok hT hM (SV.uq (A := A) (v := fmQ (aB A) x (bn (aB A)) 0 0)) (CX_V hT hC hA (ν := ζ) ?_ fq) (fun ν hν => ?_)
    · simp only [f_X9_fitMany, if_neg c1, if_neg c2, f_X9_fitMany_J16, ↓hvc (fun _ => vc_0), ↓hbind c_da1, ↓thr_ok, ↓hbind e1, ↓hbind gR_0_5, ↓hbind gR_0_4, ↓hvc (fun _ => vc_149), ↓hbind e2, ↓hbind e3, eo, f_X9_fitMany_J102]
    · obtain ⟨ω, e4, f4, m4⟩ := m_fm_out hB (x := x) f_X10_fitMany_J93 (bn (aB A)) 0 0 (tz ν) (by omega) hν.t.1
      have e4 := e4 (5000 - (bn (aB A) + 1))
      rw [show bn (aB A) + 1 + (5000 - (bn (aB A) + 1)) = 5000 by omega] at e4
      have e4 : f_X10_fitMany_L34 f_X10_fitMany_J93 5000 168 x 0 0 (mem (tz ν)) = _ := e4
      have ein : f_X10_in x 1 3 (mem (tz ν)) = some (1, mem (tz ν)) := by rw [m_in, decide_eq_true c]; rfl
      refine MX_V2 hν ?_ f4 m4
      simp only [f_X10_fitMany, ↓hbind pI_t0, ↓hbind ein, z_1, ↓reduceIte, f_X10_fitMany_J20, ↓hvc (fun _ => vc_168), ↓hbind m_b0t, e4, f_X10_fitMany_J93]
  · refine LB_ok hT hM (SA.uq (A := A)) (CX_A hT hC hA fun ν e => ?_) (fun ν hν => MX_A hν (w := 1) (b := 0) rfl (by decide) ?_)
    · have n3 : f_X9_fitMany_J15 0 x 0 (mem μ) = some (.inr IAE, mem ν) := by
        simp only [f_X9_fitMany_J15, f_X9_fitMany_J16, ↓hvc (fun _ => vc_0), ↓hbind e, ↓thr_er]
      unfold f_X9_fitMany
      by_cases n1 : x < 1
      · rw [if_pos n1]; exact n3
      · rw [if_neg n1]
        by_cases n2 : x > 3
        · rw [if_pos n2]; exact n3
        · exact absurd ⟨Int32.not_lt.mp n1, Int32.not_lt.mp n2⟩ c
    · have ein : f_X10_in x 1 3 (mem (tz ν)) = some (0, mem (tz ν)) := by rw [m_in, decide_eq_false c]; rfl
      simp only [f_X10_fitMany, ↓hbind pI_t0, ↓hbind ein, ↓reduceIte, f_X10_fitMany_J20, ↓hvc (fun _ => vc_168), ↓hbind (m_bA (show (1 : Int32) ≠ 0 by decide)), z_1]
end O19
