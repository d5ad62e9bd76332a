/-! OPERATIONS: wayFrom -/
section O9
variable {T : MM → Bk → Prop} {μ : MM} {A : AS}
/-- what wayFrom answers -/
def wfr (r : Int32) (y : Int32) : Int32 := if y = 1 then r else if r ≤ 0 then 0 else 1
theorem m_wayFrom_k (hA : AOK A) (hM : RM μ A) {w : Nat} (w2 : w < 12) (c : KN (aB A) 0 (Int32.ofNat w)) {y r : Int32} (d : y = 0 ∨ y = 1) {wc : String → Option Int32}
    (q : (r = 0 ∧ (bM (aB A) w = 12 → Nr (gE (aB A)) (bM (aB A)) w)) ∨ ∃ L pw pt, Tw (gE (aB A)) (bM (aB A)) L pw pt ∧ pw 0 = w ∧ r = Int32.ofNat (2 * L)) : MX μ (f_X10_wayFrom 168 (Int32.ofNat w) y (mem μ)) wc (SV A (wfr r y)) := by
  have hB := hA.1
  obtain ⟨ν, K, e1, f1, h2, h3, hK⟩ := m_laysFar (hM.t.1.MS hB) hB.SOK
  have hS := (hM.t.1.MS hB).fl f1
  have hfr := m_isFree0 hS w2
  have t1 : ν.1 168 0 = 0 := by rw [(f1 _ _ (by unfold Fl; omega)).1]; exact t0_0
  have vw := h2 w w2
  have kw := h3 w w2
  refine MX_V hM (ν := ν) ?_ (t0_Q.trans (f1.mono fun _ _ z => z.Q)) t1
  have s1 : f_X10_wayFrom 168 (Int32.ofNat w) y (mem μ) = f_X10_wayFrom_J43 168 (Int32.ofNat w) y 168 0 (mem (tz μ)) := by
    simp only [f_X10_wayFrom, f_X10_wayFrom_J20, ↓hbind pI_t0, ↓hvc (fun _ => vc_168), ↓hbind (m_isOne hM.t.1 hB _ _), pb_1 c, bI_0, Bool.true_eq_false, ↓reduceIte, ↓hbind m_b0t, ↓hbind (m_in01 d), z_1]
  rw [s1]
  have no : f_X10_isFree 168 0 (Int32.ofNat w) (mem ν) = some (0, mem ν) → f_X10_wayFrom_J43 168 (Int32.ofNat w) y 168 0 (mem (tz μ)) = some (0, mem ν) := fun e => by
    simp only [f_X10_wayFrom_J43, f_X10_wayFrom_J81, f_X10_wayFrom_J82, f_X10_wayFrom_J107, ↓hvc (fun _ => vc_168), ↓hbind m_b0t, ↓reduceIte, ↓hbind e1, ↓hbind e]
  rcases q with ⟨rfl, q⟩ | ⟨L, pw, pt, q, rfl, rfl⟩
  · have e0 : wfr 0 y = 0 := by
      unfold wfr
      split
      · rfl
      · exact if_pos (by decide)
    rw [e0]
    by_cases m : bM (aB A) w = 12
    · cases th : hb (bw (aB A)) w with
      | false =>
        rw [th] at hfr
        exact no hfr
      | true =>
        have hfr : f_X10_isFree 168 0 (Int32.ofNat w) (mem ν) = some (1, mem ν) := by rw [hfr, th, decide_eq_true m]; rfl
        have k0 : K w = 0 := Classical.byContradiction fun z => q m _ ((hK w w2).2 z).1
        rw [k0, fK_0] at vw
        have c9 : (Int32.ofNat 1000000 ≥ 1000000) = True := eq_true (by decide)
        simp only [f_X10_wayFrom_J43, f_X10_wayFrom_J81, f_X10_wayFrom_J82, f_X10_wayFrom_J107, ↓hvc (fun _ => vc_168), ↓hbind m_b0t, ↓reduceIte, ↓hbind e1, ↓hbind hfr, z_1, ↓hbind gR_168_17, ↓hbind (aI_482 w2), vw, c9]
    · rw [decide_eq_false m, Bool.and_false] at hfr
      exact no hfr
  · have hL := q.len hB.Eb
    have hL0 := q.1
    obtain ⟨r1, r2, q3, -⟩ := q.2.2.2 0 hL0
    have m : bM (aB A) (pw 0) = 12 := q.2.1
    have th : hb (bw (aB A)) (pw 0) = true := gE_W _ _ q3
    have hfr : f_X10_isFree 168 0 (Int32.ofNat (pw 0)) (mem ν) = some (1, mem ν) := by rw [hfr, th, decide_eq_true m]; rfl
    have k0 : K (pw 0) ≠ 0 := fun z => (hK _ w2).1 z _ r1
    obtain ⟨g1, g2⟩ := (hK _ w2).2 k0
    have kL : K (pw 0) = L := by
      apply Nat.le_antisymm
      · apply Nat.le_of_not_lt; intro z; exact g2 (rch_le (by omega) r1)
      · apply Nat.le_of_not_lt; intro z; exact r2 (rch_le (by omega) g1)
    rw [kL, fK_s (by omega)] at vw
    have c9 : ¬ Int32.ofNat (2 * L - 1) ≥ 1000000 := by rw [lge_1000000 (by omega)]; omega
    have s2 : f_X10_wayFrom_J43 168 (Int32.ofNat (pw 0)) y 168 0 (mem (tz μ)) = f_X10_wayFrom_J82 168 (Int32.ofNat (pw 0)) y 1 (mem ν) := by
      simp only [f_X10_wayFrom_J43, ↓hvc (fun _ => vc_168), ↓hbind m_b0t, ↓reduceIte, ↓hbind e1, ↓hbind hfr, z_1, ↓hbind gR_168_17, ↓hbind (aI_482 w2), vw, c9]
    rw [s2]
    have np : ¬ Int32.ofNat (2 * L) ≤ 0 := by rw [lle_0 (by omega)]; omega
    rcases d with rfl | rfl
    · have e0 : wfr (Int32.ofNat (2 * L)) 0 = 1 := by unfold wfr; rw [if_neg (by decide), if_neg np]
      rw [e0]
      simp only [f_X10_wayFrom_J82, f_X10_wayFrom_J107, z_1, ↓reduceIte]
    · have e0 : wfr (Int32.ofNat (2 * L)) 1 = Int32.ofNat (2 * L) := if_pos rfl
      have e9 : Int32.ofNat (2 * L - 1) + 1 = Int32.ofNat (2 * L) := by rw [i_succ, show 2 * L - 1 + 1 = 2 * L by omega]
      rw [e0]
      simp only [f_X10_wayFrom_J82, f_X10_wayFrom_J107, z_1, ↓reduceIte, ↓hbind gR_168_17, ↓hbind (aI_482 w2), vw, e9]
def k4 (w y : Int32) (h4 : xH) : Option ((Int32 ⊕ String) × xH) := (gR h4 9 0 4).bind fun v5 => (vc h4 7 v5 (f_X7_find v5 w h4)).bind fun r6 => if y = 1 then f_X9_wayFrom_J69 r6.1 r6.2 else if r6.1 ≤ 0 then f_X9_wayFrom_J69 0 r6.2 else f_X9_wayFrom_J69 1 r6.2
def k1 (w y : Int32) (h1 : xH) : Option ((Int32 ⊕ String) × xH) := (gR h1 9 0 4).bind fun v2 => (gR h1 9 0 0).bind fun v3 => (vc h1 7 v2 (f_X7_load v2 v3 h1)).bind fun h4 => k4 w y h4
theorem c_wf_0 {w y : Int32} : f_X9_wayFrom_J28 0 w y 0 1 (mem μ) = (vc (mem μ) 9 0 (f_X9_demand 0 1 (mem μ))).bind fun r => thr r fun h1 => k1 w y h1 := rfl
theorem c_wf_1 {w y : Int32} : ((vc (mem μ) 9 0 (f_X9_demand 0 1 (mem μ))).bind fun r => thr r fun h1 => k1 w y h1) = k1 w y (mem μ) := by rw [vc_0, c_da1]; rfl
theorem c_wf_2 {w y : Int32} {ν : MM} (e1 : f_X7_load 141 1 (mem μ) = some (mem ν)) : k1 w y (mem μ) = k4 w y (mem ν) := by
  unfold k1
  rw [hbind gR_0_4, hbind gR_0_0, vc_141, hbind e1]
theorem c_wf_3 {w y : Int32} {ν : MM} : k4 w y (mem ν) = (f_X7_find 141 w (mem ν)).bind fun r6 => if y = 1 then f_X9_wayFrom_J69 r6.1 r6.2 else if r6.1 ≤ 0 then f_X9_wayFrom_J69 0 r6.2 else f_X9_wayFrom_J69 1 r6.2 := by
  unfold k4
  rw [hbind gR_0_4, vc_141]
theorem c_wayFrom_25 {w : Nat} {y : Int32} {ν : MM} (e1 : f_X7_load 141 1 (mem μ) = some (mem ν)) : f_X9_wayFrom_J28 0 (Int32.ofNat w) y 0 1 (mem μ) = (f_X7_find 141 (Int32.ofNat w) (mem ν)).bind fun r6 => if y = 1 then f_X9_wayFrom_J69 r6.1 r6.2 else if r6.1 ≤ 0 then f_X9_wayFrom_J69 0 r6.2 else f_X9_wayFrom_J69 1 r6.2 := c_wf_0.trans (c_wf_1.trans ((c_wf_2 e1).trans c_wf_3))
theorem c_wayFrom_26 {w : Nat} {y r : Int32} {ν ξ : MM} (e2 : f_X7_find 141 (Int32.ofNat w) (mem ν) = some (r, mem ξ)) : ((f_X7_find 141 (Int32.ofNat w) (mem ν)).bind fun r6 => if y = 1 then f_X9_wayFrom_J69 r6.1 r6.2 else if r6.1 ≤ 0 then f_X9_wayFrom_J69 0 r6.2 else f_X9_wayFrom_J69 1 r6.2) = if y = 1 then f_X9_wayFrom_J69 r (mem ξ) else if r ≤ 0 then f_X9_wayFrom_J69 0 (mem ξ) else f_X9_wayFrom_J69 1 (mem ξ) := by
  rw [hbind e2]
theorem c_wayFrom_27 {w : Nat} {y r : Int32} {ν ξ : MM} (e1 : f_X7_load 141 1 (mem μ) = some (mem ν)) (e2 : f_X7_find 141 (Int32.ofNat w) (mem ν) = some (r, mem ξ)) : f_X9_wayFrom_J28 0 (Int32.ofNat w) y 0 1 (mem μ) = if y = 1 then f_X9_wayFrom_J69 r (mem ξ) else if r ≤ 0 then f_X9_wayFrom_J69 0 (mem ξ) else f_X9_wayFrom_J69 1 (mem ξ) := (c_wayFrom_25 e1).trans (c_wayFrom_26 e2)
theorem c_wayFrom_28 {w : Nat} {y r : Int32} {ν ξ : MM} (e1 : f_X7_load 141 1 (mem μ) = some (mem ν)) (e2 : f_X7_find 141 (Int32.ofNat w) (mem ν) = some (r, mem ξ)) : f_X9_wayFrom_J28 0 (Int32.ofNat w) y 0 1 (mem μ) = some (.inl (wfr r y), mem ξ) := by
  rw [c_wayFrom_27 e1 e2]
  unfold f_X9_wayFrom_J69 wfr
  by_cases y1 : y = 1
  · rw [if_pos y1, if_pos y1]
  · rw [if_neg y1, if_neg y1]
    by_cases r0 : r ≤ 0
    · rw [if_pos r0, if_pos r0]
    · rw [if_neg r0, if_neg r0]
theorem c_wayFrom_a (hA : AOK A) (hC : RC T μ A) {w : Nat} (c : KN (aB A) 0 (Int32.ofNat w)) {y : Int32} (d : y = 0 ∨ y = 1) : f_X9_wayFrom 0 (Int32.ofNat w) y (mem μ) = f_X9_wayFrom_J28 0 (Int32.ofNat w) y 0 1 (mem μ) := by
  have hB := hA.1
  have ek : f_X0_knows 1 0 (Int32.ofNat w) (mem μ) = some (1, mem μ) := by rw [c_kn bk1 hC.1 hB, pb_1 c]; rfl
  have s1 : f_X9_wayFrom 0 (Int32.ofNat w) y (mem μ) = if y = 0 then f_X9_wayFrom_J23 0 (Int32.ofNat w) y 0 (mem μ) else if y = 1 then f_X9_wayFrom_J23 0 (Int32.ofNat w) y 0 (mem μ) else f_X9_wayFrom_J28 0 (Int32.ofNat w) y 0 0 (mem μ) := by
    simp only [f_X9_wayFrom, ↓hbind gR_0_0, ↓hvc (fun _ => bk_v bk1), ↓hvc (fun _ => vc_0), ↓hbind ek, ↓hbind c_dp1, thr]
  rw [s1]
  rcases d with rfl | rfl
  · rw [if_pos rfl, f_X9_wayFrom_J23]
  · rw [if_neg (by decide), if_pos rfl, f_X9_wayFrom_J23]
theorem c_wayFrom_k (hA : AOK A) (hC : RC T μ A) {w : Nat} (w2 : w < 12) (c : KN (aB A) 0 (Int32.ofNat w)) {y : Int32} (d : y = 0 ∨ y = 1) : ∃ r ξ, f_X9_wayFrom 0 (Int32.ofNat w) y (mem μ) = some (.inl (wfr r y), mem ξ) ∧ Fr CQ μ ξ ∧ ((r = 0 ∧ (bM (aB A) w = 12 → Nr (gE (aB A)) (bM (aB A)) w)) ∨ ∃ L pw pt, Tw (gE (aB A)) (bM (aB A)) L pw pt ∧ pw 0 = w ∧ r = Int32.ofNat (2 * L)) := by
  obtain ⟨ν, e1, f1, s1, o1⟩ := c_loaded hC hA
  obtain ⟨r, ξ, e2, f2, q⟩ := c_find s1 o1 w2
  have fq : Fr CQ μ ξ := (f1.mono fun _ _ z => z.Q).trans (f2.mono fun _ _ z => z.Q)
  exact ⟨r, ξ, (c_wayFrom_a hA hC c d).trans (c_wayFrom_28 e1 e2), fq, q.imp id fun ⟨L, pw, pt, a, b, c, _⟩ => ⟨L, pw, pt, a, b, c⟩⟩
theorem op_wayFrom_a (hT : TF T) (hA : AOK A) (hC : RC T μ A) (hM : RM μ A) {w : Nat} (c : KN (aB A) 0 (Int32.ofNat w)) {y : Int32} (d : ¬ (y = 0 ∨ y = 1)) : OKc T μ (LB wc_L_wayFrom (f_X9_wayFrom 0 (Int32.ofNat w) y) (f_X10_wayFrom 168 (Int32.ofNat w) y)) := by
  have hB := hA.1
  have d1 : ¬ y = 0 := fun z => d (Or.inl z)
  have d2 : ¬ y = 1 := fun z => d (Or.inr z)
  refine LB_ok hT hM (SA.uq (A := A)) (CX_A hT hC hA fun ν e1 => ?_) (fun ν hν => MX_A hν (w := 2) (b := 0) rfl (by decide) ?_)
  · simp only [f_X9_wayFrom, f_X9_wayFrom_J28, ↓hbind gR_0_0, ↓hvc (fun _ => bk_v bk1), ↓hvc (fun _ => vc_0), ↓hbind (c_kn bk1 hC.1 hB _ _), pb_1 c, show bI true = 1 from rfl, ↓hbind c_dp1, thr, if_neg d1, if_neg d2, ↓hbind e1]
  · simp only [f_X10_wayFrom, f_X10_wayFrom_J20, f_X10_wayFrom_J43, f_X10_wayFrom_J51, ↓hbind pI_t0, ↓hvc (fun _ => vc_168), ↓hbind (m_isOne hν.t.1 hB _ _), pb_1 c, bI_0, Bool.true_eq_false, ↓reduceIte, ↓hbind m_b0t, ↓hbind (m_out01 d), ↓hbind (m_bA (show (2 : Int32) ≠ 0 by decide)), z_1]
theorem op_wayFrom_p (hT : TF T) (hA : AOK A) (hC : RC T μ A) (hM : RM μ A) {x y : Int32} (c : ¬ KN (aB A) 0 x) : OKc T μ (LB wc_L_wayFrom (f_X9_wayFrom 0 x y) (f_X10_wayFrom 168 x y)) := by
  have hB := hA.1
  refine LB_ok hT hM (SP.uq (A := A)) (CX_P hT hC hA fun ν e => ?_) (fun ν hν => MX_P hν (w := 1) (b := 0) rfl (by decide) ?_)
  · simp only [f_X9_wayFrom, ↓hbind gR_0_0, ↓hvc (fun _ => bk_v bk1), ↓hvc (fun _ => vc_0), ↓hbind (c_kn bk1 hC.1 hB _ _), pb_f c, show bI false = 0 from rfl, ↓hbind e, thr]
  · simp only [f_X10_wayFrom, f_X10_wayFrom_J20, f_X10_wayFrom_J51, ↓hbind pI_t0, ↓hvc (fun _ => vc_168), ↓hbind (m_isOne hν.t.1 hB _ _), pb_f c, bI_0, ↓reduceIte, ↓hbind (m_bP (show (1 : Int32) ≠ 0 by decide)), z_1]
theorem op_wayFrom (hT : TF T) (hA : AOK A) (hC : RC T μ A) (hM : RM μ A) (x y : Int32) : OKc T μ (LB wc_L_wayFrom (f_X9_wayFrom 0 x y) (f_X10_wayFrom 168 x y)) := by
  by_cases c : KN (aB A) 0 x
  · obtain ⟨w, w1, w2, rfl⟩ := c.w hA.1
    by_cases d : y = 0 ∨ y = 1
    · obtain ⟨r, ξ, e, f, q⟩ := c_wayFrom_k hA hC w2 c d
      exact LB_ok hT hM (SV.uq (A := A) (v := wfr r y)) (CX_V hT hC hA e f) (fun ν hν => m_wayFrom_k hA hν w2 c d q)
    · exact op_wayFrom_a hT hA hC hM c d
  · exact op_wayFrom_p hT hA hC hM c
end O9
