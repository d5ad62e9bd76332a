/-! THE MODEL: all rounds; OPERATIONS: rounds round -/
section Mr
variable {μ : MM} {B : Bk}
theorem MR.rd {ν : MM} (h : MR μ 0 B) (f : Fr FRd μ ν) : MR ν 0 B := h.fr f fun q i a z => by unfold FR at a; unfold FRd at z; omega
/-- none so far -/
def Zr (i j : Nat) (ν : MM) : Prop := ∀ w t, (w < i ∨ (w = i ∧ t < j)) → w < 12 → t < 12 → ν.1 (488 + w) t = -1
theorem m_z_t {i : Nat} (hi : i < 12) : ∀ (d j : Nat) (ν : MM), j + d = 12 → Zr i j ν → ∃ ξ, (∀ f K x1, f_X10_laysRounds_L12 K (d + 1 + f) 168 x1 (Int32.ofNat i) (Int32.ofNat j) (mem ν) = K 168 x1 (Int32.ofNat i) (mem ξ)) ∧ Fr FRd ν ξ ∧ Zr i 12 ξ
  | 0, j, ν, h, hz => by
    have c : (Int32.ofNat j ≥ 12) = True := by rw [lge_12 (by omega)]; exact eq_true (by omega)
    refine ⟨ν, fun f K x1 => ?_, Fr.refl _ _, by rw [show 12 = j by omega]; exact hz⟩
    rw [show 0 + 1 + f = f + 1 by omega]
    simp only [f_X10_laysRounds_L12, c, ↓reduceIte]
  | d + 1, j, ν, h, hz => by
    have c : (Int32.ofNat j ≥ 12) = False := by rw [lge_12 (by omega)]; exact eq_false (by omega)
    have hj : j < 12 := by omega
    obtain ⟨ν1, hd⟩ : ∃ x, x = st ν (488 + i) j (-1) := ⟨_, rfl⟩
    have f1 : Fr FRd ν ν1 := by rw [hd]; exact (Fr.refl _ _).st (by unfold FRd; omega)
    obtain ⟨ξ, e, f2, z2⟩ := m_z_t hi d (j + 1) ν1 (by omega) (fun w t q hw ht => by
      rw [hd]
      by_cases y : w = i ∧ t = j
      · rw [y.1, y.2, st_same]
      · by_cases x : w = i
        · rw [x, st_ne (Or.inr (by omega))]; exact hz i t (by omega) hi ht
        · rw [st_ne (Or.inl (by omega))]; exact hz w t (by omega) hw ht)
    refine ⟨ξ, fun f K x1 => ?_, f1.trans f2, z2⟩
    rw [show d + 1 + 1 + f = d + 1 + f + 1 by omega, ← e f K x1, hd]
    simp only [f_X10_laysRounds_L12, c, ↓reduceIte, ↓hbind gR_168_32, ↓hbind (mr_rd hi), ↓hbind (ms_rd hi hj), lt_go, i_succ]
theorem m_z_w : ∀ (d i : Nat) (ν : MM), i + d = 12 → Zr i 0 ν → ∃ ξ, (∀ f K x1, f_X10_laysRounds_L4 K (d + 1 + f) 168 x1 (Int32.ofNat i) (mem ν) = K 168 x1 (mem ξ)) ∧ Fr FRd ν ξ ∧ Zr 12 0 ξ
  | 0, i, ν, h, hz => by
    have c : (Int32.ofNat i ≥ 12) = True := by rw [lge_12 (by omega)]; exact eq_true (by omega)
    refine ⟨ν, fun f K x1 => ?_, Fr.refl _ _, by rw [show 12 = i by omega]; exact hz⟩
    rw [show 0 + 1 + f = f + 1 by omega]
    simp only [f_X10_laysRounds_L4, c, ↓reduceIte]
  | d + 1, i, ν, h, hz => by
    have c : (Int32.ofNat i ≥ 12) = False := by rw [lge_12 (by omega)]; exact eq_false (by omega)
    obtain ⟨ζ, e1, f1, z1⟩ := m_z_t (show i < 12 by omega) 12 0 ν (by omega) hz
    have e1 : ∀ K x1, f_X10_laysRounds_L12 K 5000 168 x1 (Int32.ofNat i) 0 (mem ν) = K 168 x1 (Int32.ofNat i) (mem ζ) := fun K x1 => e1 4987 K x1
    obtain ⟨ξ, e, f2, z2⟩ := m_z_w d (i + 1) ζ (by omega) (fun w t q hw ht => z1 w t (by omega) hw ht)
    refine ⟨ξ, fun f K x1 => ?_, f1.trans f2, z2⟩
    rw [show d + 1 + 1 + f = d + 1 + f + 1 by omega, ← e f K x1]
    simp only [f_X10_laysRounds_L4, c, ↓reduceIte, e1, f_X10_laysRounds_J33, lt_go, i_succ]
theorem m_rd_t (hB : BOK B) {i : Nat} (hi : i < 12) : ∀ (d j : Nat) (ν : MM) (s : CV), j + d = bm B → MR ν 0 B → CRm ν s.1 → RIv i j s → ∃ ξ, (∀ f K x1, f_X10_laysRounds_L55 K (d + 1 + f) 168 x1 (Int32.ofNat i) (Int32.ofNat j) (mem ν) = K 168 x1 (Int32.ofNat i) (mem ξ)) ∧ Fr FRd ν ξ ∧ CRm ξ (rowR (gE B) i d j s).1
  | 0, j, ν, s, h, hm, hr, hI => by
    have hb12 := hB.m
    have e1 : ν.1 172 1 = Int32.ofNat (bm B) := hm.1.2.1
    have c : (Int32.ofNat j ≥ Int32.ofNat (bm B)) = True := by rw [oN_ge (by omega) (by omega)]; exact eq_true (by omega)
    refine ⟨ν, fun f K x1 => ?_, Fr.refl _ _, hr⟩
    rw [show 0 + 1 + f = f + 1 by omega]
    simp only [f_X10_laysRounds_L55, ↓hbind gR_168_9, ↓hbind mr_h0, ↓hbind mh_a0_1, e1, c, ↓reduceIte]
  | d + 1, j, ν, s, h, hm, hr, hI => by
    have hb12 := hB.m
    have e1 : ν.1 172 1 = Int32.ofNat (bm B) := hm.1.2.1
    have c : (Int32.ofNat j ≥ Int32.ofNat (bm B)) = False := by rw [oN_ge (by omega) (by omega)]; exact eq_false (by omega)
    have hj : j < 12 := by omega
    have ef := m_isFit hm hi (show j < 32 by omega)
    have ew := m_isThere0 (μ := ν) (show i < 32 by omega)
    have et := m_isThere1 (μ := ν) (show j < 32 by omega)
    rw [show ν.1 172 3 = bw B from hm.1.2.2.2.1] at ew
    rw [show ν.1 172 4 = bt B from hm.1.2.2.2.2] at et
    have nI := stE_I (E := gE B) hI hi hj
    show ∃ ξ, _ ∧ _ ∧ CRm ξ (rowR (gE B) i d (j + 1) (stE (gE B) i j s)).1
    have no : gE B i j = false → (∀ f K x1, f_X10_laysRounds_L55 K (d + 1 + 1 + f) 168 x1 (Int32.ofNat i) (Int32.ofNat j) (mem ν) = f_X10_laysRounds_L55 K (d + 1 + f) 168 x1 (Int32.ofNat i) (Int32.ofNat (j + 1)) (mem ν)) → ∃ ξ, (∀ f K x1, f_X10_laysRounds_L55 K (d + 1 + 1 + f) 168 x1 (Int32.ofNat i) (Int32.ofNat j) (mem ν) = K 168 x1 (Int32.ofNat i) (mem ξ)) ∧ Fr FRd ν ξ ∧ CRm ξ (rowR (gE B) i d (j + 1) (stE (gE B) i j s)).1 := fun q g => by
      have es : stE (gE B) i j s = s := by unfold stE; rw [q]; rfl
      rw [es] at nI ⊢
      obtain ⟨ξ, a, b⟩ := m_rd_t hB hi d (j + 1) ν s (by omega) hm hr nI
      exact ⟨ξ, fun f K x1 => by rw [g, a], b⟩
    cases q1 : hb (bf B i) j with
    | false =>
      rw [q1] at ef
      refine no (by unfold gE; rw [q1]; rfl) (fun f K x1 => ?_)
      rw [show d + 1 + 1 + f = d + 1 + f + 1 by omega]
      simp only [f_X10_laysRounds_L55, ↓hbind gR_168_9, ↓hbind mr_h0, ↓hbind mh_a0_1, e1, c, ↓reduceIte, ↓hvc (fun _ => vc_168), ↓hbind ef, show bI false = 0 from rfl, f_X10_laysRounds_J132, lt_go, i_succ]
    | true =>
      rw [q1] at ef
      cases q2 : hb (bw B) i with
      | false =>
        rw [q2] at ew
        refine no (by unfold gE; rw [q1, q2]; rfl) (fun f K x1 => ?_)
        rw [show d + 1 + 1 + f = d + 1 + f + 1 by omega]
        simp only [f_X10_laysRounds_L55, ↓hbind gR_168_9, ↓hbind mr_h0, ↓hbind mh_a0_1, e1, c, ↓reduceIte, ↓hvc (fun _ => vc_168), ↓hbind ef, show bI true = 1 from rfl, z_1, ↓hbind ew, show bI false = 0 from rfl, f_X10_laysRounds_J132, lt_go, i_succ]
      | true =>
        rw [q2] at ew
        cases q3 : hb (bt B) j with
        | false =>
          rw [q3] at et
          refine no (by unfold gE; rw [q1, q2, q3]; rfl) (fun f K x1 => ?_)
          rw [show d + 1 + 1 + f = d + 1 + f + 1 by omega]
          simp only [f_X10_laysRounds_L55, ↓hbind gR_168_9, ↓hbind mr_h0, ↓hbind mh_a0_1, e1, c, ↓reduceIte, ↓hvc (fun _ => vc_168), ↓hbind ef, show bI true = 1 from rfl, z_1, ↓hbind ew, ↓hbind et, show bI false = 0 from rfl, f_X10_laysRounds_J132, lt_go, i_succ]
        | true =>
          rw [q3] at et
          have q : gE B i j = true := by unfold gE; rw [q1, q2, q3]; rfl
          have es : stE (gE B) i j s = (stepR s.1 i j, stepV s.1 s.2 i j) := by unfold stE; rw [if_pos q]
          rw [es] at nI ⊢
          obtain ⟨l1, l2, g1, g2, g3, ab⟩ := step_pre hI.1 hi hj (hI.2.2.2 i j (Or.inr ⟨rfl, Nat.le_refl j⟩))
          have e2 := m_lr (μ := ν) (s := 0) (x := Int32.ofNat i) (M := s.1 i) l1 (fun c hc => m_wr0 hI.1 hr hi hc)
          have e3 := m_lr (μ := ν) (s := 1) (x := Int32.ofNat j) (M := tc s.1 j) l2 (fun c hc => m_wr1 hI.1 hr hj hc)
          obtain ⟨ζ, e4, f4, r4⟩ := m_changes hI.1 l1 l2 hj g2 hr ab
          obtain ⟨ζ2, hd⟩ : ∃ x, x = st ζ (488 + i) j (Int32.ofNat (lf (s.1 i))) := ⟨_, rfl⟩
          have f5 : Fr FRd ν ζ2 := by rw [hd]; exact f4.st (by unfold FRd; omega)
          have r5 : CRm ζ2 (stepR s.1 i j) := by rw [hd]; exact r4.set l1
          obtain ⟨ξ, a, b, g⟩ := m_rd_t hB hi d (j + 1) ζ2 (stepR s.1 i j, stepV s.1 s.2 i j) (by omega) (hm.rd f5) r5 nI
          refine ⟨ξ, fun f K x1 => ?_, f5.trans b, g⟩
          rw [show d + 1 + 1 + f = d + 1 + f + 1 by omega, ← a f K x1, hd]
          simp only [f_X10_laysRounds_L55, ↓hbind gR_168_9, ↓hbind mr_h0, ↓hbind mh_a0_1, e1, c, ↓reduceIte, ↓hvc (fun _ => vc_168), ↓hbind ef, show bI true = 1 from rfl, z_1, ↓hbind ew, ↓hbind et, ↓hbind e2, ↓hbind e3, ↓hbind e4, ↓hbind gR_168_32, ↓hbind (mr_rd hi), ↓hbind (ms_rd hi hj), f_X10_laysRounds_J132, lt_go, i_succ]
theorem m_rd_w (hB : BOK B) : ∀ (d i : Nat) (ν : MM) (s : CV), i + d = bn B → MR ν 0 B → CRm ν s.1 → RIv i 0 s → ∃ ξ, (∀ f K x1, f_X10_laysRounds_L41 K (d + 1 + f) 168 x1 (Int32.ofNat i) (mem ν) = K 168 x1 (mem ξ)) ∧ Fr FRd ν ξ ∧ CRm ξ (allR (gE B) (bm B) d i s).1 ∧ Cp (allR (gE B) (bm B) d i s).1 ∧ mxC (allR (gE B) (bm B) d i s).1 (allR (gE B) (bm B) d i s).2 ∧ (allR (gE B) (bm B) d i s).2 ≤ 12
  | 0, i, ν, s, h, hm, hr, hI => by
    have hn := hB.n
    have e0 : ν.1 172 0 = Int32.ofNat (bn B) := hm.1.1
    have c : (Int32.ofNat i ≥ Int32.ofNat (bn B)) = True := by rw [oN_ge (by omega) (by omega)]; exact eq_true (by omega)
    refine ⟨ν, fun f K x1 => ?_, Fr.refl _ _, hr, hI.1, hI.2.2.1, hI.2.1⟩
    rw [show 0 + 1 + f = f + 1 by omega]
    simp only [f_X10_laysRounds_L41, ↓hbind gR_168_9, ↓hbind mr_h0, ↓hbind mh_a0_0, e0, c, ↓reduceIte]
  | d + 1, i, ν, s, h, hm, hr, hI => by
    have hn := hB.n
    have hb12 := hB.m
    have e0 : ν.1 172 0 = Int32.ofNat (bn B) := hm.1.1
    have c : (Int32.ofNat i ≥ Int32.ofNat (bn B)) = False := by rw [oN_ge (by omega) (by omega)]; exact eq_false (by omega)
    have hi : i < 12 := by omega
    obtain ⟨ζ, e1, f1, r1⟩ := m_rd_t hB hi (bm B) 0 ν s (by omega) hm hr hI
    have nI := rowR_I (E := gE B) hi (bm B) 0 s (by omega) hI
    have e1 : ∀ K x1, f_X10_laysRounds_L55 K 5000 168 x1 (Int32.ofNat i) 0 (mem ν) = K 168 x1 (Int32.ofNat i) (mem ζ) := fun K x1 => by
      have := e1 (5000 - (bm B + 1)) K x1
      rw [show bm B + 1 + (5000 - (bm B + 1)) = 5000 by omega] at this
      exact this
    obtain ⟨ξ, a, b, g⟩ := m_rd_w hB d (i + 1) ζ (rowR (gE B) i (bm B) 0 s) (by omega) (hm.rd f1) r1 ⟨nI.1, nI.2.1, nI.2.2.1, fun v u q => nI.2.2.2 v u (by omega)⟩
    refine ⟨ξ, fun f K x1 => ?_, f1.trans b, g⟩
    rw [show d + 1 + 1 + f = d + 1 + f + 1 by omega, ← a f K x1]
    simp only [f_X10_laysRounds_L41, ↓hbind gR_168_9, ↓hbind mr_h0, ↓hbind mh_a0_0, e0, c, ↓reduceIte, e1, f_X10_laysRounds_J138, lt_go, i_succ]
/-- the most so far -/
def Mxr (C : CC) (i j R : Nat) : Prop := ∀ w t, (w < i ∨ (w = i ∧ t < j)) → C w t < 12 → C w t + 1 ≤ R
theorem m_more2 {x y : Nat} {h : xH} (hx : x < 2147483648) (hy : y < 2147483648) : f_X10_more (Int32.ofNat x) (Int32.ofNat y) h = some (Int32.ofNat (max x y), h) := by
  have c : (Int32.ofNat x ≤ Int32.ofNat y) = (x ≤ y) := by
    have h1 : (Int32.ofNat y ≥ Int32.ofNat x) = (x ≤ y) := oN_ge hy hx
    exact h1
  by_cases z : x ≤ y
  · simp only [f_X10_more, if_pos (show Int32.ofNat x ≤ Int32.ofNat y by rw [c]; exact z), f_X10_more_J10, Nat.max_eq_right z]
  · simp only [f_X10_more, if_neg (show ¬ Int32.ofNat x ≤ Int32.ofNat y by rw [c]; exact z), f_X10_more_J10, Nat.max_eq_left (show y ≤ x by omega)]
theorem m_mx_t {C : CC} (hC : Cp C) {V : Nat} (hV : mxC C V) (h12 : V ≤ 12) {i : Nat} (hi : i < 12) (hr : CRm μ C) : ∀ (d j R : Nat), j + d = 12 → R ≤ V → Mxr C i j R → ∃ R', (∀ f K, f_X10_laysRounds_L154 K (d + 1 + f) 168 (Int32.ofNat R) (Int32.ofNat i) (Int32.ofNat j) (mem μ) = K 168 (Int32.ofNat R') (Int32.ofNat i) (mem μ)) ∧ R' ≤ V ∧ Mxr C i 12 R'
  | 0, j, R, h, hR, hm => by
    have c : (Int32.ofNat j ≥ 12) = True := by rw [lge_12 (by omega)]; exact eq_true (by omega)
    refine ⟨R, fun f K => ?_, hR, by rw [show 12 = j by omega]; exact hm⟩
    rw [show 0 + 1 + f = f + 1 by omega]
    simp only [f_X10_laysRounds_L154, c, ↓reduceIte]
  | d + 1, j, R, h, hR, hm => by
    have c : (Int32.ofNat j ≥ 12) = False := by rw [lge_12 (by omega)]; exact eq_false (by omega)
    have hj : j < 12 := by omega
    obtain ⟨v, hv, ev, hv2⟩ : ∃ v, v ≤ V ∧ (1 : Int32) + μ.1 (488 + i) j = Int32.ofNat v ∧ (C i j < 12 → C i j + 1 ≤ v) := by
      rw [hr i j hi hj]
      by_cases z : C i j < 12
      · exact ⟨C i j + 1, hV.1 i j z, by rw [eI_lt z, show (1 : Int32) = Int32.ofNat 1 from rfl, oN_add, Nat.add_comm], fun _ => Nat.le_refl _⟩
      · exact ⟨0, Nat.zero_le _, by rw [eI_ge (by omega)]; rfl, fun y => absurd y z⟩
    have em := m_more2 (x := R) (y := v) (h := mem μ) (by omega) (by omega)
    obtain ⟨R', a, b, g⟩ := m_mx_t hC hV h12 hi hr d (j + 1) (max R v) (by omega) (by omega) (fun w t q z => by
      by_cases y : w = i ∧ t = j
      · rw [y.1, y.2] at z ⊢
        have := hv2 z; omega
      · have := hm w t (by omega) z; omega)
    refine ⟨R', fun f K => ?_, b, g⟩
    rw [show d + 1 + 1 + f = d + 1 + f + 1 by omega, ← a f K]
    simp only [f_X10_laysRounds_L154, c, ↓reduceIte, ↓hbind gR_168_32, ↓hbind (mr_rd hi), ↓hbind (ma_rd hi hj), ev, ↓hbind em, lt_go, i_succ]
theorem m_mx_w {C : CC} (hC : Cp C) {V : Nat} (hV : mxC C V) (h12 : V ≤ 12) (hr : CRm μ C) : ∀ (d i R : Nat), i + d = 12 → R ≤ V → Mxr C i 0 R → ∀ f, f_X10_laysRounds_L146 f_X10_laysRounds_J187 (d + 1 + f) 168 (Int32.ofNat R) (Int32.ofNat i) (mem μ) = some (Int32.ofNat V, mem μ)
  | 0, i, R, h, hR, hm, f => by
    have c : (Int32.ofNat i ≥ 12) = True := by rw [lge_12 (by omega)]; exact eq_true (by omega)
    have e : R = V := by
      rcases hV.2 with z | ⟨w, t, q1, q2⟩
      · omega
      · have := hm w t (Or.inl (by have := hC.w q1; omega)) q1
        omega
    rw [show 0 + 1 + f = f + 1 by omega]
    simp only [f_X10_laysRounds_L146, c, ↓reduceIte, f_X10_laysRounds_J187, e]
  | d + 1, i, R, h, hR, hm, f => by
    have c : (Int32.ofNat i ≥ 12) = False := by rw [lge_12 (by omega)]; exact eq_false (by omega)
    obtain ⟨R', a, b, g⟩ := m_mx_t hC hV h12 (show i < 12 by omega) hr 12 0 R (by omega) hR hm
    have a : ∀ K, f_X10_laysRounds_L154 K 5000 168 (Int32.ofNat R) (Int32.ofNat i) 0 (mem μ) = K 168 (Int32.ofNat R') (Int32.ofNat i) (mem μ) := fun K => a 4987 K
    rw [show d + 1 + 1 + f = d + 1 + f + 1 by omega, ← m_mx_w hC hV h12 hr d (i + 1) R' (by omega) b (fun w t q z => g w t (by have := hC.t z; omega) z) f]
    simp only [f_X10_laysRounds_L146, c, ↓reduceIte, a, f_X10_laysRounds_J181, lt_go, i_succ]
theorem m_laysRounds (hm : MR μ 0 B) (hB : BOK B) : ∃ ξ, f_X10_laysRounds 168 (mem μ) = some (Int32.ofNat (allR (gE B) (bm B) (bn B) 0 CV0).2, mem ξ) ∧ Fr FRd μ ξ ∧ CRm ξ (allR (gE B) (bm B) (bn B) 0 CV0).1 := by
  have hn := hB.n
  obtain ⟨ζ, e1, f1, z1⟩ := m_z_w 12 0 μ (by omega) (fun w t q => by omega)
  have hr : CRm ζ CV0.1 := fun w t hw ht => by
    rw [z1 w t (Or.inl hw) hw ht]
    exact (eI_ge (Nat.le_refl 12)).symm
  obtain ⟨ξ, e2, f2, r2, c2, v2, l2⟩ := m_rd_w hB (bn B) 0 ζ CV0 (by omega) (hm.rd f1) hr CV0_I
  have e1 : ∀ K x1, f_X10_laysRounds_L4 K 5000 168 x1 0 (mem μ) = K 168 x1 (mem ζ) := fun K x1 => e1 4987 K x1
  have e2 : ∀ K x1, f_X10_laysRounds_L41 K 5000 168 x1 0 (mem ζ) = K 168 x1 (mem ξ) := fun K x1 => by
    have := e2 (5000 - (bn B + 1)) K x1
    rw [show bn B + 1 + (5000 - (bn B + 1)) = 5000 by omega] at this
    exact this
  have e3 : f_X10_laysRounds_L146 f_X10_laysRounds_J187 5000 168 0 0 (mem ξ) = some (Int32.ofNat (allR (gE B) (bm B) (bn B) 0 CV0).2, mem ξ) := m_mx_w c2 v2 l2 r2 12 0 0 (by omega) (Nat.zero_le _) (fun w t q => by omega) 4987
  refine ⟨ξ, ?_, f1.trans f2, r2⟩
  simp only [f_X10_laysRounds, e1, f_X10_laysRounds_J39, e2, f_X10_laysRounds_J144, e3]
end Mr
section O27
variable {T : MM → Bk → Prop} {μ : MM} {A : AS}
theorem op_rounds (hT : TF T) (hA : AOK A) (hC : RC T μ A) (hM : RM μ A) : OKc T μ (LI (f_X9_rounds 0) (f_X10_rounds 168)) := by
  have hB := hA.1
  obtain ⟨ν, e1, f1, r1, g1⟩ := c_fill hC.1 hB
  have fq : Fr CQ μ ν := f1.mono fun q i z => by unfold FC4 at z; unfold CQ; omega
  refine LI_ok hT (S := fun v A' => v = Int32.ofNat (allR (gE (aB A)) (bm (aB A)) (bn (aB A)) 0 CV0).2 ∧ A' = A) hM (fun _ _ _ _ h h' => ⟨h.1.trans h'.1.symm, h.2.trans h'.2.symm⟩) ⟨_, ν, A, ?_, fq.mono fun _ _ z => z.L, hC.fr hT fq fun q i _ z => Or.inl z, hA, rfl, rfl⟩ (fun μ' hν => ?_)
  · simp only [f_X9_rounds, ↓hbind gR_0_8, ↓hbind gR_0_0, ↓hvc (fun _ => vc_162), ↓hbind e1, ↓hbind gI_162_5, g1]
  · obtain ⟨ξ, e2, f2, r2⟩ := m_laysRounds hν.t.1 hB
    have fm : Fr QM (tz μ') ξ := f2.mono fun q i z => by unfold FRd at z; unfold QM; omega
    refine ⟨_, ξ, A, ?_, t0_ML.trans (fm.mono fun _ _ z => z.L), hν.t.fr fm fun q i _ _ z => z, rfl, rfl⟩
    simp only [f_X10_rounds, ↓hbind pI_t0, ↓hvc (fun _ => vc_168), ↓hbind e2]
theorem op_round (hT : TF T) (hA : AOK A) (hC : RC T μ A) (hM : RM μ A) (x y : Int32) : OKc T μ (LB wc_L_round (f_X9_round 0 x y) (f_X10_round 168 x y)) := by
  have hB := hA.1
  have ek := c_kb bk1 hC.1 hB x y
  by_cases c : KN (aB A) 0 x
  · by_cases d : KN (aB A) 1 y
    · rw [pb_1 c, pb_1 d] at ek
      obtain ⟨w, w1, w2, rfl⟩ := c.w hB
      obtain ⟨t, t1, t2, rfl⟩ := d.t hB
      obtain ⟨ν, e1, f1, r1, g1⟩ := c_fill hC.1 hB
      have fq : Fr CQ μ ν := f1.mono fun q i z => by unfold FC4 at z; unfold CQ; omega
      refine LB_ok hT hM (SV.uq (A := A) (v := eI ((allR (gE (aB A)) (bm (aB A)) (bn (aB A)) 0 CV0).1 w t))) (CX_V hT hC hA (ν := ν) ?_ fq) (fun μ' hν => ?_)
      · have ec := c_cellOf (μ := ν) aI_165 w2 t2
        rw [r1.2.2 w t w2 t2] at ec
        simp only [f_X9_round, ↓hbind gR_0_0, ↓hvc (fun _ => bk_v bk1), ↓hbind ek, Bool.and_self, show bI true = 1 from rfl, ↓hvc (fun _ => vc_0), ↓hbind c_dp1, ↓thr_ok, ↓thr_er, ↓hbind gR_0_8, ↓hvc (fun _ => vc_162), ↓hbind e1, f_X1_roundOf, ↓hbind gR_162_2, ↓hbind ec, Option.bind_some]
      · obtain ⟨ξ, e2, f2, r2⟩ := m_laysRounds hν.t.1 hB
        have fm : Fr QM (tz μ') ξ := f2.mono fun q i z => by unfold FRd at z; unfold QM; omega
        have i1 := m_isOne hν.t.1 hB 0 (Int32.ofNat w)
        have i2 := m_isOne hν.t.1 hB 1 (Int32.ofNat t)
        rw [pb_1 c] at i1
        rw [pb_1 d] at i2
        have ev := r2 w t w2 t2
        refine MX_V hν (ν := ξ) ?_ (t0_Q.trans fm) (by rw [(f2 _ _ (by unfold FRd; omega)).1]; exact t0_0)
        simp only [f_X10_round, f_X10_round_J29, ↓hbind pI_t0, ↓hvc (fun _ => vc_168), ↓hbind i1, ↓hbind i2, show bI true = 1 from rfl, z_1, ↓reduceIte, ↓hbind m_b0t, ↓hbind e2, ↓hbind gR_168_32, ↓hbind (mr_rd w2), ↓hbind (ma_rd w2 t2), ev]
    · rw [pb_1 c, pb_f d] at ek
      refine LB_ok hT hM (SP.uq (A := A)) (CX_P hT hC hA fun ν e => ?_) (fun ν hν => MX_P hν (w := 1) (b := 0) rfl (by decide) ?_)
      · simp only [f_X9_round, ↓hbind gR_0_0, ↓hvc (fun _ => bk_v bk1), ↓hbind ek, Bool.and_false, show bI false = 0 from rfl, ↓hvc (fun _ => vc_0), ↓hbind e, ↓thr_ok, ↓thr_er]
      · have i1 := m_isOne hν.t.1 hB 0 x
        have i2 := m_isOne hν.t.1 hB 1 y
        rw [pb_1 c] at i1
        rw [pb_f d] at i2
        simp only [f_X10_round, f_X10_round_J24, f_X10_round_J29, ↓hbind pI_t0, ↓hvc (fun _ => vc_168), ↓hbind i1, ↓hbind i2, show bI true = 1 from rfl, show bI false = 0 from rfl, z_1, ↓reduceIte, ↓hbind (m_bP (show (1 : Int32) ≠ 0 by decide))]
  · rw [pb_f c] at ek
    refine LB_ok hT hM (SP.uq (A := A)) (CX_P hT hC hA fun ν e => ?_) (fun ν hν => MX_P hν (w := 1) (b := 0) rfl (by decide) ?_)
    · simp only [f_X9_round, ↓hbind gR_0_0, ↓hvc (fun _ => bk_v bk1), ↓hbind ek, Bool.false_and, show bI false = 0 from rfl, ↓hvc (fun _ => vc_0), ↓hbind e, ↓thr_ok, ↓thr_er]
    · have i1 := m_isOne hν.t.1 hB 0 x
      rw [pb_f c] at i1
      simp only [f_X10_round, f_X10_round_J24, f_X10_round_J29, ↓hbind pI_t0, ↓hvc (fun _ => vc_168), ↓hbind i1, show bI false = 0 from rfl, z_1, ↓reduceIte, ↓hbind (m_bP (show (1 : Int32) ≠ 0 by decide))]
end O27
