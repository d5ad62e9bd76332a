/-! THE MODEL: the lines of a text -/
def TM (n : Nat) (y : Nat → Nat) (ν : MM) (p : Nat) (B : Bk) (kr : Bool) : Prop := MP ν n y p ∧ MR ν 1 B ∧ ν.1 168 16 = bI kr ∧ ν.1 168 6 = 0 ∧ ν.1 168 7 = -1
def EM (ξ : MM) (a q : Nat) : Prop := ξ.1 168 6 = Int32.ofNat a ∧ ξ.1 168 7 = Int32.ofNat q ∧ ξ.1 168 6 ≠ 0
def OM (n : Nat) (y : Nat → Nat) (ξ : MM) : Rs → Prop
  | .inl (p, B, k) => TM n y ξ p B k
  | .inr (a, q) => EM ξ a q
theorem EM.i {ξ : MM} {a q : Nat} (h1 : ξ.1 168 6 = Int32.ofNat a) (h2 : ξ.1 168 7 = Int32.ofNat q) (h3 : 1 ≤ a) (h4 : a ≤ 5) : EM ξ a q := ⟨h1, h2, fun z => by
  rw [h1, leq_0 (by omega)] at z; omega⟩
theorem EM.fr {μ ν : MM} {P : Nat → Nat → Prop} {a q : Nat} (h : EM μ a q) (f : Fr P μ ν) (n6 : ¬ P 168 6) (n7 : ¬ P 168 7) : EM ν a q := ⟨by rw [(f _ _ n6).1]; exact h.1, by rw [(f _ _ n7).1]; exact h.2.1, by rw [(f _ _ n6).1]; exact h.2.2⟩
def GR (q _i : Nat) : Prop := FR 1 q 0
theorem FR.G {q i : Nat} (h : FR 1 q i) : GX q i := Or.inr h
section Ml
variable {μ ν : MM} {n p : Nat} {y : Nat → Nat} {B : Bk} {kr : Bool}
/-- only the place has moved -/
theorem TM.go (h : TM n y ν p B kr) {ξ : MM} {q : Nat} (r : MP ξ n y q) (f : Fr G415 ν ξ) : TM n y ξ q B kr :=
  ⟨r, h.2.1.fr f (fun q i a z => by unfold G415 at z; unfold FR at a; omega), by rw [(f _ _ (by unfold G415; omega)).1]; exact h.2.2.1, by rw [(f _ _ (by unfold G415; omega)).1]; exact h.2.2.2.1, by rw [(f _ _ (by unfold G415; omega)).1]; exact h.2.2.2.2⟩
/-- only the row has changed -/
theorem TM.rw1 (h : TM n y ν p B kr) {ξ : MM} {B' : Bk} (r : MR ξ 1 B') (f : Fr (FR 1) ν ξ) : TM n y ξ p B' kr :=
  ⟨h.1.fr f (by unfold FR; omega) (by unfold FR; omega) (fun k => by unfold FR; omega), r, by rw [(f _ _ (by unfold FR; omega)).1]; exact h.2.2.1, by rw [(f _ _ (by unfold FR; omega)).1]; exact h.2.2.2.1, by rw [(f _ _ (by unfold FR; omega)).1]; exact h.2.2.2.2⟩
theorem tm_ok (hn : n ≤ 300) (hy : ∀ k, y k < 256) (hp : p ≤ n) (h : TM n y ν p B kr) {lo hi v s e : Nat} {x1 x2 : Int32} (e1 : x1 = Int32.ofNat lo) (e2 : x2 = Int32.ofNat hi) (l99 : lo ≤ 99) (h99 : hi ≤ 99) (q : num n y p lo hi = .inr (v, s, e)) : ∃ ξ, f_X10_number 168 x1 x2 (mem ν) = some (Int32.ofNat v, mem ξ) ∧ TM n y ξ e B kr ∧ ξ.1 168 15 = Int32.ofNat s ∧ Fr GX ν ξ := by
  obtain ⟨ξ, a, b, g, f⟩ := m_num_ok hn hy hp h.1 h.2.2.2.1 l99 h99 q
  rw [e1, e2]
  exact ⟨ξ, a, h.go b f, g, f.mono fun _ _ z => z.X⟩
theorem tm_er (hn : n ≤ 300) (hy : ∀ k, y k < 256) (hp : p ≤ n) (h : TM n y ν p B kr) {lo hi a q : Nat} {x1 x2 : Int32} (e1 : x1 = Int32.ofNat lo) (e2 : x2 = Int32.ofNat hi) (l99 : lo ≤ 99) (h99 : hi ≤ 99) (hq : num n y p lo hi = .inl (a, q)) : ∃ ξ, f_X10_number 168 x1 x2 (mem ν) = some (x1, mem ξ) ∧ EM ξ a q ∧ Fr GX ν ξ := by
  obtain ⟨ξ, a1, f, b, d⟩ := m_num_er hn hy hp h.1 h.2.2.2.1 l99 h99 hq
  have ne := num_er hp hq
  rw [e1, e2]
  exact ⟨ξ, a1, EM.i b d ne.1 ne.2.1, f⟩
theorem m_w_no (h6 : ν.1 168 6 ≠ 0) : f_X10_workerHere 168 (mem ν) = some (0, mem ν) := by
  simp only [f_X10_workerHere, ↓hbind gR_168_9, ↓hbind mr_h1, ↓hbind mh_a1_0, ↓hvc (fun _ => vc_168), ↓hbind (m_num_no h6)]
theorem m_t_no (h6 : ν.1 168 6 ≠ 0) : f_X10_taskHere 168 (mem ν) = some (0, mem ν) := by
  simp only [f_X10_taskHere, ↓hbind gR_168_9, ↓hbind mr_h1, ↓hbind mh_a1_1, ↓hvc (fun _ => vc_168), ↓hbind (m_num_no h6)]
theorem m_w_ok (hn : n ≤ 300) (hy : ∀ k, y k < 256) (hp : p ≤ n) (hB : BOK B) (h : TM n y ν p B kr) {v s e : Nat} (q : num n y p 0 (bn B - 1) = .inr (v, s, e)) : ∃ ξ, f_X10_workerHere 168 (mem ν) = some (Int32.ofNat v, mem ξ) ∧ TM n y ξ e B kr ∧ ξ.1 168 15 = Int32.ofNat s ∧ Fr GX ν ξ := by
  have n12 := hB.n
  have g : ν.1 173 0 = Int32.ofNat (bn B) := h.2.1.1.1
  obtain ⟨ξ, a, b, d, f⟩ := tm_ok (x1 := 0) (lo := 0) hn hy hp h rfl (bn_1 hB) (by omega) (by omega) q
  refine ⟨ξ, ?_, b, d, f⟩
  simp only [f_X10_workerHere, ↓hbind gR_168_9, ↓hbind mr_h1, ↓hbind mh_a1_0, g, ↓hvc (fun _ => vc_168), ↓hbind a]
theorem m_w_er (hn : n ≤ 300) (hy : ∀ k, y k < 256) (hp : p ≤ n) (hB : BOK B) (h : TM n y ν p B kr) {a q : Nat} (hq : num n y p 0 (bn B - 1) = .inl (a, q)) : ∃ ξ, f_X10_workerHere 168 (mem ν) = some (0, mem ξ) ∧ EM ξ a q ∧ Fr GX ν ξ := by
  have n12 := hB.n
  have g : ν.1 173 0 = Int32.ofNat (bn B) := h.2.1.1.1
  obtain ⟨ξ, e, b, f⟩ := tm_er (x1 := 0) (lo := 0) hn hy hp h rfl (bn_1 hB) (by omega) (by omega) hq
  refine ⟨ξ, ?_, b, f⟩
  simp only [f_X10_workerHere, ↓hbind gR_168_9, ↓hbind mr_h1, ↓hbind mh_a1_0, g, ↓hvc (fun _ => vc_168), ↓hbind e]
theorem m_t_ok (hn : n ≤ 300) (hy : ∀ k, y k < 256) (hp : p ≤ n) (hB : BOK B) (h : TM n y ν p B kr) {v s e : Nat} (q : num n y p 0 (bm B - 1) = .inr (v, s, e)) : ∃ ξ, f_X10_taskHere 168 (mem ν) = some (Int32.ofNat v, mem ξ) ∧ TM n y ξ e B kr ∧ ξ.1 168 15 = Int32.ofNat s ∧ Fr GX ν ξ := by
  have n12 := hB.m
  have g : ν.1 173 1 = Int32.ofNat (bm B) := h.2.1.1.2.1
  obtain ⟨ξ, a, b, d, f⟩ := tm_ok (x1 := 0) (lo := 0) hn hy hp h rfl (bm_1 hB) (by omega) (by omega) q
  refine ⟨ξ, ?_, b, d, f⟩
  simp only [f_X10_taskHere, ↓hbind gR_168_9, ↓hbind mr_h1, ↓hbind mh_a1_1, g, ↓hvc (fun _ => vc_168), ↓hbind a]
theorem m_t_er (hn : n ≤ 300) (hy : ∀ k, y k < 256) (hp : p ≤ n) (hB : BOK B) (h : TM n y ν p B kr) {a q : Nat} (hq : num n y p 0 (bm B - 1) = .inl (a, q)) : ∃ ξ, f_X10_taskHere 168 (mem ν) = some (0, mem ξ) ∧ EM ξ a q ∧ Fr GX ν ξ := by
  have n12 := hB.m
  have g : ν.1 173 1 = Int32.ofNat (bm B) := h.2.1.1.2.1
  obtain ⟨ξ, e, b, f⟩ := tm_er (x1 := 0) (lo := 0) hn hy hp h rfl (bm_1 hB) (by omega) (by omega) hq
  refine ⟨ξ, ?_, b, f⟩
  simp only [f_X10_taskHere, ↓hbind gR_168_9, ↓hbind mr_h1, ↓hbind mh_a1_1, g, ↓hvc (fun _ => vc_168), ↓hbind e]
/-- a fit -/
theorem m_fit_no (h6 : ν.1 168 6 ≠ 0) {x1 x2 s0 : Int32} : f_X10_readsFit_J38 168 x1 x2 s0 (mem ν) = some (mem ν) := by
  simp only [f_X10_readsFit_J38, ↓hvc (fun _ => vc_168), ↓hbind (m_fine0 h6), ↓reduceIte]
theorem m_fit_put (h : TM n y ν p B kr) {w t c : Nat} (hw : w < 12) (ht : t < 12) : ∃ ξ, f_X10_readsFit_J38 168 (Int32.ofNat w) (Int32.ofNat t) (Int32.ofNat c) (mem ν) = some (mem ξ) ∧ TM n y ξ p (wF B w t c) kr ∧ Fr GX ν ξ := by
  have g : ν.1 192 w = bf B w := h.2.1.2.1 w hw
  have f : Fr (FR 1) ν (st (st ν 192 w (bf B w ||| ((1 : Int32) <<< (Int32.ofNat t &&& 31)))) (262 + w) t (Int32.ofNat c)) := ((Fr.refl _ _).st (by unfold FR; omega)).st (by unfold FR; omega)
  refine ⟨_, ?_, h.rw1 (mr1_wF h.2.1 hw ht) f, f.mono fun _ _ z => z.G⟩
  simp only [f_X10_readsFit_J38, ↓hvc (fun _ => vc_168), ↓hbind (m_fine1 h.2.2.2.1), z_1, ↓reduceIte, ↓hbind gR_168_10, ↓hbind mr_f1, ↓hbind (ma_f1 hw), g, ↓hbind (ms_f1 hw), ↓hbind gR_168_13, ↓hbind mr_c1, ↓hbind (mc_c1 hw), ↓hbind (mc_s1 hw ht)]
theorem m_lnFit (hn : n ≤ 300) (hy : ∀ k, y k < 256) (hp : p ≤ n) (hB : BOK B) (h : TM n y ν p B kr) : ∃ ξ, f_X10_readsFit 168 (mem ν) = some (mem ξ) ∧ Fr GX ν ξ ∧ OM n y ξ (lnFit n y p B kr) := by
  have n12 := hB.n
  have m12' := hB.m
  have no : ∀ (x1 : Int32) (ξ : MM), ξ.1 168 6 ≠ 0 → f_X10_workerHere 168 (mem ν) = some (x1, mem ξ) → f_X10_readsFit 168 (mem ν) = some (mem ξ) := fun x1 ξ h6 e => by
    simp only [f_X10_readsFit, ↓hvc (fun _ => vc_168), ↓hbind e, ↓hbind (m_t_no h6), ↓hbind (m_fine0 h6), ↓reduceIte, f_X10_readsFit_J37, m_fit_no h6]
  rcases q1 : num n y p 0 (bn B - 1) with ⟨a, q⟩ | ⟨w, s, p1⟩
  · obtain ⟨ξ, e1, m1, f1⟩ := m_w_er hn hy hp hB h q1
    have el : lnFit n y p B kr = .er a q := by simp only [lnFit, q1]
    rw [el]
    exact ⟨ξ, no _ _ m1.2.2 e1, f1, m1⟩
  · obtain ⟨-, -, -, -, w12, -, -, hp1⟩ := num_ok hp q1
    obtain ⟨ν1, e1, t1, -, f1⟩ := m_w_ok hn hy hp hB h q1
    rcases q2 : num n y p1 0 (bm B - 1) with ⟨a, q⟩ | ⟨t, s2, p2⟩
    · obtain ⟨ξ, e2, m2, f2⟩ := m_t_er hn hy hp1 hB t1 q2
      have el : lnFit n y p B kr = .er a q := by simp only [lnFit, q1, q2]
      rw [el]
      refine ⟨ξ, ?_, f1.trans f2, m2⟩
      simp only [f_X10_readsFit, ↓hvc (fun _ => vc_168), ↓hbind e1, ↓hbind e2, ↓hbind (m_fine0 m2.2.2), ↓reduceIte, f_X10_readsFit_J37, m_fit_no m2.2.2]
    · obtain ⟨-, -, -, -, t12, -, -, hp2⟩ := num_ok hp1 q2
      obtain ⟨ν2, e2, t2, -, f2⟩ := m_t_ok hn hy hp1 hB t1 q2
      obtain ⟨ν3, e3, r3, f3⟩ := m_here hn hy hp2 t2.1
      have t3 := t2.go r3 (f3.mono fun _ _ z => z.F)
      have f3' : Fr GX ν2 ν3 := f3.mono fun _ _ z => z.X
      have l3 := skp_le (y := y) hp2
      have ed := m_isDigit (n := n) hy (k := skp n y p2) (h := mem ν3)
      by_cases z : skp n y p2 < n ∧ dgY y (skp n y p2) = true
      · rw [decide_eq_true z.1, z.2] at ed
        rcases q3 : num n y (skp n y p2) 0 99 with ⟨a, q⟩ | ⟨c, s3, p3⟩
        · obtain ⟨ξ, e4, m4, f4⟩ := tm_er (x1 := 0) (lo := 0) (x2 := 99) (hi := 99) hn hy l3.2 t3 rfl rfl (by omega) (by omega) q3
          have el : lnFit n y p B kr = .er a q := by simp only [lnFit, q1, q2, if_pos z, q3]
          rw [el]
          refine ⟨ξ, ?_, ((f1.trans f2).trans f3').trans f4, m4⟩
          simp only [f_X10_readsFit, ↓hvc (fun _ => vc_168), ↓hbind e1, ↓hbind e2, ↓hbind (m_fine1 t2.2.2.2.1), z_1, ↓reduceIte, ↓hbind e3, ↓hbind ed, Bool.and_self, show bI true = 1 from rfl, ↓hbind e4, m_fit_no m4.2.2]
        · obtain ⟨ν4, e4, t4, -, f4⟩ := tm_ok (x1 := 0) (lo := 0) (x2 := 99) (hi := 99) hn hy l3.2 t3 rfl rfl (by omega) (by omega) q3
          obtain ⟨ξ, e5, t5, f5⟩ := m_fit_put (c := c) t4 (show w < 12 by omega) (show t < 12 by omega)
          have el : lnFit n y p B kr = .ok p3 (wF B w t c) kr := by simp only [lnFit, q1, q2, if_pos z, q3]
          rw [el]
          refine ⟨ξ, ?_, (((f1.trans f2).trans f3').trans f4).trans f5, t5⟩
          rw [← e5]
          simp only [f_X10_readsFit, ↓hvc (fun _ => vc_168), ↓hbind e1, ↓hbind e2, ↓hbind (m_fine1 t2.2.2.2.1), z_1, ↓reduceIte, ↓hbind e3, ↓hbind ed, Bool.and_self, show bI true = 1 from rfl, ↓hbind e4]
      · have ez : (decide (skp n y p2 < n) && dgY y (skp n y p2)) = false := by
          cases x : (decide (skp n y p2 < n) && dgY y (skp n y p2)) with
          | false => rfl
          | true =>
            rw [Bool.and_eq_true, decide_eq_true_eq] at x
            exact absurd x z
        rw [ez] at ed
        obtain ⟨ξ, e5, t5, f5⟩ := m_fit_put (c := 0) t3 (show w < 12 by omega) (show t < 12 by omega)
        have e5 : f_X10_readsFit_J38 168 (Int32.ofNat w) (Int32.ofNat t) 0 (mem ν3) = some (mem ξ) := e5
        have el : lnFit n y p B kr = .ok (skp n y p2) (wF B w t 0) kr := by simp only [lnFit, q1, q2, if_neg z]
        rw [el]
        refine ⟨ξ, ?_, ((f1.trans f2).trans f3').trans f5, t5⟩
        rw [← e5]
        simp only [f_X10_readsFit, ↓hvc (fun _ => vc_168), ↓hbind e1, ↓hbind e2, ↓hbind (m_fine1 t2.2.2.2.1), z_1, ↓reduceIte, ↓hbind e3, ↓hbind ed, show bI false = 0 from rfl, f_X10_readsFit_J37]
theorem m_lnWeight (hn : n ≤ 300) (hy : ∀ k, y k < 256) (hp : p ≤ n) (hB : BOK B) (h : TM n y ν p B kr) : ∃ ξ, f_X10_readsWeight 168 (mem ν) = some (mem ξ) ∧ Fr GX ν ξ ∧ OM n y ξ (lnWeight n y p B kr) := by
  have n12 := hB.n
  rcases q1 : num n y p 0 (bn B - 1) with ⟨a, q⟩ | ⟨w, s, p1⟩
  · obtain ⟨ξ, e1, m1, f1⟩ := m_w_er hn hy hp hB h q1
    have el : lnWeight n y p B kr = .er a q := by simp only [lnWeight, q1]
    rw [el]
    refine ⟨ξ, ?_, f1, m1⟩
    simp only [f_X10_readsWeight, ↓hvc (fun _ => vc_168), ↓hbind e1, ↓hbind (m_num_no m1.2.2), ↓hbind (m_fine0 m1.2.2), ↓reduceIte, f_X10_readsWeight_J29]
  · obtain ⟨-, -, -, -, w12, -, -, hp1⟩ := num_ok hp q1
    have hw : w < 12 := by omega
    obtain ⟨ν1, e1, t1, -, f1⟩ := m_w_ok hn hy hp hB h q1
    rcases q2 : num n y p1 0 99 with ⟨a, q⟩ | ⟨v, s2, p2⟩
    · obtain ⟨ξ, e2, m2, f2⟩ := tm_er (x1 := 0) (lo := 0) (x2 := 99) (hi := 99) hn hy hp1 t1 rfl rfl (by omega) (by omega) q2
      have el : lnWeight n y p B kr = .er a q := by simp only [lnWeight, q1, q2]
      rw [el]
      refine ⟨ξ, ?_, f1.trans f2, m2⟩
      simp only [f_X10_readsWeight, ↓hvc (fun _ => vc_168), ↓hbind e1, ↓hbind e2, ↓hbind (m_fine0 m2.2.2), ↓reduceIte, f_X10_readsWeight_J29]
    · obtain ⟨ν2, e2, t2, -, f2⟩ := tm_ok (x1 := 0) (lo := 0) (x2 := 99) (hi := 99) hn hy hp1 t1 rfl rfl (by omega) (by omega) q2
      have el : lnWeight n y p B kr = .ok p2 (wE B w v) kr := by simp only [lnWeight, q1, q2]
      have f3 : Fr (FR 1) ν2 (st ν2 230 w (Int32.ofNat v)) := (Fr.refl _ _).st (by unfold FR; omega)
      rw [el]
      refine ⟨_, ?_, (f1.trans f2).trans (f3.mono fun _ _ z => z.G), t2.rw1 (mr1_wE t2.2.1 hw) f3⟩
      simp only [f_X10_readsWeight, ↓hvc (fun _ => vc_168), ↓hbind e1, ↓hbind e2, ↓hbind (m_fine1 t2.2.2.2.1), z_1, ↓reduceIte, ↓hbind gR_168_12, ↓hbind mr_w1, ↓hbind (ms_w1 hw), f_X10_readsWeight_J29]
theorem m_lnKeep (hn : n ≤ 300) (hy : ∀ k, y k < 256) (hp : p ≤ n) (h : TM n y ν p B kr) {s : Nat} : ∃ ξ, f_X10_readsKeep 168 (Int32.ofNat s) (mem ν) = some (mem ξ) ∧ Fr GX ν ξ ∧ OM n y ξ (lnKeep n y s p B kr) := by
  have g := h.2.2.1
  have ez : ∀ μ : MM, pZ (mem μ) 10 168 16 1 = some (mem (st μ 168 16 1)) := fun μ => pZ_m (by decide +kernel) (Or.inr rfl)
  cases kr with
  | true =>
    have g : ν.1 168 16 = 1 := g
    obtain ⟨ν1, e1, f1, v1, v2⟩ := m_wrong1 h.2.2.2.1 (a := 3) (q := Int32.ofNat s)
    have m1 : EM ν1 3 s := EM.i v1 v2 (by omega) (by omega)
    obtain ⟨ν2, hd⟩ : ∃ x, x = st ν1 168 16 1 := ⟨_, rfl⟩
    have f2 : Fr (fun q i => q = 168 ∧ i = 16) ν1 ν2 := by rw [hd]; exact (Fr.refl _ _).st ⟨rfl, rfl⟩
    have m2 := m1.fr f2 (by omega) (by omega)
    have f3 : Fr (FR 1) ν2 (st ν2 173 2 0) := (Fr.refl _ _).st (by unfold FR; omega)
    have el : lnKeep n y s p B true = .er 3 s := if_pos rfl
    rw [el]
    refine ⟨_, ?_, ((f1.mono fun _ _ z => z.X).trans (f2.mono fun q i z => by unfold GX; omega)).trans (f3.mono fun _ _ z => z.G), m2.fr f3 (by unfold FR; omega) (by unfold FR; omega)⟩
    have en := m_num_no (lo := 0) (hi := 1) m2.2.2
    rw [hd] at en
    rw [hd]
    simp only [f_X10_readsKeep, ↓hbind gI_168_16, g, z_1, ↓reduceIte, ↓hvc (fun _ => vc_168), ↓hbind e1, f_X10_readsKeep_J13, ↓hbind (ez ν1), ↓hbind gR_168_9, ↓hbind mr_h1, ↓hbind en, ↓hbind mh_s1_2]
  | false =>
    have g : ν.1 168 16 = 0 := g
    obtain ⟨ν1, hd⟩ : ∃ x, x = st ν 168 16 1 := ⟨_, rfl⟩
    have f1 : Fr (fun q i => q = 168 ∧ i = 16) ν ν1 := by rw [hd]; exact (Fr.refl _ _).st ⟨rfl, rfl⟩
    have t1 : TM n y ν1 p B true := ⟨h.1.fr f1 (by omega) (by omega) (fun k => by omega), h.2.1.fr f1 (fun q i a z => by unfold FR at a; omega), by rw [hd, st_same]; rfl, by rw [(f1 _ _ (by omega)).1]; exact h.2.2.2.1, by rw [(f1 _ _ (by omega)).1]; exact h.2.2.2.2⟩
    have f1' : Fr GX ν ν1 := f1.mono fun q i z => by unfold GX; omega
    have nk : ¬ (false = true) := by decide
    have ez' := ez ν
    rw [← hd] at ez'
    rcases q2 : num n y p 0 1 with ⟨a, q⟩ | ⟨v, s2, p2⟩
    · obtain ⟨ν2, e2, m2, f2⟩ := tm_er (x1 := 0) (lo := 0) (x2 := 1) (hi := 1) hn hy hp t1 rfl rfl (by omega) (by omega) q2
      have f3 : Fr (FR 1) ν2 (st ν2 173 2 0) := (Fr.refl _ _).st (by unfold FR; omega)
      have el : lnKeep n y s p B false = .er a q := by
        unfold lnKeep
        rw [if_neg nk, q2]
      rw [el]
      refine ⟨_, ?_, (f1'.trans f2).trans (f3.mono fun _ _ z => z.G), m2.fr f3 (by unfold FR; omega) (by unfold FR; omega)⟩
      simp only [f_X10_readsKeep, ↓hbind gI_168_16, g, ↓reduceIte, f_X10_readsKeep_J13, ↓hbind ez', ↓hbind gR_168_9, ↓hbind mr_h1, ↓hvc (fun _ => vc_168), ↓hbind e2, ↓hbind mh_s1_2]
    · obtain ⟨ν2, e2, t2, -, f2⟩ := tm_ok (x1 := 0) (lo := 0) (x2 := 1) (hi := 1) hn hy hp t1 rfl rfl (by omega) (by omega) q2
      have f3 : Fr (FR 1) ν2 (st ν2 173 2 (Int32.ofNat v)) := (Fr.refl _ _).st (by unfold FR; omega)
      have el : lnKeep n y s p B false = .ok p2 (wk B v) true := by
        unfold lnKeep
        rw [if_neg nk, q2]
      rw [el]
      refine ⟨_, ?_, (f1'.trans f2).trans (f3.mono fun _ _ z => z.G), t2.rw1 (mr1_wk t2.2.1) f3⟩
      simp only [f_X10_readsKeep, ↓hbind gI_168_16, g, ↓reduceIte, f_X10_readsKeep_J13, ↓hbind ez', ↓hbind gR_168_9, ↓hbind mr_h1, ↓hvc (fun _ => vc_168), ↓hbind e2, ↓hbind mh_s1_2]
end Ml
