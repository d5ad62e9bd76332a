/-! OPERATIONS: fewest, class and model together -/
section Ft
variable {μ : MM} {n m : Nat} {Wt Tt : Int32} {E : Nat → Nat → Bool}
def FQC (q _i : Nat) : Prop := (141 ≤ q ∧ q ≤ 150)
/-- what holds between the tries -/
def It (μ0 μ : MM) (n m : Nat) (Wt Tt : Int32) (E : Nat → Nat → Bool) : Prop := Fr FQC μ0 μ ∧ ∃ M, SR μ n m Wt Tt E M ∧ SOK n m Wt E M ∧ Nu E (sz M)
theorem c_try2 {μ0 : MM} (hE : Eb E) (hT : ∀ w t, E w t = true → hb Tt t = true) (hT2 : ∀ t, hb Tt t = true → t < 12) (e0 : μ0.1 1 0 = Int32.ofNat n) (na : ∀ w t, ¬ al E w t) (h : It μ0 μ n m Wt Tt E) {w t : Nat} (e : E w t = true) : ∃ ν1 c ν2 x ν3 ν4, f_X7_shut 141 (Int32.ofNat w) (Int32.ofNat t) (mem μ) = some (mem ν1) ∧ f_X7_grow 141 12 (mem ν1) = some (c, mem ν2) ∧ f_X9_firstAlways 0 (mem ν2) = some (x, mem ν3) ∧ f_X7_open 141 (Int32.ofNat w) (Int32.ofNat t) (mem ν3) = some (mem ν4) ∧ It μ0 ν4 n m Wt Tt E ∧ (x ≠ -1 ↔ Q2 E w t) := by
  obtain ⟨f0, M, hS, hO, hN⟩ := h
  obtain ⟨hw, ht⟩ := hE _ _ e
  obtain ⟨ν1, M1, e1, f1, s1, o1⟩ := c_shut hS hO hw ht
  obtain ⟨k, ν2, M2, e2, f2, s2, o2, g⟩ := c_grow s1 o1 (Nat.le_refl 12)
  have nu := g.nu o1.Eb o1.2.2.2.2
  have f02 : Fr FQC μ0 ν2 := (f0.trans (f1.mono fun q i z => by unfold FS at z; unfold FQC; omega)).trans (f2.mono fun q i z => by unfold FS at z; unfold FQC; omega)
  have e0' : ν2.1 1 0 = Int32.ofNat n := by rw [(f02 _ _ (by unfold FQC; omega)).1]; exact e0
  obtain ⟨ν3, v, e3, f3, fs⟩ := c_fa s2 o2 nu.2.1 (fun w t q => hT w t (eE_iff.mp q).1) hT2 e0'
  have s3 := s2.flc f3
  obtain ⟨ν4, e4, f4, s4⟩ := c_open s3 hE e
  have nn : nN (eE E w t) = nN E := by
    have := nN_eE E w t
    have : ¬ nN (eE E w t) < nN E := fun z => na w t ⟨e, z⟩
    omega
  refine ⟨ν1, _, ν2, _, ν3, ν4, e1, e2, e3, e4, ⟨(f02.trans (f3.mono fun q i z => by unfold FLC FX at z; unfold FQC; omega)).trans (f4.mono fun q i z => by unfold FQC; omega), M2, s4, ⟨hO.1, hO.2.1, hO.2.2.1, hO.2.2.2.1, nu.1.congr fun v s q => (eE_iff.mp q).1⟩, ?_⟩, ?_⟩
  · have h1 := nN_nu E
    have h2 : sz M2 = nN E := by rw [nu.2.1.nN, nn]
    rw [h2]; exact h1
  · rcases fs with ⟨rfl, fs⟩ | ⟨j, _, hj, rfl, p, _⟩
    · rw [cd_1]
      refine ⟨fun z => absurd rfl z, fun z => ?_⟩
      obtain ⟨_, v, s, a⟩ := z
      obtain ⟨b1, b2⟩ := hE _ _ (eE_iff.mp a.1).1
      refine absurd ?_ (fs (12 * v + s) (by omega) (by omega))
      unfold Qa
      rw [show (12 * v + s) / 12 = v by omega, show (12 * v + s) % 12 = s by omega]; exact a
    · exact ⟨fun _ => ⟨e, _, _, p⟩, fun _ => cd_n hj⟩
theorem c_f2_in {μ0 : MM} (hE : Eb E) (hT : ∀ w t, E w t = true → hb Tt t = true) (hT2 : ∀ t, hb Tt t = true → t < 12) (hm : m ≤ 12) (e0 : μ0.1 1 0 = Int32.ofNat n) (e1 : μ0.1 1 1 = Int32.ofNat m) (na : ∀ w t, ¬ al E w t) {w : Nat} (hw : w < 12) : ∀ (k j : Nat) (ν : MM), j + k = m → It μ0 ν n m Wt Tt E → (∀ t, t < j → ¬ Q2 E w t) →
    (∃ t ξ, t < m ∧ Q2 E w t ∧ (∀ s, s < t → ¬ Q2 E w s) ∧ It μ0 ξ n m Wt Tt E ∧ ∀ f K, f_X9_firstOfTwo_L15 f_X9_firstOfTwo_J84 K (k + 1 + f) 0 (Int32.ofNat w) (Int32.ofNat j) (mem ν) = some ((100 : Int32) * Int32.ofNat w + Int32.ofNat t, mem ξ)) ∨
    ∃ ξ, (∀ s, s < m → ¬ Q2 E w s) ∧ It μ0 ξ n m Wt Tt E ∧ ∀ f K, f_X9_firstOfTwo_L15 f_X9_firstOfTwo_J84 K (k + 1 + f) 0 (Int32.ofNat w) (Int32.ofNat j) (mem ν) = K 0 (Int32.ofNat w) (mem ξ)
  | 0, j, ν, h, hi, hq => by
    have e1' : ν.1 1 1 = Int32.ofNat m := by rw [(hi.1 _ _ (by unfold FQC; omega)).1]; exact e1
    have c : (Int32.ofNat j ≥ Int32.ofNat m) = True := by rw [oN_ge (by omega) (by omega)]; exact eq_true (by omega)
    refine Or.inr ⟨ν, fun s hs => hq s (by omega), hi, fun f K => ?_⟩
    rw [show 0 + 1 + f = f + 1 by omega]
    simp only [f_X9_firstOfTwo_L15, ↓hbind gR_0_0, ↓hbind (bk_i1 bk1), e1', c, ↓reduceIte]
  | k + 1, j, ν, h, hi, hq => by
    have e1' : ν.1 1 1 = Int32.ofNat m := by rw [(hi.1 _ _ (by unfold FQC; omega)).1]; exact e1
    have c : (Int32.ofNat j ≥ Int32.ofNat m) = False := by rw [oN_ge (by omega) (by omega)]; exact eq_false (by omega)
    have hj : j < 12 := by omega
    obtain ⟨M, hS, -, -⟩ := hi.2
    have eo := c_isOpen hS hw hj
    cases q : E w j with
    | false =>
      rw [q] at eo
      have nq : ¬ Q2 E w j := fun z => by rw [z.1] at q; cases q
      have e : ∀ f K, f_X9_firstOfTwo_L15 f_X9_firstOfTwo_J84 K (k + 1 + 1 + f) 0 (Int32.ofNat w) (Int32.ofNat j) (mem ν) = f_X9_firstOfTwo_L15 f_X9_firstOfTwo_J84 K (k + 1 + f) 0 (Int32.ofNat w) (Int32.ofNat (j + 1)) (mem ν) := fun f K => by
        rw [show k + 1 + 1 + f = (k + 1 + f) + 1 by omega]
        simp only [f_X9_firstOfTwo_L15, ↓hbind gR_0_0, ↓hbind (bk_i1 bk1), e1', c, ↓reduceIte, ↓hbind gR_0_4, ↓hvc (fun _ => vc_141), ↓hbind eo, show bI false = 0 from rfl, f_X9_firstOfTwo_J91, lt, i_succ]
      have hq' : ∀ t, t < j + 1 → ¬ Q2 E w t := fun t a => by
        by_cases z : t = j
        · rw [z]; exact nq
        · exact hq t (by omega)
      rcases c_f2_in hE hT hT2 hm e0 e1 na hw k (j + 1) ν (by omega) hi hq' with ⟨t, ξ, a, b, c', d, g⟩ | ⟨ξ, a, d, g⟩
      · exact Or.inl ⟨t, ξ, a, b, c', d, fun f K => by rw [e, g]⟩
      · exact Or.inr ⟨ξ, a, d, fun f K => by rw [e, g]⟩
    | true =>
      rw [q] at eo
      obtain ⟨ν1, cc, ν2, x, ν3, ν4, h1, h2, h3, h4, hi4, hx⟩ := c_try2 hE hT hT2 e0 na hi q
      by_cases p : x = -1
      · have nq : ¬ Q2 E w j := fun z => hx.mpr z p
        have e : ∀ f K, f_X9_firstOfTwo_L15 f_X9_firstOfTwo_J84 K (k + 1 + 1 + f) 0 (Int32.ofNat w) (Int32.ofNat j) (mem ν) = f_X9_firstOfTwo_L15 f_X9_firstOfTwo_J84 K (k + 1 + f) 0 (Int32.ofNat w) (Int32.ofNat (j + 1)) (mem ν4) := fun f K => by
          rw [show k + 1 + 1 + f = (k + 1 + f) + 1 by omega]
          simp only [f_X9_firstOfTwo_L15, ↓hbind gR_0_0, ↓hbind (bk_i1 bk1), e1', c, ↓reduceIte, ↓hbind gR_0_4, ↓hvc (fun _ => vc_141), ↓hvc (fun _ => vc_0), ↓hbind eo, show bI true = 1 from rfl, z_1, ↓hbind h1, ↓hbind h2, ↓hbind h3, p, f_X9_firstOfTwo_J70, ↓hbind h4, f_X9_firstOfTwo_J91, lt, i_succ]
        have hq' : ∀ t, t < j + 1 → ¬ Q2 E w t := fun t a => by
          by_cases z : t = j
          · rw [z]; exact nq
          · exact hq t (by omega)
        rcases c_f2_in hE hT hT2 hm e0 e1 na hw k (j + 1) ν4 (by omega) hi4 hq' with ⟨t, ξ, a, b, c', d, g⟩ | ⟨ξ, a, d, g⟩
        · exact Or.inl ⟨t, ξ, a, b, c', d, fun f K => by rw [e, g]⟩
        · exact Or.inr ⟨ξ, a, d, fun f K => by rw [e, g]⟩
      · refine Or.inl ⟨j, ν4, by omega, hx.mp p, hq, hi4, fun f K => ?_⟩
        rw [show k + 1 + 1 + f = (k + 1 + f) + 1 by omega]
        simp only [f_X9_firstOfTwo_L15, ↓hbind gR_0_0, ↓hbind (bk_i1 bk1), e1', c, ↓reduceIte, ↓hbind gR_0_4, ↓hvc (fun _ => vc_141), ↓hvc (fun _ => vc_0), ↓hbind eo, show bI true = 1 from rfl, z_1, ↓hbind h1, ↓hbind h2, ↓hbind h3, p, f_X9_firstOfTwo_J70, ↓hbind h4, f_X9_firstOfTwo_J84]
def Qb (E : Nat → Nat → Bool) (k : Nat) : Prop := Q2 E (k / 12) (k % 12)
theorem c_f2 {μ0 : MM} (hE : Eb E) (hn : n ≤ 12) (hnm : ∀ w t, E w t = true → w < n ∧ t < m) (hT : ∀ w t, E w t = true → hb Tt t = true) (hT2 : ∀ t, hb Tt t = true → t < 12) (hm : m ≤ 12) (e0 : μ0.1 1 0 = Int32.ofNat n) (e1 : μ0.1 1 1 = Int32.ofNat m) (na : ∀ w t, ¬ al E w t) (h : It μ0 μ n m Wt Tt E) : ∃ ξ v, f_X9_firstOfTwo 0 (mem μ) = some (cd v, mem ξ) ∧ Fr FQC μ0 ξ ∧ FST (Qb E) 0 v := by
  have key : ∀ (k i : Nat) (ν : MM), i + k = n → It μ0 ν n m Wt Tt E → (∀ w, w < i → ∀ t, ¬ Q2 E w t) → ∃ ξ v, (∀ f, f_X9_firstOfTwo_L2 f_X9_firstOfTwo_J84 f_X9_firstOfTwo_J103 (k + 1 + f) 0 (Int32.ofNat i) (mem ν) = some (cd v, mem ξ)) ∧ Fr FQC μ0 ξ ∧ FST (Qb E) 0 v := by
    intro k
    induction k with
    | zero =>
      intro i ν h hi hq
      have e0' : ν.1 1 0 = Int32.ofNat n := by rw [(hi.1 _ _ (by unfold FQC; omega)).1]; exact e0
      have c : (Int32.ofNat i ≥ Int32.ofNat n) = True := by rw [oN_ge (by omega) (by omega)]; exact eq_true (by omega)
      refine ⟨ν, -1, fun f => ?_, hi.1, Or.inl ⟨rfl, fun j _ _ z => hq _ (by have := (hnm _ _ z.1).1; omega) _ z⟩⟩
      rw [show 0 + 1 + f = f + 1 by omega, cd_1]
      simp only [f_X9_firstOfTwo_L2, ↓hbind gR_0_0, ↓hbind (bk_i0 bk1), e0', c, ↓reduceIte, f_X9_firstOfTwo_J103]
    | succ k ih =>
      intro i ν h hi hq
      have e0' : ν.1 1 0 = Int32.ofNat n := by rw [(hi.1 _ _ (by unfold FQC; omega)).1]; exact e0
      have c : (Int32.ofNat i ≥ Int32.ofNat n) = False := by rw [oN_ge (by omega) (by omega)]; exact eq_false (by omega)
      rcases c_f2_in hE hT hT2 hm e0 e1 na (show i < 12 by omega) m 0 ν (by omega) hi (fun t a => absurd a (Nat.not_lt_zero _)) with ⟨t, ξ, a, b, c', d, g⟩ | ⟨ξ, a, d, g⟩
      · have ht : t < 12 := by omega
        have x1 : (12 * i + t) / 12 = i := by omega
        have x2 : (12 * i + t) % 12 = t := by omega
        refine ⟨ξ, Int32.ofNat (12 * i + t), fun f => ?_, d.1, Or.inr ⟨12 * i + t, by omega, by omega, rfl, by unfold Qb; rw [x1, x2]; exact b, fun j _ b' z => ?_⟩⟩
        · have g := g (5000 - (m + 1)) (f_X9_firstOfTwo_J97 (f_X9_firstOfTwo_L2 f_X9_firstOfTwo_J84 f_X9_firstOfTwo_J103 (k + 1 + f)) f_X9_firstOfTwo_J84 f_X9_firstOfTwo_J103)
          rw [show m + 1 + (5000 - (m + 1)) = 5000 by omega] at g
          have g : f_X9_firstOfTwo_L15 f_X9_firstOfTwo_J84 (f_X9_firstOfTwo_J97 (f_X9_firstOfTwo_L2 f_X9_firstOfTwo_J84 f_X9_firstOfTwo_J103 (k + 1 + f)) f_X9_firstOfTwo_J84 f_X9_firstOfTwo_J103) 5000 0 (Int32.ofNat i) 0 (mem ν) = _ := g
          rw [show k + 1 + 1 + f = (k + 1 + f) + 1 by omega, cd_k (by omega), x1, x2]
          simp only [f_X9_firstOfTwo_L2, ↓hbind gR_0_0, ↓hbind (bk_i0 bk1), e0', c, ↓reduceIte, g]
        · by_cases y : j / 12 < i
          · exact hq _ y _ z
          · have y : j / 12 = i := by omega
            unfold Qb at z
            rw [y] at z
            exact c' _ (by omega) z
      · obtain ⟨ζ, v, e2, r⟩ := ih (i + 1) ξ (by omega) d (fun w hw t z => by
          by_cases y : w = i
          · rw [y] at z; exact a t (hnm _ _ z.1).2 z
          · exact hq w (by omega) t z)
        refine ⟨ζ, v, fun f => ?_, r⟩
        have g := g (5000 - (m + 1)) (f_X9_firstOfTwo_J97 (f_X9_firstOfTwo_L2 f_X9_firstOfTwo_J84 f_X9_firstOfTwo_J103 (k + 1 + f)) f_X9_firstOfTwo_J84 f_X9_firstOfTwo_J103)
        rw [show m + 1 + (5000 - (m + 1)) = 5000 by omega] at g
        have g : f_X9_firstOfTwo_L15 f_X9_firstOfTwo_J84 (f_X9_firstOfTwo_J97 (f_X9_firstOfTwo_L2 f_X9_firstOfTwo_J84 f_X9_firstOfTwo_J103 (k + 1 + f)) f_X9_firstOfTwo_J84 f_X9_firstOfTwo_J103) 5000 0 (Int32.ofNat i) 0 (mem ν) = _ := g
        rw [show k + 1 + 1 + f = (k + 1 + f) + 1 by omega, ← e2 f]
        simp only [f_X9_firstOfTwo_L2, ↓hbind gR_0_0, ↓hbind (bk_i0 bk1), e0', c, ↓reduceIte, g, f_X9_firstOfTwo_J97, lt, i_succ]
  obtain ⟨ξ, v, e, r⟩ := key n 0 μ (by omega) h (fun w a => absurd a (Nat.not_lt_zero _))
  refine ⟨ξ, v, ?_, r⟩
  have e := e (5000 - (n + 1))
  rw [show n + 1 + (5000 - (n + 1)) = 5000 by omega] at e
  exact e
end Ft
/-! class and model tell the same places -/
theorem P1_Qa {B : Bk} {k : Nat} : P1 B (nN (gE B)) k ↔ Qa (gE B) k := by
  unfold P1 Qa al
  constructor
  · rintro ⟨a, b⟩
    refine ⟨?_, b⟩
    cases q : gE B (k / 12) (k % 12) with
    | true => rfl
    | false => rw [eE_no q] at b; omega
  · rintro ⟨a, b⟩
    refine ⟨?_, b⟩
    unfold gE at a
    simp only [Bool.and_eq_true] at a
    exact a.1.1
theorem P2_Qb {B : Bk} {k : Nat} (hB : BOK B) (na : ∀ w t, ¬ al (gE B) w t) (h : P2 B (nN (gE B)) k) : Qb (gE B) k := by
  obtain ⟨a, j, b, c, d⟩ := h
  have ht : k % 12 < 12 := by omega
  unfold P1 at d
  rw [wO_gE ht] at d
  obtain ⟨d1, d2⟩ := d
  have e : gE B (k / 12) (k % 12) = true := by
    cases q : gE B (k / 12) (k % 12) with
    | true => rfl
    | false =>
      rw [eE_no q] at d2
      have : gE B (j / 12) (j % 12) = true := by
        cases q' : gE B (j / 12) (j % 12) with
        | true => rfl
        | false => rw [eE_no q'] at d2; omega
      exact absurd ⟨this, d2⟩ (na (j / 12) (j % 12))
  have nn : nN (eE (gE B) (k / 12) (k % 12)) = nN (gE B) := by
    have := nN_eE (gE B) (k / 12) (k % 12)
    have : ¬ nN (eE (gE B) (k / 12) (k % 12)) < nN (gE B) := fun z => na _ _ ⟨e, z⟩
    omega
  refine ⟨e, j / 12, j % 12, ?_, by rw [nn]; exact d2⟩
  cases q : eE (gE B) (k / 12) (k % 12) (j / 12) (j % 12) with
  | true => rfl
  | false => rw [eE_no q, nn] at d2; omega
theorem Qb_P2 {B : Bk} {k : Nat} (hB : BOK B) (hk : k < 144) (na : ∀ w t, ¬ al (gE B) w t) (h : Qb (gE B) k) (fi : ∀ j, 0 ≤ j → j < k → ¬ Qb (gE B) j) : P2 B (nN (gE B)) k := by
  obtain ⟨e, v, s, a1, a2⟩ := h
  have ht : k % 12 < 12 := by omega
  have nn : ∀ {w t}, gE B w t = true → nN (eE (gE B) w t) = nN (gE B) := fun {w t} e => by
    have := nN_eE (gE B) w t
    have : ¬ nN (eE (gE B) w t) < nN (gE B) := fun z => na _ _ ⟨e, z⟩
    omega
  obtain ⟨e2, ne⟩ := eE_iff.mp a1
  obtain ⟨hv, hs⟩ := hB.Eb _ _ e2
  rw [nn e] at a2
  have x1 : (12 * v + s) / 12 = v := by omega
  have x2 : (12 * v + s) % 12 = s := by omega
  refine ⟨?_, 12 * v + s, ?_, by omega, ?_⟩
  · have e := e
    unfold gE at e
    simp only [Bool.and_eq_true] at e
    exact e.1.1
  · apply Classical.byContradiction
    intro z
    have lt : 12 * v + s < k := by
      have : 12 * v + s ≠ k := fun y => ne ⟨by omega, by omega⟩
      omega
    refine fi (12 * v + s) (by omega) lt ?_
    unfold Qb
    rw [x1, x2]
    refine ⟨e2, k / 12, k % 12, eE_iff.mpr ⟨e, fun y => ne ⟨y.1.symm, y.2.symm⟩⟩, ?_⟩
    rw [nn e2, eE_comm]; exact a2
  · unfold P1
    rw [x1, x2, wO_gE ht, wO_hb ht]
    refine ⟨?_, a2⟩
    have : hb (bf B v) s = true := by
      unfold gE at e2
      simp only [Bool.and_eq_true] at e2
      exact e2.1.1
    rw [this]
    have : (decide (v = k / 12) && decide (s = k % 12)) = false := by
      rw [Bool.and_eq_false_iff, decide_eq_false_iff_not, decide_eq_false_iff_not]
      by_cases y : v = k / 12
      · exact Or.inr fun z => ne ⟨y, z⟩
      · exact Or.inl y
    rw [this]; rfl
section O21
variable {T : MM → Bk → Prop} {μ : MM} {A : AS}
/-- what fewest answers, with v the first in all, u the first of two -/
def fwA (N : Nat) (x v u : Int32) : Int32 := if N = 0 then -1 else if v = -1 then if u = -1 then -1 else if x = 0 then 2 else cd u else if x = 0 then 1 else cd v
def SFw (A : AS) (x : Int32) (y : Int32 ⊕ String) (A' : AS) : Prop := A' = A ∧ ∃ v u, FST (Qa (gE (aB A))) 0 v ∧ ((∀ w t, ¬ al (gE (aB A)) w t) → nN (gE (aB A)) ≠ 0 → FST (Qb (gE (aB A))) 0 u) ∧ y = .inl (fwA (nN (gE (aB A))) x v u)
theorem Qa_no {B : Bk} (hB : BOK B) (h : FST (Qa (gE B)) 0 (-1)) : ∀ w t, ¬ al (gE B) w t := fun w t z => by
  obtain ⟨a, b⟩ := hB.Eb _ _ z.1
  rcases h with ⟨_, h⟩ | ⟨k, _, _, c, _⟩
  · refine h (12 * w + t) (by omega) (by omega) ?_
    unfold Qa
    rw [show (12 * w + t) / 12 = w by omega, show (12 * w + t) % 12 = t by omega]; exact z
  · have : (Int32.ofNat k = -1) = False := oN_n1 (by omega)
    rw [← c] at this
    exact this.mp rfl
theorem SFw.uq (hB : BOK (aB A)) {x : Int32} : UQ (SFw A x) := by
  rintro y A1 z A2 ⟨ha, v, u, h1, h2, rfl⟩ ⟨ha', v', u', h1', h2', rfl⟩
  have e1 : v = v' := h1.uniq h1' fun _ _ _ _ _ => Iff.rfl
  subst e1
  refine ⟨?_, ha.trans ha'.symm⟩
  unfold fwA
  by_cases c : nN (gE (aB A)) = 0
  · rw [if_pos c, if_pos c]
  · by_cases d : v = -1
    · rw [d] at h1
      have na := Qa_no hB h1
      rw [(h2 na c).uniq (h2' na c) fun _ _ _ _ _ => Iff.rfl]
    · rw [if_neg d, if_neg d]
theorem op_fewest_k (hT : TF T) (hA : AOK A) (hC : RC T μ A) (hM : RM μ A) {x : Int32} (c : x = 0 ∨ x = 1) : OKc T μ (LB wc_L_fewest (f_X9_fewest 0 x) (f_X10_fewest 168 x)) := by
  have hB := hA.1
  have hE := hB.Eb
  obtain ⟨ν, k, M', e1, f1, s1, o1, g⟩ := c_makeMost hC hA
  have nu := g.nu hE hB.M
  have eN := nu.2.1.nN
  have hN := nN_le (gE (aB A))
  have fq : Fr CQ μ ν := f1.mono fun _ _ z => z.Q
  have t1 : f_X9_fewest 0 x (mem μ) = f_X9_fewest_J15 0 x 0 1 (mem μ) := by
    unfold f_X9_fewest f_X9_fewest_J10
    rcases c with rfl | rfl
    · rw [if_pos rfl]
    · rw [if_neg (by decide), if_pos rfl]
  have q01 : ¬ ((1 : Int32) = 0) := by decide
  -- the class
  have hc : CX T μ (f_X9_fewest 0 x (mem μ)) (SFw A x) := by
    have hT1 : ∀ w t, gE (aB A) w t = true → hb (bt (aB A)) t = true := gE_T
    have hT2 : ∀ t, hb (bt (aB A)) t = true → t < 12 := fun t q => Nat.lt_of_lt_of_le (hB.t q) hB.m
    have e0 : ν.1 1 0 = Int32.ofNat (bn (aB A)) := by rw [(fq _ _ (by unfold CQ; omega)).1]; exact hC.1.1.1
    have em : ν.1 1 1 = Int32.ofNat (bm (aB A)) := by rw [(fq _ _ (by unfold CQ; omega)).1]; exact hC.1.1.2.1
    obtain ⟨ξ, v, e2, f2, fs⟩ := c_fa s1 o1 nu.2.1 hT1 hT2 e0
    have fq2 : Fr CQ μ ξ := fq.trans (f2.mono fun q i z => by unfold FLC FX at z; unfold CQ; omega)
    rw [eN] at e1
    by_cases z : nN (gE (aB A)) = 0
    · rw [z] at e1
      refine ⟨_, ν, A, ?_, fq.mono fun _ _ z => z.L, hC.fr hT fq fun q i _ z => Or.inl z, hA, rfl, v, 0, fs, fun _ y => absurd z y, rfl⟩
      rw [t1]
      have e1 : f_X9_makeMost 0 (mem μ) = some (0, mem ν) := e1
      unfold fwA
      simp only [f_X9_fewest_J15, ↓hvc (fun _ => vc_0), ↓hbind c_da1, ↓thr_ok, ↓hbind e1, ↓reduceIte, if_pos z]
    · have z' : (Int32.ofNat (nN (gE (aB A))) = 0) = False := by rw [leq_0 (by omega)]; exact eq_false z
      rcases fs with ⟨rfl, fs⟩ | ⟨j, j0, hj, rfl, p, fs⟩
      · rw [cd_1] at e2
        have na := Qa_no hB (Or.inl ⟨rfl, fs⟩)
        have hi : It ν ξ (bn (aB A)) (bm (aB A)) (bw (aB A)) (bt (aB A)) (gE (aB A)) := ⟨f2.mono fun q i z => by unfold FLC FX at z; unfold FQC; omega, M', s1.flc f2, o1, nu.2.1⟩
        obtain ⟨ζ, u, e3, f3, us⟩ := c_f2 hE hB.n (fun w t q => ⟨(o1.2.2.1 w t q).1, (o1.2.2.1 w t q).2.1⟩) hT1 hT2 hB.m e0 em na hi
        have fq3 : Fr CQ μ ζ := fq.trans (f3.mono fun q i z => by unfold FQC at z; unfold CQ; omega)
        refine ⟨_, ζ, A, ?_, fq3.mono fun _ _ z => z.L, hC.fr hT fq3 fun q i _ z => Or.inl z, hA, rfl, -1, u, Or.inl ⟨rfl, fs⟩, fun _ _ => us, rfl⟩
        rw [t1]
        unfold fwA
        rcases us with ⟨rfl, us⟩ | ⟨i, i0, hi', rfl, pi, us⟩
        · rw [cd_1] at e3
          simp only [f_X9_fewest_J15, ↓hvc (fun _ => vc_0), ↓hbind c_da1, ↓thr_ok, ↓hbind e1, z', ↓reduceIte, ↓hbind e2, ↓hbind e3, if_neg z]
        · have y' : (cd (Int32.ofNat i) = -1) = False := eq_false (cd_n hi')
          have y2 : (Int32.ofNat i = -1) = False := oN_n1 (by omega)
          rcases c with rfl | rfl
          · simp only [f_X9_fewest_J15, ↓hvc (fun _ => vc_0), ↓hbind c_da1, ↓thr_ok, ↓hbind e1, z', ↓reduceIte, ↓hbind e2, ↓hbind e3, y', f_X9_fewest_J66, if_neg z, y2]
          · simp only [f_X9_fewest_J15, ↓hvc (fun _ => vc_0), ↓hbind c_da1, ↓thr_ok, ↓hbind e1, z', ↓reduceIte, ↓hbind e2, ↓hbind e3, y', z_1, f_X9_fewest_J66, if_neg z, y2]
      · have y' : (cd (Int32.ofNat j) = -1) = False := eq_false (cd_n hj)
        have y2 : (Int32.ofNat j = -1) = False := oN_n1 (by omega)
        refine ⟨_, ξ, A, ?_, fq2.mono fun _ _ z => z.L, hC.fr hT fq2 fun q i _ z => Or.inl z, hA, rfl, Int32.ofNat j, 0, Or.inr ⟨j, j0, hj, rfl, p, fs⟩, fun na => absurd p (na _ _), rfl⟩
        rw [t1]
        unfold fwA
        rcases c with rfl | rfl
        · simp only [f_X9_fewest_J15, ↓hvc (fun _ => vc_0), ↓hbind c_da1, ↓thr_ok, ↓hbind e1, z', ↓reduceIte, ↓hbind e2, y', f_X9_fewest_J46, if_neg z, y2]
        · simp only [f_X9_fewest_J15, ↓hvc (fun _ => vc_0), ↓hbind c_da1, ↓thr_ok, ↓hbind e1, z', ↓reduceIte, ↓hbind e2, y', z_1, f_X9_fewest_J46, if_neg z, y2]
  refine LB_ok hT hM (SFw.uq hB) hc (fun μ' hν => ?_)
  -- the model
  have t2 : f_X10_fewest 168 x (mem μ') = f_X10_fewest_J20 168 x 168 0 (mem (tz μ')) := by
    simp only [f_X10_fewest, ↓hbind pI_t0, ↓hbind (m_in01 c), z_1, ↓reduceIte]
  obtain ⟨ω, e4, f4⟩ := m_nuG hν.t.1 hE
  have m4 := hν.t.1.fr f4 fun q i a z => by unfold FR at a; unfold Fk at z; omega
  have fin : ∀ (ζ : MM) (r : Int32), f_X10_fewest 168 x (mem μ') = some (r, mem ζ) → Fr FBk ω ζ → MR ζ 0 (aB A) → (∃ v u, FST (Qa (gE (aB A))) 0 v ∧ ((∀ w t, ¬ al (gE (aB A)) w t) → nN (gE (aB A)) ≠ 0 → FST (Qb (gE (aB A))) 0 u) ∧ r = fwA (nN (gE (aB A))) x v u) → MX μ' (f_X10_fewest 168 x (mem μ')) wc_L_fewest (SFw A x) := fun ζ r e f m h => by
    have f' : Fr (fun q i => QM q i ∨ FR 0 q i) (tz μ') ζ := (f4.mono fun q i z => Or.inl z.Q).trans (f.mono fun q i z => z.elim (fun y => Or.inr (by unfold FR; omega)) fun y => Or.inl y.Q)
    obtain ⟨v, u, h1, h2, h3⟩ := h
    refine ⟨r, .inl r, ζ, A, e, t0_ML.trans (CQ_ML f' fun _ _ z => z), hν.t.re f' m, ⟨rfl, v, u, h1, h2, by rw [h3]⟩, ?_, rfl⟩
    rw [(f _ _ (by unfold FBk Fk; omega)).1, (f4 _ _ (by unfold Fk; omega)).1]; exact t0_0
  obtain ⟨ζ, v, e5, f5, m5, fs⟩ := m_first0 hN 39 ω (aB A) 0 (by omega) m4 hE
  have e5 : f_X10_firstBut 40 168 0 (Int32.ofNat (nN (gE (aB A)))) 0 (mem ω) = some (v, mem ζ) := e5
  have fa : FST (Qa (gE (aB A))) 0 v := by
    rcases fs with ⟨a, b⟩ | ⟨j, a, b, c', d, e⟩
    · exact Or.inl ⟨a, fun k x y z => b k x y (P1_Qa.mpr z)⟩
    · exact Or.inr ⟨j, a, b, c', P1_Qa.mp d, fun i x y z => e i x y (P1_Qa.mpr z)⟩
  by_cases z : nN (gE (aB A)) = 0
  · have e4' : f_X10_nu 168 (mem (tz μ')) = some (0, mem ω) := by rw [z] at e4; exact e4
    refine fin ω (-1) ?_ (Fr.refl _ _) m4 ⟨v, 0, fa, fun _ y => absurd z y, (if_pos z).symm⟩
    rw [t2]
    simp only [f_X10_fewest_J20, ↓hvc (fun _ => vc_168), ↓hbind m_b0t, ↓reduceIte, ↓hbind e4', f_X10_fewest_J50, z_4, f_X10_fewest_J74, f_X10_fewest_J104]
  · have z' : (Int32.ofNat (nN (gE (aB A))) = 0) = False := by rw [leq_0 (by omega)]; exact eq_false z
    have z2 : (Int32.ofNat (nN (gE (aB A))) ≤ 0) = False := by rw [lle_0 (by omega)]; exact eq_false (by omega)
    by_cases d : v = -1
    · have na := Qa_no hB (by rw [d] at fa; exact fa)
      obtain ⟨η, u, e6, f6, m6, us⟩ := m_first1 hN 38 ζ m5 hE
      have e6 : f_X10_firstBut 40 168 0 (Int32.ofNat (nN (gE (aB A)))) 1 (mem ζ) = some (u, mem η) := e6
      have fb : FST (Qb (gE (aB A))) 0 u := by
        rcases us with ⟨a, b⟩ | ⟨j, a, b, c', d', e'⟩
        · refine Or.inl ⟨a, fun k x y z => ?_⟩
          have key : ∀ n k, k ≤ n → k < 144 → ¬ Qb (gE (aB A)) k := by
            intro n
            induction n with
            | zero => exact fun k k0 y z => b k (by omega) y (Qb_P2 hB y na z fun j _ j2 => absurd j2 (by omega))
            | succ n ih => exact fun k k0 y z => b k (by omega) y (Qb_P2 hB y na z fun j _ j2 => ih j (by omega) (by omega))
          exact key k k (Nat.le_refl _) y z
        · have key : ∀ n k, k ≤ n → k < j → ¬ Qb (gE (aB A)) k := by
            intro n
            induction n with
            | zero => exact fun k k0 y z => e' k (by omega) y (Qb_P2 hB (by omega) na z fun j _ j2 => absurd j2 (by omega))
            | succ n ih => exact fun k k0 y z => e' k (by omega) y (Qb_P2 hB (by omega) na z fun j _ j2 => ih j (by omega) (by omega))
          exact Or.inr ⟨j, a, b, c', P2_Qb hB na d', fun i _ y => key i i (Nat.le_refl _) y⟩
      refine fin η (fwA (nN (gE (aB A))) x v u) ?_ (f5.trans f6) m6 ⟨v, u, fa, fun _ _ => fb, rfl⟩
      rw [t2]
      unfold fwA
      rw [d] at e5 ⊢
      by_cases y : u = -1
      · rw [y] at e6 ⊢
        simp only [f_X10_fewest_J20, ↓hvc (fun _ => vc_168), ↓hbind m_b0t, ↓reduceIte, ↓hbind e4, z', ↓hbind e5, f_X10_fewest_J50, z2, ↓hbind e6, f_X10_fewest_J74, f_X10_fewest_J104, if_neg z]
      · unfold cd
        rcases c with rfl | rfl
        · simp only [f_X10_fewest_J20, ↓hvc (fun _ => vc_168), ↓hbind m_b0t, ↓reduceIte, ↓hbind e4, z', ↓hbind e5, f_X10_fewest_J50, z2, ↓hbind e6, f_X10_fewest_J74, f_X10_fewest_J104, if_neg z, if_neg y]
        · simp only [f_X10_fewest_J20, ↓hvc (fun _ => vc_168), ↓hbind m_b0t, ↓reduceIte, ↓hbind e4, z', ↓hbind e5, f_X10_fewest_J50, z2, ↓hbind e6, f_X10_fewest_J74, f_X10_fewest_J104, z_1, if_neg z, if_neg y]
    · refine fin ζ (fwA (nN (gE (aB A))) x v 0) ?_ f5 m5 ⟨v, 0, fa, fun na => ?_, rfl⟩
      · rw [t2]
        unfold fwA cd
        rcases c with rfl | rfl
        · simp only [f_X10_fewest_J20, ↓hvc (fun _ => vc_168), ↓hbind m_b0t, ↓reduceIte, ↓hbind e4, z', ↓hbind e5, f_X10_fewest_J50, f_X10_fewest_J74, f_X10_fewest_J104, if_neg z, if_neg d]
        · simp only [f_X10_fewest_J20, ↓hvc (fun _ => vc_168), ↓hbind m_b0t, ↓reduceIte, ↓hbind e4, z', ↓hbind e5, f_X10_fewest_J50, f_X10_fewest_J74, f_X10_fewest_J104, z_1, if_neg z, if_neg d]
      · rcases fa with ⟨a, _⟩ | ⟨j, _, _, _, p, _⟩
        · exact absurd a d
        · exact absurd p (na _ _)
theorem op_fewest (hT : TF T) (hA : AOK A) (hC : RC T μ A) (hM : RM μ A) (x : Int32) : OKc T μ (LB wc_L_fewest (f_X9_fewest 0 x) (f_X10_fewest 168 x)) := by
  by_cases c : x = 0 ∨ x = 1
  · exact op_fewest_k hT hA hC hM c
  · have d1 : ¬ x = 0 := fun z => c (Or.inl z)
    have d2 : ¬ x = 1 := fun z => c (Or.inr z)
    refine LB_ok hT hM (SA.uq (A := A)) (CX_A hT hC hA fun ν e => ?_) (fun ν hν => MX_A hν (w := 1) (b := 0) rfl (by decide) ?_)
    · simp only [f_X9_fewest, f_X9_fewest_J15, if_neg d1, if_neg d2, ↓hvc (fun _ => vc_0), ↓hbind e, ↓thr_er]
    · simp only [f_X10_fewest, f_X10_fewest_J20, ↓hbind pI_t0, ↓hbind (m_out01 c), ↓reduceIte, ↓hvc (fun _ => vc_168), ↓hbind (m_bA (show (1 : Int32) ≠ 0 by decide)), z_1]
end O21
