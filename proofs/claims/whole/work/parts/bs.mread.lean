/-! THE MODEL: a text's small things -/
def MP (ν : MM) (n : Nat) (y : Nat → Nat) (p : Nat) : Prop := ν.1 168 3 = Int32.ofNat n ∧ ν.1 168 4 = Int32.ofNat p ∧ ∀ k, k < n → ν.1 170 k = Int32.ofNat (y k)
def G4 (q i : Nat) : Prop := q = 168 ∧ i = 4
def G415 (q i : Nat) : Prop := q = 168 ∧ (i = 4 ∨ i = 15)
def G67 (q i : Nat) : Prop := q = 168 ∧ (i = 6 ∨ i = 7)
def GX (q i : Nat) : Prop := (q = 168 ∧ (i = 4 ∨ i = 6 ∨ i = 7 ∨ i = 15 ∨ i = 16)) ∨ FR 1 q i
theorem G4.X {q i : Nat} (h : G4 q i) : GX q i := by unfold G4 at h; unfold GX; omega
theorem G415.X {q i : Nat} (h : G415 q i) : GX q i := by unfold G415 at h; unfold GX; omega
theorem G67.X {q i : Nat} (h : G67 q i) : GX q i := by unfold G67 at h; unfold GX; omega
theorem G4.F {q i : Nat} (h : G4 q i) : G415 q i := by unfold G4 at h; unfold G415; omega
section Mp
variable {μ ν : MM} {n p : Nat} {y : Nat → Nat}
theorem MP.at (h : MP ν n y p) (q : Nat) : MP (st ν 168 4 (Int32.ofNat q)) n y q := ⟨by rw [st_ne (Or.inr (by omega))]; exact h.1, st_same _ _ _ _, fun k hk => by rw [st_ne (Or.inl (by omega))]; exact h.2.2 k hk⟩
theorem MP.fr {P : Nat → Nat → Prop} (h : MP μ n y p) (f : Fr P μ ν) (h1 : ¬ P 168 3) (h2 : ¬ P 168 4) (h3 : ∀ k, ¬ P 170 k) : MP ν n y p := ⟨by rw [(f _ _ h1).1]; exact h.1, by rw [(f _ _ h2).1]; exact h.2.1, fun k hk => by rw [(f _ _ (h3 k)).1]; exact h.2.2 k hk⟩
theorem m_byteAt (hn : n ≤ 300) (h : MP ν n y p) {k : Nat} (hk : k < 2147483648) : f_X10_byteAt 168 (Int32.ofNat k) (mem ν) = some (byI n y k, mem ν) := by
  have c2 : (Int32.ofNat k < Int32.ofNat n) = (k < n) := oN_lt hk (by omega)
  by_cases z : k < n
  · have c2 := c2.trans (eq_true z)
    rw [byI_in z]
    simp only [f_X10_byteAt, ↓hbind gI_168_3, h.1, c2, ↓reduceIte, ↓hbind gR_168_8, ↓hbind (aI_170 (show k < 300 by omega)), h.2.2 k z, f_X10_byteAt_J18]
  · have c2 := c2.trans (eq_false z)
    rw [byI_out z]
    simp only [f_X10_byteAt, ↓hbind gI_168_3, h.1, c2, ↓reduceIte, f_X10_byteAt_J18]
theorem m_isDigit (hy : ∀ k, y k < 256) {k : Nat} {h : xH} : f_X10_isDigit (byI n y k) h = some (bI (decide (k < n) && dgY y k), h) := by
  by_cases z : k < n
  · have := hy k
    have c1 : (Int32.ofNat (y k) < 48) = (y k < 48) := llt_48 (by omega)
    have c2 : (Int32.ofNat (y k) > 57) = (57 < y k) := lgt_57 (by omega)
    rw [byI_in z, decide_eq_true z]
    unfold dgY
    by_cases a : y k < 48
    · rw [decide_eq_false (show ¬ 48 ≤ y k by omega)]
      have c1 := c1.trans (eq_true a)
      simp only [f_X10_isDigit, c1, ↓reduceIte, f_X10_isDigit_J16, f_X10_isDigit_J17, j01_0, true_or, or_true]
      rfl
    · have c1 := c1.trans (eq_false a)
      rw [decide_eq_true (show 48 ≤ y k by omega)]
      by_cases b : 57 < y k
      · rw [decide_eq_false (show ¬ y k ≤ 57 by omega)]
        have c2 := c2.trans (eq_true b)
        simp only [f_X10_isDigit, c1, c2, ↓reduceIte, f_X10_isDigit_J16, f_X10_isDigit_J17, j01_0, true_or, or_true]
        rfl
      · rw [decide_eq_true (show y k ≤ 57 by omega)]
        have c2 := c2.trans (eq_false b)
        simp only [f_X10_isDigit, c1, c2, ↓reduceIte, f_X10_isDigit_J17, j01_1, true_or, or_true]
        rfl
  · rw [byI_out z, decide_eq_false z]
    have c1 : ((-1 : Int32) < 48) = True := eq_true (by decide)
    simp only [f_X10_isDigit, c1, ↓reduceIte, f_X10_isDigit_J16, f_X10_isDigit_J17, j01_0, true_or, or_true]
    rfl
theorem m_isSmall (hy : ∀ k, y k < 256) {k : Nat} {h : xH} : f_X10_isSmall (byI n y k) h = some (bI (decide (k < n) && smY y k), h) := by
  by_cases z : k < n
  · have := hy k
    have c1 : (Int32.ofNat (y k) < 97) = (y k < 97) := llt_97 (by omega)
    have c2 : (Int32.ofNat (y k) > 122) = (122 < y k) := lgt_122 (by omega)
    rw [byI_in z, decide_eq_true z]
    unfold smY
    by_cases a : y k < 97
    · rw [decide_eq_false (show ¬ 97 ≤ y k by omega)]
      have c1 := c1.trans (eq_true a)
      simp only [f_X10_isSmall, c1, ↓reduceIte, f_X10_isSmall_J16, f_X10_isSmall_J17, j01_0, true_or, or_true]
      rfl
    · have c1 := c1.trans (eq_false a)
      rw [decide_eq_true (show 97 ≤ y k by omega)]
      by_cases b : 122 < y k
      · rw [decide_eq_false (show ¬ y k ≤ 122 by omega)]
        have c2 := c2.trans (eq_true b)
        simp only [f_X10_isSmall, c1, c2, ↓reduceIte, f_X10_isSmall_J16, f_X10_isSmall_J17, j01_0, true_or, or_true]
        rfl
      · rw [decide_eq_true (show y k ≤ 122 by omega)]
        have c2 := c2.trans (eq_false b)
        simp only [f_X10_isSmall, c1, c2, ↓reduceIte, f_X10_isSmall_J17, j01_1, true_or, or_true]
        rfl
  · rw [byI_out z, decide_eq_false z]
    have c1 : ((-1 : Int32) < 97) = True := eq_true (by decide)
    simp only [f_X10_isSmall, c1, ↓reduceIte, f_X10_isSmall_J16, f_X10_isSmall_J17, j01_0, true_or, or_true]
    rfl
/-- behind the blanks -/
theorem m_here_loop (hn : n ≤ 300) (hy : ∀ k, y k < 256) : ∀ (d p : Nat) (ν : MM), p + d = n → MP ν n y p → ∃ ξ, (∀ f K, f_X10_here_L0 K (d + 1 + f) 168 (mem ν) = K 168 (mem ξ)) ∧ MP ξ n y (rnE (blY y) d p) ∧ Fr G4 ν ξ
  | 0, p, ν, hd, h => by
    have eb := m_byteAt hn h (k := p) (by omega)
    rw [byI_out (by omega)] at eb
    have c1 : ((-1 : Int32) = 32) = False := by decide
    refine ⟨ν, fun f K => ?_, h, Fr.refl _ _⟩
    rw [show 0 + 1 + f = f + 1 by omega]
    simp only [f_X10_here_L0, ↓hbind gI_168_4, h.2.1, ↓hvc (fun _ => vc_168), ↓hbind eb, c1, ↓reduceIte]
  | d + 1, p, ν, hd, h => by
    have eb := m_byteAt hn h (k := p) (by omega)
    rw [byI_in (by omega)] at eb
    have := hy p
    have c2 : (Int32.ofNat (y p) = 32) = (y p = 32) := leq_32 (by omega)
    by_cases z : y p = 32
    · have c2 := c2.trans (eq_true z)
      have zb : blY y p = true := decide_eq_true z
      have ep : pI (mem ν) 10 168 4 (Int32.ofNat p + 1) = some (mem (st ν 168 4 (Int32.ofNat (p + 1)))) := by rw [i_succ]; exact pI_168_4
      obtain ⟨ξ, a, b, g⟩ := m_here_loop hn hy d (p + 1) (st ν 168 4 (Int32.ofNat (p + 1))) (by omega) (h.at (p + 1))
      refine ⟨ξ, fun f K => ?_, by rw [rnE_s zb]; exact b, ((Fr.refl _ _).st ⟨rfl, rfl⟩).trans g⟩
      rw [show d + 1 + 1 + f = d + 1 + f + 1 by omega, ← a f K]
      simp only [f_X10_here_L0, ↓hbind gI_168_4, h.2.1, ↓hvc (fun _ => vc_168), ↓hbind eb, c2, ↓reduceIte, ↓hbind ep]
    · have c2 := c2.trans (eq_false z)
      have zb : blY y p = false := decide_eq_false z
      refine ⟨ν, fun f K => ?_, by rw [rnE_0 zb]; exact h, Fr.refl _ _⟩
      rw [show d + 1 + 1 + f = d + 1 + f + 1 by omega]
      simp only [f_X10_here_L0, ↓hbind gI_168_4, h.2.1, ↓hvc (fun _ => vc_168), ↓hbind eb, c2, ↓reduceIte]
theorem m_here (hn : n ≤ 300) (hy : ∀ k, y k < 256) (hp : p ≤ n) (h : MP ν n y p) : ∃ ξ, f_X10_here 168 (mem ν) = some (byI n y (skp n y p), mem ξ) ∧ MP ξ n y (skp n y p) ∧ Fr G4 ν ξ := by
  obtain ⟨ξ, a, b, g⟩ := m_here_loop hn hy (n - p) p ν (by omega) h
  have l := skp_le (y := y) hp
  have b : MP ξ n y (skp n y p) := b
  refine ⟨ξ, ?_, b, g⟩
  have a := a (5000 - (n - p + 1)) f_X10_here_J26
  rw [show n - p + 1 + (5000 - (n - p + 1)) = 5000 by omega] at a
  have eb := m_byteAt hn b (k := skp n y p) (by omega)
  have e2 : f_X10_here_J26 168 (mem ξ) = some (byI n y (skp n y p), mem ξ) := by
    simp only [f_X10_here_J26, ↓hbind gI_168_4, b.2.1, ↓hvc (fun _ => vc_168), ↓hbind eb]
  rw [← e2, ← a]
  simp only [f_X10_here]
theorem m_fine1 (h : ν.1 168 6 = 0) : f_X10_fine 168 (mem ν) = some (1, mem ν) := by
  simp only [f_X10_fine, ↓hbind gI_168_6, h, ↓reduceIte, f_X10_fine_J12, j01_1, true_or, or_true]
theorem m_fine0 (h : ν.1 168 6 ≠ 0) : f_X10_fine 168 (mem ν) = some (0, mem ν) := by
  have c := eq_false h
  simp only [f_X10_fine, ↓hbind gI_168_6, c, ↓reduceIte, f_X10_fine_J12, j01_0, true_or, or_true]
theorem m_wrong1 (h : ν.1 168 6 = 0) {a q : Int32} : ∃ ξ, f_X10_wrong 168 a q (mem ν) = some (mem ξ) ∧ Fr G67 ν ξ ∧ ξ.1 168 6 = a ∧ ξ.1 168 7 = q := by
  refine ⟨st (st ν 168 6 a) 168 7 q, ?_, ((Fr.refl _ _).st ⟨rfl, Or.inl rfl⟩).st ⟨rfl, Or.inr rfl⟩, by rw [st_ne (Or.inr (by omega)), st_same], st_same _ _ _ _⟩
  simp only [f_X10_wrong, ↓hbind gI_168_6, h, ↓reduceIte, ↓hbind pI_168_6, ↓hbind pI_168_7, f_X10_wrong_J17]
theorem m_wrong0 (h : ν.1 168 6 ≠ 0) {a q : Int32} : f_X10_wrong 168 a q (mem ν) = some (mem ν) := by
  have c := eq_false h
  simp only [f_X10_wrong, ↓hbind gI_168_6, c, ↓reduceIte, f_X10_wrong_J17]
/-- numbers -/
theorem oN_dig2 {v b : Nat} (h : 48 ≤ b) : (10 : Int32) * Int32.ofNat v + Int32.ofNat b - 48 = Int32.ofNat (10 * v + (b - 48)) := by
  rw [show (10 : Int32) = Int32.ofNat 10 from rfl, show (48 : Int32) = Int32.ofNat 48 from rfl, oN_mul, oN_add, oN_sub (by omega)]
  congr 1; omega
theorem m_num_loop (hn : n ≤ 300) (hy : ∀ k, y k < 256) : ∀ (d p v : Nat) (ν : MM), p + d = n → v ≤ 1000000 → MP ν n y p → ∃ ξ, (∀ f K x1 x2, f_X10_number_L38 K (d + 1 + f) 168 x1 x2 (Int32.ofNat v) (mem ν) = K 168 x1 x2 (Int32.ofNat (vlC 1000000 y (rnE (dgY y) d p - p) p v)) (mem ξ)) ∧ MP ξ n y (rnE (dgY y) d p) ∧ Fr G4 ν ξ
  | 0, p, v, ν, hd, hv, h => by
    have eb := m_byteAt hn h (k := p) (by omega)
    have ed := m_isDigit (n := n) hy (k := p) (h := mem ν)
    rw [decide_eq_false (show ¬ p < n by omega), Bool.false_and] at ed
    have e0 : rnE (dgY y) 0 p - p = 0 := Nat.sub_self p
    refine ⟨ν, fun f K x1 x2 => ?_, h, Fr.refl _ _⟩
    rw [show 0 + 1 + f = f + 1 by omega, e0]
    simp only [f_X10_number_L38, ↓hbind gI_168_4, h.2.1, ↓hvc (fun _ => vc_168), ↓hbind eb, ↓hbind ed, show bI false = 0 from rfl, ↓reduceIte, vlC]
  | d + 1, p, v, ν, hd, hv, h => by
    have eb := m_byteAt hn h (k := p) (by omega)
    have ed := m_isDigit (n := n) hy (k := p) (h := mem ν)
    rw [decide_eq_true (show p < n by omega), Bool.true_and] at ed
    cases z : dgY y p with
    | true =>
      rw [z] at ed
      have l := rnE_le (P := dgY y) d (p + 1)
      have y48 : 48 ≤ y p := by
        unfold dgY at z
        rw [Bool.and_eq_true, decide_eq_true_eq] at z
        exact z.1
      have := hy p
      have el := m_less (x := 1000000) (y := 10 * v + (y p - 48)) (h := mem ν) (by decide) (by omega)
      have el : f_X10_less 1000000 (10 * Int32.ofNat v + Int32.ofNat (y p) - 48) (mem ν) = some (Int32.ofNat (min 1000000 (10 * v + (y p - 48))), mem ν) := by rw [oN_dig2 y48]; exact el
      have ep : pI (mem ν) 10 168 4 (Int32.ofNat p + 1) = some (mem (st ν 168 4 (Int32.ofNat (p + 1)))) := by rw [i_succ]; exact pI_168_4
      have er : rnE (dgY y) (d + 1) p - p = (rnE (dgY y) d (p + 1) - (p + 1)) + 1 := by rw [rnE_s z]; omega
      have ev : vlC 1000000 y ((rnE (dgY y) d (p + 1) - (p + 1)) + 1) p v = vlC 1000000 y (rnE (dgY y) d (p + 1) - (p + 1)) (p + 1) (min 1000000 (10 * v + (y p - 48))) := rfl
      obtain ⟨ξ, a, b, g⟩ := m_num_loop hn hy d (p + 1) (min 1000000 (10 * v + (y p - 48))) (st ν 168 4 (Int32.ofNat (p + 1))) (by omega) (by omega) (h.at (p + 1))
      refine ⟨ξ, fun f K x1 x2 => ?_, by rw [rnE_s z]; exact b, ((Fr.refl _ _).st ⟨rfl, rfl⟩).trans g⟩
      rw [er, ev, show d + 1 + 1 + f = d + 1 + f + 1 by omega, ← a f K x1 x2]
      rw [byI_in (by omega)] at eb ed
      simp only [f_X10_number_L38, ↓hbind gI_168_4, h.2.1, ↓hvc (fun _ => vc_168), ↓hbind eb, ↓hbind ed, show bI true = 1 from rfl, z_1, ↓reduceIte, ↓hbind el, ↓hbind ep]
    | false =>
      rw [z] at ed
      have e0 : rnE (dgY y) (d + 1) p - p = 0 := by rw [rnE_0 z]; omega
      refine ⟨ν, fun f K x1 x2 => ?_, by rw [rnE_0 z]; exact h, Fr.refl _ _⟩
      rw [e0, show d + 1 + 1 + f = d + 1 + f + 1 by omega]
      simp only [f_X10_number_L38, ↓hbind gI_168_4, h.2.1, ↓hvc (fun _ => vc_168), ↓hbind eb, ↓hbind ed, show bI false = 0 from rfl, ↓reduceIte, vlC]
theorem m_num_no (h : ν.1 168 6 ≠ 0) {lo hi : Int32} : f_X10_number 168 lo hi (mem ν) = some (lo, mem ν) := by
  simp only [f_X10_number, ↓hvc (fun _ => vc_168), ↓hbind (m_fine0 h), ↓reduceIte]
/-- as far as the digits' end -/
theorem m_num_28 (hn : n ≤ 300) (hy : ∀ k, y k < 256) {s : Nat} (hs : s ≤ n) (h : MP ν n y s) : ∃ ξ, (∀ x1 x2, f_X10_number_J28 168 x1 x2 (mem ν) = f_X10_number_J87 168 x1 x2 (Int32.ofNat (min 1000000 (vlY y (dge n y s - s) s 0))) (mem ξ)) ∧ MP ξ n y (dge n y s) ∧ ξ.1 168 15 = Int32.ofNat s ∧ Fr G415 ν ξ := by
  obtain ⟨ν1, hd⟩ : ∃ x, x = st ν 168 15 (Int32.ofNat s) := ⟨_, rfl⟩
  have f1 : Fr (fun q i => q = 168 ∧ i = 15) ν ν1 := by rw [hd]; exact (Fr.refl _ _).st ⟨rfl, rfl⟩
  obtain ⟨ξ, a, b, g⟩ := m_num_loop hn hy (n - s) s 0 ν1 (by omega) (by omega) (h.fr f1 (by omega) (by omega) (by omega))
  refine ⟨ξ, fun x1 x2 => ?_, b, by rw [(g _ _ (by unfold G4; omega)).1, hd, st_same], (f1.mono fun q i z => by unfold G415; omega).trans (g.mono fun _ _ z => z.F)⟩
  have a := a (5000 - (n - s + 1)) f_X10_number_J87 x1 x2
  have e : rnE (dgY y) (n - s) s = dge n y s := rfl
  rw [show n - s + 1 + (5000 - (n - s + 1)) = 5000 by omega, e, vlC_eq (by decide)] at a
  have a : f_X10_number_L38 f_X10_number_J87 5000 168 x1 x2 0 (mem ν1) = _ := a
  rw [hd] at a
  simp only [f_X10_number_J28, ↓hbind gI_168_4, h.2.1, ↓hbind pI_168_15, a]
theorem m_num_ok (hn : n ≤ 300) (hy : ∀ k, y k < 256) (hp : p ≤ n) (h : MP ν n y p) (h6 : ν.1 168 6 = 0) {lo hi v s e : Nat} (l99 : lo ≤ 99) (h99 : hi ≤ 99) (q : num n y p lo hi = .inr (v, s, e)) : ∃ ξ, f_X10_number 168 (Int32.ofNat lo) (Int32.ofNat hi) (mem ν) = some (Int32.ofNat v, mem ξ) ∧ MP ξ n y e ∧ ξ.1 168 15 = Int32.ofNat s ∧ Fr G415 ν ξ := by
  obtain ⟨q1, q2, q3, q4, q5, q6, q7, q8⟩ := num_ok hp q
  obtain ⟨ν1, e1, r1, f1⟩ := m_here hn hy hp h
  rw [← q1] at r1 e1
  have ed := m_isDigit (n := n) hy (k := s) (h := mem ν1)
  have zd : dgY y s = true := by
    cases z : dgY y s with
    | true => rfl
    | false =>
      have : dge n y s = s := rnE_0 z
      omega
  rw [decide_eq_true (show s < n by omega), zd] at ed
  obtain ⟨ξ, e2, r2, b2, f2⟩ := m_num_28 hn hy (by omega) r1
  rw [← q2] at r2
  have e2 := e2 (Int32.ofNat lo) (Int32.ofNat hi)
  rw [← q2, ← q3, Nat.min_eq_right (by omega)] at e2
  have ff : Fr G415 ν ξ := (f1.mono fun _ _ z => z.F).trans f2
  have h6' : ξ.1 168 6 = 0 := by rw [(ff _ _ (by unfold G415; omega)).1]; exact h6
  have ei : f_X10_in (Int32.ofNat v) (Int32.ofNat lo) (Int32.ofNat hi) (mem ξ) = some (1, mem ξ) := by
    rw [m_in, decide_eq_true (show Int32.ofNat lo ≤ Int32.ofNat v ∧ Int32.ofNat v ≤ Int32.ofNat hi by rw [oN_le (by omega) (by omega), oN_le (by omega) (by omega)]; omega)]
    rfl
  refine ⟨ξ, ?_, r2, b2, ff⟩
  have e3 : f_X10_number_J87 168 (Int32.ofNat lo) (Int32.ofNat hi) (Int32.ofNat v) (mem ξ) = some (Int32.ofNat v, mem ξ) := by
    simp only [f_X10_number_J87, ↓hbind ei, z_1, ↓reduceIte, f_X10_number_J105, ↓hvc (fun _ => vc_168), ↓hbind (m_fine1 h6'), f_X10_number_J117]
  rw [← e3, ← e2]
  simp only [f_X10_number, ↓hvc (fun _ => vc_168), ↓hbind (m_fine1 h6), z_1, ↓reduceIte, ↓hbind e1, ↓hbind ed, Bool.and_self, show bI true = 1 from rfl]
theorem m_num_er (hn : n ≤ 300) (hy : ∀ k, y k < 256) (hp : p ≤ n) (h : MP ν n y p) (h6 : ν.1 168 6 = 0) {lo hi a q : Nat} (l99 : lo ≤ 99) (h99 : hi ≤ 99) (hq : num n y p lo hi = .inl (a, q)) : ∃ ξ, f_X10_number 168 (Int32.ofNat lo) (Int32.ofNat hi) (mem ν) = some (Int32.ofNat lo, mem ξ) ∧ Fr GX ν ξ ∧ ξ.1 168 6 = Int32.ofNat a ∧ ξ.1 168 7 = Int32.ofNat q := by
  have l1 := skp_le (y := y) hp
  obtain ⟨ν1, e1, r1, f1⟩ := m_here hn hy hp h
  have h61 : ν1.1 168 6 = 0 := by rw [(f1 _ _ (by unfold G4; omega)).1]; exact h6
  have ed := m_isDigit (n := n) hy (k := skp n y p) (h := mem ν1)
  have l2 := dge_le (y := y) l1.2
  unfold num at hq
  by_cases z : dge n y (skp n y p) = skp n y p
  · rw [if_pos z] at hq
    cases hq
    have zd : (decide (skp n y p < n) && dgY y (skp n y p)) = false := by
      cases x : (decide (skp n y p < n) && dgY y (skp n y p)) with
      | false => rfl
      | true =>
        rw [Bool.and_eq_true, decide_eq_true_eq] at x
        obtain ⟨d, hd⟩ : ∃ d, n - skp n y p = d + 1 := ⟨n - skp n y p - 1, by omega⟩
        have e : dge n y (skp n y p) = rnE (dgY y) d (skp n y p + 1) := by
          show rnE (dgY y) (n - skp n y p) (skp n y p) = _
          rw [hd, rnE_s x.2]
        have := rnE_le (P := dgY y) d (skp n y p + 1)
        omega
    rw [zd] at ed
    obtain ⟨ν2, e2, f2, v1, v2⟩ := m_wrong1 h61 (a := 1) (q := Int32.ofNat (skp n y p))
    obtain ⟨ξ, e3, r3, b3, f3⟩ := m_num_28 (ν := ν2) hn hy l1.2 (r1.fr f2 (by unfold G67; omega) (by unfold G67; omega) (fun k => by unfold G67; omega))
    have h6' : ξ.1 168 6 ≠ 0 := by rw [(f3 _ _ (by unfold G415; omega)).1, v1]; decide
    refine ⟨ξ, ?_, ((f1.mono fun _ _ z => z.X).trans (f2.mono fun _ _ z => z.X)).trans (f3.mono fun _ _ z => z.X), by rw [(f3 _ _ (by unfold G415; omega)).1, v1]; rfl, by rw [(f3 _ _ (by unfold G415; omega)).1, v2]⟩
    have e4 : ∀ x3, f_X10_number_J87 168 (Int32.ofNat lo) (Int32.ofNat hi) x3 (mem ξ) = some (Int32.ofNat lo, mem ξ) := fun x3 => by
      have ei := m_in (v := x3) (a := Int32.ofNat lo) (b := Int32.ofNat hi) (h := mem ξ)
      cases x : decide (Int32.ofNat lo ≤ x3 ∧ x3 ≤ Int32.ofNat hi) with
      | true =>
        rw [x] at ei
        simp only [f_X10_number_J87, ↓hbind ei, show bI true = 1 from rfl, z_1, ↓reduceIte, f_X10_number_J105, ↓hvc (fun _ => vc_168), ↓hbind (m_fine0 h6'), f_X10_number_J117]
      | false =>
        rw [x] at ei
        simp only [f_X10_number_J87, ↓hbind ei, show bI false = 0 from rfl, ↓reduceIte, ↓hbind gI_168_15, ↓hvc (fun _ => vc_168), ↓hbind (m_wrong0 h6'), f_X10_number_J105, ↓hbind (m_fine0 h6'), f_X10_number_J117]
    rw [← e4, ← e3]
    simp only [f_X10_number, ↓hvc (fun _ => vc_168), ↓hbind (m_fine1 h6), z_1, ↓reduceIte, ↓hbind e1, ↓hbind ed, show bI false = 0 from rfl, ↓hbind gI_168_4, r1.2.1, ↓hbind e2]
  · rw [if_neg z] at hq
    have zd : dgY y (skp n y p) = true := by
      cases x : dgY y (skp n y p) with
      | true => rfl
      | false => exact absurd (rnE_0 x) z
    rw [decide_eq_true (show skp n y p < n by omega), zd] at ed
    by_cases x : lo ≤ vlY y (dge n y (skp n y p) - skp n y p) (skp n y p) 0 ∧ vlY y (dge n y (skp n y p) - skp n y p) (skp n y p) 0 ≤ hi
    · rw [if_pos x] at hq; cases hq
    · rw [if_neg x] at hq
      cases hq
      obtain ⟨ν2, e2, r2, b2, f2⟩ := m_num_28 hn hy l1.2 r1
      obtain ⟨V, hV⟩ : ∃ V, V = vlY y (dge n y (skp n y p) - skp n y p) (skp n y p) 0 := ⟨_, rfl⟩
      rw [← hV] at x e2
      have h62 : ν2.1 168 6 = 0 := by rw [(f2 _ _ (by unfold G415; omega)).1]; exact h61
      obtain ⟨ξ, e3, f3, v1, v2⟩ := m_wrong1 h62 (a := 2) (q := Int32.ofNat (skp n y p))
      have h6' : ξ.1 168 6 ≠ 0 := by rw [v1]; decide
      have ei : f_X10_in (Int32.ofNat (min 1000000 V)) (Int32.ofNat lo) (Int32.ofNat hi) (mem ν2) = some (0, mem ν2) := by
        rw [m_in, decide_eq_false (show ¬ (Int32.ofNat lo ≤ Int32.ofNat (min 1000000 V) ∧ Int32.ofNat (min 1000000 V) ≤ Int32.ofNat hi) by rw [oN_le (by omega) (by omega), oN_le (by omega) (by omega)]; omega)]
        rfl
      refine ⟨ξ, ?_, ((f1.mono fun _ _ z => z.X).trans (f2.mono fun _ _ z => z.X)).trans (f3.mono fun _ _ z => z.X), v1, v2⟩
      have e4 : f_X10_number_J87 168 (Int32.ofNat lo) (Int32.ofNat hi) (Int32.ofNat (min 1000000 V)) (mem ν2) = some (Int32.ofNat lo, mem ξ) := by
        simp only [f_X10_number_J87, ↓hbind ei, ↓reduceIte, ↓hbind gI_168_15, b2, ↓hvc (fun _ => vc_168), ↓hbind e3, f_X10_number_J105, ↓hbind (m_fine0 h6'), f_X10_number_J117]
      rw [← e4, ← e2]
      simp only [f_X10_number, ↓hvc (fun _ => vc_168), ↓hbind (m_fine1 h6), z_1, ↓reduceIte, ↓hbind e1, ↓hbind ed, Bool.and_self, show bI true = 1 from rfl]
end Mp
