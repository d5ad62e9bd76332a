/-! THE CLASS: the reader's small things -/
variable {Ξ : xH}
def RP (ν : MM) (n : Nat) (y : Nat → Nat) (p : Nat) : Prop := ν.1 139 4 = Int32.ofNat n ∧ ν.1 139 5 = Int32.ofNat p ∧ ∀ k, k < n → ν.1 140 k = Int32.ofNat (y k)
def F5 (q i : Nat) : Prop := q = 139 ∧ i = 5
def F56 (q i : Nat) : Prop := q = 139 ∧ (i = 5 ∨ i = 6)
def F23 (q i : Nat) : Prop := q = 139 ∧ (i = 2 ∨ i = 3)
def F2356 (q i : Nat) : Prop := q = 139 ∧ (i = 2 ∨ i = 3 ∨ i = 5 ∨ i = 6)
theorem j01_0 : ((0 : Int32) = 0 ∨ (0 : Int32) = 1) = True := eq_true (Or.inl rfl)
theorem j01_1 : ((1 : Int32) = 0 ∨ (1 : Int32) = 1) = True := eq_true (Or.inr rfl)
def byI (n : Nat) (y : Nat → Nat) (k : Nat) : Int32 := if k < n then Int32.ofNat (y k) else -1
theorem byI_in {n : Nat} {y : Nat → Nat} {k : Nat} (h : k < n) : byI n y k = Int32.ofNat (y k) := if_pos h
theorem byI_out {n : Nat} {y : Nat → Nat} {k : Nat} (h : ¬ k < n) : byI n y k = -1 := if_neg h
section Rp
variable {μ ν : MM} {n p : Nat} {y : Nat → Nat}
theorem RP.at (h : RP ν n y p) (q : Nat) : RP (st ν 139 5 (Int32.ofNat q)) n y q := ⟨by rw [st_ne (Or.inr (by omega))]; exact h.1, st_same _ _ _ _, fun k hk => by rw [st_ne (Or.inl (by omega))]; exact h.2.2 k hk⟩
theorem RP.fr {P : Nat → Nat → Prop} (h : RP μ n y p) (f : Fr P μ ν) (h1 : ¬ P 139 4) (h2 : ¬ P 139 5) (h3 : ∀ k, ¬ P 140 k) : RP ν n y p := ⟨by rw [(f _ _ h1).1]; exact h.1, by rw [(f _ _ h2).1]; exact h.2.1, fun k hk => by rw [(f _ _ (h3 k)).1]; exact h.2.2 k hk⟩
theorem c_byteAt (hn : n ≤ 300) (h : RP ν n y p) {k : Nat} (hk : k < 2147483648) : f_X6_byteAt 139 (Int32.ofNat k) ((mX Ξ) ν) = some (byI n y k, (mX Ξ) ν) := by
  have c1 : (Int32.ofNat k < 0) = False := oN_l0 hk
  by_cases z : k < n
  · have c2 : (Int32.ofNat k ≥ Int32.ofNat n) = False := by rw [oN_ge hk (by omega)]; exact eq_false (by omega)
    have c3 : (Int32.ofNat k ≥ 300) = False := by rw [lge_300 hk]; exact eq_false (by omega)
    rw [byI_in z]
    simp only [f_X6_byteAt, c1, ↓reduceIte, ↓hbind gI_139_4, h.1, c2, c3, ↓hbind gR_139_0, ↓hbind (aI_140 (show k < 300 by omega)), h.2.2 k z, f_X6_byteAt_J29]
  · have c2 : (Int32.ofNat k ≥ Int32.ofNat n) = True := by rw [oN_ge hk (by omega)]; exact eq_true (by omega)
    rw [byI_out z]
    simp only [f_X6_byteAt, c1, ↓reduceIte, ↓hbind gI_139_4, h.1, c2, f_X6_byteAt_J28, f_X6_byteAt_J29]
theorem c_isDigit (hy : ∀ k, y k < 256) {k : Nat} {h : xH} : f_X6_isDigit (byI n y k) h = some (bI (decide (k < n) && dgY y k), h) := by
  by_cases z : k < n
  · have := hy k
    have c1 : (Int32.ofNat (y k) < 48) = (y k < 48) := llt_48 (by omega)
    have c2 : (Int32.ofNat (y k) > 57) = (57 < y k) := lgt_57 (by omega)
    rw [byI_in z, decide_eq_true z]
    unfold dgY
    by_cases a : y k < 48
    · rw [decide_eq_false (show ¬ 48 ≤ y k by omega)]
      have c1 := c1.trans (eq_true a)
      simp only [f_X6_isDigit, c1, ↓reduceIte, f_X6_isDigit_J16, f_X6_isDigit_J17, j01_0, true_or, or_true]
      rfl
    · have c1 := c1.trans (eq_false a)
      rw [decide_eq_true (show 48 ≤ y k by omega)]
      by_cases b : 57 < y k
      · rw [decide_eq_false (show ¬ y k ≤ 57 by omega)]
        have c2 := c2.trans (eq_true b)
        simp only [f_X6_isDigit, c1, c2, ↓reduceIte, f_X6_isDigit_J16, f_X6_isDigit_J17, j01_0, true_or, or_true]
        rfl
      · rw [decide_eq_true (show y k ≤ 57 by omega)]
        have c2 := c2.trans (eq_false b)
        simp only [f_X6_isDigit, c1, c2, ↓reduceIte, f_X6_isDigit_J17, j01_1, true_or, or_true]
        rfl
  · rw [byI_out z, decide_eq_false z]
    have c1 : ((-1 : Int32) < 48) = True := eq_true (by decide)
    simp only [f_X6_isDigit, c1, ↓reduceIte, f_X6_isDigit_J16, f_X6_isDigit_J17, j01_0, true_or, or_true]
    rfl
/-- behind the blanks -/
theorem c_skip_loop (hn : n ≤ 300) (hy : ∀ k, y k < 256) : ∀ (d p : Nat) (ν : MM), p + d = n → RP ν n y p → ∃ ξ, (∀ f K, f_X6_skipBlanks_L0 K (d + 1 + f) 139 ((mX Ξ) ν) = K ((mX Ξ) ξ)) ∧ RP ξ n y (rnE (blY y) d p) ∧ Fr F5 ν ξ
  | 0, p, ν, hd, h => by
    have c1 : (Int32.ofNat p ≥ Int32.ofNat n) = True := by rw [oN_ge (by omega) (by omega)]; exact eq_true (by omega)
    refine ⟨ν, fun f K => ?_, h, Fr.refl _ _⟩
    rw [show 0 + 1 + f = f + 1 by omega]
    simp only [f_X6_skipBlanks_L0, ↓hbind gI_139_5, ↓hbind gI_139_4, h.1, h.2.1, c1, ↓reduceIte]
  | d + 1, p, ν, hd, h => by
    have c1 : (Int32.ofNat p ≥ Int32.ofNat n) = False := by rw [oN_ge (by omega) (by omega)]; exact eq_false (by omega)
    have eb := c_byteAt (Ξ := Ξ) hn h (k := p) (by omega)
    rw [byI_in (by omega)] at eb
    have := hy p
    have c2 : (Int32.ofNat (y p) = 32) = (y p = 32) := leq_32 (by omega)
    by_cases z : y p = 32
    · have c2 := c2.trans (eq_true z)
      have zb : blY y p = true := decide_eq_true z
      have ep : pI ((mX Ξ) ν) 6 139 5 (Int32.ofNat p + 1) = some ((mX Ξ) (st ν 139 5 (Int32.ofNat (p + 1)))) := by rw [i_succ]; exact pI_139_5
      obtain ⟨ξ, a, b, g⟩ := c_skip_loop hn hy d (p + 1) (st ν 139 5 (Int32.ofNat (p + 1))) (by omega) (h.at (p + 1))
      refine ⟨ξ, fun f K => ?_, by rw [rnE_s zb]; exact b, ((Fr.refl _ _).st ⟨rfl, rfl⟩).trans g⟩
      rw [show d + 1 + 1 + f = d + 1 + f + 1 by omega, ← a f K]
      simp only [f_X6_skipBlanks_L0, ↓hbind gI_139_5, ↓hbind gI_139_4, h.1, h.2.1, c1, ↓reduceIte, ↓hvc (fun _ => vc_139), ↓hbind eb, c2, ↓hbind ep]
    · have c2 := c2.trans (eq_false z)
      have zb : blY y p = false := decide_eq_false z
      refine ⟨ν, fun f K => ?_, by rw [rnE_0 zb]; exact h, Fr.refl _ _⟩
      rw [show d + 1 + 1 + f = d + 1 + f + 1 by omega]
      simp only [f_X6_skipBlanks_L0, ↓hbind gI_139_5, ↓hbind gI_139_4, h.1, h.2.1, c1, ↓reduceIte, ↓hvc (fun _ => vc_139), ↓hbind eb, c2]
theorem c_skip (hn : n ≤ 300) (hy : ∀ k, y k < 256) (hp : p ≤ n) (h : RP ν n y p) : ∃ ξ, f_X6_skipBlanks 139 ((mX Ξ) ν) = some ((mX Ξ) ξ) ∧ RP ξ n y (skp n y p) ∧ Fr F5 ν ξ := by
  obtain ⟨ξ, a, b, g⟩ := c_skip_loop (Ξ := Ξ) hn hy (n - p) p ν (by omega) h
  refine ⟨ξ, ?_, b, g⟩
  have a := a (5000 - (n - p + 1)) f_X6_skipBlanks_J37
  rw [show n - p + 1 + (5000 - (n - p + 1)) = 5000 by omega] at a
  simp only [f_X6_skipBlanks, a, f_X6_skipBlanks_J37]
theorem c_more (hn : n ≤ 300) (hy : ∀ k, y k < 256) (hp : p ≤ n) (h : RP ν n y p) : ∃ ξ, f_X6_moreStands 139 ((mX Ξ) ν) = some (bI (decide (skp n y p < n)), (mX Ξ) ξ) ∧ RP ξ n y (skp n y p) ∧ Fr F5 ν ξ := by
  obtain ⟨ξ, e, b, g⟩ := c_skip (Ξ := Ξ) hn hy hp h
  have l := skp_le (y := y) hp
  refine ⟨ξ, ?_, b, g⟩
  have c1 : (Int32.ofNat (skp n y p) ≥ Int32.ofNat n) = (n ≤ skp n y p) := oN_ge (by omega) (by omega)
  by_cases z : skp n y p < n
  · have c1 := c1.trans (eq_false (by omega))
    rw [decide_eq_true z]
    simp only [f_X6_moreStands, ↓hvc (fun _ => vc_139), ↓hbind e, ↓hbind gI_139_5, ↓hbind gI_139_4, b.1, b.2.1, c1, ↓reduceIte, f_X6_moreStands_J20, j01_1, true_or, or_true]
    rfl
  · have c1 := c1.trans (eq_true (by omega))
    rw [decide_eq_false z]
    simp only [f_X6_moreStands, ↓hvc (fun _ => vc_139), ↓hbind e, ↓hbind gI_139_5, ↓hbind gI_139_4, b.1, b.2.1, c1, ↓reduceIte, f_X6_moreStands_J20, j01_0, true_or, or_true]
    rfl
/-- a fault is noted -/
theorem c_isFault {a q : Int32} : ∃ ξ, f_X6_isFault 139 a q ((mX Ξ) ν) = some (0, (mX Ξ) ξ) ∧ Fr F23 ν ξ ∧ ξ.1 139 3 = a ∧ ξ.1 139 2 = q := by
  refine ⟨st (st ν 139 3 a) 139 2 q, ?_, ((Fr.refl _ _).st ⟨rfl, Or.inr rfl⟩).st ⟨rfl, Or.inl rfl⟩, by rw [st_ne (Or.inr (by omega)), st_same], st_same _ _ _ _⟩
  simp only [f_X6_isFault, ↓hbind pI_139_3, ↓hbind pI_139_2, j01_0, true_or, or_true, ↓reduceIte]
theorem c_end_ok (hn : n ≤ 300) (hy : ∀ k, y k < 256) (hp : p ≤ n) (h : RP ν n y p) (z1 : skp n y p < n) (z2 : y (skp n y p) = 59) : ∃ ξ, f_X6_readEnd 139 ((mX Ξ) ν) = some (1, (mX Ξ) ξ) ∧ RP ξ n y (skp n y p + 1) ∧ Fr F5 ν ξ := by
  obtain ⟨ζ, e, b, g⟩ := c_skip (Ξ := Ξ) hn hy hp h
  have eb := c_byteAt (Ξ := Ξ) hn b (k := skp n y p) (by omega)
  rw [byI_in z1, z2] at eb
  have c : (Int32.ofNat 59 = 59) = True := eq_true rfl
  have ep : pI ((mX Ξ) ζ) 6 139 5 (Int32.ofNat (skp n y p) + 1) = some ((mX Ξ) (st ζ 139 5 (Int32.ofNat (skp n y p + 1)))) := by rw [i_succ]; exact pI_139_5
  refine ⟨_, ?_, b.at (skp n y p + 1), g.trans ((Fr.refl _ _).st ⟨rfl, rfl⟩)⟩
  simp only [f_X6_readEnd, ↓hvc (fun _ => vc_139), ↓hbind e, ↓hbind gI_139_5, b.2.1, ↓hbind eb, c, ↓reduceIte, ↓hbind ep, j01_1, true_or, or_true]
theorem c_end_er (hn : n ≤ 300) (hy : ∀ k, y k < 256) (hp : p ≤ n) (h : RP ν n y p) (z : ¬ (skp n y p < n ∧ y (skp n y p) = 59)) : ∃ ξ, f_X6_readEnd 139 ((mX Ξ) ν) = some (0, (mX Ξ) ξ) ∧ Fr F2356 ν ξ ∧ ξ.1 139 3 = 1 ∧ ξ.1 139 2 = Int32.ofNat (skp n y p) := by
  obtain ⟨ζ, e, b, g⟩ := c_skip (Ξ := Ξ) hn hy hp h
  have l := skp_le (y := y) hp
  have eb := c_byteAt (Ξ := Ξ) hn b (k := skp n y p) (by omega)
  have c : (byI n y (skp n y p) = 59) = False := by
    refine eq_false fun x => ?_
    by_cases z1 : skp n y p < n
    · rw [byI_in z1] at x
      have := hy (skp n y p)
      rw [leq_59 (by omega)] at x
      exact z ⟨z1, x⟩
    · rw [byI_out z1] at x
      exact absurd x (by decide)
  obtain ⟨ξ, e2, g2, v1, v2⟩ := c_isFault (Ξ := Ξ) (ν := ζ) (a := 1) (q := Int32.ofNat (skp n y p))
  refine ⟨ξ, ?_, (g.mono fun q i z => by unfold F5 at z; unfold F2356; omega).trans (g2.mono fun q i z => by unfold F23 at z; unfold F2356; omega), v1, v2⟩
  simp only [f_X6_readEnd, ↓hvc (fun _ => vc_139), ↓hbind e, ↓hbind gI_139_5, b.2.1, ↓hbind eb, c, ↓reduceIte, ↓hbind e2, j01_0, true_or, or_true]
/-- a word -/
theorem c_word_loop (hn : n ≤ 300) (hy : ∀ k, y k < 256) : ∀ (d p : Nat) (ν : MM), p + d = n → RP ν n y p → ∃ ξ, (∀ f K, f_X6_takeWord_L12 K (d + 1 + f) 139 ((mX Ξ) ν) = K ((mX Ξ) ξ)) ∧ RP ξ n y (rnE (smY y) d p) ∧ Fr F5 ν ξ
  | 0, p, ν, hd, h => by
    have c1 : (Int32.ofNat p ≥ Int32.ofNat n) = True := by rw [oN_ge (by omega) (by omega)]; exact eq_true (by omega)
    refine ⟨ν, fun f K => ?_, h, Fr.refl _ _⟩
    rw [show 0 + 1 + f = f + 1 by omega]
    simp only [f_X6_takeWord_L12, ↓hbind gI_139_5, ↓hbind gI_139_4, h.1, h.2.1, c1, ↓reduceIte]
  | d + 1, p, ν, hd, h => by
    have c1 : (Int32.ofNat p ≥ Int32.ofNat n) = False := by rw [oN_ge (by omega) (by omega)]; exact eq_false (by omega)
    have eb := c_byteAt (Ξ := Ξ) hn h (k := p) (by omega)
    rw [byI_in (by omega)] at eb
    have := hy p
    have c2 : (Int32.ofNat (y p) < 97) = (y p < 97) := llt_97 (by omega)
    have c3 : (Int32.ofNat (y p) > 122) = (122 < y p) := lgt_122 (by omega)
    by_cases z : smY y p = true
    · have zz : 97 ≤ y p ∧ y p ≤ 122 := by
        unfold smY at z
        rw [Bool.and_eq_true, decide_eq_true_eq, decide_eq_true_eq] at z
        exact z
      have c2 := c2.trans (eq_false (by omega))
      have c3 := c3.trans (eq_false (by omega))
      have ep : pI ((mX Ξ) ν) 6 139 5 (Int32.ofNat p + 1) = some ((mX Ξ) (st ν 139 5 (Int32.ofNat (p + 1)))) := by rw [i_succ]; exact pI_139_5
      obtain ⟨ξ, a, b, g⟩ := c_word_loop hn hy d (p + 1) (st ν 139 5 (Int32.ofNat (p + 1))) (by omega) (h.at (p + 1))
      refine ⟨ξ, fun f K => ?_, by rw [rnE_s z]; exact b, ((Fr.refl _ _).st ⟨rfl, rfl⟩).trans g⟩
      rw [show d + 1 + 1 + f = d + 1 + f + 1 by omega, ← a f K]
      simp only [f_X6_takeWord_L12, ↓hbind gI_139_5, ↓hbind gI_139_4, h.1, h.2.1, c1, ↓reduceIte, ↓hvc (fun _ => vc_139), ↓hbind eb, c2, c3, ↓hbind ep]
    · have z' : smY y p = false := by simpa using z
      refine ⟨ν, fun f K => ?_, by rw [rnE_0 z']; exact h, Fr.refl _ _⟩
      rw [show d + 1 + 1 + f = d + 1 + f + 1 by omega]
      by_cases a : y p < 97
      · have c2 := c2.trans (eq_true a)
        simp only [f_X6_takeWord_L12, ↓hbind gI_139_5, ↓hbind gI_139_4, h.1, h.2.1, c1, ↓reduceIte, ↓hvc (fun _ => vc_139), ↓hbind eb, c2]
      · have c2 := c2.trans (eq_false a)
        have c3 := c3.trans (eq_true (by
          unfold smY at z'
          rw [decide_eq_true (show 97 ≤ y p by omega), Bool.true_and, decide_eq_false_iff_not] at z'
          omega))
        simp only [f_X6_takeWord_L12, ↓hbind gI_139_5, ↓hbind gI_139_4, h.1, h.2.1, c1, ↓reduceIte, ↓hvc (fun _ => vc_139), ↓hbind eb, c2, c3]
theorem c_takeWord (hn : n ≤ 300) (hy : ∀ k, y k < 256) (hp : p ≤ n) (h : RP ν n y p) : ∃ ξ, f_X6_takeWord 139 ((mX Ξ) ν) = some ((mX Ξ) ξ) ∧ RP ξ n y (sme n y (skp n y p)) ∧ ξ.1 139 6 = Int32.ofNat (skp n y p) ∧ Fr F56 ν ξ := by
  obtain ⟨ζ, e, b, g⟩ := c_skip (Ξ := Ξ) hn hy hp h
  have l := skp_le (y := y) hp
  obtain ⟨ζ1, hd⟩ : ∃ x, x = st ζ 139 6 (Int32.ofNat (skp n y p)) := ⟨_, rfl⟩
  have f1 : Fr (fun q i => q = 139 ∧ i = 6) ζ ζ1 := by rw [hd]; exact (Fr.refl _ _).st ⟨rfl, rfl⟩
  obtain ⟨ξ, a, b2, g2⟩ := c_word_loop (Ξ := Ξ) hn hy (n - skp n y p) (skp n y p) ζ1 (by omega) (b.fr f1 (by omega) (by omega) (by omega))
  have a := a (5000 - (n - skp n y p + 1)) f_X6_takeWord_J62
  rw [show n - skp n y p + 1 + (5000 - (n - skp n y p + 1)) = 5000 by omega] at a
  refine ⟨ξ, ?_, b2, by rw [(g2 _ _ (by unfold F5; omega)).1, hd, st_same], ((g.mono fun q i z => by unfold F5 at z; unfold F56; omega).trans (f1.mono fun q i z => by unfold F56; omega)).trans (g2.mono fun q i z => by unfold F5 at z; unfold F56; omega)⟩
  rw [hd] at a
  simp only [f_X6_takeWord, ↓hvc (fun _ => vc_139), ↓hbind e, ↓hbind gI_139_5, b.2.1, ↓hbind pI_139_6, a, f_X6_takeWord_J62]
/-- a constant word of the class's -/
def WD (r : Nat) (W : List Nat) : Prop := W.length ≤ 7 ∧ (∀ h : xH, f_J0_length_8abf5 r h = some (Int32.ofNat W.length, h)) ∧ ∀ k, k < W.length → ∀ h : xH, f_J0_charAt_5068e r (Int32.ofNat k) h = some (Int32.ofNat (W.getD k 0), h)
theorem c_wordIs_loop (hn : n ≤ 300) (hy : ∀ k, y k < 256) {e s r : Nat} {W : List Nat} (hW : WD r W) (hk : ∀ k, W.getD k 0 < 256) (h : RP ν n y e) (h6 : ν.1 139 6 = Int32.ofNat s) (he : e = s + W.length) (en : e ≤ n) : ∀ (d k : Nat), k + d = W.length → (∀ j, j < k → y (s + j) = W.getD j 0) → ∀ f, f_X6_wordIs_L20 f_X6_wordIs_J46 f_X6_wordIs_J54 (d + 1 + f) 139 r (Int32.ofNat k) ((mX Ξ) ν) = some (bI (isW y s e W), (mX Ξ) ν)
  | 0, k, hd, hj, f => by
    have l7 := hW.1
    have c1 : (Int32.ofNat k ≥ Int32.ofNat W.length) = True := by rw [oN_ge (by omega) (by omega)]; exact eq_true (by omega)
    have t : isW y s e W = true := isW_t.mpr ⟨he, fun j h => hj j (by omega)⟩
    rw [show 0 + 1 + f = f + 1 by omega, t]
    simp only [f_X6_wordIs_L20, ↓hbind (hW.2.1 _), c1, ↓reduceIte, f_X6_wordIs_J54, j01_1, true_or, or_true]
    rfl
  | d + 1, k, hd, hj, f => by
    have l7 := hW.1
    have c1 : (Int32.ofNat k ≥ Int32.ofNat W.length) = False := by rw [oN_ge (by omega) (by omega)]; exact eq_false (by omega)
    have eb := c_byteAt (Ξ := Ξ) hn h (k := s + k) (by omega)
    rw [byI_in (by omega), ← oN_add] at eb
    have ec := hW.2.2 k (by omega) ((mX Ξ) ν)
    have := hy (s + k)
    have := hk k
    have c2 : (Int32.ofNat (y (s + k)) = Int32.ofNat (W.getD k 0)) = (y (s + k) = W.getD k 0) := oN_inj (by omega) (by omega)
    rw [show d + 1 + 1 + f = d + 1 + f + 1 by omega]
    by_cases z : y (s + k) = W.getD k 0
    · have c2 := c2.trans (eq_true z)
      rw [← c_wordIs_loop hn hy hW hk h h6 he en d (k + 1) (by omega) (fun j h => by
        by_cases x : j = k
        · rw [x]; exact z
        · exact hj j (by omega)) f]
      simp only [f_X6_wordIs_L20, ↓hbind (hW.2.1 _), c1, ↓reduceIte, ↓hbind gI_139_6, h6, ↓hvc (fun _ => vc_139), ↓hbind eb, ↓hbind ec, c2, lt_go, i_succ]
    · have c2 := c2.trans (eq_false z)
      have t : isW y s e W = false := by
        cases x : isW y s e W with
        | false => rfl
        | true => exact absurd ((isW_t.mp x).2 k (by omega)) z
      rw [t]
      simp only [f_X6_wordIs_L20, ↓hbind (hW.2.1 _), c1, ↓reduceIte, ↓hbind gI_139_6, h6, ↓hvc (fun _ => vc_139), ↓hbind eb, ↓hbind ec, c2, f_X6_wordIs_J46, j01_0, true_or, or_true]
      rfl
theorem c_wordIs (hn : n ≤ 300) (hy : ∀ k, y k < 256) {e s r : Nat} {W : List Nat} (hW : WD r W) (hk : ∀ k, W.getD k 0 < 256) (h : RP ν n y e) (h6 : ν.1 139 6 = Int32.ofNat s) (se : s ≤ e) (en : e ≤ n) : f_X6_wordIs 139 r ((mX Ξ) ν) = some (bI (isW y s e W), (mX Ξ) ν) := by
  have l7 := hW.1
  have es : Int32.ofNat e - Int32.ofNat s = Int32.ofNat (e - s) := oN_sub se
  have c1 : (Int32.ofNat (e - s) = Int32.ofNat W.length) = (e - s = W.length) := oN_inj (by omega) (by omega)
  by_cases z : e - s = W.length
  · have c1 := c1.trans (eq_true z)
    have q := c_wordIs_loop (Ξ := Ξ) hn hy hW hk h h6 (by omega) en W.length 0 (by omega) (fun j h => absurd h (Nat.not_lt_zero _)) (5000 - (W.length + 1))
    rw [show W.length + 1 + (5000 - (W.length + 1)) = 5000 by omega] at q
    have q : f_X6_wordIs_L20 f_X6_wordIs_J46 f_X6_wordIs_J54 5000 139 r 0 ((mX Ξ) ν) = some (bI (isW y s e W), (mX Ξ) ν) := q
    simp only [f_X6_wordIs, ↓hbind gI_139_5, ↓hbind gI_139_6, h6, h.2.1, es, ↓hbind (hW.2.1 _), c1, ↓reduceIte, q]
  · have c1 := c1.trans (eq_false z)
    have t : isW y s e W = false := by
      cases x : isW y s e W with
      | false => rfl
      | true => have := (isW_t.mp x).1; omega
    rw [t]
    simp only [f_X6_wordIs, ↓hbind gI_139_5, ↓hbind gI_139_6, h6, h.2.1, es, ↓hbind (hW.2.1 _), c1, ↓reduceIte, j01_0, true_or, or_true]
    rfl
end Rp
