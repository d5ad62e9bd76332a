/-! THE MODEL: a text's words, ends -/
theorem b256_64 : ∀ b, b < 256 → (Int32.ofNat b).toInt64 = Int64.ofNat b := by decide +kernel
theorem c27 {v b : Nat} (h : 97 ≤ b) (h2 : b < 256) : (27 : Int64) * Int64.ofNat v + (Int32.ofNat b).toInt64 - 97 + 1 = Int64.ofNat (27 * v + (b - 96)) := by
  rw [b256_64 b h2, show (27 : Int64) = Int64.ofNat 27 from rfl, show (97 : Int64) = Int64.ofNat 97 from rfl, show (1 : Int64) = Int64.ofNat 1 from rfl, ← Int64.ofNat_mul, ← Int64.ofNat_add, ← Int64.ofNat_sub _ _ (show 97 ≤ 27 * v + b by omega), ← Int64.ofNat_add]
  congr 1; omega
theorem lg_e (a b : Int64) : (lg_cmp a b = 0) = (a = b) := by
  refine propext ⟨fun z => ?_, fun z => by rw [z]; exact lg_refl b⟩
  unfold lg_cmp at z
  by_cases h : a > b
  · rw [if_pos h] at z; exact absurd z (by decide)
  · rw [if_neg h] at z
    by_cases e : a = b
    · exact e
    · rw [if_neg e] at z; exact absurd z (by decide)
def whV (n : Nat) (y : Nat → Nat) (s : Nat) : Int64 := if sme n y s - s = 0 ∨ 7 < sme n y s - s then -1 else Int64.ofNat (cNf (fun k => y (s + k) - 96) (sme n y s - s))
section Mw2
variable {μ ν : MM} {n p : Nat} {y : Nat → Nat}
theorem m_wh_end {s k : Nat} (ek : sme n y s - s = k) (k7 : k ≤ 7) : f_X10_wordHere_J62 (Int64.ofNat (cNf (fun k => y (s + k) - 96) k)) (Int32.ofNat k) (mem ν) = some (whV n y s, mem ν) := by
  unfold whV
  rw [ek]
  have c : (Int32.ofNat k = 0) = (k = 0) := leq_0 (by omega)
  by_cases z : k = 0
  · have c := c.trans (eq_true z)
    rw [if_pos (Or.inl z)]
    simp only [f_X10_wordHere_J62, c, ↓reduceIte, f_X10_wordHere_J73]
  · have c := c.trans (eq_false z)
    rw [if_neg (show ¬ (k = 0 ∨ 7 < k) by omega)]
    simp only [f_X10_wordHere_J62, c, ↓reduceIte, f_X10_wordHere_J73]
theorem m_wh_loop (hn : n ≤ 300) (hy : ∀ k, y k < 256) {s : Nat} (h : MP ν n y s) : ∀ (d k : Nat), s + k + d = n → sme n y s = rnE (smY y) d (s + k) → k ≤ 7 → ∀ f, f_X10_wordHere_L9 f_X10_wordHere_J58 f_X10_wordHere_J62 (d + 1 + f) 168 (Int64.ofNat (cNf (fun k => y (s + k) - 96) k)) (Int32.ofNat k) (mem ν) = some (whV n y s, mem ν)
  | 0, k, hd, he, k7, f => by
    have eb := m_byteAt hn h (k := s + k) (by omega)
    rw [← oN_add] at eb
    have ed := m_isSmall (n := n) hy (k := s + k) (h := mem ν)
    rw [decide_eq_false (show ¬ s + k < n by omega), Bool.false_and] at ed
    have he : sme n y s = s + k := he
    rw [show 0 + 1 + f = f + 1 by omega, ← m_wh_end (ν := ν) (n := n) (y := y) (s := s) (k := k) (by omega) k7]
    simp only [f_X10_wordHere_L9, ↓hbind gI_168_4, h.2.1, ↓hvc (fun _ => vc_168), ↓hbind eb, ↓hbind ed, show bI false = 0 from rfl, ↓reduceIte]
  | d + 1, k, hd, he, k7, f => by
    have eb := m_byteAt hn h (k := s + k) (by omega)
    rw [← oN_add] at eb
    have ed := m_isSmall (n := n) hy (k := s + k) (h := mem ν)
    rw [decide_eq_true (show s + k < n by omega), Bool.true_and] at ed
    rw [show d + 1 + 1 + f = d + 1 + f + 1 by omega]
    cases z : smY y (s + k) with
    | true =>
      rw [z] at ed
      rw [rnE_s z] at he
      have y97 : 97 ≤ y (s + k) := by
        unfold smY at z
        rw [Bool.and_eq_true, decide_eq_true_eq] at z
        exact z.1
      have e27 := c27 (v := cNf (fun k => y (s + k) - 96) k) y97 (hy (s + k))
      rw [byI_in (by omega)] at eb ed
      have ec : cNf (fun k => y (s + k) - 96) (k + 1) = 27 * cNf (fun k => y (s + k) - 96) k + (y (s + k) - 96) := rfl
      have c : (Int32.ofNat (k + 1) ≤ 7) = (k + 1 ≤ 7) := lle_7 (by omega)
      by_cases x : k + 1 ≤ 7
      · have c := c.trans (eq_true x)
        rw [← m_wh_loop hn hy h d (k + 1) (by omega) he x f, ec]
        simp only [f_X10_wordHere_L9, ↓hbind gI_168_4, h.2.1, ↓hvc (fun _ => vc_168), ↓hbind eb, ↓hbind ed, show bI true = 1 from rfl, z_1, ↓reduceIte, lt_go, e27, i_succ, c]
      · have c := c.trans (eq_false x)
        have l := rnE_le (P := smY y) d (s + k + 1)
        have ev : whV n y s = -1 := if_pos (Or.inr (by omega))
        rw [ev]
        simp only [f_X10_wordHere_L9, ↓hbind gI_168_4, h.2.1, ↓hvc (fun _ => vc_168), ↓hbind eb, ↓hbind ed, show bI true = 1 from rfl, z_1, ↓reduceIte, lt_go, e27, i_succ, c, f_X10_wordHere_J58]
    | false =>
      rw [z] at ed
      rw [rnE_0 z] at he
      rw [← m_wh_end (ν := ν) (n := n) (y := y) (s := s) (k := k) (by omega) k7]
      simp only [f_X10_wordHere_L9, ↓hbind gI_168_4, h.2.1, ↓hvc (fun _ => vc_168), ↓hbind eb, ↓hbind ed, show bI false = 0 from rfl, ↓reduceIte]
theorem m_wordHere (hn : n ≤ 300) (hy : ∀ k, y k < 256) (hp : p ≤ n) (h : MP ν n y p) : ∃ ξ, f_X10_wordHere 168 (mem ν) = some (whV n y (skp n y p), mem ξ) ∧ MP ξ n y (skp n y p) ∧ Fr G4 ν ξ := by
  obtain ⟨ξ, e, b, g⟩ := m_here hn hy hp h
  have l := skp_le (y := y) hp
  refine ⟨ξ, ?_, b, g⟩
  have q := m_wh_loop hn hy b (n - skp n y p) 0 (by omega) rfl (by omega) (5000 - (n - skp n y p + 1))
  rw [show n - skp n y p + 1 + (5000 - (n - skp n y p + 1)) = 5000 by omega] at q
  have q : f_X10_wordHere_L9 f_X10_wordHere_J58 f_X10_wordHere_J62 5000 168 0 0 (mem ξ) = some (whV n y (skp n y p), mem ξ) := q
  simp only [f_X10_wordHere, ↓hvc (fun _ => vc_168), ↓hbind e, q]
theorem m_coded_loop {j : Nat} (hj : j < 9) {h : xH} : ∀ (d k : Nat), k + d = (wdW j).length → ∀ f, f_X10_coded_L4 f_X10_coded_J37 (d + 1 + f) (1000003 + j) (Int64.ofNat (cNf (fun k => (wdW j).getD k 0 - 96) k)) (Int32.ofNat k) h = some (Int64.ofNat (cNf (fun k => (wdW j).getD k 0 - 96) (wdW j).length), h)
  | 0, k, hd, f => by
    obtain ⟨l7, hl, hc⟩ := WD_j hj
    have ek : k = (wdW j).length := by omega
    have c : (Int32.ofNat k ≥ Int32.ofNat (wdW j).length) = True := by rw [oN_ge (by omega) (by omega)]; exact eq_true (by omega)
    rw [show 0 + 1 + f = f + 1 by omega]
    simp only [f_X10_coded_L4, ↓hbind (hl _), c, ↓reduceIte, f_X10_coded_J37]
    rw [ek]
  | d + 1, k, hd, f => by
    obtain ⟨l7, hl, hc⟩ := WD_j hj
    have c : (Int32.ofNat k ≥ Int32.ofNat (wdW j).length) = False := by rw [oN_ge (by omega) (by omega)]; exact eq_false (by omega)
    have ec := hc k (by omega) h
    have w97 := ((wd_tab j hj).2.2.2 k (by omega) (by omega)).2.2
    have e27 := c27 (v := cNf (fun k => (wdW j).getD k 0 - 96) k) w97.1 (by omega)
    have en : cNf (fun k => (wdW j).getD k 0 - 96) (k + 1) = 27 * cNf (fun k => (wdW j).getD k 0 - 96) k + ((wdW j).getD k 0 - 96) := rfl
    rw [show d + 1 + 1 + f = d + 1 + f + 1 by omega, ← m_coded_loop hj d (k + 1) (by omega) f, en]
    simp only [f_X10_coded_L4, ↓hbind (hl _), c, ↓reduceIte, ↓hbind ec, lt_go, e27, i_succ]
theorem m_coded {j : Nat} (hj : j < 9) {h : xH} : f_X10_coded (1000003 + j) h = some (Int64.ofNat (cNf (fun k => (wdW j).getD k 0 - 96) (wdW j).length), h) := by
  have l7 := (WD_j hj).1
  have q := m_coded_loop hj (h := h) (wdW j).length 0 (by omega) (5000 - ((wdW j).length + 1))
  rw [show (wdW j).length + 1 + (5000 - ((wdW j).length + 1)) = 5000 by omega] at q
  have q : f_X10_coded_L4 f_X10_coded_J37 5000 (1000003 + j) 0 0 h = some (Int64.ofNat (cNf (fun k => (wdW j).getD k 0 - 96) (wdW j).length), h) := q
  simp only [f_X10_coded, q]
theorem wd_len : ∀ j, j < 9 → 1 ≤ (wdW j).length := by decide
theorem i64_ne1 {a : Nat} (h : a < 1000000000000) : (-1 : Int64) ≠ Int64.ofNat a := fun z => by
  have e := congrArg Int64.toInt z
  rw [Int64.toInt_ofNat_of_lt (by omega)] at e
  have e0 : (-1 : Int64).toInt = -1 := by decide
  rw [e0] at e
  omega
theorem i64_inj {a b : Nat} (ha : a < 1000000000000) (hb1 : b < 1000000000000) (h : Int64.ofNat a = Int64.ofNat b) : a = b := by
  have e := congrArg Int64.toInt h
  rw [Int64.toInt_ofNat_of_lt (by omega), Int64.toInt_ofNat_of_lt (by omega)] at e
  omega
/-- the same by 27s, the same word -/
theorem wh_isW {s j : Nat} (hj : j < 9) : (whV n y s = Int64.ofNat (cNf (fun k => (wdW j).getD k 0 - 96) (wdW j).length)) = (isW y s (sme n y s) (wdW j) = true) := by
  have l7 := (WD_j hj).1
  have l1 := wd_len j hj
  have p27 : 27 ^ 7 = 10460353203 := by decide +kernel
  have wr : ∀ k, k < (wdW j).length → 1 ≤ (wdW j).getD k 0 - 96 ∧ (wdW j).getD k 0 - 96 ≤ 26 := fun k hk => by
    have := ((wd_tab j hj).2.2.2 k (by omega) hk).2.2
    omega
  have wb : cNf (fun k => (wdW j).getD k 0 - 96) (wdW j).length < 1000000000000 := by
    have a := cNf_lt (f := fun k => (wdW j).getD k 0 - 96) (a := (wdW j).length) fun k hk => (wr k hk).2
    have b : 27 ^ (wdW j).length ≤ 27 ^ 7 := Nat.pow_le_pow_right (by decide) l7
    omega
  have se := rnE_le (P := smY y) (n - s) s
  have se : s ≤ sme n y s := se.1
  unfold whV
  by_cases z : sme n y s - s = 0 ∨ 7 < sme n y s - s
  · rw [if_pos z]
    refine propext ⟨fun x => absurd x (i64_ne1 wb), fun x => ?_⟩
    have := (isW_t.mp x).1
    omega
  · rw [if_neg z]
    have yr : ∀ k, k < sme n y s - s → 97 ≤ y (s + k) ∧ y (s + k) ≤ 122 := fun k hk => by
      have q : smY y (s + k) = true := rnE_in (n - s) s (s + k) (by omega) (show s + k < sme n y s by omega)
      unfold smY at q
      rw [Bool.and_eq_true, decide_eq_true_eq, decide_eq_true_eq] at q
      exact q
    have yb : cNf (fun k => y (s + k) - 96) (sme n y s - s) < 1000000000000 := by
      have a := cNf_lt (f := fun k => y (s + k) - 96) (a := sme n y s - s) fun k hk => by have := yr k hk; omega
      have b : 27 ^ (sme n y s - s) ≤ 27 ^ 7 := Nat.pow_le_pow_right (by decide) (by omega)
      omega
    refine propext ⟨fun x => ?_, fun x => ?_⟩
    · obtain ⟨a, b⟩ := cNf_inj (fun k hk => by have := yr k hk; omega) wr (i64_inj yb wb x)
      refine isW_t.mpr ⟨by omega, fun k hk => ?_⟩
      have q := b k (by omega)
      have := yr k (by omega)
      have := wr k hk
      have q : y (s + k) - 96 = (wdW j).getD k 0 - 96 := q
      omega
    · obtain ⟨a, b⟩ := isW_t.mp x
      rw [show sme n y s - s = (wdW j).length by omega]
      rw [cNf_congr (f := fun k => y (s + k) - 96) (g := fun k => (wdW j).getD k 0 - 96) fun k hk => by rw [b k hk]]
theorem m_takes (hn : n ≤ 300) (hy : ∀ k, y k < 256) (hp : p ≤ n) (h : MP ν n y p) (h6 : ν.1 168 6 = 0) {j : Nat} (hj : j < 9) : ∃ ξ, f_X10_takes 168 (1000003 + j) (mem ν) = some (bI (isW y (skp n y p) (sme n y (skp n y p)) (wdW j)), mem ξ) ∧ MP ξ n y (if isW y (skp n y p) (sme n y (skp n y p)) (wdW j) = true then sme n y (skp n y p) else skp n y p) ∧ Fr G4 ν ξ := by
  obtain ⟨ν1, e1, r1, f1⟩ := m_wordHere hn hy hp h
  have e2 := m_coded hj (h := mem ν1)
  obtain ⟨l7, hl, hc⟩ := WD_j hj
  have ce : (lg_cmp (whV n y (skp n y p)) (Int64.ofNat (cNf (fun k => (wdW j).getD k 0 - 96) (wdW j).length)) = 0) = (isW y (skp n y p) (sme n y (skp n y p)) (wdW j) = true) := (lg_e _ _).trans (wh_isW hj)
  cases z : isW y (skp n y p) (sme n y (skp n y p)) (wdW j) with
  | true =>
    have ce := ce.trans (eq_true z)
    have es := (isW_t.mp z).1
    have ep : pI (mem ν1) 10 168 4 (Int32.ofNat (skp n y p) + Int32.ofNat (wdW j).length) = some (mem (st ν1 168 4 (Int32.ofNat (sme n y (skp n y p))))) := by
      rw [oN_add, ← es]; exact pI_168_4
    refine ⟨_, ?_, by rw [if_pos rfl]; exact r1.at _, f1.trans ((Fr.refl _ _).st ⟨rfl, rfl⟩)⟩
    simp only [f_X10_takes, ↓hvc (fun _ => vc_168), ↓hbind (m_fine1 h6), z_1, ↓reduceIte, ↓hbind e1, ↓hbind e2, ce, ↓hbind gI_168_4, r1.2.1, ↓hbind (hl _), ↓hbind ep, j01_1, true_or, or_true]
    rfl
  | false =>
    have ce := ce.trans (eq_false (by rw [z]; simp))
    refine ⟨ν1, ?_, by rw [if_neg (by simp)]; exact r1, f1⟩
    simp only [f_X10_takes, ↓hvc (fun _ => vc_168), ↓hbind (m_fine1 h6), z_1, ↓reduceIte, ↓hbind e1, ↓hbind e2, ce, f_X10_takes_J19, j01_0, true_or, or_true]
    rfl
theorem m_takes_no (h6 : ν.1 168 6 ≠ 0) {r : Nat} : f_X10_takes 168 r (mem ν) = some (0, mem ν) := by
  simp only [f_X10_takes, ↓hvc (fun _ => vc_168), ↓hbind (m_fine0 h6), ↓reduceIte, f_X10_takes_J19, j01_0, true_or, or_true]
theorem m_must_ok (hn : n ≤ 300) (hy : ∀ k, y k < 256) (hp : p ≤ n) (h : MP ν n y p) (h6 : ν.1 168 6 = 0) {j : Nat} (hj : j < 9) (z : isW y (skp n y p) (sme n y (skp n y p)) (wdW j) = true) : ∃ ξ, f_X10_must 168 (1000003 + j) (mem ν) = some (mem ξ) ∧ MP ξ n y (sme n y (skp n y p)) ∧ Fr G4 ν ξ := by
  obtain ⟨ξ, e, r, f⟩ := m_takes hn hy hp h h6 hj
  rw [z] at e
  rw [if_pos z] at r
  refine ⟨ξ, ?_, r, f⟩
  simp only [f_X10_must, ↓hvc (fun _ => vc_168), ↓hbind (m_fine1 h6), z_1, ↓reduceIte, ↓hbind e, show bI true = 1 from rfl, f_X10_must_J24]
theorem m_must_er (hn : n ≤ 300) (hy : ∀ k, y k < 256) (hp : p ≤ n) (h : MP ν n y p) (h6 : ν.1 168 6 = 0) {j : Nat} (hj : j < 9) (z : isW y (skp n y p) (sme n y (skp n y p)) (wdW j) = false) : ∃ ξ, f_X10_must 168 (1000003 + j) (mem ν) = some (mem ξ) ∧ Fr GX ν ξ ∧ ξ.1 168 6 = 1 ∧ ξ.1 168 7 = Int32.ofNat (skp n y p) := by
  obtain ⟨ν1, e, r, f⟩ := m_takes hn hy hp h h6 hj
  rw [z] at e
  rw [if_neg (by rw [z]; simp)] at r
  have h61 : ν1.1 168 6 = 0 := by rw [(f _ _ (by unfold G4; omega)).1]; exact h6
  obtain ⟨ξ, e2, f2, v1, v2⟩ := m_wrong1 h61 (a := 1) (q := Int32.ofNat (skp n y p))
  refine ⟨ξ, ?_, (f.mono fun _ _ z => z.X).trans (f2.mono fun _ _ z => z.X), v1, v2⟩
  simp only [f_X10_must, ↓hvc (fun _ => vc_168), ↓hbind (m_fine1 h6), z_1, ↓reduceIte, ↓hbind e, show bI false = 0 from rfl, ↓hbind gI_168_4, r.2.1, ↓hbind e2, f_X10_must_J24]
theorem m_must_no (h6 : ν.1 168 6 ≠ 0) {r : Nat} : f_X10_must 168 r (mem ν) = some (mem ν) := by
  simp only [f_X10_must, ↓hvc (fun _ => vc_168), ↓hbind (m_fine0 h6), ↓reduceIte, f_X10_must_J24]
theorem m_end_ok (hn : n ≤ 300) (hy : ∀ k, y k < 256) (hp : p ≤ n) (h : MP ν n y p) (h6 : ν.1 168 6 = 0) (z1 : skp n y p < n) (z2 : y (skp n y p) = 59) : ∃ ξ, f_X10_ends 168 (mem ν) = some (mem ξ) ∧ MP ξ n y (skp n y p + 1) ∧ Fr G4 ν ξ := by
  obtain ⟨ζ, e, b, g⟩ := m_here hn hy hp h
  rw [byI_in z1, z2] at e
  have c : (Int32.ofNat 59 = 59) = True := eq_true rfl
  have ep : pI (mem ζ) 10 168 4 (Int32.ofNat (skp n y p) + 1) = some (mem (st ζ 168 4 (Int32.ofNat (skp n y p + 1)))) := by rw [i_succ]; exact pI_168_4
  refine ⟨_, ?_, b.at (skp n y p + 1), g.trans ((Fr.refl _ _).st ⟨rfl, rfl⟩)⟩
  simp only [f_X10_ends, ↓hvc (fun _ => vc_168), ↓hbind (m_fine1 h6), z_1, ↓reduceIte, ↓hbind e, c, ↓hbind gI_168_4, b.2.1, ↓hbind ep, f_X10_ends_J39]
theorem m_end_er (hn : n ≤ 300) (hy : ∀ k, y k < 256) (hp : p ≤ n) (h : MP ν n y p) (h6 : ν.1 168 6 = 0) (z : ¬ (skp n y p < n ∧ y (skp n y p) = 59)) : ∃ ξ, f_X10_ends 168 (mem ν) = some (mem ξ) ∧ Fr GX ν ξ ∧ ξ.1 168 6 = 1 ∧ ξ.1 168 7 = Int32.ofNat (skp n y p) := by
  obtain ⟨ζ, e, b, g⟩ := m_here hn hy hp h
  have c : (byI n y (skp n y p) = 59) = False := by
    refine eq_false fun x => ?_
    by_cases z1 : skp n y p < n
    · rw [byI_in z1] at x
      have := hy (skp n y p)
      rw [leq_59 (by omega)] at x
      exact z ⟨z1, x⟩
    · rw [byI_out z1] at x
      exact absurd x (by decide)
  have h61 : ζ.1 168 6 = 0 := by rw [(g _ _ (by unfold G4; omega)).1]; exact h6
  obtain ⟨ξ, e2, g2, v1, v2⟩ := m_wrong1 h61 (a := 1) (q := Int32.ofNat (skp n y p))
  refine ⟨ξ, ?_, (g.mono fun _ _ z => z.X).trans (g2.mono fun _ _ z => z.X), v1, v2⟩
  simp only [f_X10_ends, ↓hvc (fun _ => vc_168), ↓hbind (m_fine1 h6), z_1, ↓reduceIte, ↓hbind e, c, ↓hbind gI_168_4, b.2.1, ↓hbind e2, f_X10_ends_J39]
theorem m_end_no (h6 : ν.1 168 6 ≠ 0) : f_X10_ends 168 (mem ν) = some (mem ν) := by
  simp only [f_X10_ends, ↓hvc (fun _ => vc_168), ↓hbind (m_fine0 h6), ↓reduceIte]
end Mw2
