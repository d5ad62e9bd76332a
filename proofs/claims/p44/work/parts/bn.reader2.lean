/-! THE CLASS: the reader's numbers -/
variable {Ξ : xH}
set_option maxRecDepth 10000 in
theorem wd_tab : ∀ j, j < 9 → (wdW j).length ≤ 7 ∧ (1000001 ≤ 1000003 + j ∧ 1000003 + j < 1000001 + sLen.length) ∧ sLen.getD (1000003 + j - 1000001) 0 = (wdW j).length ∧ ∀ k, k < 7 → k < (wdW j).length → ain (Int32.ofNat k) (sLen.getD (1000003 + j - 1000001) 0) ∧ (sByt.getD (1000003 + j - 1000001) []).getD (Int32.ofNat k).toNatClampNeg 0 = Int32.ofNat ((wdW j).getD k 0) ∧ (97 ≤ (wdW j).getD k 0 ∧ (wdW j).getD k 0 ≤ 122) := by decide +kernel
theorem WD_j {j : Nat} (hj : j < 9) : WD (1000003 + j) (wdW j) := by
  obtain ⟨a, b, d, e⟩ := wd_tab j hj
  refine ⟨a, fun h => ?_, fun k hk h => ?_⟩
  · unfold f_J0_length_8abf5
    rw [if_pos b, d]
  · obtain ⟨e1, e2, -⟩ := e k (by omega) hk
    unfold f_J0_charAt_5068e
    rw [if_pos ⟨b, e1⟩, e2]
theorem wdW_lt {j : Nat} (hj : j < 9) (k : Nat) : (wdW j).getD k 0 < 256 := by
  obtain ⟨a, -, -, e⟩ := wd_tab j hj
  by_cases z : k < (wdW j).length
  · have := (e k (by omega) z).2.2
    omega
  · rw [List.getD_eq_getElem?_getD, List.getElem?_eq_none (by omega)]; decide
section Rn
variable {μ ν : MM} {n p : Nat} {y : Nat → Nat}
theorem c_digits_loop (hn : n ≤ 300) (hy : ∀ k, y k < 256) : ∀ (d p : Nat) (ν : MM), p + d = n → RP ν n y p → ∃ ξ, (∀ f K x1 x2, f_X6_readNumber_L12 K (d + 1 + f) 139 x1 x2 ((mX Ξ) ν) = K 139 x1 x2 ((mX Ξ) ξ)) ∧ RP ξ n y (rnE (dgY y) d p) ∧ Fr F5 ν ξ
  | 0, p, ν, hd, h => by
    have c1 : (Int32.ofNat p ≥ Int32.ofNat n) = True := by rw [oN_ge (by omega) (by omega)]; exact eq_true (by omega)
    refine ⟨ν, fun f K x1 x2 => ?_, h, Fr.refl _ _⟩
    rw [show 0 + 1 + f = f + 1 by omega]
    simp only [f_X6_readNumber_L12, ↓hbind gI_139_5, ↓hbind gI_139_4, h.1, h.2.1, c1, ↓reduceIte]
  | d + 1, p, ν, hd, h => by
    have c1 : (Int32.ofNat p ≥ Int32.ofNat n) = False := by rw [oN_ge (by omega) (by omega)]; exact eq_false (by omega)
    have eb := c_byteAt (Ξ := Ξ) hn h (k := p) (by omega)
    have ed := c_isDigit (n := n) hy (k := p) (h := (mX Ξ) ν)
    rw [decide_eq_true (show p < n by omega), Bool.true_and] at ed
    cases z : dgY y p with
    | true =>
      rw [z] at ed
      have ep : pI ((mX Ξ) ν) 6 139 5 (Int32.ofNat p + 1) = some ((mX Ξ) (st ν 139 5 (Int32.ofNat (p + 1)))) := by rw [i_succ]; exact pI_139_5
      obtain ⟨ξ, a, b, g⟩ := c_digits_loop hn hy d (p + 1) (st ν 139 5 (Int32.ofNat (p + 1))) (by omega) (h.at (p + 1))
      refine ⟨ξ, fun f K x1 x2 => ?_, by rw [rnE_s z]; exact b, ((Fr.refl _ _).st ⟨rfl, rfl⟩).trans g⟩
      rw [show d + 1 + 1 + f = d + 1 + f + 1 by omega, ← a f K x1 x2]
      simp only [f_X6_readNumber_L12, ↓hbind gI_139_5, ↓hbind gI_139_4, h.1, h.2.1, c1, ↓reduceIte, ↓hvc (fun _ => vc_139), ↓hbind eb, ↓hbind ed, show bI true = 1 from rfl, z_1, ↓hbind ep]
    | false =>
      rw [z] at ed
      refine ⟨ν, fun f K x1 x2 => ?_, by rw [rnE_0 z]; exact h, Fr.refl _ _⟩
      rw [show d + 1 + 1 + f = d + 1 + f + 1 by omega]
      simp only [f_X6_readNumber_L12, ↓hbind gI_139_5, ↓hbind gI_139_4, h.1, h.2.1, c1, ↓reduceIte, ↓hvc (fun _ => vc_139), ↓hbind eb, ↓hbind ed, show bI false = 0 from rfl]
theorem oN_dig {v b : Nat} (h : 48 ≤ b) : Int32.ofNat v * 10 + Int32.ofNat b - 48 = Int32.ofNat (10 * v + (b - 48)) := by
  rw [show (10 : Int32) = Int32.ofNat 10 from rfl, show (48 : Int32) = Int32.ofNat 48 from rfl, oN_mul, oN_add, oN_sub (by omega)]
  congr 1; omega
theorem imin_oN {a b : Nat} (ha : a < 2147483648) (hb1 : b < 2147483648) : imin (Int32.ofNat a) (Int32.ofNat b) = Int32.ofNat (min a b) := by
  unfold imin
  have c : (Int32.ofNat b < Int32.ofNat a) = (b < a) := oN_lt hb1 ha
  by_cases z : b < a
  · rw [if_pos (by rw [c]; exact z), Nat.min_eq_right (by omega)]
  · rw [if_neg (by rw [c]; exact z), Nat.min_eq_left (by omega)]
theorem c_value_loop (hn : n ≤ 300) (hy : ∀ k, y k < 256) (h : RP ν n y p) : ∀ (d k v : Nat), k + d = n → v ≤ 1000 → ∀ f, f_X6_value_L7 f_X6_value_J52 (d + 1 + f) 139 (Int32.ofNat v) (Int32.ofNat k) ((mX Ξ) ν) = some (Int32.ofNat (vlC 1000 y (rnE (dgY y) d k - k) k v), (mX Ξ) ν)
  | 0, k, v, hd, hv, f => by
    have c1 : (Int32.ofNat k ≥ Int32.ofNat n) = True := by rw [oN_ge (by omega) (by omega)]; exact eq_true (by omega)
    have e0 : rnE (dgY y) 0 k - k = 0 := Nat.sub_self k
    rw [show 0 + 1 + f = f + 1 by omega, e0]
    simp only [f_X6_value_L7, ↓hbind gI_139_4, h.1, c1, ↓reduceIte, f_X6_value_J52, vlC]
  | d + 1, k, v, hd, hv, f => by
    have c1 : (Int32.ofNat k ≥ Int32.ofNat n) = False := by rw [oN_ge (by omega) (by omega)]; exact eq_false (by omega)
    have eb := c_byteAt (Ξ := Ξ) hn h (k := k) (by omega)
    have ed := c_isDigit (n := n) hy (k := k) (h := (mX Ξ) ν)
    rw [decide_eq_true (show k < n by omega), Bool.true_and] at ed
    rw [show d + 1 + 1 + f = d + 1 + f + 1 by omega]
    cases z : dgY y k with
    | true =>
      rw [z] at ed
      have l := rnE_le (P := dgY y) d (k + 1)
      have y48 : 48 ≤ y k := by
        unfold dgY at z
        rw [Bool.and_eq_true, decide_eq_true_eq] at z
        exact z.1
      have := hy k
      have em : imin 1000 (Int32.ofNat v * 10 + Int32.ofNat (y k) - 48) = Int32.ofNat (min 1000 (10 * v + (y k - 48))) := by
        rw [oN_dig y48, show (1000 : Int32) = Int32.ofNat 1000 from rfl, imin_oN (by decide) (by omega)]
      have er : rnE (dgY y) (d + 1) k - k = (rnE (dgY y) d (k + 1) - (k + 1)) + 1 := by rw [rnE_s z]; omega
      have ev : vlC 1000 y ((rnE (dgY y) d (k + 1) - (k + 1)) + 1) k v = vlC 1000 y (rnE (dgY y) d (k + 1) - (k + 1)) (k + 1) (min 1000 (10 * v + (y k - 48))) := rfl
      rw [er, ev, ← c_value_loop hn hy h d (k + 1) (min 1000 (10 * v + (y k - 48))) (by omega) (by omega) f]
      rw [byI_in (by omega)] at eb ed
      simp only [f_X6_value_L7, ↓hbind gI_139_4, h.1, c1, ↓reduceIte, ↓hvc (fun _ => vc_139), ↓hbind eb, ↓hbind ed, show bI true = 1 from rfl, z_1, em, lt_go, i_succ]
    | false =>
      rw [z] at ed
      have e0 : rnE (dgY y) (d + 1) k - k = 0 := by rw [rnE_0 z]; omega
      rw [e0]
      simp only [f_X6_value_L7, ↓hbind gI_139_4, h.1, c1, ↓reduceIte, ↓hvc (fun _ => vc_139), ↓hbind eb, ↓hbind ed, show bI false = 0 from rfl, f_X6_value_J52, vlC]
theorem c_value (hn : n ≤ 300) (hy : ∀ k, y k < 256) (h : RP ν n y p) {s : Nat} (h6 : ν.1 139 6 = Int32.ofNat s) (sn : s ≤ n) : f_X6_value 139 ((mX Ξ) ν) = some (Int32.ofNat (min 1000 (vlY y (dge n y s - s) s 0)), (mX Ξ) ν) := by
  have q := c_value_loop (Ξ := Ξ) hn hy h (n - s) s 0 (by omega) (by omega) (5000 - (n - s + 1))
  rw [show n - s + 1 + (5000 - (n - s + 1)) = 5000 by omega] at q
  have e : rnE (dgY y) (n - s) s = dge n y s := rfl
  rw [e, vlC_eq (by decide)] at q
  have q : f_X6_value_L7 f_X6_value_J52 5000 139 0 (Int32.ofNat s) ((mX Ξ) ν) = some (Int32.ofNat (min 1000 (vlY y (dge n y s - s) s 0)), (mX Ξ) ν) := q
  simp only [f_X6_value, ↓hbind gI_139_6, h6, q]
/-- as far as the number's end -/
theorem c_num_go (hn : n ≤ 300) (hy : ∀ k, y k < 256) (hp : p ≤ n) (h : RP ν n y p) : ∃ ξ, (∀ x1 x2, f_X6_readNumber 139 x1 x2 ((mX Ξ) ν) = f_X6_readNumber_J50 139 x1 x2 ((mX Ξ) ξ)) ∧ RP ξ n y (dge n y (skp n y p)) ∧ ξ.1 139 6 = Int32.ofNat (skp n y p) ∧ Fr F56 ν ξ := by
  obtain ⟨ζ, e, b, g⟩ := c_skip (Ξ := Ξ) hn hy hp h
  have l := skp_le (y := y) hp
  obtain ⟨ζ1, hd⟩ : ∃ x, x = st ζ 139 6 (Int32.ofNat (skp n y p)) := ⟨_, rfl⟩
  have f1 : Fr (fun q i => q = 139 ∧ i = 6) ζ ζ1 := by rw [hd]; exact (Fr.refl _ _).st ⟨rfl, rfl⟩
  obtain ⟨ξ, a, b2, g2⟩ := c_digits_loop (Ξ := Ξ) hn hy (n - skp n y p) (skp n y p) ζ1 (by omega) (b.fr f1 (by omega) (by omega) (by omega))
  have a := a (5000 - (n - skp n y p + 1)) f_X6_readNumber_J50
  rw [show n - skp n y p + 1 + (5000 - (n - skp n y p + 1)) = 5000 by omega] at a
  refine ⟨ξ, fun x1 x2 => ?_, b2, by rw [(g2 _ _ (by unfold F5; omega)).1, hd, st_same], ((g.mono fun q i z => by unfold F5 at z; unfold F56; omega).trans (f1.mono fun q i z => by unfold F56; omega)).trans (g2.mono fun q i z => by unfold F5 at z; unfold F56; omega)⟩
  have a := a x1 x2
  rw [hd] at a
  simp only [f_X6_readNumber, ↓hvc (fun _ => vc_139), ↓hbind e, ↓hbind gI_139_5, b.2.1, ↓hbind pI_139_6, a]
theorem c_num_ok (hn : n ≤ 300) (hy : ∀ k, y k < 256) (hp : p ≤ n) (h : RP ν n y p) {lo hi v s e : Nat} (l99 : lo ≤ 99) (h99 : hi ≤ 99) (q : num n y p lo hi = .inr (v, s, e)) : ∃ ξ, f_X6_readNumber 139 (Int32.ofNat lo) (Int32.ofNat hi) ((mX Ξ) ν) = some (1, (mX Ξ) ξ) ∧ RP ξ n y e ∧ ξ.1 139 6 = Int32.ofNat s ∧ Fr F56 ν ξ ∧ f_X6_value 139 ((mX Ξ) ξ) = some (Int32.ofNat v, (mX Ξ) ξ) := by
  obtain ⟨q1, q2, q3, q4, q5, q6, q7, q8⟩ := num_ok hp q
  obtain ⟨ξ, a, b, g, fr⟩ := c_num_go (Ξ := Ξ) hn hy hp h
  rw [← q1, ← q2] at b
  rw [← q1] at g
  have ev := c_value (Ξ := Ξ) hn hy b g (by omega)
  rw [← q2, ← q3, Nat.min_eq_right (by omega)] at ev
  refine ⟨ξ, ?_, b, g, fr, ev⟩
  have c1 : (Int32.ofNat e = Int32.ofNat s) = False := by rw [oN_inj (by omega) (by omega)]; exact eq_false (by omega)
  have c2 : (Int32.ofNat v < Int32.ofNat lo) = False := by rw [oN_lt (by omega) (by omega)]; exact eq_false (by omega)
  have c3 : (Int32.ofNat v ≤ Int32.ofNat hi) = True := by rw [oN_le (by omega) (by omega)]; exact eq_true (by omega)
  rw [a]
  simp only [f_X6_readNumber_J50, ↓hbind gI_139_5, ↓hbind gI_139_6, b.2.1, g, c1, ↓reduceIte, ↓hvc (fun _ => vc_139), ↓hbind ev, c2, c3, f_X6_readNumber_J98, f_X6_readNumber_J103, j01_1, true_or, or_true]
theorem c_num_er (hn : n ≤ 300) (hy : ∀ k, y k < 256) (hp : p ≤ n) (h : RP ν n y p) {lo hi a q : Nat} (l99 : lo ≤ 99) (h99 : hi ≤ 99) (hq : num n y p lo hi = .inl (a, q)) : ∃ ξ, f_X6_readNumber 139 (Int32.ofNat lo) (Int32.ofNat hi) ((mX Ξ) ν) = some (0, (mX Ξ) ξ) ∧ Fr F2356 ν ξ ∧ ξ.1 139 3 = Int32.ofNat a ∧ ξ.1 139 2 = Int32.ofNat q := by
  have l1 := skp_le (y := y) hp
  have l2 := dge_le (y := y) l1.2
  obtain ⟨ζ, a1, b, g, fr⟩ := c_num_go (Ξ := Ξ) hn hy hp h
  have fr : Fr F2356 ν ζ := fr.mono fun q i z => by unfold F56 at z; unfold F2356; omega
  have ev := c_value (Ξ := Ξ) hn hy b g (by omega)
  unfold num at hq
  by_cases z : dge n y (skp n y p) = skp n y p
  · rw [if_pos z] at hq
    cases hq
    have c1 : (Int32.ofNat (dge n y (skp n y p)) = Int32.ofNat (skp n y p)) = True := by rw [z]; exact eq_true rfl
    obtain ⟨ξ, e2, g2, v1, v2⟩ := c_isFault (Ξ := Ξ) (ν := ζ) (a := 1) (q := Int32.ofNat (skp n y p))
    refine ⟨ξ, ?_, fr.trans (g2.mono fun q i z => by unfold F23 at z; unfold F2356; omega), v1, v2⟩
    rw [a1]
    simp only [f_X6_readNumber_J50, ↓hbind gI_139_5, ↓hbind gI_139_6, b.2.1, g, c1, ↓reduceIte, ↓hvc (fun _ => vc_139), ↓hbind e2, j01_0, true_or, or_true]
  · rw [if_neg z] at hq
    have c1 : (Int32.ofNat (dge n y (skp n y p)) = Int32.ofNat (skp n y p)) = False := by rw [oN_inj (by omega) (by omega)]; exact eq_false z
    by_cases x : lo ≤ vlY y (dge n y (skp n y p) - skp n y p) (skp n y p) 0 ∧ vlY y (dge n y (skp n y p) - skp n y p) (skp n y p) 0 ≤ hi
    · rw [if_pos x] at hq; cases hq
    · rw [if_neg x] at hq
      cases hq
      obtain ⟨ξ, e2, g2, v1, v2⟩ := c_isFault (Ξ := Ξ) (ν := ζ) (a := 2) (q := Int32.ofNat (skp n y p))
      refine ⟨ξ, ?_, fr.trans (g2.mono fun q i z => by unfold F23 at z; unfold F2356; omega), v1, v2⟩
      obtain ⟨V, hV⟩ : ∃ V, V = vlY y (dge n y (skp n y p) - skp n y p) (skp n y p) 0 := ⟨_, rfl⟩
      rw [← hV] at ev x
      have c2 : (Int32.ofNat (min 1000 V) < Int32.ofNat lo) = (min 1000 V < lo) := oN_lt (by omega) (by omega)
      have c3 : (Int32.ofNat (min 1000 V) ≤ Int32.ofNat hi) = (min 1000 V ≤ hi) := oN_le (by omega) (by omega)
      have e86 : f_X6_readNumber_J86 139 ((mX Ξ) ζ) = some (0, (mX Ξ) ξ) := by
        simp only [f_X6_readNumber_J86, ↓hbind gI_139_6, g, ↓hvc (fun _ => vc_139), ↓hbind e2, ↓reduceIte, f_X6_readNumber_J103, j01_0, true_or, or_true]
      rw [a1]
      by_cases w : min 1000 V < lo
      · have c2 := c2.trans (eq_true w)
        simp only [f_X6_readNumber_J50, ↓hbind gI_139_5, ↓hbind gI_139_6, b.2.1, g, c1, ↓reduceIte, ↓hvc (fun _ => vc_139), ↓hbind ev, c2, e86]
      · have c2 := c2.trans (eq_false w)
        have c3 := c3.trans (eq_false (by omega))
        simp only [f_X6_readNumber_J50, ↓hbind gI_139_5, ↓hbind gI_139_6, b.2.1, g, c1, ↓reduceIte, ↓hvc (fun _ => vc_139), ↓hbind ev, c2, c3, e86]
end Rn
