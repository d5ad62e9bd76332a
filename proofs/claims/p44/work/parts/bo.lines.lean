/-! THE CLASS: the lines of a text -/
variable {Ξ : xH}
def FTx (q i : Nat) : Prop := (q = 139 ∧ (i = 2 ∨ i = 3 ∨ i = 5 ∨ i = 6 ∨ i = 7)) ∨ FB 9 q i
theorem F5.T {q i : Nat} (h : F5 q i) : FTx q i := by unfold F5 at h; unfold FTx; omega
theorem F56.T {q i : Nat} (h : F56 q i) : FTx q i := by unfold F56 at h; unfold FTx; omega
theorem F23.T {q i : Nat} (h : F23 q i) : FTx q i := by unfold F23 at h; unfold FTx; omega
theorem F2356.T {q i : Nat} (h : F2356 q i) : FTx q i := by unfold F2356 at h; unfold FTx; omega
def TC (n : Nat) (y : Nat → Nat) (ν : MM) (p : Nat) (B : Bk) (kr : Bool) : Prop := RP ν n y p ∧ BC ν 9 B ∧ ν.1 139 7 = bI kr ∧ ν.1 139 3 = 0 ∧ ν.1 139 2 = -1
def OC (n : Nat) (y : Nat → Nat) (ξ : MM) (r : Int32) : Rs → Prop
  | .inl (p, B, k) => r = 1 ∧ TC n y ξ p B k
  | .inr (a, q) => r = 0 ∧ ξ.1 139 3 = Int32.ofNat a ∧ ξ.1 139 2 = Int32.ofNat q
section Lc2
variable {μ ν : MM} {n p : Nat} {y : Nat → Nat} {B : Bk} {kr : Bool}
/-- only the place has moved -/
theorem TC.go (h : TC n y ν p B kr) {ξ : MM} {q : Nat} (r : RP ξ n y q) (f : Fr F56 ν ξ) : TC n y ξ q B kr :=
  ⟨r, h.2.1.fr f (fun q i a b z => by unfold F56 at z; omega), by rw [(f _ _ (by unfold F56; omega)).1]; exact h.2.2.1, by rw [(f _ _ (by unfold F56; omega)).1]; exact h.2.2.2.1, by rw [(f _ _ (by unfold F56; omega)).1]; exact h.2.2.2.2⟩
/-- only the book has changed -/
theorem TC.bk (h : TC n y ν p B kr) {ξ : MM} {B' : Bk} (r : BC ξ 9 B') (f : Fr (FB 9) ν ξ) : TC n y ξ p B' kr :=
  ⟨h.1.fr f (by unfold FB; omega) (by unfold FB; omega) (fun k => by unfold FB; omega), r, by rw [(f _ _ (by unfold FB; omega)).1]; exact h.2.2.1, by rw [(f _ _ (by unfold FB; omega)).1]; exact h.2.2.2.1, by rw [(f _ _ (by unfold FB; omega)).1]; exact h.2.2.2.2⟩
theorem bn_1 (hB : BOK B) : Int32.ofNat (bn B) - 1 = Int32.ofNat (bn B - 1) := by rw [show (1 : Int32) = Int32.ofNat 1 from rfl, oN_sub hB.n1]
theorem bm_1 (hB : BOK B) : Int32.ofNat (bm B) - 1 = Int32.ofNat (bm B - 1) := by rw [show (1 : Int32) = Int32.ofNat 1 from rfl, oN_sub hB.m1]
/-- a number that is one -/
theorem t_num_ok (hn : n ≤ 300) (hy : ∀ k, y k < 256) (hp : p ≤ n) (h : TC n y ν p B kr) {lo hi v s e : Nat} {x1 x2 : Int32} (e1 : x1 = Int32.ofNat lo) (e2 : x2 = Int32.ofNat hi) (l99 : lo ≤ 99) (h99 : hi ≤ 99) (q : num n y p lo hi = .inr (v, s, e)) : ∃ ξ, f_X6_readNumber 139 x1 x2 ((mX Ξ) ν) = some (1, (mX Ξ) ξ) ∧ TC n y ξ e B kr ∧ ξ.1 139 6 = Int32.ofNat s ∧ Fr FTx ν ξ ∧ f_X6_value 139 ((mX Ξ) ξ) = some (Int32.ofNat v, (mX Ξ) ξ) := by
  obtain ⟨ξ, a, b, g, f, d⟩ := c_num_ok (Ξ := Ξ) hn hy hp h.1 l99 h99 q
  rw [e1, e2]
  exact ⟨ξ, a, h.go b f, g, f.mono fun _ _ z => z.T, d⟩
theorem t_num_er (hn : n ≤ 300) (hy : ∀ k, y k < 256) (hp : p ≤ n) (h : TC n y ν p B kr) {lo hi a q : Nat} {x1 x2 : Int32} (e1 : x1 = Int32.ofNat lo) (e2 : x2 = Int32.ofNat hi) (l99 : lo ≤ 99) (h99 : hi ≤ 99) (hq : num n y p lo hi = .inl (a, q)) : ∃ ξ, f_X6_readNumber 139 x1 x2 ((mX Ξ) ν) = some (0, (mX Ξ) ξ) ∧ Fr FTx ν ξ ∧ ξ.1 139 3 = Int32.ofNat a ∧ ξ.1 139 2 = Int32.ofNat q := by
  obtain ⟨ξ, a1, f, b, d⟩ := c_num_er (Ξ := Ξ) hn hy hp h.1 l99 h99 hq
  rw [e1, e2]
  exact ⟨ξ, a1, f.mono fun _ _ z => z.T, b, d⟩
theorem c_lnFit (hn : n ≤ 300) (hy : ∀ k, y k < 256) (hp : p ≤ n) (hB : BOK B) (h : TC n y ν p B kr) : ∃ ξ r, f_X6_readFit 139 9 ((mX Ξ) ν) = some (r, (mX Ξ) ξ) ∧ Fr FTx ν ξ ∧ OC n y ξ r (lnFit n y p B kr) := by
  have n12 := hB.n
  have m12' := hB.m
  have g0 : ν.1 9 0 = Int32.ofNat (bn B) := h.2.1.1.1
  rcases q1 : num n y p 0 (bn B - 1) with ⟨a, q⟩ | ⟨w, s, p1⟩
  · obtain ⟨ξ, e1, f1, v1, v2⟩ := t_num_er (Ξ := Ξ) (x1 := 0) (lo := 0) hn hy hp h rfl (bn_1 hB) (by omega) (by omega) q1
    have el : lnFit n y p B kr = .er a q := by simp only [lnFit, q1]
    rw [el]
    refine ⟨ξ, 0, ?_, f1, rfl, v1, v2⟩
    simp only [f_X6_readFit, ↓hbind (bk_i0 bk9), g0, ↓hvc (fun _ => vc_139), ↓hbind e1, ↓reduceIte, j01_0, true_or, or_true]
  · obtain ⟨-, -, -, -, w12, -, -, hp1⟩ := num_ok hp q1
    obtain ⟨ν1, e1, t1, -, f1, d1⟩ := t_num_ok (Ξ := Ξ) (x1 := 0) (lo := 0) hn hy hp h rfl (bn_1 hB) (by omega) (by omega) q1
    have g1 : ν1.1 9 1 = Int32.ofNat (bm B) := t1.2.1.1.2.1
    rcases q2 : num n y p1 0 (bm B - 1) with ⟨a, q⟩ | ⟨t, s2, p2⟩
    · obtain ⟨ξ, e2, f2, v1, v2⟩ := t_num_er (Ξ := Ξ) (x1 := 0) (lo := 0) hn hy hp1 t1 rfl (bm_1 hB) (by omega) (by omega) q2
      have el : lnFit n y p B kr = .er a q := by simp only [lnFit, q1, q2]
      rw [el]
      refine ⟨ξ, 0, ?_, f1.trans f2, rfl, v1, v2⟩
      simp only [f_X6_readFit, ↓hbind (bk_i0 bk9), g0, ↓hvc (fun _ => vc_139), ↓hbind e1, z_1, ↓reduceIte, ↓hbind d1, ↓hbind (bk_i1 bk9), g1, ↓hbind e2, j01_0, true_or, or_true]
    · obtain ⟨-, -, -, -, t12, -, -, hp2⟩ := num_ok hp1 q2
      obtain ⟨ν2, e2, t2, -, f2, d2⟩ := t_num_ok (Ξ := Ξ) (x1 := 0) (lo := 0) hn hy hp1 t1 rfl (bm_1 hB) (by omega) (by omega) q2
      obtain ⟨ν3, e3, r3, f3⟩ := c_skip (Ξ := Ξ) hn hy hp2 t2.1
      have t3 := t2.go r3 (f3.mono fun q i z => by unfold F5 at z; unfold F56; omega)
      have f3' : Fr FTx ν2 ν3 := f3.mono fun _ _ z => z.T
      have l3 := skp_le (y := y) hp2
      have eb := c_byteAt (Ξ := Ξ) hn r3 (k := skp n y p2) (by omega)
      have ed := c_isDigit (n := n) hy (k := skp n y p2) (h := (mX Ξ) ν3)
      by_cases z : skp n y p2 < n ∧ dgY y (skp n y p2) = true
      · rw [decide_eq_true z.1, z.2] at ed
        rcases q3 : num n y (skp n y p2) 0 99 with ⟨a, q⟩ | ⟨c, s3, p3⟩
        · obtain ⟨ξ, e4, f4, v1, v2⟩ := t_num_er (Ξ := Ξ) (x1 := 0) (lo := 0) (x2 := 99) (hi := 99) hn hy l3.2 t3 rfl rfl (by omega) (by omega) q3
          have el : lnFit n y p B kr = .er a q := by simp only [lnFit, q1, q2, if_pos z, q3]
          rw [el]
          refine ⟨ξ, 0, ?_, ((f1.trans f2).trans f3').trans f4, rfl, v1, v2⟩
          simp only [f_X6_readFit, ↓hbind (bk_i0 bk9), g0, ↓hvc (fun _ => vc_139), ↓hbind e1, z_1, ↓reduceIte, ↓hbind d1, ↓hbind (bk_i1 bk9), g1, ↓hbind e2, ↓hbind d2, ↓hbind e3, ↓hbind gI_139_5, r3.2.1, ↓hbind eb, ↓hbind ed, Bool.and_self, show bI true = 1 from rfl, ↓hbind e4, j01_0, true_or, or_true]
        · obtain ⟨-, -, -, -, c99, -, -, hp3⟩ := num_ok l3.2 q3
          obtain ⟨ν4, e4, t4, -, f4, d4⟩ := t_num_ok (Ξ := Ξ) (x1 := 0) (lo := 0) (x2 := 99) (hi := 99) hn hy l3.2 t3 rfl rfl (by omega) (by omega) q3
          obtain ⟨ξ, e5, b5, f5⟩ := c_setFit (Ξ := Ξ) (c := c) bk9 t4.2.1 (show w < 12 by omega) (show t < 12 by omega)
          have el : lnFit n y p B kr = .ok p3 (wF B w t c) kr := by simp only [lnFit, q1, q2, if_pos z, q3]
          rw [el]
          refine ⟨ξ, 1, ?_, (((f1.trans f2).trans f3').trans f4).trans (f5.mono fun q i z => Or.inr z), rfl, t4.bk b5 f5⟩
          simp only [f_X6_readFit, ↓hbind (bk_i0 bk9), g0, ↓hvc (fun _ => vc_139), ↓hbind e1, z_1, ↓reduceIte, ↓hbind d1, ↓hbind (bk_i1 bk9), g1, ↓hbind e2, ↓hbind d2, ↓hbind e3, ↓hbind gI_139_5, r3.2.1, ↓hbind eb, ↓hbind ed, Bool.and_self, show bI true = 1 from rfl, ↓hbind e4, ↓hbind d4, f_X6_readFit_J81, ↓hvc (fun _ => bk_v bk9), ↓hbind e5, j01_1, true_or, or_true]
      · have ez : (decide (skp n y p2 < n) && dgY y (skp n y p2)) = false := by
          cases x : (decide (skp n y p2 < n) && dgY y (skp n y p2)) with
          | false => rfl
          | true =>
            rw [Bool.and_eq_true, decide_eq_true_eq] at x
            exact absurd x z
        rw [ez] at ed
        obtain ⟨ξ, e5, b5, f5⟩ := c_setFit (Ξ := Ξ) (c := 0) bk9 t3.2.1 (show w < 12 by omega) (show t < 12 by omega)
        have e5 : f_X0_setFit 9 (Int32.ofNat w) (Int32.ofNat t) 0 ((mX Ξ) ν3) = some ((mX Ξ) ξ) := e5
        have el : lnFit n y p B kr = .ok (skp n y p2) (wF B w t 0) kr := by simp only [lnFit, q1, q2, if_neg z]
        rw [el]
        refine ⟨ξ, 1, ?_, ((f1.trans f2).trans f3').trans (f5.mono fun q i z => Or.inr z), rfl, t3.bk b5 f5⟩
        simp only [f_X6_readFit, ↓hbind (bk_i0 bk9), g0, ↓hvc (fun _ => vc_139), ↓hbind e1, z_1, ↓reduceIte, ↓hbind d1, ↓hbind (bk_i1 bk9), g1, ↓hbind e2, ↓hbind d2, ↓hbind e3, ↓hbind gI_139_5, r3.2.1, ↓hbind eb, ↓hbind ed, show bI false = 0 from rfl, f_X6_readFit_J81, ↓hvc (fun _ => bk_v bk9), ↓hbind e5, j01_1, true_or, or_true]
theorem c_lnWeight (hn : n ≤ 300) (hy : ∀ k, y k < 256) (hp : p ≤ n) (hB : BOK B) (h : TC n y ν p B kr) : ∃ ξ r, f_X6_readWeight 139 9 ((mX Ξ) ν) = some (r, (mX Ξ) ξ) ∧ Fr FTx ν ξ ∧ OC n y ξ r (lnWeight n y p B kr) := by
  have n12 := hB.n
  have g0 : ν.1 9 0 = Int32.ofNat (bn B) := h.2.1.1.1
  rcases q1 : num n y p 0 (bn B - 1) with ⟨a, q⟩ | ⟨w, s, p1⟩
  · obtain ⟨ξ, e1, f1, v1, v2⟩ := t_num_er (Ξ := Ξ) (x1 := 0) (lo := 0) hn hy hp h rfl (bn_1 hB) (by omega) (by omega) q1
    have el : lnWeight n y p B kr = .er a q := by simp only [lnWeight, q1]
    rw [el]
    refine ⟨ξ, 0, ?_, f1, rfl, v1, v2⟩
    simp only [f_X6_readWeight, ↓hbind (bk_i0 bk9), g0, ↓hvc (fun _ => vc_139), ↓hbind e1, ↓reduceIte, j01_0, true_or, or_true]
  · obtain ⟨-, -, -, -, w12, -, -, hp1⟩ := num_ok hp q1
    obtain ⟨ν1, e1, t1, -, f1, d1⟩ := t_num_ok (Ξ := Ξ) (x1 := 0) (lo := 0) hn hy hp h rfl (bn_1 hB) (by omega) (by omega) q1
    rcases q2 : num n y p1 0 99 with ⟨a, q⟩ | ⟨v, s2, p2⟩
    · obtain ⟨ξ, e2, f2, v1, v2⟩ := t_num_er (Ξ := Ξ) (x1 := 0) (lo := 0) (x2 := 99) (hi := 99) hn hy hp1 t1 rfl rfl (by omega) (by omega) q2
      have el : lnWeight n y p B kr = .er a q := by simp only [lnWeight, q1, q2]
      rw [el]
      refine ⟨ξ, 0, ?_, f1.trans f2, rfl, v1, v2⟩
      simp only [f_X6_readWeight, ↓hbind (bk_i0 bk9), g0, ↓hvc (fun _ => vc_139), ↓hbind e1, z_1, ↓reduceIte, ↓hbind d1, ↓hbind e2, j01_0, true_or, or_true]
    · obtain ⟨ν2, e2, t2, -, f2, d2⟩ := t_num_ok (Ξ := Ξ) (x1 := 0) (lo := 0) (x2 := 99) (hi := 99) hn hy hp1 t1 rfl rfl (by omega) (by omega) q2
      obtain ⟨ξ, e5, b5, f5⟩ := c_setWeight (Ξ := Ξ) (v := v) bk9 t2.2.1 (show w < 12 by omega)
      have el : lnWeight n y p B kr = .ok p2 (wE B w v) kr := by simp only [lnWeight, q1, q2]
      rw [el]
      refine ⟨ξ, 1, ?_, (f1.trans f2).trans (f5.mono fun q i z => Or.inr z), rfl, t2.bk b5 f5⟩
      simp only [f_X6_readWeight, ↓hbind (bk_i0 bk9), g0, ↓hvc (fun _ => vc_139), ↓hbind e1, z_1, ↓reduceIte, ↓hbind d1, ↓hbind e2, ↓hbind d2, ↓hvc (fun _ => bk_v bk9), ↓hbind e5, j01_1, true_or, or_true]
theorem c_lnKeep (hn : n ≤ 300) (hy : ∀ k, y k < 256) (hp : p ≤ n) (h : TC n y ν p B kr) {s : Nat} (h6 : ν.1 139 6 = Int32.ofNat s) : ∃ ξ r, f_X6_readKeep 139 9 ((mX Ξ) ν) = some (r, (mX Ξ) ξ) ∧ Fr FTx ν ξ ∧ OC n y ξ r (lnKeep n y s p B kr) := by
  have g7 := h.2.2.1
  cases kr with
  | true =>
    have g7 : ν.1 139 7 = 1 := g7
    obtain ⟨ξ, e2, g2, v1, v2⟩ := c_isFault (Ξ := Ξ) (ν := ν) (a := 3) (q := Int32.ofNat s)
    have el : lnKeep n y s p B true = .er 3 s := if_pos rfl
    rw [el]
    refine ⟨ξ, 0, ?_, g2.mono fun _ _ z => z.T, rfl, v1, v2⟩
    simp only [f_X6_readKeep, ↓hbind gI_139_7, g7, z_1, ↓reduceIte, ↓hbind gI_139_6, h6, ↓hvc (fun _ => vc_139), ↓hbind e2, j01_0, true_or, or_true]
  | false =>
    have g7 : ν.1 139 7 = 0 := g7
    obtain ⟨ν1, hd⟩ : ∃ x, x = st ν 139 7 1 := ⟨_, rfl⟩
    have f1 : Fr (fun q i => q = 139 ∧ i = 7) ν ν1 := by rw [hd]; exact (Fr.refl _ _).st ⟨rfl, rfl⟩
    have ez : pZ ((mX Ξ) ν) 6 139 7 1 = some ((mX Ξ) ν1) := by rw [hd]; exact pZ_x (by decide +kernel) (Or.inr rfl)
    have t1 : TC n y ν1 p B true := ⟨h.1.fr f1 (by omega) (by omega) (fun k => by omega), h.2.1.fr f1 (fun q i a b z => by omega), by rw [hd, st_same]; rfl, by rw [(f1 _ _ (by omega)).1]; exact h.2.2.2.1, by rw [(f1 _ _ (by omega)).1]; exact h.2.2.2.2⟩
    have f1' : Fr FTx ν ν1 := f1.mono fun q i z => by unfold FTx; omega
    have nk : ¬ (false = true) := by decide
    rcases q2 : num n y p 0 1 with ⟨a, q⟩ | ⟨v, s2, p2⟩
    · obtain ⟨ξ, e2, f2, v1, v2⟩ := t_num_er (Ξ := Ξ) (x1 := 0) (lo := 0) (x2 := 1) (hi := 1) hn hy hp t1 rfl rfl (by omega) (by omega) q2
      have el : lnKeep n y s p B false = .er a q := by
        unfold lnKeep
        rw [if_neg nk, q2]
      rw [el]
      refine ⟨ξ, 0, ?_, f1'.trans f2, rfl, v1, v2⟩
      simp only [f_X6_readKeep, ↓hbind gI_139_7, g7, ↓reduceIte, ↓hbind ez, ↓hvc (fun _ => vc_139), ↓hbind e2, j01_0, true_or, or_true]
    · obtain ⟨ν2, e2, t2, -, f2, d2⟩ := t_num_ok (Ξ := Ξ) (x1 := 0) (lo := 0) (x2 := 1) (hi := 1) hn hy hp t1 rfl rfl (by omega) (by omega) q2
      have b5 := b_wk (k := v) t2.2.1
      have f5 : Fr (FB 9) ν2 (st ν2 9 4 (Int32.ofNat v)) := (Fr.refl _ _).st (by unfold FB; omega)
      have el : lnKeep n y s p B false = .ok p2 (wk B v) true := by
        unfold lnKeep
        rw [if_neg nk, q2]
      rw [el]
      refine ⟨_, 1, ?_, (f1'.trans f2).trans (f5.mono fun q i z => Or.inr z), rfl, t2.bk b5 f5⟩
      simp only [f_X6_readKeep, ↓hbind gI_139_7, g7, ↓reduceIte, ↓hbind ez, ↓hvc (fun _ => vc_139), ↓hbind e2, z_1, ↓hbind d2, ↓hbind (bk_p4 bk9), j01_1, true_or, or_true]
end Lc2
