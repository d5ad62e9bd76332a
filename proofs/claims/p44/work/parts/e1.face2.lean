/-! THE CLASS'S FACE: told -/
variable {Ξ : xH}
section E1
variable {μ : MM} {B : Bk} {H : List Bk}
theorem q_told_of (h : RS μ B H) (hl : (shI ++ Ξ).length + 1 < 1000000) {x v : Int32} (hx : ¬ x < 0 ∧ ¬ x > 11) (c : ∀ A, RC TT μ A → AOK A → aB A = B → aH A = H → f_X9_told_J16 0 x 0 1 (mX Ξ μ) = some (.inl v, mX Ξ μ)) : Ask Ξ μ B H (f_L_told 0 x (mX Ξ μ)) v := by
  obtain ⟨A, hC, hA, h1, h2, h3⟩ := h
  refine q_of (F := f_X9_told 0 x) hl (CX_V TT_F hC hA (v := v) (ν := μ) ?_ (Fr.refl _ _)) fun y A' s => ⟨Or.inl s.1, by rw [s.2]; exact h1, by rw [s.2]; exact h2, by rw [s.2]; exact h3⟩
  unfold f_X9_told
  rw [if_neg hx.1, if_neg hx.2]
  exact c A hC hA h1 h2
theorem q_told0 (h : RS μ B H) (hl : (shI ++ Ξ).length + 1 < 1000000) : Ask Ξ μ B H (f_L_told 0 0 (mX Ξ μ)) (Int32.ofNat (bn B)) :=
  q_told_of h hl (by decide) fun A hC hA e1 e2 => by
    subst e1 e2
    have hB := hA.1
    have p6 : prOK shI 6 = true := bk_pr bk1
    have hb1 := hC.1
    have e : μ.1 1 0 = Int32.ofNat (bn (aB A)) := hb1.1.1
    simp only [f_X9_told_J16, ↓hvc (fun _ => vc_0), ↓hbind c_da1, ↓thr_ok, ↓thr_er, show (((0 : Int32)).toInt < 0 ∨ 10 < ((0 : Int32)).toInt) = False from eq_false (by decide), ↓reduceIte, ↓tsf_at (show (((0 : Int32)).toInt - 0).toNat = 0 from by decide), ↓hbind gR_0_0, ↓hvc (fun _ => bk_v bk1), ↓hbind (bk_i0 bk1), e]
theorem q_told1 (h : RS μ B H) (hl : (shI ++ Ξ).length + 1 < 1000000) : Ask Ξ μ B H (f_L_told 0 1 (mX Ξ μ)) (Int32.ofNat (bm B)) :=
  q_told_of h hl (by decide) fun A hC hA e1 e2 => by
    subst e1 e2
    have hB := hA.1
    have p6 : prOK shI 6 = true := bk_pr bk1
    have hb1 := hC.1
    have e : μ.1 1 1 = Int32.ofNat (bm (aB A)) := hb1.1.2.1
    simp only [f_X9_told_J16, ↓hvc (fun _ => vc_0), ↓hbind c_da1, ↓thr_ok, ↓thr_er, show (((1 : Int32)).toInt < 0 ∨ 10 < ((1 : Int32)).toInt) = False from eq_false (by decide), ↓reduceIte, ↓tsf_at (show (((1 : Int32)).toInt - 0).toNat = 1 from by decide), ↓hbind gR_0_0, ↓hvc (fun _ => bk_v bk1), ↓hbind (bk_i1 bk1), e]
theorem q_told2 (h : RS μ B H) (hl : (shI ++ Ξ).length + 1 < 1000000) : Ask Ξ μ B H (f_L_told 0 2 (mX Ξ μ)) (fcs B 12) :=
  q_told_of h hl (by decide) fun A hC hA e1 e2 => by
    subst e1 e2
    have hB := hA.1
    have p6 : prOK shI 6 = true := bk_pr bk1
    have hb1 := hC.1
    have e := c_fitCount (Ξ := Ξ) hb1 hB
    simp only [f_X9_told_J16, ↓hvc (fun _ => vc_0), ↓hbind c_da1, ↓thr_ok, ↓thr_er, show (((2 : Int32)).toInt < 0 ∨ 10 < ((2 : Int32)).toInt) = False from eq_false (by decide), ↓reduceIte, ↓tsf_at (show (((2 : Int32)).toInt - 0).toNat = 2 from by decide), ↓hbind gR_0_0, ↓hvc (fun _ => bk_v bk1), ↓hbind e]
theorem q_told3 (h : RS μ B H) (hl : (shI ++ Ξ).length + 1 < 1000000) : Ask Ξ μ B H (f_L_told 0 3 (mX Ξ μ)) (Int32.ofNat (sz (bM B))) :=
  q_told_of h hl (by decide) fun A hC hA e1 e2 => by
    subst e1 e2
    have hB := hA.1
    have p6 : prOK shI 6 = true := bk_pr bk1
    have hb1 := hC.1
    have e := c_size (Ξ := Ξ) (μ := μ) p6 hb1.2.2.2.2.2
    simp only [f_X9_told_J16, ↓hvc (fun _ => vc_0), ↓hbind c_da1, ↓thr_ok, ↓thr_er, show (((3 : Int32)).toInt < 0 ∨ 10 < ((3 : Int32)).toInt) = False from eq_false (by decide), ↓reduceIte, ↓tsf_at (show (((3 : Int32)).toInt - 0).toNat = 3 from by decide), ↓hbind gR_0_0, ↓hvc (fun _ => bk_v bk1), ↓hbind (bk_r9 bk1), ↓hvc (fun _ => pr_v p6), ↓hbind e]
theorem q_told4 (h : RS μ B H) (hl : (shI ++ Ξ).length + 1 < 1000000) : Ask Ξ μ B H (f_L_told 0 4 (mX Ξ μ)) (Int32.ofNat (bk B)) :=
  q_told_of h hl (by decide) fun A hC hA e1 e2 => by
    subst e1 e2
    have hB := hA.1
    have p6 : prOK shI 6 = true := bk_pr bk1
    have hb1 := hC.1
    have e : μ.1 1 4 = Int32.ofNat (bk (aB A)) := hb1.1.2.2.2.2
    simp only [f_X9_told_J16, ↓hvc (fun _ => vc_0), ↓hbind c_da1, ↓thr_ok, ↓thr_er, show (((4 : Int32)).toInt < 0 ∨ 10 < ((4 : Int32)).toInt) = False from eq_false (by decide), ↓reduceIte, ↓tsf_at (show (((4 : Int32)).toInt - 0).toNat = 4 from by decide), ↓hbind gR_0_0, ↓hvc (fun _ => bk_v bk1), ↓hbind (bk_i4 bk1), e]
theorem q_told5 (h : RS μ B H) (hl : (shI ++ Ξ).length + 1 < 1000000) : Ask Ξ μ B H (f_L_told 0 5 (mX Ξ μ)) (bw B) :=
  q_told_of h hl (by decide) fun A hC hA e1 e2 => by
    subst e1 e2
    have hB := hA.1
    have p6 : prOK shI 6 = true := bk_pr bk1
    have hb1 := hC.1
    have e : μ.1 1 2 = bw (aB A) := hb1.1.2.2.1
    simp only [f_X9_told_J16, ↓hvc (fun _ => vc_0), ↓hbind c_da1, ↓thr_ok, ↓thr_er, show (((5 : Int32)).toInt < 0 ∨ 10 < ((5 : Int32)).toInt) = False from eq_false (by decide), ↓reduceIte, ↓tsf_at (show (((5 : Int32)).toInt - 0).toNat = 5 from by decide), ↓hbind gR_0_0, ↓hvc (fun _ => bk_v bk1), ↓hbind (bk_i2 bk1), e]
theorem q_told6 (h : RS μ B H) (hl : (shI ++ Ξ).length + 1 < 1000000) : Ask Ξ μ B H (f_L_told 0 6 (mX Ξ μ)) (bt B) :=
  q_told_of h hl (by decide) fun A hC hA e1 e2 => by
    subst e1 e2
    have hB := hA.1
    have p6 : prOK shI 6 = true := bk_pr bk1
    have hb1 := hC.1
    have e : μ.1 1 3 = bt (aB A) := hb1.1.2.2.2.1
    simp only [f_X9_told_J16, ↓hvc (fun _ => vc_0), ↓hbind c_da1, ↓thr_ok, ↓thr_er, show (((6 : Int32)).toInt < 0 ∨ 10 < ((6 : Int32)).toInt) = False from eq_false (by decide), ↓reduceIte, ↓tsf_at (show (((6 : Int32)).toInt - 0).toNat = 6 from by decide), ↓hbind gR_0_0, ↓hvc (fun _ => bk_v bk1), ↓hbind (bk_i3 bk1), e]
theorem q_told7 (h : RS μ B H) (hl : (shI ++ Ξ).length + 1 < 1000000) {v : Int32} (hv : ∀ k, hb v k = (hb (bw B) k && decide (bM B k = 12))) : Ask Ξ μ B H (f_L_told 0 7 (mX Ξ μ)) (v) :=
  q_told_of h hl (by decide) fun A hC hA e1 e2 => by
    subst e1 e2
    have hB := hA.1
    have p6 : prOK shI 6 = true := bk_pr bk1
    have hb1 := hC.1
    obtain ⟨x, ex, hx⟩ := c_workersIn (Ξ := Ξ) (μ := μ) p6 hb1.2.2.2.2.2
    have e : μ.1 1 2 = bw (aB A) := hb1.1.2.2.1
    have ev : bw (aB A) &&& (x ^^^ (-1)) = v := by
      apply hb_ext; intro k hk
      rw [hv k, hb_and, hb_not, hx k]
      cases q : hb (bw (aB A)) k with
      | false => rfl
      | true =>
        have k12 : k < 12 := Nat.lt_of_lt_of_le (hB.w q) hB.n
        have := hB.M.1.1 k
        by_cases z : bM (aB A) k < 12
        · simp [hk, k12, z]; omega
        · simp [hk, k12, z]; omega
    simp only [f_X9_told_J16, ↓hvc (fun _ => vc_0), ↓hbind c_da1, ↓thr_ok, ↓thr_er, show (((7 : Int32)).toInt < 0 ∨ 10 < ((7 : Int32)).toInt) = False from eq_false (by decide), ↓reduceIte, ↓tsf_at (show (((7 : Int32)).toInt - 0).toNat = 7 from by decide), ↓hbind gR_0_0, ↓hvc (fun _ => bk_v bk1), ↓hbind (bk_i2 bk1), ↓hbind (bk_r9 bk1), ↓hvc (fun _ => pr_v p6), ↓hbind ex, e, ev]
theorem q_told8 (h : RS μ B H) (hl : (shI ++ Ξ).length + 1 < 1000000) {v : Int32} (hv : ∀ k, hb v k = (hb (bt B) k && decide (ow (bM B) k = 12))) : Ask Ξ μ B H (f_L_told 0 8 (mX Ξ μ)) (v) :=
  q_told_of h hl (by decide) fun A hC hA e1 e2 => by
    subst e1 e2
    have hB := hA.1
    have p6 : prOK shI 6 = true := bk_pr bk1
    have hb1 := hC.1
    obtain ⟨x, ex, hx⟩ := c_tasksIn (Ξ := Ξ) (μ := μ) p6 hb1.2.2.2.2.2
    have e : μ.1 1 3 = bt (aB A) := hb1.1.2.2.2.1
    have ev : bt (aB A) &&& (x ^^^ (-1)) = v := by
      apply hb_ext; intro k hk
      rw [hv k, hb_and, hb_not, hx k]
      cases q : hb (bt (aB A)) k with
      | false => rfl
      | true =>
        have k12 : k < 12 := Nat.lt_of_lt_of_le (hB.t q) hB.m
        have := ow_le (bM (aB A)) k
        by_cases z : ow (bM (aB A)) k < 12
        · simp [hk, k12, z]; omega
        · simp [hk, k12, z]; omega
    simp only [f_X9_told_J16, ↓hvc (fun _ => vc_0), ↓hbind c_da1, ↓thr_ok, ↓thr_er, show (((8 : Int32)).toInt < 0 ∨ 10 < ((8 : Int32)).toInt) = False from eq_false (by decide), ↓reduceIte, ↓tsf_at (show (((8 : Int32)).toInt - 0).toNat = 8 from by decide), ↓hbind gR_0_0, ↓hvc (fun _ => bk_v bk1), ↓hbind (bk_i3 bk1), ↓hbind (bk_r9 bk1), ↓hvc (fun _ => pr_v p6), ↓hbind ex, e, ev]
theorem q_told9 (h : RS μ B H) (hl : (shI ++ Ξ).length + 1 < 1000000) : Ask Ξ μ B H (f_L_told 0 9 (mX Ξ μ)) (pcs B (bn B)) :=
  q_told_of h hl (by decide) fun A hC hA e1 e2 => by
    subst e1 e2
    have hB := hA.1
    have p6 : prOK shI 6 = true := bk_pr bk1
    have hb1 := hC.1
    have e := c_pairCost (Ξ := Ξ) hb1 hB
    simp only [f_X9_told_J16, ↓hvc (fun _ => vc_0), ↓hbind c_da1, ↓thr_ok, ↓thr_er, show (((9 : Int32)).toInt < 0 ∨ 10 < ((9 : Int32)).toInt) = False from eq_false (by decide), ↓reduceIte, ↓tsf_at (show (((9 : Int32)).toInt - 0).toNat = 9 from by decide), ↓hbind gR_0_0, ↓hvc (fun _ => bk_v bk1), ↓hbind e]
theorem q_told10 (h : RS μ B H) (hl : (shI ++ Ξ).length + 1 < 1000000) : Ask Ξ μ B H (f_L_told 0 10 (mX Ξ μ)) (Int32.ofNat H.length) :=
  q_told_of h hl (by decide) fun A hC hA e1 e2 => by
    subst e1 e2
    have hB := hA.1
    have p6 : prOK shI 6 = true := bk_pr bk1
    have hb1 := hC.1
    have e : μ.1 17 2 = Int32.ofNat (aH A).length := by obtain ⟨x, h1, h2, h3, h4⟩ := hC.2.1; exact h3
    simp only [f_X9_told_J16, ↓hvc (fun _ => vc_0), ↓hbind c_da1, ↓thr_ok, ↓thr_er, show (((10 : Int32)).toInt < 0 ∨ 10 < ((10 : Int32)).toInt) = False from eq_false (by decide), ↓reduceIte, ↓tsf_at (show (((10 : Int32)).toInt - 0).toNat = 10 from by decide), ↓hbind gR_0_0, ↓hvc (fun _ => bk_v bk1), ↓hbind gR_0_2, ↓hbind gI_17_2, e]
end E1
