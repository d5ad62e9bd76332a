/-! THE CLASS'S FACE: of fit fitMany many cheap -/
variable {Ξ : xH}
section E3
variable {μ : MM} {B : Bk} {H : List Bk}
theorem kns {B : Bk} (hB : BOK B) {s : Bool} {k : Nat} (hk : k < if s then bm B else bn B) : KN B (bI s) (Int32.ofNat k) ∧ k < 12 := by
  cases s with
  | true => exact ⟨knt hB hk, Nat.lt_of_lt_of_le hk hB.m⟩
  | false => exact ⟨knw hB hk, Nat.lt_of_lt_of_le hk hB.n⟩
theorem q_of0 (h : RS μ B H) (hl : (shI ++ Ξ).length + 1 < 1000000) (s : Bool) {k : Nat} (hk : k < if s then bm B else bn B) {a b : Nat} (na : Nu (xE B s k) a) (nb : Nu (gE B) b) : Ask Ξ μ B H (f_L_of 0 (bI s) (Int32.ofNat k) 0 (mX Ξ μ)) (if b ≤ a then 0 else 1) :=
  q_v (F := f_X9_of 0 (bI s) (Int32.ofNat k) 0) h hl fun A hC hA e => by
    subst e
    have hB := hA.1
    obtain ⟨c, k12⟩ := kns hB hk
    obtain ⟨ν1, ν2, ν3, g, N, e1, e2, e3, e4, f3, nu, hN⟩ := c_without (Ξ := Ξ) hC hA s k12
    have fq : Fr CQ μ ν3 := f3.mono fun _ _ z => z.Q
    obtain ⟨ν4, j, M', e5, f5, s5, o5, gr⟩ := c_makeMost (Ξ := Ξ) (hC.fr TT_F fq fun q i _ z => Or.inl z) hA
    have fq2 : Fr CQ μ ν4 := fq.trans (f5.mono fun _ _ z => z.Q)
    have nu2 := (gr.nu hB.Eb hB.M).2.1
    have hz := sz_le M'
    have x1 := na.uniq nu
    have x2 := nb.uniq nu2
    subst x1 x2
    refine CX_V TT_F hC hA (ν := ν4) ?_ fq2
    rw [c_of_a hC hA c (by decide) (by decide)]
    have s1 : f_X9_of_J28 0 (bI s) (Int32.ofNat k) 0 0 1 (mX Ξ μ) = if Int32.ofNat a ≥ Int32.ofNat (sz M') then f_X9_of_J107 0 (mX Ξ ν4) else f_X9_of_J107 1 (mX Ξ ν4) := by
      simp only [f_X9_of_J28, ↓hvc (fun _ => vc_0), ↓hvc (fun _ => vc_141), ↓hvc (fun _ => pr_v pr142), ↓hbind c_da1, ↓thr_ok, ↓thr_er, show ((0 : Int32) = 2) = False from eq_false (by decide), z_3, ↓reduceIte, ↓hbind gR_0_4, ↓hbind gR_0_0, ↓hbind gR_141_0, ↓hbind e1, ↓hbind e2, ↓hbind e3, ↓hbind e4, ↓hbind e5]
    rw [s1]
    by_cases z : sz M' ≤ a
    · have z' : Int32.ofNat a ≥ Int32.ofNat (sz M') := by rw [oN_ge (by omega) (by omega)]; exact z
      rw [if_pos z', if_pos z, f_X9_of_J107]
    · have z' : ¬ Int32.ofNat a ≥ Int32.ofNat (sz M') := by rw [oN_ge (by omega) (by omega)]; exact z
      rw [if_neg z', if_neg z, f_X9_of_J107]
theorem q_of1 (h : RS μ B H) (hl : (shI ++ Ξ).length + 1 < 1000000) (s : Bool) {k : Nat} (hk : k < if s then bm B else bn B) {a : Nat} (na : Nu (xE B s k) a) : Ask Ξ μ B H (f_L_of 0 (bI s) (Int32.ofNat k) 1 (mX Ξ μ)) (Int32.ofNat a) :=
  q_v (F := f_X9_of 0 (bI s) (Int32.ofNat k) 1) h hl fun A hC hA e => by
    subst e
    have hB := hA.1
    obtain ⟨c, k12⟩ := kns hB hk
    obtain ⟨ν1, ν2, ν3, g, N, e1, e2, e3, e4, f3, nu, hN⟩ := c_without (Ξ := Ξ) hC hA s k12
    have fq : Fr CQ μ ν3 := f3.mono fun _ _ z => z.Q
    have x1 := na.uniq nu
    subst x1
    refine CX_V TT_F hC hA (ν := ν3) ?_ fq
    rw [c_of_a hC hA c (by decide) (by decide)]
    simp only [f_X9_of_J28, ↓hvc (fun _ => vc_0), ↓hvc (fun _ => vc_141), ↓hvc (fun _ => pr_v pr142), ↓hbind c_da1, ↓thr_ok, ↓thr_er, show ((1 : Int32) = 2) = False from eq_false (by decide), ↓reduceIte, ↓hbind gR_0_4, ↓hbind gR_0_0, ↓hbind gR_141_0, ↓hbind e1, ↓hbind e2, ↓hbind e3, ↓hbind e4]
theorem th_of {A : AS} (hC : RC TT μ A) (hB : BOK (aB A)) (s : Bool) {k : Nat} (k12 : k < 12) : f_X0_isThere 1 (bI s) (Int32.ofNat k) (mX Ξ μ) = some (bI (if s then hb (bt (aB A)) k else hb (bw (aB A)) k), mX Ξ μ) := by
  cases s with
  | false => exact c_isThere0 bk1 hC.1 hB (show k < 32 by omega)
  | true => exact c_isThere1 bk1 hC.1 hB (show k < 32 by omega)
theorem q_of2_0 (h : RS μ B H) (hl : (shI ++ Ξ).length + 1 < 1000000) (s : Bool) {k : Nat} (hk : k < if s then bm B else bn B) (q : (if s then hb (bt B) k else hb (bw B) k) = false) : Ask Ξ μ B H (f_L_of 0 (bI s) (Int32.ofNat k) 2 (mX Ξ μ)) 0 :=
  q_v (F := f_X9_of 0 (bI s) (Int32.ofNat k) 2) h hl fun A hC hA e => by
    subst e
    have hB := hA.1
    obtain ⟨c, k12⟩ := kns hB hk
    have ec := th_of (Ξ := Ξ) hC hB s k12
    rw [q] at ec
    have ep : f_X9_partOf 0 (bI s) (Int32.ofNat k) (mX Ξ μ) = some (0, mX Ξ μ) := by
      simp only [f_X9_partOf, ↓hbind gR_0_0, ↓hvc (fun _ => bk_v bk1), ↓hbind ec, show bI false = 0 from rfl, ↓reduceIte]
    refine CX_V TT_F hC hA (ν := μ) ?_ (Fr.refl _ _)
    rw [c_of_a hC hA c (by decide) (by decide)]
    simp only [f_X9_of_J28, ↓hvc (fun _ => vc_0), ↓hbind c_da1, ↓thr_ok, ↓reduceIte, ↓hbind ep]
theorem q_of2_1 (h : RS μ B H) (hl : (shI ++ Ξ).length + 1 < 1000000) (s : Bool) {k j : Nat} (hk : k < if s then bm B else bn B) (q : (if s then hb (bt B) k else hb (bw B) k) = true) {M' : Nat → Nat} {a b u v : Int32} (g : Gr (gE B) 12 j (bM B) M') (r1 : AlW (gE B) M' (bw B) a b) (r2 : AlW (trE (gE B)) (tr M') (bt B) v u) : Ask Ξ μ B H (f_L_of 0 (bI s) (Int32.ofNat k) 2 (mX Ξ μ)) (prt s k a b u v) :=
  q_re (f := f_X9_of 0 (bI s) (Int32.ofNat k) 2) (prt s k) h hl g r1 r2 fun A ν ξ N hC hA e e1 e2 _ => by
    subst e
    have hB := hA.1
    obtain ⟨c, k12⟩ := kns hB hk
    have ec := th_of (Ξ := Ξ) hC hB s k12
    rw [q] at ec
    have ep := c_partOf (Ξ := Ξ) hC hA s k12 ec e1 e2
    rw [c_of_a hC hA c (by decide) (by decide)]
    simp only [f_X9_of_J28, ↓hvc (fun _ => vc_0), ↓hbind c_da1, ↓thr_ok, ↓reduceIte, ↓hbind ep]
theorem q_fit (h : RS μ B H) (hl : (shI ++ Ξ).length + 1 < 1000000) {w t : Nat} (hw : w < bn B) (ht : t < bm B) : Ask Ξ μ B H (f_L_fit 0 (Int32.ofNat w) (Int32.ofNat t) (mX Ξ μ)) (kv B w t) :=
  q_v (F := f_X9_fit 0 (Int32.ofNat w) (Int32.ofNat t)) h hl fun A hC hA e => by
    subst e
    have hB := hA.1
    have c := knw hB hw
    have d := knt hB ht
    obtain ⟨ν, ξ, ζ, N, M', e1, e2, e3, fq, ks, hb1⟩ := c_prep (Ξ := Ξ) hC hA
    have ek := c_kindOf (Ξ := Ξ) ks hB hb1 (Nat.lt_of_lt_of_le hw hB.n) (Nat.lt_of_lt_of_le ht hB.m)
    refine CX_V TT_F hC hA (ν := ζ) ?_ fq
    simp only [f_X9_fit, ↓hbind gR_0_0, ↓hvc (fun _ => bk_v bk1), ↓hvc (fun _ => vc_0), ↓hbind (c_kb bk1 hC.1 hB _ _), pb_1 c, pb_1 d, Bool.and_self, show bI true = 1 from rfl, ↓hbind c_dp1, ↓thr_ok, ↓hbind e1, ↓hbind gR_0_5, ↓hbind gR_0_4, ↓hvc (fun _ => vc_149), ↓hbind e2, ↓hbind e3, ↓hbind ek]
theorem q_fitMany (h : RS μ B H) (hl : (shI ++ Ξ).length + 1 < 1000000) {x : Int32} (c : 1 ≤ x ∧ x ≤ 3) : Ask Ξ μ B H (f_L_fitMany 0 x (mX Ξ μ)) (fmQ B x (bn B) 0 0) :=
  q_v (F := f_X9_fitMany 0 x) h hl fun A hC hA e => by
    subst e
    have hB := hA.1
    have hn := hB.n
    obtain ⟨c1, c2⟩ := in13 c
    obtain ⟨ν, ξ, ζ, N, M', e1, e2, e3, fq, ks, hb1⟩ := c_prep (Ξ := Ξ) hC hA
    have eo := c_fm_out (Ξ := Ξ) ks hB hb1 (x := x) f_X9_fitMany_J102 (bn (aB A)) 0 0 (5000 - (bn (aB A) + 1)) (by omega)
    rw [show bn (aB A) + 1 + (5000 - (bn (aB A) + 1)) = 5000 by omega] at eo
    have eo : f_X9_fitMany_L50 f_X9_fitMany_J102 5000 0 x 0 0 (mX Ξ ζ) = _ := eo
    refine CX_V TT_F hC hA (ν := ζ) ?_ fq
    simp only [f_X9_fitMany, if_neg c1, if_neg c2, f_X9_fitMany_J16, ↓hvc (fun _ => vc_0), ↓hbind c_da1, ↓thr_ok, ↓hbind e1, ↓hbind gR_0_5, ↓hbind gR_0_4, ↓hvc (fun _ => vc_149), ↓hbind e2, ↓hbind e3, eo, f_X9_fitMany_J102]
theorem q_many (h : RS μ B H) {N : Nat} (nu : Nu (gE B) N) : ∃ ν, f_X9_many 0 (mX Ξ μ) = some (Int64.ofNat (FN (gE B) (bc B) N (2 ^ bm B)).length, mX Ξ ν) ∧ Fr CL μ ν ∧ RS ν B H ∧ lsB (gE B) (bc B) N 12 0 < 1000000 := by
  obtain ⟨A, hC, hA, rfl, h2, h3⟩ := h
  obtain ⟨ν, e1, f1, c1, N', n1, ls, t1, -⟩ := c_runTally (Ξ := Ξ) hC hA
  have x := nu.uniq n1
  subst x
  refine ⟨ν, ?_, f1, ⟨A, c1, hA, rfl, h2, h3⟩, ls⟩
  simp only [f_X9_many, ↓hvc (fun _ => vc_0), ↓hbind e1, ↓hbind gR_0_7, ↓hbind gJ_156_5, t1]
theorem q_cheap0 (h : RS μ B H) (hl : (shI ++ Ξ).length + 1 < 1000000) {N : Nat} (nu : Nu (gE B) N) : Ask Ξ μ B H (f_L_cheap 0 0 (mX Ξ μ)) (Int32.ofNat (lsB (gE B) (bc B) N 12 0)) := by
  obtain ⟨A, hC, hA, rfl, h2, h3⟩ := h
  obtain ⟨ν, e1, f1, c1, N', n1, -, -, t7, t6, -⟩ := c_runTally (Ξ := Ξ) hC hA
  have x := nu.uniq n1
  subst x
  refine q_of (F := f_X9_cheap 0 0) (S := SV A (Int32.ofNat (lsB (gE (aB A)) (bc (aB A)) N 12 0))) hl (CX.of _ ν A ⟨?_, f1, c1, hA, rfl, rfl⟩) fun x A' s => ⟨Or.inl s.1, by rw [s.2], by rw [s.2]; exact h2, by rw [s.2]; exact h3⟩
  simp only [f_X9_cheap, f_X9_cheap_J10, f_X9_cheap_J15, f_X9_cheap_J50, ↓reduceIte, ↓hvc (fun _ => vc_0), ↓hbind c_da1, ↓thr_ok, ↓thr_er, ↓hbind e1, ↓hbind gR_0_7, ↓hbind gI_156_7, t7]
theorem q_cheap1 (h : RS μ B H) (hl : (shI ++ Ξ).length + 1 < 1000000) {N : Nat} (nu : Nu (gE B) N) : Ask Ξ μ B H (f_L_cheap 0 1 (mX Ξ μ)) (lmin 1000000000 (Int64.ofNat (lsW (gE B) (bc B) N 12 0))).toInt32 := by
  obtain ⟨A, hC, hA, rfl, h2, h3⟩ := h
  obtain ⟨ν, e1, f1, c1, N', n1, -, -, t7, t6, -⟩ := c_runTally (Ξ := Ξ) hC hA
  have x := nu.uniq n1
  subst x
  refine q_of (F := f_X9_cheap 0 1) (S := SV A (lmin 1000000000 (Int64.ofNat (lsW (gE (aB A)) (bc (aB A)) N 12 0))).toInt32) hl (CX.of _ ν A ⟨?_, f1, c1, hA, rfl, rfl⟩) fun x A' s => ⟨Or.inl s.1, by rw [s.2], by rw [s.2]; exact h2, by rw [s.2]; exact h3⟩
  simp only [f_X9_cheap, f_X9_cheap_J10, f_X9_cheap_J15, f_X9_cheap_J50, ↓reduceIte, z_1, ↓hvc (fun _ => vc_0), ↓hbind c_da1, ↓thr_ok, ↓thr_er, ↓hbind e1, ↓hbind gR_0_7, ↓hbind gJ_156_6, t6]
end E3
