/-! THE CLASS'S FACE: is pair settle trade undo -/
variable {Ξ : xH}
section E5
variable {μ : MM} {B : Bk} {H : List Bk}
theorem q_is_w (h : RS μ B H) (hl : (shI ++ Ξ).length + 1 < 1000000) {w : Nat} (hw : w < bn B) {th : Bool} (q : hb (bw B) w = !th) : Act Ξ μ (wW B w th) (hpush H B) (f_L_is 0 0 (Int32.ofNat w) (bI th) (mX Ξ μ)) (eI (bM B w)) :=
  q_k (F := f_X9_is 0 0 (Int32.ofNat w) (bI th)) h hl fun A hC hA e => by
    subst e
    have hB := hA.1
    have c := knw hB hw
    have w2 : w < 12 := Nat.lt_of_lt_of_le hw hB.n
    have hB2 := wW_ok (th := th) hB hw
    refine CX_K TT_F hC hA hB2 fun ν1 e1 b1 => ?_
    obtain ⟨ν2, e2, b2, f2⟩ := c_setThere0 (Ξ := Ξ) bk1 b1 (th := th) w2
    refine ⟨ν2, b2, f2, fun ν3 e3 => ?_⟩
    have ep := c_partnerOf0 (Ξ := Ξ) bk1 b1 w2
    have et := c_isThere0 (Ξ := Ξ) bk1 hC.1 hB (show w < 32 by omega)
    rw [q] at et
    have s1 : f_X9_is 0 0 (Int32.ofNat w) (bI th) (mX Ξ μ) = f_X9_is_J59 0 0 (Int32.ofNat w) (bI th) 0 1 (mX Ξ μ) := by
      cases th with
      | true => simp only [f_X9_is, f_X9_is_J23, f_X9_is_J28, f_X9_is_J51, ↓hbind gR_0_0, ↓hvc (fun _ => bk_v bk1), ↓hvc (fun _ => vc_0), ↓hbind (c_kn bk1 hC.1 hB _ _), pb_1 c, show bI true = 1 from rfl, show bI (!true) = 0 from rfl, ↓hbind c_dp1, ↓hbind c_da1, thr, ↓reduceIte, z_1, z_3, ↓hbind et]
      | false => simp only [f_X9_is, f_X9_is_J23, f_X9_is_J28, f_X9_is_J51, ↓hbind gR_0_0, ↓hvc (fun _ => bk_v bk1), ↓hvc (fun _ => vc_0), ↓hbind (c_kn bk1 hC.1 hB _ _), pb_1 c, show bI true = 1 from rfl, show bI false = 0 from rfl, show bI (!false) = 1 from rfl, ↓hbind c_dp1, ↓hbind c_da1, thr, ↓reduceIte, z_1, z_3, ↓hbind et]
    rw [s1]
    cases th with
    | true => simp only [f_X9_is_J59, f_X9_is_J93, ↓hbind gR_0_0, ↓hvc (fun _ => bk_v bk1), ↓hvc (fun _ => vc_0), ↓hbind c_da1, thr, ↓hbind e1, ↓hbind ep, show bI true = 1 from rfl, ↓reduceIte, ↓hbind (show f_X0_setThere 1 0 (Int32.ofNat w) 1 (mX Ξ ν1) = some (mX Ξ ν2) from e2), ↓hbind e3]
    | false => simp only [f_X9_is_J59, f_X9_is_J93, ↓hbind gR_0_0, ↓hvc (fun _ => bk_v bk1), ↓hvc (fun _ => vc_0), ↓hbind c_da1, thr, ↓hbind e1, ↓hbind ep, show bI false = 0 from rfl, ↓reduceIte, z_3, ↓hbind (show f_X0_setThere 1 0 (Int32.ofNat w) 0 (mX Ξ ν1) = some (mX Ξ ν2) from e2), ↓hbind e3]
theorem q_is_t (h : RS μ B H) (hl : (shI ++ Ξ).length + 1 < 1000000) {t : Nat} (ht : t < bm B) {th : Bool} (q : hb (bt B) t = !th) : Act Ξ μ (wT B t th) (hpush H B) (f_L_is 0 1 (Int32.ofNat t) (bI th) (mX Ξ μ)) (eI (ow (bM B) t)) :=
  q_k (F := f_X9_is 0 1 (Int32.ofNat t) (bI th)) h hl fun A hC hA e => by
    subst e
    have hB := hA.1
    have c := knt hB ht
    have t2 : t < 12 := Nat.lt_of_lt_of_le ht hB.m
    have hB2 := wT_ok (th := th) hB ht
    refine CX_K TT_F hC hA hB2 fun ν1 e1 b1 => ?_
    obtain ⟨ν2, e2, b2, f2⟩ := c_setThere1 (Ξ := Ξ) bk1 b1 (th := th) t2
    refine ⟨ν2, b2, f2, fun ν3 e3 => ?_⟩
    have ep := c_partnerOf1 (Ξ := Ξ) bk1 b1 t2
    have et := c_isThere1 (Ξ := Ξ) bk1 hC.1 hB (show t < 32 by omega)
    rw [q] at et
    have s1 : f_X9_is 0 1 (Int32.ofNat t) (bI th) (mX Ξ μ) = f_X9_is_J59 0 1 (Int32.ofNat t) (bI th) 0 1 (mX Ξ μ) := by
      cases th with
      | true => simp only [f_X9_is, f_X9_is_J23, f_X9_is_J28, f_X9_is_J51, ↓hbind gR_0_0, ↓hvc (fun _ => bk_v bk1), ↓hvc (fun _ => vc_0), ↓hbind (c_kn bk1 hC.1 hB _ _), pb_1 c, show bI true = 1 from rfl, show bI (!true) = 0 from rfl, ↓hbind c_dp1, ↓hbind c_da1, thr, ↓reduceIte, z_1, z_3, ↓hbind et]
      | false => simp only [f_X9_is, f_X9_is_J23, f_X9_is_J28, f_X9_is_J51, ↓hbind gR_0_0, ↓hvc (fun _ => bk_v bk1), ↓hvc (fun _ => vc_0), ↓hbind (c_kn bk1 hC.1 hB _ _), pb_1 c, show bI true = 1 from rfl, show bI false = 0 from rfl, show bI (!false) = 1 from rfl, ↓hbind c_dp1, ↓hbind c_da1, thr, ↓reduceIte, z_1, z_3, ↓hbind et]
    rw [s1]
    cases th with
    | true => simp only [f_X9_is_J59, f_X9_is_J93, ↓hbind gR_0_0, ↓hvc (fun _ => bk_v bk1), ↓hvc (fun _ => vc_0), ↓hbind c_da1, thr, ↓hbind e1, ↓hbind ep, show bI true = 1 from rfl, ↓reduceIte, ↓hbind (show f_X0_setThere 1 1 (Int32.ofNat t) 1 (mX Ξ ν1) = some (mX Ξ ν2) from e2), ↓hbind e3]
    | false => simp only [f_X9_is_J59, f_X9_is_J93, ↓hbind gR_0_0, ↓hvc (fun _ => bk_v bk1), ↓hvc (fun _ => vc_0), ↓hbind c_da1, thr, ↓hbind e1, ↓hbind ep, show bI false = 0 from rfl, ↓reduceIte, z_3, ↓hbind (show f_X0_setThere 1 1 (Int32.ofNat t) 0 (mX Ξ ν1) = some (mX Ξ ν2) from e2), ↓hbind e3]
theorem is_a {A : AS} (hC : RC TT μ A) (hA : AOK A) {s : Int32} {k : Nat} (c : KN (aB A) s (Int32.ofNat k)) {th : Bool} (e1 : f_X0_isThere 1 s (Int32.ofNat k) (mX Ξ μ) = some (bI th, mX Ξ μ)) : CX Ξ TT μ (f_X9_is 0 s (Int32.ofNat k) (bI th) (mX Ξ μ)) (SA A) := by
  have hB := hA.1
  refine CX_A TT_F hC hA fun ν e => ?_
  cases th with
  | true => simp only [f_X9_is, f_X9_is_J23, f_X9_is_J28, f_X9_is_J51, f_X9_is_J59, ↓hbind gR_0_0, ↓hvc (fun _ => bk_v bk1), ↓hvc (fun _ => vc_0), ↓hbind (c_kn bk1 hC.1 hB _ _), pb_1 c, show bI true = 1 from rfl, ↓hbind c_dp1, ↓hbind c_da1, thr, ↓reduceIte, z_1, z_3, ↓hbind e1, ↓hbind e]
  | false => simp only [f_X9_is, f_X9_is_J23, f_X9_is_J28, f_X9_is_J51, f_X9_is_J59, ↓hbind gR_0_0, ↓hvc (fun _ => bk_v bk1), ↓hvc (fun _ => vc_0), ↓hbind (c_kn bk1 hC.1 hB _ _), pb_1 c, show bI true = 1 from rfl, show bI false = 0 from rfl, ↓hbind c_dp1, ↓hbind c_da1, thr, ↓reduceIte, z_1, z_3, ↓hbind e1, ↓hbind e]
theorem q_is_wa (h : RS μ B H) (hl : (shI ++ Ξ).length + 1 < 1000000) {w : Nat} (hw : w < bn B) {th : Bool} (q : hb (bw B) w = th) : Ask Ξ μ B H (f_L_is 0 0 (Int32.ofNat w) (bI th) (mX Ξ μ)) (-2000000098) :=
  q_a (F := f_X9_is 0 0 (Int32.ofNat w) (bI th)) h hl rfl fun A hC hA e => by
    subst e
    have hB := hA.1
    have w2 : w < 12 := Nat.lt_of_lt_of_le hw hB.n
    refine is_a hC hA (knw hB hw) ?_
    rw [c_isThere0 bk1 hC.1 hB (show w < 32 by omega), q]
theorem q_is_ta (h : RS μ B H) (hl : (shI ++ Ξ).length + 1 < 1000000) {t : Nat} (ht : t < bm B) {th : Bool} (q : hb (bt B) t = th) : Ask Ξ μ B H (f_L_is 0 1 (Int32.ofNat t) (bI th) (mX Ξ μ)) (-2000000098) :=
  q_a (F := f_X9_is 0 1 (Int32.ofNat t) (bI th)) h hl rfl fun A hC hA e => by
    subst e
    have hB := hA.1
    have t2 : t < 12 := Nat.lt_of_lt_of_le ht hB.m
    refine is_a hC hA (knt hB ht) ?_
    rw [c_isThere1 bk1 hC.1 hB (show t < 32 by omega), q]
theorem q_pair_k (h : RS μ B H) (hl : (shI ++ Ξ).length + 1 < 1000000) {w t : Nat} (hw : w < bn B) (ht : t < bm B) (q0 : gE B w t = true) (q4 : bM B w ≠ t) : Act Ξ μ (wM B (jo (bM B) w t)) (hpush H B) (f_L_pair 0 (Int32.ofNat w) (Int32.ofNat t) (mX Ξ μ)) (Int32.ofNat (sz (jo (bM B) w t))) :=
  q_k (F := f_X9_pair 0 (Int32.ofNat w) (Int32.ofNat t)) h hl fun A hC hA e => by
    subst e
    have hB := hA.1
    have c := knw hB hw
    have d := knt hB ht
    have w2 : w < 12 := Nat.lt_of_lt_of_le hw hB.n
    have t2 : t < 12 := Nat.lt_of_lt_of_le ht hB.m
    obtain ⟨⟨q1, q2⟩, q3⟩ : (hb (bf (aB A) w) t = true ∧ hb (bw (aB A)) w = true) ∧ hb (bt (aB A)) t = true := by
      simpa [gE, Bool.and_eq_true] using q0
    have p6 : prOK shI 6 = true := bk_pr bk1
    have hB2 := wM_ok hB (jo_Ms hB.M w2 t2 q0)
    have n4 : (eI (bM (aB A) w) = Int32.ofNat t) = False := by rw [eI_oN (hB.M.1.1 w) t2]; exact eq_false q4
    refine CX_K TT_F hC hA hB2 fun ν1 e1 b1 => ?_
    obtain ⟨ν2, e2, b2, f2⟩ := c_join (Ξ := Ξ) p6 b1.2.2.2.2.2 w2 t2
    refine ⟨ν2, b1.prs b2 f2, f2.mono fun q i z => by unfold FP at z; unfold FB; omega, fun ν3 e3 => ?_⟩
    have ef := c_isFit (Ξ := Ξ) bk1 hC.1 hB w2 t2
    have ea := c_isThere0 (Ξ := Ξ) bk1 hC.1 hB (show w < 32 by omega)
    have eb := c_isThere1 (Ξ := Ξ) bk1 hC.1 hB (show t < 32 by omega)
    have et := c_taskOf (Ξ := Ξ) (μ := μ) p6 hC.1.2.2.2.2.2 w2
    have es := c_size (Ξ := Ξ) (μ := ν2) p6 b2
    rw [q1] at ef
    rw [q2] at ea
    rw [q3] at eb
    have s1 : f_X9_pair 0 (Int32.ofNat w) (Int32.ofNat t) (mX Ξ μ) = f_X9_pair_J79 0 (Int32.ofNat w) (Int32.ofNat t) 0 1 (mX Ξ μ) := by
      simp only [f_X9_pair, f_X9_pair_J55, ↓hbind gR_0_0, ↓hbind (bk_r9 bk1), ↓hvc (fun _ => bk_v bk1), ↓hvc (fun _ => vc_0), ↓hvc (fun _ => pr_v p6), ↓hbind (c_kb bk1 hC.1 hB _ _), pb_1 c, pb_1 d, Bool.and_self, show bI true = 1 from rfl, ↓hbind c_dp1, ↓hbind c_da1, ↓thr_ok, ↓thr_er, ↓hbind ef, ↓hbind ea, ↓hbind eb, ↓hbind et, ↓reduceIte, z_1, n4]
    rw [s1]
    simp only [f_X9_pair_J79, ↓hbind gR_0_0, ↓hbind (bk_r9 bk1), ↓hvc (fun _ => bk_v bk1), ↓hvc (fun _ => vc_0), ↓hvc (fun _ => pr_v p6), ↓hbind c_da1, ↓thr_ok, ↓thr_er, ↓hbind e1, ↓hbind e2, ↓hbind es, ↓hbind e3]
theorem q_pair_a (h : RS μ B H) (hl : (shI ++ Ξ).length + 1 < 1000000) {w t : Nat} (hw : w < bn B) (ht : t < bm B) (q0 : gE B w t = true → bM B w = t) : Ask Ξ μ B H (f_L_pair 0 (Int32.ofNat w) (Int32.ofNat t) (mX Ξ μ)) (-2000000098) :=
  q_a (F := f_X9_pair 0 (Int32.ofNat w) (Int32.ofNat t)) h hl rfl fun A hC hA e => by
    subst e
    have hB := hA.1
    have c := knw hB hw
    have d := knt hB ht
    have w2 : w < 12 := Nat.lt_of_lt_of_le hw hB.n
    have t2 : t < 12 := Nat.lt_of_lt_of_le ht hB.m
    have q : hb (bf (aB A) w) t = true → hb (bw (aB A)) w = true → hb (bt (aB A)) t = true → bM (aB A) w = t := fun q1 q2 q3 => q0 (by unfold gE; rw [q1, q2, q3]; rfl)
    have p6 : prOK shI 6 = true := bk_pr bk1
    refine CX_A TT_F hC hA fun ν e => ?_
    have ef := c_isFit (Ξ := Ξ) bk1 hC.1 hB w2 t2
    have ea := c_isThere0 (Ξ := Ξ) bk1 hC.1 hB (show w < 32 by omega)
    have eb := c_isThere1 (Ξ := Ξ) bk1 hC.1 hB (show t < 32 by omega)
    have et := c_taskOf (Ξ := Ξ) (μ := μ) p6 hC.1.2.2.2.2.2 w2
    have s1 : f_X9_pair 0 (Int32.ofNat w) (Int32.ofNat t) (mX Ξ μ) = if bI (hb (bf (aB A) w) t) = 0 then f_X9_pair_J54 0 (Int32.ofNat w) (Int32.ofNat t) 0 (mX Ξ μ) else if bI (hb (bw (aB A)) w) = 0 then f_X9_pair_J54 0 (Int32.ofNat w) (Int32.ofNat t) 0 (mX Ξ μ) else if bI (hb (bt (aB A)) t) = 0 then f_X9_pair_J54 0 (Int32.ofNat w) (Int32.ofNat t) 0 (mX Ξ μ) else f_X9_pair_J55 0 (Int32.ofNat w) (Int32.ofNat t) 0 1 (mX Ξ μ) := by
      simp only [f_X9_pair, ↓hbind gR_0_0, ↓hvc (fun _ => bk_v bk1), ↓hvc (fun _ => vc_0), ↓hbind (c_kb bk1 hC.1 hB _ _), pb_1 c, pb_1 d, Bool.and_self, show bI true = 1 from rfl, ↓hbind c_dp1, ↓thr_ok, ↓thr_er, ↓hbind ef, ↓hbind ea, ↓hbind eb]
    have n1 : f_X9_pair_J54 0 (Int32.ofNat w) (Int32.ofNat t) 0 (mX Ξ μ) = some (.inr IAE, ν) := by
      simp only [f_X9_pair_J54, f_X9_pair_J55, ↓hvc (fun _ => vc_0), ↓hbind e, ↓thr_ok, ↓thr_er]
    rw [s1]
    by_cases q1 : hb (bf (aB A) w) t = false
    · rw [if_pos (by rw [bI_0]; exact q1)]; exact n1
    · rw [if_neg (by rw [bI_0]; exact q1)]
      by_cases q2 : hb (bw (aB A)) w = false
      · rw [if_pos (by rw [bI_0]; exact q2)]; exact n1
      · rw [if_neg (by rw [bI_0]; exact q2)]
        by_cases q3 : hb (bt (aB A)) t = false
        · rw [if_pos (by rw [bI_0]; exact q3)]; exact n1
        · rw [if_neg (by rw [bI_0]; exact q3)]
          have q4 := q (by simpa using q1) (by simpa using q2) (by simpa using q3)
          have n4 : (eI (bM (aB A) w) = Int32.ofNat t) = True := by rw [q4, eI_lt t2]; exact eq_true rfl
          simp only [f_X9_pair_J55, f_X9_pair_J79, ↓hbind gR_0_0, ↓hbind (bk_r9 bk1), ↓hvc (fun _ => vc_0), ↓hvc (fun _ => pr_v p6), ↓hbind c_da1, ↓thr_ok, ↓thr_er, ↓hbind et, ↓reduceIte, n4, ↓hbind e]
/-- settle, n times at the most -/
theorem q_settle (h : RS μ B H) (hl : (shI ++ Ξ).length + 1 < 1000000) {n k : Nat} {M' : Nat → Nat} (n1 : 1 ≤ n) (n2 : n ≤ 12) (g : Gr (gE B) n k (bM B) M') : ∃ Δ ν, f_L_settle 0 (Int32.ofNat n) (mX Ξ μ) = some (Int32.ofNat k, mX (Ξ ++ Δ) ν) ∧ Gw 1 Δ ∧ Fr CL μ ν ∧ RS ν (wM B M') (if k = 0 then H else hpush H B) := by
  obtain ⟨A, hC, hA, rfl, rfl, h3⟩ := h
  obtain ⟨x, ν, A', Δ, e, hΔ, f, r, ok, k', M2, g', rfl, rfl⟩ := c_settle (Ξ := Ξ) TT_F hA hC n1 n2 hl
  obtain ⟨rfl, rfl⟩ := g.uniq g'
  refine ⟨Δ, ν, ?_, hΔ, f, _, r, ok, ?_, ?_, ?_⟩
  · show (vc (mX Ξ μ) 9 0 (f_X9_settle 0 (Int32.ofNat n) (mX Ξ μ))).bind (wrp wc_L_settle) = _
    rw [vc_0, e, Option.bind_some]
    rfl
  · split
    · next z => subst z; rw [show M' = bM (aB A) from g.1]; rfl
    · rfl
  · split <;> rfl
  · split
    · exact h3
    · exact h3
theorem q_trade (h : RS μ B H) : ∃ ν M', f_X9_trade 0 (mX Ξ μ) = some ((trF B).1, mX Ξ ν) ∧ Fr CL μ ν ∧ RS ν (wM B M') (if (trF B).1 = 0 then H else hpush H B) ∧ (((trF B).1 = 0 ∧ M' = bM B) ∨ ∃ v w, v ≠ w ∧ 0 < (trF B).1 ∧ trF B = ((trF B).1, Int32.ofNat v, Int32.ofNat w) ∧ v < 12 ∧ w < 12 ∧ M' = jo (jo (bM B) v (bM B w)) w (bM B v)) := by
  obtain ⟨A, hC, hA, rfl, rfl, h3⟩ := h
  obtain ⟨x, ν, A', e, f, r, ok, rfl, q⟩ := c_trade (Ξ := Ξ) TT_F hA hC
  rcases q with ⟨q0, rfl⟩ | ⟨v, w, vw, p, tf, v12, w12, rfl⟩
  · exact ⟨ν, bM (aB A'), e, f, ⟨A', r, ok, rfl, by rw [if_pos q0], h3⟩, Or.inl ⟨q0, rfl⟩⟩
  · refine ⟨ν, _, e, f, ⟨_, r, ok, rfl, ?_, h3⟩, Or.inr ⟨v, w, vw, p, tf, v12, w12, rfl⟩⟩
    rw [if_neg (fun z => by rw [z] at p; exact absurd p (by decide))]
    rfl
theorem q_undo0 (h : RS μ B []) : ∃ ν, f_X9_undo 0 (mX Ξ μ) = some (-1, mX Ξ ν) ∧ Fr CL μ ν ∧ RS ν B [] := by
  obtain ⟨A, hC, hA, rfl, h2, h3⟩ := h
  have hc := hC.2.1
  rw [h2] at hc
  obtain ⟨r, ν, e, rfl, rfl⟩ := c_takeBack_0 (Ξ := Ξ) hc
  refine ⟨ν, ?_, Fr.refl _ _, A, hC, hA, rfl, h2, h3⟩
  simp only [f_X9_undo, ↓hbind gR_0_2, ↓hbind gR_0_0, ↓hvc (fun _ => vc_17), ↓hbind e, ↓reduceIte]
theorem q_undo1 {C : Bk} (h : RS μ B (H ++ [C])) : ∃ ν, f_X9_undo 0 (mX Ξ μ) = some (Int32.ofNat H.length, mX Ξ ν) ∧ Fr CL μ ν ∧ RS ν C H := by
  obtain ⟨A, hC, hA, rfl, h2, h3⟩ := h
  obtain ⟨ν, e, f, r⟩ := c_undo (Ξ := Ξ) TT_F hA hC h2
  have ok : AOK (wU A C H) := ⟨hA.2.1 C (by rw [h2]; simp), fun D hD => hA.2.1 D (by rw [h2]; exact List.mem_append.mpr (Or.inl hD)), hA.2.2.1, hA.2.2.2⟩
  exact ⟨ν, e, f, _, r, ok, rfl, rfl, h3⟩
end E5
