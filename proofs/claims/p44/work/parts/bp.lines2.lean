/-! THE CLASS: the lines of a text: pair away -/
variable {Ξ : xH}
section Lc3
variable {μ ν : MM} {n p : Nat} {y : Nat → Nat} {B : Bk} {kr : Bool}
theorem free_b {P : Prop} [Decidable P] {b : Bool} : (b && decide P) = true ↔ b = true ∧ P := by rw [Bool.and_eq_true, decide_eq_true_eq]
theorem free_f {P : Prop} [Decidable P] {b : Bool} (h : ¬ (b = true ∧ P)) : (b && decide P) = false := by
  cases x : (b && decide P) with
  | false => rfl
  | true => exact absurd (free_b.mp x) h
theorem c_lnPair (hn : n ≤ 300) (hy : ∀ k, y k < 256) (hp : p ≤ n) (hB : BOK B) (h : TC n y ν p B kr) : ∃ ξ r, f_X6_readPair 139 9 ((mX Ξ) ν) = some (r, (mX Ξ) ξ) ∧ Fr FTx ν ξ ∧ OC n y ξ r (lnPair n y p B kr) := by
  have n12 := hB.n
  have m12' := hB.m
  have p14 : prOK shI 14 = true := bk_pr bk9
  have g0 : ν.1 9 0 = Int32.ofNat (bn B) := h.2.1.1.1
  rcases q1 : num n y p 0 (bn B - 1) with ⟨a, q⟩ | ⟨w, s, p1⟩
  · obtain ⟨ξ, e1, f1, v1, v2⟩ := t_num_er (Ξ := Ξ) (x1 := 0) (lo := 0) hn hy hp h rfl (bn_1 hB) (by omega) (by omega) q1
    have el : lnPair n y p B kr = .er a q := by simp only [lnPair, q1]
    rw [el]
    refine ⟨ξ, 0, ?_, f1, rfl, v1, v2⟩
    simp only [f_X6_readPair, ↓hbind (bk_i0 bk9), g0, ↓hvc (fun _ => vc_139), ↓hbind e1, ↓reduceIte, j01_0, true_or, or_true]
  · obtain ⟨-, -, -, -, w12, -, -, hp1⟩ := num_ok hp q1
    obtain ⟨ν1, e1, t1, s1, f1, d1⟩ := t_num_ok (Ξ := Ξ) (x1 := 0) (lo := 0) hn hy hp h rfl (bn_1 hB) (by omega) (by omega) q1
    have g1 : ν1.1 9 1 = Int32.ofNat (bm B) := t1.2.1.1.2.1
    have e2 := c_isFree0 (Ξ := Ξ) bk9 t1.2.1 hB (show w < 12 by omega)
    by_cases z : hb (bw B) w = true ∧ bM B w = 12
    · rw [free_b.mpr z] at e2
      rcases q2 : num n y p1 0 (bm B - 1) with ⟨a, q⟩ | ⟨t, s2, p2⟩
      · obtain ⟨ξ, e3, f3, v1, v2⟩ := t_num_er (Ξ := Ξ) (x1 := 0) (lo := 0) hn hy hp1 t1 rfl (bm_1 hB) (by omega) (by omega) q2
        have el : lnPair n y p B kr = .er a q := by simp only [lnPair, q1, if_pos z, q2]
        rw [el]
        refine ⟨ξ, 0, ?_, f1.trans f3, rfl, v1, v2⟩
        simp only [f_X6_readPair, ↓hbind (bk_i0 bk9), g0, ↓hvc (fun _ => vc_139), ↓hbind e1, z_1, ↓reduceIte, ↓hbind d1, ↓hbind gI_139_6, s1, ↓hvc (fun _ => bk_v bk9), ↓hbind e2, show bI true = 1 from rfl, ↓hbind (bk_i1 bk9), g1, ↓hbind e3, j01_0, true_or, or_true]
      · obtain ⟨-, -, -, -, t12, -, -, hp2⟩ := num_ok hp1 q2
        obtain ⟨ν2, e3, t2, -, f2, d2⟩ := t_num_ok (Ξ := Ξ) (x1 := 0) (lo := 0) hn hy hp1 t1 rfl (bm_1 hB) (by omega) (by omega) q2
        have e4 := c_isFree1 (Ξ := Ξ) bk9 t2.2.1 hB (show t < 12 by omega)
        have e5 := c_isFit (Ξ := Ξ) bk9 t2.2.1 hB (show w < 12 by omega) (show t < 12 by omega)
        obtain ⟨ζ, i1, i2, i3, i4⟩ := c_isFault (Ξ := Ξ) (ν := ν2) (a := 4) (q := Int32.ofNat s)
        by_cases x : hb (bt B) t = true ∧ ow (bM B) t = 12
        · rw [free_b.mpr x] at e4
          by_cases u : hb (bf B w) t = true
          · rw [u] at e5
            obtain ⟨ξ, e6, b6, f6⟩ := c_join (Ξ := Ξ) p14 t2.2.1.2.2.2.2.2 (show w < 12 by omega) (show t < 12 by omega)
            have f6' : Fr (FB 9) ν2 ξ := f6.mono fun q i z => by unfold FP at z; unfold FB; omega
            have el : lnPair n y p B kr = .ok p2 (wM B (jo (bM B) w t)) kr := by simp only [lnPair, q1, if_pos z, q2, if_pos (And.intro x u)]
            rw [el]
            refine ⟨ξ, 1, ?_, (f1.trans f2).trans (f6'.mono fun q i z => Or.inr z), rfl, t2.bk (t2.2.1.prs b6 f6) f6'⟩
            simp only [f_X6_readPair, ↓hbind (bk_i0 bk9), g0, ↓hvc (fun _ => vc_139), ↓hbind e1, z_1, ↓reduceIte, ↓hbind d1, ↓hbind gI_139_6, s1, ↓hvc (fun _ => bk_v bk9), ↓hbind e2, show bI true = 1 from rfl, ↓hbind (bk_i1 bk9), g1, ↓hbind e3, ↓hbind d2, ↓hbind e4, ↓hbind e5, ↓hbind (bk_r9 bk9), ↓hvc (fun _ => pr_v p14), ↓hbind e6, j01_1, true_or, or_true]
          · have u' : hb (bf B w) t = false := by simpa using u
            rw [u'] at e5
            have el : lnPair n y p B kr = .er 4 s := by simp only [lnPair, q1, if_pos z, q2, if_neg (show ¬ ((hb (bt B) t = true ∧ ow (bM B) t = 12) ∧ hb (bf B w) t = true) from fun k => u k.2)]
            rw [el]
            refine ⟨ζ, 0, ?_, (f1.trans f2).trans (i2.mono fun _ _ z => z.T), rfl, i3, i4⟩
            simp only [f_X6_readPair, ↓hbind (bk_i0 bk9), g0, ↓hvc (fun _ => vc_139), ↓hbind e1, z_1, ↓reduceIte, ↓hbind d1, ↓hbind gI_139_6, s1, ↓hvc (fun _ => bk_v bk9), ↓hbind e2, show bI true = 1 from rfl, ↓hbind (bk_i1 bk9), g1, ↓hbind e3, ↓hbind d2, ↓hbind e4, ↓hbind e5, show bI false = 0 from rfl, f_X6_readPair_J84, ↓hbind i1, j01_0, true_or, or_true]
        · rw [free_f x] at e4
          have el : lnPair n y p B kr = .er 4 s := by simp only [lnPair, q1, if_pos z, q2, if_neg (show ¬ ((hb (bt B) t = true ∧ ow (bM B) t = 12) ∧ hb (bf B w) t = true) from fun k => x k.1)]
          rw [el]
          refine ⟨ζ, 0, ?_, (f1.trans f2).trans (i2.mono fun _ _ z => z.T), rfl, i3, i4⟩
          simp only [f_X6_readPair, ↓hbind (bk_i0 bk9), g0, ↓hvc (fun _ => vc_139), ↓hbind e1, z_1, ↓reduceIte, ↓hbind d1, ↓hbind gI_139_6, s1, ↓hvc (fun _ => bk_v bk9), ↓hbind e2, show bI true = 1 from rfl, ↓hbind (bk_i1 bk9), g1, ↓hbind e3, ↓hbind d2, ↓hbind e4, show bI false = 0 from rfl, f_X6_readPair_J84, ↓hbind i1, j01_0, true_or, or_true]
    · rw [free_f z] at e2
      obtain ⟨ζ, i1, i2, i3, i4⟩ := c_isFault (Ξ := Ξ) (ν := ν1) (a := 4) (q := Int32.ofNat s)
      have el : lnPair n y p B kr = .er 4 s := by simp only [lnPair, q1, if_neg z]
      rw [el]
      refine ⟨ζ, 0, ?_, f1.trans (i2.mono fun _ _ z => z.T), rfl, i3, i4⟩
      simp only [f_X6_readPair, ↓hbind (bk_i0 bk9), g0, ↓hvc (fun _ => vc_139), ↓hbind e1, z_1, ↓reduceIte, ↓hbind d1, ↓hbind gI_139_6, s1, ↓hvc (fun _ => bk_v bk9), ↓hbind e2, show bI false = 0 from rfl, ↓hbind i1, j01_0, true_or, or_true]
/-- a side's number, and whether it may go -/
theorem c_away_w (hn : n ≤ 300) (hy : ∀ k, y k < 256) (hp : p ≤ n) (hB : BOK B) (h : TC n y ν p B kr) : ∃ ξ r, f_X6_readAway_J31 139 9 0 ((mX Ξ) ν) = some (r, (mX Ξ) ξ) ∧ Fr FTx ν ξ ∧ OC n y ξ r (match num n y p 0 (bn B - 1) with
    | .inl (a, q) => .er a q
    | .inr (k, s, p1) => if hb (bw B) k = true ∧ bM B k = 12 then .ok p1 (wW B k false) kr else .er 5 s) := by
  have n12 := hB.n
  have g0 : ν.1 9 0 = Int32.ofNat (bn B) := h.2.1.1.1
  have k1 : ((0 : Int32) = -1) = False := by decide
  rcases q1 : num n y p 0 (bn B - 1) with ⟨a, q⟩ | ⟨w, s, p1⟩
  · obtain ⟨ξ, e1, f1, v1, v2⟩ := t_num_er (Ξ := Ξ) (x1 := 0) (lo := 0) hn hy hp h rfl (bn_1 hB) (by omega) (by omega) q1
    refine ⟨ξ, 0, ?_, f1, rfl, v1, v2⟩
    simp only [f_X6_readAway_J31, k1, ↓reduceIte, ↓hbind (bk_i0 bk9), g0, f_X6_readAway_J64, ↓hvc (fun _ => vc_139), ↓hbind e1, j01_0, true_or, or_true]
  · obtain ⟨-, -, -, -, w12, -, -, hp1⟩ := num_ok hp q1
    obtain ⟨ν1, e1, t1, s1, f1, d1⟩ := t_num_ok (Ξ := Ξ) (x1 := 0) (lo := 0) hn hy hp h rfl (bn_1 hB) (by omega) (by omega) q1
    have e2 := c_isFree0 (Ξ := Ξ) bk9 t1.2.1 hB (show w < 12 by omega)
    by_cases z : hb (bw B) w = true ∧ bM B w = 12
    · rw [free_b.mpr z] at e2
      obtain ⟨ξ, e3, b3, f3⟩ := c_setThere0 (Ξ := Ξ) (th := false) bk9 t1.2.1 (show w < 12 by omega)
      have e3 : f_X0_setThere 9 0 (Int32.ofNat w) 0 ((mX Ξ) ν1) = some ((mX Ξ) ξ) := e3
      refine ⟨ξ, 1, ?_, f1.trans (f3.mono fun q i z => Or.inr z), ?_⟩
      · simp only [f_X6_readAway_J31, k1, ↓reduceIte, ↓hbind (bk_i0 bk9), g0, f_X6_readAway_J64, ↓hvc (fun _ => vc_139), ↓hbind e1, z_1, ↓hbind d1, ↓hvc (fun _ => bk_v bk9), ↓hbind e2, show bI true = 1 from rfl, ↓hbind e3, j01_1, true_or, or_true]
      · show OC n y ξ 1 (if hb (bw B) w = true ∧ bM B w = 12 then .ok p1 (wW B w false) kr else .er 5 s)
        rw [if_pos z]
        exact ⟨rfl, t1.bk b3 f3⟩
    · rw [free_f z] at e2
      obtain ⟨ζ, i1, i2, i3, i4⟩ := c_isFault (Ξ := Ξ) (ν := ν1) (a := 5) (q := Int32.ofNat s)
      refine ⟨ζ, 0, ?_, f1.trans (i2.mono fun _ _ z => z.T), ?_⟩
      · simp only [f_X6_readAway_J31, k1, ↓reduceIte, ↓hbind (bk_i0 bk9), g0, f_X6_readAway_J64, ↓hvc (fun _ => vc_139), ↓hbind e1, z_1, ↓hbind d1, ↓hvc (fun _ => bk_v bk9), ↓hbind e2, show bI false = 0 from rfl, ↓hbind gI_139_6, s1, ↓hbind i1, j01_0, true_or, or_true]
      · show OC n y ζ 0 (if hb (bw B) w = true ∧ bM B w = 12 then .ok p1 (wW B w false) kr else .er 5 s)
        rw [if_neg z]
        exact ⟨rfl, i3, i4⟩
theorem c_away_t (hn : n ≤ 300) (hy : ∀ k, y k < 256) (hp : p ≤ n) (hB : BOK B) (h : TC n y ν p B kr) : ∃ ξ r, f_X6_readAway_J31 139 9 1 ((mX Ξ) ν) = some (r, (mX Ξ) ξ) ∧ Fr FTx ν ξ ∧ OC n y ξ r (match num n y p 0 (bm B - 1) with
    | .inl (a, q) => .er a q
    | .inr (k, s, p1) => if hb (bt B) k = true ∧ ow (bM B) k = 12 then .ok p1 (wT B k false) kr else .er 5 s) := by
  have n12 := hB.m
  have g0 : ν.1 9 1 = Int32.ofNat (bm B) := h.2.1.1.2.1
  have k1 : ((1 : Int32) = -1) = False := by decide
  rcases q1 : num n y p 0 (bm B - 1) with ⟨a, q⟩ | ⟨w, s, p1⟩
  · obtain ⟨ξ, e1, f1, v1, v2⟩ := t_num_er (Ξ := Ξ) (x1 := 0) (lo := 0) hn hy hp h rfl (bm_1 hB) (by omega) (by omega) q1
    refine ⟨ξ, 0, ?_, f1, rfl, v1, v2⟩
    simp only [f_X6_readAway_J31, k1, z_1, ↓reduceIte, ↓hbind (bk_i1 bk9), g0, f_X6_readAway_J64, ↓hvc (fun _ => vc_139), ↓hbind e1, j01_0, true_or, or_true]
  · obtain ⟨-, -, -, -, w12, -, -, hp1⟩ := num_ok hp q1
    obtain ⟨ν1, e1, t1, s1, f1, d1⟩ := t_num_ok (Ξ := Ξ) (x1 := 0) (lo := 0) hn hy hp h rfl (bm_1 hB) (by omega) (by omega) q1
    have e2 := c_isFree1 (Ξ := Ξ) bk9 t1.2.1 hB (show w < 12 by omega)
    by_cases z : hb (bt B) w = true ∧ ow (bM B) w = 12
    · rw [free_b.mpr z] at e2
      obtain ⟨ξ, e3, b3, f3⟩ := c_setThere1 (Ξ := Ξ) (th := false) bk9 t1.2.1 (show w < 12 by omega)
      have e3 : f_X0_setThere 9 1 (Int32.ofNat w) 0 ((mX Ξ) ν1) = some ((mX Ξ) ξ) := e3
      refine ⟨ξ, 1, ?_, f1.trans (f3.mono fun q i z => Or.inr z), ?_⟩
      · simp only [f_X6_readAway_J31, k1, z_1, ↓reduceIte, ↓hbind (bk_i1 bk9), g0, f_X6_readAway_J64, ↓hvc (fun _ => vc_139), ↓hbind e1, ↓hbind d1, ↓hvc (fun _ => bk_v bk9), ↓hbind e2, show bI true = 1 from rfl, ↓hbind e3, j01_1, true_or, or_true]
      · show OC n y ξ 1 (if hb (bt B) w = true ∧ ow (bM B) w = 12 then .ok p1 (wT B w false) kr else .er 5 s)
        rw [if_pos z]
        exact ⟨rfl, t1.bk b3 f3⟩
    · rw [free_f z] at e2
      obtain ⟨ζ, i1, i2, i3, i4⟩ := c_isFault (Ξ := Ξ) (ν := ν1) (a := 5) (q := Int32.ofNat s)
      refine ⟨ζ, 0, ?_, f1.trans (i2.mono fun _ _ z => z.T), ?_⟩
      · simp only [f_X6_readAway_J31, k1, z_1, ↓reduceIte, ↓hbind (bk_i1 bk9), g0, f_X6_readAway_J64, ↓hvc (fun _ => vc_139), ↓hbind e1, ↓hbind d1, ↓hvc (fun _ => bk_v bk9), ↓hbind e2, show bI false = 0 from rfl, ↓hbind gI_139_6, s1, ↓hbind i1, j01_0, true_or, or_true]
      · show OC n y ζ 0 (if hb (bt B) w = true ∧ ow (bM B) w = 12 then .ok p1 (wT B w false) kr else .er 5 s)
        rw [if_neg z]
        exact ⟨rfl, i3, i4⟩
theorem c_lnAway (hn : n ≤ 300) (hy : ∀ k, y k < 256) (hp : p ≤ n) (hB : BOK B) (h : TC n y ν p B kr) : ∃ ξ r, f_X6_readAway 139 9 ((mX Ξ) ν) = some (r, (mX Ξ) ξ) ∧ Fr FTx ν ξ ∧ OC n y ξ r (lnAway n y p B kr) := by
  obtain ⟨ν1, e1, r1, s1, f1⟩ := c_takeWord (Ξ := Ξ) hn hy hp h.1
  have t1 := h.go r1 f1
  have f1' : Fr FTx ν ν1 := f1.mono fun _ _ z => z.T
  have l1 := skp_le (y := y) hp
  have l2 := sme_le (y := y) l1.2
  have w7 : f_X6_wordIs 139 1000010 ((mX Ξ) ν1) = _ := c_wordIs (Ξ := Ξ) hn hy (WD_j (j := 7) (by decide)) (wdW_lt (by decide)) r1 s1 l2.1 l2.2
  have w8 : f_X6_wordIs 139 1000011 ((mX Ξ) ν1) = _ := c_wordIs (Ξ := Ξ) hn hy (WD_j (j := 8) (by decide)) (wdW_lt (by decide)) r1 s1 l2.1 l2.2
  unfold lnAway
  by_cases z : isW y (skp n y p) (sme n y (skp n y p)) (wdW 7) = true
  · rw [z] at w7
    rw [if_pos z]
    obtain ⟨ξ, r, e2, f2, o2⟩ := c_away_w (Ξ := Ξ) hn hy l2.2 hB t1
    refine ⟨ξ, r, ?_, f1'.trans f2, o2⟩
    rw [← e2]
    simp only [f_X6_readAway, ↓hvc (fun _ => vc_139), ↓hbind e1, ↓hbind w7, show bI true = 1 from rfl, z_1, ↓reduceIte]
  · have z' : isW y (skp n y p) (sme n y (skp n y p)) (wdW 7) = false := by simpa using z
    rw [z'] at w7
    rw [if_neg z]
    by_cases x : isW y (skp n y p) (sme n y (skp n y p)) (wdW 8) = true
    · rw [x] at w8
      rw [if_pos x]
      obtain ⟨ξ, r, e2, f2, o2⟩ := c_away_t (Ξ := Ξ) hn hy l2.2 hB t1
      refine ⟨ξ, r, ?_, f1'.trans f2, o2⟩
      rw [← e2]
      simp only [f_X6_readAway, ↓hvc (fun _ => vc_139), ↓hbind e1, ↓hbind w7, show bI false = 0 from rfl, ↓reduceIte, ↓hbind w8, show bI true = 1 from rfl, z_1]
    · have x' : isW y (skp n y p) (sme n y (skp n y p)) (wdW 8) = false := by simpa using x
      rw [x'] at w8
      rw [if_neg x]
      obtain ⟨ζ, i1, i2, i3, i4⟩ := c_isFault (Ξ := Ξ) (ν := ν1) (a := 1) (q := Int32.ofNat (skp n y p))
      refine ⟨ζ, 0, ?_, f1'.trans (i2.mono fun _ _ z => z.T), rfl, i3, i4⟩
      simp only [f_X6_readAway, ↓hvc (fun _ => vc_139), ↓hbind e1, ↓hbind w7, show bI false = 0 from rfl, ↓reduceIte, ↓hbind w8, f_X6_readAway_J31, ↓hbind gI_139_6, s1, ↓hbind i1, j01_0, true_or, or_true]
/-- a line's beginning -/
theorem c_ln1 (hn : n ≤ 300) (hy : ∀ k, y k < 256) (hp : p ≤ n) (hB : BOK B) (h : TC n y ν p B kr) : ∃ ξ r, f_X6_readLine 139 9 ((mX Ξ) ν) = some (r, (mX Ξ) ξ) ∧ Fr FTx ν ξ ∧ OC n y ξ r (ln1 n y p B kr) := by
  obtain ⟨ν1, e1, r1, s1, f1⟩ := c_takeWord (Ξ := Ξ) hn hy hp h.1
  have t1 := h.go r1 f1
  have f1' : Fr FTx ν ν1 := f1.mono fun _ _ z => z.T
  have l1 := skp_le (y := y) hp
  have l2 := sme_le (y := y) l1.2
  have w2 : f_X6_wordIs 139 1000005 ((mX Ξ) ν1) = _ := c_wordIs (Ξ := Ξ) hn hy (WD_j (j := 2) (by decide)) (wdW_lt (by decide)) r1 s1 l2.1 l2.2
  have w3 : f_X6_wordIs 139 1000006 ((mX Ξ) ν1) = _ := c_wordIs (Ξ := Ξ) hn hy (WD_j (j := 3) (by decide)) (wdW_lt (by decide)) r1 s1 l2.1 l2.2
  have w4 : f_X6_wordIs 139 1000007 ((mX Ξ) ν1) = _ := c_wordIs (Ξ := Ξ) hn hy (WD_j (j := 4) (by decide)) (wdW_lt (by decide)) r1 s1 l2.1 l2.2
  have w5 : f_X6_wordIs 139 1000008 ((mX Ξ) ν1) = _ := c_wordIs (Ξ := Ξ) hn hy (WD_j (j := 5) (by decide)) (wdW_lt (by decide)) r1 s1 l2.1 l2.2
  have w6 : f_X6_wordIs 139 1000009 ((mX Ξ) ν1) = _ := c_wordIs (Ξ := Ξ) hn hy (WD_j (j := 6) (by decide)) (wdW_lt (by decide)) r1 s1 l2.1 l2.2
  have ff : ∀ {b : Bool}, ¬ b = true → b = false := fun {b} h => by simpa using h
  have rr : ∀ {ξ r R}, OC n y ξ r R → (r = 0 ∨ r = 1) = True := fun {ξ r R} o => by
    rcases R with ⟨p, B, k⟩ | ⟨a, q⟩
    · rw [show r = 1 from o.1]; exact eq_true (Or.inr rfl)
    · rw [show r = 0 from o.1]; exact eq_true (Or.inl rfl)
  unfold ln1
  by_cases z2 : isW y (skp n y p) (sme n y (skp n y p)) (wdW 2) = true
  · rw [z2] at w2
    rw [if_pos z2]
    obtain ⟨ξ, r, e2, f2, o2⟩ := c_lnFit (Ξ := Ξ) hn hy l2.2 hB t1
    have k := rr o2
    refine ⟨ξ, r, ?_, f1'.trans f2, o2⟩
    simp only [f_X6_readLine, ↓hvc (fun _ => vc_139), ↓hbind e1, ↓hbind w2, show bI true = 1 from rfl, z_1, ↓reduceIte, ↓hbind e2, k]
  · rw [ff z2] at w2
    rw [if_neg z2]
    by_cases z3 : isW y (skp n y p) (sme n y (skp n y p)) (wdW 3) = true
    · rw [z3] at w3
      rw [if_pos z3]
      obtain ⟨ξ, r, e2, f2, o2⟩ := c_lnAway (Ξ := Ξ) hn hy l2.2 hB t1
      have k := rr o2
      refine ⟨ξ, r, ?_, f1'.trans f2, o2⟩
      simp only [f_X6_readLine, ↓hvc (fun _ => vc_139), ↓hbind e1, ↓hbind w2, ↓hbind w3, show bI true = 1 from rfl, show bI false = 0 from rfl, z_1, ↓reduceIte, ↓hbind e2, k]
    · rw [ff z3] at w3
      rw [if_neg z3]
      by_cases z4 : isW y (skp n y p) (sme n y (skp n y p)) (wdW 4) = true
      · rw [z4] at w4
        rw [if_pos z4]
        obtain ⟨ξ, r, e2, f2, o2⟩ := c_lnPair (Ξ := Ξ) hn hy l2.2 hB t1
        have k := rr o2
        refine ⟨ξ, r, ?_, f1'.trans f2, o2⟩
        simp only [f_X6_readLine, ↓hvc (fun _ => vc_139), ↓hbind e1, ↓hbind w2, ↓hbind w3, ↓hbind w4, show bI true = 1 from rfl, show bI false = 0 from rfl, z_1, ↓reduceIte, ↓hbind e2, k]
      · rw [ff z4] at w4
        rw [if_neg z4]
        by_cases z5 : isW y (skp n y p) (sme n y (skp n y p)) (wdW 5) = true
        · rw [z5] at w5
          rw [if_pos z5]
          obtain ⟨ξ, r, e2, f2, o2⟩ := c_lnWeight (Ξ := Ξ) hn hy l2.2 hB t1
          have k := rr o2
          refine ⟨ξ, r, ?_, f1'.trans f2, o2⟩
          simp only [f_X6_readLine, ↓hvc (fun _ => vc_139), ↓hbind e1, ↓hbind w2, ↓hbind w3, ↓hbind w4, ↓hbind w5, show bI true = 1 from rfl, show bI false = 0 from rfl, z_1, ↓reduceIte, ↓hbind e2, k]
        · rw [ff z5] at w5
          rw [if_neg z5]
          by_cases z6 : isW y (skp n y p) (sme n y (skp n y p)) (wdW 6) = true
          · rw [z6] at w6
            rw [if_pos z6]
            obtain ⟨ξ, r, e2, f2, o2⟩ := c_lnKeep (Ξ := Ξ) hn hy l2.2 t1 s1
            have k := rr o2
            refine ⟨ξ, r, ?_, f1'.trans f2, o2⟩
            simp only [f_X6_readLine, ↓hvc (fun _ => vc_139), ↓hbind e1, ↓hbind w2, ↓hbind w3, ↓hbind w4, ↓hbind w5, ↓hbind w6, show bI true = 1 from rfl, show bI false = 0 from rfl, z_1, ↓reduceIte, ↓hbind e2, k]
          · rw [ff z6] at w6
            rw [if_neg z6]
            obtain ⟨ζ, i1, i2, i3, i4⟩ := c_isFault (Ξ := Ξ) (ν := ν1) (a := 1) (q := Int32.ofNat (skp n y p))
            refine ⟨ζ, 0, ?_, f1'.trans (i2.mono fun _ _ z => z.T), rfl, i3, i4⟩
            simp only [f_X6_readLine, ↓hvc (fun _ => vc_139), ↓hbind e1, ↓hbind w2, ↓hbind w3, ↓hbind w4, ↓hbind w5, ↓hbind w6, show bI false = 0 from rfl, ↓reduceIte, ↓hbind gI_139_6, s1, ↓hbind i1, j01_0, true_or, or_true]
end Lc3
