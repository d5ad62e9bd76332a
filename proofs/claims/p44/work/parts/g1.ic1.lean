/-! THE LAW: isChosen, who is chosen, by all sets of workers -/
theorem wsum_stop {B : Bk} {C : Nat → Bool} {n : Nat} (h : ∀ k, n ≤ k → C k = false) : ∀ d, wsum B C (n + d) = wsum B C n
  | 0 => rfl
  | d + 1 => by
    rw [← Nat.add_assoc]
    show wsum B C (n + d) + (if C (n + d) then be B (n + d) else 0) = _
    rw [wsum_stop h d, h (n + d) (by omega)]
    rfl
section G1
variable {Ξ0 Ξ Ξ' : xH} {μ0 ν ν' : MM} {a : LA} {B : Bk} {H : List Bk} {n k : Nat} {C : Nat → Bool} {x2 : Int32}
theorem wsum_n (hB : BOK B) (hC : ∀ k, C k = true → hb (bw B) k = true) : wsum B C 12 = wsum B C (bn B) := by
  have hn := hB.n
  have := wsum_stop (B := B) (C := C) (n := bn B) (fun k hk => by
    cases c : C k with
    | false => rfl
    | true => have := hB.w (hC k c); omega) (12 - bn B)
  rw [show bn B + (12 - bn B) = 12 by omega] at this
  exact this
theorem ic_a (hs : lbS (shI ++ Ξ) a) (hv : lbV ν a B) (hx : ∀ k, hb x2 k = C k) : ∀ (d i : Nat), i + d = bn B → ∀ f kE x4, f_L_isChosen_L13 kE (d + 1 + f) 0 (lab a) x2 (Int32.ofNat (wsum B C i)) x4 (Int32.ofNat i) (mX Ξ ν) = kE 0 (lab a) x2 (Int32.ofNat (wsum B C (bn B))) x4 (mX Ξ ν)
  | 0, i, hi, f, kE, x4 => by
    have hn : bn B ≤ 12 := hv.2.2.2.2.1.1
    have i0 : i = bn B := by omega
    subst i0
    have g0 : ν.1 (lab a) 0 = Int32.ofNat (bn B) := hv.1.1
    have c0 : (Int32.ofNat (bn B) ≥ Int32.ofNat (bn B)) := by rw [oN_ge (by omega) (by omega)]; omega
    rw [show 0 + 1 + f = f + 1 by omega]
    simp only [f_L_isChosen_L13, ↓hbind (hs.g (show 0 < 5 by decide)), g0, if_pos c0]
  | d + 1, i, hi, f, kE, x4 => by
    have hn : bn B ≤ 12 := hv.2.2.2.2.1.1
    have i12 : i < 12 := by omega
    have g0 : ν.1 (lab a) 0 = Int32.ofNat (bn B) := hv.1.1
    have c0 : ¬ (Int32.ofNat i ≥ Int32.ofNat (bn B)) := by rw [oN_ge (by omega) (by omega)]; omega
    have gq := hv.2.2.2.1 i i12
    have hx1 := has_eq1 (x := x2) (show i < 32 by omega)
    rw [hx] at hx1
    have ih := ic_a hs hv hx d (i + 1) (by omega) f kE x4
    rw [show d + 1 + 1 + f = (d + 1 + f) + 1 by omega, ← ih]
    cases c1 : C i with
    | false =>
      have n1 : ¬ (((x2 >>> (Int32.ofNat i &&& 31)) &&& (1 : Int32)) = 1) := by rw [hx1, c1]; simp
      have e1 : wsum B C (i + 1) = wsum B C i := by show wsum B C i + (if C i then be B i else 0) = _; rw [c1]; rfl
      rw [e1]
      simp only [f_L_isChosen_L13, ↓hbind (hs.g (show 0 < 5 by decide)), g0, if_neg c0, if_neg n1, f_L_isChosen_J42, lt, i_succ]
    | true =>
      have n1 : (((x2 >>> (Int32.ofNat i &&& 31)) &&& (1 : Int32)) = 1) := by rw [hx1, c1]
      have e1 : wsum B C (i + 1) = wsum B C i + be B i := by show wsum B C i + (if C i then be B i else 0) = _; rw [c1]; rfl
      rw [e1]
      simp only [f_L_isChosen_L13, ↓hbind (hs.g (show 0 < 5 by decide)), g0, if_neg c0, if_pos n1, ↓hbind hs.r7, ↓hbind (hs.ar i12), gq, f_L_isChosen_J42, lt, i_succ, oN_add]
/-- what some workers weigh -/
theorem ic_b (hs : lbS (shI ++ Ξ) a) (hv : lbV ν a B) {p : Nat} {yy : Int32} (hg : gI (mX Ξ ν) 10 p 3 = some yy) : ∀ (d i : Nat), i + d = bn B → ∀ f kE x2 x3 x4 x5, f_L_isChosen_L86 kE (d + 1 + f) 0 (lab a) x2 x3 x4 x5 p (Int32.ofNat (wsum B (hb yy) i)) (Int32.ofNat i) (mX Ξ ν) = kE 0 (lab a) x2 x3 x4 x5 p (Int32.ofNat (wsum B (hb yy) (bn B))) (mX Ξ ν)
  | 0, i, hi, f, kE, x2, x3, x4, x5 => by
    have hn : bn B ≤ 12 := hv.2.2.2.2.1.1
    have i0 : i = bn B := by omega
    subst i0
    have g0 : ν.1 (lab a) 0 = Int32.ofNat (bn B) := hv.1.1
    have c0 : (Int32.ofNat (bn B) ≥ Int32.ofNat (bn B)) := by rw [oN_ge (by omega) (by omega)]; omega
    rw [show 0 + 1 + f = f + 1 by omega]
    simp only [f_L_isChosen_L86, ↓hbind (hs.g (show 0 < 5 by decide)), g0, if_pos c0]
  | d + 1, i, hi, f, kE, x2, x3, x4, x5 => by
    have hn : bn B ≤ 12 := hv.2.2.2.2.1.1
    have i12 : i < 12 := by omega
    have g0 : ν.1 (lab a) 0 = Int32.ofNat (bn B) := hv.1.1
    have c0 : ¬ (Int32.ofNat i ≥ Int32.ofNat (bn B)) := by rw [oN_ge (by omega) (by omega)]; omega
    have gq := hv.2.2.2.1 i i12
    have hx1 := has_eq1 (x := yy) (show i < 32 by omega)
    have ih := ic_b hs hv hg d (i + 1) (by omega) f kE x2 x3 x4 x5
    rw [show d + 1 + 1 + f = (d + 1 + f) + 1 by omega, ← ih]
    cases c1 : hb yy i with
    | false =>
      have n1 : ¬ (((yy >>> (Int32.ofNat i &&& 31)) &&& (1 : Int32)) = 1) := by rw [hx1, c1]; simp
      have e1 : wsum B (hb yy) (i + 1) = wsum B (hb yy) i := by show wsum B (hb yy) i + (if hb yy i then be B i else 0) = _; rw [c1]; rfl
      rw [e1]
      simp only [f_L_isChosen_L86, ↓hbind (hs.g (show 0 < 5 by decide)), g0, if_neg c0, ↓hbind hg, if_neg n1, f_L_isChosen_J121, lt, i_succ]
    | true =>
      have n1 : (((yy >>> (Int32.ofNat i &&& 31)) &&& (1 : Int32)) = 1) := by rw [hx1, c1]
      have e1 : wsum B (hb yy) (i + 1) = wsum B (hb yy) i + be B i := by show wsum B (hb yy) i + (if hb yy i then be B i else 0) = _; rw [c1]; rfl
      rw [e1]
      simp only [f_L_isChosen_L86, ↓hbind (hs.g (show 0 < 5 by decide)), g0, if_neg c0, ↓hbind hg, if_pos n1, ↓hbind hs.r7, ↓hbind (hs.ar i12), gq, f_L_isChosen_J121, lt, i_succ, oN_add]
theorem wsum_12 (he : ∀ w, be B w ≤ 99) : ∀ n, wsum B C n ≤ 99 * n
  | 0 => Nat.zero_le _
  | n + 1 => by
    show wsum B C n + (if C n then be B n else 0) ≤ _
    have := wsum_12 he n
    have := he n
    split <;> omega
/-- the best so far -/
def Bst (B : Bk) (C : Nat → Bool) (X s b : Nat) : Prop := b ≤ wsum B C 12 ∧ (X < s → wsum B C 12 ≤ b)
theorem wo_s (hs : lbS (shI ++ Ξ) a) (hv : lbV ν a B) (hR : RS ν B H) (hZ : Z ν (shI ++ Ξ).length) (hl : (shI ++ Ξ).length + 100 < 1000000) {yy : Int32} (hyw : ∀ k, hb yy k = true → hb (bw B) k = true) :
    ∃ Ξ1 ν1 ν2 p b, f_X10_like (lab a) (mX Ξ ν) = some (some p, mX Ξ1 ν1) ∧ gI (mX Ξ1 ν1) 10 (lab a) 3 = some (bw B) ∧ pI (mX Ξ1 ν1) 10 p 3 yy = some (mX Ξ1 ν2) ∧ gI (mX Ξ1 ν2) 10 p 3 = some yy ∧ (∀ {β : Type} (o : Option β), vc (mX Ξ1 ν2) 10 p o = o) ∧ f_X10_most 40 p 0 0 (mX Ξ1 ν2) = some (Int32.ofNat b, mX Ξ1 ν2) ∧ b ≤ 12 ∧ (b = cnt (hb yy) 12 ↔ mb (gE B) (hb yy)) ∧ Gst 30 Ξ ν Ξ1 ν2 ∧ RS ν2 B H := by
  have hB := hR.ok
  have l0 : 168 ≤ (shI ++ Ξ).length := by rw [xl]; omega
  obtain ⟨Ξ1, ν1, p, e1, s1, p1, lp, lp2, hp, hs1, hv1⟩ := lk_go hs hv hZ hl hR
  obtain ⟨ba, va⟩ := s1.bk hs hv
  have g3 : ν1.1 (lab a) 3 = bw B := va.1.2.2.2.1
  have d1 := ba.g (μ := ν1) (show 3 < 5 by decide)
  rw [g3] at d1
  have d2 := hs1.p (μ := ν1) (v := yy) (show 3 < 5 by decide)
  have v2 := hv1.w3 hs1 yy
  have d3 := hs1.g (μ := st ν1 (lab (lkA p)) 3 yy) (show 3 < 5 by decide)
  rw [st_same] at d3
  have gg := wWk_gE (B := B) hyw
  obtain ⟨b, e5, nb⟩ := most_go (μ := st ν1 (lab (lkA p)) 3 yy) hs1 v2 (fun v s e => by
    have e : gE (wWk B yy) v s = true := e
    rw [gg] at e
    simp only [Bool.and_eq_true] at e
    exact hB.hf v s e.1)
  rw [← hp] at d2 d3 e5
  exact ⟨Ξ1, ν1, _, p, b, e1, d1, d2, d3, fun o => by have := hs1.vc (μ := st ν1 p 3 yy) (o := o); rw [← hp] at this; exact this, e5, nb.c12, nu_mb gg nb, s1.sw lp (by omega), p1.sw (by omega)⟩
theorem ic_c (h : Gst n Ξ0 μ0 Ξ ν) (hR : RS ν B H) (hs : lbS (shI ++ Ξ) a) (hv : lbV ν a B) (hn : n ≤ 2000) (hl : (shI ++ Ξ0).length + 10000 < 1000000) (n4 : bn B ≤ 4) (hc : ChS B C fun _ => True) (hm : mb (gE B) C) {X : Nat} (hX : ∀ k, hb (Int32.ofNat X) k = C k) {s b : Nat} (hs2 : s < 2 ^ bn B) (hb' : Bst B C X s b) :
    ∃ Ξ' ν' b', Gst (n + 30) Ξ0 μ0 Ξ' ν' ∧ RS ν' B H ∧ lbS (shI ++ Ξ') a ∧ lbV ν' a B ∧ Bst B C X (s + 1) b' ∧ ∀ f kE x2 x3, f_L_isChosen_L51 kE (f + 1) 0 (lab a) x2 x3 (Int32.ofNat b) (Int32.ofNat s) (mX Ξ ν) = f_L_isChosen_L51 kE f 0 (lab a) x2 x3 (Int32.ofNat b') (Int32.ofNat (s + 1)) (mX Ξ' ν') := by
  have hB := hR.ok
  have ln := h.ln
  have p4 : 2 ^ bn B ≤ 2 ^ 4 := Nat.pow_le_pow_right (by decide) n4
  have p16 : (2 : Nat) ^ 4 = 16 := by decide
  have g0 : ν.1 (lab a) 0 = Int32.ofNat (bn B) := hv.1.1
  have c0 : ¬ (Int32.ofNat s ≥ Int32.ofNat (2 ^ bn B)) := by rw [oN_ge (by omega) (by omega)]; omega
  have sh1 := one_shl hB.n
  obtain ⟨yy, hy⟩ : ∃ yy, yy = Int32.ofNat s &&& bw B := ⟨_, rfl⟩
  have hyw : ∀ k, hb yy k = true → hb (bw B) k = true := fun k q => by
    rw [hy, hb_and, Bool.and_eq_true] at q
    exact q.2
  have h12 : m12 yy := by rw [hy]; exact m12_and hB.bw12
  obtain ⟨Ξ1, ν1, ν2, p, r, e1, e2, e3, e4, vv, e5, r12, rm, s1, p1⟩ := wo_s hs hv hR h.z (by omega) hyw
  obtain ⟨b1, b2⟩ := s1.bk hs hv
  have hbit := c_bitCount (h := mX Ξ1 ν2) h12
  have wn := wsum_n hB (C := hb yy) hyw
  have lw := wsum_12 (B := B) (C := hb yy) hB.e (bn B)
  have lC := wsum_12 (B := B) (C := C) hB.e 12
  have cn := cnt_le (hb yy) 12
  have eb := ic_b b1 b2 e4 (bn B) 0 (by omega) (4999 - bn B)
  rw [show bn B + 1 + (4999 - bn B) = 5000 by omega] at eb
  have t1 : ∀ f kE x2 x3, f_L_isChosen_L51 kE (f + 1) 0 (lab a) x2 x3 (Int32.ofNat b) (Int32.ofNat s) (mX Ξ ν) = f_L_isChosen_J127 (f_L_isChosen_L51 kE f) kE 0 (lab a) x2 x3 (Int32.ofNat b) (Int32.ofNat s) p (Int32.ofNat (wsum B (hb yy) 12)) (mX Ξ1 ν2) := fun f kE x2 x3 => by
    have eb := eb (f_L_isChosen_J127 (f_L_isChosen_L51 kE f) kE) x2 x3 (Int32.ofNat b) (Int32.ofNat s)
    rw [← wn] at eb
    have eb : f_L_isChosen_L86 (f_L_isChosen_J127 (f_L_isChosen_L51 kE f) kE) 5000 0 (lab a) x2 x3 (Int32.ofNat b) (Int32.ofNat s) p 0 0 (mX Ξ1 ν2) = _ := eb
    rw [← eb]
    simp only [f_L_isChosen_L51, ↓hbind (hs.g (show 0 < 5 by decide)), g0, sh1, if_neg c0, ↓hvc (fun _ => hs.vc), ↓hbind e1, Option.bind_some, ↓hbind e2, ← hy, ↓hbind e3]
  obtain ⟨q1, q2⟩ := hb'
  by_cases c : mb (gE B) (hb yy)
  · have ce : Int32.ofNat r = Int32.ofNat (cnt (hb yy) 12) := by rw [rm.mpr c]
    have gl := greedy_le hB.Eb hB.e (fun k q => Nat.lt_of_lt_of_le (hB.w q) hB.n) hc hm c hyw
    refine ⟨Ξ1, ν2, max b (wsum B (hb yy) 12), h.tr s1, p1, b1, b2, ⟨by omega, fun hx => ?_⟩, fun f kE x2 x3 => ?_⟩
    · by_cases z : X = s
      · have e : hb yy = C := funext fun k => by
          rw [hy, hb_and, ← z, hX]
          cases ck : C k with
          | false => rfl
          | true => rw [(hc.1 k ck).1]; rfl
        rw [e]; omega
      · have := q2 (by omega); omega
    · rw [t1]
      simp only [f_L_isChosen_J127, ↓hvc vv, ↓hbind e5, ↓hbind e4, ↓hbind hbit, if_pos ce, lt, imax_oN (show b < 2147483648 by omega) (show wsum B (hb yy) 12 < 2147483648 by omega), f_L_isChosen_J154, i_succ]
  · have ce : ¬ (Int32.ofNat r = Int32.ofNat (cnt (hb yy) 12)) := by
      rw [oN_inj (by omega) (by omega)]
      exact fun z => c (rm.mp z)
    refine ⟨Ξ1, ν2, b, h.tr s1, p1, b1, b2, ⟨q1, fun hx => ?_⟩, fun f kE x2 x3 => ?_⟩
    · by_cases z : X = s
      · exfalso
        have e : hb yy = C := funext fun k => by
          rw [hy, hb_and, ← z, hX]
          cases ck : C k with
          | false => rfl
          | true => rw [(hc.1 k ck).1]; rfl
        exact c (by rw [e]; exact hm)
      · exact q2 (by omega)
    · rw [t1]
      simp only [f_L_isChosen_J127, ↓hvc vv, ↓hbind e5, ↓hbind e4, ↓hbind hbit, if_neg ce, lt, f_L_isChosen_J154, i_succ]
theorem ic_d (hl : (shI ++ Ξ0).length + 10000 < 1000000) (n4 : bn B ≤ 4) (hc : ChS B C fun _ => True) (hm : mb (gE B) C) {X : Nat} (hX : ∀ k, hb (Int32.ofNat X) k = C k) : ∀ (d s b n : Nat) (Ξ : xH) (ν : MM), s + d = 2 ^ bn B → n + 30 * d ≤ 2000 → Gst n Ξ0 μ0 Ξ ν → RS ν B H → lbS (shI ++ Ξ) a → lbV ν a B → Bst B C X s b →
    ∃ Ξ' ν' b', Gst (n + 30 * d) Ξ0 μ0 Ξ' ν' ∧ RS ν' B H ∧ lbS (shI ++ Ξ') a ∧ lbV ν' a B ∧ Bst B C X (2 ^ bn B) b' ∧ ∀ f kE x2 x3, f_L_isChosen_L51 kE (d + 1 + f) 0 (lab a) x2 x3 (Int32.ofNat b) (Int32.ofNat s) (mX Ξ ν) = kE 0 (lab a) x2 x3 (Int32.ofNat b') (mX Ξ' ν')
  | 0, s, b, n, Ξ, ν, hs2, hn, h, hR, hs, hv, hb' => by
    have hB := hR.ok
    have s0 : s = 2 ^ bn B := by omega
    subst s0
    have p4 : 2 ^ bn B ≤ 2 ^ 4 := Nat.pow_le_pow_right (by decide) n4
    have p16 : (2 : Nat) ^ 4 = 16 := by decide
    have g0 : ν.1 (lab a) 0 = Int32.ofNat (bn B) := hv.1.1
    have c0 : (Int32.ofNat (2 ^ bn B) ≥ Int32.ofNat (2 ^ bn B)) := by rw [oN_ge (by omega) (by omega)]; omega
    have sh1 := one_shl hB.n
    refine ⟨Ξ, ν, b, h, hR, hs, hv, hb', fun f kE x2 x3 => ?_⟩
    rw [show 0 + 1 + f = f + 1 by omega]
    simp only [f_L_isChosen_L51, ↓hbind (hs.g (show 0 < 5 by decide)), g0, sh1, if_pos c0]
  | d + 1, s, b, n, Ξ, ν, hs2, hn, h, hR, hs, hv, hb' => by
    obtain ⟨Ξ1, ν1, b1, s1, p1, a1, a2, q1, e1⟩ := ic_c h hR hs hv (by omega) hl n4 hc hm hX (show s < 2 ^ bn B by omega) hb'
    obtain ⟨Ξ2, ν2, b2, s2, p2, a3, a4, q2, e2⟩ := ic_d hl n4 hc hm hX d (s + 1) b1 (n + 30) Ξ1 ν1 (by omega) (by omega) s1 p1 a1 a2 q1
    refine ⟨Ξ2, ν2, b2, s2.mn (by omega), p2, a3, a4, q2, fun f kE x2 x3 => ?_⟩
    rw [show d + 1 + 1 + f = (d + 1 + f) + 1 by omega, e1, e2]
end G1
