/-! THE LAW: isBook, a worker and all tasks; all workers -/
section F4
variable {Ξ0 Ξ Ξ' : xH} {μ0 ν ν' : MM} {a : LA} {B : Bk} {H : List Bk} {y q : Nat} {m K : Nat → Int32} {n k : Nat}
theorem ib_e (h : IW Ξ0 μ0 a B H y q m K n Ξ ν) (hn : n ≤ 8900) (hl : (shI ++ Ξ0).length + 10000 < 1000000) {N : Nat} (nu : Nu (gE B) N) {w t : Nat} (hw : w < bn B) (ht : t < bm B) : ∃ Ξ' ν', IW Ξ0 μ0 a B H y q m (bmp K (kv B w t)) (n + 62) Ξ' ν' ∧
    ∀ f k3 k4 k6 x4 x5 x7, f_L_isBook_L310 k3 k4 k6 (f + 1) 0 (lab a) (Int32.ofNat N) y x4 x5 (fcI B w t) x7 q (Int32.ofNat w) (itF B w t) (Int32.ofNat t) (mX Ξ ν) = f_L_isBook_L310 k3 k4 k6 f 0 (lab a) (Int32.ofNat N) y x4 x5 (fcI B w (t + 1)) x7 q (Int32.ofNat w) (itF B w (t + 1)) (Int32.ofNat (t + 1)) (mX Ξ' ν') := by
  have hB := h.b
  have ln := h.ln
  have hs := h.2.2.1
  have w12 : w < 12 := Nat.lt_of_lt_of_le hw hB.n
  have t12 : t < 12 := Nat.lt_of_lt_of_le ht hB.m
  have hm := hB.m
  have N12 := nu.c12
  have g1 : ν.1 (lab a) 1 = Int32.ofNat (bm B) := h.2.2.2.1.1.2.1
  have c0 : ¬ (Int32.ofNat t ≥ Int32.ofNat (bm B)) := by rw [oN_ge (by omega) (by omega)]; omega
  obtain ⟨Ξ1, ν1, e1, s1, p1⟩ := (q_cost h.2.1 (by omega) hw ht).go h.1.z
  have i1 := h.go s1 p1
  have ln1 := i1.ln
  have hs1 := i1.2.2.1
  have go := i1.2.2.2.1.2.1 w t w12 t12
  cases c1 : hb (bf B w) t with
  | false =>
    rw [c1] at go e1
    have go : ν1.1 (lao a w) t = -1 := go
    have e1 : f_L_cost 0 (Int32.ofNat w) (Int32.ofNat t) (mX Ξ ν) = some (-1, mX Ξ1 ν1) := e1
    have kv0 : kv B w t = 0 := if_neg (by simp [c1])
    obtain ⟨Ξ2, ν2, i2, e2⟩ := ib_k i1 (by omega) hl hw ht
    have n1 : ((-1 : Int32) < 0) := by decide
    have x6 : fcI B w (t + 1) = fcI B w t := by rw [fcI_s, if_neg (by simp [c1])]
    have xa : itF B w (t + 1) = itF B w t := if_neg (by simp [c1])
    refine ⟨Ξ2, ν2, i2.mn (by omega), fun f k3 k4 k6 x4 x5 x7 => ?_⟩
    rw [x6, xa, ← e2 (f_L_isBook_L310 k3 k4 k6 f) k3 k4 k6 (Int32.ofNat N) x4 x5 (fcI B w t) x7 (itF B w t), kv0]
    simp only [f_L_isBook_L310, ↓hbind (hs.g (show 1 < 5 by decide)), g1, if_neg c0, ↓hbind e1, ↓hbind hs1.r5, ↓hbind (hs1.ro w12), ↓hbind (hs1.ao w12 t12), go, if_true, if_pos n1]
  | true =>
    rw [c1] at go e1
    have go : ν1.1 (lao a w) t = Int32.ofNat (bc B w t) := go
    have e1 : f_L_cost 0 (Int32.ofNat w) (Int32.ofNat t) (mX Ξ ν) = some (Int32.ofNat (bc B w t), mX Ξ1 ν1) := e1
    have hc := hB.c w t
    have n1 : ¬ (Int32.ofNat (bc B w t) < 0) := by rw [oN_l0 (by omega)]; exact id
    have x6 : fcI B w (t + 1) = fcI B w t + 1 := by rw [fcI_s, if_pos c1]
    have xa : itF B w (t + 1) = itF B w t ||| ((1 : Int32) <<< (Int32.ofNat t &&& 31)) := if_pos c1
    obtain ⟨Ξ2, ν2, ν3, p, u, r, a1, a2, a3, a4, i3, hp, lp, lp2, hsp, hvp⟩ := wo_f i1 (by omega) hl hw ht
    obtain ⟨Ξ4, ν4, ν5, ν6, p', b1, b2, b3, b4, b5, s6, p6, hp', hsp', hvp'⟩ := wo_b i3 (by omega) hl hw ht
    have i6 := i3.go s6 p6
    have hs3 := i3.2.2.1
    have hs6 := i6.2.2.1
    obtain ⟨hsq, hvq⟩ := s6.bk hsp hvp
    have gg := wDf_gE (B := B) (w := w) t12
    have gg' := wX_oE (B := B) w12 t12
    obtain ⟨n3, m3, u3⟩ := most_go hsq hvq (fun v s e => by
      rw [gg] at e
      exact hB.hf v s (eE_iff.mp e).1)
    obtain ⟨n4, m4, u4⟩ := most_go hsp' hvp' (fun v s e => by
      rw [gg'] at e
      exact hB.hf v s (oE_iff.mp e).1)
    have v3 := u3.congr gg
    have v4 := u4.congr gg'
    have l3 := u3.c12
    have l4 := u4.c12
    rw [← hp] at m3
    rw [← hp'] at m4
    have ec := l_can hs6 i6.2.2.2.1 w12 t12
    have vp := hsq.vc (μ := ν6) (β := Int32 × xH) (o := f_X10_most 40 p 0 0 (mX Ξ4 ν6))
    rw [← hp] at vp
    have vp' := hsp'.vc (μ := ν6) (β := Int32 × xH) (o := f_X10_most 40 p' 0 0 (mX Ξ4 ν6))
    rw [← hp'] at vp'
    obtain ⟨Ξ7, ν7, i7, e7⟩ := ib_k i6 (by omega) hl hw ht
    refine ⟨Ξ7, ν7, i7.mn (by omega), fun f k3 k4 k6 x4 x5 x7 => ?_⟩
    rw [x6, xa, ← e7 (f_L_isBook_L310 k3 k4 k6 f) k3 k4 k6 (Int32.ofNat N) x4 x5 (fcI B w t + 1) x7 (itF B w t ||| ((1 : Int32) <<< (Int32.ofNat t &&& 31)))]
    cases c2 : gE B w t with
    | false =>
      rw [c2] at ec
      have ec : f_X10_can (lab a) (Int32.ofNat w) (Int32.ofNat t) (mX Ξ4 ν6) = some (0, mX Ξ4 ν6) := ec
      have kv1 : kv B w t = 1 := (if_pos c1).trans (if_neg (by simp [c2]))
      rw [kv1]
      simp only [f_L_isBook_L310, ↓hbind (hs.g (show 1 < 5 by decide)), g1, if_neg c0, ↓hbind e1, ↓hbind hs1.r5, ↓hbind (hs1.ro w12), ↓hbind (hs1.ao w12 t12), go, if_true, if_neg n1, lt, ↓hvc (fun _ => hs1.vc), ↓hbind a1, Option.bind_some, ↓hbind a2, ↓hbind a3, ↓hbind a4, ↓hvc (fun _ => hs3.vc), ↓hbind b1, ↓hbind b2, ↓hbind b3, ↓hbind b4, ↓hbind b5, ↓hvc (fun _ => hs6.vc), ↓hbind ec, f_L_isBook_J474]
    | true =>
      rw [c2] at ec
      have ec : f_X10_can (lab a) (Int32.ofNat w) (Int32.ofNat t) (mX Ξ4 ν6) = some (1, mX Ξ4 ν6) := ec
      have kve : kv B w t = kvE (gE B) w t := (if_pos c1).trans (if_pos c2)
      rw [kve]
      unfold kvE
      rw [← v3.nN, ← v4.nN, ← nu.nN]
      by_cases c3 : n3 < N
      · have d3 : ¬ (Int32.ofNat n3 ≥ Int32.ofNat N) := by rw [oN_ge (by omega) (by omega)]; omega
        rw [if_pos c3]
        simp only [f_L_isBook_L310, ↓hbind (hs.g (show 1 < 5 by decide)), g1, if_neg c0, ↓hbind e1, ↓hbind hs1.r5, ↓hbind (hs1.ro w12), ↓hbind (hs1.ao w12 t12), go, if_true, if_neg n1, lt, ↓hvc (fun _ => hs1.vc), ↓hbind a1, Option.bind_some, ↓hbind a2, ↓hbind a3, ↓hbind a4, ↓hvc (fun _ => hs3.vc), ↓hbind b1, ↓hbind b2, ↓hbind b3, ↓hbind b4, ↓hbind b5, ↓hvc (fun _ => hs6.vc), ↓hbind ec, z_1, if_false, vp, ↓hbind m3, if_neg d3, f_L_isBook_J474]
      · have d3 : (Int32.ofNat n3 ≥ Int32.ofNat N) := by rw [oN_ge (by omega) (by omega)]; omega
        rw [if_neg c3]
        by_cases c4 : n4 + 1 = N
        · have d4 : (Int32.ofNat (n4 + 1) = Int32.ofNat N) := by rw [c4]
          rw [if_pos c4]
          simp only [f_L_isBook_L310, ↓hbind (hs.g (show 1 < 5 by decide)), g1, if_neg c0, ↓hbind e1, ↓hbind hs1.r5, ↓hbind (hs1.ro w12), ↓hbind (hs1.ao w12 t12), go, if_true, if_neg n1, lt, ↓hvc (fun _ => hs1.vc), ↓hbind a1, Option.bind_some, ↓hbind a2, ↓hbind a3, ↓hbind a4, ↓hvc (fun _ => hs3.vc), ↓hbind b1, ↓hbind b2, ↓hbind b3, ↓hbind b4, ↓hbind b5, ↓hvc (fun _ => hs6.vc), ↓hbind ec, z_1, if_false, vp, ↓hbind m3, if_pos d3, vp', ↓hbind m4, i_succ, if_pos d4, f_L_isBook_J474]
        · have d4 : ¬ (Int32.ofNat (n4 + 1) = Int32.ofNat N) := by rw [oN_inj (by omega) (by omega)]; exact c4
          rw [if_neg c4]
          simp only [f_L_isBook_L310, ↓hbind (hs.g (show 1 < 5 by decide)), g1, if_neg c0, ↓hbind e1, ↓hbind hs1.r5, ↓hbind (hs1.ro w12), ↓hbind (hs1.ao w12 t12), go, if_true, if_neg n1, lt, ↓hvc (fun _ => hs1.vc), ↓hbind a1, Option.bind_some, ↓hbind a2, ↓hbind a3, ↓hbind a4, ↓hvc (fun _ => hs3.vc), ↓hbind b1, ↓hbind b2, ↓hbind b3, ↓hbind b4, ↓hbind b5, ↓hvc (fun _ => hs6.vc), ↓hbind ec, z_1, if_false, vp, ↓hbind m3, if_pos d3, vp', ↓hbind m4, i_succ, if_neg d4, f_L_isBook_J474]
/-- what the kinds' counts still come to -/
def KT (B : Bk) (w t : Nat) (K : Nat → Int32) : Prop := ∀ i, i < 4 → fmQ B (Int32.ofNat i) (bn B - (w + 1)) (w + 1) (fmR B (Int32.ofNat i) w (bm B - t) t (K i)) = fmQ B (Int32.ofNat i) (bn B) 0 0
def KQ (B : Bk) (w : Nat) (K : Nat → Int32) : Prop := ∀ i, i < 4 → fmQ B (Int32.ofNat i) (bn B - w) w (K i) = fmQ B (Int32.ofNat i) (bn B) 0 0
theorem KQ.row (h : KQ B k K) (hk : k < bn B) : KT B k 0 K := fun i hi => by
  rw [← h i hi, show bn B - k = (bn B - (k + 1)) + 1 by omega]
  rfl
theorem KT.next {t : Nat} (h : KT B k t K) (ht : t < bm B) : KT B k (t + 1) (bmp K (kv B k t)) := fun i hi => by
  rw [← h i hi, show bm B - t = (bm B - (t + 1)) + 1 by omega]
  rfl
theorem KT.fin (h : KT B k (bm B) K) : KQ B (k + 1) K := fun i hi => by
  have := h i hi
  rw [Nat.sub_self] at this
  exact this
theorem ib_t (hl : (shI ++ Ξ0).length + 10000 < 1000000) {N : Nat} (nu : Nu (gE B) N) {w : Nat} (hw : w < bn B) : ∀ (d t n : Nat) (K : Nat → Int32) (Ξ : xH) (ν : MM), t + d = bm B → n + 62 * d ≤ 8900 → IW Ξ0 μ0 a B H y q m K n Ξ ν → KT B w t K → ∃ Ξ' ν' K', IW Ξ0 μ0 a B H y q m K' (n + 62 * d) Ξ' ν' ∧ KQ B (w + 1) K' ∧
    ∀ f k3 k4 k6 x4 x5 x7, f_L_isBook_L310 k3 k4 k6 (d + 1 + f) 0 (lab a) (Int32.ofNat N) y x4 x5 (fcI B w t) x7 q (Int32.ofNat w) (itF B w t) (Int32.ofNat t) (mX Ξ ν) = k6 0 (lab a) (Int32.ofNat N) y x4 x5 (fcs B (w + 1)) x7 q (Int32.ofNat w) (bf B w) (mX Ξ' ν')
  | 0, t, n, K, Ξ, ν, ht, hn, h, kt => by
    have hB := h.b
    have hm := hB.m
    have t0 : t = bm B := by omega
    subst t0
    have hs := h.2.2.1
    have g1 : ν.1 (lab a) 1 = Int32.ofNat (bm B) := h.2.2.2.1.1.2.1
    have c0 : (Int32.ofNat (bm B) ≥ Int32.ofNat (bm B)) := by rw [oN_ge (by omega) (by omega)]; omega
    refine ⟨Ξ, ν, K, h, kt.fin, fun f k3 k4 k6 x4 x5 x7 => ?_⟩
    rw [show 0 + 1 + f = f + 1 by omega, fcI_all hB, itF_all hB]
    simp only [f_L_isBook_L310, ↓hbind (hs.g (show 1 < 5 by decide)), g1, if_pos c0]
  | d + 1, t, n, K, Ξ, ν, ht, hn, h, kt => by
    obtain ⟨Ξ1, ν1, i1, e1⟩ := ib_e h (by omega) hl nu hw (show t < bm B by omega)
    obtain ⟨Ξ2, ν2, K2, i2, k2, e2⟩ := ib_t hl nu hw d (t + 1) (n + 62) _ Ξ1 ν1 (by omega) (by omega) i1 (kt.next (by omega))
    refine ⟨Ξ2, ν2, K2, i2.mn (by omega), k2, fun f k3 k4 k6 x4 x5 x7 => ?_⟩
    rw [show d + 1 + 1 + f = (d + 1 + f) + 1 by omega, e1, e2]
/-- who is free among the first workers -/
noncomputable def frF (B : Bk) : Nat → Int32
  | 0 => 0
  | w + 1 => frM B (frF B w) w
theorem frF_hb {B : Bk} : ∀ w, w ≤ 12 → ∀ k, hb (frF B w) k = (decide (k < w) && (hb (bw B) k && decide (bM B k = 12)))
  | 0, _, k => by rw [show frF B 0 = 0 from rfl, hb_zero]; simp
  | w + 1, hw, k => by
    have ih := frF_hb (B := B) w (by omega) k
    show hb (if hb (bw B) w = true ∧ bM B w = 12 then frF B w ||| ((1 : Int32) <<< (Int32.ofNat w &&& 31)) else frF B w) k = _
    by_cases e : k = w
    · subst e
      by_cases c : hb (bw B) k = true ∧ bM B k = 12
      · rw [if_pos c, hb_or, hb_bit k (by omega), c.1, c.2]; simp
      · rw [if_neg c, ih]
        have : (hb (bw B) k && decide (bM B k = 12)) = false := by
          cases z : hb (bw B) k with
          | false => rfl
          | true => rw [decide_eq_false (fun x => c ⟨z, x⟩)]; rfl
        rw [this]; simp
    · have e1 : decide (k < w + 1) = decide (k < w) := by
        by_cases z : k < w
        · rw [decide_eq_true z, decide_eq_true (show k < w + 1 by omega)]
        · rw [decide_eq_false z, decide_eq_false (show ¬ k < w + 1 by omega)]
      by_cases c : hb (bw B) w = true ∧ bM B w = 12
      · rw [if_pos c, hb_or, hb_bit k (by omega), ih, e1]; simp [e]
      · rw [if_neg c, ih, e1]
theorem frF_all {B : Bk} (hB : BOK B) (k : Nat) : hb (frF B (bn B)) k = (hb (bw B) k && decide (bM B k = 12)) := by
  rw [frF_hb _ hB.n k]
  by_cases c : hb (bw B) k = true
  · have := hB.w c; simp [this]
  · simp [c]
/-- one worker, all of it -/
theorem ib_w1 (h : IW Ξ0 μ0 a B H y q m K n Ξ ν) (hl : (shI ++ Ξ0).length + 10000 < 1000000) (m4 : bm B ≤ 4) (hn : n ≤ 8000) (hr : Rch B m) {N : Nat} (nu : Nu (gE B) N) {w : Nat} (hw : w < bn B) (kq : KQ B w K) : ∃ Ξ' ν' K', IW Ξ0 μ0 a B H y q m K' (n + 300) Ξ' ν' ∧ KQ B (w + 1) K' ∧
    ∀ f k1 k2 k3 k4 k5 k6 x5, f_L_isBook_L32 k1 k2 k3 k4 k5 k6 (f + 1) 0 (lab a) (Int32.ofNat N) y (frF B w) x5 (fcs B w) (pcs B w) q (Int32.ofNat w) (mX Ξ ν) = f_L_isBook_L32 k1 k2 k3 k4 k5 k6 f 0 (lab a) (Int32.ofNat N) y (frF B (w + 1)) x5 (fcs B (w + 1)) (pcs B (w + 1)) q (Int32.ofNat (w + 1)) (mX Ξ' ν') := by
  have hB := h.b
  have w12 : w < 12 := Nat.lt_of_lt_of_le hw hB.n
  obtain ⟨Ξ1, ν1, v, i1, e1⟩ := ib_c h (by omega) hl hw
  obtain ⟨Ξ2, ν2, i2, e2⟩ := ib_d i1 (by omega) hl hr nu hw
  obtain ⟨Ξ3, ν3, K3, i3, k3', e3⟩ := ib_t hl nu hw (bm B) 0 _ K Ξ2 ν2 (by omega) (by omega) i2 (kq.row hw)
  have ln3 := i3.ln
  obtain ⟨Ξ4, ν4, e4, s4, p4⟩ := (q_fits0 i3.2.1 (by omega) hw).go i3.1.z
  have i4 := i3.go s4 p4
  refine ⟨Ξ4, ν4, K3, i4.mn (by omega), k3', fun f k1 k2 k3 k4 k5 k6 x5 => ?_⟩
  have e3' := e3 (4999 - bm B) k3 k4 (f_L_isBook_J506 (f_L_isBook_L32 k1 k2 k3 k4 k5 k6 f) k1 k2 k3 k4 k5 k6) (frM B (frF B w) w) x5 (pcs B (w + 1))
  rw [show bm B + 1 + (4999 - bm B) = 5000 by omega, fcI_0] at e3'
  have e3' : f_L_isBook_L310 k3 k4 (f_L_isBook_J506 (f_L_isBook_L32 k1 k2 k3 k4 k5 k6 f) k1 k2 k3 k4 k5 k6) 5000 0 (lab a) (Int32.ofNat N) y (frM B (frF B w) w) x5 (fcs B w) (pcs B (w + 1)) q (Int32.ofNat w) 0 0 (mX Ξ2 ν2) = _ := e3'
  rw [ib_a h hw, ib_b h hw, e1, e2, e3']
  simp only [f_L_isBook_J506, ↓hbind e4, if_true, lt, i_succ]
  rfl
theorem ib_w (hl : (shI ++ Ξ0).length + 10000 < 1000000) (m4 : bm B ≤ 4) (hr : Rch B m) {N : Nat} (nu : Nu (gE B) N) : ∀ (d w n : Nat) (K : Nat → Int32) (Ξ : xH) (ν : MM), w + d = bn B → n + 300 * d ≤ 8000 → IW Ξ0 μ0 a B H y q m K n Ξ ν → KQ B w K → ∃ Ξ' ν' K', IW Ξ0 μ0 a B H y q m K' (n + 300 * d) Ξ' ν' ∧ KQ B (bn B) K' ∧
    ∀ f k1 k2 k3 k4 k5 k6 x5, f_L_isBook_L32 k1 k2 k3 k4 k5 k6 (d + 1 + f) 0 (lab a) (Int32.ofNat N) y (frF B w) x5 (fcs B w) (pcs B w) q (Int32.ofNat w) (mX Ξ ν) = k6 0 (lab a) (Int32.ofNat N) y (frF B (bn B)) x5 (fcs B (bn B)) (pcs B (bn B)) q (mX Ξ' ν')
  | 0, w, n, K, Ξ, ν, hw, hn, h, kq => by
    have hB := h.b
    have hn12 := hB.n
    have w0 : w = bn B := by omega
    subst w0
    have hs := h.2.2.1
    have g0 : ν.1 (lab a) 0 = Int32.ofNat (bn B) := h.2.2.2.1.1.1
    have c0 : (Int32.ofNat (bn B) ≥ Int32.ofNat (bn B)) := by rw [oN_ge (by omega) (by omega)]; omega
    refine ⟨Ξ, ν, K, h, kq, fun f k1 k2 k3 k4 k5 k6 x5 => ?_⟩
    rw [show 0 + 1 + f = f + 1 by omega]
    simp only [f_L_isBook_L32, ↓hbind (hs.g (show 0 < 5 by decide)), g0, if_pos c0]
  | d + 1, w, n, K, Ξ, ν, hw, hn, h, kq => by
    obtain ⟨Ξ1, ν1, K1, i1, k1', e1⟩ := ib_w1 h hl m4 (by omega) hr nu (show w < bn B by omega) kq
    obtain ⟨Ξ2, ν2, K2, i2, k2', e2⟩ := ib_w hl m4 hr nu d (w + 1) (n + 300) K1 Ξ1 ν1 (by omega) (by omega) i1 k1'
    refine ⟨Ξ2, ν2, K2, i2.mn (by omega), k2', fun f k1 k2 k3 k4 k5 k6 x5 => ?_⟩
    rw [show d + 1 + 1 + f = (d + 1 + f) + 1 by omega, e1, e2]
end F4
