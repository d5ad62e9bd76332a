/-! THE LAW: isBook, the tasks -/
section F5
variable {Ξ0 Ξ Ξ' : xH} {μ0 ν ν' : MM} {a : LA} {B : Bk} {H : List Bk} {y q : Nat} {m K : Nat → Int32} {n k : Nat}
/-- which tasks are free, among the first -/
noncomputable def ftF (B : Bk) : Nat → Int32
  | 0 => 0
  | t + 1 => if hb (bt B) t = true ∧ ow (bM B) t = 12 then ftF B t ||| ((1 : Int32) <<< (Int32.ofNat t &&& 31)) else ftF B t
theorem ftF_hb {B : Bk} : ∀ w, w ≤ 12 → ∀ k, hb (ftF B w) k = (decide (k < w) && (hb (bt B) k && decide (ow (bM B) k = 12)))
  | 0, _, k => by rw [show ftF B 0 = 0 from rfl, hb_zero]; simp
  | w + 1, hw, k => by
    have ih := ftF_hb (B := B) w (by omega) k
    show hb (if hb (bt B) w = true ∧ ow (bM B) w = 12 then ftF B w ||| ((1 : Int32) <<< (Int32.ofNat w &&& 31)) else ftF B w) k = _
    by_cases e : k = w
    · subst e
      by_cases c : hb (bt B) k = true ∧ ow (bM B) k = 12
      · rw [if_pos c, hb_or, hb_bit k (by omega), c.1, c.2]; simp
      · rw [if_neg c, ih]
        have : (hb (bt B) k && decide (ow (bM B) k = 12)) = false := by
          cases z : hb (bt B) k with
          | false => rfl
          | true => rw [decide_eq_false (fun x => c ⟨z, x⟩)]; rfl
        rw [this]; simp
    · have e1 : decide (k < w + 1) = decide (k < w) := by
        by_cases z : k < w
        · rw [decide_eq_true z, decide_eq_true (show k < w + 1 by omega)]
        · rw [decide_eq_false z, decide_eq_false (show ¬ k < w + 1 by omega)]
      by_cases c : hb (bt B) w = true ∧ ow (bM B) w = 12
      · rw [if_pos c, hb_or, hb_bit k (by omega), ih, e1]; simp [e]
      · rw [if_neg c, ih, e1]
theorem ftF_all {B : Bk} (hB : BOK B) (k : Nat) : hb (ftF B (bm B)) k = (hb (bt B) k && decide (ow (bM B) k = 12)) := by
  rw [ftF_hb _ hB.m k]
  by_cases c : hb (bt B) k = true
  · have := hB.t c; simp [this]
  · simp [c]
theorem ib_f (h : IW Ξ0 μ0 a B H y q m K n Ξ ν) {t : Nat} (ht : t < bm B) (f : Nat) (k1 : xH → Option (Int32 × xH)) (k2 : Nat → Nat → Int32 → Nat → Int32 → Int32 → Int32 → Int32 → Nat → xH → Option (Int32 × xH)) (x2 x4 x6 x7 : Int32) :
    f_L_isBook_L529 k1 k2 (f + 1) 0 (lab a) x2 y x4 (ftF B t) x6 x7 q (Int32.ofNat t) (mX Ξ ν) = f_L_isBook_J569 (f_L_isBook_L529 k1 k2 f) k1 k2 0 (lab a) x2 y x4 (ftF B (t + 1)) x6 x7 q (Int32.ofNat t) (mX Ξ ν) := by
  have hB := h.b
  obtain ⟨-, -, hs, hv, -⟩ := h
  have t12 : t < 12 := Nat.lt_of_lt_of_le ht hB.m
  have hm := hB.m
  have g1 : ν.1 (lab a) 1 = Int32.ofNat (bm B) := hv.1.2.1
  have g4 : ν.1 (lab a) 4 = bt B := hv.1.2.2.2.2
  have c0 : ¬ (Int32.ofNat t ≥ Int32.ofNat (bm B)) := by rw [oN_ge (by omega) (by omega)]; omega
  have hx := has_eq1 (x := bt B) (show t < 32 by omega)
  have eo := l_owner hs hv hB.h12 t12
  have ol := ow_le (bM B) t
  cases c1 : hb (bt B) t with
  | false =>
    have n1 : ¬ (((bt B >>> (Int32.ofNat t &&& 31)) &&& (1 : Int32)) = 1) := by rw [hx, c1]; simp
    have e1 : ftF B (t + 1) = ftF B t := if_neg (by simp [c1])
    rw [e1]
    simp only [f_L_isBook_L529, ↓hbind (hs.g (show 1 < 5 by decide)), ↓hbind (hs.g (show 4 < 5 by decide)), g1, if_neg c0, g4, if_neg n1]
  | true =>
    have n1 : (((bt B >>> (Int32.ofNat t &&& 31)) &&& (1 : Int32)) = 1) := by rw [hx, c1]
    by_cases c2 : ow (bM B) t = 12
    · have n2 : ¬ (eI (ow (bM B) t) ≥ 0) := by rw [c2]; decide
      have e1 : ftF B (t + 1) = ftF B t ||| ((1 : Int32) <<< (Int32.ofNat t &&& 31)) := if_pos ⟨c1, c2⟩
      rw [e1]
      simp only [f_L_isBook_L529, ↓hbind (hs.g (show 1 < 5 by decide)), ↓hbind (hs.g (show 4 < 5 by decide)), g1, if_neg c0, g4, if_pos n1, ↓hvc (fun _ => hs.vc), ↓hbind eo, if_neg n2, lt]
    · have n2 : (eI (ow (bM B) t) ≥ 0) := by rw [eI_lt (show ow (bM B) t < 12 by omega), oN_g0 (by omega)]; trivial
      have e1 : ftF B (t + 1) = ftF B t := if_neg (fun z => c2 z.2)
      rw [e1]
      simp only [f_L_isBook_L529, ↓hbind (hs.g (show 1 < 5 by decide)), ↓hbind (hs.g (show 4 < 5 by decide)), g1, if_neg c0, g4, if_pos n1, ↓hvc (fun _ => hs.vc), ↓hbind eo, if_pos n2]
theorem ib_g (h : IW Ξ0 μ0 a B H y q m K n Ξ ν) (hn : n ≤ 8900) (hl : (shI ++ Ξ0).length + 10000 < 1000000) (hr : Rch B m) {N : Nat} (nu : Nu (gE B) N) {t : Nat} (ht : t < bm B) : ∃ Ξ' ν', IW Ξ0 μ0 a B H y q m K (n + 34) Ξ' ν' ∧
    ∀ kH k1 k2 x4 x5 x6 x7, f_L_isBook_J569 kH k1 k2 0 (lab a) (Int32.ofNat N) y x4 x5 x6 x7 q (Int32.ofNat t) (mX Ξ ν) = kH 0 (lab a) (Int32.ofNat N) y x4 x5 x6 x7 q (Int32.ofNat (t + 1)) (mX Ξ' ν') := by
  have hB := h.b
  have hs := h.2.2.1
  have t12 : t < 12 := Nat.lt_of_lt_of_le ht hB.m
  have N12 := nu.c12
  obtain ⟨Ξ1, ν1, ν2, p, b, e1, d1, d2, vv, e5, nb, i2⟩ := wo_t h (by omega) hl ht
  have b12 := nb.c12
  have ln2 := i2.ln
  have hs2 := i2.2.2.1
  have g4 : ν2.1 (lab a) 4 = bt B := i2.2.2.2.1.1.2.2.2.2
  obtain ⟨Ξp, νp, ep, sp, pp⟩ := (q_partner1 i2.2.1 (by omega) ht).go i2.1.z
  have ip := i2.go sp pp
  have eo := l_owner ip.2.2.1 ip.2.2.2.1 hB.h12 t12
  obtain ⟨Ξ3, ν3, Ξ4, ν4, Ξ5, ν5, q1, q2, q3, i5⟩ := of_go ip (by omega) hl hr nu true (k := t) ht nb
  have hsp := ip.2.2.1
  have hx := has_eq (x := bt B) (show t < 32 by omega)
  have hx0 := has_eq1 (x := m 1) (show t < 32 by omega)
  have hx2 := has_eq1 (x := m 3) (show t < 32 by omega)
  have q1 : f_L_of 0 1 (Int32.ofNat t) 0 (mX Ξp νp) = some (if N ≤ b then 0 else 1, mX Ξ3 ν3) := q1
  have q2 : f_L_of 0 1 (Int32.ofNat t) 1 (mX Ξ3 ν3) = some (Int32.ofNat b, mX Ξ4 ν4) := q2
  have q3 : f_L_of 0 1 (Int32.ofNat t) 2 (mX Ξ4 ν4) = some (prL B m true t, mX Ξ5 ν5) := q3
  refine ⟨Ξ5, ν5, i5, fun kH k1 k2 x4 x5 x6 x7 => ?_⟩
  have t2 : f_L_isBook_J649 kH k1 k2 0 (lab a) (Int32.ofNat N) y x4 x5 x6 x7 q (Int32.ofNat t) (Int32.ofNat b) (prL B m true t) (mX Ξ1 ν2) = kH 0 (lab a) (Int32.ofNat N) y x4 x5 x6 x7 q (Int32.ofNat (t + 1)) (mX Ξ5 ν5) := by
    by_cases z : N ≤ b
    · rw [if_pos z] at q1
      have c : (Int32.ofNat b ≥ Int32.ofNat N) := by rw [oN_ge (by omega) (by omega)]; exact z
      simp only [f_L_isBook_J649, ↓hbind ep, ↓hvc (fun _ => hsp.vc), ↓hbind eo, ↓hbind q1, if_pos c, f_L_isBook_J686, if_true, ↓hbind q2, ↓hbind q3, lt, i_succ]
    · rw [if_neg z] at q1
      have c : ¬ (Int32.ofNat b ≥ Int32.ofNat N) := by rw [oN_ge (by omega) (by omega)]; exact z
      simp only [f_L_isBook_J649, ↓hbind ep, ↓hvc (fun _ => hsp.vc), ↓hbind eo, ↓hbind q1, if_neg c, f_L_isBook_J686, if_true, ↓hbind q2, ↓hbind q3, lt, i_succ]
  have t1 : f_L_isBook_J569 kH k1 k2 0 (lab a) (Int32.ofNat N) y x4 x5 x6 x7 q (Int32.ofNat t) (mX Ξ ν) = f_L_isBook_J649 kH k1 k2 0 (lab a) (Int32.ofNat N) y x4 x5 x6 x7 q (Int32.ofNat t) (Int32.ofNat b) (prL B m true t) (mX Ξ1 ν2) := by
    have a0 := i2.gm (show 1 < 4 by decide)
    have a2 := i2.gm (show 3 < 4 by decide)
    have a0 : aI (mX Ξ1 ν2) y 1 = some (m 1) := a0
    have a2 : aI (mX Ξ1 ν2) y 3 = some (m 3) := a2
    cases c1 : hb (bt B) t with
    | false =>
      have n1 : (((bt B >>> (Int32.ofNat t &&& 31)) &&& (1 : Int32)) = 0) := by rw [hx, c1]
      have pv : prL B m true t = 0 := if_pos c1
      rw [pv]
      simp only [f_L_isBook_J569, ↓hvc (fun _ => hs.vc), ↓hbind e1, Option.bind_some, ↓hbind d1, ↓hbind d2, ↓hvc vv, ↓hbind e5, ↓hbind (hs2.g (show 4 < 5 by decide)), g4, if_pos n1]
    | true =>
      have n1 : ¬ (((bt B >>> (Int32.ofNat t &&& 31)) &&& (1 : Int32)) = 0) := by rw [hx, c1]; simp
      have pv : prL B m true t = prt true t (m 0) (m 1) (m 2) (m 3) := if_neg (by simp [c1])
      cases c2 : hb (m 1) t with
      | true =>
        have n2 : (((m 1 >>> (Int32.ofNat t &&& 31)) &&& (1 : Int32)) = 1) := by rw [hx0, c2]
        have pv2 : prt true t (m 0) (m 1) (m 2) (m 3) = 1 := if_pos c2
        rw [pv, pv2]
        simp only [f_L_isBook_J569, ↓hvc (fun _ => hs.vc), ↓hbind e1, Option.bind_some, ↓hbind d1, ↓hbind d2, ↓hvc vv, ↓hbind e5, ↓hbind (hs2.g (show 4 < 5 by decide)), g4, if_neg n1, ↓hbind a0, if_pos n2]
      | false =>
        have n2 : ¬ (((m 1 >>> (Int32.ofNat t &&& 31)) &&& (1 : Int32)) = 1) := by rw [hx0, c2]; simp
        cases c3 : hb (m 3) t with
        | true =>
          have n3 : (((m 3 >>> (Int32.ofNat t &&& 31)) &&& (1 : Int32)) = 1) := by rw [hx2, c3]
          have pv2 : prt true t (m 0) (m 1) (m 2) (m 3) = 2 := (if_neg (by simp [c2])).trans (if_pos c3)
          rw [pv, pv2]
          simp only [f_L_isBook_J569, ↓hvc (fun _ => hs.vc), ↓hbind e1, Option.bind_some, ↓hbind d1, ↓hbind d2, ↓hvc vv, ↓hbind e5, ↓hbind (hs2.g (show 4 < 5 by decide)), g4, if_neg n1, ↓hbind a0, if_neg n2, ↓hbind a2, if_pos n3]
        | false =>
          have n3 : ¬ (((m 3 >>> (Int32.ofNat t &&& 31)) &&& (1 : Int32)) = 1) := by rw [hx2, c3]; simp
          have pv2 : prt true t (m 0) (m 1) (m 2) (m 3) = 3 := (if_neg (by simp [c2])).trans (if_neg (by simp [c3]))
          rw [pv, pv2]
          simp only [f_L_isBook_J569, ↓hvc (fun _ => hs.vc), ↓hbind e1, Option.bind_some, ↓hbind d1, ↓hbind d2, ↓hvc vv, ↓hbind e5, ↓hbind (hs2.g (show 4 < 5 by decide)), g4, if_neg n1, ↓hbind a0, if_neg n2, ↓hbind a2, if_neg n3]
  rw [t1, t2]
theorem ib_h (hl : (shI ++ Ξ0).length + 10000 < 1000000) (hr : Rch B m) {N : Nat} (nu : Nu (gE B) N) : ∀ (d t n : Nat) (Ξ : xH) (ν : MM), t + d = bm B → n + 34 * d ≤ 8900 → IW Ξ0 μ0 a B H y q m K n Ξ ν → ∃ Ξ' ν', IW Ξ0 μ0 a B H y q m K (n + 34 * d) Ξ' ν' ∧
    ∀ f k1 k2 x4 x6 x7, f_L_isBook_L529 k1 k2 (d + 1 + f) 0 (lab a) (Int32.ofNat N) y x4 (ftF B t) x6 x7 q (Int32.ofNat t) (mX Ξ ν) = k2 0 (lab a) (Int32.ofNat N) y x4 (ftF B (bm B)) x6 x7 q (mX Ξ' ν')
  | 0, t, n, Ξ, ν, ht, hn, h => by
    have hB := h.b
    have hm := hB.m
    have t0 : t = bm B := by omega
    subst t0
    have hs := h.2.2.1
    have g1 : ν.1 (lab a) 1 = Int32.ofNat (bm B) := h.2.2.2.1.1.2.1
    have c0 : (Int32.ofNat (bm B) ≥ Int32.ofNat (bm B)) := by rw [oN_ge (by omega) (by omega)]; omega
    refine ⟨Ξ, ν, h, fun f k1 k2 x4 x6 x7 => ?_⟩
    rw [show 0 + 1 + f = f + 1 by omega]
    simp only [f_L_isBook_L529, ↓hbind (hs.g (show 1 < 5 by decide)), g1, if_pos c0]
  | d + 1, t, n, Ξ, ν, ht, hn, h => by
    obtain ⟨Ξ1, ν1, i1, e1⟩ := ib_g h (by omega) hl hr nu (show t < bm B by omega)
    obtain ⟨Ξ2, ν2, i2, e2⟩ := ib_h hl hr nu d (t + 1) (n + 34) Ξ1 ν1 (by omega) (by omega) i1
    refine ⟨Ξ2, ν2, i2.mn (by omega), fun f k1 k2 x4 x6 x7 => ?_⟩
    rw [show d + 1 + 1 + f = (d + 1 + f) + 1 by omega, ib_f h (by omega), e1, e2]
end F5
