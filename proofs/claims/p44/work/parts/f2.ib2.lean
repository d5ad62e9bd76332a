/-! THE LAW: isBook, a worker: without it, its kind -/
section F2
variable {Ξ0 Ξ Ξ' : xH} {μ0 ν ν' : MM} {a : LA} {B : Bk} {H : List Bk} {y q : Nat} {m K : Nat → Int32} {n k : Nat}
/-- the masks are what is reached -/
def Rch (B : Bk) (m : Nat → Int32) : Prop := ∃ k M', Gr (gE B) 12 k (bM B) M' ∧ AlW (gE B) M' (bw B) (m 0) (m 1) ∧ AlW (trE (gE B)) (tr M') (bt B) (m 3) (m 2)
/-- the kind of one, as the law says it -/
def prL (B : Bk) (m : Nat → Int32) (s : Bool) (k : Nat) : Int32 := if (if s then hb (bt B) k else hb (bw B) k) = false then 0 else prt s k (m 0) (m 1) (m 2) (m 3)
/-- the class's three answers of one -/
theorem of_go (h : IW Ξ0 μ0 a B H y q m K n Ξ ν) (hn : n ≤ 9000) (hl : (shI ++ Ξ0).length + 10000 < 1000000) (hr : Rch B m) {N b : Nat} (nu : Nu (gE B) N) (s : Bool) {k : Nat} (hk : k < if s then bm B else bn B) (nb : Nu (xE B s k) b) :
    ∃ Ξ1 ν1 Ξ2 ν2 Ξ3 ν3, f_L_of 0 (bI s) (Int32.ofNat k) 0 (mX Ξ ν) = some (if N ≤ b then 0 else 1, mX Ξ1 ν1) ∧ f_L_of 0 (bI s) (Int32.ofNat k) 1 (mX Ξ1 ν1) = some (Int32.ofNat b, mX Ξ2 ν2) ∧ f_L_of 0 (bI s) (Int32.ofNat k) 2 (mX Ξ2 ν2) = some (prL B m s k, mX Ξ3 ν3) ∧ IW Ξ0 μ0 a B H y q m K (n + 3) Ξ3 ν3 := by
  have ln := h.ln
  obtain ⟨Ξ1, ν1, e1, s1, p1⟩ := (q_of0 h.2.1 (by omega) s hk nb nu).go h.1.z
  have i1 := h.go s1 p1
  have ln1 := i1.ln
  obtain ⟨Ξ2, ν2, e2, s2, p2⟩ := (q_of1 p1 (by omega) s hk nb).go i1.1.z
  have i2 := i1.go s2 p2
  have ln2 := i2.ln
  obtain ⟨j, M', g, r1, r2⟩ := hr
  have key : ∃ Ξ3 ν3, f_L_of 0 (bI s) (Int32.ofNat k) 2 (mX Ξ2 ν2) = some (prL B m s k, mX Ξ3 ν3) ∧ Gst 1 Ξ2 ν2 Ξ3 ν3 ∧ RS ν3 B H := by
    unfold prL
    by_cases c : (if s then hb (bt B) k else hb (bw B) k) = false
    · rw [if_pos c]; exact (q_of2_0 p2 (by omega) s hk c).go i2.1.z
    · rw [if_neg c]; exact (q_of2_1 p2 (by omega) s hk (by simpa using c) g r1 r2).go i2.1.z
  obtain ⟨Ξ3, ν3, e3, s3, p3⟩ := key
  exact ⟨Ξ1, ν1, Ξ2, ν2, Ξ3, ν3, e1, e2, e3, i2.go s3 p3⟩
theorem Nu.c12 {E : Nat → Nat → Bool} {N : Nat} (h : Nu E N) : N ≤ 12 := by
  obtain ⟨M, -, e⟩ := h.1
  rw [← e]; exact sz_le M
/-- without one worker -/
theorem wo_w (h : IW Ξ0 μ0 a B H y q m K n Ξ ν) (hn : n ≤ 9000) (hl : (shI ++ Ξ0).length + 10000 < 1000000) {w : Nat} (hw : w < bn B) :
    ∃ Ξ1 ν1 ν2 p b, f_X10_like (lab a) (mX Ξ ν) = some (some p, mX Ξ1 ν1) ∧ gI (mX Ξ1 ν1) 10 p 3 = some (bw B) ∧ pI (mX Ξ1 ν1) 10 p 3 (bw B &&& (((1 : Int32) <<< (Int32.ofNat w &&& 31)) ^^^ (-1))) = some (mX Ξ1 ν2) ∧ (∀ {β : Type} (o : Option β), vc (mX Ξ1 ν2) 10 p o = o) ∧ f_X10_most 40 p 0 0 (mX Ξ1 ν2) = some (Int32.ofNat b, mX Ξ1 ν2) ∧ Nu (xE B false w) b ∧ IW Ξ0 μ0 a B H y q m K (n + 30) Ξ1 ν2 := by
  have hB := h.b
  have ln := h.ln
  have w12 : w < 12 := Nat.lt_of_lt_of_le hw hB.n
  obtain ⟨Ξ1, ν1, p, e1, s1, p1, lp, lp2, hp, hs1, hv1⟩ := lk_go h.2.2.1 h.2.2.2.1 h.1.z (by omega) h.2.1
  have l0 : 168 ≤ (shI ++ Ξ).length := by rw [xl]; omega
  have g3 : ν1.1 (lab (lkA p)) 3 = bw B := hv1.1.2.2.2.1
  have d1 := hs1.g (μ := ν1) (show 3 < 5 by decide)
  rw [g3] at d1
  have d2 := hs1.p (μ := ν1) (v := bw B &&& (((1 : Int32) <<< (Int32.ofNat w &&& 31)) ^^^ (-1))) (show 3 < 5 by decide)
  have v2 := hv1.w3 hs1 (bw B &&& (((1 : Int32) <<< (Int32.ofNat w &&& 31)) ^^^ (-1)))
  have gg := wX_w (B := B) w12
  obtain ⟨b, e5, nb⟩ := most_go (μ := st ν1 (lab (lkA p)) 3 (bw B &&& (((1 : Int32) <<< (Int32.ofNat w &&& 31)) ^^^ (-1)))) hs1 v2 (fun v s e => by
    rw [gg] at e
    have e : rE (gE B) (bw B &&& (((1 : Int32) <<< (Int32.ofNat w &&& 31)) ^^^ (-1))) (bt B) v s = true := e
    unfold rE at e
    simp only [Bool.and_eq_true] at e
    exact hB.hf v s e.1.1)
  rw [← hp] at d1 d2 e5
  have s2 : Gst 30 Ξ ν Ξ1 (st ν1 p 3 (bw B &&& (((1 : Int32) <<< (Int32.ofNat w &&& 31)) ^^^ (-1)))) := s1.sw lp (by omega)
  exact ⟨Ξ1, ν1, _, p, b, e1, d1, d2, fun o => by have := hs1.vc (μ := st ν1 p 3 (bw B &&& (((1 : Int32) <<< (Int32.ofNat w &&& 31)) ^^^ (-1)))) (o := o); rw [← hp] at this; exact this, e5, nb.congr gg, h.go s2 (p1.sw (by omega))⟩
/-- without one task -/
theorem wo_t (h : IW Ξ0 μ0 a B H y q m K n Ξ ν) (hn : n ≤ 9000) (hl : (shI ++ Ξ0).length + 10000 < 1000000) {t : Nat} (ht : t < bm B) :
    ∃ Ξ1 ν1 ν2 p b, f_X10_like (lab a) (mX Ξ ν) = some (some p, mX Ξ1 ν1) ∧ gI (mX Ξ1 ν1) 10 p 4 = some (bt B) ∧ pI (mX Ξ1 ν1) 10 p 4 (bt B &&& (((1 : Int32) <<< (Int32.ofNat t &&& 31)) ^^^ (-1))) = some (mX Ξ1 ν2) ∧ (∀ {β : Type} (o : Option β), vc (mX Ξ1 ν2) 10 p o = o) ∧ f_X10_most 40 p 0 0 (mX Ξ1 ν2) = some (Int32.ofNat b, mX Ξ1 ν2) ∧ Nu (xE B true t) b ∧ IW Ξ0 μ0 a B H y q m K (n + 30) Ξ1 ν2 := by
  have hB := h.b
  have ln := h.ln
  have t12 : t < 12 := Nat.lt_of_lt_of_le ht hB.m
  obtain ⟨Ξ1, ν1, p, e1, s1, p1, lp, lp2, hp, hs1, hv1⟩ := lk_go h.2.2.1 h.2.2.2.1 h.1.z (by omega) h.2.1
  have l0 : 168 ≤ (shI ++ Ξ).length := by rw [xl]; omega
  have g4 : ν1.1 (lab (lkA p)) 4 = bt B := hv1.1.2.2.2.2
  have d1 := hs1.g (μ := ν1) (show 4 < 5 by decide)
  rw [g4] at d1
  have d2 := hs1.p (μ := ν1) (v := bt B &&& (((1 : Int32) <<< (Int32.ofNat t &&& 31)) ^^^ (-1))) (show 4 < 5 by decide)
  have v2 := hv1.w4 hs1 (bt B &&& (((1 : Int32) <<< (Int32.ofNat t &&& 31)) ^^^ (-1)))
  have gg := wX_t (B := B) t12
  obtain ⟨b, e5, nb⟩ := most_go (μ := st ν1 (lab (lkA p)) 4 (bt B &&& (((1 : Int32) <<< (Int32.ofNat t &&& 31)) ^^^ (-1)))) hs1 v2 (fun v s e => by
    rw [gg] at e
    have e : rE (gE B) (bw B) (bt B &&& (((1 : Int32) <<< (Int32.ofNat t &&& 31)) ^^^ (-1))) v s = true := e
    unfold rE at e
    simp only [Bool.and_eq_true] at e
    exact hB.hf v s e.1.1)
  rw [← hp] at d1 d2 e5
  have s2 : Gst 30 Ξ ν Ξ1 (st ν1 p 4 (bt B &&& (((1 : Int32) <<< (Int32.ofNat t &&& 31)) ^^^ (-1)))) := s1.sw lp (by omega)
  exact ⟨Ξ1, ν1, _, p, b, e1, d1, d2, fun o => by have := hs1.vc (μ := st ν1 p 4 (bt B &&& (((1 : Int32) <<< (Int32.ofNat t &&& 31)) ^^^ (-1)))) (o := o); rw [← hp] at this; exact this, e5, nb.congr gg, h.go s2 (p1.sw (by omega))⟩
theorem of_eq {N b : Nat} (hN : N ≤ 12) (hb' : b ≤ 12) : (if N ≤ b then (0 : Int32) else 1) = if Int32.ofNat b ≥ Int32.ofNat N then 0 else 1 := by
  by_cases z : N ≤ b
  · rw [if_pos z, if_pos (by rw [oN_ge (by omega) (by omega)]; exact z)]
  · rw [if_neg z, if_neg (by rw [oN_ge (by omega) (by omega)]; exact z)]
theorem ib_d (h : IW Ξ0 μ0 a B H y q m K n Ξ ν) (hn : n ≤ 8900) (hl : (shI ++ Ξ0).length + 10000 < 1000000) (hr : Rch B m) {N : Nat} (nu : Nu (gE B) N) {w : Nat} (hw : w < bn B) : ∃ Ξ' ν', IW Ξ0 μ0 a B H y q m K (n + 33) Ξ' ν' ∧
    ∀ kH k1 k2 k3 k4 k5 k6 x4 x5 x6 x7 x10 v, f_L_isBook_J170 kH k1 k2 k3 k4 k5 k6 0 (lab a) (Int32.ofNat N) y x4 x5 x6 x7 q (Int32.ofNat w) x10 v v (mX Ξ ν) = f_L_isBook_L310 k3 k4 (f_L_isBook_J506 kH k1 k2 k3 k4 k5 k6) 5000 0 (lab a) (Int32.ofNat N) y x4 x5 x6 x7 q (Int32.ofNat w) x10 0 (mX Ξ' ν') := by
  have hB := h.b
  have hs := h.2.2.1
  have w12 : w < 12 := Nat.lt_of_lt_of_le hw hB.n
  have N12 := nu.c12
  obtain ⟨Ξ1, ν1, ν2, p, b, e1, d1, d2, vv, e5, nb, i2⟩ := wo_w h (by omega) hl hw
  have b12 := nb.c12
  have hs2 := i2.2.2.1
  have g3 : ν2.1 (lab a) 3 = bw B := i2.2.2.2.1.1.2.2.2.1
  obtain ⟨Ξ3, ν3, Ξ4, ν4, Ξ5, ν5, q1, q2, q3, i5⟩ := of_go i2 (by omega) hl hr nu false (k := w) hw nb
  have hx := has_eq (x := bw B) (show w < 32 by omega)
  have hx0 := has_eq1 (x := m 0) (show w < 32 by omega)
  have hx2 := has_eq1 (x := m 2) (show w < 32 by omega)
  have q1 : f_L_of 0 0 (Int32.ofNat w) 0 (mX Ξ1 ν2) = some (if N ≤ b then 0 else 1, mX Ξ3 ν3) := q1
  have q2 : f_L_of 0 0 (Int32.ofNat w) 1 (mX Ξ3 ν3) = some (Int32.ofNat b, mX Ξ4 ν4) := q2
  have q3 : f_L_of 0 0 (Int32.ofNat w) 2 (mX Ξ4 ν4) = some (prL B m false w, mX Ξ5 ν5) := q3
  refine ⟨Ξ5, ν5, i5, fun kH k1 k2 k3 k4 k5 k6 x4 x5 x6 x7 x10 v => ?_⟩
  have t2 : f_L_isBook_J255 kH k1 k2 k3 k4 k5 k6 0 (lab a) (Int32.ofNat N) y x4 x5 x6 x7 q (Int32.ofNat w) x10 (Int32.ofNat b) (prL B m false w) (mX Ξ1 ν2) = f_L_isBook_L310 k3 k4 (f_L_isBook_J506 kH k1 k2 k3 k4 k5 k6) 5000 0 (lab a) (Int32.ofNat N) y x4 x5 x6 x7 q (Int32.ofNat w) x10 0 (mX Ξ5 ν5) := by
    by_cases z : N ≤ b
    · rw [if_pos z] at q1
      have c : (Int32.ofNat b ≥ Int32.ofNat N) := by rw [oN_ge (by omega) (by omega)]; exact z
      simp only [f_L_isBook_J255, ↓hbind q1, if_pos c, f_L_isBook_J276, if_true, ↓hbind q2, ↓hbind q3]
    · rw [if_neg z] at q1
      have c : ¬ (Int32.ofNat b ≥ Int32.ofNat N) := by rw [oN_ge (by omega) (by omega)]; exact z
      simp only [f_L_isBook_J255, ↓hbind q1, if_neg c, f_L_isBook_J276, if_true, ↓hbind q2, ↓hbind q3]
  have t1 : f_L_isBook_J170 kH k1 k2 k3 k4 k5 k6 0 (lab a) (Int32.ofNat N) y x4 x5 x6 x7 q (Int32.ofNat w) x10 v v (mX Ξ ν) = f_L_isBook_J255 kH k1 k2 k3 k4 k5 k6 0 (lab a) (Int32.ofNat N) y x4 x5 x6 x7 q (Int32.ofNat w) x10 (Int32.ofNat b) (prL B m false w) (mX Ξ1 ν2) := by
    have a0 := i2.gm (show 0 < 4 by decide)
    have a2 := i2.gm (show 2 < 4 by decide)
    have a0 : aI (mX Ξ1 ν2) y 0 = some (m 0) := a0
    have a2 : aI (mX Ξ1 ν2) y 2 = some (m 2) := a2
    cases c1 : hb (bw B) w with
    | false =>
      have n1 : (((bw B >>> (Int32.ofNat w &&& 31)) &&& (1 : Int32)) = 0) := by rw [hx, c1]
      have pv : prL B m false w = 0 := if_pos c1
      rw [pv]
      simp only [f_L_isBook_J170, if_true, ↓hvc (fun _ => hs.vc), ↓hbind e1, Option.bind_some, ↓hbind d1, ↓hbind d2, ↓hvc vv, ↓hbind e5, ↓hbind (hs2.g (show 3 < 5 by decide)), g3, if_pos n1]
    | true =>
      have n1 : ¬ (((bw B >>> (Int32.ofNat w &&& 31)) &&& (1 : Int32)) = 0) := by rw [hx, c1]; simp
      have pv : prL B m false w = prt false w (m 0) (m 1) (m 2) (m 3) := if_neg (by simp [c1])
      cases c2 : hb (m 0) w with
      | true =>
        have n2 : (((m 0 >>> (Int32.ofNat w &&& 31)) &&& (1 : Int32)) = 1) := by rw [hx0, c2]
        have pv2 : prt false w (m 0) (m 1) (m 2) (m 3) = 1 := if_pos c2
        rw [pv, pv2]
        simp only [f_L_isBook_J170, if_true, ↓hvc (fun _ => hs.vc), ↓hbind e1, Option.bind_some, ↓hbind d1, ↓hbind d2, ↓hvc vv, ↓hbind e5, ↓hbind (hs2.g (show 3 < 5 by decide)), g3, if_neg n1, ↓hbind a0, if_pos n2]
      | false =>
        have n2 : ¬ (((m 0 >>> (Int32.ofNat w &&& 31)) &&& (1 : Int32)) = 1) := by rw [hx0, c2]; simp
        cases c3 : hb (m 2) w with
        | true =>
          have n3 : (((m 2 >>> (Int32.ofNat w &&& 31)) &&& (1 : Int32)) = 1) := by rw [hx2, c3]
          have pv2 : prt false w (m 0) (m 1) (m 2) (m 3) = 2 := (if_neg (by simp [c2])).trans (if_pos c3)
          rw [pv, pv2]
          simp only [f_L_isBook_J170, if_true, ↓hvc (fun _ => hs.vc), ↓hbind e1, Option.bind_some, ↓hbind d1, ↓hbind d2, ↓hvc vv, ↓hbind e5, ↓hbind (hs2.g (show 3 < 5 by decide)), g3, if_neg n1, ↓hbind a0, if_neg n2, ↓hbind a2, if_pos n3]
        | false =>
          have n3 : ¬ (((m 2 >>> (Int32.ofNat w &&& 31)) &&& (1 : Int32)) = 1) := by rw [hx2, c3]; simp
          have pv2 : prt false w (m 0) (m 1) (m 2) (m 3) = 3 := (if_neg (by simp [c2])).trans (if_neg (by simp [c3]))
          rw [pv, pv2]
          simp only [f_L_isBook_J170, if_true, ↓hvc (fun _ => hs.vc), ↓hbind e1, Option.bind_some, ↓hbind d1, ↓hbind d2, ↓hvc vv, ↓hbind e5, ↓hbind (hs2.g (show 3 < 5 by decide)), g3, if_neg n1, ↓hbind a0, if_neg n2, ↓hbind a2, if_neg n3]
  rw [t1, t2]
end F2
