/-! THE LAW: isBook, a worker and a task: what it costs, its kind -/
/-- a worker's tasks, the first ones; who is free; which tasks are -/
def itF (B : Bk) (w : Nat) : Nat → Int32
  | 0 => 0
  | t + 1 => if hb (bf B w) t = true then itF B w t ||| ((1 : Int32) <<< (Int32.ofNat t &&& 31)) else itF B w t
theorem itF_hb {B : Bk} {w : Nat} : ∀ t, t ≤ 12 → ∀ k, hb (itF B w t) k = (decide (k < t) && hb (bf B w) k)
  | 0, _, k => by rw [show itF B w 0 = 0 from rfl, hb_zero]; simp
  | t + 1, ht, k => by
    have ih := itF_hb (B := B) (w := w) t (by omega) k
    show hb (if hb (bf B w) t = true then itF B w t ||| ((1 : Int32) <<< (Int32.ofNat t &&& 31)) else itF B w t) k = _
    by_cases e : k = t
    · subst e
      by_cases c : hb (bf B w) k = true
      · rw [if_pos c, hb_or, hb_bit k (by omega), c]; simp
      · rw [if_neg c, ih]; simp [c]
    · have e1 : decide (k < t + 1) = decide (k < t) := by
        by_cases z : k < t
        · rw [decide_eq_true z, decide_eq_true (show k < t + 1 by omega)]
        · rw [decide_eq_false z, decide_eq_false (show ¬ k < t + 1 by omega)]
      by_cases c : hb (bf B w) t = true
      · rw [if_pos c, hb_or, hb_bit k (by omega), ih, e1]; simp [e]
      · rw [if_neg c, ih, e1]
theorem itF_all {B : Bk} (hB : BOK B) {w : Nat} : itF B w (bm B) = bf B w := hb_ext fun k _ => by
  rw [itF_hb _ hB.m k]
  by_cases c : hb (bf B w) k = true
  · have := (hB.f c).2; simp [this]
  · simp [c]
/-- how many fits, so far -/
def fcI (B : Bk) (w t : Nat) : Int32 := fcs B w + Int32.ofNat (cnt (hb (bf B w)) t)
theorem fcI_0 {B : Bk} {w : Nat} : fcI B w 0 = fcs B w := add_0' _
theorem fcI_s {B : Bk} {w t : Nat} : fcI B w (t + 1) = if hb (bf B w) t = true then fcI B w t + 1 else fcI B w t := by
  unfold fcI
  by_cases c : hb (bf B w) t = true
  · rw [if_pos c, show cnt (hb (bf B w)) (t + 1) = cnt (hb (bf B w)) t + 1 by simp [cnt, c], ← i_succ, Int32.add_assoc]
  · rw [if_neg c, show cnt (hb (bf B w)) (t + 1) = cnt (hb (bf B w)) t by simp [cnt, c]]
theorem cnt_stop {p : Nat → Bool} {n : Nat} (h : ∀ k, n ≤ k → p k = false) : ∀ d, cnt p (n + d) = cnt p n
  | 0 => rfl
  | d + 1 => by
    rw [← Nat.add_assoc, cnt, cnt_stop h d, h (n + d) (by omega)]
    rfl
theorem fcI_all {B : Bk} (hB : BOK B) {w : Nat} : fcI B w (bm B) = fcs B (w + 1) := by
  unfold fcI
  have hm := hB.m
  have := cnt_stop (p := hb (bf B w)) (n := bm B) (fun k hk => by
    cases c : hb (bf B w) k with
    | false => rfl
    | true => have := (hB.f c).2; omega) (12 - bm B)
  rw [show bm B + (12 - bm B) = 12 by omega] at this
  rw [← this]; rfl
theorem fcs_all {B : Bk} (hB : BOK B) : ∀ d, bn B + d ≤ 12 → fcs B (bn B + d) = fcs B (bn B)
  | 0, _ => rfl
  | d + 1, h => by
    rw [← Nat.add_assoc]
    show fcs B (bn B + d) + Int32.ofNat (cnt (hb (bf B (bn B + d))) 12) = _
    rw [fcs_all hB d (by omega), cnt_zero fun k _ => ?_]
    · exact add_0' _
    · cases c : hb (bf B (bn B + d)) k with
      | false => rfl
      | true => have := (hB.f c).1; omega
section F3
variable {Ξ0 Ξ Ξ' : xH} {μ0 ν ν' : MM} {a : LA} {B : Bk} {H : List Bk} {y q : Nat} {m K : Nat → Int32} {n k : Nat}
def bmp (K : Nat → Int32) (x : Int32) (i : Nat) : Int32 := if x = Int32.ofNat i then K i + 1 else K i
theorem kv_lt (B : Bk) (w t : Nat) : ∃ j, j < 4 ∧ kv B w t = Int32.ofNat j := by
  unfold kv kvE
  split
  · split
    · split
      · exact ⟨3, by omega, rfl⟩
      · split
        · exact ⟨2, by omega, rfl⟩
        · exact ⟨1, by omega, rfl⟩
    · exact ⟨1, by omega, rfl⟩
  · exact ⟨0, by omega, rfl⟩
theorem IW.bm (h : IW Ξ0 μ0 a B H y q m K n Ξ ν) {j : Nat} (hj : j < 4) : sI (mX Ξ ν) q (Int32.ofNat j) (K j + 1) = some (mX Ξ (st ν q j (K j + 1))) ∧ IW Ξ0 μ0 a B H y q m (bmp K (Int32.ofNat j)) n Ξ (st ν q j (K j + 1)) := by
  obtain ⟨h1, h2, h3, h4, ⟨h5, h6, h7⟩, ⟨g5, g6, g7⟩, h8, h9⟩ := h
  have lq := (List.getElem?_eq_some_iff.mp g6).1
  have l0 : 168 ≤ (shI ++ Ξ0).length := by rw [xl]; omega
  refine ⟨sI_k (isA_of g6) hj (by omega), h1.sw g5 lq, h2.sw (by omega), h3, ?_, ⟨h5, h6, fun i hi => ?_⟩, ⟨g5, g6, fun i hi => ?_⟩, h8, h9⟩
  · exact h4.fr h3 (P := fun p _ => p = q) ((Fr.refl _ _).st rfl) fun p i z e => by unfold LF at z; omega
  · rw [st_ne (Or.inl h9)]; exact h7 i hi
  · show _ = if Int32.ofNat j = Int32.ofNat i then K i + 1 else K i
    by_cases e : i = j
    · rw [e, st_same, if_pos rfl]
    · rw [st_ne (Or.inr e), if_neg (by rw [oN_inj (by omega) (by omega)]; omega)]; exact g7 i hi
/-- the kind is asked and counted -/
theorem ib_k (h : IW Ξ0 μ0 a B H y q m K n Ξ ν) (hn : n ≤ 9000) (hl : (shI ++ Ξ0).length + 10000 < 1000000) {w t : Nat} (hw : w < bn B) (ht : t < bm B) : ∃ Ξ' ν', IW Ξ0 μ0 a B H y q m (bmp K (kv B w t)) (n + 1) Ξ' ν' ∧
    ∀ kH k3 k4 k6 x2 x4 x5 x6 x7 x10, f_L_isBook_J476 kH k3 k4 k6 0 (lab a) x2 y x4 x5 x6 x7 q (Int32.ofNat w) x10 (Int32.ofNat t) (kv B w t) (mX Ξ ν) = kH 0 (lab a) x2 y x4 x5 x6 x7 q (Int32.ofNat w) x10 (Int32.ofNat (t + 1)) (mX Ξ' ν') := by
  have ln := h.ln
  obtain ⟨Ξ1, ν1, e1, s1, p1⟩ := (q_fit h.2.1 (by omega) hw ht).go h.1.z
  have i1 := h.go s1 p1
  obtain ⟨j, hj, ej⟩ := kv_lt B w t
  obtain ⟨e2, i2⟩ := i1.bm hj
  have e0 := i1.gk hj
  rw [← ej] at e2 i2 e0
  refine ⟨Ξ1, _, i2, fun kH k3 k4 k6 x2 x4 x5 x6 x7 x10 => ?_⟩
  simp only [f_L_isBook_J476, ↓hbind e1, if_true, ↓hbind e0, ↓hbind e2, lt, i_succ]
/-- two copies, without the fit and without both -/
theorem wo_f (h : IW Ξ0 μ0 a B H y q m K n Ξ ν) (hn : n ≤ 9000) (hl : (shI ++ Ξ0).length + 10000 < 1000000) {w t : Nat} (hw : w < bn B) (ht : t < bm B) :
    ∃ Ξ1 ν1 ν2 p u r, f_X10_like (lab a) (mX Ξ ν) = some (some p, mX Ξ1 ν1) ∧ gR (mX Ξ1 ν1) 10 p 5 = some u ∧ aR 102 (mX Ξ1 ν1) u (Int32.ofNat w) = some r ∧ sI (mX Ξ1 ν1) r (Int32.ofNat t) (-1) = some (mX Ξ1 ν2) ∧ IW Ξ0 μ0 a B H y q m K (n + 30) Ξ1 ν2 ∧ p = lab (lkA p) ∧ (shI ++ Ξ).length ≤ p ∧ p + 30 ≤ (shI ++ Ξ1).length ∧ lbS (shI ++ Ξ1) (lkA p) ∧ lbV ν2 (lkA p) (wDf B w t) := by
  have hB := h.b
  have ln := h.ln
  have w12 : w < 12 := Nat.lt_of_lt_of_le hw hB.n
  have t12 : t < 12 := Nat.lt_of_lt_of_le ht hB.m
  obtain ⟨Ξ1, ν1, p, e1, s1, p1, lp, lp2, hp, hs1, hv1⟩ := lk_go h.2.2.1 h.2.2.2.1 h.1.z (by omega) h.2.1
  have l0 : 168 ≤ (shI ++ Ξ).length := by rw [xl]; omega
  have d1 := hs1.r5 (μ := ν1)
  have d2 := hs1.ro (μ := ν1) w12
  have d3 := hs1.so (μ := ν1) (v := -1) w12 t12
  have v2 := hv1.df hs1 w12 t12
  rw [← hp] at d1
  have hr : lao (lkA p) w = p + 18 + w := rfl
  rw [hr] at d2 d3 v2
  have s2 : Gst 30 Ξ ν Ξ1 (st ν1 (p + 18 + w) t (-1)) := s1.sw (by omega) (by omega)
  exact ⟨Ξ1, ν1, _, p, _, _, e1, d1, d2, d3, h.go s2 (p1.sw (by omega)), hp, lp, lp2, hs1, v2⟩
theorem wo_b (h : IW Ξ0 μ0 a B H y q m K n Ξ ν) (hn : n ≤ 9000) (hl : (shI ++ Ξ0).length + 10000 < 1000000) {w t : Nat} (hw : w < bn B) (ht : t < bm B) :
    ∃ Ξ1 ν1 ν2 ν3 p, f_X10_like (lab a) (mX Ξ ν) = some (some p, mX Ξ1 ν1) ∧ gI (mX Ξ1 ν1) 10 p 3 = some (bw B) ∧ pI (mX Ξ1 ν1) 10 p 3 (bw B &&& (((1 : Int32) <<< (Int32.ofNat w &&& 31)) ^^^ (-1))) = some (mX Ξ1 ν2) ∧ gI (mX Ξ1 ν2) 10 p 4 = some (bt B) ∧ pI (mX Ξ1 ν2) 10 p 4 (bt B &&& (((1 : Int32) <<< (Int32.ofNat t &&& 31)) ^^^ (-1))) = some (mX Ξ1 ν3) ∧ Gst 30 Ξ ν Ξ1 ν3 ∧ RS ν3 B H ∧ p = lab (lkA p) ∧ lbS (shI ++ Ξ1) (lkA p) ∧ lbV ν3 (lkA p) (wX B (bw B &&& (((1 : Int32) <<< (Int32.ofNat w &&& 31)) ^^^ (-1))) (bt B &&& (((1 : Int32) <<< (Int32.ofNat t &&& 31)) ^^^ (-1)))) := by
  have hB := h.b
  have ln := h.ln
  obtain ⟨Ξ1, ν1, p, e1, s1, p1, lp, lp2, hp, hs1, hv1⟩ := lk_go h.2.2.1 h.2.2.2.1 h.1.z (by omega) h.2.1
  have l0 : 168 ≤ (shI ++ Ξ).length := by rw [xl]; omega
  have g3 : ν1.1 (lab (lkA p)) 3 = bw B := hv1.1.2.2.2.1
  have d1 := hs1.g (μ := ν1) (show 3 < 5 by decide)
  rw [g3] at d1
  have d2 := hs1.p (μ := ν1) (v := bw B &&& (((1 : Int32) <<< (Int32.ofNat w &&& 31)) ^^^ (-1))) (show 3 < 5 by decide)
  have v2 := hv1.w3 hs1 (bw B &&& (((1 : Int32) <<< (Int32.ofNat w &&& 31)) ^^^ (-1)))
  obtain ⟨ν2, hν2⟩ : ∃ x, x = st ν1 (lab (lkA p)) 3 (bw B &&& (((1 : Int32) <<< (Int32.ofNat w &&& 31)) ^^^ (-1))) := ⟨_, rfl⟩
  rw [← hν2] at d2 v2
  have g4 : ν2.1 (lab (lkA p)) 4 = bt B := v2.1.2.2.2.2
  have d3 := hs1.g (μ := ν2) (show 4 < 5 by decide)
  rw [g4] at d3
  have d4 := hs1.p (μ := ν2) (v := bt B &&& (((1 : Int32) <<< (Int32.ofNat t &&& 31)) ^^^ (-1))) (show 4 < 5 by decide)
  have v3 := v2.w4 hs1 (bt B &&& (((1 : Int32) <<< (Int32.ofNat t &&& 31)) ^^^ (-1)))
  have s2 : Gst 30 Ξ ν Ξ1 ν2 := by rw [hν2, ← hp]; exact s1.sw lp (by omega)
  have p2 : RS ν2 B H := by rw [hν2, ← hp]; exact p1.sw (by omega)
  rw [← hp] at d1 d2 d3 d4 v3
  exact ⟨Ξ1, ν1, ν2, _, p, e1, d1, d2, d3, d4, s2.sw lp (by omega), p2.sw (by omega), hp, hs1, v3⟩
end F3
