/-! THE LAW: isBook, what its run holds; a worker: free, what its pair costs, its way -/
def IW (Ξ0 : xH) (μ0 : MM) (a : LA) (B : Bk) (H : List Bk) (y q : Nat) (m K : Nat → Int32) (n : Nat) (Ξ : xH) (ν : MM) : Prop :=
  Gst n Ξ0 μ0 Ξ ν ∧ RS ν B H ∧ lbS (shI ++ Ξ) a ∧ lbV ν a B ∧ ((shI ++ Ξ0).length ≤ y ∧ (shI ++ Ξ)[y]? = some (100, dI 4) ∧ ∀ i, i < 4 → ν.1 y i = m i) ∧ ((shI ++ Ξ0).length ≤ q ∧ (shI ++ Ξ)[q]? = some (100, dI 4) ∧ ∀ i, i < 4 → ν.1 q i = K i) ∧ lab a + lan a ≤ (shI ++ Ξ0).length ∧ y ≠ q
section F1
variable {Ξ0 Ξ Ξ' : xH} {μ0 ν ν' : MM} {a : LA} {B : Bk} {H : List Bk} {y q : Nat} {m K : Nat → Int32} {n k : Nat}
theorem IW.go (h : IW Ξ0 μ0 a B H y q m K n Ξ ν) (s : Gst k Ξ ν Ξ' ν') (r : RS ν' B H) : IW Ξ0 μ0 a B H y q m K (n + k) Ξ' ν' := by
  obtain ⟨h1, h2, h3, h4, ⟨h5, h6, h7⟩, ⟨g5, g6, g7⟩, h8⟩ := h
  obtain ⟨b1, b2⟩ := s.bk h3 h4
  have l0 : 168 ≤ (shI ++ Ξ0).length := by rw [xl]; omega
  have ly := (List.getElem?_eq_some_iff.mp h6).1
  have lq := (List.getElem?_eq_some_iff.mp g6).1
  exact ⟨h1.tr s, r, b1, b2, ⟨h5, s.sh h6, fun i hi => (s.vl (by omega) ly i).1.trans (h7 i hi)⟩, ⟨g5, s.sh g6, fun i hi => (s.vl (by omega) lq i).1.trans (g7 i hi)⟩, h8⟩
theorem IW.mn (h : IW Ξ0 μ0 a B H y q m K n Ξ ν) (l : n ≤ k) : IW Ξ0 μ0 a B H y q m K k Ξ ν := ⟨h.1.mn l, h.2⟩
theorem IW.gm (h : IW Ξ0 μ0 a B H y q m K n Ξ ν) {i : Nat} (hi : i < 4) : aI (mX Ξ ν) y (Int32.ofNat i) = some (m i) := by
  rw [aI_k (isA_of h.2.2.2.2.1.2.1) hi (by omega), h.2.2.2.2.1.2.2 i hi]
theorem IW.gk (h : IW Ξ0 μ0 a B H y q m K n Ξ ν) {i : Nat} (hi : i < 4) : aI (mX Ξ ν) q (Int32.ofNat i) = some (K i) := by
  rw [aI_k (isA_of h.2.2.2.2.2.1.2.1) hi (by omega), h.2.2.2.2.2.1.2.2 i hi]
theorem IW.ln (h : IW Ξ0 μ0 a B H y q m K n Ξ ν) : (shI ++ Ξ).length ≤ (shI ++ Ξ0).length + n := h.1.ln.2
theorem IW.b (h : IW Ξ0 μ0 a B H y q m K n Ξ ν) : BOK B := h.2.1.ok
/-- who is free: one more is looked at -/
noncomputable def frM (B : Bk) (x : Int32) (w : Nat) : Int32 := if hb (bw B) w = true ∧ bM B w = 12 then x ||| ((1 : Int32) <<< (Int32.ofNat w &&& 31)) else x
theorem ib_a (h : IW Ξ0 μ0 a B H y q m K n Ξ ν) {w : Nat} (hw : w < bn B) (f : Nat) (k1 k2 k3 k4 k5 : xH → Option (Int32 × xH)) (k6 : Nat → Nat → Int32 → Nat → Int32 → Int32 → Int32 → Int32 → Nat → xH → Option (Int32 × xH)) (x2 x4 x5 x6 x7 : Int32) :
    f_L_isBook_L32 k1 k2 k3 k4 k5 k6 (f + 1) 0 (lab a) x2 y x4 x5 x6 x7 q (Int32.ofNat w) (mX Ξ ν) = f_L_isBook_J73 (f_L_isBook_L32 k1 k2 k3 k4 k5 k6 f) k1 k2 k3 k4 k5 k6 0 (lab a) x2 y (frM B x4 w) x5 x6 x7 q (Int32.ofNat w) (mX Ξ ν) := by
  have hB := h.b
  obtain ⟨-, -, hs, hv, -⟩ := h
  have w12 : w < 12 := Nat.lt_of_lt_of_le hw hB.n
  have hn := hB.n
  have g0 : ν.1 (lab a) 0 = Int32.ofNat (bn B) := hv.1.1
  have g3 : ν.1 (lab a) 3 = bw B := hv.1.2.2.2.1
  have gq := hv.2.2.1 w w12
  have c0 : ¬ (Int32.ofNat w ≥ Int32.ofNat (bn B)) := by rw [oN_ge (by omega) (by omega)]; omega
  have hx := has_eq1 (x := bw B) (show w < 32 by omega)
  have hm := hB.M.1.1 w
  unfold frM
  cases c1 : hb (bw B) w with
  | false =>
    have n1 : ¬ (((bw B >>> (Int32.ofNat w &&& 31)) &&& (1 : Int32)) = 1) := by rw [hx, c1]; simp
    rw [if_neg (by simp)]
    simp only [f_L_isBook_L32, ↓hbind (hs.g (show 0 < 5 by decide)), ↓hbind (hs.g (show 3 < 5 by decide)), g0, if_neg c0, g3, if_neg n1]
  | true =>
    have n1 : (((bw B >>> (Int32.ofNat w &&& 31)) &&& (1 : Int32)) = 1) := by rw [hx, c1]
    by_cases c2 : bM B w = 12
    · have n2 : ¬ (eI (bM B w) ≥ 0) := by rw [c2]; decide
      rw [if_pos ⟨rfl, c2⟩]
      simp only [f_L_isBook_L32, ↓hbind (hs.g (show 0 < 5 by decide)), ↓hbind (hs.g (show 3 < 5 by decide)), g0, if_neg c0, g3, if_pos n1, ↓hbind hs.r6, ↓hbind (hs.aq w12), gq, if_neg n2, lt]
    · have n2 : (eI (bM B w) ≥ 0) := by rw [eI_lt (show bM B w < 12 by omega), oN_g0 (by omega)]; trivial
      rw [if_neg (fun z => c2 z.2)]
      simp only [f_L_isBook_L32, ↓hbind (hs.g (show 0 < 5 by decide)), ↓hbind (hs.g (show 3 < 5 by decide)), g0, if_neg c0, g3, if_pos n1, ↓hbind hs.r6, ↓hbind (hs.aq w12), gq, if_pos n2]
theorem ib_b (h : IW Ξ0 μ0 a B H y q m K n Ξ ν) {w : Nat} (hw : w < bn B) (kH : Nat → Nat → Int32 → Nat → Int32 → Int32 → Int32 → Int32 → Nat → Int32 → xH → Option (Int32 × xH)) (k1 k2 k3 k4 k5 : xH → Option (Int32 × xH)) (k6 : Nat → Nat → Int32 → Nat → Int32 → Int32 → Int32 → Int32 → Nat → xH → Option (Int32 × xH)) (x2 x4 x5 x6 : Int32) :
    f_L_isBook_J73 kH k1 k2 k3 k4 k5 k6 0 (lab a) x2 y x4 x5 x6 (pcs B w) q (Int32.ofNat w) (mX Ξ ν) = f_L_isBook_J103 kH k1 k2 k3 k4 k5 k6 0 (lab a) x2 y x4 x5 x6 (pcs B (w + 1)) q (Int32.ofNat w) (mX Ξ ν) := by
  have hB := h.b
  obtain ⟨-, -, hs, hv, -⟩ := h
  have w12 : w < 12 := Nat.lt_of_lt_of_le hw hB.n
  have gq := hv.2.2.1 w w12
  have hm := hB.M.1.1 w
  by_cases c2 : bM B w < 12
  · have n2 : ¬ (eI (bM B w) < 0) := by rw [eI_l0]; omega
    have e2 : pcs B (w + 1) = pcs B w + Int32.ofNat (bc B w (bM B w)) := if_pos c2
    have go := hv.2.1 w (bM B w) w12 c2
    rw [(hB.fit c2).1] at go
    have go : ν.1 (lao a w) (bM B w) = Int32.ofNat (bc B w (bM B w)) := go
    have ge : eI (bM B w) = Int32.ofNat (bM B w) := eI_lt c2
    rw [e2]
    rw [ge] at gq n2
    simp only [f_L_isBook_J73, ↓hbind hs.r6, ↓hbind (hs.aq w12), gq, if_neg n2, ↓hbind hs.r5, ↓hbind (hs.ro w12), ↓hbind (hs.ao w12 c2), go, lt]
  · have n2 : (eI (bM B w) < 0) := by rw [eI_l0]; omega
    have e2 : pcs B (w + 1) = pcs B w := if_neg c2
    rw [e2]
    simp only [f_L_isBook_J73, ↓hbind hs.r6, ↓hbind (hs.aq w12), gq, if_pos n2]
theorem ib_c (h : IW Ξ0 μ0 a B H y q m K n Ξ ν) (hn : n ≤ 9000) (hl : (shI ++ Ξ0).length + 10000 < 1000000) {w : Nat} (hw : w < bn B) : ∃ Ξ' ν' v, IW Ξ0 μ0 a B H y q m K (n + 15) Ξ' ν' ∧
    ∀ kH k1 k2 k3 k4 k5 k6 x2 x4 x5 x6 x7, f_L_isBook_J103 kH k1 k2 k3 k4 k5 k6 0 (lab a) x2 y x4 x5 x6 x7 q (Int32.ofNat w) (mX Ξ ν) = f_L_isBook_J170 kH k1 k2 k3 k4 k5 k6 0 (lab a) x2 y x4 x5 x6 x7 q (Int32.ofNat w) 0 v v (mX Ξ' ν') := by
  have hB := h.b
  have ln := h.ln
  obtain ⟨h1, h2, hs, hv, -⟩ := id h
  have w12 : w < 12 := Nat.lt_of_lt_of_le hw hB.n
  obtain ⟨⟨o, hh⟩, e1, E, ν1, r1, g1, f1, z1, r2⟩ := l_way hs hv hB.M hB.h12 hB.hf hw h1.z (by omega)
  have r1 : hh = mS ((shI ++ Ξ) ++ E) ν1 := r1
  subst r1
  rw [xXe] at e1
  have s1 := Gst.mk' g1 f1 z1
  have i1 := h.go s1 (h2.up f1)
  have ln1 := i1.ln
  obtain ⟨Ξ2, ν2, e2, s2, p2⟩ := (q_partner0 i1.2.1 (by omega) hw).go i1.1.z
  have i2 := i1.go s2 p2
  have ln2 := i2.ln
  have hs2 := i2.2.2.1
  have gq2 := i2.2.2.2.1.2.2.1 w w12
  rcases r2 with ⟨ro, nr⟩ | ⟨p, L, pw, pt, ro, tw, t0, hp, hsh, hrow⟩
  · have ro : o = none := ro
    subst ro
    have nn : bM B w < 12 ∨ Nr (gE B) (bM B) w := by
      by_cases z : bM B w < 12
      · exact Or.inl z
      · exact Or.inr (nr (by have := hB.M.1.1 w; omega))
    obtain ⟨Ξ3, ν3, e3, s3, p3⟩ := (q_wayFrom0 p2 (by omega) hw nn (Or.inl rfl)).go i2.1.z
    have i3 := i2.go s3 p3
    have ln3 := i3.ln
    obtain ⟨Ξ4, ν4, e4, s4, p4⟩ := (q_wayFrom0 p3 (by omega) hw nn (Or.inr rfl)).go i3.1.z
    have i4 := i3.go s4 p4
    refine ⟨Ξ4, ν4, 0, i4, fun kH k1 k2 k3 k4 k5 k6 x2 x4 x5 x6 x7 => ?_⟩
    simp only [f_L_isBook_J103, ↓hvc (fun _ => hs.vc), ↓hbind e1, ↓hbind e2, ↓hbind hs2.r6, ↓hbind (hs2.aq w12), gq2, if_true, ↓hbind e3, nl, f_L_isBook_J148, ↓hbind e4]
  · have ro : o = some p := ro
    subst ro
    obtain ⟨Ξ3, ν3, e3, s3, p3⟩ := (q_wayFrom1 p2 (by omega) hw tw t0 (Or.inl rfl)).go i2.1.z
    have i3 := i2.go s3 p3
    have ln3 := i3.ln
    obtain ⟨Ξ4, ν4, e4, s4, p4⟩ := (q_wayFrom1 p3 (by omega) hw tw t0 (Or.inr rfl)).go i3.1.z
    have i4 := i3.go s4 p4
    rw [if_neg (by decide)] at e3
    rw [if_pos rfl] at e4
    rw [List.append_assoc] at hsh
    have eL : aL (mX Ξ4 ν4) p = some (Int32.ofNat (2 * L)) := aL_m (s4.sh (s3.sh (s2.sh hsh)))
    refine ⟨Ξ4, ν4, Int32.ofNat (2 * L), i4, fun kH k1 k2 k3 k4 k5 k6 x2 x4 x5 x6 x7 => ?_⟩
    simp only [f_L_isBook_J103, ↓hvc (fun _ => hs.vc), ↓hbind e1, ↓hbind e2, ↓hbind hs2.r6, ↓hbind (hs2.aq w12), gq2, if_true, ↓hbind e3, nl, f_L_isBook_J148, ↓hbind e4, ↓hbind eL]
end F1
