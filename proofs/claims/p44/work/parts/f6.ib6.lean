/-! THE LAW: isBook, the way, all pairings, the rest -/
theorem AT.kc {F : Nat → Nat} {C L K : Nat} (h : AT F 396 C L K) : K ≤ C := by
  obtain ⟨h1, -, h3⟩ := h
  rcases h3 with ⟨-, -, rfl⟩ | ⟨e, -, l, -⟩
  · exact Nat.zero_le _
  · rw [h1, ← e]
    exact sgm_ge (f := F) (by omega)
theorem lmin_k {k : Nat} (hk : k ≤ 625) : ((lmin 1000000000 (Int64.ofNat k)).toInt32).toInt64 = Int64.ofNat k := by
  have e : lmin 1000000000 (Int64.ofNat k) = Int64.ofNat k := by
    unfold lmin
    rw [if_pos]
    show Int64.ofNat k < Int64.ofNat 1000000000
    rw [j64_lt (by omega) (by omega)]
    omega
  rw [e]
  have key : ∀ k, k < 626 → ((Int64.ofNat k).toInt32).toInt64 = Int64.ofNat k := by decide +kernel
  exact key k (by omega)
section F6
variable {Ξ0 Ξ Ξ' : xH} {μ0 ν ν' : MM} {a : LA} {B : Bk} {H : List Bk} {y q : Nat} {m K : Nat → Int32} {n k : Nat}
theorem l_all' (hm : bm B ≤ 4) (hn4 : bn B ≤ 4) (hf : ∀ w t, gE B w t = true → w < bn B ∧ t < bm B) {N : Nat} (hN : N ≤ 12) {sh : xH} {μ : MM} (hs : lbS sh a) (hv : lbV μ a B) (hZ : Z μ sh.length) (hl : sh.length + 1000 < 1000000) :
    ∃ E ν y C L K, f_X10_all 40 (lab a) 0 0 (Int32.ofNat N) (mS sh μ) = some (some y, mS (sh ++ E) ν) ∧ Gw 625 E ∧ Fr (UP sh.length) μ ν ∧ Z ν (sh ++ E).length ∧ sh.length ≤ y ∧ (sh ++ E)[y]? = some (101, dJ 3) ∧ (ν.2 y 0 = Int64.ofNat C ∧ ν.2 y 1 = Int64.ofNat L ∧ ν.2 y 2 = Int64.ofNat K) ∧ AT (fun v => MB (gE B) (bc B) 12 N 12 0 v) 396 C L K ∧ C ≤ 625 := by
  have p4 : 5 ^ bn B ≤ 5 ^ 4 := Nat.pow_le_pow_right (by decide) hn4
  have p625 : (5 : Nat) ^ 4 = 625 := by decide
  have c0 : cnt (fun k => Nat.testBit 0 k) 12 = 0 := cnt_zero fun k _ => Nat.zero_testBit k
  obtain ⟨r, e, E, ν, y, C, L, K, rfl, h2, h3, h4, h5, h6, h7, h8, h9⟩ := l_all_rec (N := N) (by omega) hm hf (by omega) (bn B) 0 0 N 40 sh μ a hs hv hZ (by omega) (by omega) (by omega) (by omega) (by omega)
  exact ⟨E, ν, y, C, L, K, e, h2.mono (by omega), h3, h4, h5, h6, h7, h8.le (by omega), by omega⟩
/-- the way is asked, step by step -/
theorem ib_l (hl : (shI ++ Ξ0).length + 10000 < 1000000) {L : Nat} {pw pt : Nat → Nat} (tw : Tw (gE B) (bM B) L pw pt) (tn : ∀ v, v < pw 0 → bM B v = 12 → Nr (gE B) (bM B) v) {p : Nat} (hp : (shI ++ Ξ0).length ≤ p) : ∀ (d i n : Nat) (Ξ : xH) (ν : MM), i + d = 2 * L → n + d ≤ 9000 → IW Ξ0 μ0 a B H y q m K n Ξ ν → (shI ++ Ξ)[p]? = some (100, dI (2 * L)) → (∀ i, i < L → ν.1 p (2 * i) = Int32.ofNat (pw i) ∧ ν.1 p (2 * i + 1) = Int32.ofNat (pt i)) → ∃ Ξ' ν', IW Ξ0 μ0 a B H y q m K (n + d) Ξ' ν' ∧
    ∀ f k1 k2 x2 x4 x5 x6 x7, f_L_isBook_L768 k1 k2 (d + 1 + f) 0 (lab a) x2 y x4 x5 x6 x7 q (some p) (Int32.ofNat (2 * L)) (Int32.ofNat i) (mX Ξ ν) = k2 0 (lab a) x2 y x4 x5 x6 x7 q (mX Ξ' ν')
  | 0, i, n, Ξ, ν, hi, hn, h, hsh, hrow => by
    have hL := tw.len h.b.Eb
    have i0 : i = 2 * L := by omega
    subst i0
    have c0 : (Int32.ofNat (2 * L) ≥ Int32.ofNat (2 * L)) := by rw [oN_ge (by omega) (by omega)]; omega
    refine ⟨Ξ, ν, h, fun f k1 k2 x2 x4 x5 x6 x7 => ?_⟩
    rw [show 0 + 1 + f = f + 1 by omega]
    simp only [f_L_isBook_L768, if_pos c0]
  | d + 1, i, n, Ξ, ν, hi, hn, h, hsh, hrow => by
    have hL := tw.len h.b.Eb
    have ln := h.ln
    have l0 : 168 ≤ (shI ++ Ξ0).length := by rw [xl]; omega
    have lp := (List.getElem?_eq_some_iff.mp hsh).1
    have c0 : ¬ (Int32.ofNat i ≥ Int32.ofNat (2 * L)) := by rw [oN_ge (by omega) (by omega)]; omega
    obtain ⟨Ξ1, ν1, e1, s1, p1⟩ := (q_wayAt_k h.2.1 (by omega) tw tn (show i < 2 * L by omega)).go h.1.z
    have i1 := h.go s1 p1
    have hsh1 := s1.sh hsh
    have hrow1 : ∀ i, i < L → ν1.1 p (2 * i) = Int32.ofNat (pw i) ∧ ν1.1 p (2 * i + 1) = Int32.ofNat (pt i) := fun j hj => by
      rw [(s1.vl (by omega) lp _).1, (s1.vl (by omega) lp _).1]; exact hrow j hj
    have e2 : aI (mX Ξ1 ν1) p (Int32.ofNat i) = some (Int32.ofNat (wPl pw pt i)) := by
      rw [aI_k (isA_of hsh1) (show i < 2 * L by omega) (by omega), wPl_at hrow1 (by omega)]
    obtain ⟨Ξ2, ν2, i2, e3⟩ := ib_l hl tw tn hp d (i + 1) (n + 1) Ξ1 ν1 (by omega) (by omega) i1 hsh1 hrow1
    refine ⟨Ξ2, ν2, i2.mn (by omega), fun f k1 k2 x2 x4 x5 x6 x7 => ?_⟩
    rw [show d + 1 + 1 + f = (d + 1 + f) + 1 by omega, ← e3 f k1 k2 x2 x4 x5 x6 x7]
    simp only [f_L_isBook_L768, if_neg c0, ↓hbind e1, nl, ↓hbind e2, if_true, lt, i_succ]
theorem ib_m (h : IW Ξ0 μ0 a B H y q m K n Ξ ν) (hn : n ≤ 8500) (hl : (shI ++ Ξ0).length + 10000 < 1000000) : ∃ Ξ' ν', IW Ξ0 μ0 a B H y q m K (n + 170) Ξ' ν' ∧
    ∀ x2 x4 x5 x6 x7, f_L_isBook_J723 0 (lab a) x2 y x4 x5 x6 x7 q (mX Ξ ν) = f_L_isBook_J797 0 (lab a) x2 y x4 x5 x6 x7 q (mX Ξ' ν') := by
  have hB := h.b
  have ln := h.ln
  have hs := h.2.2.1
  obtain ⟨⟨o, hh⟩, e1, E, ν1, r1, g1, f1, z1, r2⟩ := l_theWay hs h.2.2.2.1 hB.M hB.h12 hB.hf h.1.z (by omega)
  have r1 : hh = mS ((shI ++ Ξ) ++ E) ν1 := r1
  subst r1
  rw [xXe] at e1
  have s1 := Gst.mk' g1 f1 z1
  have i1 := h.go s1 (h.2.1.up f1)
  have ln1 := i1.ln
  rcases r2 with ⟨ro, fin⟩ | ⟨p, L, pw, pt, ro, tw, tn, hp, hsh, hrow⟩
  · have ro : o = none := ro
    subst ro
    obtain ⟨ν2, e2, f2, p2⟩ := q_way0 (Ξ := Ξ ++ E) i1.2.1 fin
    have i2 := i1.go (Gst.cl f2 i1.1.z) p2
    obtain ⟨Ξ3, ν3, e3, s3, p3⟩ := (q_wayAt_p p2 (by omega) (x := 0) (Or.inl fin)).go i2.1.z
    have i3 := i2.go s3 p3
    refine ⟨Ξ3, ν3, i3.mn (by omega), fun x2 x4 x5 x6 x7 => ?_⟩
    have c0 : ((0 : Int32) ≥ 0) := by decide
    have t1 : f_L_isBook_J741 0 (lab a) x2 y x4 x5 x6 x7 q none 0 (mX (Ξ ++ E) ν1) = f_L_isBook_L768 f_L_isBook_J789 f_L_isBook_J797 5000 0 (lab a) x2 y x4 x5 x6 x7 q none 0 0 (mX Ξ3 ν3) := by
      simp only [f_L_isBook_J741, ↓hvc (fun _ => vc_0), ↓hbind e2, if_true, ↓hbind e3]
    have t3 : ∀ f, f_L_isBook_L768 f_L_isBook_J789 f_L_isBook_J797 (f + 1) 0 (lab a) x2 y x4 x5 x6 x7 q none 0 0 (mX Ξ3 ν3) = f_L_isBook_J797 0 (lab a) x2 y x4 x5 x6 x7 q (mX Ξ3 ν3) := fun f => by
      simp only [f_L_isBook_L768, if_pos c0]
    have t2 : f_L_isBook_L768 f_L_isBook_J789 f_L_isBook_J797 5000 0 (lab a) x2 y x4 x5 x6 x7 q none 0 0 (mX Ξ3 ν3) = f_L_isBook_J797 0 (lab a) x2 y x4 x5 x6 x7 q (mX Ξ3 ν3) := t3 4999
    rw [← t2, ← t1]
    simp only [f_L_isBook_J723, ↓hvc (fun _ => hs.vc), ↓hbind e1, nl]
  · have ro : o = some p := ro
    subst ro
    have hL := tw.len hB.Eb
    rw [List.append_assoc] at hsh
    have lp := (List.getElem?_eq_some_iff.mp hsh).1
    have l0 : 168 ≤ (shI ++ Ξ).length := by rw [xl]; omega
    obtain ⟨ν2, e2, f2, p2⟩ := q_way1 (Ξ := Ξ ++ E) i1.2.1 tw tn
    have s2 := Gst.cl f2 i1.1.z
    have i2 := i1.go s2 p2
    obtain ⟨Ξ3, ν3, e3, s3, p3⟩ := (q_wayAt_p p2 (by omega) (x := Int32.ofNat (2 * L)) (Or.inr ⟨L, pw, pt, tw, tn, fun ⟨k, hk, e⟩ => by rw [oN_inj (by omega) (by omega)] at e; omega⟩)).go i2.1.z
    have i3 := i2.go s3 p3
    have s23 := s2.tr s3
    have l3 := h.1.ln.1
    obtain ⟨Ξ4, ν4, i4, e4⟩ := ib_l hl tw tn (p := p) (by omega) (2 * L) 0 _ Ξ3 ν3 (by omega) (by omega) i3 (s23.sh hsh) (fun i hi => by
      rw [(s23.vl (by omega) lp _).1, (s23.vl (by omega) lp _).1]; exact hrow i hi)
    refine ⟨Ξ4, ν4, i4.mn (by omega), fun x2 x4 x5 x6 x7 => ?_⟩
    have eL : aL (mX (Ξ ++ E) ν1) p = some (Int32.ofNat (2 * L)) := aL_m hsh
    have e4 := e4 (4999 - 2 * L) f_L_isBook_J789 f_L_isBook_J797 x2 x4 x5 x6 x7
    rw [show 2 * L + 1 + (4999 - 2 * L) = 5000 by omega] at e4
    have e4 : f_L_isBook_L768 f_L_isBook_J789 f_L_isBook_J797 5000 0 (lab a) x2 y x4 x5 x6 x7 q (some p) (Int32.ofNat (2 * L)) 0 (mX Ξ3 ν3) = _ := e4
    rw [← e4]
    simp only [f_L_isBook_J723, ↓hvc (fun _ => hs.vc), ↓hbind e1, nl, ↓hbind eL, f_L_isBook_J741, ↓hvc (fun _ => vc_0), ↓hbind e2, if_true, ↓hbind e3]
end F6
