/-! THE LAW: isChosen, all rounds; its end -/
section G3
variable {Ξ0 Ξ Ξ' : xH} {μ0 ν ν' : MM} {a : LA} {B : Bk} {H : List Bk} {n k p q w t M : Nat} {x10 : Int32}
theorem ic_f (hl : (shI ++ Ξ0).length + 10000 < 1000000) (hw : w < bn B) : ∀ (d t n M : Nat) (x : Int32) (Ξ : xH) (ν : MM), t + d = bm B → n + d ≤ 9000 → CTb Ξ0 μ0 B H a p q w t n Ξ ν → CMx B w t M → Hd B w t x → ∃ Ξ' ν' M', CTb Ξ0 μ0 B H a p q w (bm B) (n + d) Ξ' ν' ∧ CMx B w (bm B) M' ∧
    ∀ f k1 k2 k3 k4, f_L_isChosen_L226 k1 k2 k3 k4 (d + 1 + f) 0 (lab a) (Int32.ofNat M) p q (Int32.ofNat w) (Int32.ofNat (cnt (fun u => decide (rdC B w u < 12)) t)) x (Int32.ofNat t) (mX Ξ ν) = k4 0 (lab a) (Int32.ofNat M') p q (Int32.ofNat w) (Int32.ofNat (cnt (fun u => decide (rdC B w u < 12)) (bm B))) (mX Ξ' ν')
  | 0, t, n, M, x, Ξ, ν, ht, hn, h, hM, hd => by
    have hB := h.2.1.ok
    have hm := hB.m
    have t0 : t = bm B := by omega
    subst t0
    have hs := h.2.2.1.1
    have g1 : ν.1 (lab a) 1 = Int32.ofNat (bm B) := h.2.2.1.2.1.1.2.1
    have c0 : (Int32.ofNat (bm B) ≥ Int32.ofNat (bm B)) := by rw [oN_ge (by omega) (by omega)]; omega
    refine ⟨Ξ, ν, M, h, hM, fun f k1 k2 k3 k4 => ?_⟩
    rw [show 0 + 1 + f = f + 1 by omega]
    simp only [f_L_isChosen_L226, ↓hbind (hs.g (show 1 < 5 by decide)), g1, if_pos c0]
  | d + 1, t, n, M, x, Ξ, ν, ht, hn, h, hM, hd => by
    obtain ⟨Ξ1, ν1, M1, x1, h1, hM1, hd1, e1⟩ := ic_e h (by omega) hl hw (show t < bm B by omega) hM hd
    obtain ⟨Ξ2, ν2, M2, h2, hM2, e2⟩ := ic_f hl hw d (t + 1) (n + 1) M1 x1 Ξ1 ν1 (by omega) (by omega) h1 hM1 hd1
    refine ⟨Ξ2, ν2, M2, h2.mn (by omega), hM2, fun f k1 k2 k3 k4 => ?_⟩
    rw [show d + 1 + 1 + f = (d + 1 + f) + 1 by omega, e1, e2]
theorem CTb.row (h : CTb Ξ0 μ0 B H a p q w (bm B) n Ξ ν) : CTb Ξ0 μ0 B H a p q (w + 1) 0 n Ξ ν := by
  obtain ⟨h1, h2, h3, ⟨h5, h6, h7⟩, ⟨g5, g6, g7⟩, h9⟩ := h
  refine ⟨h1, h2, h3, ⟨h5, h6, fun u hu => ?_⟩, ⟨g5, g6, fun u hu c => ?_⟩, h9⟩
  · rw [h7 u hu, if_pos hu, if_neg (by omega)]
  · rw [g7 u hu c]
    constructor
    · rintro ⟨c12, v, hv, e⟩; exact ⟨c12, v, by omega, e⟩
    · rintro ⟨c12, v, hv, e⟩; exact ⟨c12, v, by omega, e⟩
theorem CMx.row (hB : BOK B) (h : CMx B w (bm B) M) : CMx B (w + 1) 0 (max M (cnt (fun u => decide (rdC B w u < 12)) (bm B))) := by
  obtain ⟨h1, h2, h3⟩ := h
  have ra := rd_all hB
  have le := rd_le (M := fun u => rdC B w u) (V := rdV B) (n := bm B) (ra.1.1 w) (fun u q => ra.2.2.1 w u q)
  refine ⟨by omega, fun v hv => ?_, fun u hu => ?_⟩
  · by_cases z : v = w
    · rw [z]; omega
    · have := h2 v (by omega); omega
  · have := h3 u hu
    rw [if_pos hu] at this
    rw [if_neg (by omega)]; omega
theorem ic_g (hl : (shI ++ Ξ0).length + 10000 < 1000000) (m4 : bm B ≤ 4) : ∀ (d w n M : Nat) (Ξ : xH) (ν : MM), w + d = bn B → n + 5 * d ≤ 9000 → CTb Ξ0 μ0 B H a p q w 0 n Ξ ν → CMx B w 0 M → ∃ Ξ' ν' M', CTb Ξ0 μ0 B H a p q (bn B) 0 (n + 5 * d) Ξ' ν' ∧ CMx B (bn B) 0 M' ∧
    ∀ f k1 k2 k3 k4, f_L_isChosen_L208 k1 k2 k3 k4 (d + 1 + f) 0 (lab a) (Int32.ofNat M) p q (Int32.ofNat w) (mX Ξ ν) = k4 0 (Int32.ofNat M') (mX Ξ' ν')
  | 0, w, n, M, Ξ, ν, hw, hn, h, hM => by
    have hB := h.2.1.ok
    have hn12 := hB.n
    have w0 : w = bn B := by omega
    subst w0
    have hs := h.2.2.1.1
    have g0 : ν.1 (lab a) 0 = Int32.ofNat (bn B) := h.2.2.1.2.1.1.1
    have c0 : (Int32.ofNat (bn B) ≥ Int32.ofNat (bn B)) := by rw [oN_ge (by omega) (by omega)]; omega
    refine ⟨Ξ, ν, M, h, hM, fun f k1 k2 k3 k4 => ?_⟩
    rw [show 0 + 1 + f = f + 1 by omega]
    simp only [f_L_isChosen_L208, ↓hbind (hs.g (show 0 < 5 by decide)), g0, if_pos c0]
  | d + 1, w, n, M, Ξ, ν, hw, hn, h, hM => by
    have hB := h.2.1.ok
    have hn12 := hB.n
    have ra := rd_all hB
    have hs := h.2.2.1.1
    have g0 : ν.1 (lab a) 0 = Int32.ofNat (bn B) := h.2.2.1.2.1.1.1
    have c0 : ¬ (Int32.ofNat w ≥ Int32.ofNat (bn B)) := by rw [oN_ge (by omega) (by omega)]; omega
    have hd0 : Hd B w 0 0 := fun c => by
      rw [hb_zero]
      constructor
      · intro z; cases z
      · rintro ⟨-, u, hu, -⟩; omega
    obtain ⟨Ξ1, ν1, M1, h1, hM1, e1⟩ := ic_f hl (show w < bn B by omega) (bm B) 0 n M 0 Ξ ν (by omega) (by omega) h hM hd0
    have hM2 := hM1.row hB
    obtain ⟨Ξ2, ν2, M2, h2, hM3, e2⟩ := ic_g hl m4 d (w + 1) (n + bm B) _ Ξ1 ν1 (by omega) (by omega) h1.row hM2
    refine ⟨Ξ2, ν2, M2, h2.mn (by omega), hM3, fun f k1 k2 k3 k4 => ?_⟩
    have hMle := hM1.1
    have v12 := ra.2.1
    have cm := cnt_le (fun u => decide (rdC B w u < 12)) (bm B)
    have hm := hB.m
    have e1 := e1 (4999 - bm B) k1 k2 k3 (f_L_isChosen_J365 (f_L_isChosen_L208 k1 k2 k3 k4 (d + 1 + f)) k1 k2 k3 k4)
    rw [show bm B + 1 + (4999 - bm B) = 5000 by omega] at e1
    have e1 : f_L_isChosen_L226 k1 k2 k3 (f_L_isChosen_J365 (f_L_isChosen_L208 k1 k2 k3 k4 (d + 1 + f)) k1 k2 k3 k4) 5000 0 (lab a) (Int32.ofNat M) p q (Int32.ofNat w) 0 0 0 (mX Ξ ν) = _ := e1
    rw [show d + 1 + 1 + f = (d + 1 + f) + 1 by omega, ← e2 f k1 k2 k3 k4]
    simp only [f_L_isChosen_L208, ↓hbind (hs.g (show 0 < 5 by decide)), g0, if_neg c0, e1, f_L_isChosen_J365, lt, imax_oN (show M1 < 2147483648 by omega) (show cnt (fun u => decide (rdC B w u < 12)) (bm B) < 2147483648 by omega), i_succ]
/-- the most is the number of rounds -/
theorem CMx.fin (hB : BOK B) (h : CMx B (bn B) 0 M) : M = rdV B := by
  obtain ⟨h1, h2, h3⟩ := h
  have ra := rd_all hB
  have hn := hB.n
  have hm := hB.m
  refine Nat.le_antisymm h1 (ra.2.2.2.2 M (fun w => ?_) (fun t => ?_))
  · by_cases z : w < bn B
    · have e : dgW (gE B) w = cnt (fun u => decide (rdC B w u < 12)) (bm B) := by
        have e1 : dgW (gE B) w = cnt (fun u => decide (rdC B w u < 12)) 12 := cnt_congr fun u _ => by
          rw [Bool.eq_iff_iff, decide_eq_true_eq]; exact (ra.2.2.2.1 w u).symm
        have e2 := cnt_stop (p := fun u => decide (rdC B w u < 12)) (n := bm B) (fun u hu => by
          rw [decide_eq_false]
          intro q
          have := (hB.hf w u ((ra.2.2.2.1 w u).mp q)).2; omega) (12 - bm B)
        rw [show bm B + (12 - bm B) = 12 by omega] at e2
        rw [e1, e2]
      rw [e]; exact h2 w z
    · have e : dgW (gE B) w = 0 := cnt_zero fun u _ => by
        cases q : gE B w u with
        | false => rfl
        | true => have := (hB.hf w u q).1; omega
      omega
  · by_cases z : t < bm B
    · have e : dgT (gE B) t = cnt (fun v => decide (rdC B v t < 12)) (bn B) := by
        have e1 : dgT (gE B) t = cnt (fun v => decide (rdC B v t < 12)) 12 := cnt_congr fun v _ => by
          rw [Bool.eq_iff_iff, decide_eq_true_eq]; exact (ra.2.2.2.1 v t).symm
        have e2 := cnt_stop (p := fun v => decide (rdC B v t < 12)) (n := bn B) (fun v hv => by
          rw [decide_eq_false]
          intro q
          have := (hB.hf v t ((ra.2.2.2.1 v t).mp q)).1; omega) (12 - bn B)
        rw [show bn B + (12 - bn B) = 12 by omega] at e2
        rw [e1, e2]
      have := h3 t z
      rw [if_neg (by omega)] at this
      omega
    · have e : dgT (gE B) t = 0 := cnt_zero fun v _ => by
        cases q : gE B v t with
        | false => rfl
        | true => have := (hB.hf v t q).2; omega
      omega
/-- isChosen is true -/
theorem l_isChosen (hs : lbS (shI ++ Ξ0) a) (hv : lbV μ0 a B) (hR : RS μ0 B H) (hZ : Z μ0 (shI ++ Ξ0).length) (hl : (shI ++ Ξ0).length + 10000 < 1000000) (n4 : bn B ≤ 4) (m4 : bm B ≤ 4) : ∃ Ξ' ν', f_L_isChosen 0 (lab a) (mX Ξ0 μ0) = some (1, mX Ξ' ν') ∧ Gst 1000 Ξ0 μ0 Ξ' ν' ∧ RS ν' B H := by
  have hB := hR.ok
  have l0 : 168 ≤ (shI ++ Ξ0).length := by rw [xl]; omega
  have hn := hB.n
  have hm := hB.m
  obtain ⟨x, E, ν1, C, e1, g1, f1, z1, hx, hmb, hch⟩ := l_chosen hs hv hB.hf (fun k c => hB.w c) hZ (by omega)
  rw [xXe] at e1
  have s1 : Gst 360 Ξ0 μ0 (Ξ0 ++ E) ν1 := Gst.mk' g1 f1 z1
  have p1 := hR.up f1
  obtain ⟨b1, b2⟩ := s1.bk hs hv
  have h12 : m12 x := fun k hk => by
    rw [hx]
    cases c : C k with
    | false => rfl
    | true => have := hB.w (hch.1 k c).1; omega
  obtain ⟨X, X4, rfl⟩ := m12_nat h12
  have X2 : X < 2 ^ bn B := Nat.lt_pow_two_of_testBit X fun i hi => by
    rw [← hb_nat X i (by omega), hx]
    cases c : C i with
    | false => rfl
    | true => have := hB.w (hch.1 i c).1; omega
  have p4 : 2 ^ bn B ≤ 2 ^ 4 := Nat.pow_le_pow_right (by decide) n4
  have p16 : (2 : Nat) ^ 4 = 16 := by decide
  have p0 : 0 < 2 ^ bn B := Nat.two_pow_pos _
  have ea := ic_a b1 b2 hx (bn B) 0 (by omega) (4999 - bn B) f_L_isChosen_J48 0
  rw [show bn B + 1 + (4999 - bn B) = 5000 by omega] at ea
  have ea : f_L_isChosen_L13 f_L_isChosen_J48 5000 0 (lab a) (Int32.ofNat X) 0 0 0 (mX (Ξ0 ++ E) ν1) = _ := ea
  obtain ⟨Ξ2, ν2, b, s2, p2, b3, b4, q2, e2⟩ := ic_d (H := H) (μ0 := μ0) hl n4 hch hmb hx (2 ^ bn B) 0 0 360 (Ξ0 ++ E) ν1 (by omega) (by omega) s1 p1 b1 b2 ⟨Nat.zero_le _, fun z => absurd z (Nat.not_lt_zero _)⟩
  have e2 := e2 (4999 - 2 ^ bn B) f_L_isChosen_J160 (Int32.ofNat X) (Int32.ofNat (wsum B C (bn B)))
  rw [show 2 ^ bn B + 1 + (4999 - 2 ^ bn B) = 5000 by omega] at e2
  have e2 : f_L_isChosen_J48 0 (lab a) (Int32.ofNat X) (Int32.ofNat (wsum B C (bn B))) 0 (mX (Ξ0 ++ E) ν1) = _ := e2
  have wn := wsum_n hB (C := C) (fun k c => (hch.1 k c).1)
  have be : b = wsum B C (bn B) := by
    rw [← wn]
    exact Nat.le_antisymm q2.1 (q2.2 X2)
  have ln2 := s2.ln.2
  obtain ⟨Ξ3, ν3, e3, s3, p3⟩ := (q_chosen p2 (by omega) hch (x := 0) (y := Int32.ofNat X) (Or.inl rfl) hx).go s2.z
  have e3 : f_L_chosen 0 0 (mX Ξ2 ν2) = some (Int32.ofNat X, mX Ξ3 ν3) := e3
  have s3' := s2.tr s3
  have ln3 := s3'.ln.2
  obtain ⟨Ξ4, ν4, e4, s4, p4'⟩ := (q_chosen p3 (by omega) hch (x := 1) (y := Int32.ofNat X) (Or.inr rfl) hx).go s3'.z
  rw [if_neg (by decide), wn] at e4
  have s4' := s3'.tr s4
  have ln4 := s4'.ln
  obtain ⟨c3, c4⟩ := s4'.bk hs hv
  have hm4 : ν4.1 (lab a) 1 = Int32.ofNat (bm B) := c4.1.2.1
  -- two tables
  obtain ⟨p, hp⟩ : ∃ p, p = (shI ++ Ξ4).length := ⟨_, rfl⟩
  have n5 := nwI_s (sh := shI ++ Ξ4) (μ := ν4) (n := Int32.ofNat (bm B)) (k := bm B) s4'.z rfl (by omega) (by omega)
  rw [← hp, xXe] at n5
  have s5 : Gst 1 Ξ4 ν4 (Ξ4 ++ [(100, dI (bm B))]) ν4 := Gst.mk' (Gw.one (by simp [dI]; omega)) (Fr.refl _ _) (s4'.z.mono (by simp only [List.length_append]; omega))
  have s5' := s4'.tr s5
  have ln5 := s5'.ln
  obtain ⟨d3, d4⟩ := s5'.bk hs hv
  obtain ⟨q, hq⟩ : ∃ q, q = (shI ++ (Ξ4 ++ [(100, dI (bm B))])).length := ⟨_, rfl⟩
  have n6 := nwI_s (sh := shI ++ (Ξ4 ++ [(100, dI (bm B))])) (μ := ν4) (n := Int32.ofNat (bm B)) (k := bm B) s5'.z rfl (by omega) (by omega)
  rw [← hq, xXe] at n6
  have s6 : Gst 1 (Ξ4 ++ [(100, dI (bm B))]) ν4 ((Ξ4 ++ [(100, dI (bm B))]) ++ [(100, dI (bm B))]) ν4 := Gst.mk' (Gw.one (by simp [dI]; omega)) (Fr.refl _ _) (s5'.z.mono (by simp only [List.length_append]; omega))
  have s6' := s5'.tr s6
  obtain ⟨f3, f4⟩ := s6'.bk hs hv
  have ha := hs.2.1
  have hpq : p + 1 = q := by rw [hp, hq]; simp only [List.length_append, List.length_singleton]; omega
  have sp : (shI ++ ((Ξ4 ++ [(100, dI (bm B))]) ++ [(100, dI (bm B))]))[p]? = some (100, dI (bm B)) := s6.sh (by rw [hp, ← List.append_assoc, List.getElem?_append_right (Nat.le_refl _), Nat.sub_self]; rfl)
  have sq : (shI ++ ((Ξ4 ++ [(100, dI (bm B))]) ++ [(100, dI (bm B))]))[q]? = some (100, dI (bm B)) := by rw [hq, ← List.append_assoc, List.getElem?_append_right (Nat.le_refl _), Nat.sub_self]; rfl
  have zp : ∀ u, ν4.1 p u = 0 := fun u => (s4'.z p (by omega) u).1
  have zq : ∀ u, ν4.1 q u = 0 := fun u => (s4'.z q (by omega) u).1
  have i0 : CTb Ξ0 μ0 B H a p q 0 0 _ ((Ξ4 ++ [(100, dI (bm B))]) ++ [(100, dI (bm B))]) ν4 := ⟨s6', p4', ⟨f3, f4, ha.2⟩, ⟨by omega, sp, fun u hu => by rw [zp, if_neg (by omega)]; rfl⟩, ⟨by omega, sq, fun u hu c => by
    rw [zq, hb_zero]
    constructor
    · intro z; cases z
    · rintro ⟨-, v, hv', -⟩; omega⟩, by omega⟩
  have m0 : CMx B 0 0 0 := ⟨Nat.zero_le _, fun v hv' => absurd hv' (Nat.not_lt_zero _), fun u hu => by rw [if_neg (by omega)]; exact Nat.le_refl 0⟩
  obtain ⟨Ξ7, ν7, M, i7, m7, e7⟩ := ic_g hl m4 (bn B) 0 _ 0 _ ν4 (by omega) (by omega) i0 m0
  have mv := m7.fin hB
  have e7 := e7 (4999 - bn B) f_L_isChosen_J266 f_L_isChosen_J301 f_L_isChosen_J357 f_L_isChosen_J380
  rw [show bn B + 1 + (4999 - bn B) = 5000 by omega] at e7
  have e7 : f_L_isChosen_L208 f_L_isChosen_J266 f_L_isChosen_J301 f_L_isChosen_J357 f_L_isChosen_J380 5000 0 (lab a) 0 p q 0 (mX ((Ξ4 ++ [(100, dI (bm B))]) ++ [(100, dI (bm B))]) ν4) = _ := e7
  obtain ⟨ν8, e8, f8, p8⟩ := q_rounds (Ξ := Ξ7) i7.2.1
  have e8 : f_X9_rounds 0 (mX Ξ7 ν7) = some (Int32.ofNat (rdV B), mX Ξ7 ν8) := e8
  refine ⟨Ξ7, ν8, ?_, (i7.1.tr (Gst.cl f8 i7.1.z)).mn (by omega), p8⟩
  have t1 : f_L_isChosen 0 (lab a) (mX Ξ0 μ0) = f_L_isChosen_J394 1 (mX Ξ7 ν8) := by
    simp only [f_L_isChosen, ↓hvc (fun _ => hs.vc), ↓hbind e1, ea, e2, f_L_isChosen_J160, ↓hbind e3, if_true, ↓hbind e4, be, ↓hbind (c3.g (show 1 < 5 by decide)), hm4, ↓hbind n5, ↓hbind (d3.g (show 1 < 5 by decide)), ↓hbind n6, e7, f_L_isChosen_J380, ↓hvc (fun _ => vc_0), ↓hbind e8, mv]
  exact t1.trans (if_pos (Or.inr rfl))
end G3
