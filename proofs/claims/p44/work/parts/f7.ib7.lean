/-! THE LAW: isBook, all that is told of the whole; its end -/
section F7
variable {Ξ0 Ξ Ξ' : xH} {μ0 ν ν' : MM} {a : LA} {B : Bk} {H : List Bk} {y q : Nat} {m K : Nat → Int32} {n k : Nat}
theorem IW.m0 (h : IW Ξ0 μ0 a B H y q m K n Ξ ν) : aI (mX Ξ ν) y 0 = some (m 0) := h.gm (show 0 < 4 by decide)
theorem IW.m1 (h : IW Ξ0 μ0 a B H y q m K n Ξ ν) : aI (mX Ξ ν) y 1 = some (m 1) := h.gm (show 1 < 4 by decide)
theorem IW.k1 (h : IW Ξ0 μ0 a B H y q m K n Ξ ν) : aI (mX Ξ ν) q 1 = some (K 1) := h.gk (show 1 < 4 by decide)
theorem IW.k2 (h : IW Ξ0 μ0 a B H y q m K n Ξ ν) : aI (mX Ξ ν) q 2 = some (K 2) := h.gk (show 2 < 4 by decide)
theorem IW.k3 (h : IW Ξ0 μ0 a B H y q m K n Ξ ν) : aI (mX Ξ ν) q 3 = some (K 3) := h.gk (show 3 < 4 by decide)
/-- the three longs of all -/
def Al3 (x : Nat) (C L D : Nat) (Ξ : xH) (ν : MM) : Prop := 168 ≤ x ∧ (shI ++ Ξ)[x]? = some (101, dJ 3) ∧ ν.2 x 0 = Int64.ofNat C ∧ ν.2 x 1 = Int64.ofNat L ∧ ν.2 x 2 = Int64.ofNat D
theorem Al3.go {x C L D : Nat} (h : Al3 x C L D Ξ ν) (s : Gst k Ξ ν Ξ' ν') : Al3 x C L D Ξ' ν' := by
  obtain ⟨h0, h1, h2, h3, h4⟩ := h
  have lx := (List.getElem?_eq_some_iff.mp h1).1
  exact ⟨h0, s.sh h1, (s.vl h0 lx _).2.trans h2, (s.vl h0 lx _).2.trans h3, (s.vl h0 lx _).2.trans h4⟩
theorem Al3.g0 {x C L D : Nat} (h : Al3 x C L D Ξ ν) : aJ (mX Ξ ν) x 0 = some (Int64.ofNat C) := by
  have := aJ_k (μ := ν) (isJ_of h.2.1) (show 0 < 3 by decide) (by decide)
  rw [h.2.2.1] at this
  exact this
theorem Al3.g1 {x C L D : Nat} (h : Al3 x C L D Ξ ν) : aJ (mX Ξ ν) x 1 = some (Int64.ofNat L) := by
  have := aJ_k (μ := ν) (isJ_of h.2.1) (show 1 < 3 by decide) (by decide)
  rw [h.2.2.2.1] at this
  exact this
theorem Al3.g2 {x C L D : Nat} (h : Al3 x C L D Ξ ν) : aJ (mX Ξ ν) x 2 = some (Int64.ofNat D) := by
  have := aJ_k (μ := ν) (isJ_of h.2.1) (show 2 < 3 by decide) (by decide)
  rw [h.2.2.2.2] at this
  exact this
theorem ib_p (h : IW Ξ0 μ0 a B H y q m K n Ξ ν) (hn : n ≤ 9500) (hl : (shI ++ Ξ0).length + 10000 < 1000000) (hr : Rch B m) {N : Nat} (nu : Nu (gE B) N) (kq : KQ B (bn B) K) {x C D : Nat} (ha : Al3 x C (lsB (gE B) (bc B) N 12 0) D Ξ ν) (hC : C = (FN (gE B) (bc B) N (2 ^ bm B)).length) (hD : D = lsW (gE B) (bc B) N 12 0) (hD6 : D ≤ 625) (hL6 : lsB (gE B) (bc B) N 12 0 < 1000000) (v : Int32) : ∃ Ξ' ν', IW Ξ0 μ0 a B H y q m K (n + 40) Ξ' ν' ∧
    f_L_isBook_J878 0 (lab a) (Int32.ofNat N) y (frF B (bn B)) (ftF B (bm B)) (pcs B (bn B)) q x (Int32.ofNat (cnt (hb (bw B)) 12)) v v (mX Ξ ν) = some (1, mX Ξ' ν') := by
  have hB := h.b
  have kk : ∀ i, i < 4 → K i = fmQ B (Int32.ofNat i) (bn B) 0 0 := fun i hi => by
    have := kq i hi
    rw [Nat.sub_self] at this
    exact this
  have kk1 : fmQ B 1 (bn B) 0 0 = K 1 := (kk 1 (by decide)).symm
  have kk2 : fmQ B 2 (bn B) 0 0 = K 2 := (kk 2 (by decide)).symm
  have kk3 : fmQ B 3 (bn B) 0 0 = K 3 := (kk 3 (by decide)).symm
  obtain ⟨j, M', g, r1, r2⟩ := id hr
  have ln0 := h.ln
  have i0 := h
  have a0 := ha
  have p0 := h.2.1
  obtain ⟨Ξ1, ν1, e1, s1, p1⟩ := (q_told5 p0 (by omega)).go i0.1.z
  have i1 := i0.go s1 p1
  have a1 := a0.go s1
  have ln1 := i1.ln
  obtain ⟨Ξ2, ν2, e2, s2, p2⟩ := (q_told6 p1 (by omega)).go i1.1.z
  have i2 := i1.go s2 p2
  have a2 := a1.go s2
  have ln2 := i2.ln
  obtain ⟨Ξ3, ν3, e3, s3, p3⟩ := (q_told7 p2 (by omega) (frF_all hB)).go i2.1.z
  have i3 := i2.go s3 p3
  have a3 := a2.go s3
  have ln3 := i3.ln
  obtain ⟨Ξ4, ν4, e4, s4, p4⟩ := (q_told8 p3 (by omega) (ftF_all hB)).go i3.1.z
  have i4 := i3.go s4 p4
  have a4 := a3.go s4
  have ln4 := i4.ln
  obtain ⟨Ξ5, ν5, e5, s5, p5⟩ := (q_told9 p4 (by omega)).go i4.1.z
  have i5 := i4.go s5 p5
  have a5 := a4.go s5
  have ln5 := i5.ln
  obtain ⟨ν6, e6, f6, p6⟩ := q_most (Ξ := Ξ5) p5 nu
  have s6 := Gst.cl f6 i5.1.z
  have i6 := i5.go s6 p6
  have a6 := a5.go s6
  have ln6 := i6.ln
  have i6 : IW Ξ0 μ0 a B H y q m K _ Ξ5 ν6 := i6
  obtain ⟨Ξ7, ν7, e7, s7, p7⟩ := (q_reached0 p6 (by omega) g r1 r2).go i6.1.z
  have i7 := i6.go s7 p7
  have a7 := a6.go s7
  have ln7 := i7.ln
  obtain ⟨Ξ8, ν8, e8, s8, p8⟩ := (q_reached1 p7 (by omega) g r1 r2).go i7.1.z
  have i8 := i7.go s8 p8
  have a8 := a7.go s8
  have ln8 := i8.ln
  obtain ⟨Ξ9, ν9, e9, s9, p9⟩ := (q_cover0 p8 (by omega) g r1 r2).go i8.1.z
  have i9 := i8.go s9 p9
  have a9 := a8.go s9
  have ln9 := i9.ln
  obtain ⟨Ξ10, ν10, e10, s10, p10⟩ := (q_cover1 p9 (by omega) g r1 r2).go i9.1.z
  have i10 := i9.go s10 p10
  have a10 := a9.go s10
  have ln10 := i10.ln
  obtain ⟨Ξ11, ν11, e11, s11, p11⟩ := (q_hall0 p10 (by omega) nu).go i10.1.z
  have i11 := i10.go s11 p11
  have a11 := a10.go s11
  have ln11 := i11.ln
  obtain ⟨Ξ12, ν12, e12, s12, p12⟩ := (q_hall1 p11 (by omega) g r1 r2).go i11.1.z
  have i12 := i11.go s12 p12
  have a12 := a11.go s12
  have ln12 := i12.ln
  obtain ⟨Ξ13, ν13, e13, s13, p13⟩ := (q_fitMany p12 (by omega) (x := 1) (by decide)).go i12.1.z
  have i13 := i12.go s13 p13
  have a13 := a12.go s13
  have ln13 := i13.ln
  obtain ⟨Ξ14, ν14, e14, s14, p14⟩ := (q_fitMany p13 (by omega) (x := 2) (by decide)).go i13.1.z
  have i14 := i13.go s14 p14
  have a14 := a13.go s14
  have ln14 := i14.ln
  obtain ⟨Ξ15, ν15, e15, s15, p15⟩ := (q_fitMany p14 (by omega) (x := 3) (by decide)).go i14.1.z
  have i15 := i14.go s15 p15
  have a15 := a14.go s15
  have ln15 := i15.ln
  obtain ⟨ν16, e16, f16, p16, -⟩ := q_many (Ξ := Ξ15) p15 nu
  have s16 := Gst.cl f16 i15.1.z
  have i16 := i15.go s16 p16
  have a16 := a15.go s16
  have ln16 := i16.ln
  obtain ⟨Ξ17, ν17, e17, s17, p17⟩ := (q_cheap0 p16 (by omega) nu).go i16.1.z
  have i17 := i16.go s17 p17
  have a17 := a16.go s17
  have ln17 := i17.ln
  obtain ⟨Ξ18, ν18, e18, s18, p18⟩ := (q_cheap1 p17 (by omega) nu).go i17.1.z
  have i18 := i17.go s18 p18
  have a18 := a17.go s18
  have ln18 := i18.ln
  rw [kk1] at e13
  rw [kk2] at e14
  rw [kk3] at e15
  rw [← hC] at e16
  rw [← hD] at e18
  have j17 : (Int32.ofNat (lsB (gE B) (bc B) N 12 0)).toInt64 = Int64.ofNat (lsB (gE B) (bc B) N 12 0) := j64_of (by omega)
  have j18 := lmin_k hD6
  have b1 := i1.2.2.1
  have b2 := i2.2.2.1
  have b9 := i9.2.2.1
  have g1 : ν1.1 (lab a) 3 = bw B := i1.2.2.2.1.1.2.2.2.1
  have g2 : ν2.1 (lab a) 4 = bt B := i2.2.2.2.1.1.2.2.2.2
  have g9 : ν9.1 (lab a) 3 = bw B := i9.2.2.2.1.1.2.2.2.1
  refine ⟨Ξ18, ν18, i18.mn (by omega), ?_⟩
  have t1 : f_L_isBook_J878 0 (lab a) (Int32.ofNat N) y (frF B (bn B)) (ftF B (bm B)) (pcs B (bn B)) q x (Int32.ofNat (cnt (hb (bw B)) 12)) v v (mX Ξ ν) = f_L_isBook_J1102 1 (mX Ξ18 ν18) := by
    simp only [f_L_isBook_J878, if_true, ↓hbind e1, ↓hbind (b1.g (show 3 < 5 by decide)), g1, ↓hbind e2, ↓hbind (b2.g (show 4 < 5 by decide)), g2, ↓hbind e3, ↓hbind e4, ↓hbind e5, ↓hvc (fun _ => vc_0), ↓hbind e6, ↓hbind e7, ↓hbind i7.m0, ↓hbind e8, ↓hbind i8.m1, ↓hbind e9, ↓hbind (b9.g (show 3 < 5 by decide)), g9, ↓hbind i9.m0, ↓hbind e10, ↓hbind i10.m1, ↓hbind e11, ↓hbind e12, ↓hbind i12.m0, ↓hbind e13, ↓hbind i13.k1, ↓hbind e14, ↓hbind i14.k2, ↓hbind e15, ↓hbind i15.k3, ↓hbind e16, ↓hbind a16.g0, lg_refl, ↓hbind e17, ↓hbind a17.g1, j17, ↓hbind e18, ↓hbind a18.g2, j18]
  exact t1.trans (if_pos (Or.inr rfl))
theorem ib_q (h : IW Ξ0 μ0 a B H y q m K n Ξ ν) (hn : n ≤ 8800) (hl : (shI ++ Ξ0).length + 10000 < 1000000) (n4 : bn B ≤ 4) (m4 : bm B ≤ 4) (hr : Rch B m) {N : Nat} (nu : Nu (gE B) N) (kq : KQ B (bn B) K) : ∃ Ξ' ν', IW Ξ0 μ0 a B H y q m K (n + 670) Ξ' ν' ∧
    f_L_isBook_J797 0 (lab a) (Int32.ofNat N) y (frF B (bn B)) (ftF B (bm B)) (fcs B (bn B)) (pcs B (bn B)) q (mX Ξ ν) = some (1, mX Ξ' ν') := by
  have hB := h.b
  have ln := h.ln
  have hs := h.2.2.1
  obtain ⟨E, ν0, x, C, L, D, e0, g0, f0, z0, x0, hsh, hv3, hat, c625⟩ := l_all' m4 n4 hB.hf nu.c12 hs h.2.2.2.1 h.1.z (by omega)
  rw [xXe] at e0
  rw [List.append_assoc] at hsh
  have l0 : 168 ≤ (shI ++ Ξ).length := by rw [xl]; omega
  have i0 := h.go (Gst.mk' g0 f0 z0) (h.2.1.up f0)
  have a0 : Al3 x C L D (Ξ ++ E) ν0 := ⟨by omega, hsh, hv3⟩
  obtain ⟨-, -, -, -, ls⟩ := q_many (Ξ := Ξ) h.2.1 nu
  obtain ⟨eC, eL, eD⟩ := AT_FN hB.c99 hB.m hB.Em hat ls
  have dk := hat.kc
  subst eL
  have ln0 := i0.ln
  have hs0 := i0.2.2.1
  have g3 : ν0.1 (lab a) 3 = bw B := i0.2.2.2.1.1.2.2.2.1
  have ec := c_bitCount (h := mX (Ξ ++ E) ν0) hB.bw12
  have p0 := i0.2.1
  obtain ⟨Ξ1, ν1, e1, s1, p1⟩ := (q_told0 p0 (by omega)).go i0.1.z
  have i1 := i0.go s1 p1
  have a1 := a0.go s1
  have ln1 := i1.ln
  obtain ⟨Ξ2, ν2, e2, s2, p2⟩ := (q_told1 p1 (by omega)).go i1.1.z
  have i2 := i1.go s2 p2
  have a2 := a1.go s2
  have ln2 := i2.ln
  obtain ⟨Ξ3, ν3, e3, s3, p3⟩ := (q_told2 p2 (by omega)).go i2.1.z
  have i3 := i2.go s3 p3
  have a3 := a2.go s3
  have ln3 := i3.ln
  obtain ⟨Ξ4, ν4, e4, s4, p4⟩ := (q_told3 p3 (by omega)).go i3.1.z
  have i4 := i3.go s4 p4
  have a4 := a3.go s4
  have ln4 := i4.ln
  obtain ⟨Ξ5, ν5, e5, s5, p5⟩ := (q_told4 p4 (by omega)).go i4.1.z
  have i5 := i4.go s5 p5
  have a5 := a4.go s5
  have ln5 := i5.ln
  have ep := l_pairs i4.2.2.1 i4.2.2.2.1 hB.h12
  have fc : fcs B 12 = fcs B (bn B) := by
    have := fcs_all hB (12 - bn B) (by omega)
    rw [show bn B + (12 - bn B) = 12 by omega] at this
    exact this
  rw [fc] at e3
  have g10 : ν1.1 (lab a) 0 = Int32.ofNat (bn B) := i1.2.2.2.1.1.1
  have g21 : ν2.1 (lab a) 1 = Int32.ofNat (bm B) := i2.2.2.2.1.1.2.1
  have g52 : ν5.1 (lab a) 2 = Int32.ofNat (bk B) := i5.2.2.2.1.1.2.2.1
  obtain ⟨Ξ6, ν6, i6, e6⟩ := ib_p i5 (by omega) hl hr nu kq a5 eC eD (by omega) ls (Int32.ofNat (bk B))
  refine ⟨Ξ6, ν6, i6.mn (by omega), ?_⟩
  rw [← e6]
  have b1 := i1.2.2.1
  have b2 := i2.2.2.1
  have b4 := i4.2.2.1
  have b5 := i5.2.2.1
  have kb := hB.k
  by_cases c : bk B = 0
  · have c0 : (Int32.ofNat (bk B) = 0) := by rw [c]; rfl
    have t1 : f_L_isBook_J797 0 (lab a) (Int32.ofNat N) y (frF B (bn B)) (ftF B (bm B)) (fcs B (bn B)) (pcs B (bn B)) q (mX Ξ ν) = f_L_isBook_J878 0 (lab a) (Int32.ofNat N) y (frF B (bn B)) (ftF B (bm B)) (pcs B (bn B)) q x (Int32.ofNat (cnt (hb (bw B)) 12)) (Int32.ofNat (bk B)) 0 (mX Ξ5 ν5) := by
      simp only [f_L_isBook_J797, ↓hvc (fun _ => hs.vc), ↓hbind e0, Option.bind_some, ↓hbind (hs0.g (show 3 < 5 by decide)), g3, ↓hbind ec, ↓hbind e1, ↓hbind (b1.g (show 0 < 5 by decide)), g10, if_true, ↓hbind e2, ↓hbind (b2.g (show 1 < 5 by decide)), g21, ↓hbind e3, ↓hbind e4, ↓hvc (fun _ => b4.vc), ↓hbind ep, ↓hbind e5, ↓hbind (b5.g (show 2 < 5 by decide)), g52, if_pos c0]
    rw [t1, c0]
  · have c1 : (Int32.ofNat (bk B) = 1) := by rw [show bk B = 1 by omega]; rfl
    have c0 : ¬ (Int32.ofNat (bk B) = 0) := by rw [c1]; decide
    have t1 : f_L_isBook_J797 0 (lab a) (Int32.ofNat N) y (frF B (bn B)) (ftF B (bm B)) (fcs B (bn B)) (pcs B (bn B)) q (mX Ξ ν) = f_L_isBook_J878 0 (lab a) (Int32.ofNat N) y (frF B (bn B)) (ftF B (bm B)) (pcs B (bn B)) q x (Int32.ofNat (cnt (hb (bw B)) 12)) (Int32.ofNat (bk B)) 1 (mX Ξ5 ν5) := by
      simp only [f_L_isBook_J797, ↓hvc (fun _ => hs.vc), ↓hbind e0, Option.bind_some, ↓hbind (hs0.g (show 3 < 5 by decide)), g3, ↓hbind ec, ↓hbind e1, ↓hbind (b1.g (show 0 < 5 by decide)), g10, if_true, ↓hbind e2, ↓hbind (b2.g (show 1 < 5 by decide)), g21, ↓hbind e3, ↓hbind e4, ↓hvc (fun _ => b4.vc), ↓hbind ep, ↓hbind e5, ↓hbind (b5.g (show 2 < 5 by decide)), g52, if_neg c0]
    rw [t1, c1]
/-- isBook is true -/
theorem l_isBook (hs : lbS (shI ++ Ξ0) a) (hv : lbV μ0 a B) (hR : RS μ0 B H) (hZ : Z μ0 (shI ++ Ξ0).length) (hl : (shI ++ Ξ0).length + 10000 < 1000000) (n4 : bn B ≤ 4) (m4 : bm B ≤ 4) : ∃ Ξ' ν', f_L_isBook 0 (lab a) (mX Ξ0 μ0) = some (1, mX Ξ' ν') ∧ Gst 5000 Ξ0 μ0 Ξ' ν' ∧ RS ν' B H := by
  have hB := hR.ok
  have l0 : 168 ≤ (shI ++ Ξ0).length := by rw [xl]; omega
  obtain ⟨N, e1, nu⟩ := most_go (μ := μ0) hs hv hB.hf
  obtain ⟨E, ν1, y, k, M', e2, g2, f2, z2, y2, hy, gr, r1, r2⟩ := l_reached hs hv hB.M hB.h12 hB.hf (fun k c => hB.w c) (fun k c => hB.t c) hZ (by omega)
  rw [xXe] at e2
  rw [List.append_assoc] at hy z2
  have gl := g2.1
  have ll : (shI ++ (Ξ0 ++ E)).length = (shI ++ Ξ0).length + E.length := by rw [← List.append_assoc, List.length_append]
  have n3 := nwI_s (sh := shI ++ (Ξ0 ++ E)) (μ := ν1) (n := 4) (k := 4) z2 rfl (by decide) (by omega)
  have ly := (List.getElem?_eq_some_iff.mp hy).1
  have s1 : Gst 2100 Ξ0 μ0 (Ξ0 ++ E) ν1 := Gst.mk' g2 f2 (by rw [List.append_assoc]; exact z2)
  have s2 : Gst 1 (Ξ0 ++ E) ν1 ((Ξ0 ++ E) ++ [(100, dI 4)]) ν1 := Gst.mk' (Gw.one (by simp [dI])) (Fr.refl _ _) (z2.mono (by simp only [List.length_append]; omega))
  have s3 := s1.tr s2
  obtain ⟨b1, b2⟩ := s3.bk hs hv
  obtain ⟨q, hq⟩ : ∃ q, q = (shI ++ (Ξ0 ++ E)).length := ⟨_, rfl⟩
  have hqs : (shI ++ ((Ξ0 ++ E) ++ [(100, dI 4)]))[q]? = some (100, dI 4) := by
    rw [hq, ← List.append_assoc, List.getElem?_append_right (Nat.le_refl _), Nat.sub_self]
    rfl
  rw [← hq] at n3
  rw [List.append_assoc] at n3
  have ha := hs.2.1
  have i0 : IW Ξ0 μ0 a B H y q (ν1.1 y) (fun _ => 0) 2101 ((Ξ0 ++ E) ++ [(100, dI 4)]) ν1 := ⟨s3, hR.up f2, b1, b2, ⟨y2, s2.sh hy, fun i _ => rfl⟩, ⟨by omega, hqs, fun i _ => (z2 q (by omega) i).1⟩, by omega, by omega⟩
  have hr : Rch B (ν1.1 y) := ⟨k, M', gr.g12 hB.Eb hB.M, r1, r2⟩
  obtain ⟨Ξ3, ν3, K3, i3, k3, e3⟩ := ib_w hl m4 hr nu (bn B) 0 2101 _ _ ν1 (by omega) (by omega) i0 (fun i hi => rfl)
  obtain ⟨Ξ4, ν4, i4, e4⟩ := ib_h hl hr nu (bm B) 0 _ Ξ3 ν3 (by omega) (by omega) i3
  obtain ⟨Ξ5, ν5, i5, e5⟩ := ib_m i4 (by omega) hl
  obtain ⟨Ξ6, ν6, i6, e6⟩ := ib_q i5 (by omega) hl n4 m4 hr nu k3
  refine ⟨Ξ6, ν6, ?_, i6.1.mn (by omega), i6.2.1⟩
  have e3 := e3 (4999 - bn B) f_L_isBook_J173 f_L_isBook_J305 f_L_isBook_J340 f_L_isBook_J489 f_L_isBook_J518 f_L_isBook_J526 0
  rw [show bn B + 1 + (4999 - bn B) = 5000 by omega] at e3
  have e3 : f_L_isBook_L32 f_L_isBook_J173 f_L_isBook_J305 f_L_isBook_J340 f_L_isBook_J489 f_L_isBook_J518 f_L_isBook_J526 5000 0 (lab a) (Int32.ofNat N) y 0 0 0 0 q 0 (mX ((Ξ0 ++ E) ++ [(100, dI 4)]) ν1) = _ := e3
  have e4 := e4 (4999 - bm B) f_L_isBook_J715 f_L_isBook_J723 (frF B (bn B)) (fcs B (bn B)) (pcs B (bn B))
  rw [show bm B + 1 + (4999 - bm B) = 5000 by omega] at e4
  have e4 : f_L_isBook_J526 0 (lab a) (Int32.ofNat N) y (frF B (bn B)) 0 (fcs B (bn B)) (pcs B (bn B)) q (mX Ξ3 ν3) = _ := e4
  simp only [f_L_isBook, ↓hvc (fun _ => hs.vc), ↓hbind e1, ↓hbind e2, Option.bind_some, ↓hbind n3, e3, e4, e5, e6]
end F7
