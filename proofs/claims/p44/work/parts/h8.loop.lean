/-! THE LAW'S RUN: its end; all rounds -/
section H8
variable {Ξ : xH} {ν : MM} {a : LA} {B : Bk} {H : List Bk} {as : Nat → LA} {i : Nat} {S : List Int32}
/-- all that is refused -/
theorem law_end (hi : i ≤ 12) (h : LI i Ξ ν a B H as) : ∃ Ξ' ν', f_L_law_J1110 S 0 (lab a) 1 (mX Ξ ν) = some (1, mX Ξ' ν') ∧ Gst 30 Ξ ν Ξ' ν' ∧ Cz Ξ' := by
  have bl := bud_le hi
  obtain ⟨-, r0, ⟨hs, hv, h9⟩, ⟨n4, m4⟩, -, -, hZ, cz, hl⟩ := h
  have hB := r0.ok
  have n1 : 0 < bn B := hB.n1
  have m1 : 0 < bm B := hB.m1
  have t0 := Gst.rf hZ
  have l0 : (shI ++ Ξ).length + 1 < 1000000 := by omega
  obtain ⟨Ξ1, ν1, e1, s1, r1⟩ := (x_told r0 l0).go t0.z
  have t1 := t0.tr s1
  have l1 : (shI ++ Ξ1).length + 1 < 1000000 := by have := t1.ln.2; omega
  obtain ⟨Ξ2, ν2, e2, s2, r2⟩ := (x_text r1 l1).go t1.z
  have t2 := t1.tr s2
  have l2 : (shI ++ Ξ2).length + 1 < 1000000 := by have := t2.ln.2; omega
  obtain ⟨Ξ3, ν3, e3, s3, r3⟩ := (q_partner_p r2 l2 (s := 2) (x := 0) (kn_s (by decide) (by decide))).go t2.z
  have t3 := t2.tr s3
  have l3 : (shI ++ Ξ3).length + 1 < 1000000 := by have := t3.ln.2; omega
  have f4 := (t3.bk hs hv).1.g (μ := ν3) (show 0 < 5 by decide)
  rw [(t3.bk hs hv).2.1.1] at f4
  obtain ⟨Ξ4, ν4, e4, s4, r4⟩ := (q_partner_p r3 l3 (s := 0) (x := Int32.ofNat (bn B)) (knw_n hB (Nat.le_refl _) (by omega))).go t3.z
  have t4 := t3.tr s4
  have l4 : (shI ++ Ξ4).length + 1 < 1000000 := by have := t4.ln.2; omega
  have f5 := (t4.bk hs hv).1.g (μ := ν4) (show 1 < 5 by decide)
  rw [(t4.bk hs hv).2.1.2.1] at f5
  obtain ⟨Ξ5, ν5, e5, s5, r5⟩ := (q_cost_p r4 l4 (x := 0) (y := Int32.ofNat (bm B)) (knt_n hB (Nat.le_refl _) (by omega))).go t4.z
  have t5 := t4.tr s5
  have l5 : (shI ++ Ξ5).length + 1 < 1000000 := by have := t5.ln.2; omega
  obtain ⟨Ξ6, ν6, e6, s6, r6⟩ := (x_wayFrom r5 l5 n1).go t5.z
  have t6 := t5.tr s6
  have l6 : (shI ++ Ξ6).length + 1 < 1000000 := by have := t6.ln.2; omega
  obtain ⟨Ξ7, ν7, e7, s7, r7⟩ := (x_phases r6 l6).go t6.z
  have t7 := t6.tr s7
  have l7 : (shI ++ Ξ7).length + 1 < 1000000 := by have := t7.ln.2; omega
  obtain ⟨Ξ8, ν8, e8, s8, r8⟩ := (x_phased r7 l7).go t7.z
  have t8 := t7.tr s8
  have l8 : (shI ++ Ξ8).length + 1 < 1000000 := by have := t8.ln.2; omega
  obtain ⟨Ξ9, ν9, e9, s9, r9⟩ := (x_reached r8 l8).go t8.z
  have t9 := t8.tr s9
  have l9 : (shI ++ Ξ9).length + 1 < 1000000 := by have := t9.ln.2; omega
  obtain ⟨Ξ10, ν10, e10, s10, r10⟩ := (x_cover r9 l9).go t9.z
  have t10 := t9.tr s10
  have l10 : (shI ++ Ξ10).length + 1 < 1000000 := by have := t10.ln.2; omega
  obtain ⟨Ξ11, ν11, e11, s11, r11⟩ := (x_of r10 l10 n1).go t10.z
  have t11 := t10.tr s11
  have l11 : (shI ++ Ξ11).length + 1 < 1000000 := by have := t11.ln.2; omega
  obtain ⟨Ξ12, ν12, e12, s12, r12⟩ := (x_fitMany r11 l11).go t11.z
  have t12 := t11.tr s12
  have l12 : (shI ++ Ξ12).length + 1 < 1000000 := by have := t12.ln.2; omega
  obtain ⟨Ξ13, ν13, e13, s13, r13⟩ := (x_lack1 r12 l12).go t12.z
  have t13 := t12.tr s13
  have l13 : (shI ++ Ξ13).length + 1 < 1000000 := by have := t13.ln.2; omega
  have f14 := (t13.bk hs hv).1.g (μ := ν13) (show 0 < 5 by decide)
  rw [(t13.bk hs hv).2.1.1] at f14
  obtain ⟨Ξ14, ν14, e14, s14, r14⟩ := (x_lack2 r13 l13).go t13.z
  have t14 := t13.tr s14
  have l14 : (shI ++ Ξ14).length + 1 < 1000000 := by have := t14.ln.2; omega
  obtain ⟨Ξ15, ν15, e15, s15, r15⟩ := (x_hall r14 l14).go t14.z
  have t15 := t14.tr s15
  have l15 : (shI ++ Ξ15).length + 1 < 1000000 := by have := t15.ln.2; omega
  obtain ⟨Ξ16, ν16, e16, s16, r16⟩ := (x_cheap r15 l15).go t15.z
  have t16 := t15.tr s16
  have l16 : (shI ++ Ξ16).length + 1 < 1000000 := by have := t16.ln.2; omega
  obtain ⟨Ξ17, ν17, e17, s17, r17⟩ := (x_more r16 l16).go t16.z
  have t17 := t16.tr s17
  have l17 : (shI ++ Ξ17).length + 1 < 1000000 := by have := t17.ln.2; omega
  obtain ⟨Ξ18, ν18, e18, s18, r18⟩ := (x_fewest r17 l17).go t17.z
  have t18 := t17.tr s18
  have l18 : (shI ++ Ξ18).length + 1 < 1000000 := by have := t18.ln.2; omega
  obtain ⟨Ξ19, ν19, e19, s19, r19⟩ := (x_add r18 l18 n1 m1).go t18.z
  have t19 := t18.tr s19
  have l19 : (shI ++ Ξ19).length + 1 < 1000000 := by have := t19.ln.2; omega
  obtain ⟨Ξ20, ν20, e20, s20, r20⟩ := (x_is r19 l19 n1).go t19.z
  have t20 := t19.tr s20
  have l20 : (shI ++ Ξ20).length + 1 < 1000000 := by have := t20.ln.2; omega
  obtain ⟨Ξ21, ν21, e21, s21, r21⟩ := (x_keep r20 l20).go t20.z
  have t21 := t20.tr s21
  have l21 : (shI ++ Ξ21).length + 1 < 1000000 := by have := t21.ln.2; omega
  obtain ⟨Ξ22, ν22, e22, s22, r22⟩ := (x_settle0 r21 l21).go t21.z
  have t22 := t21.tr s22
  have l22 : (shI ++ Ξ22).length + 1 < 1000000 := by have := t22.ln.2; omega
  obtain ⟨Ξ23, ν23, e23, s23, r23⟩ := (x_settle13 r22 l22).go t22.z
  have t23 := t22.tr s23
  have l23 : (shI ++ Ξ23).length + 1 < 1000000 := by have := t23.ln.2; omega
  obtain ⟨Ξ24, ν24, e24, s24, r24⟩ := (x_chosen r23 l23).go t23.z
  have t24 := t23.tr s24
  have l24 : (shI ++ Ξ24).length + 1 < 1000000 := by have := t24.ln.2; omega
  obtain ⟨Ξ25, ν25, e25, s25, r25⟩ := (x_weight r24 l24 n1).go t24.z
  have t25 := t24.tr s25
  have l25 : (shI ++ Ξ25).length + 1 < 1000000 := by have := t25.ln.2; omega
  have f26 := (t25.bk hs hv).1.g (μ := ν25) (show 0 < 5 by decide)
  rw [(t25.bk hs hv).2.1.1] at f26
  obtain ⟨Ξ26, ν26, e26, s26, r26⟩ := (x_weightp r25 l25).go t25.z
  have t26 := t25.tr s26
  have l26 : (shI ++ Ξ26).length + 1 < 1000000 := by have := t26.ln.2; omega
  have f27 := (t26.bk hs hv).1.g (μ := ν26) (show 1 < 5 by decide)
  rw [(t26.bk hs hv).2.1.2.1] at f27
  obtain ⟨Ξ27, ν27, e27, s27, r27⟩ := (x_round r26 l26 n1).go t26.z
  have t27 := t26.tr s27
  have l27 : (shI ++ Ξ27).length + 1 < 1000000 := by have := t27.ln.2; omega
  refine ⟨Ξ27, ν27, ?_, t27.mn (by omega), (t27.os (a := a)).cz cz⟩
  have d0 : ¬ ((1 : Int32) = 0) := by decide
  have d1 : ((1 : Int32) = 0 ∨ (1 : Int32) = 1) := Or.inr rfl
  simp only [f_L_law_J1110, if_neg d0, if_true, f_L_law_J1424, ↓hbind e1, ↓hbind e2, ↓hbind e3, ↓hbind f4, ↓hbind e4, ↓hbind f5, ↓hbind e5, ↓hbind e6, ↓hbind e7, ↓hbind e8, ↓hbind e9, ↓hbind e10, ↓hbind e11, ↓hbind e12, ↓hbind e13, ↓hbind f14, ↓hbind e14, ↓hbind e15, ↓hbind e16, ↓hbind e17, ↓hbind e18, ↓hbind e19, ↓hbind e20, ↓hbind e21, ↓hbind e22, ↓hbind e23, ↓hbind e24, ↓hbind e25, ↓hbind f26, ↓hbind e26, ↓hbind f27, ↓hbind e27, or_true]
/-- all rounds -/
theorem law_loop {S : List Int32} (hS : S.length ≤ 260) : ∀ (d i : Nat) {Ξ : xH} {ν : MM} {a : LA} {B : Bk} {H : List Bk} {as : Nat → LA}, i + d = 12 → LI i Ξ ν a B H as → ∃ Ξ' ν', (∀ f, f_L_law_L37 S (f_L_law_J1110 S) (d + 1 + f) 0 168 (lab a) 185 (Int32.ofNat H.length) 1 (Int32.ofNat i) (mX Ξ ν) = some (1, mX Ξ' ν')) ∧ Cz Ξ' ∧ (shI ++ Ξ').length ≤ 121500
  | 0, i, Ξ, ν, a, B, H, as, hi, h => by
    have i12 : i = 12 := by omega
    subst i12
    obtain ⟨Ξ', ν', e, s, c⟩ := law_end (S := S) (Nat.le_refl _) h
    have hl := h.2.2.2.2.2.2.2.2
    have bl := bud_le (Nat.le_refl 12)
    have ln := s.ln.2
    refine ⟨Ξ', ν', fun f => ?_, c, by omega⟩
    rw [show 0 + 1 + f = f + 1 by omega]
    have d12 : (Int32.ofNat 12 ≥ 12) := by decide
    by_cases z : (Int32.ofNat 12 ≥ Int32.ofNat S.length)
    · simp only [f_L_law_L37, if_pos z, e]
    · simp only [f_L_law_L37, if_neg z, if_pos d12, e]
  | d + 1, i, Ξ, ν, a, B, H, as, hi, h => by
    by_cases z : S.length ≤ i
    · have zz : (Int32.ofNat i ≥ Int32.ofNat S.length) := by rw [oN_ge (by omega) (by omega)]; omega
      obtain ⟨Ξ', ν', e, s, c⟩ := law_end (S := S) (by omega) h
      have hl := h.2.2.2.2.2.2.2.2
      have bl := bud_le (show i ≤ 12 by omega)
      have ln := s.ln.2
      refine ⟨Ξ', ν', fun f => ?_, c, by omega⟩
      rw [show d + 1 + 1 + f = (d + 1 + f) + 1 by omega]
      simp only [f_L_law_L37, if_pos zz, e]
    · have zz : ¬ (Int32.ofNat i ≥ Int32.ofNat S.length) := by rw [oN_ge (by omega) (by omega)]; omega
      have z12 : ¬ (Int32.ofNat i ≥ 12) := by rw [show (12 : Int32) = Int32.ofNat 12 from rfl, oN_ge (by omega) (by omega)]; omega
      have d0 : ¬ ((1 : Int32) = 0) := by decide
      obtain ⟨a1, a2⟩ := ain_nat (k := i) (n := S.length) (by omega) (by omega)
      obtain ⟨v, hv⟩ : ∃ v, v = S.getD i 0 := ⟨_, rfl⟩
      have es : sc S (Int32.ofNat i) = some v := by
        unfold sc
        rw [if_pos a1, a2, hv]
      obtain ⟨j, j1, j2⟩ := andc v (m := 7) (by decide)
      have j2 : v &&& (7 : Int32) = Int32.ofNat j := j2
      have step : ∀ jj, jj < 8 → ∃ Ξ' ν', (∀ f, f_L_law_J80 S (f_L_law_L37 S (f_L_law_J1110 S) (d + 1 + f)) (f_L_law_J1110 S) 0 168 (lab a) 185 (Int32.ofNat H.length) (Int32.ofNat i) (v >>> ((3 : Int32) &&& 31)) (Int32.ofNat jj) (mX Ξ ν) = some (1, mX Ξ' ν')) ∧ Cz Ξ' ∧ (shI ++ Ξ').length ≤ 121500 := fun jj hjj => by
        obtain ⟨Ξ1, ν1, a', B', H', as', li, ee⟩ := r_80 (S := S) (show i < 12 by omega) h (x8 := v >>> ((3 : Int32) &&& 31)) hjj
        obtain ⟨Ξ', ν', q, q2⟩ := law_loop hS d (i + 1) (by omega) li
        exact ⟨Ξ', ν', fun f => (ee _ _).trans (q f), q2⟩
      by_cases c : i = 0
      · obtain ⟨Ξ', ν', q, q2⟩ := step 0 (by decide)
        refine ⟨Ξ', ν', fun f => ?_, q2⟩
        rw [show d + 1 + 1 + f = (d + 1 + f) + 1 by omega, ← q f]
        have c0 : (Int32.ofNat i = 0) := by rw [c]; rfl
        simp only [f_L_law_L37, if_neg zz, if_neg z12, if_neg d0, ↓hbind es, lt, if_pos c0]
        rfl
      · have c0 : ¬ (Int32.ofNat i = 0) := by rw [leq_0 (by omega)]; omega
        obtain ⟨Ξ', ν', q, q2⟩ := step j (by omega)
        refine ⟨Ξ', ν', fun f => ?_, q2⟩
        rw [show d + 1 + 1 + f = (d + 1 + f) + 1 by omega, ← q f]
        simp only [f_L_law_L37, if_neg zz, if_neg z12, if_neg d0, ↓hbind es, lt, if_neg c0, j2]
end H8
