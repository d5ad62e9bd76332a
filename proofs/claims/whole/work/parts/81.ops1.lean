/-! OPERATIONS: helpers; fault partner cost most way -/
theorem pb_dec {p : Prop} [Decidable p] : decide p = pb p := by
  rw [Bool.eq_iff_iff, decide_eq_true_eq, pb_t]
theorem pb_f {p : Prop} (h : ¬ p) : pb p = false := by
  cases e : pb p with
  | false => rfl
  | true => exact absurd (pb_t.mp e) h
theorem pb_1 {p : Prop} (h : p) : pb p = true := pb_t.mpr h
def bP (μ : MM) (w : Int32) : MM := st (st μ 168 0 w) 169 0 (μ.1 169 0 + 1)
def bA (μ : MM) (w : Int32) : MM := st (st μ 168 0 w) 169 1 (μ.1 169 1 + 1)
def tz (μ : MM) : MM := st μ 168 0 0
section Oh
variable {T : MM → Bk → Prop} {μ : MM} {A : AS}
theorem m_bP {w : Int32} (hw : w ≠ 0) : f_X10_bad 168 1 w 0 (mem (tz μ)) = some (1, mem (bP (tz μ) w)) := m_bad_p hw (st_same _ _ _ _)
theorem m_bA {w : Int32} (hw : w ≠ 0) : f_X10_bad 168 1 w 1 (mem (tz μ)) = some (1, mem (bA (tz μ) w)) := m_bad_a hw (st_same _ _ _ _)
theorem m_b0 {w r : Int32} {ν : MM} (h : ν.1 168 0 = 0) : f_X10_bad 168 0 w r (mem ν) = some (0, mem ν) := m_bad_no h
theorem m_b0t {w r : Int32} : f_X10_bad 168 0 w r (mem (tz μ)) = some (0, mem (tz μ)) := m_bad_no (st_same _ _ _ _)
theorem pI_t0 : pI (mem μ) 10 168 0 0 = some (mem (tz μ)) := pI_168_0
theorem t0_0 : (tz μ).1 168 0 = 0 := st_same _ _ _ _
theorem t0_F : Fr (fun q i => q = 168 ∧ i = 0) μ (tz μ) := (Fr.refl _ _).st ⟨rfl, rfl⟩
theorem t0_ML : Fr ML μ (tz μ) := t0_F.mono fun q i z => by unfold ML; omega
theorem bP_ML {ν : MM} {w : Int32} : Fr ML ν (bP ν w) := ((Fr.refl _ _).st (by unfold ML; omega)).st (by unfold ML; omega)
theorem bA_ML {ν : MM} {w : Int32} : Fr ML ν (bA ν w) := ((Fr.refl _ _).st (by unfold ML; omega)).st (by unfold ML; omega)
theorem bP_0 {ν : MM} {w : Int32} : (bP ν w).1 168 0 = w := by unfold bP; rw [st_ne (Or.inl (by omega)), st_same]
theorem bA_0 {ν : MM} {w : Int32} : (bA ν w).1 168 0 = w := by unfold bA; rw [st_ne (Or.inl (by omega)), st_same]
/-- a place refused -/
theorem CX_P (hT : TF T) (h : RC T μ A) (hA : AOK A) {o : Option ((Int32 ⊕ String) × xH)} (e : ∀ ν, f_X9_demandPlace 0 0 (mem μ) = some (.inr NSE, mem ν) → o = some (.inr NSE, mem ν)) : CX T μ o (SP A) := by
  obtain ⟨ν, e1, f, r⟩ := CX.p hT h hA
  exact ⟨.inr NSE, ν, _, e ν e1, f, r, refP_ok hA, rfl, rfl⟩
theorem CX_A (hT : TF T) (h : RC T μ A) (hA : AOK A) {o : Option ((Int32 ⊕ String) × xH)} (e : ∀ ν, f_X9_demand 0 0 (mem μ) = some (.inr IAE, mem ν) → o = some (.inr IAE, mem ν)) : CX T μ o (SA A) := by
  obtain ⟨ν, e1, f, r⟩ := CX.a hT h hA
  exact ⟨.inr IAE, ν, _, e ν e1, f, r, refA_ok hA, rfl, rfl⟩
theorem MX_P (h : RM μ A) {o : Option (Int32 × xH)} {wc : String → Option Int32} {w b : Int32} (hw : wc NSE = some w) (h0 : w ≠ 0) (e : o = some (b, mem (bP (tz μ) w))) : MX μ o wc (SP A) :=
  ⟨b, .inr NSE, _, _, e, t0_ML.trans bP_ML, h.t0.refP w, ⟨rfl, rfl⟩, w, hw, h0, bP_0⟩
theorem MX_A (h : RM μ A) {o : Option (Int32 × xH)} {wc : String → Option Int32} {w b : Int32} (hw : wc IAE = some w) (h0 : w ≠ 0) (e : o = some (b, mem (bA (tz μ) w))) : MX μ o wc (SA A) :=
  ⟨b, .inr IAE, _, _, e, t0_ML.trans bA_ML, h.t0.refA w, ⟨rfl, rfl⟩, w, hw, h0, bA_0⟩
/-- an answer without a change of what counts -/
theorem CX_V (hT : TF T) (h : RC T μ A) (hA : AOK A) {o : Option ((Int32 ⊕ String) × xH)} {v : Int32} {ν : MM} (e : o = some (.inl v, mem ν)) (f : Fr CQ μ ν) : CX T μ o (SV A v) :=
  ⟨.inl v, ν, A, e, f.mono fun _ _ z => z.L, h.fr hT f fun q i _ z => Or.inl z, hA, rfl, rfl⟩
theorem MX_V (h : RM μ A) {o : Option (Int32 × xH)} {wc : String → Option Int32} {v : Int32} {ν : MM} (e : o = some (v, mem ν)) (f : Fr QM μ ν) (t : ν.1 168 0 = 0) : MX μ o wc (SV A v) :=
  ⟨v, .inl v, ν, A, e, f.mono fun _ _ z => z.L, h.fr f fun q i _ _ z => z, ⟨rfl, rfl⟩, t, rfl⟩
theorem RM.t (h : RM μ A) : RM (tz μ) A := h.t0
theorem t0_Q : Fr QM μ (tz μ) := t0_F.mono fun q i z => by unfold QM; omega
theorem c_kn {b : Nat} {B : Bk} (hk : bkOK shI b = true) (h : BC μ b B) (hB : BOK B) (s x : Int32) : f_X0_knows b s x (mem μ) = some (bI (pb (KN B s x)), mem μ) := by
  rw [c_knows hk h hB, pb_dec]; rfl
theorem c_kb {b : Nat} {B : Bk} (hk : bkOK shI b = true) (h : BC μ b B) (hB : BOK B) (x y : Int32) : f_X0_knowsBoth b x y (mem μ) = some (bI (pb (KN B 0 x) && pb (KN B 1 y)), mem μ) := by
  cases e : pb (KN B 0 x) <;> cases e2 : pb (KN B 1 y) <;> simp only [f_X0_knowsBoth, f_X0_knowsBoth_J23, f_X0_knowsBoth_J22, bk_v hk, c_kn hk h hB, e, e2, bI_0, Option.bind_some, if_true, if_false, Bool.true_eq_false, z_0, z_1, z_2, true_or, or_true] <;> rfl
theorem m_isOne {B : Bk} (h : MR μ 0 B) (hB : BOK B) (s x : Int32) : f_X10_isOne 168 s x (mem μ) = some (bI (pb (KN B s x)), mem μ) := by
  have h1 := hB.n1
  have h2 := hB.n
  have h3 := hB.m1
  have h4 := hB.m
  have e0 : aI (mem μ) 172 0 = some (Int32.ofNat (bn B)) := by rw [mh_a0_0]; exact congrArg some h.1.1
  have e1 : aI (mem μ) 172 1 = some (Int32.ofNat (bm B)) := by rw [mh_a0_1]; exact congrArg some h.1.2.1
  have le : ∀ {n : Nat}, 1 ≤ n → n ≤ 12 → (x ≤ Int32.ofNat n - 1 ↔ x < Int32.ofNat n) := fun {n} a b => by
    rw [show (1 : Int32) = Int32.ofNat 1 from rfl, oN_sub a]
    rcases i32_cases x with q | ⟨k, hk, rfl⟩
    · have l0 : (0 : Int32) ≤ Int32.ofNat (n - 1) := Int32.not_lt.mp (by rw [oN_l0 (by omega)]; exact id)
      have l1 : (0 : Int32) ≤ Int32.ofNat n := Int32.not_lt.mp (by rw [oN_l0 (by omega)]; exact id)
      exact ⟨fun _ => Int32.lt_of_lt_of_le q l1, fun _ => Int32.le_of_lt (Int32.lt_of_lt_of_le q l0)⟩
    · rw [oN_le hk (by omega), oN_lt hk (by omega)]; omega
  have i0 : f_X10_in s 0 1 (mem μ) = some (bI (pb (s = 0 ∨ s = 1)), mem μ) := by
    rw [m_in, pb_dec]
    congr 4
    apply propext
    rcases i32_cases s with q | ⟨k, hk, rfl⟩
    · constructor
      · rintro ⟨a, _⟩; exact absurd q (Int32.not_lt.mpr a)
      · rintro (z | z) <;> (subst z; exact absurd q (by decide))
    · rw [show (0 : Int32) = Int32.ofNat 0 from rfl, show (1 : Int32) = Int32.ofNat 1 from rfl, oN_le (by omega) hk, oN_le hk (by omega), oN_inj hk (by omega), oN_inj hk (by omega)]
      omega
  have z01 : ¬ ((1 : Int32) = 0) := by decide
  have z10 : ¬ ((0 : Int32) = 1) := by decide
  by_cases c0 : s = 0
  · subst c0
    have e : pb (KN B 0 x) = decide (0 ≤ x ∧ x ≤ Int32.ofNat (bn B) - 1) := by
      rw [pb_dec]; congr 1; apply propext; rw [le h1 h2]; unfold KN; simp [z10]
    have i0 : f_X10_in 0 0 1 (mem μ) = some (1, mem μ) := by rw [m_in]; exact congrArg (fun z => some (z, mem μ)) (by decide)
    rw [e]
    simp only [f_X10_isOne, f_X10_isOne_J32, f_X10_isOne_J31, vc_168, gI_168_0, pI_168_0, gR_168_1, gI_168_2, pI_168_2, gI_168_3, pI_168_3, gI_168_4, pI_168_4, gI_168_5, pI_168_5, gI_168_6, pI_168_6, gI_168_7, pI_168_7, gR_168_8, gR_168_9, gR_168_10, gR_168_11, gR_168_12, gR_168_13, gI_168_14, pI_168_14, gI_168_15, pI_168_15, gI_168_16, pI_168_16, gR_168_17, gI_168_18, pI_168_18, gR_168_19, gI_168_20, pI_168_20, gI_168_21, pI_168_21, gI_168_22, pI_168_22, gI_168_23, pI_168_23, gR_168_24, gR_168_25, gI_168_26, pI_168_26, gI_168_27, pI_168_27, gR_168_28, gI_168_29, pI_168_29, gI_168_30, pI_168_30, gI_168_31, pI_168_31, gR_168_32, gR_168_33, gR_168_34, gR_168_35, gR_168_36, gR_168_37, gR_168_38, mr_h0, mr_f0, mr_m0, mr_w0, mr_c0, mc_c0, mc_a0, mc_s0, mh_a0_0, mh_s0_0, mh_a0_1, mh_s0_1, mh_a0_2, mh_s0_2, mh_a0_3, mh_s0_3, mh_a0_4, mh_s0_4, ma_f0, ms_f0, ma_m0, ms_m0, ma_w0, ms_w0, i0, Option.bind_some, z_1, if_false, e0, m_in]
    cases decide (0 ≤ x ∧ x ≤ Int32.ofNat (bn B) - 1) <;> rfl
  · by_cases c1 : s = 1
    · subst c1
      have e : pb (KN B 1 x) = decide (0 ≤ x ∧ x ≤ Int32.ofNat (bm B) - 1) := by
        rw [pb_dec]; congr 1; apply propext; rw [le h3 h4]; unfold KN; simp [z01]
      have i0 : f_X10_in 1 0 1 (mem μ) = some (1, mem μ) := by rw [m_in]; exact congrArg (fun z => some (z, mem μ)) (by decide)
      rw [e]
      simp only [f_X10_isOne, f_X10_isOne_J32, f_X10_isOne_J31, vc_168, gI_168_0, pI_168_0, gR_168_1, gI_168_2, pI_168_2, gI_168_3, pI_168_3, gI_168_4, pI_168_4, gI_168_5, pI_168_5, gI_168_6, pI_168_6, gI_168_7, pI_168_7, gR_168_8, gR_168_9, gR_168_10, gR_168_11, gR_168_12, gR_168_13, gI_168_14, pI_168_14, gI_168_15, pI_168_15, gI_168_16, pI_168_16, gR_168_17, gI_168_18, pI_168_18, gR_168_19, gI_168_20, pI_168_20, gI_168_21, pI_168_21, gI_168_22, pI_168_22, gI_168_23, pI_168_23, gR_168_24, gR_168_25, gI_168_26, pI_168_26, gI_168_27, pI_168_27, gR_168_28, gI_168_29, pI_168_29, gI_168_30, pI_168_30, gI_168_31, pI_168_31, gR_168_32, gR_168_33, gR_168_34, gR_168_35, gR_168_36, gR_168_37, gR_168_38, mr_h0, mr_f0, mr_m0, mr_w0, mr_c0, mc_c0, mc_a0, mc_s0, mh_a0_0, mh_s0_0, mh_a0_1, mh_s0_1, mh_a0_2, mh_s0_2, mh_a0_3, mh_s0_3, mh_a0_4, mh_s0_4, ma_f0, ms_f0, ma_m0, ms_m0, ma_w0, ms_w0, i0, Option.bind_some, z_1, if_false, e1, m_in]
      cases decide (0 ≤ x ∧ x ≤ Int32.ofNat (bm B) - 1) <;> rfl
    · have e : pb (KN B s x) = false := pb_f (by unfold KN; simp [c0, c1])
      rw [pb_f (show ¬ (s = 0 ∨ s = 1) by simp [c0, c1])] at i0
      have i0 : f_X10_in s 0 1 (mem μ) = some (0, mem μ) := i0
      rw [e]
      simp only [f_X10_isOne, f_X10_isOne_J32, f_X10_isOne_J31, i0, Option.bind_some, if_true, z_0, true_or]
      rfl
theorem KN.c {B : Bk} (hB : BOK B) {s x : Int32} (h : KN B s x) : (s = 0 ∧ ∃ k, k < bn B ∧ k < 12 ∧ x = Int32.ofNat k) ∨ (s = 1 ∧ ∃ k, k < bm B ∧ k < 12 ∧ x = Int32.ofNat k) := by
  have h2 := hB.n
  have h4 := hB.m
  rcases h with ⟨a, b⟩ | ⟨a, b⟩
  · obtain ⟨k, hk, e⟩ := (inN_iff (by omega)).mp b
    exact Or.inl ⟨a, k, hk, by omega, e⟩
  · obtain ⟨k, hk, e⟩ := (inN_iff (by omega)).mp b
    exact Or.inr ⟨a, k, hk, by omega, e⟩
theorem KN.w {B : Bk} (hB : BOK B) {x : Int32} (h : KN B 0 x) : ∃ k, k < bn B ∧ k < 12 ∧ x = Int32.ofNat k := by
  rcases h.c hB with ⟨-, q⟩ | ⟨q, -⟩
  · exact q
  · exact absurd q (by decide)
theorem KN.t {B : Bk} (hB : BOK B) {x : Int32} (h : KN B 1 x) : ∃ k, k < bm B ∧ k < 12 ∧ x = Int32.ofNat k := by
  rcases h.c hB with ⟨q, -⟩ | ⟨-, q⟩
  · exact absurd q (by decide)
  · exact q
end Oh
section O1
variable {T : MM → Bk → Prop} {μ : MM} {A : AS}
theorem op_fault (hT : TF T) (hA : AOK A) (hC : RC T μ A) (hM : RM μ A) : OKc T μ (LI (f_X9_fault 0) (f_X10_fault 168)) := by
  refine LI_ok hT (S := fun v A' => v = aP A ∧ A' = A) hM (fun _ _ _ _ h h' => ⟨h.1.trans h'.1.symm, h.2.trans h'.2.symm⟩) ⟨aP A, μ, A, ?_, Fr.refl _ _, hC, hA, rfl, rfl⟩ (fun ν hν => ⟨aP A, tz ν, A, ?_, t0_ML, hν.t, rfl, rfl⟩)
  · simp only [f_X9_fault, vc_0, gR_0_0, gR_0_1, gR_0_2, gR_0_3, gR_0_4, gR_0_5, gR_0_6, gR_0_7, gR_0_8, gI_0_9, pI_0_9, gI_0_10, pI_0_10, gI_0_11, pI_0_11, vc_139, gR_139_0, gI_139_1, pI_139_1, gI_139_2, pI_139_2, gI_139_3, pI_139_3, gI_139_4, pI_139_4, gI_139_5, pI_139_5, gI_139_6, pI_139_6, gI_139_7, pI_139_7, Option.bind_some, hC.2.2.2.1]
  · have e : (tz ν).1 168 5 = aP A := hν.t.2.2.2.1
    simp only [f_X10_fault, pI_t0, vc_168, gI_168_0, gR_168_1, gI_168_2, pI_168_2, gI_168_3, pI_168_3, gI_168_4, pI_168_4, gI_168_5, pI_168_5, gI_168_6, pI_168_6, gI_168_7, pI_168_7, gR_168_8, gR_168_9, gR_168_10, gR_168_11, gR_168_12, gR_168_13, gI_168_14, pI_168_14, gI_168_15, pI_168_15, gI_168_16, pI_168_16, gR_168_17, gI_168_18, pI_168_18, gR_168_19, gI_168_20, pI_168_20, gI_168_21, pI_168_21, gI_168_22, pI_168_22, gI_168_23, pI_168_23, gR_168_24, gR_168_25, gI_168_26, pI_168_26, gI_168_27, pI_168_27, gR_168_28, gI_168_29, pI_168_29, gI_168_30, pI_168_30, gI_168_31, pI_168_31, gR_168_32, gR_168_33, gR_168_34, gR_168_35, gR_168_36, gR_168_37, gR_168_38, Option.bind_some, e]
theorem op_partner (hT : TF T) (hA : AOK A) (hC : RC T μ A) (hM : RM μ A) (s x : Int32) : OKc T μ (LB wc_L_partner (f_X9_partner 0 s x) (f_X10_partner 168 s x)) := by
  have hB := hA.1
  by_cases c : KN (aB A) s x
  · rcases c.c hB with ⟨rfl, k, k1, k2, rfl⟩ | ⟨rfl, k, k1, k2, rfl⟩
    · refine LB_ok hT hM (SV.uq (A := A) (v := eI (bM (aB A) k))) (CX_V hT hC hA (ν := μ) ?_ (Fr.refl _ _)) (fun ν hν => MX_V hν (ν := tz ν) ?_ t0_Q t0_0)
      · simp only [f_X9_partner, vc_0, gR_0_0, gR_0_1, gR_0_2, gR_0_3, gR_0_4, gR_0_5, gR_0_6, gR_0_7, gR_0_8, gI_0_9, pI_0_9, gI_0_10, pI_0_10, gI_0_11, pI_0_11, bk_v bk1, c_kn bk1 hC.1 hB, pb_1 c, show bI true = 1 from rfl, c_dp1, thr, c_partnerOf0 bk1 hC.1 k2, Option.bind_some]
      · simp only [f_X10_partner, f_X10_partner_J20, pI_t0, vc_168, gI_168_0, gR_168_1, gI_168_2, pI_168_2, gI_168_3, pI_168_3, gI_168_4, pI_168_4, gI_168_5, pI_168_5, gI_168_6, pI_168_6, gI_168_7, pI_168_7, gR_168_8, gR_168_9, gR_168_10, gR_168_11, gR_168_12, gR_168_13, gI_168_14, pI_168_14, gI_168_15, pI_168_15, gI_168_16, pI_168_16, gR_168_17, gI_168_18, pI_168_18, gR_168_19, gI_168_20, pI_168_20, gI_168_21, pI_168_21, gI_168_22, pI_168_22, gI_168_23, pI_168_23, gR_168_24, gR_168_25, gI_168_26, pI_168_26, gI_168_27, pI_168_27, gR_168_28, gI_168_29, pI_168_29, gI_168_30, pI_168_30, gI_168_31, pI_168_31, gR_168_32, gR_168_33, gR_168_34, gR_168_35, gR_168_36, gR_168_37, gR_168_38, m_isOne hν.t.1 hB, pb_1 c, bI_0, Bool.true_eq_false, if_false, m_b0t, if_true, m_partner0 (hν.t.1.MS hB) k2, Option.bind_some]
    · refine LB_ok hT hM (SV.uq (A := A) (v := eI (ow (bM (aB A)) k))) (CX_V hT hC hA (ν := μ) ?_ (Fr.refl _ _)) (fun ν hν => MX_V hν (ν := tz ν) ?_ t0_Q t0_0)
      · simp only [f_X9_partner, vc_0, gR_0_0, gR_0_1, gR_0_2, gR_0_3, gR_0_4, gR_0_5, gR_0_6, gR_0_7, gR_0_8, gI_0_9, pI_0_9, gI_0_10, pI_0_10, gI_0_11, pI_0_11, bk_v bk1, c_kn bk1 hC.1 hB, pb_1 c, show bI true = 1 from rfl, c_dp1, thr, c_partnerOf1 bk1 hC.1 k2, Option.bind_some]
      · simp only [f_X10_partner, f_X10_partner_J20, pI_t0, vc_168, gI_168_0, gR_168_1, gI_168_2, pI_168_2, gI_168_3, pI_168_3, gI_168_4, pI_168_4, gI_168_5, pI_168_5, gI_168_6, pI_168_6, gI_168_7, pI_168_7, gR_168_8, gR_168_9, gR_168_10, gR_168_11, gR_168_12, gR_168_13, gI_168_14, pI_168_14, gI_168_15, pI_168_15, gI_168_16, pI_168_16, gR_168_17, gI_168_18, pI_168_18, gR_168_19, gI_168_20, pI_168_20, gI_168_21, pI_168_21, gI_168_22, pI_168_22, gI_168_23, pI_168_23, gR_168_24, gR_168_25, gI_168_26, pI_168_26, gI_168_27, pI_168_27, gR_168_28, gI_168_29, pI_168_29, gI_168_30, pI_168_30, gI_168_31, pI_168_31, gR_168_32, gR_168_33, gR_168_34, gR_168_35, gR_168_36, gR_168_37, gR_168_38, m_isOne hν.t.1 hB, pb_1 c, bI_0, Bool.true_eq_false, if_false, m_b0t, if_true, m_partner1 (hν.t.1.MS hB) k2, Option.bind_some]
  · refine LB_ok hT hM (SP.uq (A := A)) (CX_P hT hC hA fun ν e => ?_) (fun ν hν => MX_P hν (w := 1) (b := 0) rfl (by decide) ?_)
    · simp only [f_X9_partner, vc_0, gR_0_0, gR_0_1, gR_0_2, gR_0_3, gR_0_4, gR_0_5, gR_0_6, gR_0_7, gR_0_8, gI_0_9, pI_0_9, gI_0_10, pI_0_10, gI_0_11, pI_0_11, bk_v bk1, c_kn bk1 hC.1 hB, pb_f c, show bI false = 0 from rfl, e, thr, Option.bind_some]
    · simp only [f_X10_partner, f_X10_partner_J20, pI_t0, vc_168, gI_168_0, gR_168_1, gI_168_2, pI_168_2, gI_168_3, pI_168_3, gI_168_4, pI_168_4, gI_168_5, pI_168_5, gI_168_6, pI_168_6, gI_168_7, pI_168_7, gR_168_8, gR_168_9, gR_168_10, gR_168_11, gR_168_12, gR_168_13, gI_168_14, pI_168_14, gI_168_15, pI_168_15, gI_168_16, pI_168_16, gR_168_17, gI_168_18, pI_168_18, gR_168_19, gI_168_20, pI_168_20, gI_168_21, pI_168_21, gI_168_22, pI_168_22, gI_168_23, pI_168_23, gR_168_24, gR_168_25, gI_168_26, pI_168_26, gI_168_27, pI_168_27, gR_168_28, gI_168_29, pI_168_29, gI_168_30, pI_168_30, gI_168_31, pI_168_31, gR_168_32, gR_168_33, gR_168_34, gR_168_35, gR_168_36, gR_168_37, gR_168_38, m_isOne hν.t.1 hB, pb_f c, bI_0, if_true, m_bP (show (1 : Int32) ≠ 0 by decide), z_1, if_false, Option.bind_some]
end O1
