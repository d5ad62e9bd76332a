/-! THE MODEL: all phases in thought; OPERATIONS: phases phased -/
def RsM (ν : MM) (s : RS) : Prop := ν.1 168 20 = Int32.ofNat s.2.1 ∧ ν.1 168 21 = Int32.ofNat s.2.2.1 ∧ ν.1 168 22 = Int32.ofNat s.2.2.2.1 ∧ ν.1 168 23 = Int32.ofNat s.2.2.2.2
def FTm (q i : Nat) : Prop := q = 210 ∨ q = 484 ∨ q = 485 ∨ (q = 168 ∧ 20 ≤ i ∧ i ≤ 27)
section Mi
variable {μ : MM} {n m : Nat} {Wt Tt : Int32} {E : Nat → Nat → Bool} {M : Nat → Nat} {lw lr : LA} {s : RS}
theorem m_onePhase (hO : SOK n m Wt E s.1) (hS : MS μ n m Wt Tt E s.1) (hl : LyM μ lw lr) (hL : LAY E s.1 Wt lw lr) (hI : RsI E s) (hz : s.2.1 = 0 → s.2.2.2.1 = s.2.2.1) (hr : RsM μ s) : ∃ ξ, f_X10_onePhase 168 (mem μ) = some (mem ξ) ∧ Fr FPm μ ξ ∧ MS ξ n m Wt Tt E (nxt E n lw lr s).1 ∧ RsM ξ (nxt E n lw lr s) := by
  have hn := hO.1
  obtain ⟨K, hK, ⟨j1, j2, j3⟩, _⟩ := hL.J
  have sl := sz_le s.1
  have a12 : s.2.1 ≤ 12 := by have := hI.2.1; have := hI.2.2; omega
  obtain ⟨h20, h21, h22, h23⟩ := hr
  obtain ⟨ν, hd⟩ : ∃ x, x = st (st (st μ 168 26 0) 168 27 0) 168 20 (Int32.ofNat (s.2.1 + 1)) := ⟨_, rfl⟩
  have f1 : Fr (fun q i => q = 168 ∧ (i = 20 ∨ i = 26 ∨ i = 27)) μ ν := by rw [hd]; exact (((Fr.refl _ _).st ⟨rfl, by omega⟩).st ⟨rfl, by omega⟩).st ⟨rfl, by omega⟩
  have k26 : ν.1 168 26 = 0 := by rw [hd, st_ne (Or.inr (by omega)), st_ne (Or.inr (by omega))]; exact st_same _ _ _ _
  have k27 : ν.1 168 27 = 0 := by rw [hd, st_ne (Or.inr (by omega))]; exact st_same _ _ _ _
  have k20 : ν.1 168 20 = Int32.ofNat (s.2.1 + 1) := by rw [hd]; exact st_same _ _ _ _
  have k22 : ν.1 168 22 = Int32.ofNat (if s.2.1 = 0 then s.2.2.1 else s.2.2.2.1) := by
    rw [(f1 _ _ (by omega)).1, h22]
    by_cases z : s.2.1 = 0
    · rw [if_pos z, hz z]
    · rw [if_neg z]
  have hi : PfI E s.1 lw s.2.2.1 0 (s.1, fun _ => false, s.2.2.1, s.2.2.2.2) := ⟨hI.1, Nat.le_refl _, rfl, fun v _ z => ((j1 v).mp z).2, fun v _ => Iff.rfl, fun _ => rfl⟩
  obtain ⟨ξ, e, f2, s2, g20, g21, g22, g23⟩ := m_ph (lw := lw) (lr := lr) (a := s.2.1) (F0 := s.2.2.2.1) hO j1 a12 n 0 ν (s.1, fun _ => false, s.2.2.1, s.2.2.2.2) (by omega) (hS.ll f1 (fun q i a z => by omega)) (hl.fr f1 fun q i a z => by omega) (fun i => by rw [k27, hb_zero]) (fun v _ z => by rw [k26, hb_zero] at z; cases z) (fun v _ z => by rw [k26, hb_zero] at z; cases z) k20 (by rw [(f1 _ _ (by omega)).1]; exact h21) k22 (by rw [(f1 _ _ (by omega)).1]; exact h23) hi
  have e : f_X10_onePhase_L22 f_X10_onePhase_J114 5000 168 0 (mem ν) = some (mem ξ) := by
    have := e (5000 - (n + 1))
    rw [show n + 1 + (5000 - (n + 1)) = 5000 by omega] at this
    exact this
  refine ⟨ξ, ?_, (f1.mono fun q i z => by unfold FPm; omega).trans f2, s2, g20, g21, g22, g23⟩
  have e20 : (st (st μ 168 26 0) 168 27 0).1 168 20 = Int32.ofNat s.2.1 := by rw [st_ne (Or.inr (by omega)), st_ne (Or.inr (by omega))]; exact h20
  rw [hd] at e
  simp only [f_X10_onePhase, ↓hbind pI_168_26, ↓hbind pI_168_27, ↓hbind gI_168_20, e20, i_succ, ↓hbind pI_168_20, e]
theorem m_rn : ∀ (D : Nat) (s : RS) (ν : MM), 12 ≤ sz s.1 + D → SOK n m Wt E s.1 → RsI E s → (s.2.1 = 0 → s.2.2.2.1 = s.2.2.1) → MS ν n m Wt Tt E s.1 → RsM ν s → ∃ d s' ξ, (∀ f, f_X10_thinks_L50 f_X10_thinks_J64 (D + 1 + f) 168 (mem ν) = some (mem ξ)) ∧ Fr FTm ν ξ ∧ MS ξ n m Wt Tt E s'.1 ∧ RsM ξ s' ∧ Rr E n Wt d s s' := by
  intro D
  induction D with
  | zero =>
    intro s ν h12 hO hI hz hS hc
    have sl := sz_le s.1
    have hE := hO.Eb
    obtain ⟨ζ, b, e1, f1, r⟩ := m_laysLayers hS hO
    have f1' : Fr FTm ν ζ := f1.mono fun q i z => by unfold FLm at z; unfold FTm; omega
    rcases r with ⟨rfl, lw, lr, l1, l2⟩ | ⟨rfl, l1⟩
    · obtain ⟨⟨_, a, _⟩, b⟩ := nxt_I (n := n) hE (fun w t q => (hO.2.2.1 w t q).1) hI l1
      have := sz_le (nxt E n lw lr s).1
      have := hI.2.1
      omega
    · refine ⟨0, s, ζ, fun f => ?_, f1', hS.ll f1 (fun q i a z => by unfold FLm at z; omega), ⟨?_, ?_, ?_, ?_⟩, l1, rfl⟩
      · rw [show 0 + 1 + f = f + 1 by omega]
        simp only [f_X10_thinks_L50, ↓hvc (fun _ => vc_168), ↓hbind e1, ↓reduceIte, f_X10_thinks_J64]
      · rw [(f1 _ _ (by unfold FLm; omega)).1]; exact hc.1
      · rw [(f1 _ _ (by unfold FLm; omega)).1]; exact hc.2.1
      · rw [(f1 _ _ (by unfold FLm; omega)).1]; exact hc.2.2.1
      · rw [(f1 _ _ (by unfold FLm; omega)).1]; exact hc.2.2.2
  | succ D ih =>
    intro s ν h12 hO hI hz hS hc
    have hE := hO.Eb
    obtain ⟨ζ, b, e1, f1, r⟩ := m_laysLayers hS hO
    have f1' : Fr FTm ν ζ := f1.mono fun q i z => by unfold FLm at z; unfold FTm; omega
    have hS1 := hS.ll f1 (fun q i a z => by unfold FLm at z; omega)
    have hc1 : RsM ζ s := by
      refine ⟨?_, ?_, ?_, ?_⟩
      · rw [(f1 _ _ (by unfold FLm; omega)).1]; exact hc.1
      · rw [(f1 _ _ (by unfold FLm; omega)).1]; exact hc.2.1
      · rw [(f1 _ _ (by unfold FLm; omega)).1]; exact hc.2.2.1
      · rw [(f1 _ _ (by unfold FLm; omega)).1]; exact hc.2.2.2
    rcases r with ⟨rfl, lw, lr, l1, l2⟩ | ⟨rfl, l1⟩
    · obtain ⟨nI, nm⟩ := nxt_I (n := n) hE (fun w t q => (hO.2.2.1 w t q).1) hI l1
      obtain ⟨η, e2, f2, s2, c2⟩ := m_onePhase hO hS1 l2 l1 hI hz hc1
      obtain ⟨d, s', ξ, e5, f5, s5, c5, r5⟩ := ih (nxt E n lw lr s) η (by have := hI.2.1; have := nI.2.1; omega) (hO.M nI.1) nI (fun z => absurd z (Nat.succ_ne_zero _)) s2 c2
      refine ⟨d + 1, s', ξ, fun f => ?_, (f1'.trans (f2.mono fun q i z => by unfold FPm at z; unfold FTm; omega)).trans f5, s5, c5, lw, lr, l1, r5⟩
      rw [show D + 1 + 1 + f = D + 1 + f + 1 by omega, ← e5 f]
      simp only [f_X10_thinks_L50, ↓hvc (fun _ => vc_168), ↓hbind e1, z_1, ↓reduceIte, ↓hbind e2]
    · refine ⟨0, s, ζ, fun f => ?_, f1', hS1, hc1, l1, rfl⟩
      rw [show D + 1 + 1 + f = D + 1 + f + 1 by omega]
      simp only [f_X10_thinks_L50, ↓hvc (fun _ => vc_168), ↓hbind e1, ↓reduceIte, f_X10_thinks_J64]
end Mi
def FTh (q i : Nat) : Prop := FR 0 q i ∨ FR 17 q i ∨ q = 484 ∨ q = 485 ∨ (q = 168 ∧ 20 ≤ i ∧ i ≤ 27)
def RS0 : RS := (fun _ => 12, 0, 0, 0, 0)
section Mj
variable {μ : MM} {B : Bk}
theorem m_thinks (hm : MR μ 0 B) (hB : BOK B) : ∃ d s' ν, f_X10_thinks 168 (mem μ) = some (mem ν) ∧ Fr FTh μ ν ∧ MR ν 17 B ∧ RsM ν s' ∧ (∀ w, w < 12 → ν.1 210 w = eI (s'.1 w)) ∧ Rr (gE B) (bn B) (bw B) d RS0 s' := by
  obtain ⟨ν1, e1, m1, f1⟩ := m_copies (x := 0) (y := 17) (f := 0) (t := 17) rfl rfl (by omega) (by omega) (by omega) hm
  have m1' : MR ν1 0 B := hm.fr f1 fun q i a z => by unfold FR at a z; omega
  have key : Hw (f_X10_thinks_L9 f_X10_thinks_J30 5000 168 0 (mem ν1)) (fun r => ∃ d s' ν, r = mem ν ∧ Fr (fun q i => q = 210 ∨ q = 484 ∨ q = 485 ∨ (q = 168 ∧ 20 ≤ i ∧ i ≤ 27)) ν1 ν ∧ RsM ν s' ∧ (∀ w, w < 12 → ν.1 210 w = eI (s'.1 w)) ∧ Rr (gE B) (bn B) (bw B) d RS0 s') := by
    refine hw_for (L := fun N i (ν : MM) => f_X10_thinks_L9 f_X10_thinks_J30 N 168 i (mem ν)) (s0 := ν1) 12 (fun i ν => Fr (fun q _ => q = 210) ν1 ν ∧ ∀ k, k < i → ν.1 210 k = -1) ⟨Fr.refl _ _, fun k a => absurd a (Nat.not_lt_zero _)⟩ (by decide) (fun i hi ν hν => Or.inl ⟨st ν 210 i (-1), ⟨hν.1.st rfl, fun k a => ?_⟩, fun N => ?_⟩) (fun ν hν N => ?_)
    · by_cases z : k = i
      · rw [z, st_same]
      · rw [st_ne (Or.inr z)]; exact hν.2 k (by omega)
    · have c : (Int32.ofNat i ≥ 12) = False := by rw [lge_12 (by omega)]; exact eq_false (by omega)
      show f_X10_thinks_L9 f_X10_thinks_J30 (N + 1) 168 (Int32.ofNat i) (mem ν) = f_X10_thinks_L9 f_X10_thinks_J30 N 168 (Int32.ofNat (i + 1)) (mem (st ν 210 i (-1)))
      simp only [f_X10_thinks_L9, c, ↓reduceIte, ↓hbind gR_168_11, ↓hbind mr_m0, ↓hbind (ms_m0 hi), lt_go, i_succ]
    · obtain ⟨f, g⟩ := hν
      have c : (Int32.ofNat 12 ≥ 12) = True := eq_true (by decide)
      obtain ⟨η, hd⟩ : ∃ x, x = st (st (st (st ν 168 20 0) 168 21 0) 168 22 0) 168 23 0 := ⟨_, rfl⟩
      have f2 : Fr (fun q i => q = 168 ∧ 20 ≤ i ∧ i ≤ 23) ν η := by rw [hd]; exact ((((Fr.refl _ _).st ⟨rfl, by omega⟩).st ⟨rfl, by omega⟩).st ⟨rfl, by omega⟩).st ⟨rfl, by omega⟩
      have rc : RsM η RS0 := by
        rw [hd]
        refine ⟨?_, ?_, ?_, ?_⟩
        · rw [st_ne (Or.inr (by omega)), st_ne (Or.inr (by omega)), st_ne (Or.inr (by omega)), st_same]; rfl
        · rw [st_ne (Or.inr (by omega)), st_ne (Or.inr (by omega)), st_same]; rfl
        · rw [st_ne (Or.inr (by omega)), st_same]; rfl
        · rw [st_same]; rfl
      have hS := ((m1'.MS hB).sk f (fun q i a z => by omega) (e_Ms (gE B)).1 (fun x hx => by rw [g x hx]; exact (eI_ge (Nat.le_refl 12)).symm)).ll f2 (fun q i a z => by omega)
      obtain ⟨d, s', ξ, e, f3, s3, c3, r⟩ := m_rn 12 RS0 η (by omega) (hB.SOK.M (e_Ms (gE B))) ⟨e_Ms (gE B), sz_e, Nat.le_refl 0⟩ (fun _ => rfl) hS rc
      have e : f_X10_thinks_L50 f_X10_thinks_J64 5000 168 (mem η) = some (mem ξ) := e 4987
      rw [hd] at e
      show Hw (f_X10_thinks_L9 f_X10_thinks_J30 (N + 1) 168 (Int32.ofNat 12) (mem ν)) _
      simp only [f_X10_thinks_L9, c, ↓reduceIte, f_X10_thinks_J30, ↓hbind pI_168_20, ↓hbind pI_168_21, ↓hbind pI_168_22, ↓hbind pI_168_23, e]
      exact hw_ret ⟨d, s', ξ, rfl, ((f.mono fun q i z => Or.inl z).trans (f2.mono fun q i z => by omega)).trans f3, c3, s3.2.2.2, r⟩
  obtain ⟨r, e, d, s', ν, rfl, f, c, g, h⟩ := key
  refine ⟨d, s', ν, ?_, (f1.mono fun q i z => Or.inr (Or.inl z)).trans (f.mono fun q i z => by unfold FR; omega), m1.fr f (fun q i a z => by unfold FR at a; omega), c, g, h⟩
  simp only [f_X10_thinks, ↓hvc (fun _ => vc_168), ↓hbind e1, e]
end Mj
/-- an answer from the phases -/
def SPh (A : AS) (F : RS → Int32) (x : Int32 ⊕ String) (A' : AS) : Prop := A' = A ∧ ∃ d s, Rr (gE (aB A)) (bn (aB A)) (bw (aB A)) d RS0 s ∧ x = .inl (F s)
theorem SPh.uq {A : AS} {F : RS → Int32} : UQ (SPh A F) := by
  rintro x A1 y A2 ⟨rfl, d, s, h, rfl⟩ ⟨rfl, d', s', h', rfl⟩
  rw [h.uniq h']; exact ⟨rfl, rfl⟩
section O26
variable {T : MM → Bk → Prop} {μ : MM} {A : AS}
theorem c_runPhases (hC : RC T μ A) (hA : AOK A) : ∃ d s ξ, f_X9_runPhases 0 (mem μ) = some (mem ξ) ∧ Fr CQ μ ξ ∧ Rr (gE (aB A)) (bn (aB A)) (bw (aB A)) d RS0 s ∧ RsC ξ s ∧ PR ξ 142 s.1 := by
  have hB := hA.1
  obtain ⟨ν, e1, f1, s1, o1⟩ := c_loaded hC hA
  obtain ⟨d, s, ξ, e2, f2, s2, c2, r⟩ := c_run s1 o1.Eb o1.1 (fun w t q => (o1.2.2.1 w t q).1) (fun w q => Nat.lt_of_lt_of_le (o1.2.2.2.1 w q) o1.1)
  refine ⟨d, s, ξ, ?_, (f1.mono fun _ _ z => z.Q).trans (f2.mono fun q i z => by unfold FRn FP at z; unfold CQ; omega), r, c2, s2.2.2⟩
  simp only [f_X9_runPhases, ↓hbind gR_0_4, ↓hbind gR_0_0, ↓hvc (fun _ => vc_141), ↓hbind e1, ↓hbind gR_0_6, ↓hvc (fun _ => vc_151), ↓hbind e2]
theorem m_thought (hM : RM μ A) (hA : AOK A) (t : μ.1 168 0 = 0) : ∃ d s ν ξ, f_X10_thinks 168 (mem μ) = some (mem ν) ∧ f_X10_copies 168 17 0 (mem ν) = some (mem ξ) ∧ Fr ML μ ξ ∧ RM ξ A ∧ ξ.1 168 0 = 0 ∧ Rr (gE (aB A)) (bn (aB A)) (bw (aB A)) d RS0 s ∧ RsM ξ s ∧ ∀ w, w < 12 → ν.1 210 w = eI (s.1 w) := by
  have hB := hA.1
  obtain ⟨d, s, ν, e1, f1, m1, c1, g1, r⟩ := m_thinks hM.1 hB
  obtain ⟨ξ, e2, m2, f2⟩ := m_copies (x := 17) (y := 0) (f := 17) (t := 0) rfl rfl (by omega) (by omega) (by omega) m1
  have f' : Fr (fun q i => QM q i ∨ FR 0 q i) μ ξ := (f1.mono fun q i z => by unfold FTh at z; unfold QM FR; unfold FR at z; omega).trans (f2.mono fun q i z => Or.inr z)
  refine ⟨d, s, ν, ξ, e1, e2, f'.mono fun q i z => ?_, hM.re f' m2, ?_, r, ⟨?_, ?_, ?_, ?_⟩, g1⟩
  · rcases z with z | z
    · exact z.L
    · unfold FR at z; unfold ML; omega
  · rw [(f2 _ _ (by unfold FR; omega)).1, (f1 _ _ (by unfold FTh FR; omega)).1]; exact t
  · rw [(f2 _ _ (by unfold FR; omega)).1]; exact c1.1
  · rw [(f2 _ _ (by unfold FR; omega)).1]; exact c1.2.1
  · rw [(f2 _ _ (by unfold FR; omega)).1]; exact c1.2.2.1
  · rw [(f2 _ _ (by unfold FR; omega)).1]; exact c1.2.2.2
theorem ph_ok (hT : TF T) (hA : AOK A) (hC : RC T μ A) (hM : RM μ A) {wc : String → Option Int32} {f : xH → Option ((Int32 ⊕ String) × xH)} {g : xH → Option (Int32 × xH)} (F : RS → Int32)
    (hf : ∀ ξ s, f_X9_runPhases 0 (mem μ) = some (mem ξ) → RsC ξ s → PR ξ 142 s.1 → f (mem μ) = some (.inl (F s), mem ξ))
    (hg : ∀ μ ν ξ s, RM μ A → f_X10_thinks 168 (mem (tz μ)) = some (mem ν) → f_X10_copies 168 17 0 (mem ν) = some (mem ξ) → RsM ξ s → (∀ w, w < 12 → ν.1 210 w = eI (s.1 w)) → g (mem μ) = some (F s, mem ξ)) : OKc T μ (LB wc f g) := by
  obtain ⟨d, s, ξ, e1, fq, r, c, p⟩ := c_runPhases hC hA
  refine LB_ok hT hM (SPh.uq (A := A) (F := F)) ⟨_, ξ, A, hf ξ s e1 c p, fq.mono fun _ _ z => z.L, hC.fr hT fq fun q i _ z => Or.inl z, hA, rfl, d, s, r, rfl⟩ (fun μ' hν => ?_)
  obtain ⟨d', s', ν, ζ, e2, e3, f3, m3, t3, r', c', g'⟩ := m_thought hν.t hA t0_0
  exact ⟨_, _, ζ, A, hg μ' ν ζ s' hν e2 e3 c' g', t0_ML.trans f3, m3, ⟨rfl, d', s', r', rfl⟩, t3, rfl⟩
theorem m_in03 {x : Int32} (h : x = 0 ∨ x = 1 ∨ x = 2 ∨ x = 3) {g : xH} : f_X10_in x 0 3 g = some (1, g) := by
  rw [m_in]
  rcases h with rfl | rfl | rfl | rfl <;> rfl
theorem op_phases (hT : TF T) (hA : AOK A) (hC : RC T μ A) (hM : RM μ A) (x : Int32) : OKc T μ (LB wc_L_phases (f_X9_phases 0 x) (f_X10_phases 168 x)) := by
  by_cases c : 0 ≤ x ∧ x ≤ 3
  · have cl : (x < 0) = False := eq_false (Int32.not_lt.mpr c.1)
    have cg : (x > 3) = False := eq_false (Int32.not_lt.mpr c.2)
    have mi : ∀ h : xH, f_X10_in x 0 3 h = some (1, h) := fun h => by rw [m_in, decide_eq_true c]; rfl
    by_cases x0 : x = 0
    · subst x0
      refine ph_ok hT hA hC hM (fun s => Int32.ofNat s.2.1) (fun ξ s e1 cc p => ?_) (fun μ' ν ξ s hν e2 e3 cc g => ?_)
      · have k := cc.1
        simp only [f_X9_phases, f_X9_phases_J15, cl, cg, ↓reduceIte, ↓hvc (fun _ => vc_0), ↓hbind c_da1, ↓thr_ok, ↓thr_er, ↓hbind e1, show (((0 : Int32)).toInt < 0 ∨ 2 < ((0 : Int32)).toInt) = False from eq_false (by decide), ↓tsf_at (show (((0 : Int32)).toInt - 0).toNat = 0 from by decide), ↓hbind gR_0_6, ↓hbind gI_151_5, k]
      · have k := cc.1
        simp only [f_X10_phases, f_X10_phases_J20, ↓hbind pI_t0, ↓hbind (mi _), z_1, ↓reduceIte, ↓hvc (fun _ => vc_168), ↓hbind m_b0t, ↓hbind e2, ↓hbind e3, ↓hbind gI_168_20, k, f_X10_phases_J80]
    · by_cases x1 : x = 1
      · subst x1
        refine ph_ok hT hA hC hM (fun s => Int32.ofNat s.2.2.1) (fun ξ s e1 cc p => ?_) (fun μ' ν ξ s hν e2 e3 cc g => ?_)
        · have k := cc.2.1
          simp only [f_X9_phases, f_X9_phases_J15, cl, cg, ↓reduceIte, ↓hvc (fun _ => vc_0), ↓hbind c_da1, ↓thr_ok, ↓thr_er, ↓hbind e1, show (((1 : Int32)).toInt < 0 ∨ 2 < ((1 : Int32)).toInt) = False from eq_false (by decide), ↓tsf_at (show (((1 : Int32)).toInt - 0).toNat = 1 from by decide), ↓hbind gR_0_6, ↓hbind gI_151_6, k]
        · have k := cc.2.1
          simp only [f_X10_phases, f_X10_phases_J20, ↓hbind pI_t0, ↓hbind (mi _), z_1, ↓reduceIte, ↓hvc (fun _ => vc_168), ↓hbind m_b0t, ↓hbind e2, ↓hbind e3, ↓hbind gI_168_21, k, f_X10_phases_J80]
      · by_cases x2 : x = 2
        · subst x2
          refine ph_ok hT hA hC hM (fun s => Int32.ofNat s.2.2.2.1) (fun ξ s e1 cc p => ?_) (fun μ' ν ξ s hν e2 e3 cc g => ?_)
          · have k := cc.2.2.1
            simp only [f_X9_phases, f_X9_phases_J15, cl, cg, ↓reduceIte, ↓hvc (fun _ => vc_0), ↓hbind c_da1, ↓thr_ok, ↓thr_er, ↓hbind e1, show (((2 : Int32)).toInt < 0 ∨ 2 < ((2 : Int32)).toInt) = False from eq_false (by decide), ↓tsf_at (show (((2 : Int32)).toInt - 0).toNat = 2 from by decide), ↓hbind gR_0_6, ↓hbind gI_151_7, k]
          · have k := cc.2.2.1
            simp only [f_X10_phases, f_X10_phases_J20, ↓hbind pI_t0, ↓hbind (mi _), z_1, ↓reduceIte, ↓hvc (fun _ => vc_168), ↓hbind m_b0t, ↓hbind e2, ↓hbind e3, z_2, show ((2 : Int32) = 1) = False from eq_false (by decide), show ((2 : Int32) = 0) = False from eq_false (by decide), ↓hbind gI_168_22, k, f_X10_phases_J80]
        · have x3 : x = 3 := by
            have a0 := Int32.le_iff_toInt_le.mp c.1
            have a3 := Int32.le_iff_toInt_le.mp c.2
            have b0 : x.toInt ≠ 0 := fun z => x0 (Int32.toInt_inj.mp z)
            have b1 : x.toInt ≠ 1 := fun z => x1 (Int32.toInt_inj.mp z)
            have b2 : x.toInt ≠ 2 := fun z => x2 (Int32.toInt_inj.mp z)
            have a0 : (0 : Int) ≤ x.toInt := a0
            have a3 : x.toInt ≤ (3 : Int) := a3
            exact Int32.toInt_inj.mp (show x.toInt = 3 by omega)
          subst x3
          refine ph_ok hT hA hC hM (fun s => Int32.ofNat s.2.2.2.2) (fun ξ s e1 cc p => ?_) (fun μ' ν ξ s hν e2 e3 cc g => ?_)
          · have k := cc.2.2.2
            simp only [f_X9_phases, f_X9_phases_J15, cl, cg, ↓reduceIte, ↓hvc (fun _ => vc_0), ↓hbind c_da1, ↓thr_ok, ↓thr_er, ↓hbind e1, show (((3 : Int32)).toInt < 0 ∨ 2 < ((3 : Int32)).toInt) = True from eq_true (by decide), ↓hbind gR_0_6, ↓hbind gI_151_8, k]
          · have k := cc.2.2.2
            simp only [f_X10_phases, f_X10_phases_J20, ↓hbind pI_t0, ↓hbind (mi _), z_1, ↓reduceIte, ↓hvc (fun _ => vc_168), ↓hbind m_b0t, ↓hbind e2, ↓hbind e3, show ((3 : Int32) = 2) = False from eq_false (by decide), show ((3 : Int32) = 1) = False from eq_false (by decide), show ((3 : Int32) = 0) = False from eq_false (by decide), ↓hbind gI_168_23, k, f_X10_phases_J80]
  · have mi : ∀ h : xH, f_X10_in x 0 3 h = some (0, h) := fun h => by rw [m_in, decide_eq_false c]; rfl
    refine LB_ok hT hM (SA.uq (A := A)) (CX_A hT hC hA fun ν e => ?_) (fun ν hν => MX_A hν (w := 1) (b := 0) rfl (by decide) ?_)
    · by_cases d : x < 0
      · have d' : (x < 0) = True := eq_true d
        simp only [f_X9_phases, f_X9_phases_J14, f_X9_phases_J15, d', ↓reduceIte, ↓hvc (fun _ => vc_0), ↓hbind e, ↓thr_ok, ↓thr_er]
      · have d' : (x < 0) = False := eq_false d
        have d2 : (x > 3) = True := eq_true (Int32.not_le.mp fun z => c ⟨Int32.not_lt.mp d, z⟩)
        simp only [f_X9_phases, f_X9_phases_J14, f_X9_phases_J15, d', d2, ↓reduceIte, ↓hvc (fun _ => vc_0), ↓hbind e, ↓thr_ok, ↓thr_er]
    · simp only [f_X10_phases, f_X10_phases_J20, ↓hbind pI_t0, ↓hbind (mi _), ↓reduceIte, ↓hvc (fun _ => vc_168), ↓hbind (m_bA (show (1 : Int32) ≠ 0 by decide)), z_1]
theorem op_phased (hT : TF T) (hA : AOK A) (hC : RC T μ A) (hM : RM μ A) (x : Int32) : OKc T μ (LB wc_L_phased (f_X9_phased 0 x) (f_X10_phased 168 x)) := by
  have hB := hA.1
  have ek := c_kn bk1 hC.1 hB 0 x
  by_cases c : KN (aB A) 0 x
  · rw [pb_1 c] at ek
    rcases c.c hB with ⟨_, k, k1, k2, rfl⟩ | ⟨z, _⟩
    · refine ph_ok hT hA hC hM (fun s => eI (s.1 k)) (fun ξ s e1 cc p => ?_) (fun μ' ν ξ s hν e2 e3 cc g => ?_)
      · have et := c_taskOf pr142 p k2
        simp only [f_X9_phased, ↓hbind gR_0_0, ↓hvc (fun _ => bk_v bk1), ↓hbind ek, show bI true = 1 from rfl, ↓hvc (fun _ => vc_0), ↓hbind c_dp1, ↓thr_ok, ↓thr_er, ↓hbind e1, ↓hbind gR_0_4, ↓hbind gR_141_0, ↓hvc (fun _ => pr_v pr142), ↓hbind et]
      · have ei := m_isOne hν.t.1 hB 0 (Int32.ofNat k)
        rw [pb_1 c] at ei
        have eg := g k k2
        simp only [f_X10_phased, f_X10_phased_J20, ↓hbind pI_t0, ↓hvc (fun _ => vc_168), ↓hbind ei, show bI true = 1 from rfl, z_1, ↓reduceIte, ↓hbind m_b0t, ↓hbind e2, ↓hbind gR_168_11, ↓hbind mr_m0, ↓hbind (ma_m0 k2), eg, ↓hbind e3]
    · exact absurd z (by decide)
  · rw [pb_f c] at ek
    refine LB_ok hT hM (SP.uq (A := A)) (CX_P hT hC hA fun ν e => ?_) (fun ν hν => MX_P hν (w := 1) (b := 0) rfl (by decide) ?_)
    · simp only [f_X9_phased, ↓hbind gR_0_0, ↓hvc (fun _ => bk_v bk1), ↓hbind ek, show bI false = 0 from rfl, ↓hvc (fun _ => vc_0), ↓hbind e, ↓thr_ok, ↓thr_er]
    · have ei := m_isOne hν.t.1 hB 0 x
      rw [pb_f c] at ei
      simp only [f_X10_phased, f_X10_phased_J20, ↓hbind pI_t0, ↓hvc (fun _ => vc_168), ↓hbind ei, show bI false = 0 from rfl, ↓reduceIte, ↓hbind (m_bP (show (1 : Int32) ≠ 0 by decide)), z_1]
end O26
