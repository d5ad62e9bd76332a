/-! OPERATIONS: reached cover hall -/
/-- an answer from what is reached -/
def SRe (A : AS) (F : Int32 → Int32 → Int32 → Int32 → Int32) (x : Int32 ⊕ String) (A' : AS) : Prop := A' = A ∧ ∃ k M' a b u v, Gr (gE (aB A)) 12 k (bM (aB A)) M' ∧ AlW (gE (aB A)) M' (bw (aB A)) a b ∧ AlW (trE (gE (aB A))) (tr M') (bt (aB A)) v u ∧ x = .inl (F a b u v)
theorem SRe.uq {A : AS} {F : Int32 → Int32 → Int32 → Int32 → Int32} : UQ (SRe A F) := by
  rintro x A1 y A2 ⟨rfl, k, M', a, b, u, v, g, r1, r2, rfl⟩ ⟨rfl, k', M'', a', b', u', v', g', r1', r2', rfl⟩
  obtain ⟨rfl, rfl⟩ := g.uniq g'
  obtain ⟨rfl, rfl⟩ := r1.uniq r1'
  obtain ⟨rfl, rfl⟩ := r2.uniq r2'
  exact ⟨rfl, rfl⟩
section O17
variable {T : MM → Bk → Prop} {μ : MM} {A : AS}
/-- the model's book is the same again -/
theorem RM.re (h : RM μ A) {ν : MM} (f : Fr (fun q i => QM q i ∨ FR 0 q i) μ ν) (m : MR ν 0 (aB A)) : RM ν A := by
  obtain ⟨h1, h2, ⟨h3, h4⟩, h5, h6, h7⟩ := h
  refine ⟨m, h2.fr f (by unfold QM FR; omega) (fun r q i a b c z => by unfold QM FR at z; unfold FR at c; omega), ⟨?_, fun k hk => ?_⟩, ?_, ?_, ?_⟩
  · rw [(f _ _ (by unfold QM FR; omega)).1]; exact h3
  · rw [(f _ _ (by unfold QM FR; omega)).1]; exact h4 k hk
  · rw [(f _ _ (by unfold QM FR; omega)).1]; exact h5
  · rw [(f _ _ (by unfold QM FR; omega)).1]; exact h6
  · rw [(f _ _ (by unfold QM FR; omega)).1]; exact h7
theorem c_mmLook (hC : RC T μ A) (hA : AOK A) : ∃ ν ξ k M', f_X9_makeMost 0 (mem μ) = some (Int32.ofNat (sz M'), mem ν) ∧ f_X5_look 149 141 (mem ν) = some (mem ξ) ∧ Fr CQ μ ξ ∧ Gr (gE (aB A)) 12 k (bM (aB A)) M' ∧ SR ξ (bn (aB A)) (bm (aB A)) (bw (aB A)) (bt (aB A)) (gE (aB A)) M' ∧ SOK (bn (aB A)) (bm (aB A)) (bw (aB A)) (gE (aB A)) M' ∧ CRs ξ (gE (aB A)) M' (bw (aB A)) (bt (aB A)) := by
  have hB := hA.1
  obtain ⟨ν, k, M', e1, f1, s1, o1, g⟩ := c_makeMost hC hA
  obtain ⟨ξ, e2, f2, r⟩ := c_look s1 o1 (fun t q => Nat.lt_of_lt_of_le (hB.t q) hB.m)
  exact ⟨ν, ξ, k, M', e1, e2, (f1.mono fun _ _ z => z.Q).trans (f2.mono fun q i z => by unfold FX at z; unfold CQ; omega), g, s1.fx f2, o1, r⟩
theorem m_lays (hM : RM μ A) (hA : AOK A) (t : μ.1 168 0 = 0) : ∃ ν k M', f_X10_laysReach 168 (mem μ) = some (mem ν) ∧ Fr ML μ ν ∧ RM ν A ∧ ν.1 168 0 = 0 ∧ Gr (gE (aB A)) 12 k (bM (aB A)) M' ∧ AlW (gE (aB A)) M' (bw (aB A)) (ν.1 500 0) (ν.1 500 1) ∧ AlW (trE (gE (aB A))) (tr M') (bt (aB A)) (ν.1 501 1) (ν.1 501 0) := by
  have hB := hA.1
  obtain ⟨k, ν, M', e, f, m, g, r1, r2⟩ := m_laysReach hM.1 hB
  have f' : Fr (fun q i => QM q i ∨ FR 0 q i) μ ν := f.mono fun q i z => by unfold FLr at z; unfold QM FR; unfold FR at z; omega
  refine ⟨ν, k, M', e, f'.mono fun q i z => ?_, hM.re f' m, ?_, g, r1, r2⟩
  · rcases z with z | z
    · exact z.L
    · unfold FR at z; unfold ML; omega
  · rw [(f _ _ (by unfold FLr FR; omega)).1]; exact t
/-- questions of what is reached -/
theorem re_ok (hT : TF T) (hA : AOK A) (hC : RC T μ A) (hM : RM μ A) {wc : String → Option Int32} {f : xH → Option ((Int32 ⊕ String) × xH)} {g : xH → Option (Int32 × xH)} (F : Int32 → Int32 → Int32 → Int32 → Int32)
    (hf : ∀ ν ξ (N : Nat), f_X9_makeMost 0 (mem μ) = some (Int32.ofNat N, mem ν) → f_X5_look 149 141 (mem ν) = some (mem ξ) → ξ.1 1 2 = bw (aB A) → f (mem μ) = some (.inl (F (ξ.1 149 0) (ξ.1 149 1) (ξ.1 149 2) (ξ.1 149 3)), mem ξ))
    (hg : ∀ μ ν, RM μ A → f_X10_laysReach 168 (mem (tz μ)) = some (mem ν) → RM ν A → g (mem μ) = some (F (ν.1 500 0) (ν.1 500 1) (ν.1 501 0) (ν.1 501 1), mem ν)) : OKc T μ (LB wc f g) := by
  obtain ⟨ν, ξ, k, M', e1, e2, fq, gr, -, -, r1, r2⟩ := c_mmLook hC hA
  have eb : ξ.1 1 2 = bw (aB A) := by rw [(fq _ _ (by unfold CQ; omega)).1]; exact hC.1.1.2.2.1
  refine LB_ok hT hM (SRe.uq (A := A) (F := F)) ⟨_, ξ, A, hf ν ξ _ e1 e2 eb, fq.mono fun _ _ z => z.L, hC.fr hT fq fun q i _ z => Or.inl z, hA, rfl, k, M', _, _, _, _, gr, r1, r2, rfl⟩ (fun μ' hν => ?_)
  obtain ⟨ζ, k', M'', e3, f3, m3, t3, g3, q1, q2⟩ := m_lays hν.t hA t0_0
  exact ⟨_, _, ζ, A, hg μ' ζ hν e3 m3, t0_ML.trans f3, m3, ⟨rfl, k', M'', _, _, _, _, g3, q1, q2, rfl⟩, t3, rfl⟩
theorem op_reached (hT : TF T) (hA : AOK A) (hC : RC T μ A) (hM : RM μ A) (x : Int32) : OKc T μ (LB wc_L_reached (f_X9_reached 0 x) (f_X10_reached 168 x)) := by
  by_cases c : x = 0 ∨ x = 1
  · rcases c with rfl | rfl
    · refine re_ok hT hA hC hM (fun a _ _ _ => a) (fun ν ξ N e1 e2 _ => ?_) (fun μ' ν hν e3 _ => ?_)
      · simp only [f_X9_reached, f_X9_reached_J10, f_X9_reached_J15, f_X9_reached_J55, ↓reduceIte, ↓hvc (fun _ => vc_0), ↓hbind c_dp1, ↓thr_ok, ↓thr_er, ↓hbind e1, ↓hbind gR_0_5, ↓hbind gR_0_4, ↓hvc (fun _ => vc_149), ↓hbind e2, ↓hbind gI_149_0]
      · simp only [f_X10_reached, f_X10_reached_J20, ↓hbind pI_t0, ↓hbind (m_in01 (show (0 : Int32) = 0 ∨ (0 : Int32) = 1 from Or.inl rfl)), z_1, ↓reduceIte, ↓hvc (fun _ => vc_168), ↓hbind m_b0t, ↓hbind e3, ↓hbind gR_168_33, ↓hbind a500_0]
    · refine re_ok hT hA hC hM (fun _ b _ _ => b) (fun ν ξ N e1 e2 _ => ?_) (fun μ' ν hν e3 _ => ?_)
      · simp only [f_X9_reached, f_X9_reached_J10, f_X9_reached_J15, f_X9_reached_J55, ↓reduceIte, z_1, ↓hvc (fun _ => vc_0), ↓hbind c_dp1, ↓thr_ok, ↓thr_er, ↓hbind e1, ↓hbind gR_0_5, ↓hbind gR_0_4, ↓hvc (fun _ => vc_149), ↓hbind e2, ↓hbind gI_149_1]
      · simp only [f_X10_reached, f_X10_reached_J20, ↓hbind pI_t0, ↓hbind (m_in01 (show (1 : Int32) = 0 ∨ (1 : Int32) = 1 from Or.inr rfl)), z_1, ↓reduceIte, ↓hvc (fun _ => vc_168), ↓hbind m_b0t, ↓hbind e3, ↓hbind gR_168_33, ↓hbind a500_1]
  · have d1 : ¬ x = 0 := fun z => c (Or.inl z)
    have d2 : ¬ x = 1 := fun z => c (Or.inr z)
    refine LB_ok hT hM (SP.uq (A := A)) (CX_P hT hC hA fun ν e => ?_) (fun ν hν => MX_P hν (w := 1) (b := 0) rfl (by decide) ?_)
    · simp only [f_X9_reached, f_X9_reached_J15, if_neg d1, if_neg d2, ↓hvc (fun _ => vc_0), ↓hbind e, ↓thr_ok, ↓thr_er]
    · simp only [f_X10_reached, f_X10_reached_J20, ↓hbind pI_t0, ↓hbind (m_out01 c), ↓reduceIte, ↓hvc (fun _ => vc_168), ↓hbind (m_bP (show (1 : Int32) ≠ 0 by decide)), z_1]
theorem op_cover (hT : TF T) (hA : AOK A) (hC : RC T μ A) (hM : RM μ A) (x : Int32) : OKc T μ (LB wc_L_cover (f_X9_cover 0 x) (f_X10_cover 168 x)) := by
  by_cases c : x = 0 ∨ x = 1
  · rcases c with rfl | rfl
    · refine re_ok hT hA hC hM (fun a _ _ _ => bw (aB A) &&& (a ^^^ (-1))) (fun ν ξ N e1 e2 eb => ?_) (fun μ' ν hν e3 m3 => ?_)
      · simp only [f_X9_cover, f_X9_cover_J10, f_X9_cover_J15, f_X9_cover_J65, ↓reduceIte, ↓hvc (fun _ => vc_0), ↓hbind c_dp1, ↓thr_ok, ↓thr_er, ↓hbind e1, ↓hbind gR_0_5, ↓hbind gR_0_4, ↓hbind gR_0_0, ↓hbind (bk_i2 bk1), eb, ↓hvc (fun _ => vc_149), ↓hbind e2, ↓hbind gI_149_0]
      · have e4 : ν.1 172 3 = bw (aB A) := m3.1.1.2.2.2.1
        simp only [f_X10_cover, f_X10_cover_J20, f_X10_cover_J64, ↓hbind pI_t0, ↓hbind (m_in01 (show (0 : Int32) = 0 ∨ (0 : Int32) = 1 from Or.inl rfl)), z_1, ↓reduceIte, ↓hvc (fun _ => vc_168), ↓hbind m_b0t, ↓hbind e3, ↓hbind gR_168_9, ↓hbind mr_h0, ↓hbind mh_a0_3, e4, ↓hbind gR_168_33, ↓hbind a500_0]
    · refine re_ok hT hA hC hM (fun _ b _ _ => b) (fun ν ξ N e1 e2 _ => ?_) (fun μ' ν hν e3 _ => ?_)
      · simp only [f_X9_cover, f_X9_cover_J10, f_X9_cover_J15, f_X9_cover_J65, ↓reduceIte, z_1, ↓hvc (fun _ => vc_0), ↓hbind c_dp1, ↓thr_ok, ↓thr_er, ↓hbind e1, ↓hbind gR_0_5, ↓hbind gR_0_4, ↓hvc (fun _ => vc_149), ↓hbind e2, ↓hbind gI_149_1]
      · simp only [f_X10_cover, f_X10_cover_J20, f_X10_cover_J64, ↓hbind pI_t0, ↓hbind (m_in01 (show (1 : Int32) = 0 ∨ (1 : Int32) = 1 from Or.inr rfl)), z_1, ↓reduceIte, ↓hvc (fun _ => vc_168), ↓hbind m_b0t, ↓hbind e3, ↓hbind gR_168_33, ↓hbind a500_1]
  · have d1 : ¬ x = 0 := fun z => c (Or.inl z)
    have d2 : ¬ x = 1 := fun z => c (Or.inr z)
    refine LB_ok hT hM (SP.uq (A := A)) (CX_P hT hC hA fun ν e => ?_) (fun ν hν => MX_P hν (w := 1) (b := 0) rfl (by decide) ?_)
    · simp only [f_X9_cover, f_X9_cover_J15, if_neg d1, if_neg d2, ↓hvc (fun _ => vc_0), ↓hbind e, ↓thr_ok, ↓thr_er]
    · simp only [f_X10_cover, f_X10_cover_J20, ↓hbind pI_t0, ↓hbind (m_out01 c), ↓reduceIte, ↓hvc (fun _ => vc_168), ↓hbind (m_bP (show (1 : Int32) ≠ 0 by decide)), z_1]
/-- an answer from how many pairs can be -/
def SNu (A : AS) (F : Nat → Int32) (x : Int32 ⊕ String) (A' : AS) : Prop := A' = A ∧ ∃ k, Nu (gE (aB A)) k ∧ x = .inl (F k)
theorem SNu.uq {F : Nat → Int32} : UQ (SNu A F) := by
  rintro x A1 y A2 ⟨rfl, k, n, rfl⟩ ⟨rfl, k', n', rfl⟩
  rw [n.uniq n']; exact ⟨rfl, rfl⟩
theorem op_hall (hT : TF T) (hA : AOK A) (hC : RC T μ A) (hM : RM μ A) (x : Int32) : OKc T μ (LB wc_L_hall (f_X9_hall 0 x) (f_X10_hall 168 x)) := by
  have hB := hA.1
  by_cases c : x = 0 ∨ x = 1
  · rcases c with rfl | rfl
    · obtain ⟨ν, k, M', e1, f1, s1, o1, g⟩ := c_makeMost hC hA
      have fq : Fr CQ μ ν := f1.mono fun _ _ z => z.Q
      have nu := (g.nu hB.Eb hB.M).2.1
      have eb : ν.1 1 2 = bw (aB A) := by rw [(fq _ _ (by unfold CQ; omega)).1]; exact hC.1.1.2.2.1
      have ec := c_bitCount (h := mem ν) hB.bw12
      refine LB_ok hT hM (SNu.uq (A := A) (F := fun k => Int32.ofNat (cnt (hb (bw (aB A))) 12) - Int32.ofNat k)) ⟨_, ν, A, ?_, fq.mono fun _ _ z => z.L, hC.fr hT fq fun q i _ z => Or.inl z, hA, rfl, _, nu, rfl⟩ (fun μ' hν => ?_)
      · simp only [f_X9_hall, f_X9_hall_J10, f_X9_hall_J15, ↓reduceIte, ↓hvc (fun _ => vc_0), ↓hbind c_da1, ↓thr_ok, ↓thr_er, ↓hbind e1, ↓hbind gR_0_0, ↓hbind (bk_i2 bk1), eb, ↓hbind ec]
      · obtain ⟨ζ, k', M'', e3, f3, m3, t3, -⟩ := m_lays hν.t hA t0_0
        obtain ⟨j, ω, e4, f4, n4⟩ := m_nuB m3.1 hB
        have f4' : Fr QM ζ ω := f4.mono fun _ _ z => z.Q
        have e5 : ζ.1 172 3 = bw (aB A) := m3.1.1.2.2.2.1
        have eo := m_ones (h := mem ζ) hB.bw12
        refine ⟨_, _, ω, A, ?_, (t0_ML.trans f3).trans (f4'.mono fun _ _ z => z.L), m3.fr f4' fun q i _ _ z => z, ⟨rfl, j, n4, rfl⟩, ?_, rfl⟩
        · simp only [f_X10_hall, f_X10_hall_J20, f_X10_hall_J63, ↓hbind pI_t0, ↓hbind (m_in01 (show (0 : Int32) = 0 ∨ (0 : Int32) = 1 from Or.inl rfl)), z_1, ↓reduceIte, ↓hvc (fun _ => vc_168), ↓hbind m_b0t, ↓hbind e3, ↓hbind gR_168_9, ↓hbind mr_h0, ↓hbind mh_a0_3, e5, ↓hbind eo, ↓hbind e4]
        · rw [(f4 _ _ (by unfold Fk; omega)).1]; exact t3
    · refine re_ok hT hA hC hM (fun a _ _ _ => a) (fun ν ξ N e1 e2 _ => ?_) (fun μ' ν hν e3 _ => ?_)
      · simp only [f_X9_hall, f_X9_hall_J10, f_X9_hall_J15, ↓reduceIte, z_1, ↓hvc (fun _ => vc_0), ↓hbind c_da1, ↓thr_ok, ↓thr_er, ↓hbind e1, ↓hbind gR_0_5, ↓hbind gR_0_4, ↓hvc (fun _ => vc_149), ↓hbind e2, ↓hbind gI_149_0]
      · simp only [f_X10_hall, f_X10_hall_J20, f_X10_hall_J63, ↓hbind pI_t0, ↓hbind (m_in01 (show (1 : Int32) = 0 ∨ (1 : Int32) = 1 from Or.inr rfl)), z_1, ↓reduceIte, ↓hvc (fun _ => vc_168), ↓hbind m_b0t, ↓hbind e3, ↓hbind gR_168_33, ↓hbind a500_0]
  · have d1 : ¬ x = 0 := fun z => c (Or.inl z)
    have d2 : ¬ x = 1 := fun z => c (Or.inr z)
    refine LB_ok hT hM (SA.uq (A := A)) (CX_A hT hC hA fun ν e => ?_) (fun ν hν => MX_A hν (w := 1) (b := 0) rfl (by decide) ?_)
    · simp only [f_X9_hall, f_X9_hall_J15, if_neg d1, if_neg d2, ↓hvc (fun _ => vc_0), ↓hbind e, ↓thr_ok, ↓thr_er]
    · simp only [f_X10_hall, f_X10_hall_J20, ↓hbind pI_t0, ↓hbind (m_out01 c), ↓reduceIte, ↓hvc (fun _ => vc_168), ↓hbind (m_bA (show (1 : Int32) ≠ 0 by decide)), z_1]
end O17
