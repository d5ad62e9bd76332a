/-! OPERATIONS: wayAt -/
section O8
variable {T : MM → Bk → Prop} {μ : MM} {A : AS}
theorem CX_P' (hT : TF T) (h : RC T μ A) (hA : AOK A) {ξ : MM} (f : Fr CQ μ ξ) {o : Option ((Int32 ⊕ String) × xH)} (e : ∀ ν, f_X9_demandPlace 0 0 (mem ξ) = some (.inr NSE, mem ν) → o = some (.inr NSE, mem ν)) : CX T μ o (SP A) := by
  obtain ⟨ν, e1, f1, r⟩ := CX.p hT (h.fr hT f fun q i _ z => Or.inl z) hA
  exact ⟨.inr NSE, ν, _, e ν e1, (f.mono fun _ _ z => z.L).trans f1, r, refP_ok hA, rfl, rfl⟩
theorem MX_P' (h : RM μ A) {ξ : MM} (f : Fr QM (tz μ) ξ) (t : ξ.1 168 0 = 0) {o : Option (Int32 × xH)} {wc : String → Option Int32} {w b : Int32} (hw : wc NSE = some w) (h0 : w ≠ 0) (e : f_X10_bad 168 1 w 0 (mem ξ) = some (1, mem (bP ξ w)) → o = some (b, mem (bP ξ w))) : MX μ o wc (SP A) := by
  have r : RM ξ A := h.t.fr f fun q i _ _ z => z
  exact ⟨b, .inr NSE, _, _, e (m_bad_p h0 t), (t0_ML.trans (f.mono fun _ _ z => z.L)).trans bP_ML, r.refP w, ⟨rfl, rfl⟩, w, hw, h0, bP_0⟩
theorem Fh_0 {ξ : MM} (f : Fr Fh (tz μ) ξ) : ξ.1 168 0 = 0 := by rw [(f _ _ (by unfold Fh; omega)).1]; exact t0_0
/-- the k-th of the way -/
def wPl (pw pt : Nat → Nat) (k : Nat) : Nat := if k % 2 = 0 then pw (k / 2) else pt (k / 2)
theorem wPl_at {L : Nat} {pw pt : Nat → Nat} {ξ : MM} {a : Nat} (h : ∀ i, i < L → ξ.1 a (2 * i) = Int32.ofNat (pw i) ∧ ξ.1 a (2 * i + 1) = Int32.ofNat (pt i)) {k : Nat} (hk : k < 2 * L) : ξ.1 a k = Int32.ofNat (wPl pw pt k) := by
  unfold wPl
  obtain ⟨h1, h2⟩ := h (k / 2) (by omega)
  by_cases c : k % 2 = 0
  · rw [show 2 * (k / 2) = k by omega] at h1
    rw [if_pos c]; exact h1
  · rw [show 2 * (k / 2) + 1 = k by omega] at h2
    rw [if_neg c]; exact h2
theorem op_wayAt (hT : TF T) (hA : AOK A) (hC : RC T μ A) (hM : RM μ A) (x : Int32) : OKc T μ (LB wc_L_wayAt (f_X9_wayAt 0 x) (f_X10_wayAt 168 x)) := by
  have hB := hA.1
  obtain ⟨ν, e1, f1, s1, o1⟩ := c_loaded hC hA
  obtain ⟨r, ξ, e2, f2, q⟩ := c_findFirst s1 o1
  have fq : Fr CQ μ ξ := (f1.mono fun _ _ z => z.Q).trans (f2.mono fun _ _ z => z.Q)
  -- refused where x is no place of r
  have cno : ¬ (0 ≤ x ∧ x < r) → ∀ ζ, f_X9_demandPlace 0 0 (mem ξ) = some (.inr NSE, mem ζ) → f_X9_wayAt 0 x (mem μ) = some (.inr NSE, mem ζ) := fun n ζ e => by
    have n3 : f_X9_wayAt_J33 0 x 0 (mem ξ) = some (.inr NSE, mem ζ) := by
      simp only [f_X9_wayAt_J34, f_X9_wayAt_J33, ↓hvc (fun _ => vc_0), ↓hbind e, thr]
    simp only [f_X9_wayAt, ↓hbind gR_0_4, ↓hbind gR_0_0, ↓hvc (fun _ => vc_141), ↓hbind e1, ↓hbind e2]
    by_cases n1 : x < 0
    · rw [if_pos n1]; exact n3
    · rw [if_neg n1]
      by_cases n2 : x ≥ r
      · rw [if_pos n2]; exact n3
      · exact absurd ⟨Int32.not_lt.mp n1, Int32.not_le.mp n2⟩ n
  rcases q with ⟨r0, q⟩ | ⟨L, pw, pt, q1, q2, q3, q4, q5⟩
  · subst r0
    have n : ¬ (0 ≤ x ∧ x < 0) := fun z => Int32.not_lt.mpr z.1 z.2
    refine LB_ok hT hM (SP.uq (A := A)) (CX_P' hT hC hA fq (cno n)) (fun ν hν => ?_)
    obtain ⟨r', ζ, g1, g2, g3⟩ := m_hasWay (hν.t.1.MS hB) hB.SOK
    rcases g3 with ⟨-, -, g3⟩ | ⟨-, L, pw, pt, g3, -⟩
    · refine MX_P' hν (g2.mono fun _ _ z => z.Q) (Fh_0 g2) (w := 1) (b := 0) rfl (by decide) fun e => ?_
      have ein : f_X10_in x 0 (0 - 1) (mem ζ) = some (0, mem ζ) := by
        rw [m_in, decide_eq_false]
        · rfl
        · rintro ⟨z1, z2⟩
          exact absurd (Int32.le_trans z1 z2) (by decide)
      simp only [f_X10_wayAt, f_X10_wayAt_J30, ↓hbind pI_t0, ↓hvc (fun _ => vc_168), ↓hbind g1, ↓hbind gI_168_18, g3, ↓hbind ein, ↓reduceIte, ↓hbind e, z_1]
    · exact (g3.fin q).elim
  · have hL := q1.len hB.Eb
    have hL0 := q1.1
    by_cases c : ∃ k, k < 2 * L ∧ x = Int32.ofNat k
    · obtain ⟨k, hk, rfl⟩ := c
      refine LB_ok hT hM (SV.uq (A := A) (v := Int32.ofNat (wPl pw pt k))) (CX_V hT hC hA (ν := ξ) ?_ fq) (fun ν hν => ?_)
      · have n1 : ¬ (Int32.ofNat k < 0) := by rw [oN_l0 (by omega)]; exact id
        have n2 : ¬ (Int32.ofNat k ≥ r) := by rw [q3, oN_ge (by omega) (by omega)]; omega
        have ew := c_wayAtPlace q4 hk (by omega)
        rw [wPl_at q5 hk] at ew
        simp only [f_X9_wayAt, f_X9_wayAt_J34, f_X9_wayAt_J33, ↓hbind gR_0_4, ↓hbind gR_0_0, ↓hvc (fun _ => vc_141), ↓hvc (fun _ => vc_0), ↓hbind e1, ↓hbind e2, if_neg n1, if_neg n2, ↓hbind c_dp1, thr, ↓hbind ew]
      · obtain ⟨r', ζ, g1, g2, g3⟩ := m_hasWay (hν.t.1.MS hB) hB.SOK
        rcases g3 with ⟨-, g3, -⟩ | ⟨-, L', pw', pt', g3, g4, g5, g6⟩
        · exact (q1.fin g3).elim
        · obtain ⟨rfl, eq⟩ := q1.least q2 g3 g4
          refine MX_V hν (ν := ζ) ?_ (t0_Q.trans (g2.mono fun _ _ z => z.Q)) (Fh_0 g2)
          have ein : f_X10_in (Int32.ofNat k) 0 (Int32.ofNat (2 * L) - 1) (mem ζ) = some (1, mem ζ) := by
            rw [m_in, decide_eq_true]
            · rfl
            · rw [show (1 : Int32) = Int32.ofNat 1 from rfl, oN_sub (by omega), show (0 : Int32) = Int32.ofNat 0 from rfl, oN_le (by omega) (by omega), oN_le (by omega) (by omega)]
              omega
          have ev := wPl_at g6 hk
          have ew : wPl pw' pt' k = wPl pw pt k := by
            obtain ⟨a, b⟩ := eq (k / 2) (by omega)
            unfold wPl
            rw [a, b]
          rw [ew] at ev
          simp only [f_X10_wayAt, f_X10_wayAt_J30, ↓hbind pI_t0, ↓hvc (fun _ => vc_168), ↓hbind g1, ↓hbind gI_168_18, g5, ↓hbind ein, ↓reduceIte, z_1, ↓hbind (m_b0 (Fh_0 g2)), ↓hbind gR_168_19, ↓hbind (aI_483 (show k < 24 by omega)), ev]
    · have n : ¬ (0 ≤ x ∧ x < r) := by rw [q3, inN_iff (by omega)]; exact c
      refine LB_ok hT hM (SP.uq (A := A)) (CX_P' hT hC hA fq (cno n)) (fun ν hν => ?_)
      obtain ⟨r', ζ, g1, g2, g3⟩ := m_hasWay (hν.t.1.MS hB) hB.SOK
      rcases g3 with ⟨-, g3, -⟩ | ⟨-, L', pw', pt', g3, g4, g5, g6⟩
      · exact (q1.fin g3).elim
      · obtain ⟨rfl, eq⟩ := q1.least q2 g3 g4
        refine MX_P' hν (g2.mono fun _ _ z => z.Q) (Fh_0 g2) (w := 1) (b := 0) rfl (by decide) fun e => ?_
        have ein : f_X10_in x 0 (Int32.ofNat (2 * L) - 1) (mem ζ) = some (0, mem ζ) := by
          rw [m_in, decide_eq_false]
          · rfl
          · rintro ⟨z1, z2⟩
            rw [show (1 : Int32) = Int32.ofNat 1 from rfl, oN_sub (by omega)] at z2
            rcases i32_cases x with y | ⟨k, hk, rfl⟩
            · exact absurd y (Int32.not_lt.mpr z1)
            · rw [oN_le hk (by omega)] at z2
              exact c ⟨k, by omega, rfl⟩
        simp only [f_X10_wayAt, f_X10_wayAt_J30, ↓hbind pI_t0, ↓hvc (fun _ => vc_168), ↓hbind g1, ↓hbind gI_168_18, g5, ↓hbind ein, ↓reduceIte, ↓hbind e, z_1]
end O8
