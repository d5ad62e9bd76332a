/-! OPERATIONS: undo -/
/-- the latest act is taken back -/
def wU (A : AS) (B : Bk) (H : List Bk) : AS := mkA B H (aN A) (aY A) (aP A) (aX A) (aZ A)
section O7
variable {T : MM → Bk → Prop} {μ : MM} {A : AS}
theorem c_undo (hT : TF T) (hA : AOK A) (hC : RC T μ A) {H : List Bk} {B : Bk} (hH : aH A = H ++ [B]) : ∃ ν, f_X9_undo 0 (mem μ) = some (Int32.ofNat H.length, mem ν) ∧ Fr CL μ ν ∧ RC T ν (wU A B H) := by
  obtain ⟨h1, h2, ⟨h3, h4⟩, h5, h6, h7, h8⟩ := hC
  rw [hH] at h2
  obtain ⟨ν, e, b, hc, f⟩ := c_takeBack h2
  let ξ := st ν 0 9 0
  have f2 : Fr (fun q i => q = 0 ∧ i = 9) ν ξ := (Fr.refl _ _).st ⟨rfl, rfl⟩
  have hc' : HC ξ H := hc.fr f2 fun q i a z => by unfold FH at a; omega
  have ff : Fr (fun q i => FH q i ∨ FB 1 q i ∨ (q = 0 ∧ i = 9)) μ ξ := (f.mono fun q i z => z.elim Or.inl fun y => Or.inr (Or.inl y)).trans (f2.mono fun q i z => Or.inr (Or.inr z))
  have nn : ∀ q i, (q = 139 ∨ q = 140 ∨ (q = 0 ∧ i ≠ 9)) → ξ.1 q i = μ.1 q i := fun q i a => (ff q i (by unfold FB FH; omega)).1
  have ez : pZ (mem ν) 9 0 9 0 = some (mem ξ) := pZ_m (by decide +kernel) (Or.inl rfl)
  have el : ξ.1 17 2 = Int32.ofNat H.length := by obtain ⟨x, -, -, h, -⟩ := hc'; exact h
  refine ⟨ξ, ?_, ff.mono fun q i z => by unfold FH FB at z; unfold CL; omega, b.fr f2 (fun q i a c z => by omega), hc', ⟨?_, fun k hk => ?_⟩, ?_, ?_, ?_, Or.inl (st_same _ _ _ _)⟩
  · simp only [f_X9_undo, ↓hbind gR_0_2, ↓hbind gR_0_0, ↓hvc (fun _ => vc_17), ↓hbind e, z_1, ↓reduceIte, ↓hbind ez, ↓hbind gI_17_2, el]
  · rw [nn _ _ (by omega)]; exact h3
  · rw [nn _ _ (by omega)]; exact h4 k hk
  · rw [nn _ _ (by omega)]; exact h5
  · rw [nn _ _ (by omega)]; exact h6
  · rw [nn _ _ (by omega)]; exact h7
theorem m_undo (hM : RM μ A) {H : List Bk} {B : Bk} (hH : aH A = H ++ [B]) : ∃ ν, f_X10_undo 168 (mem μ) = some (Int32.ofNat H.length, mem ν) ∧ Fr ML μ ν ∧ RM ν (wU A B H) := by
  have hM' := hM.t
  obtain ⟨h1, h2, ⟨h3, h4⟩, h5, h6, h7⟩ := hM'
  obtain ⟨g1, g2, g3⟩ := h2
  rw [hH] at g1 g2 g3
  have g1 : (tz μ).1 168 14 = Int32.ofNat (H.length + 1) := by rw [g1, List.length_append]; rfl
  have g2 : H.length + 1 ≤ 15 := by rw [List.length_append] at g2; exact g2
  have hB : MR (tz μ) (2 + H.length) B := g3 H.length B (by simp)
  let ν := st (tz μ) 168 14 (Int32.ofNat H.length)
  have f1 : Fr (fun q i => q = 168 ∧ i = 14) (tz μ) ν := (Fr.refl _ _).st ⟨rfl, rfl⟩
  have hB1 : MR ν (2 + H.length) B := hB.fr f1 fun q i a c => by unfold FR at a; omega
  obtain ⟨ξ, e, p1, p2⟩ := m_copies (x := (2 : Int32) + Int32.ofNat H.length) (y := 0) (f := 2 + H.length) (t := 0) (by rw [show (2 : Int32) = Int32.ofNat 2 from rfl, oN_add]) rfl (by omega) (by omega) (by omega) hB1
  have e14 : ν.1 168 14 = Int32.ofNat H.length := st_same _ _ _ _
  have x14 : ξ.1 168 14 = Int32.ofNat H.length := by rw [(p2 _ _ (by unfold FR; omega)).1]; exact e14
  have ff : Fr (fun q i => (q = 168 ∧ i = 14) ∨ FR 0 q i) (tz μ) ξ := (f1.mono fun q i z => Or.inl z).trans (p2.mono fun q i z => Or.inr z)
  have nn : ∀ q i, ((q = 168 ∧ i ≠ 14) ∨ q = 169 ∨ q = 170) → ξ.1 q i = (tz μ).1 q i := fun q i a => (ff q i (by unfold FR; omega)).1
  refine ⟨ξ, ?_, t0_ML.trans (ff.mono fun q i z => by unfold FR at z; unfold ML; omega), p1, ⟨x14, by show H.length ≤ 15; omega, fun j C ej => ?_⟩, ⟨?_, fun k hk => ?_⟩, ?_, ?_, ?_⟩
  · have n0 : ¬ (H.length + 1 = 0) := by omega
    have e3 : Int32.ofNat (H.length + 1) - (1 : Int32) = Int32.ofNat H.length := by rw [show (1 : Int32) = Int32.ofNat 1 from rfl, oN_sub (by omega), Nat.add_sub_cancel]
    have ep : pI (mem (tz μ)) 10 168 14 (Int32.ofNat H.length) = some (mem ν) := pI_168_14
    simp only [f_X10_undo, ↓hbind pI_t0, ↓hbind gI_168_14, g1, leq_0 (show H.length + 1 < 2147483648 by omega), n0, ↓reduceIte, e3, ↓hbind ep, e14, ↓hvc (fun _ => vc_168), ↓hbind e, x14]
  · have ej : H[j]? = some C := ej
    have lj := (List.getElem?_eq_some_iff.mp ej).1
    have := g3 j C (by rw [List.getElem?_append_left lj]; exact ej)
    exact this.fr ff fun q i a c => by unfold FR at a c; omega
  · rw [nn _ _ (by omega)]; exact h3
  · rw [nn _ _ (by omega)]; exact h4 k hk
  · rw [nn _ _ (by omega)]; exact h5
  · rw [nn _ _ (by omega)]; exact h6
  · rw [nn _ _ (by omega)]; exact h7
theorem op_undo (hT : TF T) (hA : AOK A) (hC : RC T μ A) (hM : RM μ A) : OKc T μ (LI (f_X9_undo 0) (f_X10_undo 168)) := by
  rcases List.eq_nil_or_concat (aH A) with h0 | ⟨H, B, h1⟩
  · refine LI_ok hT (S := fun v A' => v = -1 ∧ A' = A) hM (fun _ _ _ _ h h' => ⟨h.1.trans h'.1.symm, h.2.trans h'.2.symm⟩) ⟨-1, μ, A, ?_, Fr.refl _ _, hC, hA, rfl, rfl⟩ (fun ν hν => ⟨-1, tz ν, A, ?_, t0_ML, hν.t, rfl, rfl⟩)
    · have hc := hC.2.1
      rw [h0] at hc
      obtain ⟨r, ν, e, rfl, rfl⟩ := c_takeBack_0 hc
      simp only [f_X9_undo, ↓hbind gR_0_2, ↓hbind gR_0_0, ↓hvc (fun _ => vc_17), ↓hbind e, ↓reduceIte]
    · have e14 : (tz ν).1 168 14 = 0 := by
        have := hν.t.2.1.1
        rw [h0] at this; exact this
      simp only [f_X10_undo, ↓hbind pI_t0, ↓hbind gI_168_14, e14, ↓reduceIte]
  · rw [List.concat_eq_append] at h1
    obtain ⟨ν, e, f, r⟩ := c_undo hT hA hC h1
    have ok : AOK (wU A B H) := ⟨hA.2.1 B (by rw [h1]; simp), fun C hC' => hA.2.1 C (by rw [h1]; exact List.mem_append.mpr (Or.inl hC')), hA.2.2.1, hA.2.2.2⟩
    refine LI_ok hT (S := fun v A' => v = Int32.ofNat H.length ∧ A' = wU A B H) hM (fun _ _ _ _ h h' => ⟨h.1.trans h'.1.symm, h.2.trans h'.2.symm⟩) ⟨_, ν, _, e, f, r, ok, rfl, rfl⟩ (fun ν hν => ?_)
    obtain ⟨ξ, e, f, r⟩ := m_undo hν h1
    exact ⟨_, ξ, _, e, f, r, rfl, rfl⟩
end O7
