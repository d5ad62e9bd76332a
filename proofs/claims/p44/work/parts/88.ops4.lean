/-! OPERATIONS: undo -/
variable {Ξ : xH}
/-- the latest act is taken back -/
def wU (A : AS) (B : Bk) (H : List Bk) : AS := mkA B H (aN A) (aY A) (aP A) (aX A) (aZ A)
section O7
variable {T : MM → Bk → Prop} {μ : MM} {A : AS}
theorem c_undo (hT : TF T) (hA : AOK A) (hC : RC T μ A) {H : List Bk} {B : Bk} (hH : aH A = H ++ [B]) : ∃ ν, f_X9_undo 0 ((mX Ξ) μ) = some (Int32.ofNat H.length, (mX Ξ) ν) ∧ Fr CL μ ν ∧ RC T ν (wU A B H) := by
  obtain ⟨h1, h2, ⟨h3, h4⟩, h5, h6, h7, h8⟩ := hC
  rw [hH] at h2
  obtain ⟨ν, e, b, hc, f⟩ := c_takeBack (Ξ := Ξ) h2
  let ξ := st ν 0 9 0
  have f2 : Fr (fun q i => q = 0 ∧ i = 9) ν ξ := (Fr.refl _ _).st ⟨rfl, rfl⟩
  have hc' : HC ξ H := hc.fr f2 fun q i a z => by unfold FH at a; omega
  have ff : Fr (fun q i => FH q i ∨ FB 1 q i ∨ (q = 0 ∧ i = 9)) μ ξ := (f.mono fun q i z => z.elim Or.inl fun y => Or.inr (Or.inl y)).trans (f2.mono fun q i z => Or.inr (Or.inr z))
  have nn : ∀ q i, (q = 139 ∨ q = 140 ∨ (q = 0 ∧ i ≠ 9)) → ξ.1 q i = μ.1 q i := fun q i a => (ff q i (by unfold FB FH; omega)).1
  have ez : pZ ((mX Ξ) ν) 9 0 9 0 = some ((mX Ξ) ξ) := pZ_x (by decide +kernel) (Or.inl rfl)
  have el : ξ.1 17 2 = Int32.ofNat H.length := by obtain ⟨x, -, -, h, -⟩ := hc'; exact h
  refine ⟨ξ, ?_, ff.mono fun q i z => by unfold FH FB at z; unfold CL; omega, b.fr f2 (fun q i a c z => by omega), hc', ⟨?_, fun k hk => ?_⟩, ?_, ?_, ?_, Or.inl (st_same _ _ _ _)⟩
  · simp only [f_X9_undo, ↓hbind gR_0_2, ↓hbind gR_0_0, ↓hvc (fun _ => vc_17), ↓hbind e, z_1, ↓reduceIte, ↓hbind ez, ↓hbind gI_17_2, el]
  · rw [nn _ _ (by omega)]; exact h3
  · rw [nn _ _ (by omega)]; exact h4 k hk
  · rw [nn _ _ (by omega)]; exact h5
  · rw [nn _ _ (by omega)]; exact h6
  · rw [nn _ _ (by omega)]; exact h7
end O7
