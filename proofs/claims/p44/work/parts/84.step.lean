/-! STEPS: a bind whose first part is known goes on at once, its rest unseen -/
variable {Ξ : xH}
theorem hbind {α β : Type} {o : Option α} {r : α} (e : o = some r) (K : α → Option β) : o.bind K = K r := by rw [e]; rfl
theorem hvc {β γ : Type} {μ : MM} {ci a : Nat} (e : ∀ o : Option β, vc ((mX Ξ) μ) ci a o = o) (o : Option β) (K : β → Option γ) : (vc ((mX Ξ) μ) ci a o).bind K = o.bind K := by rw [e]
/-! ACTS: drop weight keep part pair -/
section Bx
variable {b : Nat} {μ ν : MM} {B : Bk}
theorem BC.prs (h : BC μ b B) {M : Nat → Nat} (hp : PR ν (b + 5) M) (f : Fr (FP (b + 5)) μ ν) : BC ν b (wM B M) := by
  have g : ∀ q i, q ≠ b + 6 → q ≠ b + 7 → ν.1 q i = μ.1 q i := fun q i x y => (f q i (by unfold FP; omega)).1
  have h1 := h.1
  refine h.upd (B' := wM B M) hp ?_ ?_ ?_ ?_ ?_ (fun q i a c => g _ _ (by omega) (by omega)) rfl rfl rfl
  · rw [g _ _ (by omega) (by omega)]; exact h1.1
  · rw [g _ _ (by omega) (by omega)]; exact h1.2.1
  · rw [g _ _ (by omega) (by omega)]; exact h1.2.2.1
  · rw [g _ _ (by omega) (by omega)]; exact h1.2.2.2.1
  · rw [g _ _ (by omega) (by omega)]; exact h1.2.2.2.2
theorem b_wk (h : BC μ b B) {k : Nat} : BC (st μ b 4 (Int32.ofNat k)) b (wk B k) := by
  have f : Fr (fun q i => q = b ∧ i = 4) μ (st μ b 4 (Int32.ofNat k)) := (Fr.refl _ _).st ⟨rfl, rfl⟩
  have h1 := h.1
  refine h.upd (B' := wk B k) (h.2.2.2.2.2.fr f (fun i => by omega) (fun i => by omega)) ?_ ?_ ?_ ?_ (st_same _ _ _ _) (fun q i a c => st_ne (Or.inl (by omega))) rfl rfl rfl
  · rw [st_ne (Or.inr (by omega))]; exact h1.1
  · rw [st_ne (Or.inr (by omega))]; exact h1.2.1
  · rw [st_ne (Or.inr (by omega))]; exact h1.2.2.1
  · rw [st_ne (Or.inr (by omega))]; exact h1.2.2.2.1
end Bx
section O4
variable {T : MM → Bk → Prop} {μ : MM} {A : AS}
end O4
