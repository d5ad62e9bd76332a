/-! OPERATIONS: wayAt -/
variable {Ξ : xH}
section O8
variable {T : MM → Bk → Prop} {μ : MM} {A : AS}
theorem CX_P' (hT : TF T) (h : RC T μ A) (hA : AOK A) {ξ : MM} (f : Fr CQ μ ξ) {o : Option ((Int32 ⊕ String) × xH)} (e : ∀ h', f_X9_demandPlace 0 0 ((mX Ξ) ξ) = some (.inr NSE, h') → o = some (.inr NSE, h')) : CX Ξ T μ o (SP A) := by
  intro hl
  obtain ⟨ν, e1, f1, r⟩ := CX.p hT (h.fr hT f fun q i _ z => Or.inl z) hA hl
  exact ⟨.inr NSE, ν, _, [(12, dX)], e _ e1, ⟨Nat.le_refl 1, fun c z => by rw [List.mem_singleton.mp z]; simp [dX]⟩, (f.mono fun _ _ z => z.L).trans f1, r, refP_ok hA, rfl, rfl⟩
/-- the k-th of the way -/
def wPl (pw pt : Nat → Nat) (k : Nat) : Nat := if k % 2 = 0 then pw (k / 2) else pt (k / 2)
theorem wPl_at {L : Nat} {pw pt : Nat → Nat} {ξ : MM} {a : Nat} (h : ∀ i, i < L → ξ.1 a (2 * i) = Int32.ofNat (pw i) ∧ ξ.1 a (2 * i + 1) = Int32.ofNat (pt i)) {k : Nat} (hk : k < 2 * L) : ξ.1 a k = Int32.ofNat (wPl pw pt k) := by
  unfold wPl
  obtain ⟨h1, h2⟩ := h (k / 2) (by omega)
  by_cases c : k % 2 = 0
  · rw [show 2 * (k / 2) = k by omega] at h1
    rw [if_pos c]; exact h1
  · rw [show 2 * (k / 2) + 1 = k by omega] at h2
    rw [if_neg c]; exact h2
end O8
