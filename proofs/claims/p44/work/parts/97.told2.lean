/-! OPERATIONS: told, case by case -/
theorem tsf_at {β : Type} {F : Nat → β} {n k : Nat} (e : n = k) : tsf F n = F k := by rw [e]; rfl
section O16
variable {T : MM → Bk → Prop} {μ : MM} {A : AS} {B : Bk}
theorem in011 {x : Int32} : (0 ≤ x ∧ x ≤ 11) → ∃ k, k < 12 ∧ x = Int32.ofNat k := by
  rintro ⟨a, b⟩
  rcases i32_cases x with q | ⟨k, hk, rfl⟩
  · exact absurd q (Int32.not_lt.mpr a)
  · rw [show (11 : Int32) = Int32.ofNat 11 from rfl, oN_le hk (by omega)] at b
    exact ⟨k, by omega, rfl⟩
end O16
