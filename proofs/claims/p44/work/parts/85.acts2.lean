section O4
variable {T : MM → Bk → Prop} {μ : MM} {A : AS}
theorem in01 {x : Int32} : (0 ≤ x ∧ x ≤ 1) ↔ (x = 0 ∨ x = 1) := by
  rcases i32_cases x with q | ⟨k, hk, rfl⟩
  · constructor
    · rintro ⟨a, _⟩; exact absurd q (Int32.not_lt.mpr a)
    · rintro (z | z) <;> (subst z; exact absurd q (by decide))
  · rw [show (0 : Int32) = Int32.ofNat 0 from rfl, show (1 : Int32) = Int32.ofNat 1 from rfl, oN_le (by omega) hk, oN_le hk (by omega), oN_inj hk (by omega), oN_inj hk (by omega)]
    omega
end O4
