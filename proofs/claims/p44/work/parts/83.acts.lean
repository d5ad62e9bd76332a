/-! ACTS: helpers; the model's changes of row 0 -/
variable {Ξ : xH}
section Ac
variable {T : MM → Bk → Prop} {μ : MM} {A : AS}
theorem CX_K (hT : TF T) (h : RC T μ A) (hA : AOK A) {o : Option ((Int32 ⊕ String) × xH)} {v : Int32} {B2 : Bk} (hB2 : BOK B2)
    (e : ∀ ν1, f_X9_beginAct 0 ((mX Ξ) μ) = some ((mX Ξ) ν1) → BC ν1 1 (aB A) → ∃ ν2, BC ν2 1 B2 ∧ Fr (FB 1) ν1 ν2 ∧ ∀ ν3, f_X9_keepUp 0 ((mX Ξ) ν2) = some ((mX Ξ) ν3) → o = some (.inl v, (mX Ξ) ν3)) : CX Ξ T μ o (SK A v B2) := by
  obtain ⟨ν1, e1, b1, h1, t1, f1⟩ := c_beginAct (Ξ := Ξ) h hA
  obtain ⟨ν2, b2, f2, e2⟩ := e ν1 e1 b1
  obtain ⟨ν3, B', e3, b3, k3, f3⟩ := c_keepUp (Ξ := Ξ) b2 hB2
  have f23 : Fr (fun q i => FS q i ∨ FB 1 q i) ν1 ν3 := (f2.mono fun q i z => Or.inr z).trans f3
  have ff : Fr (fun q i => FS q i ∨ FB 1 q i ∨ FH q i ∨ (q = 0 ∧ i = 9)) μ ν3 := (f1.mono fun q i z => Or.inr (Or.inr z)).trans (f23.mono fun q i z => z.elim Or.inl fun y => Or.inr (Or.inl y))
  refine CX.of _ ν3 (wAct A B') ⟨e2 ν3 e3, ff.mono fun q i z => by unfold FS FB FH at z; unfold CL; omega, h.act hT b3 (h1.fr f23 fun q i a z => by unfold FH at a; unfold FS FB at z; omega) ?_ ff, wAct_ok hA (k3.ok hB2), rfl, B', k3, rfl⟩
  rw [(f23 _ _ (by unfold FS FB; omega)).1]; exact t1
end Ac
section Mr0
variable {μ : MM} {B : Bk}
end Mr0
section O3
variable {T : MM → Bk → Prop} {μ : MM} {A : AS}
/-- 0 to 99 -/
theorem in99 {x : Int32} : (0 ≤ x ∧ x ≤ 99) ↔ ∃ c, c ≤ 99 ∧ x = Int32.ofNat c := by
  have := inN_iff (n := 100) (x := x) (by omega)
  have e : (x ≤ 99) ↔ x < Int32.ofNat 100 := by
    rcases i32_cases x with q | ⟨k, hk, rfl⟩
    · exact ⟨fun _ => Int32.lt_of_lt_of_le q (by decide), fun _ => Int32.le_of_lt (Int32.lt_of_lt_of_le q (by decide))⟩
    · rw [show (99 : Int32) = Int32.ofNat 99 from rfl, oN_le hk (by omega), oN_lt hk (by omega)]; omega
  rw [e, this]
  constructor
  · rintro ⟨k, a, b⟩; exact ⟨k, by omega, b⟩
  · rintro ⟨k, a, b⟩; exact ⟨k, by omega, b⟩
end O3
