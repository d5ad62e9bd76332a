/-! ways to all sets of so many tasks -/
def ssum (W : Nat → Int64) (N : Nat) : Nat → Int64
  | 0 => 0
  | s + 1 => ssum W N s + (if cnt (fun k => s.testBit k) 12 = N then W s else 0)
theorem WyI_no {E : Nat → Nat → Bool} {i S : Nat} (h : ∀ j, E i j = false) : WyI E (i + 1) S = WyI E i S := by
  show fo64 (wf E (WyI E i) i S) 12 (WyI E i S) = _
  have : ∀ k, fo64 (wf E (WyI E i) i S) k (WyI E i S) = WyI E i S := by
    intro k
    induction k with
    | zero => rfl
    | succ k ih =>
      show wf E (WyI E i) i S k (fo64 (wf E (WyI E i) i S) k (WyI E i S)) = _
      rw [ih]
      exact if_neg fun z => by rw [h k] at z; exact absurd z.2 (by simp)
  exact this 12
