/-! OPERATIONS: cost fits most way wayAt wayFrom -/
section Mo
variable {μ : MM} {B : Bk}
end Mo
/-- THE WAY is one -/
theorem Tw.least {E : Nat → Nat → Bool} {M : Nat → Nat} {L L' : Nat} {pw pt pw' pt' : Nat → Nat} (h : Tw E M L pw pt) (l : ∀ v, v < pw 0 → M v = 12 → Nr E M v) (h' : Tw E M L' pw' pt') (l' : ∀ v, v < pw' 0 → M v = 12 → Nr E M v) : L = L' ∧ ∀ i, i < L → pw i = pw' i ∧ pt i = pt' i := by
  refine h.uniq h' ?_
  apply Nat.le_antisymm
  · apply Nat.le_of_not_lt; intro q; exact l _ q h'.2.1 _ (h'.2.2.2 0 h'.1).1
  · apply Nat.le_of_not_lt; intro q; exact l' _ q h.2.1 _ (h.2.2.2 0 h.1).1
theorem Tw.fin {E : Nat → Nat → Bool} {M : Nat → Nat} {L : Nat} {pw pt : Nat → Nat} (h : Tw E M L pw pt) (f : Fin' E M) : False := f _ h.2.2.1 h.2.1 _ (h.2.2.2 0 h.1).1
theorem Ff.Q {q i : Nat} (h : Ff q i) : CQ q i := by unfold Ff at h; unfold CQ; omega
section O2
variable {T : MM → Bk → Prop} {μ : MM} {A : AS}
theorem gE_W {B : Bk} : ∀ w t, gE B w t = true → hb (bw B) w = true := fun w t q => by
  simp only [gE, Bool.and_eq_true] at q
  exact q.1.2
end O2
