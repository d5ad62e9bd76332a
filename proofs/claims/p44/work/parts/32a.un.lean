/-! a result that is never null; arrays given back; a null that is known -/
theorem Y.un {ρ : Type} {g : xG} {D : xD} {h0 : xH} {cl : Bool} {inj : ρ → xR} {o : Option Nat} {pc : Nat} {loc : xL} {st : List Value} {h : xH} {K : Nat → Option ρ} (kk : ∀ b, Y g D h0 cl inj (K b) pc loc (.ref b :: st) h) : Y g D h0 cl inj (o.bind K) pc loc (rv o :: st) h := by
  cases o with
  | none => exact Y.nothing
  | some a => exact kk a
theorem Y.areturnA {g : xG} {D : xD} {h0 : xH} {cl : Bool} {pc : Nat} {loc : xL} {h : xH} {o : Option Nat} {rt : FieldType} (hr : dr D = some rt) (hrt : ∃ t, rt = .array t) (d : decode (dc D) pc = .ok (.areturn, 1)) : Y g D h0 cl iN (some (o, h)) pc loc [rv o] h := fun r e => by
  cases e
  refine ⟨⟨Nat.le_refl _, Nat.le_refl _, Nat.le_refl _⟩, X.areturn hr (Or.inr hrt) ?_ d⟩
  cases o with
  | none => exact Or.inl rfl
  | some a => exact Or.inr ⟨a, rfl⟩
theorem nl_none {α : Type} {A : Option α} {B : Nat → Option α} : nl none A B = A := rfl
