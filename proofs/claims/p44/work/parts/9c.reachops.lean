/-! OPERATIONS: reached cover hall -/
variable {Ξ : xH}
/-- an answer from what is reached -/
def SRe (A : AS) (F : Int32 → Int32 → Int32 → Int32 → Int32) (x : Int32 ⊕ String) (A' : AS) : Prop := A' = A ∧ ∃ k M' a b u v, Gr (gE (aB A)) 12 k (bM (aB A)) M' ∧ AlW (gE (aB A)) M' (bw (aB A)) a b ∧ AlW (trE (gE (aB A))) (tr M') (bt (aB A)) v u ∧ x = .inl (F a b u v)
theorem SRe.uq {A : AS} {F : Int32 → Int32 → Int32 → Int32 → Int32} : UQ (SRe A F) := by
  rintro x A1 y A2 ⟨rfl, k, M', a, b, u, v, g, r1, r2, rfl⟩ ⟨rfl, k', M'', a', b', u', v', g', r1', r2', rfl⟩
  obtain ⟨rfl, rfl⟩ := g.uniq g'
  obtain ⟨rfl, rfl⟩ := r1.uniq r1'
  obtain ⟨rfl, rfl⟩ := r2.uniq r2'
  exact ⟨rfl, rfl⟩
section O17
variable {T : MM → Bk → Prop} {μ : MM} {A : AS}
theorem c_mmLook (hC : RC T μ A) (hA : AOK A) : ∃ ν ξ k M', f_X9_makeMost 0 ((mX Ξ) μ) = some (Int32.ofNat (sz M'), (mX Ξ) ν) ∧ f_X5_look 149 141 ((mX Ξ) ν) = some ((mX Ξ) ξ) ∧ Fr CQ μ ξ ∧ Gr (gE (aB A)) 12 k (bM (aB A)) M' ∧ SR ξ (bn (aB A)) (bm (aB A)) (bw (aB A)) (bt (aB A)) (gE (aB A)) M' ∧ SOK (bn (aB A)) (bm (aB A)) (bw (aB A)) (gE (aB A)) M' ∧ CRs ξ (gE (aB A)) M' (bw (aB A)) (bt (aB A)) := by
  have hB := hA.1
  obtain ⟨ν, k, M', e1, f1, s1, o1, g⟩ := c_makeMost (Ξ := Ξ) hC hA
  obtain ⟨ξ, e2, f2, r⟩ := c_look (Ξ := Ξ) s1 o1 (fun t q => Nat.lt_of_lt_of_le (hB.t q) hB.m)
  exact ⟨ν, ξ, k, M', e1, e2, (f1.mono fun _ _ z => z.Q).trans (f2.mono fun q i z => by unfold FX at z; unfold CQ; omega), g, s1.fx f2, o1, r⟩
/-- an answer from how many pairs can be -/
def SNu (A : AS) (F : Nat → Int32) (x : Int32 ⊕ String) (A' : AS) : Prop := A' = A ∧ ∃ k, Nu (gE (aB A)) k ∧ x = .inl (F k)
theorem SNu.uq {F : Nat → Int32} : UQ (SNu A F) := by
  rintro x A1 y A2 ⟨rfl, k, n, rfl⟩ ⟨rfl, k', n', rfl⟩
  rw [n.uniq n']; exact ⟨rfl, rfl⟩
end O17
