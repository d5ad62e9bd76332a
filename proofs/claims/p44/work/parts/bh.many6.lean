/-! THE MODEL: many; OPERATIONS: many -/
theorem ssum_FN {E : Nat → Nat → Bool} {c : Nat → Nat → Nat} {N : Nat} : ∀ s : Nat, ssum (WyI E 12) N s = Int64.ofNat (FN E c N s).length
  | 0 => rfl
  | s + 1 => by
    show ssum (WyI E 12) N s + (if cnt (fun k => s.testBit k) 12 = N then WyI E 12 s else 0) = Int64.ofNat (catj (fun S => if cnt (fun k => S.testBit k) 12 = N then AL E c 12 S else []) s ++ if cnt (fun k => s.testBit k) 12 = N then AL E c 12 s else []).length
    have ih : ssum (WyI E 12) N s = Int64.ofNat (catj (fun S => if cnt (fun k => S.testBit k) 12 = N then AL E c 12 S else []) s).length := ssum_FN s
    rw [ih, List.length_append, Int64.ofNat_add]
    by_cases z : cnt (fun k => s.testBit k) 12 = N
    · rw [if_pos z, if_pos z, AL_Wy (c := c)]
    · rw [if_neg z, if_neg z]; rfl
theorem WyI_n {E : Nat → Nat → Bool} {n S : Nat} (h : ∀ i, n ≤ i → ∀ j, E i j = false) : ∀ d : Nat, WyI E (n + d) S = WyI E n S
  | 0 => rfl
  | d + 1 => by
    show WyI E ((n + d) + 1) S = _
    rw [WyI_no (h (n + d) (by omega)), WyI_n h d]
theorem ssum_congr {W V : Nat → Int64} {N : Nat} (h : ∀ S, W S = V S) : ∀ s : Nat, ssum W N s = ssum V N s
  | 0 => rfl
  | s + 1 => by
    show ssum W N s + (if cnt (fun k => s.testBit k) 12 = N then W s else 0) = ssum V N s + (if cnt (fun k => s.testBit k) 12 = N then V s else 0)
    rw [ssum_congr h s, h s]
section Mo
variable {μ : MM} {B : Bk} {N : Nat}
theorem BOK.En (hB : BOK B) : ∀ i, bn B ≤ i → ∀ j, gE B i j = false := fun i h j => by
  cases z : gE B i j with
  | false => rfl
  | true => have := (hB.SOK.2.2.1 i j z).1; omega
theorem ssum_B (hB : BOK B) : ssum (WyI (gE B) (bn B)) N (2 ^ bm B) = Int64.ofNat (FN (gE B) (bc B) N (2 ^ bm B)).length := by
  have hn : bn B ≤ 12 := hB.n
  rw [← ssum_FN]
  refine ssum_congr (fun S => ?_) _
  have := WyI_n (S := S) hB.En (12 - bn B)
  rw [show bn B + (12 - bn B) = 12 by omega] at this
  exact this.symm
theorem Nu.l12 {E : Nat → Nat → Bool} (h : Nu E N) : N ≤ 12 := by
  obtain ⟨⟨M, _, a⟩, _⟩ := h
  rw [← a]; exact sz_le _
end Mo
section O28
variable {μ : MM} {A : AS}
end O28
