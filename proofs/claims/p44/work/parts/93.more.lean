/-! small things that other parts want -/
theorem one_shl {n : Nat} (hn : n ≤ 12) : (1 : Int32) <<< (Int32.ofNat n &&& 31) = Int32.ofNat (2 ^ n) := by
  have : ∀ n, n < 13 → (1 : Int32) <<< (Int32.ofNat n &&& 31) = Int32.ofNat (2 ^ n) := by decide
  exact this n (by omega)
theorem pow_12 {n : Nat} (hn : n ≤ 12) : 1 ≤ 2 ^ n ∧ 2 ^ n ≤ 4096 := ⟨Nat.one_le_two_pow, Nat.pow_le_pow_right (n := 2) (by omega) hn⟩
theorem or_zero' (x : Int32) : x ||| 0 = x := by
  apply hb_ext; intro k _; rw [hb_or, hb_zero, Bool.or_false]
theorem zero_or' (x : Int32) : 0 ||| x = x := by
  apply hb_ext; intro k _; rw [hb_or, hb_zero, Bool.false_or]
theorem BOK.bw12 {B : Bk} (h : BOK B) : m12 (bw B) := fun k hk => by
  cases q : hb (bw B) k with
  | false => rfl
  | true => have := h.w q; have := h.n; omega
theorem BOK.bt12 {B : Bk} (h : BOK B) : m12 (bt B) := fun k hk => by
  cases q : hb (bt B) k with
  | false => rfl
  | true => have := h.t q; have := h.m; omega
theorem BOK.bf12 {B : Bk} (h : BOK B) (w : Nat) : m12 (bf B w) := fun k hk => by
  cases q : hb (bf B w) k with
  | false => rfl
  | true => have := (h.f q).2; have := h.m; omega
theorem m12_and {x y : Int32} (h : m12 y) : m12 (x &&& y) := fun k hk => by rw [hb_and, h k hk, Bool.and_false]
theorem m12_or {x y : Int32} (h : m12 x) (h' : m12 y) : m12 (x ||| y) := fun k hk => by rw [hb_or, h k hk, h' k hk]; rfl
theorem m12_0 : m12 0 := fun k _ => hb_zero k
theorem lt_go {α β : Type} (v : α) (k : α → β) : lt v k = k v := rfl
section Fl
variable {μ : MM} {n m : Nat} {Wt Tt : Int32} {E : Nat → Nat → Bool} {M : Nat → Nat}
theorem SR.fly {ν : MM} {P : Nat → Nat → Prop} (h : SR μ n m Wt Tt E M) (f : Fr P μ ν) (hp : ∀ q i, 141 ≤ q → q ≤ 148 → ¬ P q i) : SR ν n m Wt Tt E M := by
  obtain ⟨⟨h1, h2, h3, h4⟩, h5, h6⟩ := h
  refine ⟨⟨?_, ?_, ?_, ?_⟩, fun w hw k => ?_, h6.fr f (fun i => hp _ _ (by omega) (by omega)) (fun i => hp _ _ (by omega) (by omega))⟩
  · rw [(f _ _ (hp _ _ (by omega) (by omega))).1]; exact h1
  · rw [(f _ _ (hp _ _ (by omega) (by omega))).1]; exact h2
  · rw [(f _ _ (hp _ _ (by omega) (by omega))).1]; exact h3
  · rw [(f _ _ (hp _ _ (by omega) (by omega))).1]; exact h4
  · rw [(f _ _ (hp _ _ (by omega) (by omega))).1]; exact h5 w hw k
end Fl
