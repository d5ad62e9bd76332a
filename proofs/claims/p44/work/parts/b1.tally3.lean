/-! THE CLASS: the tally, a worker's fits added to all sets -/
theorem oN_orbit {S j : Nat} (hS : S < 4096) (hj : j < 12) (h : S.testBit j = false) : Int32.ofNat S ||| ((1 : Int32) <<< (Int32.ofNat j &&& 31)) = Int32.ofNat (S ^^^ 2 ^ j) := by
  have hx := xor_lt hS hj
  apply hb_ext
  intro k _
  rw [hb_or, hb_bit k (by omega), hb_nat _ _ (by omega), hb_nat _ _ (by omega), Nat.testBit_xor, Nat.testBit_two_pow]
  by_cases z : k = j
  · rw [z, h]; simp
  · have z' : ¬ j = k := fun y => z y.symm
    simp [z, z']
set_option maxRecDepth 100000 in
theorem xa_tab : ∀ j, j < 12 → ∀ a, a < 64 → ∀ b, b < 64 → ((64 * a + b).testBit j || ((64 * a + b) ^^^ 2 ^ j == (64 * a + b) + 2 ^ j)) = true := by decide +kernel
theorem xor_add {S j : Nat} (hS : S < 4096) (hj : j < 12) (h : S.testBit j = false) : S ^^^ 2 ^ j = S + 2 ^ j := by
  have := xa_tab j hj (S / 64) (by omega) (S % 64) (by omega)
  rw [Nat.div_add_mod, h] at this
  simpa using this
theorem xor_sub {T j : Nat} (hT : T < 4096) (hj : j < 12) (h : T.testBit j = true) : (T ^^^ 2 ^ j) + 2 ^ j = T := by
  have := xor_add (S := T ^^^ 2 ^ j) (xor_lt hT hj) hj (by rw [xor_bit, h]; rfl)
  rw [xor_xor] at this; exact this.symm
def fo (f : Nat → Q4 → Q4) : Nat → Q4 → Q4
  | 0, b => b
  | k + 1, b => f k (fo f k b)
theorem fo_congr {f g : Nat → Q4 → Q4} {b : Q4} : ∀ {k : Nat}, (∀ j, j < k → f j = g j) → fo f k b = fo g k b
  | 0, _ => rfl
  | k + 1, h => by
    show f k (fo f k b) = g k (fo g k b)
    rw [fo_congr fun j hj => h j (by omega), h k (by omega)]
theorem fo_id {f : Nat → Q4 → Q4} {b : Q4} {j : Nat} : ∀ d : Nat, (∀ i, j ≤ i → i < j + d → ∀ q, f i q = q) → fo f (j + d) b = fo f j b
  | 0, _ => rfl
  | d + 1, h => by
    show f (j + d) (fo f (j + d) b) = fo f j b
    rw [h (j + d) (by omega) (by omega), fo_id d fun i a b => h i a (by omega)]
/-- what is put to T, by the sets not below s -/
def acf (old : Nat → Q4) (row : Nat → Bool) (ok : Nat → Bool) (cs : Nat → Int32) (ks : Nat → Int64) (T s j : Nat) (b : Q4) : Q4 :=
  if (T.testBit j = true ∧ row j = true) ∧ s ≤ T ^^^ 2 ^ j ∧ ok (T ^^^ 2 ^ j) = true then pt (old (T ^^^ 2 ^ j)) b (cs j) (ks j) else b
def acc (old : Nat → Q4) (row : Nat → Bool) (ok : Nat → Bool) (cs : Nat → Int32) (ks : Nat → Int64) (T s : Nat) : Q4 := fo (acf old row ok cs ks T s) 12 (old T)
section Ac
variable {old : Nat → Q4} {row ok : Nat → Bool} {cs : Nat → Int32} {ks : Nat → Int64}
/-- from s on: one set more -/
theorem acc_same {T s : Nat} (h : ∀ j, j < 12 → T.testBit j = true → row j = true → T ^^^ 2 ^ j = s → ok s = false) : acc old row ok cs ks T s = acc old row ok cs ks T (s + 1) := by
  refine fo_congr fun j hj => ?_
  funext b
  unfold acf
  by_cases z : (T.testBit j = true ∧ row j = true) ∧ s ≤ T ^^^ 2 ^ j ∧ ok (T ^^^ 2 ^ j) = true
  · have n : T ^^^ 2 ^ j ≠ s := fun e => by
      have := h j hj z.1.1 z.1.2 e
      rw [e, this] at z
      exact absurd z.2.2 (by decide)
    rw [if_pos z, if_pos ⟨z.1, by omega, z.2.2⟩]
  · rw [if_neg z, if_neg fun y => z ⟨y.1, by omega, y.2.2⟩]
theorem acc_self {s S : Nat} (hS : S < 4096) (h : S ≤ s) : acc old row ok cs ks S s = old S := by
  have : ∀ k, k ≤ 12 → fo (acf old row ok cs ks S s) k (old S) = old S := by
    intro k
    induction k with
    | zero => intro _; rfl
    | succ k ih =>
      intro hk
      show acf old row ok cs ks S s k (fo (acf old row ok cs ks S s) k (old S)) = old S
      rw [ih (by omega)]
      unfold acf
      refine if_neg fun z => ?_
      have := xor_sub hS (show k < 12 by omega) z.1.1
      have := Nat.two_pow_pos k
      omega
  exact this 12 (Nat.le_refl 12)
theorem acc_more {T s j : Nat} (hT : T < 4096) (hj : j < 12) (tj : T.testBit j = true) (rj : row j = true) (e : T ^^^ 2 ^ j = s) (ho : ok s = true) : acc old row ok cs ks T s = pt (old s) (acc old row ok cs ks T (s + 1)) (cs j) (ks j) := by
  have sub := xor_sub hT hj tj
  rw [e] at sub
  have big : ∀ i, j < i → i < 12 → T.testBit i = true → T ^^^ 2 ^ i < s := fun i a b c => by
    have := xor_sub hT b c
    have := Nat.pow_lt_pow_right (a := 2) (by decide) a
    omega
  have ne : ∀ i, i < j → i < 12 → T.testBit i = true → T ^^^ 2 ^ i ≠ s := fun i a b c q => by
    have := xor_sub hT b c
    have := Nat.pow_lt_pow_right (a := 2) (by decide) a
    omega
  unfold acc
  have l1 : fo (acf old row ok cs ks T s) 12 (old T) = fo (acf old row ok cs ks T s) (j + 1) (old T) := by
    have := fo_id (f := acf old row ok cs ks T s) (b := old T) (j := j + 1) (11 - j) (fun i a b q => if_neg fun z => by
      have := big i (by omega) (by omega) z.1.1
      omega)
    rw [show j + 1 + (11 - j) = 12 by omega] at this
    exact this
  have l2 : fo (acf old row ok cs ks T (s + 1)) 12 (old T) = fo (acf old row ok cs ks T (s + 1)) j (old T) := by
    have := fo_id (f := acf old row ok cs ks T (s + 1)) (b := old T) (j := j) (12 - j) (fun i a b q => if_neg fun z => by
      by_cases y : i = j
      · rw [y, e] at z; omega
      · have := big i (by omega) (by omega) z.1.1
        omega)
    rw [show j + (12 - j) = 12 by omega] at this
    exact this
  rw [l1, l2]
  show acf old row ok cs ks T s j (fo (acf old row ok cs ks T s) j (old T)) = _
  rw [fo_congr (g := acf old row ok cs ks T (s + 1)) fun i hi => ?_]
  · unfold acf
    rw [if_pos ⟨⟨tj, rj⟩, by rw [e]; exact Nat.le_refl s, by rw [e]; exact ho⟩, e]
  · funext b
    unfold acf
    by_cases z : (T.testBit i = true ∧ row i = true) ∧ s ≤ T ^^^ 2 ^ i ∧ ok (T ^^^ 2 ^ i) = true
    · have := ne i hi (by omega) z.1.1
      rw [if_pos z, if_pos ⟨z.1, by omega, z.2.2⟩]
    · rw [if_neg z, if_neg fun y => z ⟨y.1, by omega, y.2.2⟩]
end Ac
