/-! PHASE 2, BASE: counting loops, rows, allocation over a shape -/
/-- a loop that counts: S i is the state ahead of round i -/
theorem loopN {σ β : Type} {L : Nat → Int32 → σ → Option β} {N fuel : Nat} {S : Nat → σ} {r : Option β} (hf : N < fuel) (hs : ∀ i, i < N → ∀ n, L (n + 1) (Int32.ofNat i) (S i) = L n (Int32.ofNat (i + 1)) (S (i + 1))) (he : ∀ n, L (n + 1) (Int32.ofNat N) (S N) = r) : L fuel (Int32.ofNat 0) (S 0) = r := by
  have key : ∀ j, j ≤ N → L fuel (Int32.ofNat 0) (S 0) = L (fuel - j) (Int32.ofNat j) (S j) := by
    intro j
    induction j with
    | zero => intro _; rfl
    | succ j ih =>
      intro hj
      rw [ih (by omega), show fuel - j = (fuel - (j + 1)) + 1 by omega]
      exact hs j (by omega) _
  rw [key N (Nat.le_refl _), show fuel - N = (fuel - N - 1) + 1 by omega]
  exact he _
theorem i_toInt {k : Nat} (h : k < 2147483648) : (Int32.ofNat k).toInt = k := Int32.toInt_ofNat_of_lt (by omega)
theorem i_succ {k : Nat} : Int32.ofNat k + 1 = Int32.ofNat (k + 1) := by
  rw [show (1 : Int32) = Int32.ofNat 1 from rfl, ← Int32.ofNat_add]
theorem i_ge {k n : Nat} (hk : k < 2147483648) (hn : n < 2147483648) : (Int32.ofNat k ≥ Int32.ofNat n) ↔ n ≤ k := by
  show Int32.ofNat n ≤ Int32.ofNat k ↔ _
  rw [Int32.le_iff_toInt_le, i_toInt hk, i_toInt hn]
  omega
theorem i_lt {k n : Nat} (hk : k < 2147483648) (hn : n < 2147483648) : (Int32.ofNat k < Int32.ofNat n) ↔ k < n := by
  rw [Int32.lt_iff_toInt_lt, i_toInt hk, i_toInt hn]
  omega
theorem i_eq {k n : Nat} (hk : k < 2147483648) (hn : n < 2147483648) : (Int32.ofNat k = Int32.ofNat n) ↔ k = n := by
  rw [← Int32.toInt_inj, i_toInt hk, i_toInt hn]
  omega
/-- the first n of a row are f's -/
def rw_ (μ : MM) (q n : Nat) (f : Nat → Int32) : MM := (fun p i => if p = q ∧ i < n then f i else μ.1 p i, μ.2)
theorem MM.ext {a b : MM} (h1 : ∀ p i, a.1 p i = b.1 p i) (h2 : ∀ p i, a.2 p i = b.2 p i) : a = b := Prod.ext (funext fun p => funext fun i => h1 p i) (funext fun p => funext fun i => h2 p i)
theorem rw_zero (μ : MM) (q : Nat) (f : Nat → Int32) : rw_ μ q 0 f = μ := MM.ext (fun p i => by simp [rw_]) (fun p i => rfl)
theorem rw_succ (μ : MM) (q n : Nat) (f : Nat → Int32) : st (rw_ μ q n f) q n (f n) = rw_ μ q (n + 1) f := by
  refine MM.ext (fun p i => ?_) (fun p i => rfl)
  show (if p = q ∧ i = n then f n else if p = q ∧ i < n then f i else μ.1 p i) = if p = q ∧ i < n + 1 then f i else μ.1 p i
  by_cases hp : p = q
  · by_cases hi : i = n
    · subst hi; simp [hp]
    · by_cases h2 : i < n
      · simp [hp, hi, h2, Nat.lt_succ_of_lt h2]
      · simp [hp, hi, h2, show ¬ i < n + 1 by omega]
  · simp [hp]
theorem st_comm {μ : MM} {a k b j : Nat} {v w : Int32} (h : a ≠ b ∨ k ≠ j) : st (st μ a k v) b j w = st (st μ b j w) a k v := by
  refine MM.ext (fun p i => ?_) (fun p i => rfl)
  show (if p = b ∧ i = j then w else if p = a ∧ i = k then v else μ.1 p i) = if p = a ∧ i = k then v else if p = b ∧ i = j then w else μ.1 p i
  by_cases h1 : p = b ∧ i = j
  · by_cases h2 : p = a ∧ i = k
    · exfalso; rcases h with h | h
      · exact h (h2.1.symm.trans h1.1)
      · exact h (h2.2.symm.trans h1.2)
    · rw [if_pos h1, if_neg h2, if_pos h1]
  · rw [if_neg h1, if_neg h1]
theorem st_rw {μ : MM} {a k q n : Nat} {v : Int32} {f : Nat → Int32} (h : a ≠ q) : st (rw_ μ q n f) a k v = rw_ (st μ a k v) q n f := by
  refine MM.ext (fun p i => ?_) (fun p i => rfl)
  show (if p = a ∧ i = k then v else if p = q ∧ i < n then f i else μ.1 p i) = if p = q ∧ i < n then f i else if p = a ∧ i = k then v else μ.1 p i
  by_cases h1 : p = a
  · subst h1
    simp [h]
  · simp [h1]
theorem nge {k n : Nat} {m : Int32} (hm : m = Int32.ofNat n) (hn : n < 2147483648) (h : k < n) : ¬ (Int32.ofNat k ≥ m) := by
  rw [hm, i_ge (by omega) hn]; omega
theorem yge {n : Nat} {m : Int32} (hm : m = Int32.ofNat n) (hn : n < 2147483648) : Int32.ofNat n ≥ m := by
  rw [hm, i_ge hn hn]; omega
section Clear
variable {sh : xH} {μ : MM}
theorem c_X3_clear {p q1 q2 : Nat} (h0 : slot sh 3 p 0 (isRef q1) = true) (h1 : slot sh 3 p 1 (isRef q2) = true) (a1 : isA sh 100 q1 12 isInt = true) (a2 : isA sh 100 q2 12 isInt = true) (hq : q1 ≠ q2) : f_X3_clear p (mS sh μ) = some (mS sh (rw_ (rw_ μ q1 12 fun _ => -1) q2 12 fun _ => -1)) := by
  unfold f_X3_clear
  have := loopN (L := fun n i (ν : MM) => f_X3_clear_L2 f_X3_clear_J28 n p i (mS sh ν)) (N := 12) (fuel := 5000) (S := fun i => rw_ (rw_ μ q1 i fun _ => -1) q2 i fun _ => -1) (r := some (mS sh (rw_ (rw_ μ q1 12 fun _ => -1) q2 12 fun _ => -1))) (by decide) (fun i hi n => ?_) (fun n => ?_)
  · simp only [rw_zero] at this
    exact this
  · simp only [f_X3_clear_L2, if_neg (nge (m := 12) (n := 12) rfl (by decide) hi), gR_m h0, gR_m h1, Option.bind_some, sI_k a1 hi (by omega), sI_k a2 hi (by omega), lt, i_succ]
    rw [st_rw hq, rw_succ, rw_succ]
  · simp only [f_X3_clear_L2, if_pos (yge (m := 12) (n := 12) rfl (by decide)), f_X3_clear_J28]
end Clear
