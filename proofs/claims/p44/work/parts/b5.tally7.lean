/-! THE CLASS: the tally's ways are counted as they should be -/
set_option maxRecDepth 100000 in
theorem prune_tab : ∀ a, a < 13 → ∀ n, n < 13 → ∀ r, r < 13 → decide (Int32.ofNat a ≥ Int32.ofNat n - Int32.ofNat r) = decide (n ≤ a + r) := by decide +kernel
theorem prune {a n r : Nat} (ha : a ≤ 12) (hn : n ≤ 12) (hr : r ≤ 12) : (Int32.ofNat a ≥ Int32.ofNat n - Int32.ofNat r) = (n ≤ a + r) := propext (decide_eq_decide.mp (prune_tab a (by omega) n (by omega) r (by omega)))
def fo64 (f : Nat → Int64 → Int64) : Nat → Int64 → Int64
  | 0, b => b
  | k + 1, b => f k (fo64 f k b)
def wf (E : Nat → Nat → Bool) (W : Nat → Int64) (i S j : Nat) (b : Int64) : Int64 := if S.testBit j = true ∧ E i j = true then b + W (S ^^^ 2 ^ j) else b
/-- the ways of the first i workers to have exactly the tasks S -/
def WyI (E : Nat → Nat → Bool) : Nat → Nat → Int64
  | 0, S => if S = 0 then 1 else 0
  | i + 1, S => fo64 (wf E (WyI E i) i S) 12 (WyI E i S)
theorem pt_1 (a b : Q4) (c : Int32) (k : Int64) : (pt a b c k).1 = b.1 + a.1 := by
  unfold pt
  split
  · rfl
  · split
    · split <;> rfl
    · rfl
theorem cnt_xor {T j : Nat} (hj : j < 12) (h : T.testBit j = true) : cnt (fun k => T.testBit k) 12 = cnt (fun k => (T ^^^ 2 ^ j).testBit k) 12 + 1 := by
  rw [cnt_del (p := fun k => T.testBit k) hj h]
  congr 1
  refine cnt_congr fun k _ => ?_
  rw [Nat.testBit_xor, Nat.testBit_two_pow]
  by_cases z : k = j
  · rw [z, h]; simp
  · have z' : ¬ j = k := fun y => z y.symm
    simp [z, z']
section Rw
variable {B : Bk} {N : Nat} {old : Nat → Q4}
theorem tR_w (hB : BOK B) (hN : N ≤ 12) (h0 : old 0 = ((1, 1, 0, 0) : Q4)) (h1 : ∀ S, 0 < S → S < 2 ^ bm B → (old S).1 = 0) : ∀ i, i ≤ 12 → ∀ S, S < 2 ^ bm B → N ≤ cnt (fun k => S.testBit k) 12 + remW (bw B) i → (tR B (bw B) N old i S).1 = WyI (gE B) i S := by
  intro i
  induction i with
  | zero =>
    intro _ S hS _
    show (old S).1 = if S = 0 then 1 else 0
    by_cases z : S = 0
    · rw [if_pos z, z, h0]
    · rw [if_neg z]; exact h1 S (by omega) hS
  | succ i ih =>
    intro hi S hS hc
    have i12 : i < 12 := by omega
    show _ = fo64 (wf (gE B) (WyI (gE B) i) i S) 12 (WyI (gE B) i S)
    cases q : hb (bw B) i with
    | false =>
      have e : tR B (bw B) N old (i + 1) S = tR B (bw B) N old i S := by
        show (if hb (bw B) i = true then _ else tR B (bw B) N old i) S = _
        rw [if_neg (by rw [q]; simp)]
      rw [e, ih (by omega) S hS (by rw [remW_f q]; exact hc)]
      have : ∀ k, fo64 (wf (gE B) (WyI (gE B) i) i S) k (WyI (gE B) i S) = WyI (gE B) i S := by
        intro k
        induction k with
        | zero => rfl
        | succ k ihk =>
          show wf (gE B) (WyI (gE B) i) i S k (fo64 (wf (gE B) (WyI (gE B) i) i S) k (WyI (gE B) i S)) = _
          rw [ihk]
          exact if_neg fun z => by
            have := gE_W _ _ z.2
            rw [q] at this; cases this
      rw [this 12]
    | true =>
      have rt := remW_t i12 q
      have e : tR B (bw B) N old (i + 1) S = acc (tR B (bw B) N old i) (gE B i) (okT (tR B (bw B) N old i) (Int32.ofNat N - Int32.ofNat (remW (bw B) i))) (csT B i) (ksT (x6s i)) S 0 := by
        show (if hb (bw B) i = true then _ else tR B (bw B) N old i) S = _
        rw [if_pos q]
      rw [e]
      have key : ∀ k, k ≤ 12 → (fo (acf (tR B (bw B) N old i) (gE B i) (okT (tR B (bw B) N old i) (Int32.ofNat N - Int32.ofNat (remW (bw B) i))) (csT B i) (ksT (x6s i)) S 0) k (tR B (bw B) N old i S)).1 = fo64 (wf (gE B) (WyI (gE B) i) i S) k (WyI (gE B) i S) := by
        intro k
        induction k with
        | zero =>
          intro _
          exact ih (by omega) S hS (by omega)
        | succ k ihk =>
          intro hk
          have ihk := ihk (by omega)
          show (acf _ _ _ _ _ S 0 k (fo _ k _)).1 = wf (gE B) (WyI (gE B) i) i S k (fo64 _ k _)
          rw [← ihk]
          unfold acf wf
          by_cases z : S.testBit k = true ∧ gE B i k = true
          · have jm : k < bm B := (hB.SOK.2.2.1 i k z.2).2.1
            have lx : S ^^^ 2 ^ k < 2 ^ bm B := Nat.xor_lt_two_pow hS (Nat.pow_lt_pow_right (by decide) jm)
            have cx := cnt_xor (show k < 12 by omega) z.1
            have w := ih (by omega) (S ^^^ 2 ^ k) lx (by omega)
            rw [if_pos z, ← w]
            have cl : cnt (fun k_1 => (S ^^^ 2 ^ k).testBit k_1) 12 ≤ 12 := cnt_le _ _
            have rl : remW (bw B) i ≤ 12 := cnt_le _ _
            by_cases o : (tR B (bw B) N old i (S ^^^ 2 ^ k)).1 = 0
            · rw [if_neg fun y => by
                have := y.2.2
                unfold okT at this
                rw [decide_eq_true o] at this
                exact absurd this (by simp)]
              rw [o, Int64.add_zero]
            · rw [if_pos ⟨z, Nat.zero_le _, by
                unfold okT
                rw [decide_eq_false o, decide_eq_true (show Int32.ofNat (cnt (fun k_1 => (S ^^^ 2 ^ k).testBit k_1) 12) ≥ Int32.ofNat N - Int32.ofNat (remW (bw B) i) by rw [prune cl hN rl]; omega)]
                rfl⟩, pt_1]
          · rw [if_neg fun y => z y.1, if_neg z]
      exact key 12 (Nat.le_refl 12)
end Rw
