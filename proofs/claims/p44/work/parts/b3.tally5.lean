/-! THE CLASS: the tally, over all workers -/
variable {Ξ : xH}
/-- workers that are there, from i on -/
def remW (Wt : Int32) (i : Nat) : Nat := cnt (fun k => hb Wt k && decide (i ≤ k)) 12
def x6s : Nat → Int64
  | 0 => 1792160394037
  | i + 1 => x6s i / 13
/-- the tally behind the first i workers -/
def tR (B : Bk) (Wt : Int32) (N : Nat) (old : Nat → Q4) : Nat → Nat → Q4
  | 0 => old
  | i + 1 => if hb Wt i = true then fun T => acc (tR B Wt N old i) (gE B i) (okT (tR B Wt N old i) (Int32.ofNat N - Int32.ofNat (remW Wt i))) (csT B i) (ksT (x6s i)) T 0 else tR B Wt N old i
theorem remW_t {Wt : Int32} {i : Nat} (hi : i < 12) (h : hb Wt i = true) : remW Wt i = remW Wt (i + 1) + 1 := by
  unfold remW
  rw [cnt_del (p := fun k => hb Wt k && decide (i ≤ k)) hi (by simp [h])]
  congr 1
  refine cnt_congr fun k _ => ?_
  by_cases z : k = i
  · rw [z]; simp
  · by_cases y : i ≤ k
    · simp [z, y, show i + 1 ≤ k by omega]
    · simp [y, show ¬ i + 1 ≤ k by omega]
theorem remW_f {Wt : Int32} {i : Nat} (h : hb Wt i = false) : remW Wt i = remW Wt (i + 1) := by
  refine cnt_congr fun k _ => ?_
  by_cases z : k = i
  · rw [z, h]; simp
  · by_cases y : i ≤ k
    · simp [y, show i + 1 ≤ k by omega]
    · simp [y, show ¬ i + 1 ≤ k by omega]
section Ru
variable {μ : MM} {B : Bk} {M : Nat → Nat} {N : Nat}
theorem c_r8_loop (hB : BOK B) {old : Nat → Q4} : ∀ (d i : Nat) (ν : MM), i + d = 12 → BC ν 1 B → SR ν (bn B) (bm B) (bw B) (bt B) (gE B) M → (∀ T, T < 2 ^ bm B → rd4 ν T = tR B (bw B) N old i T) → ∃ ξ, (∀ f K, f_X8_run_L91 K (d + 1 + f) 156 1 141 (Int32.ofNat N) (Int32.ofNat (2 ^ bm B)) (Int32.ofNat (remW (bw B) i)) (x6s i) (Int32.ofNat i) ((mX Ξ) ν) = K 156 (Int32.ofNat N) (Int32.ofNat (2 ^ bm B)) ((mX Ξ) ξ)) ∧ Fr FT9 ν ξ ∧ ∀ T, T < 2 ^ bm B → rd4 ξ T = tR B (bw B) N old 12 T
  | 0, i, ν, h, hb1, hS, hI => by
    have c : (Int32.ofNat i ≥ 12) = True := by rw [lge_12 (by omega)]; exact eq_true (by omega)
    refine ⟨ν, fun f K => ?_, Fr.refl _ _, by rw [show 12 = i by omega]; exact hI⟩
    rw [show 0 + 1 + f = f + 1 by omega]
    simp only [f_X8_run_L91, c, ↓reduceIte]
  | d + 1, i, ν, h, hb1, hS, hI => by
    have c : (Int32.ofNat i ≥ 12) = False := by rw [lge_12 (by omega)]; exact eq_false (by omega)
    have hi : i < 12 := by omega
    have hm := hB.m
    have e8 : ν.1 141 8 = bw B := hS.1.2.2.1
    have eh := c_has (x := bw B) (h := (mX Ξ) ν) (show i < 32 by omega)
    cases q : hb (bw B) i with
    | false =>
      rw [q] at eh
      obtain ⟨ξ, a, b, g⟩ := c_r8_loop hB d (i + 1) ν (by omega) hb1 hS (fun T hT => by
        rw [hI T hT]
        show _ = (if hb (bw B) i = true then _ else tR B (bw B) N old i) T
        rw [if_neg (by rw [q]; simp)])
      refine ⟨ξ, fun f K => ?_, b, g⟩
      rw [show d + 1 + 1 + f = d + 1 + f + 1 by omega, ← a f K, remW_f q]
      have ex : x6s (i + 1) = x6s i / 13 := rfl
      rw [ex]
      simp only [f_X8_run_L91, c, ↓reduceIte, ↓hbind gI_141_8, e8, ↓hbind eh, show bI false = 0 from rfl, f_X8_run_J134, lt_go, i_succ]
    | true =>
      rw [q] at eh
      have rt := remW_t hi q
      obtain ⟨ζ, e1, f1, r1⟩ := c_extend (Ξ := Ξ) (μ := ν) (row := gE B i) (x := ν.1 145 i) (x4 := x6s i) (p5 := Int32.ofNat N - Int32.ofNat (remW (bw B) i)) (full := 2 ^ bm B) hB hb1 hi (fun j => hS.2.1 i hi j) (fun j z => z) (Nat.pow_le_pow_right (n := 2) (by decide) (show bm B ≤ 12 by omega)) (fun S j hS' rj sj' => by
        have jm : j < bm B := (hB.SOK.2.2.1 i j rj).2.1
        exact Nat.xor_lt_two_pow hS' (Nat.pow_lt_pow_right (by decide) jm))
      obtain ⟨ξ, a, b, g⟩ := c_r8_loop hB d (i + 1) ζ (by omega) (hb1.fr f1 fun q i a b z => by unfold FT9 at z; omega) (hS.fly f1 fun q i a b z => by unfold FT9 at z; omega) (fun T hT => by
        rw [r1 T hT]
        show _ = (if hb (bw B) i = true then _ else tR B (bw B) N old i) T
        rw [if_pos q]
        have full12 : 2 ^ bm B ≤ 4096 := Nat.pow_le_pow_right (n := 2) (by decide) (show bm B ≤ 12 by omega)
        -- only sets below `full` count
        have ev : ∀ S, S < 2 ^ bm B → rd4 ν S = tR B (bw B) N old i S := hI
        unfold acc
        rw [ev T hT]
        refine fo_congr fun j hj => ?_
        funext b
        unfold acf okT
        by_cases z : T.testBit j = true ∧ gE B i j = true
        · have jm : j < bm B := (hB.SOK.2.2.1 i j z.2).2.1
          have lx : T ^^^ 2 ^ j < 2 ^ bm B := Nat.xor_lt_two_pow hT (Nat.pow_lt_pow_right (by decide) jm)
          rw [ev _ lx]
        · rw [if_neg fun y => z y.1, if_neg fun y => z y.1])
      refine ⟨ξ, fun f K => ?_, f1.trans b, g⟩
      have er : Int32.ofNat (remW (bw B) i) + (-1) = Int32.ofNat (remW (bw B) (i + 1)) := by rw [rt, i_dec]
      have ex : x6s (i + 1) = x6s i / 13 := rfl
      rw [show d + 1 + 1 + f = d + 1 + f + 1 by omega, ← a f K, ex]
      simp only [f_X8_run_L91, c, ↓reduceIte, ↓hbind gI_141_8, e8, ↓hbind eh, show bI true = 1 from rfl, z_1, ↓hvc (fun _ => vc_141), ↓hbind (c_rowX hi), ↓hvc (fun _ => vc_156), ↓hbind e1, er, f_X8_run_J134, lt_go, i_succ]
end Ru
