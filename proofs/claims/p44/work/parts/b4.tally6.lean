/-! THE CLASS: the tally's run as far as its finish -/
variable {Ξ : xH}
section Rv
variable {μ : MM} {B : Bk} {M : Nat → Nat} {N : Nat}
theorem c_r8_clear {full : Nat} (hf : full ≤ 4096) : ∀ (d i : Nat) (ν : MM), i + d = full → (∀ S, S < i → ν.2 157 S = 0) → ∃ ξ, (∀ f K x3, f_X8_run_L17 K (d + 1 + f) 156 1 141 x3 (Int32.ofNat full) (Int32.ofNat i) ((mX Ξ) ν) = K 156 1 141 x3 (Int32.ofNat full) ((mX Ξ) ξ)) ∧ Fr FT9 ν ξ ∧ ∀ S, S < full → ξ.2 157 S = 0
  | 0, i, ν, h, hz => by
    have c : (Int32.ofNat i ≥ Int32.ofNat full) = True := by rw [oN_ge (by omega) (by omega)]; exact eq_true (by omega)
    refine ⟨ν, fun f K x3 => ?_, Fr.refl _ _, fun S hS => hz S (by omega)⟩
    rw [show 0 + 1 + f = f + 1 by omega]
    simp only [f_X8_run_L17, c, ↓reduceIte]
  | d + 1, i, ν, h, hz => by
    have c : (Int32.ofNat i ≥ Int32.ofNat full) = False := by rw [oN_ge (by omega) (by omega)]; exact eq_false (by omega)
    have hi : i < 4096 := by omega
    have c2 : (Int32.ofNat i ≥ 4096) = False := by rw [lge_4096 (by omega)]; exact eq_false (by omega)
    obtain ⟨ν1, hd⟩ : ∃ x, x = sj ν 157 i 0 := ⟨_, rfl⟩
    have f1 : Fr FT9 ν ν1 := by rw [hd]; exact (Fr.refl _ _).sj (by unfold FT9; omega)
    obtain ⟨ξ, a, b, g⟩ := c_r8_clear hf d (i + 1) ν1 (by omega) (fun S hS => by
      rw [hd]
      by_cases z : S = i
      · rw [z, sj_same]
      · rw [sj_ne (Or.inr z)]; exact hz S (by omega))
    refine ⟨ξ, fun f K x3 => ?_, f1.trans b, g⟩
    rw [show d + 1 + 1 + f = d + 1 + f + 1 by omega, ← a f K x3, hd]
    simp only [f_X8_run_L17, c, c2, ↓reduceIte, ↓hbind gR_156_0, ↓hbind (sJ_157 hi), lt_go, i_succ]
theorem sJ157_0 {ν : MM} {v : Int64} : sJ ((mX Ξ) ν) 157 0 v = some ((mX Ξ) (sj ν 157 0 v)) := sJ_157 (Ξ := Ξ) (i := 0) (by decide)
theorem sJ158_0 {ν : MM} {v : Int64} : sJ ((mX Ξ) ν) 158 0 v = some ((mX Ξ) (sj ν 158 0 v)) := sJ_158 (Ξ := Ξ) (i := 0) (by decide)
theorem sJ159_0 {ν : MM} {v : Int64} : sJ ((mX Ξ) ν) 159 0 v = some ((mX Ξ) (sj ν 159 0 v)) := sJ_159 (Ξ := Ξ) (i := 0) (by decide)
theorem sI160_0 {ν : MM} {v : Int32} : sI ((mX Ξ) ν) 160 0 v = some ((mX Ξ) (st ν 160 0 v)) := sI_160 (Ξ := Ξ) (i := 0) (by decide)
theorem r8_go {ν ξ : MM} {x3 x4 Wt : Int32} {k : Nat} (e8 : ν.1 141 8 = Wt) (hk : f_J6_bitCount_0f7a4 Wt ((mX Ξ) (st (sj (sj (sj ν 157 0 1) 158 0 1) 159 0 0) 160 0 0)) = some (Int32.ofNat k, (mX Ξ) (st (sj (sj (sj ν 157 0 1) 158 0 1) 159 0 0) 160 0 0))) (e : f_X8_run_L91 f_X8_run_J148 5000 156 1 141 x3 x4 (Int32.ofNat k) 1792160394037 0 ((mX Ξ) (st (sj (sj (sj ν 157 0 1) 158 0 1) 159 0 0) 160 0 0)) = f_X8_run_J148 156 x3 x4 ((mX Ξ) ξ)) : f_X8_run_J46 156 1 141 x3 x4 ((mX Ξ) ν) = f_X8_run_J148 156 x3 x4 ((mX Ξ) ξ) := by
  have e8' : (st (sj (sj (sj ν 157 0 1) 158 0 1) 159 0 0) 160 0 0).1 141 8 = Wt := by rw [st_ne (Or.inl (by omega))]; exact e8
  rw [← e]
  simp only [f_X8_run_J46, ↓hbind gR_156_0, ↓hbind sJ157_0, ↓hbind gR_156_1, ↓hbind sJ158_0, ↓hbind gR_156_2, ↓hbind sJ159_0, ↓hbind gR_156_3, ↓hbind sI160_0, ↓hbind gI_141_8, e8', ↓hbind hk]
theorem imin_12 {m : Nat} (h : m ≤ 12) : imin 12 (Int32.ofNat m) = Int32.ofNat m := by
  unfold imin
  have c : (Int32.ofNat m < (12 : Int32)) = (m < 12) := by
    have h1 : ((12 : Int32) > Int32.ofNat m) = (m < 12) := oN_gt (a := 12) (b := m) (by decide) (by omega)
    exact h1
  by_cases z : m < 12
  · rw [if_pos (by rw [c]; exact z)]
  · rw [if_neg (by rw [c]; exact z), show m = 12 by omega]; rfl
theorem c_run8 (hB : BOK B) (hb1 : BC μ 1 B) (hS : SR μ (bn B) (bm B) (bw B) (bt B) (gE B) M) : ∃ ξ old, f_X8_run 156 1 141 (Int32.ofNat N) ((mX Ξ) μ) = f_X8_run_J148 156 (Int32.ofNat N) (Int32.ofNat (2 ^ bm B)) ((mX Ξ) ξ) ∧ Fr FT9 μ ξ ∧ old 0 = ((1, 1, 0, 0) : Q4) ∧ (∀ S, 0 < S → S < 2 ^ bm B → (old S).1 = 0) ∧ ∀ T, T < 2 ^ bm B → rd4 ξ T = tR B (bw B) N old 12 T := by
  have hm := hB.m
  have hm12 : bm B ≤ 12 := by omega
  have full12 : 2 ^ bm B ≤ 4096 := Nat.pow_le_pow_right (n := 2) (by decide) hm12
  obtain ⟨ν, e1, f1, z1⟩ := c_r8_clear (Ξ := Ξ) full12 (2 ^ bm B) 0 μ (by omega) (fun S hS => absurd hS (Nat.not_lt_zero _))
  have e1 : f_X8_run_L17 f_X8_run_J46 5000 156 1 141 (Int32.ofNat N) (Int32.ofNat (2 ^ bm B)) 0 ((mX Ξ) μ) = f_X8_run_J46 156 1 141 (Int32.ofNat N) (Int32.ofNat (2 ^ bm B)) ((mX Ξ) ν) := by
    have h := e1 (5000 - (2 ^ bm B + 1)) f_X8_run_J46 (Int32.ofNat N)
    have ef : 2 ^ bm B + 1 + (5000 - (2 ^ bm B + 1)) = 5000 := by omega
    rw [ef] at h
    exact h
  obtain ⟨η, hd⟩ : ∃ x, x = st (sj (sj (sj ν 157 0 1) 158 0 1) 159 0 0) 160 0 0 := ⟨_, rfl⟩
  have f2 : Fr FT9 ν η := by rw [hd]; exact ((((Fr.refl _ _).sj (by unfold FT9; omega)).sj (by unfold FT9; omega)).sj (by unfold FT9; omega)).st (by unfold FT9; omega)
  have f12 := f1.trans f2
  have hb2 : BC η 1 B := hb1.fr f12 fun q i a b z => by unfold FT9 at z; omega
  have hS2 := hS.fly f12 fun q i a b z => by unfold FT9 at z; omega
  have e8 : ν.1 141 8 = bw B := by rw [(f1 _ _ (by unfold FT9; omega)).1]; exact hS.1.2.2.1
  obtain ⟨ξ, e3, f3, r3⟩ := c_r8_loop (Ξ := Ξ) (N := N) hB (old := rd4 η) 12 0 η (by omega) hb2 hS2 (fun T _ => rfl)
  have hr : remW (bw B) 0 = cnt (hb (bw B)) 12 := cnt_congr fun k _ => by simp
  have hk := c_bitCount (h := (mX Ξ) η) hB.bw12
  have e3 : f_X8_run_L91 f_X8_run_J148 5000 156 1 141 (Int32.ofNat N) (Int32.ofNat (2 ^ bm B)) (Int32.ofNat (cnt (hb (bw B)) 12)) 1792160394037 0 ((mX Ξ) η) = f_X8_run_J148 156 (Int32.ofNat N) (Int32.ofNat (2 ^ bm B)) ((mX Ξ) ξ) := by
    have h := e3 4987 f_X8_run_J148
    rw [hr] at h
    exact h
  have r0 : rd4 η 0 = (1, 1, 0, 0) := by
    rw [hd]
    unfold rd4
    rfl
  refine ⟨ξ, rd4 η, ?_, f12.trans f3, r0, fun S h0 hS' => ?_, r3⟩
  · rw [hd] at e3 hk
    have e7 : μ.1 141 7 = Int32.ofNat (bm B) := hS.1.2.1
    rw [← r8_go e8 hk e3, ← e1]
    have eb : ∀ h : xH, f_X9_bit (Int32.ofNat (bm B)) h = some (Int32.ofNat (2 ^ bm B), h) := fun h => by rw [c_bit, one_shl hm12]
    simp only [f_X8_run, ↓hbind gI_141_7, e7, imin_12 hm12, ↓hbind (eb _)]
  · show η.2 157 S = 0
    have : η.2 157 S = ν.2 157 S := by
      rw [hd]
      show (sj (sj (sj ν 157 0 1) 158 0 1) 159 0 0).2 157 S = ν.2 157 S
      rw [sj_ne (Or.inl (by omega)), sj_ne (Or.inl (by omega)), sj_ne (Or.inr (by omega))]
    rw [this]; exact z1 S hS'
end Rv
