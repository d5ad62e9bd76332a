/-! OPERATIONS: fit fitMany -/
variable {Ξ : xH}
noncomputable def fmR (B : Bk) (x : Int32) (w : Nat) : Nat → Nat → Int32 → Int32
  | 0, _, s => s
  | k + 1, j, s => fmR B x w k (j + 1) (if kv B w j = x then s + 1 else s)
noncomputable def fmQ (B : Bk) (x : Int32) : Nat → Nat → Int32 → Int32
  | 0, _, s => s
  | k + 1, i, s => fmQ B x k (i + 1) (fmR B x i (bm B) 0 s)
section O19
variable {T : MM → Bk → Prop} {μ : MM} {A : AS} {B : Bk} {M : Nat → Nat}
theorem c_prep (hC : RC T μ A) (hA : AOK A) : ∃ ν ξ ζ N M', f_X9_makeMost 0 ((mX Ξ) μ) = some (Int32.ofNat N, (mX Ξ) ν) ∧ f_X5_look 149 141 ((mX Ξ) ν) = some ((mX Ξ) ξ) ∧ f_X5_close 149 141 ((mX Ξ) ξ) = some ((mX Ξ) ζ) ∧ Fr CQ μ ζ ∧ KSt ζ (aB A) M' ∧ BC ζ 1 (aB A) := by
  have hB := hA.1
  obtain ⟨ν, ξ, k, M', e1, e2, fq, g, s, o, r⟩ := c_mmLook (Ξ := Ξ) hC hA
  obtain ⟨ζ, e3, f3, d⟩ := c_close (Ξ := Ξ) s hB.Eb
  have fq2 : Fr CQ μ ζ := fq.trans (f3.mono fun q i z => by unfold CQ; omega)
  have nu := g.nu hB.Eb hB.M
  refine ⟨ν, ξ, ζ, _, M', e1, e2, e3, fq2, ⟨?_, nu.1, nu.2.1, ?_, d⟩, hC.1.fr fq2 fun q i a c z => by unfold CQ at z; omega⟩
  · obtain ⟨⟨h1, h2, h3, h4⟩, h5, h6⟩ := s
    refine ⟨⟨?_, ?_, ?_, ?_⟩, fun w hw k => ?_, h6.fr f3 (fun i z => by omega) (fun i z => by omega)⟩
    · rw [(f3 _ _ (by omega)).1]; exact h1
    · rw [(f3 _ _ (by omega)).1]; exact h2
    · rw [(f3 _ _ (by omega)).1]; exact h3
    · rw [(f3 _ _ (by omega)).1]; exact h4
    · rw [(f3 _ _ (by omega)).1]; exact h5 w hw k
  · unfold CRs
    rw [(f3 149 0 (by omega)).1, (f3 149 1 (by omega)).1, (f3 149 2 (by omega)).1, (f3 149 3 (by omega)).1]; exact r
/-- fitMany's loops -/
theorem c_fm_in (ks : KSt μ B M) (hB : BOK B) (hb1 : BC μ 1 B) {x : Int32} {w : Nat} (hw : w < 12) (K : Nat → Int32 → Int32 → Int32 → xH → Option ((Int32 ⊕ String) × xH)) : ∀ (k j : Nat) (s : Int32) (f : Nat), j + k = bm B → f_X9_fitMany_L64 K (k + 1 + f) 0 x s (Int32.ofNat w) (Int32.ofNat j) ((mX Ξ) μ) = K 0 x (fmR B x w k j s) (Int32.ofNat w) ((mX Ξ) μ)
  | 0, j, s, f, h => by
    have e0 : μ.1 1 1 = Int32.ofNat (bm B) := hb1.1.2.1
    have hm := hB.m
    have c : (Int32.ofNat j ≥ Int32.ofNat (bm B)) = True := by rw [oN_ge (by omega) (by omega)]; exact eq_true (by omega)
    rw [show 0 + 1 + f = f + 1 by omega]
    simp only [f_X9_fitMany_L64, ↓hbind gR_0_0, ↓hbind (bk_i1 bk1), e0, c, ↓reduceIte, fmR]
  | k + 1, j, s, f, h => by
    have e0 : μ.1 1 1 = Int32.ofNat (bm B) := hb1.1.2.1
    have hm := hB.m
    have c : (Int32.ofNat j ≥ Int32.ofNat (bm B)) = False := by rw [oN_ge (by omega) (by omega)]; exact eq_false (by omega)
    have ek := c_kindOf (Ξ := Ξ) ks hB hb1 hw (show j < 12 by omega)
    have ih := c_fm_in ks hB hb1 (x := x) hw K k (j + 1) (if kv B w j = x then s + 1 else s) f (by omega)
    rw [show k + 1 + 1 + f = (k + 1 + f) + 1 by omega, fmR, ← ih]
    by_cases g : kv B w j = x
    · rw [if_pos g]
      simp only [f_X9_fitMany_L64, f_X9_fitMany_J90, ↓hbind gR_0_0, ↓hbind (bk_i1 bk1), e0, c, ↓reduceIte, ↓hvc (fun _ => vc_0), ↓hbind ek, if_pos g, lt, i_succ]
    · rw [if_neg g]
      simp only [f_X9_fitMany_L64, f_X9_fitMany_J90, ↓hbind gR_0_0, ↓hbind (bk_i1 bk1), e0, c, ↓reduceIte, ↓hvc (fun _ => vc_0), ↓hbind ek, if_neg g, lt, i_succ]
theorem c_fm_out (ks : KSt μ B M) (hB : BOK B) (hb1 : BC μ 1 B) {x : Int32} (K : Int32 → xH → Option ((Int32 ⊕ String) × xH)) : ∀ (k i : Nat) (s : Int32) (f : Nat), i + k = bn B → f_X9_fitMany_L50 K (k + 1 + f) 0 x s (Int32.ofNat i) ((mX Ξ) μ) = K (fmQ B x k i s) ((mX Ξ) μ)
  | 0, i, s, f, h => by
    have e0 : μ.1 1 0 = Int32.ofNat (bn B) := hb1.1.1
    have hn := hB.n
    have c : (Int32.ofNat i ≥ Int32.ofNat (bn B)) = True := by rw [oN_ge (by omega) (by omega)]; exact eq_true (by omega)
    rw [show 0 + 1 + f = f + 1 by omega]
    simp only [f_X9_fitMany_L50, ↓hbind gR_0_0, ↓hbind (bk_i0 bk1), e0, c, ↓reduceIte, fmQ]
  | k + 1, i, s, f, h => by
    have e0 : μ.1 1 0 = Int32.ofNat (bn B) := hb1.1.1
    have hn := hB.n
    have hm := hB.m
    have c : (Int32.ofNat i ≥ Int32.ofNat (bn B)) = False := by rw [oN_ge (by omega) (by omega)]; exact eq_false (by omega)
    have ih := c_fm_out ks hB hb1 (x := x) K k (i + 1) (fmR B x i (bm B) 0 s) f (by omega)
    have ei := c_fm_in (Ξ := Ξ) ks hB hb1 (x := x) (show i < 12 by omega) (f_X9_fitMany_J96 (f_X9_fitMany_L50 K (k + 1 + f)) K) (bm B) 0 s (5000 - (bm B + 1)) (by omega)
    rw [show bm B + 1 + (5000 - (bm B + 1)) = 5000 by omega] at ei
    have ei : f_X9_fitMany_L64 (f_X9_fitMany_J96 (f_X9_fitMany_L50 K (k + 1 + f)) K) 5000 0 x s (Int32.ofNat i) 0 ((mX Ξ) μ) = _ := ei
    rw [show k + 1 + 1 + f = (k + 1 + f) + 1 by omega, fmQ, ← ih]
    simp only [f_X9_fitMany_L50, ↓hbind gR_0_0, ↓hbind (bk_i0 bk1), e0, c, ↓reduceIte, ei, f_X9_fitMany_J96, lt, i_succ]
theorem in13 {x : Int32} (h : 1 ≤ x ∧ x ≤ 3) : ¬ x < 1 ∧ ¬ x > 3 := ⟨Int32.not_lt.mpr h.1, Int32.not_lt.mpr h.2⟩
end O19
