/-! OPERATIONS: told -/
variable {Ξ : xH}
/-- what all pairs cost, of the first workers -/
def pcs (B : Bk) : Nat → Int32
  | 0 => 0
  | i + 1 => if bM B i < 12 then pcs B i + Int32.ofNat (bc B i (bM B i)) else pcs B i
theorem pcs_n {B : Bk} (hB : BOK B) : ∀ d, pcs B (bn B + d) = pcs B (bn B)
  | 0 => rfl
  | d + 1 => by
    rw [show bn B + (d + 1) = (bn B + d) + 1 from rfl, pcs, if_neg]
    · exact pcs_n hB d
    · intro q
      have := hB.w (hB.fit q).2.1
      omega
/-- how many fits, of the first workers -/
def fcs (B : Bk) : Nat → Int32
  | 0 => 0
  | i + 1 => fcs B i + Int32.ofNat (cnt (hb (bf B i)) 12)
section O15
variable {T : MM → Bk → Prop} {μ : MM} {A : AS} {B : Bk}
theorem c_fitCount (hb' : BC μ 1 B) (hB : BOK B) : f_X0_fitCount 1 ((mX Ξ) μ) = some (fcs B 12, (mX Ξ) μ) := by
  apply hw_eq
  refine hw_for (L := fun n i (s : Int32) => f_X0_fitCount_L4 f_X0_fitCount_J28 n 1 s i ((mX Ξ) μ)) (s0 := 0) 12 (fun i s => s = fcs B i) rfl (by omega) (fun i hi s hs => Or.inl ⟨fcs B (i + 1), rfl, fun n => ?_⟩) (fun s hs n => ?_)
  · subst hs
    have ef : μ.1 3 i = bf B i := hb'.2.2.1 i hi
    have ec := c_bitCount (h := (mX Ξ) μ) (hB.bf12 i)
    have er : aI ((mX Ξ) μ) 3 (Int32.ofNat i) = some (bf B i) := by rw [← ef]; exact bk_a2 bk1 hi
    show f_X0_fitCount_L4 f_X0_fitCount_J28 (n + 1) 1 (fcs B i) (Int32.ofNat i) ((mX Ξ) μ) = f_X0_fitCount_L4 f_X0_fitCount_J28 n 1 (fcs B (i + 1)) (Int32.ofNat (i + 1)) ((mX Ξ) μ)
    have e12 : (Int32.ofNat i ≥ 12) = False := by rw [lge_12 (by omega)]; exact eq_false (by omega)
    simp only [f_X0_fitCount_L4, e12, ↓reduceIte, ↓hbind (bk_r6 bk1), ↓hbind er, ↓hbind ec, lt, i_succ, fcs]
  · subst hs
    have e12 : (Int32.ofNat 12 ≥ 12) = True := eq_true (by decide)
    show Hw (f_X0_fitCount_L4 f_X0_fitCount_J28 (n + 1) 1 (fcs B 12) (Int32.ofNat 12) ((mX Ξ) μ)) _
    simp only [f_X0_fitCount_L4, e12, ↓reduceIte, f_X0_fitCount_J28]
    exact hw_ret rfl
theorem c_pairCost (hb' : BC μ 1 B) (hB : BOK B) : f_X0_pairCost 1 ((mX Ξ) μ) = some (pcs B (bn B), (mX Ξ) μ) := by
  have hn := hB.n
  have p6 : prOK shI 6 = true := bk_pr bk1
  have e0 : μ.1 1 0 = Int32.ofNat (bn B) := hb'.1.1
  apply hw_eq
  refine hw_for (L := fun n i (s : Int32) => f_X0_pairCost_L4 f_X0_pairCost_J41 n 1 s i ((mX Ξ) μ)) (s0 := 0) (bn B) (fun i s => s = pcs B i) rfl (by omega) (fun i hi s hs => Or.inl ⟨pcs B (i + 1), rfl, fun n => ?_⟩) (fun s hs n => ?_)
  · subst hs
    have hi2 : i < 12 := by omega
    have et := c_taskOf (Ξ := Ξ) (μ := μ) p6 hb'.2.2.2.2.2 hi2
    show f_X0_pairCost_L4 f_X0_pairCost_J41 (n + 1) 1 (pcs B i) (Int32.ofNat i) ((mX Ξ) μ) = f_X0_pairCost_L4 f_X0_pairCost_J41 n 1 (pcs B (i + 1)) (Int32.ofNat (i + 1)) ((mX Ξ) μ)
    have ei : (Int32.ofNat i ≥ Int32.ofNat (bn B)) = False := by rw [oN_ge (by omega) (by omega)]; exact eq_false (by omega)
    by_cases q : bM B i < 12
    · rw [eI_lt q] at et
      have ec := c_costOf (Ξ := Ξ) bk1 hb' hi2 q
      rw [if_pos (hB.fit q).1] at ec
      have nz : (Int32.ofNat (bM B i) = -1) = False := oN_n1 (by omega)
      have e9 : pcs B (i + 1) = pcs B i + Int32.ofNat (bc B i (bM B i)) := by rw [pcs, if_pos q]
      rw [e9]
      simp only [f_X0_pairCost_L4, f_X0_pairCost_J35, ↓hbind (bk_i0 bk1), e0, ei, ↓reduceIte, ↓hbind (bk_r9 bk1), ↓hvc (fun _ => pr_v p6), ↓hbind et, nz, ↓hvc (fun _ => bk_v bk1), ↓hbind ec, lt, i_succ]
    · rw [eI_ge (by omega)] at et
      have e9 : pcs B (i + 1) = pcs B i := by rw [pcs, if_neg q]
      rw [e9]
      simp only [f_X0_pairCost_L4, f_X0_pairCost_J35, ↓hbind (bk_i0 bk1), e0, ei, ↓reduceIte, ↓hbind (bk_r9 bk1), ↓hvc (fun _ => pr_v p6), ↓hbind et, n1_n1, lt, i_succ]
  · subst hs
    have ei : (Int32.ofNat (bn B) ≥ Int32.ofNat (bn B)) = True := by rw [oN_ge (by omega) (by omega)]; exact eq_true (by omega)
    show Hw (f_X0_pairCost_L4 f_X0_pairCost_J41 (n + 1) 1 (pcs B (bn B)) (Int32.ofNat (bn B)) ((mX Ξ) μ)) _
    simp only [f_X0_pairCost_L4, ↓hbind (bk_i0 bk1), e0, ei, ↓reduceIte, f_X0_pairCost_J41]
    exact hw_ret rfl
theorem add_0' (x : Int32) : x + 0 = x := Int32.add_zero x
end O15
