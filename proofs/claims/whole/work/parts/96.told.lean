/-! OPERATIONS: told -/
/-- what all pairs cost, of the first workers -/
def pcs (B : Bk) : Nat → Int32
  | 0 => 0
  | i + 1 => if bM B i < 12 then pcs B i + Int32.ofNat (bc B i (bM B i)) else pcs B i
theorem pcs_n {B : Bk} (hB : BOK B) : ∀ d, pcs B (bn B + d) = pcs B (bn B)
  | 0 => rfl
  | d + 1 => by
    rw [show bn B + (d + 1) = (bn B + d) + 1 from rfl, pcs, if_neg]
    · exact pcs_n hB d
    · intro q
      have := hB.w (hB.fit q).2.1
      omega
/-- how many fits, of the first workers -/
def fcs (B : Bk) : Nat → Int32
  | 0 => 0
  | i + 1 => fcs B i + Int32.ofNat (cnt (hb (bf B i)) 12)
section O15
variable {T : MM → Bk → Prop} {μ : MM} {A : AS} {B : Bk}
theorem c_fitCount (hb' : BC μ 1 B) (hB : BOK B) : f_X0_fitCount 1 (mem μ) = some (fcs B 12, mem μ) := by
  apply hw_eq
  refine hw_for (L := fun n i (s : Int32) => f_X0_fitCount_L4 f_X0_fitCount_J28 n 1 s i (mem μ)) (s0 := 0) 12 (fun i s => s = fcs B i) rfl (by omega) (fun i hi s hs => Or.inl ⟨fcs B (i + 1), rfl, fun n => ?_⟩) (fun s hs n => ?_)
  · subst hs
    have ef : μ.1 3 i = bf B i := hb'.2.2.1 i hi
    have ec := c_bitCount (h := mem μ) (hB.bf12 i)
    have er : aI (mem μ) 3 (Int32.ofNat i) = some (bf B i) := by rw [← ef]; exact bk_a2 bk1 hi
    show f_X0_fitCount_L4 f_X0_fitCount_J28 (n + 1) 1 (fcs B i) (Int32.ofNat i) (mem μ) = f_X0_fitCount_L4 f_X0_fitCount_J28 n 1 (fcs B (i + 1)) (Int32.ofNat (i + 1)) (mem μ)
    have e12 : (Int32.ofNat i ≥ 12) = False := by rw [lge_12 (by omega)]; exact eq_false (by omega)
    simp only [f_X0_fitCount_L4, e12, ↓reduceIte, ↓hbind (bk_r6 bk1), ↓hbind er, ↓hbind ec, lt, i_succ, fcs]
  · subst hs
    have e12 : (Int32.ofNat 12 ≥ 12) = True := eq_true (by decide)
    show Hw (f_X0_fitCount_L4 f_X0_fitCount_J28 (n + 1) 1 (fcs B 12) (Int32.ofNat 12) (mem μ)) _
    simp only [f_X0_fitCount_L4, e12, ↓reduceIte, f_X0_fitCount_J28]
    exact hw_ret rfl
theorem m_fitCount (hm : MR μ 0 B) (hB : BOK B) : f_X10_fitsInAll 168 (mem μ) = some (fcs B 12, mem μ) := by
  apply hw_eq
  refine hw_for (L := fun n i (s : Int32) => f_X10_fitsInAll_L4 f_X10_fitsInAll_J30 n 168 s i (mem μ)) (s0 := 0) 12 (fun i s => s = fcs B i) rfl (by omega) (fun i hi s hs => Or.inl ⟨fcs B (i + 1), rfl, fun n => ?_⟩) (fun s hs n => ?_)
  · subst hs
    have ef : μ.1 191 i = bf B i := hm.2.1 i hi
    have ec := m_ones (h := mem μ) (hB.bf12 i)
    show f_X10_fitsInAll_L4 f_X10_fitsInAll_J30 (n + 1) 168 (fcs B i) (Int32.ofNat i) (mem μ) = f_X10_fitsInAll_L4 f_X10_fitsInAll_J30 n 168 (fcs B (i + 1)) (Int32.ofNat (i + 1)) (mem μ)
    have e12 : (Int32.ofNat i ≥ 12) = False := by rw [lge_12 (by omega)]; exact eq_false (by omega)
    simp only [f_X10_fitsInAll_L4, e12, ↓reduceIte, ↓hbind gR_168_10, ↓hbind mr_f0, ↓hbind (ma_f0 hi), ef, ↓hbind ec, lt, i_succ, fcs]
  · subst hs
    have e12 : (Int32.ofNat 12 ≥ 12) = True := eq_true (by decide)
    show Hw (f_X10_fitsInAll_L4 f_X10_fitsInAll_J30 (n + 1) 168 (fcs B 12) (Int32.ofNat 12) (mem μ)) _
    simp only [f_X10_fitsInAll_L4, e12, ↓reduceIte, f_X10_fitsInAll_J30]
    exact hw_ret rfl
theorem c_pairCost (hb' : BC μ 1 B) (hB : BOK B) : f_X0_pairCost 1 (mem μ) = some (pcs B (bn B), mem μ) := by
  have hn := hB.n
  have p6 : prOK shI 6 = true := bk_pr bk1
  have e0 : μ.1 1 0 = Int32.ofNat (bn B) := hb'.1.1
  apply hw_eq
  refine hw_for (L := fun n i (s : Int32) => f_X0_pairCost_L4 f_X0_pairCost_J41 n 1 s i (mem μ)) (s0 := 0) (bn B) (fun i s => s = pcs B i) rfl (by omega) (fun i hi s hs => Or.inl ⟨pcs B (i + 1), rfl, fun n => ?_⟩) (fun s hs n => ?_)
  · subst hs
    have hi2 : i < 12 := by omega
    have et := c_taskOf (μ := μ) p6 hb'.2.2.2.2.2 hi2
    show f_X0_pairCost_L4 f_X0_pairCost_J41 (n + 1) 1 (pcs B i) (Int32.ofNat i) (mem μ) = f_X0_pairCost_L4 f_X0_pairCost_J41 n 1 (pcs B (i + 1)) (Int32.ofNat (i + 1)) (mem μ)
    have ei : (Int32.ofNat i ≥ Int32.ofNat (bn B)) = False := by rw [oN_ge (by omega) (by omega)]; exact eq_false (by omega)
    by_cases q : bM B i < 12
    · rw [eI_lt q] at et
      have ec := c_costOf bk1 hb' hi2 q
      rw [if_pos (hB.fit q).1] at ec
      have nz : (Int32.ofNat (bM B i) = -1) = False := oN_n1 (by omega)
      have e9 : pcs B (i + 1) = pcs B i + Int32.ofNat (bc B i (bM B i)) := by rw [pcs, if_pos q]
      rw [e9]
      simp only [f_X0_pairCost_L4, f_X0_pairCost_J35, ↓hbind (bk_i0 bk1), e0, ei, ↓reduceIte, ↓hbind (bk_r9 bk1), ↓hvc (fun _ => pr_v p6), ↓hbind et, nz, ↓hvc (fun _ => bk_v bk1), ↓hbind ec, lt, i_succ]
    · rw [eI_ge (by omega)] at et
      have e9 : pcs B (i + 1) = pcs B i := by rw [pcs, if_neg q]
      rw [e9]
      simp only [f_X0_pairCost_L4, f_X0_pairCost_J35, ↓hbind (bk_i0 bk1), e0, ei, ↓reduceIte, ↓hbind (bk_r9 bk1), ↓hvc (fun _ => pr_v p6), ↓hbind et, n1_n1, lt, i_succ]
  · subst hs
    have ei : (Int32.ofNat (bn B) ≥ Int32.ofNat (bn B)) = True := by rw [oN_ge (by omega) (by omega)]; exact eq_true (by omega)
    show Hw (f_X0_pairCost_L4 f_X0_pairCost_J41 (n + 1) 1 (pcs B (bn B)) (Int32.ofNat (bn B)) (mem μ)) _
    simp only [f_X0_pairCost_L4, ↓hbind (bk_i0 bk1), e0, ei, ↓reduceIte, f_X0_pairCost_J41]
    exact hw_ret rfl
theorem add_0' (x : Int32) : x + 0 = x := Int32.add_zero x
theorem m_pairCost (hm : MR μ 0 B) (hB : BOK B) : f_X10_costNow 168 (mem μ) = some (pcs B (bn B), mem μ) := by
  have e9 : pcs B 12 = pcs B (bn B) := by
    have := pcs_n hB (12 - bn B)
    have hn := hB.n
    rw [← this, show bn B + (12 - bn B) = 12 by omega]
  rw [← e9]
  apply hw_eq
  refine hw_for (L := fun n i (s : Int32) => f_X10_costNow_L4 f_X10_costNow_J52 n 168 s i (mem μ)) (s0 := 0) 12 (fun i s => s = pcs B i) rfl (by omega) (fun i hi s hs => Or.inl ⟨pcs B (i + 1), rfl, fun n => ?_⟩) (fun s hs n => ?_)
  · subst hs
    have et : μ.1 210 i = eI (bM B i) := hm.2.2.1 i hi
    show f_X10_costNow_L4 f_X10_costNow_J52 (n + 1) 168 (pcs B i) (Int32.ofNat i) (mem μ) = f_X10_costNow_L4 f_X10_costNow_J52 n 168 (pcs B (i + 1)) (Int32.ofNat (i + 1)) (mem μ)
    have e12 : (Int32.ofNat i ≥ 12) = False := by rw [lge_12 (by omega)]; exact eq_false (by omega)
    by_cases q : bM B i < 12
    · rw [eI_lt q] at et
      have ec := m_cost hm hi q (hB.fit q).1
      have nz : (Int32.ofNat (bM B i) = -1) = False := oN_n1 (by omega)
      have e9 : pcs B (i + 1) = pcs B i + Int32.ofNat (bc B i (bM B i)) := by rw [pcs, if_pos q]
      rw [e9]
      simp only [f_X10_costNow_L4, f_X10_costNow_J44, e12, ↓reduceIte, ↓hbind gR_168_11, ↓hbind mr_m0, ↓hbind (ma_m0 hi), et, nz, ↓hbind gR_168_13, ↓hbind mr_c0, ↓hbind (mc_c0 hi), ↓hbind (mc_a0 hi q), ec, lt, i_succ]
    · rw [eI_ge (by omega)] at et
      have e9 : pcs B (i + 1) = pcs B i := by rw [pcs, if_neg q]
      rw [e9]
      simp only [f_X10_costNow_L4, f_X10_costNow_J44, e12, ↓reduceIte, ↓hbind gR_168_11, ↓hbind mr_m0, ↓hbind (ma_m0 hi), et, n1_n1, lt, i_succ, add_0']
  · subst hs
    have e12 : (Int32.ofNat 12 ≥ 12) = True := eq_true (by decide)
    show Hw (f_X10_costNow_L4 f_X10_costNow_J52 (n + 1) 168 (pcs B 12) (Int32.ofNat 12) (mem μ)) _
    simp only [f_X10_costNow_L4, e12, ↓reduceIte, f_X10_costNow_J52]
    exact hw_ret rfl
/-- the model's free ones -/
theorem m_freeOf {s : Int32} {N : Nat} {F : Nat → Bool} (hs : s = 0 ∨ s = 1) (hN : N ≤ 12) (e0 : aI (mem μ) 172 s = some (Int32.ofNat N)) (ef : ∀ i, i < 12 → f_X10_isFree 168 s (Int32.ofNat i) (mem μ) = some (bI (F i), mem μ)) (hF : ∀ k, F k = true → k < N) : ∃ x, f_X10_freeOf 168 s (mem μ) = some (x, mem μ) ∧ ∀ k, hb x k = F k := by
  have key : Hw (f_X10_freeOf 168 s (mem μ)) (fun r => ∃ x, r = (x, mem μ) ∧ ∀ k, hb x k = F k) := by
    refine hw_for (L := fun n i (x : Int32) => f_X10_freeOf_L4 f_X10_freeOf_J41 n 168 s x i (mem μ)) (s0 := 0) N (fun i x => ∀ k, hb x k = (decide (k < i) && F k)) (fun k => by rw [hb_zero]; simp) (by omega) (fun i hi x hx => Or.inl ?_) (fun x hx n => ?_)
    · have ei : (Int32.ofNat i ≥ Int32.ofNat N) = False := by rw [oN_ge (by omega) (by omega)]; exact eq_false (by omega)
      have ef := ef i (by omega)
      cases q : F i with
      | false =>
        rw [q] at ef
        refine ⟨x, fun k => ?_, fun n => ?_⟩
        · rw [hx k]
          by_cases z : k = i
          · rw [z, q]; simp
          · have : decide (k < i + 1) = decide (k < i) := by congr 1; apply propext; omega
            rw [this]
        · show f_X10_freeOf_L4 f_X10_freeOf_J41 (n + 1) 168 s x (Int32.ofNat i) (mem μ) = f_X10_freeOf_L4 f_X10_freeOf_J41 n 168 s x (Int32.ofNat (i + 1)) (mem μ)
          simp only [f_X10_freeOf_L4, f_X10_freeOf_J33, ↓hbind gR_168_9, ↓hbind mr_h0, ↓hbind e0, ei, ↓reduceIte, ↓hvc (fun _ => vc_168), ↓hbind ef, show bI false = 0 from rfl, or_zero', lt, i_succ]
      | true =>
        rw [q] at ef
        refine ⟨x ||| ((1 : Int32) <<< (Int32.ofNat i &&& 31)), fun k => ?_, fun n => ?_⟩
        · rw [hb_or, hx k, hb_bit k (by omega)]
          by_cases z : k = i
          · rw [z, q]; simp
          · have : decide (k < i + 1) = decide (k < i) := by congr 1; apply propext; omega
            rw [this]; simp [z]
        · show f_X10_freeOf_L4 f_X10_freeOf_J41 (n + 1) 168 s x (Int32.ofNat i) (mem μ) = f_X10_freeOf_L4 f_X10_freeOf_J41 n 168 s _ (Int32.ofNat (i + 1)) (mem μ)
          simp only [f_X10_freeOf_L4, f_X10_freeOf_J33, ↓hbind gR_168_9, ↓hbind mr_h0, ↓hbind e0, ei, ↓reduceIte, ↓hvc (fun _ => vc_168), ↓hbind ef, show bI true = 1 from rfl, z_1, lt, i_succ]
    · have ei : (Int32.ofNat N ≥ Int32.ofNat N) = True := by rw [oN_ge (by omega) (by omega)]; exact eq_true (by omega)
      show Hw (f_X10_freeOf_L4 f_X10_freeOf_J41 (n + 1) 168 s x (Int32.ofNat N) (mem μ)) _
      simp only [f_X10_freeOf_L4, ↓hbind gR_168_9, ↓hbind mr_h0, ↓hbind e0, ei, ↓reduceIte, f_X10_freeOf_J41]
      refine hw_ret ⟨x, rfl, fun k => ?_⟩
      rw [hx k]
      cases q : F k with
      | false => simp
      | true => simp [hF k q]
  obtain ⟨r, e, x, rfl, h⟩ := key
  exact ⟨x, e, h⟩
theorem told_ok (hT : TF T) (hA : AOK A) (hC : RC T μ A) (hM : RM μ A) {c v : Int32} (h0 : 0 ≤ c ∧ c ≤ 11) (h1 : f_X9_told_J16 0 c 0 1 (mem μ) = some (.inl v, mem μ)) (h2 : ∀ ν, RM ν A → f_X10_told_J21 168 c 168 0 (mem (tz ν)) = some (v, mem (tz ν))) : OKc T μ (LB wc_L_told (f_X9_told 0 c) (f_X10_told 168 c)) := by
  have n1 : ¬ (c < 0) := Int32.not_lt.mpr h0.1
  have n2 : ¬ (c > 11) := Int32.not_lt.mpr h0.2
  refine LB_ok hT hM (SV.uq (A := A) (v := v)) (CX_V hT hC hA (ν := μ) ?_ (Fr.refl _ _)) (fun ν hν => MX_V hν (ν := tz ν) ?_ t0_Q t0_0)
  · unfold f_X9_told; rw [if_neg n1, if_neg n2]; exact h1
  · have ein : f_X10_in c 0 11 (mem (tz ν)) = some (1, mem (tz ν)) := by rw [m_in, decide_eq_true h0]; rfl
    simp only [f_X10_told, ↓hbind pI_t0, ↓hbind ein, z_1, ↓reduceIte]
    exact h2 ν hν
theorem told_no (hT : TF T) (hA : AOK A) (hC : RC T μ A) (hM : RM μ A) {c : Int32} (h0 : ¬ (0 ≤ c ∧ c ≤ 11)) : OKc T μ (LB wc_L_told (f_X9_told 0 c) (f_X10_told 168 c)) := by
  refine LB_ok hT hM (SA.uq (A := A)) (CX_A hT hC hA fun ν e => ?_) (fun ν hν => MX_A hν (w := 1) (b := 0) rfl (by decide) ?_)
  · have n3 : f_X9_told_J15 0 c 0 (mem μ) = some (.inr IAE, mem ν) := by
      unfold f_X9_told_J15 f_X9_told_J16
      rw [vc_0, e]; rfl
    unfold f_X9_told
    by_cases n1 : c < 0
    · rw [if_pos n1]; exact n3
    · rw [if_neg n1]
      by_cases n2 : c > 11
      · rw [if_pos n2]; exact n3
      · exact absurd ⟨Int32.not_lt.mp n1, Int32.not_lt.mp n2⟩ h0
  · have ein : f_X10_in c 0 11 (mem (tz ν)) = some (0, mem (tz ν)) := by rw [m_in, decide_eq_false h0]; rfl
    have n3 : f_X10_told_J21 168 c 168 1 (mem (tz ν)) = some (0, mem (bA (tz ν) 1)) := by
      unfold f_X10_told_J21
      rw [vc_168, m_bA (show (1 : Int32) ≠ 0 by decide)]; rfl
    simp only [f_X10_told, ↓hbind pI_t0, ↓hbind ein, ↓reduceIte]
    exact n3
end O15
