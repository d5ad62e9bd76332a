/-! WHAT HOLDS OF CLASS AND MODEL AT EACH CALL -/
variable {Ξ : xH}
/-- book, history, tape (how many, bytes), place of the fault, refused (places, arguments) -/
abbrev AS : Type := Bk × List Bk × (Nat × (Nat → Nat)) × Int32 × (Int32 × Int32)
def aB (A : AS) : Bk := A.1
def aH (A : AS) : List Bk := A.2.1
def aN (A : AS) : Nat := A.2.2.1.1
def aY (A : AS) : Nat → Nat := A.2.2.1.2
def aP (A : AS) : Int32 := A.2.2.2.1
def aX (A : AS) : Int32 := A.2.2.2.2.1
def aZ (A : AS) : Int32 := A.2.2.2.2.2
def mkA (B : Bk) (H : List Bk) (n : Nat) (y : Nat → Nat) (p x z : Int32) : AS := (B, H, (n, y), p, (x, z))
/-- another book -/
def wB (A : AS) (B : Bk) : AS := mkA B (aH A) (aN A) (aY A) (aP A) (aX A) (aZ A)
/-- an act: what was is kept -/
def wAct (A : AS) (B : Bk) : AS := mkA B (hpush (aH A) (aB A)) (aN A) (aY A) (aP A) (aX A) (aZ A)
def refP (A : AS) : AS := mkA (aB A) (aH A) (aN A) (aY A) (aP A) (aX A + 1) (aZ A)
def refA (A : AS) : AS := mkA (aB A) (aH A) (aN A) (aY A) (aP A) (aX A) (aZ A + 1)
def AOK (A : AS) : Prop := BOK (aB A) ∧ (∀ B, B ∈ aH A → BOK B) ∧ aN A ≤ 300 ∧ ∀ k, aY A k < 256
/-- a predicate of what the tally has laid down, by its cells alone -/
def TF (T : MM → Bk → Prop) : Prop := ∀ (μ ν : MM) (B : Bk), (∀ i, ν.1 156 i = μ.1 156 i ∧ ν.2 156 i = μ.2 156 i) → (∀ i, ν.1 161 i = μ.1 161 i) → T μ B → T ν B
def RC (T : MM → Bk → Prop) (μ : MM) (A : AS) : Prop :=
  BC μ 1 (aB A) ∧ HC μ (aH A) ∧ (μ.1 139 1 = Int32.ofNat (aN A) ∧ ∀ k, k < aN A → μ.1 140 k = Int32.ofNat (aY A k)) ∧ μ.1 139 2 = aP A ∧ μ.1 0 10 = aX A ∧ μ.1 0 11 = aZ A ∧ (μ.1 0 9 = 0 ∨ (μ.1 0 9 = 1 ∧ T μ (aB A)))
/-- cells that a question of the class may change, of the model -/
def CQ (q _i : Nat) : Prop := (141 ≤ q ∧ q ≤ 155) ∨ (162 ≤ q ∧ q ≤ 167)
def CL (q _i : Nat) : Prop := q < 168
theorem CQ.L {q i : Nat} (h : CQ q i) : CL q i := by unfold CQ at h; unfold CL; omega
theorem FS.Q {q i : Nat} (h : FS q i) : CQ q i := by unfold FS at h; unfold CQ; omega
theorem RC.fr {T : MM → Bk → Prop} (hT : TF T) {μ ν : MM} {A : AS} {P : Nat → Nat → Prop} (h : RC T μ A) (f : Fr P μ ν) (n : ∀ q i, q < 168 → P q i → CQ q i ∨ (157 ≤ q ∧ q ≤ 160)) : RC T ν A := by
  obtain ⟨h1, h2, ⟨h3, h4⟩, h5, h6, h7, h8⟩ := h
  have nn : ∀ q i, q < 168 → ¬ CQ q i → ¬ (157 ≤ q ∧ q ≤ 160) → ¬ P q i := fun q i a b c z => by
    rcases n q i a z with y | y
    · exact b y
    · exact c y
  refine ⟨h1.fr f fun q i a c => nn q i (by omega) (by unfold CQ; omega) (by omega), h2.fr f fun q i a => nn q i (by unfold FH at a; omega) (by unfold FH at a; unfold CQ; omega) (by unfold FH at a; omega), ⟨?_, fun k hk => ?_⟩, ?_, ?_, ?_, ?_⟩
  · rw [(f _ _ (nn _ _ (by omega) (by unfold CQ; omega) (by omega))).1]; exact h3
  · rw [(f _ _ (nn _ _ (by omega) (by unfold CQ; omega) (by omega))).1]; exact h4 k hk
  · rw [(f _ _ (nn _ _ (by omega) (by unfold CQ; omega) (by omega))).1]; exact h5
  · rw [(f _ _ (nn _ _ (by omega) (by unfold CQ; omega) (by omega))).1]; exact h6
  · rw [(f _ _ (nn _ _ (by omega) (by unfold CQ; omega) (by omega))).1]; exact h7
  · rw [(f _ _ (nn 0 9 (by omega) (by unfold CQ; omega) (by omega))).1]
    refine h8.imp id fun z => ⟨z.1, hT μ ν _ (fun i => f _ _ (nn _ _ (by omega) (by unfold CQ; omega) (by omega))) (fun i => (f _ _ (nn _ _ (by omega) (by unfold CQ; omega) (by omega))).1) z.2⟩
/-- what KEEP makes of a book -/
def Kp (B B' : Bk) : Prop := (bk B = 1 ∧ ∃ k M', Gr (gE B) 12 k (bM B) M' ∧ B' = wM B M') ∨ (bk B ≠ 1 ∧ B' = B)
theorem Kp.uniq {B B1 B2 : Bk} (h1 : Kp B B1) (h2 : Kp B B2) : B1 = B2 := by
  rcases h1 with ⟨a, k, M, g, rfl⟩ | ⟨a, rfl⟩
  · rcases h2 with ⟨a', k', M', g', rfl⟩ | ⟨a', rfl⟩
    · rw [(g.uniq g').2]
    · exact absurd a a'
  · rcases h2 with ⟨a', _⟩ | ⟨a', rfl⟩
    · exact absurd a' a
    · rfl
theorem Kp.ok {B B' : Bk} (hB : BOK B) (h : Kp B B') : BOK B' := by
  rcases h with ⟨a, k, M, g, rfl⟩ | ⟨a, rfl⟩
  · exact wM_ok hB (g.nu hB.Eb hB.M).1
  · exact hB
theorem hpush_ok {H : List Bk} {B : Bk} (hH : ∀ B, B ∈ H → BOK B) (hB : BOK B) : ∀ C, C ∈ hpush H B → BOK C := by
  intro C hC
  unfold hpush at hC
  split at hC
  · rcases List.mem_append.mp hC with q | q
    · exact hH C q
    · rw [List.mem_singleton.mp q]; exact hB
  · rcases List.mem_append.mp hC with q | q
    · exact hH C (List.mem_of_mem_tail q)
    · rw [List.mem_singleton.mp q]; exact hB
theorem wAct_ok {A : AS} {B : Bk} (h : AOK A) (hB : BOK B) : AOK (wAct A B) := ⟨hB, hpush_ok h.2.1 h.1, h.2.2.1, h.2.2.2⟩
theorem wB_ok {A : AS} {B : Bk} (h : AOK A) (hB : BOK B) : AOK (wB A B) := ⟨hB, h.2.1, h.2.2.1, h.2.2.2⟩
theorem refP_ok {A : AS} (h : AOK A) : AOK (refP A) := h
theorem refA_ok {A : AS} (h : AOK A) : AOK (refA A) := h
section Cr
variable {T : MM → Bk → Prop} {μ : MM} {A : AS}
/-- the search is loaded with the class's book -/
theorem c_loaded (h : RC T μ A) (hA : AOK A) : ∃ ν, f_X7_load 141 1 ((mX Ξ) μ) = some ((mX Ξ) ν) ∧ Fr FS μ ν ∧ SR ν (bn (aB A)) (bm (aB A)) (bw (aB A)) (bt (aB A)) (gE (aB A)) (bM (aB A)) ∧ SOK (bn (aB A)) (bm (aB A)) (bw (aB A)) (gE (aB A)) (bM (aB A)) := c_load (Ξ := Ξ) bk1 (by omega) h.1 hA.1
/-- M is made -/
theorem c_makeMost (h : RC T μ A) (hA : AOK A) : ∃ ν k M', f_X9_makeMost 0 ((mX Ξ) μ) = some (Int32.ofNat (sz M'), (mX Ξ) ν) ∧ Fr FS μ ν ∧ SR ν (bn (aB A)) (bm (aB A)) (bw (aB A)) (bt (aB A)) (gE (aB A)) M' ∧ SOK (bn (aB A)) (bm (aB A)) (bw (aB A)) (gE (aB A)) M' ∧ Gr (gE (aB A)) 12 k (bM (aB A)) M' := by
  obtain ⟨ν, e1, f1, s1, o1⟩ := c_loaded (Ξ := Ξ) h hA
  obtain ⟨k, ξ, M', e2, f2, s2, o2, g⟩ := c_grow (Ξ := Ξ) s1 o1 (Nat.le_refl 12)
  have e2' : f_X7_grow 141 12 ((mX Ξ) ν) = some (Int32.ofNat k, (mX Ξ) ξ) := e2
  refine ⟨ξ, k, M', ?_, f1.trans f2, s2, o2, g⟩
  simp only [f_X9_makeMost, vc_0, gR_0_0, gR_0_1, gR_0_2, gR_0_3, gR_0_4, gR_0_5, gR_0_6, gR_0_7, gR_0_8, gI_0_9, pI_0_9, gI_0_10, pI_0_10, gI_0_11, pI_0_11, vc_141, gR_141_0, gR_141_1, gR_141_2, gR_141_3, gR_141_4, gI_141_5, pI_141_5, gI_141_6, pI_141_6, gI_141_7, pI_141_7, gI_141_8, pI_141_8, gI_141_9, pI_141_9, e1, e2', pr_v pr142, c_size pr142 s2.2.2, Option.bind_some]
/-- KEEP is kept -/
theorem c_keepUp {B : Bk} (hbc : BC μ 1 B) (hB : BOK B) : ∃ ν B', f_X9_keepUp 0 ((mX Ξ) μ) = some ((mX Ξ) ν) ∧ BC ν 1 B' ∧ Kp B B' ∧ Fr (fun q i => FS q i ∨ FB 1 q i) μ ν := by
  have hk := hB.k
  have e4 : μ.1 1 4 = Int32.ofNat (bk B) := hbc.1.2.2.2.2
  by_cases c : bk B = 1
  · obtain ⟨ν, e1, f1, s1, o1⟩ := c_load (Ξ := Ξ) bk1 (by omega) hbc hB
    obtain ⟨k, ξ, M', e2, f2, s2, o2, g⟩ := c_grow (Ξ := Ξ) s1 o1 (Nat.le_refl 12)
    have e2' : f_X7_grow 141 12 ((mX Ξ) ν) = some (Int32.ofNat k, (mX Ξ) ξ) := e2
    have hb2 : BC ξ 1 B := hbc.fr (f1.trans f2) fun q i a d z => by unfold FS at z; omega
    obtain ⟨ζ, e3, h3, f3⟩ := c_pairs (Ξ := Ξ) bk1 pr142 (Or.inr (by omega)) hb2 s2.2.2
    have e3' : f_X3_copy 6 142 ((mX Ξ) ξ) = some ((mX Ξ) ζ) := e3
    have p6 : prOK shI 6 = true := bk_pr bk1
    refine ⟨ζ, wM B M', ?_, h3, Or.inl ⟨c, k, M', g, rfl⟩, ((f1.trans f2).mono fun q i z => Or.inl z).trans (f3.mono fun q i z => Or.inr z)⟩
    rw [c] at e4
    have e4 : μ.1 1 4 = 1 := e4
    simp only [f_X9_keepUp, f_X9_keepUp_J49, vc_0, gR_0_0, gR_0_1, gR_0_2, gR_0_3, gR_0_4, gR_0_5, gR_0_6, gR_0_7, gR_0_8, gI_0_9, pI_0_9, gI_0_10, pI_0_10, gI_0_11, pI_0_11, vc_141, gR_141_0, gR_141_1, gR_141_2, gR_141_3, gR_141_4, gI_141_5, pI_141_5, gI_141_6, pI_141_6, gI_141_7, pI_141_7, gI_141_8, pI_141_8, gI_141_9, pI_141_9, bk_v bk1, bk_i0 bk1, bk_i1 bk1, bk_i2 bk1, bk_i3 bk1, bk_i4 bk1, bk_p0 bk1, bk_p1 bk1, bk_p2 bk1, bk_p3 bk1, bk_p4 bk1, bk_r5 bk1, bk_r6 bk1, bk_r7 bk1, bk_r8 bk1, bk_r9 bk1, bk_a1 bk1, bk_a2 bk1, bk_a3 bk1, bk_a4 bk1, bk_s1 bk1, bk_s2 bk1, bk_s3 bk1, bk_s4 bk1, e4, if_true, e1, e2', pr_v p6, e3', Option.bind_some]
  · refine ⟨μ, B, ?_, hbc, Or.inr ⟨c, rfl⟩, Fr.refl _ _⟩
    have c0 : bk B = 0 := by omega
    rw [c0] at e4
    have e4 : μ.1 1 4 = 0 := e4
    have n01 : ¬ ((0 : Int32) = 1) := by decide
    simp only [f_X9_keepUp, f_X9_keepUp_J49, vc_0, gR_0_0, gR_0_1, gR_0_2, gR_0_3, gR_0_4, gR_0_5, gR_0_6, gR_0_7, gR_0_8, gI_0_9, pI_0_9, gI_0_10, pI_0_10, gI_0_11, pI_0_11, bk_v bk1, bk_i0 bk1, bk_i1 bk1, bk_i2 bk1, bk_i3 bk1, bk_i4 bk1, bk_p0 bk1, bk_p1 bk1, bk_p2 bk1, bk_p3 bk1, bk_p4 bk1, bk_r5 bk1, bk_r6 bk1, bk_r7 bk1, bk_r8 bk1, bk_r9 bk1, bk_a1 bk1, bk_a2 bk1, bk_a3 bk1, bk_a4 bk1, bk_s1 bk1, bk_s2 bk1, bk_s3 bk1, bk_s4 bk1, e4, if_neg n01, Option.bind_some]
/-- an act begins -/
theorem c_beginAct (h : RC T μ A) (hA : AOK A) : ∃ ν, f_X9_beginAct 0 ((mX Ξ) μ) = some ((mX Ξ) ν) ∧ BC ν 1 (aB A) ∧ HC ν (hpush (aH A) (aB A)) ∧ ν.1 0 9 = 0 ∧ Fr (fun q i => FH q i ∨ (q = 0 ∧ i = 9)) μ ν := by
  obtain ⟨h1, h2, -⟩ := h
  obtain ⟨ν, e, p1, p2⟩ := c_save (Ξ := Ξ) h2 h1
  have f2 : Fr (fun q i => q = 0 ∧ i = 9) ν (st ν 0 9 0) := (Fr.refl _ _).st ⟨rfl, rfl⟩
  refine ⟨st ν 0 9 0, ?_, (h1.fr p2 fun q i a c z => by unfold FH at z; omega).fr f2 (fun q i a c z => by omega), p1.fr f2 (fun q i a z => by unfold FH at a; omega), st_same _ _ _ _, (p2.mono fun q i z => Or.inl z).trans (f2.mono fun q i z => Or.inr z)⟩
  have ez : pZ ((mX Ξ) ν) 9 0 9 0 = some ((mX Ξ) (st ν 0 9 0)) := pZ_x (by decide +kernel) (Or.inl rfl)
  simp only [f_X9_beginAct, vc_0, gR_0_0, gR_0_1, gR_0_2, gR_0_3, gR_0_4, gR_0_5, gR_0_6, gR_0_7, gR_0_8, gI_0_9, pI_0_9, gI_0_10, pI_0_10, gI_0_11, pI_0_11, vc_17, gR_17_0, gI_17_1, pI_17_1, gI_17_2, pI_17_2, e, ez, Option.bind_some]
/-- an act's end: the book as it is then -/
theorem RC.act (hT : TF T) (h : RC T μ A) {ν : MM} {B' : Bk} (b : BC ν 1 B') (hh : HC ν (hpush (aH A) (aB A))) (h9 : ν.1 0 9 = 0) (f : Fr (fun q i => FS q i ∨ FB 1 q i ∨ FH q i ∨ (q = 0 ∧ i = 9)) μ ν) : RC T ν (wAct A B') := by
  obtain ⟨h1, h2, ⟨h3, h4⟩, h5, h6, h7, h8⟩ := h
  have nn : ∀ q i, (q = 139 ∨ q = 140 ∨ (q = 0 ∧ i ≠ 9)) → ν.1 q i = μ.1 q i := fun q i a => (f q i (by unfold FS FB FH; omega)).1
  refine ⟨b, hh, ⟨?_, fun k hk => ?_⟩, ?_, ?_, ?_, Or.inl h9⟩
  · rw [nn _ _ (by omega)]; exact h3
  · rw [nn _ _ (by omega)]; exact h4 k hk
  · rw [nn _ _ (by omega)]; exact h5
  · rw [nn _ _ (by omega)]; exact h6
  · rw [nn _ _ (by omega)]; exact h7
end Cr
