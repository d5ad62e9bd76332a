/-! OPERATIONS: narrow -/
/-- fits that cost c at most; less than c; those, and of c's as far as (w, j) -/
def cM (B : Bk) (c w t : Nat) : Bool := gE B w t && decide (bc B w t ≤ c)
def cL (B : Bk) (c w t : Nat) : Bool := gE B w t && decide (bc B w t < c)
def pE (B : Bk) (c w j v s : Nat) : Bool := gE B v s && (decide (bc B v s < c) || (decide (bc B v s = c) && (decide (v < w) || (decide (v = w) && decide (s < j)))))
theorem cM_Eb {B : Bk} (hB : BOK B) {c : Nat} : Eb (cM B c) := fun w t q => hB.Eb w t ((Bool.and_eq_true _ _).mp q).1
theorem cL_Eb {B : Bk} (hB : BOK B) {c : Nat} : Eb (cL B c) := fun w t q => hB.Eb w t ((Bool.and_eq_true _ _).mp q).1
theorem cL_s {B : Bk} {c : Nat} : cL B (c + 1) = cM B c := by
  funext w t
  unfold cL cM
  congr 2
  exact propext Nat.lt_succ_iff
theorem cL_0 {B : Bk} : cL B 0 = fun _ _ => false := by
  funext w t
  unfold cL
  simp
theorem cL_100 {B : Bk} (hB : BOK B) : cL B 100 = gE B := by
  funext w t
  unfold cL
  have := hB.c w t
  simp
  omega
theorem cM_99 {B : Bk} (hB : BOK B) : cM B 99 = gE B := by rw [← cL_s, cL_100 hB]
theorem pE_0 {B : Bk} {c : Nat} : pE B c 0 0 = cL B c := by
  funext v s
  unfold pE cL
  simp
theorem pE_row {B : Bk} (hB : BOK B) {c w : Nat} : pE B c w (bm B) = pE B c (w + 1) 0 := by
  funext v s
  unfold pE
  cases q : gE B v s with
  | false => rfl
  | true =>
    have := (hB.SOK.2.2.1 v s q).2.1
    have h : (decide (v < w) || (decide (v = w) && decide (s < bm B))) = (decide (v < w + 1) || (decide (v = w + 1) && decide (s < 0))) := by
      rw [Bool.eq_iff_iff]
      simp
      omega
    rw [h]
theorem pE_end {B : Bk} (hB : BOK B) {c : Nat} : pE B c (bn B) 0 = cM B c := by
  funext v s
  unfold pE cM
  cases q : gE B v s with
  | false => rfl
  | true =>
    have := (hB.SOK.2.2.1 v s q).1
    rw [Bool.eq_iff_iff]
    simp
    omega
theorem pE_no {B : Bk} {c w j : Nat} (h : ¬ (gE B w j = true ∧ bc B w j = c)) : pE B c w (j + 1) = pE B c w j := by
  funext v s
  unfold pE
  cases q : gE B v s with
  | false => rfl
  | true =>
    rw [Bool.eq_iff_iff]
    simp
    by_cases z : v = w ∧ s = j
    · rw [z.1, z.2] at q ⊢
      have : bc B w j ≠ c := fun y => h ⟨q, y⟩
      simp [this]
    · omega
theorem pE_yes {B : Bk} {c w j : Nat} (h : gE B w j = true) (e : bc B w j = c) : pE B c w (j + 1) = aE (pE B c w j) w j := by
  funext v s
  unfold pE aE
  by_cases z : v = w ∧ s = j
  · rw [z.1, z.2, h, e]; simp
  · have : (decide (v = w) && decide (s = j)) = false := by
      rw [Bool.and_eq_false_iff, decide_eq_false_iff_not, decide_eq_false_iff_not]
      by_cases y : v = w
      · exact Or.inr fun x => z ⟨y, x⟩
      · exact Or.inl y
    rw [this, Bool.or_false]
    congr 2
    rw [Bool.eq_iff_iff]
    simp
    intro
    omega
section Na
variable {μ : MM} {n m : Nat} {Wt Tt : Int32} {E : Nat → Nat → Bool} {M : Nat → Nat} {B : Bk}
theorem c_openA (hS : SR μ n m Wt Tt E M) {w t : Nat} (hw : w < 12) (ht : t < 12) : ∃ ν, f_X7_open 141 (Int32.ofNat w) (Int32.ofNat t) (mem μ) = some (mem ν) ∧ Fr (fun q _ => q = 145) μ ν ∧ SR ν n m Wt Tt (aE E w t) M := by
  have i1 := c_inLimit_n (k := w) (h := mem μ) (by omega)
  rw [decide_eq_true hw] at i1
  have i2 := c_inLimit_n (k := t) (h := mem μ) (by omega)
  rw [decide_eq_true ht] at i2
  have f1 : Fr (fun q _ => q = 145) μ (st μ 145 w (μ.1 145 w ||| ((1 : Int32) <<< (Int32.ofNat t &&& 31)))) := (Fr.refl _ _).st rfl
  refine ⟨_, ?_, f1, ⟨⟨?_, ?_, ?_, ?_⟩, fun v hv k => ?_, hS.2.2.fr f1 (fun i => by omega) (fun i => by omega)⟩⟩
  · simp only [f_X7_open, f_X7_open_J27, ↓hbind i1, ↓hbind i2, show bI true = 1 from rfl, z_1, ↓reduceIte, ↓hbind gR_141_1, ↓hbind (aI_145 hw), ↓hbind c_bit, ↓hbind (sI_145 hw)]
  · rw [(f1 _ _ (by omega)).1]; exact hS.1.1
  · rw [(f1 _ _ (by omega)).1]; exact hS.1.2.1
  · rw [(f1 _ _ (by omega)).1]; exact hS.1.2.2.1
  · rw [(f1 _ _ (by omega)).1]; exact hS.1.2.2.2
  · rw [st_at]
    unfold aE
    by_cases z : v = w
    · rw [if_pos ⟨rfl, z⟩, hb_or, hb_bit k (by omega), hS.2.1 w hw k, z]
      simp
    · rw [if_neg (fun y => z y.2), hS.2.1 v hv k]
      simp [z]
/-- what the inner round leaves -/
def OcR (B : Bk) (c w k j : Nat) (ν : MM) (b : Int32) (M : Nat → Nat) : Prop := ∃ ξ b', (∀ f K, f_X7_openCost_L17 K (k + 1 + f) 141 1 (Int32.ofNat c) b (Int32.ofNat w) (Int32.ofNat j) (mem ν) = K 141 1 (Int32.ofNat c) b' (Int32.ofNat w) (mem ξ)) ∧ Fr (fun q _ => q = 145) ν ξ ∧ SR ξ (bn B) (bm B) (bw B) (bt B) (pE B c w (bm B)) M ∧ (b' = 0 ∨ b' = 1) ∧ (b' = 0 → pE B c w (bm B) = cL B c)
theorem c_oc_in (hB : BOK B) {c : Nat} (hc : c ≤ 99) {w : Nat} (hw : w < bn B) : ∀ (k j : Nat) (ν : MM) (b : Int32), j + k = bm B → BC ν 1 B → SR ν (bn B) (bm B) (bw B) (bt B) (pE B c w j) M → (b = 0 ∨ b = 1) → (b = 0 → pE B c w j = cL B c) →
    OcR B c w k j ν b M
  | 0, j, ν, b, h, hb1, hS, hb, hz => by
    have hm := hB.m
    have e7 : ν.1 141 7 = Int32.ofNat (bm B) := hS.1.2.1
    have c' : (Int32.ofNat j ≥ Int32.ofNat (bm B)) = True := by rw [oN_ge (by omega) (by omega)]; exact eq_true (by omega)
    have ej : j = bm B := by omega
    rw [ej] at hS hz
    refine ⟨ν, b, fun f K => ?_, Fr.refl _ _, hS, hb, hz⟩
    rw [show 0 + 1 + f = f + 1 by omega]
    simp only [f_X7_openCost_L17, ↓hbind gI_141_7, e7, c', ↓reduceIte]
  | k + 1, j, ν, b, h, hb1, hS, hb0, hz => by
    have hn := hB.n
    have hm := hB.m
    have hj : j < 12 := by omega
    have hw2 : w < 12 := by omega
    have e7 : ν.1 141 7 = Int32.ofNat (bm B) := hS.1.2.1
    have e8 : ν.1 141 8 = bw B := hS.1.2.2.1
    have e9 : ν.1 141 9 = bt B := hS.1.2.2.2
    have c' : (Int32.ofNat j ≥ Int32.ofNat (bm B)) = False := by rw [oN_ge (by omega) (by omega)]; exact eq_false (by omega)
    have ec := c_costOf bk1 hb1 hw2 hj
    have h8 := c_has (x := bw B) (h := mem ν) (show w < 32 by omega)
    have h9 := c_has (x := bt B) (h := mem ν) (show j < 32 by omega)
    -- not opened
    have no : ¬ (gE B w j = true ∧ bc B w j = c) → (∀ f K, f_X7_openCost_L17 K (k + 1 + f + 1) 141 1 (Int32.ofNat c) b (Int32.ofNat w) (Int32.ofNat j) (mem ν) = f_X7_openCost_J72 (f_X7_openCost_L17 K (k + 1 + f)) K 141 1 (Int32.ofNat c) b (Int32.ofNat w) (Int32.ofNat j) (mem ν)) → OcR B c w (k + 1) j ν b M := fun np e => by
      have e9 := pE_no np
      obtain ⟨ξ, b', g, r⟩ := c_oc_in hB hc hw k (j + 1) ν b (by omega) hb1 (by rw [e9]; exact hS) hb0 (by rw [e9]; exact hz)
      exact ⟨ξ, b', fun f K => by
        rw [show k + 1 + 1 + f = k + 1 + f + 1 by omega, e, ← g f K]
        simp only [f_X7_openCost_J72, lt, i_succ], r⟩
    by_cases q : hb (bf B w) j = true ∧ bc B w j = c
    · rw [if_pos q.1, q.2] at ec
      cases qa : hb (bw B) w with
      | false =>
        rw [qa] at h8
        refine no (fun z => by have := gE_W _ _ z.1; rw [qa] at this; cases this) fun f K => ?_
        simp only [f_X7_openCost_L17, ↓hbind gI_141_7, e7, c', ↓reduceIte, ↓hvc (fun _ => bk_v bk1), ↓hbind ec, ↓hbind gI_141_8, e8, ↓hbind h8, show bI false = 0 from rfl]
      | true =>
        rw [qa] at h8
        cases qb : hb (bt B) j with
        | false =>
          rw [qb] at h9
          refine no (fun z => by have := gE_T _ _ z.1; rw [qb] at this; cases this) fun f K => ?_
          simp only [f_X7_openCost_L17, ↓hbind gI_141_7, e7, c', ↓reduceIte, ↓hvc (fun _ => bk_v bk1), ↓hbind ec, ↓hbind gI_141_8, e8, ↓hbind h8, show bI false = 0 from rfl, show bI true = 1 from rfl, z_1, ↓hbind gI_141_9, e9, ↓hbind h9]
        | true =>
          rw [qb] at h9
          have o : gE B w j = true := by unfold gE; rw [q.1, qa, qb]; rfl
          obtain ⟨ζ, eo, f1, s1⟩ := c_openA hS hw2 hj
          have e9' := pE_yes o q.2
          have hb1' : BC ζ 1 B := hb1.fr f1 fun q i a c z => by omega
          obtain ⟨ξ, b', g, f2, r⟩ := c_oc_in hB hc hw k (j + 1) ζ 1 (by omega) hb1' (by rw [e9']; exact s1) (Or.inr rfl) (fun z => by cases z)
          refine ⟨ξ, b', fun f K => ?_, f1.trans f2, r⟩
          rw [show k + 1 + 1 + f = k + 1 + f + 1 by omega, ← g f K]
          simp only [f_X7_openCost_L17, ↓hbind gI_141_7, e7, c', ↓reduceIte, ↓hvc (fun _ => bk_v bk1), ↓hvc (fun _ => vc_141), ↓hbind ec, ↓hbind gI_141_8, e8, ↓hbind h8, show bI true = 1 from rfl, z_1, ↓hbind gI_141_9, e9, ↓hbind h9, ↓hbind eo, f_X7_openCost_J72, lt, i_succ]
    · have ne : ((if hb (bf B w) j = true then Int32.ofNat (bc B w j) else -1) = Int32.ofNat c) = False := by
        have hcc := hB.c w j
        by_cases z : hb (bf B w) j = true
        · rw [if_pos z, oN_inj (by omega) (by omega)]
          exact eq_false fun y => q ⟨z, y⟩
        · rw [if_neg z]
          refine eq_false fun y => ?_
          have : (Int32.ofNat c = -1) = False := oN_n1 (by omega)
          rw [← y] at this
          exact this.mp rfl
      refine no (fun z => q ⟨?_, z.2⟩) fun f K => ?_
      · have z := z.1
        unfold gE at z
        simp only [Bool.and_eq_true] at z
        exact z.1.1
      · simp only [f_X7_openCost_L17, ↓hbind gI_141_7, e7, c', ↓reduceIte, ↓hvc (fun _ => bk_v bk1), ↓hbind ec, ne]
theorem c_openCost (hB : BOK B) {c : Nat} (hc : c ≤ 99) (hb1 : BC μ 1 B) (hS : SR μ (bn B) (bm B) (bw B) (bt B) (cL B c) M) : ∃ ξ b, f_X7_openCost 141 1 (Int32.ofNat c) (mem μ) = some (b, mem ξ) ∧ Fr (fun q _ => q = 145) μ ξ ∧ SR ξ (bn B) (bm B) (bw B) (bt B) (cM B c) M ∧ (b = 0 ∨ b = 1) ∧ (b = 0 → cM B c = cL B c) := by
  have hn := hB.n
  have hm := hB.m
  have key : ∀ (k i : Nat) (ν : MM) (b : Int32), i + k = bn B → BC ν 1 B → SR ν (bn B) (bm B) (bw B) (bt B) (pE B c i 0) M → (b = 0 ∨ b = 1) → (b = 0 → pE B c i 0 = cL B c) → ∃ ξ b', (∀ f, f_X7_openCost_L5 f_X7_openCost_J84 (k + 1 + f) 141 1 (Int32.ofNat c) b (Int32.ofNat i) (mem ν) = some (b', mem ξ)) ∧ Fr (fun q _ => q = 145) ν ξ ∧ SR ξ (bn B) (bm B) (bw B) (bt B) (cM B c) M ∧ (b' = 0 ∨ b' = 1) ∧ (b' = 0 → cM B c = cL B c) := by
    intro k
    induction k with
    | zero =>
      intro i ν b h hb1 hS hb0 hz
      have e6 : ν.1 141 6 = Int32.ofNat (bn B) := hS.1.1
      have ei : i = bn B := by omega
      have c' : (Int32.ofNat i ≥ Int32.ofNat (bn B)) = True := by rw [oN_ge (by omega) (by omega)]; exact eq_true (by omega)
      rw [ei, pE_end hB] at hS hz
      refine ⟨ν, b, fun f => ?_, Fr.refl _ _, hS, hb0, hz⟩
      rw [show 0 + 1 + f = f + 1 by omega]
      simp only [f_X7_openCost_L5, ↓hbind gI_141_6, e6, c', ↓reduceIte, f_X7_openCost_J84, if_pos hb0]
    | succ k ih =>
      intro i ν b h hb1 hS hb0 hz
      have e6 : ν.1 141 6 = Int32.ofNat (bn B) := hS.1.1
      have c' : (Int32.ofNat i ≥ Int32.ofNat (bn B)) = False := by rw [oN_ge (by omega) (by omega)]; exact eq_false (by omega)
      obtain ⟨ζ, b1, e, f1, s1, d1, d2⟩ := c_oc_in hB hc (show i < bn B by omega) (bm B) 0 ν b (by omega) hb1 hS hb0 hz
      have hb2 : BC ζ 1 B := hb1.fr f1 fun q i a c z => by omega
      rw [pE_row hB] at s1 d2
      obtain ⟨ξ, b', e2, f2, r⟩ := ih (i + 1) ζ b1 (by omega) hb2 s1 d1 d2
      refine ⟨ξ, b', fun f => ?_, f1.trans f2, r⟩
      have e := e (5000 - (bm B + 1)) (f_X7_openCost_J78 (f_X7_openCost_L5 f_X7_openCost_J84 (k + 1 + f)) f_X7_openCost_J84)
      rw [show bm B + 1 + (5000 - (bm B + 1)) = 5000 by omega] at e
      have e : f_X7_openCost_L17 (f_X7_openCost_J78 (f_X7_openCost_L5 f_X7_openCost_J84 (k + 1 + f)) f_X7_openCost_J84) 5000 141 1 (Int32.ofNat c) b (Int32.ofNat i) 0 (mem ν) = _ := e
      rw [show k + 1 + 1 + f = (k + 1 + f) + 1 by omega, ← e2 f]
      simp only [f_X7_openCost_L5, ↓hbind gI_141_6, e6, c', ↓reduceIte, e, f_X7_openCost_J78, lt, i_succ]
  obtain ⟨ξ, b, e, r⟩ := key (bn B) 0 μ 0 (by omega) hb1 (by rw [pE_0]; exact hS) (Or.inl rfl) (fun _ => pE_0)
  refine ⟨ξ, b, ?_, r⟩
  have e := e (5000 - (bn B + 1))
  rw [show bn B + 1 + (5000 - (bn B + 1)) = 5000 by omega] at e
  exact e
theorem c_shutAll (hS : SR μ n m Wt Tt E M) : ∃ ν, f_X7_shutAll 141 (mem μ) = some (mem ν) ∧ Fr FS μ ν ∧ SR ν n m Wt Tt (fun _ _ => false) (fun _ => 12) := by
  have key : Hw (f_X7_shutAll 141 (mem μ)) (fun r => ∃ ν, r = mem ν ∧ Fr FS μ ν ∧ SR ν n m Wt Tt (fun _ _ => false) (fun _ => 12)) := by
    refine hw_for (L := fun N i (ν : MM) => f_X7_shutAll_L2 f_X7_shutAll_J21 N 141 i (mem ν)) (s0 := μ) 12 (fun i ν => Fr (fun q _ => q = 145) μ ν ∧ ∀ w, w < i → ν.1 145 w = 0) ⟨Fr.refl _ _, fun w a => absurd a (Nat.not_lt_zero _)⟩ (by decide) (fun i hi ν hν => Or.inl ⟨st ν 145 i 0, ⟨hν.1.st rfl, fun w a => ?_⟩, fun N => ?_⟩) (fun ν hν N => ?_)
    · by_cases z : w = i
      · rw [z, st_same]
      · rw [st_ne (Or.inr z)]; exact hν.2 w (by omega)
    · have c : (Int32.ofNat i ≥ 12) = False := by rw [lge_12 (by omega)]; exact eq_false (by omega)
      show f_X7_shutAll_L2 f_X7_shutAll_J21 (N + 1) 141 (Int32.ofNat i) (mem ν) = f_X7_shutAll_L2 f_X7_shutAll_J21 N 141 (Int32.ofNat (i + 1)) (mem (st ν 145 i 0))
      simp only [f_X7_shutAll_L2, c, ↓reduceIte, ↓hbind gR_141_1, ↓hbind (sI_145 hi), lt, i_succ]
    · obtain ⟨f1, h1⟩ := hν
      have c : (Int32.ofNat 12 ≥ 12) = True := eq_true (by decide)
      obtain ⟨ξ, e, p, f2⟩ := c_pclear (μ := ν) pr142
      show Hw (f_X7_shutAll_L2 f_X7_shutAll_J21 (N + 1) 141 (Int32.ofNat 12) (mem ν)) _
      simp only [f_X7_shutAll_L2, c, ↓reduceIte, f_X7_shutAll_J21, ↓hbind gR_141_0, ↓hvc (fun _ => pr_v pr142), ↓hbind e]
      refine hw_ret ⟨ξ, rfl, (f1.mono fun q i z => by unfold FS; omega).trans (f2.mono fun q i z => by unfold FP at z; unfold FS; omega), ⟨⟨?_, ?_, ?_, ?_⟩, fun w hw k => ?_, p⟩⟩
      · rw [(f2 _ _ (by unfold FP; omega)).1, (f1 _ _ (by omega)).1]; exact hS.1.1
      · rw [(f2 _ _ (by unfold FP; omega)).1, (f1 _ _ (by omega)).1]; exact hS.1.2.1
      · rw [(f2 _ _ (by unfold FP; omega)).1, (f1 _ _ (by omega)).1]; exact hS.1.2.2.1
      · rw [(f2 _ _ (by unfold FP; omega)).1, (f1 _ _ (by omega)).1]; exact hS.1.2.2.2
      · rw [(f2 _ _ (by unfold FP; omega)).1, h1 w hw, hb_zero]
  obtain ⟨r, e, ν, rfl, h⟩ := key
  exact ⟨ν, e, h⟩
end Na
