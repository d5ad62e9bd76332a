/-! THE LAW'S BOOK: where it lies, what it holds; who can, whose a task is, how many pairs -/
def lb3 (c q r : Nat) : List Value := [.int 0, .int 0, .int 0, .int 0, .int 0, .ref c, .ref q, .ref r]
/-- its place, how many cells; the rows of costs, the mates, the weights; each row -/
abbrev LA : Type := Nat × Nat × Nat × Nat × Nat × (Nat → Nat)
def lab (a : LA) : Nat := a.1
def lan (a : LA) : Nat := a.2.1
def lac (a : LA) : Nat := a.2.2.1
def laq (a : LA) : Nat := a.2.2.2.1
def lar (a : LA) : Nat := a.2.2.2.2.1
def lao (a : LA) (w : Nat) : Nat := a.2.2.2.2.2 w
def lbS (sh : xH) (a : LA) : Prop :=
  (sh[lab a]? = some (10, lb3 (lac a) (laq a) (lar a)) ∧ sh[lac a]? = some (102, (List.range 12).map fun i => .ref (lao a i)) ∧ sh[laq a]? = some (100, dI 12) ∧ sh[lar a]? = some (100, dI 12) ∧ ∀ w, w < 12 → sh[lao a w]? = some (100, dI 12)) ∧
  (168 ≤ lab a ∧ lab a + lan a ≤ sh.length) ∧ (lab a < lac a ∧ lac a < lab a + lan a) ∧ (lab a < laq a ∧ laq a < lab a + lan a) ∧ (lab a < lar a ∧ lar a < lab a + lan a) ∧ (∀ w, w < 12 → lab a < lao a w ∧ lao a w < lab a + lan a) ∧
  (laq a ≠ lar a ∧ ∀ w, w < 12 → lao a w ≠ laq a ∧ lao a w ≠ lar a) ∧ ∀ w v, w < 12 → v < 12 → lao a w = lao a v → w = v
def lbV (μ : MM) (a : LA) (B : Bk) : Prop :=
  (μ.1 (lab a) 0 = Int32.ofNat (bn B) ∧ μ.1 (lab a) 1 = Int32.ofNat (bm B) ∧ μ.1 (lab a) 2 = Int32.ofNat (bk B) ∧ μ.1 (lab a) 3 = bw B ∧ μ.1 (lab a) 4 = bt B) ∧
  (∀ w t, w < 12 → t < 12 → μ.1 (lao a w) t = if hb (bf B w) t then Int32.ofNat (bc B w t) else -1) ∧ (∀ w, w < 12 → μ.1 (laq a) w = eI (bM B w)) ∧ (∀ w, w < 12 → μ.1 (lar a) w = Int32.ofNat (be B w)) ∧
  (bn B ≤ 12 ∧ bm B ≤ 12 ∧ bk B ≤ 1) ∧ (∀ w, bM B w ≤ 12) ∧ (∀ w, be B w ≤ 99) ∧ ∀ w t, bc B w t ≤ 99
/-- the cells of a book -/
def LF (a : LA) (q _i : Nat) : Prop := lab a ≤ q ∧ q < lab a + lan a
section D0
variable {sh : xH} {μ : MM} {a : LA} {B : Bk}
theorem slot_of {ci p k : Nat} {l : List Value} {v : Value} {f : Value → Bool} (e : sh[p]? = some (ci, l)) (hk : l[k]? = some v) (hf : f v = true) : slot sh ci p k f = true := by
  unfold slot
  rw [e]
  simp [hk, hf]
theorem isT_of {ci p : Nat} {l : List Value} (e : sh[p]? = some (ci, l)) : isT sh ci p = true := by
  unfold isT
  rw [e]
  simp
theorem isA_of {p n : Nat} (e : sh[p]? = some (100, dI n)) : isA sh 100 p n isInt = true := by
  unfold isA
  rw [e]
  have h1 : (dI n).length = n := by simp [dI]
  have h2 : (dI n).all isInt = true := List.all_eq_true.mpr fun v hv => by rw [(List.mem_replicate.mp hv).2]; rfl
  simp [h1, h2]
theorem lbS.vc {β : Type} {o : Option β} (h : lbS sh a) : vc (mS sh μ) 10 (lab a) o = o := vc_m (isT_of h.1.1)
theorem lbS.g {k : Nat} (h : lbS sh a) (hk : k < 5) : gI (mS sh μ) 10 (lab a) k = some (μ.1 (lab a) k) := by
  refine gI_m ?_
  match k, hk with
  | 0, _ => exact slot_of h.1.1 rfl rfl
  | 1, _ => exact slot_of h.1.1 rfl rfl
  | 2, _ => exact slot_of h.1.1 rfl rfl
  | 3, _ => exact slot_of h.1.1 rfl rfl
  | 4, _ => exact slot_of h.1.1 rfl rfl
theorem lbS.p {k : Nat} {v : Int32} (h : lbS sh a) (hk : k < 5) : pI (mS sh μ) 10 (lab a) k v = some (mS sh (st μ (lab a) k v)) := by
  refine pI_m ?_
  match k, hk with
  | 0, _ => exact slot_of h.1.1 rfl rfl
  | 1, _ => exact slot_of h.1.1 rfl rfl
  | 2, _ => exact slot_of h.1.1 rfl rfl
  | 3, _ => exact slot_of h.1.1 rfl rfl
  | 4, _ => exact slot_of h.1.1 rfl rfl
theorem lbS.pz {v : Int32} (h : lbS sh a) (hv : v = 0 ∨ v = 1) : pZ (mS sh μ) 10 (lab a) 2 v = some (mS sh (st μ (lab a) 2 v)) := pZ_m (slot_of h.1.1 rfl rfl) hv
theorem lbS.r5 (h : lbS sh a) : gR (mS sh μ) 10 (lab a) 5 = some (lac a) := gR_m (slot_of h.1.1 rfl (by simp [isRef]))
theorem lbS.r6 (h : lbS sh a) : gR (mS sh μ) 10 (lab a) 6 = some (laq a) := gR_m (slot_of h.1.1 rfl (by simp [isRef]))
theorem lbS.r7 (h : lbS sh a) : gR (mS sh μ) 10 (lab a) 7 = some (lar a) := gR_m (slot_of h.1.1 rfl (by simp [isRef]))
theorem lbS.ro {w : Nat} (h : lbS sh a) (hw : w < 12) : aR 102 (mS sh μ) (lac a) (Int32.ofNat w) = some (lao a w) := by
  refine aR_k (slot_of h.1.2.1 (v := .ref (lao a w)) ?_ (by simp [isRef])) (by omega)
  rw [List.getElem?_map, List.getElem?_range hw]
  rfl
theorem lbS.aq {w : Nat} (h : lbS sh a) (hw : w < 12) : aI (mS sh μ) (laq a) (Int32.ofNat w) = some (μ.1 (laq a) w) := aI_k (isA_of h.1.2.2.1) hw (by omega)
theorem lbS.sq {w : Nat} {v : Int32} (h : lbS sh a) (hw : w < 12) : sI (mS sh μ) (laq a) (Int32.ofNat w) v = some (mS sh (st μ (laq a) w v)) := sI_k (isA_of h.1.2.2.1) hw (by omega)
theorem lbS.ar {w : Nat} (h : lbS sh a) (hw : w < 12) : aI (mS sh μ) (lar a) (Int32.ofNat w) = some (μ.1 (lar a) w) := aI_k (isA_of h.1.2.2.2.1) hw (by omega)
theorem lbS.sr {w : Nat} {v : Int32} (h : lbS sh a) (hw : w < 12) : sI (mS sh μ) (lar a) (Int32.ofNat w) v = some (mS sh (st μ (lar a) w v)) := sI_k (isA_of h.1.2.2.2.1) hw (by omega)
theorem lbS.ao {w t : Nat} (h : lbS sh a) (hw : w < 12) (ht : t < 12) : aI (mS sh μ) (lao a w) (Int32.ofNat t) = some (μ.1 (lao a w) t) := aI_k (isA_of (h.1.2.2.2.2 w hw)) ht (by omega)
theorem lbS.so {w t : Nat} {v : Int32} (h : lbS sh a) (hw : w < 12) (ht : t < 12) : sI (mS sh μ) (lao a w) (Int32.ofNat t) v = some (mS sh (st μ (lao a w) t v)) := sI_k (isA_of (h.1.2.2.2.2 w hw)) ht (by omega)
/-- behind other cells made -/
theorem lbS.app (h : lbS sh a) (E : xH) : lbS (sh ++ E) a := by
  have k : ∀ {p : Nat} {c : xC}, sh[p]? = some c → (sh ++ E)[p]? = some c := fun {p c} e => by
    rw [List.getElem?_append_left (List.getElem?_eq_some_iff.mp e).1]; exact e
  obtain ⟨⟨h1, h2, h3, h4, h5⟩, ⟨h6, h7⟩, h8⟩ := h
  exact ⟨⟨k h1, k h2, k h3, k h4, fun w hw => k (h5 w hw)⟩, ⟨h6, by rw [List.length_append]; omega⟩, h8⟩
/-- its cells unchanged -/
theorem lbV.fr (hs : lbS sh a) (h : lbV μ a B) {ν : MM} {P : Nat → Nat → Prop} (f : Fr P μ ν) (n : ∀ q i, LF a q i → ¬ P q i) : lbV ν a B := by
  obtain ⟨⟨h0, h1, h2, h3, h4⟩, h5, h6, h7, h8⟩ := h
  obtain ⟨-, -, s1, s2, s3, s4, -⟩ := hs
  have e : ∀ q i, LF a q i → ν.1 q i = μ.1 q i := fun q i z => (f q i (n q i z)).1
  have eb : ∀ i, ν.1 (lab a) i = μ.1 (lab a) i := fun i => e _ _ (by unfold LF; omega)
  refine ⟨⟨by rw [eb]; exact h0, by rw [eb]; exact h1, by rw [eb]; exact h2, by rw [eb]; exact h3, by rw [eb]; exact h4⟩, fun w t hw ht => ?_, fun w hw => ?_, fun w hw => ?_, h8⟩
  · rw [e _ _ (by have := s4 w hw; unfold LF; omega)]; exact h5 w t hw ht
  · rw [e _ _ (by unfold LF; omega)]; exact h6 w hw
  · rw [e _ _ (by unfold LF; omega)]; exact h7 w hw
theorem l_can (hs : lbS sh a) (hv : lbV μ a B) {w t : Nat} (hw : w < 12) (ht : t < 12) : f_X10_can (lab a) (Int32.ofNat w) (Int32.ofNat t) (mS sh μ) = some (bI (gE B w t), mS sh μ) := by
  have g3 : μ.1 (lab a) 3 = bw B := hv.1.2.2.2.1
  have g4 : μ.1 (lab a) 4 = bt B := hv.1.2.2.2.2
  have go := hv.2.1 w t hw ht
  have h1 := has_eq1 (x := bw B) (show w < 32 by omega)
  have h2 := has_eq1 (x := bt B) (show t < 32 by omega)
  have z1 : ((0 : Int32) = 0 ∨ (0 : Int32) = 1) := Or.inl rfl
  have z2 : ((1 : Int32) = 0 ∨ (1 : Int32) = 1) := Or.inr rfl
  cases c1 : hb (bw B) w with
  | false =>
    have n1 : ¬ (((bw B >>> (Int32.ofNat w &&& 31)) &&& (1 : Int32)) = 1) := by rw [h1, c1]; simp
    have e : gE B w t = false := by simp [gE, c1]
    rw [e]
    simp only [f_X10_can, hs.g (show 3 < 5 by decide), Option.bind_some, g3, if_neg n1, f_X10_can_J39, f_X10_can_J40, if_pos z1]
    rfl
  | true =>
    have n1 : (((bw B >>> (Int32.ofNat w &&& 31)) &&& (1 : Int32)) = 1) := by rw [h1, c1]
    cases c2 : hb (bt B) t with
    | false =>
      have n2 : ¬ (((bt B >>> (Int32.ofNat t &&& 31)) &&& (1 : Int32)) = 1) := by rw [h2, c2]; simp
      have e : gE B w t = false := by simp [gE, c2]
      rw [e]
      simp only [f_X10_can, hs.g (show 3 < 5 by decide), hs.g (show 4 < 5 by decide), Option.bind_some, g3, g4, if_pos n1, if_neg n2, f_X10_can_J39, f_X10_can_J40, if_pos z1]
      rfl
    | true =>
      have n2 : (((bt B >>> (Int32.ofNat t &&& 31)) &&& (1 : Int32)) = 1) := by rw [h2, c2]
      have e : gE B w t = hb (bf B w) t := by simp [gE, c1, c2]
      rw [e]
      cases c3 : hb (bf B w) t with
      | false =>
        rw [c3] at go
        have n3 : ((-1 : Int32) < 0) := by decide
        have go : μ.1 (lao a w) t = -1 := go
        simp only [f_X10_can, hs.g (show 3 < 5 by decide), hs.g (show 4 < 5 by decide), hs.r5, hs.ro hw, hs.ao hw ht, Option.bind_some, g3, g4, if_pos n1, if_pos n2, go, if_pos n3, f_X10_can_J39, f_X10_can_J40, if_pos z1]
        rfl
      | true =>
        rw [c3] at go
        have go : μ.1 (lao a w) t = Int32.ofNat (bc B w t) := go
        have hc := hv.2.2.2.2.2.2.2 w t
        have n3 : ¬ (Int32.ofNat (bc B w t) < 0) := by rw [oN_l0 (by omega)]; exact id
        simp only [f_X10_can, hs.g (show 3 < 5 by decide), hs.g (show 4 < 5 by decide), hs.r5, hs.ro hw, hs.ao hw ht, Option.bind_some, g3, g4, if_pos n1, if_pos n2, go, if_neg n3, f_X10_can_J40, if_pos z2]
        rfl
/-- whose a task is -/
theorem l_owner (hs : lbS sh a) (hv : lbV μ a B) (h12 : ∀ w, bn B ≤ w → bM B w = 12) {t : Nat} (ht : t < 12) : f_X10_owner (lab a) (Int32.ofNat t) (mS sh μ) = some (eI (ow (bM B) t), mS sh μ) := by
  have g0 : μ.1 (lab a) 0 = Int32.ofNat (bn B) := hv.1.1
  have hn : bn B ≤ 12 := hv.2.2.2.2.1.1
  have hM := hv.2.2.2.2.2.1
  refine hw_eq ?_
  show Hw (f_X10_owner_L2 f_X10_owner_J20 f_X10_owner_J28 5000 (lab a) (Int32.ofNat t) (Int32.ofNat 0) (mS sh μ)) _
  refine hw_for (L := fun i w (_ : Unit) => f_X10_owner_L2 f_X10_owner_J20 f_X10_owner_J28 i (lab a) (Int32.ofNat t) w (mS sh μ)) (s0 := ()) (bn B) (fun w _ => ∀ v, v < w → bM B v ≠ t) (fun v hv => absurd hv (Nat.not_lt_zero _)) (by omega) (fun w hw _ hJ => ?_) (fun _ hJ i => ?_)
  · have w12 : w < 12 := by omega
    have c : ¬ (Int32.ofNat w ≥ Int32.ofNat (bn B)) := by rw [oN_ge (by omega) (by omega)]; omega
    have gq := hv.2.2.1 w w12
    by_cases e : bM B w = t
    · right
      intro i
      have ce : (eI (bM B w) = Int32.ofNat t) := by rw [eI_oN (hM w) ht]; exact e
      have eo : ow (bM B) t = w := fi_eq w12 (by simp [e]) fun j hj => by simp [hJ j hj]
      simp only [f_X10_owner_L2, hs.g (show 0 < 5 by decide), hs.r6, hs.aq w12, Option.bind_some, g0, if_neg c, gq, if_pos ce, f_X10_owner_J20]
      exact hw_ret (by rw [eo, eI_lt w12])
    · left
      have ce : ¬ (eI (bM B w) = Int32.ofNat t) := by rw [eI_oN (hM w) ht]; exact e
      refine ⟨(), fun v hv' => ?_, fun i => ?_⟩
      · rcases Nat.lt_succ_iff_lt_or_eq.mp hv' with q | q
        · exact hJ v q
        · rw [q]; exact e
      · simp only [f_X10_owner_L2, hs.g (show 0 < 5 by decide), hs.r6, hs.aq w12, Option.bind_some, g0, if_neg c, gq, if_neg ce, lt, i_succ]
  · have c : (Int32.ofNat (bn B) ≥ Int32.ofNat (bn B)) := by rw [oN_ge (by omega) (by omega)]; omega
    have eo : ow (bM B) t = 12 := ow_none.mpr fun w hw => by
      by_cases z : w < bn B
      · exact hJ w z
      · rw [h12 w (by omega)]; omega
    show Hw (f_X10_owner_L2 f_X10_owner_J20 f_X10_owner_J28 (i + 1) (lab a) (Int32.ofNat t) (Int32.ofNat (bn B)) (mS sh μ)) _
    simp only [f_X10_owner_L2, hs.g (show 0 < 5 by decide), Option.bind_some, g0, if_pos c, f_X10_owner_J28]
    exact hw_ret (by rw [eo, eI_ge (by omega)])
/-- how many pairs -/
theorem l_pairs (hs : lbS sh a) (hv : lbV μ a B) (h12 : ∀ w, bn B ≤ w → bM B w = 12) : f_X10_pairs (lab a) (mS sh μ) = some (Int32.ofNat (sz (bM B)), mS sh μ) := by
  have g0 : μ.1 (lab a) 0 = Int32.ofNat (bn B) := hv.1.1
  have hn : bn B ≤ 12 := hv.2.2.2.2.1.1
  have hM := hv.2.2.2.2.2.1
  refine hw_eq ?_
  show Hw (f_X10_pairs_L4 f_X10_pairs_J30 5000 (lab a) 0 (Int32.ofNat 0) (mS sh μ)) _
  refine hw_for (L := fun i w (k : Int32) => f_X10_pairs_L4 f_X10_pairs_J30 i (lab a) k w (mS sh μ)) (s0 := 0) (bn B) (fun w k => k = Int32.ofNat (cnt (fun v => decide (bM B v < 12)) w)) rfl (by omega) (fun w hw k hJ => Or.inl ?_) (fun k hJ i => ?_)
  · have w12 : w < 12 := by omega
    have c : ¬ (Int32.ofNat w ≥ Int32.ofNat (bn B)) := by rw [oN_ge (by omega) (by omega)]; omega
    have gq := hv.2.2.1 w w12
    by_cases e : bM B w < 12
    · have ce : ¬ (eI (bM B w) < 0) := by rw [eI_l0]; omega
      refine ⟨Int32.ofNat (cnt (fun v => decide (bM B v < 12)) (w + 1)), rfl, fun i => ?_⟩
      have e1 : cnt (fun v => decide (bM B v < 12)) (w + 1) = cnt (fun v => decide (bM B v < 12)) w + 1 := by simp [cnt, e]
      simp only [f_X10_pairs_L4, hs.g (show 0 < 5 by decide), hs.r6, hs.aq w12, Option.bind_some, g0, if_neg c, gq, if_neg ce, lt, f_X10_pairs_J24, i_succ, hJ, e1]
    · have ce : (eI (bM B w) < 0) := by rw [eI_l0]; omega
      refine ⟨k, ?_, fun i => ?_⟩
      · rw [hJ]
        simp [cnt, e]
      · simp only [f_X10_pairs_L4, hs.g (show 0 < 5 by decide), hs.r6, hs.aq w12, Option.bind_some, g0, if_neg c, gq, if_pos ce, lt, f_X10_pairs_J24, i_succ]
  · have c : (Int32.ofNat (bn B) ≥ Int32.ofNat (bn B)) := by rw [oN_ge (by omega) (by omega)]; omega
    show Hw (f_X10_pairs_L4 f_X10_pairs_J30 (i + 1) (lab a) k (Int32.ofNat (bn B)) (mS sh μ)) _
    simp only [f_X10_pairs_L4, hs.g (show 0 < 5 by decide), Option.bind_some, g0, if_pos c, f_X10_pairs_J30]
    refine hw_ret ?_
    have key : ∀ d, cnt (fun v => decide (bM B v < 12)) (bn B + d) = cnt (fun v => decide (bM B v < 12)) (bn B) := by
      intro d
      induction d with
      | zero => rfl
      | succ d ih => rw [← Nat.add_assoc, cnt, ih]; simp [h12 (bn B + d) (by omega)]
    rw [hJ, sz, ← key (12 - bn B), show bn B + (12 - bn B) = 12 by omega]
end D0
