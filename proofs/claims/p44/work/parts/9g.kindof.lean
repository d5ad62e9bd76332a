/-! THE KIND OF A FIT: class and model -/
variable {Ξ : xH}
noncomputable def kv (B : Bk) (w t : Nat) : Int32 := if hb (bf B w) t then (if gE B w t then kvE (gE B) w t else 1) else 0
section Kc
variable {μ : MM} {B : Bk} {M : Nat → Nat}
/-- what the class has laid down when it tells kinds -/
def KSt (μ : MM) (B : Bk) (M : Nat → Nat) : Prop := SR μ (bn B) (bm B) (bw B) (bt B) (gE B) M ∧ Ms (gE B) M ∧ Nu (gE B) (sz M) ∧ CRs μ (gE B) M (bw B) (bt B) ∧ ∀ i, i < 12 → ∀ j, hb (μ.1 150 i) j = true ↔ Dr (gE B) M i j
theorem c_comesTo {v w : Nat} (hv : v ≤ 12) (hw : w < 12) : f_X5_comesTo 149 (eI v) (Int32.ofNat w) ((mX Ξ) μ) = some (bI (decide (v < 12) && hb (μ.1 150 v) w), (mX Ξ) μ) := by
  have e1 := c_inLimit_e (k := v) (h := (mX Ξ) μ)
  have e2 := c_inLimit_n (k := w) (h := (mX Ξ) μ) (by omega)
  rw [decide_eq_true hw] at e2
  by_cases c : v < 12
  · rw [decide_eq_true c] at e1 ⊢
    rw [eI_lt c] at e1 ⊢
    have eh := c_has (x := μ.1 150 v) (h := (mX Ξ) μ) (show w < 32 by omega)
    cases q : hb (μ.1 150 v) w with
    | false =>
      rw [q] at eh
      simp only [f_X5_comesTo, f_X5_comesTo_J31, f_X5_comesTo_J32, ↓hbind e1, ↓hbind e2, show bI true = 1 from rfl, z_1, ↓reduceIte, ↓hbind gR_149_4, ↓hbind (aI_150 c), ↓hbind eh, show bI false = 0 from rfl, true_or, Bool.and_false]
    | true =>
      rw [q] at eh
      simp only [f_X5_comesTo, f_X5_comesTo_J32, ↓hbind e1, ↓hbind e2, show bI true = 1 from rfl, z_1, ↓reduceIte, ↓hbind gR_149_4, ↓hbind (aI_150 c), ↓hbind eh, or_true, Bool.and_self]
  · rw [decide_eq_false c] at e1 ⊢
    simp only [f_X5_comesTo, f_X5_comesTo_J31, f_X5_comesTo_J32, ↓hbind e1, show bI false = 0 from rfl, ↓reduceIte, true_or, Bool.false_and]
theorem c_X5kindE {n m : Nat} {Wt Tt : Int32} {E : Nat → Nat → Bool} (hS : SR μ n m Wt Tt E M) (hM : Ms E M) (hN : Nu E (sz M)) (r : CRs μ E M Wt Tt) (hD : ∀ i, i < 12 → ∀ j, hb (μ.1 150 i) j = true ↔ Dr E M i j) (hE : Eb E) (hW : ∀ w t, E w t = true → hb Wt w = true) (hT : ∀ w t, E w t = true → hb Tt t = true) {w t : Nat} (e : E w t = true) : f_X5_kindOf 149 141 (Int32.ofNat w) (Int32.ofNat t) ((mX Ξ) μ) = some (kvE E w t, (mX Ξ) μ) := by
  obtain ⟨r1, r2⟩ := r
  obtain ⟨hw, ht⟩ := hE _ _ e
  have h0 := c_has (x := μ.1 149 0) (h := (mX Ξ) μ) (show w < 32 by omega)
  have h3 := c_has (x := μ.1 149 3) (h := (mX Ξ) μ) (show t < 32 by omega)
  cases q0 : hb (μ.1 149 0) w with
  | true =>
    rw [q0] at h0
    rw [(knA hE hM hN e ((r1.1 w).mp q0)).val hE hN e]
    simp only [f_X5_kindOf, f_X5_kindOf_J22, ↓hbind gI_149_0, ↓hbind h0, show bI true = 1 from rfl, z_1, ↓reduceIte]
  | false =>
    rw [q0] at h0
    cases q3 : hb (μ.1 149 3) t with
    | true =>
      rw [q3] at h3
      rw [(knB hE hM hN e ((r2.1 t).mp q3)).val hE hN e]
      simp only [f_X5_kindOf, f_X5_kindOf_J22, ↓hbind gI_149_0, ↓hbind h0, show bI false = 0 from rfl, ↓reduceIte, ↓hbind gI_149_3, ↓hbind h3, show bI true = 1 from rfl, z_1]
    | false =>
      rw [q3] at h3
      have na : ¬ fwW E M Wt w := fun z => by rw [(r1.1 w).mpr z] at q0; cases q0
      have nb : ¬ fwW (trE E) (tr M) Tt t := fun z => by rw [(r2.1 t).mpr z] at q3; cases q3
      have eo := c_workerOf (Ξ := Ξ) pr142 hS.2.2 ht
      have et := c_taskOf (Ξ := Ξ) pr142 hS.2.2 hw
      have ec := c_comesTo (Ξ := Ξ) (μ := μ) (v := ow M t) (w := w) (ow_le _ _) hw
      have n3 : ∀ v, f_X5_kindOf_J61 v ((mX Ξ) μ) = some (v, (mX Ξ) μ) := fun v => rfl
      have n4 : ∀ v, f_X5_kindOf_J72 v ((mX Ξ) μ) = some (v, (mX Ξ) μ) := fun v => rfl
      by_cases mw : M w = t
      · have ow' : ow M t = w := by rw [← mw]; exact ow_of hM.1 (by omega)
        have m' : (eI (M w) = Int32.ofNat t) = True := by rw [mw, eI_lt ht]; exact eq_true rfl
        cases q : hb (μ.1 150 w) w with
        | true =>
          have hd := (hD w hw w).mp q
          rw [(knC hE hM e (by omega) (by rw [ow']; exact hd)).val hE hN e]
          rw [ow', q, decide_eq_true hw] at ec
          rw [ow'] at eo
          simp only [f_X5_kindOf, ↓hbind gI_149_0, ↓hbind h0, show bI false = 0 from rfl, ↓reduceIte, ↓hbind gI_149_3, ↓hbind h3, ↓hbind gR_141_0, ↓hvc (fun _ => pr_v pr142), ↓hbind eo, ↓hvc (fun _ => vc_149), ↓hbind ec, ↓hbind et, m', Bool.and_self, show bI true = 1 from rfl, z_1, n3]
        | false =>
          have hd : ¬ Dr E M w w := fun z => by rw [(hD w hw w).mpr z] at q; cases q
          rw [kn3 hE hM hN (Wt := Wt) (Tt := Tt) hW hT e mw na nb hd]
          rw [ow', q, Bool.and_false] at ec
          rw [ow'] at eo
          simp only [f_X5_kindOf, ↓hbind gI_149_0, ↓hbind h0, show bI false = 0 from rfl, ↓reduceIte, ↓hbind gI_149_3, ↓hbind h3, ↓hbind gR_141_0, ↓hvc (fun _ => pr_v pr142), ↓hbind eo, ↓hvc (fun _ => vc_149), ↓hbind ec, ↓hbind et, m', n3]
      · have m' : (eI (M w) = Int32.ofNat t) = False := by rw [eI_oN (hM.1.1 w) ht]; exact eq_false mw
        have hv : ow M t < 12 := Classical.byContradiction fun z => nb (fwW.zero ht (hT _ _ e) (by rw [tr_lt ht]; exact Nat.le_antisymm (ow_le _ _) (by omega)))
        cases q : hb (μ.1 150 (ow M t)) w with
        | true =>
          have hd := (hD (ow M t) hv w).mp q
          rw [(knC hE hM e hv hd).val hE hN e]
          rw [q, decide_eq_true hv] at ec
          simp only [f_X5_kindOf, ↓hbind gI_149_0, ↓hbind h0, show bI false = 0 from rfl, ↓reduceIte, ↓hbind gI_149_3, ↓hbind h3, ↓hbind gR_141_0, ↓hvc (fun _ => pr_v pr142), ↓hbind eo, ↓hvc (fun _ => vc_149), ↓hbind ec, ↓hbind et, m', Bool.and_self, show bI true = 1 from rfl, z_1, n4]
        | false =>
          have hd : ¬ Dr E M (ow M t) w := fun z => by rw [(hD _ hv w).mpr z] at q; cases q
          rw [kn1 hE hM hN (Wt := Wt) (Tt := Tt) hW hT e mw na nb hd]
          rw [q, Bool.and_false] at ec
          simp only [f_X5_kindOf, ↓hbind gI_149_0, ↓hbind h0, show bI false = 0 from rfl, ↓reduceIte, ↓hbind gI_149_3, ↓hbind h3, ↓hbind gR_141_0, ↓hvc (fun _ => pr_v pr142), ↓hbind eo, ↓hvc (fun _ => vc_149), ↓hbind ec, ↓hbind et, m', n4]
theorem c_X5kind (h : KSt μ B M) (hB : BOK B) {w t : Nat} (e : gE B w t = true) : f_X5_kindOf 149 141 (Int32.ofNat w) (Int32.ofNat t) ((mX Ξ) μ) = some (kvE (gE B) w t, (mX Ξ) μ) := c_X5kindE (Ξ := Ξ) h.1 h.2.1 h.2.2.1 h.2.2.2.1 h.2.2.2.2 hB.Eb gE_W gE_T e
theorem c_kindOf (h : KSt μ B M) (hB : BOK B) (hb1 : BC μ 1 B) {w t : Nat} (hw : w < 12) (ht : t < 12) : f_X9_kindOf 0 (Int32.ofNat w) (Int32.ofNat t) ((mX Ξ) μ) = some (kv B w t, (mX Ξ) μ) := by
  have ef := c_isFit (Ξ := Ξ) bk1 hb1 hB hw ht
  have eo := c_isOpen (Ξ := Ξ) h.1 hw ht
  unfold kv
  cases q : hb (bf B w) t with
  | false =>
    rw [q] at ef
    simp only [f_X9_kindOf, ↓hbind gR_0_0, ↓hvc (fun _ => bk_v bk1), ↓hbind ef, show bI false = 0 from rfl, ↓reduceIte, Bool.false_eq_true]
  | true =>
    rw [q] at ef
    cases o : gE B w t with
    | false =>
      rw [o] at eo
      simp only [f_X9_kindOf, f_X9_kindOf_J43, ↓hbind gR_0_0, ↓hvc (fun _ => bk_v bk1), ↓hbind ef, show bI true = 1 from rfl, z_1, ↓reduceIte, ↓hbind gR_0_4, ↓hvc (fun _ => vc_141), ↓hbind eo, show bI false = 0 from rfl, Bool.false_eq_true]
    | true =>
      rw [o] at eo
      have ek := c_X5kind (Ξ := Ξ) h hB o
      simp only [f_X9_kindOf, f_X9_kindOf_J43, ↓hbind gR_0_0, ↓hvc (fun _ => bk_v bk1), ↓hbind ef, show bI true = 1 from rfl, z_1, ↓reduceIte, ↓hbind gR_0_4, ↓hvc (fun _ => vc_141), ↓hbind eo, ↓hbind gR_0_5, ↓hvc (fun _ => vc_149), ↓hbind ek]
end Kc
section Km
variable {μ : MM} {B : Bk} {A : AS}
theorem nN_le (E : Nat → Nat → Bool) : nN E ≤ 12 := by
  obtain ⟨M, m, e⟩ := (nN_nu E).1
  rw [← e]; exact sz_le M
end Km
