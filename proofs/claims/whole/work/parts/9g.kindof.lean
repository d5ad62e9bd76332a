/-! THE KIND OF A FIT: class and model -/
noncomputable def kv (B : Bk) (w t : Nat) : Int32 := if hb (bf B w) t then (if gE B w t then kvE (gE B) w t else 1) else 0
section Kc
variable {μ : MM} {B : Bk} {M : Nat → Nat}
/-- what the class has laid down when it tells kinds -/
def KSt (μ : MM) (B : Bk) (M : Nat → Nat) : Prop := SR μ (bn B) (bm B) (bw B) (bt B) (gE B) M ∧ Ms (gE B) M ∧ Nu (gE B) (sz M) ∧ CRs μ (gE B) M (bw B) (bt B) ∧ ∀ i, i < 12 → ∀ j, hb (μ.1 150 i) j = true ↔ Dr (gE B) M i j
theorem c_comesTo {v w : Nat} (hv : v ≤ 12) (hw : w < 12) : f_X5_comesTo 149 (eI v) (Int32.ofNat w) (mem μ) = some (bI (decide (v < 12) && hb (μ.1 150 v) w), mem μ) := by
  have e1 := c_inLimit_e (k := v) (h := mem μ)
  have e2 := c_inLimit_n (k := w) (h := mem μ) (by omega)
  rw [decide_eq_true hw] at e2
  by_cases c : v < 12
  · rw [decide_eq_true c] at e1 ⊢
    rw [eI_lt c] at e1 ⊢
    have eh := c_has (x := μ.1 150 v) (h := mem μ) (show w < 32 by omega)
    cases q : hb (μ.1 150 v) w with
    | false =>
      rw [q] at eh
      simp only [f_X5_comesTo, f_X5_comesTo_J31, f_X5_comesTo_J32, ↓hbind e1, ↓hbind e2, show bI true = 1 from rfl, z_1, ↓reduceIte, ↓hbind gR_149_4, ↓hbind (aI_150 c), ↓hbind eh, show bI false = 0 from rfl, true_or, Bool.and_false]
    | true =>
      rw [q] at eh
      simp only [f_X5_comesTo, f_X5_comesTo_J32, ↓hbind e1, ↓hbind e2, show bI true = 1 from rfl, z_1, ↓reduceIte, ↓hbind gR_149_4, ↓hbind (aI_150 c), ↓hbind eh, or_true, Bool.and_self]
  · rw [decide_eq_false c] at e1 ⊢
    simp only [f_X5_comesTo, f_X5_comesTo_J31, f_X5_comesTo_J32, ↓hbind e1, show bI false = 0 from rfl, ↓reduceIte, true_or, Bool.false_and]
theorem c_X5kindE {n m : Nat} {Wt Tt : Int32} {E : Nat → Nat → Bool} (hS : SR μ n m Wt Tt E M) (hM : Ms E M) (hN : Nu E (sz M)) (r : CRs μ E M Wt Tt) (hD : ∀ i, i < 12 → ∀ j, hb (μ.1 150 i) j = true ↔ Dr E M i j) (hE : Eb E) (hW : ∀ w t, E w t = true → hb Wt w = true) (hT : ∀ w t, E w t = true → hb Tt t = true) {w t : Nat} (e : E w t = true) : f_X5_kindOf 149 141 (Int32.ofNat w) (Int32.ofNat t) (mem μ) = some (kvE E w t, mem μ) := by
  obtain ⟨r1, r2⟩ := r
  obtain ⟨hw, ht⟩ := hE _ _ e
  have h0 := c_has (x := μ.1 149 0) (h := mem μ) (show w < 32 by omega)
  have h3 := c_has (x := μ.1 149 3) (h := mem μ) (show t < 32 by omega)
  cases q0 : hb (μ.1 149 0) w with
  | true =>
    rw [q0] at h0
    rw [(knA hE hM hN e ((r1.1 w).mp q0)).val hE hN e]
    simp only [f_X5_kindOf, f_X5_kindOf_J22, ↓hbind gI_149_0, ↓hbind h0, show bI true = 1 from rfl, z_1, ↓reduceIte]
  | false =>
    rw [q0] at h0
    cases q3 : hb (μ.1 149 3) t with
    | true =>
      rw [q3] at h3
      rw [(knB hE hM hN e ((r2.1 t).mp q3)).val hE hN e]
      simp only [f_X5_kindOf, f_X5_kindOf_J22, ↓hbind gI_149_0, ↓hbind h0, show bI false = 0 from rfl, ↓reduceIte, ↓hbind gI_149_3, ↓hbind h3, show bI true = 1 from rfl, z_1]
    | false =>
      rw [q3] at h3
      have na : ¬ fwW E M Wt w := fun z => by rw [(r1.1 w).mpr z] at q0; cases q0
      have nb : ¬ fwW (trE E) (tr M) Tt t := fun z => by rw [(r2.1 t).mpr z] at q3; cases q3
      have eo := c_workerOf pr142 hS.2.2 ht
      have et := c_taskOf pr142 hS.2.2 hw
      have ec := c_comesTo (μ := μ) (v := ow M t) (w := w) (ow_le _ _) hw
      have n3 : ∀ v, f_X5_kindOf_J61 v (mem μ) = some (v, mem μ) := fun v => rfl
      have n4 : ∀ v, f_X5_kindOf_J72 v (mem μ) = some (v, mem μ) := fun v => rfl
      by_cases mw : M w = t
      · have ow' : ow M t = w := by rw [← mw]; exact ow_of hM.1 (by omega)
        have m' : (eI (M w) = Int32.ofNat t) = True := by rw [mw, eI_lt ht]; exact eq_true rfl
        cases q : hb (μ.1 150 w) w with
        | true =>
          have hd := (hD w hw w).mp q
          rw [(knC hE hM e (by omega) (by rw [ow']; exact hd)).val hE hN e]
          rw [ow', q, decide_eq_true hw] at ec
          rw [ow'] at eo
          simp only [f_X5_kindOf, ↓hbind gI_149_0, ↓hbind h0, show bI false = 0 from rfl, ↓reduceIte, ↓hbind gI_149_3, ↓hbind h3, ↓hbind gR_141_0, ↓hvc (fun _ => pr_v pr142), ↓hbind eo, ↓hvc (fun _ => vc_149), ↓hbind ec, ↓hbind et, m', Bool.and_self, show bI true = 1 from rfl, z_1, n3]
        | false =>
          have hd : ¬ Dr E M w w := fun z => by rw [(hD w hw w).mpr z] at q; cases q
          rw [kn3 hE hM hN (Wt := Wt) (Tt := Tt) hW hT e mw na nb hd]
          rw [ow', q, Bool.and_false] at ec
          rw [ow'] at eo
          simp only [f_X5_kindOf, ↓hbind gI_149_0, ↓hbind h0, show bI false = 0 from rfl, ↓reduceIte, ↓hbind gI_149_3, ↓hbind h3, ↓hbind gR_141_0, ↓hvc (fun _ => pr_v pr142), ↓hbind eo, ↓hvc (fun _ => vc_149), ↓hbind ec, ↓hbind et, m', n3]
      · have m' : (eI (M w) = Int32.ofNat t) = False := by rw [eI_oN (hM.1.1 w) ht]; exact eq_false mw
        have hv : ow M t < 12 := Classical.byContradiction fun z => nb (fwW.zero ht (hT _ _ e) (by rw [tr_lt ht]; exact Nat.le_antisymm (ow_le _ _) (by omega)))
        cases q : hb (μ.1 150 (ow M t)) w with
        | true =>
          have hd := (hD (ow M t) hv w).mp q
          rw [(knC hE hM e hv hd).val hE hN e]
          rw [q, decide_eq_true hv] at ec
          simp only [f_X5_kindOf, ↓hbind gI_149_0, ↓hbind h0, show bI false = 0 from rfl, ↓reduceIte, ↓hbind gI_149_3, ↓hbind h3, ↓hbind gR_141_0, ↓hvc (fun _ => pr_v pr142), ↓hbind eo, ↓hvc (fun _ => vc_149), ↓hbind ec, ↓hbind et, m', Bool.and_self, show bI true = 1 from rfl, z_1, n4]
        | false =>
          have hd : ¬ Dr E M (ow M t) w := fun z => by rw [(hD _ hv w).mpr z] at q; cases q
          rw [kn1 hE hM hN (Wt := Wt) (Tt := Tt) hW hT e mw na nb hd]
          rw [q, Bool.and_false] at ec
          simp only [f_X5_kindOf, ↓hbind gI_149_0, ↓hbind h0, show bI false = 0 from rfl, ↓reduceIte, ↓hbind gI_149_3, ↓hbind h3, ↓hbind gR_141_0, ↓hvc (fun _ => pr_v pr142), ↓hbind eo, ↓hvc (fun _ => vc_149), ↓hbind ec, ↓hbind et, m', n4]
theorem c_X5kind (h : KSt μ B M) (hB : BOK B) {w t : Nat} (e : gE B w t = true) : f_X5_kindOf 149 141 (Int32.ofNat w) (Int32.ofNat t) (mem μ) = some (kvE (gE B) w t, mem μ) := c_X5kindE h.1 h.2.1 h.2.2.1 h.2.2.2.1 h.2.2.2.2 hB.Eb gE_W gE_T e
theorem c_kindOf (h : KSt μ B M) (hB : BOK B) (hb1 : BC μ 1 B) {w t : Nat} (hw : w < 12) (ht : t < 12) : f_X9_kindOf 0 (Int32.ofNat w) (Int32.ofNat t) (mem μ) = some (kv B w t, mem μ) := by
  have ef := c_isFit bk1 hb1 hB hw ht
  have eo := c_isOpen h.1 hw ht
  unfold kv
  cases q : hb (bf B w) t with
  | false =>
    rw [q] at ef
    simp only [f_X9_kindOf, ↓hbind gR_0_0, ↓hvc (fun _ => bk_v bk1), ↓hbind ef, show bI false = 0 from rfl, ↓reduceIte, Bool.false_eq_true]
  | true =>
    rw [q] at ef
    cases o : gE B w t with
    | false =>
      rw [o] at eo
      simp only [f_X9_kindOf, f_X9_kindOf_J43, ↓hbind gR_0_0, ↓hvc (fun _ => bk_v bk1), ↓hbind ef, show bI true = 1 from rfl, z_1, ↓reduceIte, ↓hbind gR_0_4, ↓hvc (fun _ => vc_141), ↓hbind eo, show bI false = 0 from rfl, Bool.false_eq_true]
    | true =>
      rw [o] at eo
      have ek := c_X5kind h hB o
      simp only [f_X9_kindOf, f_X9_kindOf_J43, ↓hbind gR_0_0, ↓hvc (fun _ => bk_v bk1), ↓hbind ef, show bI true = 1 from rfl, z_1, ↓reduceIte, ↓hbind gR_0_4, ↓hvc (fun _ => vc_141), ↓hbind eo, ↓hbind gR_0_5, ↓hvc (fun _ => vc_149), ↓hbind ek]
end Kc
section Km
variable {μ : MM} {B : Bk} {A : AS}
theorem MR.re191 {ν : MM} {w : Nat} (h : MR μ 0 B) (f : Fr (fun q i => (q = 191 ∧ i = w) ∨ Fk q i) μ ν) (e : ν.1 191 w = bf B w) : MR ν 0 B := by
  obtain ⟨⟨h0, h1, h2, h3, h4⟩, h5, h6, h7, h8⟩ := h
  refine ⟨⟨?_, ?_, ?_, ?_, ?_⟩, fun x hx => ?_, fun x hx => ?_, fun x hx => ?_, fun x s hx hs q => ?_⟩
  · rw [(f _ _ (by unfold Fk; omega)).1]; exact h0
  · rw [(f _ _ (by unfold Fk; omega)).1]; exact h1
  · rw [(f _ _ (by unfold Fk; omega)).1]; exact h2
  · rw [(f _ _ (by unfold Fk; omega)).1]; exact h3
  · rw [(f _ _ (by unfold Fk; omega)).1]; exact h4
  · by_cases z : x = w
    · rw [z]; exact e
    · rw [(f _ _ (by unfold Fk; omega)).1]; exact h5 x hx
  · rw [(f _ _ (by unfold Fk; omega)).1]; exact h6 x hx
  · rw [(f _ _ (by unfold Fk; omega)).1]; exact h7 x hx
  · rw [(f _ _ (by unfold Fk; omega)).1]; exact h8 x s hx hs q
/-- how many can be without a fit -/
theorem m_nuBut (hm : MR μ 0 B) (hB : BOK B) {w t : Nat} (hw : w < 12) (ht : t < 12) (q : hb (bf B w) t = true) : ∃ ν, f_X10_nuBut 168 (Int32.ofNat w) (Int32.ofNat t) (mem μ) = some (Int32.ofNat (nN (eE (gE B) w t)), mem ν) ∧ Fr (fun q i => (q = 191 ∧ i = w) ∨ Fk q i) μ ν ∧ MR ν 0 B := by
  let F' := bf B w &&& (((1 : Int32) <<< (Int32.ofNat t &&& 31)) ^^^ (-1))
  have hk : ∀ k, hb F' k = (hb (bf B w) k && !(decide (k = t))) := fun k => by
    show hb (bf B w &&& (((1 : Int32) <<< (Int32.ofNat t &&& 31)) ^^^ (-1))) k = _
    rw [hb_and, hb_not, hb_bit k (by omega)]
    by_cases c : k < 32
    · simp [c]
    · rw [hb_ge _ (by omega)]; simp
  have f1 : Fr (fun q i => q = 191 ∧ i = w) μ (st μ 191 w F') := (Fr.refl _ _).st ⟨rfl, rfl⟩
  have hG : MG (st μ 191 w F') (bw B) (eE (gE B) w t) := by
    refine ⟨by rw [st_ne (Or.inl (by omega))]; exact hm.1.2.2.2.1, fun v hv th k => ?_⟩
    rw [show (st μ 191 w F').1 172 4 = bt B from (by rw [st_ne (Or.inl (by omega))]; exact hm.1.2.2.2.2), hb_and, st_at]
    unfold eE gE
    by_cases z : v = w
    · rw [if_pos ⟨rfl, z⟩, hk k, z]
      rw [z] at th
      rw [th]
      cases hb (bf B w) k <;> cases hb (bt B) k <;> simp
    · rw [if_neg (fun y => z y.2), show μ.1 191 v = bf B v from hm.2.1 v hv, th]
      simp [z]
  obtain ⟨N, ξ, e, f2, nu⟩ := m_nu (eE_Eb hB.Eb) (fun v s y => gE_W _ _ (eE_iff.mp y).1) hG
  have e5 : ξ.1 191 w = F' := by rw [(f2 _ _ (by unfold Fk; omega)).1]; exact st_same _ _ _ _
  have e6 : F' ||| ((1 : Int32) <<< (Int32.ofNat t &&& 31)) = bf B w := by
    apply hb_ext; intro k hk'
    rw [hb_or, hk k, hb_bit k (by omega)]
    by_cases z : k = t
    · rw [z, q]; simp
    · simp [z]
  have f3 : Fr (fun q i => (q = 191 ∧ i = w) ∨ Fk q i) μ (st ξ 191 w (bf B w)) := ((f1.mono fun q i z => Or.inl z).trans (f2.mono fun q i z => Or.inr z)).st (Or.inl ⟨rfl, rfl⟩)
  refine ⟨st ξ 191 w (bf B w), ?_, f3, hm.re191 f3 (st_same _ _ _ _)⟩
  have e0 : μ.1 191 w = bf B w := hm.2.1 w hw
  have e : f_X10_nu 168 (mem (st μ 191 w (bf B w &&& (((1 : Int32) <<< (Int32.ofNat t &&& 31)) ^^^ (-1))))) = some (Int32.ofNat N, mem ξ) := e
  have e6 : (bf B w &&& (((1 : Int32) <<< (Int32.ofNat t &&& 31)) ^^^ (-1))) ||| ((1 : Int32) <<< (Int32.ofNat t &&& 31)) = bf B w := e6
  have e5 : ξ.1 191 w = bf B w &&& (((1 : Int32) <<< (Int32.ofNat t &&& 31)) ^^^ (-1)) := e5
  rw [← nu.nN]
  simp only [f_X10_nuBut, ↓hbind gR_168_10, ↓hbind mr_f0, ↓hbind (ma_f0 hw), e0, ↓hbind (ms_f0 hw), ↓hvc (fun _ => vc_168), ↓hbind e, e5, e6]
/-- without a task, of any book in the row -/
theorem m_wo1 (hm : MR μ 0 B) (hE : Eb (gE B)) {t : Nat} : ∃ ν N, f_X10_without 168 1 (Int32.ofNat t) (mem μ) = some (Int32.ofNat N, mem ν) ∧ Fr (fun q i => (q = 172 ∧ i = 4) ∨ Fk q i) μ ν ∧ MR ν 0 B ∧ Nu (rE (gE B) (bw B) (bt B &&& (((1 : Int32) <<< (Int32.ofNat t &&& 31)) ^^^ (-1)))) N := by
  let T' := bt B &&& (((1 : Int32) <<< (Int32.ofNat t &&& 31)) ^^^ (-1))
  have m1 := hm.h4 (v := T')
  have f1 : Fr (fun q i => q = 172 ∧ i = 4) μ (st μ 172 4 T') := (Fr.refl _ _).st ⟨rfl, rfl⟩
  have hG : MG (st μ 172 4 T') (bw B) (rE (gE B) (bw B) T') := by
    refine ⟨m1.1.2.2.2.1, fun w hw q j => ?_⟩
    rw [show (st μ 172 4 T').1 191 w = bf B w from m1.2.1 w hw, show (st μ 172 4 T').1 172 4 = T' from st_same _ _ _ _, hb_and]
    have ht : hb T' j = true → hb (bt B) j = true := fun z => by
      have z : hb (bt B &&& (((1 : Int32) <<< (Int32.ofNat t &&& 31)) ^^^ (-1))) j = true := z
      rw [hb_and, Bool.and_eq_true] at z; exact z.1
    unfold rE gE
    rw [q]
    cases z : hb T' j with
    | false => simp
    | true => rw [ht z]; simp
  obtain ⟨N, ξ, e, f2, nu⟩ := m_nu (rE_Eb hE) (fun w t q => by unfold rE at q; simp only [Bool.and_eq_true] at q; exact q.1.2) hG
  have m2 := m1.fr f2 fun q i a z => by unfold FR at a; unfold Fk at z; omega
  have m3 : MR (st ξ 172 4 (bt B)) 0 B := m2.h4 (v := bt B)
  have f : Fr (fun q i => (q = 172 ∧ i = 4) ∨ Fk q i) μ (st ξ 172 4 (bt B)) := ((f1.mono fun q i z => Or.inl z).trans (f2.mono fun q i z => Or.inr z)).st (Or.inl ⟨rfl, rfl⟩)
  refine ⟨_, N, ?_, f, m3, nu⟩
  have e0 : μ.1 172 4 = bt B := hm.1.2.2.2.2
  have e : f_X10_nu 168 (mem (st μ 172 4 (bt B &&& (((1 : Int32) <<< (Int32.ofNat t &&& 31)) ^^^ (-1))))) = some (Int32.ofNat N, mem ξ) := e
  simp only [f_X10_without, f_X10_without_J9, z_1, ↓reduceIte, ↓hbind gR_168_9, ↓hbind mr_h0, ↓hbind mh_a0_4, e0, ↓hbind mh_s0_4, ↓hvc (fun _ => vc_168), ↓hbind e]
def FRk (q i : Nat) : Prop := Fk q i ∨ FR 0 q i
theorem nN_le (E : Nat → Nat → Bool) : nN E ≤ 12 := by
  obtain ⟨M, m, e⟩ := (nN_nu E).1
  rw [← e]; exact sz_le M
theorem m_fitOf (hm : MR μ 0 B) (hB : BOK B) {w t : Nat} (hw : w < 12) (ht : t < 12) : ∃ ν, f_X10_fitOf 168 (Int32.ofNat w) (Int32.ofNat t) (mem μ) = some (kv B w t, mem ν) ∧ Fr FRk μ ν ∧ MR ν 0 B := by
  have ef := m_isFit hm hw (show t < 32 by omega)
  have ea := m_isThere0 (μ := μ) (show w < 32 by omega)
  have eb := m_isThere1 (μ := μ) (show t < 32 by omega)
  rw [show μ.1 172 3 = bw B from hm.1.2.2.2.1] at ea
  rw [show μ.1 172 4 = bt B from hm.1.2.2.2.2] at eb
  unfold kv
  cases q : hb (bf B w) t with
  | false =>
    rw [q] at ef
    refine ⟨μ, ?_, Fr.refl _ _, hm⟩
    simp only [f_X10_fitOf, ↓hvc (fun _ => vc_168), ↓hbind ef, show bI false = 0 from rfl, ↓reduceIte, Bool.false_eq_true]
  | true =>
    rw [q] at ef
    cases qa : hb (bw B) w with
    | false =>
      rw [qa] at ea
      have o : gE B w t = false := by unfold gE; rw [qa]; simp
      refine ⟨μ, ?_, Fr.refl _ _, hm⟩
      simp only [f_X10_fitOf, f_X10_fitOf_J29, ↓hvc (fun _ => vc_168), ↓hbind ef, show bI true = 1 from rfl, z_1, ↓hbind ea, show bI false = 0 from rfl, ↓reduceIte, o, Bool.false_eq_true]
    | true =>
      rw [qa] at ea
      cases qb : hb (bt B) t with
      | false =>
        rw [qb] at eb
        have o : gE B w t = false := by unfold gE; rw [qb]; simp
        refine ⟨μ, ?_, Fr.refl _ _, hm⟩
        simp only [f_X10_fitOf, f_X10_fitOf_J29, ↓hvc (fun _ => vc_168), ↓hbind ef, show bI true = 1 from rfl, z_1, ↓hbind ea, ↓hbind eb, show bI false = 0 from rfl, ↓reduceIte, o, Bool.false_eq_true]
      | true =>
        rw [qb] at eb
        have o : gE B w t = true := by unfold gE; rw [q, qa, qb]; rfl
        obtain ⟨N, ξ, e1, f1, nu⟩ := m_nuB hm hB
        have m1 := hm.fr f1 fun q i a z => by unfold FR at a; unfold Fk at z; omega
        obtain ⟨ζ, e2, f2, m2⟩ := m_nuBut m1 hB hw ht q
        have n1 := nN_le (gE B)
        have n2 := nN_le (eE (gE B) w t)
        rw [nu.nN] at e1
        have f12 : Fr FRk μ ζ := (f1.mono fun q i z => Or.inl z).trans (f2.mono fun q i z => z.elim (fun y => Or.inr (by unfold FR; omega)) Or.inl)
        simp only [↓reduceIte, o]
        unfold kvE
        by_cases c : nN (eE (gE B) w t) < nN (gE B)
        · have c' : (Int32.ofNat (nN (eE (gE B) w t)) ≥ Int32.ofNat (nN (gE B))) = False := by rw [oN_ge (by omega) (by omega)]; exact eq_false (by omega)
          refine ⟨ζ, ?_, f12, m2⟩
          simp only [f_X10_fitOf, ↓hvc (fun _ => vc_168), ↓hbind ef, show bI true = 1 from rfl, z_1, ↓hbind ea, ↓hbind eb, ↓reduceIte, ↓hbind e1, ↓hbind e2, c', if_pos c]
        · have c' : (Int32.ofNat (nN (eE (gE B) w t)) ≥ Int32.ofNat (nN (gE B))) = True := by rw [oN_ge (by omega) (by omega)]; exact eq_true (by omega)
          rw [if_neg c]
          let W' := bw B &&& (((1 : Int32) <<< (Int32.ofNat w &&& 31)) ^^^ (-1))
          have hk : ∀ k, hb W' k = (hb (bw B) k && !(decide (k = w))) := fun k => by
            show hb (bw B &&& (((1 : Int32) <<< (Int32.ofNat w &&& 31)) ^^^ (-1))) k = _
            rw [hb_and, hb_not, hb_bit k (by omega)]
            by_cases c : k < 32
            · simp [c]
            · rw [hb_ge _ (by omega)]; simp
          have hk2 : ∀ k, hb (bt B &&& (((1 : Int32) <<< (Int32.ofNat t &&& 31)) ^^^ (-1))) k = (hb (bt B) k && !(decide (k = t))) := fun k => by
            rw [hb_and, hb_not, hb_bit k (by omega)]
            by_cases c : k < 32
            · simp [c]
            · rw [hb_ge _ (by omega)]; simp
          have m3 := m2.h3 (v := W')
          have hE3 : Eb (gE (mkB (bn B) (bm B) (bk B) W' (bt B) (be B) (bf B) (bc B) (bM B))) := fun v s y => by
            refine hB.Eb v s ?_
            have y : (hb (bf B v) s && hb W' v && hb (bt B) s) = true := y
            rw [hk v] at y
            unfold gE
            simp only [Bool.and_eq_true] at y ⊢
            exact ⟨⟨y.1.1, y.1.2.1⟩, y.2⟩
          obtain ⟨ω, N3, e3, f3, m4, nu3⟩ := m_wo1 m3 hE3 (t := t)
          have nu3 : Nu (oE (gE B) w t) N3 := nu3.congr fun v s => by
            show ((hb (bf B v) s && hb W' v && hb (bt B) s) && hb W' v && hb (bt B &&& (((1 : Int32) <<< (Int32.ofNat t &&& 31)) ^^^ (-1))) s) = oE (gE B) w t v s
            rw [hk v, hk2 s]
            unfold oE gE
            by_cases y : v = w <;> by_cases z : s = t <;> simp [y, z]
            cases hb (bf B v) s <;> cases hb (bw B) v <;> cases hb (bt B) s <;> rfl
          have m5 : MR (st ω 172 3 (bw B)) 0 B := m4.h3 (v := bw B)
          have f4 : Fr FRk ζ (st ω 172 3 (bw B)) := ((((Fr.refl FRk _).st (v := W') (Or.inr (by unfold FR; omega))).trans (f3.mono fun q i z => by
            rcases z with z | z
            · exact Or.inr (by unfold FR; omega)
            · exact Or.inl z)).st (Or.inr (by unfold FR; omega)))
          have e5 : ζ.1 172 3 = bw B := m2.1.2.2.2.1
          have e3 : f_X10_without 168 1 (Int32.ofNat t) (mem (st ζ 172 3 (bw B &&& (((1 : Int32) <<< (Int32.ofNat w &&& 31)) ^^^ (-1))))) = some (Int32.ofNat N3, mem ω) := e3
          rw [nu3.nN] at e3
          have n3 := nN_le (oE (gE B) w t)
          refine ⟨st ω 172 3 (bw B), ?_, f12.trans f4, m5⟩
          have j : ∀ v, f_X10_fitOf_J105 v (mem (st ω 172 3 (bw B))) = some (v, mem (st ω 172 3 (bw B))) := fun v => rfl
          by_cases d : nN (oE (gE B) w t) + 1 = nN (gE B)
          · have d' : (Int32.ofNat (nN (oE (gE B) w t) + 1) = Int32.ofNat (nN (gE B))) = True := by rw [d]; exact eq_true rfl
            rw [if_pos d]
            simp only [f_X10_fitOf, ↓hvc (fun _ => vc_168), ↓hbind ef, show bI true = 1 from rfl, z_1, ↓hbind ea, ↓hbind eb, ↓reduceIte, ↓hbind e1, ↓hbind e2, c', ↓hbind gR_168_9, ↓hbind mr_h0, ↓hbind mh_a0_3, e5, ↓hbind mh_s0_3, ↓hbind e3, i_succ, d', j]
          · have d' : (Int32.ofNat (nN (oE (gE B) w t) + 1) = Int32.ofNat (nN (gE B))) = False := by rw [oN_inj (by omega) (by omega)]; exact eq_false d
            rw [if_neg d]
            simp only [f_X10_fitOf, ↓hvc (fun _ => vc_168), ↓hbind ef, show bI true = 1 from rfl, z_1, ↓hbind ea, ↓hbind eb, ↓reduceIte, ↓hbind e1, ↓hbind e2, c', ↓hbind gR_168_9, ↓hbind mr_h0, ↓hbind mh_a0_3, e5, ↓hbind mh_s0_3, ↓hbind e3, i_succ, d', j]
end Km
