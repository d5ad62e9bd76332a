/-! OPERATIONS: more -/
/-- with a fit more -/
def aE (E : Nat → Nat → Bool) (w t v s : Nat) : Bool := E v s || (decide (v = w) && decide (s = t))
theorem aE_iff {E : Nat → Nat → Bool} {w t v s : Nat} : aE E w t v s = true ↔ (E v s = true ∨ (v = w ∧ s = t)) := by
  unfold aE
  rw [Bool.or_eq_true, Bool.and_eq_true, decide_eq_true_eq, decide_eq_true_eq]
theorem aE_Eb {E : Nat → Nat → Bool} (h : Eb E) {w t : Nat} (hw : w < 12) (ht : t < 12) : Eb (aE E w t) := fun v s q => by
  rcases aE_iff.mp q with z | ⟨rfl, rfl⟩
  · exact h v s z
  · exact ⟨hw, ht⟩
section Mo
variable {E : Nat → Nat → Bool} {M : Nat → Nat} {Wt Tt : Int32}
theorem more_1 (hE : Eb E) (hM : Ms E M) (hN : Nu E (sz M)) {w t : Nat} (hw : w < 12) (ht : t < 12) (a : fwW E M Wt w) (b : fwW (trE E) (tr M) Tt t) : sz M < nN (aE E w t) := by
  have hE' := aE_Eb hE hw ht
  have hM' : Ms (aE E w t) M := hM.congr fun v s q => aE_iff.mpr (Or.inl q)
  apply Classical.byContradiction
  intro c
  have hN' : Nu (aE E w t) (sz M) := by
    have h := nN_nu (aE E w t)
    have := h.2 M hM'
    rw [show sz M = nN (aE E w t) by omega]; exact h
  have up' : ∀ v, fwW E M Wt v → fwW (aE E w t) M Wt v := fun v ⟨k, q⟩ => ⟨k, fw_mono (fun v s q => aE_iff.mpr (Or.inl q)) (fun _ z => z) q⟩
  have key : ∀ k s, fw (trE E) (tr M) (fun x => x < 12 ∧ hb Tt x = true ∧ tr M x = 12) k s → ∀ v, fwW (aE E w t) M Wt v → aE E w t v s = true → False := by
    intro k
    induction k with
    | zero =>
      intro s q v r e
      have := r.nu hE' hM' hN' e
      have h2 := q.2.2
      rw [tr_lt q.1] at h2
      omega
    | succ k ih =>
      intro s q v r e
      rcases q with q | ⟨s', y, q, e', hy, h1, h2⟩
      · exact ih s q v r e
      · have o := r.nu hE' hM' hN' e
        have r2 := r.step hE' e o
        have oy : ow M s = y := by
          rw [ow_tr hM.1 hy] at h1
          rw [← h1]; exact ow_of hM.1 (by omega)
        rw [oy] at r2
        exact ih s' q y r2 (aE_iff.mpr (Or.inl e'))
  obtain ⟨k, b⟩ := b
  exact key k t b w (up' w a) (aE_iff.mpr (Or.inr ⟨rfl, rfl⟩))
theorem more_2 (hE : Eb E) (hM : Ms E M) (hN : Nu E (sz M)) (hW : ∀ w t, E w t = true → hb Wt w = true) (hT : ∀ w t, E w t = true → hb Tt t = true) {w t : Nat} (hw : w < 12) (ht : t < 12) (tw : hb Wt w = true) (tt : hb Tt t = true) (h : ¬ (fwW E M Wt w ∧ fwW (trE E) (tr M) Tt t)) : nN (aE E w t) = sz M := by
  have hE' := aE_Eb hE hw ht
  have hM' : Ms (aE E w t) M := hM.congr fun v s q => aE_iff.mpr (Or.inl q)
  by_cases a : fwW E M Wt w
  · have b : ¬ fwW (trE E) (tr M) Tt t := fun z => h ⟨a, z⟩
    have bk : ∀ v s, fwT (trE E) (tr M) Tt v → M v = s → s < 12 → fwW (trE E) (tr M) Tt s := fun v s q e hs => by
      obtain ⟨x, h1, h2⟩ := q
      have hv := (hE _ _ h2).1
      have := h1.step (trE_Eb hE) (t := v) h2 (by rw [ow_tr hM.1 hv, e]; exact hs)
      rw [ow_tr hM.1 hv, e] at this; exact this
    refine (cert hE' hM' (fun v => ¬ fwT (trE E) (tr M) Tt v) (fun v s r q => ?_) (fun v s hv q e r => ?_)).nN.symm
    · have hs := (hE' _ _ q).2
      have fr : ¬ fwW (trE E) (tr M) Tt s := fun z => by
        rcases aE_iff.mp q with e | ⟨_, e⟩
        · exact r ⟨s, z, e⟩
        · rw [e] at z; exact b z
      have th : hb Tt s = true := by
        rcases aE_iff.mp q with e | ⟨_, e⟩
        · exact hT _ _ e
        · rw [e]; exact tt
      have o : ow M s < 12 := Classical.byContradiction fun z => fr (fwW.zero hs th (by rw [tr_lt hs]; exact Nat.le_antisymm (ow_le _ _) (by omega)))
      exact ⟨o, fun z => fr (bk _ s z (ow_M o) hs)⟩
    · obtain ⟨x, h1, h2⟩ := r
      have := bk_nu hE hM hN h1 h2
      omega
  · refine (cert hE' hM' (fun v => fwW E M Wt v) (fun v s r q => ?_) (fun v s hv q e => ?_)).nN.symm
    · rcases aE_iff.mp q with e | ⟨e, _⟩
      · have o := r.nu hE hM hN e
        exact ⟨o, r.step hE e o⟩
      · rw [e] at r; exact absurd r a
    · rcases aE_iff.mp e with e | ⟨e, _⟩
      · exact fwW.zero hv (hW _ _ e) q
      · exact fwW.zero hv (by rw [e]; exact tw) q
end Mo
/-- a fit that would make more -/
noncomputable def gMo (B : Bk) (w t : Nat) : Bool := !hb (bf B w) t && hb (bw B) w && hb (bt B) t && decide (nN (gE B) < nN (aE (gE B) w t))
abbrev T2 : Type := Int32 × Int32
noncomputable def mst (B : Bk) (w t : Nat) (s : T2) : T2 := if gMo B w t = true then (s.1 + 1, if s.2 = -1 then (100 : Int32) * Int32.ofNat w + Int32.ofNat t else s.2) else s
noncomputable def mrR (B : Bk) (w : Nat) : Nat → Nat → T2 → T2
  | 0, _, s => s
  | k + 1, j, s => mrR B w k (j + 1) (mst B w j s)
noncomputable def mrQ (B : Bk) : Nat → Nat → T2 → T2
  | 0, _, s => s
  | k + 1, i, s => mrQ B k (i + 1) (mrR B i (bm B) 0 s)
section O20
variable {T : MM → Bk → Prop} {μ : MM} {A : AS} {B : Bk} {M : Nat → Nat}
/-- what the class holds when it tells what would be more -/
def LSt (μ : MM) (B : Bk) (M : Nat → Nat) : Prop := Ms (gE B) M ∧ Nu (gE B) (sz M) ∧ CRs μ (gE B) M (bw B) (bt B)
theorem c_wouldGrow (h : LSt μ B M) (hB : BOK B) (hb1 : BC μ 1 B) {w t : Nat} (hw : w < 12) (ht : t < 12) : f_X9_wouldGrow 0 (Int32.ofNat w) (Int32.ofNat t) (mem μ) = some (bI (gMo B w t), mem μ) := by
  obtain ⟨hM, hN, r1, r2⟩ := h
  have hE := hB.Eb
  have ef := c_isFit bk1 hb1 hB hw ht
  have h0 := c_has (x := μ.1 149 0) (h := mem μ) (show w < 32 by omega)
  have h3 := c_has (x := μ.1 149 3) (h := mem μ) (show t < 32 by omega)
  cases q : hb (bf B w) t with
  | true =>
    rw [q] at ef
    have e0 : gMo B w t = false := by unfold gMo; rw [q]; simp
    rw [e0]
    simp only [f_X9_wouldGrow, f_X9_wouldGrow_J44, f_X9_wouldGrow_J45, ↓hbind gR_0_0, ↓hvc (fun _ => bk_v bk1), ↓hbind ef, show bI true = 1 from rfl, z_1, ↓reduceIte, true_or, show bI false = 0 from rfl]
  | false =>
    rw [q] at ef
    have cond : gMo B w t = (hb (μ.1 149 0) w && hb (μ.1 149 3) t) := by
      rw [Bool.eq_iff_iff, Bool.and_eq_true, r1.1 w, r2.1 t]
      unfold gMo
      rw [q]
      constructor
      · intro z
        simp only [Bool.not_false, Bool.true_and, Bool.and_eq_true, decide_eq_true_eq] at z
        apply Classical.byContradiction
        intro y
        have := more_2 hE hM hN gE_W gE_T hw ht z.1.1 z.1.2 y
        rw [← hN.nN] at z
        omega
      · rintro ⟨a, b⟩
        have m := more_1 hE hM hN hw ht a b
        have ta : hb (bw B) w = true := a.sub (R := fun w => hb (bw B) w = true) (fun w _ b _ => b) (fun v s _ e o => by
          have := hM.2 (ow M s) (by rw [ow_M o]; exact (hE _ _ e).2)
          exact gE_W _ _ this)
        have tb : hb (bt B) t = true := b.sub (R := fun t => hb (bt B) t = true) (fun w _ b _ => b) (fun v s _ e o => by
          have hs := (hE _ _ e).1
          rw [ow_tr hM.1 hs] at o ⊢
          exact gE_T _ _ (hM.2 s o))
        rw [ta, tb, ← hN.nN]
        simp [m]
    rw [cond]
    cases q0 : hb (μ.1 149 0) w with
    | false =>
      rw [q0] at h0
      simp only [f_X9_wouldGrow, f_X9_wouldGrow_J44, f_X9_wouldGrow_J45, ↓hbind gR_0_0, ↓hvc (fun _ => bk_v bk1), ↓hbind ef, show bI false = 0 from rfl, ↓reduceIte, ↓hbind gR_0_5, ↓hbind gI_149_0, ↓hbind h0, true_or, Bool.false_and]
    | true =>
      rw [q0] at h0
      cases q3 : hb (μ.1 149 3) t with
      | false =>
        rw [q3] at h3
        simp only [f_X9_wouldGrow, f_X9_wouldGrow_J44, f_X9_wouldGrow_J45, ↓hbind gR_0_0, ↓hvc (fun _ => bk_v bk1), ↓hbind ef, show bI false = 0 from rfl, ↓reduceIte, ↓hbind gR_0_5, ↓hbind gI_149_0, ↓hbind h0, show bI true = 1 from rfl, z_1, ↓hbind gI_149_3, ↓hbind h3, true_or, Bool.and_false]
      | true =>
        rw [q3] at h3
        simp only [f_X9_wouldGrow, f_X9_wouldGrow_J45, ↓hbind gR_0_0, ↓hvc (fun _ => bk_v bk1), ↓hbind ef, show bI false = 0 from rfl, ↓reduceIte, ↓hbind gR_0_5, ↓hbind gI_149_0, ↓hbind h0, show bI true = 1 from rfl, z_1, ↓hbind gI_149_3, ↓hbind h3, or_true, Bool.and_self]
theorem c_mr_in (h : LSt μ B M) (hB : BOK B) (hb1 : BC μ 1 B) {x : Int32} {w : Nat} (hw : w < 12) (K : Nat → Int32 → Int32 → Int32 → Int32 → xH → Option ((Int32 ⊕ String) × xH)) : ∀ (k j : Nat) (s : T2) (f : Nat), j + k = bm B → f_X9_more_L56 K (k + 1 + f) 0 x s.1 s.2 (Int32.ofNat w) (Int32.ofNat j) (mem μ) = K 0 x (mrR B w k j s).1 (mrR B w k j s).2 (Int32.ofNat w) (mem μ)
  | 0, j, s, f, d => by
    have e0 : μ.1 1 1 = Int32.ofNat (bm B) := hb1.1.2.1
    have hm := hB.m
    have c : (Int32.ofNat j ≥ Int32.ofNat (bm B)) = True := by rw [oN_ge (by omega) (by omega)]; exact eq_true (by omega)
    rw [show 0 + 1 + f = f + 1 by omega]
    simp only [f_X9_more_L56, ↓hbind gR_0_0, ↓hbind (bk_i1 bk1), e0, c, ↓reduceIte, mrR]
  | k + 1, j, s, f, d => by
    have e0 : μ.1 1 1 = Int32.ofNat (bm B) := hb1.1.2.1
    have hm := hB.m
    have c : (Int32.ofNat j ≥ Int32.ofNat (bm B)) = False := by rw [oN_ge (by omega) (by omega)]; exact eq_false (by omega)
    have ek := c_wouldGrow h hB hb1 hw (show j < 12 by omega)
    have ih := c_mr_in h hB hb1 (x := x) hw K k (j + 1) (mst B w j s) f (by omega)
    rw [show k + 1 + 1 + f = (k + 1 + f) + 1 by omega, mrR, ← ih]
    unfold mst
    cases g : gMo B w j with
    | false =>
      rw [g] at ek
      simp only [f_X9_more_L56, f_X9_more_J100, ↓hbind gR_0_0, ↓hbind (bk_i1 bk1), e0, c, ↓reduceIte, ↓hvc (fun _ => vc_0), ↓hbind ek, show bI false = 0 from rfl, lt, i_succ, Bool.false_eq_true]
    | true =>
      rw [g] at ek
      by_cases y : s.2 = -1
      · simp only [f_X9_more_L56, f_X9_more_J99, f_X9_more_J100, ↓hbind gR_0_0, ↓hbind (bk_i1 bk1), e0, c, ↓reduceIte, ↓hvc (fun _ => vc_0), ↓hbind ek, show bI true = 1 from rfl, z_1, lt, i_succ, y]
      · simp only [f_X9_more_L56, f_X9_more_J99, f_X9_more_J100, ↓hbind gR_0_0, ↓hbind (bk_i1 bk1), e0, c, ↓reduceIte, ↓hvc (fun _ => vc_0), ↓hbind ek, show bI true = 1 from rfl, z_1, lt, i_succ, y]
theorem c_mr_out (h : LSt μ B M) (hB : BOK B) (hb1 : BC μ 1 B) {x : Int32} (K : Int32 → Int32 → Int32 → xH → Option ((Int32 ⊕ String) × xH)) : ∀ (k i : Nat) (s : T2) (f : Nat), i + k = bn B → f_X9_more_L41 K (k + 1 + f) 0 x s.1 s.2 (Int32.ofNat i) (mem μ) = K x (mrQ B k i s).1 (mrQ B k i s).2 (mem μ)
  | 0, i, s, f, d => by
    have e0 : μ.1 1 0 = Int32.ofNat (bn B) := hb1.1.1
    have hn := hB.n
    have c : (Int32.ofNat i ≥ Int32.ofNat (bn B)) = True := by rw [oN_ge (by omega) (by omega)]; exact eq_true (by omega)
    rw [show 0 + 1 + f = f + 1 by omega]
    simp only [f_X9_more_L41, ↓hbind gR_0_0, ↓hbind (bk_i0 bk1), e0, c, ↓reduceIte, mrQ]
  | k + 1, i, s, f, d => by
    have e0 : μ.1 1 0 = Int32.ofNat (bn B) := hb1.1.1
    have hn := hB.n
    have hm := hB.m
    have c : (Int32.ofNat i ≥ Int32.ofNat (bn B)) = False := by rw [oN_ge (by omega) (by omega)]; exact eq_false (by omega)
    have ih := c_mr_out h hB hb1 (x := x) K k (i + 1) (mrR B i (bm B) 0 s) f (by omega)
    have ei := c_mr_in h hB hb1 (x := x) (show i < 12 by omega) (f_X9_more_J106 (f_X9_more_L41 K (k + 1 + f)) K) (bm B) 0 s (5000 - (bm B + 1)) (by omega)
    rw [show bm B + 1 + (5000 - (bm B + 1)) = 5000 by omega] at ei
    have ei : f_X9_more_L56 (f_X9_more_J106 (f_X9_more_L41 K (k + 1 + f)) K) 5000 0 x s.1 s.2 (Int32.ofNat i) 0 (mem μ) = _ := ei
    rw [show k + 1 + 1 + f = (k + 1 + f) + 1 by omega, mrQ, ← ih]
    simp only [f_X9_more_L41, ↓hbind gR_0_0, ↓hbind (bk_i0 bk1), e0, c, ↓reduceIte, ei, f_X9_more_J106, lt, i_succ]
/-- the model: one fit tried -/
theorem m_try (hm : MR μ 0 B) (hB : BOK B) {w t : Nat} (hw : w < 12) (ht : t < 12) (q : hb (bf B w) t = false) (qa : hb (bw B) w = true) (qb : hb (bt B) t = true) : ∃ ξ, f_X10_nu 168 (mem (st μ 191 w (bf B w ||| ((1 : Int32) <<< (Int32.ofNat t &&& 31))))) = some (Int32.ofNat (nN (aE (gE B) w t)), mem ξ) ∧ ξ.1 191 w = bf B w ||| ((1 : Int32) <<< (Int32.ofNat t &&& 31)) ∧ Fr FRk μ (st ξ 191 w (bf B w)) ∧ MR (st ξ 191 w (bf B w)) 0 B ∧ (bf B w ||| ((1 : Int32) <<< (Int32.ofNat t &&& 31))) &&& (((1 : Int32) <<< (Int32.ofNat t &&& 31)) ^^^ (-1)) = bf B w := by
  let F' := bf B w ||| ((1 : Int32) <<< (Int32.ofNat t &&& 31))
  have hk : ∀ k, hb F' k = (hb (bf B w) k || decide (k = t)) := fun k => by
    show hb (bf B w ||| ((1 : Int32) <<< (Int32.ofNat t &&& 31))) k = _
    rw [hb_or, hb_bit k (by omega)]
  have f1 : Fr (fun q i => q = 191 ∧ i = w) μ (st μ 191 w F') := (Fr.refl _ _).st ⟨rfl, rfl⟩
  have hG : MG (st μ 191 w F') (bw B) (aE (gE B) w t) := by
    refine ⟨by rw [st_ne (Or.inl (by omega))]; exact hm.1.2.2.2.1, fun v hv th k => ?_⟩
    rw [show (st μ 191 w F').1 172 4 = bt B from (by rw [st_ne (Or.inl (by omega))]; exact hm.1.2.2.2.2), hb_and, st_at]
    unfold aE gE
    by_cases z : v = w
    · rw [if_pos ⟨rfl, z⟩, hk k, z, qa]
      by_cases y : k = t
      · rw [y, qb]; simp
      · simp [y]
    · rw [if_neg (fun y => z y.2), show μ.1 191 v = bf B v from hm.2.1 v hv, th]
      simp [z]
  obtain ⟨N, ξ, e, f2, nu⟩ := m_nu (aE_Eb hB.Eb hw ht) (fun v s y => by
    rcases aE_iff.mp y with y | ⟨y, _⟩
    · exact gE_W _ _ y
    · rw [y]; exact qa) hG
  have f3 : Fr (fun q i => (q = 191 ∧ i = w) ∨ Fk q i) μ (st ξ 191 w (bf B w)) := ((f1.mono fun q i z => Or.inl z).trans (f2.mono fun q i z => Or.inr z)).st (Or.inl ⟨rfl, rfl⟩)
  refine ⟨ξ, by rw [← nu.nN]; exact e, by rw [(f2 _ _ (by unfold Fk; omega)).1]; exact st_same _ _ _ _, f3.mono fun q i z => z.elim (fun y => Or.inr (by unfold FR; omega)) Or.inl, hm.re191 f3 (st_same _ _ _ _), ?_⟩
  apply hb_ext; intro k hk'
  rw [hb_and, hb_not, hb_or, hb_bit k (by omega)]
  by_cases z : k = t
  · rw [z, q]; simp
  · simp [z, hk']
theorem m_mr1 (hm : MR μ 0 B) (hB : BOK B) {x : Int32} {w j : Nat} (hw : w < 12) (hj : j < bm B) (s : T2) : ∃ ξ, (∀ f K, f_X10_more__L59 K (f + 1) 168 x s.1 s.2 (Int32.ofNat (nN (gE B))) (Int32.ofNat w) (Int32.ofNat j) (mem μ) = f_X10_more__L59 K f 168 x (mst B w j s).1 (mst B w j s).2 (Int32.ofNat (nN (gE B))) (Int32.ofNat w) (Int32.ofNat (j + 1)) (mem ξ)) ∧ Fr FRk μ ξ ∧ MR ξ 0 B := by
  have hm' := hB.m
  have hj2 : j < 12 := by omega
  have e0 : μ.1 172 1 = Int32.ofNat (bm B) := hm.1.2.1
  have c : (Int32.ofNat j ≥ Int32.ofNat (bm B)) = False := by rw [oN_ge (by omega) (by omega)]; exact eq_false (by omega)
  have ef := m_isFit hm hw (show j < 32 by omega)
  have ea := m_isThere0 (μ := μ) (show w < 32 by omega)
  have eb := m_isThere1 (μ := μ) (show j < 32 by omega)
  rw [show μ.1 172 3 = bw B from hm.1.2.2.2.1] at ea
  rw [show μ.1 172 4 = bt B from hm.1.2.2.2.2] at eb
  have no : gMo B w j = false → mst B w j s = s := fun z => by unfold mst; rw [z]; simp
  cases q : hb (bf B w) j with
  | true =>
    rw [q] at ef
    rw [no (by unfold gMo; rw [q]; simp)]
    refine ⟨μ, fun f K => ?_, Fr.refl _ _, hm⟩
    simp only [f_X10_more__L59, f_X10_more__J185, ↓hbind gR_168_9, ↓hbind mr_h0, ↓hbind mh_a0_1, e0, c, ↓reduceIte, ↓hvc (fun _ => vc_168), ↓hbind ef, show bI true = 1 from rfl, z_1, lt, i_succ]
  | false =>
    rw [q] at ef
    cases qa : hb (bw B) w with
    | false =>
      rw [qa] at ea
      rw [no (by unfold gMo; rw [qa]; simp)]
      refine ⟨μ, fun f K => ?_, Fr.refl _ _, hm⟩
      simp only [f_X10_more__L59, f_X10_more__J185, ↓hbind gR_168_9, ↓hbind mr_h0, ↓hbind mh_a0_1, e0, c, ↓reduceIte, ↓hvc (fun _ => vc_168), ↓hbind ef, show bI false = 0 from rfl, ↓hbind ea, lt, i_succ]
    | true =>
      rw [qa] at ea
      cases qb : hb (bt B) j with
      | false =>
        rw [qb] at eb
        rw [no (by unfold gMo; rw [qb]; simp)]
        refine ⟨μ, fun f K => ?_, Fr.refl _ _, hm⟩
        simp only [f_X10_more__L59, f_X10_more__J185, ↓hbind gR_168_9, ↓hbind mr_h0, ↓hbind mh_a0_1, e0, c, ↓reduceIte, ↓hvc (fun _ => vc_168), ↓hbind ef, show bI false = 0 from rfl, show bI true = 1 from rfl, z_1, ↓hbind ea, ↓hbind eb, lt, i_succ]
      | true =>
        rw [qb] at eb
        obtain ⟨ξ, e1, e2, f1, m1, e3⟩ := m_try hm hB hw hj2 q qa qb
        have n1 := nN_le (gE B)
        have n2 := nN_le (aE (gE B) w j)
        have e5 : μ.1 191 w = bf B w := hm.2.1 w hw
        refine ⟨st ξ 191 w (bf B w), fun f K => ?_, f1, m1⟩
        have s1 : ∀ (b : Int32), f_X10_more__J136 (f_X10_more__L59 K f) K 168 x s.1 s.2 (Int32.ofNat (nN (gE B))) (Int32.ofNat w) (Int32.ofNat j) b (mem ξ) = if b = 0 then f_X10_more__J185 (f_X10_more__L59 K f) K 168 x s.1 s.2 (Int32.ofNat (nN (gE B))) (Int32.ofNat w) (Int32.ofNat j) (mem (st ξ 191 w (bf B w))) else if s.2 = -1 then f_X10_more__J181 (f_X10_more__L59 K f) K 168 x s.1 (Int32.ofNat (nN (gE B))) (Int32.ofNat w) (Int32.ofNat j) ((100 : Int32) * Int32.ofNat w + Int32.ofNat j) (mem (st ξ 191 w (bf B w))) else f_X10_more__J181 (f_X10_more__L59 K f) K 168 x s.1 (Int32.ofNat (nN (gE B))) (Int32.ofNat w) (Int32.ofNat j) s.2 (mem (st ξ 191 w (bf B w))) := fun b => by
          simp only [f_X10_more__J136, ↓hbind gR_168_10, ↓hbind mr_f0, ↓hbind (ma_f0 hw), e2, e3, ↓hbind (ms_f0 hw)]
        by_cases g : nN (gE B) < nN (aE (gE B) w j)
        · have g' : (Int32.ofNat (nN (aE (gE B) w j)) ≤ Int32.ofNat (nN (gE B))) = False := by rw [oN_le (by omega) (by omega)]; exact eq_false (by omega)
          have gb : gMo B w j = true := by unfold gMo; rw [q, qa, qb]; simp [g]
          have em : mst B w j s = (s.1 + 1, if s.2 = -1 then (100 : Int32) * Int32.ofNat w + Int32.ofNat j else s.2) := by unfold mst; rw [if_pos gb]
          rw [em]
          by_cases y : s.2 = -1
          · have s2 := s1 1
            rw [if_neg (by decide), if_pos y, y] at s2
            simp only [f_X10_more__L59, ↓hbind gR_168_9, ↓hbind mr_h0, ↓hbind mh_a0_1, e0, c, ↓reduceIte, ↓hvc (fun _ => vc_168), ↓hbind ef, show bI false = 0 from rfl, show bI true = 1 from rfl, z_1, ↓hbind ea, ↓hbind eb, ↓hbind gR_168_10, ↓hbind mr_f0, ↓hbind (ma_f0 hw), e5, ↓hbind (ms_f0 hw), ↓hbind e1, g', s2, y, f_X10_more__J181, f_X10_more__J185, lt, i_succ]
          · simp only [f_X10_more__L59, ↓hbind gR_168_9, ↓hbind mr_h0, ↓hbind mh_a0_1, e0, c, ↓reduceIte, ↓hvc (fun _ => vc_168), ↓hbind ef, show bI false = 0 from rfl, show bI true = 1 from rfl, z_1, ↓hbind ea, ↓hbind eb, ↓hbind gR_168_10, ↓hbind mr_f0, ↓hbind (ma_f0 hw), e5, ↓hbind (ms_f0 hw), ↓hbind e1, g', s1, y, f_X10_more__J181, f_X10_more__J185, lt, i_succ]
        · have g' : (Int32.ofNat (nN (aE (gE B) w j)) ≤ Int32.ofNat (nN (gE B))) = True := by rw [oN_le (by omega) (by omega)]; exact eq_true (by omega)
          rw [no (by unfold gMo; simp [g])]
          simp only [f_X10_more__L59, ↓hbind gR_168_9, ↓hbind mr_h0, ↓hbind mh_a0_1, e0, c, ↓reduceIte, ↓hvc (fun _ => vc_168), ↓hbind ef, show bI false = 0 from rfl, show bI true = 1 from rfl, z_1, ↓hbind ea, ↓hbind eb, ↓hbind gR_168_10, ↓hbind mr_f0, ↓hbind (ma_f0 hw), e5, ↓hbind (ms_f0 hw), ↓hbind e1, g', s1, f_X10_more__J185, lt, i_succ]
theorem m_mr_in (hB : BOK B) {x : Int32} {w : Nat} (hw : w < 12) : ∀ (k j : Nat) (s : T2) (ν : MM), j + k = bm B → MR ν 0 B → ∃ ξ, (∀ f K, f_X10_more__L59 K (k + 1 + f) 168 x s.1 s.2 (Int32.ofNat (nN (gE B))) (Int32.ofNat w) (Int32.ofNat j) (mem ν) = K 168 x (mrR B w k j s).1 (mrR B w k j s).2 (Int32.ofNat (nN (gE B))) (Int32.ofNat w) (mem ξ)) ∧ Fr FRk ν ξ ∧ MR ξ 0 B
  | 0, j, s, ν, h, hm => by
    have e0 : ν.1 172 1 = Int32.ofNat (bm B) := hm.1.2.1
    have hm' := hB.m
    have c : (Int32.ofNat j ≥ Int32.ofNat (bm B)) = True := by rw [oN_ge (by omega) (by omega)]; exact eq_true (by omega)
    refine ⟨ν, fun f K => ?_, Fr.refl _ _, hm⟩
    rw [show 0 + 1 + f = f + 1 by omega]
    simp only [f_X10_more__L59, ↓hbind gR_168_9, ↓hbind mr_h0, ↓hbind mh_a0_1, e0, c, ↓reduceIte, mrR]
  | k + 1, j, s, ν, h, hm => by
    obtain ⟨ζ, e, f1, m1⟩ := m_mr1 hm hB (x := x) hw (show j < bm B by omega) s
    obtain ⟨ξ, ih, f2, m2⟩ := m_mr_in hB (x := x) hw k (j + 1) (mst B w j s) ζ (by omega) m1
    refine ⟨ξ, fun f K => ?_, f1.trans f2, m2⟩
    rw [show k + 1 + 1 + f = (k + 1 + f) + 1 by omega, mrR, ← ih f K, e]
theorem m_mr_out (hB : BOK B) {x : Int32} (K : Int32 → Int32 → Int32 → xH → Option (Int32 × xH)) : ∀ (k i : Nat) (s : T2) (ν : MM), i + k = bn B → MR ν 0 B → ∃ ξ, (∀ f, f_X10_more__L43 K (k + 1 + f) 168 x s.1 s.2 (Int32.ofNat (nN (gE B))) (Int32.ofNat i) (mem ν) = K x (mrQ B k i s).1 (mrQ B k i s).2 (mem ξ)) ∧ Fr FRk ν ξ ∧ MR ξ 0 B
  | 0, i, s, ν, h, hm => by
    have e0 : ν.1 172 0 = Int32.ofNat (bn B) := hm.1.1
    have hn := hB.n
    have c : (Int32.ofNat i ≥ Int32.ofNat (bn B)) = True := by rw [oN_ge (by omega) (by omega)]; exact eq_true (by omega)
    refine ⟨ν, fun f => ?_, Fr.refl _ _, hm⟩
    rw [show 0 + 1 + f = f + 1 by omega]
    simp only [f_X10_more__L43, ↓hbind gR_168_9, ↓hbind mr_h0, ↓hbind mh_a0_0, e0, c, ↓reduceIte, mrQ]
  | k + 1, i, s, ν, h, hm => by
    have e0 : ν.1 172 0 = Int32.ofNat (bn B) := hm.1.1
    have hn := hB.n
    have hm' := hB.m
    have c : (Int32.ofNat i ≥ Int32.ofNat (bn B)) = False := by rw [oN_ge (by omega) (by omega)]; exact eq_false (by omega)
    obtain ⟨ζ, hz, f1, m1⟩ := m_mr_in hB (x := x) (show i < 12 by omega) (bm B) 0 s ν (by omega) hm
    have hz := hz (5000 - (bm B + 1))
    rw [show bm B + 1 + (5000 - (bm B + 1)) = 5000 by omega] at hz
    have hz : ∀ K', f_X10_more__L59 K' 5000 168 x s.1 s.2 (Int32.ofNat (nN (gE B))) (Int32.ofNat i) 0 (mem ν) = K' 168 x (mrR B i (bm B) 0 s).1 (mrR B i (bm B) 0 s).2 (Int32.ofNat (nN (gE B))) (Int32.ofNat i) (mem ζ) := hz
    obtain ⟨ξ, ih, f2, m2⟩ := m_mr_out hB (x := x) K k (i + 1) (mrR B i (bm B) 0 s) ζ (by omega) m1
    refine ⟨ξ, fun f => ?_, f1.trans f2, m2⟩
    rw [show k + 1 + 1 + f = (k + 1 + f) + 1 by omega, mrQ, ← ih f]
    simp only [f_X10_more__L43, ↓hbind gR_168_9, ↓hbind mr_h0, ↓hbind mh_a0_0, e0, c, ↓reduceIte, hz, f_X10_more__J191, lt, i_succ]
noncomputable def mrF (B : Bk) (x : Int32) : Int32 := if x = 0 then (mrQ B (bn B) 0 (0, -1)).1 else (mrQ B (bn B) 0 (0, -1)).2
theorem op_more (hT : TF T) (hA : AOK A) (hC : RC T μ A) (hM : RM μ A) (x : Int32) : OKc T μ (LB wc_L_more (f_X9_more 0 x) (f_X10_more_ 168 x)) := by
  have hB := hA.1
  have hn := hB.n
  by_cases c : x = 0 ∨ x = 1
  · obtain ⟨ν, ξ, k, M', e1, e2, fq, g, s, o, r⟩ := c_mmLook hC hA
    have nu := g.nu hB.Eb hB.M
    have hb1 : BC ξ 1 (aB A) := hC.1.fr fq fun q i a c z => by unfold CQ at z; omega
    have eo := c_mr_out (M := M') ⟨nu.1, nu.2.1, r⟩ hB hb1 (x := x) f_X9_more_J112 (bn (aB A)) 0 (0, -1) (5000 - (bn (aB A) + 1)) (by omega)
    rw [show bn (aB A) + 1 + (5000 - (bn (aB A) + 1)) = 5000 by omega] at eo
    have eo : f_X9_more_L41 f_X9_more_J112 5000 0 x 0 (-1) 0 (mem ξ) = _ := eo
    have s1 : f_X9_more 0 x (mem μ) = f_X9_more_J15 0 x 0 1 (mem μ) := by
      unfold f_X9_more f_X9_more_J10
      rcases c with rfl | rfl
      · rw [if_pos rfl]
      · rw [if_neg (by decide), if_pos rfl]
    refine LB_ok hT hM (SV.uq (A := A) (v := mrF (aB A) x)) (CX_V hT hC hA (ν := ξ) ?_ fq) (fun ν hν => ?_)
    · rw [s1]
      unfold mrF
      rcases c with rfl | rfl
      · simp only [f_X9_more_J15, ↓hvc (fun _ => vc_0), ↓hbind c_da1, ↓thr_ok, ↓hbind e1, ↓hbind gR_0_5, ↓hbind gR_0_4, ↓hvc (fun _ => vc_149), ↓hbind e2, eo, f_X9_more_J112, f_X9_more_J121, ↓reduceIte]
      · simp only [f_X9_more_J15, ↓hvc (fun _ => vc_0), ↓hbind c_da1, ↓thr_ok, ↓hbind e1, ↓hbind gR_0_5, ↓hbind gR_0_4, ↓hvc (fun _ => vc_149), ↓hbind e2, eo, f_X9_more_J112, f_X9_more_J121, z_1, ↓reduceIte]
    · obtain ⟨N, ω, e4, f4, n4⟩ := m_nuB hν.t.1 hB
      have m4 := hν.t.1.fr f4 fun q i a z => by unfold FR at a; unfold Fk at z; omega
      obtain ⟨ζ, e5, f5, m5⟩ := m_mr_out hB (x := x) f_X10_more__J197 (bn (aB A)) 0 (0, -1) ω (by omega) m4
      have e5 := e5 (5000 - (bn (aB A) + 1))
      rw [show bn (aB A) + 1 + (5000 - (bn (aB A) + 1)) = 5000 by omega, ← n4.nN] at e5
      have e5 : f_X10_more__L43 f_X10_more__J197 5000 168 x 0 (-1) (Int32.ofNat N) 0 (mem ω) = _ := e5
      refine MX_V2 hν (ν := ζ) ?_ ((f4.mono fun q i z => Or.inl z).trans f5) m5
      unfold mrF
      rcases c with rfl | rfl
      · simp only [f_X10_more_, f_X10_more__J20, ↓hbind pI_t0, ↓hbind (m_in01 (show (0 : Int32) = 0 ∨ (0 : Int32) = 1 from Or.inl rfl)), z_1, ↓reduceIte, ↓hvc (fun _ => vc_168), ↓hbind m_b0t, ↓hbind e4, e5, f_X10_more__J197, f_X10_more__J206]
      · simp only [f_X10_more_, f_X10_more__J20, ↓hbind pI_t0, ↓hbind (m_in01 (show (1 : Int32) = 0 ∨ (1 : Int32) = 1 from Or.inr rfl)), z_1, ↓reduceIte, ↓hvc (fun _ => vc_168), ↓hbind m_b0t, ↓hbind e4, e5, f_X10_more__J197, f_X10_more__J206]
  · have d1 : ¬ x = 0 := fun z => c (Or.inl z)
    have d2 : ¬ x = 1 := fun z => c (Or.inr z)
    refine LB_ok hT hM (SA.uq (A := A)) (CX_A hT hC hA fun ν e => ?_) (fun ν hν => MX_A hν (w := 1) (b := 0) rfl (by decide) ?_)
    · simp only [f_X9_more, f_X9_more_J15, if_neg d1, if_neg d2, ↓hvc (fun _ => vc_0), ↓hbind e, ↓thr_er]
    · simp only [f_X10_more_, f_X10_more__J20, ↓hbind pI_t0, ↓hbind (m_out01 c), ↓reduceIte, ↓hvc (fun _ => vc_168), ↓hbind (m_bA (show (1 : Int32) ≠ 0 by decide)), z_1]
end O20
