/-! MATHEMATICS: the kinds of a fit -/
theorem nu_ex (E : Nat → Nat → Bool) : ∃ n, Nu E n := by
  have h : ∃ k, (∃ M, Ms E M ∧ k ≤ sz M) ∧ ¬ ∃ M, Ms E M ∧ k + 1 ≤ sz M := by
    apply Classical.byContradiction
    intro c
    have all : ∀ k, ∃ M, Ms E M ∧ k ≤ sz M := by
      intro k
      induction k with
      | zero => exact ⟨_, e_Ms E, Nat.zero_le _⟩
      | succ k ih => exact Classical.byContradiction fun z => c ⟨k, ih, z⟩
    obtain ⟨M, _, h⟩ := all 13
    have := sz_le M
    omega
  obtain ⟨k, ⟨M, m, a⟩, b⟩ := h
  refine ⟨k, ⟨M, m, ?_⟩, fun M' m' => ?_⟩
  · exact Nat.le_antisymm (Nat.le_of_not_lt fun z => b ⟨M, m, z⟩) a
  · exact Nat.le_of_not_lt fun z => b ⟨M', m', z⟩
/-- how many pairs can be -/
noncomputable def nN (E : Nat → Nat → Bool) : Nat := Classical.choose (nu_ex E)
theorem nN_nu (E : Nat → Nat → Bool) : Nu E (nN E) := Classical.choose_spec (nu_ex E)
theorem Nu.nN {E : Nat → Nat → Bool} {n : Nat} (h : Nu E n) : n = nN E := h.uniq (nN_nu E)
/-- without a fit; without both of it -/
def eE (E : Nat → Nat → Bool) (w t v s : Nat) : Bool := E v s && !(decide (v = w) && decide (s = t))
def oE (E : Nat → Nat → Bool) (w t v s : Nat) : Bool := E v s && decide (v ≠ w) && decide (s ≠ t)
/-- the kind of an open fit -/
noncomputable def kvE (E : Nat → Nat → Bool) (w t : Nat) : Int32 := if nN (eE E w t) < nN E then 3 else if nN (oE E w t) + 1 = nN E then 2 else 1
/-- from a worker to another, whose task it fits -/
def D1 (E : Nat → Nat → Bool) (M : Nat → Nat) (i j : Nat) : Prop := j < 12 ∧ ∃ s, E i s = true ∧ s ≠ M i ∧ ow M s = j
def Dk (E : Nat → Nat → Bool) (M : Nat → Nat) : Nat → Nat → Nat → Prop
  | 0, i, j => D1 E M i j
  | k + 1, i, j => ∃ m, Dk E M k i m ∧ D1 E M m j
def Dr (E : Nat → Nat → Bool) (M : Nat → Nat) (i j : Nat) : Prop := ∃ k, Dk E M k i j
theorem eE_iff {E : Nat → Nat → Bool} {w t v s : Nat} : eE E w t v s = true ↔ (E v s = true ∧ ¬ (v = w ∧ s = t)) := by
  unfold eE
  rw [Bool.and_eq_true, Bool.not_eq_true', Bool.and_eq_false_iff, decide_eq_false_iff_not, decide_eq_false_iff_not]
  constructor
  · rintro ⟨a, b⟩; exact ⟨a, fun z => b.elim (fun c => c z.1) (fun c => c z.2)⟩
  · rintro ⟨a, b⟩
    refine ⟨a, ?_⟩
    by_cases z : v = w
    · exact Or.inr fun y => b ⟨z, y⟩
    · exact Or.inl z
theorem oE_iff {E : Nat → Nat → Bool} {w t v s : Nat} : oE E w t v s = true ↔ (E v s = true ∧ v ≠ w ∧ s ≠ t) := by
  unfold oE
  rw [Bool.and_eq_true, Bool.and_eq_true, decide_eq_true_eq, decide_eq_true_eq]
  exact ⟨fun z => ⟨z.1.1, z.1.2, z.2⟩, fun z => ⟨⟨z.1, z.2.1⟩, z.2.2⟩⟩
theorem eE_Eb {E : Nat → Nat → Bool} (h : Eb E) {w t : Nat} : Eb (eE E w t) := fun v s q => h v s (eE_iff.mp q).1
theorem oE_Eb {E : Nat → Nat → Bool} (h : Eb E) {w t : Nat} : Eb (oE E w t) := fun v s q => h v s (oE_iff.mp q).1
theorem Nu.tra {E : Nat → Nat → Bool} {n : Nat} (h : Nu E n) : Nu (trE E) n := by
  obtain ⟨⟨M, m, e⟩, h2⟩ := h
  refine ⟨⟨tr M, tr_Ms m, by rw [sz_tr m.1]; exact e⟩, fun M' m' => ?_⟩
  rw [← sz_tr m'.1]
  exact h2 _ (tr_Ms m')
section Ki
variable {E : Nat → Nat → Bool} {M : Nat → Nat} {Wt Tt : Int32}
theorem fwW.nu (hE : Eb E) (hM : Ms E M) (hN : Nu E (sz M)) {v s : Nat} (h : fwW E M Wt v) (e : E v s = true) : ow M s < 12 := by
  obtain ⟨k, h⟩ := h
  exact nu_closed hN hM (fun w z => ⟨z.1, z.2.2⟩) h e (hE _ _ e).2
theorem bk_nu (hE : Eb E) (hM : Ms E M) (hN : Nu E (sz M)) {v s : Nat} (h : fwW (trE E) (tr M) Tt s) (e : E v s = true) : M v < 12 := by
  have hN' : Nu (trE E) (sz (tr M)) := by rw [sz_tr hM.1]; exact hN.tra
  have := h.nu (trE_Eb hE) (tr_Ms hM) hN' (s := v) e
  rw [ow_tr hM.1 (hE _ _ e).1] at this; exact this
/-- there are most pairs without it, and with it -/
def Bth (E : Nat → Nat → Bool) (n w t : Nat) : Prop := (∃ M', Ms E M' ∧ sz M' = n ∧ M' w ≠ t) ∧ ∃ M', Ms E M' ∧ sz M' = n ∧ M' w = t
theorem Bth.val (hE : Eb E) {n w t : Nat} (hN : Nu E n) (e : E w t = true) (h : Bth E n w t) : kvE E w t = 2 := by
  obtain ⟨⟨M1, m1, s1, n1⟩, M2, m2, s2, n2⟩ := h
  obtain ⟨hw, ht⟩ := hE _ _ e
  have a : Nu (eE E w t) n := ⟨⟨M1, ⟨m1.1, fun x q => eE_iff.mpr ⟨m1.2 x q, fun z => n1 (by rw [← z.1]; exact z.2)⟩⟩, s1⟩, fun M' m' => hN.2 M' (m'.congr fun v s q => (eE_iff.mp q).1)⟩
  have b : Nu (oE E w t) (n - 1) := by
    refine ⟨⟨up M2 w 12, ⟨(drop_Ms m2 w).1, fun x q => ?_⟩, ?_⟩, fun M' m' => ?_⟩
    · have xw : x ≠ w := fun z => by rw [z, up_same] at q; omega
      rw [up_ne xw] at q ⊢
      exact oE_iff.mpr ⟨m2.2 x q, xw, fun z => xw (m2.1.2.2 x w q (by rw [z, n2]))⟩
    · have := sz_drop (M := M2) hw (by omega)
      omega
    · have mw : M' w = 12 := Nat.le_antisymm (m'.1.1 w) (Nat.le_of_not_lt fun z => (oE_iff.mp (m'.2 w z)).2.1 rfl)
      have mt : ow M' t = 12 := ow_none.mpr fun x hx z => by
        have := m'.2 x (by omega)
        rw [z] at this
        exact (oE_iff.mp this).2.2 rfl
      have h1 : Ms E M' := m'.congr fun v s q => (oE_iff.mp q).1
      have := hN.2 _ (give_Ms h1 hw ht e mt)
      rw [sz_give hw ht mw] at this
      omega
  have n0 : 0 < n := by
    have := sz_drop (M := M2) hw (by omega)
    omega
  unfold kvE
  rw [← a.nN, ← b.nN, ← hN.nN, if_neg (Nat.lt_irrefl n), if_pos (by omega)]
theorem knA (hE : Eb E) (hM : Ms E M) (hN : Nu E (sz M)) {w t : Nat} (e : E w t = true) (h : fwW E M Wt w) : Bth E (sz M) w t := by
  obtain ⟨hw, ht⟩ := hE _ _ e
  obtain ⟨k, h⟩ := h
  obtain ⟨M1, u, a1, a2, a3, a4, a5, a6, a7, a8⟩ := hole hM (fun w z => ⟨z.1, z.2.2⟩) k w h
  refine ⟨⟨M1, a1, a3, by omega⟩, ?_⟩
  have hv : ow M1 t < 12 := by
    apply Classical.byContradiction
    intro z
    have o : ow M1 t = 12 := Nat.le_antisymm (ow_le _ _) (by omega)
    have := hN.2 _ (give_Ms a1 hw ht e o)
    rw [sz_give hw ht a2] at this
    omega
  have hv2 := ow_M hv
  have vw : ow M1 t ≠ w := fun z => by rw [z] at hv2; omega
  have d1 := drop_Ms a1 (ow M1 t)
  have d2 : ow (up M1 (ow M1 t) 12) t = 12 := by
    have := ow_drop a1.1 (w := ow M1 t) (by omega)
    rw [hv2] at this; exact this
  have d3 : up M1 (ow M1 t) 12 w = 12 := by rw [up_ne vw.symm]; exact a2
  refine ⟨up (up M1 (ow M1 t) 12) w t, give_Ms d1 hw ht e d2, ?_, up_same _ _ _⟩
  rw [sz_give hw ht d3, sz_drop hv (by omega), a3]
theorem knB (hE : Eb E) (hM : Ms E M) (hN : Nu E (sz M)) {w t : Nat} (e : E w t = true) (h : fwW (trE E) (tr M) Tt t) : Bth E (sz M) w t := by
  obtain ⟨hw, ht⟩ := hE _ _ e
  have hN' : Nu (trE E) (sz (tr M)) := by rw [sz_tr hM.1]; exact hN.tra
  obtain ⟨⟨M1, m1, s1, n1⟩, M2, m2, s2, n2⟩ := knA (trE_Eb hE) (tr_Ms hM) hN' (w := t) (t := w) e h
  rw [sz_tr hM.1] at s1 s2
  exact ⟨⟨tr M1, tr_Ms m1, by rw [sz_tr m1.1]; exact s1, fun z => n1 ((tr_iff m1.1 ht hw).mp z)⟩, tr M2, tr_Ms m2, by rw [sz_tr m2.1]; exact s2, (tr_iff m2.1 ht hw).mpr n2⟩
theorem Dk.fw (hE : Eb E) {v : Nat} (hv : M v < 12) (hM : Mt M) : ∀ {k j : Nat}, Dk E M k v j → j = v ∨ ∃ k', fw E (up M v 12) (fun x => x = v) k' j
  | 0, j, h => by
    obtain ⟨hj, s, h1, h2, h3⟩ := h
    by_cases c : j = v
    · exact Or.inl c
    · refine Or.inr ⟨1, Or.inr ⟨v, s, rfl, h1, (hE _ _ h1).2, ?_, hj⟩⟩
      rw [dr_ow hM (hE _ _ h1).2, if_neg (fun z => h2 z.symm)]; exact h3
  | k + 1, j, h => by
    obtain ⟨m, h, hj, s, h1, h2, h3⟩ := h
    by_cases c : j = v
    · exact Or.inl c
    · have o : ow (up M v 12) s = j := by
        rw [dr_ow hM (hE _ _ h1).2, if_neg (fun z => c (by rw [← h3, ← z]; exact ow_of hM hv))]; exact h3
      rcases Dk.fw hE hv hM h with z | ⟨k', z⟩
      · exact Or.inr ⟨1, Or.inr ⟨v, s, rfl, by rw [← z]; exact h1, (hE _ _ h1).2, o, hj⟩⟩
      · exact Or.inr ⟨k' + 1, Or.inr ⟨m, s, z, h1, (hE _ _ h1).2, o, hj⟩⟩
theorem knC (hE : Eb E) (hM : Ms E M) {w t : Nat} (e : E w t = true) (hv : ow M t < 12) (h : Dr E M (ow M t) w) : Bth E (sz M) w t := by
  obtain ⟨hw, ht⟩ := hE _ _ e
  obtain ⟨k, h⟩ := h
  have mv := ow_M hv
  have d1 := drop_Ms hM (ow M t)
  have d2 : ow (up M (ow M t) 12) t = 12 := by
    have := ow_drop hM.1 (w := ow M t) (by omega)
    rw [mv] at this; exact this
  have d3 := sz_drop (M := M) hv (by omega)
  have hZ : ∀ x, (fun x => x = ow M t) x → x < 12 ∧ up M (ow M t) 12 x = 12 := fun x z => by
    have z : x = ow M t := z
    rw [z]; exact ⟨hv, up_same _ _ _⟩
  -- from the task's worker on, the task is free again
  have key : ∀ i k', fw E (up M (ow M t) 12) (fun x => x = ow M t) k' i → E i t = true → ∃ M', Ms E M' ∧ sz M' = sz M ∧ M' i = t := fun i k' q ei => by
    obtain ⟨M1, u, a1, a2, a3, a4, a5, a6, a7, a8⟩ := hole d1 hZ k' i q
    have hi := (hE _ _ ei).1
    exact ⟨up M1 i t, give_Ms a1 hi ht ei ((a7 t ht).mpr d2), by rw [sz_give hi ht a2, a3]; exact d3, up_same _ _ _⟩
  by_cases c : ow M t = w
  · have mw : M w = t := by rw [← c]; exact mv
    refine ⟨?_, M, hM, rfl, mw⟩
    cases k with
    | zero =>
      obtain ⟨_, s, h1, h2, h3⟩ := h
      have := ow_M (M := M) (t := s) (by omega)
      rw [h3] at this
      exact absurd this.symm (by rw [c] at h2; exact h2)
    | succ k =>
      obtain ⟨i, h, hj, s, h1, h2, h3⟩ := h
      have st : s = t := by
        have := ow_M (M := M) (t := s) (by omega)
        rw [h3, mw] at this; exact this.symm
      have iw : i ≠ w := fun z => h2 (by rw [z, mw]; exact st)
      rw [st] at h1
      rcases Dk.fw hE (v := ow M t) (by omega) hM.1 h with z | ⟨k', z⟩
      · exact absurd (z.trans c) iw
      · obtain ⟨M', m1, m2, m3⟩ := key i k' z h1
        exact ⟨M', m1, m2, fun y => iw (m1.1.2.2 i w (by omega) (by rw [m3, y]))⟩
  · refine ⟨⟨M, hM, rfl, fun z => c (by rw [← z]; exact ow_of hM.1 (by omega))⟩, ?_⟩
    rcases Dk.fw hE (v := ow M t) (by omega) hM.1 h with z | ⟨k', z⟩
    · exact absurd z.symm c
    · exact key w k' z e
/-- back along the ways of D -/
theorem Dk.bk (hE : Eb E) (hM : Ms E M) : ∀ {k i j : Nat}, Dk E M k i j → fwT (trE E) (tr M) Tt j → M j < 12 → fwT (trE E) (tr M) Tt i
  | 0, i, j, h, q, mj => by
    obtain ⟨hj, s, h1, h2, h3⟩ := h
    have hs := (hE _ _ h1).2
    have mjs : M j = s := (ow_iff hM.1 hs hj).mp h3
    obtain ⟨t, a, b⟩ := q
    have := a.step (trE_Eb hE) (t := j) b (by rw [ow_tr hM.1 hj]; exact mj)
    rw [ow_tr hM.1 hj, mjs] at this
    exact ⟨s, this, h1⟩
  | k + 1, i, j, h, q, mj => by
    obtain ⟨m, h, h'⟩ := h
    have q' := Dk.bk (k := 0) hE hM h' q mj
    by_cases c : M m < 12
    · exact Dk.bk hE hM h q' c
    · -- the step before comes to m by a pair
      cases k with
      | zero =>
        obtain ⟨hm, s, h1, h2, h3⟩ := h
        have := (ow_iff hM.1 (hE _ _ h1).2 hm).mp h3
        have := (hE _ _ h1).2
        omega
      | succ k =>
        obtain ⟨l, h, hm, s, h1, h2, h3⟩ := h
        have := (ow_iff hM.1 (hE _ _ h1).2 hm).mp h3
        have := (hE _ _ h1).2
        omega
theorem Dk.mate (hE : Eb E) (hM : Ms E M) {k i j : Nat} (h : Dk E M k i j) : M j < 12 := by
  have f : ∀ {i}, D1 E M i j → M j < 12 := fun {i} ⟨hj, s, h1, h2, h3⟩ => by
    have := (ow_iff hM.1 (hE _ _ h1).2 hj).mp h3
    have := (hE _ _ h1).2
    omega
  cases k with
  | zero => exact f h
  | succ k => obtain ⟨m, _, h⟩ := h; exact f h
/-- a certificate: no more pairs, from a closed set of workers -/
theorem cert {E' : Nat → Nat → Bool} {M0 : Nat → Nat} (hE' : Eb E') (h0 : Ms E' M0) (R : Nat → Prop) (hc : ∀ v s, R v → E' v s = true → ow M0 s < 12 ∧ R (ow M0 s)) (hf : ∀ w s, w < 12 → M0 w = 12 → E' w s = true → R w) : Nu E' (sz M0) := by
  refine dd_nu (D := fun s => pb (∃ v, R v ∧ E' v s = true)) hE' h0 (fun s hs q => ?_) (fun w hw q s es => pb_t.mpr ⟨w, hf w s hw q es, es⟩)
  obtain ⟨v, a, b⟩ := pb_t.mp q
  obtain ⟨c, d⟩ := hc v s a b
  exact ⟨c, fun s' e => pb_t.mpr ⟨_, d, e⟩⟩
theorem kn3 (hE : Eb E) (hM : Ms E M) (hN : Nu E (sz M)) (hW : ∀ w t, E w t = true → hb Wt w = true) (hT : ∀ w t, E w t = true → hb Tt t = true) {w t : Nat} (e : E w t = true) (mw : M w = t) (na : ¬ fwW E M Wt w) (nb : ¬ fwW (trE E) (tr M) Tt t) (nc : ¬ Dr E M w w) : kvE E w t = 3 := by
  obtain ⟨hw, ht⟩ := hE _ _ e
  have hM1 := hM.1
  have d1 := drop_Ms hM w
  have d3 := sz_drop (M := M) hw (by omega)
  have m0 : Ms (eE E w t) (up M w 12) := ⟨d1.1, fun x q => eE_iff.mpr ⟨d1.2 x q, fun z => by rw [z.1, up_same] at q; omega⟩⟩
  have o0 : ∀ s, s < 12 → s ≠ t → ow (up M w 12) s = ow M s := fun s hs z => by rw [dr_ow hM1 hs, if_neg (fun y => z (by rw [← y]; exact mw))]
  have a : Nu (eE E w t) (sz (up M w 12)) := by
    refine cert (eE_Eb hE) m0 (fun v => fwW E M Wt v ∨ v = w ∨ Dr E M w v) (fun v s r q => ?_) (fun v s hv q es => ?_)
    · obtain ⟨q, n⟩ := eE_iff.mp q
      have hs := (hE _ _ q).2
      by_cases f : fwW E M Wt v
      · have o := f.nu hE hM hN q
        have f2 := f.step hE q o
        have st : s ≠ t := fun z => na (by
          have : ow M s = w := by rw [z, ← mw]; exact ow_of hM1 (by omega)
          rw [this] at f2; exact f2)
        rw [o0 s hs st]
        exact ⟨o, Or.inl f2⟩
      · have wv : v = w ∨ Dr E M w v := r.resolve_left f
        have o : ow M s < 12 := by
          apply Classical.byContradiction
          intro z
          have z : ow M s = 12 := Nat.le_antisymm (ow_le _ _) (by omega)
          have bs : fwW (trE E) (tr M) Tt s := fwW.zero hs (hT _ _ q) (by rw [tr_lt hs]; exact z)
          have bv : fwT (trE E) (tr M) Tt v := ⟨s, bs, q⟩
          have bw' : fwT (trE E) (tr M) Tt w := by
            rcases wv with y | ⟨k, y⟩
            · rw [← y]; exact bv
            · exact y.bk hE hM bv (y.mate hE hM)
          obtain ⟨x, b1, b2⟩ := bw'
          have := b1.step (trE_Eb hE) (t := w) b2 (by rw [ow_tr hM1 hw, mw]; exact ht)
          rw [ow_tr hM1 hw, mw] at this
          exact nb this
        have mo := ow_M o
        by_cases y : s = M v
        · have vo : ow M s = v := by rw [y]; exact ow_of hM1 (by omega)
          have st : s ≠ t := fun z => n ⟨by rw [← vo, z, ← mw]; exact ow_of hM1 (by omega), z⟩
          rw [o0 s hs st, vo]
          exact ⟨by omega, Or.inr wv⟩
        · have dv : Dr E M w (ow M s) := by
            rcases wv with x | ⟨k, x⟩
            · exact ⟨0, by rw [← x]; exact ⟨o, s, q, y, rfl⟩⟩
            · exact ⟨k + 1, v, x, o, s, q, y, rfl⟩
          have st : s ≠ t := fun z => nc (by
            have : ow M s = w := by rw [z, ← mw]; exact ow_of hM1 (by omega)
            rw [this] at dv; exact dv)
          rw [o0 s hs st]
          exact ⟨o, Or.inr (Or.inr dv)⟩
    · by_cases vw : v = w
      · exact Or.inr (Or.inl vw)
      · rw [up_ne vw] at q
        exact Or.inl (fwW.zero hv (hW _ _ (eE_iff.mp es).1) q)
  unfold kvE
  rw [← a.nN, ← hN.nN, if_pos (by omega)]
theorem kn1 (hE : Eb E) (hM : Ms E M) (hN : Nu E (sz M)) (hW : ∀ w t, E w t = true → hb Wt w = true) (hT : ∀ w t, E w t = true → hb Tt t = true) {w t : Nat} (e : E w t = true) (mw : M w ≠ t) (na : ¬ fwW E M Wt w) (nb : ¬ fwW (trE E) (tr M) Tt t) (nc : ¬ Dr E M (ow M t) w) : kvE E w t = 1 := by
  obtain ⟨hw, ht⟩ := hE _ _ e
  have hM1 := hM.1
  have mw2 : M w < 12 := Classical.byContradiction fun z => na (fwW.zero hw (hW _ _ e) (Nat.le_antisymm (hM1.1 w) (by omega)))
  have hv : ow M t < 12 := Classical.byContradiction fun z => nb (fwW.zero ht (hT _ _ e) (by rw [tr_lt ht]; exact Nat.le_antisymm (ow_le _ _) (by omega)))
  have mv := ow_M hv
  have vw : ow M t ≠ w := fun z => mw (by rw [← z]; exact mv)
  have a : Nu (eE E w t) (sz M) := ⟨⟨M, ⟨hM1, fun x q => eE_iff.mpr ⟨hM.2 x q, fun z => mw (by rw [← z.1]; exact z.2)⟩⟩, rfl⟩, fun M' m' => hN.2 M' (m'.congr fun v s q => (eE_iff.mp q).1)⟩
  have d1 := drop_Ms hM w
  have d2 : up M w 12 (ow M t) = t := by rw [up_ne vw]; exact mv
  have d3 := drop_Ms d1 (ow M t)
  have z1 := sz_drop (M := M) hw mw2
  have z2 := sz_drop (M := up M w 12) hv (by rw [d2]; exact ht)
  have m0 : Ms (oE E w t) (up (up M w 12) (ow M t) 12) := ⟨d3.1, fun x q => by
    have x1 : x ≠ ow M t := fun z => by rw [z, up_same] at q; omega
    rw [up_ne x1] at q ⊢
    have x2 : x ≠ w := fun z => by rw [z, up_same] at q; omega
    rw [up_ne x2] at q ⊢
    exact oE_iff.mpr ⟨hM.2 x q, x2, fun z => x1 (by rw [← z]; exact (ow_of hM1 q).symm)⟩⟩
  have o0 : ∀ s, s < 12 → s ≠ t → ow M s ≠ w → ow (up (up M w 12) (ow M t) 12) s = ow M s := fun s hs z y => by
    rw [dr_ow d1.1 hs, if_neg (by rw [d2]; exact fun x => z x.symm), dr_ow hM1 hs, if_neg (fun x => y (by rw [← x]; exact ow_of hM1 mw2))]
  have b : Nu (oE E w t) (sz (up (up M w 12) (ow M t) 12)) := by
    refine cert (oE_Eb hE) m0 (fun v => fwW E M Wt v ∨ v = ow M t ∨ Dr E M (ow M t) v) (fun v s r q => ?_) (fun v s hv' q es => ?_)
    · obtain ⟨q, nw, nt⟩ := oE_iff.mp q
      have hs := (hE _ _ q).2
      by_cases f : fwW E M Wt v
      · have o := f.nu hE hM hN q
        have f2 := f.step hE q o
        have ow' : ow M s ≠ w := fun z => na (by rw [z] at f2; exact f2)
        rw [o0 s hs nt ow']
        exact ⟨o, Or.inl f2⟩
      · have wv := r.resolve_left f
        have o : ow M s < 12 := by
          apply Classical.byContradiction
          intro z
          have z : ow M s = 12 := Nat.le_antisymm (ow_le _ _) (by omega)
          have bs : fwW (trE E) (tr M) Tt s := fwW.zero hs (hT _ _ q) (by rw [tr_lt hs]; exact z)
          have bv : fwT (trE E) (tr M) Tt v := ⟨s, bs, q⟩
          have bw' : fwT (trE E) (tr M) Tt (ow M t) := by
            rcases wv with y | ⟨k, y⟩
            · rw [← y]; exact bv
            · exact y.bk hE hM bv (y.mate hE hM)
          obtain ⟨x, b1, b2⟩ := bw'
          have := b1.step (trE_Eb hE) (t := ow M t) b2 (by rw [ow_tr hM1 hv, mv]; exact ht)
          rw [ow_tr hM1 hv, mv] at this
          exact nb this
        by_cases y : s = M v
        · have vo : ow M s = v := by rw [y]; exact ow_of hM1 (by omega)
          rw [o0 s hs nt (by rw [vo]; exact nw), vo]
          exact ⟨by omega, Or.inr wv⟩
        · have dv : Dr E M (ow M t) (ow M s) := by
            rcases wv with x | ⟨k, x⟩
            · exact ⟨0, by rw [← x]; exact ⟨o, s, q, y, rfl⟩⟩
            · exact ⟨k + 1, v, x, o, s, q, y, rfl⟩
          have ow' : ow M s ≠ w := fun z => nc (by rw [z] at dv; exact dv)
          rw [o0 s hs nt ow']
          exact ⟨o, Or.inr (Or.inr dv)⟩
    · by_cases x1 : v = ow M t
      · exact Or.inr (Or.inl x1)
      · rw [up_ne x1] at q
        by_cases x2 : v = w
        · exact absurd x2 (oE_iff.mp es).2.1
        · rw [up_ne x2] at q
          exact Or.inl (fwW.zero hv' (hW _ _ (oE_iff.mp es).1) q)
  unfold kvE
  rw [← a.nN, ← b.nN, ← hN.nN, if_neg (Nat.lt_irrefl _), if_neg (by omega)]
end Ki
