/-! THE LAW'S BOOK: trades -/
section De
variable {B : Bk} {sh : xH} {μ : MM} {a : LA}
theorem gn_0 {v w : Nat} (h : ¬ (bM B v < 12 ∧ bM B w < 12 ∧ hb (bf B v) (bM B w) = true ∧ hb (bf B w) (bM B v) = true)) : gn B v w = 0 := if_neg h
theorem tst_0 {v w : Nat} {s : TS} (hs : 0 ≤ s.1) (h : gn B v w = 0) : tst B v w s = s := by
  unfold tst
  rw [h, if_pos hs]
theorem l_tr_step (hs : lbS sh a) (hv : lbV μ a B) (hM : Ms (gE B) (bM B)) {v j : Nat} (hv12 : v < 12) (hj : j < bn B) {s : TS} (hge : 0 ≤ s.1) : ∀ n K, f_X10_trades_L24 K (n + 1) (lab a) s.1 s.2.1 s.2.2 (Int32.ofNat v) (Int32.ofNat j) (mS sh μ) = f_X10_trades_L24 K n (lab a) (tst B v j s).1 (tst B v j s).2.1 (tst B v j s).2.2 (Int32.ofNat v) (Int32.ofNat (j + 1)) (mS sh μ) := by
  have hn : bn B ≤ 12 := hv.2.2.2.2.1.1
  have j12 : j < 12 := by omega
  have g0 : μ.1 (lab a) 0 = Int32.ofNat (bn B) := hv.1.1
  have qv : μ.1 (laq a) v = eI (bM B v) := hv.2.2.1 v hv12
  have qj : μ.1 (laq a) j = eI (bM B j) := hv.2.2.1 j j12
  have c : ¬ (Int32.ofNat j ≥ Int32.ofNat (bn B)) := by rw [oN_ge (by omega) (by omega)]; omega
  by_cases c1 : bM B v < 12
  · have e1 : ¬ (eI (bM B v) < 0) := by rw [eI_l0]; omega
    by_cases c2 : bM B j < 12
    · have e2 : ¬ (eI (bM B j) < 0) := by rw [eI_l0]; omega
      have r1 := hv.2.1 v (bM B j) hv12 c2
      have r2 := hv.2.1 j (bM B v) j12 c1
      have e1' := eI_lt c1
      have e2' := eI_lt c2
      rw [e1'] at e1
      rw [e2'] at e2
      cases c3 : hb (bf B v) (bM B j) with
      | false =>
        rw [c3] at r1
        have r1 : μ.1 (lao a v) (bM B j) = -1 := r1
        have m1 : ((-1 : Int32) < 0) := by decide
        intro n K
        rw [tst_0 hge (gn_0 fun z => by rw [c3] at z; exact absurd z.2.2.1 (by decide))]
        simp only [f_X10_trades_L24, hs.g (show 0 < 5 by decide), Option.bind_some, g0, if_neg c, hs.r6, hs.aq hv12, hs.aq j12, qv, qj, e1', e2', if_neg e1, if_neg e2, hs.r5, hs.ro hv12, hs.ao hv12 c2, r1, if_pos m1, f_X10_trades_J153, lt, i_succ]
      | true =>
        rw [c3] at r1
        have r1 : μ.1 (lao a v) (bM B j) = Int32.ofNat (bc B v (bM B j)) := r1
        have b99 := hv.2.2.2.2.2.2.2
        have n1 : ¬ (Int32.ofNat (bc B v (bM B j)) < 0) := by rw [oN_l0 (by have := b99 v (bM B j); omega)]; exact id
        cases c4 : hb (bf B j) (bM B v) with
        | false =>
          rw [c4] at r2
          have r2 : μ.1 (lao a j) (bM B v) = -1 := r2
          have m1 : ¬ ((-1 : Int32) ≥ 0) := by decide
          intro n K
          rw [tst_0 hge (gn_0 fun z => by rw [c4] at z; exact absurd z.2.2.2 (by decide))]
          simp only [f_X10_trades_L24, hs.g (show 0 < 5 by decide), Option.bind_some, g0, if_neg c, hs.r6, hs.aq hv12, hs.aq j12, qv, qj, e1', e2', if_neg e1, if_neg e2, hs.r5, hs.ro hv12, hs.ao hv12 c2, r1, if_neg n1, hs.ro j12, hs.ao j12 c1, r2, if_neg m1, f_X10_trades_J153, lt, i_succ]
        | true =>
          rw [c4] at r2
          have r2 : μ.1 (lao a j) (bM B v) = Int32.ofNat (bc B j (bM B v)) := r2
          have n2 : (Int32.ofNat (bc B j (bM B v)) ≥ 0) := by rw [oN_g0 (by have := b99 j (bM B v); omega)]; trivial
          have fv : hb (bf B v) (bM B v) = true := by
            have := hM.2 v c1
            unfold gE at this
            simp only [Bool.and_eq_true] at this
            exact this.1.1
          have fj : hb (bf B j) (bM B j) = true := by
            have := hM.2 j c2
            unfold gE at this
            simp only [Bool.and_eq_true] at this
            exact this.1.1
          have r3 : μ.1 (lao a v) (bM B v) = Int32.ofNat (bc B v (bM B v)) := by rw [hv.2.1 v _ hv12 c1, if_pos fv]
          have r4 : μ.1 (lao a j) (bM B j) = Int32.ofNat (bc B j (bM B j)) := by rw [hv.2.1 j _ j12 c2, if_pos fj]
          have eg : gn B v j = ((Int32.ofNat (bc B v (bM B v)) + Int32.ofNat (bc B j (bM B j))) - Int32.ofNat (bc B v (bM B j))) - Int32.ofNat (bc B j (bM B v)) := if_pos ⟨c1, c2, c3, c4⟩
          intro n K
          by_cases c5 : gn B v j ≤ s.1
          · have et : tst B v j s = s := if_pos c5
            have c5' : ¬ (gn B v j > s.1) := Int32.not_lt.mpr c5
            rw [eg] at c5'
            rw [et]
            simp only [f_X10_trades_L24, hs.g (show 0 < 5 by decide), Option.bind_some, g0, if_neg c, hs.r6, hs.aq hv12, hs.aq j12, qv, qj, e1', e2', if_neg e1, if_neg e2, hs.r5, hs.ro hv12, hs.ao hv12 c2, hs.ao hv12 c1, r1, if_neg n1, hs.ro j12, hs.ao j12 c1, hs.ao j12 c2, r2, if_pos n2, r3, r4, lt, if_neg c5', f_X10_trades_J153, i_succ]
          · have et : tst B v j s = (gn B v j, Int32.ofNat v, Int32.ofNat j) := if_neg c5
            have c5' : (gn B v j > s.1) := Int32.not_le.mp c5
            rw [eg] at c5'
            rw [et, eg]
            simp only [f_X10_trades_L24, hs.g (show 0 < 5 by decide), Option.bind_some, g0, if_neg c, hs.r6, hs.aq hv12, hs.aq j12, qv, qj, e1', e2', if_neg e1, if_neg e2, hs.r5, hs.ro hv12, hs.ao hv12 c2, hs.ao hv12 c1, r1, if_neg n1, hs.ro j12, hs.ao j12 c1, hs.ao j12 c2, r2, if_pos n2, r3, r4, lt, if_pos c5', f_X10_trades_J153, i_succ]
    · have e2 : (eI (bM B j) < 0) := by rw [eI_l0]; omega
      intro n K
      rw [tst_0 hge (gn_0 fun z => c2 z.2.1)]
      simp only [f_X10_trades_L24, hs.g (show 0 < 5 by decide), Option.bind_some, g0, if_neg c, hs.r6, hs.aq hv12, hs.aq j12, qv, qj, if_neg e1, if_pos e2, f_X10_trades_J153, lt, i_succ]
  · have e1 : (eI (bM B v) < 0) := by rw [eI_l0]; omega
    intro n K
    rw [tst_0 hge (gn_0 fun z => c1 z.1)]
    simp only [f_X10_trades_L24, hs.g (show 0 < 5 by decide), Option.bind_some, g0, if_neg c, hs.r6, hs.aq hv12, hs.aq j12, qv, qj, if_pos e1, f_X10_trades_J153, lt, i_succ]
theorem l_tr_in (hs : lbS sh a) (hv : lbV μ a B) (hM : Ms (gE B) (bM B)) {v : Nat} (hv12 : v < 12) (K : Nat → Int32 → Int32 → Int32 → Int32 → xH → Option (Int32 × xH)) : ∀ (k j : Nat) (s : TS) (f : Nat), j + k = bn B → v < j → TI B s → f_X10_trades_L24 K (k + 1 + f) (lab a) s.1 s.2.1 s.2.2 (Int32.ofNat v) (Int32.ofNat j) (mS sh μ) = K (lab a) (trR B v k j s).1 (trR B v k j s).2.1 (trR B v k j s).2.2 (Int32.ofNat v) (mS sh μ)
  | 0, j, s, f, h, _, _ => by
    have hn : bn B ≤ 12 := hv.2.2.2.2.1.1
    have g0 : μ.1 (lab a) 0 = Int32.ofNat (bn B) := hv.1.1
    have c : (Int32.ofNat j ≥ Int32.ofNat (bn B)) := by rw [oN_ge (by omega) (by omega)]; omega
    rw [show 0 + 1 + f = f + 1 by omega]
    simp only [f_X10_trades_L24, hs.g (show 0 < 5 by decide), Option.bind_some, g0, if_pos c]
    rfl
  | k + 1, j, s, f, h, vj, ti => by
    rw [show k + 1 + 1 + f = k + 1 + f + 1 by omega, l_tr_step hs hv hM hv12 (show j < bn B by omega) ti.ge]
    exact l_tr_in hs hv hM hv12 K k (j + 1) (tst B v j s) f (by omega) (by omega) (ti.one vj (by omega))
theorem l_tr_out (hs : lbS sh a) (hv : lbV μ a B) (hM : Ms (gE B) (bM B)) (K : Nat → Int32 → Int32 → Int32 → xH → Option (Int32 × xH)) : ∀ (k i : Nat) (s : TS) (f : Nat), i + k = bn B → TI B s → f_X10_trades_L9 K (k + 1 + f) (lab a) s.1 s.2.1 s.2.2 (Int32.ofNat i) (mS sh μ) = K (lab a) (trQ B (bn B) k i s).1 (trQ B (bn B) k i s).2.1 (trQ B (bn B) k i s).2.2 (mS sh μ)
  | 0, i, s, f, h, _ => by
    have hn : bn B ≤ 12 := hv.2.2.2.2.1.1
    have g0 : μ.1 (lab a) 0 = Int32.ofNat (bn B) := hv.1.1
    have c : (Int32.ofNat i ≥ Int32.ofNat (bn B)) := by rw [oN_ge (by omega) (by omega)]; omega
    rw [show 0 + 1 + f = f + 1 by omega]
    simp only [f_X10_trades_L9, hs.g (show 0 < 5 by decide), Option.bind_some, g0, if_pos c]
    rfl
  | k + 1, i, s, f, h, ti => by
    have hn : bn B ≤ 12 := hv.2.2.2.2.1.1
    have g0 : μ.1 (lab a) 0 = Int32.ofNat (bn B) := hv.1.1
    have c : ¬ (Int32.ofNat i ≥ Int32.ofNat (bn B)) := by rw [oN_ge (by omega) (by omega)]; omega
    have e1 := l_tr_in hs hv hM (show i < 12 by omega) (f_X10_trades_J159 (f_X10_trades_L9 K (k + 1 + f)) K) (bn B - (i + 1)) (i + 1) s (4999 - (bn B - (i + 1))) (by omega) (by omega) ti
    rw [show bn B - (i + 1) + 1 + (4999 - (bn B - (i + 1))) = 5000 by omega] at e1
    have ih := l_tr_out hs hv hM K k (i + 1) (trR B i (bn B - (i + 1)) (i + 1) s) f (by omega) (TI.inn _ _ ti (by omega) (by omega))
    rw [show k + 1 + 1 + f = k + 1 + f + 1 by omega]
    simp only [f_X10_trades_L9, hs.g (show 0 < 5 by decide), Option.bind_some, g0, if_neg c, lt, i_succ]
    refine Eq.trans e1 ?_
    simp only [f_X10_trades_J159, lt, i_succ]
    exact ih
theorem l_trades (hs : lbS sh a) (hv : lbV μ a B) (hM : Ms (gE B) (bM B)) :
    ∃ ν M', f_X10_trades (lab a) (mS sh μ) = some ((trF B).1, mS sh ν) ∧ Fr (fun q _ => q = laq a) μ ν ∧ lbV ν a (wM B M') ∧ (((trF B).1 = 0 ∧ M' = bM B) ∨ ∃ v w, v ≠ w ∧ 0 < (trF B).1 ∧ trF B = ((trF B).1, Int32.ofNat v, Int32.ofNat w) ∧ v < 12 ∧ w < 12 ∧ M' = jo (jo (bM B) v (bM B w)) w (bM B v)) := by
  have hn : bn B ≤ 12 := hv.2.2.2.2.1.1
  have s1 : f_X10_trades (lab a) (mS sh μ) = f_X10_trades_J165 (lab a) (trF B).1 (trF B).2.1 (trF B).2.2 (mS sh μ) := by
    have e := l_tr_out hs hv hM f_X10_trades_J165 (bn B) 0 (0, -1, -1) (5000 - (bn B + 1)) (by omega) (Or.inl rfl)
    rw [show bn B + 1 + (5000 - (bn B + 1)) = 5000 by omega] at e
    exact e
  rcases trF_TI B with q | ⟨v, w, vw, wn, q, g⟩
  · have q1 : (trF B).1 = 0 := by rw [q]
    refine ⟨μ, bM B, ?_, Fr.refl _ _, hv, Or.inl ⟨q1, rfl⟩⟩
    rw [s1, q1]
    simp only [f_X10_trades_J165, if_true]
  · have q1 : (trF B).1 = gn B v w := by rw [q]
    have q2 : (trF B).2.1 = Int32.ofNat v := by rw [q]
    have q3 : (trF B).2.2 = Int32.ofNat w := by rw [q]
    have v12 : v < 12 := by omega
    have w12 : w < 12 := by omega
    have nz : ¬ (gn B v w = 0) := fun z => by rw [z] at g; exact absurd g (by decide)
    have cd : bM B v < 12 ∧ bM B w < 12 ∧ hb (bf B v) (bM B w) = true ∧ hb (bf B w) (bM B v) = true := Classical.byContradiction fun z => nz (gn_0 z)
    have qv : μ.1 (laq a) v = eI (bM B v) := hv.2.2.1 v v12
    have qw : μ.1 (laq a) w = eI (bM B w) := hv.2.2.1 w w12
    obtain ⟨ν, hd⟩ : ∃ x, x = st (st μ (laq a) v (eI (bM B w))) (laq a) w (eI (bM B v)) := ⟨_, rfl⟩
    have fr : Fr (fun q _ => q = laq a) μ ν := by rw [hd]; exact ((Fr.refl (fun q _ => q = laq a) μ).st rfl).st rfl
    refine ⟨ν, _, ?_, fr, ?_, Or.inr ⟨v, w, by omega, by rw [q1]; exact g, by rw [q1]; exact q, v12, w12, rfl⟩⟩
    · rw [s1, q1, q2, q3, hd]
      simp only [f_X10_trades_J165, if_neg nz, hs.r6, hs.aq v12, hs.aq w12, Option.bind_some, qv, qw, hs.sq v12, hs.sq w12]
    · obtain ⟨b1, b2, b3, b4, b5, b6, b7⟩ := hv
      have eb : ∀ q i, q ≠ laq a → ν.1 q i = μ.1 q i := fun q i z => (fr q i z).1
      have n0 : lab a ≠ laq a := by have := hs.2.2.2.1; omega
      have jm : Mt (jo (jo (bM B) v (bM B w)) w (bM B v)) := jo_Mt (jo_Mt hM.1 v12 cd.2.1) w12 cd.1
      refine ⟨⟨(eb _ _ n0).trans b1.1, (eb _ _ n0).trans b1.2.1, (eb _ _ n0).trans b1.2.2.1, (eb _ _ n0).trans b1.2.2.2.1, (eb _ _ n0).trans b1.2.2.2.2⟩, fun w' u hw hu => (eb _ _ (hs.2.2.2.2.2.2.1.2 w' hw).1).trans (b2 w' u hw hu), fun x hx => ?_, fun w hw => (eb _ _ (fun z => hs.2.2.2.2.2.2.1.1 z.symm)).trans (b4 w hw), b5, jm.1, b7⟩
      show ν.1 (laq a) x = eI (jo (jo (bM B) v (bM B w)) w (bM B v) x)
      rw [hd]
      by_cases x1 : x = w
      · rw [x1, st_same]
        simp [jo]
      · rw [st_ne (Or.inr x1)]
        by_cases x2 : x = v
        · rw [x2, st_same]
          have : bM B w ≠ bM B v := fun z => by have := hM.1.2.2 w v cd.2.1 z; omega
          have vw' : v ≠ w := by omega
          simp [jo, vw', this]
        · rw [st_ne (Or.inr x2), b3 x hx]
          have n1 : bM B x ≠ bM B w := fun z => x1 (hM.1.2.2 w x cd.2.1 z.symm).symm
          have n2 : bM B x ≠ bM B v := fun z => x2 (hM.1.2.2 v x cd.1 z.symm).symm
          simp [jo, x1, x2, n1, n2]
end De
