/-! MATHEMATICS: a fit gets its round; THE CLASS: all rounds -/
variable {Ξ : xH}
noncomputable def stepR (C : CC) (w t : Nat) : CC :=
  setC (if wA C t (lf (C w)) = 12 then C else kw C (lf (C w)) (lf (tc C t)) t) w t (lf (C w))
noncomputable def stepV (C : CC) (V w t : Nat) : Nat :=
  if wA C t (lf (C w)) = 12 then max V (lf (C w) + 1) else max V (max (lf (C w) + 1) (lf (tc C t) + 1))
def mxC (C : CC) (V : Nat) : Prop := (∀ w t, C w t < 12 → C w t + 1 ≤ V) ∧ (V = 0 ∨ ∃ w t, C w t < 12 ∧ C w t + 1 = V)
section Cz
variable {C : CC} {w t V : Nat}
/-- what holds where a fit gets its round -/
theorem step_pre (h : Cp C) (hw : w < 12) (ht : t < 12) (e : C w t = 12) : lf (C w) < 12 ∧ lf (tc C t) < 12 ∧ (∀ u, C w u ≠ lf (C w)) ∧ (∀ v, C v t ≠ lf (tc C t)) ∧ (wA C t (lf (C w)) = 12 → ∀ v, C v t ≠ lf (C w)) ∧ (wA C t (lf (C w)) ≠ 12 → lf (C w) ≠ lf (tc C t)) := by
  have l1 := lf_lt (h.1 w) ht e
  have l2 := lf_lt (M := tc C t) (h.2 t) hw e
  refine ⟨l1, l2, lf_ne (h.1 w) l1, lf_ne (M := tc C t) (h.2 t) l2, fun z v q => ?_, fun z q => z ?_⟩
  · have v12 : v < 12 := h.w (t := t) (by omega)
    exact ow_none.mp z v v12 q
  · have := lf_free (M := tc C t) l2
    rw [← q] at this; exact this
theorem stepR_Cp (h : Cp C) (hw : w < 12) (ht : t < 12) (e : C w t = 12) : Cp (stepR C w t) ∧ (∀ v u, ¬ (v = w ∧ u = t) → C v u = 12 → stepR C w t v u = 12) := by
  obtain ⟨l1, l2, f1, f2, f3, ab⟩ := step_pre h hw ht e
  unfold stepR
  by_cases z : wA C t (lf (C w)) = 12
  · rw [if_pos z]
    exact ⟨setC_Cp h hw ht l1 f1 (f3 z), fun v u n q => by rw [setC_ne n]; exact q⟩
  · rw [if_neg z]
    refine ⟨setC_Cp (kw_Cp h l1 l2 f2) hw ht l1 (kw_a_w h l1 l2 f2 f1) (kw_a_t f2 ht), fun v u n q => ?_⟩
    rw [setC_ne n]
    by_cases y : TSk C (lf (C w)) (lf (tc C t)) t u
    · rw [kw_t y, q]; exact sw_12 l1 l2
    · rw [kw_f y]; exact q
theorem stepV_le (h : Cp C) (hw : w < 12) (ht : t < 12) (e : C w t = 12) (hV : V ≤ 12) : stepV C V w t ≤ 12 := by
  obtain ⟨l1, l2, _⟩ := step_pre h hw ht e
  unfold stepV
  split <;> omega
theorem mx_step (h : Cp C) (hw : w < 12) (ht : t < 12) (e : C w t = 12) (hV : mxC C V) : mxC (stepR C w t) (stepV C V w t) := by
  obtain ⟨l1, l2, f1, f2, f3, ab⟩ := step_pre h hw ht e
  obtain ⟨m1, m2⟩ := hV
  unfold stepR stepV
  by_cases z : wA C t (lf (C w)) = 12
  · rw [if_pos z, if_pos z]
    refine ⟨fun v u q => ?_, Or.inr ?_⟩
    · by_cases y : v = w ∧ u = t
      · rw [y.1, y.2, setC_same]; omega
      · rw [setC_ne y] at q ⊢
        have := m1 v u q; omega
    · by_cases x : V ≤ lf (C w) + 1
      · exact ⟨w, t, by rw [setC_same]; exact l1, by rw [setC_same]; omega⟩
      · rcases m2 with m2 | ⟨v, u, q1, q2⟩
        · omega
        · have n : ¬ (v = w ∧ u = t) := fun y => by rw [y.1, y.2, e] at q1; omega
          exact ⟨v, u, by rw [setC_ne n]; exact q1, by rw [setC_ne n]; omega⟩
  · rw [if_neg z, if_neg z]
    have hab := ab z
    refine ⟨fun v u q => ?_, Or.inr ?_⟩
    · by_cases y : v = w ∧ u = t
      · rw [y.1, y.2, setC_same]; omega
      · rw [setC_ne y] at q ⊢
        by_cases x : TSk C (lf (C w)) (lf (tc C t)) t u
        · rw [kw_t x] at q ⊢
          by_cases p : C v u = lf (C w) ∨ C v u = lf (tc C t)
          · rcases sw_in p with p | p <;> omega
          · rw [sw_out (fun y => p (Or.inl y)) (fun y => p (Or.inr y))] at q ⊢
            have := m1 v u q; omega
        · rw [kw_f x] at q ⊢
          have := m1 v u q; omega
    · by_cases x : max V (lf (tc C t) + 1) ≤ lf (C w) + 1
      · exact ⟨w, t, by rw [setC_same]; exact l1, by rw [setC_same]; omega⟩
      · by_cases y : V ≤ lf (tc C t) + 1
        · -- the first edge of the way has the other round now
          have v12 : wA C t (lf (C w)) < 12 := by have := ow_le (fun w => C w t) (lf (C w)); unfold wA at z ⊢; omega
          have ev : C (wA C t (lf (C w))) t = lf (C w) := ow_M (M := fun w => C w t) v12
          have n : ¬ (wA C t (lf (C w)) = w ∧ t = t) := fun p => by
            rw [p.1] at ev; exact f1 t ev
          have ek : kw C (lf (C w)) (lf (tc C t)) t (wA C t (lf (C w))) t = lf (tc C t) := by
            rw [kw_t ⟨ht, 0, rfl⟩, ev]; exact if_pos rfl
          exact ⟨_, t, by rw [setC_ne n, ek]; exact l2, by rw [setC_ne n, ek]; omega⟩
        · rcases m2 with m2 | ⟨v, u, q1, q2⟩
          · omega
          · have n : ¬ (v = w ∧ u = t) := fun y => by rw [y.1, y.2, e] at q1; omega
            have ek : kw C (lf (C w)) (lf (tc C t)) t v u = C v u := by
              by_cases p : TSk C (lf (C w)) (lf (tc C t)) t u
              · rw [kw_t p]; exact sw_out (by omega) (by omega)
              · exact kw_f p
            exact ⟨v, u, by rw [setC_ne n, ek]; exact q1, by rw [setC_ne n, ek]; omega⟩
end Cz
abbrev CV : Type := CC × Nat
noncomputable def stE (E : Nat → Nat → Bool) (w t : Nat) (s : CV) : CV := if E w t = true then (stepR s.1 w t, stepV s.1 s.2 w t) else s
noncomputable def rowR (E : Nat → Nat → Bool) (w : Nat) : Nat → Nat → CV → CV
  | 0, _, s => s
  | k + 1, j, s => rowR E w k (j + 1) (stE E w j s)
noncomputable def allR (E : Nat → Nat → Bool) (m : Nat) : Nat → Nat → CV → CV
  | 0, _, s => s
  | k + 1, i, s => allR E m k (i + 1) (rowR E i m 0 s)
def RIv (i j : Nat) (s : CV) : Prop := Cp s.1 ∧ s.2 ≤ 12 ∧ mxC s.1 s.2 ∧ ∀ v u, (i < v ∨ (v = i ∧ j ≤ u)) → s.1 v u = 12
theorem stE_I {E : Nat → Nat → Bool} {i j : Nat} {s : CV} (h : RIv i j s) (hi : i < 12) (hj : j < 12) : RIv i (j + 1) (stE E i j s) := by
  obtain ⟨h1, h2, h3, h4⟩ := h
  unfold stE
  by_cases z : E i j = true
  · rw [if_pos z]
    have e := h4 i j (Or.inr ⟨rfl, Nat.le_refl j⟩)
    obtain ⟨g1, g2⟩ := stepR_Cp h1 hi hj e
    exact ⟨g1, stepV_le h1 hi hj e h2, mx_step h1 hi hj e h3, fun v u q => g2 v u (by omega) (h4 v u (by omega))⟩
  · rw [if_neg z]
    exact ⟨h1, h2, h3, fun v u q => h4 v u (by omega)⟩
theorem rowR_I {E : Nat → Nat → Bool} {i : Nat} (hi : i < 12) : ∀ (k j : Nat) (s : CV), j + k ≤ 12 → RIv i j s → RIv i (j + k) (rowR E i k j s)
  | 0, _, _, _, h => h
  | k + 1, j, s, q, h => by
    have := rowR_I (E := E) hi k (j + 1) (stE E i j s) (by omega) (stE_I h hi (by omega))
    rw [show j + (k + 1) = j + 1 + k by omega]; exact this
def CV0 : CV := (fun _ _ => 12, 0)
theorem CV0_I : RIv 0 0 CV0 := ⟨⟨fun _ => e_Mt, fun _ => e_Mt⟩, Nat.zero_le _, ⟨fun _ _ q => absurd q (Nat.lt_irrefl 12), Or.inl rfl⟩, fun _ _ _ => rfl⟩
section Cy
variable {μ : MM} {C : CC} {B : Bk}
theorem c_left {p x : Nat} {M : Nat → Nat} (ha : ∀ {ν : MM} {k : Nat}, k < 144 → aI ((mX Ξ) ν) p (Int32.ofNat k) = some (ν.1 p k)) (hx : x < 12) (hc : ∀ c, c < 12 → μ.1 p (x * 12 + c) = eI (ow M c)) (hl : lf M < 12) : f_X1_leastLeft p (Int32.ofNat x) ((mX Ξ) μ) = some (Int32.ofNat (lf M), (mX Ξ) μ) := by
  have key : ∀ d i, i + d = lf M → ∀ f, f_X1_leastLeft_L2 f_X1_leastLeft_J18 f_X1_leastLeft_J26 (d + 1 + f) p (Int32.ofNat x) (Int32.ofNat i) ((mX Ξ) μ) = some (Int32.ofNat (lf M), (mX Ξ) μ) := by
    intro d
    induction d with
    | zero =>
      intro i hi f
      have i12 : i < 12 := by omega
      have c : (Int32.ofNat i ≥ 12) = False := by rw [lge_12 (by omega)]; exact eq_false (by omega)
      have ec := c_cellOf (Ξ := Ξ) (μ := μ) ha hx i12
      rw [hc i i12, show i = lf M by omega, lf_free hl, eI_ge (Nat.le_refl 12), ← show i = lf M by omega] at ec
      rw [show 0 + 1 + f = f + 1 by omega, ← show i = lf M by omega]
      simp only [f_X1_leastLeft_L2, c, ↓reduceIte, ↓hbind ec, f_X1_leastLeft_J18]
    | succ d ih =>
      intro i hi f
      have i12 : i < 12 := by omega
      have c : (Int32.ofNat i ≥ 12) = False := by rw [lge_12 (by omega)]; exact eq_false (by omega)
      have ec := c_cellOf (Ξ := Ξ) (μ := μ) ha hx i12
      have o := lf_min (M := M) (c := i) (by omega)
      have nz : (Int32.ofNat (ow M i) = -1) = False := oN_n1 (by omega)
      rw [hc i i12, eI_lt o] at ec
      rw [show d + 1 + 1 + f = d + 1 + f + 1 by omega, ← ih (i + 1) (by omega) f]
      simp only [f_X1_leastLeft_L2, c, ↓reduceIte, ↓hbind ec, nz, lt_go, i_succ]
  have := key (lf M) 0 (by omega) (5000 - (lf M + 1))
  rw [show lf M + 1 + (5000 - (lf M + 1)) = 5000 by omega] at this
  exact this
theorem c_give {V w t : Nat} (h : Cp C) (hw : w < 12) (ht : t < 12) (e : C w t = 12) (hV : V ≤ 12) (hr : CRd μ C C) (h5 : μ.1 162 5 = Int32.ofNat V) : ∃ ξ, f_X1_give 162 (Int32.ofNat w) (Int32.ofNat t) ((mX Ξ) μ) = some ((mX Ξ) ξ) ∧ Fr FC4 μ ξ ∧ CRd ξ (stepR C w t) (stepR C w t) ∧ ξ.1 162 5 = Int32.ofNat (stepV C V w t) := by
  obtain ⟨l1, l2, f1, f2, f3, ab⟩ := step_pre h hw ht e
  have e1 := c_left (Ξ := Ξ) (μ := μ) (p := 163) (M := C w) aI_163 hw (fun c hc => hr.1 w c hw hc) l1
  have e2 := c_left (Ξ := Ξ) (μ := μ) (p := 164) (M := tc C t) aI_164 ht (fun c hc => hr.2.1 t c ht hc) l2
  have e3 := c_cellOf (Ξ := Ξ) (μ := μ) aI_164 ht l1
  rw [hr.2.1 t _ ht l1] at e3
  obtain ⟨hCp, _⟩ := stepR_Cp h hw ht e
  by_cases z : wA C t (lf (C w)) = 12
  · have es : stepR C w t = setC C w t (lf (C w)) := by unfold stepR; rw [if_pos z]
    have ev : stepV C V w t = max V (lf (C w) + 1) := by unfold stepV; rw [if_pos z]
    rw [z, eI_ge (Nat.le_refl 12)] at e3
    have sub : Sub C (setC C w t (lf (C w))) := fun v u => by
      by_cases y : v = w ∧ u = t
      · rw [y.1, y.2]; exact Or.inr e
      · rw [setC_ne y]; exact Or.inl rfl
    rw [es] at hCp ⊢
    rw [ev]
    obtain ⟨ξ, e4, f4, r4, g4⟩ := c_put162 (Ξ := Ξ) hCp sub (setC_same C w t (lf (C w))) l1 hV h5 hr
    refine ⟨ξ, ?_, f4.mono fun q i z => by unfold FC3 at z; unfold FC4; omega, r4, g4⟩
    simp only [f_X1_give, ↓hbind gR_162_0, ↓hbind e1, ↓hbind gR_162_1, ↓hbind e2, ↓hbind e3, ↓reduceIte, f_X1_give_J40, ↓hvc (fun _ => vc_162), ↓hbind e4]
  · have es : stepR C w t = setC (kw C (lf (C w)) (lf (tc C t)) t) w t (lf (C w)) := by unfold stepR; rw [if_neg z]
    have ev : stepV C V w t = max V (max (lf (C w) + 1) (lf (tc C t) + 1)) := by unfold stepV; rw [if_neg z]
    have o : wA C t (lf (C w)) < 12 := by have := ow_le (fun w => C w t) (lf (C w)); unfold wA at z ⊢; omega
    have nz : (Int32.ofNat (wA C t (lf (C w))) = -1) = False := oN_n1 (by omega)
    rw [eI_lt o] at e3
    obtain ⟨ζ, V', e4, f4, r4, g4, v1, v2⟩ := c_change162 (Ξ := Ξ) h l1 l2 (ab z) ht f2 hV hr h5 o
    have sub : Sub (kw C (lf (C w)) (lf (tc C t)) t) (setC (kw C (lf (C w)) (lf (tc C t)) t) w t (lf (C w))) := fun v u => by
      by_cases y : v = w ∧ u = t
      · rw [y.1, y.2]
        right
        by_cases p : TSk C (lf (C w)) (lf (tc C t)) t t
        · rw [kw_t p, e]; exact sw_12 l1 l2
        · rw [kw_f p]; exact e
      · rw [setC_ne y]; exact Or.inl rfl
    rw [es] at hCp ⊢
    rw [ev]
    obtain ⟨ξ, e5, f5, r5, g5⟩ := c_put162 (Ξ := Ξ) hCp sub (setC_same _ w t (lf (C w))) l1 (show V' ≤ 12 by omega) g4 r4
    refine ⟨ξ, ?_, f4.trans (f5.mono fun q i z => by unfold FC3 at z; unfold FC4; omega), r5, ?_⟩
    · simp only [f_X1_give, ↓hbind gR_162_0, ↓hbind e1, ↓hbind gR_162_1, ↓hbind e2, ↓hbind e3, nz, ↓reduceIte, f_X1_give_J40, ↓hvc (fun _ => vc_162), ↓hbind e4, ↓hbind e5]
    · rw [g5, show max V' (lf (C w) + 1) = max V (max (lf (C w) + 1) (lf (tc C t) + 1)) by omega]
theorem c_fill_t (hB : BOK B) {i : Nat} (hi : i < 12) : ∀ (d j : Nat) (ν : MM) (s : CV), j + d = bm B → BC ν 1 B → CRd ν s.1 s.1 → ν.1 162 5 = Int32.ofNat s.2 → RIv i j s → ∃ ξ, (∀ f K, f_X1_fill_L53 K (d + 1 + f) 162 1 (Int32.ofNat i) (Int32.ofNat j) ((mX Ξ) ν) = K 162 1 (Int32.ofNat i) ((mX Ξ) ξ)) ∧ Fr FC4 ν ξ ∧ CRd ξ (rowR (gE B) i d j s).1 (rowR (gE B) i d j s).1 ∧ ξ.1 162 5 = Int32.ofNat (rowR (gE B) i d j s).2
  | 0, j, ν, s, h, hbc, hr, h5, hI => by
    have hm := hB.m
    have e1 : ν.1 1 1 = Int32.ofNat (bm B) := hbc.1.2.1
    have c : (Int32.ofNat j ≥ Int32.ofNat (bm B)) = True := by rw [oN_ge (by omega) (by omega)]; exact eq_true (by omega)
    refine ⟨ν, fun f K => ?_, Fr.refl _ _, hr, h5⟩
    rw [show 0 + 1 + f = f + 1 by omega]
    simp only [f_X1_fill_L53, ↓hbind (bk_i1 bk1), e1, c, ↓reduceIte]
  | d + 1, j, ν, s, h, hbc, hr, h5, hI => by
    have hm := hB.m
    have e1 : ν.1 1 1 = Int32.ofNat (bm B) := hbc.1.2.1
    have c : (Int32.ofNat j ≥ Int32.ofNat (bm B)) = False := by rw [oN_ge (by omega) (by omega)]; exact eq_false (by omega)
    have hj : j < 12 := by omega
    have ef := c_isFit (Ξ := Ξ) bk1 hbc hB hi hj
    have ew := c_isThere0 (Ξ := Ξ) bk1 hbc hB (show i < 32 by omega)
    have et := c_isThere1 (Ξ := Ξ) bk1 hbc hB (show j < 32 by omega)
    have nI := stE_I (E := gE B) hI hi hj
    show ∃ ξ, _ ∧ _ ∧ CRd ξ (rowR (gE B) i d (j + 1) (stE (gE B) i j s)).1 (rowR (gE B) i d (j + 1) (stE (gE B) i j s)).1 ∧ ξ.1 162 5 = Int32.ofNat (rowR (gE B) i d (j + 1) (stE (gE B) i j s)).2
    -- no fit
    have no : gE B i j = false → (∀ f K, f_X1_fill_L53 K (d + 1 + 1 + f) 162 1 (Int32.ofNat i) (Int32.ofNat j) ((mX Ξ) ν) = f_X1_fill_L53 K (d + 1 + f) 162 1 (Int32.ofNat i) (Int32.ofNat (j + 1)) ((mX Ξ) ν)) → ∃ ξ, (∀ f K, f_X1_fill_L53 K (d + 1 + 1 + f) 162 1 (Int32.ofNat i) (Int32.ofNat j) ((mX Ξ) ν) = K 162 1 (Int32.ofNat i) ((mX Ξ) ξ)) ∧ Fr FC4 ν ξ ∧ CRd ξ (rowR (gE B) i d (j + 1) (stE (gE B) i j s)).1 (rowR (gE B) i d (j + 1) (stE (gE B) i j s)).1 ∧ ξ.1 162 5 = Int32.ofNat (rowR (gE B) i d (j + 1) (stE (gE B) i j s)).2 := fun q g => by
      have es : stE (gE B) i j s = s := by unfold stE; rw [q]; rfl
      rw [es] at nI ⊢
      obtain ⟨ξ, a, b⟩ := c_fill_t hB hi d (j + 1) ν s (by omega) hbc hr h5 nI
      exact ⟨ξ, fun f K => by rw [g, a], b⟩
    cases q1 : hb (bf B i) j with
    | false =>
      rw [q1] at ef
      refine no (by unfold gE; rw [q1]; rfl) (fun f K => ?_)
      rw [show d + 1 + 1 + f = d + 1 + f + 1 by omega]
      simp only [f_X1_fill_L53, ↓hbind (bk_i1 bk1), e1, c, ↓reduceIte, ↓hvc (fun _ => bk_v bk1), ↓hbind ef, show bI false = 0 from rfl, f_X1_fill_J94, lt_go, i_succ]
    | true =>
      rw [q1] at ef
      cases q2 : hb (bw B) i with
      | false =>
        rw [q2] at ew
        refine no (by unfold gE; rw [q1, q2]; rfl) (fun f K => ?_)
        rw [show d + 1 + 1 + f = d + 1 + f + 1 by omega]
        simp only [f_X1_fill_L53, ↓hbind (bk_i1 bk1), e1, c, ↓reduceIte, ↓hvc (fun _ => bk_v bk1), ↓hbind ef, show bI true = 1 from rfl, z_1, ↓hbind ew, show bI false = 0 from rfl, f_X1_fill_J94, lt_go, i_succ]
      | true =>
        rw [q2] at ew
        cases q3 : hb (bt B) j with
        | false =>
          rw [q3] at et
          refine no (by unfold gE; rw [q1, q2, q3]; rfl) (fun f K => ?_)
          rw [show d + 1 + 1 + f = d + 1 + f + 1 by omega]
          simp only [f_X1_fill_L53, ↓hbind (bk_i1 bk1), e1, c, ↓reduceIte, ↓hvc (fun _ => bk_v bk1), ↓hbind ef, show bI true = 1 from rfl, z_1, ↓hbind ew, ↓hbind et, show bI false = 0 from rfl, f_X1_fill_J94, lt_go, i_succ]
        | true =>
          rw [q3] at et
          have q : gE B i j = true := by unfold gE; rw [q1, q2, q3]; rfl
          have es : stE (gE B) i j s = (stepR s.1 i j, stepV s.1 s.2 i j) := by unfold stE; rw [if_pos q]
          rw [es] at nI ⊢
          obtain ⟨ζ, e2, f2, r2, g2⟩ := c_give (Ξ := Ξ) hI.1 hi hj (hI.2.2.2 i j (Or.inr ⟨rfl, Nat.le_refl j⟩)) hI.2.1 hr h5
          obtain ⟨ξ, a, b, g⟩ := c_fill_t hB hi d (j + 1) ζ (stepR s.1 i j, stepV s.1 s.2 i j) (by omega) (hbc.fr f2 fun q i a b z => by unfold FC4 at z; omega) r2 g2 nI
          refine ⟨ξ, fun f K => ?_, f2.trans b, g⟩
          rw [show d + 1 + 1 + f = d + 1 + f + 1 by omega, ← a f K]
          simp only [f_X1_fill_L53, ↓hbind (bk_i1 bk1), e1, c, ↓reduceIte, ↓hvc (fun _ => bk_v bk1), ↓hbind ef, show bI true = 1 from rfl, z_1, ↓hbind ew, ↓hbind et, ↓hvc (fun _ => vc_162), ↓hbind e2, f_X1_fill_J94, lt_go, i_succ]
theorem c_fill_w (hB : BOK B) : ∀ (d i : Nat) (ν : MM) (s : CV), i + d = bn B → BC ν 1 B → CRd ν s.1 s.1 → ν.1 162 5 = Int32.ofNat s.2 → RIv i 0 s → ∃ ξ, (∀ f, f_X1_fill_L43 f_X1_fill_J106 (d + 1 + f) 162 1 (Int32.ofNat i) ((mX Ξ) ν) = some ((mX Ξ) ξ)) ∧ Fr FC4 ν ξ ∧ CRd ξ (allR (gE B) (bm B) d i s).1 (allR (gE B) (bm B) d i s).1 ∧ ξ.1 162 5 = Int32.ofNat (allR (gE B) (bm B) d i s).2
  | 0, i, ν, s, h, hbc, hr, h5, hI => by
    have hn := hB.n
    have e0 : ν.1 1 0 = Int32.ofNat (bn B) := hbc.1.1
    have c : (Int32.ofNat i ≥ Int32.ofNat (bn B)) = True := by rw [oN_ge (by omega) (by omega)]; exact eq_true (by omega)
    refine ⟨ν, fun f => ?_, Fr.refl _ _, hr, h5⟩
    rw [show 0 + 1 + f = f + 1 by omega]
    simp only [f_X1_fill_L43, ↓hbind (bk_i0 bk1), e0, c, ↓reduceIte, f_X1_fill_J106]
  | d + 1, i, ν, s, h, hbc, hr, h5, hI => by
    have hn := hB.n
    have hm := hB.m
    have e0 : ν.1 1 0 = Int32.ofNat (bn B) := hbc.1.1
    have c : (Int32.ofNat i ≥ Int32.ofNat (bn B)) = False := by rw [oN_ge (by omega) (by omega)]; exact eq_false (by omega)
    have hi : i < 12 := by omega
    obtain ⟨ζ, e1, f1, r1, g1⟩ := c_fill_t (Ξ := Ξ) hB hi (bm B) 0 ν s (by omega) hbc hr h5 hI
    have nI := rowR_I (E := gE B) hi (bm B) 0 s (by omega) hI
    have e1 : ∀ K, f_X1_fill_L53 K 5000 162 1 (Int32.ofNat i) 0 ((mX Ξ) ν) = K 162 1 (Int32.ofNat i) ((mX Ξ) ζ) := fun K => by
      have := e1 (5000 - (bm B + 1)) K
      rw [show bm B + 1 + (5000 - (bm B + 1)) = 5000 by omega] at this
      exact this
    obtain ⟨ξ, a, b, g⟩ := c_fill_w hB d (i + 1) ζ (rowR (gE B) i (bm B) 0 s) (by omega) (hbc.fr f1 fun q i a b z => by unfold FC4 at z; omega) r1 g1 ⟨nI.1, nI.2.1, nI.2.2.1, fun v u q => nI.2.2.2 v u (by omega)⟩
    refine ⟨ξ, fun f => ?_, f1.trans b, g⟩
    rw [show d + 1 + 1 + f = d + 1 + f + 1 by omega, ← a f]
    simp only [f_X1_fill_L43, ↓hbind (bk_i0 bk1), e0, c, ↓reduceIte, e1, f_X1_fill_J100, lt_go, i_succ]
theorem c_fill (hbc : BC μ 1 B) (hB : BOK B) : ∃ ξ, f_X1_fill 162 1 ((mX Ξ) μ) = some ((mX Ξ) ξ) ∧ Fr FC4 μ ξ ∧ CRd ξ (allR (gE B) (bm B) (bn B) 0 CV0).1 (allR (gE B) (bm B) (bn B) 0 CV0).1 ∧ ξ.1 162 5 = Int32.ofNat (allR (gE B) (bm B) (bn B) 0 CV0).2 := by
  have hn := hB.n
  have key : Hw (f_X1_fill 162 1 ((mX Ξ) μ)) (fun r => ∃ ξ, r = (mX Ξ) ξ ∧ Fr FC4 μ ξ ∧ CRd ξ (allR (gE B) (bm B) (bn B) 0 CV0).1 (allR (gE B) (bm B) (bn B) 0 CV0).1 ∧ ξ.1 162 5 = Int32.ofNat (allR (gE B) (bm B) (bn B) 0 CV0).2) := by
    refine hw_for (L := fun N i (ν : MM) => f_X1_fill_L2 f_X1_fill_J36 N 162 1 i ((mX Ξ) ν)) (s0 := μ) 144 (fun i ν => Fr FC4 μ ν ∧ ∀ k, k < i → ν.1 163 k = -1 ∧ ν.1 164 k = -1 ∧ ν.1 165 k = -1) ⟨Fr.refl _ _, fun k a => absurd a (Nat.not_lt_zero _)⟩ (by decide) (fun i hi ν hν => Or.inl ⟨st (st (st ν 163 i (-1)) 164 i (-1)) 165 i (-1), ⟨((hν.1.st (by unfold FC4; omega)).st (by unfold FC4; omega)).st (by unfold FC4; omega), fun k a => ?_⟩, fun N => ?_⟩) (fun ν hν N => ?_)
    · by_cases z : k = i
      · rw [z, st_ne (Or.inl (by omega)), st_ne (Or.inl (by omega)), st_same, st_ne (Or.inl (by omega)), st_same, st_same]; exact ⟨rfl, rfl, rfl⟩
      · obtain ⟨a, b, c⟩ := hν.2 k (by omega)
        rw [st_ne (Or.inr z), st_ne (Or.inr z), st_ne (Or.inr z), st_ne (Or.inr z), st_ne (Or.inr z), st_ne (Or.inr z), st_ne (Or.inr z), st_ne (Or.inr z), st_ne (Or.inr z)]
        exact ⟨a, b, c⟩
    · have c : (Int32.ofNat i ≥ 144) = False := by rw [lge_144 (by omega)]; exact eq_false (by omega)
      show f_X1_fill_L2 f_X1_fill_J36 (N + 1) 162 1 (Int32.ofNat i) ((mX Ξ) ν) = f_X1_fill_L2 f_X1_fill_J36 N 162 1 (Int32.ofNat (i + 1)) ((mX Ξ) (st (st (st ν 163 i (-1)) 164 i (-1)) 165 i (-1)))
      simp only [f_X1_fill_L2, c, ↓reduceIte, ↓hbind gR_162_0, ↓hbind (sI_163 hi), ↓hbind gR_162_1, ↓hbind (sI_164 hi), ↓hbind gR_162_2, ↓hbind (sI_165 hi), lt_go, i_succ]
    · obtain ⟨f, g⟩ := hν
      have c : (Int32.ofNat 144 ≥ 144) = True := eq_true (by decide)
      obtain ⟨η, hd⟩ : ∃ x, x = st ν 162 5 0 := ⟨_, rfl⟩
      have f2 : Fr (fun q i => q = 162 ∧ i = 5) ν η := by rw [hd]; exact (Fr.refl _ _).st ⟨rfl, rfl⟩
      have fm : Fr FC4 μ η := f.trans (f2.mono fun q i z => Or.inr z)
      have eo : ∀ c, c < 12 → ow (fun _ : Nat => 12) c = 12 := fun c hc => ow_none.mpr fun w _ z => by omega
      have hr : CRd η CV0.1 CV0.1 := by
        refine ⟨fun w c hw hc => ?_, fun t c ht hc => ?_, fun w t hw ht => ?_⟩
        · rw [(f2 _ _ (by omega)).1, (g (w * 12 + c) (by omega)).1]
          show _ = eI (ow (fun _ : Nat => 12) c)
          rw [eo c hc]; exact (eI_ge (Nat.le_refl 12)).symm
        · rw [(f2 _ _ (by omega)).1, (g (t * 12 + c) (by omega)).2.1]
          show _ = eI (ow (fun _ : Nat => 12) c)
          rw [eo c hc]; exact (eI_ge (Nat.le_refl 12)).symm
        · rw [(f2 _ _ (by omega)).1, (g (w * 12 + t) (by omega)).2.2]
          exact (eI_ge (Nat.le_refl 12)).symm
      obtain ⟨ξ, e3, f3, r3, g3⟩ := c_fill_w (Ξ := Ξ) hB (bn B) 0 η CV0 (by omega) (hbc.fr fm fun q i a b z => by unfold FC4 at z; omega) hr (by rw [hd]; exact st_same _ _ _ _) CV0_I
      have e3 : f_X1_fill_L43 f_X1_fill_J106 5000 162 1 0 ((mX Ξ) η) = some ((mX Ξ) ξ) := by
        have := e3 (5000 - (bn B + 1))
        rw [show bn B + 1 + (5000 - (bn B + 1)) = 5000 by omega] at this
        exact this
      rw [hd] at e3
      show Hw (f_X1_fill_L2 f_X1_fill_J36 (N + 1) 162 1 (Int32.ofNat 144) ((mX Ξ) ν)) _
      simp only [f_X1_fill_L2, c, ↓reduceIte, f_X1_fill_J36, ↓hbind pI_162_5, e3]
      exact hw_ret ⟨ξ, rfl, fm.trans f3, r3, g3⟩
  obtain ⟨r, e, ξ, rfl, h⟩ := key
  exact ⟨ξ, e, h⟩
end Cy
