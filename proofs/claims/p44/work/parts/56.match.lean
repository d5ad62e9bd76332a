/-! MATHEMATICS: pairs (M w: the task of worker w, 12 with none), edges E, sizes -/
noncomputable def pb (p : Prop) : Bool := @decide p (Classical.propDecidable p)
theorem pb_t {p : Prop} : pb p = true ↔ p := @decide_eq_true_iff p (Classical.propDecidable p)
def Mt (M : Nat → Nat) : Prop := (∀ w, M w ≤ 12) ∧ (∀ w, 12 ≤ w → M w = 12) ∧ ∀ w v, M w < 12 → M w = M v → w = v
def Ms (E : Nat → Nat → Bool) (M : Nat → Nat) : Prop := Mt M ∧ ∀ w, M w < 12 → E w (M w) = true
def Eb (E : Nat → Nat → Bool) : Prop := ∀ w t, E w t = true → w < 12 ∧ t < 12
/-- whose a task is -/
noncomputable def ow (M : Nat → Nat) (t : Nat) : Nat := fi (fun w => decide (M w = t)) 12
def sz (M : Nat → Nat) : Nat := cnt (fun w => decide (M w < 12)) 12
def up (M : Nat → Nat) (w t : Nat) : Nat → Nat := fun x => if x = w then t else M x
theorem up_same (M : Nat → Nat) (w t : Nat) : up M w t w = t := if_pos rfl
theorem up_ne {M : Nat → Nat} {w t x : Nat} (h : x ≠ w) : up M w t x = M x := if_neg h
theorem Mt.w12 {M : Nat → Nat} (h : Mt M) {w : Nat} (q : M w < 12) : w < 12 := by
  apply Nat.lt_of_not_le
  intro z
  rw [h.2.1 w z] at q
  omega
theorem ow_le (M : Nat → Nat) (t : Nat) : ow M t ≤ 12 := fi_le _ _
theorem ow_M {M : Nat → Nat} {t : Nat} (h : ow M t < 12) : M (ow M t) = t := of_decide_eq_true (fi_p (p := fun w => decide (M w = t)) h)
theorem ow_of {M : Nat → Nat} {w : Nat} (h : Mt M) (q : M w < 12) : ow M (M w) = w := by
  refine fi_eq (h.w12 q) (by simp) (fun j hj => ?_)
  simp only [decide_eq_false_iff_not]
  intro z
  have := h.2.2 w j q z.symm
  omega
theorem ow_iff {M : Nat → Nat} {w t : Nat} (h : Mt M) (ht : t < 12) (hw : w < 12) : ow M t = w ↔ M w = t := by
  constructor
  · intro q; subst q; exact ow_M hw
  · intro q; subst q; exact ow_of h ht
theorem ow_none {M : Nat → Nat} {t : Nat} : ow M t = 12 ↔ ∀ w, w < 12 → M w ≠ t := by
  constructor
  · intro q w hw z
    have := fi_min (p := fun w => decide (M w = t)) (n := 12) (k := w) (by show w < ow M t; omega)
    simp [z] at this
  · intro q
    exact fi_none fun k hk => by simp [q k hk]
/-- the same pairs, seen from the tasks -/
noncomputable def tr (M : Nat → Nat) : Nat → Nat := fun t => if t < 12 then ow M t else 12
theorem tr_lt {M : Nat → Nat} {t : Nat} (h : t < 12) : tr M t = ow M t := if_pos h
theorem tr_iff {M : Nat → Nat} {w t : Nat} (h : Mt M) (hw : w < 12) (ht : t < 12) : tr M t = w ↔ M w = t := by rw [tr_lt ht]; exact ow_iff h ht hw
theorem tr_Mt {M : Nat → Nat} (h : Mt M) : Mt (tr M) := by
  refine ⟨fun t => ?_, fun t ht => if_neg (by omega), fun s t q e => ?_⟩
  · unfold tr; split
    · exact ow_le _ _
    · omega
  · have hs : s < 12 := by
      apply Nat.lt_of_not_le
      intro z
      rw [show tr M s = 12 from if_neg (by omega)] at q; omega
    have ht : t < 12 := by
      apply Nat.lt_of_not_le
      intro z
      rw [e, show tr M t = 12 from if_neg (by omega)] at q; omega
    have h1 := (tr_iff h q hs).mp rfl
    have h2 := (tr_iff h (w := tr M s) q ht).mp e.symm
    exact h1.symm.trans h2
theorem tr_tr {M : Nat → Nat} (h : Mt M) : tr (tr M) = M := by
  funext w
  by_cases hw : w < 12
  · rw [tr_lt hw]
    by_cases q : M w < 12
    · exact (ow_iff (tr_Mt h) hw q).mpr ((tr_iff h hw q).mpr rfl)
    · have : M w = 12 := by have := h.1 w; omega
      rw [this]
      refine ow_none.mpr fun t ht z => ?_
      have := (tr_iff h hw ht).mp z
      omega
  · rw [h.2.1 w (by omega)]
    exact if_neg hw
theorem sz_tr {M : Nat → Nat} (h : Mt M) : sz (tr M) = sz M := by
  have key : ∀ {M : Nat → Nat}, Mt M → sz M ≤ sz (tr M) := fun {M} h => by
    refine cnt_inj M (fun w hw q => ?_) (fun i j hi hj qi qj e => h.2.2 i j (by simpa using qi) e)
    simp only [decide_eq_true_eq] at q
    refine ⟨q, ?_⟩
    rw [(tr_iff h hw q).mpr rfl]
    simpa using hw
  have h1 := key h
  have h2 := key (tr_Mt h)
  rw [tr_tr h] at h2
  omega
theorem tr_Ms {E : Nat → Nat → Bool} {M : Nat → Nat} (h : Ms E M) : Ms (fun t w => E w t) (tr M) := by
  refine ⟨tr_Mt h.1, fun t q => ?_⟩
  have ht := (tr_Mt h.1).w12 q
  have := (tr_iff h.1 q ht).mp rfl
  have h2 := h.2 (tr M t) (by omega)
  rw [this] at h2
  exact h2
/-- one worker's task is taken from it -/
theorem drop_Ms {E : Nat → Nat → Bool} {M : Nat → Nat} (h : Ms E M) (w : Nat) : Ms E (up M w 12) := by
  refine ⟨⟨fun x => ?_, fun x hx => ?_, fun x y q e => ?_⟩, fun x q => ?_⟩
  · unfold up; split
    · omega
    · exact h.1.1 x
  · unfold up; split
    · rfl
    · exact h.1.2.1 x hx
  · have h1 : x ≠ w := fun z => by rw [z, up_same] at q; omega
    rw [up_ne h1] at q e
    have h2 : y ≠ w := fun z => by rw [z, up_same] at e; omega
    rw [up_ne h2] at e
    exact h.1.2.2 x y q e
  · have h1 : x ≠ w := fun z => by rw [z, up_same] at q; omega
    rw [up_ne h1] at q ⊢
    exact h.2 x q
/-- a free worker gets a free task -/
theorem give_Ms {E : Nat → Nat → Bool} {M : Nat → Nat} {w t : Nat} (h : Ms E M) (hw : w < 12) (ht : t < 12) (he : E w t = true) (hm : ow M t = 12) : Ms E (up M w t) := by
  have hn := ow_none.mp hm
  have hn' : ∀ x, M x ≠ t := fun x z => by
    by_cases q : x < 12
    · exact hn x q z
    · have := h.1.2.1 x (by omega); omega
  refine ⟨⟨fun x => ?_, fun x hx => ?_, fun x y q e => ?_⟩, fun x q => ?_⟩
  · unfold up; split
    · omega
    · exact h.1.1 x
  · rw [up_ne (by omega)]; exact h.1.2.1 x hx
  · by_cases h1 : x = w
    · subst h1
      by_cases h2 : y = x
      · exact h2.symm
      · rw [up_same, up_ne h2] at e
        exact absurd e.symm (hn' y)
    · by_cases h2 : y = w
      · subst h2
        rw [up_same, up_ne h1] at e
        exact absurd e (hn' x)
      · rw [up_ne h1] at q e
        rw [up_ne h2] at e
        exact h.1.2.2 x y q e
  · by_cases h1 : x = w
    · subst h1; rw [up_same]; exact he
    · rw [up_ne h1] at q ⊢; exact h.2 x q
theorem sz_give {M : Nat → Nat} {w t : Nat} (hw : w < 12) (ht : t < 12) (hm : M w = 12) : sz (up M w t) = sz M + 1 := by
  unfold sz
  rw [← cnt_ins (p := fun x => decide (M x < 12)) hw (by simp [hm])]
  refine cnt_congr fun k _ => ?_
  by_cases q : k = w
  · subst q; simp [up_same, ht]
  · simp [up_ne q, q]
theorem sz_drop {M : Nat → Nat} {w : Nat} (hw : w < 12) (hm : M w < 12) : sz (up M w 12) + 1 = sz M := by
  unfold sz
  rw [cnt_del (p := fun x => decide (M x < 12)) hw (by simp [hm])]
  congr 1
  refine cnt_congr fun k _ => ?_
  by_cases q : k = w
  · subst q; simp [up_same]
  · simp [up_ne q, q]
theorem ow_up_ne {M : Nat → Nat} {w t s : Nat} (h1 : s ≠ t) (h2 : s ≠ M w) : ow (up M w t) s = ow M s := by
  refine fi_congr fun x _ => ?_
  by_cases q : x = w
  · subst q; simp [up_same, Ne.symm h1, Ne.symm h2]
  · simp [up_ne q]
theorem up_eq {M : Nat → Nat} {w t : Nat} (h : M w = t) : up M w t = M := by
  funext x
  by_cases q : x = w
  · subst q; rw [up_same, h]
  · exact up_ne q
/-! sets of tasks without a way out; the greatest number of pairs -/
/-- each task of D is somebody's, all whose tasks are in D -/
def Dd (E : Nat → Nat → Bool) (M : Nat → Nat) (D : Nat → Bool) : Prop := ∀ t, t < 12 → D t = true → ow M t < 12 ∧ ∀ s, E (ow M t) s = true → D s = true
theorem Dd.or {E : Nat → Nat → Bool} {M : Nat → Nat} {D D' : Nat → Bool} (h : Dd E M D) (h' : Dd E M D') : Dd E M (fun t => D t || D' t) := by
  intro t ht q
  rcases (Bool.or_eq_true _ _).mp q with q | q
  · obtain ⟨a, b⟩ := h t ht q
    exact ⟨a, fun s e => by simp [b s e]⟩
  · obtain ⟨a, b⟩ := h' t ht q
    exact ⟨a, fun s e => by simp [b s e]⟩
/-- Koenig: with such a set for all free workers no pairs are more -/
theorem dd_max {E : Nat → Nat → Bool} {M M' : Nat → Nat} {D : Nat → Bool} (hb : Eb E) (h : Ms E M) (hD : Dd E M D) (hf : ∀ w, w < 12 → M w = 12 → ∀ t, E w t = true → D t = true) (h' : Ms E M') : sz M' ≤ sz M := by
  -- A: workers with a task outside of D
  let A : Nat → Bool := fun w => pb (∃ t, t < 12 ∧ E w t = true ∧ D t = false)
  have hA : ∀ w, A w = true ↔ ∃ t, t < 12 ∧ E w t = true ∧ D t = false := fun w => pb_t
  have hA2 : ∀ w t, A w = false → E w t = true → D t = true := fun w t q e => by
    cases d : D t with
    | true => rfl
    | false =>
      have := (hA w).mpr ⟨t, (hb w t e).2, e, d⟩
      rw [q] at this; cases this
  have s1 : sz M' ≤ cnt A 12 + cnt D 12 := by
    have e := cnt_split (fun w => decide (M' w < 12)) A 12
    have a1 : cnt (fun w => decide (M' w < 12) && A w) 12 ≤ cnt A 12 := cnt_mono fun k _ q => by simp at q; exact q.2
    have a2 : cnt (fun w => decide (M' w < 12) && !A w) 12 ≤ cnt D 12 := by
      refine cnt_inj M' (fun w hw q => ?_) (fun i j _ _ qi _ e => h'.1.2.2 i j (by simp at qi; exact qi.1) e)
      simp only [Bool.and_eq_true, decide_eq_true_eq, Bool.not_eq_true'] at q
      exact ⟨q.1, hA2 w _ q.2 (h'.2 w q.1)⟩
    have : sz M' = _ := e
    omega
  have s2 : cnt A 12 + cnt D 12 ≤ sz M := by
    have e := cnt_split (fun w => decide (M w < 12)) A 12
    have a1 : cnt A 12 ≤ cnt (fun w => decide (M w < 12) && A w) 12 := cnt_mono fun k hk q => by
      simp only [Bool.and_eq_true, decide_eq_true_eq]
      refine ⟨?_, q⟩
      have := h.1.1 k
      by_cases z : M k = 12
      · obtain ⟨t, _, e1, e2⟩ := (hA k).mp q
        rw [hf k hk z t e1] at e2; cases e2
      · omega
    have a2 : cnt D 12 ≤ cnt (fun w => decide (M w < 12) && !A w) 12 := by
      refine cnt_inj (fun t => ow M t) (fun t ht q => ?_) (fun i j hi hj qi qj e => ?_)
      · obtain ⟨b1, b2⟩ := hD t ht q
        refine ⟨b1, ?_⟩
        simp only [Bool.and_eq_true, decide_eq_true_eq, Bool.not_eq_true']
        rw [ow_M b1]
        refine ⟨ht, ?_⟩
        cases c : A (ow M t) with
        | false => rfl
        | true =>
          obtain ⟨s, _, e1, e2⟩ := (hA _).mp c
          rw [b2 s e1] at e2; cases e2
      · have h1 := ow_M (hD i hi qi).1
        have h2 := ow_M (hD j hj qj).1
        have e : ow M i = ow M j := e
        rw [e] at h1
        exact h1.symm.trans h2
    have : sz M = _ := e
    omega
  omega
/-- n is the greatest number of pairs -/
def Nu (E : Nat → Nat → Bool) (n : Nat) : Prop := (∃ M, Ms E M ∧ sz M = n) ∧ ∀ M, Ms E M → sz M ≤ n
theorem Nu.uniq {E : Nat → Nat → Bool} {n m : Nat} (h : Nu E n) (h' : Nu E m) : n = m := by
  obtain ⟨⟨M, a, b⟩, c⟩ := h
  obtain ⟨⟨M', a', b'⟩, c'⟩ := h'
  have := c M' a'
  have := c' M a
  omega
theorem dd_nu {E : Nat → Nat → Bool} {M : Nat → Nat} {D : Nat → Bool} (hb : Eb E) (h : Ms E M) (hD : Dd E M D) (hf : ∀ w, w < 12 → M w = 12 → ∀ t, E w t = true → D t = true) : Nu E (sz M) := ⟨⟨M, h, rfl⟩, fun _ h' => dd_max hb h hD hf h'⟩
theorem Ms.congr {E E' : Nat → Nat → Bool} {M : Nat → Nat} (h : Ms E M) (e : ∀ w t, E w t = true → E' w t = true) : Ms E' M := ⟨h.1, fun w q => e _ _ (h.2 w q)⟩
theorem Nu.congr {E E' : Nat → Nat → Bool} {n : Nat} (h : Nu E n) (e : ∀ w t, E w t = E' w t) : Nu E' n := by
  have : E = E' := funext fun w => funext fun t => e w t
  rw [← this]; exact h
theorem Nu.le {E E' : Nat → Nat → Bool} {n m : Nat} (h : Nu E n) (h' : Nu E' m) (e : ∀ w t, E w t = true → E' w t = true) : n ≤ m := by
  obtain ⟨⟨M, a, b⟩, c⟩ := h
  have := h'.2 M (a.congr e)
  omega
theorem e_Mt : Mt (fun _ => 12) := ⟨fun _ => Nat.le_refl _, fun _ _ => rfl, fun _ _ h => absurd h (Nat.lt_irrefl 12)⟩
theorem e_Ms (E : Nat → Nat → Bool) : Ms E (fun _ => 12) := ⟨e_Mt, fun _ h => absurd h (Nat.lt_irrefl 12)⟩
theorem sz_e : sz (fun _ => 12) = 0 := cnt_zero fun _ _ => rfl
