/-! MATHEMATICS: a worker gets a task, others moving (V t: the worker of task t, 12 with none) -/
def KV (E : Nat → Nat → Bool) (V : Nat → Nat) : Prop := (∀ t, V t ≤ 12) ∧ (∀ t, 12 ≤ t → V t = 12) ∧ (∀ t, V t < 12 → E (V t) t = true)
def KI (V : Nat → Nat) : Prop := ∀ s t, V s = V t → V s < 12 → s = t
/-- in vain: X' is tried then -/
def KF (E : Nat → Nat → Bool) (V : Nat → Nat) (w : Nat) (X X' : Nat → Bool) : Prop := (∀ t, X t = true → X' t = true) ∧ (∀ t, E w t = true → X' t = true) ∧ ∀ t, X' t = true → X t = true ∨ (V t < 12 ∧ ∀ s, E (V t) s = true → X' s = true)
/-- it has one: V' -/
def KG (E : Nat → Nat → Bool) (V : Nat → Nat) (w : Nat) (X : Nat → Bool) (V' : Nat → Nat) : Prop :=
  KV E V' ∧ (∀ t, X t = true → V' t = V t) ∧ (∀ s t, V' s = V' t → V' s < 12 → V' s ≠ w → s = t) ∧ (∃ t0, t0 < 12 ∧ X t0 = false ∧ ∀ t, V' t = w ↔ (t = t0 ∨ V t = w)) ∧
  cnt (fun t => decide (V' t < 12)) 12 = cnt (fun t => decide (V t < 12)) 12 + 1 ∧ (∀ v, v < 12 → ((∃ t, V' t = v) ↔ ((∃ t, V t = v) ∨ v = w))) ∧
  ∀ D : Nat → Bool, (∀ t, D t = true → V t < 12 ∧ ∀ s, E (V t) s = true → D s = true) → (∃ t, E w t = true ∧ D t = false) ∧ ∀ t, D t = true → V' t = V t
section Kn
variable {E : Nat → Nat → Bool} {V : Nat → Nat} {w : Nat} {X : Nat → Bool}
theorem KV.t12 (h : KV E V) {t : Nat} (q : V t < 12) : t < 12 := by
  apply Nat.lt_of_not_le
  intro z
  rw [h.2.1 t z] at q; omega
/-- a free task -/
theorem KG.free (hb : Eb E) (h : KV E V) (hi : KI V) (hw : ∀ t, V t = w → X t = true) {t : Nat} (he : E w t = true) (hx : X t = false) (hv : V t = 12) : KG E V w X (up V t w) := by
  have h12 := hb w t he
  refine ⟨⟨fun s => ?_, fun s hs => ?_, fun s q => ?_⟩, fun s q => ?_, fun s u e q n => ?_, ⟨t, h12.2, hx, fun s => ?_⟩, ?_, fun v hv' => ?_, fun D hD => ?_⟩
  · unfold up; split
    · omega
    · exact h.1 s
  · rw [up_ne (by omega)]; exact h.2.1 s hs
  · by_cases z : s = t
    · rw [z, up_same]; exact he
    · rw [up_ne z] at q ⊢; exact h.2.2 s q
  · by_cases z : s = t
    · rw [z, hx] at q; cases q
    · exact up_ne z
  · by_cases z : s = t
    · rw [z, up_same] at n; exact absurd rfl n
    · rw [up_ne z] at e q n
      by_cases z2 : u = t
      · rw [z2, up_same] at e; exact absurd e n
      · rw [up_ne z2] at e; exact hi s u e q
  · by_cases z : s = t
    · rw [z, up_same]; simp
    · rw [up_ne z]; simp [z]
  · rw [← cnt_ins (p := fun s => decide (V s < 12)) (j := t) h12.2 (by simp [hv])]
    refine cnt_congr fun k _ => ?_
    by_cases z : k = t
    · rw [z, up_same]; simp [h12.1]
    · rw [up_ne z]; simp [z]
  · constructor
    · rintro ⟨s, e⟩
      by_cases z : s = t
      · rw [z, up_same] at e; exact Or.inr e.symm
      · rw [up_ne z] at e; exact Or.inl ⟨s, e⟩
    · rintro (⟨s, e⟩ | e)
      · have z : s ≠ t := fun z => by rw [z] at e; omega
        exact ⟨s, by rw [up_ne z]; exact e⟩
      · exact ⟨t, by rw [up_same, e]⟩
  · have nt : D t = false := by
      cases q : D t with
      | false => rfl
      | true => have := (hD t q).1; omega
    refine ⟨⟨t, he, nt⟩, fun s q => up_ne fun z => ?_⟩
    rw [z, nt] at q; cases q
/-- a task whose worker moves -/
theorem KG.move (hb : Eb E) (h : KV E V) (hi : KI V) {t : Nat} {V' : Nat → Nat} (hx : X t = false) (he : E w t = true) (hv : V t < 12) (hvw : V t ≠ w) (g : KG E V (V t) (fun s => X s || decide (s = t)) V') (hw : ∀ t, V t = w → X t = true) : KG E V w X (up V' t w) := by
  have h12 := hb w t he
  obtain ⟨a1, a2, a3, ⟨t0, b1, b2, b3⟩, a5, a6, a7⟩ := g
  have n0 : t0 ≠ t := fun z => by rw [z] at b2; simp at b2
  have x0 : X t0 = false := by
    cases q : X t0 with
    | false => rfl
    | true => simp [q] at b2
  have vt : V' t = V t := a2 t (by simp)
  refine ⟨⟨fun s => ?_, fun s hs => ?_, fun s q => ?_⟩, fun s q => ?_, fun s u e q n => ?_, ⟨t, h12.2, hx, fun s => ?_⟩, ?_, fun v hv' => ?_, fun D hD => ?_⟩
  · unfold up; split
    · omega
    · exact a1.1 s
  · rw [up_ne (by omega)]; exact a1.2.1 s hs
  · by_cases z : s = t
    · rw [z, up_same]; exact he
    · rw [up_ne z] at q ⊢; exact a1.2.2 s q
  · have z : s ≠ t := fun z => by rw [z, hx] at q; cases q
    rw [up_ne z]; exact a2 s (by simp [q])
  · by_cases z : s = t
    · rw [z, up_same] at n; exact absurd rfl n
    · rw [up_ne z] at e q n
      by_cases z2 : u = t
      · rw [z2, up_same] at e; exact absurd e n
      · rw [up_ne z2] at e
        by_cases y : V' s = V t
        · -- both are the moved worker's
          have c1 := (b3 s).mp y
          have c2 := (b3 u).mp (e.symm.trans y)
          have d1 : s = t0 := by
            rcases c1 with c | c
            · exact c
            · exact absurd (hi s t c (by omega)) z
          have d2 : u = t0 := by
            rcases c2 with c | c
            · exact c
            · exact absurd (hi u t c (by omega)) z2
          rw [d1, d2]
        · exact a3 s u e q y
  · by_cases z : s = t
    · rw [z, up_same]; simp
    · rw [up_ne z]
      constructor
      · intro e
        right
        have : s < 12 := by
          apply Nat.lt_of_not_le; intro q; rw [a1.2.1 s q] at e; omega
        have := (a6 w h12.1).mp ⟨s, e⟩
        rcases this with ⟨r, re⟩ | this
        · have xr := hw r re
          have vr := a2 r (by simp [xr])
          have := a3 s r (by rw [e, vr, re]) (by rw [e]; exact h12.1) (by rw [e]; exact Ne.symm hvw)
          rw [this]; exact re
        · exact absurd this.symm hvw
      · rintro (e | e)
        · exact absurd e z
        · rw [a2 s (by simp [hw s e])]; exact e
  · rw [← a5]
    refine cnt_congr fun k _ => ?_
    by_cases z : k = t
    · rw [z, up_same, vt]; simp [h12.1, hv]
    · rw [up_ne z]
  · constructor
    · rintro ⟨s, e⟩
      by_cases z : s = t
      · rw [z, up_same] at e; exact Or.inr e.symm
      · rw [up_ne z] at e
        rcases (a6 v hv').mp ⟨s, e⟩ with q | q
        · exact Or.inl q
        · exact Or.inl ⟨t, q.symm⟩
    · rintro (⟨s, e⟩ | e)
      · by_cases y : v = V t
        · refine ⟨t0, ?_⟩
          rw [up_ne n0, y]; exact (b3 t0).mpr (Or.inl rfl)
        · obtain ⟨r, re⟩ := (a6 v hv').mpr (Or.inl ⟨s, e⟩)
          have z : r ≠ t := fun z => y (by rw [← re, z, vt])
          exact ⟨r, by rw [up_ne z]; exact re⟩
      · exact ⟨t, by rw [up_same, e]⟩
  · obtain ⟨⟨r, r1, r2⟩, c⟩ := a7 D hD
    have nt : D t = false := by
      cases q : D t with
      | false => rfl
      | true => have := (hD t q).2 r r1; rw [r2] at this; cases this
    refine ⟨⟨t, he, nt⟩, fun s q => ?_⟩
    have z : s ≠ t := fun z => by rw [z, nt] at q; cases q
    rw [up_ne z]; exact c s q
/-- with a worker that had none: proper pairs again -/
theorem KG.root {V' : Nat → Nat} (hn : ∀ t, V t ≠ w) (hX : ∀ t, X t = false) (g : KG E V w X V') : KI V' := by
  obtain ⟨a1, a2, a3, ⟨t0, b1, b2, b3⟩, -⟩ := g
  intro s u e q
  by_cases z : V' s = w
  · have c1 := (b3 s).mp z
    have c2 := (b3 u).mp (e.symm.trans z)
    rcases c1 with c1 | c1
    · rcases c2 with c2 | c2
      · rw [c1, c2]
      · exact absurd c2 (hn u)
    · exact absurd c1 (hn s)
  · exact a3 s u e q z
theorem KV.Mt (h : KV E V) (hi : KI V) : Mt V := ⟨h.1, h.2.1, fun s t q e => hi s t e q⟩
theorem KV.Ms (h : KV E V) (hi : KI V) : Ms E (tr V) := tr_Ms (E := fun t w => E w t) ⟨h.Mt hi, h.2.2⟩
/-- all that were in vain have their tasks in D -/
theorem kn_nu (hb : Eb E) (h : KV E V) (hi : KI V) {D : Nat → Bool} (hD : ∀ t, D t = true → V t < 12 ∧ ∀ s, E (V t) s = true → D s = true) (hf : ∀ w, w < 12 → (∃ t, V t = w) ∨ ∀ t, E w t = true → D t = true) : Nu E (cnt (fun t => decide (V t < 12)) 12) := by
  have hm := h.Ms hi
  have hM := h.Mt hi
  have e : sz (tr V) = cnt (fun t => decide (V t < 12)) 12 := sz_tr hM
  rw [← e]
  have ow_t : ∀ t, t < 12 → ow (tr V) t = V t := fun t ht => by
    have := tr_tr hM
    rw [← tr_lt ht, this]
  refine dd_nu (D := D) hb hm (fun t ht q => ?_) (fun w hw q t he => ?_)
  · rw [ow_t t ht]; exact hD t q
  · rcases hf w hw with ⟨s, es⟩ | f
    · exfalso
      have hs : s < 12 := h.t12 (by omega)
      have := (tr_iff hM (w := s) hs hw).mpr es
      omega
    · exact f t he
end Kn
