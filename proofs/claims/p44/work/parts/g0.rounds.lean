/-! MATHEMATICS: rounds: who has one, how many there are -/
section G0
variable {C : CC} {a b t0 : Nat}
theorem sw_iff {x : Nat} (ha : a < 12) (hb' : b < 12) : sw a b x < 12 ↔ x < 12 := by
  refine ⟨sw_lt ha hb', fun h => ?_⟩
  unfold sw
  split
  · exact hb'
  · split
    · exact ha
    · exact h
theorem kw_dom (ha : a < 12) (hb' : b < 12) (v u : Nat) : kw C a b t0 v u < 12 ↔ C v u < 12 := by
  by_cases z : TSk C a b t0 u
  · rw [kw_t z]; exact sw_iff ha hb'
  · rw [kw_f z]
theorem stepR_dom {w t : Nat} (h : Cp C) (hw : w < 12) (ht : t < 12) (e : C w t = 12) (v u : Nat) : stepR C w t v u < 12 ↔ C v u < 12 ∨ (v = w ∧ u = t) := by
  obtain ⟨l1, l2, -⟩ := step_pre h hw ht e
  unfold stepR
  by_cases z : v = w ∧ u = t
  · obtain ⟨rfl, rfl⟩ := z
    rw [setC_same]
    exact ⟨fun _ => Or.inr ⟨rfl, rfl⟩, fun _ => l1⟩
  · rw [setC_ne z]
    have k : (if wA C t (lf (C w)) = 12 then C else kw C (lf (C w)) (lf (tc C t)) t) v u < 12 ↔ C v u < 12 := by
      split
      · exact Iff.rfl
      · exact kw_dom l1 l2 v u
    rw [k]
    exact ⟨Or.inl, fun y => y.resolve_right z⟩
theorem lf_sz {M : Nat → Nat} : lf M ≤ sz M := by
  have h := cnt_inj (m := 12) (ow M) (n := lf M) (p := fun _ => true) (q := fun u => decide (M u < 12)) (fun c hc _ => by
    have l := lf_min hc
    have := lf_le M
    refine ⟨l, ?_⟩
    rw [decide_eq_true_eq, ow_M l]
    omega) (fun i j hi hj _ _ e => by
    have l1 := ow_M (lf_min hi)
    have l2 := ow_M (lf_min hj)
    rw [← l1, ← l2, e])
  rw [cnt_true] at h
  exact h
def dgW (E : Nat → Nat → Bool) (w : Nat) : Nat := cnt (fun u => E w u) 12
def dgT (E : Nat → Nat → Bool) (t : Nat) : Nat := cnt (fun v => E v t) 12
theorem stepV_dg {E : Nat → Nat → Bool} {w t V D : Nat} (hE : ∀ v u, C v u < 12 → E v u = true) (hw : w < 12) (ht : t < 12) (e : C w t = 12) (ew : E w t = true) (d1 : dgW E w ≤ D) (d2 : dgT E t ≤ D) (hV : V ≤ D) : stepV C V w t ≤ D := by
  have k1 : lf (C w) + 1 ≤ D := by
    have := lf_sz (M := C w)
    have c : sz (C w) < dgW E w := cnt_lt (j := t) (fun k _ q => hE w k (of_decide_eq_true q)) ht (by rw [e]; rfl) ew
    omega
  have k2 : lf (tc C t) + 1 ≤ D := by
    have := lf_sz (M := tc C t)
    have c : sz (tc C t) < dgT E t := cnt_lt (j := w) (fun k _ q => hE k t (of_decide_eq_true q)) hw (by show decide (C w t < 12) = false; rw [e]; rfl) ew
    omega
  unfold stepV
  split
  · omega
  · omega
/-- the fits that were looked at have a round, no others -/
def RQv (E : Nat → Nat → Bool) (i j : Nat) (s : CV) : Prop := RIv i j s ∧ (∀ v u, s.1 v u < 12 → E v u = true) ∧ (∀ v u, v < 12 → u < 12 → (v < i ∨ (v = i ∧ u < j)) → E v u = true → s.1 v u < 12) ∧ ∀ D, (∀ w, dgW E w ≤ D) → (∀ t, dgT E t ≤ D) → s.2 ≤ D
theorem stE_Q {E : Nat → Nat → Bool} {i j : Nat} {s : CV} (h : RQv E i j s) (hi : i < 12) (hj : j < 12) : RQv E i (j + 1) (stE E i j s) := by
  obtain ⟨h1, h2, h3, h4⟩ := h
  have k := stE_I (E := E) h1 hi hj
  refine ⟨k, ?_⟩
  have e0 : s.1 i j = 12 := h1.2.2.2 i j (Or.inr ⟨rfl, Nat.le_refl _⟩)
  unfold stE
  by_cases c : E i j = true
  · rw [if_pos c]
    have dom := stepR_dom (t := j) h1.1 hi hj e0
    refine ⟨fun v u q => ?_, fun v u hv hu q e => ?_, fun D d1 d2 => stepV_dg h2 hi hj e0 c (d1 i) (d2 j) (h4 D d1 d2)⟩
    · rcases (dom v u).mp q with q | ⟨rfl, rfl⟩
      · exact h2 v u q
      · exact c
    · refine (dom v u).mpr ?_
      by_cases z : v = i ∧ u = j
      · exact Or.inr z
      · exact Or.inl (h3 v u hv hu (by omega) e)
  · rw [if_neg c]
    refine ⟨h2, fun v u hv hu q e => ?_, h4⟩
    by_cases z : v = i ∧ u = j
    · rw [z.1, z.2] at e; exact absurd e c
    · exact h3 v u hv hu (by omega) e
theorem rowR_Q {E : Nat → Nat → Bool} {i : Nat} (hi : i < 12) : ∀ (k j : Nat) (s : CV), j + k ≤ 12 → RQv E i j s → RQv E i (j + k) (rowR E i k j s)
  | 0, j, s, _, h => h
  | k + 1, j, s, hl, h => by
    have := rowR_Q hi k (j + 1) _ (by omega) (stE_Q h hi (by omega))
    rw [show j + 1 + k = j + (k + 1) by omega] at this
    exact this
theorem RQv.down {E : Nat → Nat → Bool} {i m : Nat} {s : CV} (h : RQv E i m s) (hm : ∀ v u, E v u = true → u < m) : RQv E (i + 1) 0 s := by
  obtain ⟨⟨a1, a2, a3, a4⟩, h2, h3, h4⟩ := h
  exact ⟨⟨a1, a2, a3, fun v u q => a4 v u (by omega)⟩, h2, fun v u hv hu q e => h3 v u hv hu (by have := hm v u e; omega) e, h4⟩
theorem allR_Q {E : Nat → Nat → Bool} {m : Nat} (hm12 : m ≤ 12) (hm : ∀ v u, E v u = true → u < m) : ∀ (k i : Nat) (s : CV), i + k ≤ 12 → RQv E i 0 s → RQv E (i + k) 0 (allR E m k i s)
  | 0, i, s, _, h => h
  | k + 1, i, s, hl, h => by
    have r := rowR_Q (E := E) (show i < 12 by omega) m 0 s (by omega) h
    rw [Nat.zero_add] at r
    have := allR_Q hm12 hm k (i + 1) _ (by omega) (r.down hm)
    rw [show i + 1 + k = i + (k + 1) by omega] at this
    exact this
theorem CV0_Q {E : Nat → Nat → Bool} : RQv E 0 0 CV0 := ⟨CV0_I, fun v u q => absurd q (Nat.lt_irrefl 12), fun v u _ _ q _ => by omega, fun D _ _ => Nat.zero_le D⟩
/-- the rounds of a book -/
noncomputable def rdC (B : Bk) : CC := (allR (gE B) (bm B) (bn B) 0 CV0).1
noncomputable def rdV (B : Bk) : Nat := (allR (gE B) (bm B) (bn B) 0 CV0).2
theorem rd_all {B : Bk} (hB : BOK B) : Cp (rdC B) ∧ rdV B ≤ 12 ∧ (∀ w t, rdC B w t < 12 → rdC B w t + 1 ≤ rdV B) ∧ (∀ v u, rdC B v u < 12 ↔ gE B v u = true) ∧ ∀ D, (∀ w, dgW (gE B) w ≤ D) → (∀ t, dgT (gE B) t ≤ D) → rdV B ≤ D := by
  have hn := hB.n
  obtain ⟨⟨a1, a2, a3, a4⟩, h2, h3, h4⟩ := allR_Q hB.m (fun v u e => (hB.hf v u e).2) (bn B) 0 CV0 (by omega) (CV0_Q (E := gE B))
  rw [Nat.zero_add] at h3
  exact ⟨a1, a2, a3.1, fun v u => ⟨h2 v u, fun e => h3 v u (hB.Eb v u e).1 (hB.Eb v u e).2 (Or.inl (hB.hf v u e).1) e⟩, h4⟩
/-- as many as have different rounds below V -/
theorem rd_le {M : Nat → Nat} {V n : Nat} (h : Mt M) (hV : ∀ k, M k < 12 → M k + 1 ≤ V) : cnt (fun u => decide (M u < 12)) n ≤ V := by
  have := cnt_inj (m := V) M (n := n) (p := fun u => decide (M u < 12)) (q := fun _ => true) (fun k _ q => ⟨hV k (of_decide_eq_true q), rfl⟩) (fun i j _ _ qi _ e => h.2.2 i j (of_decide_eq_true qi) e)
  rw [cnt_true] at this
  exact this
end G0
