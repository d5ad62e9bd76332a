/-! MATHEMATICS: rounds (C w t: the round of w and t, 12 with none) -/
abbrev CC : Type := Nat → Nat → Nat
def Cp (C : CC) : Prop := (∀ w, Mt (C w)) ∧ ∀ t, Mt (fun w => C w t)
noncomputable def tA (C : CC) (w c : Nat) : Nat := ow (C w) c
noncomputable def wA (C : CC) (t c : Nat) : Nat := ow (fun w => C w t) c
/-- the tasks and the workers of the way that changes -/
noncomputable def kT (C : CC) (a b t0 : Nat) : Nat → Nat
  | 0 => t0
  | k + 1 => tA C (wA C (kT C a b t0 k) a) b
noncomputable def kW (C : CC) (a b t0 k : Nat) : Nat := wA C (kT C a b t0 k) a
def TSk (C : CC) (a b t0 u : Nat) : Prop := u < 12 ∧ ∃ k, kT C a b t0 k = u
def WSk (C : CC) (a b t0 w : Nat) : Prop := w < 12 ∧ ∃ k, kT C a b t0 k < 12 ∧ kW C a b t0 k = w
def sw (a b x : Nat) : Nat := if x = a then b else if x = b then a else x
noncomputable def kw (C : CC) (a b t0 : Nat) : CC := fun w u => if pb (TSk C a b t0 u) then sw a b (C w u) else C w u
def setC (C : CC) (w t c : Nat) : CC := fun v u => if v = w ∧ u = t then c else C v u
section Ck
variable {C : CC} {a b t0 : Nat}
theorem sw_sw (x : Nat) : sw a b (sw a b x) = x := by
  unfold sw
  by_cases h : x = a
  · rw [if_pos h]
    by_cases e : b = a
    · rw [if_pos e, e, h]
    · rw [if_neg e, if_pos rfl, h]
  · rw [if_neg h]
    by_cases e : x = b
    · rw [if_pos e, if_pos rfl, e]
    · rw [if_neg e, if_neg h, if_neg e]
theorem sw_inj {x y : Nat} (h : sw a b x = sw a b y) : x = y := by rw [← sw_sw (a := a) (b := b) x, h, sw_sw]
theorem sw_le {x : Nat} (ha : a < 12) (hb : b < 12) (h : x ≤ 12) : sw a b x ≤ 12 := by
  unfold sw
  split
  · omega
  · split <;> omega
theorem sw_12 (ha : a < 12) (hb : b < 12) : sw a b 12 = 12 := by unfold sw; rw [if_neg (by omega), if_neg (by omega)]
theorem sw_out {x : Nat} (ha : x ≠ a) (hb : x ≠ b) : sw a b x = x := by unfold sw; rw [if_neg ha, if_neg hb]
theorem sw_in {x : Nat} (h : x = a ∨ x = b) : sw a b x = a ∨ sw a b x = b := by
  unfold sw
  split
  · exact Or.inr rfl
  · split
    · exact Or.inl rfl
    · rcases h with h | h <;> contradiction
theorem sw_lt {x : Nat} (ha : a < 12) (hb : b < 12) (h : sw a b x < 12) : x < 12 := by
  by_cases p : x = a
  · omega
  · by_cases q : x = b
    · omega
    · rw [sw_out p q] at h; exact h
theorem tA_iff (h : Cp C) {w c t : Nat} (hc : c < 12) (ht : t < 12) : tA C w c = t ↔ C w t = c := ow_iff (h.1 w) hc ht
theorem wA_iff (h : Cp C) {w c t : Nat} (hc : c < 12) (hw : w < 12) : wA C t c = w ↔ C w t = c := ow_iff (h.2 t) hc hw
theorem Cp.w (h : Cp C) {w t : Nat} (q : C w t < 12) : w < 12 := (h.2 t).w12 q
theorem Cp.t (h : Cp C) {w t : Nat} (q : C w t < 12) : t < 12 := (h.1 w).w12 q
theorem kT_edge (h : Cp C) (ha : a < 12) (hb : b < 12) {k : Nat} (q : kT C a b t0 (k + 1) < 12) : kW C a b t0 k < 12 ∧ kT C a b t0 k < 12 ∧ C (kW C a b t0 k) (kT C a b t0 k) = a ∧ C (kW C a b t0 k) (kT C a b t0 (k + 1)) = b := by
  have e1 : C (kW C a b t0 k) (kT C a b t0 (k + 1)) = b := ow_M q
  have w12 : kW C a b t0 k < 12 := h.w (by rw [e1]; exact hb)
  have e2 : C (kW C a b t0 k) (kT C a b t0 k) = a := ow_M (M := fun w => C w (kT C a b t0 k)) w12
  exact ⟨w12, h.t (by rw [e2]; exact ha), e2, e1⟩
theorem kW_edge (h : Cp C) (ha : a < 12) {k : Nat} (q : kW C a b t0 k < 12) : C (kW C a b t0 k) (kT C a b t0 k) = a ∧ kT C a b t0 k < 12 := by
  have e2 : C (kW C a b t0 k) (kT C a b t0 k) = a := ow_M (M := fun w => C w (kT C a b t0 k)) q
  exact ⟨e2, h.t (by rw [e2]; exact ha)⟩
theorem kT_down (h : Cp C) (ha : a < 12) (hb : b < 12) : ∀ (d k : Nat), kT C a b t0 (k + d) < 12 → kT C a b t0 k < 12
  | 0, _, q => q
  | d + 1, k, q => kT_down h ha hb d k (kT_edge h ha hb q).2.1
theorem kT_inj (h : Cp C) (ha : a < 12) (hb : b < 12) (h0 : ∀ w, C w t0 ≠ b) : ∀ i j, i < j → kT C a b t0 j < 12 → kT C a b t0 i ≠ kT C a b t0 j := by
  intro i
  induction i with
  | zero =>
    intro j ij q e
    obtain ⟨j', rfl⟩ : ∃ j', j = j' + 1 := ⟨j - 1, by omega⟩
    have := (kT_edge h ha hb q).2.2.2
    rw [← e] at this
    exact h0 _ this
  | succ i ih =>
    intro j ij q e
    obtain ⟨j', rfl⟩ : ∃ j', j = j' + 1 := ⟨j - 1, by omega⟩
    obtain ⟨_, q2, q3, q4⟩ := kT_edge h ha hb q
    obtain ⟨_, p2, p3, p4⟩ := kT_edge h ha hb (by rw [e]; exact q)
    rw [e] at p4
    have ew := (h.2 (kT C a b t0 (j' + 1))).2.2 (kW C a b t0 i) (kW C a b t0 j') (by show C _ _ < 12; rw [p4]; exact hb) (p4.trans q4.symm)
    rw [ew] at p3
    exact ih j' (by omega) q2 ((h.1 (kW C a b t0 j')).2.2 _ _ (by rw [p3]; exact ha) (p3.trans q3.symm))
theorem kT_dead (h : Cp C) (ha : a < 12) (hb : b < 12) (h0 : ∀ w, C w t0 ≠ b) : ¬ kT C a b t0 12 < 12 := fun q => by
  have al : ∀ i, i ≤ 12 → kT C a b t0 i < 12 := fun i hi => kT_down h ha hb (12 - i) i (by rw [show i + (12 - i) = 12 by omega]; exact q)
  have := cnt_inj (m := 12) (n := 13) (p := fun _ => true) (q := fun _ => true) (kT C a b t0) (fun k hk _ => ⟨al k (by omega), rfl⟩) (fun i j hi hj _ _ e => by
    rcases Nat.lt_trichotomy i j with z | z | z
    · exact absurd e (kT_inj h ha hb h0 i j z (al j (by omega)))
    · exact z
    · exact absurd e.symm (kT_inj h ha hb h0 j i z (al i (by omega))))
  rw [cnt_true, cnt_true] at this
  omega
theorem ts_ws (h : Cp C) (ha : a < 12) (hb : b < 12) (h0 : ∀ w, C w t0 ≠ b) {w u : Nat} (q : TSk C a b t0 u) (e : C w u = a ∨ C w u = b) : WSk C a b t0 w := by
  obtain ⟨u12, k, rfl⟩ := q
  have w12 : w < 12 := h.w (t := kT C a b t0 k) (by omega)
  rcases e with e | e
  · exact ⟨w12, k, u12, (wA_iff h ha w12).mpr e⟩
  · cases k with
    | zero => exact absurd e (h0 w)
    | succ k =>
      obtain ⟨_, q2, _, q4⟩ := kT_edge h ha hb u12
      exact ⟨w12, k, q2, ((h.2 (kT C a b t0 (k + 1))).2.2 _ _ (by show C _ _ < 12; rw [q4]; exact hb) (q4.trans e.symm))⟩
theorem ws_ts (h : Cp C) (ha : a < 12) (hb : b < 12) {w u : Nat} (q : WSk C a b t0 w) (e : C w u = a ∨ C w u = b) : TSk C a b t0 u := by
  obtain ⟨w12, k, k12, rfl⟩ := q
  have u12 : u < 12 := h.t (w := kW C a b t0 k) (by omega)
  rcases e with e | e
  · have := (kW_edge h ha w12).1
    exact ⟨u12, k, (h.1 _).2.2 _ _ (by rw [this]; exact ha) (this.trans e.symm)⟩
  · exact ⟨u12, k + 1, (tA_iff h hb u12).mpr e⟩
theorem kw_t {w u : Nat} (h : TSk C a b t0 u) : kw C a b t0 w u = sw a b (C w u) := by unfold kw; rw [pb_t.mpr h]; rfl
theorem kw_f {w u : Nat} (h : ¬ TSk C a b t0 u) : kw C a b t0 w u = C w u := by unfold kw; rw [pb_f h]; rfl
theorem kw_Cp (h : Cp C) (ha : a < 12) (hb : b < 12) (h0 : ∀ w, C w t0 ≠ b) : Cp (kw C a b t0) := by
  refine ⟨fun w => ⟨fun u => ?_, fun u hu => ?_, fun u v q e => ?_⟩, fun u => ?_⟩
  · by_cases z : TSk C a b t0 u
    · rw [kw_t z]; exact sw_le ha hb ((h.1 w).1 u)
    · rw [kw_f z]; exact (h.1 w).1 u
  · rw [kw_f (fun z => by have := z.1; omega)]; exact (h.1 w).2.1 u hu
  · have key : ∀ u v, TSk C a b t0 u → ¬ TSk C a b t0 v → sw a b (C w u) = C w v → C w v < 12 → u = v := fun u v x y e l => by
      by_cases p : C w u = a ∨ C w u = b
      · have ws := ts_ws h ha hb h0 x p
        have := sw_in p
        rw [e] at this
        exact absurd (ws_ts h ha hb ws this) y
      · rw [sw_out (fun z => p (Or.inl z)) (fun z => p (Or.inr z))] at e
        exact (h.1 w).2.2 u v (by omega) e
    by_cases x : TSk C a b t0 u
    · by_cases y : TSk C a b t0 v
      · rw [kw_t x, kw_t y] at e
        rw [kw_t x] at q
        exact (h.1 w).2.2 u v (sw_lt ha hb q) (sw_inj e)
      · rw [kw_t x, kw_f y] at e
        rw [kw_t x, e] at q
        exact key u v x y e q
    · by_cases y : TSk C a b t0 v
      · rw [kw_f x, kw_t y] at e
        rw [kw_f x] at q
        exact (key v u y x e.symm q).symm
      · rw [kw_f x, kw_f y] at e
        rw [kw_f x] at q
        exact (h.1 w).2.2 u v q e
  · by_cases z : TSk C a b t0 u
    · rw [show (fun w => kw C a b t0 w u) = fun w => sw a b (C w u) from funext fun w => kw_t z]
      refine ⟨fun w => sw_le ha hb ((h.2 u).1 w), fun w hw => ?_, fun w v q e => ?_⟩
      · have : C w u = 12 := (h.2 u).2.1 w hw
        show sw a b (C w u) = 12
        rw [this]; exact sw_12 ha hb
      · exact (h.2 u).2.2 w v (sw_lt ha hb q) (sw_inj e)
    · rw [show (fun w => kw C a b t0 w u) = fun w => C w u from funext fun w => kw_f z]
      exact h.2 u
theorem kw_a_t (h0 : ∀ w, C w t0 ≠ b) (ht : t0 < 12) (w : Nat) : kw C a b t0 w t0 ≠ a := fun e => by
  rw [kw_t ⟨ht, 0, rfl⟩] at e
  by_cases p : C w t0 = a
  · rw [p] at e
    unfold sw at e
    rw [if_pos rfl] at e
    exact h0 w (p.trans e.symm)
  · have ea : sw a b b = a := by
      unfold sw
      by_cases y : b = a
      · rw [if_pos y, y]
      · rw [if_neg y, if_pos rfl]
    exact h0 w (sw_inj (e.trans ea.symm))
theorem kw_a_w (h : Cp C) (ha : a < 12) (hb : b < 12) (h0 : ∀ w, C w t0 ≠ b) {w : Nat} (hw : ∀ u, C w u ≠ a) (u : Nat) : kw C a b t0 w u ≠ a := fun e => by
  by_cases z : TSk C a b t0 u
  · rw [kw_t z] at e
    have e2 : C w u = b := by
      by_cases y : a = b
      · rw [← y] at e ⊢
        unfold sw at e
        by_cases x : C w u = a
        · exact x
        · rw [if_neg x, if_neg x] at e; exact e
      · have ea : sw a b b = a := by unfold sw; rw [if_neg (Ne.symm y), if_pos rfl]
        exact sw_inj (e.trans ea.symm)
    obtain ⟨w12, k, k12, kk⟩ := ts_ws h ha hb h0 z (Or.inr e2)
    have := (kW_edge (k := k) (b := b) (t0 := t0) h ha (by rw [kk]; exact w12)).1
    rw [kk] at this
    exact hw _ this
  · rw [kw_f z] at e; exact hw u e
theorem setC_same (C : CC) (w t c : Nat) : setC C w t c w t = c := if_pos ⟨rfl, rfl⟩
theorem setC_ne {w t c v u : Nat} (h : ¬ (v = w ∧ u = t)) : setC C w t c v u = C v u := if_neg h
theorem setC_Cp (h : Cp C) {w t c : Nat} (hw : w < 12) (ht : t < 12) (hc : c < 12) (fw : ∀ u, C w u ≠ c) (ft : ∀ v, C v t ≠ c) : Cp (setC C w t c) := by
  refine ⟨fun v => ⟨fun u => ?_, fun u hu => ?_, fun u s q e => ?_⟩, fun u => ⟨fun v => ?_, fun v hv => ?_, fun v s q e => ?_⟩⟩
  · by_cases z : v = w ∧ u = t
    · rw [z.1, z.2, setC_same]; omega
    · rw [setC_ne z]; exact (h.1 v).1 u
  · rw [setC_ne (by omega)]; exact (h.1 v).2.1 u hu
  · by_cases z : v = w ∧ u = t
    · by_cases y : v = w ∧ s = t
      · omega
      · rw [z.1, z.2, setC_same, setC_ne (by omega)] at e
        exact absurd e.symm (fw s)
    · rw [setC_ne z] at q e
      by_cases y : v = w ∧ s = t
      · rw [y.1, y.2, setC_same] at e
        exact absurd e (fw u)
      · rw [setC_ne y] at e
        exact (h.1 v).2.2 u s q e
  · show setC C w t c v u ≤ 12
    by_cases z : v = w ∧ u = t
    · rw [z.1, z.2, setC_same]; omega
    · rw [setC_ne z]; exact (h.1 v).1 u
  · show setC C w t c v u = 12
    rw [setC_ne (by omega)]; exact (h.2 u).2.1 v hv
  · have q : setC C w t c v u < 12 := q
    have e : setC C w t c v u = setC C w t c s u := e
    by_cases z : v = w ∧ u = t
    · by_cases y : s = w ∧ u = t
      · omega
      · rw [z.1, z.2, setC_same, setC_ne (by omega)] at e
        exact absurd e.symm (ft s)
    · rw [setC_ne z] at q e
      by_cases y : s = w ∧ u = t
      · rw [y.1, y.2, setC_same] at e
        exact absurd e (ft v)
      · rw [setC_ne y] at e
        exact (h.2 u).2.2 v s q e
end Ck
/-- the least that is free -/
noncomputable def lf (M : Nat → Nat) : Nat := fi (fun c => decide (ow M c = 12)) 12
theorem lf_free {M : Nat → Nat} (h : lf M < 12) : ow M (lf M) = 12 := of_decide_eq_true (fi_p (p := fun c => decide (ow M c = 12)) h)
theorem lf_min {M : Nat → Nat} {c : Nat} (h : c < lf M) : ow M c < 12 := by
  have := fi_min (p := fun c => decide (ow M c = 12)) (n := 12) (k := c) h
  have n : ¬ ow M c = 12 := of_decide_eq_false this
  have := ow_le M c
  omega
theorem lf_le (M : Nat → Nat) : lf M ≤ 12 := fi_le _ _
theorem lf_lt {M : Nat → Nat} (h : Mt M) {t : Nat} (ht : t < 12) (e : M t = 12) : lf M < 12 := by
  apply Classical.byContradiction
  intro z
  have l12 : lf M = 12 := by have := lf_le M; omega
  have al : ∀ c, c < 12 → tr M c < 12 := fun c hc => by rw [tr_lt hc]; exact lf_min (by omega)
  have s1 : sz (tr M) = 12 := by
    unfold sz
    rw [cnt_congr (q := fun _ => true) fun k hk => decide_eq_true (al k hk), cnt_true]
  rw [sz_tr h] at s1
  have := cnt_all s1 t ht
  simp only [decide_eq_true_eq] at this
  omega
theorem lf_ne {M : Nat → Nat} (h : Mt M) (l : lf M < 12) (w : Nat) : M w ≠ lf M := fun e => by
  have w12 := h.w12 (w := w) (by omega)
  exact ow_none.mp (lf_free l) w w12 e
