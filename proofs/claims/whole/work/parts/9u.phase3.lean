/-! MATHEMATICS: the layers; a phase; all phases -/
section Lf
variable {E : Nat → Nat → Bool} {M : Nat → Nat} {Wt : Int32} {lw lt : LA}
/-- what holds of layers, k rounds made -/
def LyI (E : Nat → Nat → Bool) (M : Nat → Nat) (Wt : Int32) (k : Nat) (lw lt : LA) : Prop :=
  (∀ w, lw w = 0 ↔ (hb Wt w = true ∧ M w = 12)) ∧ (∀ t, lt t = -1 ∨ ∃ j, j < k ∧ lt t = Int32.ofNat (2 * j + 1) ∧ ∃ w, w < 12 ∧ lw w = Int32.ofNat (2 * j) ∧ E w t = true) ∧ ∀ w, lw w = -1 ∨ lw w = 0 ∨ ∃ j, 1 ≤ j ∧ j ≤ k ∧ lw w = Int32.ofNat (2 * j) ∧ M w < 12 ∧ lt (M w) = Int32.ofNat (2 * j - 1)
theorem n1_oN {k : Nat} (h : k < 2147483648) : ¬ ((-1 : Int32) = Int32.ofNat k) := fun z => by
  have : (Int32.ofNat k = -1) = False := oN_n1 h
  rw [← z] at this
  exact this.mp rfl
theorem ltn_new {L t : Nat} (h : lt t = -1) (ht : t < 12) (e : ∃ w, w < 12 ∧ lw w = Int32.ofNat L ∧ E w t = true) : ltn E lw lt L t = Int32.ofNat (L + 1) := if_pos (pb_t.mpr ⟨h, ht, e⟩)
theorem ltn_old {L t : Nat} (h : ¬ (lt t = -1 ∧ t < 12 ∧ ∃ w, w < 12 ∧ lw w = Int32.ofNat L ∧ E w t = true)) : ltn E lw lt L t = lt t := if_neg (by rw [pb_f h]; simp)
theorem LyI.start : LyI E M Wt 0 (lw0 M Wt) (fun _ => -1) := by
  refine ⟨fun w => ?_, fun t => Or.inl rfl, fun w => ?_⟩
  · unfold lw0
    split
    · exact ⟨fun _ => by assumption, fun _ => rfl⟩
    · rename_i h
      exact ⟨fun z => absurd z (by decide), fun z => absurd z h⟩
  · unfold lw0
    split
    · exact Or.inr (Or.inl rfl)
    · exact Or.inl rfl
/-- behind the tasks of a round -/
def LyJ (E : Nat → Nat → Bool) (M : Nat → Nat) (Wt : Int32) (k : Nat) (lw lt : LA) : Prop :=
  (∀ w, lw w = 0 ↔ (hb Wt w = true ∧ M w = 12)) ∧ (∀ t, lt t = -1 ∨ ∃ j, j ≤ k ∧ lt t = Int32.ofNat (2 * j + 1) ∧ ∃ w, w < 12 ∧ lw w = Int32.ofNat (2 * j) ∧ E w t = true) ∧ ∀ w, lw w = -1 ∨ lw w = 0 ∨ ∃ j, 1 ≤ j ∧ j ≤ k ∧ lw w = Int32.ofNat (2 * j) ∧ M w < 12 ∧ lt (M w) = Int32.ofNat (2 * j - 1)
theorem LyI.tasks {k : Nat} (hk : k ≤ 100) (h : LyI E M Wt k lw lt) : LyJ E M Wt k lw (ltn E lw lt (2 * k)) := by
  obtain ⟨h1, h2, h3⟩ := h
  refine ⟨h1, fun t => ?_, fun w => ?_⟩
  · by_cases c : lt t = -1 ∧ t < 12 ∧ ∃ w, w < 12 ∧ lw w = Int32.ofNat (2 * k) ∧ E w t = true
    · exact Or.inr ⟨k, Nat.le_refl k, ltn_new c.1 c.2.1 c.2.2, c.2.2⟩
    · rw [ltn_old c]
      exact (h2 t).imp id fun ⟨j, a, b⟩ => ⟨j, by omega, b⟩
  · rcases h3 w with z | z | ⟨j, a, b, c, d, e⟩
    · exact Or.inl z
    · exact Or.inr (Or.inl z)
    · refine Or.inr (Or.inr ⟨j, a, b, c, d, ?_⟩)
      rw [ltn_old (fun z => n1_oN (show 2 * j - 1 < 2147483648 by omega) (z.1.symm.trans e))]; exact e
theorem LyJ.workers {k : Nat} (hk : k ≤ 100) (h0 : LyI E M Wt k lw lt) (h : LyJ E M Wt k lw (ltn E lw lt (2 * k))) : LyI E M Wt (k + 1) (lwn M lw (ltn E lw lt (2 * k)) (2 * k)) (ltn E lw lt (2 * k)) := by
  obtain ⟨h1, h2, h3⟩ := h
  -- who gets a layer now had none
  have nw : ∀ w, M w < 12 → ltn E lw lt (2 * k) (M w) = Int32.ofNat (2 * k + 1) → lw w = -1 := fun w a b => by
    rcases h3 w with z | z | ⟨j, x1, x2, x3, x4, x5⟩
    · exact z
    · have := ((h1 w).mp z).2; omega
    · rw [x5, oN_inj (by omega) (by omega)] at b; omega
  have ew : ∀ w, lw w ≠ -1 → lwn M lw (ltn E lw lt (2 * k)) (2 * k) w = lw w := fun w n => if_neg fun z => n (nw w z.1 z.2)
  refine ⟨fun w => ?_, fun t => ?_, fun w => ?_⟩
  · by_cases c : M w < 12 ∧ ltn E lw lt (2 * k) (M w) = Int32.ofNat (2 * k + 1)
    · have e : lwn M lw (ltn E lw lt (2 * k)) (2 * k) w = Int32.ofNat (2 * k + 2) := if_pos c
      rw [e]
      constructor
      · intro z
        have : (Int32.ofNat (2 * k + 2) = 0) = (2 * k + 2 = 0) := leq_0 (by omega)
        rw [this] at z; omega
      · rintro ⟨_, z⟩; omega
    · have e : lwn M lw (ltn E lw lt (2 * k)) (2 * k) w = lw w := if_neg c
      rw [e]; exact h1 w
  · rcases h2 t with z | ⟨j, a, b, w, c, d, e⟩
    · exact Or.inl z
    · refine Or.inr ⟨j, by omega, b, w, c, ?_, e⟩
      rw [ew w (fun z => by rw [z] at d; exact n1_oN (by omega) d)]; exact d
  · by_cases c : M w < 12 ∧ ltn E lw lt (2 * k) (M w) = Int32.ofNat (2 * k + 1)
    · have e : lwn M lw (ltn E lw lt (2 * k)) (2 * k) w = Int32.ofNat (2 * k + 2) := if_pos c
      exact Or.inr (Or.inr ⟨k + 1, by omega, by omega, by rw [e, show 2 * (k + 1) = 2 * k + 2 by omega], c.1, by rw [c.2, show 2 * (k + 1) - 1 = 2 * k + 1 by omega]⟩)
    · have e : lwn M lw (ltn E lw lt (2 * k)) (2 * k) w = lw w := if_neg c
      rw [e]
      rcases h3 w with z | z | ⟨j, a, b, c, d⟩
      · exact Or.inl z
      · exact Or.inr (Or.inl z)
      · exact Or.inr (Or.inr ⟨j, a, by omega, c, d⟩)
theorem ls_I : ∀ k, k ≤ 100 → LyI E M Wt k (ls E M Wt k).1 (ls E M Wt k).2
  | 0, _ => LyI.start
  | k + 1, h => LyJ.workers (by omega) (ls_I k (by omega)) ((ls_I k (by omega)).tasks (by omega))
/-- the tasks that have a layer -/
def lc (lt : LA) : Nat := cnt (fun t => !decide (lt t = -1)) 12
theorem lc_le (lt : LA) : lc lt ≤ 12 := cnt_le _ _
theorem ls_cnt : ∀ k, k ≤ 100 → (∀ j, j < k → ¬ emp (ltn E (ls E M Wt j).1 (ls E M Wt j).2 (2 * j)) (2 * j)) → k ≤ lc (ls E M Wt k).2
  | 0, _, _ => Nat.zero_le _
  | k + 1, hk, h => by
    have ih := ls_cnt k (by omega) fun j a => h j (by omega)
    have hi := ls_I (E := E) (M := M) (Wt := Wt) k (by omega)
    have ne := h k (by omega)
    obtain ⟨t, t1, t2⟩ : ∃ t, t < 12 ∧ ltn E (ls E M Wt k).1 (ls E M Wt k).2 (2 * k) t = Int32.ofNat (2 * k + 1) := by
      apply Classical.byContradiction
      intro z
      exact ne fun t a b => z ⟨t, a, b⟩
    have old : (ls E M Wt k).2 t = -1 := by
      rcases hi.2.1 t with z | ⟨j, a, b, _⟩
      · exact z
      · rw [ltn_old (fun z => n1_oN (show 2 * j + 1 < 2147483648 by omega) (z.1.symm.trans b)), b, oN_inj (by omega) (by omega)] at t2
        omega
    have lt1 : lc (ls E M Wt k).2 < lc (ls E M Wt (k + 1)).2 := by
      refine cnt_lt (j := t) (fun i _ q => ?_) t1 (by simp [old]) ?_
      · show (!decide (ltn E (ls E M Wt k).1 (ls E M Wt k).2 (2 * k) i = -1)) = true
        have q : ¬ (ls E M Wt k).2 i = -1 := by simpa using q
        rw [ltn_old (fun z => q z.1)]; simp [q]
      · show (!decide (ltn E (ls E M Wt k).1 (ls E M Wt k).2 (2 * k) t = -1)) = true
        rw [t2]
        have : ¬ Int32.ofNat (2 * k + 1) = -1 := fun z => n1_oN (by omega) z.symm
        rw [decide_eq_false this]; rfl
    omega
/-- an empty layer: none behind it -/
theorem emp_on {k : Nat} (he : emp (ltn E (ls E M Wt k).1 (ls E M Wt k).2 (2 * k)) (2 * k)) (hk : k ≤ 50) : ∀ d, d ≤ 40 → (∀ w, w < 12 → (ls E M Wt (k + 1 + d)).1 w ≠ Int32.ofNat (2 * (k + 1 + d))) := by
  have key : ∀ j, j ≤ 99 → (∀ w, w < 12 → (ls E M Wt j).1 w ≠ Int32.ofNat (2 * j)) → emp (ltn E (ls E M Wt j).1 (ls E M Wt j).2 (2 * j)) (2 * j) := fun j hj h t ht e => by
    have hi := ls_I (E := E) (M := M) (Wt := Wt) j (by omega)
    rw [ltn_old (fun ⟨_, _, w, a, b, _⟩ => h w a b)] at e
    rcases hi.2.1 t with z | ⟨i, a, b, _⟩
    · rw [z] at e; exact n1_oN (by omega) e
    · rw [b, oN_inj (by omega) (by omega)] at e; omega
  have nx : ∀ j, j ≤ 99 → emp (ltn E (ls E M Wt j).1 (ls E M Wt j).2 (2 * j)) (2 * j) → ∀ w, w < 12 → (ls E M Wt (j + 1)).1 w ≠ Int32.ofNat (2 * (j + 1)) := fun j hj he w hw e => by
    have hi := ls_I (E := E) (M := M) (Wt := Wt) (j + 1) (by omega)
    rcases hi.2.2 w with z | z | ⟨i, a, b, c, d, f⟩
    · rw [z] at e; exact n1_oN (by omega) e
    · rw [z] at e
      have : (Int32.ofNat (2 * (j + 1)) = 0) = (2 * (j + 1) = 0) := leq_0 (by omega)
      rw [← e] at this
      have := this.mp rfl
      omega
    · rw [c, oN_inj (by omega) (by omega)] at e
      have ij : i = j + 1 := by omega
      rw [ij, show 2 * (j + 1) - 1 = 2 * j + 1 by omega] at f
      exact he (M w) d f
  intro d
  induction d with
  | zero => exact fun _ => nx k (by omega) he
  | succ d ih => exact fun hd => nx (k + 1 + d) (by omega) (key _ (by omega) (ih (by omega)))
theorem emp_nohit {lt : LA} {L : Nat} (h : emp lt L) : ¬ hit M lt L := fun ⟨t, a, b, _⟩ => h t a b
/-- no hit in twelve rounds: none at all in as many as are made -/
theorem no_all (h : ∀ j, j ≤ 11 → ¬ hitk E M Wt j) : ∀ k, k ≤ 40 → ¬ hitk E M Wt k := by
  have ex : ∃ k, k ≤ 12 ∧ emp (ltn E (ls E M Wt k).1 (ls E M Wt k).2 (2 * k)) (2 * k) := by
    apply Classical.byContradiction
    intro z
    have c := ls_cnt (E := E) (M := M) (Wt := Wt) 13 (by omega) fun j a b => z ⟨j, by omega, b⟩
    have := lc_le (ls E M Wt 13).2
    omega
  obtain ⟨k, k1, k2⟩ := ex
  intro i hi z
  by_cases c : i ≤ 11
  · exact h i c z
  · by_cases d : i = k
    · rw [d] at z; exact emp_nohit k2 z
    · have lt1 : k < i := by omega
      have := emp_on k2 (by omega) (i - (k + 1)) (by omega)
      rw [show k + 1 + (i - (k + 1)) = i by omega] at this
      have hi' := ls_I (E := E) (M := M) (Wt := Wt) i (by omega)
      refine emp_nohit (M := M) (fun t ht e => ?_) z
      rw [ltn_old (fun ⟨_, _, w, a, b, _⟩ => this w a b)] at e
      rcases hi'.2.1 t with y | ⟨j, a, b, _⟩
      · rw [y] at e; exact n1_oN (by omega) e
      · rw [b, oN_inj (by omega) (by omega)] at e; omega
theorem LAY.uniq {lw' lt' : LA} (h : LAY E M Wt lw lt) (h' : LAY E M Wt lw' lt') : lw = lw' ∧ lt = lt' := by
  obtain ⟨k, _, a, b, rfl, rfl⟩ := h
  obtain ⟨j, _, c, d, rfl, rfl⟩ := h'
  have : k = j := by
    rcases Nat.lt_trichotomy k j with z | z | z
    · exact absurd b (c k z)
    · exact z
    · exact absurd d (a j z)
  rw [this]; exact ⟨rfl, rfl⟩
def NOL (E : Nat → Nat → Bool) (M : Nat → Nat) (Wt : Int32) : Prop := ∀ j, j ≤ 11 → ¬ hitk E M Wt j
theorem LAY.no (h : LAY E M Wt lw lt) : ¬ NOL E M Wt := fun n => by
  obtain ⟨k, k1, _, b, _⟩ := h
  exact n k k1 b
/-- what the layers are good for -/
theorem LAY.J (h : LAY E M Wt lw lt) : ∃ K, K ≤ 11 ∧ LyJ E M Wt K lw lt ∧ ∃ t, t < 12 ∧ lt t = Int32.ofNat (2 * K + 1) ∧ ow M t = 12 := by
  obtain ⟨k, k1, _, b, rfl, rfl⟩ := h
  exact ⟨k, k1, (ls_I k (by omega)).tasks (by omega), b⟩
end Lf
/-! a phase -/
abbrev PS : Type := (Nat → Nat) × SB × Nat × Nat
noncomputable def ph1 (E : Nat → Nat → Bool) (lw lt : LA) (w : Nat) (s : PS) : PS :=
  if lw w = 0 then
    match (dsN E s.1 lw lt w s.2.1).2 with
    | some p => (updP s.1 p, (dsN E s.1 lw lt w s.2.1).1, s.2.2.1 + 1, 2 * p.length)
    | none => (s.1, (dsN E s.1 lw lt w s.2.1).1, s.2.2.1, s.2.2.2)
  else s
noncomputable def phF (E : Nat → Nat → Bool) (lw lt : LA) : Nat → Nat → PS → PS
  | 0, _, s => s
  | k + 1, w, s => phF E lw lt k (w + 1) (ph1 E lw lt w s)
section Pf
variable {E : Nat → Nat → Bool} {M : Nat → Nat} {Wt : Int32} {lw lt : LA}
/-- what holds between the roots -/
def PfI (E : Nat → Nat → Bool) (M0 : Nat → Nat) (lw : LA) (c0 w : Nat) (s : PS) : Prop := Ms E s.1 ∧ c0 ≤ s.2.2.1 ∧ sz s.1 + c0 = sz M0 + s.2.2.1 ∧ (∀ v, w ≤ v → lw v = 0 → s.1 v = 12) ∧ (∀ v, w ≤ v → (s.1 v = 12 ↔ M0 v = 12)) ∧ (s.2.2.1 = c0 → s.1 = M0)
theorem ph1_I (hE : Eb E) {M0 : Nat → Nat} {c0 w : Nat} {s : PS} (h : PfI E M0 lw c0 w s) : PfI E M0 lw c0 (w + 1) (ph1 E lw lt w s) := by
  obtain ⟨h1, h2, h3, h4, h5, h6⟩ := h
  have same : PfI E M0 lw c0 (w + 1) s := ⟨h1, h2, h3, fun v a => h4 v (by omega), fun v a => h5 v (by omega), h6⟩
  unfold ph1
  by_cases c : lw w = 0
  · rw [if_pos c]
    cases q : (dsN E s.1 lw lt w s.2.1).2 with
    | none => exact same
    | some p =>
      obtain ⟨a, b⟩ := dsN_path hE 12 w s.2.1 p (un_le _) q
      obtain ⟨d1, _, d2, d3⟩ := PV.doit hE h1 (h4 w (Nat.le_refl w) c) a b
      refine ⟨d1, by show c0 ≤ s.2.2.1 + 1; omega, by show sz (updP s.1 p) + c0 = sz M0 + (s.2.2.1 + 1); omega, fun v x y => (d3 v).mpr ⟨h4 v (by omega) y, by omega⟩, fun v x => ?_, fun z => ?_⟩
      · rw [← h5 v (by omega)]
        exact ⟨fun z => ((d3 v).mp z).1, fun z => (d3 v).mpr ⟨z, by omega⟩⟩
      · have z : s.2.2.1 + 1 = c0 := z
        omega
  · rw [if_neg c]; exact same
theorem phF_I (hE : Eb E) {M0 : Nat → Nat} {c0 : Nat} : ∀ (k w : Nat) {s : PS}, PfI E M0 lw c0 w s → PfI E M0 lw c0 (w + k) (phF E lw lt k w s)
  | 0, _, _, h => h
  | k + 1, w, s, h => by
    have := phF_I hE k (w + 1) (ph1_I (lt := lt) hE h)
    rw [show w + (k + 1) = w + 1 + k by omega]; exact this
/-- no way found: all roots are closed -/
def PfC (E : Nat → Nat → Bool) (M0 : Nat → Nat) (lw lt : LA) (c0 w : Nat) (s : PS) : Prop := s.2.2.1 = c0 → (∀ t, s.2.1 t = true → ow M0 t < 12 ∧ (lw (ow M0 t) = lt t + 1 → ∀ j, E (ow M0 t) j = true → lt j = lw (ow M0 t) + 1 → s.2.1 j = true)) ∧ ∀ v, v < w → lw v = 0 → ∀ j, E v j = true → lt j = lw v + 1 → s.2.1 j = true
theorem ph1_C (hE : Eb E) {M0 : Nat → Nat} {c0 w : Nat} {s : PS} (hi : PfI E M0 lw c0 w s) (h : PfC E M0 lw lt c0 w s) : PfC E M0 lw lt c0 (w + 1) (ph1 E lw lt w s) := by
  unfold ph1
  by_cases c : lw w = 0
  · rw [if_pos c]
    cases q : (dsN E s.1 lw lt w s.2.1).2 with
    | some p =>
      intro z
      have z : s.2.2.1 + 1 = c0 := z
      have := hi.2.1
      omega
    | none =>
      intro z
      have z : s.2.2.1 = c0 := z
      have em := hi.2.2.2.2.2 z
      obtain ⟨a, b⟩ := h z
      obtain ⟨f1, f2⟩ := dsN_fail (lw := lw) (lt := lt) hE 12 w s.2.1 (un_le _) q
      have mo := dsN_mono (E := E) (M := s.1) (lw := lw) (lt := lt) w s.2.1
      rw [em] at f1 f2 mo
      rw [em]
      refine ⟨fun t x => ?_, fun v x y j e l => ?_⟩
      · by_cases k : s.2.1 t = true
        · obtain ⟨g1, g2⟩ := a t k
          exact ⟨g1, fun l j e l2 => mo j (g2 l j e l2)⟩
        · exact f1 t x (by simpa using k)
      · by_cases k : v = w
        · rw [k] at e l; exact f2 j e l
        · exact mo j (b v (by omega) y j e l)
  · rw [if_neg c]
    intro z
    obtain ⟨a, b⟩ := h z
    refine ⟨a, fun v x y j e l => ?_⟩
    by_cases k : v = w
    · rw [k] at y; exact absurd y c
    · exact b v (by omega) y j e l
theorem phF_C (hE : Eb E) {M0 : Nat → Nat} {c0 : Nat} : ∀ (k w : Nat) {s : PS}, PfI E M0 lw c0 w s → PfC E M0 lw lt c0 w s → PfC E M0 lw lt c0 (w + k) (phF E lw lt k w s)
  | 0, _, _, _, h => h
  | k + 1, w, s, hi, h => by
    have := phF_C hE k (w + 1) (ph1_I (lt := lt) hE hi) (ph1_C hE hi h)
    rw [show w + (k + 1) = w + 1 + k by omega]; exact this
/-- a phase with layers makes one pair more at least -/
theorem phF_more (hE : Eb E) (hM : Ms E M) (hL : LAY E M Wt lw lt) {n : Nat} (hn : ∀ w t, E w t = true → w < n) {c l : Nat} : c + 1 ≤ (phF E lw lt n 0 (M, fun _ => false, c, l)).2.2.1 := by
  obtain ⟨K, hK, ⟨j1, j2, j3⟩, t0, a0, b0, c0⟩ := hL.J
  have hi : PfI E M lw c 0 (M, fun _ => false, c, l) := ⟨hM, Nat.le_refl _, rfl, fun v _ z => ((j1 v).mp z).2, fun v _ => Iff.rfl, fun _ => rfl⟩
  have hc : PfC E M lw lt c 0 (M, fun _ => false, c, l) := fun _ => ⟨fun t z => (by cases z), fun v z => absurd z (Nat.not_lt_zero _)⟩
  have r1 := phF_I (lt := lt) hE n 0 hi
  have r2 := phF_C hE n 0 hi hc
  have le := r1.2.1
  apply Classical.byContradiction
  intro z
  obtain ⟨f1, f2⟩ := r2 (by omega)
  have key : ∀ k, k ≤ K → ∀ t, lt t = Int32.ofNat (2 * k + 1) → (phF E lw lt n 0 (M, fun _ => false, c, l)).2.1 t = true := by
    intro k
    induction k with
    | zero =>
      intro _ t e
      rcases j2 t with y | ⟨j, x1, x2, w, x3, x4, x5⟩
      · rw [y] at e; exact absurd e (n1_oN (by omega))
      · rw [x2, oN_inj (by omega) (by omega)] at e
        have : j = 0 := by omega
        rw [this] at x4
        have x4 : lw w = 0 := x4
        refine f2 w (by have := hn w t x5; omega) x4 t x5 ?_
        rw [x2, this, x4]; decide
    | succ k ih =>
      intro hk t e
      rcases j2 t with y | ⟨j, x1, x2, w, x3, x4, x5⟩
      · rw [y] at e; exact absurd e (n1_oN (by omega))
      · rw [x2, oN_inj (by omega) (by omega)] at e
        have jk : j = k + 1 := by omega
        rw [jk] at x2 x4
        rcases j3 w with y | y | ⟨i, y1, y2, y3, y4, y5⟩
        · rw [y] at x4; exact absurd x4 (n1_oN (by omega))
        · rw [y] at x4
          have : (Int32.ofNat (2 * (k + 1)) = 0) = (2 * (k + 1) = 0) := leq_0 (by omega)
          rw [← x4] at this
          have := this.mp rfl
          omega
        · rw [x4, oN_inj (by omega) (by omega)] at y3
          have ik : i = k + 1 := by omega
          rw [ik] at y5
          have sm := ih (by omega) (M w) (by rw [y5, show 2 * (k + 1) - 1 = 2 * k + 1 by omega])
          obtain ⟨g1, g2⟩ := f1 (M w) sm
          rw [ow_of hM.1 y4] at g2
          refine g2 ?_ t x5 ?_
          · rw [x4, y5, i_succ]; congr 1
          · rw [x2, x4, i_succ]
  have := (f1 t0 (key K (Nat.le_refl K) t0 b0)).1
  omega
end Pf
/-! all phases -/
/-- pairs, phases, ways, those of the first phase, the last way's length -/
abbrev RS : Type := (Nat → Nat) × Nat × Nat × Nat × Nat
noncomputable def nxt (E : Nat → Nat → Bool) (n : Nat) (lw lt : LA) (s : RS) : RS :=
  ((phF E lw lt n 0 (s.1, fun _ => false, s.2.2.1, s.2.2.2.2)).1, s.2.1 + 1, (phF E lw lt n 0 (s.1, fun _ => false, s.2.2.1, s.2.2.2.2)).2.2.1, if s.2.1 = 0 then (phF E lw lt n 0 (s.1, fun _ => false, s.2.2.1, s.2.2.2.2)).2.2.1 else s.2.2.2.1, (phF E lw lt n 0 (s.1, fun _ => false, s.2.2.1, s.2.2.2.2)).2.2.2)
def Rr (E : Nat → Nat → Bool) (n : Nat) (Wt : Int32) : Nat → RS → RS → Prop
  | 0, s, s' => NOL E s.1 Wt ∧ s' = s
  | d + 1, s, s' => ∃ lw lt, LAY E s.1 Wt lw lt ∧ Rr E n Wt d (nxt E n lw lt s) s'
theorem Rr.uniq {E : Nat → Nat → Bool} {n : Nat} {Wt : Int32} : ∀ {d d' : Nat} {s s1 s2 : RS}, Rr E n Wt d s s1 → Rr E n Wt d' s s2 → s1 = s2
  | 0, 0, _, _, _, h, h' => h.2.trans h'.2.symm
  | 0, _ + 1, _, _, _, h, ⟨_, _, l, _⟩ => absurd h.1 l.no
  | _ + 1, 0, _, _, _, ⟨_, _, l, _⟩, h => absurd h.1 l.no
  | _ + 1, _ + 1, _, _, _, ⟨_, _, l, h⟩, ⟨_, _, l', h'⟩ => by
    obtain ⟨rfl, rfl⟩ := l.uniq l'
    exact h.uniq h'
