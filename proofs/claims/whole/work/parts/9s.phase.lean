/-! MATHEMATICS: layers, and the search deep first -/
abbrev LA : Type := Nat → Int32
abbrev SB : Type := Nat → Bool
abbrev DR : Type := SB × Option (List (Nat × Nat))
section Ly
variable (E : Nat → Nat → Bool) (M : Nat → Nat)
/-- the tasks of the layer behind L; their workers behind it -/
noncomputable def ltn (lw lt : LA) (L : Nat) : LA := fun t => if pb (lt t = -1 ∧ t < 12 ∧ ∃ w, w < 12 ∧ lw w = Int32.ofNat L ∧ E w t = true) then Int32.ofNat (L + 1) else lt t
def lwn (lw lt : LA) (L : Nat) : LA := fun w => if M w < 12 ∧ lt (M w) = Int32.ofNat (L + 1) then Int32.ofNat (L + 2) else lw w
/-- a free task in the layer; none in it -/
def hit (lt : LA) (L : Nat) : Prop := ∃ t, t < 12 ∧ lt t = Int32.ofNat (L + 1) ∧ ow M t = 12
def emp (lt : LA) (L : Nat) : Prop := ∀ t, t < 12 → lt t ≠ Int32.ofNat (L + 1)
/-- the first layers: of free workers -/
def lw0 (Wt : Int32) : LA := fun w => if hb Wt w = true ∧ M w = 12 then 0 else -1
noncomputable def ls (Wt : Int32) : Nat → LA × LA
  | 0 => (lw0 M Wt, fun _ => -1)
  | k + 1 => (lwn M (ls Wt k).1 (ltn E (ls Wt k).1 (ls Wt k).2 (2 * k)) (2 * k), ltn E (ls Wt k).1 (ls Wt k).2 (2 * k))
def hitk (Wt : Int32) (k : Nat) : Prop := hit M (ltn E (ls E M Wt k).1 (ls E M Wt k).2 (2 * k)) (2 * k)
def LAY (Wt : Int32) (lw lt : LA) : Prop := ∃ k, k ≤ 11 ∧ (∀ j, j < k → ¬ hitk E M Wt j) ∧ hitk E M Wt k ∧ lw = (ls E M Wt k).1 ∧ lt = ltn E (ls E M Wt k).1 (ls E M Wt k).2 (2 * k)
def NOLAY (Wt : Int32) : Prop := ∀ k, ¬ hitk E M Wt k
/-- looked at from w, at task j -/
def qd (lw lt : LA) (w j : Nat) (S : SB) : Bool := E w j && !S j && decide (lt j = lw w + 1)
def ins (S : SB) (j : Nat) : SB := fun k => S k || decide (k = j)
noncomputable def dsL (lw lt : LA) (rec : Nat → SB → DR) (w : Nat) : Nat → Nat → SB → DR
  | 0, _, S => (S, none)
  | k + 1, j, S =>
    if qd E lw lt w j S = true then
      if ow M j = 12 then (ins S j, some [(w, j)])
      else if lw (ow M j) = lt j + 1 then
        match (rec (ow M j) (ins S j)).2 with
        | some p => ((rec (ow M j) (ins S j)).1, some ((w, j) :: p))
        | none => dsL lw lt rec w k (j + 1) (rec (ow M j) (ins S j)).1
      else dsL lw lt rec w k (j + 1) (ins S j)
    else dsL lw lt rec w k (j + 1) S
noncomputable def ds (lw lt : LA) : Nat → Nat → SB → DR
  | 0, _, S => (S, none)
  | d + 1, w, S => dsL E M lw lt (ds lw lt d) w 12 0 S
noncomputable def dsN (lw lt : LA) (w : Nat) (S : SB) : DR := ds E M lw lt 13 w S
end Ly
def un (S : SB) : Nat := cnt (fun t => !S t) 12
section Lz
variable {E : Nat → Nat → Bool} {M : Nat → Nat} {Wt : Int32} {lw lt : LA}
theorem un_le (S : SB) : un S ≤ 12 := cnt_le _ _
theorem un_ins {S : SB} {j : Nat} (hj : j < 12) (h : S j = false) : un (ins S j) + 1 = un S := by
  unfold un
  rw [cnt_del (p := fun t => !S t) (n := 12) hj (by simp [h])]
  congr 1
  exact cnt_congr fun k _ => by unfold ins; by_cases z : k = j <;> simp [z]
theorem un_mono {S S' : SB} (h : ∀ k, S k = true → S' k = true) : un S' ≤ un S := cnt_mono fun k _ q => by
  cases z : S k with
  | false => rfl
  | true => rw [h k z] at q; cases q
/-- what the search leaves seen -/
theorem dsL_mono {rec : Nat → SB → DR} (hr : ∀ v S k, S k = true → (rec v S).1 k = true) {w : Nat} : ∀ (k j : Nat) (S : SB) (i : Nat), S i = true → (dsL E M lw lt rec w k j S).1 i = true
  | 0, j, S, i, h => h
  | k + 1, j, S, i, h => by
    have hi : ins S j i = true := by unfold ins; rw [h]; rfl
    unfold dsL
    split
    · split
      · exact hi
      · split
        · cases q : (rec (ow M j) (ins S j)).2 with
          | some p => exact hr _ _ i hi
          | none => exact dsL_mono hr k (j + 1) _ i (hr _ _ i hi)
        · exact dsL_mono hr k (j + 1) _ i hi
    · exact dsL_mono hr k (j + 1) S i h
theorem ds_mono : ∀ (d w : Nat) (S : SB) (i : Nat), S i = true → (ds E M lw lt d w S).1 i = true
  | 0, _, _, _, h => h
  | d + 1, w, S, i, h => dsL_mono (fun v S k => ds_mono d v S k) 12 0 S i h
theorem dsL_congr (hE : Eb E) {rec rec' : Nat → SB → DR} {w c : Nat} (hr : ∀ v S, un S < c → rec v S = rec' v S) (hm : ∀ v S k, S k = true → (rec v S).1 k = true) : ∀ (k j : Nat) (S : SB), un S ≤ c → dsL E M lw lt rec w k j S = dsL E M lw lt rec' w k j S
  | 0, j, S, h => rfl
  | k + 1, j, S, h => by
    unfold dsL
    by_cases q : qd E lw lt w j S = true
    · rw [if_pos q, if_pos q]
      have q' := q
      unfold qd at q'
      simp only [Bool.and_eq_true, Bool.not_eq_true'] at q'
      have hj := (hE _ _ q'.1.1).2
      have u := un_ins hj q'.1.2
      by_cases o : ow M j = 12
      · rw [if_pos o, if_pos o]
      · rw [if_neg o, if_neg o]
        by_cases l : lw (ow M j) = lt j + 1
        · rw [if_pos l, if_pos l]
          have e := hr (ow M j) (ins S j) (by omega)
          rw [← e]
          cases z : (rec (ow M j) (ins S j)).2 with
          | some p => rfl
          | none =>
            have := un_mono (hm (ow M j) (ins S j))
            exact dsL_congr hE hr hm k (j + 1) _ (by omega)
        · rw [if_neg l, if_neg l]
          exact dsL_congr hE hr hm k (j + 1) _ (by omega)
    · rw [if_neg q, if_neg q]
      exact dsL_congr hE hr hm k (j + 1) S h
theorem ds_fuel (hE : Eb E) : ∀ (d w : Nat) (S : SB), un S < d → ds E M lw lt d w S = ds E M lw lt (d + 1) w S
  | 0, _, _, h => absurd h (Nat.not_lt_zero _)
  | d + 1, w, S, h => by
    show dsL E M lw lt (ds E M lw lt d) w 12 0 S = dsL E M lw lt (ds E M lw lt (d + 1)) w 12 0 S
    exact dsL_congr hE (c := d) (fun v S h => ds_fuel hE d v S h) (fun v S k => ds_mono d v S k) 12 0 S (by omega)
/-- its equation -/
theorem dsN_eq (hE : Eb E) {w : Nat} {S : SB} : dsN E M lw lt w S = dsL E M lw lt (dsN E M lw lt) w 12 0 S := by
  show dsL E M lw lt (ds E M lw lt 12) w 12 0 S = _
  exact dsL_congr hE (c := 12) (fun v S h => ds_fuel hE 12 v S h) (fun v S k => ds_mono 12 v S k) 12 0 S (un_le S)
theorem dsN_mono (w : Nat) (S : SB) (i : Nat) (h : S i = true) : (dsN E M lw lt w S).1 i = true := ds_mono 13 w S i h
/-- tasks that are done with: from the first on is from here on -/
theorem dsL_skip {rec : Nat → SB → DR} {w : Nat} : ∀ (d k j : Nat) (S : SB), (∀ i, j ≤ i → i < j + d → qd E lw lt w i S = false) → dsL E M lw lt rec w (d + k) j S = dsL E M lw lt rec w k (j + d) S
  | 0, k, j, S, h => by rw [Nat.zero_add, Nat.add_zero]
  | d + 1, k, j, S, h => by
    rw [show d + 1 + k = d + k + 1 by omega]
    have q := h j (Nat.le_refl j) (by omega)
    have : dsL E M lw lt rec w (d + k + 1) j S = dsL E M lw lt rec w (d + k) (j + 1) S := by
      rw [dsL, if_neg (by rw [q]; simp)]
    rw [this, dsL_skip d k (j + 1) S (fun i a b => h i (by omega) (by omega)), show j + 1 + d = j + (d + 1) by omega]
theorem qd_mono {w j : Nat} {S S' : SB} (h : ∀ k, S k = true → S' k = true) (q : qd E lw lt w j S = false) : qd E lw lt w j S' = false := by
  unfold qd at q ⊢
  cases z : S' j with
  | true => simp
  | false =>
    have : S j = false := by
      cases y : S j with
      | false => rfl
      | true => rw [h j y] at z; cases z
    rw [this] at q; simpa using q
theorem qd_ins {w j : Nat} {S : SB} (h : S j = true) : qd E lw lt w j S = false := by unfold qd; rw [h]; simp
/-- the search from w, by the first task that it looks at -/
theorem dsN_none (hE : Eb E) {w : Nat} {S : SB} (h : ∀ i, i < 12 → qd E lw lt w i S = false) : dsN E M lw lt w S = (S, none) := by
  rw [dsN_eq hE]
  exact dsL_skip 12 0 0 S (fun i _ b => h i (by omega))
theorem dsN_first (hE : Eb E) {w j : Nat} {S : SB} (hj : j < 12) (q : qd E lw lt w j S = true) (h : ∀ i, i < j → qd E lw lt w i S = false) : dsN E M lw lt w S = if ow M j = 12 then (ins S j, some [(w, j)]) else if lw (ow M j) = lt j + 1 then (match (dsN E M lw lt (ow M j) (ins S j)).2 with
        | some p => ((dsN E M lw lt (ow M j) (ins S j)).1, some ((w, j) :: p))
        | none => dsN E M lw lt w (dsN E M lw lt (ow M j) (ins S j)).1) else dsN E M lw lt w (ins S j) := by
  have e1 : dsN E M lw lt w S = dsL E M lw lt (dsN E M lw lt) w (11 - j + 1) j S := by
    rw [dsN_eq hE]
    have := dsL_skip (E := E) (M := M) (lw := lw) (lt := lt) (rec := dsN E M lw lt) (w := w) j (11 - j + 1) 0 S (fun i _ b => h i (by omega))
    rw [show j + (11 - j + 1) = 12 by omega, Nat.zero_add] at this
    exact this
  -- from the next on is from the first on, once j is seen
  have nx : ∀ S', (∀ k, ins S j k = true → S' k = true) → dsN E M lw lt w S' = dsL E M lw lt (dsN E M lw lt) w (11 - j) (j + 1) S' := fun S' hs => by
    rw [dsN_eq hE]
    have := dsL_skip (E := E) (M := M) (lw := lw) (lt := lt) (rec := dsN E M lw lt) (w := w) (j + 1) (11 - j) 0 S' (fun i _ b => by
      by_cases z : i = j
      · rw [z]; exact qd_ins (hs j (by unfold ins; simp))
      · exact qd_mono (fun k y => hs k (by unfold ins; rw [y]; rfl)) (h i (by omega)))
    rw [show j + 1 + (11 - j) = 12 by omega, Nat.zero_add] at this
    exact this
  rw [e1, dsL, if_pos q]
  by_cases o : ow M j = 12
  · rw [if_pos o, if_pos o]
  · rw [if_neg o, if_neg o]
    by_cases l : lw (ow M j) = lt j + 1
    · rw [if_pos l, if_pos l]
      cases z : (dsN E M lw lt (ow M j) (ins S j)).2 with
      | some p => rfl
      | none => exact (nx _ (dsN_mono _ _)).symm
    · rw [if_neg l, if_neg l]
      exact (nx _ fun k y => y).symm
end Lz
