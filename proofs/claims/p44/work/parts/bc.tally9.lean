/-! MATHEMATICS: from a set to the end: the least cost, how many of it, the first of them -/
def okB (E : Nat → Nat → Bool) (S w j : Nat) : Bool := !S.testBit j && E w j
theorem okB_t {E : Nat → Nat → Bool} {S w j : Nat} (h : okB E S w j = true) : S.testBit j = false ∧ E w j = true := by
  unfold okB at h
  have := (Bool.and_eq_true _ _).mp h
  exact ⟨by simpa using this.1, this.2⟩
theorem okB_i {E : Nat → Nat → Bool} {S w j : Nat} (h1 : S.testBit j = false) (h2 : E w j = true) : okB E S w j = true := by
  unfold okB; rw [h1, h2]; rfl
def mnf (p : Nat → Bool) (g : Nat → Nat) : Nat → Nat → Nat
  | 0, b => b
  | j + 1, b => if p j = true then min (mnf p g j b) (g j) else mnf p g j b
theorem mnf_le0 {p : Nat → Bool} {g : Nat → Nat} {b : Nat} : ∀ j : Nat, mnf p g j b ≤ b
  | 0 => Nat.le_refl _
  | j + 1 => by
    have := mnf_le0 (p := p) (g := g) (b := b) j
    show (if p j = true then min (mnf p g j b) (g j) else mnf p g j b) ≤ b
    split <;> omega
theorem mnf_le {p : Nat → Bool} {g : Nat → Nat} {b k : Nat} (hp : p k = true) : ∀ {j : Nat}, k < j → mnf p g j b ≤ g k
  | j + 1, h => by
    show (if p j = true then min (mnf p g j b) (g j) else mnf p g j b) ≤ g k
    by_cases z : k = j
    · subst z
      rw [if_pos hp]; omega
    · have := mnf_le (g := g) (b := b) hp (j := j) (by omega)
      split <;> omega
theorem mnf_at {p : Nat → Bool} {g : Nat → Nat} {b : Nat} : ∀ j : Nat, mnf p g j b = b ∨ ∃ k, k < j ∧ p k = true ∧ mnf p g j b = g k
  | 0 => Or.inl rfl
  | j + 1 => by
    show (if p j = true then min (mnf p g j b) (g j) else mnf p g j b) = b ∨ ∃ k, k < j + 1 ∧ p k = true ∧ (if p j = true then min (mnf p g j b) (g j) else mnf p g j b) = g k
    have ih := mnf_at (p := p) (g := g) (b := b) j
    by_cases z : p j = true
    · rw [if_pos z]
      by_cases y : g j ≤ mnf p g j b
      · exact Or.inr ⟨j, by omega, z, by omega⟩
      · rcases ih with q | ⟨k, a, b', d⟩
        · exact Or.inl (by omega)
        · exact Or.inr ⟨k, by omega, b', by omega⟩
    · rw [if_neg z]
      rcases ih with q | ⟨k, a, b', d⟩
      · exact Or.inl q
      · exact Or.inr ⟨k, by omega, b', d⟩
theorem mnf_stop {p : Nat → Bool} {g : Nat → Nat} {b j : Nat} : ∀ d : Nat, (∀ k, j ≤ k → p k = false) → mnf p g (j + d) b = mnf p g j b
  | 0, _ => rfl
  | d + 1, h => by
    show (if p (j + d) = true then _ else mnf p g (j + d) b) = _
    rw [if_neg (by rw [h (j + d) (by omega)]; simp), mnf_stop d h]
theorem sgm_ge {f : Nat → Nat} {k : Nat} : ∀ {n : Nat}, k < n → f k ≤ sgm f n
  | n + 1, h => by
    show f k ≤ sgm f n + f n
    by_cases z : k = n
    · rw [z]; omega
    · have := sgm_ge (f := f) (k := k) (n := n) (by omega); omega
section Ba
variable (E : Nat → Nat → Bool) (c : Nat → Nat → Nat) (N : Nat)
/-- completions by the last d of 12 workers behind S: cost and code -/
def BP : Nat → Nat → Nat → Nat → Prop
  | 0, S, v, x => cnt (fun k => S.testBit k) 12 = N ∧ v = 0 ∧ x = 0
  | d + 1, S, v, x => (∃ y, BP d S v y ∧ x = y + 12 * 13 ^ d) ∨ ∃ j, j < 12 ∧ S.testBit j = false ∧ E (12 - (d + 1)) j = true ∧ ∃ u y, BP d (S ^^^ 2 ^ j) u y ∧ v = u + c (12 - (d + 1)) j ∧ x = y + j * 13 ^ d
/-- the least -/
def lsB : Nat → Nat → Nat
  | 0, S => if cnt (fun k => S.testBit k) 12 = N then 0 else 1000000
  | d + 1, S => min (mnf (okB E S (12 - (d + 1))) (fun j => c (12 - (d + 1)) j + lsB d (S ^^^ 2 ^ j)) 12 (lsB d S)) 1000000
def mnB (d S : Nat) : Nat := mnf (okB E S (12 - (d + 1))) (fun j => c (12 - (d + 1)) j + lsB E c N d (S ^^^ 2 ^ j)) 12 (lsB E c N d S)
/-- how many -/
def lsW : Nat → Nat → Nat
  | 0, S => if cnt (fun k => S.testBit k) 12 = N then 1 else 0
  | d + 1, S => if mnB E c N d S < 1000000 then (if lsB E c N d S = mnB E c N d S then lsW d S else 0) + sgm (fun j => if okB E S (12 - (d + 1)) j = true ∧ c (12 - (d + 1)) j + lsB E c N d (S ^^^ 2 ^ j) = mnB E c N d S then lsW d (S ^^^ 2 ^ j) else 0) 12 else 0
/-- the first task that comes to the least (12: none) -/
noncomputable def gj (d S : Nat) : Nat := fi (fun j => okB E S (12 - (d + 1)) j && decide (c (12 - (d + 1)) j + lsB E c N d (S ^^^ 2 ^ j) = lsB E c N (d + 1) S)) 12
noncomputable def gc : Nat → Nat → Nat
  | 0, _ => 0
  | d + 1, S => if gj E c N d S < 12 then gc d (S ^^^ 2 ^ gj E c N d S) + gj E c N d S * 13 ^ d else gc d S + 12 * 13 ^ d
/-- the tasks taken ahead of worker w -/
noncomputable def gSt : Nat → Nat
  | 0 => 0
  | w + 1 => if gj E c N (11 - w) (gSt w) < 12 then gSt w ^^^ 2 ^ gj E c N (11 - w) (gSt w) else gSt w
noncomputable def gW (w : Nat) : Nat := gj E c N (11 - w) (gSt E c N w)
end Ba
section Bb
variable {E : Nat → Nat → Bool} {c : Nat → Nat → Nat} {N : Nat}
theorem lsB_succ (d S : Nat) : lsB E c N (d + 1) S = min (mnB E c N d S) 1000000 := rfl
theorem lsB_main (hc : ∀ w t, c w t ≤ 99) : ∀ (d S : Nat), d ≤ 12 → (lsB E c N d S = 1000000 ∧ (∀ v, MB E c 12 N d S v = 0) ∧ lsW E c N d S = 0) ∨ (lsB E c N d S ≤ 99 * d ∧ lsW E c N d S ≠ 0 ∧ MB E c 12 N d S (lsB E c N d S) = lsW E c N d S ∧ ∀ u, u < lsB E c N d S → MB E c 12 N d S u = 0)
  | 0, S, _ => by
    show ((if cnt (fun k => S.testBit k) 12 = N then 0 else 1000000) = 1000000 ∧ (∀ v, (if cnt (fun k => S.testBit k) 12 = N ∧ v = 0 then 1 else 0) = 0) ∧ (if cnt (fun k => S.testBit k) 12 = N then 1 else 0) = 0) ∨ ((if cnt (fun k => S.testBit k) 12 = N then 0 else 1000000) ≤ 0 ∧ (if cnt (fun k => S.testBit k) 12 = N then 1 else 0) ≠ 0 ∧ (if cnt (fun k => S.testBit k) 12 = N ∧ (if cnt (fun k => S.testBit k) 12 = N then 0 else 1000000) = 0 then 1 else 0) = (if cnt (fun k => S.testBit k) 12 = N then 1 else 0) ∧ ∀ u, u < (if cnt (fun k => S.testBit k) 12 = N then 0 else 1000000) → (if cnt (fun k => S.testBit k) 12 = N ∧ u = 0 then 1 else 0) = 0)
    by_cases z : cnt (fun k => S.testBit k) 12 = N
    · right
      simp [z]
    · left
      simp [z]
  | d + 1, S, hd => by
    have Z : ∀ S u, u < lsB E c N d S → MB E c 12 N d S u = 0 := fun S u h => by
      rcases lsB_main hc d S (by omega) with ⟨_, a, _⟩ | ⟨_, _, _, a⟩
      · exact a u
      · exact a u h
    have F : ∀ S, lsB E c N d S < 1000000 → lsB E c N d S ≤ 99 * d ∧ lsW E c N d S ≠ 0 ∧ MB E c 12 N d S (lsB E c N d S) = lsW E c N d S := fun S h => by
      rcases lsB_main hc d S (by omega) with ⟨a, _, _⟩ | ⟨a, b, e, _⟩
      · omega
      · exact ⟨a, b, e⟩
    have G : ∀ S, 100000 < lsB E c N d S → ∀ v, MB E c 12 N d S v = 0 := fun S h => by
      rcases lsB_main hc d S (by omega) with ⟨_, a, _⟩ | ⟨a, _⟩
      · exact a
      · omega
    have m0 : mnB E c N d S ≤ lsB E c N d S := mnf_le0 12
    have mj : ∀ j, j < 12 → okB E S (12 - (d + 1)) j = true → mnB E c N d S ≤ c (12 - (d + 1)) j + lsB E c N d (S ^^^ 2 ^ j) := fun j hj o => mnf_le (g := fun j => c (12 - (d + 1)) j + lsB E c N d (S ^^^ 2 ^ j)) o hj
    have mS : ∀ v, MB E c 12 N (d + 1) S v = MB E c 12 N d S v + sgm (fun j => if okB E S (12 - (d + 1)) j = true ∧ c (12 - (d + 1)) j ≤ v then MB E c 12 N d (S ^^^ 2 ^ j) (v - c (12 - (d + 1)) j) else 0) 12 := fun v => by
      rw [MB_succ]
      congr 1
      refine sgm_congr fun j _ => ?_
      by_cases z : okB E S (12 - (d + 1)) j = true ∧ c (12 - (d + 1)) j ≤ v
      · rw [if_pos z, if_pos ⟨okB_t z.1, z.2⟩]
      · rw [if_neg z, if_neg fun y => z ⟨okB_i y.1.1 y.1.2, y.2⟩]
    rw [lsB_succ]
    have eW : lsW E c N (d + 1) S = if mnB E c N d S < 1000000 then (if lsB E c N d S = mnB E c N d S then lsW E c N d S else 0) + sgm (fun j => if okB E S (12 - (d + 1)) j = true ∧ c (12 - (d + 1)) j + lsB E c N d (S ^^^ 2 ^ j) = mnB E c N d S then lsW E c N d (S ^^^ 2 ^ j) else 0) 12 else 0 := rfl
    rw [eW]
    by_cases z : mnB E c N d S < 1000000
    · right
      rw [if_pos z, Nat.min_eq_left (by omega)]
      have at' := mnf_at (p := okB E S (12 - (d + 1))) (g := fun j => c (12 - (d + 1)) j + lsB E c N d (S ^^^ 2 ^ j)) (b := lsB E c N d S) 12
      have at' : mnB E c N d S = lsB E c N d S ∨ ∃ k, k < 12 ∧ okB E S (12 - (d + 1)) k = true ∧ mnB E c N d S = c (12 - (d + 1)) k + lsB E c N d (S ^^^ 2 ^ k) := at'
      refine ⟨?_, ?_, ?_, fun u hu => ?_⟩
      · rcases at' with q | ⟨k, _, _, q⟩
        · have := (F S (by omega)).1; omega
        · have := (F (S ^^^ 2 ^ k) (by omega)).1
          have := hc (12 - (d + 1)) k
          omega
      · rcases at' with q | ⟨k, hk, o, q⟩
        · have := (F S (by omega)).2.1
          rw [if_pos q.symm]; omega
        · have a := (F (S ^^^ 2 ^ k) (by omega)).2.1
          have b := sgm_ge (f := fun j => if okB E S (12 - (d + 1)) j = true ∧ c (12 - (d + 1)) j + lsB E c N d (S ^^^ 2 ^ j) = mnB E c N d S then lsW E c N d (S ^^^ 2 ^ j) else 0) hk
          have b : (if okB E S (12 - (d + 1)) k = true ∧ c (12 - (d + 1)) k + lsB E c N d (S ^^^ 2 ^ k) = mnB E c N d S then lsW E c N d (S ^^^ 2 ^ k) else 0) ≤ _ := b
          rw [if_pos ⟨o, q.symm⟩] at b
          omega
      · rw [mS]
        congr 1
        · by_cases q : lsB E c N d S = mnB E c N d S
          · rw [if_pos q, ← q]
            exact (F S (by omega)).2.2
          · rw [if_neg q]
            exact Z S _ (by omega)
        · refine sgm_congr fun j hj => ?_
          by_cases o : okB E S (12 - (d + 1)) j = true
          · have le := mj j hj o
            by_cases q : c (12 - (d + 1)) j + lsB E c N d (S ^^^ 2 ^ j) = mnB E c N d S
            · rw [if_pos ⟨o, by omega⟩, if_pos ⟨o, q⟩, show mnB E c N d S - c (12 - (d + 1)) j = lsB E c N d (S ^^^ 2 ^ j) by omega]
              exact (F _ (by omega)).2.2
            · rw [if_neg (show ¬ (okB E S (12 - (d + 1)) j = true ∧ c (12 - (d + 1)) j + lsB E c N d (S ^^^ 2 ^ j) = mnB E c N d S) from fun y => q y.2)]
              by_cases y : c (12 - (d + 1)) j ≤ mnB E c N d S
              · rw [if_pos ⟨o, y⟩]
                exact Z _ _ (by omega)
              · exact if_neg fun x => y x.2
          · rw [if_neg fun y => o y.1, if_neg fun y => o y.1]
      · rw [mS, Z S u (by omega), sgm_zero fun j hj => ?_]
        by_cases o : okB E S (12 - (d + 1)) j = true ∧ c (12 - (d + 1)) j ≤ u
        · have le := mj j hj o.1
          rw [if_pos o]
          exact Z _ _ (by omega)
        · exact if_neg o
    · left
      rw [if_neg z, Nat.min_eq_right (by omega)]
      refine ⟨rfl, fun v => ?_, rfl⟩
      rw [mS, G S (by omega) v, sgm_zero fun j hj => ?_]
      by_cases o : okB E S (12 - (d + 1)) j = true ∧ c (12 - (d + 1)) j ≤ v
      · have le := mj j hj o.1
        have := hc (12 - (d + 1)) j
        rw [if_pos o]
        exact G _ (by omega) _
      · exact if_neg o
theorem BP_MB : ∀ (d S v x : Nat), BP E c N d S v x → MB E c 12 N d S v ≠ 0
  | 0, S, v, x, h => by
    obtain ⟨a, b, _⟩ := h
    show (if cnt (fun k => S.testBit k) 12 = N ∧ v = 0 then 1 else 0) ≠ 0
    rw [if_pos ⟨a, b⟩]; decide
  | d + 1, S, v, x, h => by
    rw [MB_succ]
    rcases h with ⟨y, a, _⟩ | ⟨j, hj, s, e, u, y, a, ev, _⟩
    · have := BP_MB d S v y a; omega
    · have q := BP_MB d _ u y a
      have b := sgm_ge (f := fun j => if (S.testBit j = false ∧ E (12 - (d + 1)) j = true) ∧ c (12 - (d + 1)) j ≤ v then MB E c 12 N d (S ^^^ 2 ^ j) (v - c (12 - (d + 1)) j) else 0) hj
      have b : (if (S.testBit j = false ∧ E (12 - (d + 1)) j = true) ∧ c (12 - (d + 1)) j ≤ v then MB E c 12 N d (S ^^^ 2 ^ j) (v - c (12 - (d + 1)) j) else 0) ≤ _ := b
      rw [if_pos ⟨⟨s, e⟩, by omega⟩, show v - c (12 - (d + 1)) j = u by omega] at b
      omega
theorem BP_ls (hc : ∀ w t, c w t ≤ 99) {d S v x : Nat} (hd : d ≤ 12) (h : BP E c N d S v x) : lsB E c N d S ≤ v ∧ lsB E c N d S < 1000000 := by
  have n := BP_MB d S v x h
  rcases lsB_main (E := E) (N := N) hc d S hd with ⟨_, a, _⟩ | ⟨a, _, _, b⟩
  · exact absurd (a v) n
  · refine ⟨?_, by omega⟩
    by_cases z : v < lsB E c N d S
    · exact absurd (b v z) n
    · omega
theorem gj_le (d S : Nat) : gj E c N d S ≤ 12 := fi_le _ _
theorem gc_lt : ∀ (d S : Nat), gc E c N d S < 13 ^ d
  | 0, _ => Nat.one_pos
  | d + 1, S => by
    show (if gj E c N d S < 12 then gc E c N d (S ^^^ 2 ^ gj E c N d S) + gj E c N d S * 13 ^ d else gc E c N d S + 12 * 13 ^ d) < 13 ^ (d + 1)
    rw [Nat.pow_succ]
    have a := gc_lt d S
    have b := gc_lt d (S ^^^ 2 ^ gj E c N d S)
    split
    · have := Nat.mul_le_mul_right (13 ^ d) (show gj E c N d S ≤ 12 by omega)
      omega
    · omega
theorem gj_ok {d S : Nat} (h : gj E c N d S < 12) : okB E S (12 - (d + 1)) (gj E c N d S) = true ∧ c (12 - (d + 1)) (gj E c N d S) + lsB E c N d (S ^^^ 2 ^ gj E c N d S) = lsB E c N (d + 1) S := by
  have := (Bool.and_eq_true _ _).mp (fi_p h)
  exact ⟨this.1, of_decide_eq_true this.2⟩
theorem gj_min {d S j : Nat} (hj : j < 12) (o : okB E S (12 - (d + 1)) j = true) (e : c (12 - (d + 1)) j + lsB E c N d (S ^^^ 2 ^ j) = lsB E c N (d + 1) S) : gj E c N d S ≤ j := fi_le_of (by rw [o, decide_eq_true e]; rfl) hj
theorem gj_none {d S : Nat} (hl : lsB E c N (d + 1) S < 1000000) (h : gj E c N d S = 12) : lsB E c N d S = lsB E c N (d + 1) S := by
  have e := lsB_succ (E := E) (c := c) (N := N) d S
  have at' : mnB E c N d S = lsB E c N d S ∨ ∃ k, k < 12 ∧ okB E S (12 - (d + 1)) k = true ∧ mnB E c N d S = c (12 - (d + 1)) k + lsB E c N d (S ^^^ 2 ^ k) := mnf_at 12
  rcases at' with q | ⟨k, hk, o, q⟩
  · omega
  · have := gj_min (c := c) (N := N) hk o (by omega)
    omega
theorem gc_BP : ∀ (d S : Nat), lsB E c N d S < 1000000 → BP E c N d S (lsB E c N d S) (gc E c N d S)
  | 0, S, h => by
    have h : (if cnt (fun k => S.testBit k) 12 = N then 0 else 1000000) < 1000000 := h
    show cnt (fun k => S.testBit k) 12 = N ∧ (if cnt (fun k => S.testBit k) 12 = N then 0 else 1000000) = 0 ∧ 0 = 0
    by_cases z : cnt (fun k => S.testBit k) 12 = N
    · rw [if_pos z]; exact ⟨z, rfl, rfl⟩
    · rw [if_neg z] at h; omega
  | d + 1, S, h => by
    by_cases z : gj E c N d S < 12
    · have e : gc E c N (d + 1) S = gc E c N d (S ^^^ 2 ^ gj E c N d S) + gj E c N d S * 13 ^ d := if_pos z
      obtain ⟨o, q⟩ := gj_ok z
      have oo := okB_t o
      rw [e]
      exact Or.inr ⟨_, z, oo.1, oo.2, _, _, gc_BP d _ (by omega), by omega, rfl⟩
    · have e : gc E c N (d + 1) S = gc E c N d S + 12 * 13 ^ d := if_neg z
      have q := gj_none h (by have := gj_le (E := E) (c := c) (N := N) d S; omega)
      rw [e, ← q]
      exact Or.inl ⟨_, gc_BP d S (by omega), rfl⟩
theorem gc_min (hc : ∀ w t, c w t ≤ 99) : ∀ (d S x : Nat), d ≤ 12 → BP E c N d S (lsB E c N d S) x → gc E c N d S ≤ x
  | 0, S, x, _, _ => Nat.zero_le _
  | d + 1, S, x, hd, h => by
    have hl := (BP_ls hc hd h).2
    have l1 := gc_lt (E := E) (c := c) (N := N) d (S ^^^ 2 ^ gj E c N d S)
    have gl := gj_le (E := E) (c := c) (N := N) d S
    have e1 : gj E c N d S < 12 → gc E c N (d + 1) S = gc E c N d (S ^^^ 2 ^ gj E c N d S) + gj E c N d S * 13 ^ d := fun z => if_pos z
    have e2 : ¬ gj E c N d S < 12 → gc E c N (d + 1) S = gc E c N d S + 12 * 13 ^ d := fun z => if_neg z
    have big : ∀ j, gj E c N d S < j → gj E c N d S * 13 ^ d + 13 ^ d ≤ j * 13 ^ d := fun j hj => by
      have := Nat.mul_le_mul_right (13 ^ d) (show gj E c N d S + 1 ≤ j by omega)
      rw [Nat.add_mul, Nat.one_mul] at this
      exact this
    have es := lsB_succ (E := E) (c := c) (N := N) d S
    rcases h with ⟨y, a, ex⟩ | ⟨j, hj, s, e, u, y, a, ev, ex⟩
    · by_cases z : gj E c N d S < 12
      · have := big 12 z
        rw [e1 z]; omega
      · rw [e2 z]
        have q := gj_none hl (by omega)
        rw [← q] at a
        have := gc_min hc d S y (by omega) a
        omega
    · have ls := (BP_ls hc (by omega) a).1
      have o := okB_i (E := E) s e
      have mj : mnB E c N d S ≤ c (12 - (d + 1)) j + lsB E c N d (S ^^^ 2 ^ j) := mnf_le (g := fun j => c (12 - (d + 1)) j + lsB E c N d (S ^^^ 2 ^ j)) o hj
      have eq : c (12 - (d + 1)) j + lsB E c N d (S ^^^ 2 ^ j) = lsB E c N (d + 1) S := by omega
      have le := gj_min (c := c) (N := N) hj o eq
      rw [e1 (by omega)]
      by_cases z : gj E c N d S = j
      · rw [z]
        rw [show u = lsB E c N d (S ^^^ 2 ^ j) by omega] at a
        have := gc_min hc d _ y (by omega) a
        omega
      · have := big j (by omega)
        omega
/-- the digits of the first one's code are its tasks -/
theorem gc_step {w : Nat} (hw : w < 12) : gc E c N (12 - w) (gSt E c N w) = gc E c N (11 - w) (gSt E c N (w + 1)) + gW E c N w * 13 ^ (11 - w) := by
  rw [show 12 - w = (11 - w) + 1 by omega]
  show (if gj E c N (11 - w) (gSt E c N w) < 12 then gc E c N (11 - w) (gSt E c N w ^^^ 2 ^ gj E c N (11 - w) (gSt E c N w)) + gj E c N (11 - w) (gSt E c N w) * 13 ^ (11 - w) else gc E c N (11 - w) (gSt E c N w) + 12 * 13 ^ (11 - w)) = gc E c N (11 - w) (if gj E c N (11 - w) (gSt E c N w) < 12 then gSt E c N w ^^^ 2 ^ gj E c N (11 - w) (gSt E c N w) else gSt E c N w) + gj E c N (11 - w) (gSt E c N w) * 13 ^ (11 - w)
  by_cases z : gj E c N (11 - w) (gSt E c N w) < 12
  · rw [if_pos z, if_pos z]
  · have e : gj E c N (11 - w) (gSt E c N w) = 12 := by
      have := gj_le (E := E) (c := c) (N := N) (11 - w) (gSt E c N w)
      omega
    rw [if_neg z, if_neg z, e]
theorem gc_mod : ∀ w : Nat, w ≤ 12 → gc E c N 12 0 % 13 ^ (12 - w) = gc E c N (12 - w) (gSt E c N w)
  | 0, _ => Nat.mod_eq_of_lt (gc_lt 12 0)
  | w + 1, h => by
    have ih := gc_mod w (by omega)
    have st' := gc_step (E := E) (c := c) (N := N) (show w < 12 by omega)
    have l := gc_lt (E := E) (c := c) (N := N) (11 - w) (gSt E c N (w + 1))
    have e1 : 12 - (w + 1) = 11 - w := by omega
    have e2 : 12 - w = (11 - w) + 1 := by omega
    rw [e1]
    have e3 : gc E c N 12 0 % 13 ^ (11 - w) = (gc E c N 12 0 % 13 ^ (12 - w)) % 13 ^ (11 - w) := by
      rw [e2, Nat.mod_mod_of_dvd _ (Nat.pow_dvd_pow 13 (Nat.le_succ _))]
    rw [e3, ih, st', Nat.add_mul_mod_self_right, Nat.mod_eq_of_lt l]
theorem gW_dig {w : Nat} (hw : w < 12) : gc E c N 12 0 / 13 ^ (11 - w) % 13 = gW E c N w := by
  have st' := gc_step (E := E) (c := c) (N := N) hw
  have md := gc_mod (E := E) (c := c) (N := N) w (by omega)
  have l := gc_lt (E := E) (c := c) (N := N) (11 - w) (gSt E c N (w + 1))
  have p := Nat.pow_pos (n := 11 - w) (show 0 < 13 by decide)
  have e2 : 12 - w = (11 - w) + 1 := by omega
  rw [← Nat.mod_mul_right_div_self, ← Nat.pow_succ]
  have e4 : gc E c N 12 0 % 13 ^ (11 - w).succ = gc E c N (12 - w) (gSt E c N w) := by rw [← md, e2]
  rw [e4, st', Nat.add_mul_div_right _ _ p, Nat.div_eq_of_lt l, Nat.zero_add]
end Bb
