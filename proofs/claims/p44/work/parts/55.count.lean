/-! MATHEMATICS: counting, first places -/
theorem cnt_zero {p : Nat → Bool} : ∀ {n : Nat}, (∀ k, k < n → p k = false) → cnt p n = 0
  | 0, _ => rfl
  | n + 1, h => by
    have ih := cnt_zero (p := p) (n := n) (fun k hk => h k (by omega))
    simp only [cnt, ih, h n (by omega), Bool.toNat_false]
theorem cnt_del {p : Nat → Bool} {j : Nat} : ∀ {n : Nat}, j < n → p j = true → cnt p n = cnt (fun k => p k && decide (k ≠ j)) n + 1
  | 0, h, _ => absurd h (Nat.not_lt_zero _)
  | n + 1, h, e => by
    by_cases hj : j = n
    · subst hj
      have : cnt (fun k => p k && decide (k ≠ j)) j = cnt p j := cnt_congr (fun k hk => by simp [show k ≠ j by omega])
      simp only [cnt, this, e]
      simp
    · simp only [cnt, cnt_del (show j < n by omega) e, show decide (n ≠ j) = true from decide_eq_true (fun q => hj q.symm), Bool.and_true]
      omega
theorem cnt_inj {m : Nat} (f : Nat → Nat) : ∀ {n : Nat} {p q : Nat → Bool}, (∀ k, k < n → p k = true → f k < m ∧ q (f k) = true) → (∀ i j, i < n → j < n → p i = true → p j = true → f i = f j → i = j) → cnt p n ≤ cnt q m
  | 0, p, q, _, _ => Nat.zero_le _
  | n + 1, p, q, h1, h2 => by
    cases e : p n with
    | false =>
      simp only [cnt, e, Bool.toNat_false, Nat.add_zero]
      exact cnt_inj f (fun k hk => h1 k (by omega)) (fun i j hi hj => h2 i j (by omega) (by omega))
    | true =>
      obtain ⟨a, b⟩ := h1 n (by omega) e
      rw [cnt_del a b]
      simp only [cnt, e, Bool.toNat_true]
      refine Nat.succ_le_succ (cnt_inj f (fun k hk hp => ?_) (fun i j hi hj => h2 i j (by omega) (by omega)))
      obtain ⟨c, d⟩ := h1 k (by omega) hp
      refine ⟨c, ?_⟩
      simp only [d, Bool.true_and, decide_eq_true_eq]
      intro q
      have := h2 k n (by omega) (by omega) hp e q
      omega
theorem cnt_mono {p q : Nat → Bool} {n : Nat} (h : ∀ k, k < n → p k = true → q k = true) : cnt p n ≤ cnt q n :=
  cnt_inj id (fun k hk hp => ⟨hk, h k hk hp⟩) (fun _ _ _ _ _ _ e => e)
theorem cnt_add {p q : Nat → Bool} : ∀ {n : Nat}, (∀ k, k < n → p k = true → q k = true → False) → cnt (fun k => p k || q k) n = cnt p n + cnt q n
  | 0, _ => rfl
  | n + 1, h => by
    have ih := cnt_add (n := n) (fun k hk => h k (by omega))
    have := h n (by omega)
    simp only [cnt, ih]
    cases e1 : p n <;> cases e2 : q n <;> simp [e1, e2] at this ⊢ <;> omega
theorem cnt_split (p q : Nat → Bool) : ∀ n : Nat, cnt p n = cnt (fun k => p k && q k) n + cnt (fun k => p k && !q k) n
  | 0 => rfl
  | n + 1 => by
    simp only [cnt, cnt_split p q n]
    cases p n <;> cases q n <;> simp <;> omega
theorem cnt_lt {p q : Nat → Bool} {n j : Nat} (h : ∀ k, k < n → p k = true → q k = true) (hj : j < n) (h1 : p j = false) (h2 : q j = true) : cnt p n < cnt q n := by
  rw [cnt_del hj h2]
  refine Nat.lt_succ_of_le (cnt_mono fun k hk hp => ?_)
  rw [h k hk hp, Bool.true_and, decide_eq_true_eq]
  intro q; subst q; rw [h1] at hp; cases hp
theorem cnt_all {p : Nat → Bool} : ∀ {n : Nat}, cnt p n = n → ∀ k, k < n → p k = true
  | 0, _, k, hk => absurd hk (Nat.not_lt_zero _)
  | n + 1, h, k, hk => by
    have := cnt_le p n
    simp only [cnt] at h
    cases e : p n with
    | false => rw [e] at h; simp at h; omega
    | true =>
      rw [e] at h; simp at h
      by_cases q : k = n
      · subst q; exact e
      · exact cnt_all h k (by omega)
theorem cnt_true : ∀ n : Nat, cnt (fun _ => true) n = n
  | 0 => rfl
  | n + 1 => by simp [cnt, cnt_true n]
theorem cnt_ins {p : Nat → Bool} {j n : Nat} (hj : j < n) (h : p j = false) : cnt (fun k => p k || decide (k = j)) n = cnt p n + 1 := by
  rw [cnt_del (j := j) hj (by simp)]
  congr 1
  refine cnt_congr fun k hk => ?_
  by_cases q : k = j
  · subst q; simp [h]
  · simp [q]
theorem cnt_pos {p : Nat → Bool} : ∀ {n : Nat}, 0 < cnt p n → ∃ k, k < n ∧ p k = true
  | 0, h => absurd h (Nat.lt_irrefl _)
  | n + 1, h => by
    cases e : p n with
    | true => exact ⟨n, by omega, e⟩
    | false =>
      simp only [cnt, e] at h
      obtain ⟨k, hk, hp⟩ := cnt_pos (n := n) (p := p) (by simpa using h)
      exact ⟨k, by omega, hp⟩
/-- the first place below n; n without one -/
def fi0 (p : Nat → Bool) : Nat → Nat
  | 0 => 0
  | n + 1 => if fi0 p n < n then fi0 p n else if p n then n else n + 1
theorem fi0_le (p : Nat → Bool) : ∀ n, fi0 p n ≤ n
  | 0 => Nat.le_refl _
  | n + 1 => by have := fi0_le p n; unfold fi0; split <;> (try split) <;> omega
theorem fi0_spec (p : Nat → Bool) : ∀ n, (fi0 p n < n → p (fi0 p n) = true) ∧ ∀ k, k < fi0 p n → p k = false
  | 0 => ⟨fun h => absurd h (Nat.not_lt_zero _), fun k hk => absurd hk (Nat.not_lt_zero _)⟩
  | n + 1 => by
    obtain ⟨h1, h2⟩ := fi0_spec p n
    have hl := fi0_le p n
    by_cases c : fi0 p n < n
    · have e : fi0 p (n + 1) = fi0 p n := by simp only [fi0, if_pos c]
      rw [e]
      exact ⟨fun _ => h1 c, h2⟩
    · have c2 : fi0 p n = n := by omega
      cases e : p n with
      | true =>
        have e2 : fi0 p (n + 1) = n := by simp [fi0, c, e]
        rw [e2]
        exact ⟨fun _ => e, fun k hk => h2 k (by omega)⟩
      | false =>
        have e2 : fi0 p (n + 1) = n + 1 := by simp [fi0, c, e]
        rw [e2]
        refine ⟨fun h => absurd h (Nat.lt_irrefl _), fun k hk => ?_⟩
        by_cases q : k = n
        · subst q; exact e
        · exact h2 k (by omega)
theorem fi_ex (p : Nat → Bool) (n : Nat) : ∃ k, k ≤ n ∧ (k < n → p k = true) ∧ ∀ j, j < k → p j = false := ⟨fi0 p n, fi0_le p n, fi0_spec p n⟩
/-- (never to be evaluated) -/
noncomputable def fi (p : Nat → Bool) (n : Nat) : Nat := Classical.choose (fi_ex p n)
theorem fi_le (p : Nat → Bool) (n : Nat) : fi p n ≤ n := (Classical.choose_spec (fi_ex p n)).1
theorem fi_spec (p : Nat → Bool) (n : Nat) : (fi p n < n → p (fi p n) = true) ∧ ∀ k, k < fi p n → p k = false := (Classical.choose_spec (fi_ex p n)).2
theorem fi_p {p : Nat → Bool} {n : Nat} (h : fi p n < n) : p (fi p n) = true := (fi_spec p n).1 h
theorem fi_min {p : Nat → Bool} {n k : Nat} (h : k < fi p n) : p k = false := (fi_spec p n).2 k h
theorem fi_eq {p : Nat → Bool} {n k : Nat} (hk : k < n) (h : p k = true) (hm : ∀ j, j < k → p j = false) : fi p n = k := by
  have h1 : fi p n ≤ k := by
    apply Nat.le_of_not_lt
    intro q
    rw [fi_min q] at h; cases h
  have h2 := fi_p (p := p) (n := n) (by omega)
  by_cases q : fi p n = k
  · exact q
  · rw [hm _ (by omega)] at h2; cases h2
theorem fi_none {p : Nat → Bool} {n : Nat} (h : ∀ k, k < n → p k = false) : fi p n = n := by
  have := fi_le p n
  by_cases q : fi p n < n
  · have h2 := fi_p q
    rw [h _ q] at h2; cases h2
  · omega
theorem fi_le_of {p : Nat → Bool} {n k : Nat} (h : p k = true) (hk : k < n) : fi p n ≤ k := by
  apply Nat.le_of_not_lt
  intro q
  rw [fi_min q] at h; cases h
theorem fi_congr {p q : Nat → Bool} {n : Nat} (h : ∀ k, k < n → p k = q k) : fi p n = fi q n := by
  by_cases c : fi q n < n
  · exact fi_eq c (by rw [h _ c]; exact fi_p c) (fun j hj => by rw [h j (by omega)]; exact fi_min hj)
  · have := fi_le q n
    have e : fi q n = n := by omega
    rw [e]
    exact fi_none fun k hk => by rw [h k hk]; exact fi_min (n := n) (by omega)
theorem fi_step {p : Nat → Bool} {n k : Nat} (hk : k < n) (hm : ∀ j, j < k → p j = false) : p k = true ∨ ∀ j, j < k + 1 → p j = false := by
  cases e : p k with
  | true => exact Or.inl rfl
  | false =>
    refine Or.inr fun j hj => ?_
    by_cases q : j = k
    · subst q; exact e
    · exact hm j (by omega)
