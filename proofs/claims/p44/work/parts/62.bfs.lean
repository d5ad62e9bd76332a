/-! MATHEMATICS: breadth first finds THE WAY of a worker -/
/-- Q: the queue, N long; Q p was put there from Q (J p) by its task T p; seen up to task t of Q k -/
def Bf (E : Nat → Nat → Bool) (M : Nat → Nat) (w : Nat) (Q J T : Nat → Nat) (N k t : Nat) (seen : Nat → Bool) : Prop :=
  (1 ≤ N ∧ k ≤ N ∧ Q 0 = w ∧ M w = 12 ∧ w < 12) ∧
  (∀ p, p < N → Q p < 12) ∧
  (∀ p, 1 ≤ p → p < N → J p < p ∧ (J p < k ∨ (J p = k ∧ T p < t)) ∧ E (Q (J p)) (T p) = true ∧ ow M (T p) = Q p ∧ seen (T p) = true) ∧
  (∀ p q, 1 ≤ p → p < q → q < N → (J p < J q ∨ (J p = J q ∧ T p < T q)) ∧ T p ≠ T q) ∧
  (∀ s, seen s = true → ∃ p, 1 ≤ p ∧ p < N ∧ T p = s) ∧
  (∀ j s, (j < k ∨ (j = k ∧ s < t)) → j < N → E (Q j) s = true → ∃ p, 1 ≤ p ∧ p < N ∧ T p = s ∧ J p ≤ j)
section Bfs
variable {E : Nat → Nat → Bool} {M : Nat → Nat} {w : Nat} {Q J T : Nat → Nat} {N k t : Nat} {seen : Nat → Bool}
theorem Bf.t12 (hb : Eb E) (h : Bf E M w Q J T N k t seen) {p : Nat} (h1 : 1 ≤ p) (h2 : p < N) : T p < 12 := (hb _ _ (h.2.2.1 p h1 h2).2.2.1).2
theorem Bf.mate (hb : Eb E) (h : Bf E M w Q J T N k t seen) {p : Nat} (h1 : 1 ≤ p) (h2 : p < N) : M (Q p) = T p := by
  have := (h.2.2.1 p h1 h2).2.2.2.1
  have h3 := h.2.1 p h2
  rw [← this]
  exact ow_M (by omega)
theorem Bf.inj (hb : Eb E) (h : Bf E M w Q J T N k t seen) {p q : Nat} (hp : p < N) (hq : q < N) (e : Q p = Q q) : p = q := by
  have key : ∀ p q, p < q → q < N → Q p = Q q → False := fun p q hpq hq e => by
    have m := h.mate hb (p := q) (by omega) hq
    have t12 := h.t12 hb (p := q) (by omega) hq
    by_cases z : p = 0
    · rw [z, h.1.2.2.1] at e
      rw [← e, h.1.2.2.2.1] at m
      omega
    · have m' := h.mate hb (p := p) (by omega) (by omega)
      rw [e, m] at m'
      exact (h.2.2.2.1 p q (by omega) hpq hq).2 m'.symm
  rcases Nat.lt_trichotomy p q with c | c | c
  · exact (key p q c hq e).elim
  · exact c
  · exact (key q p c hp e.symm).elim
theorem Bf.le12 (hb : Eb E) (h : Bf E M w Q J T N k t seen) : N ≤ 12 := by
  have := cnt_inj (p := fun _ => true) (q := fun _ => true) (m := 12) (n := N) Q (fun i hi _ => ⟨h.2.1 i hi, rfl⟩) (fun i j hi hj _ _ e => h.inj hb hi hj e)
  rwa [cnt_true, cnt_true] at this
/-- nothing put: a task that was seen, or is none of Q k's -/
theorem Bf.skip (h : Bf E M w Q J T N k t seen) (c : k < N → E (Q k) t = true → seen t = true) : Bf E M w Q J T N k (t + 1) seen := by
  obtain ⟨h1, h2, h3, h4, h5, h6⟩ := h
  refine ⟨h1, h2, fun p p1 p2 => ?_, h4, h5, fun j s q jn e => ?_⟩
  · obtain ⟨a1, a2, a3⟩ := h3 p p1 p2
    exact ⟨a1, a2.imp id (fun z => ⟨z.1, by omega⟩), a3⟩
  · by_cases z : j = k ∧ s = t
    · obtain ⟨rfl, rfl⟩ := z
      obtain ⟨p, p1, p2, p3⟩ := h5 s (c jn e)
      refine ⟨p, p1, p2, p3, ?_⟩
      rcases (h3 p p1 p2).2.1 with y | y <;> omega
    · exact h6 j s (by omega) jn e
/-- on to the next of the queue, when all tasks are seen from t on -/
theorem Bf.next (h : Bf E M w Q J T N k t seen) (hk : k < N) (c : ∀ s, t ≤ s → E (Q k) s = true → seen s = true) (ht : ∀ p, 1 ≤ p → p < N → T p < 12) : Bf E M w Q J T N (k + 1) 0 seen := by
  obtain ⟨h1, h2, h3, h4, h5, h6⟩ := h
  refine ⟨⟨h1.1, by omega, h1.2.2⟩, h2, fun p p1 p2 => ?_, h4, h5, fun j s q jn e => ?_⟩
  · obtain ⟨a1, a2, a3⟩ := h3 p p1 p2
    exact ⟨a1, Or.inl (by omega), a3⟩
  · by_cases z : j = k ∧ t ≤ s
    · obtain ⟨rfl, z2⟩ := z
      obtain ⟨p, p1, p2, p3⟩ := h5 s (c s z2 e)
      refine ⟨p, p1, p2, p3, ?_⟩
      rcases (h3 p p1 p2).2.1 with y | y <;> omega
    · exact h6 j s (by omega) jn e
/-- a task's worker is put into the queue -/
theorem Bf.put (hb : Eb E) (hm : Mt M) (h : Bf E M w Q J T N k t seen) (hk : k < N) (he : E (Q k) t = true) (hs : seen t = false) (ho : ow M t < 12) :
    Bf E M w (up Q N (ow M t)) (up J N k) (up T N t) (N + 1) k (t + 1) (fun s => seen s || decide (s = t)) := by
  have h' := h
  obtain ⟨h1, h2, h3, h4, h5, h6⟩ := h
  have ht := (hb _ _ he).2
  have nt : ∀ p, 1 ≤ p → p < N → T p ≠ t := fun p p1 p2 z => by
    have := (h3 p p1 p2).2.2.2.2
    rw [z, hs] at this; cases this
  refine ⟨⟨by omega, by omega, ?_, h1.2.2.2.1, h1.2.2.2.2⟩, fun p hp => ?_, fun p p1 p2 => ?_, fun p q p1 pq q2 => ?_, fun s q => ?_, fun j s q jn e => ?_⟩
  · rw [up_ne (by omega)]; exact h1.2.2.1
  · by_cases z : p = N
    · rw [z, up_same]; exact ho
    · rw [up_ne z]; exact h2 p (by omega)
  · by_cases z : p = N
    · rw [z, up_same, up_same, up_same, up_ne (show k ≠ N by omega)]
      exact ⟨hk, Or.inr ⟨rfl, by omega⟩, he, rfl, by simp⟩
    · obtain ⟨a1, a2, a3, a4, a5⟩ := h3 p p1 (by omega)
      rw [up_ne z, up_ne z, up_ne z, up_ne (show J p ≠ N by omega)]
      exact ⟨a1, a2.imp id (fun z => ⟨z.1, by omega⟩), a3, a4, by simp [a5]⟩
  · by_cases z : q = N
    · have zp : p ≠ N := by omega
      rw [z, up_same, up_same, up_ne zp, up_ne zp]
      refine ⟨(h3 p p1 (by omega)).2.1, nt p p1 (by omega)⟩
    · have zp : p ≠ N := by omega
      rw [up_ne z, up_ne z, up_ne zp, up_ne zp]
      exact h4 p q p1 pq (by omega)
  · by_cases z : s = t
    · exact ⟨N, by omega, by omega, by rw [up_same, z]⟩
    · have q : seen s = true := by simpa [z] using q
      obtain ⟨p, p1, p2, p3⟩ := h5 s q
      exact ⟨p, p1, by omega, by rw [up_ne (by omega)]; exact p3⟩
  · have jn' : j < N := by omega
    rw [up_ne (show j ≠ N by omega)] at e
    by_cases z : j = k ∧ s = t
    · exact ⟨N, by omega, by omega, by rw [up_same, z.2], by rw [up_same]; omega⟩
    · obtain ⟨p, p1, p2, p3, p4⟩ := h6 j s (by omega) jn' e
      exact ⟨p, p1, by omega, by rw [up_ne (by omega)]; exact p3, by rw [up_ne (by omega)]; exact p4⟩
/-- the new one is new: there is room -/
theorem Bf.room (hb : Eb E) (hm : Mt M) (h : Bf E M w Q J T N k t seen) (hk : k < N) (he : E (Q k) t = true) (hs : seen t = false) (ho : ow M t < 12) : N < 12 := (h.put hb hm hk he hs ho).le12 hb
/-- the queue is through: no way -/
theorem Bf.none (hb : Eb E) (h : Bf E M w Q J T N N 0 seen) : Nr E M w := by
  have hd : Dd E M seen := by
    intro s hs q
    obtain ⟨p, p1, p2, p3⟩ := h.2.2.2.2.1 s q
    obtain ⟨-, -, -, a, -⟩ := h.2.2.1 p p1 p2
    rw [p3] at a
    rw [a]
    refine ⟨h.2.1 p p2, fun s' e => ?_⟩
    obtain ⟨r, r1, r2, r3, -⟩ := h.2.2.2.2.2 p s' (Or.inl p2) p2 e
    rw [← r3]; exact (h.2.2.1 r r1 r2).2.2.2.2
  intro k
  refine Nr.of_dd hd k w fun s e => ?_
  have e0 := h.1.2.2.1
  obtain ⟨r, r1, r2, r3, -⟩ := h.2.2.2.2.2 0 s (Or.inl h.1.1) h.1.1 (by rw [e0]; exact e)
  rw [← r3]; exact (h.2.2.1 r r1 r2).2.2.2.2
/-- how p was come to: places c 0 = 0, .., c d = p of the queue -/
theorem Bf.path (h : Bf E M w Q J T N k t seen) : ∀ p, p < N → ∃ (d : Nat) (c : Nat → Nat), c 0 = 0 ∧ c d = p ∧ d ≤ p ∧ (∀ i, i ≤ d → c i < N) ∧ ∀ i, i < d → 1 ≤ c (i + 1) ∧ J (c (i + 1)) = c i := by
  intro p
  induction p using Nat.strongRecOn with
  | ind p ih =>
    intro hp
    by_cases z : p = 0
    · exact ⟨0, fun _ => 0, rfl, z.symm, by omega, fun i _ => Nat.lt_of_le_of_lt (Nat.zero_le p) hp, fun i hi => absurd hi (Nat.not_lt_zero _)⟩
    · have jp := (h.2.2.1 p (by omega) hp).1
      obtain ⟨d, c, c0, cd, dl, cl, cs⟩ := ih (J p) jp (by omega)
      refine ⟨d + 1, up c (d + 1) p, by rw [up_ne (by omega)]; exact c0, up_same _ _ _, by omega, fun i hi => ?_, fun i hi => ?_⟩
      · by_cases e : i = d + 1
        · rw [e, up_same]; exact hp
        · rw [up_ne e]; exact cl i (by omega)
      · by_cases e : i = d
        · rw [e, up_same, up_ne (by omega), cd]; exact ⟨by omega, rfl⟩
        · rw [up_ne (by omega), up_ne (by omega)]; exact cs i (by omega)
/-- a free task is come to: that is THE WAY of w -/
theorem Bf.found (hb : Eb E) (h : Bf E M w Q J T N k t seen) (hk : k < N) (he : E (Q k) t = true) (hs : seen t = false) (ho : ow M t = 12) {d : Nat} {c : Nat → Nat} (c0 : c 0 = 0) (cd : c d = k) (cl : ∀ i, i ≤ d → c i < N) (cs : ∀ i, i < d → 1 ≤ c (i + 1) ∧ J (c (i + 1)) = c i) :
    Tw E M (d + 1) (fun i => Q (c i)) (fun i => if i = d then t else T (c (i + 1))) := by
  have lo : ∀ i, i < d → c i < c (i + 1) := fun i hi => by
    obtain ⟨a, b⟩ := cs i hi
    rw [← b]; exact (h.2.2.1 _ a (cl _ (by omega))).1
  have lk : ∀ j i, i + j = d → c i ≤ k := by
    intro j
    induction j with
    | zero => intro i hi; rw [← cd, show i = d by omega]; exact Nat.le_refl _
    | succ j ih => intro i hi; have := ih (i + 1) (by omega); have := lo i (by omega); omega
  -- whom those ahead of c i come to is not nearer
  have sc : ∀ j s, (j < k ∨ (j = k ∧ s < t)) → E (Q j) s = true → ∃ p, 1 ≤ p ∧ p < N ∧ T p = s ∧ J p ≤ j ∧ ow M s = Q p ∧ ow M s ≠ 12 := by
    intro j s q e
    obtain ⟨p, p1, p2, p3, p4⟩ := h.2.2.2.2.2 j s q (by omega) e
    have := (h.2.2.1 p p1 p2).2.2.2.1
    rw [p3] at this
    have := h.2.1 p p2
    exact ⟨p, p1, p2, p3, p4, by assumption, by omega⟩
  have cA : ∀ n i, i + n = d → ∀ j, j < c i → ¬ rch E M (n + 1) (Q j) := by
    intro n
    induction n with
    | zero =>
      intro i hi j hj ⟨s, s1, s2, s3, s4⟩
      have := lk 0 i hi
      obtain ⟨p, -, -, -, -, -, a⟩ := sc j s (by omega) s2
      rcases s4 with s4 | s4
      · exact a s4
      · exact s4
    | succ n ih =>
      intro i hi j hj ⟨s, s1, s2, s3, s4⟩
      have := lk _ i hi
      obtain ⟨p, p1, p2, p3, p4, p5, a⟩ := sc j s (by omega) s2
      rcases s4 with s4 | s4
      · exact a s4
      · rw [p5] at s4
        refine ih (i + 1) (by omega) p ?_ s4
        obtain ⟨b1, b2⟩ := cs i (by omega)
        apply Nat.lt_of_not_le
        intro q
        by_cases e : p = c (i + 1)
        · rw [e, b2] at p4; omega
        · rcases (h.2.2.2.1 (c (i + 1)) p b1 (by omega) p2).1 with y | y <;> omega
  have fr : ∀ n i, i + n = d → rch E M (n + 1) (Q (c i)) ∧ E (Q (c i)) (if i = d then t else T (c (i + 1))) = true ∧ M (Q (c i)) ≠ (if i = d then t else T (c (i + 1))) ∧ stp E M (n + 1) (if i = d then t else T (c (i + 1))) := by
    intro n
    induction n with
    | zero =>
      intro i hi
      have e : i = d := by omega
      subst e
      rw [if_pos rfl, cd]
      have hm : M (Q k) ≠ t := fun z => by
        have := ow_none.mp ho (Q k) (hb _ _ he).1
        exact this z
      exact ⟨⟨t, (hb _ _ he).2, he, hm, Or.inl ho⟩, he, hm, Or.inl ho⟩
    | succ n ih =>
      intro i hi
      obtain ⟨b1, b2⟩ := cs i (by omega)
      have b3 := cl (i + 1) (by omega)
      obtain ⟨a1, -⟩ := ih (i + 1) (by omega)
      obtain ⟨-, -, q3, q4, -⟩ := h.2.2.1 _ b1 b3
      rw [b2] at q3
      rw [if_neg (show i ≠ d by omega)]
      have hm : M (Q (c i)) ≠ T (c (i + 1)) := fun z => by
        have t12 := (hb _ _ q3).2
        by_cases y : c i = 0
        · rw [y, h.1.2.2.1, h.1.2.2.2.1] at z; omega
        · have m := h.mate hb (p := c i) (by omega) (cl i (by omega))
          rw [m] at z
          exact (h.2.2.2.1 (c i) (c (i + 1)) (by omega) (lo i (by omega)) b3).2 z
      refine ⟨⟨_, (hb _ _ q3).2, q3, hm, Or.inr ?_⟩, q3, hm, Or.inr ?_⟩
      · rw [q4]; exact a1
      · rw [q4]; exact a1
  refine ⟨by omega, ?_, ?_, fun i hi => ?_⟩
  · show M (Q (c 0)) = 12
    rw [c0, h.1.2.2.1]; exact h.1.2.2.2.1
  · show Q (c 0) < 12
    rw [c0]; exact h.2.1 0 (by omega)
  · obtain ⟨n, hn⟩ : ∃ n, i + n = d := ⟨d - i, by omega⟩
    obtain ⟨f1, f2, f3, f4⟩ := fr n i hn
    rw [show d + 1 - i = n + 1 by omega]
    refine ⟨f1, ?_, f2, f3, f4, fun s hs e m y => ?_, fun hl => ?_⟩
    · cases n with
      | zero => exact id
      | succ n => exact cA n (i + 1) (by omega) (c i) (lo i (by omega))
    · have hs : s < (if i = d then t else T (c (i + 1))) := hs
      have e : E (Q (c i)) s = true := e
      by_cases z : i = d
      · rw [if_pos z] at hs
        have hn0 : n = 0 := by omega
        subst hn0
        rw [z, cd] at e
        obtain ⟨p, -, -, -, -, -, a⟩ := sc k s (Or.inr ⟨rfl, hs⟩) e
        rcases y with y | y
        · exact a y
        · exact y
      · rw [if_neg z] at hs
        obtain ⟨b1, b2⟩ := cs i (by omega)
        have l1 := lo i (by omega)
        have l2 := lk (n - 1) (i + 1) (by omega)
        obtain ⟨p, p1, p2, p3, p4, p5, a⟩ := sc (c i) s (by omega) e
        rcases y with y | y
        · exact a y
        · rw [p5] at y
          cases n with
          | zero => omega
          | succ n =>
            refine cA n (i + 1) (by omega) p ?_ y
            apply Nat.lt_of_not_le
            intro q
            by_cases e : p = c (i + 1)
            · rw [e] at p3; omega
            · rcases (h.2.2.2.1 (c (i + 1)) p b1 (by omega) p2).1 with u | u <;> omega
    · show ow M (if i = d then t else T (c (i + 1))) = Q (c (i + 1))
      rw [if_neg (by omega)]
      exact (h.2.2.1 _ (cs i (by omega)).1 (cl (i + 1) (by omega))).2.2.2.1
end Bfs
