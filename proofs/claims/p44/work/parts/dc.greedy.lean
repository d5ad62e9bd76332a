/-! MATHEMATICS: the chosen ones weigh most -/
theorem mb_sub {E : Nat → Nat → Bool} {C D : Nat → Bool} (h : mb E C) (s : ∀ v, D v = true → C v = true) : mb E D := by
  obtain ⟨M, hM, hC⟩ := h
  have e : ∀ v, (if D v = true then M v else 12) < 12 → D v = true ∧ M v < 12 := fun v q => by
    by_cases z : D v = true
    · rw [if_pos z] at q; exact ⟨z, q⟩
    · rw [if_neg z] at q; omega
  refine ⟨fun v => if D v = true then M v else 12, ⟨⟨fun w => ?_, fun w hw => ?_, fun w v q e' => ?_⟩, fun w q => ?_⟩, fun v hv => ⟨fun q => (e v q).1, fun q => ?_⟩⟩
  · show (if D w = true then M w else 12) ≤ 12
    split
    · exact hM.1.1 w
    · exact Nat.le_refl 12
  · show (if D w = true then M w else 12) = 12
    split
    · exact hM.1.2.1 w hw
    · rfl
  · have q : (if D w = true then M w else 12) < 12 := q
    have e' : (if D w = true then M w else 12) = (if D v = true then M v else 12) := e'
    have q2 := q
    rw [e'] at q2
    obtain ⟨d1, m1⟩ := e w q
    obtain ⟨d2, m2⟩ := e v q2
    rw [if_pos d1, if_pos d2] at e'
    exact hM.1.2.2 w v m1 e'
  · have q : (if D w = true then M w else 12) < 12 := q
    obtain ⟨d1, m1⟩ := e w q
    show E w (if D w = true then M w else 12) = true
    rw [if_pos d1]
    exact hM.2 w m1
  · show (if D v = true then M v else 12) < 12
    rw [if_pos q]
    exact (hC v hv).mpr (s v q)
theorem mb_lt {E : Nat → Nat → Bool} {M : Nat → Nat} {C : Nat → Bool} (hC : ∀ v, v < 12 → (M v < 12 ↔ C v = true)) : sz M = cnt C 12 := cnt_congr fun v hv => by
  rw [Bool.eq_iff_iff, decide_eq_true_eq]; exact hC v hv
/-- fewer: one of the others can come -/
theorem mb_ex {E : Nat → Nat → Bool} {I J : Nat → Bool} (hE : Eb E) (hI : mb E I) (hJ : mb E J) (l : cnt I 12 < cnt J 12) : ∃ j, j < 12 ∧ J j = true ∧ I j = false ∧ mb E (fun v => I v || decide (v = j)) := by
  obtain ⟨M, hM, hC⟩ := hI
  obtain ⟨M', hM', hC'⟩ := hJ
  let E' : Nat → Nat → Bool := fun v t => E v t && (I v || J v)
  have hE' : Eb E' := fun v t q => hE v t ((Bool.and_eq_true _ _).mp q).1
  have m1 : Ms E' M := ⟨hM.1, fun x q => by
    show (E x (M x) && (I x || J x)) = true
    rw [hM.2 x q, (hC x (hM.1.w12 q)).mp q]; rfl⟩
  have m2 : Ms E' M' := ⟨hM'.1, fun x q => by
    show (E x (M' x) && (I x || J x)) = true
    rw [hM'.2 x q, (hC' x (hM'.1.w12 q)).mp q, Bool.or_true]; rfl⟩
  have s1 := mb_lt (E := E) hC
  have s2 := mb_lt (E := E) hC'
  -- a way from a worker that has none
  have nf : ¬ Fin' E' M := fun f => by
    obtain ⟨k, M2, g⟩ : ∃ k M2, Gr E' 12 k M M2 := ⟨0, M, rfl, Nat.zero_le _, Or.inr f⟩
    have nu := (Gr.nu hE' m1 (⟨rfl, Nat.zero_le _, Or.inr f⟩ : Gr E' 12 0 M M)).2.1
    have := nu.2 M' m2
    omega
  have ex : ∃ w, w < 12 ∧ M w = 12 ∧ ∃ k, rch E' M k w := by
    apply Classical.byContradiction
    intro n
    exact nf fun w hw hm k q => n ⟨w, hw, hm, k, q⟩
  obtain ⟨w, hw, hm, k, q⟩ := ex
  have low : ∀ k, rch E' M k w → ∃ L, rch E' M L w ∧ ¬ rch E' M (L - 1) w := by
    intro k
    induction k with
    | zero => intro z; exact z.elim
    | succ k ih =>
      intro z
      by_cases y : rch E' M k w
      · exact ih y
      · exact ⟨k + 1, z, y⟩
  obtain ⟨L, r1, r2⟩ := low k q
  obtain ⟨pw, pt, t, e⟩ := tw_ex hw hm r1 r2
  have am := aug_Ms hE' m1 t
  have iw : I w = false := by
    cases z : I w with
    | false => rfl
    | true => have := (hC w hw).mpr z; omega
  have e0 := (t.2.2.2 0 t.1).2.2.1
  rw [e] at e0
  have e0 : (E w (pt 0) && (I w || J w)) = true := e0
  rw [iw] at e0
  simp only [Bool.and_eq_true, Bool.false_or] at e0
  refine ⟨w, hw, e0.2, iw, aug M L pw pt, ⟨am.1, fun x z => ((Bool.and_eq_true _ _).mp (am.2 x z)).1⟩, fun v hv => ?_⟩
  have af := aug_free hE' t v
  rw [e] at af
  have l12 := am.1.1 v
  rw [Bool.or_eq_true, decide_eq_true_eq, ← hC v hv]
  have l12' := hM.1.1 v
  constructor
  · intro z
    by_cases y : v = w
    · exact Or.inr y
    · left
      apply Classical.byContradiction
      intro x
      have := af.mpr ⟨by omega, y⟩
      omega
  · intro z
    apply Classical.byContradiction
    intro x
    have := af.mp (by omega)
    rcases z with z | z
    · omega
    · exact this.2 z
/-- weights by levels -/
theorem wsum_lv {B : Bk} (he : ∀ w, be B w ≤ 99) (C : Nat → Bool) : ∀ n, wsum B C n = sgm (fun v => cnt (fun w => C w && decide (v < be B w)) n) 99
  | 0 => (sgm_zero fun v _ => rfl).symm
  | n + 1 => by
    have e : sgm (fun v => cnt (fun w => C w && decide (v < be B w)) (n + 1)) 99 = sgm (fun v => cnt (fun w => C w && decide (v < be B w)) n + if (C n && decide (v < be B n)) = true then 1 else 0) 99 := sgm_congr fun v _ => by
      show _ + (C n && decide (v < be B n)).toNat = _
      cases (C n && decide (v < be B n)) <;> rfl
    rw [e, sgm_add, ← wsum_lv he C n, wsum]
    congr 1
    have key : ∀ k b, sgm (fun v => if (C n && decide (v < b)) = true then 1 else 0) k = if C n = true then min b k else 0 := by
      intro k b
      induction k with
      | zero => simp [sgm]
      | succ k ih =>
        rw [sgm, ih]
        by_cases z : C n = true
        · by_cases y : k < b
          · simp [z, y]; omega
          · simp [z, y]; omega
        · simp [z]
    rw [key]
    have := he n
    by_cases z : C n = true
    · rw [if_pos z, if_pos z]; omega
    · rw [if_neg z, if_neg z]
theorem greedy_lv {B : Bk} (hE : Eb (gE B)) (he : ∀ w, be B w ≤ 99) (hW : ∀ k, hb (bw B) k = true → k < 12) {C I : Nat → Bool} (h : ChS B C fun _ => True) (hc : mb (gE B) C) (hI : mb (gE B) I) (hIw : ∀ v, I v = true → hb (bw B) v = true) (u : Nat) : cnt (fun w => I w && decide (u < be B w)) 12 ≤ cnt (fun w => C w && decide (u < be B w)) 12 := by
  apply Classical.byContradiction
  intro n
  obtain ⟨j, hj, j1, j2, j3⟩ := mb_ex hE (mb_sub (D := fun w => C w && decide (u < be B w)) hc fun v q => ((Bool.and_eq_true _ _).mp q).1) (mb_sub (D := fun w => I w && decide (u < be B w)) hI fun v q => ((Bool.and_eq_true _ _).mp q).1) (by omega)
  obtain ⟨i1, i2⟩ := (Bool.and_eq_true _ _).mp j1
  have i2 := of_decide_eq_true i2
  have cj : C j = false := by
    cases z : C j with
    | false => rfl
    | true => rw [z, decide_eq_true i2] at j2; cases j2
  have := (h.2 j (hIw j i1) trivial).mpr (mb_sub j3 fun v q => by
    unfold pfw at q
    rcases (Bool.or_eq_true _ _).mp q with q | q
    · obtain ⟨q1, q2⟩ := (Bool.and_eq_true _ _).mp q
      have q2 := of_decide_eq_true q2
      have e1 := he j
      have e2 := he v
      have v12 := hW v (h.1 v q1).1
      show ((C v && decide (u < be B v)) || decide (v = j)) = true
      have : u < be B v := by
        unfold rk at q2
        have : be B j ≤ be B v ∨ be B v < be B j := by omega
        rcases this with z | z
        · omega
        · omega
      rw [q1, decide_eq_true this]; rfl
    · show ((C v && decide (u < be B v)) || decide (v = j)) = true
      rw [q, Bool.or_true])
  rw [cj] at this
  cases this
theorem greedy_le {B : Bk} (hE : Eb (gE B)) (he : ∀ w, be B w ≤ 99) (hW : ∀ k, hb (bw B) k = true → k < 12) {C I : Nat → Bool} (h : ChS B C fun _ => True) (hc : mb (gE B) C) (hI : mb (gE B) I) (hIw : ∀ v, I v = true → hb (bw B) v = true) : wsum B I 12 ≤ wsum B C 12 := by
  rw [wsum_lv he, wsum_lv he]
  have key : ∀ {f g : Nat → Nat} (n : Nat), (∀ k, f k ≤ g k) → sgm f n ≤ sgm g n := by
    intro f g n hk
    induction n with
    | zero => exact Nat.le_refl _
    | succ n ih => have := hk n; rw [sgm, sgm]; omega
  exact key 99 fun v => greedy_lv hE he hW h hc hI hIw v
/-- those among the workers there are who can all have tasks: as many as the most with them alone -/
theorem nu_mb {E E' : Nat → Nat → Bool} {S : Nat → Bool} {k : Nat} (e : ∀ v t, E' v t = (E v t && S v)) (h : Nu E' k) : k = cnt S 12 ↔ mb E S := by
  have ms : ∀ {M}, Ms E' M → ∀ v, M v < 12 → S v = true := fun {M} hM v q => by
    have := hM.2 v q
    rw [e] at this
    exact ((Bool.and_eq_true _ _).mp this).2
  have le : ∀ {M}, Ms E' M → sz M ≤ cnt S 12 := fun {M} hM => cnt_mono fun v _ q => ms hM v (of_decide_eq_true q)
  constructor
  · intro q
    obtain ⟨M, hM, hs⟩ := h.1
    refine ⟨M, ⟨hM.1, fun w z => ?_⟩, fun v hv => ⟨ms hM v, fun z => ?_⟩⟩
    · have := hM.2 w z
      rw [e] at this
      exact ((Bool.and_eq_true _ _).mp this).1
    · apply Classical.byContradiction
      intro y
      have : cnt (fun w => decide (M w < 12)) 12 < cnt S 12 := cnt_lt (fun w _ q => ms hM w (of_decide_eq_true q)) hv (decide_eq_false y) z
      have hs : cnt (fun w => decide (M w < 12)) 12 = k := hs
      omega
  · rintro ⟨M, hM, hC⟩
    have m' : Ms E' M := ⟨hM.1, fun w z => by rw [e, hM.2 w z, (hC w (hM.1.w12 z)).mp z]; rfl⟩
    have s1 := mb_lt (E := E) hC
    have l1 := h.2 M m'
    obtain ⟨N, hN, hs⟩ := h.1
    have := le hN
    omega
