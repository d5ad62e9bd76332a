/-! MATHEMATICS: reached workers, ways, THE WAY -/
theorem ow_drop {M : Nat → Nat} {w : Nat} (h : Mt M) (q : M w < 12) : ow (up M w 12) (M w) = 12 := by
  refine ow_none.mpr fun x hx z => ?_
  by_cases e : x = w
  · rw [e, up_same] at z; omega
  · rw [up_ne e] at z
    exact e (h.2.2 w x q z.symm).symm
/-- from Z on, by a FIT and a PAIR each time, k times at most -/
def fw (E : Nat → Nat → Bool) (M : Nat → Nat) (Z : Nat → Prop) : Nat → Nat → Prop
  | 0, w => Z w
  | k + 1, w => fw E M Z k w ∨ ∃ v t, fw E M Z k v ∧ E v t = true ∧ t < 12 ∧ ow M t = w ∧ w < 12
theorem fw_le {E : Nat → Nat → Bool} {M : Nat → Nat} {Z : Nat → Prop} {w : Nat} {a b : Nat} (h : a ≤ b) (q : fw E M Z a w) : fw E M Z b w := by
  induction b with
  | zero => rw [show a = 0 by omega] at q; exact q
  | succ b ih =>
    by_cases e : a = b + 1
    · subst e; exact q
    · exact Or.inl (ih (by omega))
theorem fw_mono {E E' : Nat → Nat → Bool} {M : Nat → Nat} {Z Z' : Nat → Prop} (hE : ∀ w t, E w t = true → E' w t = true) (hZ : ∀ w, Z w → Z' w) : ∀ {k w : Nat}, fw E M Z k w → fw E' M Z' k w
  | 0, w, q => hZ w q
  | k + 1, w, q => by
    rcases q with q | ⟨v, t, q1, q2, q3⟩
    · exact Or.inl (fw_mono hE hZ q)
    · exact Or.inr ⟨v, t, fw_mono hE hZ q1, hE v t q2, q3⟩
/-- a set that holds Z and is closed holds what is reached -/
theorem fw_sub {E : Nat → Nat → Bool} {M : Nat → Nat} {Z R : Nat → Prop} (h0 : ∀ w, Z w → R w) (hc : ∀ v t, R v → E v t = true → t < 12 → ow M t < 12 → R (ow M t)) : ∀ {k w : Nat}, fw E M Z k w → R w
  | 0, w, q => h0 w q
  | k + 1, w, q => by
    rcases q with q | ⟨v, t, q1, q2, q3, q4, q5⟩
    · exact fw_sub h0 hc q
    · have := hc v t (fw_sub h0 hc q1) q2 q3 (by omega)
      rw [q4] at this; exact this
theorem fw_12 {E : Nat → Nat → Bool} {M : Nat → Nat} {Z : Nat → Prop} (hZ : ∀ w, Z w → w < 12) : ∀ {k w : Nat}, fw E M Z k w → w < 12
  | 0, w, q => hZ w q
  | k + 1, w, q => by
    rcases q with q | ⟨v, t, q1, q2, q3, q4, q5⟩
    · exact fw_12 hZ q
    · exact q5
/-- a free one reached from u: u gets what is needed, all else as it was -/
theorem hole {E : Nat → Nat → Bool} {M : Nat → Nat} {Z : Nat → Prop} (h : Ms E M) (hZ : ∀ w, Z w → w < 12 ∧ M w = 12) : ∀ (k w : Nat), fw E M Z k w → ∃ (M' : Nat → Nat) (u : Nat), Ms E M' ∧ M' w = 12 ∧ sz M' = sz M ∧ Z u ∧ (u = w ∨ M w < 12) ∧ (∀ x, x < 12 → (M' x = 12 ↔ (x = w ∨ (M x = 12 ∧ x ≠ u)))) ∧ (∀ t, t < 12 → (ow M' t = 12 ↔ ow M t = 12)) ∧ ∀ v, ¬ fw E M Z k v → M' v = M v
  | 0, w, q => ⟨M, w, h, (hZ w q).2, rfl, q, Or.inl rfl, fun x _ => by
      constructor
      · intro e
        by_cases z : x = w
        · exact Or.inl z
        · exact Or.inr ⟨e, z⟩
      · rintro (z | z)
        · rw [z]; exact (hZ w q).2
        · exact z.1, fun _ _ => Iff.rfl, fun _ _ => rfl⟩
  | k + 1, w, q => by
    by_cases c : fw E M Z k w
    · obtain ⟨M', u, a1, a2, a3, a4, a5, a6, a7, a8⟩ := hole h hZ k w c
      exact ⟨M', u, a1, a2, a3, a4, a5, a6, a7, fun v n => a8 v fun z => n (Or.inl z)⟩
    · rcases q with q | ⟨v, t, q1, q2, q3, q4, q5⟩
      · exact absurd q c
      · obtain ⟨M1, u, a1, a2, a3, a4, a5, a6, a7, a8⟩ := hole h hZ k v q1
        have hv := fw_12 (fun w z => (hZ w z).1) q1
        have mw : M w = t := (ow_iff h.1 q3 q5).mp q4
        have m1 : M1 w = t := by rw [a8 w c, mw]
        have hvw : v ≠ w := fun z => by rw [z] at a2; omega
        have hd := drop_Ms a1 w
        have hn : ow (up M1 w 12) t = 12 := by
          have := ow_drop a1.1 (w := w) (by omega)
          rwa [m1] at this
        have hv12 : up M1 w 12 v = 12 := by rw [up_ne hvw]; exact a2
        have hg := give_Ms hd hv q3 q2 hn
        refine ⟨up (up M1 w 12) v t, u, hg, ?_, ?_, a4, Or.inr (by omega), fun x hx => ?_, fun s hs => ?_, fun x n => ?_⟩
        · rw [up_ne (Ne.symm hvw), up_same]
        · rw [sz_give hv q3 hv12, sz_drop q5 (by omega), a3]
        · by_cases x1 : x = v
          · rw [x1, up_same]
            constructor
            · intro z; omega
            · rintro (z | ⟨z1, z2⟩)
              · exact absurd z hvw
              · rcases a5 with a5 | a5
                · exact absurd a5.symm z2
                · omega
          · rw [up_ne x1]
            by_cases x2 : x = w
            · rw [x2, up_same]; simp
            · rw [up_ne x2, a6 x hx]
              constructor
              · rintro (z | z)
                · exact absurd z x1
                · exact Or.inr z
              · rintro (z | z)
                · exact absurd z x2
                · exact Or.inr z
        · by_cases e : s = t
          · subst e
            rw [q4, (ow_iff hg.1 hs hv).mpr (up_same _ _ _)]
            omega
          · rw [ow_up_ne e (by rw [hv12]; omega), ow_up_ne (by omega) (by rw [m1]; exact e)]
            exact a7 s hs
        · have x1 : x ≠ v := fun z => n (Or.inl (by rw [z]; exact q1))
          have x2 : x ≠ w := fun z => n (Or.inr ⟨v, t, q1, q2, q3, by rw [z]; exact q4, by rw [z]; exact q5⟩)
          rw [up_ne x1, up_ne x2]
          exact a8 x fun z => n (Or.inl z)
/-- a free task reached from a free worker: a pair more -/
theorem exch {E : Nat → Nat → Bool} {M : Nat → Nat} {Z : Nat → Prop} {k v f : Nat} (h : Ms E M) (hZ : ∀ w, Z w → w < 12 ∧ M w = 12) (q : fw E M Z k v) (he : E v f = true) (hf : f < 12) (ho : ow M f = 12) :
    ∃ (M' : Nat → Nat) (u : Nat), Ms E M' ∧ sz M' = sz M + 1 ∧ Z u ∧ ∀ x, x < 12 → (M' x = 12 ↔ (M x = 12 ∧ x ≠ u)) := by
  obtain ⟨M1, u, a1, a2, a3, a4, a5, a6, a7, a8⟩ := hole h hZ k v q
  have hv := fw_12 (fun w z => (hZ w z).1) q
  have ho' := (a7 f hf).mpr ho
  refine ⟨up M1 v f, u, give_Ms a1 hv hf he ho', by rw [sz_give hv hf a2, a3], a4, fun x hx => ?_⟩
  by_cases x1 : x = v
  · rw [x1, up_same]
    constructor
    · intro z; omega
    · rintro ⟨z1, z2⟩
      rcases a5 with a5 | a5
      · exact absurd a5.symm z2
      · omega
  · rw [up_ne x1, a6 x hx]
    constructor
    · rintro (z | z)
      · exact absurd z x1
      · exact z
    · intro z; exact Or.inr z
theorem nu_closed {E : Nat → Nat → Bool} {M : Nat → Nat} {Z : Nat → Prop} {k v f : Nat} (hn : Nu E (sz M)) (h : Ms E M) (hZ : ∀ w, Z w → w < 12 ∧ M w = 12) (q : fw E M Z k v) (he : E v f = true) (hf : f < 12) : ow M f < 12 := by
  have := ow_le M f
  by_cases e : ow M f = 12
  · obtain ⟨M', u, a1, a2, -⟩ := exch h hZ q he hf e
    have := hn.2 M' a1
    omega
  · omega
/-! ways by their length: rch k w: from w a free task is come to by k fits at most -/
def rch (E : Nat → Nat → Bool) (M : Nat → Nat) : Nat → Nat → Prop
  | 0, _ => False
  | k + 1, w => ∃ t, t < 12 ∧ E w t = true ∧ M w ≠ t ∧ (ow M t = 12 ∨ rch E M k (ow M t))
def Nr (E : Nat → Nat → Bool) (M : Nat → Nat) (w : Nat) : Prop := ∀ k, ¬ rch E M k w
/-- t brings a worker to length k -/
def stp (E : Nat → Nat → Bool) (M : Nat → Nat) (k t : Nat) : Prop := ow M t = 12 ∨ rch E M (k - 1) (ow M t)
theorem rch_s {E : Nat → Nat → Bool} {M : Nat → Nat} : ∀ {k w : Nat}, rch E M k w → rch E M (k + 1) w
  | 0, _, h => h.elim
  | k + 1, w, ⟨t, h1, h2, h3, h4⟩ => ⟨t, h1, h2, h3, h4.imp id rch_s⟩
theorem rch_le {E : Nat → Nat → Bool} {M : Nat → Nat} {w : Nat} {a b : Nat} (h : a ≤ b) (q : rch E M a w) : rch E M b w := by
  induction b with
  | zero => rw [show a = 0 by omega] at q; exact q
  | succ b ih =>
    by_cases e : a = b + 1
    · subst e; exact q
    · exact rch_s (ih (by omega))
theorem rch_12 {E : Nat → Nat → Bool} {M : Nat → Nat} (hb : Eb E) : ∀ {k w : Nat}, rch E M k w → w < 12
  | 0, _, h => h.elim
  | k + 1, w, ⟨t, h1, h2, h3, h4⟩ => (hb w t h2).1
theorem Nr.of_dd {E : Nat → Nat → Bool} {M : Nat → Nat} {D : Nat → Bool} (hD : Dd E M D) : ∀ (k w : Nat), (∀ t, E w t = true → D t = true) → ¬ rch E M k w
  | 0, _, _, h => h
  | k + 1, w, hw, ⟨t, h1, h2, h3, h4⟩ => by
    obtain ⟨a, b⟩ := hD t h1 (hw t h2)
    rcases h4 with h4 | h4
    · omega
    · exact Nr.of_dd hD k _ b h4
/-- the tasks whose workers have no way on -/
noncomputable def Ds (E : Nat → Nat → Bool) (M : Nat → Nat) (t : Nat) : Bool := pb (ow M t < 12 ∧ Nr E M (ow M t))
theorem Ds_in {E : Nat → Nat → Bool} {M : Nat → Nat} {w t : Nat} (hb : Eb E) (hw : Nr E M w) (hm : M w ≠ t) (he : E w t = true) : Ds E M t = true := by
  refine pb_t.mpr ⟨?_, fun k q => hw (k + 1) ⟨t, (hb w t he).2, he, hm, Or.inr q⟩⟩
  have := ow_le M t
  have : ow M t ≠ 12 := fun z => hw 1 ⟨t, (hb w t he).2, he, hm, Or.inl z⟩
  omega
theorem Ds_dd {E : Nat → Nat → Bool} {M : Nat → Nat} (hb : Eb E) : Dd E M (Ds E M) := by
  intro t ht q
  obtain ⟨a, b⟩ := pb_t.mp q
  refine ⟨a, fun s e => ?_⟩
  by_cases z : M (ow M t) = s
  · rw [ow_M a] at z; rw [← z]; exact q
  · exact Ds_in hb b z e
/-- no free worker has a way -/
def Fin' (E : Nat → Nat → Bool) (M : Nat → Nat) : Prop := ∀ w, w < 12 → M w = 12 → Nr E M w
theorem fin_nu {E : Nat → Nat → Bool} {M : Nat → Nat} (hb : Eb E) (h : Ms E M) (hf : Fin' E M) : Nu E (sz M) :=
  dd_nu hb h (Ds_dd hb) fun w hw hm t he => Ds_in hb (hf w hw hm) (by have := (hb w t he).2; omega) he
/-- the shortest way from a free worker, by the least tasks: L workers pw, tasks pt -/
def Tw (E : Nat → Nat → Bool) (M : Nat → Nat) (L : Nat) (pw pt : Nat → Nat) : Prop :=
  0 < L ∧ M (pw 0) = 12 ∧ pw 0 < 12 ∧ ∀ i, i < L → rch E M (L - i) (pw i) ∧ ¬ rch E M (L - i - 1) (pw i) ∧ E (pw i) (pt i) = true ∧ M (pw i) ≠ pt i ∧ stp E M (L - i) (pt i) ∧ (∀ t, t < pt i → E (pw i) t = true → M (pw i) ≠ t → ¬ stp E M (L - i) t) ∧ (i + 1 < L → ow M (pt i) = pw (i + 1))
noncomputable def aug (M : Nat → Nat) (L : Nat) (pw pt : Nat → Nat) (w : Nat) : Nat := if fi (fun i => decide (pw i = w)) L < L then pt (fi (fun i => decide (pw i = w)) L) else M w
section Aug
variable {E : Nat → Nat → Bool} {M : Nat → Nat} {L : Nat} {pw pt : Nat → Nat}
theorem Tw.w12 (hb : Eb E) (h : Tw E M L pw pt) {i : Nat} (hi : i < L) : pw i < 12 ∧ pt i < 12 := hb _ _ (h.2.2.2 i hi).2.2.1
theorem Tw.inj (h : Tw E M L pw pt) {i j : Nat} (hi : i < L) (hj : j < L) (e : pw i = pw j) : i = j := by
  obtain ⟨a1, a2, -⟩ := h.2.2.2 i hi
  obtain ⟨b1, b2, -⟩ := h.2.2.2 j hj
  rw [e] at a1 a2
  apply Nat.le_antisymm
  · apply Nat.le_of_not_lt; intro q; exact b2 (rch_le (by omega) a1)
  · apply Nat.le_of_not_lt; intro q; exact a2 (rch_le (by omega) b1)
theorem Tw.last (h : Tw E M L pw pt) : ow M (pt (L - 1)) = 12 := by
  have h0 := h.1
  obtain ⟨-, -, -, -, a, -⟩ := h.2.2.2 (L - 1) (by omega)
  rcases a with a | a
  · exact a
  · rw [show L - (L - 1) - 1 = 0 by omega] at a; exact a.elim
theorem Tw.next (h : Tw E M L pw pt) {i : Nat} (hi : i + 1 < L) : ow M (pt i) = pw (i + 1) := (h.2.2.2 i (by omega)).2.2.2.2.2.2 hi
theorem Tw.mate (hb : Eb E) (h : Tw E M L pw pt) {i : Nat} (hi : i + 1 < L) : M (pw (i + 1)) = pt i := by
  have := h.next hi
  have h2 := (h.w12 hb hi).1
  rw [← this]
  exact ow_M (by omega)
theorem Tw.tinj (hb : Eb E) (h : Tw E M L pw pt) {i j : Nat} (hi : i < L) (hj : j < L) (e : pt i = pt j) : i = j := by
  have key : ∀ i j, i < j → j < L → pt i = pt j → False := fun i j q hj e => by
    have a := h.next (i := i) (by omega)
    have a2 := (h.w12 hb (i := i + 1) (by omega)).1
    by_cases z : j + 1 < L
    · have b := h.next z
      rw [← e, a] at b
      have := h.inj (by omega) z b
      omega
    · have b := h.last
      rw [show L - 1 = j by omega, ← e, a] at b
      omega
  apply Nat.le_antisymm
  · apply Nat.le_of_not_lt; intro q; exact key j i q hi e.symm
  · apply Nat.le_of_not_lt; intro q; exact key i j q hj e
theorem Tw.len (hb : Eb E) (h : Tw E M L pw pt) : L ≤ 12 := by
  have := cnt_inj (p := fun _ => true) (q := fun _ => true) (m := 12) (n := L) pw (fun k hk _ => ⟨(h.w12 hb hk).1, rfl⟩) (fun i j hi hj _ _ e => h.inj hi hj e)
  rwa [cnt_true, cnt_true] at this
theorem aug_on (hi : ∀ i j, i < L → j < L → pw i = pw j → i = j) {i : Nat} (h : i < L) : aug M L pw pt (pw i) = pt i := by
  have : fi (fun j => decide (pw j = pw i)) L = i := fi_eq h (by simp) (fun j hj => by
    simp only [decide_eq_false_iff_not]
    intro z
    have := hi j i (by omega) h z
    omega)
  unfold aug
  rw [this, if_pos h]
theorem aug_off {w : Nat} (h : ∀ i, i < L → pw i ≠ w) : aug M L pw pt w = M w := by
  have : fi (fun j => decide (pw j = w)) L = L := fi_none fun k hk => by simp [h k hk]
  unfold aug
  rw [this, if_neg (Nat.lt_irrefl _)]
theorem path_or (pw : Nat → Nat) (L w : Nat) : (∃ i, i < L ∧ pw i = w) ∨ ∀ i, i < L → pw i ≠ w := by
  by_cases c : ∃ i, i < L ∧ pw i = w
  · exact Or.inl c
  · exact Or.inr fun i hi z => c ⟨i, hi, z⟩
theorem aug_Ms (hb : Eb E) (h : Ms E M) (t : Tw E M L pw pt) : Ms E (aug M L pw pt) := by
  have hi : ∀ i j, i < L → j < L → pw i = pw j → i = j := fun i j hi hj e => t.inj hi hj e
  -- a task of the way isn't another's
  have ho : ∀ (j x : Nat), j < L → (∀ i, i < L → pw i ≠ x) → M x ≠ pt j := fun j x hj hx e => by
    have tj := (t.w12 hb hj).2
    have : ow M (pt j) = x := by rw [← e]; exact ow_of h.1 (by omega)
    by_cases z : j + 1 < L
    · rw [t.next z] at this; exact hx _ z this
    · have l := t.last
      rw [show L - 1 = j by omega, this] at l
      have := h.1.2.1 x (by omega)
      omega
  refine ⟨⟨fun w => ?_, fun w hw => ?_, fun w v q e => ?_⟩, fun w q => ?_⟩
  · rcases path_or pw L w with ⟨i, i1, i2⟩ | n
    · rw [← i2, aug_on hi i1]; have := (t.w12 hb i1).2; omega
    · rw [aug_off n]; exact h.1.1 w
  · rcases path_or pw L w with ⟨i, i1, i2⟩ | n
    · have := (t.w12 hb i1).1; omega
    · rw [aug_off n]; exact h.1.2.1 w hw
  · rcases path_or pw L w with ⟨i, i1, i2⟩ | n
    · rcases path_or pw L v with ⟨j, j1, j2⟩ | n'
      · rw [← i2, ← j2, aug_on hi i1, aug_on hi j1] at e
        rw [← i2, ← j2, t.tinj hb i1 j1 e]
      · rw [← i2, aug_on hi i1, aug_off n'] at e
        exact absurd e.symm (ho i v i1 n')
    · rcases path_or pw L v with ⟨j, j1, j2⟩ | n'
      · rw [← j2, aug_on hi j1, aug_off n] at e
        exact absurd e (ho j w j1 n)
      · rw [aug_off n] at q
        rw [aug_off n, aug_off n'] at e
        exact h.1.2.2 w v q e
  · rcases path_or pw L w with ⟨i, i1, i2⟩ | n
    · rw [← i2, aug_on hi i1]; exact (t.2.2.2 i i1).2.2.1
    · rw [aug_off n] at q ⊢; exact h.2 w q
theorem aug_free (hb : Eb E) (t : Tw E M L pw pt) (w : Nat) : aug M L pw pt w = 12 ↔ M w = 12 ∧ w ≠ pw 0 := by
  have hi : ∀ i j, i < L → j < L → pw i = pw j → i = j := fun i j hi hj e => t.inj hi hj e
  rcases path_or pw L w with ⟨i, i1, i2⟩ | n
  · rw [← i2, aug_on hi i1]
    have a := (t.w12 hb i1).2
    constructor
    · intro z; omega
    · rintro ⟨z1, z2⟩
      cases i with
      | zero => exact absurd rfl z2
      | succ i =>
        rw [t.mate hb i1] at z1
        have := (t.w12 hb (i := i) (by omega)).2
        omega
  · rw [aug_off n]
    exact ⟨fun z => ⟨z, fun q => n 0 t.1 q.symm⟩, fun z => z.1⟩
theorem aug_sz (hb : Eb E) (h : Ms E M) (t : Tw E M L pw pt) : sz (aug M L pw pt) = sz M + 1 := by
  unfold sz
  rw [← cnt_ins (p := fun x => decide (M x < 12)) (j := pw 0) t.2.2.1 (by simp [t.2.1])]
  refine cnt_congr fun k _ => ?_
  have e := aug_free hb t k
  have h1 := h.1.1 k
  have h2 := (aug_Ms hb h t).1.1 k
  by_cases c : k = pw 0
  · have : aug M L pw pt k ≠ 12 := fun z => (e.mp z).2 c
    simp [c] at this ⊢
    rw [← c] at this ⊢
    omega
  · by_cases z : M k = 12
    · rw [e.mpr ⟨z, c⟩]; simp [z, c]
    · have : aug M L pw pt k ≠ 12 := fun y => z (e.mp y).1
      have : aug M L pw pt k < 12 := by omega
      have : M k < 12 := by omega
      simp [*]
theorem aug_ow (hb : Eb E) (h : Ms E M) (t : Tw E M L pw pt) {s : Nat} (hs : s < 12) (n : ∀ i, i < L → pt i ≠ s) : ow (aug M L pw pt) s = ow M s := by
  have hi : ∀ i j, i < L → j < L → pw i = pw j → i = j := fun i j hi hj e => t.inj hi hj e
  refine fi_congr fun w hw => ?_
  rcases path_or pw L w with ⟨i, i1, i2⟩ | m
  · rw [← i2, aug_on hi i1]
    have a : pt i ≠ s := n i i1
    have b : M (pw i) ≠ s := by
      cases i with
      | zero => rw [t.2.1]; omega
      | succ i => rw [t.mate hb i1]; exact n i (by omega)
    simp [a, b]
  · rw [aug_off m]
/-- who has no way gets none by another's -/
theorem aug_nr (hb : Eb E) (h : Ms E M) (t : Tw E M L pw pt) {v : Nat} (hm : M v = 12) (hv : Nr E M v) : Nr E (aug M L pw pt) v := by
  have hd : Dd E (aug M L pw pt) (Ds E M) := by
    intro s hs q
    have np : ∀ i, i < L → pt i ≠ s := by
      intro i hi z
      obtain ⟨a, b⟩ := pb_t.mp q
      by_cases c : i + 1 < L
      · rw [← z, t.next c] at b
        exact b _ (t.2.2.2 (i + 1) c).1
      · have l := t.last
        rw [show L - 1 = i by omega, z] at l
        omega
    rw [aug_ow hb h t hs np]
    exact Ds_dd hb s hs q
  exact fun k => Nr.of_dd hd k v fun s he => Ds_in hb hv (by have := (hb v s he).2; omega) he
end Aug
/-- THE WAY is DONE -/
def Sp (E : Nat → Nat → Bool) (M M' : Nat → Nat) : Prop := ∃ L pw pt, Tw E M L pw pt ∧ (∀ v, v < pw 0 → M v = 12 → Nr E M v) ∧ M' = aug M L pw pt
theorem Tw.uniq {E : Nat → Nat → Bool} {M : Nat → Nat} {L L' : Nat} {pw pt pw' pt' : Nat → Nat} (h : Tw E M L pw pt) (h' : Tw E M L' pw' pt') (e : pw 0 = pw' 0) : L = L' ∧ ∀ i, i < L → pw i = pw' i ∧ pt i = pt' i := by
  have hL : L = L' := by
    obtain ⟨a1, a2, -⟩ := h.2.2.2 0 h.1
    obtain ⟨b1, b2, -⟩ := h'.2.2.2 0 h'.1
    rw [← e] at b1 b2
    have := h.1
    have := h'.1
    apply Nat.le_antisymm
    · apply Nat.le_of_not_lt; intro q; exact a2 (rch_le (by omega) b1)
    · apply Nat.le_of_not_lt; intro q; exact b2 (rch_le (by omega) a1)
  subst hL
  refine ⟨rfl, fun i => ?_⟩
  have key : ∀ i, i < L → pw i = pw' i → pt i = pt' i := by
    intro i hi e
    obtain ⟨-, -, a3, a4, a5, a6, -⟩ := h.2.2.2 i hi
    obtain ⟨-, -, b3, b4, b5, b6, -⟩ := h'.2.2.2 i hi
    rw [← e] at b3 b4 b6
    apply Nat.le_antisymm
    · apply Nat.le_of_not_lt; intro q; exact a6 _ q b3 b4 b5
    · apply Nat.le_of_not_lt; intro q; exact b6 _ q a3 a4 a5
  induction i with
  | zero => intro hi; exact ⟨e, key 0 hi e⟩
  | succ i ih =>
    intro hi
    have e1 := ih (by omega)
    have e2 : pw (i + 1) = pw' (i + 1) := by rw [← h.next hi, ← h'.next hi, e1.2]
    exact ⟨e2, key _ hi e2⟩
theorem Sp.uniq {E : Nat → Nat → Bool} {M M1 M2 : Nat → Nat} (h1 : Sp E M M1) (h2 : Sp E M M2) : M1 = M2 := by
  obtain ⟨L, pw, pt, a, b, rfl⟩ := h1
  obtain ⟨L', pw', pt', a', b', rfl⟩ := h2
  have e0 : pw 0 = pw' 0 := by
    apply Nat.le_antisymm
    · apply Nat.le_of_not_lt; intro q; exact b _ q a'.2.1 _ (a'.2.2.2 0 a'.1).1
    · apply Nat.le_of_not_lt; intro q; exact b' _ q a.2.1 _ (a.2.2.2 0 a.1).1
  obtain ⟨rfl, e⟩ := a.uniq a' e0
  funext w
  have : fi (fun i => decide (pw i = w)) L = fi (fun i => decide (pw' i = w)) L := fi_congr fun k hk => by rw [(e k hk).1]
  unfold aug
  rw [this]
  split
  · rename_i c; exact (e _ c).2
  · rfl
theorem Sp.nofin {E : Nat → Nat → Bool} {M M1 : Nat → Nat} (h1 : Sp E M M1) (h : Fin' E M) : False := by
  obtain ⟨L, pw, pt, a, b, -⟩ := h1
  exact h _ a.2.2.1 a.2.1 _ (a.2.2.2 0 a.1).1
/-- THE WAY is DONE k times -/
def Ch (E : Nat → Nat → Bool) : Nat → (Nat → Nat) → (Nat → Nat) → Prop
  | 0, M, M' => M' = M
  | k + 1, M, M' => ∃ M1, Sp E M M1 ∧ Ch E k M1 M'
theorem Ch.snoc {E : Nat → Nat → Bool} : ∀ {k : Nat} {M M1 M2 : Nat → Nat}, Ch E k M M1 → Sp E M1 M2 → Ch E (k + 1) M M2
  | 0, M, M1, M2, h, s => by
    have h : M1 = M := h
    subst h
    exact ⟨M2, s, rfl⟩
  | k + 1, M, M1, M2, ⟨N, a, b⟩, s => ⟨N, a, Ch.snoc b s⟩
/-- .. most times at the most, else till there is none -/
def Gr (E : Nat → Nat → Bool) (most k : Nat) (M M' : Nat → Nat) : Prop := Ch E k M M' ∧ k ≤ most ∧ (k = most ∨ Fin' E M')
theorem Gr.uniq {E : Nat → Nat → Bool} : ∀ {most k k' : Nat} {M M1 M2 : Nat → Nat}, Gr E most k M M1 → Gr E most k' M M2 → k = k' ∧ M1 = M2
  | most, 0, 0, M, M1, M2, ⟨a, _, _⟩, ⟨a', _, _⟩ => ⟨rfl, (show M1 = M from a).trans (show M2 = M from a').symm⟩
  | most, 0, k' + 1, M, M1, M2, ⟨a, b, c⟩, ⟨a', b', c'⟩ => by
    have a : M1 = M := a
    subst a
    obtain ⟨N, s, _⟩ := a'
    rcases c with c | c
    · omega
    · exact (s.nofin c).elim
  | most, k + 1, 0, M, M1, M2, ⟨a, b, c⟩, ⟨a', b', c'⟩ => by
    have a' : M2 = M := a'
    subst a'
    obtain ⟨N, s, _⟩ := a
    rcases c' with c | c
    · omega
    · exact (s.nofin c).elim
  | most, k + 1, k' + 1, M, M1, M2, ⟨⟨N, s, a⟩, b, c⟩, ⟨⟨N', s', a'⟩, b', c'⟩ => by
    have := s.uniq s'
    subst this
    obtain ⟨e1, e2⟩ := Gr.uniq (most := most - 1) (k := k) (k' := k') (M := N) (M1 := M1) (M2 := M2) ⟨a, by omega, c.imp (fun z => by omega) id⟩ ⟨a', by omega, c'.imp (fun z => by omega) id⟩
    exact ⟨by omega, e2⟩
theorem Ch.Ms {E : Nat → Nat → Bool} (hb : Eb E) : ∀ {k : Nat} {M M' : Nat → Nat}, Ms E M → Ch E k M M' → Ms E M' ∧ sz M' = sz M + k
  | 0, M, M', h, c => by
    have c : M' = M := c
    subst c
    exact ⟨h, rfl⟩
  | k + 1, M, M', h, ⟨N, ⟨L, pw, pt, a, b, e⟩, c⟩ => by
    subst e
    obtain ⟨h1, h2⟩ := Ch.Ms hb (aug_Ms hb h a) c
    exact ⟨h1, by rw [h2, aug_sz hb h a]; omega⟩
theorem sz_le (M : Nat → Nat) : sz M ≤ 12 := cnt_le _ _
/-- 12 are as many as there can be -/
theorem Gr.nu {E : Nat → Nat → Bool} {k : Nat} {M M' : Nat → Nat} (hb : Eb E) (h : Ms E M) (g : Gr E 12 k M M') : Ms E M' ∧ Nu E (sz M') ∧ Fin' E M' := by
  obtain ⟨a, b, c⟩ := g
  obtain ⟨h1, h2⟩ := a.Ms hb h
  have hf : Fin' E M' := by
    rcases c with c | c
    · intro w hw hm
      have := sz_le M'
      have e : cnt (fun w => decide (M' w < 12)) 12 = 12 := by show sz M' = 12; omega
      have := cnt_all e w hw
      simp only [decide_eq_true_eq] at this
      omega
    · exact c
  exact ⟨h1, fin_nu hb h1 hf, hf⟩
