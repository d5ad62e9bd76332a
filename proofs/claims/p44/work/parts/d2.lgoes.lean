/-! THE LAW'S BOOK: a way of a given length, the first by its tasks -/
def TCw (E : Nat → Nat → Bool) (M : Nat → Nat) (L : Nat) (pw pt : Nat → Nat) (i : Nat) : Prop :=
  rch E M (L - i) (pw i) ∧ ¬ rch E M (L - i - 1) (pw i) ∧ E (pw i) (pt i) = true ∧ M (pw i) ≠ pt i ∧ stp E M (L - i) (pt i) ∧ (∀ t, t < pt i → E (pw i) t = true → M (pw i) ≠ t → ¬ stp E M (L - i) t) ∧ (i + 1 < L → ow M (pt i) = pw (i + 1))
/-- a walk so far -/
def Wlk (E : Nat → Nat → Bool) (M : Nat → Nat) (pw pt : Nat → Nat) (i : Nat) : Prop := ∀ j, j < i → E (pw j) (pt j) = true ∧ pt j < 12 ∧ M (pw j) ≠ pt j ∧ ow M (pt j) = pw (j + 1)
theorem walk_rch {E : Nat → Nat → Bool} {M pw pt : Nat → Nat} : ∀ (i : Nat), Wlk E M pw pt i → ∀ k, rch E M k (pw i) → rch E M (i + k) (pw 0)
  | 0, _, k, q => by rw [Nat.zero_add]; exact q
  | i + 1, h, k, q => by
    obtain ⟨a, b, c, d⟩ := h i (by omega)
    have := walk_rch i (fun j hj => h j (by omega)) (k + 1) ⟨pt i, b, a, c, Or.inr (by rw [d]; exact q)⟩
    rwa [show i + (k + 1) = i + 1 + k by omega] at this
theorem tw_ex {E : Nat → Nat → Bool} {M : Nat → Nat} {w L : Nat} (hw : w < 12) (hm : M w = 12) (h : rch E M L w) (hn : ¬ rch E M (L - 1) w) : ∃ pw pt, Tw E M L pw pt ∧ pw 0 = w := by
  have hL : 0 < L := by
    rcases Nat.eq_zero_or_pos L with z | z
    · rw [z] at h; exact h.elim
    · exact z
  let tk : Nat → Nat → Nat := fun v r => fi (fun t => E v t && decide (M v ≠ t) && pb (stp E M r t)) 12
  let pw : Nat → Nat := fun i => Nat.rec w (fun i v => ow M (tk v (L - i))) i
  have p1 : ∀ i, pw (i + 1) = ow M (tk (pw i) (L - i)) := fun i => rfl
  have key : ∀ v r, rch E M (r + 1) v → tk v (r + 1) < 12 ∧ E v (tk v (r + 1)) = true ∧ M v ≠ tk v (r + 1) ∧ stp E M (r + 1) (tk v (r + 1)) ∧ ∀ t, t < tk v (r + 1) → E v t = true → M v ≠ t → ¬ stp E M (r + 1) t := by
    intro v r q
    obtain ⟨t, t12, e, m, s⟩ := q
    have hp : (E v t && decide (M v ≠ t) && pb (stp E M (r + 1) t)) = true := by
      rw [e, decide_eq_true m, pb_t.mpr (show stp E M (r + 1) t from s)]; rfl
    have l1 : tk v (r + 1) < 12 := Nat.lt_of_le_of_lt (fi_le_of (p := fun t => E v t && decide (M v ≠ t) && pb (stp E M (r + 1) t)) hp t12) t12
    have l2 : (E v (tk v (r + 1)) && decide (M v ≠ tk v (r + 1)) && pb (stp E M (r + 1) (tk v (r + 1)))) = true := fi_p (p := fun t => E v t && decide (M v ≠ t) && pb (stp E M (r + 1) t)) l1
    simp only [Bool.and_eq_true, decide_eq_true_eq] at l2
    refine ⟨l1, l2.1.1, l2.1.2, pb_t.mp l2.2, fun u hu e' m' s' => ?_⟩
    have := fi_min (p := fun t => E v t && decide (M v ≠ t) && pb (stp E M (r + 1) t)) (n := 12) hu
    rw [e', decide_eq_true m', pb_t.mpr s'] at this
    cases this
  have inv : ∀ i, i < L → rch E M (L - i) (pw i) ∧ ¬ rch E M (L - i - 1) (pw i) := by
    intro i
    induction i with
    | zero => intro _; exact ⟨h, hn⟩
    | succ i ih =>
      intro hi
      obtain ⟨a, b⟩ := ih (by omega)
      have e1 : L - i = (L - i - 1) + 1 := by omega
      rw [e1] at a
      obtain ⟨k1, k2, k3, k4, k5⟩ := key _ _ a
      rw [← e1] at k1 k2 k3 k4 k5
      have np : ow M (tk (pw i) (L - i)) ≠ 12 := fun z => b (rch_le (a := 1) (by omega) ⟨tk (pw i) (L - i), k1, k2, k3, Or.inl z⟩)
      have r1 : rch E M (L - i - 1) (ow M (tk (pw i) (L - i))) := k4.resolve_left np
      rw [p1, show L - (i + 1) = L - i - 1 by omega]
      refine ⟨r1, fun z => b ?_⟩
      have e2 : L - i - 1 = (L - i - 1 - 1) + 1 := by omega
      rw [e2]
      exact ⟨tk (pw i) (L - i), k1, k2, k3, Or.inr z⟩
  refine ⟨pw, fun i => tk (pw i) (L - i), ⟨hL, hm, hw, fun i hi => ?_⟩, rfl⟩
  obtain ⟨a, b⟩ := inv i hi
  have a' := a
  have e1 : L - i = (L - i - 1) + 1 := by omega
  rw [e1] at a'
  obtain ⟨k1, k2, k3, k4, k5⟩ := key _ _ a'
  rw [← e1] at k1 k2 k3 k4 k5
  exact ⟨a, b, k2, k3, k4, k5, fun _ => (p1 i).symm⟩
/-- no way with as many tasks as there are: none at all -/
theorem nr_of {E : Nat → Nat → Bool} {M : Nat → Nat} {w m : Nat} (hb : Eb E) (hm : ∀ w t, E w t = true → t < m) (hw : w < 12) (hM : M w = 12) (h : ¬ rch E M m w) : Nr E M w := by
  intro k
  induction k with
  | zero => exact id
  | succ k ih =>
    intro q
    obtain ⟨pw, pt, t, e⟩ := tw_ex hw hM q ih
    have l : k + 1 ≤ m := by
      have := cnt_inj (m := m) pt (n := k + 1) (p := fun _ => true) (q := fun _ => true) (fun i hi _ => ⟨hm _ _ (t.2.2.2 i hi).2.2.1, rfl⟩) (fun i j hi hj _ _ e => t.tinj hb hi hj e)
      rwa [cnt_true, cnt_true] at this
    exact h (rch_le l q)
section D2
variable {sh : xH} {μ : MM} {a : LA} {B : Bk}
theorem aL_m {y n : Nat} (e : sh[y]? = some (100, dI n)) : aL (mS sh μ) y = some (Int32.ofNat n) := by
  unfold aL
  rw [mem_get e]
  simp [memV_len, dI]
/-- the row so far, who was met, which tasks -/
def GI (E : Nat → Nat → Bool) (M : Nat → Nat) (μ ν : MM) (y : Nat) (pw pt : Nat → Nat) (i : Nat) (x4 x5 : Int32) : Prop :=
  Wlk E M pw pt i ∧ (∀ j, j ≤ i → pw j < 12) ∧ (∀ v, v < 12 → (hb x4 v = true ↔ ∃ j, j ≤ i ∧ pw j = v)) ∧ (∀ t, t < 12 → (hb x5 t = true ↔ ∃ j, j < i ∧ pt j = t)) ∧ (∀ j, j < i → ν.1 y (2 * j) = Int32.ofNat (pw j) ∧ ν.1 y (2 * j + 1) = Int32.ofNat (pt j)) ∧ Fr (fun q _ => q = y) μ ν
def GO (sh : xH) (E : Nat → Nat → Bool) (M : Nat → Nat) (μ : MM) (y L : Nat) (pw pt : Nat → Nat) (i : Nat) (r : Int32 × xH) : Prop :=
  ∃ ξ, r.2 = mS sh ξ ∧ Fr (fun q _ => q = y) μ ξ ∧ ((r.1 = 0 ∧ ¬ rch E M (L - i) (pw i) ∧ ∀ j, j < i → ξ.1 y (2 * j) = Int32.ofNat (pw j) ∧ ξ.1 y (2 * j + 1) = Int32.ofNat (pt j)) ∨
    (r.1 = 1 ∧ ∃ qw qt, (∀ j, j ≤ i → qw j = pw j) ∧ (∀ j, j < i → qt j = pt j) ∧ (∀ j, i ≤ j → j < L → TCw E M L qw qt j) ∧ ∀ j, j < L → ξ.1 y (2 * j) = Int32.ofNat (qw j) ∧ ξ.1 y (2 * j + 1) = Int32.ofNat (qt j)))
theorem st_rows {ν : MM} {y k : Nat} {v : Int32} {f g : Nat → Nat} {i : Nat} (h : ∀ j, j < i → ν.1 y (2 * j) = Int32.ofNat (f j) ∧ ν.1 y (2 * j + 1) = Int32.ofNat (g j)) (hk : 2 * i ≤ k) : ∀ j, j < i → (st ν y k v).1 y (2 * j) = Int32.ofNat (f j) ∧ (st ν y k v).1 y (2 * j + 1) = Int32.ofNat (g j) := fun j hj => by
  rw [st_ne (Or.inr (by omega)), st_ne (Or.inr (by omega))]; exact h j hj
theorem l_goes (hs : lbS sh a) (hv : lbV μ a B) (hM : Ms (gE B) (bM B)) (h12 : ∀ w, bn B ≤ w → bM B w = 12) (hf : ∀ w t, gE B w t = true → w < bn B ∧ t < bm B) {y L : Nat} (hy : sh[y]? = some (100, dI (2 * L))) (hyF : ∀ i, ¬ LF a y i) (hL12 : L ≤ 12) :
    ∀ (r i : Nat) (pw pt : Nat → Nat) (ν : MM) (x4 x5 : Int32) (fuel : Nat), i + r = L → 0 < r → r ≤ fuel → ¬ rch (gE B) (bM B) (L - 1) (pw 0) → GI (gE B) (bM B) μ ν y pw pt i x4 x5 →
    Hw (f_X10_goes fuel (lab a) y (Int32.ofNat (2 * i)) (Int32.ofNat (pw i)) x4 x5 (mS sh ν)) (GO sh (gE B) (bM B) μ y L pw pt i) := by
  have hn : bn B ≤ 12 := hv.2.2.2.2.1.1
  have hm : bm B ≤ 12 := hv.2.2.2.2.1.2.1
  have hE : Eb (gE B) := fun w t e => by have := hf w t e; omega
  have hA : isA sh 100 y (2 * L) isInt = true := isA_of hy
  have eL : ∀ ν : MM, aL (mS sh ν) y = some (Int32.ofNat (2 * L)) := fun ν => aL_m hy
  intro r
  induction r with
  | zero => intro i pw pt ν x4 x5 fuel _ h; exact absurd h (Nat.lt_irrefl 0)
  | succ r ih =>
    intro i pw pt ν x4 x5 fuel hir _ hfu nsh hGI
    obtain ⟨f, rfl⟩ : ∃ f, fuel = f + 1 := ⟨fuel - 1, by omega⟩
    obtain ⟨wk, p12, h4, h5, hrow, hfr⟩ := hGI
    have pi12 := p12 i (Nat.le_refl i)
    have nosh : ∀ j k, j ≤ i → j + k ≤ L - 1 → ¬ rch (gE B) (bM B) k (pw j) := fun j k hj hk q =>
      nsh (rch_le hk (walk_rch j (fun u hu => wk u (by omega)) k q))
    show Hw (f_X10_goes_B (f_X10_goes f) (lab a) y (Int32.ofNat (2 * i)) (Int32.ofNat (pw i)) x4 x5 (mS sh ν)) _
    simp only [f_X10_goes_B, sI_k hA (show 2 * i < 2 * L by omega) (show 2 * L ≤ 100000 by omega), Option.bind_some]
    rw [show (0 : Int32) = Int32.ofNat 0 from rfl]
    refine hw_for (L := fun k t (s : MM) => f_X10_goes_L7 (f_X10_goes f) (f_X10_goes_J79 (f_X10_goes f)) (f_X10_goes_J123 (f_X10_goes f)) (f_X10_goes_J131 (f_X10_goes f)) k (lab a) y (Int32.ofNat (2 * i)) (Int32.ofNat (pw i)) x4 x5 t (mS sh s)) (s0 := st ν y (2 * i) (Int32.ofNat (pw i))) (bm B)
      (fun t s => (∀ j, j < i → s.1 y (2 * j) = Int32.ofNat (pw j) ∧ s.1 y (2 * j + 1) = Int32.ofNat (pt j)) ∧ s.1 y (2 * i) = Int32.ofNat (pw i) ∧ Fr (fun q _ => q = y) μ s ∧ ∀ u, u < t → gE B (pw i) u = true → bM B (pw i) ≠ u → ¬ stp (gE B) (bM B) (L - i) u)
      ⟨st_rows hrow (Nat.le_refl _), st_same _ _ _ _, hfr.st rfl, fun u hu => absurd hu (Nat.not_lt_zero u)⟩ (by omega) (fun t ht s hJ => ?_) (fun s hJ k => ?_)
    · obtain ⟨j1, j2, j3, j4⟩ := hJ
      have t12 : t < 12 := by omega
      have hvs : lbV s a B := hv.fr hs j3 fun q u z y' => hyF u (by rw [← y']; exact z)
      have g1 : s.1 (lab a) 1 = Int32.ofNat (bm B) := hvs.1.2.1
      have gq : s.1 (laq a) (pw i) = eI (bM B (pw i)) := hvs.2.2.1 _ pi12
      have ct : ¬ (Int32.ofNat t ≥ Int32.ofNat (bm B)) := by rw [oN_ge (by omega) (by omega)]; omega
      have hc := l_can hs hvs pi12 t12
      have next : ∀ (s' : MM), (∀ j, j < i → s'.1 y (2 * j) = Int32.ofNat (pw j) ∧ s'.1 y (2 * j + 1) = Int32.ofNat (pt j)) → s'.1 y (2 * i) = Int32.ofNat (pw i) → Fr (fun q _ => q = y) μ s' → (gE B (pw i) t = true → bM B (pw i) ≠ t → ¬ stp (gE B) (bM B) (L - i) t) →
          ((∀ j, j < i → s'.1 y (2 * j) = Int32.ofNat (pw j) ∧ s'.1 y (2 * j + 1) = Int32.ofNat (pt j)) ∧ s'.1 y (2 * i) = Int32.ofNat (pw i) ∧ Fr (fun q _ => q = y) μ s' ∧ ∀ u, u < t + 1 → gE B (pw i) u = true → bM B (pw i) ≠ u → ¬ stp (gE B) (bM B) (L - i) u) := fun s' a1 a2 a3 a4 =>
        ⟨a1, a2, a3, fun u hu => by
          rcases Nat.lt_succ_iff_lt_or_eq.mp hu with z | z
          · exact j4 u z
          · rw [z]; exact a4⟩
      cases c1 : gE B (pw i) t with
      | false =>
        left
        rw [c1] at hc
        refine ⟨s, next s j1 j2 j3 fun z => (by rw [c1] at z; cases z), fun k => ?_⟩
        simp only [f_X10_goes_L7, hs.g (show 1 < 5 by decide), Option.bind_some, g1, if_neg ct, hc, hs.vc, bI_0, if_true, f_X10_goes_J125, lt, i_succ]
      | true =>
        rw [c1] at hc
        have nc : ¬ (bI true = 0) := by rw [bI_0]; simp
        by_cases c2 : bM B (pw i) = t
        · left
          have e2 : eI (bM B (pw i)) = Int32.ofNat t := by rw [eI_oN (hM.1.1 _) t12]; exact c2
          refine ⟨s, next s j1 j2 j3 fun _ z => absurd c2 z, fun k => ?_⟩
          simp only [f_X10_goes_L7, hs.g (show 1 < 5 by decide), Option.bind_some, g1, if_neg ct, hc, hs.vc, if_neg nc, hs.r6, hs.aq pi12, gq, if_pos e2, f_X10_goes_J125, lt, i_succ]
        · have e2 : ¬ (eI (bM B (pw i)) = Int32.ofNat t) := by rw [eI_oN (hM.1.1 _) t12]; exact c2
          have hx5 := has_eq1 (x := x5) (show t < 32 by omega)
          cases c3 : hb x5 t with
          | true =>
            left
            have e3 : ((x5 >>> (Int32.ofNat t &&& 31)) &&& (1 : Int32)) = 1 := by rw [hx5, c3]
            refine ⟨s, next s j1 j2 j3 fun _ _ z => ?_, fun k => ?_⟩
            · obtain ⟨j, hj, e⟩ := (h5 t t12).mp c3
              obtain ⟨-, -, -, d⟩ := wk j hj
              rw [e] at d
              rcases z with z | z
              · have := p12 (j + 1) (by omega); omega
              · rw [d] at z
                exact nosh (j + 1) (L - i - 1) (by omega) (by omega) z
            · simp only [f_X10_goes_L7, hs.g (show 1 < 5 by decide), Option.bind_some, g1, if_neg ct, hc, hs.vc, if_neg nc, hs.r6, hs.aq pi12, gq, if_neg e2, if_pos e3, f_X10_goes_J125, lt, i_succ]
          | false =>
            have e3 : ¬ (((x5 >>> (Int32.ofNat t &&& 31)) &&& (1 : Int32)) = 1) := by rw [hx5, c3]; simp
            have ho := l_owner hs hvs h12 t12
            let s1 := st s y (2 * i + 1) (Int32.ofNat t)
            have es : sI (mS sh s) y (Int32.ofNat (2 * i + 1)) (Int32.ofNat t) = some (mS sh s1) := sI_k hA (show 2 * i + 1 < 2 * L by omega) (show 2 * L ≤ 100000 by omega)
            have r1 : ∀ j, j < i → s1.1 y (2 * j) = Int32.ofNat (pw j) ∧ s1.1 y (2 * j + 1) = Int32.ofNat (pt j) := st_rows j1 (by omega)
            have r2 : s1.1 y (2 * i) = Int32.ofNat (pw i) := by show (st s y (2 * i + 1) (Int32.ofNat t)).1 y (2 * i) = _; rw [st_ne (Or.inr (by omega))]; exact j2
            have r3 : Fr (fun q _ => q = y) μ s1 := j3.st rfl
            have a2 : Int32.ofNat (2 * i) + 2 = Int32.ofNat (2 * (i + 1)) := by rw [show (2 : Int32) = Int32.ofNat 2 from rfl, oN_add]; rfl
            have head : ∀ k, f_X10_goes_L7 (f_X10_goes f) (f_X10_goes_J79 (f_X10_goes f)) (f_X10_goes_J123 (f_X10_goes f)) (f_X10_goes_J131 (f_X10_goes f)) (k + 1) (lab a) y (Int32.ofNat (2 * i)) (Int32.ofNat (pw i)) x4 x5 (Int32.ofNat t) (mS sh s) =
                if Int32.ofNat (2 * (i + 1)) = Int32.ofNat (2 * L) then
                  if eI (ow (bM B) t) ≥ 0 then f_X10_goes_L7 (f_X10_goes f) (f_X10_goes_J79 (f_X10_goes f)) (f_X10_goes_J123 (f_X10_goes f)) (f_X10_goes_J131 (f_X10_goes f)) k (lab a) y (Int32.ofNat (2 * i)) (Int32.ofNat (pw i)) x4 x5 (Int32.ofNat (t + 1)) (mS sh s1) else some (1, mS sh s1)
                else if eI (ow (bM B) t) < 0 then f_X10_goes_L7 (f_X10_goes f) (f_X10_goes_J79 (f_X10_goes f)) (f_X10_goes_J123 (f_X10_goes f)) (f_X10_goes_J131 (f_X10_goes f)) k (lab a) y (Int32.ofNat (2 * i)) (Int32.ofNat (pw i)) x4 x5 (Int32.ofNat (t + 1)) (mS sh s1)
                else if ((x4 >>> (eI (ow (bM B) t) &&& 31)) &&& (1 : Int32)) = 0 then
                  (f_X10_goes f (lab a) y (Int32.ofNat (2 * (i + 1))) (eI (ow (bM B) t)) (x4 ||| ((1 : Int32) <<< (eI (ow (bM B) t) &&& 31))) (x5 ||| ((1 : Int32) <<< (Int32.ofNat t &&& 31))) (mS sh s1)).bind fun r8 =>
                  if r8.1 = 0 then f_X10_goes_L7 (f_X10_goes f) (f_X10_goes_J79 (f_X10_goes f)) (f_X10_goes_J123 (f_X10_goes f)) (f_X10_goes_J131 (f_X10_goes f)) k (lab a) y (Int32.ofNat (2 * i)) (Int32.ofNat (pw i)) x4 x5 (Int32.ofNat (t + 1)) r8.2 else some (1, r8.2)
                else f_X10_goes_L7 (f_X10_goes f) (f_X10_goes_J79 (f_X10_goes f)) (f_X10_goes_J123 (f_X10_goes f)) (f_X10_goes_J131 (f_X10_goes f)) k (lab a) y (Int32.ofNat (2 * i)) (Int32.ofNat (pw i)) x4 x5 (Int32.ofNat (t + 1)) (mS sh s1) := fun k => by
              have z1 : ((1 : Int32) = 0 ∨ (1 : Int32) = 1) := Or.inr rfl
              simp only [f_X10_goes_L7, hs.g (show 1 < 5 by decide), Option.bind_some, g1, if_neg ct, hc, hs.vc, if_neg nc, hs.r6, hs.aq pi12, gq, if_neg e2, if_neg e3, ho, i_succ, es, eL, a2, f_X10_goes_J125, f_X10_goes_J79, f_X10_goes_J123, if_pos z1, or_true, if_true, lt]
            have ol := ow_le (bM B) t
            by_cases cr : r = 0
            · have cl : Int32.ofNat (2 * (i + 1)) = Int32.ofNat (2 * L) := by rw [show i + 1 = L by omega]
              by_cases co : ow (bM B) t = 12
              · right
                intro k
                have cg : ¬ (eI (ow (bM B) t) ≥ 0) := by rw [co]; decide
                rw [head k, if_pos cl, if_neg cg]
                refine hw_ret ⟨s1, rfl, r3, Or.inr ⟨rfl, pw, up pt i t, fun _ _ => rfl, fun j hj => up_ne (by omega), fun j hj hj2 => ?_, fun j hj => ?_⟩⟩
                · have : j = i := by omega
                  subst this
                  have e1 : L - j = 1 := by omega
                  refine ⟨?_, ?_, ?_, ?_, ?_, ?_, fun z => by omega⟩
                  · rw [e1]; exact ⟨t, t12, c1, c2, Or.inl co⟩
                  · rw [e1]; exact id
                  · rw [up_same]; exact c1
                  · rw [up_same]; exact c2
                  · rw [up_same]; exact Or.inl co
                  · rw [up_same]; exact fun u hu => j4 u hu
                · rcases Nat.lt_succ_iff_lt_or_eq.mp (show j < i + 1 by omega) with z | z
                  · rw [up_ne (by omega)]; exact r1 j z
                  · rw [z, up_same]; exact ⟨r2, st_same _ _ _ _⟩
              · left
                have cg : (eI (ow (bM B) t) ≥ 0) := by rw [eI_lt (by omega), oN_g0 (by omega)]; trivial
                refine ⟨s1, next s1 r1 r2 r3 fun _ _ z => ?_, fun k => ?_⟩
                · rcases z with z | z
                  · exact co z
                  · rw [show L - i - 1 = 0 by omega] at z; exact z
                · rw [head k, if_pos cl, if_pos cg]
            · have cl : ¬ (Int32.ofNat (2 * (i + 1)) = Int32.ofNat (2 * L)) := by rw [oN_inj (by omega) (by omega)]; omega
              by_cases co : ow (bM B) t = 12
              · exfalso
                exact nosh i 1 (Nat.le_refl i) (by omega) ⟨t, t12, c1, c2, Or.inl co⟩
              · have o12 : ow (bM B) t < 12 := by omega
                have cg : ¬ (eI (ow (bM B) t) < 0) := by rw [eI_l0]; omega
                have hx4 := has_eq (x := x4) (show ow (bM B) t < 32 by omega)
                rw [← eI_lt o12] at hx4
                cases c4 : hb x4 (ow (bM B) t) with
                | true =>
                  left
                  have e4 : ¬ (((x4 >>> (eI (ow (bM B) t) &&& 31)) &&& (1 : Int32)) = 0) := by rw [hx4, c4]; simp
                  refine ⟨s1, next s1 r1 r2 r3 fun _ _ z => ?_, fun k => ?_⟩
                  · obtain ⟨j, hj, e⟩ := (h4 _ o12).mp c4
                    rcases z with z | z
                    · exact co z
                    · rw [← e] at z
                      exact nosh j (L - i - 1) hj (by omega) z
                  · rw [head k, if_neg cl, if_neg cg, if_neg e4]
                | false =>
                  have e4 : (((x4 >>> (eI (ow (bM B) t) &&& 31)) &&& (1 : Int32)) = 0) := by rw [hx4, c4]
                  have wk' : Wlk (gE B) (bM B) (up pw (i + 1) (ow (bM B) t)) (up pt i t) (i + 1) := fun j hj => by
                    rcases Nat.lt_succ_iff_lt_or_eq.mp hj with z | z
                    · rw [up_ne (by omega), up_ne (by omega), up_ne (by omega)]; exact wk j z
                    · subst z
                      rw [up_ne (by omega), up_same, up_same]; exact ⟨c1, t12, c2, rfl⟩
                  have hGI' : GI (gE B) (bM B) μ s1 y (up pw (i + 1) (ow (bM B) t)) (up pt i t) (i + 1) (x4 ||| ((1 : Int32) <<< (eI (ow (bM B) t) &&& 31))) (x5 ||| ((1 : Int32) <<< (Int32.ofNat t &&& 31))) := by
                    refine ⟨wk', fun j hj => ?_, fun v hv9 => ?_, fun u hu => ?_, fun j hj => ?_, r3⟩
                    · by_cases z : j = i + 1
                      · rw [z, up_same]; exact o12
                      · rw [up_ne z]; exact p12 j (by omega)
                    · rw [hb_or, eI_lt o12, hb_bit v (by omega)]
                      simp only [Bool.or_eq_true, decide_eq_true_eq]
                      constructor
                      · rintro (q | q)
                        · obtain ⟨j, hj, e⟩ := (h4 v hv9).mp q
                          exact ⟨j, by omega, by rw [up_ne (by omega)]; exact e⟩
                        · exact ⟨i + 1, Nat.le_refl _, by rw [up_same]; exact q.symm⟩
                      · rintro ⟨j, hj, e⟩
                        by_cases z : j = i + 1
                        · rw [z, up_same] at e; exact Or.inr e.symm
                        · rw [up_ne z] at e; exact Or.inl ((h4 v hv9).mpr ⟨j, by omega, e⟩)
                    · rw [hb_or, hb_bit u (by omega)]
                      simp only [Bool.or_eq_true, decide_eq_true_eq]
                      constructor
                      · rintro (q | q)
                        · obtain ⟨j, hj, e⟩ := (h5 u hu).mp q
                          exact ⟨j, by omega, by rw [up_ne (by omega)]; exact e⟩
                        · exact ⟨i, by omega, by rw [up_same]; exact q.symm⟩
                      · rintro ⟨j, hj, e⟩
                        by_cases z : j = i
                        · rw [z, up_same] at e; exact Or.inr e.symm
                        · rw [up_ne z] at e; exact Or.inl ((h5 u hu).mpr ⟨j, by omega, e⟩)
                    · rcases Nat.lt_succ_iff_lt_or_eq.mp hj with z | z
                      · rw [up_ne (by omega), up_ne (by omega)]; exact r1 j z
                      · rw [z, up_ne (by omega), up_same]; exact ⟨r2, st_same _ _ _ _⟩
                  have e0 : up pw (i + 1) (ow (bM B) t) 0 = pw 0 := up_ne (by omega)
                  obtain ⟨q, eq, ξ, q1, q2, q3⟩ := ih (i + 1) _ _ s1 _ _ f (by omega) (by omega) (by omega) (by rw [e0]; exact nsh) hGI'
                  rw [up_same, ← eI_lt o12] at eq
                  obtain ⟨qv, qh⟩ := q
                  simp only at q1 q3
                  subst q1
                  rcases q3 with ⟨rfl, n1, n2⟩ | ⟨rfl, qw, qt, u1, u2, u3, u4⟩
                  · left
                    rw [up_same] at n1
                    refine ⟨ξ, next ξ (fun j hj => ?_) ?_ q2 fun _ _ z => ?_, fun k => ?_⟩
                    · have := n2 j (by omega)
                      rwa [up_ne (by omega), up_ne (by omega)] at this
                    · have := (n2 i (by omega)).1
                      rwa [up_ne (by omega)] at this
                    · rcases z with z | z
                      · exact co z
                      · exact n1 (by rw [show L - (i + 1) = L - i - 1 by omega]; exact z)
                    · rw [head k, if_neg cl, if_neg cg, if_pos e4, eq]
                      simp only [Option.bind_some, if_true]
                  · right
                    intro k
                    have one : ¬ ((1 : Int32) = 0) := by decide
                    rw [head k, if_neg cl, if_neg cg, if_pos e4, eq]
                    simp only [Option.bind_some, if_neg one]
                    have wi : qw i = pw i := by rw [u1 i (by omega), up_ne (by omega)]
                    have ti : qt i = t := by rw [u2 i (by omega), up_same]
                    have w1 : qw (i + 1) = ow (bM B) t := by rw [u1 (i + 1) (Nat.le_refl _), up_same]
                    refine hw_ret ⟨ξ, rfl, q2, Or.inr ⟨rfl, qw, qt, fun j hj => by rw [u1 j (by omega), up_ne (by omega)], fun j hj => by rw [u2 j (by omega), up_ne (by omega)], fun j hj hj2 => ?_, u4⟩⟩
                    by_cases z : j = i
                    · subst z
                      obtain ⟨rr, -⟩ := u3 (j + 1) (Nat.le_refl _) (by omega)
                      rw [w1, show L - (j + 1) = L - j - 1 by omega] at rr
                      refine ⟨?_, ?_, ?_, ?_, ?_, ?_, fun _ => ?_⟩
                      · rw [wi, show L - j = (L - j - 1) + 1 by omega]; exact ⟨t, t12, c1, c2, Or.inr rr⟩
                      · rw [wi]; exact nosh j _ (Nat.le_refl j) (by omega)
                      · rw [wi, ti]; exact c1
                      · rw [wi, ti]; exact c2
                      · rw [ti]; exact Or.inr rr
                      · rw [wi, ti]; exact fun u hu => j4 u hu
                      · rw [ti, w1]
                    · exact u3 j (by omega) hj2
    · obtain ⟨j1, j2, j3, j4⟩ := hJ
      have hvs : lbV s a B := hv.fr hs j3 fun q u z y' => hyF u (by rw [← y']; exact z)
      have g1 : s.1 (lab a) 1 = Int32.ofNat (bm B) := hvs.1.2.1
      have ct : (Int32.ofNat (bm B) ≥ Int32.ofNat (bm B)) := by rw [oN_ge (by omega) (by omega)]; omega
      have z1 : ((0 : Int32) = 0 ∨ (0 : Int32) = 1) := Or.inl rfl
      show Hw (f_X10_goes_L7 (f_X10_goes f) (f_X10_goes_J79 (f_X10_goes f)) (f_X10_goes_J123 (f_X10_goes f)) (f_X10_goes_J131 (f_X10_goes f)) (k + 1) (lab a) y (Int32.ofNat (2 * i)) (Int32.ofNat (pw i)) x4 x5 (Int32.ofNat (bm B)) (mS sh s)) _
      simp only [f_X10_goes_L7, hs.g (show 1 < 5 by decide), Option.bind_some, g1, if_pos ct, f_X10_goes_J131, if_pos z1]
      refine hw_ret ⟨s, rfl, j3, Or.inl ⟨rfl, fun q => ?_, j1⟩⟩
      rw [show L - i = (L - i - 1) + 1 by omega] at q
      obtain ⟨t, t12, e, m, z⟩ := q
      exact j4 t (hf _ _ e).2 e m z
end D2
