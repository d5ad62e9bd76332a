/-! THE LAW'S BOOK: way, theWay, settles -/
/-- cells made: how many at most, none too large -/
def Gw (k : Nat) (E : xH) : Prop := E.length ≤ k ∧ ∀ c, c ∈ E → c.2.length ≤ 24
theorem Gw.nil (k : Nat) : Gw k [] := ⟨Nat.zero_le k, fun c h => nomatch h⟩
theorem Gw.app {k k' : Nat} {E E' : xH} (h : Gw k E) (h' : Gw k' E') : Gw (k + k') (E ++ E') := ⟨by rw [List.length_append]; have := h.1; have := h'.1; omega, fun c hc => (List.mem_append.mp hc).elim (h.2 c) (h'.2 c)⟩
theorem Gw.mono {k k' : Nat} {E : xH} (h : Gw k E) (l : k ≤ k') : Gw k' E := ⟨Nat.le_trans h.1 l, h.2⟩
theorem Gw.one {c : xC} (h : c.2.length ≤ 24) : Gw 1 [c] := ⟨Nat.le_refl 1, fun d hd => by rw [List.mem_singleton.mp hd]; exact h⟩
theorem Z.fr {μ ν : MM} {n : Nat} {P : Nat → Nat → Prop} (h : Z μ n) (f : Fr P μ ν) (hp : ∀ q i, P q i → q < n) : Z ν n := fun p hp' i => by
  have := f p i fun z => by have := hp _ _ z; omega
  rw [this.1, this.2]; exact h p hp' i
/-- all from here on -/
def UP (n : Nat) (q _i : Nat) : Prop := n ≤ q
section D3
variable {sh : xH} {μ : MM} {a : LA} {B : Bk}
theorem lbV.up (hs : lbS sh a) (h : lbV μ a B) {ν : MM} (f : Fr (UP sh.length) μ ν) : lbV ν a B := h.fr hs f fun q i z y => by
  have := hs.2.1.2
  unfold LF at z
  unfold UP at y
  omega
/-- what way leaves -/
def WO (sh : xH) (μ : MM) (B : Bk) (w k : Nat) (r : Option Nat × xH) : Prop := ∃ E ν, r.2 = mS (sh ++ E) ν ∧ Gw k E ∧ Fr (UP sh.length) μ ν ∧ Z ν (sh ++ E).length ∧
  ((r.1 = none ∧ (bM B w = 12 → Nr (gE B) (bM B) w)) ∨ ∃ y L pw pt, r.1 = some y ∧ Tw (gE B) (bM B) L pw pt ∧ pw 0 = w ∧ sh.length ≤ y ∧ (sh ++ E)[y]? = some (100, dI (2 * L)) ∧ ∀ i, i < L → ν.1 y (2 * i) = Int32.ofNat (pw i) ∧ ν.1 y (2 * i + 1) = Int32.ofNat (pt i))
theorem l_way (hs : lbS sh a) (hv : lbV μ a B) (hM : Ms (gE B) (bM B)) (h12 : ∀ w, bn B ≤ w → bM B w = 12) (hf : ∀ w t, gE B w t = true → w < bn B ∧ t < bm B) {w : Nat} (hw : w < bn B) (hZ : Z μ sh.length) (hl : sh.length + 20 < 1000000) : Hw (f_X10_way (lab a) (Int32.ofNat w) (mS sh μ)) (WO sh μ B w 12) := by
  have hn : bn B ≤ 12 := hv.2.2.2.2.1.1
  have hm : bm B ≤ 12 := hv.2.2.2.2.1.2.1
  have hE : Eb (gE B) := fun w t e => by have := hf w t e; omega
  have w12 : w < 12 := by omega
  have g3 : μ.1 (lab a) 3 = bw B := hv.1.2.2.2.1
  have gq : μ.1 (laq a) w = eI (bM B w) := hv.2.2.1 _ w12
  have hx := has_eq (x := bw B) (show w < 32 by omega)
  have none0 : (bM B w = 12 → Nr (gE B) (bM B) w) → WO sh μ B w 12 (none, mS sh μ) := fun q => ⟨[], μ, by rw [List.append_nil], Gw.nil _, Fr.refl _ _, by rw [List.append_nil]; exact hZ, Or.inl ⟨rfl, q⟩⟩
  cases c1 : hb (bw B) w with
  | false =>
    have e1 : (((bw B >>> (Int32.ofNat w &&& 31)) &&& (1 : Int32)) = 0) := by rw [hx, c1]
    simp only [f_X10_way, hs.g (show 3 < 5 by decide), Option.bind_some, g3, if_pos e1, f_X10_way_J20]
    refine hw_ret (none0 fun _ k => ?_)
    cases k with
    | zero => exact id
    | succ k =>
      rintro ⟨t, -, e, -⟩
      simp only [gE, c1, Bool.and_false, Bool.false_and] at e
      cases e
  | true =>
    have e1 : ¬ (((bw B >>> (Int32.ofNat w &&& 31)) &&& (1 : Int32)) = 0) := by rw [hx, c1]; simp
    by_cases c2 : bM B w < 12
    · have e2 : ¬ (eI (bM B w) < 0) := by rw [eI_l0]; omega
      simp only [f_X10_way, hs.g (show 3 < 5 by decide), Option.bind_some, g3, if_neg e1, hs.r6, hs.aq w12, gq, if_neg e2, f_X10_way_J20]
      exact hw_ret (none0 fun z => by omega)
    · have e2 : (eI (bM B w) < 0) := by rw [eI_l0]; omega
      have hM12 : bM B w = 12 := by have := hM.1.1 w; omega
      simp only [f_X10_way, hs.g (show 3 < 5 by decide), Option.bind_some, g3, if_neg e1, hs.r6, hs.aq w12, gq, if_pos e2]
      rw [show (1 : Int32) = Int32.ofNat 1 from rfl]
      have e0 : mS sh μ = mS (sh ++ []) μ := by rw [List.append_nil]
      rw [e0]
      refine hw_loop (Q := WO sh μ B w 12) (L := fun i (s : Nat × xH × MM) => f_X10_way_L24 f_X10_way_J52 f_X10_way_J60 i (lab a) (Int32.ofNat w) (Int32.ofNat s.1) (mS (sh ++ s.2.1) s.2.2)) (I := fun k s => s.1 + k = bm B + 1 ∧ 1 ≤ s.1 ∧ s.2.1.length + 1 = s.1 ∧ (∀ c, c ∈ s.2.1 → c.2.length ≤ 24) ∧ Fr (UP sh.length) μ s.2.2 ∧ Z s.2.2 (sh ++ s.2.1).length ∧ ¬ rch (gE B) (bM B) (s.1 - 1) w) ?_ (bm B) (1, [], μ) ⟨by omega, by omega, rfl, fun c h => (nomatch h), Fr.refl _ _, by rw [List.append_nil]; exact hZ, id⟩ 5000 (by omega)
      · rintro k ⟨x, E, ν⟩ ⟨i1, i2, i3, i4, i5, i6, i7⟩
        simp only at i1 i2 i3 i4 i5 i6 i7
        have hsE : lbS (sh ++ E) a := hs.app E
        have hvE : lbV ν a B := hv.up hs i5
        have g1 : ν.1 (lab a) 1 = Int32.ofNat (bm B) := hvE.1.2.1
        by_cases c3 : bm B < x
        · right
          intro n
          have ct : (Int32.ofNat x > Int32.ofNat (bm B)) := by rw [oN_gt (by omega) (by omega)]; exact c3
          show Hw (f_X10_way_L24 f_X10_way_J52 f_X10_way_J60 (n + 1) (lab a) (Int32.ofNat w) (Int32.ofNat x) (mS (sh ++ E) ν)) _
          simp only [f_X10_way_L24, hsE.g (show 1 < 5 by decide), Option.bind_some, g1, if_pos ct, f_X10_way_J60]
          refine hw_ret ⟨E, ν, rfl, ⟨by omega, i4⟩, i5, i6, Or.inl ⟨rfl, fun _ => ?_⟩⟩
          exact nr_of hE (fun w t e => (hf w t e).2) w12 hM12 (by rw [show bm B = x - 1 by omega]; exact i7)
        · have ct : ¬ (Int32.ofNat x > Int32.ofNat (bm B)) := by rw [oN_gt (by omega) (by omega)]; exact c3
          have ex : (2 : Int32) * Int32.ofNat x = Int32.ofNat (2 * x) := by rw [show (2 : Int32) = Int32.ofNat 2 from rfl, oN_mul]
          have ll : (sh ++ E).length = sh.length + E.length := List.length_append
          have en := nwI_s (sh := sh ++ E) (μ := ν) i6 ex (show 2 * x < 100000 by omega) (by omega)
          obtain ⟨sh', hsh⟩ : ∃ s, s = sh ++ E ++ [(100, dI (2 * x))] := ⟨_, rfl⟩
          rw [← hsh] at en
          have hs' : lbS sh' a := by rw [hsh]; exact hsE.app _
          have hy : sh'[(sh ++ E).length]? = some (100, dI (2 * x)) := by rw [hsh, List.getElem?_append_right (Nat.le_refl _), Nat.sub_self]; rfl
          have hyF : ∀ i, ¬ LF a (sh ++ E).length i := fun i z => by
            have := hs.2.1.2
            unfold LF at z
            omega
          have gi : GI (gE B) (bM B) ν ν (sh ++ E).length (fun _ => w) (fun _ => 0) 0 ((1 : Int32) <<< (Int32.ofNat w &&& 31)) 0 := by
            refine ⟨fun j hj => absurd hj (Nat.not_lt_zero j), fun _ _ => w12, fun v hv9 => ?_, fun t ht => ?_, fun j hj => absurd hj (Nat.not_lt_zero j), Fr.refl _ _⟩
            · rw [hb_bit v (by omega), decide_eq_true_eq]
              exact ⟨fun z => ⟨0, Nat.le_refl 0, z.symm⟩, fun ⟨_, _, z⟩ => z.symm⟩
            · rw [hb_zero]
              exact ⟨fun z => (by cases z), fun ⟨_, z, _⟩ => absurd z (Nat.not_lt_zero _)⟩
          obtain ⟨r, er, ξ, r2, r3, r4⟩ := l_goes hs' hvE hM h12 hf hy hyF (show x ≤ 12 by omega) x 0 (fun _ => w) (fun _ => 0) ν _ _ 40 (by omega) (by omega) (by omega) i7 gi
          have er : f_X10_goes 40 (lab a) (sh ++ E).length 0 (Int32.ofNat w) ((1 : Int32) <<< (Int32.ofNat w &&& 31)) 0 (mS sh' ν) = some r := er
          obtain ⟨rv, rh⟩ := r
          simp only at r2 r4
          subst r2
          have fr' : Fr (UP sh.length) μ ξ := i5.trans (r3.mono fun q i z => by unfold UP; omega)
          have eE : sh' = sh ++ (E ++ [(100, dI (2 * x))]) := by rw [hsh, List.append_assoc]
          have zz : Z ξ (sh ++ (E ++ [(100, dI (2 * x))])).length := by
            rw [← eE]
            refine (i6.mono (m := sh'.length) (by rw [hsh, List.length_append (as := sh ++ E)]; omega)).fr r3 fun q i z => ?_
            rw [z, hsh, List.length_append (as := sh ++ E)]
            show _ < _ + 1
            omega
          have cl : ∀ c, c ∈ E ++ [(100, dI (2 * x))] → c.2.length ≤ 24 := fun c hc => by
            rcases List.mem_append.mp hc with q | q
            · exact i4 c q
            · rw [List.mem_singleton.mp q]; simp [dI]; omega
          rcases r4 with ⟨rfl, n1, -⟩ | ⟨rfl, qw, qt, u1, u2, u3, u4⟩
          · left
            refine ⟨k - 1, (x + 1, E ++ [(100, dI (2 * x))], ξ), by omega, ⟨by show x + 1 + (k - 1) = bm B + 1; omega, by show 1 ≤ x + 1; omega, by show (E ++ [(100, dI (2 * x))]).length + 1 = x + 1; rw [List.length_append]; show E.length + 1 + 1 = x + 1; omega, cl, fr', zz, n1⟩, fun n => ?_⟩
            simp only [f_X10_way_L24, hsE.g (show 1 < 5 by decide), Option.bind_some, g1, if_neg ct, en, hs'.vc, er, if_true, lt, i_succ]
            rw [eE]
          · right
            intro n
            have one : ¬ ((1 : Int32) = 0) := by decide
            simp only [f_X10_way_L24, hsE.g (show 1 < 5 by decide), Option.bind_some, g1, if_neg ct, en, hs'.vc, er, if_neg one, f_X10_way_J52]
            refine hw_ret ⟨E ++ [(100, dI (2 * x))], ξ, by rw [eE], ⟨by rw [List.length_append]; show E.length + 1 ≤ 12; omega, cl⟩, fr', zz, Or.inr ⟨(sh ++ E).length, x, qw, qt, rfl, ⟨by omega, ?_, ?_, fun i hi => u3 i (Nat.zero_le i) hi⟩, u1 0 (Nat.le_refl 0), by omega, by rw [← eE]; exact hy, u4⟩⟩
            · rw [u1 0 (Nat.le_refl 0)]; exact hM12
            · rw [u1 0 (Nat.le_refl 0)]; exact w12
/-- what theWay leaves -/
def WA (sh : xH) (μ : MM) (B : Bk) (k : Nat) (r : Option Nat × xH) : Prop := ∃ E ν, r.2 = mS (sh ++ E) ν ∧ Gw k E ∧ Fr (UP sh.length) μ ν ∧ Z ν (sh ++ E).length ∧
  ((r.1 = none ∧ Fin' (gE B) (bM B)) ∨ ∃ y L pw pt, r.1 = some y ∧ Tw (gE B) (bM B) L pw pt ∧ (∀ v, v < pw 0 → bM B v = 12 → Nr (gE B) (bM B) v) ∧ sh.length ≤ y ∧ (sh ++ E)[y]? = some (100, dI (2 * L)) ∧ ∀ i, i < L → ν.1 y (2 * i) = Int32.ofNat (pw i) ∧ ν.1 y (2 * i + 1) = Int32.ofNat (pt i))
theorem nr_out {E : Nat → Nat → Bool} {M : Nat → Nat} {w : Nat} (h : ∀ t, E w t = false) : Nr E M w := fun k => by
  cases k with
  | zero => exact id
  | succ k =>
    rintro ⟨t, -, e, -⟩
    rw [h t] at e
    cases e
theorem l_theWay (hs : lbS sh a) (hv : lbV μ a B) (hM : Ms (gE B) (bM B)) (h12 : ∀ w, bn B ≤ w → bM B w = 12) (hf : ∀ w t, gE B w t = true → w < bn B ∧ t < bm B) (hZ : Z μ sh.length) (hl : sh.length + 200 < 1000000) : Hw (f_X10_theWay (lab a) (mS sh μ)) (WA sh μ B 144) := by
  have hn : bn B ≤ 12 := hv.2.2.2.2.1.1
  show Hw (f_X10_theWay_L2 f_X10_theWay_J20 f_X10_theWay_J28 5000 (lab a) (Int32.ofNat 0) (mS sh μ)) _
  have e0 : mS sh μ = mS (sh ++ []) μ := by rw [List.append_nil]
  rw [e0]
  refine hw_for (L := fun i w (s : xH × MM) => f_X10_theWay_L2 f_X10_theWay_J20 f_X10_theWay_J28 i (lab a) w (mS (sh ++ s.1) s.2)) (s0 := ([], μ)) (bn B) (fun w s => Gw (12 * w) s.1 ∧ Fr (UP sh.length) μ s.2 ∧ Z s.2 (sh ++ s.1).length ∧ ∀ v, v < w → bM B v = 12 → Nr (gE B) (bM B) v) ⟨Gw.nil _, Fr.refl _ _, by rw [List.append_nil]; exact hZ, fun v hv => absurd hv (Nat.not_lt_zero v)⟩ (by omega) (fun w hw s hJ => ?_) (fun s hJ i => ?_)
  · obtain ⟨E, ν⟩ := s
    obtain ⟨j1, j2, j3, j4⟩ := hJ
    simp only at j1 j2 j3
    have hsE : lbS (sh ++ E) a := hs.app E
    have hvE : lbV ν a B := hv.up hs j2
    have g0 : ν.1 (lab a) 0 = Int32.ofNat (bn B) := hvE.1.1
    have c : ¬ (Int32.ofNat w ≥ Int32.ofNat (bn B)) := by rw [oN_ge (by omega) (by omega)]; omega
    have ll : (sh ++ E).length = sh.length + E.length := List.length_append
    have jl := j1.1
    obtain ⟨r, er, E', ξ, r2, r3, r4, r5, r6⟩ := l_way hsE hvE hM h12 hf hw j3 (by omega)
    obtain ⟨rv, rh⟩ := r
    simp only at r2 r6
    subst r2
    have fr' : Fr (UP sh.length) μ ξ := j2.trans (r4.mono fun q i z => by unfold UP at z ⊢; omega)
    have z' : Z ξ (sh ++ (E ++ E')).length := by rw [← List.append_assoc]; exact r5
    have gw : Gw (12 * (w + 1)) (E ++ E') := (j1.app r3).mono (by omega)
    rcases r6 with ⟨rfl, n1⟩ | ⟨y, L, pw, pt, rfl, t1, t2, t3, t4, t5⟩
    · left
      refine ⟨(E ++ E', ξ), ⟨gw, fr', z', fun v hv' => ?_⟩, fun i => ?_⟩
      · rcases Nat.lt_succ_iff_lt_or_eq.mp hv' with q | q
        · exact j4 v q
        · rw [q]; exact n1
      · simp only [f_X10_theWay_L2, hsE.g (show 0 < 5 by decide), Option.bind_some, g0, if_neg c, er, hsE.vc, nl, lt, i_succ, List.append_assoc]
    · right
      intro i
      simp only [f_X10_theWay_L2, hsE.g (show 0 < 5 by decide), Option.bind_some, g0, if_neg c, er, hsE.vc, nl, f_X10_theWay_J20]
      refine hw_ret ⟨E ++ E', ξ, by rw [List.append_assoc], gw.mono (by omega), fr', z', Or.inr ⟨y, L, pw, pt, rfl, t1, fun v hv' => j4 v (by omega), by omega, by rw [← List.append_assoc]; exact t4, t5⟩⟩
  · obtain ⟨E, ν⟩ := s
    obtain ⟨j1, j2, j3, j4⟩ := hJ
    simp only at j1 j2 j3
    have hsE : lbS (sh ++ E) a := hs.app E
    have hvE : lbV ν a B := hv.up hs j2
    have g0 : ν.1 (lab a) 0 = Int32.ofNat (bn B) := hvE.1.1
    have c : (Int32.ofNat (bn B) ≥ Int32.ofNat (bn B)) := by rw [oN_ge (by omega) (by omega)]; omega
    show Hw (f_X10_theWay_L2 f_X10_theWay_J20 f_X10_theWay_J28 (i + 1) (lab a) (Int32.ofNat (bn B)) (mS (sh ++ E) ν)) _
    simp only [f_X10_theWay_L2, hsE.g (show 0 < 5 by decide), Option.bind_some, g0, if_pos c, f_X10_theWay_J28]
    refine hw_ret ⟨E, ν, rfl, j1.mono (by omega), j2, j3, Or.inl ⟨rfl, fun w hw hm => ?_⟩⟩
    by_cases q : w < bn B
    · exact j4 w q hm
    · refine nr_out fun t => ?_
      cases e : gE B w t with
      | false => rfl
      | true => exact absurd (hf _ _ e).1 q
/-- one of the way's pairs more -/
theorem aug_succ {M : Nat → Nat} {L : Nat} {pw pt : Nat → Nat} (hi : ∀ i j, i < L → j < L → pw i = pw j → i = j) {i : Nat} (h : i < L) (v : Nat) : aug M (i + 1) pw pt v = if v = pw i then pt i else aug M i pw pt v := by
  by_cases q : v = pw i
  · rw [if_pos q, q]
    exact aug_on (fun i' j' a b => hi i' j' (by omega) (by omega)) (Nat.lt_succ_self i)
  · rw [if_neg q]
    rcases path_or pw i v with ⟨j, hj, e⟩ | n
    · rw [← e, aug_on (L := i + 1) (fun i' j' a b => hi i' j' (by omega) (by omega)) (show j < i + 1 by omega), aug_on (L := i) (fun i' j' a b => hi i' j' (by omega) (by omega)) hj]
    · rw [aug_off (L := i) n, aug_off (L := i + 1) fun j hj => ?_]
      rcases Nat.lt_succ_iff_lt_or_eq.mp hj with z | z
      · exact n j z
      · rw [z]; exact fun y => q y.symm
/-- the pairs along a way -/
theorem l_along (hs : lbS sh a) (hv : lbV μ a B) (hE : Eb (gE B)) {y L : Nat} {pw pt : Nat → Nat} (hM : Ms (gE B) (bM B)) (t : Tw (gE B) (bM B) L pw pt) (hy : sh[y]? = some (100, dI (2 * L))) (hyF : ∀ i, ¬ LF a y i) (hr : ∀ i, i < L → μ.1 y (2 * i) = Int32.ofNat (pw i) ∧ μ.1 y (2 * i + 1) = Int32.ofNat (pt i)) {kE47 : Nat → Int32 → Int32 → xH → Option (Int32 × xH)} {Q : Int32 × xH → Prop} {x1 x2 : Int32}
    (A : ∀ ν, Fr (fun q _ => q = laq a) μ ν → lbV ν a (wM B (aug (bM B) L pw pt)) → Hw (kE47 (lab a) x1 x2 (mS sh ν)) Q) : Hw (f_X10_settles_L19 kE47 5000 (lab a) x1 x2 y 0 (mS sh μ)) Q := by
  have l12 := t.len hE
  have hA : isA sh 100 y (2 * L) isInt = true := isA_of hy
  have nq : y ≠ laq a := fun z => hyF 0 (by have := hs.2.2.2.1; unfold LF; omega)
  have inj : ∀ i j, i < L → j < L → pw i = pw j → i = j := fun i j hi hj e => t.inj hi hj e
  refine hw_loop (L := fun f (s : Nat × MM) => f_X10_settles_L19 kE47 f (lab a) x1 x2 y (Int32.ofNat (2 * s.1)) (mS sh s.2)) (I := fun k s => s.1 + k = L ∧ Fr (fun q _ => q = laq a) μ s.2 ∧ ∀ v, v < 12 → s.2.1 (laq a) v = eI (aug (bM B) s.1 pw pt v)) ?_ L (0, μ) ⟨by omega, Fr.refl _ _, fun v hv' => ?_⟩ 5000 (by omega)
  · rintro k ⟨i, ν⟩ ⟨i1, i2, i3⟩
    simp only at i1 i2 i3
    have eL : aL (mS sh ν) y = some (Int32.ofNat (2 * L)) := aL_m hy
    by_cases c : L ≤ i
    · right
      intro n
      have ct : (Int32.ofNat (2 * i) ≥ Int32.ofNat (2 * L)) := by rw [oN_ge (by omega) (by omega)]; omega
      show Hw (f_X10_settles_L19 kE47 (n + 1) (lab a) x1 x2 y (Int32.ofNat (2 * i)) (mS sh ν)) Q
      simp only [f_X10_settles_L19, eL, Option.bind_some, if_pos ct]
      refine A ν i2 ?_
      have il : i = L := by omega
      rw [il] at i3
      obtain ⟨b1, b2, b3, b4, b5, b6, b7⟩ := hv
      have eb : ∀ q i, q ≠ laq a → ν.1 q i = μ.1 q i := fun q i z => (i2 q i z).1
      have n0 : lab a ≠ laq a := by have := hs.2.2.2.1; omega
      refine ⟨⟨(eb _ _ n0).trans b1.1, (eb _ _ n0).trans b1.2.1, (eb _ _ n0).trans b1.2.2.1, (eb _ _ n0).trans b1.2.2.2.1, (eb _ _ n0).trans b1.2.2.2.2⟩, fun w u hw hu => (eb _ _ (hs.2.2.2.2.2.2.1.2 w hw).1).trans (b2 w u hw hu), i3, fun w hw => (eb _ _ (fun z => hs.2.2.2.2.2.2.1.1 z.symm)).trans (b4 w hw), b5, fun w => ?_, b7⟩
      exact (aug_Ms hE hM t).1.1 w
    · have hi : i < L := by omega
      left
      have ct : ¬ (Int32.ofNat (2 * i) ≥ Int32.ofNat (2 * L)) := by rw [oN_ge (by omega) (by omega)]; omega
      obtain ⟨p1, p2⟩ := t.w12 hE hi
      have e1 : aI (mS sh ν) y (Int32.ofNat (2 * i)) = some (Int32.ofNat (pw i)) := by
        rw [aI_k hA (show 2 * i < 2 * L by omega) (by omega), (i2 y _ nq).1, (hr i hi).1]
      have e2 : aI (mS sh ν) y (Int32.ofNat (2 * i + 1)) = some (Int32.ofNat (pt i)) := by
        rw [aI_k hA (show 2 * i + 1 < 2 * L by omega) (by omega), (i2 y _ nq).1, (hr i hi).2]
      refine ⟨k - 1, (i + 1, st ν (laq a) (pw i) (Int32.ofNat (pt i))), by omega, ⟨by show i + 1 + (k - 1) = L; omega, i2.st rfl, fun v hv' => ?_⟩, fun n => ?_⟩
      · show (st ν (laq a) (pw i) (Int32.ofNat (pt i))).1 (laq a) v = eI (aug (bM B) (i + 1) pw pt v)
        rw [aug_succ inj hi]
        by_cases z : v = pw i
        · rw [if_pos z, z, st_same, eI_lt p2]
        · rw [if_neg z, st_ne (Or.inr z)]; exact i3 v hv'
      · have a2 : Int32.ofNat (2 * i) + 2 = Int32.ofNat (2 * (i + 1)) := by rw [show (2 : Int32) = Int32.ofNat 2 from rfl, oN_add]; rfl
        simp only [f_X10_settles_L19, eL, Option.bind_some, if_neg ct, hs.r6, e1, i_succ, e2, hs.sq p1, lt, a2]
  · show μ.1 (laq a) v = eI (aug (bM B) 0 pw pt v)
    rw [aug_off (L := 0) fun j hj => absurd hj (Nat.not_lt_zero j)]
    exact hv.2.2.1 v hv'
/-- THE WAY done, so often at most -/
theorem l_settles (hs : lbS sh a) (hv : lbV μ a B) (hM : Ms (gE B) (bM B)) (h12 : ∀ w, bn B ≤ w → bM B w = 12) (hf : ∀ w t, gE B w t = true → w < bn B ∧ t < bm B) (hZ : Z μ sh.length) (hl : sh.length + 4000 < 1000000) {most : Nat} (hm : most < 1000) :
    ∃ E ν k M', f_X10_settles (lab a) (Int32.ofNat most) (mS sh μ) = some (Int32.ofNat k, mS (sh ++ E) ν) ∧ Gw 2000 E ∧ Fr (fun q i => q = laq a ∨ UP sh.length q i) μ ν ∧ Z ν (sh ++ E).length ∧ Gr (gE B) most k (bM B) M' ∧ lbV ν a (wM B M') := by
  have hn : bn B ≤ 12 := hv.2.2.2.2.1.1
  have hbm : bm B ≤ 12 := hv.2.2.2.2.1.2.1
  have hE : Eb (gE B) := fun w t e => by have := hf w t e; omega
  have key : Hw (f_X10_settles (lab a) (Int32.ofNat most) (mS sh μ)) (fun r => ∃ E ν k M', r = (Int32.ofNat k, mS (sh ++ E) ν) ∧ Gw 2000 E ∧ Fr (fun q i => q = laq a ∨ UP sh.length q i) μ ν ∧ Z ν (sh ++ E).length ∧ Gr (gE B) most k (bM B) M' ∧ lbV ν a (wM B M')) := by
    obtain ⟨r, er, E0, ν0, r2, r3, r4, r5, r6⟩ := l_theWay hs hv hM h12 hf hZ (by omega)
    obtain ⟨rv, rh⟩ := r
    simp only at r2 r6
    subst r2
    simp only [f_X10_settles, hs.vc, er, Option.bind_some]
    rw [show (0 : Int32) = Int32.ofNat 0 from rfl]
    -- state: how many, the way, cells, ints, pairs
    refine hw_rec (L := fun f (s : Nat × Option Nat × xH × MM) => f_X10_settles_L7 f_X10_settles_J58 f (lab a) (Int32.ofNat most) (Int32.ofNat s.1) s.2.1 (mS (sh ++ s.2.2.1) s.2.2.2))
      (I := fun k s => ∃ M', Ch (gE B) s.1 (bM B) M' ∧ s.1 ≤ most ∧ sz M' + k = 12 ∧ Gw (144 * (s.1 + 1)) s.2.2.1 ∧ Fr (fun q i => q = laq a ∨ UP sh.length q i) μ s.2.2.2 ∧ Z s.2.2.2 (sh ++ s.2.2.1).length ∧ lbV s.2.2.2 a (wM B M') ∧
        ((s.2.1 = none ∧ Fin' (gE B) M') ∨ ∃ y L pw pt, s.2.1 = some y ∧ Tw (gE B) M' L pw pt ∧ (∀ v, v < pw 0 → M' v = 12 → Nr (gE B) M' v) ∧ sh.length ≤ y ∧ (sh ++ s.2.2.1)[y]? = some (100, dI (2 * L)) ∧ ∀ i, i < L → s.2.2.2.1 y (2 * i) = Int32.ofNat (pw i) ∧ s.2.2.2.1 y (2 * i + 1) = Int32.ofNat (pt i)))
      ?_ (12 - sz (bM B)) (0, rv, E0, ν0) ⟨bM B, rfl, Nat.zero_le _, by have := sz_le (bM B); show sz (bM B) + (12 - sz (bM B)) = 12; omega, r3.mono (by omega), r4.mono fun q i z => Or.inr z, r5, hv.up hs r4, r6⟩ 5000 (by omega)
    rintro k ⟨x, o, E, ν⟩ n ⟨M', i1, i2, i3, i4, i5, i6, i7, i8⟩ ih
    simp only at i1 i2 i3 i4 i5 i6 i7 i8
    have cM := i1.Ms hE hM
    have hsE : lbS (sh ++ E) a := hs.app E
    have x12 : x ≤ 12 := by have := cM.2; have := sz_le M'; omega
    rcases i8 with ⟨rfl, fin⟩ | ⟨y, L, pw, pt, rfl, t1, t2, t3, t4, t5⟩
    · show Hw (f_X10_settles_L7 f_X10_settles_J58 (n + 1) (lab a) (Int32.ofNat most) (Int32.ofNat x) none (mS (sh ++ E) ν)) _
      simp only [f_X10_settles_L7, nl, f_X10_settles_J58]
      exact hw_ret ⟨E, ν, x, M', rfl, i4.mono (by omega), i5, i6, ⟨i1, i2, Or.inr fin⟩, i7⟩
    · show Hw (f_X10_settles_L7 f_X10_settles_J58 (n + 1) (lab a) (Int32.ofNat most) (Int32.ofNat x) (some y) (mS (sh ++ E) ν)) _
      by_cases c : most ≤ x
      · have ct : (Int32.ofNat x ≥ Int32.ofNat most) := by rw [oN_ge (by omega) (by omega)]; exact c
        simp only [f_X10_settles_L7, nl, if_pos ct, f_X10_settles_J58]
        exact hw_ret ⟨E, ν, x, M', rfl, i4.mono (by omega), i5, i6, ⟨i1, i2, Or.inl (by omega)⟩, i7⟩
      · have ct : ¬ (Int32.ofNat x ≥ Int32.ofNat most) := by rw [oN_ge (by omega) (by omega)]; exact c
        simp only [f_X10_settles_L7, nl, if_neg ct]
        have hyF : ∀ i, ¬ LF a y i := fun i z => by
          have := hs.2.1.2
          unfold LF at z
          omega
        have sp : Sp (gE B) M' (aug M' L pw pt) := ⟨L, pw, pt, t1, t2, rfl⟩
        have sM := aug_sz hE cM.1 t1
        have mM := aug_Ms hE cM.1 t1
        have s12 := sz_le (aug M' L pw pt)
        refine l_along hsE i7 hE cM.1 t1 t4 hyF t5 fun ξ f1 v1 => ?_
        have v1 : lbV ξ a (wM B (aug M' L pw pt)) := v1
        have f2 : Fr (fun q i => q = laq a ∨ UP sh.length q i) μ ξ := i5.trans (f1.mono fun q i z => Or.inl z)
        have z2 : Z ξ (sh ++ E).length := i6.fr f1 fun q i z => by
          have := hsE.2.2.2.1
          have := hsE.2.1.2
          omega
        have jl := i4.1
        have ll : (sh ++ E).length = sh.length + E.length := List.length_append
        have g12 : ∀ w, bn (wM B (aug M' L pw pt)) ≤ w → bM (wM B (aug M' L pw pt)) w = 12 := fun w hw => by
          show aug M' L pw pt w = 12
          by_cases z : aug M' L pw pt w < 12
          · have := (hf _ _ (mM.2 w z)).1
            have hw : bn B ≤ w := hw
            omega
          · have := mM.1.1 w; omega
        obtain ⟨r, er, E1, ν1, q2, q3, q4, q5, q6⟩ := l_theWay hsE v1 mM g12 hf z2 (by omega)
        obtain ⟨rv1, rh1⟩ := r
        simp only at q2 q6
        subst q2
        simp only [f_X10_settles_J47, lt, hsE.vc, er, Option.bind_some, i_succ]
        have f3 : Fr (fun q i => q = laq a ∨ UP sh.length q i) μ ν1 := f2.trans (q4.mono fun q i z => by unfold UP at z ⊢; right; omega)
        have hh := ih (k - 1) (x + 1, rv1, E ++ E1, ν1) (by omega) ⟨aug M' L pw pt, i1.snoc sp, by show x + 1 ≤ most; omega, by show _ + (k - 1) = 12; omega, (i4.app q3).mono (by show 144 * (x + 1) + 144 ≤ 144 * (x + 1 + 1); omega), f3, by rw [← List.append_assoc]; exact q5, v1.up hsE q4, ?_⟩
        · rw [← List.append_assoc] at hh
          exact hh
        · rcases q6 with ⟨e, fin⟩ | ⟨y', L', pw', pt', e, u1, u2, u3, u4, u5⟩
          · exact Or.inl ⟨e, fin⟩
          · refine Or.inr ⟨y', L', pw', pt', e, u1, u2, by omega, ?_, u5⟩
            show (sh ++ (E ++ E1))[y']? = _
            rw [← List.append_assoc]; exact u4
  obtain ⟨r, e, E, ν, k, M', rfl, q⟩ := key
  exact ⟨E, ν, k, M', e, q⟩
end D3
