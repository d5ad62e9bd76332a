/-! THE MODEL: 24 rounds; all that is reached -/
def MRs (B : Bk) (μ : MM) : Prop := AlW (gE B) (bM B) (bw B) (μ.1 500 0) (μ.1 500 1) ∧ AlW (trE (gE B)) (tr (bM B)) (bt B) (μ.1 501 1) (μ.1 501 0)
theorem AlW.mono {E : Nat → Nat → Bool} {M : Nat → Nat} {Wt x y x' y' : Int32} (h : AlW E M Wt x y) (s : SoW E M Wt x' y') (m1 : ∀ k, hb x k = true → hb x' k = true) (m2 : ∀ k, hb y k = true → hb y' k = true) : AlW E M Wt x' y' :=
  ⟨fun k => ⟨s.1 k, fun q => m1 k ((h.1 k).mpr q)⟩, fun k => ⟨s.2.1 k, fun q => m2 k ((h.2 k).mpr q)⟩⟩
theorem AlW.uniq {E : Nat → Nat → Bool} {M : Nat → Nat} {Wt x y x' y' : Int32} (h : AlW E M Wt x y) (h' : AlW E M Wt x' y') : x = x' ∧ y = y' :=
  ⟨hb_ext fun k _ => by rw [Bool.eq_iff_iff, h.1 k, h'.1 k], hb_ext fun k _ => by rw [Bool.eq_iff_iff, h.2 k, h'.2 k]⟩
theorem AlW.full {E : Nat → Nat → Bool} {M : Nat → Nat} {Wt x y : Int32} (hE : Eb E) (s : SoW E M Wt x y) (c : 24 ≤ cnt (hb x) 12 + cnt (hb y) 12) : AlW E M Wt x y := by
  have h1 := cnt_le (hb x) 12
  have h2 := cnt_le (hb y) 12
  exact ⟨fun k => ⟨s.1 k, fun q => cnt_all (p := hb x) (n := 12) (by omega) k q.lt⟩, fun k => ⟨s.2.1 k, fun q => cnt_all (p := hb y) (n := 12) (by omega) k (q.lt hE)⟩⟩
/-- all, or one more each round -/
theorem AlW.next {E : Nat → Nat → Bool} {M : Nat → Nat} {Wt x y x' y' : Int32} {i : Nat} (hE : Eb E) (hM : Mt M) (h : AlW E M Wt x y ∨ i ≤ cnt (hb x) 12 + cnt (hb y) 12) (s : SoW E M Wt x y) (s' : SoW E M Wt x' y') (m1 : ∀ k, hb x k = true → hb x' k = true) (m2 : ∀ k, hb y k = true → hb y' k = true)
    (p1 : ∀ w t, w < 12 → hb x w = true → E w t = true → hb y' t = true) (p2 : ∀ w, w < 12 → M w < 12 → hb y (M w) = true → hb x' w = true) : AlW E M Wt x' y' ∨ i + 1 ≤ cnt (hb x') 12 + cnt (hb y') 12 := by
  rcases h with h | h
  · exact Or.inl (h.mono s' m1 m2)
  · by_cases c : x' = x ∧ y' = y
    · left
      refine s'.all hE ⟨fun w t a b => ?_, fun w a b d => ?_⟩
      · exact p1 w t (hE _ _ b).1 (by rw [← c.1]; exact a) b
      · exact p2 w a b (by rw [← c.2]; exact d)
    · right
      have c1 := cnt_mono (p := hb x) (q := hb x') (n := 12) fun k _ q => m1 k q
      have c2 := cnt_mono (p := hb y) (q := hb y') (n := 12) fun k _ q => m2 k q
      by_cases d : x' = x
      · have d2 : y ≠ y' := fun z => c ⟨d, z.symm⟩
        obtain ⟨k, k1, k2⟩ := hb_sub_eq m2 d2
        have := cnt_lt (p := hb y) (q := hb y') (n := 12) (fun k _ q => m2 k q) ((s'.m12 hE).2 k k2) k1 k2
        omega
      · obtain ⟨k, k1, k2⟩ := hb_sub_eq m1 (fun z => d z.symm)
        have := cnt_lt (p := hb x) (q := hb x') (n := 12) (fun k _ q => m1 k q) ((s'.m12 hE).1 k k2) k1 k2
        omega
section Mr2
variable {μ : MM} {B : Bk} {A : AS}
theorem m_rounds (hm : MR μ 0 B) (hB : BOK B) (so : SoR B μ) : ∃ ν, f_X10_laysReach_L52 f_X10_laysReach_J250 5000 168 0 (mem μ) = f_X10_laysReach_J250 168 (mem ν) ∧ Fr FY μ ν ∧ MRs B ν := by
  have hE := hB.Eb
  have hM := hB.M.1
  have hn := hB.n
  have key : ∀ (k i : Nat) (ξ : MM), i + k = 24 → Fr FY μ ξ → SoR B ξ → (AlW (gE B) (bM B) (bw B) (ξ.1 500 0) (ξ.1 500 1) ∨ i ≤ cnt (hb (ξ.1 500 0)) 12 + cnt (hb (ξ.1 500 1)) 12) → (AlW (trE (gE B)) (tr (bM B)) (bt B) (ξ.1 501 1) (ξ.1 501 0) ∨ i ≤ cnt (hb (ξ.1 501 1)) 12 + cnt (hb (ξ.1 501 0)) 12) → ∃ ν, (∀ f K, f_X10_laysReach_L52 K (k + 1 + f) 168 (Int32.ofNat i) (mem ξ) = K 168 (mem ν)) ∧ Fr FY μ ν ∧ MRs B ν := by
    intro k
    induction k with
    | zero =>
      intro i ξ h f so a b
      have c : (Int32.ofNat i ≥ 24) = True := by rw [lge_24 (by omega)]; exact eq_true (by omega)
      refine ⟨ξ, fun g K => ?_, f, ?_, ?_⟩
      · rw [show 0 + 1 + g = g + 1 by omega]
        simp only [f_X10_laysReach_L52, c, ↓reduceIte]
      · rcases a with a | a
        · exact a
        · exact AlW.full hE so.1 (by omega)
      · rcases b with b | b
        · exact b
        · exact AlW.full (trE_Eb hE) so.2 (by omega)
    | succ k ih =>
      intro i ξ h f so a b
      have c : (Int32.ofNat i ≥ 24) = False := by rw [lge_24 (by omega)]; exact eq_false (by omega)
      obtain ⟨ζ, e, f', so', ⟨g1, g2, g3, g4⟩, g5⟩ := m_rnd hB (hm.fy f) (bn B) 0 ξ (by omega) so (Fr.refl _ _) ⟨⟨fun _ => id, fun _ => id, fun _ => id, fun _ => id⟩, fun w hw => absurd hw (Nat.not_lt_zero _)⟩
      have a' := AlW.next hE hM a so.1 so'.1 g1 g2 (fun w t _ q r => by
        have hw := hB.f (w := w) (t := t) (by unfold gE at r; simp only [Bool.and_eq_true] at r; exact r.1.1)
        exact (g5 w hw.1).1 t q r) (fun w _ q r => by
        have hw := hB.w (hB.fit q).2.1
        exact (g5 w hw).2.1 q r)
      have b' := AlW.next (trE_Eb hE) (tr_Mt hM) b so.2 so'.2 g4 g3 (fun t w _ q r => by
        have hw := hB.f (w := w) (t := t) (by unfold trE gE at r; simp only [Bool.and_eq_true] at r; exact r.1.1)
        exact (g5 w hw.1).2.2.1 t r q) (fun t ht q r => by
        have hm : bM B (tr (bM B) t) = t := (tr_iff hM q ht).mp rfl
        have hw := hB.w (hB.fit (w := tr (bM B) t) (by rw [hm]; exact ht)).2.1
        have := (g5 _ hw).2.2.2 r (by rw [hm]; exact ht)
        rw [hm] at this; exact this)
      obtain ⟨ν, e2, r⟩ := ih (i + 1) ζ (by omega) (f.trans f') so' a' b'
      refine ⟨ν, fun g K => ?_, r⟩
      have e := e (5000 - (bn B + 1)) (f_X10_laysReach_J244 (f_X10_laysReach_L52 K (k + 1 + g)) K) (Int32.ofNat i)
      rw [show bn B + 1 + (5000 - (bn B + 1)) = 5000 by omega] at e
      have e : f_X10_laysReach_L60 (f_X10_laysReach_J244 (f_X10_laysReach_L52 K (k + 1 + g)) K) 5000 168 (Int32.ofNat i) 0 (mem ξ) = _ := e
      rw [show k + 1 + 1 + g = (k + 1 + g) + 1 by omega, ← e2 g K]
      simp only [f_X10_laysReach_L52, c, ↓reduceIte, e, f_X10_laysReach_J244, lt, i_succ]
  obtain ⟨ν, e, f, r⟩ := key 24 0 μ (by omega) (Fr.refl _ _) so (Or.inr (by omega)) (Or.inr (by omega))
  exact ⟨ν, e 4975 f_X10_laysReach_J250, f, r⟩
def FLr (q i : Nat) : Prop := (q = 168 ∧ i = 18) ∨ q = 482 ∨ q = 483 ∨ FR 0 q i ∨ FR 17 q i ∨ q = 500 ∨ q = 501
theorem m_laysReach (hm : MR μ 0 B) (hB : BOK B) : ∃ k ν M', f_X10_laysReach 168 (mem μ) = some (mem ν) ∧ Fr FLr μ ν ∧ MR ν 0 B ∧ Gr (gE B) 12 k (bM B) M' ∧ MRs (wM B M') ν := by
  obtain ⟨ν1, e1, m1, f1⟩ := m_copies (x := 0) (y := 17) (f := 0) (t := 17) rfl rfl (by omega) (by omega) (by omega) hm
  have m1' : MR ν1 0 B := hm.fr f1 fun q i a z => by unfold FR at a z; omega
  obtain ⟨k, ν2, M', e2, f2, s2, o2, g⟩ := m_settles (m1'.MS hB) hB.SOK (Nat.le_refl 12)
  have e2 : f_X10_settles 168 12 (mem ν1) = some (Int32.ofNat k, mem ν2) := e2
  have m2 : MR ν2 0 (wM B M') := m1'.pairs f2 (fun q i a b z => by have := z.Q; unfold FR at a; omega) s2.2.2.2
  have m2' : MR ν2 17 B := m1.fr f2 fun q i a z => by have := z.Q; unfold FR at a; omega
  have hB2 : BOK (wM B M') := wM_ok hB (g.nu hB.Eb hB.M).1
  have hM2 := hB2.M.1
  have h0 : aI (mem ν2) 172 0 = some (Int32.ofNat (bn B)) := by rw [mh_a0_0]; exact congrArg some m2.1.1
  obtain ⟨x, ex, hx⟩ := m_freeOf (s := 0) (F := fun k => hb (bw B) k && decide (M' k = 12)) (by decide) hB.n h0 (fun i hi => m_isFree0 (m2.MS hB2) hi) (fun k q => hB.w ((Bool.and_eq_true _ _).mp q).1)
  have fz : Fr FY ν2 (st (st ν2 500 0 x) 500 1 0) := ((Fr.refl FY _).st (by unfold FY; omega)).st (by unfold FY; omega)
  have m3 := m2.fy fz
  have h1 : aI (mem (st (st ν2 500 0 x) 500 1 0)) 172 1 = some (Int32.ofNat (bm B)) := by rw [mh_a0_1]; exact congrArg some m3.1.2.1
  obtain ⟨y, ey, hy⟩ := m_freeOf (s := 1) (F := fun k => hb (bt B) k && decide (ow M' k = 12)) (by decide) hB.m h1 (fun i hi => m_isFree1 (m3.MS hB2) hi) (fun k q => hB.t ((Bool.and_eq_true _ _).mp q).1)
  let ν4 := st (st (st (st ν2 500 0 x) 500 1 0) 501 1 y) 501 0 0
  have f4 : Fr FY ν2 ν4 := (fz.st (by unfold FY; omega)).st (by unfold FY; omega)
  have m4 : MR ν4 0 (wM B M') := m2.fy f4
  have c1 : ν4.1 500 0 = x := by
    show (st (st (st (st ν2 500 0 x) 500 1 0) 501 1 y) 501 0 0).1 500 0 = x
    rw [st_ne (Or.inl (by omega)), st_ne (Or.inl (by omega)), st_ne (Or.inr (by omega)), st_same]
  have c2 : ν4.1 500 1 = 0 := by
    show (st (st (st (st ν2 500 0 x) 500 1 0) 501 1 y) 501 0 0).1 500 1 = 0
    rw [st_ne (Or.inl (by omega)), st_ne (Or.inl (by omega)), st_same]
  have c3 : ν4.1 501 1 = y := by
    show (st (st (st (st ν2 500 0 x) 500 1 0) 501 1 y) 501 0 0).1 501 1 = y
    rw [st_ne (Or.inr (by omega)), st_same]
  have c4 : ν4.1 501 0 = 0 := st_same _ _ _ _
  have so : SoR (wM B M') ν4 := by
    refine ⟨⟨fun k q => ?_, fun k q => ?_, fun k a b c => ?_⟩, ⟨fun k q => ?_, fun k q => ?_, fun k a b c => ?_⟩⟩
    · rw [c1, hx k, Bool.and_eq_true, decide_eq_true_eq] at q
      exact fwW.zero (Nat.lt_of_lt_of_le (hB.w q.1) hB.n) q.1 q.2
    · rw [c2, hb_zero] at q; cases q
    · rw [c1, hx k, show hb (bw B) k = true from b, show M' k = 12 from c]; rfl
    · rw [c3, hy k, Bool.and_eq_true, decide_eq_true_eq] at q
      have ht := Nat.lt_of_lt_of_le (hB.t q.1) hB.m
      exact fwW.zero ht q.1 (by show tr M' k = 12; rw [tr_lt ht]; exact q.2)
    · rw [c4, hb_zero] at q; cases q
    · have c : tr M' k = 12 := c
      rw [tr_lt a] at c
      rw [c3, hy k, show hb (bt B) k = true from b, c]; rfl
  obtain ⟨ν5, e5, f5, r5⟩ := m_rounds m4 hB2 so
  have m5 : MR ν5 17 B := m2'.fr (f4.trans f5) fun q i a z => by unfold FR at a; unfold FY at z; omega
  obtain ⟨ν6, e6, m6, f6⟩ := m_copies (x := 17) (y := 0) (f := 17) (t := 0) rfl rfl (by omega) (by omega) (by omega) m5
  refine ⟨k, ν6, M', ?_, ?_, m6, g, ?_⟩
  · have e5 : f_X10_laysReach_L52 f_X10_laysReach_J250 5000 168 0 (mem (st (st (st (st ν2 500 0 x) 500 1 0) 501 1 y) 501 0 0)) = f_X10_laysReach_J250 168 (mem ν5) := e5
    simp only [f_X10_laysReach, ↓hvc (fun _ => vc_168), ↓hbind e1, ↓hbind e2, ↓hbind gR_168_33, ↓hbind ex, ↓hbind s500_0, ↓hbind s500_1, ↓hbind gR_168_34, ↓hbind ey, ↓hbind s501_1, ↓hbind s501_0, e5, f_X10_laysReach_J250, ↓hbind e6]
  · exact ((((f1.mono (P' := FLr) fun q i z => Or.inr (Or.inr (Or.inr (Or.inr (Or.inl z))))).trans (f2.mono fun q i z => by have := z.Q; unfold FLr; unfold FR; omega)).trans (f4.mono fun q i z => by unfold FY at z; unfold FLr; omega)).trans (f5.mono fun q i z => by unfold FY at z; unfold FLr; omega)).trans (f6.mono fun q i z => Or.inr (Or.inr (Or.inr (Or.inl z))))
  · have o : ∀ q i, (q = 500 ∨ q = 501) → ν6.1 q i = ν5.1 q i := fun q i a => (f6 _ _ (by unfold FR; omega)).1
    unfold MRs
    rw [o _ _ (Or.inl rfl), o _ _ (Or.inl rfl), o _ _ (Or.inr rfl), o _ _ (Or.inr rfl)]
    exact r5
end Mr2
