/-! THE MODEL: what is reached -/
theorem SoW.bt {B : Bk} (hB : BOK B) {t : Nat} (h : fwW (trE (gE B)) (tr (bM B)) (bt B) t) : hb (bt B) t = true := by
  obtain ⟨k, h⟩ := h
  induction k generalizing t with
  | zero => exact h.2.1
  | succ k ih =>
    rcases h with h | ⟨s, w, h1, h2, h3, h4, h5⟩
    · exact ih h
    · rw [ow_tr hB.M.1 h3] at h4
      have := hB.fit (w := w) (by omega)
      rw [h4] at this; exact this.2.2
def FY (q i : Nat) : Prop := (q = 500 ∨ q = 501) ∧ i < 2
/-- one round, as far as worker i -/
def TuR (E : Nat → Nat → Bool) (M : Nat → Nat) (μ ν : MM) (i : Nat) : Prop :=
  ((∀ k, hb (μ.1 500 0) k = true → hb (ν.1 500 0) k = true) ∧ (∀ k, hb (μ.1 500 1) k = true → hb (ν.1 500 1) k = true) ∧ (∀ k, hb (μ.1 501 0) k = true → hb (ν.1 501 0) k = true) ∧ ∀ k, hb (μ.1 501 1) k = true → hb (ν.1 501 1) k = true) ∧
  ∀ w, w < i → (∀ t, hb (μ.1 500 0) w = true → E w t = true → hb (ν.1 500 1) t = true) ∧ (M w < 12 → hb (μ.1 500 1) (M w) = true → hb (ν.1 500 0) w = true) ∧ (∀ t, E w t = true → hb (μ.1 501 1) t = true → hb (ν.1 501 0) w = true) ∧ (hb (μ.1 501 0) w = true → M w < 12 → hb (ν.1 501 1) (M w) = true)
def SoR (B : Bk) (μ : MM) : Prop := SoW (gE B) (bM B) (bw B) (μ.1 500 0) (μ.1 500 1) ∧ SoW (trE (gE B)) (tr (bM B)) (bt B) (μ.1 501 1) (μ.1 501 0)
section Mre
variable {μ : MM} {B : Bk}
theorem a500_0 : aI (mem μ) 500 0 = some (μ.1 500 0) := aI_500 (i := 0) (by omega)
theorem a500_1 : aI (mem μ) 500 1 = some (μ.1 500 1) := aI_500 (i := 1) (by omega)
theorem a501_0 : aI (mem μ) 501 0 = some (μ.1 501 0) := aI_501 (i := 0) (by omega)
theorem a501_1 : aI (mem μ) 501 1 = some (μ.1 501 1) := aI_501 (i := 1) (by omega)
theorem s500_0 {v : Int32} : sI (mem μ) 500 0 v = some (mem (st μ 500 0 v)) := sI_500 (i := 0) (by omega)
theorem s500_1 {v : Int32} : sI (mem μ) 500 1 v = some (mem (st μ 500 1 v)) := sI_500 (i := 1) (by omega)
theorem s501_0 {v : Int32} : sI (mem μ) 501 0 v = some (mem (st μ 501 0 v)) := sI_501 (i := 0) (by omega)
theorem s501_1 {v : Int32} : sI (mem μ) 501 1 v = some (mem (st μ 501 1 v)) := sI_501 (i := 1) (by omega)
theorem MR.fy {ν : MM} (h : MR μ 0 B) (f : Fr FY μ ν) : MR ν 0 B := h.fr f fun q i a z => by unfold FR at a; unfold FY at z; omega
/-- the four steps at a worker -/
theorem m_rA (hm : MR μ 0 B) (hB : BOK B) (so : SoR B μ) {i : Nat} (hi : i < bn B) : ∃ ν, (∀ n K r, f_X10_laysReach_L60 K (n + 1) 168 r (Int32.ofNat i) (mem μ) = f_X10_laysReach_J111 (f_X10_laysReach_L60 K n) K 168 r (Int32.ofNat i) (mem ν)) ∧ Fr (fun q j => q = 500 ∧ j = 1) μ ν ∧ ∀ k, hb (ν.1 500 1) k = true ↔ (hb (μ.1 500 1) k = true ∨ (hb (μ.1 500 0) i = true ∧ gE B i k = true)) := by
  have hn := hB.n
  have e0 : μ.1 172 0 = Int32.ofNat (bn B) := hm.1.1
  have e4 : μ.1 172 4 = bt B := hm.1.2.2.2.2
  have ef : μ.1 191 i = bf B i := hm.2.1 i (by omega)
  have ei : (Int32.ofNat i ≥ Int32.ofNat (bn B)) = False := by rw [oN_ge (by omega) (by omega)]; exact eq_false (by omega)
  have eh := m_has (x := μ.1 500 0) (h := mem μ) (show i < 32 by omega)
  cases q : hb (μ.1 500 0) i with
  | false =>
    rw [q] at eh
    refine ⟨μ, fun n K r => ?_, Fr.refl _ _, fun k => by simp⟩
    simp only [f_X10_laysReach_L60, ↓hbind gR_168_9, ↓hbind mr_h0, ↓hbind mh_a0_0, e0, ei, ↓reduceIte, ↓hbind gR_168_33, ↓hbind a500_0, ↓hbind eh, show bI false = 0 from rfl]
  | true =>
    rw [q] at eh
    have th : hb (bw B) i = true := by
      obtain ⟨k, h⟩ := so.1.1 i q
      clear q eh
      cases k with
      | zero => exact h.2.1
      | succ k =>
        have h' : fwW (gE B) (bM B) (bw B) i := ⟨k + 1, h⟩
        refine h'.sub (R := fun w => hb (bw B) w = true) (fun w a b c => b) (fun v t a b c => ?_)
        have := ow_M c
        exact (hB.fit (w := ow (bM B) t) (by rw [this]; exact (hB.Eb v t b).2)).2.1
    refine ⟨st μ 500 1 (μ.1 500 1 ||| (bf B i &&& bt B)), fun n K r => ?_, (Fr.refl _ _).st ⟨rfl, rfl⟩, fun k => ?_⟩
    · simp only [f_X10_laysReach_L60, ↓hbind gR_168_9, ↓hbind mr_h0, ↓hbind mh_a0_0, e0, ei, ↓reduceIte, ↓hbind gR_168_33, ↓hbind a500_0, ↓hbind eh, show bI true = 1 from rfl, z_1, ↓hbind a500_1, ↓hbind gR_168_10, ↓hbind mr_f0, ↓hbind (ma_f0 (show i < 12 by omega)), ef, ↓hbind mh_a0_4, e4, ↓hbind s500_1]
    · rw [st_same, hb_or, hb_and, Bool.or_eq_true]
      unfold gE
      rw [th, Bool.and_true]
      simp
theorem m_rB (hm : MR μ 0 B) (hB : BOK B) {i : Nat} (hi : i < bn B) : ∃ ν, (∀ kH K r, f_X10_laysReach_J111 kH K 168 r (Int32.ofNat i) (mem μ) = f_X10_laysReach_J155 kH K 168 r (Int32.ofNat i) (mem ν)) ∧ Fr (fun q j => q = 500 ∧ j = 0) μ ν ∧ ∀ k, hb (ν.1 500 0) k = true ↔ (hb (μ.1 500 0) k = true ∨ (k = i ∧ bM B i < 12 ∧ hb (μ.1 500 1) (bM B i) = true)) := by
  have hn := hB.n
  have hi2 : i < 12 := by omega
  have et : μ.1 210 i = eI (bM B i) := hm.2.2.1 i hi2
  by_cases c : bM B i < 12
  · rw [eI_lt c] at et
    have nz : (Int32.ofNat (bM B i) = -1) = False := oN_n1 (by omega)
    have eh := m_has (x := μ.1 500 1) (h := mem μ) (show bM B i < 32 by omega)
    cases q : hb (μ.1 500 1) (bM B i) with
    | false =>
      rw [q] at eh
      refine ⟨μ, fun kH K r => ?_, Fr.refl _ _, fun k => by simp⟩
      simp only [f_X10_laysReach_J111, ↓hbind gR_168_11, ↓hbind mr_m0, ↓hbind (ma_m0 hi2), et, nz, ↓reduceIte, ↓hbind gR_168_33, ↓hbind a500_1, ↓hbind eh, show bI false = 0 from rfl]
    | true =>
      rw [q] at eh
      refine ⟨st μ 500 0 (μ.1 500 0 ||| ((1 : Int32) <<< (Int32.ofNat i &&& 31))), fun kH K r => ?_, (Fr.refl _ _).st ⟨rfl, rfl⟩, fun k => ?_⟩
      · simp only [f_X10_laysReach_J111, ↓hbind gR_168_11, ↓hbind mr_m0, ↓hbind (ma_m0 hi2), et, nz, ↓reduceIte, ↓hbind gR_168_33, ↓hbind a500_1, ↓hbind eh, show bI true = 1 from rfl, z_1, ↓hbind a500_0, ↓hbind s500_0]
      · rw [st_same, hb_or, hb_bit k (by omega), Bool.or_eq_true, decide_eq_true_eq]
        simp [c]
  · rw [eI_ge (by omega)] at et
    refine ⟨μ, fun kH K r => ?_, Fr.refl _ _, fun k => by simp [c]⟩
    simp only [f_X10_laysReach_J111, ↓hbind gR_168_11, ↓hbind mr_m0, ↓hbind (ma_m0 hi2), et, n1_n1, ↓reduceIte]
theorem m_rC (hm : MR μ 0 B) (hB : BOK B) (so : SoR B μ) {i : Nat} (hi : i < bn B) : ∃ ν, (∀ kH K r, f_X10_laysReach_J155 kH K 168 r (Int32.ofNat i) (mem μ) = f_X10_laysReach_J194 kH K 168 r (Int32.ofNat i) (mem ν)) ∧ Fr (fun q j => q = 501 ∧ j = 0) μ ν ∧ ∀ k, hb (ν.1 501 0) k = true ↔ (hb (μ.1 501 0) k = true ∨ (k = i ∧ ∃ t, gE B i t = true ∧ hb (μ.1 501 1) t = true)) := by
  have hn := hB.n
  have hi2 : i < 12 := by omega
  have ef : μ.1 191 i = bf B i := hm.2.1 i hi2
  have eh := m_isThere0 (μ := μ) (show i < 32 by omega)
  rw [show μ.1 172 3 = bw B from hm.1.2.2.2.1] at eh
  cases th : hb (bw B) i with
  | false =>
    rw [th] at eh
    refine ⟨μ, fun kH K r => ?_, Fr.refl _ _, fun k => ?_⟩
    · simp only [f_X10_laysReach_J155, ↓hvc (fun _ => vc_168), ↓hbind eh, show bI false = 0 from rfl, ↓reduceIte]
    · constructor
      · exact Or.inl
      · rintro (z | ⟨_, t, z, _⟩)
        · exact z
        · have := gE_W _ _ z
          rw [th] at this; cases this
  | true =>
    rw [th] at eh
    have he : ∀ t, (gE B i t = true ∧ hb (μ.1 501 1) t = true) ↔ (hb (bf B i) t = true ∧ hb (μ.1 501 1) t = true) := fun t => by
      constructor
      · rintro ⟨a, b⟩
        unfold gE at a
        simp only [Bool.and_eq_true] at a
        exact ⟨a.1.1, b⟩
      · rintro ⟨a, b⟩
        refine ⟨?_, b⟩
        unfold gE
        rw [a, th, SoW.bt hB (so.2.1 t b)]; rfl
    by_cases c : bf B i &&& μ.1 501 1 = 0
    · have c' := and_zero'.mp c
      refine ⟨μ, fun kH K r => ?_, Fr.refl _ _, fun k => ?_⟩
      · simp only [f_X10_laysReach_J155, ↓hvc (fun _ => vc_168), ↓hbind eh, show bI true = 1 from rfl, z_1, ↓reduceIte, ↓hbind gR_168_10, ↓hbind mr_f0, ↓hbind (ma_f0 hi2), ef, ↓hbind gR_168_34, ↓hbind a501_1, c]
      · constructor
        · exact Or.inl
        · rintro (z | ⟨_, t, z⟩)
          · exact z
          · have := (he t).mp z
            rw [c' t this.1] at this; cases this.2
    · have c' : ∃ t, gE B i t = true ∧ hb (μ.1 501 1) t = true := by
        apply Classical.byContradiction
        intro z
        refine c (and_zero'.mpr fun k q => ?_)
        cases y : hb (μ.1 501 1) k with
        | false => rfl
        | true => exact absurd ⟨k, (he k).mpr ⟨q, y⟩⟩ z
      refine ⟨st μ 501 0 (μ.1 501 0 ||| ((1 : Int32) <<< (Int32.ofNat i &&& 31))), fun kH K r => ?_, (Fr.refl _ _).st ⟨rfl, rfl⟩, fun k => ?_⟩
      · simp only [f_X10_laysReach_J155, ↓hvc (fun _ => vc_168), ↓hbind eh, show bI true = 1 from rfl, z_1, ↓reduceIte, ↓hbind gR_168_10, ↓hbind mr_f0, ↓hbind (ma_f0 hi2), ef, ↓hbind gR_168_34, ↓hbind a501_1, c, ↓hbind a501_0, ↓hbind s501_0]
      · rw [st_same, hb_or, hb_bit k (by omega), Bool.or_eq_true, decide_eq_true_eq]
        constructor
        · rintro (z | z)
          · exact Or.inl z
          · exact Or.inr ⟨z, c'⟩
        · rintro (z | z)
          · exact Or.inl z
          · exact Or.inr z.1
theorem m_rD (hm : MR μ 0 B) (hB : BOK B) {i : Nat} (hi : i < bn B) : ∃ ν, (∀ kH K r, f_X10_laysReach_J194 kH K 168 r (Int32.ofNat i) (mem μ) = kH 168 r (Int32.ofNat (i + 1)) (mem ν)) ∧ Fr (fun q j => q = 501 ∧ j = 1) μ ν ∧ ∀ k, hb (ν.1 501 1) k = true ↔ (hb (μ.1 501 1) k = true ∨ (k = bM B i ∧ bM B i < 12 ∧ hb (μ.1 501 0) i = true)) := by
  have hn := hB.n
  have hi2 : i < 12 := by omega
  have et : μ.1 210 i = eI (bM B i) := hm.2.2.1 i hi2
  by_cases c : bM B i < 12
  · rw [eI_lt c] at et
    have nz : (Int32.ofNat (bM B i) = -1) = False := oN_n1 (by omega)
    have eh := m_has (x := μ.1 501 0) (h := mem μ) (show i < 32 by omega)
    cases q : hb (μ.1 501 0) i with
    | false =>
      rw [q] at eh
      refine ⟨μ, fun kH K r => ?_, Fr.refl _ _, fun k => by simp⟩
      simp only [f_X10_laysReach_J194, f_X10_laysReach_J238, ↓hbind gR_168_11, ↓hbind mr_m0, ↓hbind (ma_m0 hi2), et, nz, ↓reduceIte, ↓hbind gR_168_34, ↓hbind a501_0, ↓hbind eh, show bI false = 0 from rfl, lt, i_succ]
    | true =>
      rw [q] at eh
      refine ⟨st μ 501 1 (μ.1 501 1 ||| ((1 : Int32) <<< (Int32.ofNat (bM B i) &&& 31))), fun kH K r => ?_, (Fr.refl _ _).st ⟨rfl, rfl⟩, fun k => ?_⟩
      · simp only [f_X10_laysReach_J194, f_X10_laysReach_J238, ↓hbind gR_168_11, ↓hbind mr_m0, ↓hbind (ma_m0 hi2), et, nz, ↓reduceIte, ↓hbind gR_168_34, ↓hbind a501_0, ↓hbind eh, show bI true = 1 from rfl, z_1, ↓hbind a501_1, ↓hbind s501_1, lt, i_succ]
      · rw [st_same, hb_or, hb_bit k (by omega), Bool.or_eq_true, decide_eq_true_eq]
        simp [c]
  · rw [eI_ge (by omega)] at et
    refine ⟨μ, fun kH K r => ?_, Fr.refl _ _, fun k => by simp [c]⟩
    simp only [f_X10_laysReach_J194, f_X10_laysReach_J238, ↓hbind gR_168_11, ↓hbind mr_m0, ↓hbind (ma_m0 hi2), et, n1_n1, ↓reduceIte, lt, i_succ]
/-- a worker's turn -/
theorem m_r1 {μ0 : MM} (hm : MR μ 0 B) (hB : BOK B) (so : SoR B μ) {i : Nat} (hi : i < bn B) (f : Fr FY μ0 μ) (h : TuR (gE B) (bM B) μ0 μ i) : ∃ ν, (∀ n K r, f_X10_laysReach_L60 K (n + 1) 168 r (Int32.ofNat i) (mem μ) = f_X10_laysReach_L60 K n 168 r (Int32.ofNat (i + 1)) (mem ν)) ∧ Fr FY μ0 ν ∧ SoR B ν ∧ TuR (gE B) (bM B) μ0 ν (i + 1) := by
  have hE := hB.Eb
  have hM := hB.M.1
  have hn := hB.n
  obtain ⟨ν1, e1, f1, a1⟩ := m_rA hm hB so hi
  have m1 := hm.fy (f1.mono fun q i z => by unfold FY; omega)
  have x1 : ν1.1 500 0 = μ.1 500 0 := (f1 _ _ (by omega)).1
  have u1 : ν1.1 501 0 = μ.1 501 0 := (f1 _ _ (by omega)).1
  have v1 : ν1.1 501 1 = μ.1 501 1 := (f1 _ _ (by omega)).1
  obtain ⟨ν2, e2, f2, a2⟩ := m_rB m1 hB hi
  have m2 := m1.fy (f2.mono fun q i z => by unfold FY; omega)
  have y2 : ν2.1 500 1 = ν1.1 500 1 := (f2 _ _ (by omega)).1
  have u2 : ν2.1 501 0 = μ.1 501 0 := by rw [(f2 _ _ (by omega)).1]; exact u1
  have v2 : ν2.1 501 1 = μ.1 501 1 := by rw [(f2 _ _ (by omega)).1]; exact v1
  rw [x1] at a2
  have sy : ∀ k, hb (ν1.1 500 1) k = true → fwT (gE B) (bM B) (bw B) k := fun k q => by
    rcases (a1 k).mp q with z | ⟨z1, z2⟩
    · exact so.1.2.1 k z
    · exact ⟨i, so.1.1 i z1, z2⟩
  have sx : ∀ k, hb (ν2.1 500 0) k = true → fwW (gE B) (bM B) (bw B) k := fun k q => by
    rcases (a2 k).mp q with z | ⟨z1, z2, z3⟩
    · exact so.1.1 k z
    · rw [z1]; exact (sy _ z3).step hM hE z2
  have so2 : SoR B ν2 := ⟨⟨sx, fun k q => sy k (by rw [← y2]; exact q), fun k a b c => (a2 k).mpr (Or.inl (so.1.2.2 k a b c))⟩, by rw [u2, v2]; exact so.2⟩
  obtain ⟨ν3, e3, f3, a3⟩ := m_rC m2 hB so2 hi
  have m3 := m2.fy (f3.mono fun q i z => by unfold FY; omega)
  have x3 : ν3.1 500 0 = ν2.1 500 0 := (f3 _ _ (by omega)).1
  have y3 : ν3.1 500 1 = ν1.1 500 1 := by rw [(f3 _ _ (by omega)).1]; exact y2
  have v3 : ν3.1 501 1 = μ.1 501 1 := by rw [(f3 _ _ (by omega)).1]; exact v2
  rw [u2, v2] at a3
  obtain ⟨ν4, e4, f4, a4⟩ := m_rD m3 hB hi
  have x4 : ν4.1 500 0 = ν2.1 500 0 := by rw [(f4 _ _ (by omega)).1]; exact x3
  have y4 : ν4.1 500 1 = ν1.1 500 1 := by rw [(f4 _ _ (by omega)).1]; exact y3
  have u4 : ν4.1 501 0 = ν3.1 501 0 := (f4 _ _ (by omega)).1
  rw [v3] at a4
  have su : ∀ k, hb (ν3.1 501 0) k = true → fwT (trE (gE B)) (tr (bM B)) (bt B) k := fun k q => by
    rcases (a3 k).mp q with z | ⟨z1, t, z2, z3⟩
    · exact so.2.2.1 k z
    · rw [z1]; exact ⟨t, so.2.1 t z3, z2⟩
  have sv : ∀ k, hb (ν4.1 501 1) k = true → fwW (trE (gE B)) (tr (bM B)) (bt B) k := fun k q => by
    rcases (a4 k).mp q with z | ⟨z1, z2, z3⟩
    · exact so.2.1 k z
    · obtain ⟨t, y1, y2⟩ := su i z3
      have := y1.step (trE_Eb hE) (t := i) y2 (by rw [ow_tr hM (by omega)]; exact z2)
      rw [ow_tr hM (by omega)] at this
      rw [z1]; exact this
  obtain ⟨⟨g1, g2, g3, g4⟩, g5⟩ := h
  refine ⟨ν4, fun n K r => by rw [e1, e2, e3, e4], (((f.trans (f1.mono fun q i z => by unfold FY; omega)).trans (f2.mono fun q i z => by unfold FY; omega)).trans (f3.mono fun q i z => by unfold FY; omega)).trans (f4.mono fun q i z => by unfold FY; omega), ⟨?_, ?_⟩, ⟨⟨fun k q => ?_, fun k q => ?_, fun k q => ?_, fun k q => ?_⟩, fun w hw => ?_⟩⟩
  · rw [x4, y4, ← y2]; exact so2.1
  · rw [u4]; exact ⟨sv, su, fun k a b c => (a4 k).mpr (Or.inl (so.2.2.2 k a b c))⟩
  · rw [x4]; exact (a2 k).mpr (Or.inl (g1 k q))
  · rw [y4]; exact (a1 k).mpr (Or.inl (g2 k q))
  · rw [u4]; exact (a3 k).mpr (Or.inl (g3 k q))
  · exact (a4 k).mpr (Or.inl (g4 k q))
  · rw [x4, y4, u4]
    by_cases z : w = i
    · subst z
      exact ⟨fun t p q => (a1 t).mpr (Or.inr ⟨g1 _ p, q⟩), fun p q => (a2 w).mpr (Or.inr ⟨rfl, p, (a1 _).mpr (Or.inl (g2 _ q))⟩), fun t p q => (a3 w).mpr (Or.inr ⟨rfl, t, p, g4 _ q⟩), fun p q => (a4 _).mpr (Or.inr ⟨rfl, q, (a3 w).mpr (Or.inl (g3 _ p))⟩)⟩
    · obtain ⟨b1, b2, b3, b4⟩ := g5 w (by omega)
      exact ⟨fun t p q => (a1 t).mpr (Or.inl (b1 t p q)), fun p q => (a2 w).mpr (Or.inl (b2 p q)), fun t p q => (a3 w).mpr (Or.inl (b3 t p q)), fun p q => (a4 _).mpr (Or.inl (b4 p q))⟩
/-- a round -/
theorem m_rnd {μ0 : MM} (hB : BOK B) (m0 : MR μ0 0 B) : ∀ (k i : Nat) (μ : MM), i + k = bn B → SoR B μ → Fr FY μ0 μ → TuR (gE B) (bM B) μ0 μ i → ∃ ν, (∀ f K r, f_X10_laysReach_L60 K (k + 1 + f) 168 r (Int32.ofNat i) (mem μ) = K 168 r (mem ν)) ∧ Fr FY μ0 ν ∧ SoR B ν ∧ TuR (gE B) (bM B) μ0 ν (bn B)
  | 0, i, μ, h, so, f, t => by
    have hn := hB.n
    have e0 : μ.1 172 0 = Int32.ofNat (bn B) := (m0.fy f).1.1
    have c : (Int32.ofNat i ≥ Int32.ofNat (bn B)) = True := by rw [oN_ge (by omega) (by omega)]; exact eq_true (by omega)
    refine ⟨μ, fun g K r => ?_, f, so, by rw [← h]; exact t⟩
    rw [show 0 + 1 + g = g + 1 by omega]
    simp only [f_X10_laysReach_L60, ↓hbind gR_168_9, ↓hbind mr_h0, ↓hbind mh_a0_0, e0, c, ↓reduceIte]
  | k + 1, i, μ, h, so, f, t => by
    obtain ⟨ξ, e, f', so', t'⟩ := m_r1 (m0.fy f) hB so (show i < bn B by omega) f t
    obtain ⟨ν, e2, r2⟩ := m_rnd hB m0 k (i + 1) ξ (by omega) so' f' t'
    refine ⟨ν, fun g K r => ?_, r2⟩
    rw [show k + 1 + 1 + g = (k + 1 + g) + 1 by omega, e, e2]
end Mre
