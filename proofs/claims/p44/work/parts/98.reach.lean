/-! MATHEMATICS: what is reached from the free ones -/
variable {Ξ : xH}
/-- workers reached from free ones; tasks that fit one of them -/
def fwW (E : Nat → Nat → Bool) (M : Nat → Nat) (Wt : Int32) (w : Nat) : Prop := ∃ k, fw E M (fun x => x < 12 ∧ hb Wt x = true ∧ M x = 12) k w
def fwT (E : Nat → Nat → Bool) (M : Nat → Nat) (Wt : Int32) (t : Nat) : Prop := ∃ w, fwW E M Wt w ∧ E w t = true
/-- tasks and workers change sides -/
def trE (E : Nat → Nat → Bool) : Nat → Nat → Bool := fun t w => E w t
section Re
variable {E : Nat → Nat → Bool} {M : Nat → Nat} {Wt : Int32}
theorem fwW.lt {w : Nat} (h : fwW E M Wt w) : w < 12 := by
  obtain ⟨k, h⟩ := h
  exact fw_12 (fun w z => z.1) h
theorem fwT.lt (hE : Eb E) {t : Nat} (h : fwT E M Wt t) : t < 12 := by
  obtain ⟨w, _, h⟩ := h
  exact (hE _ _ h).2
theorem fwW.zero {w : Nat} (h1 : w < 12) (h2 : hb Wt w = true) (h3 : M w = 12) : fwW E M Wt w := ⟨0, h1, h2, h3⟩
theorem fwW.step (hE : Eb E) {v t : Nat} (h : fwW E M Wt v) (e : E v t = true) (o : ow M t < 12) : fwW E M Wt (ow M t) := by
  obtain ⟨k, h⟩ := h
  exact ⟨k + 1, Or.inr ⟨v, t, h, e, (hE _ _ e).2, rfl, o⟩⟩
theorem fwT.step (hM : Mt M) (hE : Eb E) {w : Nat} (h : fwT E M Wt (M w)) (q : M w < 12) : fwW E M Wt w := by
  obtain ⟨v, h1, h2⟩ := h
  have := h1.step hE h2 (by rw [ow_of hM q]; exact hM.w12 q)
  rw [ow_of hM q] at this; exact this
theorem fwW.sub {R : Nat → Prop} (h0 : ∀ w, w < 12 → hb Wt w = true → M w = 12 → R w) (hc : ∀ v t, R v → E v t = true → ow M t < 12 → R (ow M t)) {w : Nat} (h : fwW E M Wt w) : R w := by
  obtain ⟨k, h⟩ := h
  exact fw_sub (fun w z => h0 w z.1 z.2.1 z.2.2) (fun v t a b _ d => hc v t a b d) h
theorem fwW.src {w : Nat} (h : fwW E M Wt w) : ∃ z, z < 12 ∧ hb Wt z = true ∧ M z = 12 := by
  obtain ⟨k, h⟩ := h
  induction k generalizing w with
  | zero => exact ⟨w, h⟩
  | succ k ih =>
    rcases h with h | ⟨v, t, h, _⟩
    · exact ih h
    · exact ih h
theorem ow_tr (hM : Mt M) {w : Nat} (hw : w < 12) : ow (tr M) w = M w := by
  rw [← tr_lt hw, tr_tr hM]
theorem trE_Eb (hE : Eb E) : Eb (trE E) := fun w t q => ⟨(hE _ _ q).2, (hE _ _ q).1⟩
/-- a mask of what is reached so far: sound, with the free ones -/
def SoW (E : Nat → Nat → Bool) (M : Nat → Nat) (Wt : Int32) (x y : Int32) : Prop :=
  (∀ k, hb x k = true → fwW E M Wt k) ∧ (∀ k, hb y k = true → fwT E M Wt k) ∧ ∀ k, k < 12 → hb Wt k = true → M k = 12 → hb x k = true
/-- ... and nothing more comes -/
def ClW (E : Nat → Nat → Bool) (M : Nat → Nat) (x y : Int32) : Prop :=
  (∀ w t, hb x w = true → E w t = true → hb y t = true) ∧ ∀ w, w < 12 → M w < 12 → hb y (M w) = true → hb x w = true
/-- the whole of it -/
def AlW (E : Nat → Nat → Bool) (M : Nat → Nat) (Wt : Int32) (x y : Int32) : Prop := (∀ k, hb x k = true ↔ fwW E M Wt k) ∧ ∀ k, hb y k = true ↔ fwT E M Wt k
theorem SoW.all (hE : Eb E) {x y : Int32} (h : SoW E M Wt x y) (c : ClW E M x y) : AlW E M Wt x y := by
  have h1 : ∀ k, hb x k = true ↔ fwW E M Wt k := fun k => ⟨h.1 k, fun q => q.sub (R := fun w => hb x w = true) h.2.2 (fun v t a b d => by
    have hm := ow_M d
    have t2 := (hE v t b).2
    exact c.2 (ow M t) d (by rw [hm]; exact t2) (by rw [hm]; exact c.1 v t a b))⟩
  exact ⟨h1, fun k => ⟨h.2.1 k, fun ⟨w, a, b⟩ => c.1 w k ((h1 w).mpr a) b⟩⟩
theorem SoW.m12 (hE : Eb E) {x y : Int32} (h : SoW E M Wt x y) : (∀ k, hb x k = true → k < 12) ∧ ∀ k, hb y k = true → k < 12 := ⟨fun k q => (h.1 k q).lt, fun k q => (h.2.1 k q).lt hE⟩
theorem hb_sub_eq {x y : Int32} (h : ∀ k, hb x k = true → hb y k = true) (n : x ≠ y) : ∃ k, hb x k = false ∧ hb y k = true := by
  apply Classical.byContradiction
  intro c
  refine n (hb_ext fun k _ => ?_)
  cases q : hb x k with
  | true => exact (h k q).symm
  | false =>
    cases q' : hb y k with
    | false => rfl
    | true => exact absurd ⟨k, q, q'⟩ c
theorem and_zero' {x y : Int32} : (x &&& y = 0) ↔ ∀ k, hb x k = true → hb y k = false := by
  constructor
  · intro e k q
    have : hb (x &&& y) k = false := by rw [e, hb_zero]
    rw [hb_and, q, Bool.true_and] at this; exact this
  · intro h
    apply hb_ext
    intro k _
    rw [hb_and, hb_zero]
    cases q : hb x k with
    | false => rfl
    | true => rw [h k q]; rfl
end Re
/-! THE CLASS: what is reached, from both sides -/
section Cre
variable {μ : MM} {n m : Nat} {Wt Tt : Int32} {E : Nat → Nat → Bool} {M : Nat → Nat}
def FX (q i : Nat) : Prop := q = 149 ∧ i < 4
theorem SR.fx {ν : MM} (h : SR μ n m Wt Tt E M) (f : Fr FX μ ν) : SR ν n m Wt Tt E M := by
  obtain ⟨⟨h1, h2, h3, h4⟩, h5, h6⟩ := h
  refine ⟨⟨?_, ?_, ?_, ?_⟩, fun w hw k => ?_, h6.fr f (fun i z => by unfold FX at z; omega) (fun i z => by unfold FX at z; omega)⟩
  · rw [(f _ _ (by unfold FX; omega)).1]; exact h1
  · rw [(f _ _ (by unfold FX; omega)).1]; exact h2
  · rw [(f _ _ (by unfold FX; omega)).1]; exact h3
  · rw [(f _ _ (by unfold FX; omega)).1]; exact h4
  · rw [(f _ _ (by unfold FX; omega)).1]; exact h5 w hw k
theorem c_rowX {w : Nat} (hw : w < 12) : f_X7_row 141 (Int32.ofNat w) ((mX Ξ) μ) = some (μ.1 145 w, (mX Ξ) μ) := by
  have e := c_inLimit_n (k := w) (h := (mX Ξ) μ) (by omega)
  rw [decide_eq_true hw] at e
  simp only [f_X7_row, f_X7_row_J17, ↓hbind e, show bI true = 1 from rfl, z_1, ↓reduceIte, ↓hbind gR_141_1, ↓hbind (aI_145 hw)]
/-- one turn forward -/
def TuF (E : Nat → Nat → Bool) (M : Nat → Nat) (x y x' y' : Int32) : Prop :=
  (∀ k, hb y' k = true ↔ (hb y k = true ∨ ∃ w, w < 12 ∧ hb x w = true ∧ E w k = true)) ∧ ∀ k, hb x' k = true ↔ (hb x k = true ∨ (k < 12 ∧ M k < 12 ∧ hb y' (M k) = true))
theorem c_lookOn (hS : SR μ n m Wt Tt E M) : ∃ ν, f_X5_lookOn 149 141 ((mX Ξ) μ) = some ((mX Ξ) ν) ∧ Fr (fun q i => q = 149 ∧ i < 2) μ ν ∧ TuF E M (μ.1 149 0) (μ.1 149 1) (ν.1 149 0) (ν.1 149 1) := by
  have key : Hw (f_X5_lookOn 149 141 ((mX Ξ) μ)) (fun r => ∃ ν, r = (mX Ξ) ν ∧ Fr (fun q i => q = 149 ∧ i < 2) μ ν ∧ TuF E M (μ.1 149 0) (μ.1 149 1) (ν.1 149 0) (ν.1 149 1)) := by
    refine hw_for (L := fun n i (ν : MM) => f_X5_lookOn_L2 f_X5_lookOn_J39 n 149 141 i ((mX Ξ) ν)) (s0 := μ) 12 (fun i ν => Fr (fun q i => q = 149 ∧ i = 1) μ ν ∧ ∀ k, hb (ν.1 149 1) k = true ↔ (hb (μ.1 149 1) k = true ∨ ∃ w, w < i ∧ hb (μ.1 149 0) w = true ∧ E w k = true)) ⟨Fr.refl _ _, fun k => ⟨Or.inl, fun z => z.elim id fun ⟨w, a, _⟩ => absurd a (Nat.not_lt_zero _)⟩⟩ (by decide) (fun i hi ν hν => Or.inl ?_) (fun ν hν n' => ?_)
    · obtain ⟨h1, h2⟩ := hν
      have e0 : ν.1 149 0 = μ.1 149 0 := (h1 _ _ (by omega)).1
      have er : ν.1 145 i = μ.1 145 i := (h1 _ _ (by omega)).1
      have ei : (Int32.ofNat i ≥ 12) = False := by rw [lge_12 (by omega)]; exact eq_false (by omega)
      have eh := c_has (x := μ.1 149 0) (h := (mX Ξ) ν) (show i < 32 by omega)
      cases q : hb (μ.1 149 0) i with
      | false =>
        rw [q] at eh
        refine ⟨ν, ⟨h1, fun k => ?_⟩, fun n' => ?_⟩
        · rw [h2 k]
          constructor
          · rintro (z | ⟨w, a, b⟩)
            · exact Or.inl z
            · exact Or.inr ⟨w, by omega, b⟩
          · rintro (z | ⟨w, a, b, c⟩)
            · exact Or.inl z
            · refine Or.inr ⟨w, ?_, b, c⟩
              have : w ≠ i := fun y => by rw [y, q] at b; cases b
              omega
        · show f_X5_lookOn_L2 f_X5_lookOn_J39 (n' + 1) 149 141 (Int32.ofNat i) ((mX Ξ) ν) = f_X5_lookOn_L2 f_X5_lookOn_J39 n' 149 141 (Int32.ofNat (i + 1)) ((mX Ξ) ν)
          simp only [f_X5_lookOn_L2, f_X5_lookOn_J33, ei, ↓reduceIte, ↓hbind gI_149_0, e0, ↓hbind eh, show bI false = 0 from rfl, lt, i_succ]
      | true =>
        rw [q] at eh
        refine ⟨st ν 149 1 (ν.1 149 1 ||| μ.1 145 i), ⟨h1.st ⟨rfl, rfl⟩, fun k => ?_⟩, fun n' => ?_⟩
        · rw [st_same, hb_or, Bool.or_eq_true, h2 k, hS.2.1 i hi k]
          constructor
          · rintro ((z | ⟨w, a, b⟩) | z)
            · exact Or.inl z
            · exact Or.inr ⟨w, by omega, b⟩
            · exact Or.inr ⟨i, by omega, q, z⟩
          · rintro (z | ⟨w, a, b, c⟩)
            · exact Or.inl (Or.inl z)
            · by_cases y : w = i
              · rw [y] at c; exact Or.inr c
              · exact Or.inl (Or.inr ⟨w, by omega, b, c⟩)
        · show f_X5_lookOn_L2 f_X5_lookOn_J39 (n' + 1) 149 141 (Int32.ofNat i) ((mX Ξ) ν) = f_X5_lookOn_L2 f_X5_lookOn_J39 n' 149 141 (Int32.ofNat (i + 1)) _
          simp only [f_X5_lookOn_L2, f_X5_lookOn_J33, ei, ↓reduceIte, ↓hbind gI_149_0, e0, ↓hbind eh, show bI true = 1 from rfl, z_1, ↓hbind gI_149_1, ↓hvc (fun _ => vc_141), ↓hbind (c_rowX hi), er, ↓hbind pI_149_1, lt, i_succ]
    · obtain ⟨h1, h2⟩ := hν
      have e0 : ν.1 149 0 = μ.1 149 0 := (h1 _ _ (by omega)).1
      have hp : PR ν 142 M := hS.2.2.fr h1 (fun i => by omega) (fun i => by omega)
      have ei : (Int32.ofNat 12 ≥ 12) = True := eq_true (by decide)
      show Hw (f_X5_lookOn_L2 f_X5_lookOn_J39 (n' + 1) 149 141 (Int32.ofNat 12) ((mX Ξ) ν)) _
      simp only [f_X5_lookOn_L2, ei, ↓reduceIte, f_X5_lookOn_J39]
      refine hw_for (L := fun n i (ξ : MM) => f_X5_lookOn_L41 f_X5_lookOn_J91 n 149 141 i ((mX Ξ) ξ)) (s0 := ν) 12 (fun i ξ => Fr (fun q i => q = 149 ∧ i = 0) ν ξ ∧ ∀ k, hb (ξ.1 149 0) k = true ↔ (hb (μ.1 149 0) k = true ∨ (k < i ∧ M k < 12 ∧ hb (ν.1 149 1) (M k) = true))) ⟨Fr.refl _ _, fun k => by rw [e0]; exact ⟨Or.inl, fun z => z.elim id fun a => absurd a.1 (Nat.not_lt_zero _)⟩⟩ (by decide) (fun i hi ξ hξ => Or.inl ?_) (fun ξ hξ n'' => ?_)
      · obtain ⟨g1, g2⟩ := hξ
        have e1 : ξ.1 149 1 = ν.1 149 1 := (g1 _ _ (by omega)).1
        have hp2 : PR ξ 142 M := hp.fr g1 (fun i => by omega) (fun i => by omega)
        have et := c_taskOf (Ξ := Ξ) pr142 hp2 hi
        have ei : (Int32.ofNat i ≥ 12) = False := by rw [lge_12 (by omega)]; exact eq_false (by omega)
        by_cases c : M i < 12
        · rw [eI_lt c] at et
          have nz : (Int32.ofNat (M i) = -1) = False := oN_n1 (by omega)
          have eh := c_has (x := ν.1 149 1) (h := (mX Ξ) ξ) (show M i < 32 by omega)
          cases q : hb (ν.1 149 1) (M i) with
          | false =>
            rw [q] at eh
            refine ⟨ξ, ⟨g1, fun k => ?_⟩, fun n'' => ?_⟩
            · rw [g2 k]
              constructor
              · rintro (z | z)
                · exact Or.inl z
                · exact Or.inr ⟨by omega, z.2⟩
              · rintro (z | z)
                · exact Or.inl z
                · refine Or.inr ⟨?_, z.2⟩
                  have : k ≠ i := fun y => by rw [y, q] at z; cases z.2.2
                  omega
            · show f_X5_lookOn_L41 f_X5_lookOn_J91 (n'' + 1) 149 141 (Int32.ofNat i) ((mX Ξ) ξ) = f_X5_lookOn_L41 f_X5_lookOn_J91 n'' 149 141 (Int32.ofNat (i + 1)) ((mX Ξ) ξ)
              simp only [f_X5_lookOn_L41, f_X5_lookOn_J85, ei, ↓reduceIte, ↓hbind gR_141_0, ↓hvc (fun _ => pr_v pr142), ↓hbind et, nz, ↓hbind gI_149_1, e1, ↓hbind eh, show bI false = 0 from rfl, lt, i_succ]
          | true =>
            rw [q] at eh
            refine ⟨st ξ 149 0 (ξ.1 149 0 ||| ((1 : Int32) <<< (Int32.ofNat i &&& 31))), ⟨g1.st ⟨rfl, rfl⟩, fun k => ?_⟩, fun n'' => ?_⟩
            · rw [st_same, hb_or, hb_bit k (by omega), Bool.or_eq_true, g2 k, decide_eq_true_eq]
              constructor
              · rintro ((z | z) | z)
                · exact Or.inl z
                · exact Or.inr ⟨by omega, z.2⟩
                · exact Or.inr ⟨by omega, by rw [z]; exact c, by rw [z]; exact q⟩
              · rintro (z | z)
                · exact Or.inl (Or.inl z)
                · by_cases y : k = i
                  · exact Or.inr y
                  · exact Or.inl (Or.inr ⟨by omega, z.2⟩)
            · show f_X5_lookOn_L41 f_X5_lookOn_J91 (n'' + 1) 149 141 (Int32.ofNat i) ((mX Ξ) ξ) = f_X5_lookOn_L41 f_X5_lookOn_J91 n'' 149 141 (Int32.ofNat (i + 1)) _
              simp only [f_X5_lookOn_L41, f_X5_lookOn_J85, ei, ↓reduceIte, ↓hbind gR_141_0, ↓hvc (fun _ => pr_v pr142), ↓hbind et, nz, ↓hbind gI_149_1, e1, ↓hbind eh, show bI true = 1 from rfl, z_1, ↓hbind gI_149_0, ↓hbind c_bit, ↓hbind pI_149_0, lt, i_succ]
        · rw [eI_ge (by omega)] at et
          refine ⟨ξ, ⟨g1, fun k => ?_⟩, fun n'' => ?_⟩
          · rw [g2 k]
            constructor
            · rintro (z | z)
              · exact Or.inl z
              · exact Or.inr ⟨by omega, z.2⟩
            · rintro (z | z)
              · exact Or.inl z
              · refine Or.inr ⟨?_, z.2⟩
                have : k ≠ i := fun y => by rw [y] at z; exact c z.2.1
                omega
          · show f_X5_lookOn_L41 f_X5_lookOn_J91 (n'' + 1) 149 141 (Int32.ofNat i) ((mX Ξ) ξ) = f_X5_lookOn_L41 f_X5_lookOn_J91 n'' 149 141 (Int32.ofNat (i + 1)) ((mX Ξ) ξ)
            simp only [f_X5_lookOn_L41, f_X5_lookOn_J85, ei, ↓reduceIte, ↓hbind gR_141_0, ↓hvc (fun _ => pr_v pr142), ↓hbind et, n1_n1, lt, i_succ]
      · obtain ⟨g1, g2⟩ := hξ
        have e1 : ξ.1 149 1 = ν.1 149 1 := (g1 _ _ (by omega)).1
        have ei : (Int32.ofNat 12 ≥ 12) = True := eq_true (by decide)
        show Hw (f_X5_lookOn_L41 f_X5_lookOn_J91 (n'' + 1) 149 141 (Int32.ofNat 12) ((mX Ξ) ξ)) _
        simp only [f_X5_lookOn_L41, ei, ↓reduceIte, f_X5_lookOn_J91]
        refine hw_ret ⟨ξ, rfl, (h1.mono fun q i z => by omega).trans (g1.mono fun q i z => by omega), fun k => ?_, fun k => ?_⟩
        · rw [e1]; exact h2 k
        · rw [e1]; exact g2 k
  obtain ⟨r, e, ν, rfl, h⟩ := key
  exact ⟨ν, e, h⟩
/-- one turn back -/
def TuB (E : Nat → Nat → Bool) (M : Nat → Nat) (u v u' v' : Int32) : Prop :=
  (∀ k, hb u k = true → hb u' k = true) ∧ (∀ k, hb v k = true → hb v' k = true) ∧ (∀ w t, w < 12 → E w t = true → hb v t = true → hb u' w = true ∧ (M w < 12 → hb v' (M w) = true)) ∧
  ∀ R : Nat → Prop, (∀ t, hb v t = true → R t) → (∀ w t, w < 12 → R t → E w t = true → M w < 12 → R (M w)) → ((∀ t, hb v' t = true → R t) ∧ ∀ w, hb u' w = true → hb u w = true ∨ (w < 12 ∧ ∃ t, R t ∧ E w t = true)) ∧ ∀ w, hb u' w = true → hb u w = true ∨ (M w < 12 → hb v' (M w) = true)
theorem c_lookBack (hS : SR μ n m Wt Tt E M) : ∃ ν, f_X5_lookBack 149 141 ((mX Ξ) μ) = some ((mX Ξ) ν) ∧ Fr (fun q i => q = 149 ∧ (i = 2 ∨ i = 3)) μ ν ∧ TuB E M (μ.1 149 2) (μ.1 149 3) (ν.1 149 2) (ν.1 149 3) := by
  have key : Hw (f_X5_lookBack 149 141 ((mX Ξ) μ)) (fun r => ∃ ν, r = (mX Ξ) ν ∧ Fr (fun q i => q = 149 ∧ (i = 2 ∨ i = 3)) μ ν ∧ TuB E M (μ.1 149 2) (μ.1 149 3) (ν.1 149 2) (ν.1 149 3)) := by
    refine hw_for (L := fun n i (ν : MM) => f_X5_lookBack_L2 f_X5_lookBack_J67 n 149 141 i ((mX Ξ) ν)) (s0 := μ) 12 (fun i ν => Fr (fun q i => q = 149 ∧ (i = 2 ∨ i = 3)) μ ν ∧ (∀ k, hb (μ.1 149 2) k = true → hb (ν.1 149 2) k = true) ∧ (∀ k, hb (μ.1 149 3) k = true → hb (ν.1 149 3) k = true) ∧ (∀ w t, w < i → E w t = true → hb (μ.1 149 3) t = true → hb (ν.1 149 2) w = true ∧ (M w < 12 → hb (ν.1 149 3) (M w) = true)) ∧
      ∀ R : Nat → Prop, (∀ t, hb (μ.1 149 3) t = true → R t) → (∀ w t, w < 12 → R t → E w t = true → M w < 12 → R (M w)) → ((∀ t, hb (ν.1 149 3) t = true → R t) ∧ ∀ w, hb (ν.1 149 2) w = true → hb (μ.1 149 2) w = true ∨ (w < 12 ∧ ∃ t, R t ∧ E w t = true)) ∧ ∀ w, hb (ν.1 149 2) w = true → hb (μ.1 149 2) w = true ∨ (M w < 12 → hb (ν.1 149 3) (M w) = true))
      ⟨Fr.refl _ _, fun _ => id, fun _ => id, fun w t a => absurd a (Nat.not_lt_zero _), fun R r1 r2 => ⟨⟨r1, fun w => Or.inl⟩, fun w => Or.inl⟩⟩ (by decide) (fun i hi ν hν => Or.inl ?_) (fun ν hν n' => ?_)
    · obtain ⟨h1, h2, h3, h4, h5⟩ := hν
      have hS2 := hS.fx (h1.mono fun q i z => by unfold FX; omega)
      have ei : (Int32.ofNat i ≥ 12) = False := by rw [lge_12 (by omega)]; exact eq_false (by omega)
      have et := c_taskOf (Ξ := Ξ) pr142 hS2.2.2 hi
      by_cases c : ν.1 145 i &&& ν.1 149 3 = 0
      · have c' := and_zero'.mp c
        refine ⟨ν, ⟨h1, h2, h3, fun w t a b d => ?_, h5⟩, fun n' => ?_⟩
        · by_cases z : w = i
          · subst z
            have := c' t (by rw [hS2.2.1 w hi t]; exact b)
            rw [h3 t d] at this; cases this
          · exact h4 w t (by omega) b d
        · show f_X5_lookBack_L2 f_X5_lookBack_J67 (n' + 1) 149 141 (Int32.ofNat i) ((mX Ξ) ν) = f_X5_lookBack_L2 f_X5_lookBack_J67 n' 149 141 (Int32.ofNat (i + 1)) ((mX Ξ) ν)
          simp only [f_X5_lookBack_L2, f_X5_lookBack_J61, ei, ↓reduceIte, ↓hvc (fun _ => vc_141), ↓hbind (c_rowX hi), ↓hbind gI_149_3, c, lt, i_succ]
      · have c' : ∃ t, E i t = true ∧ hb (ν.1 149 3) t = true := by
          apply Classical.byContradiction
          intro z
          refine c (and_zero'.mpr fun k q => ?_)
          rw [hS2.2.1 i hi k] at q
          cases y : hb (ν.1 149 3) k with
          | false => rfl
          | true => exact absurd ⟨k, q, y⟩ z
        obtain ⟨t0, a1, a2⟩ := c'
        obtain ⟨ν1, hd⟩ : ∃ z, z = st ν 149 2 (ν.1 149 2 ||| ((1 : Int32) <<< (Int32.ofNat i &&& 31))) := ⟨_, rfl⟩
        have b1 : ∀ k, hb (ν1.1 149 2) k = (hb (ν.1 149 2) k || decide (k = i)) := fun k => by rw [hd, st_same, hb_or, hb_bit k (by omega)]
        have e3 : ν1.1 149 3 = ν.1 149 3 := by rw [hd]; exact st_ne (Or.inr (by omega))
        have g1 : Fr (fun q i => q = 149 ∧ (i = 2 ∨ i = 3)) μ ν1 := by rw [hd]; exact h1.st ⟨rfl, Or.inl rfl⟩
        have hp2 : PR ν1 142 M := hS.2.2.fr g1 (fun i => by omega) (fun i => by omega)
        have et := c_taskOf (Ξ := Ξ) pr142 hp2 hi
        have et : f_X3_taskOf 142 (Int32.ofNat i) ((mX Ξ) (st ν 149 2 (ν.1 149 2 ||| ((1 : Int32) <<< (Int32.ofNat i &&& 31))))) = some (eI (M i), (mX Ξ) ν1) := by rw [← hd]; exact et
        by_cases q : M i < 12
        · rw [eI_lt q] at et
          have nz : (Int32.ofNat (M i) = -1) = False := oN_n1 (by omega)
          refine ⟨st ν1 149 3 (ν.1 149 3 ||| ((1 : Int32) <<< (Int32.ofNat (M i) &&& 31))), ⟨g1.st ⟨rfl, Or.inr rfl⟩, fun k z => ?_, fun k z => ?_, fun w t a b d => ?_, fun R r1 r2 => ⟨⟨fun t z => ?_, fun w z => ?_⟩, fun w z => ?_⟩⟩, fun n' => ?_⟩
          · rw [st_ne (Or.inr (by omega)), b1 k, h2 k z]; rfl
          · rw [st_same, hb_or, h3 k z]; rfl
          · rw [st_ne (Or.inr (by omega)), st_same]
            by_cases y : w = i
            · rw [b1 w, y]
              exact ⟨by simp, fun _ => by rw [hb_or, hb_bit _ (by omega)]; simp⟩
            · obtain ⟨z1, z2⟩ := h4 w t (by omega) b d
              exact ⟨by rw [b1 w, z1]; rfl, fun z => by rw [hb_or, z2 z]; rfl⟩
          · rw [st_same, hb_or, hb_bit _ (by omega), Bool.or_eq_true, decide_eq_true_eq] at z
            rcases z with z | z
            · exact (h5 R r1 r2).1.1 t z
            · rw [z]; exact r2 i t0 hi ((h5 R r1 r2).1.1 t0 a2) a1 q
          · rw [st_ne (Or.inr (by omega)), b1 w, Bool.or_eq_true, decide_eq_true_eq] at z
            rcases z with z | z
            · exact (h5 R r1 r2).1.2 w z
            · rw [z]; exact Or.inr ⟨hi, t0, (h5 R r1 r2).1.1 t0 a2, a1⟩
          · rw [st_ne (Or.inr (by omega)), b1 w, Bool.or_eq_true, decide_eq_true_eq] at z
            rw [st_same]
            rcases z with z | z
            · rcases (h5 R r1 r2).2 w z with y | y
              · exact Or.inl y
              · exact Or.inr fun x => by rw [hb_or, y x]; rfl
            · rw [z]; exact Or.inr fun _ => by rw [hb_or, hb_bit _ (by omega)]; simp
          · show f_X5_lookBack_L2 f_X5_lookBack_J67 (n' + 1) 149 141 (Int32.ofNat i) ((mX Ξ) ν) = f_X5_lookBack_L2 f_X5_lookBack_J67 n' 149 141 (Int32.ofNat (i + 1)) _
            simp only [f_X5_lookBack_L2, f_X5_lookBack_J61, ei, ↓reduceIte, ↓hvc (fun _ => vc_141), ↓hbind (c_rowX hi), ↓hbind gI_149_3, c, ↓hbind gI_149_2, ↓hbind c_bit, ↓hbind pI_149_2, ↓hbind gR_141_0, ↓hvc (fun _ => pr_v pr142), ↓hbind et, nz, e3, ↓hbind pI_149_3, lt, i_succ]
        · rw [eI_ge (by omega)] at et
          refine ⟨ν1, ⟨g1, fun k z => ?_, fun k z => ?_, fun w t a b d => ?_, fun R r1 r2 => ⟨⟨fun t z => ?_, fun w z => ?_⟩, fun w z => ?_⟩⟩, fun n' => ?_⟩
          · rw [b1 k, h2 k z]; rfl
          · rw [e3]; exact h3 k z
          · rw [e3]
            by_cases y : w = i
            · rw [b1 w, y]
              exact ⟨by simp, fun z => absurd z q⟩
            · obtain ⟨z1, z2⟩ := h4 w t (by omega) b d
              exact ⟨by rw [b1 w, z1]; rfl, z2⟩
          · rw [e3] at z
            exact (h5 R r1 r2).1.1 t z
          · rw [b1 w, Bool.or_eq_true, decide_eq_true_eq] at z
            rcases z with z | z
            · exact (h5 R r1 r2).1.2 w z
            · rw [z]; exact Or.inr ⟨hi, t0, (h5 R r1 r2).1.1 t0 a2, a1⟩
          · rw [e3]
            rw [b1 w, Bool.or_eq_true, decide_eq_true_eq] at z
            rcases z with z | z
            · exact (h5 R r1 r2).2 w z
            · rw [z]; exact Or.inr fun y => absurd y q
          · show f_X5_lookBack_L2 f_X5_lookBack_J67 (n' + 1) 149 141 (Int32.ofNat i) ((mX Ξ) ν) = f_X5_lookBack_L2 f_X5_lookBack_J67 n' 149 141 (Int32.ofNat (i + 1)) ((mX Ξ) ν1)
            simp only [f_X5_lookBack_L2, f_X5_lookBack_J61, ei, ↓reduceIte, ↓hvc (fun _ => vc_141), ↓hbind (c_rowX hi), ↓hbind gI_149_3, c, ↓hbind gI_149_2, ↓hbind c_bit, ↓hbind pI_149_2, ↓hbind gR_141_0, ↓hvc (fun _ => pr_v pr142), ↓hbind et, n1_n1, lt, i_succ]
    · obtain ⟨h1, h2, h3, h4, h5⟩ := hν
      have ei : (Int32.ofNat 12 ≥ 12) = True := eq_true (by decide)
      show Hw (f_X5_lookBack_L2 f_X5_lookBack_J67 (n' + 1) 149 141 (Int32.ofNat 12) ((mX Ξ) ν)) _
      simp only [f_X5_lookBack_L2, ei, ↓reduceIte, f_X5_lookBack_J67]
      exact hw_ret ⟨ν, rfl, h1, h2, h3, h4, h5⟩
  obtain ⟨r, e, ν, rfl, h⟩ := key
  exact ⟨ν, e, h⟩
end Cre
