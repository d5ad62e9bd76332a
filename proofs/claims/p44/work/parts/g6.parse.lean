/-! MATHEMATICS: what a told text is read as -/
def RdB (y : Nat → Nat) (p : Nat) (l : List Nat) : Prop := ∀ k, k < l.length → y (p + k) = l.getD k 0
theorem RdB.app {y : Nat → Nat} {p : Nat} {l r : List Nat} (h : RdB y p (l ++ r)) : RdB y p l ∧ RdB y (p + l.length) r := by
  refine ⟨fun k hk => ?_, fun k hk => ?_⟩
  · rw [h k (by rw [List.length_append]; omega)]
    simp only [List.getD_eq_getElem?_getD]
    rw [List.getElem?_append_left hk]
  · have := h (l.length + k) (by rw [List.length_append]; omega)
    rw [← Nat.add_assoc] at this
    rw [this]
    simp only [List.getD_eq_getElem?_getD]
    rw [List.getElem?_append_right (by omega), show l.length + k - l.length = k by omega]
theorem RdB.hd {y : Nat → Nat} {p a : Nat} {l : List Nat} (h : RdB y p (a :: l)) : y p = a ∧ RdB y (p + 1) l := by
  refine ⟨h 0 (by simp), fun k hk => ?_⟩
  have := h (k + 1) (by simp; omega)
  rw [show p + 1 + k = p + (k + 1) by omega, this]
  simp
theorem rnE_run {P : Nat → Bool} : ∀ (j d p : Nat), j ≤ d → (∀ i, i < j → P (p + i) = true) → P (p + j) = false → rnE P d p = p + j
  | 0, d, p, _, _, h => rnE_0 (show P p = false from h)
  | j + 1, d, p, hd, h1, h2 => by
    obtain ⟨d, rfl⟩ : ∃ e, d = e + 1 := ⟨d - 1, by omega⟩
    rw [rnE_s (by have := h1 0 (by omega); exact this), rnE_run j d (p + 1) (by omega) (fun i hi => by have := h1 (i + 1) (by omega); rw [show p + 1 + i = p + (i + 1) by omega]; exact this) (by rw [show p + 1 + j = p + (j + 1) by omega]; exact h2)]
    omega
section G6
variable {n p : Nat} {y : Nat → Nat}
theorem skp0 (h : y p ≠ 32) : skp n y p = p := rnE_0 (by unfold blY; exact decide_eq_false h)
theorem skp1 (hp : p < n) (h0 : y p = 32) (h : y (p + 1) ≠ 32) : skp n y p = p + 1 := by
  refine rnE_run 1 (n - p) p (by omega) (fun i hi => ?_) (by unfold blY; exact decide_eq_false h)
  rw [show i = 0 by omega]
  unfold blY; exact decide_eq_true h0
theorem dgs_len {v : Nat} : (dgs v).length = 1 ∨ (dgs v).length = 2 := by
  unfold dgs
  split
  · exact Or.inl rfl
  · exact Or.inr rfl
theorem dgs_pos {v : Nat} : 0 < (dgs v).length := by rcases dgs_len (v := v) with h | h <;> omega
theorem dgs_dig {v : Nat} (hv : v < 100) : ∀ k, k < (dgs v).length → 48 ≤ (dgs v).getD k 0 ∧ (dgs v).getD k 0 ≤ 57 := by
  have : ∀ v, v < 100 → ∀ k, k < (dgs v).length → 48 ≤ (dgs v).getD k 0 ∧ (dgs v).getD k 0 ≤ 57 := by decide +kernel
  exact this v hv
/-- a number read -/
theorem num_at {s v lo hi : Nat} (hs : skp n y p = s) (hv : v < 100) (h : RdB y s (dgs v)) (e : ¬ (48 ≤ y (s + (dgs v).length) ∧ y (s + (dgs v).length) ≤ 57)) (hn : s + (dgs v).length < n) (h1 : lo ≤ v) (h2 : v ≤ hi) : num n y p lo hi = .inr (v, s, s + (dgs v).length) := by
  have d0 := dgs_pos (v := v)
  have ed : dge n y s = s + (dgs v).length := by
    refine rnE_run _ (n - s) s (by omega) (fun i hi => ?_) ?_
    · unfold dgY
      have := dgs_dig hv i hi
      rw [h i hi, decide_eq_true this.1, decide_eq_true this.2]; rfl
    · unfold dgY
      by_cases z : 48 ≤ y (s + (dgs v).length)
      · rw [decide_eq_false (fun x => e ⟨z, x⟩), Bool.and_false]
      · rw [decide_eq_false z, Bool.false_and]
  have ev : vlY y (s + (dgs v).length - s) s 0 = v := by
    rw [show s + (dgs v).length - s = (dgs v).length by omega]
    have key : ∀ l, l = dgs v → RdB y s l → vlY y l.length s 0 = v := by
      intro l hl hr
      unfold dgs at hl
      by_cases c : v < 10
      · rw [if_pos c] at hl
        subst hl
        have := hr.hd.1
        show 10 * 0 + (y s - 48) = v
        rw [this]; omega
      · rw [if_neg c] at hl
        subst hl
        have a := hr.hd.1
        have b := hr.hd.2.hd.1
        show 10 * (10 * 0 + (y s - 48)) + (y (s + 1) - 48) = v
        rw [a, b]; omega
    exact key _ rfl h
  unfold num
  rw [hs, ed, if_neg (by omega), ev, if_pos ⟨h1, h2⟩]
/-- a number behind a blank -/
theorem num_bl {v lo hi : Nat} {r : List Nat} {b : Nat} (hv : v < 100) (h : RdB y p (32 :: (dgs v ++ b :: r))) (hb' : ¬ (48 ≤ b ∧ b ≤ 57)) (hn : p + 1 + (dgs v).length < n) (h1 : lo ≤ v) (h2 : v ≤ hi) : num n y p lo hi = .inr (v, p + 1, p + 1 + (dgs v).length) := by
  obtain ⟨a1, a2⟩ := h.hd
  obtain ⟨a3, a4⟩ := a2.app
  have d0 := dgs_pos (v := v)
  have f0 : y (p + 1) ≠ 32 := by
    have := dgs_dig hv 0 d0
    have e := a3 0 d0
    rw [Nat.add_zero] at e
    rw [e]; omega
  exact num_at (skp1 (by omega) a1 f0) hv a3 (by rw [a4.hd.1]; exact hb') hn h1 h2
theorem num_di {v lo hi : Nat} {r : List Nat} {b : Nat} (hv : v < 100) (h : RdB y p (dgs v ++ b :: r)) (hb' : ¬ (48 ≤ b ∧ b ≤ 57)) (hn : p + (dgs v).length < n) (h1 : lo ≤ v) (h2 : v ≤ hi) : num n y p lo hi = .inr (v, p, p + (dgs v).length) := by
  obtain ⟨a3, a4⟩ := h.app
  have d0 := dgs_pos (v := v)
  have f0 : y p ≠ 32 := by
    have := dgs_dig hv 0 d0
    have e := a3 0 d0
    rw [Nat.add_zero] at e
    rw [e]; omega
  exact num_at (skp0 f0) hv a3 (by rw [a4.hd.1]; exact hb') hn h1 h2
/-- a word read -/
theorem sme_at {W r : List Nat} {b : Nat} (hW : ∀ k, k < W.length → 97 ≤ W.getD k 0 ∧ W.getD k 0 ≤ 122) (h : RdB y p (W ++ b :: r)) (hb' : b < 97) (hn : p + W.length < n) : sme n y p = p + W.length := by
  obtain ⟨a1, a2⟩ := h.app
  refine rnE_run _ (n - p) p (by omega) (fun i hi => ?_) ?_
  · unfold smY
    have := hW i hi
    rw [a1 i hi, decide_eq_true this.1, decide_eq_true this.2]; rfl
  · unfold smY
    rw [a2.hd.1, decide_eq_false (by omega), Bool.false_and]
theorem isW_eq {W V : List Nat} (h : RdB y p W) : isW y p (p + W.length) V = decide (W = V) := by
  rw [Bool.eq_iff_iff, isW_t, decide_eq_true_eq]
  constructor
  · rintro ⟨e, g⟩
    have el : W.length = V.length := by omega
    refine List.ext_getElem el fun k h1 h2 => ?_
    have a := h k h1
    have b := g k h2
    rw [a] at b
    simpa [List.getD_eq_getElem?_getD, List.getElem?_eq_getElem h1, List.getElem?_eq_getElem h2] using b
  · rintro rfl
    exact ⟨rfl, h⟩
theorem wd_ok : ∀ j, j < 9 → ∀ k, k < (wdW j).length → 97 ≤ (wdW j).getD k 0 ∧ (wdW j).getD k 0 ≤ 122 := by
  intro j hj
  match j, hj with
  | 0, _ => decide
  | 1, _ => decide
  | 2, _ => decide
  | 3, _ => decide
  | 4, _ => decide
  | 5, _ => decide
  | 6, _ => decide
  | 7, _ => decide
  | 8, _ => decide
  | k + 9, h => omega
theorem end_at {B : Bk} {kr : Bool} (h : y p = 59) (hn : p < n) : lnEnd n y (.ok p B kr) = .ok (p + 1) B kr := by
  have e := skp0 (n := n) (y := y) (p := p) (by omega)
  show (if skp n y p < n ∧ y (skp n y p) = 59 then Rs.ok (skp n y p + 1) B kr else .er 1 (skp n y p)) = _
  rw [e, if_pos ⟨hn, h⟩]
end G6
