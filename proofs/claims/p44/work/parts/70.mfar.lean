/-! THE MODEL: laysFar -/
def sm (f : Nat → Nat) : Nat → Nat
  | 0 => 0
  | n + 1 => sm f n + f n
theorem sm_congr {f g : Nat → Nat} : ∀ {n : Nat}, (∀ k, k < n → f k = g k) → sm f n = sm g n
  | 0, _ => rfl
  | n + 1, h => by
    have ih := sm_congr (f := f) (g := g) (n := n) (fun k hk => h k (by omega))
    simp only [sm, ih, h n (by omega)]
theorem sm_up {f : Nat → Nat} {w a : Nat} : ∀ {n : Nat}, w < n → sm (up f w a) n + f w = sm f n + a
  | 0, h => absurd h (Nat.not_lt_zero _)
  | n + 1, h => by
    by_cases z : w = n
    · subst z
      have : sm (up f w a) w = sm f w := sm_congr fun k hk => up_ne (by omega)
      simp only [sm, this, up_same]
      omega
    · have ih := sm_up (f := f) (a := a) (n := n) (w := w) (by omega)
      simp only [sm, up_ne (Ne.symm z)]
      omega
theorem sm_le {f : Nat → Nat} {b : Nat} : ∀ {n : Nat}, (∀ k, k < n → f k ≤ b) → sm f n ≤ b * n
  | 0, _ => Nat.zero_le _
  | n + 1, h => by
    have ih := sm_le (f := f) (b := b) (n := n) (fun k hk => h k (by omega))
    have := h n (by omega)
    simp only [sm, Nat.mul_succ]
    omega
/-- the labels: K w fits (0: none) -/
def fK (k : Nat) : Nat := if k = 0 then 1000000 else 2 * k - 1
def gK (k : Nat) : Nat := if k = 0 then 1000002 else 2 * k - 1
noncomputable def nx (M K : Nat → Nat) (t : Nat) : Nat := if ow M t = 12 then 1 else if K (ow M t) = 0 then 0 else K (ow M t) + 1
def bet (a b : Nat) : Prop := a ≠ 0 ∧ (b = 0 ∨ a < b)
def mK (K : Nat → Nat) : Nat := sm (fun w => if K w = 0 then 13 else K w) 12
def KJ (E : Nat → Nat → Bool) (M K : Nat → Nat) : Prop := (∀ w, w < 12 → K w ≠ 0 → rch E M (K w) w) ∧ ∀ w, w < 12 → K w ≤ cnt (fun v => decide (K v ≠ 0)) 12
/-- exact labels -/
def Kx (E : Nat → Nat → Bool) (M K : Nat → Nat) : Prop := ∀ w, w < 12 → (K w = 0 → Nr E M w) ∧ (K w ≠ 0 → rch E M (K w) w ∧ ¬ rch E M (K w - 1) w)
theorem nx_1 {M K : Nat → Nat} {t : Nat} (c : ow M t = 12) : nx M K t = 1 := if_pos c
theorem nx_0 {M K : Nat → Nat} {t : Nat} (c : ow M t ≠ 12) (d : K (ow M t) = 0) : nx M K t = 0 := (if_neg c).trans (if_pos d)
theorem nx_s {M K : Nat → Nat} {t : Nat} (c : ow M t ≠ 12) (d : K (ow M t) ≠ 0) : nx M K t = K (ow M t) + 1 := (if_neg c).trans (if_neg d)
theorem fK_0 : fK 0 = 1000000 := if_pos rfl
theorem fK_s {k : Nat} (h : k ≠ 0) : fK k = 2 * k - 1 := if_neg h
theorem gK_0 : gK 0 = 1000002 := if_pos rfl
theorem gK_s {k : Nat} (h : k ≠ 0) : gK k = 2 * k - 1 := if_neg h
theorem fK_nx {M K : Nat → Nat} {t : Nat} (c : ow M t ≠ 12) : fK (K (ow M t)) + 2 = gK (nx M K t) := by
  by_cases d : K (ow M t) = 0
  · rw [nx_0 c d, d, fK_0, gK_0]
  · rw [nx_s c d, fK_s d, gK_s (by omega)]
    omega
section Fr'
variable {E : Nat → Nat → Bool} {M K : Nat → Nat}
theorem KJ.le (h : KJ E M K) {w : Nat} (hw : w < 12) : K w ≤ 12 := Nat.le_trans (h.2 w hw) (cnt_le _ _)
theorem bet_iff {a b : Nat} (ha : a ≤ 13) (hb : b ≤ 13) : gK a < fK b ↔ bet a b := by
  unfold gK fK bet
  by_cases h1 : a = 0
  · rw [if_pos h1]
    by_cases h2 : b = 0
    · rw [if_pos h2]; omega
    · rw [if_neg h2]; omega
  · rw [if_neg h1]
    by_cases h2 : b = 0
    · rw [if_pos h2]; omega
    · rw [if_neg h2]; omega
theorem nx_le (h : KJ E M K) (t : Nat) : nx M K t ≤ 13 := by
  have := ow_le M t
  by_cases c : ow M t = 12
  · rw [nx_1 c]; omega
  · by_cases d : K (ow M t) = 0
    · rw [nx_0 c d]; omega
    · rw [nx_s c d]
      have := h.le (w := ow M t) (by omega)
      omega
theorem nx_rch (h : KJ E M K) {w t a : Nat} (hb : Eb E) (he : E w t = true) (hm : M w ≠ t) (ha : a = nx M K t) (hn : a ≠ 0) : rch E M a w := by
  have hol := ow_le M t
  have ht := (hb w t he).2
  by_cases c : ow M t = 12
  · have : a = 0 + 1 := by rw [ha, nx_1 c]
    subst this
    exact ⟨t, ht, he, hm, Or.inl c⟩
  · by_cases d : K (ow M t) = 0
    · exact absurd (ha.trans (nx_0 c d)) hn
    · have hr := h.1 (ow M t) (by omega) d
      have e : a = K (ow M t) + 1 := ha.trans (nx_s c d)
      obtain ⟨b, hb2⟩ : ∃ b, b = K (ow M t) := ⟨_, rfl⟩
      rw [← hb2] at hr e
      subst e
      exact ⟨t, ht, he, hm, Or.inr hr⟩
theorem KJ.better (h : KJ E M K) {w t a : Nat} (hb : Eb E) (he : E w t = true) (hm : M w ≠ t) (ha : a = nx M K t) (hbt : bet a (K w)) : KJ E M (up K w a) ∧ mK (up K w a) < mK K := by
  have hw := (hb w t he).1
  have hr := nx_rch h hb he hm ha hbt.1
  have nle : a ≤ cnt (fun v => decide (K v ≠ 0)) 12 + 1 := by
    have hol := ow_le M t
    by_cases c : ow M t = 12
    · rw [ha, nx_1 c]; omega
    · by_cases d : K (ow M t) = 0
      · rw [ha, nx_0 c d]; omega
      · rw [ha, nx_s c d]
        have := h.2 (ow M t) (by omega)
        omega
  clear ha
  have sub : ∀ v, v < 12 → decide (K v ≠ 0) = true → decide (up K w a v ≠ 0) = true := fun v hv q => by
    simp only [decide_eq_true_eq] at q ⊢
    by_cases z : v = w
    · rw [z, up_same]; exact hbt.1
    · rw [up_ne z]; exact q
  have cge : cnt (fun v => decide (K v ≠ 0)) 12 ≤ cnt (fun v => decide (up K w a v ≠ 0)) 12 := cnt_mono sub
  refine ⟨⟨fun v hv q => ?_, fun v hv => ?_⟩, ?_⟩
  · by_cases z : v = w
    · rw [z, up_same]; exact hr
    · rw [up_ne z] at q ⊢; exact h.1 v hv q
  · by_cases z : v = w
    · rw [z, up_same]
      by_cases k0 : K w = 0
      · have : cnt (fun v => decide (K v ≠ 0)) 12 < cnt (fun v => decide (up K w a v ≠ 0)) 12 := cnt_lt (j := w) sub hw (by simp [k0]) (by simp [up_same, hbt.1])
        omega
      · have := h.2 w hw
        rcases hbt.2 with y | y <;> omega
    · rw [up_ne z]
      have := h.2 v hv
      omega
  · unfold mK
    have e : sm (fun v => if up K w a v = 0 then 13 else up K w a v) 12 = sm (up (fun v => if K v = 0 then 13 else K v) w a) 12 := sm_congr fun v _ => by
      by_cases z : v = w
      · rw [z, up_same, up_same, if_neg hbt.1]
      · rw [up_ne z, up_ne z]
    rw [e]
    have hs := sm_up (f := fun v => if K v = 0 then 13 else K v) (a := a) (n := 12) hw
    have hk := h.le hw
    have hlt : a < (if K w = 0 then 13 else K w) := by
      by_cases k0 : K w = 0
      · rw [if_pos k0]
        have : cnt (fun v => decide (K v ≠ 0)) 12 < cnt (fun _ => true) 12 := cnt_lt (j := w) (fun _ _ _ => rfl) hw (by simp [k0]) rfl
        rw [cnt_true] at this
        omega
      · rw [if_neg k0]; rcases hbt.2 with y | y <;> omega
    have hs' : sm (up (fun v => if K v = 0 then 13 else K v) w a) 12 + (if K w = 0 then 13 else K w) = sm (fun v => if K v = 0 then 13 else K v) 12 + a := hs
    omega
theorem Kx.of (h : KJ E M K) (hb : Eb E) (hf : ∀ w t, E w t = true → M w ≠ t → ¬ bet (nx M K t) (K w)) : Kx E M K := by
  have key : ∀ j w, rch E M j w → K w ≠ 0 ∧ K w ≤ j := by
    intro j
    induction j with
    | zero => intro w q; exact q.elim
    | succ j ih =>
      intro w ⟨t, t1, t2, t3, t4⟩
      have nb := hf w t t2 t3
      have hol := ow_le M t
      by_cases c : ow M t = 12
      · rw [nx_1 c] at nb
        unfold bet at nb
        omega
      · rcases t4 with t4 | t4
        · exact absurd t4 c
        · obtain ⟨a, b⟩ := ih _ t4
          rw [nx_s c a] at nb
          unfold bet at nb
          omega
  refine fun w hw => ⟨fun k0 j q => (key j w q).1 k0, fun k0 => ⟨h.1 w hw k0, fun q => ?_⟩⟩
  have := (key _ w q).2
  omega
end Fr'
def Fl (q _i : Nat) : Prop := q = 482
section Lf
variable {μ : MM} {n m : Nat} {Wt Tt : Int32} {E : Nat → Nat → Bool} {M : Nat → Nat}
/-- the labels in a sweep: b whether any was bettered -/
def SI (μ ν : MM) (E : Nat → Nat → Bool) (M K : Nat → Nat) (m0 : Nat) (b : Bool) (w t : Nat) : Prop :=
  Fr Fl μ ν ∧ (∀ v, v < 12 → ν.1 482 v = Int32.ofNat (fK (K v))) ∧ KJ E M K ∧ mK K ≤ m0 ∧ (b = true → mK K < m0) ∧ (b = false → ∀ v s, (v < w ∨ (v = w ∧ s < t)) → E v s = true → M v ≠ s → ¬ bet (nx M K s) (K v))
theorem fK_lt (k : Nat) (h : k ≤ 13) : fK k < 2147483648 := by unfold fK; split <;> omega
theorem gK_lt (k : Nat) (h : k ≤ 13) : gK k < 2147483648 := by unfold gK; split <;> omega
end Lf
