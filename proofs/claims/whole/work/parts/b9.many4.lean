/-! THE MODEL: many, all workers -/
section Mv
variable {μ : MM} {B : Bk}
theorem WyI_no {E : Nat → Nat → Bool} {i S : Nat} (h : ∀ j, E i j = false) : WyI E (i + 1) S = WyI E i S := by
  show fo64 (wf E (WyI E i) i S) 12 (WyI E i S) = _
  have : ∀ k, fo64 (wf E (WyI E i) i S) k (WyI E i S) = WyI E i S := by
    intro k
    induction k with
    | zero => rfl
    | succ k ih =>
      show wf E (WyI E i) i S k (fo64 (wf E (WyI E i) i S) k (WyI E i S)) = _
      rw [ih]
      exact if_neg fun z => by rw [h k] at z; exact absurd z.2 (by simp)
  exact this 12
theorem m_my_w (hB : BOK B) : ∀ (d i : Nat) (ν : MM), i + d = bn B → MR ν 0 B → (∀ T, T < 2 ^ bm B → ν.2 502 T = WyI (gE B) i T) → ∃ ξ, (∀ f K x2, f_X10_many_L51 K (d + 1 + f) 168 (Int32.ofNat (2 ^ bm B)) x2 (Int32.ofNat i) (mem ν) = K 168 (Int32.ofNat (2 ^ bm B)) x2 (mem ξ)) ∧ Fr FMy ν ξ ∧ ∀ T, T < 2 ^ bm B → ξ.2 502 T = WyI (gE B) (bn B) T
  | 0, i, ν, h, hm, h2 => by
    have hn := hB.n
    have e0 : ν.1 172 0 = Int32.ofNat (bn B) := hm.1.1
    have c : (Int32.ofNat i ≥ Int32.ofNat (bn B)) = True := by rw [oN_ge (by omega) (by omega)]; exact eq_true (by omega)
    refine ⟨ν, fun f K x2 => ?_, Fr.refl _ _, by rw [show bn B = i by omega]; exact h2⟩
    rw [show 0 + 1 + f = f + 1 by omega]
    simp only [f_X10_many_L51, ↓hbind gR_168_9, ↓hbind mr_h0, ↓hbind mh_a0_0, e0, c, ↓reduceIte]
  | d + 1, i, ν, h, hm, h2 => by
    have hn := hB.n
    have hb12 := hB.m
    have full12 : 2 ^ bm B ≤ 4096 := Nat.pow_le_pow_right (n := 2) (by decide) (show bm B ≤ 12 by omega)
    have e0 : ν.1 172 0 = Int32.ofNat (bn B) := hm.1.1
    have c : (Int32.ofNat i ≥ Int32.ofNat (bn B)) = False := by rw [oN_ge (by omega) (by omega)]; exact eq_false (by omega)
    have hi : i < 12 := by omega
    have ew := m_isThere0 (μ := ν) (show i < 32 by omega)
    rw [show ν.1 172 3 = bw B from hm.1.2.2.2.1] at ew
    cases q : hb (bw B) i with
    | false =>
      rw [q] at ew
      obtain ⟨ξ, a, b, g⟩ := m_my_w hB d (i + 1) ν (by omega) hm (fun T hT => by
        rw [h2 T hT, WyI_no fun j => by
          cases z : gE B i j with
          | false => rfl
          | true => have := gE_W _ _ z; rw [q] at this; cases this])
      refine ⟨ξ, fun f K x2 => ?_, b, g⟩
      rw [show d + 1 + 1 + f = d + 1 + f + 1 by omega, ← a f K x2]
      simp only [f_X10_many_L51, ↓hbind gR_168_9, ↓hbind mr_h0, ↓hbind mh_a0_0, e0, c, ↓reduceIte, ↓hvc (fun _ => vc_168), ↓hbind ew, show bI false = 0 from rfl, f_X10_many_J205, lt_go, i_succ]
    | true =>
      rw [q] at ew
      obtain ⟨ζ, e1, f1, r1⟩ := m_my_s (W := WyI (gE B) i) hB hi q (2 ^ bm B) 0 ν (by omega) hm h2 (fun T hT => absurd hT (Nat.not_lt_zero _))
      obtain ⟨η, e2, f2, r2⟩ := m_my_copy (F := WyI (gE B) (i + 1)) full12 (2 ^ bm B) 0 ζ (by omega) r1 (fun S hS => absurd hS (Nat.not_lt_zero _))
      have fm : Fr FMy ν η := (f1.mono fun q i z => Or.inr z).trans (f2.mono fun q i z => Or.inl z)
      have ef : 2 ^ bm B + 1 + (5000 - (2 ^ bm B + 1)) = 5000 := by omega
      have e1 : ∀ K x2, f_X10_many_L78 K 5000 168 (Int32.ofNat (2 ^ bm B)) x2 (Int32.ofNat i) 0 (mem ν) = K 168 (Int32.ofNat (2 ^ bm B)) x2 (Int32.ofNat i) (mem ζ) := fun K x2 => by
        have h := e1 (5000 - (2 ^ bm B + 1)) K x2
        rw [ef] at h
        exact h
      have e2 : ∀ K x2 x3, f_X10_many_L179 K 5000 168 (Int32.ofNat (2 ^ bm B)) x2 x3 0 (mem ζ) = K 168 (Int32.ofNat (2 ^ bm B)) x2 x3 (mem η) := fun K x2 x3 => by
        have h := e2 (5000 - (2 ^ bm B + 1)) K x2 x3
        rw [ef] at h
        exact h
      obtain ⟨ξ, a, b, g⟩ := m_my_w hB d (i + 1) η (by omega) (hm.my fm) r2
      refine ⟨ξ, fun f K x2 => ?_, fm.trans b, g⟩
      rw [show d + 1 + 1 + f = d + 1 + f + 1 by omega, ← a f K x2]
      simp only [f_X10_many_L51, ↓hbind gR_168_9, ↓hbind mr_h0, ↓hbind mh_a0_0, e0, c, ↓reduceIte, ↓hvc (fun _ => vc_168), ↓hbind ew, show bI true = 1 from rfl, z_1, e1, f_X10_many_J176, e2, f_X10_many_J205, lt_go, i_succ]
end Mv
