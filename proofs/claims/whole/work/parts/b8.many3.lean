/-! THE MODEL: many, a worker; all workers -/
section Mw
variable {μ : MM} {B : Bk} {W : Nat → Int64}
theorem fo64_m (hB : BOK B) {i S : Nat} {b : Int64} : fo64 (wf (gE B) W i S) 12 b = fo64 (wf (gE B) W i S) (bm B) b := by
  have hm := hB.m
  have key : ∀ d, bm B + d ≤ 12 → fo64 (wf (gE B) W i S) (bm B + d) b = fo64 (wf (gE B) W i S) (bm B) b := by
    intro d
    induction d with
    | zero => intro _; rfl
    | succ d ih =>
      intro h
      show wf (gE B) W i S (bm B + d) (fo64 (wf (gE B) W i S) (bm B + d) b) = _
      rw [ih (by omega)]
      exact if_neg fun z => by have := (hB.SOK.2.2.1 i _ z.2).2.1; omega
  have := key (12 - bm B) (by omega)
  rw [show bm B + (12 - bm B) = 12 by omega] at this
  exact this
theorem m_my_s (hB : BOK B) {i : Nat} (hi : i < 12) (hiW : hb (bw B) i = true) : ∀ (d s : Nat) (ν : MM), s + d = 2 ^ bm B → MR ν 0 B → (∀ T, T < 2 ^ bm B → ν.2 502 T = W T) → (∀ T, T < s → ν.2 503 T = fo64 (wf (gE B) W i T) 12 (W T)) → ∃ ξ, (∀ f K x2, f_X10_many_L78 K (d + 1 + f) 168 (Int32.ofNat (2 ^ bm B)) x2 (Int32.ofNat i) (Int32.ofNat s) (mem ν) = K 168 (Int32.ofNat (2 ^ bm B)) x2 (Int32.ofNat i) (mem ξ)) ∧ Fr (fun q _ => q = 503) ν ξ ∧ ∀ T, T < 2 ^ bm B → ξ.2 503 T = fo64 (wf (gE B) W i T) 12 (W T)
  | 0, s, ν, h, hm, h2, h3 => by
    have hb12 := hB.m
    have full12 : 2 ^ bm B ≤ 4096 := Nat.pow_le_pow_right (n := 2) (by decide) (show bm B ≤ 12 by omega)
    have c : (Int32.ofNat s ≥ Int32.ofNat (2 ^ bm B)) = True := by rw [oN_ge (by omega) (by omega)]; exact eq_true (by omega)
    refine ⟨ν, fun f K x2 => ?_, Fr.refl _ _, fun T hT => h3 T (by omega)⟩
    rw [show 0 + 1 + f = f + 1 by omega]
    simp only [f_X10_many_L78, c, ↓reduceIte]
  | d + 1, s, ν, h, hm, h2, h3 => by
    have hb12 := hB.m
    have full12 : 2 ^ bm B ≤ 4096 := Nat.pow_le_pow_right (n := 2) (by decide) (show bm B ≤ 12 by omega)
    have c : (Int32.ofNat s ≥ Int32.ofNat (2 ^ bm B)) = False := by rw [oN_ge (by omega) (by omega)]; exact eq_false (by omega)
    have hs : s < 2 ^ bm B := by omega
    have s4 : s < 4096 := by omega
    have ev := h2 s hs
    obtain ⟨ν1, hd⟩ : ∃ x, x = sj ν 503 s (W s) := ⟨_, rfl⟩
    have f1 : Fr (fun q k => q = 503 ∧ k = s) ν ν1 := by rw [hd]; exact (Fr.refl _ _).sj ⟨rfl, rfl⟩
    obtain ⟨ζ, e1, f2, r1⟩ := m_my_t (W := W) hB hi hiW hs (bm B) 0 ν1 (by omega) (hm.fr f1 fun q i a z => by unfold FR at a; omega) (fun T hT => by rw [(f1 _ _ (by omega)).2]; exact h2 T hT) (by rw [hd, sj_same]; rfl)
    have f12 := f1.trans f2
    have e1 : ∀ K x1 x2, f_X10_many_L101 K 5000 168 x1 x2 (Int32.ofNat i) (Int32.ofNat s) 0 (mem ν1) = K 168 x1 x2 (Int32.ofNat i) (Int32.ofNat s) (mem ζ) := fun K x1 x2 => by
      have h := e1 (5000 - (bm B + 1)) K x1 x2
      have ef : bm B + 1 + (5000 - (bm B + 1)) = 5000 := by omega
      rw [ef] at h
      exact h
    obtain ⟨ξ, a, b, g⟩ := m_my_s hB hi hiW d (s + 1) ζ (by omega) (hm.fr f12 fun q i a z => by unfold FR at a; omega) (fun T hT => by rw [(f12 _ _ (by omega)).2]; exact h2 T hT) (fun T hT => by
      by_cases z : T = s
      · rw [z, r1, fo64_m hB]
      · rw [(f12 _ _ (by omega)).2]; exact h3 T (by omega))
    refine ⟨ξ, fun f K x2 => ?_, (f12.mono fun q i z => z.1).trans b, g⟩
    rw [show d + 1 + 1 + f = d + 1 + f + 1 by omega, ← a f K x2]
    rw [hd] at e1
    simp only [f_X10_many_L78, c, ↓reduceIte, ↓hbind gR_168_36, ↓hbind gR_168_35, ↓hbind (aJ_502 s4), ev, ↓hbind (sJ_503 s4), e1, f_X10_many_J170, lt_go, i_succ]
end Mw
