/-! THE MODEL: layers -/
def LyM (μ : MM) (lw lr : LA) : Prop := (∀ w, w < 12 → μ.1 484 w = lw w) ∧ ∀ t, t < 12 → μ.1 485 t = lr t
/-- reached in a round, as far as worker i and task j -/
def CLm (E : Nat → Nat → Bool) (lw lr : LA) (k i j t : Nat) : Prop := lr t = -1 ∧ t < 12 ∧ ∃ w, (w < i ∨ (w = i ∧ t < j)) ∧ lw w = Int32.ofNat (2 * k) ∧ E w t = true
def TIm (E : Nat → Nat → Bool) (M : Nat → Nat) (lw lr : LA) (k : Nat) (ν : MM) (x : Int32) (i j : Nat) : Prop :=
  (∀ t, t < 12 → (CLm E lw lr k i j t → ν.1 485 t = Int32.ofNat (2 * k + 1)) ∧ (¬ CLm E lw lr k i j t → ν.1 485 t = lr t)) ∧ ((x = 1 ∧ ∃ t, CLm E lw lr k i j t ∧ ow M t = 12) ∨ (x = 0 ∧ ∀ t, CLm E lw lr k i j t → ow M t ≠ 12))
section Ml
variable {μ : MM} {n m : Nat} {Wt Tt : Int32} {E : Nat → Nat → Bool} {M : Nat → Nat} {lw lr : LA} {k : Nat}
theorem TIm.eqv {ν : MM} {x : Int32} {i j i' j' : Nat} (h : TIm E M lw lr k ν x i j) (e : ∀ t, CLm E lw lr k i' j' t ↔ CLm E lw lr k i j t) : TIm E M lw lr k ν x i' j' :=
  ⟨fun t ht => ⟨fun z => (h.1 t ht).1 ((e t).mp z), fun z => (h.1 t ht).2 (fun y => z ((e t).mpr y))⟩, h.2.imp (fun ⟨a, t, b, c⟩ => ⟨a, t, (e t).mpr b, c⟩) (fun ⟨a, b⟩ => ⟨a, fun t z => b t ((e t).mp z)⟩)⟩
theorem MS.ll {ν : MM} {P : Nat → Nat → Prop} (h : MS μ n m Wt Tt E M) (f : Fr P μ ν) (hp : ∀ q i, q = 172 ∨ q = 191 ∨ q = 210 → ¬ P q i) : MS ν n m Wt Tt E M := h.fr f (fun i => hp _ _ (by omega)) (fun i => hp _ _ (by omega)) (fun i => hp _ _ (by omega))
theorem m_ll_t (hE : Eb E) (h12 : m ≤ 12) (hk : k ≤ 100) {i : Nat} (hi : i < 12) (hiW : hb Wt i = true) (hl : lw i = Int32.ofNat (2 * k)) (own : M i < 12 → lr (M i) ≠ -1) : ∀ (d j : Nat) (ν : MM) (x : Int32), j + d = m → MS ν n m Wt Tt E M → TIm E M lw lr k ν x i j →
    ∃ ξ x', (∀ f K, f_X10_laysLayers_L104 K (d + 1 + f) 168 (Int32.ofNat (2 * k)) x (Int32.ofNat i) (Int32.ofNat j) (mem ν) = K 168 (Int32.ofNat (2 * k)) x' (Int32.ofNat i) (mem ξ)) ∧ Fr (fun q _ => q = 485) ν ξ ∧ TIm E M lw lr k ξ x' i m
  | 0, j, ν, x, h, hS, ht => by
    have e1 : ν.1 172 1 = Int32.ofNat m := hS.1.2.1
    have c : (Int32.ofNat j ≥ Int32.ofNat m) = True := by rw [oN_ge (by omega) (by omega)]; exact eq_true (by omega)
    refine ⟨ν, x, fun f K => ?_, Fr.refl _ _, by rw [show m = j by omega]; exact ht⟩
    rw [show 0 + 1 + f = f + 1 by omega]
    simp only [f_X10_laysLayers_L104, ↓hbind gR_168_9, ↓hbind mr_h0, ↓hbind mh_a0_1, e1, c, ↓reduceIte]
  | d + 1, j, ν, x, h, hS, ht => by
    have e1 : ν.1 172 1 = Int32.ofNat m := hS.1.2.1
    have c : (Int32.ofNat j ≥ Int32.ofNat m) = False := by rw [oN_ge (by omega) (by omega)]; exact eq_false (by omega)
    have hj : j < 12 := by omega
    obtain ⟨y, ey, hy⟩ := m_openTo hE hS hi hiW
    have eh := m_has (x := y) (h := mem ν) (show j < 32 by omega)
    rw [hy j (by omega)] at eh
    -- as before
    have same : (∀ t, CLm E lw lr k i (j + 1) t ↔ CLm E lw lr k i j t) → (∀ f K, f_X10_laysLayers_L104 K (d + 1 + 1 + f) 168 (Int32.ofNat (2 * k)) x (Int32.ofNat i) (Int32.ofNat j) (mem ν) = f_X10_laysLayers_L104 K (d + 1 + f) 168 (Int32.ofNat (2 * k)) x (Int32.ofNat i) (Int32.ofNat (j + 1)) (mem ν)) → ∃ ξ x', (∀ f K, f_X10_laysLayers_L104 K (d + 1 + 1 + f) 168 (Int32.ofNat (2 * k)) x (Int32.ofNat i) (Int32.ofNat j) (mem ν) = K 168 (Int32.ofNat (2 * k)) x' (Int32.ofNat i) (mem ξ)) ∧ Fr (fun q _ => q = 485) ν ξ ∧ TIm E M lw lr k ξ x' i m := fun e g => by
      obtain ⟨ξ, x', a, b, c⟩ := m_ll_t hE h12 hk hi hiW hl own d (j + 1) ν x (by omega) hS (ht.eqv e)
      exact ⟨ξ, x', fun f K => by rw [g, a], b, c⟩
    have up : ∀ t, CLm E lw lr k i (j + 1) t ↔ (CLm E lw lr k i j t ∨ (t = j ∧ lr j = -1 ∧ E i j = true)) := fun t => by
      constructor
      · rintro ⟨a, b, w, q, e, f⟩
        by_cases z : w < i ∨ (w = i ∧ t < j)
        · exact Or.inl ⟨a, b, w, z, e, f⟩
        · have w1 : w = i := by omega
          have t1 : t = j := by omega
          subst w1; subst t1
          exact Or.inr ⟨rfl, a, f⟩
      · rintro (⟨a, b, w, q, e, f⟩ | ⟨rfl, a, f⟩)
        · exact ⟨a, b, w, by omega, e, f⟩
        · exact ⟨a, hj, i, Or.inr ⟨rfl, by omega⟩, hl, f⟩
    cases q : (E i j && decide (M i ≠ j)) with
    | false =>
      rw [q] at eh
      refine same (fun t => by
        rw [up t]
        refine ⟨fun z => ?_, Or.inl⟩
        rcases z with z | ⟨_, a, b⟩
        · exact z
        · rw [b] at q
          have mj : M i = j := by simpa using q
          exact absurd a (by rw [← mj]; exact own (by omega))) (fun f K => ?_)
      rw [show d + 1 + 1 + f = d + 1 + f + 1 by omega]
      simp only [f_X10_laysLayers_L104, ↓hbind gR_168_9, ↓hbind mr_h0, ↓hbind mh_a0_1, e1, c, ↓reduceIte, ↓hvc (fun _ => vc_168), ↓hbind ey, ↓hbind eh, show bI false = 0 from rfl, f_X10_laysLayers_J173, lt_go, i_succ]
    | true =>
      rw [q] at eh
      have eij : E i j = true := ((Bool.and_eq_true _ _).mp q).1
      by_cases z : CLm E lw lr k i j j
      · have v := (ht.1 j hj).1 z
        have nz : (Int32.ofNat (2 * k + 1) = -1) = False := oN_n1 (by omega)
        refine same (fun t => by
          rw [up t]
          refine ⟨fun y => ?_, Or.inl⟩
          rcases y with y | ⟨rfl, _, _⟩
          · exact y
          · exact z) (fun f K => ?_)
        rw [show d + 1 + 1 + f = d + 1 + f + 1 by omega]
        simp only [f_X10_laysLayers_L104, ↓hbind gR_168_9, ↓hbind mr_h0, ↓hbind mh_a0_1, e1, c, ↓reduceIte, ↓hvc (fun _ => vc_168), ↓hbind ey, ↓hbind eh, show bI true = 1 from rfl, z_1, ↓hbind gR_168_25, ↓hbind (aI_485 hj), v, nz, f_X10_laysLayers_J173, lt_go, i_succ]
      · have v := (ht.1 j hj).2 z
        by_cases l : lr j = -1
        · have l' : (lr j = -1) = True := eq_true l
          obtain ⟨ν1, hd⟩ : ∃ z, z = st ν 485 j (Int32.ofNat (2 * k + 1)) := ⟨_, rfl⟩
          have f1 : Fr (fun q _ => q = 485) ν ν1 := by rw [hd]; exact (Fr.refl _ _).st rfl
          have hS1 := hS.ll f1 (fun q i a z => by omega)
          have ep := m_partner1 hS1 hj
          have t1 : ∀ t, t < 12 → (CLm E lw lr k i (j + 1) t → ν1.1 485 t = Int32.ofNat (2 * k + 1)) ∧ (¬ CLm E lw lr k i (j + 1) t → ν1.1 485 t = lr t) := fun t tt => by
            rw [hd, up t]
            by_cases y : t = j
            · rw [y, st_same]
              exact ⟨fun _ => rfl, fun u => absurd (Or.inr ⟨rfl, l, eij⟩) u⟩
            · rw [st_ne (Or.inr y)]
              exact ⟨fun u => (ht.1 t tt).1 (u.resolve_right fun a => y a.1), fun u => (ht.1 t tt).2 fun a => u (Or.inl a)⟩
          by_cases o : ow M j = 12
          · rw [o, eI_ge (Nat.le_refl 12)] at ep
            have x1 : x ||| 1 = 1 := by rcases ht.2 with ⟨rfl, _⟩ | ⟨rfl, _⟩ <;> rfl
            obtain ⟨ξ, x', a, b, c'⟩ := m_ll_t hE h12 hk hi hiW hl own d (j + 1) ν1 1 (by omega) hS1 ⟨t1, Or.inl ⟨rfl, j, (up j).mpr (Or.inr ⟨rfl, l, eij⟩), o⟩⟩
            refine ⟨ξ, x', fun f K => ?_, f1.trans b, c'⟩
            rw [show d + 1 + 1 + f = d + 1 + f + 1 by omega, ← a f K]
            rw [hd] at ep ⊢
            simp only [f_X10_laysLayers_L104, ↓hbind gR_168_9, ↓hbind mr_h0, ↓hbind mh_a0_1, e1, c, ↓reduceIte, ↓hvc (fun _ => vc_168), ↓hbind ey, ↓hbind eh, show bI true = 1 from rfl, z_1, ↓hbind gR_168_25, ↓hbind (aI_485 hj), v, l', i_succ, ↓hbind (sI_485 hj), ↓hbind ep, f_X10_laysLayers_J171, x1, f_X10_laysLayers_J173, lt_go]
          · have o2 : ow M j < 12 := by have := ow_le M j; omega
            rw [eI_lt o2] at ep
            have nz : (Int32.ofNat (ow M j) = -1) = False := oN_n1 (by omega)
            have x1 : x ||| 0 = x := by rcases ht.2 with ⟨rfl, _⟩ | ⟨rfl, _⟩ <;> rfl
            obtain ⟨ξ, x', a, b, c'⟩ := m_ll_t hE h12 hk hi hiW hl own d (j + 1) ν1 x (by omega) hS1 ⟨t1, ht.2.imp (fun ⟨a, t, b, e⟩ => ⟨a, t, (up t).mpr (Or.inl b), e⟩) (fun ⟨a, b⟩ => ⟨a, fun t y => by
              rcases (up t).mp y with y | ⟨rfl, _, _⟩
              · exact b t y
              · exact o⟩)⟩
            refine ⟨ξ, x', fun f K => ?_, f1.trans b, c'⟩
            rw [show d + 1 + 1 + f = d + 1 + f + 1 by omega, ← a f K]
            rw [hd] at ep ⊢
            simp only [f_X10_laysLayers_L104, ↓hbind gR_168_9, ↓hbind mr_h0, ↓hbind mh_a0_1, e1, c, ↓reduceIte, ↓hvc (fun _ => vc_168), ↓hbind ey, ↓hbind eh, show bI true = 1 from rfl, z_1, ↓hbind gR_168_25, ↓hbind (aI_485 hj), v, l', i_succ, ↓hbind (sI_485 hj), ↓hbind ep, nz, f_X10_laysLayers_J171, x1, f_X10_laysLayers_J173, lt_go]
        · have l' : (lr j = -1) = False := eq_false l
          refine same (fun t => by
            rw [up t]
            refine ⟨fun y => ?_, Or.inl⟩
            rcases y with y | ⟨_, a, _⟩
            · exact y
            · exact absurd a l) (fun f K => ?_)
          rw [show d + 1 + 1 + f = d + 1 + f + 1 by omega]
          simp only [f_X10_laysLayers_L104, ↓hbind gR_168_9, ↓hbind mr_h0, ↓hbind mh_a0_1, e1, c, ↓reduceIte, ↓hvc (fun _ => vc_168), ↓hbind ey, ↓hbind eh, show bI true = 1 from rfl, z_1, ↓hbind gR_168_25, ↓hbind (aI_485 hj), v, l', f_X10_laysLayers_J173, lt_go, i_succ]
end Ml
