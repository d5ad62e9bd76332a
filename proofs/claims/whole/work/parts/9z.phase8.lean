/-! THE MODEL: layers -/
def LyM (μ : MM) (lw lr : LA) : Prop := (∀ w, w < 12 → μ.1 484 w = lw w) ∧ ∀ t, t < 12 → μ.1 485 t = lr t
/-- reached in a round, as far as worker i and task j -/
def CLm (E : Nat → Nat → Bool) (lw lr : LA) (k i j t : Nat) : Prop := lr t = -1 ∧ t < 12 ∧ ∃ w, (w < i ∨ (w = i ∧ t < j)) ∧ lw w = Int32.ofNat (2 * k) ∧ E w t = true
def TIm (E : Nat → Nat → Bool) (M : Nat → Nat) (lw lr : LA) (k : Nat) (ν : MM) (x : Int32) (i j : Nat) : Prop :=
  (∀ t, t < 12 → (CLm E lw lr k i j t → ν.1 485 t = Int32.ofNat (2 * k + 1)) ∧ (¬ CLm E lw lr k i j t → ν.1 485 t = lr t)) ∧ ((x = 1 ∧ ∃ t, CLm E lw lr k i j t ∧ ow M t = 12) ∨ (x = 0 ∧ ∀ t, CLm E lw lr k i j t → ow M t ≠ 12))
section Ml
variable {μ : MM} {n m : Nat} {Wt Tt : Int32} {E : Nat → Nat → Bool} {M : Nat → Nat} {lw lr : LA} {k : Nat}
theorem TIm.eqv {ν : MM} {x : Int32} {i j i' j' : Nat} (h : TIm E M lw lr k ν x i j) (e : ∀ t, CLm E lw lr k i' j' t ↔ CLm E lw lr k i j t) : TIm E M lw lr k ν x i' j' :=
  ⟨fun t ht => ⟨fun z => (h.1 t ht).1 ((e t).mp z), fun z => (h.1 t ht).2 (fun y => z ((e t).mpr y))⟩, h.2.imp (fun ⟨a, t, b, c⟩ => ⟨a, t, (e t).mpr b, c⟩) (fun ⟨a, b⟩ => ⟨a, fun t z => b t ((e t).mp z)⟩)⟩
theorem MS.ll {ν : MM} {P : Nat → Nat → Prop} (h : MS μ n m Wt Tt E M) (f : Fr P μ ν) (hp : ∀ q i, q = 172 ∨ q = 191 ∨ q = 210 → ¬ P q i) : MS ν n m Wt Tt E M := h.fr f (fun i => hp _ _ (by omega)) (fun i => hp _ _ (by omega)) (fun i => hp _ _ (by omega))
theorem m_ll_t (hE : Eb E) (h12 : m ≤ 12) (hk : k ≤ 100) {i : Nat} (hi : i < 12) (hiW : hb Wt i = true) (hl : lw i = Int32.ofNat (2 * k)) (own : M i < 12 → lr (M i) ≠ -1) : ∀ (d j : Nat) (ν : MM) (x : Int32), j + d = m → MS ν n m Wt Tt E M → TIm E M lw lr k ν x i j →
    ∃ ξ x', (∀ f K, f_X10_laysLayers_L104 K (d + 1 + f) 168 (Int32.ofNat (2 * k)) x (Int32.ofNat i) (Int32.ofNat j) (mem ν) = K 168 (Int32.ofNat (2 * k)) x' (Int32.ofNat i) (mem ξ)) ∧ Fr (fun q _ => q = 485) ν ξ ∧ TIm E M lw lr k ξ x' i m
  | 0, j, ν, x, h, hS, ht => by
    have e1 : ν.1 172 1 = Int32.ofNat m := hS.1.2.1
    have c : (Int32.ofNat j ≥ Int32.ofNat m) = True := by rw [oN_ge (by omega) (by omega)]; exact eq_true (by omega)
    refine ⟨ν, x, fun f K => ?_, Fr.refl _ _, by rw [show m = j by omega]; exact ht⟩
    rw [show 0 + 1 + f = f + 1 by omega]
    simp only [f_X10_laysLayers_L104, ↓hbind gR_168_9, ↓hbind mr_h0, ↓hbind mh_a0_1, e1, c, ↓reduceIte]
  | d + 1, j, ν, x, h, hS, ht => by
    have e1 : ν.1 172 1 = Int32.ofNat m := hS.1.2.1
    have c : (Int32.ofNat j ≥ Int32.ofNat m) = False := by rw [oN_ge (by omega) (by omega)]; exact eq_false (by omega)
    have hj : j < 12 := by omega
    obtain ⟨y, ey, hy⟩ := m_openTo hE hS hi hiW
    have eh := m_has (x := y) (h := mem ν) (show j < 32 by omega)
    rw [hy j (by omega)] at eh
    -- as before
    have same : (∀ t, CLm E lw lr k i (j + 1) t ↔ CLm E lw lr k i j t) → (∀ f K, f_X10_laysLayers_L104 K (d + 1 + 1 + f) 168 (Int32.ofNat (2 * k)) x (Int32.ofNat i) (Int32.ofNat j) (mem ν) = f_X10_laysLayers_L104 K (d + 1 + f) 168 (Int32.ofNat (2 * k)) x (Int32.ofNat i) (Int32.ofNat (j + 1)) (mem ν)) → ∃ ξ x', (∀ f K, f_X10_laysLayers_L104 K (d + 1 + 1 + f) 168 (Int32.ofNat (2 * k)) x (Int32.ofNat i) (Int32.ofNat j) (mem ν) = K 168 (Int32.ofNat (2 * k)) x' (Int32.ofNat i) (mem ξ)) ∧ Fr (fun q _ => q = 485) ν ξ ∧ TIm E M lw lr k ξ x' i m := fun e g => by
      obtain ⟨ξ, x', a, b, c⟩ := m_ll_t hE h12 hk hi hiW hl own d (j + 1) ν x (by omega) hS (ht.eqv e)
      exact ⟨ξ, x', fun f K => by rw [g, a], b, c⟩
    have up : ∀ t, CLm E lw lr k i (j + 1) t ↔ (CLm E lw lr k i j t ∨ (t = j ∧ lr j = -1 ∧ E i j = true)) := fun t => by
      constructor
      · rintro ⟨a, b, w, q, e, f⟩
        by_cases z : w < i ∨ (w = i ∧ t < j)
        · exact Or.inl ⟨a, b, w, z, e, f⟩
        · have w1 : w = i := by omega
          have t1 : t = j := by omega
          subst w1; subst t1
          exact Or.inr ⟨rfl, a, f⟩
      · rintro (⟨a, b, w, q, e, f⟩ | ⟨rfl, a, f⟩)
        · exact ⟨a, b, w, by omega, e, f⟩
        · exact ⟨a, hj, i, Or.inr ⟨rfl, by omega⟩, hl, f⟩
    cases q : (E i j && decide (M i ≠ j)) with
    | false =>
      rw [q] at eh
      refine same (fun t => by
        rw [up t]
        refine ⟨fun z => ?_, Or.inl⟩
        rcases z with z | ⟨_, a, b⟩
        · exact z
        · rw [b] at q
          have mj : M i = j := by simpa using q
          exact absurd a (by rw [← mj]; exact own (by omega))) (fun f K => ?_)
      rw [show d + 1 + 1 + f = d + 1 + f + 1 by omega]
      simp only [f_X10_laysLayers_L104, ↓hbind gR_168_9, ↓hbind mr_h0, ↓hbind mh_a0_1, e1, c, ↓reduceIte, ↓hvc (fun _ => vc_168), ↓hbind ey, ↓hbind eh, show bI false = 0 from rfl, f_X10_laysLayers_J173, lt_go, i_succ]
    | true =>
      rw [q] at eh
      have eij : E i j = true := ((Bool.and_eq_true _ _).mp q).1
      by_cases z : CLm E lw lr k i j j
      · have v := (ht.1 j hj).1 z
        have nz : (Int32.ofNat (2 * k + 1) = -1) = False := oN_n1 (by omega)
        refine same (fun t => by
          rw [up t]
          refine ⟨fun y => ?_, Or.inl⟩
          rcases y with y | ⟨rfl, _, _⟩
          · exact y
          · exact z) (fun f K => ?_)
        rw [show d + 1 + 1 + f = d + 1 + f + 1 by omega]
        simp only [f_X10_laysLayers_L104, ↓hbind gR_168_9, ↓hbind mr_h0, ↓hbind mh_a0_1, e1, c, ↓reduceIte, ↓hvc (fun _ => vc_168), ↓hbind ey, ↓hbind eh, show bI true = 1 from rfl, z_1, ↓hbind gR_168_25, ↓hbind (aI_485 hj), v, nz, f_X10_laysLayers_J173, lt_go, i_succ]
      · have v := (ht.1 j hj).2 z
        by_cases l : lr j = -1
        · have l' : (lr j = -1) = True := eq_true l
          obtain ⟨ν1, hd⟩ : ∃ z, z = st ν 485 j (Int32.ofNat (2 * k + 1)) := ⟨_, rfl⟩
          have f1 : Fr (fun q _ => q = 485) ν ν1 := by rw [hd]; exact (Fr.refl _ _).st rfl
          have hS1 := hS.ll f1 (fun q i a z => by omega)
          have ep := m_partner1 hS1 hj
          have t1 : ∀ t, t < 12 → (CLm E lw lr k i (j + 1) t → ν1.1 485 t = Int32.ofNat (2 * k + 1)) ∧ (¬ CLm E lw lr k i (j + 1) t → ν1.1 485 t = lr t) := fun t tt => by
            rw [hd, up t]
            by_cases y : t = j
            · rw [y, st_same]
              exact ⟨fun _ => rfl, fun u => absurd (Or.inr ⟨rfl, l, eij⟩) u⟩
            · rw [st_ne (Or.inr y)]
              exact ⟨fun u => (ht.1 t tt).1 (u.resolve_right fun a => y a.1), fun u => (ht.1 t tt).2 fun a => u (Or.inl a)⟩
          by_cases o : ow M j = 12
          · rw [o, eI_ge (Nat.le_refl 12)] at ep
            have x1 : x ||| 1 = 1 := by rcases ht.2 with ⟨rfl, _⟩ | ⟨rfl, _⟩ <;> rfl
            obtain ⟨ξ, x', a, b, c'⟩ := m_ll_t hE h12 hk hi hiW hl own d (j + 1) ν1 1 (by omega) hS1 ⟨t1, Or.inl ⟨rfl, j, (up j).mpr (Or.inr ⟨rfl, l, eij⟩), o⟩⟩
            refine ⟨ξ, x', fun f K => ?_, f1.trans b, c'⟩
            rw [show d + 1 + 1 + f = d + 1 + f + 1 by omega, ← a f K]
            rw [hd] at ep ⊢
            simp only [f_X10_laysLayers_L104, ↓hbind gR_168_9, ↓hbind mr_h0, ↓hbind mh_a0_1, e1, c, ↓reduceIte, ↓hvc (fun _ => vc_168), ↓hbind ey, ↓hbind eh, show bI true = 1 from rfl, z_1, ↓hbind gR_168_25, ↓hbind (aI_485 hj), v, l', i_succ, ↓hbind (sI_485 hj), ↓hbind ep, f_X10_laysLayers_J171, x1, f_X10_laysLayers_J173, lt_go]
          · have o2 : ow M j < 12 := by have := ow_le M j; omega
            rw [eI_lt o2] at ep
            have nz : (Int32.ofNat (ow M j) = -1) = False := oN_n1 (by omega)
            have x1 : x ||| 0 = x := by rcases ht.2 with ⟨rfl, _⟩ | ⟨rfl, _⟩ <;> rfl
            obtain ⟨ξ, x', a, b, c'⟩ := m_ll_t hE h12 hk hi hiW hl own d (j + 1) ν1 x (by omega) hS1 ⟨t1, ht.2.imp (fun ⟨a, t, b, e⟩ => ⟨a, t, (up t).mpr (Or.inl b), e⟩) (fun ⟨a, b⟩ => ⟨a, fun t y => by
              rcases (up t).mp y with y | ⟨rfl, _, _⟩
              · exact b t y
              · exact o⟩)⟩
            refine ⟨ξ, x', fun f K => ?_, f1.trans b, c'⟩
            rw [show d + 1 + 1 + f = d + 1 + f + 1 by omega, ← a f K]
            rw [hd] at ep ⊢
            simp only [f_X10_laysLayers_L104, ↓hbind gR_168_9, ↓hbind mr_h0, ↓hbind mh_a0_1, e1, c, ↓reduceIte, ↓hvc (fun _ => vc_168), ↓hbind ey, ↓hbind eh, show bI true = 1 from rfl, z_1, ↓hbind gR_168_25, ↓hbind (aI_485 hj), v, l', i_succ, ↓hbind (sI_485 hj), ↓hbind ep, nz, f_X10_laysLayers_J171, x1, f_X10_laysLayers_J173, lt_go]
        · have l' : (lr j = -1) = False := eq_false l
          refine same (fun t => by
            rw [up t]
            refine ⟨fun y => ?_, Or.inl⟩
            rcases y with y | ⟨_, a, _⟩
            · exact y
            · exact absurd a l) (fun f K => ?_)
          rw [show d + 1 + 1 + f = d + 1 + f + 1 by omega]
          simp only [f_X10_laysLayers_L104, ↓hbind gR_168_9, ↓hbind mr_h0, ↓hbind mh_a0_1, e1, c, ↓reduceIte, ↓hvc (fun _ => vc_168), ↓hbind ey, ↓hbind eh, show bI true = 1 from rfl, z_1, ↓hbind gR_168_25, ↓hbind (aI_485 hj), v, l', f_X10_laysLayers_J173, lt_go, i_succ]
theorem m_ll_w (hE : Eb E) (hO : SOK n m Wt E M) (hk : k ≤ 100) (hi0 : LyI E M Wt k lw lr) : ∀ (d i : Nat) (ν : MM) (x : Int32), i + d = n → MS ν n m Wt Tt E M → (∀ w, w < 12 → ν.1 484 w = lw w) → TIm E M lw lr k ν x i 0 →
    ∃ ξ x', (∀ f K, f_X10_laysLayers_L76 K (d + 1 + f) 168 (Int32.ofNat (2 * k)) x (Int32.ofNat i) (mem ν) = K 168 (Int32.ofNat (2 * k)) x' (mem ξ)) ∧ Fr (fun q _ => q = 485) ν ξ ∧ TIm E M lw lr k ξ x' n 0
  | 0, i, ν, x, h, hS, h4, ht => by
    have e0 : ν.1 172 0 = Int32.ofNat n := hS.1.1
    have hn := hO.1
    have c : (Int32.ofNat i ≥ Int32.ofNat n) = True := by rw [oN_ge (by omega) (by omega)]; exact eq_true (by omega)
    refine ⟨ν, x, fun f K => ?_, Fr.refl _ _, by rw [show n = i by omega]; exact ht⟩
    rw [show 0 + 1 + f = f + 1 by omega]
    simp only [f_X10_laysLayers_L76, ↓hbind gR_168_9, ↓hbind mr_h0, ↓hbind mh_a0_0, e0, c, ↓reduceIte]
  | d + 1, i, ν, x, h, hS, h4, ht => by
    have e0 : ν.1 172 0 = Int32.ofNat n := hS.1.1
    have hn := hO.1
    have hm := hO.2.1
    have c : (Int32.ofNat i ≥ Int32.ofNat n) = False := by rw [oN_ge (by omega) (by omega)]; exact eq_false (by omega)
    have hi : i < 12 := by omega
    have e4 : ν.1 484 i = lw i := h4 i hi
    by_cases z : lw i = Int32.ofNat (2 * k)
    · have z' : (lw i = Int32.ofNat (2 * k)) = True := eq_true z
      have ml : M i < 12 → lr (M i) ≠ -1 ∧ hb Wt i = true := fun a => by
        refine ⟨fun y => ?_, (hO.2.2.1 i _ (hO.2.2.2.2.2 i a)).2.2⟩
        rcases hi0.2.2 i with q | q | ⟨j, a1, a2, a3, a4, a5⟩
        · rw [q] at z; exact n1_oN (by omega) z
        · have := ((hi0.1 i).mp q).2; omega
        · rw [y] at a5; exact n1_oN (by omega) a5
      have hw : hb Wt i = true := by
        rcases hi0.2.2 i with q | q | ⟨j, a1, a2, a3, a4, a5⟩
        · rw [q] at z; exact absurd z (n1_oN (by omega))
        · exact ((hi0.1 i).mp q).1
        · exact (ml a4).2
      obtain ⟨ζ, y, e1, f1, t1⟩ := m_ll_t hE hm hk hi hw z (fun a => (ml a).1) m 0 ν x (by omega) hS ht
      have hS1 := hS.ll f1 (fun q i a z => by omega)
      obtain ⟨ξ, x', a, b, c'⟩ := m_ll_w hE hO hk hi0 d (i + 1) ζ y (by omega) hS1 (fun w hw => by rw [(f1 _ _ (by omega)).1]; exact h4 w hw) (t1.eqv fun t => ⟨fun ⟨a, b, w, q, e, f⟩ => ⟨a, b, w, by have := (hO.2.2.1 w t f).2.1; omega, e, f⟩, fun ⟨a, b, w, q, e, f⟩ => ⟨a, b, w, by omega, e, f⟩⟩)
      refine ⟨ξ, x', fun f K => ?_, f1.trans b, c'⟩
      have e1' : ∀ K, f_X10_laysLayers_L104 K 5000 168 (Int32.ofNat (2 * k)) x (Int32.ofNat i) 0 (mem ν) = K 168 (Int32.ofNat (2 * k)) y (Int32.ofNat i) (mem ζ) := fun K => by
        have := e1 (5000 - (m + 1)) K
        rw [show m + 1 + (5000 - (m + 1)) = 5000 by omega] at this
        exact this
      rw [show d + 1 + 1 + f = d + 1 + f + 1 by omega, ← a f K]
      simp only [f_X10_laysLayers_L76, ↓hbind gR_168_9, ↓hbind mr_h0, ↓hbind mh_a0_0, e0, c, ↓reduceIte, ↓hbind gR_168_24, ↓hbind (aI_484 hi), e4, z', e1', f_X10_laysLayers_J179, lt_go, i_succ]
    · have z' : (lw i = Int32.ofNat (2 * k)) = False := eq_false z
      obtain ⟨ξ, x', a, b, c'⟩ := m_ll_w hE hO hk hi0 d (i + 1) ν x (by omega) hS h4 (ht.eqv fun t => ⟨fun ⟨a, b, w, q, e, f⟩ => ⟨a, b, w, by
        by_cases y : w = i
        · rw [y] at e; exact absurd e z
        · omega, e, f⟩, fun ⟨a, b, w, q, e, f⟩ => ⟨a, b, w, by omega, e, f⟩⟩)
      refine ⟨ξ, x', fun f K => ?_, b, c'⟩
      rw [show d + 1 + 1 + f = d + 1 + f + 1 by omega, ← a f K]
      simp only [f_X10_laysLayers_L76, ↓hbind gR_168_9, ↓hbind mr_h0, ↓hbind mh_a0_0, e0, c, ↓reduceIte, ↓hbind gR_168_24, ↓hbind (aI_484 hi), e4, z', f_X10_laysLayers_J179, lt_go, i_succ]
/-- behind the workers of a round -/
theorem TIm.end_ {ν : MM} {x : Int32} (hO : SOK n m Wt E M) (h : TIm E M lw lr k ν x n 0) : (∀ t, t < 12 → ν.1 485 t = ltn E lw lr (2 * k) t) ∧ ((x = 1 ∧ hit M (ltn E lw lr (2 * k)) (2 * k)) ∨ (x = 0 ∧ ∀ t, CLm E lw lr k n 0 t → ow M t ≠ 12)) := by
  have e : ∀ t, CLm E lw lr k n 0 t ↔ (lr t = -1 ∧ t < 12 ∧ ∃ w, w < 12 ∧ lw w = Int32.ofNat (2 * k) ∧ E w t = true) := fun t => by
    have hn := hO.1
    exact ⟨fun ⟨a, b, w, c, d, f⟩ => ⟨a, b, w, by omega, d, f⟩, fun ⟨a, b, w, c, d, f⟩ => ⟨a, b, w, Or.inl (hO.2.2.1 w t f).1, d, f⟩⟩
  refine ⟨fun t ht => ?_, h.2.imp (fun ⟨a, t, b, c⟩ => ⟨a, t, ((e t).mp b).2.1, ?_, c⟩) id⟩
  · by_cases c : CLm E lw lr k n 0 t
    · have c' := (e t).mp c
      rw [(h.1 t ht).1 c, ltn_new c'.1 c'.2.1 c'.2.2]
    · rw [(h.1 t ht).2 c, ltn_old fun z => c ((e t).mpr z)]
  · have c' := (e t).mp b
    exact ltn_new c'.1 c'.2.1 c'.2.2
theorem m_ll_p (hO : SOK n m Wt E M) (hk : k ≤ 100) {lr' : LA} (nh : ∀ t, t < 12 → lr' t = Int32.ofNat (2 * k + 1) → ow M t < 12) : ∀ (d j : Nat) (ν : MM), j + d = m → MS ν n m Wt Tt E M → (∀ t, t < 12 → ν.1 485 t = lr' t) → (∀ w, w < 12 → ν.1 484 w = if M w < j ∧ lr' (M w) = Int32.ofNat (2 * k + 1) then Int32.ofNat (2 * k + 2) else lw w) →
    ∃ ξ, (∀ f K, f_X10_laysLayers_L193 K (d + 1 + f) 168 (Int32.ofNat (2 * k)) (Int32.ofNat j) (mem ν) = K 168 (Int32.ofNat (2 * k)) (mem ξ)) ∧ Fr (fun q _ => q = 484) ν ξ ∧ ∀ w, w < 12 → ξ.1 484 w = if M w < m ∧ lr' (M w) = Int32.ofNat (2 * k + 1) then Int32.ofNat (2 * k + 2) else lw w
  | 0, j, ν, h, hS, h5, h4 => by
    have e1 : ν.1 172 1 = Int32.ofNat m := hS.1.2.1
    have hm := hO.2.1
    have c : (Int32.ofNat j ≥ Int32.ofNat m) = True := by rw [oN_ge (by omega) (by omega)]; exact eq_true (by omega)
    refine ⟨ν, fun f K => ?_, Fr.refl _ _, by rw [show m = j by omega]; exact h4⟩
    rw [show 0 + 1 + f = f + 1 by omega]
    simp only [f_X10_laysLayers_L193, ↓hbind gR_168_9, ↓hbind mr_h0, ↓hbind mh_a0_1, e1, c, ↓reduceIte]
  | d + 1, j, ν, h, hS, h5, h4 => by
    have e1 : ν.1 172 1 = Int32.ofNat m := hS.1.2.1
    have hm := hO.2.1
    have c : (Int32.ofNat j ≥ Int32.ofNat m) = False := by rw [oN_ge (by omega) (by omega)]; exact eq_false (by omega)
    have hj : j < 12 := by omega
    have v := h5 j hj
    have ep := m_partner1 hS hj
    by_cases z : lr' j = Int32.ofNat (2 * k + 1)
    · have z' : (lr' j = Int32.ofNat (2 * k + 1)) = True := eq_true z
      have o := nh j hj z
      rw [eI_lt o] at ep
      have om := ow_M o
      obtain ⟨ν1, hd⟩ : ∃ z, z = st ν 484 (ow M j) (Int32.ofNat (2 * k + 2)) := ⟨_, rfl⟩
      have f1 : Fr (fun q _ => q = 484) ν ν1 := by rw [hd]; exact (Fr.refl _ _).st rfl
      have i2 : Int32.ofNat (2 * k) + 2 = Int32.ofNat (2 * k + 2) := by rw [show (2 : Int32) = Int32.ofNat 2 from rfl, oN_add]
      obtain ⟨ξ, a, b, g⟩ := m_ll_p hO hk nh d (j + 1) ν1 (by omega) (hS.ll f1 (fun q i a z => by omega)) (fun t ht => by rw [(f1 _ _ (by omega)).1]; exact h5 t ht) (fun w hw => by
        rw [hd]
        by_cases y : w = ow M j
        · rw [y, st_same, om, if_pos ⟨by omega, z⟩]
        · rw [st_ne (Or.inr y), h4 w hw]
          have : M w ≠ j := fun u => y (by rw [← u]; exact (ow_of hO.2.2.2.2.1 (by omega)).symm)
          by_cases q : M w < j ∧ lr' (M w) = Int32.ofNat (2 * k + 1)
          · rw [if_pos q, if_pos ⟨by omega, q.2⟩]
          · rw [if_neg q, if_neg fun u => q ⟨by omega, u.2⟩])
      refine ⟨ξ, fun f K => ?_, f1.trans b, g⟩
      rw [show d + 1 + 1 + f = d + 1 + f + 1 by omega, ← a f K, hd]
      simp only [f_X10_laysLayers_L193, ↓hbind gR_168_9, ↓hbind mr_h0, ↓hbind mh_a0_1, e1, c, ↓reduceIte, ↓hbind gR_168_25, ↓hbind (aI_485 hj), v, i_succ, z', ↓hbind gR_168_24, ↓hvc (fun _ => vc_168), ↓hbind ep, i2, ↓hbind (sI_484 o), f_X10_laysLayers_J231, lt_go]
    · have z' : (lr' j = Int32.ofNat (2 * k + 1)) = False := eq_false z
      obtain ⟨ξ, a, b, g⟩ := m_ll_p hO hk nh d (j + 1) ν (by omega) hS h5 (fun w hw => by
        rw [h4 w hw]
        by_cases q : M w < j ∧ lr' (M w) = Int32.ofNat (2 * k + 1)
        · rw [if_pos q, if_pos ⟨by omega, q.2⟩]
        · rw [if_neg q, if_neg fun u => q ⟨by
            have : M w ≠ j := fun y => z (by rw [← y]; exact u.2)
            omega, u.2⟩])
      refine ⟨ξ, fun f K => ?_, b, g⟩
      rw [show d + 1 + 1 + f = d + 1 + f + 1 by omega, ← a f K]
      simp only [f_X10_laysLayers_L193, ↓hbind gR_168_9, ↓hbind mr_h0, ↓hbind mh_a0_1, e1, c, ↓reduceIte, ↓hbind gR_168_25, ↓hbind (aI_485 hj), v, i_succ, z', f_X10_laysLayers_J231, lt_go]
def FLm (q _i : Nat) : Prop := q = 484 ∨ q = 485
theorem m_ll_loop (hO : SOK n m Wt E M) : ∀ (d k : Nat) (ν : MM), k + d = 13 → MS ν n m Wt Tt E M → LyM ν (ls E M Wt k).1 (ls E M Wt k).2 → (∀ j, j < k → ¬ hitk E M Wt j) → ∃ ξ b, (∀ f, f_X10_laysLayers_L66 f_X10_laysLayers_J189 f_X10_laysLayers_J243 (d + 1 + f) 168 (Int32.ofNat (2 * k)) (mem ν) = some (b, mem ξ)) ∧ Fr FLm ν ξ ∧ ((b = 1 ∧ ∃ lw lt, LAY E M Wt lw lt ∧ LyM ξ lw lt) ∨ (b = 0 ∧ NOL E M Wt))
  | 0, k, ν, h, hS, g, nh => by
    have hk : k = 13 := by omega
    subst hk
    have c : (Int32.ofNat (2 * 13) > 24) = True := eq_true (by decide)
    refine ⟨ν, 0, fun e => ?_, Fr.refl _ _, Or.inr ⟨rfl, fun j hj => nh j (by omega)⟩⟩
    rw [show 0 + 1 + e = e + 1 by omega]
    simp only [f_X10_laysLayers_L66, c, ↓reduceIte, f_X10_laysLayers_J243, true_or]
  | d + 1, k, ν, h, hS, g, nh => by
    have hE := hO.Eb
    have hn := hO.1
    have hm := hO.2.1
    have c : (Int32.ofNat (2 * k) > 24) = False := by rw [show (24 : Int32) = Int32.ofNat 24 from rfl, oN_gt (by omega) (by omega)]; exact eq_false (by omega)
    have hi := ls_I (E := E) (M := M) (Wt := Wt) k (by omega)
    have t0 : TIm E M (ls E M Wt k).1 (ls E M Wt k).2 k ν 0 0 0 := ⟨fun t ht => ⟨fun ⟨_, _, w, q, _⟩ => by omega, fun _ => g.2 t ht⟩, Or.inr ⟨rfl, fun t ⟨_, _, w, q, _⟩ => by omega⟩⟩
    obtain ⟨ζ, x, e1, f1, t1⟩ := m_ll_w hE hO (by omega) hi n 0 ν 0 (by omega) hS g.1 t0
    have e1' : ∀ K, f_X10_laysLayers_L76 K 5000 168 (Int32.ofNat (2 * k)) 0 0 (mem ν) = K 168 (Int32.ofNat (2 * k)) x (mem ζ) := fun K => by
      have := e1 (5000 - (n + 1)) K
      rw [show n + 1 + (5000 - (n + 1)) = 5000 by omega] at this
      exact this
    have hS1 := hS.ll f1 (fun q i a z => by omega)
    have fz : Fr FLm ν ζ := f1.mono fun q i z => Or.inr z
    have g4 : ∀ w, w < 12 → ζ.1 484 w = (ls E M Wt k).1 w := fun w hw => by rw [(f1 _ _ (by omega)).1]; exact g.1 w hw
    obtain ⟨u1, u2⟩ := t1.end_ hO
    rcases u2 with ⟨rfl, u2⟩ | ⟨rfl, u2⟩
    · have k11 : k ≤ 11 := by
        apply Classical.byContradiction
        intro z
        exact no_all (fun j a => nh j (by omega)) k (by omega) u2
      refine ⟨ζ, 1, fun e => ?_, fz, Or.inl ⟨rfl, _, _, ⟨k, k11, nh, u2, rfl, rfl⟩, g4, u1⟩⟩
      rw [show d + 1 + 1 + e = d + 1 + e + 1 by omega]
      simp only [f_X10_laysLayers_L66, c, ↓reduceIte, e1', f_X10_laysLayers_J185, z_1, f_X10_laysLayers_J189, or_true]
    · have nht : ∀ t, t < 12 → ltn E (ls E M Wt k).1 (ls E M Wt k).2 (2 * k) t = Int32.ofNat (2 * k + 1) → ow M t < 12 := fun t ht q => by
        have := ow_le M t
        apply Classical.byContradiction
        intro y
        have hc : CLm E (ls E M Wt k).1 (ls E M Wt k).2 k n 0 t := by
          apply Classical.byContradiction
          intro v
          rw [← u1 t ht, (t1.1 t ht).2 v] at q
          rcases hi.2.1 t with x | ⟨j, a, b, _⟩
          · rw [x] at q; exact n1_oN (by omega) q
          · rw [b, oN_inj (by omega) (by omega)] at q; omega
        exact u2 t hc (by omega)
      obtain ⟨η, e2, f2, g2⟩ := m_ll_p (lw := (ls E M Wt k).1) hO (by omega) nht m 0 ζ (by omega) hS1 u1 (fun w hw => by rw [g4 w hw, if_neg (fun z => absurd z.1 (Nat.not_lt_zero _))])
      have e2' : ∀ K, f_X10_laysLayers_L193 K 5000 168 (Int32.ofNat (2 * k)) 0 (mem ζ) = K 168 (Int32.ofNat (2 * k)) (mem η) := fun K => by
        have := e2 (5000 - (m + 1)) K
        rw [show m + 1 + (5000 - (m + 1)) = 5000 by omega] at this
        exact this
      have nhk : ¬ hitk E M Wt k := fun ⟨t, a, b, e⟩ => by have := nht t a b; omega
      obtain ⟨ξ, b, e3, f3, r⟩ := m_ll_loop hO d (k + 1) η (by omega) (hS1.ll f2 (fun q i a z => by omega)) ⟨fun w hw => by
        rw [g2 w hw]
        show _ = lwn M (ls E M Wt k).1 (ltn E (ls E M Wt k).1 (ls E M Wt k).2 (2 * k)) (2 * k) w
        unfold lwn
        by_cases q : M w < 12 ∧ ltn E (ls E M Wt k).1 (ls E M Wt k).2 (2 * k) (M w) = Int32.ofNat (2 * k + 1)
        · rw [if_pos q, if_pos ⟨(hO.2.2.1 w _ (hO.2.2.2.2.2 w q.1)).2.1, q.2⟩]
        · rw [if_neg q, if_neg fun u => q ⟨by omega, u.2⟩], fun t ht => by rw [(f2 _ _ (by omega)).1]; exact u1 t ht⟩ (fun j hj => by
          by_cases q : j = k
          · rw [q]; exact nhk
          · exact nh j (by omega))
      refine ⟨ξ, b, fun e => ?_, (fz.trans (f2.mono fun q i z => Or.inl z)).trans f3, r⟩
      have i2 : Int32.ofNat (2 * k) + 2 = Int32.ofNat (2 * (k + 1)) := by rw [show (2 : Int32) = Int32.ofNat 2 from rfl, oN_add, show 2 * k + 2 = 2 * (k + 1) by omega]
      rw [show d + 1 + 1 + e = d + 1 + e + 1 by omega, ← e3 e]
      simp only [f_X10_laysLayers_L66, c, ↓reduceIte, e1', f_X10_laysLayers_J185, e2', f_X10_laysLayers_J237, lt_go, i2]
theorem m_laysLayers (hS : MS μ n m Wt Tt E M) (hO : SOK n m Wt E M) : ∃ ξ b, f_X10_laysLayers 168 (mem μ) = some (b, mem ξ) ∧ Fr FLm μ ξ ∧ ((b = 1 ∧ ∃ lw lt, LAY E M Wt lw lt ∧ LyM ξ lw lt) ∨ (b = 0 ∧ NOL E M Wt)) := by
  have hn := hO.1
  have key : Hw (f_X10_laysLayers 168 (mem μ)) (fun r => ∃ b ξ, r = (b, mem ξ) ∧ Fr FLm μ ξ ∧ ((b = 1 ∧ ∃ lw lt, LAY E M Wt lw lt ∧ LyM ξ lw lt) ∨ (b = 0 ∧ NOL E M Wt))) := by
    refine hw_for (L := fun N i (ν : MM) => f_X10_laysLayers_L2 f_X10_laysLayers_J28 N 168 i (mem ν)) (s0 := μ) 12 (fun i ν => Fr FLm μ ν ∧ ∀ k, k < i → ν.1 484 k = -1 ∧ ν.1 485 k = -1) ⟨Fr.refl _ _, fun k a => absurd a (Nat.not_lt_zero _)⟩ (by decide) (fun i hi ν hν => Or.inl ⟨st (st ν 484 i (-1)) 485 i (-1), ⟨(hν.1.st (Or.inl rfl)).st (Or.inr rfl), fun k a => ?_⟩, fun N => ?_⟩) (fun ν hν N => ?_)
    · by_cases z : k = i
      · rw [z, st_same, st_ne (Or.inl (by omega)), st_same]; exact ⟨rfl, rfl⟩
      · obtain ⟨a, b⟩ := hν.2 k (by omega)
        rw [st_ne (Or.inl (by omega)), st_ne (Or.inr z), st_ne (Or.inr z), st_ne (Or.inl (by omega))]
        exact ⟨a, b⟩
    · have c : (Int32.ofNat i ≥ 12) = False := by rw [lge_12 (by omega)]; exact eq_false (by omega)
      show f_X10_laysLayers_L2 f_X10_laysLayers_J28 (N + 1) 168 (Int32.ofNat i) (mem ν) = f_X10_laysLayers_L2 f_X10_laysLayers_J28 N 168 (Int32.ofNat (i + 1)) (mem (st (st ν 484 i (-1)) 485 i (-1)))
      simp only [f_X10_laysLayers_L2, c, ↓reduceIte, ↓hbind gR_168_24, ↓hbind (sI_484 hi), ↓hbind gR_168_25, ↓hbind (sI_485 hi), lt_go, i_succ]
    · obtain ⟨f, g⟩ := hν
      have c : (Int32.ofNat 12 ≥ 12) = True := eq_true (by decide)
      show Hw (f_X10_laysLayers_L2 f_X10_laysLayers_J28 (N + 1) 168 (Int32.ofNat 12) (mem ν)) _
      simp only [f_X10_laysLayers_L2, c, ↓reduceIte, f_X10_laysLayers_J28]
      refine hw_for (L := fun N i (ξ : MM) => f_X10_laysLayers_L30 f_X10_laysLayers_J64 N 168 i (mem ξ)) (s0 := ν) n (fun i ξ => Fr FLm μ ξ ∧ (∀ t, t < 12 → ξ.1 485 t = -1) ∧ ∀ w, w < 12 → ξ.1 484 w = if w < i then lw0 M Wt w else -1) ⟨f, fun t ht => (g t ht).2, fun w hw => by rw [if_neg (Nat.not_lt_zero _)]; exact (g w hw).1⟩ (by omega) (fun i hi ξ hξ => Or.inl ?_) (fun ξ hξ N => ?_)
      · obtain ⟨h1, h2, h3⟩ := hξ
        have hS1 := hS.ll h1 (fun q i a z => by unfold FLm at z; omega)
        have e0 : ξ.1 172 0 = Int32.ofNat n := hS1.1.1
        have c : (Int32.ofNat i ≥ Int32.ofNat n) = False := by rw [oN_ge (by omega) (by omega)]; exact eq_false (by omega)
        have i12 : i < 12 := by omega
        have ef := m_isFree0 hS1 i12
        cases q : (hb Wt i && decide (M i = 12)) with
        | false =>
          rw [q] at ef
          refine ⟨ξ, ⟨h1, h2, fun w hw => ?_⟩, fun N => ?_⟩
          · rw [h3 w hw]
            by_cases y : w < i
            · rw [if_pos y, if_pos (show w < i + 1 by omega)]
            · rw [if_neg y]
              by_cases z : w = i
              · rw [if_pos (show w < i + 1 by omega), z]
                unfold lw0
                rw [if_neg fun u => by simp [u.1, u.2] at q]
              · rw [if_neg (show ¬ w < i + 1 by omega)]
          · show f_X10_laysLayers_L30 f_X10_laysLayers_J64 (N + 1) 168 (Int32.ofNat i) (mem ξ) = f_X10_laysLayers_L30 f_X10_laysLayers_J64 N 168 (Int32.ofNat (i + 1)) (mem ξ)
            simp only [f_X10_laysLayers_L30, ↓hbind gR_168_9, ↓hbind mr_h0, ↓hbind mh_a0_0, e0, c, ↓reduceIte, ↓hvc (fun _ => vc_168), ↓hbind ef, show bI false = 0 from rfl, f_X10_laysLayers_J58, lt_go, i_succ]
        | true =>
          rw [q] at ef
          refine ⟨st ξ 484 i 0, ⟨h1.st (Or.inl rfl), fun t ht => by rw [st_ne (Or.inl (by omega))]; exact h2 t ht, fun w hw => ?_⟩, fun N => ?_⟩
          · by_cases z : w = i
            · rw [z, st_same, if_pos (Nat.lt_succ_self i)]
              unfold lw0
              rw [if_pos (by simpa using q)]
            · rw [st_ne (Or.inr z), h3 w hw]
              by_cases y : w < i
              · rw [if_pos y, if_pos (show w < i + 1 by omega)]
              · rw [if_neg y, if_neg (show ¬ w < i + 1 by omega)]
          · show f_X10_laysLayers_L30 f_X10_laysLayers_J64 (N + 1) 168 (Int32.ofNat i) (mem ξ) = f_X10_laysLayers_L30 f_X10_laysLayers_J64 N 168 (Int32.ofNat (i + 1)) (mem (st ξ 484 i 0))
            simp only [f_X10_laysLayers_L30, ↓hbind gR_168_9, ↓hbind mr_h0, ↓hbind mh_a0_0, e0, c, ↓reduceIte, ↓hvc (fun _ => vc_168), ↓hbind ef, show bI true = 1 from rfl, z_1, ↓hbind gR_168_24, ↓hbind (sI_484 i12), f_X10_laysLayers_J58, lt_go, i_succ]
      · obtain ⟨h1, h2, h3⟩ := hξ
        have hS1 := hS.ll h1 (fun q i a z => by unfold FLm at z; omega)
        have e0 : ξ.1 172 0 = Int32.ofNat n := hS1.1.1
        have c : (Int32.ofNat n ≥ Int32.ofNat n) = True := by rw [oN_ge (by omega) (by omega)]; exact eq_true (by omega)
        obtain ⟨ζ, b, e, f', r⟩ := m_ll_loop hO 13 0 ξ (by omega) hS1 ⟨fun w hw => by
          rw [h3 w hw]
          show _ = lw0 M Wt w
          by_cases y : w < n
          · rw [if_pos y]
          · rw [if_neg y]
            unfold lw0
            rw [if_neg fun u => y (hO.2.2.2.1 w u.1)], h2⟩ (fun j a => absurd a (Nat.not_lt_zero _))
        have e : f_X10_laysLayers_L66 f_X10_laysLayers_J189 f_X10_laysLayers_J243 5000 168 0 (mem ξ) = some (b, mem ζ) := e 4986
        show Hw (f_X10_laysLayers_L30 f_X10_laysLayers_J64 (N + 1) 168 (Int32.ofNat n) (mem ξ)) _
        simp only [f_X10_laysLayers_L30, ↓hbind gR_168_9, ↓hbind mr_h0, ↓hbind mh_a0_0, e0, c, ↓reduceIte, f_X10_laysLayers_J64, e]
        exact hw_ret ⟨b, ζ, rfl, h1.trans f', r⟩
  obtain ⟨r, e, b, ξ, rfl, h⟩ := key
  exact ⟨ξ, b, e, h⟩
end Ml
