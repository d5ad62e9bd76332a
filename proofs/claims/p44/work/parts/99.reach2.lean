/-! THE CLASS: all that is reached -/
variable {Ξ : xH}
section Cl
variable {μ : MM} {n m : Nat} {Wt Tt : Int32} {E : Nat → Nat → Bool} {M : Nat → Nat}
/-- what the class's look lays down -/
def CRs (μ : MM) (E : Nat → Nat → Bool) (M : Nat → Nat) (Wt Tt : Int32) : Prop := AlW E M Wt (μ.1 149 0) (μ.1 149 1) ∧ AlW (trE E) (tr M) Tt (μ.1 149 3) (μ.1 149 2)
theorem TuF.so (hM : Mt M) (hE : Eb E) {x y x' y' : Int32} (h : TuF E M x y x' y') (s : SoW E M Wt x y) : SoW E M Wt x' y' := by
  obtain ⟨h1, h2⟩ := h
  have hy : ∀ k, hb y' k = true → fwT E M Wt k := fun k q => by
    rcases (h1 k).mp q with z | ⟨w, a, b, c⟩
    · exact s.2.1 k z
    · exact ⟨w, s.1 w b, c⟩
  refine ⟨fun k q => ?_, hy, fun k a b c => (h2 k).mpr (Or.inl (s.2.2 k a b c))⟩
  rcases (h2 k).mp q with z | ⟨a, b, c⟩
  · exact s.1 k z
  · exact (hy _ c).step hM hE b
theorem TuF.cl (hE : Eb E) {x y x' y' : Int32} (h : TuF E M x y x' y') (e : x' = x) : ClW E M x' y' := by
  obtain ⟨h1, h2⟩ := h
  refine ⟨fun w t a b => (h1 t).mpr (Or.inr ⟨w, (hE _ _ b).1, by rw [← e]; exact a, b⟩), fun w a b c => (h2 w).mpr (Or.inr ⟨a, b, c⟩)⟩
theorem TuF.more {x y x' y' : Int32} {i : Nat} (hE : Eb E) (h : TuF E M x y x' y') (s : SoW E M Wt x y) (s' : SoW E M Wt x' y') (n : x' ≠ x) (hi : i = 0 ∨ i + 1 ≤ cnt (hb x) 12) : i + 1 + 1 ≤ cnt (hb x') 12 := by
  obtain ⟨k, k1, k2⟩ := hb_sub_eq (fun k q => (h.2 k).mpr (Or.inl q)) n.symm
  have hk := (s'.m12 hE).1 k k2
  have c := cnt_lt (p := hb x) (q := hb x') (n := 12) (fun k _ q => (h.2 k).mpr (Or.inl q)) hk k1 k2
  rcases hi with hi | hi
  · obtain ⟨z, z1, z2, z3⟩ := (s'.1 k k2).src
    have z4 := s.2.2 z z1 z2 z3
    have : 0 < cnt (hb x) 12 := by
      apply Classical.byContradiction
      intro y
      have := cnt_del (p := hb x) (n := 12) z1 z4
      omega
    omega
  · omega
theorem TuB.so (hM : Mt M) (hE : Eb E) {u v u' v' : Int32} (h : TuB E M u v u' v') (s : SoW (trE E) (tr M) Tt v u) : SoW (trE E) (tr M) Tt v' u' := by
  obtain ⟨h1, h2, h3, h4⟩ := h
  obtain ⟨⟨g1, g2⟩, g3⟩ := h4 (fwW (trE E) (tr M) Tt) s.1 (fun w t a b c d => by
    have := b.step (trE_Eb hE) (v := t) (t := w) c (by rw [ow_tr hM a]; exact d)
    rw [ow_tr hM a] at this; exact this)
  refine ⟨g1, fun k q => ?_, fun k a b c => h2 k (s.2.2 k a b c)⟩
  rcases g2 k q with z | ⟨_, t, a, b⟩
  · exact s.2.1 k z
  · exact ⟨t, a, b⟩
theorem TuB.cl (hM : Mt M) (hE : Eb E) {u v u' v' : Int32} (h : TuB E M u v u' v') (e : v' = v) (uv : ∀ w, hb u w = true → M w < 12 → hb v (M w) = true) : ClW (trE E) (tr M) v' u' := by
  obtain ⟨h1, h2, h3, h4⟩ := h
  obtain ⟨-, g3⟩ := h4 (fun _ => True) (fun _ _ => trivial) (fun _ _ _ _ _ _ => trivial)
  refine ⟨fun t w a b => (h3 w t (hE _ _ b).1 b (by rw [← e]; exact a)).1, fun t a b c => ?_⟩
  have hm : M (tr M t) = t := (tr_iff hM b a).mp rfl
  rcases g3 _ c with z | z
  · have := h2 _ (uv _ z (by rw [hm]; exact a))
    rw [hm] at this; exact this
  · have := z (by rw [hm]; exact a)
    rw [hm] at this; exact this
theorem TuB.uv {u v u' v' : Int32} (h : TuB E M u v u' v') (uv : ∀ w, hb u w = true → M w < 12 → hb v (M w) = true) : ∀ w, hb u' w = true → M w < 12 → hb v' (M w) = true := by
  obtain ⟨h1, h2, h3, h4⟩ := h
  obtain ⟨-, g3⟩ := h4 (fun _ => True) (fun _ _ => trivial) (fun _ _ _ _ _ _ => trivial)
  intro w a b
  rcases g3 w a with z | z
  · exact h2 _ (uv w z b)
  · exact z b
theorem TuB.more (hE : Eb E) {u v u' v' : Int32} {i : Nat} (h : TuB E M u v u' v') (s : SoW (trE E) (tr M) Tt v u) (s' : SoW (trE E) (tr M) Tt v' u') (n : v' ≠ v) (hi : i = 0 ∨ i + 1 ≤ cnt (hb v) 12) : i + 1 + 1 ≤ cnt (hb v') 12 := by
  obtain ⟨k, k1, k2⟩ := hb_sub_eq h.2.1 n.symm
  have hk := (s'.m12 (trE_Eb hE)).1 k k2
  have c := cnt_lt (p := hb v) (q := hb v') (n := 12) (fun k _ q => h.2.1 k q) hk k1 k2
  rcases hi with hi | hi
  · obtain ⟨z, z1, z2, z3⟩ := (s'.1 k k2).src
    have z4 := s.2.2 z z1 z2 z3
    have : 0 < cnt (hb v) 12 := by
      apply Classical.byContradiction
      intro y
      have := cnt_del (p := hb v) (n := 12) z1 z4
      omega
    omega
  · omega
theorem c_look_b (hS : SR μ n m Wt Tt E M) (hO : SOK n m Wt E M) (hT : ∀ t, hb Tt t = true → t < 12) (hA : AlW E M Wt (μ.1 149 0) (μ.1 149 1)) : Hw (f_X5_look_J58 149 141 ((mX Ξ) μ)) (fun r => ∃ ν, r = (mX Ξ) ν ∧ Fr FX μ ν ∧ CRs ν E M Wt Tt) := by
  have hE := hO.Eb
  have hM := hO.2.2.2.2.1
  obtain ⟨x, ex, hx⟩ := c_tasksIn (Ξ := Ξ) pr142 hS.2.2
  let ν0 := st (st μ 149 3 (Tt &&& (x ^^^ (-1)))) 149 2 0
  have f0 : Fr FX μ ν0 := ((Fr.refl FX μ).st ⟨rfl, by omega⟩).st ⟨rfl, by omega⟩
  have a0 : ν0.1 149 0 = μ.1 149 0 := by
    show (st (st μ 149 3 (Tt &&& (x ^^^ (-1)))) 149 2 0).1 149 0 = _
    rw [st_ne (Or.inr (by omega)), st_ne (Or.inr (by omega))]
  have a1 : ν0.1 149 1 = μ.1 149 1 := by
    show (st (st μ 149 3 (Tt &&& (x ^^^ (-1)))) 149 2 0).1 149 1 = _
    rw [st_ne (Or.inr (by omega)), st_ne (Or.inr (by omega))]
  have a2 : ν0.1 149 2 = 0 := st_same _ _ _ _
  have a3 : ν0.1 149 3 = Tt &&& (x ^^^ (-1)) := by
    show (st (st μ 149 3 (Tt &&& (x ^^^ (-1)))) 149 2 0).1 149 3 = _
    rw [st_ne (Or.inr (by omega)), st_same]
  have e9 : μ.1 141 9 = Tt := hS.1.2.2.2
  have s1 : f_X5_look_J58 149 141 ((mX Ξ) μ) = f_X5_look_L83 f_X5_look_J107 f_X5_look_J116 5000 149 141 0 ((mX Ξ) ν0) := by
    simp only [f_X5_look_J58, ↓hbind gI_141_9, e9, ↓hbind gR_141_0, ↓hvc (fun _ => pr_v pr142), ↓hbind ex, ↓hbind pI_149_3, ↓hbind pI_149_2, ν0]
  have so0 : SoW (trE E) (tr M) Tt (ν0.1 149 3) (ν0.1 149 2) := by
    rw [a2, a3]
    have hk : ∀ k, hb (Tt &&& (x ^^^ (-1))) k = true ↔ (hb Tt k = true ∧ ow M k = 12) := fun k => by
      rw [hb_and, hb_not, hx k]
      cases q : hb Tt k with
      | false => simp
      | true =>
        have h1 := hT k q
        have h2 := ow_le M k
        simp [h1, show k < 32 by omega]
        omega
    refine ⟨fun k q => ?_, fun k q => (by rw [hb_zero] at q; cases q), fun k a b c => (hk k).mpr ⟨b, by rw [← tr_lt a]; exact c⟩⟩
    obtain ⟨q1, q2⟩ := (hk k).mp q
    exact fwW.zero (hT k q1) q1 (by rw [tr_lt (hT k q1)]; exact q2)
  rw [s1]
  refine hw_for (L := fun n i (ν : MM) => f_X5_look_L83 f_X5_look_J107 f_X5_look_J116 n 149 141 i ((mX Ξ) ν)) (s0 := ν0) 12 (fun i ν => Fr FX μ ν ∧ AlW E M Wt (ν.1 149 0) (ν.1 149 1) ∧ SoW (trE E) (tr M) Tt (ν.1 149 3) (ν.1 149 2) ∧ (∀ w, hb (ν.1 149 2) w = true → M w < 12 → hb (ν.1 149 3) (M w) = true) ∧ (i = 0 ∨ i + 1 ≤ cnt (hb (ν.1 149 3)) 12)) ⟨f0, by rw [a0, a1]; exact hA, so0, fun w q => (by rw [a2, hb_zero] at q; cases q), Or.inl rfl⟩ (by decide) (fun i hi ν hν => ?_) (fun ν hν n' => ?_)
  · obtain ⟨h1, h2, h3, h4, h5⟩ := hν
    have hS2 := hS.fx h1
    obtain ⟨ξ, e, f, t⟩ := c_lookBack (Ξ := Ξ) hS2
    have f' : Fr FX μ ξ := h1.trans (f.mono fun q i z => by unfold FX; omega)
    have ei : (Int32.ofNat i ≥ 12) = False := by rw [lge_12 (by omega)]; exact eq_false (by omega)
    have g0 : ξ.1 149 0 = ν.1 149 0 := (f _ _ (by omega)).1
    have g1 : ξ.1 149 1 = ν.1 149 1 := (f _ _ (by omega)).1
    have so := t.so hM hE h3
    by_cases c : ξ.1 149 3 = ν.1 149 3
    · right
      intro n'
      show Hw (f_X5_look_L83 f_X5_look_J107 f_X5_look_J116 (n' + 1) 149 141 (Int32.ofNat i) ((mX Ξ) ν)) _
      simp only [f_X5_look_L83, ei, ↓reduceIte, ↓hbind gI_149_3, ↓hvc (fun _ => vc_149), ↓hbind e, c, f_X5_look_J107, f_X5_look_J116]
      exact hw_ret ⟨ξ, rfl, f', by rw [g0, g1]; exact h2, so.all (trE_Eb hE) (t.cl hM hE c h4)⟩
    · left
      refine ⟨ξ, ⟨f', by rw [g0, g1]; exact h2, so, t.uv h4, Or.inr (t.more hE h3 so c h5)⟩, fun n' => ?_⟩
      show f_X5_look_L83 f_X5_look_J107 f_X5_look_J116 (n' + 1) 149 141 (Int32.ofNat i) ((mX Ξ) ν) = f_X5_look_L83 f_X5_look_J107 f_X5_look_J116 n' 149 141 (Int32.ofNat (i + 1)) ((mX Ξ) ξ)
      simp only [f_X5_look_L83, ei, ↓reduceIte, ↓hbind gI_149_3, ↓hvc (fun _ => vc_149), ↓hbind e, c, lt, i_succ]
  · obtain ⟨-, -, -, -, h5⟩ := hν
    have := cnt_le (hb (ν.1 149 3)) 12
    omega
theorem c_look (hS : SR μ n m Wt Tt E M) (hO : SOK n m Wt E M) (hT : ∀ t, hb Tt t = true → t < 12) : ∃ ν, f_X5_look 149 141 ((mX Ξ) μ) = some ((mX Ξ) ν) ∧ Fr FX μ ν ∧ CRs ν E M Wt Tt := by
  have hE := hO.Eb
  have hM := hO.2.2.2.2.1
  have hW : ∀ w, hb Wt w = true → w < 12 := fun w q => Nat.lt_of_lt_of_le (hO.2.2.2.1 w q) hO.1
  obtain ⟨x, ex, hx⟩ := c_workersIn (Ξ := Ξ) pr142 hS.2.2
  let ν0 := st (st μ 149 0 (Wt &&& (x ^^^ (-1)))) 149 1 0
  have f0 : Fr FX μ ν0 := ((Fr.refl FX μ).st ⟨rfl, by omega⟩).st ⟨rfl, by omega⟩
  have a0 : ν0.1 149 0 = Wt &&& (x ^^^ (-1)) := by
    show (st (st μ 149 0 (Wt &&& (x ^^^ (-1)))) 149 1 0).1 149 0 = _
    rw [st_ne (Or.inr (by omega)), st_same]
  have a1 : ν0.1 149 1 = 0 := st_same _ _ _ _
  have e8 : μ.1 141 8 = Wt := hS.1.2.2.1
  have s1 : f_X5_look 149 141 ((mX Ξ) μ) = f_X5_look_L25 f_X5_look_J49 f_X5_look_J58 5000 149 141 0 ((mX Ξ) ν0) := by
    simp only [f_X5_look, ↓hbind gI_141_8, e8, ↓hbind gR_141_0, ↓hvc (fun _ => pr_v pr142), ↓hbind ex, ↓hbind pI_149_0, ↓hbind pI_149_1, ν0]
  have so0 : SoW E M Wt (ν0.1 149 0) (ν0.1 149 1) := by
    rw [a0, a1]
    have hk : ∀ k, hb (Wt &&& (x ^^^ (-1))) k = true ↔ (hb Wt k = true ∧ M k = 12) := fun k => by
      rw [hb_and, hb_not, hx k]
      cases q : hb Wt k with
      | false => simp
      | true =>
        have h1 := hW k q
        have h2 := hM.1 k
        simp [h1, show k < 32 by omega]
        omega
    refine ⟨fun k q => ?_, fun k q => (by rw [hb_zero] at q; cases q), fun k a b c => (hk k).mpr ⟨b, c⟩⟩
    obtain ⟨q1, q2⟩ := (hk k).mp q
    exact fwW.zero (hW k q1) q1 q2
  have key : Hw (f_X5_look_L25 f_X5_look_J49 f_X5_look_J58 5000 149 141 0 ((mX Ξ) ν0)) (fun r => ∃ ν, r = (mX Ξ) ν ∧ Fr FX μ ν ∧ CRs ν E M Wt Tt) := by
    refine hw_for (L := fun n i (ν : MM) => f_X5_look_L25 f_X5_look_J49 f_X5_look_J58 n 149 141 i ((mX Ξ) ν)) (s0 := ν0) 12 (fun i ν => Fr FX μ ν ∧ SoW E M Wt (ν.1 149 0) (ν.1 149 1) ∧ (i = 0 ∨ i + 1 ≤ cnt (hb (ν.1 149 0)) 12)) ⟨f0, so0, Or.inl rfl⟩ (by decide) (fun i hi ν hν => ?_) (fun ν hν n' => ?_)
    · obtain ⟨h1, h3, h5⟩ := hν
      have hS2 := hS.fx h1
      obtain ⟨ξ, e, f, t⟩ := c_lookOn (Ξ := Ξ) hS2
      have f' : Fr FX μ ξ := h1.trans (f.mono fun q i z => by unfold FX; omega)
      have ei : (Int32.ofNat i ≥ 12) = False := by rw [lge_12 (by omega)]; exact eq_false (by omega)
      have so := t.so hM hE h3
      by_cases c : ξ.1 149 0 = ν.1 149 0
      · right
        intro n'
        show Hw (f_X5_look_L25 f_X5_look_J49 f_X5_look_J58 (n' + 1) 149 141 (Int32.ofNat i) ((mX Ξ) ν)) _
        simp only [f_X5_look_L25, ei, ↓reduceIte, ↓hbind gI_149_0, ↓hvc (fun _ => vc_149), ↓hbind e, c, f_X5_look_J49]
        refine hw_mono (c_look_b (hS.fx f') hO hT (so.all hE (t.cl hE c))) ?_
        rintro r ⟨ζ, rfl, a, b⟩
        exact ⟨ζ, rfl, f'.trans a, b⟩
      · left
        refine ⟨ξ, ⟨f', so, Or.inr (t.more hE h3 so c h5)⟩, fun n' => ?_⟩
        show f_X5_look_L25 f_X5_look_J49 f_X5_look_J58 (n' + 1) 149 141 (Int32.ofNat i) ((mX Ξ) ν) = f_X5_look_L25 f_X5_look_J49 f_X5_look_J58 n' 149 141 (Int32.ofNat (i + 1)) ((mX Ξ) ξ)
        simp only [f_X5_look_L25, ei, ↓reduceIte, ↓hbind gI_149_0, ↓hvc (fun _ => vc_149), ↓hbind e, c, lt, i_succ]
    · obtain ⟨-, -, h5⟩ := hν
      have := cnt_le (hb (ν.1 149 0)) 12
      omega
  obtain ⟨r, e, ν, rfl, h⟩ := key
  exact ⟨ν, by rw [s1, e], h⟩
end Cl
