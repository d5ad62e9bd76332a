/-! THE CLASS: the way that changes, followed and changed; a fit's round -/
variable {Ξ : xH}
theorem par24 {i : Nat} (h : i < 24) : (Int32.ofNat i - Int32.ofNat i / 2 * 2 = 0) = (i % 2 = 0) := by
  have key : ∀ i, i < 24 → decide (Int32.ofNat i - Int32.ofNat i / 2 * 2 = 0) = decide (i % 2 = 0) := by decide +kernel
  exact propext (decide_eq_decide.mp (key i h))
section Cn
variable {μ : MM} {C : CC} {a b t0 : Nat}
def FC5 (q _i : Nat) : Prop := q = 166 ∨ q = 167
def KEd (ν : MM) (C : CC) (a b t0 i : Nat) : Prop := ∀ j, j < i → ν.1 166 j = Int32.ofNat (kEw C a b t0 j) ∧ ν.1 167 j = Int32.ofNat (kEt C a b t0 j)
theorem CRd.fr {ν : MM} {D X : CC} {P : Nat → Nat → Prop} (h : CRd μ D X) (f : Fr P μ ν) (hp : ∀ q i, q = 163 ∨ q = 164 ∨ q = 165 → ¬ P q i) : CRd ν D X :=
  ⟨fun w c x y => by rw [(f _ _ (hp _ _ (by omega))).1]; exact h.1 w c x y, fun w c x y => by rw [(f _ _ (hp _ _ (by omega))).1]; exact h.2.1 w c x y, fun w c x y => by rw [(f _ _ (hp _ _ (by omega))).1]; exact h.2.2 w c x y⟩
theorem c_fc_loop (h : Cp C) (ha : a < 12) (hb : b < 12) (h0 : ∀ w, C w t0 ≠ b) : ∀ (d i : Nat) (ν : MM), i + d = 24 → CRd ν C C → (∀ j, j < i → kAl C a b t0 j) → KEd ν C a b t0 i → ∃ N ξ, (∀ f, f_X1_followChain_L21 f_X1_followChain_J101 (d + 1 + f) 162 (Int32.ofNat a) (Int32.ofNat b) (Int32.ofNat i) (eI (kEt C a b t0 i)) (eI (kEw C a b t0 i)) (Int32.ofNat i) ((mX Ξ) ν) = some (Int32.ofNat N, (mX Ξ) ξ)) ∧ Fr FC5 ν ξ ∧ kLen C a b t0 N ∧ KEd ξ C a b t0 N
  | 0, i, ν, hi, hr, al, ke => by
    have c : (Int32.ofNat i ≥ 24) = True := by rw [lge_24 (by omega)]; exact eq_true (by omega)
    refine ⟨i, ν, fun f => ?_, Fr.refl _ _, ⟨al, fun q => ?_⟩, ke⟩
    · rw [show 0 + 1 + f = f + 1 by omega]
      simp only [f_X1_followChain_L21, c, ↓reduceIte, f_X1_followChain_J101]
    · have := kAl_23 h ha hb h0 q; omega
  | d + 1, i, ν, hi, hr, al, ke => by
    have c : (Int32.ofNat i ≥ 24) = False := by rw [lge_24 (by omega)]; exact eq_false (by omega)
    by_cases q : kAl C a b t0 i
    · have i22 := kAl_23 h ha hb h0 q
      obtain ⟨q1, q2⟩ := q
      have n1 : (Int32.ofNat (kEt C a b t0 i) = -1) = False := oN_n1 (by omega)
      have n2 : (Int32.ofNat (kEw C a b t0 i) = -1) = False := oN_n1 (by omega)
      obtain ⟨ν1, hd⟩ : ∃ x, x = st (st ν 166 i (Int32.ofNat (kEw C a b t0 i))) 167 i (Int32.ofNat (kEt C a b t0 i)) := ⟨_, rfl⟩
      have f1 : Fr FC5 ν ν1 := by rw [hd]; exact ((Fr.refl _ _).st (Or.inl rfl)).st (Or.inr rfl)
      have hr1 := hr.fr f1 fun q i a z => by unfold FC5 at z; omega
      obtain ⟨N, ξ, e, f2, k1, k2⟩ := c_fc_loop h ha hb h0 d (i + 1) ν1 (by omega) hr1 (fun j hj => by
        by_cases z : j = i
        · rw [z]; exact ⟨q1, q2⟩
        · exact al j (by omega)) (fun j hj => by
        rw [hd]
        by_cases z : j = i
        · rw [z, st_same, st_ne (Or.inl (by omega)), st_same]; exact ⟨rfl, rfl⟩
        · rw [st_ne (Or.inl (by omega)), st_ne (Or.inr z), st_ne (Or.inr z), st_ne (Or.inl (by omega))]; exact ke j (by omega))
      refine ⟨N, ξ, fun f => ?_, f1.trans f2, k1, k2⟩
      rw [show d + 1 + 1 + f = d + 1 + f + 1 by omega, ← e f, eI_lt q1, eI_lt q2]
      have pr := par24 (i := i) (by omega)
      rcases Nat.mod_two_eq_zero_or_one i with z | z
      · have p : (Int32.ofNat i - Int32.ofNat i / 2 * 2 = 0) = True := by rw [pr]; exact eq_true z
        have ec := c_cellOf (Ξ := Ξ) (μ := ν1) aI_163 q1 hb
        have ev : ν1.1 163 (kEw C a b t0 i * 12 + b) = eI (kEt C a b t0 (i + 1)) := by
          rw [hr1.1 _ _ q1 hb]
          obtain ⟨k, rfl⟩ : ∃ k, i = 2 * k := ⟨i / 2, by omega⟩
          rw [(kE_odd k).2, (kE_even k).1]; rfl
        have ew : kEw C a b t0 (i + 1) = kEw C a b t0 i := by
          obtain ⟨k, rfl⟩ : ∃ k, i = 2 * k := ⟨i / 2, by omega⟩
          rw [(kE_odd k).1, (kE_even k).1]
        rw [ev] at ec
        rw [ew, eI_lt q1]
        rw [hd] at ec ⊢
        simp only [f_X1_followChain_L21, c, ↓reduceIte, n1, n2, ↓hbind gR_162_3, ↓hbind (sI_166 (show i < 24 by omega)), ↓hbind gR_162_4, ↓hbind (sI_167 (show i < 24 by omega)), lt_go, i_succ, p, ↓hbind gR_162_0, ↓hbind ec, f_X1_followChain_J95]
      · have p : (Int32.ofNat i - Int32.ofNat i / 2 * 2 = 0) = False := by rw [pr]; exact eq_false (by omega)
        have ec := c_cellOf (Ξ := Ξ) (μ := ν1) aI_164 q2 ha
        have ev : ν1.1 164 (kEt C a b t0 i * 12 + a) = eI (kEw C a b t0 (i + 1)) := by
          rw [hr1.2.1 _ _ q2 ha]
          obtain ⟨k, rfl⟩ : ∃ k, i = 2 * k + 1 := ⟨i / 2, by omega⟩
          rw [show 2 * k + 1 + 1 = 2 * (k + 1) by omega, (kE_odd k).2, (kE_even (k + 1)).1]; rfl
        have ew : kEt C a b t0 (i + 1) = kEt C a b t0 i := by
          obtain ⟨k, rfl⟩ : ∃ k, i = 2 * k + 1 := ⟨i / 2, by omega⟩
          rw [show 2 * k + 1 + 1 = 2 * (k + 1) by omega, (kE_odd k).2, (kE_even (k + 1)).2]
        rw [ev] at ec
        rw [ew, eI_lt q2]
        rw [hd] at ec ⊢
        simp only [f_X1_followChain_L21, c, ↓reduceIte, n1, n2, ↓hbind gR_162_3, ↓hbind (sI_166 (show i < 24 by omega)), ↓hbind gR_162_4, ↓hbind (sI_167 (show i < 24 by omega)), lt_go, i_succ, p, ↓hbind gR_162_1, ↓hbind ec, f_X1_followChain_J95]
    · refine ⟨i, ν, fun f => ?_, Fr.refl _ _, ⟨al, q⟩, ke⟩
      rw [show d + 1 + 1 + f = d + 1 + f + 1 by omega]
      by_cases x : kEt C a b t0 i < 12
      · have y : ¬ kEw C a b t0 i < 12 := fun y => q ⟨y, x⟩
        have n1 : (Int32.ofNat (kEt C a b t0 i) = -1) = False := oN_n1 (by omega)
        rw [eI_lt x, eI_ge (by omega)]
        simp only [f_X1_followChain_L21, c, ↓reduceIte, n1, n1_n1, f_X1_followChain_J101]
      · rw [eI_ge (show 12 ≤ kEt C a b t0 i by omega)]
        simp only [f_X1_followChain_L21, c, ↓reduceIte, n1_n1, f_X1_followChain_J101]
theorem c_followChain (h : Cp C) (ha : a < 12) (hb : b < 12) (ht : t0 < 12) (h0 : ∀ w, C w t0 ≠ b) (hr : CRd μ C C) : ∃ N ξ, f_X1_followChain 162 (Int32.ofNat t0) (Int32.ofNat a) (Int32.ofNat b) ((mX Ξ) μ) = some (Int32.ofNat N, (mX Ξ) ξ) ∧ Fr FC5 μ ξ ∧ kLen C a b t0 N ∧ KEd ξ C a b t0 N := by
  obtain ⟨N, ξ, e, f, k1, k2⟩ := c_fc_loop (Ξ := Ξ) h ha hb h0 24 0 μ (by omega) hr (fun j z => absurd z (Nat.not_lt_zero _)) (fun j z => absurd z (Nat.not_lt_zero _))
  have ec := c_cellOf (Ξ := Ξ) (μ := μ) aI_164 ht ha
  rw [hr.2.1 _ _ ht ha] at ec
  have e0 : kEt C a b t0 0 = t0 := rfl
  have e1 : kEw C a b t0 0 = wA C t0 a := rfl
  have e : f_X1_followChain_L21 f_X1_followChain_J101 5000 162 (Int32.ofNat a) (Int32.ofNat b) 0 (Int32.ofNat t0) (eI (wA C t0 a)) 0 ((mX Ξ) μ) = some (Int32.ofNat N, (mX Ξ) ξ) := by
    have := e 4975
    rw [e0, e1, eI_lt ht] at this
    exact this
  refine ⟨N, ξ, ?_, f, k1, k2⟩
  simp only [f_X1_followChain, ↓hbind gR_162_1, ↓hbind ec, e]
/-- without the way's first edges; with them changed -/
noncomputable def Di (C : CC) (a b t0 i : Nat) : CC := fun v u => if pb (kIn C a b t0 i v u) then 12 else C v u
noncomputable def Pi' (C : CC) (a b t0 i : Nat) (Y : CC) : CC := fun v u => if pb (kIn C a b t0 i v u) then kw C a b t0 v u else Y v u
theorem kIn_succ {i w t : Nat} : kIn C a b t0 (i + 1) w t ↔ (kIn C a b t0 i w t ∨ (w = kEw C a b t0 i ∧ t = kEt C a b t0 i)) := by
  constructor
  · rintro ⟨j, j1, j2, j3⟩
    by_cases z : j = i
    · rw [z] at j2 j3; exact Or.inr ⟨j2.symm, j3.symm⟩
    · exact Or.inl ⟨j, by omega, j2, j3⟩
  · rintro (⟨j, j1, j2, j3⟩ | ⟨rfl, rfl⟩)
    · exact ⟨j, by omega, j2, j3⟩
    · exact ⟨i, by omega, rfl, rfl⟩
theorem Di_t {i w t : Nat} (h : kIn C a b t0 i w t) : Di C a b t0 i w t = 12 := by unfold Di; rw [pb_t.mpr h]; rfl
theorem Di_f {i w t : Nat} (h : ¬ kIn C a b t0 i w t) : Di C a b t0 i w t = C w t := by unfold Di; rw [pb_f h]; rfl
theorem Pi_t {i w t : Nat} {Y : CC} (h : kIn C a b t0 i w t) : Pi' C a b t0 i Y w t = kw C a b t0 w t := by unfold Pi'; rw [pb_t.mpr h]; rfl
theorem Pi_f {i w t : Nat} {Y : CC} (h : ¬ kIn C a b t0 i w t) : Pi' C a b t0 i Y w t = Y w t := by unfold Pi'; rw [pb_f h]; rfl
theorem Di_0 : Di C a b t0 0 = C := by
  funext w t
  exact Di_f fun ⟨j, z, _⟩ => absurd z (Nat.not_lt_zero _)
theorem Pi_0 {Y : CC} : Pi' C a b t0 0 Y = Y := by
  funext w t
  exact Pi_f fun ⟨j, z, _⟩ => absurd z (Nat.not_lt_zero _)
theorem Di_succ (i : Nat) : setC (Di C a b t0 i) (kEw C a b t0 i) (kEt C a b t0 i) 12 = Di C a b t0 (i + 1) := by
  funext w t
  by_cases z : w = kEw C a b t0 i ∧ t = kEt C a b t0 i
  · rw [z.1, z.2, setC_same, Di_t (kIn_succ.mpr (Or.inr ⟨rfl, rfl⟩))]
  · rw [setC_ne z]
    by_cases y : kIn C a b t0 i w t
    · rw [Di_t y, Di_t (kIn_succ.mpr (Or.inl y))]
    · rw [Di_f y, Di_f fun x => (kIn_succ.mp x).elim y z]
theorem Pi_succ (i : Nat) (Y : CC) : setC (Pi' C a b t0 i Y) (kEw C a b t0 i) (kEt C a b t0 i) (kw C a b t0 (kEw C a b t0 i) (kEt C a b t0 i)) = Pi' C a b t0 (i + 1) Y := by
  funext w t
  by_cases z : w = kEw C a b t0 i ∧ t = kEt C a b t0 i
  · rw [z.1, z.2, setC_same, Pi_t (kIn_succ.mpr (Or.inr ⟨rfl, rfl⟩))]
  · rw [setC_ne z]
    by_cases y : kIn C a b t0 i w t
    · rw [Pi_t y, Pi_t (kIn_succ.mpr (Or.inl y))]
    · rw [Pi_f y, Pi_f fun x => (kIn_succ.mp x).elim y z]
theorem Di_sub (i : Nat) : Sub (Di C a b t0 i) C := fun w t => by
  by_cases y : kIn C a b t0 i w t
  · exact Or.inr (Di_t y)
  · exact Or.inl (Di_f y)
theorem Pi_sub (h : Cp C) (ha : a < 12) (hb : b < 12) (h0 : ∀ w, C w t0 ≠ b) {N : Nat} (hN : kLen C a b t0 N) (i : Nat) : Sub (Pi' C a b t0 i (Di C a b t0 N)) (kw C a b t0) := fun w t => by
  by_cases y : kIn C a b t0 i w t
  · exact Or.inl (Pi_t y)
  · rw [Pi_f y]
    by_cases z : kIn C a b t0 N w t
    · exact Or.inr (Di_t z)
    · rw [Di_f z, kw_out h ha hb h0 hN z]; exact Or.inl rfl
theorem Pi_end (h : Cp C) (ha : a < 12) (hb : b < 12) (h0 : ∀ w, C w t0 ≠ b) {N : Nat} (hN : kLen C a b t0 N) : Pi' C a b t0 N (Di C a b t0 N) = kw C a b t0 ∧ Pi' C a b t0 N C = kw C a b t0 := by
  constructor
  · funext w t
    by_cases y : kIn C a b t0 N w t
    · exact Pi_t y
    · rw [Pi_f y, Di_f y, kw_out h ha hb h0 hN y]
  · funext w t
    by_cases y : kIn C a b t0 N w t
    · exact Pi_t y
    · rw [Pi_f y, kw_out h ha hb h0 hN y]
def FC4 (q i : Nat) : Prop := (163 ≤ q ∧ q ≤ 167) ∨ (q = 162 ∧ i = 5)
theorem kLen_23 (h : Cp C) (ha : a < 12) (hb : b < 12) (h0 : ∀ w, C w t0 ≠ b) {N : Nat} (hN : kLen C a b t0 N) : N ≤ 23 := by
  apply Nat.le_of_not_lt
  intro z
  have := kAl_23 h ha hb h0 (hN.1 (N - 1) (by omega))
  omega
theorem c_ch_clear (h : Cp C) (ha : a < 12) (hb : b < 12) (h0 : ∀ w, C w t0 ≠ b) {N : Nat} (hN : kLen C a b t0 N) : ∀ (d i : Nat) (ν : MM), i + d = N → CRd ν (Di C a b t0 i) C → KEd ν C a b t0 N → ∃ ξ, (∀ f K, f_X1_change_L12 K (d + 1 + f) 162 (Int32.ofNat a) (Int32.ofNat b) (Int32.ofNat N) (Int32.ofNat i) ((mX Ξ) ν) = K 162 (Int32.ofNat a) (Int32.ofNat b) (Int32.ofNat N) ((mX Ξ) ξ)) ∧ Fr FC2 ν ξ ∧ CRd ξ (Di C a b t0 N) C
  | 0, i, ν, hi, hr, ke => by
    have n23 := kLen_23 h ha hb h0 hN
    have c : (Int32.ofNat i ≥ Int32.ofNat N) = True := by rw [oN_ge (by omega) (by omega)]; exact eq_true (by omega)
    refine ⟨ν, fun f K => ?_, Fr.refl _ _, by rw [show N = i by omega]; exact hr⟩
    rw [show 0 + 1 + f = f + 1 by omega]
    simp only [f_X1_change_L12, c, ↓reduceIte]
  | d + 1, i, ν, hi, hr, ke => by
    have n23 := kLen_23 h ha hb h0 hN
    have c : (Int32.ofNat i ≥ Int32.ofNat N) = False := by rw [oN_ge (by omega) (by omega)]; exact eq_false (by omega)
    have c2 : (Int32.ofNat i ≥ 24) = False := by rw [lge_24 (by omega)]; exact eq_false (by omega)
    have i24 : i < 24 := by omega
    have q := hN.1 i (by omega)
    obtain ⟨k1, k2⟩ := ke i (by omega)
    have co := kAl_co h ha hb q
    have kc : kco a b i < 12 := by unfold kco; split <;> assumption
    obtain ⟨ζ, e1, f1, r1⟩ := c_clear162 (Ξ := Ξ) h (Di_sub i) co kc hr
    rw [Di_succ] at r1
    obtain ⟨ξ, e2, f2, r2⟩ := c_ch_clear h ha hb h0 hN d (i + 1) ζ (by omega) r1 (fun j hj => by rw [(f1 _ _ (by unfold FC2; omega)).1, (f1 _ _ (by unfold FC2; omega)).1]; exact ke j hj)
    refine ⟨ξ, fun f K => ?_, f1.trans f2, r2⟩
    rw [show d + 1 + 1 + f = d + 1 + f + 1 by omega, ← e2 f K]
    have pr := par24 i24
    unfold kco at e1
    by_cases z : i % 2 = 0
    · have p : (Int32.ofNat i - Int32.ofNat i / 2 * 2 = 0) = True := by rw [pr]; exact eq_true z
      rw [if_pos z] at e1
      simp only [f_X1_change_L12, c, c2, ↓reduceIte, ↓hbind gR_162_3, ↓hbind (aI_166 i24), k1, ↓hbind gR_162_4, ↓hbind (aI_167 i24), k2, p, f_X1_change_J53, ↓hvc (fun _ => vc_162), ↓hbind e1, lt_go, i_succ]
    · have p : (Int32.ofNat i - Int32.ofNat i / 2 * 2 = 0) = False := by rw [pr]; exact eq_false z
      rw [if_neg z] at e1
      simp only [f_X1_change_L12, c, c2, ↓reduceIte, ↓hbind gR_162_3, ↓hbind (aI_166 i24), k1, ↓hbind gR_162_4, ↓hbind (aI_167 i24), k2, p, f_X1_change_J53, ↓hvc (fun _ => vc_162), ↓hbind e1, lt_go, i_succ]
theorem c_ch_put (h : Cp C) (ha : a < 12) (hb : b < 12) (ab : a ≠ b) (h0 : ∀ w, C w t0 ≠ b) {N V0 : Nat} (hV0 : V0 ≤ 12) (hN : kLen C a b t0 N) : ∀ (d i : Nat) (ν : MM) (V : Nat), i + d = N → CRd ν (Pi' C a b t0 i (Di C a b t0 N)) (Pi' C a b t0 i C) → KEd ν C a b t0 N → ν.1 162 5 = Int32.ofNat V → V0 ≤ V → V ≤ max V0 (max (a + 1) (b + 1)) → (1 ≤ i → b + 1 ≤ V) → ∃ ξ V', (∀ f, f_X1_change_L65 f_X1_change_J115 (d + 1 + f) 162 (Int32.ofNat a) (Int32.ofNat b) (Int32.ofNat N) (Int32.ofNat i) ((mX Ξ) ν) = some ((mX Ξ) ξ)) ∧ Fr FC3 ν ξ ∧ CRd ξ (kw C a b t0) (kw C a b t0) ∧ ξ.1 162 5 = Int32.ofNat V' ∧ V0 ≤ V' ∧ V' ≤ max V0 (max (a + 1) (b + 1)) ∧ (1 ≤ N → b + 1 ≤ V')
  | 0, i, ν, V, hi, hr, ke, h5, v1, v2, v3 => by
    have n23 := kLen_23 h ha hb h0 hN
    have c : (Int32.ofNat i ≥ Int32.ofNat N) = True := by rw [oN_ge (by omega) (by omega)]; exact eq_true (by omega)
    have iN : i = N := by omega
    rw [iN, (Pi_end h ha hb h0 hN).1, (Pi_end h ha hb h0 hN).2] at hr
    refine ⟨ν, V, fun f => ?_, Fr.refl _ _, hr, h5, v1, v2, fun z => v3 (by omega)⟩
    rw [show 0 + 1 + f = f + 1 by omega]
    simp only [f_X1_change_L65, c, ↓reduceIte, f_X1_change_J115]
  | d + 1, i, ν, V, hi, hr, ke, h5, v1, v2, v3 => by
    have n23 := kLen_23 h ha hb h0 hN
    have c : (Int32.ofNat i ≥ Int32.ofNat N) = False := by rw [oN_ge (by omega) (by omega)]; exact eq_false (by omega)
    have c2 : (Int32.ofNat i ≥ 24) = False := by rw [lge_24 (by omega)]; exact eq_false (by omega)
    have i24 : i < 24 := by omega
    have q := hN.1 i (by omega)
    obtain ⟨k1, k2⟩ := ke i (by omega)
    have co := kw_in h ha hb q ab
    have kc : kco b a i < 12 := by unfold kco; split <;> assumption
    have kle : kco b a i + 1 ≤ max (a + 1) (b + 1) := by unfold kco; split <;> omega
    obtain ⟨ζ, e1, f1, r1, g5⟩ := c_put162 (Ξ := Ξ) (kw_Cp h ha hb h0) (Pi_sub h ha hb h0 hN i) co kc (show V ≤ 12 by omega) h5 hr
    rw [← co, Pi_succ] at r1
    have r1' : CRd ζ (Pi' C a b t0 (i + 1) (Di C a b t0 N)) (Pi' C a b t0 (i + 1) C) := by
      have := Pi_succ (C := C) (a := a) (b := b) (t0 := t0) i C
      rw [← this]; exact r1
    obtain ⟨ξ, V', e2, f2, r2⟩ := c_ch_put h ha hb ab h0 hV0 hN d (i + 1) ζ (max V (kco b a i + 1)) (by omega) r1' (fun j hj => by rw [(f1 _ _ (by unfold FC3; omega)).1, (f1 _ _ (by unfold FC3; omega)).1]; exact ke j hj) g5 (by omega) (by omega) (fun _ => by
      by_cases z : i = 0
      · have : kco b a i = b := by unfold kco; rw [z]; rfl
        omega
      · have := v3 (by omega); omega)
    refine ⟨ξ, V', fun f => ?_, f1.trans f2, r2⟩
    rw [show d + 1 + 1 + f = d + 1 + f + 1 by omega, ← e2 f]
    have pr := par24 i24
    unfold kco at e1
    by_cases z : i % 2 = 0
    · have p : (Int32.ofNat i - Int32.ofNat i / 2 * 2 = 0) = True := by rw [pr]; exact eq_true z
      rw [if_pos z] at e1
      simp only [f_X1_change_L65, c, c2, ↓reduceIte, ↓hbind gR_162_3, ↓hbind (aI_166 i24), k1, ↓hbind gR_162_4, ↓hbind (aI_167 i24), k2, p, f_X1_change_J106, ↓hvc (fun _ => vc_162), ↓hbind e1, lt_go, i_succ]
    · have p : (Int32.ofNat i - Int32.ofNat i / 2 * 2 = 0) = False := by rw [pr]; exact eq_false z
      rw [if_neg z] at e1
      simp only [f_X1_change_L65, c, c2, ↓reduceIte, ↓hbind gR_162_3, ↓hbind (aI_166 i24), k1, ↓hbind gR_162_4, ↓hbind (aI_167 i24), k2, p, f_X1_change_J106, ↓hvc (fun _ => vc_162), ↓hbind e1, lt_go, i_succ]
theorem c_change162 (h : Cp C) (ha : a < 12) (hb : b < 12) (ab : a ≠ b) (ht : t0 < 12) (h0 : ∀ w, C w t0 ≠ b) {V : Nat} (hV : V ≤ 12) (hr : CRd μ C C) (h5 : μ.1 162 5 = Int32.ofNat V) (hc : wA C t0 a < 12) : ∃ ξ V', f_X1_change 162 (Int32.ofNat t0) (Int32.ofNat a) (Int32.ofNat b) ((mX Ξ) μ) = some ((mX Ξ) ξ) ∧ Fr FC4 μ ξ ∧ CRd ξ (kw C a b t0) (kw C a b t0) ∧ ξ.1 162 5 = Int32.ofNat V' ∧ max V (b + 1) ≤ V' ∧ V' ≤ max V (max (a + 1) (b + 1)) := by
  obtain ⟨N, ν1, e1, f1, hN, ke⟩ := c_followChain (Ξ := Ξ) h ha hb ht h0 hr
  have n23 := kLen_23 h ha hb h0 hN
  have n1 : 1 ≤ N := by
    apply Nat.le_of_not_lt
    intro z
    have : N = 0 := by omega
    rw [this] at hN
    exact hN.2 ⟨hc, ht⟩
  have r1 := hr.fr f1 fun q i a z => by unfold FC5 at z; omega
  obtain ⟨ν2, e2, f2, r2⟩ := c_ch_clear (Ξ := Ξ) h ha hb h0 hN N 0 ν1 (by omega) (by rw [Di_0]; exact r1) ke
  obtain ⟨ξ, V', e3, f3, r3, g5, v1, v2, v3⟩ := c_ch_put (Ξ := Ξ) h ha hb ab h0 hV hN N 0 ν2 V (by omega) (by rw [Pi_0, Pi_0]; exact r2) (fun j hj => by rw [(f2 _ _ (by unfold FC2; omega)).1, (f2 _ _ (by unfold FC2; omega)).1]; exact ke j hj) (by rw [(f2 _ _ (by unfold FC2; omega)).1, (f1 _ _ (by unfold FC5; omega)).1]; exact h5) (Nat.le_refl V) (by omega) (fun z => absurd z (by omega))
  have e2 : ∀ K, f_X1_change_L12 K 5000 162 (Int32.ofNat a) (Int32.ofNat b) (Int32.ofNat N) 0 ((mX Ξ) ν1) = K 162 (Int32.ofNat a) (Int32.ofNat b) (Int32.ofNat N) ((mX Ξ) ν2) := fun K => by
    have := e2 (5000 - (N + 1)) K
    rw [show N + 1 + (5000 - (N + 1)) = 5000 by omega] at this
    exact this
  have e3 : f_X1_change_L65 f_X1_change_J115 5000 162 (Int32.ofNat a) (Int32.ofNat b) (Int32.ofNat N) 0 ((mX Ξ) ν2) = some ((mX Ξ) ξ) := by
    have := e3 (5000 - (N + 1))
    rw [show N + 1 + (5000 - (N + 1)) = 5000 by omega] at this
    exact this
  refine ⟨ξ, V', ?_, ((f1.mono fun q i z => by unfold FC5 at z; unfold FC4; omega).trans (f2.mono fun q i z => by unfold FC2 at z; unfold FC4; omega)).trans (f3.mono fun q i z => by unfold FC3 at z; unfold FC4; omega), r3, g5, by have := v3 n1; omega, v2⟩
  simp only [f_X1_change, ↓hvc (fun _ => vc_162), ↓hbind e1, e2, f_X1_change_J62, e3]
end Cn
