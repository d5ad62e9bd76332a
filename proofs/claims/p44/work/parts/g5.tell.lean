/-! THE LAW: digits, words, a text sent -/
def dgs (v : Nat) : List Nat := if v < 10 then [48 + v] else [48 + v / 10, 48 + v % 10]
section G5
variable {Ξ : xH} {μ ν : MM} {B : Bk} {H : List Bk} {L : List Nat}
theorem dg_1 : ∀ v, v < 100 → (48 : Int64) + ((Int32.ofNat v / 1) - (Int32.ofNat v / 1) / (10 : Int32) * (10 : Int32)).toInt64 = Int64.ofNat (48 + v % 10) := by decide +kernel
theorem dg_10 : ∀ v, v < 100 → (48 : Int64) + ((Int32.ofNat v / 10) - (Int32.ofNat v / 10) / (10 : Int32) * (10 : Int32)).toInt64 = Int64.ofNat (48 + v / 10) := by decide +kernel
theorem dg_a : ∀ v, v < 10 → (1 : Int32) > Int32.ofNat v / 10 := by decide +kernel
theorem dg_b : ∀ v, v < 100 → 10 ≤ v → ¬ (1 : Int32) > Int32.ofNat v / 10 := by decide +kernel
theorem dg_c : ∀ v, v < 100 → (10 : Int32) > Int32.ofNat v / 10 := by decide +kernel
theorem dg_end (f : Nat) (v : Int32) (h : xH) : f_L_digits_L18 f_L_digits_J46 (f + 1) 0 168 v 0 h = some h := by
  have c : ((0 : Int32) ≤ 0) := by decide
  simp only [f_L_digits_L18, if_pos c, f_L_digits_J46]
theorem dg_last (h : TPs Ξ B H L ν) {v : Nat} (hv : v < 100) (hl : L.length < 300) : ∃ ν', (∀ f, f_L_digits_L18 f_L_digits_J46 (f + 1 + 1) 0 168 (Int32.ofNat v) 1 (mX Ξ ν) = some (mX Ξ ν')) ∧ TPs Ξ B H (L ++ [48 + v % 10]) ν' ∧ Fr PF ν ν' := by
  obtain ⟨ν1, e1, t1, f1⟩ := put_go h (c := 48 + v % 10) (by omega) (by omega) hl
  have a1 : ¬ ((1 : Int32) ≤ 0) := by decide
  have a2 : ¬ ((1 : Int32) = 0) := by decide
  have a3 : (1 : Int32) / 10 = 0 := by decide
  refine ⟨ν1, fun f => ?_, t1, f1⟩
  rw [← dg_end f (Int32.ofNat v) (mX Ξ ν1)]
  generalize hg : f_L_digits_L18 f_L_digits_J46 (f + 1) = G
  show (if (1 : Int32) ≤ 0 then f_L_digits_J46 (mX Ξ ν) else if (1 : Int32) = 0 then none else (f_L_put 0 168 ((48 : Int64) + ((Int32.ofNat v / 1) - (Int32.ofNat v / 1) / (10 : Int32) * (10 : Int32)).toInt64) (mX Ξ ν)).bind fun h2 => lt ((1 : Int32) / (10 : Int32)) fun v3 => f_L_digits_L18 f_L_digits_J46 (f + 1) 0 168 (Int32.ofNat v) v3 h2) = _
  rw [if_neg a1, if_neg a2, dg_1 v hv, e1, Option.bind_some, a3, hg]
  rfl
theorem digits_go (h : TPs Ξ B H L ν) {v : Nat} (hv : v < 100) (hl : L.length + 2 ≤ 300) : ∃ ν', f_L_digits 0 168 (Int32.ofNat v) (mX Ξ ν) = some (mX Ξ ν') ∧ TPs Ξ B H (L ++ dgs v) ν' ∧ Fr PF ν ν' := by
  unfold dgs
  by_cases c : v < 10
  · obtain ⟨ν1, e1, t1, f1⟩ := dg_last h hv (by omega)
    rw [if_pos c]
    rw [show v % 10 = v by omega] at t1
    refine ⟨ν1, ?_, t1, f1⟩
    have m : ∀ f, f_L_digits_L2 (f_L_digits_L18 f_L_digits_J46 5000) (f + 1) 0 168 (Int32.ofNat v) 1 (mX Ξ ν) = some (mX Ξ ν1) := fun f => by
      have e1 := e1 4998
      rw [← e1]
      generalize f_L_digits_L18 f_L_digits_J46 (4998 + 1 + 1) = G
      show (if (1 : Int32) > Int32.ofNat v / 10 then _ else _) = _
      rw [if_pos (dg_a v c)]
    exact m 4999
  · rw [if_neg c]
    obtain ⟨ν1, e1, t1, f1⟩ := put_go h (c := 48 + v / 10) (by omega) (by omega) (by omega)
    obtain ⟨ν2, e2, t2, f2⟩ := dg_last t1 hv (by rw [List.length_append]; show L.length + 1 < 300; omega)
    rw [List.append_assoc] at t2
    refine ⟨ν2, ?_, t2, f1.trans f2⟩
    have a1 : ¬ ((10 : Int32) ≤ 0) := by decide
    have a2 : ¬ ((10 : Int32) = 0) := by decide
    have a3 : (10 : Int32) / 10 = 1 := by decide
    have k : f_L_digits_L18 f_L_digits_J46 5000 0 168 (Int32.ofNat v) 10 (mX Ξ ν) = some (mX Ξ ν2) := by
      have e2 := e2 4997
      rw [← e2]
      have m : ∀ G : Nat → Nat → Int32 → Int32 → xH → Option xH, (if (10 : Int32) ≤ 0 then f_L_digits_J46 (mX Ξ ν) else if (10 : Int32) = 0 then none else (f_L_put 0 168 ((48 : Int64) + ((Int32.ofNat v / 10) - (Int32.ofNat v / 10) / (10 : Int32) * (10 : Int32)).toInt64) (mX Ξ ν)).bind fun h2 => lt ((10 : Int32) / (10 : Int32)) fun v3 => G 0 168 (Int32.ofNat v) v3 h2) = G 0 168 (Int32.ofNat v) 1 (mX Ξ ν1) := fun G => by
        rw [if_neg a1, if_neg a2, dg_10 v hv, e1, Option.bind_some, a3]
        rfl
      exact m (f_L_digits_L18 f_L_digits_J46 (4997 + 1 + 1))
    have m : ∀ f (G : Nat → Nat → Int32 → Int32 → xH → Option xH), f_L_digits_L2 G (f + 1 + 1) 0 168 (Int32.ofNat v) 1 (mX Ξ ν) = G 0 168 (Int32.ofNat v) 10 (mX Ξ ν) := fun f G => by
      have b1 := dg_b v hv (by omega)
      have b2 := dg_c v hv
      have b3 : (1 : Int32) * 10 = 10 := by decide
      simp only [f_L_digits_L2, if_neg b1, lt, b3, if_pos b2]
    have := m 4998 (f_L_digits_L18 f_L_digits_J46 5000)
    rw [k] at this
    exact this
/-- the constants that a text is made of -/
def sNt (i : Nat) : List Nat := (sByt.getD i []).map fun x => x.toBitVec.toNat
theorem sNt_ok : ∀ i, i < 21 → (1000001 ≤ 1000001 + i ∧ 1000001 + i < 1000001 + sLen.length) ∧ sLen.getD (1000001 + i - 1000001) 0 = (sNt i).length ∧ (sNt i).length ≤ 40 ∧ ∀ j, j < (sNt i).length → (1 ≤ (sNt i).getD j 0 ∧ (sNt i).getD j 0 < 256) ∧ ((sByt.getD (1000001 + i - 1000001) []).getD j 0).toInt64 = Int64.ofNat ((sNt i).getD j 0) := by decide +kernel
theorem take_s {l : List Nat} {j : Nat} (h : j < l.length) : l.take (j + 1) = l.take j ++ [l.getD j 0] := by
  rw [List.take_add_one, List.getElem?_eq_getElem h]
  simp [List.getD_eq_getElem?_getD, List.getElem?_eq_getElem h]
theorem tell_go (h : TPs Ξ B H L ν) {i : Nat} (hi : i < 21) (hl : L.length + (sNt i).length ≤ 300) : ∃ ν', f_L_tell 0 168 (1000001 + i) (mX Ξ ν) = some (mX Ξ ν') ∧ TPs Ξ B H (L ++ sNt i) ν' ∧ Fr PF ν ν' := by
  obtain ⟨s1, s2, s3, s4⟩ := sNt_ok i hi
  have el : ∀ h, f_J0_length_8abf5 (1000001 + i) h = some (Int32.ofNat (sNt i).length, h) := fun h => by
    unfold f_J0_length_8abf5
    rw [if_pos s1, s2]
  have ec : ∀ j h, j < (sNt i).length → f_J0_charAt_5068e (1000001 + i) (Int32.ofNat j) h = some ((sByt.getD (1000001 + i - 1000001) []).getD j 0, h) := fun j h hj => by
    unfold f_J0_charAt_5068e
    obtain ⟨n1, n2⟩ := ain_nat hj (by omega)
    rw [s2, if_pos ⟨s1, n1⟩, n2]
  have key : ∀ d j (ν : MM), j + d = (sNt i).length → TPs Ξ B H (L ++ (sNt i).take j) ν → ∃ ν', (∀ f, f_L_tell_L2 f_L_tell_J27 (d + 1 + f) 0 168 (1000001 + i) (Int32.ofNat j) (mX Ξ ν) = some (mX Ξ ν')) ∧ TPs Ξ B H (L ++ sNt i) ν' ∧ Fr PF ν ν' := by
    intro d
    induction d with
    | zero =>
      intro j ν hj ht
      have j0 : j = (sNt i).length := by omega
      subst j0
      have c0 : (Int32.ofNat (sNt i).length ≥ Int32.ofNat (sNt i).length) := by rw [oN_ge (by omega) (by omega)]; omega
      rw [List.take_length] at ht
      refine ⟨ν, fun f => ?_, ht, Fr.refl _ _⟩
      rw [show 0 + 1 + f = f + 1 by omega]
      simp only [f_L_tell_L2, ↓hbind (el (mX Ξ ν)), if_pos c0, f_L_tell_J27]
    | succ d ih =>
      intro j ν hj ht
      have jl : j < (sNt i).length := by omega
      obtain ⟨⟨b1, b2⟩, b3⟩ := s4 j jl
      have c0 : ¬ (Int32.ofNat j ≥ Int32.ofNat (sNt i).length) := by rw [oN_ge (by omega) (by omega)]; omega
      obtain ⟨ν1, e1, t1, f1⟩ := put_go ht (c := (sNt i).getD j 0) b1 b2 (by rw [List.length_append, List.length_take]; omega)
      rw [List.append_assoc, ← take_s jl] at t1
      obtain ⟨ν2, e2, t2, f2⟩ := ih (j + 1) ν1 (by omega) t1
      refine ⟨ν2, fun f => ?_, t2, f1.trans f2⟩
      rw [← b3] at e1
      rw [show d + 1 + 1 + f = (d + 1 + f) + 1 by omega, ← e2 f]
      simp only [f_L_tell_L2, ↓hbind (el (mX Ξ ν)), if_neg c0, ↓hbind (ec j (mX Ξ ν) jl), ↓hbind e1, lt, i_succ]
  obtain ⟨ν', e, t, f⟩ := key (sNt i).length 0 ν (by omega) (by rw [List.take_zero, List.append_nil]; exact h)
  refine ⟨ν', ?_, t, f⟩
  have := e (4999 - (sNt i).length)
  rw [show (sNt i).length + 1 + (4999 - (sNt i).length) = 5000 by omega] at this
  exact this
/-- the text is sent: the class reads what was told -/
theorem texts_go (h : TPs Ξ B H L ν) (hl : L.length ≤ 300) (hx : (shI ++ Ξ).length + 1 < 1000000) {P : Bk} {q : Nat} {kr : Bool} (hp : ∀ y : Nat → Nat, (∀ k, k < L.length → y k = L.getD k 0) → txAll L.length y = .inl (q, P, kr)) :
    ∃ Δ ν' B', f_L_texts 0 168 (mX Ξ ν) = some (Int32.ofNat (sz (bM B')), mX (Ξ ++ Δ) ν') ∧ Gw 1 Δ ∧ Kp P B' ∧ TPs (Ξ ++ Δ) B' [] [] ν' ∧ Fr PF ν ν' := by
  obtain ⟨h1, ⟨A, hC, hA, hB1, hH, hN, hY⟩, h3, h4⟩ := h
  have e20 := n20 L.length (by omega)
  have a0 : aI (mX Ξ ν) 168 0 = some (ν.1 168 0) := t_a h1 (show 0 < 8 by decide)
  have key : ∃ ν1 A1, (f_L_texts 0 168 (mX Ξ ν) = f_L_texts_J16 0 168 (Int32.ofNat L.length) (mX Ξ ν1)) ∧ RC TT ν1 A1 ∧ AOK A1 ∧ L.length ≤ aN A1 ∧ (∀ k, k < L.length → aY A1 k = L.getD k 0) ∧ Fr PF ν ν1 ∧ ∀ k, 1 ≤ k → k < 6 → ∀ i, i < 4 → fby (ν1.1 168 k) i = 0 := by
    by_cases c : L.length % 20 = 0
    · refine ⟨ν, A, ?_, hC, hA, by omega, fun k hk => hY k (by omega), Fr.refl _ _, fun k k1 k6 i hi => ?_⟩
      · have c1 : (Int32.ofNat (L.length % 20) ≤ 0) := by rw [lle_0 (by omega)]; omega
        simp only [f_L_texts, ↓hbind a0, h3, e20, if_pos c1]
      · have := h4 (4 * (k - 1) + i) (by omega)
        rw [if_neg (by omega), show 1 + (4 * (k - 1) + i) / 4 = k by omega, show (4 * (k - 1) + i) % 4 = i by omega] at this
        exact this
    · obtain ⟨ν2, e2, r2, k2, f2, z0, z2⟩ := feed_go (ν := ν) h1 hC hA (by omega)
      refine ⟨ν2, _, ?_, r2, k2, ?_, fun k hk => ?_, f2, fun k k1 k6 i hi => by rw [z2 k k1 k6]; exact fby_0 i hi⟩
      · have c1 : ¬ (Int32.ofNat (L.length % 20) ≤ 0) := by rw [lle_0 (by omega)]; omega
        simp only [f_L_texts, ↓hbind a0, h3, e20, if_neg c1, ↓hbind e2]
      · have : aN (fA A fun j => ν.1 168 (1 + j)) = aN A + 20 := rfl
        rw [this]; omega
      · rw [fA_Y]
        by_cases y : k < aN A
        · rw [if_pos y]; exact hY k y
        · rw [if_neg y]
          have := h4 (k - aN A) (by omega)
          rw [if_pos (by omega), show 20 * (L.length / 20) + (k - aN A) = k by omega] at this
          exact this
  obtain ⟨ν1, A1, e1, r1, k1, l1, y1, f1, z1⟩ := key
  have r2 : RC TT (st ν1 168 0 0) A1 := r1.t
  have s0 : sI (mX Ξ ν1) 168 0 0 = some (mX Ξ (st ν1 168 0 0)) := t_s h1 (show 0 < 8 by decide)
  obtain ⟨x, ξ, A', Δ, e3, hΔ, f3, r3, ok, s3⟩ := c_text (Ξ := Ξ) TT_F k1 r2 l1 hx
  rw [hp (aY A1) y1] at s3
  obtain ⟨B', kp, rfl, rfl⟩ := s3
  have g168 : ∀ k, ξ.1 168 k = (st ν1 168 0 0).1 168 k := fun k => (f3 168 k (by unfold CL; omega)).1
  refine ⟨Δ, ξ, B', ?_, hΔ, kp, ⟨?_, ⟨_, r3, ok, rfl, rfl, rfl, fun k hk => absurd hk (Nat.not_lt_zero k)⟩, ?_, fun k hk => ?_⟩, (f1.trans ((Fr.refl _ _).st (Or.inr rfl))).trans (f3.mono fun q i z => Or.inl z)⟩
  · have et : f_L_text 0 (Int32.ofNat L.length) (mX Ξ (st ν1 168 0 0)) = some (Int32.ofNat (sz (bM B')), mX (Ξ ++ Δ) ξ) := by
      show (vc (mX Ξ (st ν1 168 0 0)) 9 0 (f_X9_text 0 (Int32.ofNat L.length) (mX Ξ (st ν1 168 0 0)))).bind (wrp wc_L_text) = _
      rw [vc_0, e3, Option.bind_some]
      rfl
    rw [e1]
    simp only [f_L_texts_J16, ↓hbind s0, ↓hbind et]
  · rw [← List.append_assoc, List.getElem?_append_left (List.getElem?_eq_some_iff.mp h1).1]; exact h1
  · rw [g168, st_same]; rfl
  · rw [g168, st_ne (Or.inr (by omega)), z1 _ (by omega) (by omega) _ (by omega), if_neg (show ¬ k < ([] : List Nat).length % 20 from Nat.not_lt_zero k)]
end G5
