/-! THE MODEL: many, one set -/
theorem oN_xorbit {S j : Nat} (hS : S < 4096) (hj : j < 12) : Int32.ofNat S ^^^ ((1 : Int32) <<< (Int32.ofNat j &&& 31)) = Int32.ofNat (S ^^^ 2 ^ j) := by
  have hx := xor_lt hS hj
  apply hb_ext
  intro k _
  rw [hb_xor, hb_bit k (by omega), hb_nat _ _ (by omega), hb_nat _ _ (by omega), Nat.testBit_xor, Nat.testBit_two_pow]
  by_cases z : k = j
  · simp [z]
  · have z' : ¬ j = k := fun y => z y.symm
    simp [z, z']
section Mz
variable {μ : MM} {B : Bk} {W : Nat → Int64}
theorem m_my_t (hB : BOK B) {i S : Nat} (hi : i < 12) (hiW : hb (bw B) i = true) (hS : S < 2 ^ bm B) : ∀ (d j : Nat) (ν : MM), j + d = bm B → MR ν 0 B → (∀ T, T < 2 ^ bm B → ν.2 502 T = W T) → ν.2 503 S = fo64 (wf (gE B) W i S) j (W S) → ∃ ξ, (∀ f K x1 x2, f_X10_many_L101 K (d + 1 + f) 168 x1 x2 (Int32.ofNat i) (Int32.ofNat S) (Int32.ofNat j) (mem ν) = K 168 x1 x2 (Int32.ofNat i) (Int32.ofNat S) (mem ξ)) ∧ Fr (fun q k => q = 503 ∧ k = S) ν ξ ∧ ξ.2 503 S = fo64 (wf (gE B) W i S) (bm B) (W S)
  | 0, j, ν, h, hm, h2, h3 => by
    have hb12 := hB.m
    have e1 : ν.1 172 1 = Int32.ofNat (bm B) := hm.1.2.1
    have c : (Int32.ofNat j ≥ Int32.ofNat (bm B)) = True := by rw [oN_ge (by omega) (by omega)]; exact eq_true (by omega)
    refine ⟨ν, fun f K x1 x2 => ?_, Fr.refl _ _, by rw [h3, show j = bm B by omega]⟩
    rw [show 0 + 1 + f = f + 1 by omega]
    simp only [f_X10_many_L101, ↓hbind gR_168_9, ↓hbind mr_h0, ↓hbind mh_a0_1, e1, c, ↓reduceIte]
  | d + 1, j, ν, h, hm, h2, h3 => by
    have hb12 := hB.m
    have full12 : 2 ^ bm B ≤ 4096 := Nat.pow_le_pow_right (n := 2) (by decide) (show bm B ≤ 12 by omega)
    have S4 : S < 4096 := by omega
    have hj : j < 12 := by omega
    have e1 : ν.1 172 1 = Int32.ofNat (bm B) := hm.1.2.1
    have e4 : ν.1 172 4 = bt B := hm.1.2.2.2.2
    have ef : ν.1 191 i = bf B i := hm.2.1 i hi
    have c : (Int32.ofNat j ≥ Int32.ofNat (bm B)) = False := by rw [oN_ge (by omega) (by omega)]; exact eq_false (by omega)
    have eh := m_has (x := (Int32.ofNat S &&& bf B i) &&& bt B) (h := mem ν) (show j < 32 by omega)
    have eb : hb ((Int32.ofNat S &&& bf B i) &&& bt B) j = (S.testBit j && gE B i j) := by
      rw [hb_and, hb_and, hb_nat _ _ (by omega)]
      unfold gE
      rw [hiW, Bool.and_true, Bool.and_assoc]
    rw [eb] at eh
    cases q : (S.testBit j && gE B i j) with
    | false =>
      rw [q] at eh
      have n : ¬ (S.testBit j = true ∧ gE B i j = true) := fun z => by rw [z.1, z.2] at q; cases q
      obtain ⟨ξ, a, b, g⟩ := m_my_t hB hi hiW hS d (j + 1) ν (by omega) hm h2 (by
        rw [h3]
        show _ = wf (gE B) W i S j (fo64 (wf (gE B) W i S) j (W S))
        exact (if_neg n).symm)
      refine ⟨ξ, fun f K x1 x2 => ?_, b, g⟩
      rw [show d + 1 + 1 + f = d + 1 + f + 1 by omega, ← a f K x1 x2]
      simp only [f_X10_many_L101, ↓hbind gR_168_9, ↓hbind mr_h0, ↓hbind mh_a0_1, e1, c, ↓reduceIte, ↓hbind gR_168_10, ↓hbind mr_f0, ↓hbind (ma_f0 hi), ef, ↓hbind mh_a0_4, e4, ↓hbind eh, show bI false = 0 from rfl, f_X10_many_J164, lt_go, i_succ]
    | true =>
      rw [q] at eh
      have y := (Bool.and_eq_true _ _).mp q
      have lx : S ^^^ 2 ^ j < 2 ^ bm B := Nat.xor_lt_two_pow hS (Nat.pow_lt_pow_right (by decide) (show j < bm B by omega))
      have ev := h2 _ lx
      have ex := oN_xorbit S4 hj
      obtain ⟨ν1, hd⟩ : ∃ x, x = sj ν 503 S (ν.2 503 S + W (S ^^^ 2 ^ j)) := ⟨_, rfl⟩
      have f1 : Fr (fun q k => q = 503 ∧ k = S) ν ν1 := by rw [hd]; exact (Fr.refl _ _).sj ⟨rfl, rfl⟩
      obtain ⟨ξ, a, b, g⟩ := m_my_t hB hi hiW hS d (j + 1) ν1 (by omega) (hm.fr f1 fun q i a z => by unfold FR at a; omega) (fun T hT => by rw [(f1 _ _ (by omega)).2]; exact h2 T hT) (by
        rw [hd, sj_same, h3]
        show _ = wf (gE B) W i S j (fo64 (wf (gE B) W i S) j (W S))
        exact (if_pos y).symm)
      refine ⟨ξ, fun f K x1 x2 => ?_, f1.trans b, g⟩
      rw [show d + 1 + 1 + f = d + 1 + f + 1 by omega, ← a f K x1 x2, hd]
      simp only [f_X10_many_L101, ↓hbind gR_168_9, ↓hbind mr_h0, ↓hbind mh_a0_1, e1, c, ↓reduceIte, ↓hbind gR_168_10, ↓hbind mr_f0, ↓hbind (ma_f0 hi), ef, ↓hbind mh_a0_4, e4, ↓hbind eh, show bI true = 1 from rfl, z_1, ↓hbind gR_168_36, ↓hbind (aJ_503 S4), ↓hbind gR_168_35, ex, ↓hbind (aJ_502 (show S ^^^ 2 ^ j < 4096 by omega)), ev, ↓hbind (sJ_503 S4), f_X10_many_J164, lt_go, i_succ]
end Mz
