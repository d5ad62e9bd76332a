/-! THE MODEL: many, the sum -/
def ssum (W : Nat → Int64) (N : Nat) : Nat → Int64
  | 0 => 0
  | s + 1 => ssum W N s + (if cnt (fun k => s.testBit k) 12 = N then W s else 0)
theorem ones_S {S : Nat} {h : xH} (hS : S < 4096) : f_X10_ones (Int32.ofNat S) h = some (Int32.ofNat (cnt (fun k => S.testBit k) 12), h) := by
  have m12S : m12 (Int32.ofNat S) := fun k hk => by
    rw [hb_nat _ _ (by omega)]
    exact Nat.testBit_lt_two_pow (Nat.lt_of_lt_of_le hS (Nat.pow_le_pow_right (n := 2) (by decide) hk))
  rw [m_ones m12S, cnt_congr (q := fun k => S.testBit k) fun k _ => hb_nat S k (by omega)]
theorem m_my_sum {ν : MM} {W : Nat → Int64} {N full : Nat} (hf : full ≤ 4096) (hN : N ≤ 12) (h2 : ∀ T, T < full → ν.2 502 T = W T) : ∀ (d s : Nat), s + d = full → ∀ f, f_X10_many_L216 f_X10_many_J251 (d + 1 + f) 168 (Int32.ofNat full) (Int32.ofNat N) (ssum W N s) (Int32.ofNat s) (mem ν) = some (ssum W N full, mem ν)
  | 0, s, h, f => by
    have c : (Int32.ofNat s ≥ Int32.ofNat full) = True := by rw [oN_ge (by omega) (by omega)]; exact eq_true (by omega)
    have es : s = full := by omega
    subst es
    rw [show 0 + 1 + f = f + 1 by omega]
    simp only [f_X10_many_L216, c, ↓reduceIte, f_X10_many_J251]
  | d + 1, s, h, f => by
    have c : (Int32.ofNat s ≥ Int32.ofNat full) = False := by rw [oN_ge (by omega) (by omega)]; exact eq_false (by omega)
    have s4 : s < 4096 := by omega
    have eo := ones_S (h := mem ν) s4
    have ev := h2 s (by omega)
    have cl : cnt (fun k => s.testBit k) 12 ≤ 12 := cnt_le _ _
    rw [show d + 1 + 1 + f = d + 1 + f + 1 by omega, ← m_my_sum hf hN h2 d (s + 1) (by omega) f]
    by_cases z : cnt (fun k => s.testBit k) 12 = N
    · have c2 : (Int32.ofNat (cnt (fun k => s.testBit k) 12) = Int32.ofNat N) = True := by rw [z]; exact eq_true rfl
      have e : ssum W N (s + 1) = ssum W N s + W s := by
        show ssum W N s + (if cnt (fun k => s.testBit k) 12 = N then W s else 0) = _
        rw [if_pos z]
      rw [e]
      simp only [f_X10_many_L216, c, ↓reduceIte, ↓hbind eo, c2, ↓hbind gR_168_35, ↓hbind (aJ_502 s4), ev, f_X10_many_J243, lt_go, i_succ]
    · have c2 : (Int32.ofNat (cnt (fun k => s.testBit k) 12) = Int32.ofNat N) = False := by rw [oN_inj (by omega) (by omega)]; exact eq_false z
      have e : ssum W N (s + 1) = ssum W N s + 0 := by
        show ssum W N s + (if cnt (fun k => s.testBit k) 12 = N then W s else 0) = _
        rw [if_neg z]
      rw [e]
      simp only [f_X10_many_L216, c, ↓reduceIte, ↓hbind eo, c2, f_X10_many_J243, lt_go, i_succ]
