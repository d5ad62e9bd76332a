/-! MATHEMATICS: the told lines, read -/
section G7
variable {n p : Nat} {y : Nat → Nat} {B : Bk} {kr : Bool}
theorem end_bl {C : Bk} {k : Bool} (h0 : y p = 32) (h : y (p + 1) = 59) (hn : p + 1 < n) : lnEnd n y (.ok p C k) = .ok (p + 2) C k := by
  have e := skp1 (n := n) (y := y) (p := p) (by omega) h0 (by omega)
  show (if skp n y p < n ∧ y (skp n y p) = 59 then Rs.ok (skp n y p + 1) C k else .er 1 (skp n y p)) = _
  rw [e, if_pos ⟨by omega, h⟩]
def fitE (c : Nat) : List Nat := if c = 0 then [59] else 32 :: (dgs c ++ [59])
def fitL (w t c : Nat) : List Nat := wdW 2 ++ 32 :: (dgs w ++ 32 :: (dgs t ++ fitE c))
/-- which kind of line -/
theorem ln_2 {j : Nat} {r : List Nat} {b : Nat} (hj : j = 2 ∨ j = 3 ∨ j = 4 ∨ j = 5 ∨ j = 6) (h : RdB y p (wdW j ++ b :: r)) (hb' : b < 97) (hn : p + (wdW j).length < n) :
    line n y p B kr = lnEnd n y (if j = 2 then lnFit n y (p + (wdW j).length) B kr else if j = 3 then lnAway n y (p + (wdW j).length) B kr else if j = 4 then lnPair n y (p + (wdW j).length) B kr else if j = 5 then lnWeight n y (p + (wdW j).length) B kr else lnKeep n y p (p + (wdW j).length) B kr) := by
  have ok := wd_ok j (by omega)
  have len : 0 < (wdW j).length := by rcases hj with rfl | rfl | rfl | rfl | rfl <;> decide
  have y0 : y p ≠ 32 := by
    have a := h.app.1 0 len
    have := ok 0 len
    rw [Nat.add_zero] at a
    rw [a]; omega
  have es := skp0 (n := n) y0
  have em := sme_at (n := n) ok h hb' hn
  unfold line ln1
  rw [es, em]
  rw [isW_eq h.app.1, isW_eq h.app.1, isW_eq h.app.1, isW_eq h.app.1, isW_eq h.app.1]
  rcases hj with rfl | rfl | rfl | rfl | rfl
  · rfl
  · rfl
  · rfl
  · rfl
  · rfl
theorem ln_fit {w t c : Nat} (h : RdB y p (fitL w t c)) (hn : p + (fitL w t c).length ≤ n) (hw : w ≤ bn B - 1) (ht : t ≤ bm B - 1) (w1 : w < 100) (t1 : t < 100) (hc : c ≤ 99) : line n y p B kr = .ok (p + (fitL w t c).length) (wF B w t c) kr := by
  have lf : (fitL w t c).length = 3 + 1 + (dgs w).length + 1 + (dgs t).length + (fitE c).length := by
    unfold fitL
    simp only [List.length_append, List.length_cons]
    show 3 + ((dgs w).length + ((dgs t).length + (fitE c).length + 1) + 1) = _
    omega
  have le : 1 ≤ (fitE c).length := by unfold fitE; split <;> simp
  rw [lf] at hn ⊢
  have a1 := h.app.2
  have k1 : (wdW 2).length = 3 := rfl
  rw [k1] at a1
  have a2 := a1.hd.2
  have a3 := a2.app.2
  have a4 := a3.hd.2
  have a5 := a4.app.2
  have e1 := num_bl (n := n) (lo := 0) (hi := bn B - 1) w1 a1 (by omega) (by omega) (Nat.zero_le _) hw
  rw [ln_2 (j := 2) (Or.inl rfl) h (by omega) (by rw [k1]; omega), if_pos rfl, k1]
  have key : lnFit n y (p + 3) B kr = .ok (p + 3 + 1 + (dgs w).length + 1 + (dgs t).length + ((fitE c).length - 1)) (wF B w t c) kr ∧ y (p + 3 + 1 + (dgs w).length + 1 + (dgs t).length + ((fitE c).length - 1)) = 59 := by
    unfold lnFit
    rw [e1]
    show (match num n y (p + 3 + 1 + (dgs w).length) 0 (bm B - 1) with
      | .inl (a, q) => Rs.er a q
      | .inr (t, _, p2) => if skp n y p2 < n ∧ dgY y (skp n y p2) = true then
          match num n y (skp n y p2) 0 99 with
          | .inl (a, q) => .er a q
          | .inr (c, _, p3) => .ok p3 (wF B w t c) kr
        else .ok (skp n y p2) (wF B w t 0) kr) = _ ∧ _
    by_cases z : c = 0
    · subst z
      have fe : fitE 0 = [59] := rfl
      rw [fe] at a3 a5 hn ⊢
      have hn : p + (3 + 1 + (dgs w).length + 1 + (dgs t).length + 1) ≤ n := hn
      have e2 := num_bl (n := n) (lo := 0) (hi := bm B - 1) t1 a3 (by omega) (by omega) (Nat.zero_le _) ht
      have y5 := a5.hd.1
      have es := skp0 (n := n) (y := y) (p := p + 3 + 1 + (dgs w).length + 1 + (dgs t).length) (by omega)
      rw [e2]
      refine ⟨?_, y5⟩
      show (if skp n y (p + 3 + 1 + (dgs w).length + 1 + (dgs t).length) < n ∧ dgY y (skp n y (p + 3 + 1 + (dgs w).length + 1 + (dgs t).length)) = true then _ else _) = _
      rw [es, if_neg]
      · rfl
      · rintro ⟨-, q⟩
        unfold dgY at q
        rw [y5] at q
        exact absurd q (by decide)
    · have fe : fitE c = 32 :: (dgs c ++ [59]) := if_neg z
      have ll : (fitE c).length = (dgs c).length + 2 := by rw [fe]; simp
      rw [fe] at a3 a5
      rw [ll] at hn ⊢
      have e2 := num_bl (n := n) (lo := 0) (hi := bm B - 1) t1 a3 (by omega) (by omega) (Nat.zero_le _) ht
      have y5 := a5.hd.1
      have a6 := a5.hd.2
      have d0 := dgs_pos (v := c)
      have dd := dgs_dig (v := c) (by omega) 0 d0
      have y6 := a6.app.1 0 d0
      rw [Nat.add_zero] at y6
      have es := skp1 (n := n) (y := y) (p := p + 3 + 1 + (dgs w).length + 1 + (dgs t).length) (by omega) y5 (by omega)
      have e3 := num_di (n := n) (lo := 0) (hi := 99) (v := c) (by omega) a6 (by omega) (by omega) (Nat.zero_le _) hc
      rw [e2]
      refine ⟨?_, ?_⟩
      · show (if skp n y (p + 3 + 1 + (dgs w).length + 1 + (dgs t).length) < n ∧ dgY y (skp n y (p + 3 + 1 + (dgs w).length + 1 + (dgs t).length)) = true then _ else _) = _
        rw [es, if_pos, e3]
        · show Rs.ok (p + 3 + 1 + (dgs w).length + 1 + (dgs t).length + 1 + (dgs c).length) _ kr = _
          rw [show p + 3 + 1 + (dgs w).length + 1 + (dgs t).length + ((dgs c).length + 2 - 1) = p + 3 + 1 + (dgs w).length + 1 + (dgs t).length + 1 + (dgs c).length by omega]
        · refine ⟨by omega, ?_⟩
          unfold dgY
          rw [y6, decide_eq_true dd.1, decide_eq_true dd.2]; rfl
      · have := a6.app.2.hd.1
        rw [show p + 3 + 1 + (dgs w).length + 1 + (dgs t).length + ((dgs c).length + 2 - 1) = p + 3 + 1 + (dgs w).length + 1 + (dgs t).length + 1 + (dgs c).length by omega]
        exact this
  rw [key.1, end_at key.2 (by omega)]
  rw [show p + 3 + 1 + (dgs w).length + 1 + (dgs t).length + ((fitE c).length - 1) + 1 = p + (3 + 1 + (dgs w).length + 1 + (dgs t).length + (fitE c).length) by omega]
def awayL (w : Nat) : List Nat := wdW 3 ++ 32 :: (wdW 7 ++ 32 :: (dgs w ++ [59]))
theorem ln_away {w : Nat} (h : RdB y p (awayL w)) (hn : p + (awayL w).length ≤ n) (hw : w ≤ bn B - 1) (w1 : w < 100) (h1 : hb (bw B) w = true) (h2 : bM B w = 12) : line n y p B kr = .ok (p + (awayL w).length) (wW B w false) kr := by
  have lf : (awayL w).length = 12 + (dgs w).length + 1 := by
    unfold awayL
    simp only [List.length_append, List.length_cons]
    show 4 + (6 + ((dgs w).length + (0 + 1) + 1) + 1) = _
    omega
  rw [lf] at hn ⊢
  have k1 : (wdW 3).length = 4 := rfl
  have k2 : (wdW 7).length = 6 := rfl
  have a1 := h.app.2
  rw [k1] at a1
  have y1 := a1.hd.1
  have a2 := a1.hd.2
  have a3 := a2.app.2
  rw [k2] at a3
  have y2 : y (p + 4 + 1) = 119 := a2.app.1 0 (by decide)
  have es := skp1 (n := n) (y := y) (p := p + 4) (by omega) y1 (by omega)
  have em := sme_at (n := n) (wd_ok 7 (by omega)) a2 (by omega) (by rw [k2]; omega)
  rw [k2] at em
  have ew := isW_eq (V := wdW 7) a2.app.1
  rw [k2, decide_eq_true rfl] at ew
  have e1 := num_bl (n := n) (lo := 0) (hi := bn B - 1) w1 a3 (by omega) (by omega) (Nat.zero_le _) hw
  have y3 := a3.hd.2.app.2.hd.1
  rw [ln_2 (j := 3) (Or.inr (Or.inl rfl)) h (by omega) (by rw [k1]; omega), if_neg (by decide), if_pos rfl, k1]
  have key : lnAway n y (p + 4) B kr = .ok (p + 4 + 1 + 6 + 1 + (dgs w).length) (wW B w false) kr := by
    unfold lnAway
    rw [es, em, if_pos ew, e1]
    show (if hb (bw B) w = true ∧ bM B w = 12 then Rs.ok (p + 4 + 1 + 6 + 1 + (dgs w).length) (wW B w false) kr else _) = _
    rw [if_pos ⟨h1, h2⟩]
  rw [key, end_at y3 (by omega), show p + 4 + 1 + 6 + 1 + (dgs w).length + 1 = p + (12 + (dgs w).length + 1) by omega]
def pairL (w t : Nat) : List Nat := wdW 4 ++ 32 :: (dgs w ++ 32 :: (dgs t ++ [59]))
theorem ln_pair {w t : Nat} (h : RdB y p (pairL w t)) (hn : p + (pairL w t).length ≤ n) (hw : w ≤ bn B - 1) (ht : t ≤ bm B - 1) (w1 : w < 100) (t1 : t < 100) (h1 : hb (bw B) w = true) (h2 : bM B w = 12) (h3 : hb (bt B) t = true) (h4 : ow (bM B) t = 12) (h5 : hb (bf B w) t = true) : line n y p B kr = .ok (p + (pairL w t).length) (wM B (jo (bM B) w t)) kr := by
  have lf : (pairL w t).length = 4 + 1 + (dgs w).length + 1 + (dgs t).length + 1 := by
    unfold pairL
    simp only [List.length_append, List.length_cons]
    show 4 + ((dgs w).length + ((dgs t).length + (0 + 1) + 1) + 1) = _
    omega
  rw [lf] at hn ⊢
  have k1 : (wdW 4).length = 4 := rfl
  have a1 := h.app.2
  rw [k1] at a1
  have a3 := a1.hd.2.app.2
  have e1 := num_bl (n := n) (lo := 0) (hi := bn B - 1) w1 a1 (by omega) (by omega) (Nat.zero_le _) hw
  have e2 := num_bl (n := n) (lo := 0) (hi := bm B - 1) t1 a3 (by omega) (by omega) (Nat.zero_le _) ht
  have y3 := a3.hd.2.app.2.hd.1
  rw [ln_2 (j := 4) (Or.inr (Or.inr (Or.inl rfl))) h (by omega) (by rw [k1]; omega), if_neg (by decide), if_neg (by decide), if_pos rfl, k1]
  have key : lnPair n y (p + 4) B kr = .ok (p + 4 + 1 + (dgs w).length + 1 + (dgs t).length) (wM B (jo (bM B) w t)) kr := by
    unfold lnPair
    rw [e1]
    show (if hb (bw B) w = true ∧ bM B w = 12 then match num n y (p + 4 + 1 + (dgs w).length) 0 (bm B - 1) with
      | .inl (a, q) => Rs.er a q
      | .inr (t, _, p2) => if (hb (bt B) t = true ∧ ow (bM B) t = 12) ∧ hb (bf B w) t = true then .ok p2 (wM B (jo (bM B) w t)) kr else .er 4 (p + 4 + 1)
    else .er 4 (p + 4 + 1)) = _
    rw [if_pos ⟨h1, h2⟩, e2]
    show (if (hb (bt B) t = true ∧ ow (bM B) t = 12) ∧ hb (bf B w) t = true then Rs.ok (p + 4 + 1 + (dgs w).length + 1 + (dgs t).length) (wM B (jo (bM B) w t)) kr else .er 4 (p + 4 + 1)) = _
    rw [if_pos ⟨⟨h3, h4⟩, h5⟩]
  rw [key, end_at y3 (by omega), show p + 4 + 1 + (dgs w).length + 1 + (dgs t).length + 1 = p + (4 + 1 + (dgs w).length + 1 + (dgs t).length + 1) by omega]
def weightL (w v : Nat) : List Nat := wdW 5 ++ 32 :: (dgs w ++ 32 :: (dgs v ++ [59]))
theorem ln_weight {w v : Nat} (h : RdB y p (weightL w v)) (hn : p + (weightL w v).length ≤ n) (hw : w ≤ bn B - 1) (hv : v ≤ 99) (w1 : w < 100) : line n y p B kr = .ok (p + (weightL w v).length) (wE B w v) kr := by
  have lf : (weightL w v).length = 6 + 1 + (dgs w).length + 1 + (dgs v).length + 1 := by
    unfold weightL
    simp only [List.length_append, List.length_cons]
    show 6 + ((dgs w).length + ((dgs v).length + (0 + 1) + 1) + 1) = _
    omega
  rw [lf] at hn ⊢
  have k1 : (wdW 5).length = 6 := rfl
  have a1 := h.app.2
  rw [k1] at a1
  have a3 := a1.hd.2.app.2
  have e1 := num_bl (n := n) (lo := 0) (hi := bn B - 1) w1 a1 (by omega) (by omega) (Nat.zero_le _) hw
  have e2 := num_bl (n := n) (lo := 0) (hi := 99) (v := v) (by omega) a3 (by omega) (by omega) (Nat.zero_le _) hv
  have y3 := a3.hd.2.app.2.hd.1
  rw [ln_2 (j := 5) (Or.inr (Or.inr (Or.inr (Or.inl rfl)))) h (by omega) (by rw [k1]; omega), if_neg (by decide), if_neg (by decide), if_neg (by decide), if_pos rfl, k1]
  have key : lnWeight n y (p + 6) B kr = .ok (p + 6 + 1 + (dgs w).length + 1 + (dgs v).length) (wE B w v) kr := by
    unfold lnWeight
    rw [e1]
    show (match num n y (p + 6 + 1 + (dgs w).length) 0 99 with
      | .inl (a, q) => Rs.er a q
      | .inr (v, _, p2) => .ok p2 (wE B w v) kr) = _
    rw [e2]
  rw [key, end_at y3 (by omega), show p + 6 + 1 + (dgs w).length + 1 + (dgs v).length + 1 = p + (6 + 1 + (dgs w).length + 1 + (dgs v).length + 1) by omega]
def keepL : List Nat := wdW 6 ++ 32 :: (dgs 0 ++ [59])
theorem ln_keep (h : RdB y p keepL) (hn : p + keepL.length ≤ n) : line n y p B false = .ok (p + keepL.length) (wk B 0) true := by
  have lf : keepL.length = 7 := rfl
  rw [lf] at hn ⊢
  have k1 : (wdW 6).length = 4 := rfl
  have a1 := h.app.2
  rw [k1] at a1
  have e1 := num_bl (n := n) (lo := 0) (hi := 1) (v := 0) (by omega) a1 (by omega) (by show p + 4 + 1 + 1 < n; omega) (Nat.zero_le _) (by omega)
  have y3 : y (p + 4 + 1 + 1) = 59 := a1.hd.2.app.2.hd.1
  rw [ln_2 (j := 6) (Or.inr (Or.inr (Or.inr (Or.inr rfl)))) h (by omega) (by rw [k1]; omega), if_neg (by decide), if_neg (by decide), if_neg (by decide), if_neg (by decide), k1]
  have key : lnKeep n y p (p + 4) B false = .ok (p + 4 + 1 + 1) (wk B 0) true := by
    unfold lnKeep
    rw [if_neg (by decide), e1]
    rfl
  rw [key, end_at y3 (by omega)]
def headL (N M : Nat) : List Nat := wdW 0 ++ 32 :: (dgs N ++ 59 :: (wdW 1 ++ 32 :: (dgs M ++ [32, 59])))
theorem hd_at {N M : Nat} (h : RdB y 0 (headL N M)) (hn : (headL N M).length ≤ n) (n1 : 1 ≤ N) (n2 : N ≤ 12) (m1 : 1 ≤ M) (m2 : M ≤ 12) : txHead n y = .ok (headL N M).length (nB N M) false := by
  have lf : (headL N M).length = 7 + 1 + (dgs N).length + 1 + 5 + 1 + (dgs M).length + 2 := by
    unfold headL
    simp only [List.length_append, List.length_cons]
    show 7 + ((dgs N).length + (5 + ((dgs M).length + (0 + 1 + 1) + 1) + 1) + 1) = _
    omega
  rw [lf] at hn ⊢
  have k0 : (wdW 0).length = 7 := rfl
  have k1 : (wdW 1).length = 5 := rfl
  have y0 : y 0 = 119 := h.app.1 0 (by decide)
  have es := skp0 (n := n) (y := y) (p := 0) (by omega)
  have em := sme_at (n := n) (wd_ok 0 (by omega)) h (by omega) (by rw [k0]; omega)
  have ew := isW_eq (V := wdW 0) h.app.1
  rw [decide_eq_true rfl] at ew
  rw [k0, Nat.zero_add] at em ew
  have a1 := h.app.2
  rw [k0, Nat.zero_add] at a1
  have e1 := num_bl (n := n) (lo := 1) (hi := 12) (v := N) (by omega) a1 (by omega) (by omega) n1 n2
  have a2 := a1.hd.2.app.2
  have y2 := a2.hd.1
  have es2 := skp0 (n := n) (y := y) (p := 7 + 1 + (dgs N).length) (by omega)
  have a3 := a2.hd.2
  have y3 : y (7 + 1 + (dgs N).length + 1) = 116 := a3.app.1 0 (by decide)
  have es3 := skp0 (n := n) (y := y) (p := 7 + 1 + (dgs N).length + 1) (by omega)
  have em3 := sme_at (n := n) (wd_ok 1 (by omega)) a3 (by omega) (by rw [k1]; omega)
  have ew3 := isW_eq (V := wdW 1) a3.app.1
  rw [decide_eq_true rfl] at ew3
  rw [k1] at em3 ew3
  have a4 := a3.app.2
  rw [k1] at a4
  have e4 := num_bl (n := n) (lo := 1) (hi := 12) (v := M) (by omega) a4 (by omega) (by omega) m1 m2
  have a5 := a4.hd.2.app.2
  have y5 := a5.hd.1
  have y6 := a5.hd.2.hd.1
  unfold txHead
  rw [es, em, if_pos ew, e1]
  show (if skp n y (7 + 1 + (dgs N).length) < n ∧ y (skp n y (7 + 1 + (dgs N).length)) = 59 then
        (if isW y (skp n y (skp n y (7 + 1 + (dgs N).length) + 1)) (sme n y (skp n y (skp n y (7 + 1 + (dgs N).length) + 1))) (wdW 1) = true then match num n y (sme n y (skp n y (skp n y (7 + 1 + (dgs N).length) + 1))) 1 12 with
          | .inl (a, q) => Rs.er a q
          | .inr (M, _, p2) => lnEnd n y (.ok p2 (nB N M) false)
        else .er 1 (skp n y (skp n y (7 + 1 + (dgs N).length) + 1)))
      else .er 1 (skp n y (7 + 1 + (dgs N).length))) = _
  rw [es2, if_pos ⟨by omega, y2⟩, es3, em3, if_pos ew3, e4]
  show lnEnd n y (.ok (7 + 1 + (dgs N).length + 1 + 5 + 1 + (dgs M).length) (nB N M) false) = _
  rw [end_bl y5 y6 (by omega)]
end G7
/-- the class reads what was told so far as this book -/
def Tld (L : List Nat) (P : Bk) (kr : Bool) : Prop := ∀ (n : Nat) (y : Nat → Nat), L.length ≤ n → RdB y 0 L → ∃ m, m ≤ L.length ∧ ∀ d, lines n y (m + d) (txHead n y) = lines n y d (.ok L.length P kr)
theorem Tld.hd {N M : Nat} (n1 : 1 ≤ N) (n2 : N ≤ 12) (m1 : 1 ≤ M) (m2 : M ≤ 12) : Tld (headL N M) (nB N M) false := fun n y hn h => ⟨0, Nat.zero_le _, fun d => by rw [Nat.zero_add, hd_at h hn n1 n2 m1 m2]⟩
theorem Tld.next {L l : List Nat} {P P' : Bk} {kr kr' : Bool} (h : Tld L P kr) (h0 : 0 < l.length) (h32 : l.getD 0 0 ≠ 32) (hl : ∀ n y p, RdB y p l → p + l.length ≤ n → line n y p P kr = .ok (p + l.length) P' kr') : Tld (L ++ l) P' kr' := fun n y hn hr => by
  rw [List.length_append] at hn ⊢
  obtain ⟨r1, r2⟩ := hr.app
  rw [Nat.zero_add] at r2
  obtain ⟨m, m1, m2⟩ := h n y (by omega) r1
  refine ⟨m + 1, by omega, fun d => ?_⟩
  have y0 := r2 0 h0
  rw [Nat.add_zero] at y0
  have es := skp0 (n := n) (y := y) (p := L.length) (by rw [y0]; exact h32)
  rw [show m + 1 + d = m + (d + 1) by omega, m2]
  show (if skp n y L.length < n then lines n y d (line n y (skp n y L.length) P kr) else .ok (skp n y L.length) P kr) = _
  rw [es, if_pos (by omega), hl n y L.length r2 hn]
theorem Tld.all {L : List Nat} {P : Bk} {kr : Bool} (h : Tld L P kr) (y : Nat → Nat) (hy : ∀ k, k < L.length → y k = L.getD k 0) : txAll L.length y = .inl (L.length, P, kr) := by
  obtain ⟨m, m1, m2⟩ := h L.length y (Nat.le_refl _) (fun k hk => by rw [Nat.zero_add]; exact hy k hk)
  unfold txAll
  have := m2 (L.length - m + 1)
  rw [show m + (L.length - m + 1) = L.length + 1 by omega] at this
  rw [this]
  show (if skp L.length y L.length < L.length then lines L.length y (L.length - m) (line L.length y (skp L.length y L.length) P kr) else .ok (skp L.length y L.length) P kr) = _
  have es : skp L.length y L.length = L.length := by
    unfold skp
    rw [Nat.sub_self]; rfl
  rw [es, if_neg (Nat.lt_irrefl _)]
