/-! THE LAW: book, who is away, pairs, a weight; the text is sent -/
section G9
variable {Ξ : xH} {μ ν : MM} {a : LA} {B0 D P : Bk} {H : List Bk} {L : List Nat} {N M kp : Nat}
theorem modN : ∀ m, m < 256 → ∀ n, n < 5 → n ≠ 0 → Int32.ofNat m - Int32.ofNat m / Int32.ofNat n * Int32.ofNat n = Int32.ofNat (m % n) := by decide +kernel
theorem wNb : ∀ n, n < 5 → ∀ k, k < n → hb (((1 : Int32) <<< (Int32.ofNat n &&& 31)) - 1) k = true := by decide +kernel
theorem s17 : sNt 17 = wdW 3 ++ 32 :: (wdW 7 ++ [32]) := by decide
theorem s18 : sNt 18 = wdW 4 ++ [32] := by decide
theorem s19 : sNt 19 = wdW 5 ++ [32] := by decide
theorem s20 : sNt 20 = keepL := by decide
theorem s11 : sNt 11 = wdW 0 ++ [32] := by decide
theorem s12 : sNt 12 = 59 :: (wdW 1 ++ [32]) := by decide
theorem s13 : sNt 13 = [32, 59] := by decide
theorem BQ.le {l l' : Nat} {kr : Bool} (h : BQ Ξ a B0 H N M kp kr l L P ν) (e : l ≤ l') : BQ Ξ a B0 H N M kp kr l' L P ν := ⟨h.1, h.2.1, h.2.2.1, h.2.2.2.1, by have := h.2.2.2.2; omega⟩
theorem wW_x {w : Nat} (h : bM P w = 12) : wW P w false = wX P (bw P &&& (((1 : Int32) <<< (Int32.ofNat w &&& 31)) ^^^ (-1))) (bt P) := by
  unfold wW wX
  rw [up_eq h]
  rfl
/-- one worker away -/
theorem bk_away (hs : lbS (shI ++ Ξ) a) (h9 : 169 ≤ lab a) {l : Nat} (h : BQ Ξ a B0 H N M kp false l L P ν) (hN : N ≤ 4) (hN1 : 1 ≤ N) (hM : M ≤ 4) (hl : l ≤ 270) (x3 : Int32) (e0 : E0 N P) : ∃ L' P' ν', BQ Ξ a B0 H N M kp false (l + 14) L' P' ν' ∧ (∀ v, bM P' v = 12) ∧ Fr (F8 a) ν ν' ∧
    f_L_book_J252 0 168 (lab a) x3 (Int32.ofNat N) (Int32.ofNat M) (mX Ξ ν) = f_L_book_J309 0 168 (lab a) x3 (Int32.ofNat N) (Int32.ofNat M) (mX Ξ ν') := by
  by_cases c : ((x3 >>> ((4 : Int32) &&& 31)) &&& (3 : Int32)) = (0 : Int32)
  · have h0 := h
    obtain ⟨hb', htl, hP, ⟨p1, p2, p3⟩, hlen⟩ := h
    have n0 : ¬ (Int32.ofNat N = 0) := by rw [leq_0 (by omega)]; omega
    obtain ⟨m, m1, m2⟩ := andc (x3 >>> ((6 : Int32) &&& 31)) (m := 255) (by decide)
    have m2 : (x3 >>> ((6 : Int32) &&& 31)) &&& (255 : Int32) = Int32.ofNat m := m2
    have em := modN m (by omega) N (by omega) (by omega)
    obtain ⟨w, hw⟩ : ∃ w, w = m % N := ⟨_, rfl⟩
    have wN : w < N := by rw [hw]; exact Nat.mod_lt _ (by omega)
    rw [← hw] at em
    have d1 := dgs1 (w := w) (by omega)
    have g3 : ν.1 (lab a) 3 = bw P := hb'.2.1.2.2.2.1
    have e2 := hs.p (μ := ν) (v := bw P &&& (((1 : Int32) <<< (Int32.ofNat w &&& 31)) ^^^ (-1))) (show 3 < 5 by decide)
    have eW := wW_x (P := P) (e0.1 w)
    have b1 : BT Ξ a B0 H L (wk (wW P w false) kp) (st ν (lab a) 3 (bw P &&& (((1 : Int32) <<< (Int32.ofNat w &&& 31)) ^^^ (-1)))) := ⟨hb'.1.st9 h9, by rw [eW]; exact hb'.2.w3 hs _⟩
    have o := hs.2.2.1
    have f1 : Fr (F8 a) ν (st ν (lab a) 3 (bw P &&& (((1 : Int32) <<< (Int32.ofNat w &&& 31)) ^^^ (-1)))) := (Fr.refl _ _).st (Or.inr (by unfold LF; omega))
    have l17 : (sNt 17).length = 12 := rfl
    have l16 : (sNt 16).length = 1 := rfl
    obtain ⟨ν2, e3, b2, f2⟩ := tell_b hs h9 b1 (i := 17) (by decide) (by rw [l17]; omega)
    obtain ⟨ν3, e4, b3, f3⟩ := dig_b hs h9 b2 (v := w) (by omega) (by simp only [List.length_append, l17]; omega)
    obtain ⟨ν4, e5, b4, f4⟩ := tell_b hs h9 b3 (i := 16) (by decide) (by simp only [List.length_append, l17, l16, d1]; omega)
    have e3 : f_L_tell 0 168 1000018 (mX Ξ (st ν (lab a) 3 (bw P &&& (((1 : Int32) <<< (Int32.ofNat w &&& 31)) ^^^ (-1))))) = some (mX Ξ ν2) := e3
    have e5 : f_L_tell 0 168 1000017 (mX Ξ ν3) = some (mX Ξ ν4) := e5
    have la : L ++ sNt 17 ++ dgs w ++ sNt 16 = L ++ awayL w := by
      rw [s17, s16]
      unfold awayL
      simp only [List.append_assoc, List.cons_append, List.nil_append]
    rw [la] at b4
    have ll : (awayL w).length = 14 := by
      unfold awayL
      simp only [List.length_append, List.length_cons, d1]
      rfl
    refine ⟨L ++ awayL w, wW P w false, ν4, ⟨b4, htl.next (by rw [ll]; omega) (show (97 : Nat) ≠ 32 by decide) (fun n y p r q => ln_away r q (by omega) (by omega) (by rw [e0.2]; exact wNb N (by omega) w wN) (e0.1 w)), wW_ok hP (by omega), ⟨p1, p2, p3⟩, by rw [List.length_append, ll]; omega⟩, fun v => ?_, ((f1.trans f2).trans f3).trans f4, ?_⟩
    · rw [eW]; exact e0.1 v
    · simp only [f_L_book_J252, if_pos c, if_neg n0, lt, m2, em, ↓hbind (hs.g (show 3 < 5 by decide)), g3, ↓hbind e2, ↓hbind e3, ↓hbind e4, ↓hbind e5]
  · exact ⟨L, P, ν, h.le (by omega), e0.1, Fr.refl _ _, by simp only [f_L_book_J252, if_neg c]⟩
/-- a pair is laid down -/
theorem lbV.mt (hs : lbS (shI ++ Ξ) a) (h : lbV ν a D) {w t : Nat} (hw : w < 12) (ht : t < 12) (ho : ow (bM D) t = 12) : lbV (st ν (laq a) w (Int32.ofNat t)) a (wM D (jo (bM D) w t)) := by
  obtain ⟨⟨h0, h1, h2, h3, h4⟩, h5, h6, h7, h8, h9, h10, h11⟩ := h
  obtain ⟨-, -, s1, s2, s3, s4, s5, s6⟩ := hs
  have nt : ∀ v, v < 12 → bM D v ≠ t := fun v hv => ow_none.mp ho v hv
  refine ⟨⟨?_, ?_, ?_, ?_, ?_⟩, fun v s hv hs' => ?_, fun v hv => ?_, fun v hv => ?_, h8, fun v => ?_, h10, h11⟩
  · rw [st_ne (Or.inl (by omega))]; exact h0
  · rw [st_ne (Or.inl (by omega))]; exact h1
  · rw [st_ne (Or.inl (by omega))]; exact h2
  · rw [st_ne (Or.inl (by omega))]; exact h3
  · rw [st_ne (Or.inl (by omega))]; exact h4
  · rw [st_ne (Or.inl (s5.2 v hv).1)]; exact h5 v s hv hs'
  · show _ = eI (if v = w then t else if bM D v = t then 12 else bM D v)
    by_cases z : v = w
    · rw [if_pos z, z, st_same, eI_lt ht]
    · rw [if_neg z, if_neg (nt v hv), st_ne (Or.inr z)]; exact h6 v hv
  · rw [st_ne (Or.inl (Ne.symm s5.1))]; exact h7 v hv
  · show (if v = w then t else if bM D v = t then 12 else bM D v) ≤ 12
    split
    · omega
    · split
      · omega
      · exact h9 v
theorem pairL_len {w t : Nat} (hw : w < 10) (ht : t < 10) : (pairL w t).length = 9 := by
  unfold pairL
  simp only [List.length_append, List.length_cons, dgs1 hw, dgs1 ht]
  rfl
theorem bk_p (hs : lbS (shI ++ Ξ) a) (h9 : 169 ≤ lab a) (hN : N ≤ 4) (hM : M ≤ 4) (hM1 : 1 ≤ M) (x3 : Int32) {l : Nat} (h : BQ Ξ a B0 H N M kp false l L P ν) (hl : l ≤ 285) {w : Nat} (hw : w < N) (hc : ((x3 >>> ((7 : Int32) &&& 31)) &&& (1 : Int32)) = (0 : Int32)) (e0 : ∀ v, w ≤ v → bM P v = 12) : ∃ L' P' ν', BQ Ξ a B0 H N M kp false (l + 9) L' P' ν' ∧ (∀ v, w + 1 ≤ v → bM P' v = 12) ∧ Fr (F8 a) ν ν' ∧
    ∀ f k1, f_L_book_L312 k1 (f + 1) 0 168 (lab a) x3 (Int32.ofNat N) (Int32.ofNat M) (Int32.ofNat w) (mX Ξ ν) = f_L_book_L312 k1 f 0 168 (lab a) x3 (Int32.ofNat N) (Int32.ofNat M) (Int32.ofNat (w + 1)) (mX Ξ ν') := by
  have h0 := h
  obtain ⟨hb', htl, hP, ⟨p1, p2, p3⟩, hlen⟩ := h
  have c0 : ¬ (Int32.ofNat w ≥ Int32.ofNat N) := by rw [oN_ge (by omega) (by omega)]; omega
  have n0 : ¬ (Int32.ofNat M = 0) := by rw [leq_0 (by omega)]; omega
  obtain ⟨m, m1, m2⟩ := andc (x3 >>> ((Int32.ofNat w + (2 : Int32)) &&& 31)) (m := 255) (by decide)
  have m2 : (x3 >>> ((Int32.ofNat w + (2 : Int32)) &&& 31)) &&& (255 : Int32) = Int32.ofNat m := m2
  have em := modN m (by omega) M (by omega) (by omega)
  obtain ⟨t, ht⟩ : ∃ t, t = m % M := ⟨_, rfl⟩
  have tM : t < M := by rw [ht]; exact Nat.mod_lt _ (by omega)
  rw [← ht] at em
  have ec := l_can hs hb'.2 (show w < 12 by omega) (show t < 12 by omega)
  have eg : gE (wk P kp) w t = gE P w t := rfl
  rw [eg] at ec
  cases g : gE P w t with
  | false =>
    rw [g] at ec
    have ec : f_X10_can (lab a) (Int32.ofNat w) (Int32.ofNat t) (mX Ξ ν) = some (0, mX Ξ ν) := ec
    refine ⟨L, P, ν, h0.le (by omega), fun v hv => e0 v (by omega), Fr.refl _ _, fun f k1 => ?_⟩
    simp only [f_L_book_L312, if_neg c0, if_pos hc, if_neg n0, lt, m2, em, ↓hvc (fun _ => hs.vc), ↓hbind ec, if_true, f_L_book_J410, i_succ]
  | true =>
    rw [g] at ec
    have ec : f_X10_can (lab a) (Int32.ofNat w) (Int32.ofNat t) (mX Ξ ν) = some (1, mX Ξ ν) := ec
    have eo := l_owner hs hb'.2 (fun v hv => hP.h12 v hv) (show t < 12 by omega)
    have eo : f_X10_owner (lab a) (Int32.ofNat t) (mX Ξ ν) = some (eI (ow (bM P) t), mX Ξ ν) := eo
    have ol := ow_le (bM P) t
    by_cases o : ow (bM P) t = 12
    · have n1 : (eI (ow (bM P) t) < 0) := by rw [o]; decide
      have e2 := hs.sq (μ := ν) (v := Int32.ofNat t) (show w < 12 by omega)
      have ql := hs.2.2.2.1
      have b1 : BT Ξ a B0 H L (wk (wM P (jo (bM P) w t)) kp) (st ν (laq a) w (Int32.ofNat t)) := ⟨hb'.1.st9 (by omega), hb'.2.mt hs (by omega) (by omega) o⟩
      have f1 : Fr (F8 a) ν (st ν (laq a) w (Int32.ofNat t)) := (Fr.refl _ _).st (Or.inr (by unfold LF; omega))
      have d1 := dgs1 (w := w) (by omega)
      have d2 := dgs1 (w := t) (by omega)
      have l18 : (sNt 18).length = 5 := rfl
      have l15 : (sNt 15).length = 1 := rfl
      have l16 : (sNt 16).length = 1 := rfl
      obtain ⟨ν2, e3, b2, f2⟩ := tell_b hs h9 b1 (i := 18) (by decide) (by rw [l18]; omega)
      obtain ⟨ν3, e4, b3, f3⟩ := dig_b hs h9 b2 (v := w) (by omega) (by simp only [List.length_append, l18]; omega)
      obtain ⟨ν4, e5, b4, f4⟩ := tell_b hs h9 b3 (i := 15) (by decide) (by simp only [List.length_append, l18, l15, d1]; omega)
      obtain ⟨ν5, e6, b5, f5⟩ := dig_b hs h9 b4 (v := t) (by omega) (by simp only [List.length_append, l18, l15, d1]; omega)
      obtain ⟨ν6, e7, b6, f6⟩ := tell_b hs h9 b5 (i := 16) (by decide) (by simp only [List.length_append, l18, l15, l16, d1, d2]; omega)
      have e3 : f_L_tell 0 168 1000019 (mX Ξ (st ν (laq a) w (Int32.ofNat t))) = some (mX Ξ ν2) := e3
      have e5 : f_L_tell 0 168 1000016 (mX Ξ ν3) = some (mX Ξ ν4) := e5
      have e7 : f_L_tell 0 168 1000017 (mX Ξ ν5) = some (mX Ξ ν6) := e7
      have la : L ++ sNt 18 ++ dgs w ++ sNt 15 ++ dgs t ++ sNt 16 = L ++ pairL w t := by
        rw [s18, s15, s16]
        unfold pairL
        simp only [List.append_assoc, List.cons_append, List.nil_append]
      rw [la] at b6
      have ll := pairL_len (w := w) (t := t) (by omega) (by omega)
      obtain ⟨⟨g1, g2⟩, g3⟩ : (hb (bf P w) t = true ∧ hb (bw P) w = true) ∧ hb (bt P) t = true := by
        simpa [gE, Bool.and_eq_true] using g
      refine ⟨L ++ pairL w t, wM P (jo (bM P) w t), ν6, ⟨b6, htl.next (by rw [ll]; omega) (show (112 : Nat) ≠ 32 by decide) (fun n y p r q => ln_pair r q (by omega) (by omega) (by omega) (by omega) g2 (e0 w (Nat.le_refl w)) g3 o g1), wM_ok hP (jo_Ms hP.M (by omega) (by omega) g), ⟨p1, p2, p3⟩, by rw [List.length_append, ll]; omega⟩, fun v hv => ?_, ((((f1.trans f2).trans f3).trans f4).trans f5).trans f6, fun f k1 => ?_⟩
      · show (if v = w then t else if bM P v = t then 12 else bM P v) = 12
        rw [if_neg (by omega), e0 v (by omega), if_neg (by omega)]
      · simp only [f_L_book_L312, if_neg c0, if_pos hc, if_neg n0, lt, m2, em, ↓hvc (fun _ => hs.vc), ↓hbind ec, z_1, if_false, ↓hbind eo, if_pos n1, ↓hbind hs.r6, ↓hbind e2, ↓hbind e3, ↓hbind e4, ↓hbind e5, ↓hbind e6, ↓hbind e7, f_L_book_J410, i_succ]
    · have n1 : ¬ (eI (ow (bM P) t) < 0) := by rw [eI_l0]; omega
      refine ⟨L, P, ν, h0.le (by omega), fun v hv => e0 v (by omega), Fr.refl _ _, fun f k1 => ?_⟩
      simp only [f_L_book_L312, if_neg c0, if_pos hc, if_neg n0, lt, m2, em, ↓hvc (fun _ => hs.vc), ↓hbind ec, z_1, if_false, ↓hbind eo, if_neg n1, f_L_book_J410, i_succ]
theorem bk_ps (hs : lbS (shI ++ Ξ) a) (h9 : 169 ≤ lab a) (hN : N ≤ 4) (hM : M ≤ 4) (hM1 : 1 ≤ M) (x3 : Int32) : ∀ (d w l : Nat) (L : List Nat) (P : Bk) (ν : MM), w + d = N → l + 9 * d ≤ 285 → BQ Ξ a B0 H N M kp false l L P ν → (∀ v, w ≤ v → bM P v = 12) → ∃ L' P' ν', BQ Ξ a B0 H N M kp false (l + 9 * d) L' P' ν' ∧ Fr (F8 a) ν ν' ∧
    ∀ f k1, f_L_book_L312 k1 (d + 1 + f) 0 168 (lab a) x3 (Int32.ofNat N) (Int32.ofNat M) (Int32.ofNat w) (mX Ξ ν) = k1 0 168 (lab a) x3 (Int32.ofNat N) (mX Ξ ν')
  | 0, w, l, L, P, ν, hw, hl, h, e0 => by
    have w0 : w = N := by omega
    subst w0
    have c0 : (Int32.ofNat w ≥ Int32.ofNat w) := by rw [oN_ge (by omega) (by omega)]; omega
    refine ⟨L, P, ν, h, Fr.refl _ _, fun f k1 => ?_⟩
    rw [show 0 + 1 + f = f + 1 by omega]
    simp only [f_L_book_L312, if_pos c0]
  | d + 1, w, l, L, P, ν, hw, hl, h, e0 => by
    by_cases hc : ((x3 >>> ((7 : Int32) &&& 31)) &&& (1 : Int32)) = (0 : Int32)
    · obtain ⟨L1, P1, ν1, b1, n1, f1, e1⟩ := bk_p hs h9 hN hM hM1 x3 h (by omega) (show w < N by omega) hc e0
      obtain ⟨L2, P2, ν2, b2, f2, e2⟩ := bk_ps hs h9 hN hM hM1 x3 d (w + 1) (l + 9) L1 P1 ν1 (by omega) (by omega) b1 n1
      refine ⟨L2, P2, ν2, b2.le (by omega), f1.trans f2, fun f k1 => ?_⟩
      rw [show d + 1 + 1 + f = (d + 1 + f) + 1 by omega, e1, e2]
    · have c0 : ¬ (Int32.ofNat w ≥ Int32.ofNat N) := by rw [oN_ge (by omega) (by omega)]; omega
      refine ⟨L, P, ν, h.le (by omega), Fr.refl _ _, fun f k1 => ?_⟩
      rw [show d + 1 + 1 + f = (d + 1 + f) + 1 by omega]
      simp only [f_L_book_L312, if_neg c0, if_neg hc]
theorem wE_at {w v : Nat} : be (wE D w v) w = v := up_same _ _ _
theorem wE_nx {w v u : Nat} (h : u ≠ w) : be (wE D w v) u = be D u := up_ne h
/-- a weight is laid down -/
theorem lbV.we (hs : lbS (shI ++ Ξ) a) (h : lbV ν a D) {w v : Nat} (hw : w < 12) (hv : v ≤ 99) : lbV (st ν (lar a) w (Int32.ofNat v)) a (wE D w v) := by
  obtain ⟨⟨h0, h1, h2, h3, h4⟩, h5, h6, h7, h8, h9, h10, h11⟩ := h
  obtain ⟨-, -, s1, s2, s3, s4, s5, s6⟩ := hs
  refine ⟨⟨?_, ?_, ?_, ?_, ?_⟩, fun u s hu hs' => ?_, fun u hu => ?_, fun u hu => ?_, h8, h9, fun u => ?_, h11⟩
  · rw [st_ne (Or.inl (by omega))]; exact h0
  · rw [st_ne (Or.inl (by omega))]; exact h1
  · rw [st_ne (Or.inl (by omega))]; exact h2
  · rw [st_ne (Or.inl (by omega))]; exact h3
  · rw [st_ne (Or.inl (by omega))]; exact h4
  · rw [st_ne (Or.inl (s5.2 u hu).2)]; exact h5 u s hu hs'
  · rw [st_ne (Or.inl s5.1)]; exact h6 u hu
  · by_cases z : u = w
    · rw [z, st_same, wE_at]
    · rw [st_ne (Or.inr z), wE_nx z]; exact h7 u hu
  · by_cases z : u = w
    · rw [z, wE_at]; exact hv
    · rw [wE_nx z]; exact h10 u
theorem bk_we (hs : lbS (shI ++ Ξ) a) (h9 : 169 ≤ lab a) {l : Nat} (h : BQ Ξ a B0 H N M kp false l L P ν) (hN : N ≤ 4) (hN1 : 1 ≤ N) (hl : l ≤ 280) (x3 : Int32) : ∃ L' P' ν', BQ Ξ a B0 H N M kp false (l + 12) L' P' ν' ∧ Fr (F8 a) ν ν' ∧
    f_L_book_J416 0 168 (lab a) x3 (Int32.ofNat N) (mX Ξ ν) = f_L_book_J492 0 168 (lab a) (mX Ξ ν') := by
  by_cases c : ((x3 >>> ((9 : Int32) &&& 31)) &&& (1 : Int32)) = (0 : Int32)
  · have h0 := h
    obtain ⟨hb', htl, hP, ⟨p1, p2, p3⟩, hlen⟩ := h
    have n0 : ¬ (Int32.ofNat N = 0) := by rw [leq_0 (by omega)]; omega
    obtain ⟨m, m1, m2⟩ := andc (x3 >>> ((10 : Int32) &&& 31)) (m := 255) (by decide)
    have m2 : (x3 >>> ((10 : Int32) &&& 31)) &&& (255 : Int32) = Int32.ofNat m := m2
    have em := modN m (by omega) N (by omega) (by omega)
    obtain ⟨w, hw⟩ : ∃ w, w = m % N := ⟨_, rfl⟩
    have wN : w < N := by rw [hw]; exact Nat.mod_lt _ (by omega)
    rw [← hw] at em
    obtain ⟨v, v1, v2⟩ := andc (x3 >>> ((8 : Int32) &&& 31)) (m := 63) (by decide)
    have v2 : (x3 >>> ((8 : Int32) &&& 31)) &&& (63 : Int32) = Int32.ofNat v := v2
    have d1 := dgs1 (w := w) (by omega)
    have d2 := dgs_len (v := v)
    have e2 := hs.sr (μ := ν) (v := Int32.ofNat v) (show w < 12 by omega)
    have ql := hs.2.2.2.2.1
    have b1 : BT Ξ a B0 H L (wk (wE P w v) kp) (st ν (lar a) w (Int32.ofNat v)) := ⟨hb'.1.st9 (by omega), hb'.2.we hs (by omega) (by omega)⟩
    have f1 : Fr (F8 a) ν (st ν (lar a) w (Int32.ofNat v)) := (Fr.refl _ _).st (Or.inr (by unfold LF; omega))
    have l19 : (sNt 19).length = 7 := rfl
    have l15 : (sNt 15).length = 1 := rfl
    have l16 : (sNt 16).length = 1 := rfl
    obtain ⟨ν2, e3, b2, f2⟩ := tell_b hs h9 b1 (i := 19) (by decide) (by rw [l19]; omega)
    obtain ⟨ν3, e4, b3, f3⟩ := dig_b hs h9 b2 (v := w) (by omega) (by simp only [List.length_append, l19]; omega)
    obtain ⟨ν4, e5, b4, f4⟩ := tell_b hs h9 b3 (i := 15) (by decide) (by simp only [List.length_append, l19, l15, d1]; omega)
    have g4 : ν4.1 (lar a) w = Int32.ofNat v := by
      have := b4.2.2.2.2.1 w (by omega)
      rw [this]
      show Int32.ofNat (up (be P) w v w) = _
      rw [up_same]
    obtain ⟨ν5, e6, b5, f5⟩ := dig_b hs h9 b4 (v := v) (by omega) (by simp only [List.length_append, l19, l15, d1]; omega)
    obtain ⟨ν6, e7, b6, f6⟩ := tell_b hs h9 b5 (i := 16) (by decide) (by simp only [List.length_append, l19, l15, l16, d1]; omega)
    have e3 : f_L_tell 0 168 1000020 (mX Ξ (st ν (lar a) w (Int32.ofNat v))) = some (mX Ξ ν2) := e3
    have e5 : f_L_tell 0 168 1000016 (mX Ξ ν3) = some (mX Ξ ν4) := e5
    have e7 : f_L_tell 0 168 1000017 (mX Ξ ν5) = some (mX Ξ ν6) := e7
    have la : L ++ sNt 19 ++ dgs w ++ sNt 15 ++ dgs v ++ sNt 16 = L ++ weightL w v := by
      rw [s19, s15, s16]
      unfold weightL
      simp only [List.append_assoc, List.cons_append, List.nil_append]
    rw [la] at b6
    have ll : (weightL w v).length ≤ 12 := by
      unfold weightL
      simp only [List.length_append, List.length_cons, d1]
      show 6 + (1 + ((dgs v).length + (0 + 1) + 1) + 1) ≤ 12
      omega
    have lp : 0 < (weightL w v).length := by
      unfold weightL
      simp only [List.length_append, List.length_cons]
      omega
    refine ⟨L ++ weightL w v, wE P w v, ν6, ⟨b6, htl.next lp (show (119 : Nat) ≠ 32 by decide) (fun n y p r q => ln_weight r q (by omega) (by omega) (by omega)), wE_ok hP (by omega), ⟨p1, p2, p3⟩, by rw [List.length_append]; omega⟩, ((((f1.trans f2).trans f3).trans f4).trans f5).trans f6, ?_⟩
    simp only [f_L_book_J416, if_pos c, if_neg n0, lt, m2, em, v2, ↓hbind hs.r7, ↓hbind e2, ↓hbind e3, ↓hbind e4, ↓hbind e5, ↓hbind (hs.ar (show w < 12 by omega)), g4, ↓hbind e6, ↓hbind e7]
  · exact ⟨L, P, ν, h.le (by omega), Fr.refl _ _, by simp only [f_L_book_J416, if_neg c]⟩
end G9
