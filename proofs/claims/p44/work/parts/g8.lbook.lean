/-! THE LAW: book, its fits drawn and told -/
/-- told so far, and the law's own book -/
def BT (Ξ : xH) (a : LA) (B0 : Bk) (H : List Bk) (L : List Nat) (D : Bk) (ν : MM) : Prop := TPs Ξ B0 H L ν ∧ lbV ν a D
def F8 (a : LA) (q i : Nat) : Prop := PF q i ∨ LF a q i
theorem andc (x : Int32) {m : Nat} (hm : m < 2147483648) : ∃ c, c ≤ m ∧ x &&& Int32.ofNat m = Int32.ofNat c := by
  refine ⟨(x &&& Int32.ofNat m).toBitVec.toNat, ?_, ?_⟩
  · rw [Int32.toBitVec_and, BitVec.toNat_and]
    have := Nat.and_le_right (n := x.toBitVec.toNat) (m := (Int32.ofNat m).toBitVec.toNat)
    have e : (Int32.ofNat m).toBitVec.toNat = m := by
      show (BitVec.ofNat 32 m).toNat = m
      rw [BitVec.toNat_ofNat]
      omega
    omega
  · apply Int32.toBitVec_inj.mp
    show _ = BitVec.ofNat 32 (x &&& Int32.ofNat m).toBitVec.toNat
    generalize (x &&& Int32.ofNat m).toBitVec = X
    apply BitVec.eq_of_toNat_eq
    rw [BitVec.toNat_ofNat, Nat.mod_eq_of_lt X.isLt]
section G8
variable {Ξ : xH} {μ ν : MM} {a : LA} {B0 D P : Bk} {H : List Bk} {L : List Nat} {N M kp : Nat}
theorem TPs.st9 (h : TPs Ξ B0 H L ν) {q k : Nat} {v : Int32} (hq : 169 ≤ q) : TPs Ξ B0 H L (st ν q k v) := by
  obtain ⟨h1, ⟨A, hC, hA, hB1⟩, h3, h4⟩ := h
  refine ⟨h1, ⟨A, hC.fr TT_F (P := fun p _ => 169 ≤ p) ((Fr.refl _ _).st hq) fun q i a z => by omega, hA, hB1⟩, ?_, fun k hk => ?_⟩
  · rw [st_ne (Or.inl (by omega))]; exact h3
  · rw [st_ne (Or.inl (by omega))]; exact h4 k hk
theorem lbV.pf (hs : lbS (shI ++ Ξ) a) (h9 : 169 ≤ lab a) (h : lbV ν a D) {ν' : MM} (f : Fr PF ν ν') : lbV ν' a D := h.fr hs f fun q i z y => by
  unfold LF at z
  unfold PF CL at y
  omega
theorem Fr.p8 {ν' : MM} (f : Fr PF ν ν') : Fr (F8 a) ν ν' := f.mono fun _ _ z => Or.inl z
theorem tell_b (hs : lbS (shI ++ Ξ) a) (h9 : 169 ≤ lab a) (h : BT Ξ a B0 H L D ν) {i : Nat} (hi : i < 21) (hl : L.length + (sNt i).length ≤ 300) : ∃ ν', f_L_tell 0 168 (1000001 + i) (mX Ξ ν) = some (mX Ξ ν') ∧ BT Ξ a B0 H (L ++ sNt i) D ν' ∧ Fr (F8 a) ν ν' := by
  obtain ⟨ν', e, t, f⟩ := tell_go h.1 hi hl
  exact ⟨ν', e, ⟨t, h.2.pf hs h9 f⟩, f.p8⟩
theorem dig_b (hs : lbS (shI ++ Ξ) a) (h9 : 169 ≤ lab a) (h : BT Ξ a B0 H L D ν) {v : Nat} (hv : v < 100) (hl : L.length + 2 ≤ 300) : ∃ ν', f_L_digits 0 168 (Int32.ofNat v) (mX Ξ ν) = some (mX Ξ ν') ∧ BT Ξ a B0 H (L ++ dgs v) D ν' ∧ Fr (F8 a) ν ν' := by
  obtain ⟨ν', e, t, f⟩ := digits_go h.1 hv hl
  exact ⟨ν', e, ⟨t, h.2.pf hs h9 f⟩, f.p8⟩
/-- a cost is laid down -/
theorem lbV.wf (hs : lbS (shI ++ Ξ) a) (h : lbV ν a D) {w t c : Nat} (hw : w < 12) (ht : t < 12) (hc : c ≤ 99) : lbV (st ν (lao a w) t (Int32.ofNat c)) a (wF D w t c) := by
  obtain ⟨⟨h0, h1, h2, h3, h4⟩, h5, h6, h7, h8, h9, h10, h11⟩ := h
  obtain ⟨-, -, s1, s2, s3, s4, s5, s6⟩ := hs
  have o := s4 w hw
  have p := s5.2 w hw
  refine ⟨⟨?_, ?_, ?_, ?_, ?_⟩, fun v s hv hs' => ?_, fun v hv => ?_, fun v hv => ?_, h8, h9, h10, fun v s => ?_⟩
  · rw [st_ne (Or.inl (by omega))]; exact h0
  · rw [st_ne (Or.inl (by omega))]; exact h1
  · rw [st_ne (Or.inl (by omega))]; exact h2
  · rw [st_ne (Or.inl (by omega))]; exact h3
  · rw [st_ne (Or.inl (by omega))]; exact h4
  · have hh : hb (bf (wF D w t c) v) s = (hb (bf D v) s || (decide (v = w) && decide (s = t))) := wF_hb ht
    have hc' : bc (wF D w t c) v s = if v = w ∧ s = t then c else bc D v s := rfl
    rw [hh, hc']
    by_cases z : v = w
    · by_cases y : s = t
      · rw [z, y, st_same]; simp
      · have n : ¬ (v = w ∧ s = t) := fun q => y q.2
        rw [if_neg n, decide_eq_false y, Bool.and_false, Bool.or_false, z, st_ne (Or.inr y)]
        exact h5 w s hw hs'
    · have n : ¬ (v = w ∧ s = t) := fun q => z q.1
      rw [if_neg n, decide_eq_false z, Bool.false_and, Bool.or_false, st_ne (Or.inl fun e => z (s6 v w hv hw e))]
      exact h5 v s hv hs'
  · rw [st_ne (Or.inl fun e => p.1 e.symm)]; exact h6 v hv
  · rw [st_ne (Or.inl fun e => p.2 e.symm)]; exact h7 v hv
  · show (if v = w ∧ s = t then c else bc D v s) ≤ 99
    split
    · exact hc
    · exact h11 v s
theorem dgs1 {w : Nat} (h : w < 10) : (dgs w).length = 1 := by unfold dgs; rw [if_pos h]; rfl
theorem fitL_len {w t c : Nat} (hw : w < 10) (ht : t < 10) : (fitL w t c).length ≤ 11 := by
  have h1 := dgs1 hw
  have h2 := dgs1 ht
  have h3 : (fitE c).length ≤ 4 := by
    unfold fitE
    split
    · simp
    · have := dgs_len (v := c)
      simp only [List.length_append, List.length_cons, List.length_nil]
      omega
  unfold fitL
  simp only [List.length_append, List.length_cons, h1, h2]
  show 3 + (1 + (1 + (fitE c).length + 1) + 1) ≤ 11
  omega
theorem s14 : sNt 14 = wdW 2 ++ [32] := by decide
theorem s15 : sNt 15 = [32] := by decide
theorem s16 : sNt 16 = [59] := by decide
/-- a fit is laid down and told -/
theorem bk_line (hs : lbS (shI ++ Ξ) a) (h9 : 169 ≤ lab a) (h : BT Ξ a B0 H L D ν) {w t c : Nat} (hw : w < 4) (ht : t < 4) (hc : c ≤ 99) (hl : L.length + 20 ≤ 300) : ∃ ν', BT Ξ a B0 H (L ++ fitL w t c) (wF D w t c) ν' ∧ Fr (F8 a) ν ν' ∧
    ∀ kH k1 x3 x4 x5, f_L_book_J169 kH k1 0 168 (lab a) x3 x4 x5 (Int32.ofNat w) (Int32.ofNat t) (lao a w) (Int32.ofNat t) (Int32.ofNat c) (mX Ξ ν) = kH 0 168 (lab a) x3 x4 x5 (Int32.ofNat w) (Int32.ofNat (t + 1)) (mX Ξ ν') := by
  have o := hs.2.2.2.2.2.1 w (by omega)
  have d1 := dgs1 (w := w) (by omega)
  have d2 := dgs1 (w := t) (by omega)
  have e1 := hs.so (μ := ν) (v := Int32.ofNat c) (show w < 12 by omega) (show t < 12 by omega)
  have b1 : BT Ξ a B0 H L (wF D w t c) (st ν (lao a w) t (Int32.ofNat c)) := ⟨h.1.st9 (by omega), h.2.wf hs (by omega) (by omega) hc⟩
  have f1 : Fr (F8 a) ν (st ν (lao a w) t (Int32.ofNat c)) := (Fr.refl _ _).st (Or.inr (by unfold LF; omega))
  have l14 : (sNt 14).length = 4 := rfl
  have l15 : (sNt 15).length = 1 := rfl
  have l16 : (sNt 16).length = 1 := rfl
  obtain ⟨ν2, e2, b2, f2⟩ := tell_b hs h9 b1 (i := 14) (by decide) (by rw [l14]; omega)
  obtain ⟨ν3, e3, b3, f3⟩ := dig_b hs h9 b2 (v := w) (by omega) (by simp only [List.length_append, l14]; omega)
  obtain ⟨ν4, e4, b4, f4⟩ := tell_b hs h9 b3 (i := 15) (by decide) (by simp only [List.length_append, l14, l15, d1]; omega)
  obtain ⟨ν5, e5, b5, f5⟩ := dig_b hs h9 b4 (v := t) (by omega) (by simp only [List.length_append, l14, l15, d1]; omega)
  have e2 : f_L_tell 0 168 1000015 (mX Ξ (st ν (lao a w) t (Int32.ofNat c))) = some (mX Ξ ν2) := e2
  have e4 : f_L_tell 0 168 1000016 (mX Ξ ν3) = some (mX Ξ ν4) := e4
  have f15 : Fr (F8 a) ν ν5 := (((f1.trans f2).trans f3).trans f4).trans f5
  have hf : hb (bf (wF D w t c) w) t = true := by rw [wF_hb (by omega)]; simp
  have hcv : bc (wF D w t c) w t = c := if_pos ⟨rfl, rfl⟩
  have go := fun (ξ : MM) (v : lbV ξ a (wF D w t c)) => v.2.1 w t (by omega) (by omega)
  rw [hf, hcv] at go
  have go : ∀ ξ, lbV ξ a (wF D w t c) → ξ.1 (lao a w) t = Int32.ofNat c := go
  have g5 := go ν5 b5.2
  have fin : ∀ (L' : List Nat) (ξ : MM), BT Ξ a B0 H L' (wF D w t c) ξ → L'.length + 1 ≤ 300 → Fr (F8 a) ν ξ → ∃ ν', BT Ξ a B0 H (L' ++ [59]) (wF D w t c) ν' ∧ Fr (F8 a) ν ν' ∧ ∀ kH k1 x3 x4 x5, f_L_book_J233 kH k1 0 168 (lab a) x3 x4 x5 (Int32.ofNat w) (Int32.ofNat t) (mX Ξ ξ) = kH 0 168 (lab a) x3 x4 x5 (Int32.ofNat w) (Int32.ofNat (t + 1)) (mX Ξ ν') := fun L' ξ b' hl' f' => by
    obtain ⟨ν', e, b'', f''⟩ := tell_b hs h9 b' (i := 16) (by decide) (by rw [l16]; exact hl')
    have e : f_L_tell 0 168 1000017 (mX Ξ ξ) = some (mX Ξ ν') := e
    rw [s16] at b''
    refine ⟨ν', b'', f'.trans f'', fun kH k1 x3 x4 x5 => ?_⟩
    simp only [f_L_book_J233, ↓hbind e, f_L_book_J240, lt, i_succ]
  by_cases z : c = 0
  · have c0 : (Int32.ofNat c ≤ 0) := by rw [lle_0 (by omega)]; omega
    obtain ⟨ν6, b6, f6, e6⟩ := fin _ ν5 b5 (by simp only [List.length_append, l14, l15, d1, d2]; omega) f15
    refine ⟨ν6, ?_, f6, fun kH k1 x3 x4 x5 => ?_⟩
    · have : L ++ fitL w t c = L ++ sNt 14 ++ dgs w ++ sNt 15 ++ dgs t ++ [59] := by
        rw [s14, s15]
        unfold fitL fitE
        rw [if_pos z]
        simp only [List.append_assoc, List.singleton_append]
        rfl
      rw [this]; exact b6
    · rw [← e6 kH k1 x3 x4 x5]
      simp only [f_L_book_J169, ↓hbind e1, ↓hbind e2, ↓hbind e3, ↓hbind e4, ↓hbind e5, ↓hbind hs.r5, ↓hbind (hs.ro (show w < 12 by omega)), ↓hbind (hs.ao (show w < 12 by omega) (show t < 12 by omega)), g5, if_pos c0]
  · have c0 : ¬ (Int32.ofNat c ≤ 0) := by rw [lle_0 (by omega)]; omega
    have d3 := dgs_len (v := c)
    obtain ⟨ν6, e6, b6, f6⟩ := tell_b hs h9 b5 (i := 15) (by decide) (by simp only [List.length_append, l14, l15, d1, d2]; omega)
    have e6 : f_L_tell 0 168 1000016 (mX Ξ ν5) = some (mX Ξ ν6) := e6
    have g6 := go ν6 b6.2
    obtain ⟨ν7, e7, b7, f7⟩ := dig_b hs h9 b6 (v := c) (by omega) (by simp only [List.length_append, l14, l15, d1, d2]; omega)
    obtain ⟨ν8, b8, f8, e8⟩ := fin _ ν7 b7 (by simp only [List.length_append, l14, l15, d1, d2]; omega) ((f15.trans f6).trans f7)
    refine ⟨ν8, ?_, f8, fun kH k1 x3 x4 x5 => ?_⟩
    · have : L ++ fitL w t c = L ++ sNt 14 ++ dgs w ++ sNt 15 ++ dgs t ++ sNt 15 ++ dgs c ++ [59] := by
        rw [s14, s15]
        unfold fitL fitE
        rw [if_neg z]
        simp only [List.append_assoc, List.singleton_append]
        rfl
      rw [this]; exact b8
    · rw [← e8 kH k1 x3 x4 x5]
      simp only [f_L_book_J169, ↓hbind e1, ↓hbind e2, ↓hbind e3, ↓hbind e4, ↓hbind e5, ↓hbind hs.r5, ↓hbind (hs.ro (show w < 12 by omega)), ↓hbind (hs.ao (show w < 12 by omega) (show t < 12 by omega)), g5, if_neg c0, ↓hbind e6, g6, ↓hbind e7]
/-- the law's book while it is drawn, and what is told of it -/
def BQ (Ξ : xH) (a : LA) (B0 : Bk) (H : List Bk) (N M kp : Nat) (kr : Bool) (l : Nat) (L : List Nat) (P : Bk) (ν : MM) : Prop := BT Ξ a B0 H L (wk P kp) ν ∧ Tld L P kr ∧ BOK P ∧ (bn P = N ∧ bm P = M ∧ bk P = 1) ∧ L.length ≤ l
/-- nothing paired, all workers there -/
def E0 (N : Nat) (P : Bk) : Prop := (∀ v, bM P v = 12) ∧ bw P = ((1 : Int32) <<< (Int32.ofNat N &&& 31)) - 1
theorem bk_a (hs : lbS (shI ++ Ξ) a) (h9 : 169 ≤ lab a) {l : Nat} (h : BQ Ξ a B0 H N M kp false l L P ν) (hN : N ≤ 4) (hM : M ≤ 4) (hl : l ≤ 280) {w t : Nat} (hw : w < N) (ht : t < M) (x3 : Int32) (e0 : E0 N P) : ∃ L' P' ν', BQ Ξ a B0 H N M kp false (l + 11) L' P' ν' ∧ E0 N P' ∧ Fr (F8 a) ν ν' ∧
    ∀ f k1 x4, f_L_book_L95 k1 (f + 1) 0 168 (lab a) x3 x4 (Int32.ofNat M) (Int32.ofNat w) (Int32.ofNat t) (mX Ξ ν) = f_L_book_L95 k1 f 0 168 (lab a) x3 x4 (Int32.ofNat M) (Int32.ofNat w) (Int32.ofNat (t + 1)) (mX Ξ ν') := by
  obtain ⟨hb', htl, hP, ⟨p1, p2, p3⟩, hlen⟩ := h
  have c0 : ¬ (Int32.ofNat t ≥ Int32.ofNat M) := by rw [oN_ge (by omega) (by omega)]; omega
  obtain ⟨v1, hv1⟩ : ∃ v1, v1 = (((x3 * (((2 : Int32) * Int32.ofNat w) + (3 : Int32))) + ((11 : Int32) * Int32.ofNat t)) + (((5 : Int32) * Int32.ofNat w) * Int32.ofNat t)) := ⟨_, rfl⟩
  by_cases c : ((v1 >>> ((3 : Int32) &&& 31)) &&& (3 : Int32)) ≤ (1 : Int32)
  · obtain ⟨s2, hs2, c2, hc2⟩ : ∃ s2 : Int32, (s2 = if ((v1 >>> ((5 : Int32) &&& 31)) &&& (1 : Int32)) = (0 : Int32) then 0 else ((v1 >>> ((6 : Int32) &&& 31)) &&& (15 : Int32))) ∧ ∃ c, c ≤ 99 ∧ s2 = Int32.ofNat c := by
      refine ⟨_, rfl, ?_⟩
      split
      · exact ⟨0, by omega, rfl⟩
      · obtain ⟨c, h1, h2⟩ := andc (v1 >>> ((6 : Int32) &&& 31)) (m := 15) (by decide)
        exact ⟨c, by omega, h2⟩
    obtain ⟨hc99, rfl⟩ := hc2
    obtain ⟨ν', b', f', e'⟩ := bk_line hs h9 hb' (w := w) (t := t) (c := c2) (by omega) (by omega) hc99 (by omega)
    have fl := fitL_len (w := w) (t := t) (c := c2) (by omega) (by omega)
    refine ⟨L ++ fitL w t c2, wF P w t c2, ν', ⟨b', htl.next ?_ ?_ (fun n y p r q => ln_fit r q (by omega) (by omega) (by omega) (by omega) hc99), wF_ok hP (by omega) (by omega) hc99, ⟨p1, p2, p3⟩, by rw [List.length_append]; omega⟩, e0, f', fun f k1 x4 => ?_⟩
    · unfold fitL; simp only [List.length_append, List.length_cons]; omega
    · show (102 : Nat) ≠ 32; decide
    · rw [← e' (f_L_book_L95 k1 f) k1 x3 x4 (Int32.ofNat M), hs2]
      by_cases d : ((v1 >>> ((5 : Int32) &&& 31)) &&& (1 : Int32)) = (0 : Int32)
      · simp only [f_L_book_L95, if_neg c0, ← hv1, lt, if_pos c, ↓hbind hs.r5, ↓hbind (hs.ro (show w < 12 by omega)), if_pos d]
      · simp only [f_L_book_L95, if_neg c0, ← hv1, lt, if_pos c, ↓hbind hs.r5, ↓hbind (hs.ro (show w < 12 by omega)), if_neg d]
  · refine ⟨L, P, ν, ⟨hb', htl, hP, ⟨p1, p2, p3⟩, by omega⟩, e0, Fr.refl _ _, fun f k1 x4 => ?_⟩
    simp only [f_L_book_L95, if_neg c0, ← hv1, lt, if_neg c, f_L_book_J240, i_succ]
theorem bk_t (hs : lbS (shI ++ Ξ) a) (h9 : 169 ≤ lab a) (hN : N ≤ 4) (hM : M ≤ 4) {w : Nat} (hw : w < N) (x3 : Int32) : ∀ (d t l : Nat) (L : List Nat) (P : Bk) (ν : MM), t + d = M → l + 11 * d ≤ 280 → BQ Ξ a B0 H N M kp false l L P ν → E0 N P → ∃ L' P' ν', BQ Ξ a B0 H N M kp false (l + 11 * d) L' P' ν' ∧ E0 N P' ∧ Fr (F8 a) ν ν' ∧
    ∀ f k1 x4, f_L_book_L95 k1 (d + 1 + f) 0 168 (lab a) x3 x4 (Int32.ofNat M) (Int32.ofNat w) (Int32.ofNat t) (mX Ξ ν) = k1 0 168 (lab a) x3 x4 (Int32.ofNat M) (Int32.ofNat w) (mX Ξ ν')
  | 0, t, l, L, P, ν, ht, hl, h, e0 => by
    have t0 : t = M := by omega
    subst t0
    have c0 : (Int32.ofNat t ≥ Int32.ofNat t) := by rw [oN_ge (by omega) (by omega)]; omega
    refine ⟨L, P, ν, h, e0, Fr.refl _ _, fun f k1 x4 => ?_⟩
    rw [show 0 + 1 + f = f + 1 by omega]
    simp only [f_L_book_L95, if_pos c0]
  | d + 1, t, l, L, P, ν, ht, hl, h, e0 => by
    obtain ⟨L1, P1, ν1, b1, n1, f1, e1⟩ := bk_a hs h9 h hN hM (by omega) hw (show t < M by omega) x3 e0
    obtain ⟨L2, P2, ν2, b2, n2, f2, e2⟩ := bk_t hs h9 hN hM hw x3 d (t + 1) (l + 11) L1 P1 ν1 (by omega) (by omega) b1 n1
    refine ⟨L2, P2, ν2, ⟨b2.1, b2.2.1, b2.2.2.1, b2.2.2.2.1, by have := b2.2.2.2.2; omega⟩, n2, f1.trans f2, fun f k1 x4 => ?_⟩
    rw [show d + 1 + 1 + f = (d + 1 + f) + 1 by omega, e1, e2]
theorem bk_w (hs : lbS (shI ++ Ξ) a) (h9 : 169 ≤ lab a) (hN : N ≤ 4) (hM : M ≤ 4) (x3 : Int32) : ∀ (d w l : Nat) (L : List Nat) (P : Bk) (ν : MM), w + d = N → l + 44 * d ≤ 280 → BQ Ξ a B0 H N M kp false l L P ν → E0 N P → ∃ L' P' ν', BQ Ξ a B0 H N M kp false (l + 44 * d) L' P' ν' ∧ E0 N P' ∧ Fr (F8 a) ν ν' ∧
    ∀ f k1, f_L_book_L85 k1 (d + 1 + f) 0 168 (lab a) x3 (Int32.ofNat N) (Int32.ofNat M) (Int32.ofNat w) (mX Ξ ν) = k1 0 168 (lab a) x3 (Int32.ofNat N) (Int32.ofNat M) (mX Ξ ν')
  | 0, w, l, L, P, ν, hw, hl, h, e0 => by
    have w0 : w = N := by omega
    subst w0
    have c0 : (Int32.ofNat w ≥ Int32.ofNat w) := by rw [oN_ge (by omega) (by omega)]; omega
    refine ⟨L, P, ν, h, e0, Fr.refl _ _, fun f k1 => ?_⟩
    rw [show 0 + 1 + f = f + 1 by omega]
    simp only [f_L_book_L85, if_pos c0]
  | d + 1, w, l, L, P, ν, hw, hl, h, e0 => by
    have c0 : ¬ (Int32.ofNat w ≥ Int32.ofNat N) := by rw [oN_ge (by omega) (by omega)]; omega
    obtain ⟨L1, P1, ν1, b1, n1, f1, e1⟩ := bk_t hs h9 hN hM (show w < N by omega) x3 M 0 l L P ν (by omega) (by omega) h e0
    obtain ⟨L2, P2, ν2, b2, n2, f2, e2⟩ := bk_w hs h9 hN hM x3 d (w + 1) (l + 44) L1 P1 ν1 (by omega) (by omega) ⟨b1.1, b1.2.1, b1.2.2.1, b1.2.2.2.1, by have := b1.2.2.2.2; omega⟩ n1
    refine ⟨L2, P2, ν2, ⟨b2.1, b2.2.1, b2.2.2.1, b2.2.2.2.1, by have := b2.2.2.2.2; omega⟩, n2, f1.trans f2, fun f k1 => ?_⟩
    have e1 := e1 (4999 - M) (f_L_book_J246 (f_L_book_L85 k1 (d + 1 + f)) k1) (Int32.ofNat N)
    rw [show M + 1 + (4999 - M) = 5000 by omega] at e1
    have e1 : f_L_book_L95 (f_L_book_J246 (f_L_book_L85 k1 (d + 1 + f)) k1) 5000 0 168 (lab a) x3 (Int32.ofNat N) (Int32.ofNat M) (Int32.ofNat w) 0 (mX Ξ ν) = _ := e1
    rw [show d + 1 + 1 + f = (d + 1 + f) + 1 by omega, ← e2 f k1]
    simp only [f_L_book_L85, if_neg c0, e1, f_L_book_J246, lt, i_succ]
end G8
