/-! THE LAW: bytes are put, fed, told -/
theorem hb_shrb {x : Int32} {i b : Nat} (h : i + b < 32) : hb (x >>> (Int32.ofNat i &&& 31)) b = hb x (i + b) := by
  have h2 : ∀ i, i < 32 → ((Int32.ofNat i &&& 31).toBitVec.smod 32).toNat = i := by decide +kernel
  unfold hb
  rw [Int32.toBitVec_shiftRight, BitVec.sshiftRight', BitVec.getLsbD_sshiftRight, h2 i (by omega)]
  simp [h]
  omega
theorem hb_shl {c k b : Nat} (hk : k < 32) (hb' : b < 32) (hc : c < 4294967296) : hb (Int32.ofNat c <<< (Int32.ofNat k &&& 31)) b = (decide (k ≤ b) && c.testBit (b - k)) := by
  have h2 : ∀ i, i < 32 → ((Int32.ofNat i &&& 31).toBitVec.smod 32).toNat = i := by decide +kernel
  rw [← hb_nat c (b - k) hc]
  unfold hb
  rw [Int32.toBitVec_shiftLeft, BitVec.shiftLeft_eq', BitVec.getLsbD_shiftLeft, h2 k hk]
  by_cases z : k ≤ b
  · simp [hb', z, show ¬ b < k by omega]
  · simp [z, show b < k by omega]
theorem fby_bit (x : Int32) {i : Nat} (hi : i < 4) (b : Nat) : (fby x i).testBit b = (decide (b < 8) && hb x (24 - 8 * i + b)) := by
  have e : (fby x i).testBit b = hb ((x >>> (Int32.ofNat (24 - 8 * i) &&& 31)) &&& (255 : Int32)) b := by
    unfold fby hb
    rw [BitVec.testBit_toNat]
  rw [e, hb_and]
  by_cases z : b < 8
  · rw [hb_shrb (by omega)]
    have : ∀ b, b < 8 → hb 255 b = true := by decide +kernel
    rw [this b z, decide_eq_true z, Bool.and_true, Bool.true_and]
  · rw [decide_eq_false z, Bool.false_and]
    by_cases y : b < 32
    · have : ∀ b, b < 32 → 8 ≤ b → hb 255 b = false := by decide +kernel
      rw [this b y (by omega), Bool.and_false]
    · rw [hb_ge 255 (by omega), Bool.and_false]
theorem fby_or {x : Int32} {c i j : Nat} (hc : c < 256) (hi : i < 4) (hj : j < 4) (h0 : fby x i = 0) : fby (x ||| (Int32.ofNat c <<< (Int32.ofNat (24 - 8 * i) &&& 31))) j = if j = i then c else fby x j := by
  apply Nat.eq_of_testBit_eq
  intro b
  rw [fby_bit _ hj, hb_or]
  by_cases z : b < 8
  · rw [decide_eq_true z, Bool.true_and, hb_shl (by omega) (by omega) (by omega)]
    by_cases e : j = i
    · rw [if_pos e, e]
      have := fby_bit x hi b
      rw [h0, Nat.zero_testBit, decide_eq_true z, Bool.true_and] at this
      rw [← this, decide_eq_true (by omega), Bool.false_or, Bool.true_and, show 24 - 8 * i + b - (24 - 8 * i) = b by omega]
    · rw [if_neg e, fby_bit _ hj, decide_eq_true z, Bool.true_and]
      have f0 : (decide (24 - 8 * i ≤ 24 - 8 * j + b) && c.testBit (24 - 8 * j + b - (24 - 8 * i))) = false := by
        by_cases y : 24 - 8 * i ≤ 24 - 8 * j + b
        · have : c < 2 ^ (24 - 8 * j + b - (24 - 8 * i)) := Nat.lt_of_lt_of_le hc (by rw [show 256 = 2 ^ 8 from rfl]; exact Nat.pow_le_pow_right (by omega) (by omega))
          rw [Nat.testBit_lt_two_pow this, Bool.and_false]
        · rw [decide_eq_false y, Bool.false_and]
      rw [f0, Bool.or_false]
  · rw [decide_eq_false z, Bool.false_and]
    have l8 : (if j = i then c else fby x j) < 256 := by
      split
      · exact hc
      · exact fby_lt x j
    exact (Nat.testBit_lt_two_pow (Nat.lt_of_lt_of_le l8 (by rw [show 256 = 2 ^ 8 from rfl]; exact Nat.pow_le_pow_right (by omega) (by omega)))).symm
theorem fby_0 (i : Nat) (hi : i < 4) : fby 0 i = 0 := by
  have : ∀ i, i < 4 → fby 0 i = 0 := by decide +kernel
  exact this i hi
/-- cells that telling changes -/
def PF (q i : Nat) : Prop := CL q i ∨ q = 168
/-- the tape: told L, of which the class has had all full twenties -/
def TPs (Ξ : xH) (B : Bk) (H : List Bk) (L : List Nat) (ν : MM) : Prop :=
  (shI ++ Ξ)[168]? = some (100, dI 8) ∧ (∃ A, RC TT ν A ∧ AOK A ∧ aB A = B ∧ aH A = H ∧ aN A = 20 * (L.length / 20) ∧ ∀ k, k < aN A → aY A k = L.getD k 0) ∧ ν.1 168 0 = Int32.ofNat L.length ∧
  ∀ k, k < 20 → fby (ν.1 168 (1 + k / 4)) (k % 4) = if k < L.length % 20 then L.getD (20 * (L.length / 20) + k) 0 else 0
section G4
variable {Ξ : xH} {μ ν : MM} {B : Bk} {H : List Bk} {L : List Nat}
theorem t_a {k : Nat} (h : (shI ++ Ξ)[168]? = some (100, dI 8)) (hk : k < 8) : aI (mX Ξ ν) 168 (Int32.ofNat k) = some (ν.1 168 k) := aI_k (isA_of h) hk (by omega)
theorem t_s {k : Nat} {v : Int32} (h : (shI ++ Ξ)[168]? = some (100, dI 8)) (hk : k < 8) : sI (mX Ξ ν) 168 (Int32.ofNat k) v = some (mX Ξ (st ν 168 k v)) := sI_k (isA_of h) hk (by omega)
theorem RC.t {A : AS} (h : RC TT ν A) {k : Nat} {v : Int32} : RC TT (st ν 168 k v) A := h.fr TT_F (P := fun p _ => p = 168) ((Fr.refl _ _).st rfl) fun q i a z => by omega
/-- the words are emptied -/
theorem feed_z (h : (shI ++ Ξ)[168]? = some (100, dI 8)) : ∀ (d i : Nat) (ν : MM), i + d = 6 → ∃ ν', (∀ f, f_L_feed_L22 f_L_feed_J38 (d + 1 + f) 168 (Int32.ofNat i) (mX Ξ ν) = some (mX Ξ ν')) ∧ Fr (fun q j => q = 168 ∧ i ≤ j ∧ j < 6) ν ν' ∧ ∀ k, i ≤ k → k < 6 → ν'.1 168 k = 0
  | 0, i, ν, hi => by
    have c0 : (Int32.ofNat i ≥ 6) := by rw [lge_6 (by omega)]; omega
    refine ⟨ν, fun f => ?_, Fr.refl _ _, fun k h1 h2 => by omega⟩
    rw [show 0 + 1 + f = f + 1 by omega]
    simp only [f_L_feed_L22, if_pos c0, f_L_feed_J38]
  | d + 1, i, ν, hi => by
    have c0 : ¬ (Int32.ofNat i ≥ 6) := by rw [lge_6 (by omega)]; omega
    obtain ⟨ν', e, f, g⟩ := feed_z h d (i + 1) (st ν 168 i 0) (by omega)
    refine ⟨ν', fun f => ?_, ((Fr.refl _ _).st ⟨rfl, Nat.le_refl i, by omega⟩).trans (f.mono fun q j z => ⟨z.1, by omega, z.2.2⟩), fun k h1 h2 => ?_⟩
    · rw [show d + 1 + 1 + f = (d + 1 + f) + 1 by omega, ← e f]
      simp only [f_L_feed_L22, if_neg c0, ↓hbind (t_s h (show i < 8 by omega)), lt, i_succ]
    · by_cases z : k = i
      · rw [(f 168 k (by omega)).1, z, st_same]
      · exact g k (by omega) h2
theorem feed_go (h : (shI ++ Ξ)[168]? = some (100, dI 8)) {A : AS} (hC : RC TT ν A) (hA : AOK A) (hN : aN A + 20 ≤ 300) : ∃ ν', f_L_feed 0 168 (mX Ξ ν) = some (mX Ξ ν') ∧ RC TT ν' (fA A fun j => ν.1 168 (1 + j)) ∧ AOK (fA A fun j => ν.1 168 (1 + j)) ∧ Fr PF ν ν' ∧ ν'.1 168 0 = ν.1 168 0 ∧ ∀ k, 1 ≤ k → k < 6 → ν'.1 168 k = 0 := by
  obtain ⟨ν1, e1, c1⟩ := c_feed (Ξ := Ξ) (p := fun j => ν.1 168 (1 + j)) hC hN
  obtain ⟨ν2, e2, f2, z2⟩ := feed_z h 5 1 ν1 rfl
  have e2 : f_L_feed_L22 f_L_feed_J38 5000 168 1 (mX Ξ ν1) = some (mX Ξ ν2) := e2 4994
  have r1 := hC.fed TT_F c1
  refine ⟨ν2, ?_, r1.fr TT_F f2 fun q i a z => by omega, fA_ok hA hN, (c1.1.mono fun q i z => by unfold PF CL; omega).trans (f2.mono fun q i z => Or.inr z.1), ?_, z2⟩
  · have a1 : aI (mX Ξ ν) 168 1 = some (ν.1 168 1) := t_a h (show 1 < 8 by decide)
    have a2 : aI (mX Ξ ν) 168 2 = some (ν.1 168 2) := t_a h (show 2 < 8 by decide)
    have a3 : aI (mX Ξ ν) 168 3 = some (ν.1 168 3) := t_a h (show 3 < 8 by decide)
    have a4 : aI (mX Ξ ν) 168 4 = some (ν.1 168 4) := t_a h (show 4 < 8 by decide)
    have a5 : aI (mX Ξ ν) 168 5 = some (ν.1 168 5) := t_a h (show 5 < 8 by decide)
    simp only [f_L_feed, ↓hbind a1, ↓hbind a2, ↓hbind a3, ↓hbind a4, ↓hbind a5, ↓hvc (fun _ => vc_0), ↓hbind e1, e2]
  · rw [(f2 168 0 (by omega)).1, (c1.1 168 0 (by omega)).1]
theorem put_k : ∀ k, k < 8 → ∀ c, c < 256 → (((((Int64.ofNat c).toUInt64 >>> (((8 : Int32) * Int32.ofNat k).toInt64.toUInt64 &&& (63 : Int64).toUInt64)).toInt64) &&& (255 : Int64)).toInt32) = if k = 0 then Int32.ofNat c else 0 := by decide +kernel
theorem put_skip {c : Nat} (hc : c < 256) (h : xH) : ∀ (k f : Nat), k < 8 → f_L_put_L4 f_L_put_J87 (k + f) 0 168 (Int64.ofNat c) (Int32.ofNat k) h = f_L_put_L4 f_L_put_J87 f 0 168 (Int64.ofNat c) (Int32.ofNat 0) h
  | 0, f, _ => by rw [Nat.zero_add]
  | k + 1, f, hk => by
    have c0 : ¬ (Int32.ofNat (k + 1) < 0) := by rw [oN_l0 (by omega)]; exact id
    have e := put_k (k + 1) hk c hc
    rw [if_neg (by omega)] at e
    rw [show k + 1 + f = (k + f) + 1 by omega, ← put_skip hc h k f (by omega)]
    simp only [f_L_put_L4, if_neg c0, e, lt, if_true, f_L_put_J81, i_dec]
theorem n20 : ∀ n, n < 301 → (Int32.ofNat n - Int32.ofNat n / (20 : Int32) * (20 : Int32)) = Int32.ofNat (n % 20) := by decide +kernel
theorem n20w : ∀ n, n < 301 → (1 : Int32) + (Int32.ofNat (n % 20)) / (4 : Int32) = Int32.ofNat (1 + n % 20 / 4) := by decide +kernel
theorem n4s : ∀ n, n < 301 → (24 : Int32) - ((8 : Int32) * (Int32.ofNat n - Int32.ofNat n / (4 : Int32) * (4 : Int32))) = Int32.ofNat (24 - 8 * (n % 4)) := by decide +kernel
/-- the cells of a put -/
def ptX (ν : MM) (n c : Nat) : Int32 := ν.1 168 (1 + n % 20 / 4) ||| (Int32.ofNat c <<< (Int32.ofNat (24 - 8 * (n % 4)) &&& 31))
def ptM (ν : MM) (n c : Nat) : MM := st (st ν 168 (1 + n % 20 / 4) (ptX ν n c)) 168 0 (Int32.ofNat (n + 1))
theorem put_start {c : Nat} (c2 : c < 256) (h : xH) : f_L_put 0 168 (Int64.ofNat c) h = f_L_put_L4 f_L_put_J87 4993 0 168 (Int64.ofNat c) (Int32.ofNat 0) h := put_skip c2 h 7 4993 (by decide)
theorem put_x (h1 : (shI ++ Ξ)[168]? = some (100, dI 8)) {n c : Nat} (h3 : ν.1 168 0 = Int32.ofNat n) (c1 : 1 ≤ c) (c2 : c < 256) (hl : n < 300) (last : n % 20 ≠ 19) : f_L_put 0 168 (Int64.ofNat c) (mX Ξ ν) = some (mX Ξ (ptM ν n c)) := by
  have e20 := n20 n (by omega)
  have ew := n20w n (by omega)
  have es := n4s n (by omega)
  have e20' := n20 (n + 1) (by omega)
  have cne : ¬ (Int32.ofNat c = 0) := by rw [leq_0 (by omega)]; omega
  have a0 : ∀ ν, aI (mX Ξ ν) 168 0 = some (ν.1 168 0) := fun ν => t_a h1 (show 0 < 8 by decide)
  have aw := t_a (ν := ν) h1 (show 1 + n % 20 / 4 < 8 by omega)
  have sw := t_s (ν := ν) (v := ptX ν n c) h1 (show 1 + n % 20 / 4 < 8 by omega)
  have s0 : sI (mX Ξ (st ν 168 (1 + n % 20 / 4) (ptX ν n c))) 168 0 (Int32.ofNat (n + 1)) = some (mX Ξ (ptM ν n c)) := t_s h1 (show 0 < 8 by decide)
  have g0 : (st ν 168 (1 + n % 20 / 4) (ptX ν n c)).1 168 0 = Int32.ofNat n := by rw [st_ne (Or.inr (by omega))]; exact h3
  have g1 : (ptM ν n c).1 168 0 = Int32.ofNat (n + 1) := st_same _ _ _ _
  have c00 : ¬ (Int32.ofNat 0 < 0) := by decide
  have ek := put_k 0 (by omega) c c2
  rw [if_pos rfl] at ek
  have c20 : ¬ (Int32.ofNat ((n + 1) % 20) = 0) := by rw [leq_0 (by omega)]; omega
  have c9 : (Int32.ofNat 0 + (-1) < 0) := by decide
  have xe : ν.1 168 (1 + n % 20 / 4) ||| (Int32.ofNat c <<< (Int32.ofNat (24 - 8 * (n % 4)) &&& 31)) = ptX ν n c := rfl
  rw [put_start c2]
  have main : ∀ f, f_L_put_L4 f_L_put_J87 (f + 1 + 1) 0 168 (Int64.ofNat c) (Int32.ofNat 0) (mX Ξ ν) = some (mX Ξ (ptM ν n c)) := fun f => by
    simp only [f_L_put_L4, if_neg c00, ek, lt, if_neg cne, ↓hbind (a0 ν), h3, e20, ew, ↓hbind aw, es, xe, ↓hbind sw, ↓hbind (a0 (st ν 168 (1 + n % 20 / 4) (ptX ν n c))), g0, i_succ, ↓hbind s0, ↓hbind (a0 (ptM ν n c)), g1, e20', if_neg c20, f_L_put_J81, if_pos c9, f_L_put_J87]
  exact main 4991
theorem put_y (h1 : (shI ++ Ξ)[168]? = some (100, dI 8)) {n c : Nat} (h3 : ν.1 168 0 = Int32.ofNat n) (c1 : 1 ≤ c) (c2 : c < 256) (hl : n < 300) (last : n % 20 = 19) {ξ : MM} (ef : f_L_feed 0 168 (mX Ξ (ptM ν n c)) = some (mX Ξ ξ)) : f_L_put 0 168 (Int64.ofNat c) (mX Ξ ν) = some (mX Ξ ξ) := by
  have e20 := n20 n (by omega)
  have ew := n20w n (by omega)
  have es := n4s n (by omega)
  have e20' := n20 (n + 1) (by omega)
  have cne : ¬ (Int32.ofNat c = 0) := by rw [leq_0 (by omega)]; omega
  have a0 : ∀ ν, aI (mX Ξ ν) 168 0 = some (ν.1 168 0) := fun ν => t_a h1 (show 0 < 8 by decide)
  have aw := t_a (ν := ν) h1 (show 1 + n % 20 / 4 < 8 by omega)
  have sw := t_s (ν := ν) (v := ptX ν n c) h1 (show 1 + n % 20 / 4 < 8 by omega)
  have s0 : sI (mX Ξ (st ν 168 (1 + n % 20 / 4) (ptX ν n c))) 168 0 (Int32.ofNat (n + 1)) = some (mX Ξ (ptM ν n c)) := t_s h1 (show 0 < 8 by decide)
  have g0 : (st ν 168 (1 + n % 20 / 4) (ptX ν n c)).1 168 0 = Int32.ofNat n := by rw [st_ne (Or.inr (by omega))]; exact h3
  have g1 : (ptM ν n c).1 168 0 = Int32.ofNat (n + 1) := st_same _ _ _ _
  have c00 : ¬ (Int32.ofNat 0 < 0) := by decide
  have ek := put_k 0 (by omega) c c2
  rw [if_pos rfl] at ek
  have c20 : (Int32.ofNat ((n + 1) % 20) = 0) := by rw [show (n + 1) % 20 = 0 by omega]; rfl
  have c9 : (Int32.ofNat 0 + (-1) < 0) := by decide
  have xe : ν.1 168 (1 + n % 20 / 4) ||| (Int32.ofNat c <<< (Int32.ofNat (24 - 8 * (n % 4)) &&& 31)) = ptX ν n c := rfl
  rw [put_start c2]
  have main : ∀ f, f_L_put_L4 f_L_put_J87 (f + 1 + 1) 0 168 (Int64.ofNat c) (Int32.ofNat 0) (mX Ξ ν) = some (mX Ξ ξ) := fun f => by
    simp only [f_L_put_L4, if_neg c00, ek, lt, if_neg cne, ↓hbind (a0 ν), h3, e20, ew, ↓hbind aw, es, xe, ↓hbind sw, ↓hbind (a0 (st ν 168 (1 + n % 20 / 4) (ptX ν n c))), g0, i_succ, ↓hbind s0, ↓hbind (a0 (ptM ν n c)), g1, e20', if_pos c20, ↓hbind ef, f_L_put_J81, if_pos c9, f_L_put_J87]
  exact main 4991
theorem snoc_lt {c k : Nat} (hk : k < L.length) : (L ++ [c]).getD k 0 = L.getD k 0 := by
  simp only [List.getD_eq_getElem?_getD]
  rw [List.getElem?_append_left hk]
theorem snoc_at {c : Nat} : (L ++ [c]).getD L.length 0 = c := by
  simp only [List.getD_eq_getElem?_getD]
  rw [List.getElem?_append_right (Nat.le_refl _), Nat.sub_self]; rfl
theorem put_w {n c : Nat} (hn : n = L.length) (h4 : ∀ k, k < 20 → fby (ν.1 168 (1 + k / 4)) (k % 4) = if k < n % 20 then L.getD (20 * (n / 20) + k) 0 else 0) (c2 : c < 256) : ∀ k, k < 20 → fby ((ptM ν n c).1 168 (1 + k / 4)) (k % 4) = if k < n % 20 + 1 then (L ++ [c]).getD (20 * (n / 20) + k) 0 else 0 := fun k hk => by
  have v0 := h4 (n % 20) (by omega)
  rw [if_neg (by omega)] at v0
  have e4 : n % 20 % 4 = n % 4 := by omega
  rw [e4] at v0
  unfold ptM
  rw [st_ne (Or.inr (by omega))]
  by_cases q : k / 4 = n % 20 / 4
  · rw [q, st_same]
    unfold ptX
    rw [fby_or c2 (by omega) (by omega) v0]
    by_cases r : k % 4 = n % 4
    · rw [if_pos r, if_pos (by omega), show 20 * (n / 20) + k = L.length by omega, snoc_at]
    · rw [if_neg r, ← q, h4 k hk]
      by_cases y : k < n % 20
      · rw [if_pos y, if_pos (by omega), snoc_lt (by omega)]
      · rw [if_neg y, if_neg (by omega)]
  · rw [st_ne (Or.inr (by omega)), h4 k hk]
    by_cases y : k < n % 20
    · rw [if_pos y, if_pos (by omega), snoc_lt (by omega)]
    · rw [if_neg y, if_neg (by omega)]
theorem fA_Y {A : AS} {p : Nat → Int32} (k : Nat) : aY (fA A p) k = if k < aN A then aY A k else fby (p ((k - aN A) / 4)) ((k - aN A) % 4) := rfl
/-- one byte more -/
theorem put_go (h : TPs Ξ B H L ν) {c : Nat} (c1 : 1 ≤ c) (c2 : c < 256) (hl : L.length < 300) : ∃ ν', f_L_put 0 168 (Int64.ofNat c) (mX Ξ ν) = some (mX Ξ ν') ∧ TPs Ξ B H (L ++ [c]) ν' ∧ Fr PF ν ν' := by
  obtain ⟨h1, ⟨A, hC, hA, hB1, hH, hN, hY⟩, h3, h4⟩ := h
  have w1 := put_w (c := c) rfl h4 c2
  have f1 : Fr PF ν (ptM ν L.length c) := ((Fr.refl _ _).st (Or.inr rfl)).st (Or.inr rfl)
  have rc1 : RC TT (ptM ν L.length c) A := hC.t.t
  have g1 : (ptM ν L.length c).1 168 0 = Int32.ofNat (L.length + 1) := st_same _ _ _ _
  have lap : (L ++ [c]).length = L.length + 1 := by rw [List.length_append]; rfl
  by_cases last : L.length % 20 = 19
  · obtain ⟨ν2, e2, r2, k2, f2, z0, z2⟩ := feed_go (ν := ptM ν L.length c) h1 rc1 hA (by omega)
    refine ⟨ν2, put_y h1 h3 c1 c2 hl last e2, ⟨h1, ⟨_, r2, k2, hB1, hH, ?_, fun k hk => ?_⟩, by rw [z0, g1, lap], fun k hk => ?_⟩, f1.trans f2⟩
    · have : aN (fA A fun j => (ptM ν L.length c).1 168 (1 + j)) = aN A + 20 := rfl
      rw [this, lap]; omega
    · have hk : k < aN A + 20 := hk
      rw [fA_Y]
      by_cases y : k < aN A
      · rw [if_pos y, hY k y, snoc_lt (by omega)]
      · rw [if_neg y]
        have := w1 (k - aN A) (by omega)
        rw [if_pos (by omega), show 20 * (L.length / 20) + (k - aN A) = k by omega] at this
        exact this
    · rw [z2 _ (by omega) (by omega), fby_0 _ (by omega), lap, if_neg (by omega)]
  · refine ⟨_, put_x h1 h3 c1 c2 hl last, ⟨h1, ⟨A, rc1, hA, hB1, hH, by rw [lap]; omega, fun k hk => by rw [hY k hk, snoc_lt (by omega)]⟩, by rw [g1, lap], fun k hk => ?_⟩, f1⟩
    rw [w1 k hk, lap, show (L.length + 1) % 20 = L.length % 20 + 1 by omega, show (L.length + 1) / 20 = L.length / 20 by omega]
end G4
