/-! THE MODEL: cheap, one set -/
def gN (E : Nat → Nat → Bool) (c : Nat → Nat → Nat) (g : Nat → Nat) (w S : Nat) : Nat := mnf (okB E S w) (fun j => c w j + g (S ^^^ 2 ^ j)) 12 (g S)
def hN (E : Nat → Nat → Bool) (c : Nat → Nat → Nat) (g h : Nat → Nat) (w S : Nat) : Nat := if gN E c g w S < 1000000 then (if g S = gN E c g w S then h S else 0) + sgm (fun j => if okB E S w j = true ∧ c w j + g (S ^^^ 2 ^ j) = gN E c g w S then h (S ^^^ 2 ^ j) else 0) 12 else 0
section Ch0
variable {E : Nat → Nat → Bool} {c : Nat → Nat → Nat} {N : Nat}
theorem lsB_w {w S : Nat} (hw : w < 12) : lsB E c N (12 - w) S = min (gN E c (lsB E c N (12 - (w + 1))) w S) 1000000 := by
  obtain ⟨d, hd⟩ : ∃ d, 12 - w = d + 1 := ⟨11 - w, by omega⟩
  have h2 : 12 - (w + 1) = d := by omega
  have h3 : 12 - (d + 1) = w := by omega
  rw [hd, h2]
  show min (mnf (okB E S (12 - (d + 1))) (fun j => c (12 - (d + 1)) j + lsB E c N d (S ^^^ 2 ^ j)) 12 (lsB E c N d S)) 1000000 = _
  rw [h3]; rfl
theorem lsW_w {w S : Nat} (hw : w < 12) : lsW E c N (12 - w) S = hN E c (lsB E c N (12 - (w + 1))) (lsW E c N (12 - (w + 1))) w S := by
  obtain ⟨d, hd⟩ : ∃ d, 12 - w = d + 1 := ⟨11 - w, by omega⟩
  have h2 : 12 - (w + 1) = d := by omega
  have h3 : 12 - (d + 1) = w := by omega
  have h4 : mnB E c N d S = gN E c (lsB E c N d) w S := by unfold mnB gN; rw [h3]
  rw [hd, h2]
  show (if mnB E c N d S < 1000000 then (if lsB E c N d S = mnB E c N d S then lsW E c N d S else 0) + sgm (fun j => if okB E S (12 - (d + 1)) j = true ∧ c (12 - (d + 1)) j + lsB E c N d (S ^^^ 2 ^ j) = mnB E c N d S then lsW E c N d (S ^^^ 2 ^ j) else 0) 12 else 0) = _
  rw [h4, h3]; rfl
theorem lsB_le : ∀ (d S : Nat), lsB E c N d S ≤ 1000000
  | 0, S => by
    show (if cnt (fun k => S.testBit k) 12 = N then 0 else 1000000) ≤ 1000000
    split <;> omega
  | d + 1, S => by rw [lsB_succ]; omega
theorem lsW_0 : ∀ {d S : Nat}, lsB E c N d S = 1000000 → lsW E c N d S = 0
  | 0, S, h => by
    have h : (if cnt (fun k => S.testBit k) 12 = N then 0 else 1000000) = 1000000 := h
    show (if cnt (fun k => S.testBit k) 12 = N then 1 else 0) = 0
    by_cases z : cnt (fun k => S.testBit k) 12 = N
    · rw [if_pos z] at h; omega
    · exact if_neg z
  | d + 1, S, h => by
    rw [lsB_succ] at h
    exact if_neg (show ¬ mnB E c N d S < 1000000 by omega)
theorem lsB_no {d S : Nat} (h : ∀ j, E (12 - (d + 1)) j = false) : lsB E c N (d + 1) S = lsB E c N d S ∧ lsW E c N (d + 1) S = lsW E c N d S := by
  have no : ∀ j, okB E S (12 - (d + 1)) j = false := fun j => by unfold okB; rw [h j, Bool.and_false]
  have em : mnB E c N d S = lsB E c N d S := by
    have := mnf_stop (p := okB E S (12 - (d + 1))) (g := fun j => c (12 - (d + 1)) j + lsB E c N d (S ^^^ 2 ^ j)) (b := lsB E c N d S) (j := 0) 12 (fun k _ => no k)
    rw [Nat.zero_add] at this
    exact this
  have le := lsB_le (E := E) (c := c) (N := N) d S
  refine ⟨by rw [lsB_succ, em]; omega, ?_⟩
  show (if mnB E c N d S < 1000000 then (if lsB E c N d S = mnB E c N d S then lsW E c N d S else 0) + sgm (fun j => if okB E S (12 - (d + 1)) j = true ∧ c (12 - (d + 1)) j + lsB E c N d (S ^^^ 2 ^ j) = mnB E c N d S then lsW E c N d (S ^^^ 2 ^ j) else 0) 12 else 0) = _
  rw [em, if_pos rfl, sgm_zero fun j _ => if_neg fun z => by rw [no j] at z; exact absurd z.1 (by simp)]
  by_cases z : lsB E c N d S < 1000000
  · rw [if_pos z, Nat.add_zero]
  · rw [if_neg z, lsW_0 (by omega)]
theorem lsB_n {n S : Nat} (h : ∀ i, n ≤ i → ∀ j, E i j = false) : ∀ e : Nat, n + e ≤ 12 → lsB E c N e S = lsB E c N 0 S ∧ lsW E c N e S = lsW E c N 0 S
  | 0, _ => ⟨rfl, rfl⟩
  | e + 1, he => by
    obtain ⟨a, b⟩ := lsB_n h e (by omega)
    obtain ⟨a', b'⟩ := lsB_no (c := c) (N := N) (d := e) (S := S) (h (12 - (e + 1)) (by omega))
    exact ⟨a'.trans a, b'.trans b⟩
end Ch0
theorem m_less {x y : Nat} {h : xH} (hx : x < 2147483648) (hy : y < 2147483648) : f_X10_less (Int32.ofNat x) (Int32.ofNat y) h = some (Int32.ofNat (min x y), h) := by
  have c : (Int32.ofNat x ≥ Int32.ofNat y) = (y ≤ x) := oN_ge hx hy
  by_cases z : y ≤ x
  · simp only [f_X10_less, if_pos (show Int32.ofNat x ≥ Int32.ofNat y by rw [c]; exact z), f_X10_less_J10, Nat.min_eq_right z]
  · simp only [f_X10_less, if_neg (show ¬ Int32.ofNat x ≥ Int32.ofNat y by rw [c]; exact z), f_X10_less_J10, Nat.min_eq_left (show x ≤ y by omega)]
section Ch1
variable {μ : MM} {B : Bk} {g h : Nat → Nat}
/-- a row of the table: least costs and how many -/
def RWc (μ : MM) (B : Bk) (w : Nat) (g h : Nat → Nat) : Prop := ∀ S, S < 2 ^ bm B → μ.1 (505 + w) S = Int32.ofNat (g S) ∧ μ.2 (519 + w) S = Int64.ofNat (h S)
/-- a fit out of S: its cost and the row behind -/
theorem m_lc_at (hB : BOK B) (hm : MR μ 0 B) {w S j : Nat} (hr : RWc μ B (w + 1) g h) (hw : w < bn B) (hS : S < 2 ^ bm B) (o : okB (gE B) S w j = true) : j < 12 ∧ aI (mem μ) (249 + w) (Int32.ofNat j) = some (Int32.ofNat (bc B w j)) ∧ aI (mem μ) (505 + (w + 1)) (Int32.ofNat S ||| ((1 : Int32) <<< (Int32.ofNat j &&& 31))) = some (Int32.ofNat (g (S ^^^ 2 ^ j))) ∧ aJ (mem μ) (519 + (w + 1)) (Int32.ofNat S ||| ((1 : Int32) <<< (Int32.ofNat j &&& 31))) = some (Int64.ofNat (h (S ^^^ 2 ^ j))) := by
  have hn : bn B ≤ 12 := hB.n
  have hb12 : bm B ≤ 12 := hB.m
  have full12 : 2 ^ bm B ≤ 4096 := Nat.pow_le_pow_right (n := 2) (by decide) hb12
  obtain ⟨o1, o2⟩ := okB_t o
  have jm : j < bm B := hB.Em _ _ o2
  have hj : j < 12 := by omega
  have fit : hb (bf B w) j = true := by
    have := o2
    unfold gE at this
    simp only [Bool.and_eq_true] at this
    exact this.1.1
  have lx : S ^^^ 2 ^ j < 2 ^ bm B := Nat.xor_lt_two_pow hS (Nat.pow_lt_pow_right (by decide) jm)
  have ec := hm.2.2.2.2 w j (by omega) hj fit
  have ec : μ.1 (249 + w) j = Int32.ofNat (bc B w j) := ec
  refine ⟨hj, ?_, ?_, ?_⟩
  · rw [mc_a0 (by omega) hj, ec]
  · rw [oN_orbit (by omega) hj o1, mA_b (by omega) (by omega), (hr _ lx).1]
  · rw [oN_orbit (by omega) hj o1, mA_y (by omega) (by omega), (hr _ lx).2]
theorem m_lc_x {x5 : Int32} {S w j : Nat} (hx : ∀ k, k < 12 → hb x5 k = gE B w k) (hS : S < 4096) (hj : j < 12) : f_X10_has (x5 &&& (Int32.ofNat S ^^^ (-1))) (Int32.ofNat j) (mem μ) = some (bI (okB (gE B) S w j), mem μ) := by
  have eh := m_has (x := x5 &&& (Int32.ofNat S ^^^ (-1))) (h := mem μ) (show j < 32 by omega)
  have eb : hb (x5 &&& (Int32.ofNat S ^^^ (-1))) j = okB (gE B) S w j := by
    unfold okB
    rw [hb_and, hb_not, hx j hj, hb_nat _ _ (by omega), Bool.and_comm]
    simp [show j < 32 by omega]
  rw [eb] at eh
  exact eh
theorem m_lc_min (hB : BOK B) (hm : MR μ 0 B) {w S : Nat} (hr : RWc μ B (w + 1) g h) (gl : ∀ T, g T ≤ 1000000) (hw : w < bn B) (hS : S < 2 ^ bm B) {x5 : Int32} (hx : ∀ k, k < 12 → hb x5 k = gE B w k) {b : Nat} (b6 : b ≤ 1000000) : ∀ (d j : Nat), j + d = bm B → ∀ f K x2, f_X10_laysCheap_L157 K (d + 1 + f) 168 x2 (Int32.ofNat w) x5 (Int32.ofNat S) (Int32.ofNat (mnf (okB (gE B) S w) (fun j => bc B w j + g (S ^^^ 2 ^ j)) j b)) (Int32.ofNat j) (mem μ) = K 168 x2 (Int32.ofNat w) x5 (Int32.ofNat S) (Int32.ofNat (mnf (okB (gE B) S w) (fun j => bc B w j + g (S ^^^ 2 ^ j)) (bm B) b)) (mem μ)
  | 0, j, hd, f, K, x2 => by
    have hb12 : bm B ≤ 12 := hB.m
    have e1 : μ.1 172 1 = Int32.ofNat (bm B) := hm.1.2.1
    have ej : j = bm B := by omega
    have c : (Int32.ofNat j ≥ Int32.ofNat (bm B)) = True := by rw [oN_ge (by omega) (by omega)]; exact eq_true (by omega)
    rw [show 0 + 1 + f = f + 1 by omega]
    simp only [f_X10_laysCheap_L157, ↓hbind gR_168_9, ↓hbind mr_h0, ↓hbind mh_a0_1, e1, c, ↓reduceIte]
    rw [ej]
  | d + 1, j, hd, f, K, x2 => by
    have hn : bn B ≤ 12 := hB.n
    have hb12 : bm B ≤ 12 := hB.m
    have full12 : 2 ^ bm B ≤ 4096 := Nat.pow_le_pow_right (n := 2) (by decide) hb12
    have e1 : μ.1 172 1 = Int32.ofNat (bm B) := hm.1.2.1
    have c : (Int32.ofNat j ≥ Int32.ofNat (bm B)) = False := by rw [oN_ge (by omega) (by omega)]; exact eq_false (by omega)
    have hj : j < 12 := by omega
    have eh := m_lc_x (μ := μ) (B := B) (w := w) hx (show S < 4096 by omega) hj
    rw [show d + 1 + 1 + f = d + 1 + f + 1 by omega, ← m_lc_min hB hm hr gl hw hS hx b6 d (j + 1) (by omega) f K x2]
    cases q : okB (gE B) S w j with
    | false =>
      rw [q] at eh
      have em : mnf (okB (gE B) S w) (fun j => bc B w j + g (S ^^^ 2 ^ j)) (j + 1) b = mnf (okB (gE B) S w) (fun j => bc B w j + g (S ^^^ 2 ^ j)) j b := if_neg (by rw [q]; simp)
      rw [em]
      simp only [f_X10_laysCheap_L157, ↓hbind gR_168_9, ↓hbind mr_h0, ↓hbind mh_a0_1, e1, c, ↓reduceIte, ↓hbind eh, show bI false = 0 from rfl, f_X10_laysCheap_J222, lt_go, i_succ]
    | true =>
      rw [q] at eh
      have em : mnf (okB (gE B) S w) (fun j => bc B w j + g (S ^^^ 2 ^ j)) (j + 1) b = min (mnf (okB (gE B) S w) (fun j => bc B w j + g (S ^^^ 2 ^ j)) j b) (bc B w j + g (S ^^^ 2 ^ j)) := if_pos q
      obtain ⟨-, a1, a2, -⟩ := m_lc_at hB hm hr hw hS q
      have e37 : aR 102 (mem μ) 504 (Int32.ofNat w + 1) = some (505 + (w + 1)) := by rw [i_succ]; exact mR_b (by omega)
      have l1 := hB.c99 w j
      have l2 := gl (S ^^^ 2 ^ j)
      have l3 := mnf_le0 (p := okB (gE B) S w) (g := fun j => bc B w j + g (S ^^^ 2 ^ j)) (b := b) j
      have el := m_less (x := mnf (okB (gE B) S w) (fun j => bc B w j + g (S ^^^ 2 ^ j)) j b) (y := bc B w j + g (S ^^^ 2 ^ j)) (h := mem μ) (by omega) (by omega)
      rw [em]
      simp only [f_X10_laysCheap_L157, ↓hbind gR_168_9, ↓hbind mr_h0, ↓hbind mh_a0_1, e1, c, ↓reduceIte, ↓hbind eh, show bI true = 1 from rfl, z_1, ↓hbind gR_168_13, ↓hbind mr_c0, ↓hbind (mc_c0 (show w < 12 by omega)), ↓hbind a1, ↓hbind gR_168_37, ↓hbind e37, ↓hbind a2, oN_add, ↓hbind el, f_X10_laysCheap_J222, lt_go, i_succ]
theorem m_lc_sum (hB : BOK B) (hm : MR μ 0 B) {w S : Nat} (hr : RWc μ B (w + 1) g h) (gl : ∀ T, g T ≤ 1000000) (hw : w < bn B) (hS : S < 2 ^ bm B) {x5 : Int32} (hx : ∀ k, k < 12 → hb x5 k = gE B w k) {v s0 : Nat} (v6 : v ≤ 1000000) : ∀ (d j : Nat), j + d = bm B → ∀ f K x2, f_X10_laysCheap_L266 K (d + 1 + f) 168 x2 (Int32.ofNat w) x5 (Int32.ofNat S) (Int32.ofNat v) (Int64.ofNat (s0 + sgm (fun j => if okB (gE B) S w j = true ∧ bc B w j + g (S ^^^ 2 ^ j) = v then h (S ^^^ 2 ^ j) else 0) j)) (Int32.ofNat j) (mem μ) = K 168 x2 (Int32.ofNat w) x5 (Int32.ofNat S) (Int32.ofNat v) (Int64.ofNat (s0 + sgm (fun j => if okB (gE B) S w j = true ∧ bc B w j + g (S ^^^ 2 ^ j) = v then h (S ^^^ 2 ^ j) else 0) (bm B))) (mem μ)
  | 0, j, hd, f, K, x2 => by
    have hb12 : bm B ≤ 12 := hB.m
    have e1 : μ.1 172 1 = Int32.ofNat (bm B) := hm.1.2.1
    have ej : j = bm B := by omega
    have c : (Int32.ofNat j ≥ Int32.ofNat (bm B)) = True := by rw [oN_ge (by omega) (by omega)]; exact eq_true (by omega)
    rw [show 0 + 1 + f = f + 1 by omega]
    simp only [f_X10_laysCheap_L266, ↓hbind gR_168_9, ↓hbind mr_h0, ↓hbind mh_a0_1, e1, c, ↓reduceIte]
    rw [ej]
  | d + 1, j, hd, f, K, x2 => by
    have hn : bn B ≤ 12 := hB.n
    have hb12 : bm B ≤ 12 := hB.m
    have full12 : 2 ^ bm B ≤ 4096 := Nat.pow_le_pow_right (n := 2) (by decide) hb12
    have e1 : μ.1 172 1 = Int32.ofNat (bm B) := hm.1.2.1
    have c : (Int32.ofNat j ≥ Int32.ofNat (bm B)) = False := by rw [oN_ge (by omega) (by omega)]; exact eq_false (by omega)
    have hj : j < 12 := by omega
    have eh := m_lc_x (μ := μ) (B := B) (w := w) hx (show S < 4096 by omega) hj
    rw [show d + 1 + 1 + f = d + 1 + f + 1 by omega, ← m_lc_sum hB hm hr gl hw hS hx v6 d (j + 1) (by omega) f K x2]
    have es : sgm (fun j => if okB (gE B) S w j = true ∧ bc B w j + g (S ^^^ 2 ^ j) = v then h (S ^^^ 2 ^ j) else 0) (j + 1) = sgm (fun j => if okB (gE B) S w j = true ∧ bc B w j + g (S ^^^ 2 ^ j) = v then h (S ^^^ 2 ^ j) else 0) j + (if okB (gE B) S w j = true ∧ bc B w j + g (S ^^^ 2 ^ j) = v then h (S ^^^ 2 ^ j) else 0) := rfl
    cases q : okB (gE B) S w j with
    | false =>
      rw [q] at eh
      rw [es, if_neg fun z => by rw [q] at z; exact absurd z.1 (by simp)]
      simp only [Nat.add_zero, f_X10_laysCheap_L266, ↓hbind gR_168_9, ↓hbind mr_h0, ↓hbind mh_a0_1, e1, c, ↓reduceIte, ↓hbind eh, show bI false = 0 from rfl, f_X10_laysCheap_J351, lt_go, i_succ]
    | true =>
      rw [q] at eh
      obtain ⟨-, a1, a2, a3⟩ := m_lc_at hB hm hr hw hS q
      have e37 : aR 102 (mem μ) 504 (Int32.ofNat w + 1) = some (505 + (w + 1)) := by rw [i_succ]; exact mR_b (by omega)
      have e38 : aR 104 (mem μ) 518 (Int32.ofNat w + 1) = some (519 + (w + 1)) := by rw [i_succ]; exact mR_y (by omega)
      have l1 := hB.c99 w j
      have l2 := gl (S ^^^ 2 ^ j)
      have ce : (Int32.ofNat (bc B w j + g (S ^^^ 2 ^ j)) = Int32.ofNat v) = (bc B w j + g (S ^^^ 2 ^ j) = v) := oN_inj (by omega) (by omega)
      by_cases y : bc B w j + g (S ^^^ 2 ^ j) = v
      · have ce := ce.trans (eq_true y)
        rw [es, if_pos ⟨q, y⟩, ← Nat.add_assoc, Int64.ofNat_add (s0 + _)]
        simp only [f_X10_laysCheap_L266, ↓hbind gR_168_9, ↓hbind mr_h0, ↓hbind mh_a0_1, e1, c, ↓reduceIte, ↓hbind eh, show bI true = 1 from rfl, z_1, ↓hbind gR_168_13, ↓hbind mr_c0, ↓hbind (mc_c0 (show w < 12 by omega)), ↓hbind a1, ↓hbind gR_168_37, ↓hbind e37, ↓hbind a2, oN_add, ce, ↓hbind gR_168_38, ↓hbind e38, ↓hbind a3, f_X10_laysCheap_J351, lt_go, i_succ]
      · have ce := ce.trans (eq_false y)
        rw [es, if_neg fun z => y z.2]
        simp only [Nat.add_zero, f_X10_laysCheap_L266, ↓hbind gR_168_9, ↓hbind mr_h0, ↓hbind mh_a0_1, e1, c, ↓reduceIte, ↓hbind eh, show bI true = 1 from rfl, z_1, ↓hbind gR_168_13, ↓hbind mr_c0, ↓hbind (mc_c0 (show w < 12 by omega)), ↓hbind a1, ↓hbind gR_168_37, ↓hbind e37, ↓hbind a2, oN_add, ce, f_X10_laysCheap_J351, lt_go, i_succ]
end Ch1
