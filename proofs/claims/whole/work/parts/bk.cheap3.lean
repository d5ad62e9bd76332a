/-! OPERATIONS: cheap cheapest -/
theorem lmin_cap (v : Int64) : lmin 1000000000 v = if lg_cmp v 1000000000 ≤ 0 then v else 1000000000 := by
  have c0 : ((0 : Int32) ≤ 0) = True := by decide
  have c1 : ((1 : Int32) ≤ 0) = False := by decide
  have c2 : ((-1 : Int32) ≤ 0) = True := by decide
  unfold lmin lg_cmp
  by_cases h : v > 1000000000
  · have n : ¬ v < 1000000000 := fun q => Int64.lt_irrefl (Int64.lt_trans h q)
    simp only [if_neg n, if_pos h, c1, ↓reduceIte]
  · by_cases e : v = 1000000000
    · subst e
      simp only [if_neg h, ↓reduceIte, c0, ite_self]
    · have l : v < 1000000000 := Int64.lt_of_le_of_ne (Int64.not_lt.mp h) e
      simp only [if_neg h, if_neg e, c2, if_pos l, ↓reduceIte]
section Ck
variable {μ : MM} {B : Bk} {N : Nat}
theorem gj_w {E : Nat → Nat → Bool} {c : Nat → Nat → Nat} {w S : Nat} (hw : w < 12) : gj E c N (11 - w) S = fi (fun j => okB E S w j && decide (c w j + lsB E c N (12 - (w + 1)) (S ^^^ 2 ^ j) = lsB E c N (12 - w) S)) 12 := by
  have e : 12 - ((11 - w) + 1) = w := by omega
  have e2 : 11 - w + 1 = 12 - w := by omega
  have e3 : 11 - w = 12 - (w + 1) := by omega
  unfold gj
  rw [e, e2, e3]
/-- the first task that comes to the least: from the last down -/
theorem m_ct_loop (hB : BOK B) (hm : MR μ 0 B) (hr : RWs μ B N 0) {p w S : Nat} (hw : w < bn B) (hS : S < 2 ^ bm B) {x5 : Int32} (hx : ∀ k, k < 12 → hb x5 k = okB (gE B) S w k) : ∀ (j r : Nat), j ≤ bm B → (r < 12 → (okB (gE B) S w r && decide (bc B w r + lsB (gE B) (bc B) N (12 - (w + 1)) (S ^^^ 2 ^ r) = lsB (gE B) (bc B) N (12 - w) S)) = true) → r ≤ 12 → (∀ k, j ≤ k → k < 12 → k < r → (okB (gE B) S w k && decide (bc B w k + lsB (gE B) (bc B) N (12 - (w + 1)) (S ^^^ 2 ^ k) = lsB (gE B) (bc B) N (12 - w) S)) = false) → ∀ f K, f_X10_cheapest_L99 K (j + 1 + f) 168 (Int32.ofNat p) (Int32.ofNat S) (eI r) (Int32.ofNat w) x5 (Int32.ofNat j + (-1)) (mem μ) = K 168 (Int32.ofNat p) (Int32.ofNat S) (eI (gj (gE B) (bc B) N (11 - w) S)) (Int32.ofNat w) (mem μ)
  | 0, r, _, h1, h12, h2, f, K => by
    have hn : bn B ≤ 12 := hB.n
    have c : (Int32.ofNat 0 + (-1) < 0) = True := eq_true (by decide)
    have er : gj (gE B) (bc B) N (11 - w) S = r := by
      rw [gj_w (by omega)]
      by_cases z : r < 12
      · exact fi_eq z (h1 z) (fun k hk => h2 k (Nat.zero_le _) (by omega) hk)
      · have : r = 12 := by omega
        rw [this]
        exact fi_none fun k hk => h2 k (Nat.zero_le _) hk (by omega)
    rw [show 0 + 1 + f = f + 1 by omega, er]
    simp only [f_X10_cheapest_L99, c, ↓reduceIte]
  | j + 1, r, hj, h1, h12, h2, f, K => by
    have hn : bn B ≤ 12 := hB.n
    have hb12 : bm B ≤ 12 := hB.m
    have full12 : 2 ^ bm B ≤ 4096 := Nat.pow_le_pow_right (n := 2) (by decide) hb12
    have j12 : j < 12 := by omega
    have c1 : (Int32.ofNat j < 0) = False := oN_l0 (by omega)
    have eh := m_has (x := x5) (h := mem μ) (show j < 32 by omega)
    rw [hx j j12] at eh
    rw [show j + 1 + 1 + f = j + 1 + f + 1 by omega, i_dec]
    cases q : okB (gE B) S w j with
    | false =>
      rw [q] at eh
      rw [← m_ct_loop hB hm hr hw hS hx j r (by omega) h1 h12 (fun k a b d => by
        by_cases y : k = j
        · rw [y, q]; rfl
        · exact h2 k (by omega) b d) f K]
      simp only [f_X10_cheapest_L99, c1, ↓reduceIte, ↓hbind eh, show bI false = 0 from rfl, f_X10_cheapest_J158, lt_go]
    | true =>
      rw [q] at eh
      obtain ⟨-, a1, a2, -⟩ := m_lc_at hB hm (hr (w + 1) (Nat.zero_le _) (by omega)) hw hS q
      have e37 : aR 102 (mem μ) 504 (Int32.ofNat w + 1) = some (505 + (w + 1)) := by rw [i_succ]; exact mR_b (by omega)
      have e36 : aI (mem μ) (505 + w) (Int32.ofNat S) = some (Int32.ofNat (lsB (gE B) (bc B) N (12 - w) S)) := by
        rw [mA_b (by omega) (by omega), (hr w (Nat.zero_le _) (by omega) S hS).1]
      have l1 := hB.c99 w j
      have l2 := lsB_le (E := gE B) (c := bc B) (N := N) (12 - (w + 1)) (S ^^^ 2 ^ j)
      have l3 := lsB_le (E := gE B) (c := bc B) (N := N) (12 - w) S
      have ce : (Int32.ofNat (bc B w j + lsB (gE B) (bc B) N (12 - (w + 1)) (S ^^^ 2 ^ j)) = Int32.ofNat (lsB (gE B) (bc B) N (12 - w) S)) = (bc B w j + lsB (gE B) (bc B) N (12 - (w + 1)) (S ^^^ 2 ^ j) = lsB (gE B) (bc B) N (12 - w) S) := oN_inj (by omega) (by omega)
      by_cases y : bc B w j + lsB (gE B) (bc B) N (12 - (w + 1)) (S ^^^ 2 ^ j) = lsB (gE B) (bc B) N (12 - w) S
      · have ce := ce.trans (eq_true y)
        rw [← m_ct_loop hB hm hr hw hS hx j j (by omega) (fun _ => by rw [q, decide_eq_true y]; rfl) (by omega) (fun k a b d => by omega) f K, eI_lt j12]
        simp only [f_X10_cheapest_L99, c1, ↓reduceIte, ↓hbind eh, show bI true = 1 from rfl, z_1, ↓hbind gR_168_13, ↓hbind mr_c0, ↓hbind (mc_c0 (show w < 12 by omega)), ↓hbind a1, ↓hbind gR_168_37, ↓hbind e37, ↓hbind a2, ↓hbind (mR_b (show w < 13 by omega)), ↓hbind e36, oN_add, ce, f_X10_cheapest_J158, lt_go]
      · have ce := ce.trans (eq_false y)
        rw [← m_ct_loop hB hm hr hw hS hx j r (by omega) h1 h12 (fun k a b d => by
          by_cases x : k = j
          · rw [x, q, decide_eq_false y]; rfl
          · exact h2 k (by omega) b d) f K]
        simp only [f_X10_cheapest_L99, c1, ↓reduceIte, ↓hbind eh, show bI true = 1 from rfl, z_1, ↓hbind gR_168_13, ↓hbind mr_c0, ↓hbind (mc_c0 (show w < 12 by omega)), ↓hbind a1, ↓hbind gR_168_37, ↓hbind e37, ↓hbind a2, ↓hbind (mR_b (show w < 13 by omega)), ↓hbind e36, oN_add, ce, f_X10_cheapest_J158, lt_go]
theorem gS_lt (hB : BOK B) (N : Nat) : ∀ w : Nat, w ≤ 12 → gSt (gE B) (bc B) N w < 2 ^ bm B
  | 0, _ => Nat.two_pow_pos _
  | w + 1, h => by
    have ih := gS_lt hB N w (by omega)
    show (if gj (gE B) (bc B) N (11 - w) (gSt (gE B) (bc B) N w) < 12 then gSt (gE B) (bc B) N w ^^^ 2 ^ gj (gE B) (bc B) N (11 - w) (gSt (gE B) (bc B) N w) else gSt (gE B) (bc B) N w) < 2 ^ bm B
    by_cases z : gj (gE B) (bc B) N (11 - w) (gSt (gE B) (bc B) N w) < 12
    · rw [if_pos z]
      have := hB.Em _ _ (okB_t (gj_ok z).1).2
      exact Nat.xor_lt_two_pow ih (Nat.pow_lt_pow_right (by decide) this)
    · rw [if_neg z]; exact ih
/-- the set with the worker's task -/
theorem m_ct_set (hB : BOK B) {w : Nat} (hw : w < 12) {kH : Nat → Int32 → Int32 → Int32 → Int32 → xH → Option (Int32 × xH)} {kE : Int32 → xH → Option (Int32 × xH)} {x1 : Int32} : f_X10_cheapest_J164 kH kE 168 x1 (Int32.ofNat (gSt (gE B) (bc B) N w)) (eI (gW (gE B) (bc B) N w)) (Int32.ofNat w) (mem μ) = kH 168 x1 (Int32.ofNat (gSt (gE B) (bc B) N (w + 1))) (eI (gW (gE B) (bc B) N w)) (Int32.ofNat (w + 1)) (mem μ) := by
  have hb12 : bm B ≤ 12 := hB.m
  have full12 : 2 ^ bm B ≤ 4096 := Nat.pow_le_pow_right (n := 2) (by decide) hb12
  have sl := gS_lt hB N w (by omega)
  have es : gSt (gE B) (bc B) N (w + 1) = if gW (gE B) (bc B) N w < 12 then gSt (gE B) (bc B) N w ^^^ 2 ^ gW (gE B) (bc B) N w else gSt (gE B) (bc B) N w := rfl
  by_cases z : gW (gE B) (bc B) N w < 12
  · have c : (Int32.ofNat (gW (gE B) (bc B) N w) = -1) = False := oN_n1 (by omega)
    have o := (okB_t (gj_ok (show gj (gE B) (bc B) N (11 - w) (gSt (gE B) (bc B) N w) < 12 from z)).1).1
    have eo := oN_orbit (S := gSt (gE B) (bc B) N w) (j := gW (gE B) (bc B) N w) (by omega) z o
    rw [es, if_pos z, ← eo, eI_lt z]
    simp only [f_X10_cheapest_J164, c, ↓reduceIte, f_X10_cheapest_J177, lt_go, i_succ]
  · have c : (eI (gW (gE B) (bc B) N w) = -1) = True := by rw [eI_n1]; exact eq_true (by omega)
    rw [es, if_neg z]
    simp only [f_X10_cheapest_J164, c, ↓reduceIte, f_X10_cheapest_J177, lt_go, i_succ, Int32.or_zero]
theorem m_ct_w (hB : BOK B) (hm : MR μ 0 B) (hr : RWs μ B N 0) {p : Nat} (hp : p < bn B) : ∀ (d w : Nat) (x3 : Int32), w + d = p + 1 → (d = 0 → x3 = eI (gW (gE B) (bc B) N p)) → ∀ f, f_X10_cheapest_L41 f_X10_cheapest_J185 (d + 1 + f) 168 (Int32.ofNat p) (Int32.ofNat (gSt (gE B) (bc B) N w)) x3 (Int32.ofNat w) (mem μ) = some (eI (gW (gE B) (bc B) N p), mem μ)
  | 0, w, x3, hd, h0, f => by
    have hn : bn B ≤ 12 := hB.n
    have c : (Int32.ofNat w > Int32.ofNat p) = True := by rw [oN_gt (by omega) (by omega)]; exact eq_true (by omega)
    rw [show 0 + 1 + f = f + 1 by omega, h0 rfl]
    simp only [f_X10_cheapest_L41, c, ↓reduceIte, f_X10_cheapest_J185]
  | d + 1, w, x3, hd, h0, f => by
    have hn : bn B ≤ 12 := hB.n
    have hb12 : bm B ≤ 12 := hB.m
    have full12 : 2 ^ bm B ≤ 4096 := Nat.pow_le_pow_right (n := 2) (by decide) hb12
    have hw : w < bn B := by omega
    have w12 : w < 12 := by omega
    have sl := gS_lt hB N w (by omega)
    have c : (Int32.ofNat w > Int32.ofNat p) = False := by rw [oN_gt (by omega) (by omega)]; exact eq_false (by omega)
    have ew := m_isThere0 (μ := μ) (show w < 32 by omega)
    rw [show μ.1 172 3 = bw B from hm.1.2.2.2.1] at ew
    have e1 : μ.1 172 1 = Int32.ofNat (bm B) := hm.1.2.1
    have e4 : μ.1 172 4 = bt B := hm.1.2.2.2.2
    have e5 : μ.1 191 w = bf B w := hm.2.1 w w12
    have go : ∀ x5, (∀ k, k < 12 → hb x5 k = okB (gE B) (gSt (gE B) (bc B) N w) w k) → f_X10_cheapest_J83 (f_X10_cheapest_L41 f_X10_cheapest_J185 (d + 1 + f)) f_X10_cheapest_J185 168 (Int32.ofNat p) (Int32.ofNat (gSt (gE B) (bc B) N w)) (Int32.ofNat w) x5 (mem μ) = some (eI (gW (gE B) (bc B) N p), mem μ) := fun x5 hx => by
      have q := m_ct_loop (N := N) (p := p) hB hm hr hw sl hx (bm B) 12 (Nat.le_refl _) (fun z => by omega) (Nat.le_refl _) (fun k a b _ => by
        cases z : okB (gE B) (gSt (gE B) (bc B) N w) w k with
        | false => rfl
        | true => have := hB.Em _ _ (okB_t z).2; omega) (5000 - (bm B + 1))
      rw [show bm B + 1 + (5000 - (bm B + 1)) = 5000 by omega] at q
      have q : ∀ K, f_X10_cheapest_L99 K 5000 168 (Int32.ofNat p) (Int32.ofNat (gSt (gE B) (bc B) N w)) (-1) (Int32.ofNat w) x5 (Int32.ofNat (bm B) - 1) (mem μ) = K 168 (Int32.ofNat p) (Int32.ofNat (gSt (gE B) (bc B) N w)) (eI (gW (gE B) (bc B) N w)) (Int32.ofNat w) (mem μ) := fun K => by
        rw [oN_dec1]; exact q K
      have s := m_ct_set (μ := μ) (N := N) hB w12 (kH := f_X10_cheapest_L41 f_X10_cheapest_J185 (d + 1 + f)) (kE := f_X10_cheapest_J185) (x1 := Int32.ofNat p)
      have r := m_ct_w hB hm hr hp d (w + 1) (eI (gW (gE B) (bc B) N w)) (by omega) (fun z => by rw [show w = p by omega]) f
      rw [← r, ← s]
      simp only [f_X10_cheapest_J83, ↓hbind gR_168_9, ↓hbind mr_h0, ↓hbind mh_a0_1, e1, lt_go, q]
    rw [show d + 1 + 1 + f = d + 1 + f + 1 by omega]
    cases q : hb (bw B) w with
    | false =>
      rw [q] at ew
      rw [← go 0 (fun k _ => by
        rw [hb_zero]
        unfold okB
        cases z : gE B w k with
        | false => rw [Bool.and_false]
        | true => have := gE_W _ _ z; rw [q] at this; cases this)]
      simp only [f_X10_cheapest_L41, c, ↓reduceIte, ↓hvc (fun _ => vc_168), ↓hbind ew, show bI false = 0 from rfl]
    | true =>
      rw [q] at ew
      rw [← go ((bf B w &&& bt B) &&& (Int32.ofNat (gSt (gE B) (bc B) N w) ^^^ (-1))) (fun k hk => by
        rw [hb_and, hb_and, hb_not, hb_nat _ _ (by omega)]
        unfold okB gE
        rw [q, Bool.and_true, Bool.and_comm]
        simp [show k < 32 by omega])]
      simp only [f_X10_cheapest_L41, c, ↓reduceIte, ↓hvc (fun _ => vc_168), ↓hbind ew, show bI true = 1 from rfl, z_1, ↓hbind gR_168_10, ↓hbind mr_f0, ↓hbind (ma_f0 w12), e5, ↓hbind gR_168_9, ↓hbind mr_h0, ↓hbind mh_a0_4, e4]
end Ck
section O29
variable {μ : MM} {A : AS}
theorem op_cheap (hA : AOK A) (hC : RC TT μ A) (hM : RM μ A) (x : Int32) : OKc TT μ (LB wc_L_cheap (f_X9_cheap 0 x) (f_X10_cheap 168 x)) := by
  have hB := hA.1
  have hn12 : bn (aB A) ≤ 12 := hB.n
  have m505 : ∀ μ' : MM, aR 102 (mem μ') 504 0 = some 505 := fun μ' => mR_b (r := 0) (by omega)
  have m519 : ∀ μ' : MM, aR 104 (mem μ') 518 0 = some 519 := fun μ' => mR_y (r := 0) (by omega)
  have a505 : ∀ μ' : MM, aI (mem μ') 505 0 = some (μ'.1 505 0) := fun μ' => mA_b (r := 0) (i := 0) (by omega) (by omega)
  have a519 : ∀ μ' : MM, aJ (mem μ') 519 0 = some (μ'.2 519 0) := fun μ' => mA_y (r := 0) (i := 0) (by omega) (by omega)
  by_cases c : x = 0 ∨ x = 1
  · obtain ⟨ν, e1, f1, c1, N, n1, -, -, t7, t6, -⟩ := c_runTally hC hA
    rcases c with rfl | rfl
    · refine LB_ok TT_F hM (SNu.uq (A := A) (F := fun k => Int32.ofNat (lsB (gE (aB A)) (bc (aB A)) k 12 0))) ⟨_, ν, A, ?_, f1, c1, hA, rfl, _, n1, rfl⟩ (fun μ' hν => ?_)
      · simp only [f_X9_cheap, f_X9_cheap_J10, f_X9_cheap_J15, f_X9_cheap_J50, ↓reduceIte, ↓hvc (fun _ => vc_0), ↓hbind c_da1, ↓thr_ok, ↓thr_er, ↓hbind e1, ↓hbind gR_0_7, ↓hbind gI_156_7, t7]
      · obtain ⟨k, ξ, e2, f2, n2, r2, z2⟩ := m_laysCheap hν.t.1 hB
        obtain ⟨v1, v2⟩ := r2 0 (Nat.le_refl _) (Nat.zero_le _) 0 (Nat.two_pow_pos _)
        have v1 : ξ.1 505 0 = Int32.ofNat (lsB (gE (aB A)) (bc (aB A)) k 12 0) := v1
        refine ⟨_, _, ξ, A, ?_, t0_ML.trans (f2.mono fun _ _ z => z.L), hν.t.fr f2 fun q i _ _ z => z, ⟨rfl, k, n2, rfl⟩, ?_, rfl⟩
        · simp only [f_X10_cheap, f_X10_cheap_J20, ↓hbind pI_t0, ↓hbind (m_in01 (show (0 : Int32) = 0 ∨ (0 : Int32) = 1 from Or.inl rfl)), z_1, ↓reduceIte, ↓hvc (fun _ => vc_168), ↓hbind m_b0t, ↓hbind e2, ↓hbind gR_168_38, ↓hbind (m519 ξ), ↓hbind (a519 ξ), ↓hbind gR_168_37, ↓hbind (m505 ξ), ↓hbind (a505 ξ), v1, f_X10_cheap_J74]
        · rw [z2]; exact t0_0
    · refine LB_ok TT_F hM (SNu.uq (A := A) (F := fun k => (lmin 1000000000 (Int64.ofNat (lsW (gE (aB A)) (bc (aB A)) k 12 0))).toInt32)) ⟨_, ν, A, ?_, f1, c1, hA, rfl, _, n1, rfl⟩ (fun μ' hν => ?_)
      · simp only [f_X9_cheap, f_X9_cheap_J10, f_X9_cheap_J15, f_X9_cheap_J50, ↓reduceIte, z_1, ↓hvc (fun _ => vc_0), ↓hbind c_da1, ↓thr_ok, ↓thr_er, ↓hbind e1, ↓hbind gR_0_7, ↓hbind gJ_156_6, t6]
      · obtain ⟨k, ξ, e2, f2, n2, r2, z2⟩ := m_laysCheap hν.t.1 hB
        obtain ⟨v1, v2⟩ := r2 0 (Nat.le_refl _) (Nat.zero_le _) 0 (Nat.two_pow_pos _)
        have v2 : ξ.2 519 0 = Int64.ofNat (lsW (gE (aB A)) (bc (aB A)) k 12 0) := v2
        refine ⟨_, _, ξ, A, ?_, t0_ML.trans (f2.mono fun _ _ z => z.L), hν.t.fr f2 fun q i _ _ z => z, ⟨rfl, k, n2, rfl⟩, ?_, rfl⟩
        · show f_X10_cheap 168 1 (mem μ') = some ((lmin 1000000000 (Int64.ofNat (lsW (gE (aB A)) (bc (aB A)) k 12 0))).toInt32, mem ξ)
          rw [lmin_cap]
          by_cases y : lg_cmp (Int64.ofNat (lsW (gE (aB A)) (bc (aB A)) k 12 0)) 1000000000 ≤ 0
          · have y' := eq_true y
            rw [if_pos y]
            simp only [f_X10_cheap, f_X10_cheap_J20, ↓hbind pI_t0, ↓hbind (m_in01 (show (1 : Int32) = 0 ∨ (1 : Int32) = 1 from Or.inr rfl)), z_1, ↓reduceIte, ↓hvc (fun _ => vc_168), ↓hbind m_b0t, ↓hbind e2, ↓hbind gR_168_38, ↓hbind (m519 ξ), ↓hbind (a519 ξ), v2, y', f_X10_cheap_J73, f_X10_cheap_J74]
          · have y' := eq_false y
            rw [if_neg y]
            simp only [f_X10_cheap, f_X10_cheap_J20, ↓hbind pI_t0, ↓hbind (m_in01 (show (1 : Int32) = 0 ∨ (1 : Int32) = 1 from Or.inr rfl)), z_1, ↓reduceIte, ↓hvc (fun _ => vc_168), ↓hbind m_b0t, ↓hbind e2, ↓hbind gR_168_38, ↓hbind (m519 ξ), ↓hbind (a519 ξ), v2, y', f_X10_cheap_J73, f_X10_cheap_J74]
        · rw [z2]; exact t0_0
  · have d1 : ¬ x = 0 := fun z => c (Or.inl z)
    have d2 : ¬ x = 1 := fun z => c (Or.inr z)
    refine LB_ok TT_F hM (SA.uq (A := A)) (CX_A TT_F hC hA fun ν e => ?_) (fun ν hν => MX_A hν (w := 1) (b := 0) rfl (by decide) ?_)
    · simp only [f_X9_cheap, f_X9_cheap_J15, if_neg d1, if_neg d2, ↓hvc (fun _ => vc_0), ↓hbind e, ↓thr_ok, ↓thr_er]
    · simp only [f_X10_cheap, f_X10_cheap_J20, ↓hbind pI_t0, ↓hbind (m_out01 c), ↓reduceIte, ↓hvc (fun _ => vc_168), ↓hbind (m_bA (show (1 : Int32) ≠ 0 by decide)), z_1]
theorem op_cheapest (hA : AOK A) (hC : RC TT μ A) (hM : RM μ A) (x : Int32) : OKc TT μ (LB wc_L_cheapest (f_X9_cheapest 0 x) (f_X10_cheapest 168 x)) := by
  have hB := hA.1
  have hn12 : bn (aB A) ≤ 12 := hB.n
  have ek := c_kn bk1 hC.1 hB 0 x
  by_cases c : KN (aB A) 0 x
  · rw [pb_1 c] at ek
    obtain ⟨w, w1, w2, rfl⟩ := c.w hB
    obtain ⟨ν, e1, f1, c1, N, n1, -, -, -, -, t⟩ := c_runTally hC hA
    have ei := c_inLimit_n (k := w) (h := mem ν) (by omega)
    rw [decide_eq_true w2] at ei
    have et := t w w2
    refine LB_ok TT_F hM (SNu.uq (A := A) (F := fun k => eI (gW (gE (aB A)) (bc (aB A)) k w))) ⟨_, ν, A, ?_, f1, c1, hA, rfl, _, n1, rfl⟩ (fun μ' hν => ?_)
    · simp only [f_X9_cheapest, ↓hbind gR_0_0, ↓hvc (fun _ => bk_v bk1), ↓hbind ek, show bI true = 1 from rfl, ↓hvc (fun _ => vc_0), ↓hbind c_dp1, ↓thr_ok, ↓thr_er, ↓hbind e1, ↓hbind gR_0_7, ↓hvc (fun _ => vc_156), f_X8_taskOf, ↓hbind ei, z_1, ↓reduceIte, ↓hbind gR_156_4, ↓hbind (aI_161 w2), et, f_X8_taskOf_J17, Option.bind_some]
    · have i1 := m_isOne hν.t.1 hB 0 (Int32.ofNat w)
      rw [pb_1 c] at i1
      obtain ⟨k, ξ, e2, f2, n2, r2, z2⟩ := m_laysCheap hν.t.1 hB
      have hq := hν.t.fr f2 fun q i _ _ z => z
      have e3 := m_ct_w (N := k) hB hq.1 r2 w1 (w + 1) 0 (-1) (by omega) (fun z => by omega) (5000 - (w + 2))
      rw [show w + 1 + 1 + (5000 - (w + 2)) = 5000 by omega] at e3
      have e3 : f_X10_cheapest_L41 f_X10_cheapest_J185 5000 168 (Int32.ofNat w) 0 (-1) 0 (mem ξ) = some (eI (gW (gE (aB A)) (bc (aB A)) k w), mem ξ) := e3
      refine ⟨_, _, ξ, A, ?_, t0_ML.trans (f2.mono fun _ _ z => z.L), hq, ⟨rfl, k, n2, rfl⟩, ?_, rfl⟩
      · simp only [f_X10_cheapest, f_X10_cheapest_J20, ↓hbind pI_t0, ↓hvc (fun _ => vc_168), ↓hbind i1, show bI true = 1 from rfl, z_1, ↓reduceIte, ↓hbind m_b0t, ↓hbind e2, e3]
      · rw [z2]; exact t0_0
  · rw [pb_f c] at ek
    refine LB_ok TT_F hM (SP.uq (A := A)) (CX_P TT_F hC hA fun ν e => ?_) (fun ν hν => MX_P hν (w := 1) (b := 0) rfl (by decide) ?_)
    · simp only [f_X9_cheapest, ↓hbind gR_0_0, ↓hvc (fun _ => bk_v bk1), ↓hbind ek, show bI false = 0 from rfl, ↓hvc (fun _ => vc_0), ↓hbind e, ↓thr_ok, ↓thr_er]
    · have i1 := m_isOne hν.t.1 hB 0 x
      rw [pb_f c] at i1
      simp only [f_X10_cheapest, f_X10_cheapest_J20, ↓hbind pI_t0, ↓hvc (fun _ => vc_168), ↓hbind i1, show bI false = 0 from rfl, ↓reduceIte, ↓hbind (m_bP (show (1 : Int32) ≠ 0 by decide)), z_1]
end O29
