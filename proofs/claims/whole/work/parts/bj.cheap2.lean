/-! THE MODEL: cheap, a worker; all workers -/
section Ch2
variable {B : Bk} {N : Nat}
def FLc (q _i : Nat) : Prop := 505 ≤ q ∧ q ≤ 531
theorem MR.ch {μ ν : MM} {P : Nat → Nat → Prop} (h : MR μ 0 B) (f : Fr P μ ν) (n : ∀ q i, P q i → FLc q i) : MR ν 0 B := h.fr f fun q i a z => by have := n q i z; unfold FLc at this; unfold FR at a; omega
/-- the end of a set -/
theorem m_lc_put {ν : MM} {w s v x8 : Nat} (hw : w < 13) (hs : s < 4096) (v6 : v < 2147483648) : ∃ ξ, (∀ kH kE x2 x5, f_X10_laysCheap_J357 kH kE 168 x2 (Int32.ofNat w) x5 (Int32.ofNat s) (Int32.ofNat v) (Int64.ofNat x8) (mem ν) = kH 168 x2 (Int32.ofNat w) x5 (Int32.ofNat (s + 1)) (mem ξ)) ∧ Fr (fun q i => (q = 505 + w ∨ q = 519 + w) ∧ i = s) ν ξ ∧ ξ.1 (505 + w) s = Int32.ofNat (min v 1000000) ∧ ξ.2 (519 + w) s = Int64.ofNat (if v < 1000000 then x8 else 0) := by
  have el := m_less (x := v) (y := 1000000) (h := mem ν) v6 (by decide)
  have el : f_X10_less (Int32.ofNat v) 1000000 (mem ν) = some (Int32.ofNat (min v 1000000), mem ν) := el
  have c : (Int32.ofNat v < (1000000 : Int32)) = (v < 1000000) := llt_1000000 v6
  refine ⟨sj (st ν (505 + w) s (Int32.ofNat (min v 1000000))) (519 + w) s (Int64.ofNat (if v < 1000000 then x8 else 0)), fun kH kE x2 x5 => ?_, ((Fr.refl _ _).st ⟨Or.inl rfl, rfl⟩).sj ⟨Or.inr rfl, rfl⟩, by rw [sj_1, st_same], by rw [sj_same]⟩
  by_cases z : v < 1000000
  · rw [if_pos z]
    have c := c.trans (eq_true z)
    simp only [f_X10_laysCheap_J357, ↓hbind gR_168_37, ↓hbind (mR_b hw), ↓hbind el, ↓hbind (mS_b hw hs), ↓hbind gR_168_38, ↓hbind (mR_y hw), c, ↓reduceIte, f_X10_laysCheap_J396, ↓hbind (mS_y hw hs), lt_go, i_succ]
  · rw [if_neg z]
    have c := c.trans (eq_false z)
    simp only [f_X10_laysCheap_J357, ↓hbind gR_168_37, ↓hbind (mR_b hw), ↓hbind el, ↓hbind (mS_b hw hs), ↓hbind gR_168_38, ↓hbind (mR_y hw), c, ↓reduceIte, f_X10_laysCheap_J396, show (0 : Int64) = Int64.ofNat 0 from rfl, ↓hbind (mS_y hw hs), lt_go, i_succ]
theorem m_lc_one (hB : BOK B) {ν : MM} (hm : MR ν 0 B) {g h : Nat → Nat} {w s : Nat} (hr : RWc ν B (w + 1) g h) (gl : ∀ T, g T ≤ 1000000) (hw : w < bn B) (hs : s < 2 ^ bm B) {x5 : Int32} (hx : ∀ k, k < 12 → hb x5 k = gE B w k) : ∃ ξ, (∀ K n x2, s < 2 ^ bm B → x2 = Int32.ofNat (2 ^ bm B) → f_X10_laysCheap_L134 K (n + 1) 168 x2 (Int32.ofNat w) x5 (Int32.ofNat s) (mem ν) = f_X10_laysCheap_L134 K n 168 x2 (Int32.ofNat w) x5 (Int32.ofNat (s + 1)) (mem ξ)) ∧ Fr (fun q i => (q = 505 + w ∨ q = 519 + w) ∧ i = s) ν ξ ∧ ξ.1 (505 + w) s = Int32.ofNat (min (gN (gE B) (bc B) g w s) 1000000) ∧ ξ.2 (519 + w) s = Int64.ofNat (hN (gE B) (bc B) g h w s) := by
  have hn : bn B ≤ 12 := hB.n
  have hb12 : bm B ≤ 12 := hB.m
  have full12 : 2 ^ bm B ≤ 4096 := Nat.pow_le_pow_right (n := 2) (by decide) hb12
  have s4 : s < 4096 := by omega
  have ef : bm B + 1 + (5000 - (bm B + 1)) = 5000 := by omega
  have no : ∀ k, bm B ≤ k → okB (gE B) s w k = false := fun k hk => by
    unfold okB
    cases z : gE B w k with
    | false => exact Bool.and_false _
    | true => have := hB.Em _ _ z; omega
  have eN : mnf (okB (gE B) s w) (fun j => bc B w j + g (s ^^^ 2 ^ j)) (bm B) (g s) = gN (gE B) (bc B) g w s := by
    have := mnf_stop (p := okB (gE B) s w) (g := fun j => bc B w j + g (s ^^^ 2 ^ j)) (b := g s) (j := bm B) (12 - bm B) no
    rw [show bm B + (12 - bm B) = 12 by omega] at this
    exact this.symm
  obtain ⟨v, hv⟩ : ∃ v, v = gN (gE B) (bc B) g w s := ⟨_, rfl⟩
  have v6 : v ≤ 1000000 := by
    have := mnf_le0 (p := okB (gE B) s w) (g := fun j => bc B w j + g (s ^^^ 2 ^ j)) (b := g s) 12
    have := gl s
    have e : gN (gE B) (bc B) g w s = mnf (okB (gE B) s w) (fun j => bc B w j + g (s ^^^ 2 ^ j)) 12 (g s) := rfl
    omega
  obtain ⟨s0, h0⟩ : ∃ s0, s0 = (if g s = v then h s else 0) := ⟨_, rfl⟩
  have eS : sgm (fun j => if okB (gE B) s w j = true ∧ bc B w j + g (s ^^^ 2 ^ j) = v then h (s ^^^ 2 ^ j) else 0) (bm B) = sgm (fun j => if okB (gE B) s w j = true ∧ bc B w j + g (s ^^^ 2 ^ j) = v then h (s ^^^ 2 ^ j) else 0) 12 := by
    have := sgm_cut (f := fun j => if okB (gE B) s w j = true ∧ bc B w j + g (s ^^^ 2 ^ j) = v then h (s ^^^ 2 ^ j) else 0) (k := bm B) (12 - bm B) (fun u hu => if_neg fun z => by rw [no u hu] at z; exact absurd z.1 (by simp))
    rw [show bm B + (12 - bm B) = 12 by omega] at this
    exact this.symm
  have e1 : ∀ K x2, f_X10_laysCheap_L157 K 5000 168 x2 (Int32.ofNat w) x5 (Int32.ofNat s) (Int32.ofNat (g s)) 0 (mem ν) = K 168 x2 (Int32.ofNat w) x5 (Int32.ofNat s) (Int32.ofNat v) (mem ν) := fun K x2 => by
    have q := m_lc_min hB hm hr gl hw hs hx (gl s) (bm B) 0 (by omega) (5000 - (bm B + 1)) K x2
    rw [ef, eN, ← hv] at q
    exact q
  have e2 : ∀ K x2, f_X10_laysCheap_L266 K 5000 168 x2 (Int32.ofNat w) x5 (Int32.ofNat s) (Int32.ofNat v) (Int64.ofNat s0) 0 (mem ν) = K 168 x2 (Int32.ofNat w) x5 (Int32.ofNat s) (Int32.ofNat v) (Int64.ofNat (s0 + sgm (fun j => if okB (gE B) s w j = true ∧ bc B w j + g (s ^^^ 2 ^ j) = v then h (s ^^^ 2 ^ j) else 0) 12)) (mem ν) := fun K x2 => by
    have q := m_lc_sum hB hm hr gl hw hs hx (v := v) (s0 := s0) v6 (bm B) 0 (by omega) (5000 - (bm B + 1)) K x2
    rw [ef, eS] at q
    exact q
  obtain ⟨ξ, e3, f3, r1, r2⟩ := m_lc_put (ν := ν) (w := w) (s := s) (v := v) (x8 := s0 + sgm (fun j => if okB (gE B) s w j = true ∧ bc B w j + g (s ^^^ 2 ^ j) = v then h (s ^^^ 2 ^ j) else 0) 12) (by omega) s4 (by omega)
  have e37 : aR 102 (mem ν) 504 (Int32.ofNat w + 1) = some (505 + (w + 1)) := by rw [i_succ]; exact mR_b (by omega)
  have e38 : aR 104 (mem ν) 518 (Int32.ofNat w + 1) = some (519 + (w + 1)) := by rw [i_succ]; exact mR_y (by omega)
  have a2 : aI (mem ν) (505 + (w + 1)) (Int32.ofNat s) = some (Int32.ofNat (g s)) := by rw [mA_b (by omega) s4, (hr s hs).1]
  have a3 : aJ (mem ν) (519 + (w + 1)) (Int32.ofNat s) = some (Int64.ofNat (h s)) := by rw [mA_y (by omega) s4, (hr s hs).2]
  have gs := gl s
  have ce : (Int32.ofNat (g s) = Int32.ofNat v) = (g s = v) := oN_inj (by omega) (by omega)
  refine ⟨ξ, fun K n x2 hlt hx2 => ?_, f3, by rw [r1, hv], ?_⟩
  · have c : (Int32.ofNat s ≥ x2) = False := by rw [hx2, oN_ge (by omega) (by omega)]; exact eq_false (by omega)
    by_cases z : g s = v
    · have ce := ce.trans (eq_true z)
      rw [if_pos z] at h0
      rw [← h0] at a3
      simp only [f_X10_laysCheap_L134, c, ↓reduceIte, ↓hbind gR_168_37, ↓hbind e37, ↓hbind a2, e1, f_X10_laysCheap_J228, ce, ↓hbind gR_168_38, ↓hbind e38, ↓hbind a3, f_X10_laysCheap_J261, e2, e3]
    · have ce := ce.trans (eq_false z)
      rw [if_neg z] at h0
      have e20 : ∀ K x2, f_X10_laysCheap_L266 K 5000 168 x2 (Int32.ofNat w) x5 (Int32.ofNat s) (Int32.ofNat v) 0 0 (mem ν) = K 168 x2 (Int32.ofNat w) x5 (Int32.ofNat s) (Int32.ofNat v) (Int64.ofNat (s0 + sgm (fun j => if okB (gE B) s w j = true ∧ bc B w j + g (s ^^^ 2 ^ j) = v then h (s ^^^ 2 ^ j) else 0) 12)) (mem ν) := fun K x2 => by
        have q := e2 K x2
        rw [h0] at q ⊢
        exact q
      simp only [f_X10_laysCheap_L134, c, ↓reduceIte, ↓hbind gR_168_37, ↓hbind e37, ↓hbind a2, e1, f_X10_laysCheap_J228, ce, f_X10_laysCheap_J261, e20, e3]
  · have e : hN (gE B) (bc B) g h w s = if v < 1000000 then s0 + sgm (fun j => if okB (gE B) s w j = true ∧ bc B w j + g (s ^^^ 2 ^ j) = v then h (s ^^^ 2 ^ j) else 0) 12 else 0 := by
      unfold hN
      rw [← hv, h0]
    rw [r2, e]
theorem m_lc_S (hB : BOK B) {g h : Nat → Nat} {w : Nat} (gl : ∀ T, g T ≤ 1000000) (hw : w < bn B) {x5 : Int32} (hx : ∀ k, k < 12 → hb x5 k = gE B w k) : ∀ (d s : Nat) (ν : MM), s + d = 2 ^ bm B → MR ν 0 B → RWc ν B (w + 1) g h → (∀ S, S < s → ν.1 (505 + w) S = Int32.ofNat (min (gN (gE B) (bc B) g w S) 1000000) ∧ ν.2 (519 + w) S = Int64.ofNat (hN (gE B) (bc B) g h w S)) → ∃ ξ, (∀ f K, f_X10_laysCheap_L134 K (d + 1 + f) 168 (Int32.ofNat (2 ^ bm B)) (Int32.ofNat w) x5 (Int32.ofNat s) (mem ν) = K 168 (Int32.ofNat (2 ^ bm B)) (Int32.ofNat w) (mem ξ)) ∧ Fr (fun q _ => q = 505 + w ∨ q = 519 + w) ν ξ ∧ RWc ξ B w (fun S => min (gN (gE B) (bc B) g w S) 1000000) (hN (gE B) (bc B) g h w)
  | 0, s, ν, hd, hm, hr, hI => by
    have hb12 : bm B ≤ 12 := hB.m
    have full12 : 2 ^ bm B ≤ 4096 := Nat.pow_le_pow_right (n := 2) (by decide) hb12
    have c : (Int32.ofNat s ≥ Int32.ofNat (2 ^ bm B)) = True := by rw [oN_ge (by omega) (by omega)]; exact eq_true (by omega)
    refine ⟨ν, fun f K => ?_, Fr.refl _ _, fun S hS => hI S (by omega)⟩
    rw [show 0 + 1 + f = f + 1 by omega]
    simp only [f_X10_laysCheap_L134, c, ↓reduceIte]
  | d + 1, s, ν, hd, hm, hr, hI => by
    have hs : s < 2 ^ bm B := by omega
    obtain ⟨ζ, e1, f1, r1, r2⟩ := m_lc_one hB hm hr gl hw hs hx
    obtain ⟨ξ, a, b, g'⟩ := m_lc_S hB gl hw hx d (s + 1) ζ (by omega) (hm.ch f1 fun q i z => by have := hB.n; unfold FLc; omega) (fun S hS => by
      rw [(f1 _ _ (by omega)).1, (f1 _ _ (by omega)).2]; exact hr S hS) (fun S hS => by
      by_cases z : S = s
      · rw [z]; exact ⟨r1, r2⟩
      · rw [(f1 _ _ (by omega)).1, (f1 _ _ (by omega)).2]; exact hI S (by omega))
    refine ⟨ξ, fun f K => ?_, (f1.mono fun q i z => z.1).trans b, g'⟩
    rw [show d + 1 + 1 + f = d + 1 + f + 1 by omega, ← a f K]
    exact e1 K _ _ hs rfl
/-- the table's rows from i on -/
def RWs (ν : MM) (B : Bk) (N i : Nat) : Prop := ∀ w, i ≤ w → w ≤ bn B → RWc ν B w (lsB (gE B) (bc B) N (12 - w)) (lsW (gE B) (bc B) N (12 - w))
theorem m_lc_w (hB : BOK B) : ∀ (i : Nat) (ν : MM), i ≤ bn B → MR ν 0 B → RWs ν B N i → ∃ ξ, (∀ f, f_X10_laysCheap_L92 f_X10_laysCheap_J409 (i + 1 + f) 168 (Int32.ofNat (2 ^ bm B)) (Int32.ofNat i + (-1)) (mem ν) = some (mem ξ)) ∧ Fr FLc ν ξ ∧ RWs ξ B N 0
  | 0, ν, _, hm, hr => by
    have c : (Int32.ofNat 0 + (-1) < 0) = True := eq_true (by decide)
    refine ⟨ν, fun f => ?_, Fr.refl _ _, hr⟩
    rw [show 0 + 1 + f = f + 1 by omega]
    simp only [f_X10_laysCheap_L92, c, ↓reduceIte, f_X10_laysCheap_J409]
  | w + 1, ν, h, hm, hr => by
    have hn : bn B ≤ 12 := hB.n
    have hb12 : bm B ≤ 12 := hB.m
    have full12 : 2 ^ bm B ≤ 4096 := Nat.pow_le_pow_right (n := 2) (by decide) hb12
    have ef : 2 ^ bm B + 1 + (5000 - (2 ^ bm B + 1)) = 5000 := by omega
    have hw : w < 12 := by omega
    have c1 : (Int32.ofNat w < 0) = False := oN_l0 (by omega)
    have ew := m_isThere0 (μ := ν) (show w < 32 by omega)
    rw [show ν.1 172 3 = bw B from hm.1.2.2.2.1] at ew
    have e4 : ν.1 172 4 = bt B := hm.1.2.2.2.2
    have e5 : ν.1 191 w = bf B w := hm.2.1 w hw
    have go : ∀ x5, (∀ k, k < 12 → hb x5 k = gE B w k) → (∀ f, f_X10_laysCheap_L92 f_X10_laysCheap_J409 (w + 1 + f + 1) 168 (Int32.ofNat (2 ^ bm B)) (Int32.ofNat w) (mem ν) = f_X10_laysCheap_L134 (f_X10_laysCheap_J403 (f_X10_laysCheap_L92 f_X10_laysCheap_J409 (w + 1 + f)) f_X10_laysCheap_J409) 5000 168 (Int32.ofNat (2 ^ bm B)) (Int32.ofNat w) x5 0 (mem ν)) → ∃ ξ, (∀ f, f_X10_laysCheap_L92 f_X10_laysCheap_J409 (w + 1 + 1 + f) 168 (Int32.ofNat (2 ^ bm B)) (Int32.ofNat (w + 1) + (-1)) (mem ν) = some (mem ξ)) ∧ Fr FLc ν ξ ∧ RWs ξ B N 0 := fun x5 hx eq => by
      obtain ⟨ζ, e1, f1, r1⟩ := m_lc_S (g := lsB (gE B) (bc B) N (12 - (w + 1))) (h := lsW (gE B) (bc B) N (12 - (w + 1))) hB (fun T => lsB_le _ _) (show w < bn B by omega) hx (2 ^ bm B) 0 ν (by omega) hm (hr (w + 1) (Nat.le_refl _) h) (fun S hS => absurd hS (Nat.not_lt_zero _))
      have fc : Fr FLc ν ζ := f1.mono fun q i z => by unfold FLc; omega
      obtain ⟨ξ, a, b, g'⟩ := m_lc_w hB w ζ (by omega) (hm.ch fc fun _ _ z => z) (fun v h1 h2 => by
        by_cases z : v = w
        · rw [z]
          intro S hS
          rw [lsB_w hw, lsW_w hw]
          exact r1 S hS
        · intro S hS
          rw [(f1 _ _ (by omega)).1, (f1 _ _ (by omega)).2]
          exact hr v (by omega) h2 S hS)
      refine ⟨ξ, fun f => ?_, fc.trans b, g'⟩
      have e1 : ∀ K, f_X10_laysCheap_L134 K 5000 168 (Int32.ofNat (2 ^ bm B)) (Int32.ofNat w) x5 0 (mem ν) = K 168 (Int32.ofNat (2 ^ bm B)) (Int32.ofNat w) (mem ζ) := fun K => by
        have q := e1 (5000 - (2 ^ bm B + 1)) K
        rw [ef] at q
        exact q
      rw [show w + 1 + 1 + f = w + 1 + f + 1 by omega, i_dec, eq, e1, ← a f]
      simp only [f_X10_laysCheap_J403, lt_go]
    cases q : hb (bw B) w with
    | false =>
      rw [q] at ew
      refine go 0 (fun k _ => ?_) (fun f => ?_)
      · rw [hb_zero]
        cases z : gE B w k with
        | false => rfl
        | true => have := gE_W _ _ z; rw [q] at this; cases this
      · rw [f_X10_laysCheap_L92]
        simp only [c1, ↓reduceIte, ↓hvc (fun _ => vc_168), ↓hbind ew, show bI false = 0 from rfl, f_X10_laysCheap_J129]
    | true =>
      rw [q] at ew
      refine go (bf B w &&& bt B) (fun k _ => ?_) (fun f => ?_)
      · rw [hb_and]
        unfold gE
        rw [q, Bool.and_true]
      · rw [f_X10_laysCheap_L92]
        simp only [c1, ↓reduceIte, ↓hvc (fun _ => vc_168), ↓hbind ew, show bI true = 1 from rfl, z_1, ↓hbind gR_168_10, ↓hbind mr_f0, ↓hbind (ma_f0 hw), e5, ↓hbind gR_168_9, ↓hbind mr_h0, ↓hbind mh_a0_4, e4, f_X10_laysCheap_J129]
/-- the last row -/
theorem m_lc_init (hB : BOK B) (hN : N ≤ 12) : ∀ (d s : Nat) (ν : MM), s + d = 2 ^ bm B → (∀ S, S < s → ν.1 (505 + bn B) S = Int32.ofNat (lsB (gE B) (bc B) N 0 S) ∧ ν.2 (519 + bn B) S = Int64.ofNat (lsW (gE B) (bc B) N 0 S)) → ∃ ξ, (∀ f K, f_X10_laysCheap_L28 K (d + 1 + f) 168 (Int32.ofNat (bn B)) (Int32.ofNat (2 ^ bm B)) (Int32.ofNat N) (Int32.ofNat s) (mem ν) = K 168 (Int32.ofNat (bn B)) (Int32.ofNat (2 ^ bm B)) (mem ξ)) ∧ Fr FLc ν ξ ∧ RWc ξ B (bn B) (lsB (gE B) (bc B) N 0) (lsW (gE B) (bc B) N 0)
  | 0, s, ν, hd, hI => by
    have hb12 : bm B ≤ 12 := hB.m
    have full12 : 2 ^ bm B ≤ 4096 := Nat.pow_le_pow_right (n := 2) (by decide) hb12
    have c : (Int32.ofNat s ≥ Int32.ofNat (2 ^ bm B)) = True := by rw [oN_ge (by omega) (by omega)]; exact eq_true (by omega)
    refine ⟨ν, fun f K => ?_, Fr.refl _ _, fun S hS => hI S (by omega)⟩
    rw [show 0 + 1 + f = f + 1 by omega]
    simp only [f_X10_laysCheap_L28, c, ↓reduceIte]
  | d + 1, s, ν, hd, hI => by
    have hn : bn B ≤ 12 := hB.n
    have hb12 : bm B ≤ 12 := hB.m
    have full12 : 2 ^ bm B ≤ 4096 := Nat.pow_le_pow_right (n := 2) (by decide) hb12
    have s4 : s < 4096 := by omega
    have hw : bn B < 13 := by omega
    have c : (Int32.ofNat s ≥ Int32.ofNat (2 ^ bm B)) = False := by rw [oN_ge (by omega) (by omega)]; exact eq_false (by omega)
    have cl : cnt (fun k => s.testBit k) 12 ≤ 12 := cnt_le _ _
    have ceq : (Int32.ofNat (cnt (fun k => s.testBit k) 12) = Int32.ofNat N) = (cnt (fun k => s.testBit k) 12 = N) := oN_inj (by omega) (by omega)
    obtain ⟨ν1, hd1⟩ : ∃ x, x = sj (st ν (505 + bn B) s (Int32.ofNat (lsB (gE B) (bc B) N 0 s))) (519 + bn B) s (Int64.ofNat (lsW (gE B) (bc B) N 0 s)) := ⟨_, rfl⟩
    have f1 : Fr (fun q i => (q = 505 + bn B ∨ q = 519 + bn B) ∧ i = s) ν ν1 := by rw [hd1]; exact ((Fr.refl _ _).st ⟨Or.inl rfl, rfl⟩).sj ⟨Or.inr rfl, rfl⟩
    obtain ⟨ξ, a, b, g⟩ := m_lc_init hB hN d (s + 1) ν1 (by omega) (fun S hS => by
      by_cases z : S = s
      · rw [z, hd1, sj_1, st_same, sj_same]; exact ⟨rfl, rfl⟩
      · rw [(f1 _ _ (by omega)).1, (f1 _ _ (by omega)).2]; exact hI S (by omega))
    refine ⟨ξ, fun f K => ?_, (f1.mono fun q i z => by unfold FLc; omega).trans b, g⟩
    have o1 := ones_S (h := mem ν) s4
    have o2 := ones_S (h := mem (st ν (505 + bn B) s (Int32.ofNat (lsB (gE B) (bc B) N 0 s)))) s4
    rw [show d + 1 + 1 + f = d + 1 + f + 1 by omega, ← a f K, hd1]
    have eB : lsB (gE B) (bc B) N 0 s = if cnt (fun k => s.testBit k) 12 = N then 0 else 1000000 := rfl
    have eW : lsW (gE B) (bc B) N 0 s = if cnt (fun k => s.testBit k) 12 = N then 1 else 0 := rfl
    by_cases z : cnt (fun k => s.testBit k) 12 = N
    · have ceq := ceq.trans (eq_true z)
      rw [if_pos z] at eB eW
      rw [eB] at o2 ⊢
      rw [eW]
      have o2 : f_X10_ones (Int32.ofNat s) (mem (st ν (505 + bn B) s 0)) = some (Int32.ofNat (cnt (fun k => s.testBit k) 12), mem (st ν (505 + bn B) s 0)) := o2
      have k0 : (0 : Int32) = Int32.ofNat 0 := rfl
      simp only [f_X10_laysCheap_L28, c, ↓reduceIte, ↓hbind gR_168_37, ↓hbind (mR_b hw), ↓hbind o1, ceq, f_X10_laysCheap_J57, ↓hbind (mS_b hw s4), ↓hbind gR_168_38, ↓hbind (mR_y hw), ↓hbind o2, f_X10_laysCheap_J80, ↓hbind (mS_y hw s4), lt_go, i_succ]
      rfl
    · have ceq := ceq.trans (eq_false z)
      rw [if_neg z] at eB eW
      rw [eB] at o2 ⊢
      rw [eW]
      have o2 : f_X10_ones (Int32.ofNat s) (mem (st ν (505 + bn B) s 1000000)) = some (Int32.ofNat (cnt (fun k => s.testBit k) 12), mem (st ν (505 + bn B) s 1000000)) := o2
      simp only [f_X10_laysCheap_L28, c, ↓reduceIte, ↓hbind gR_168_37, ↓hbind (mR_b hw), ↓hbind o1, ceq, f_X10_laysCheap_J57, ↓hbind (mS_b hw s4), ↓hbind gR_168_38, ↓hbind (mR_y hw), ↓hbind o2, f_X10_laysCheap_J80, ↓hbind (mS_y hw s4), lt_go, i_succ]
      rfl
end Ch2
section Ch3
variable {μ : MM} {B : Bk}
theorem m_laysCheap (hm : MR μ 0 B) (hB : BOK B) : ∃ N ξ, f_X10_laysCheap 168 (mem μ) = some (mem ξ) ∧ Fr QM μ ξ ∧ Nu (gE B) N ∧ RWs ξ B N 0 ∧ ξ.1 168 0 = μ.1 168 0 := by
  have hn : bn B ≤ 12 := hB.n
  have hb12 : bm B ≤ 12 := hB.m
  have full12 : 2 ^ bm B ≤ 4096 := Nat.pow_le_pow_right (n := 2) (by decide) hb12
  obtain ⟨N, ν, e1, f1, hN⟩ := m_nuB hm hB
  have fq : Fr QM μ ν := f1.mono fun _ _ z => z.Q
  have hm1 : MR ν 0 B := hm.fr f1 fun q i a z => by unfold Fk at z; unfold FR at a; omega
  obtain ⟨ζ, e2, f2, r2⟩ := m_lc_init (N := N) hB hN.l12 (2 ^ bm B) 0 ν (by omega) (fun S hS => absurd hS (Nat.not_lt_zero _))
  obtain ⟨ξ, e3, f3, r3⟩ := m_lc_w (N := N) hB (bn B) ζ (Nat.le_refl _) (hm1.ch f2 fun _ _ z => z) (fun w h1 h2 => by
    rw [show w = bn B by omega]
    intro S hS
    obtain ⟨a, b⟩ := lsB_n (c := bc B) (N := N) (S := S) hB.En (12 - bn B) (by omega)
    rw [a, b]; exact r2 S hS)
  have ea : μ.1 172 0 = Int32.ofNat (bn B) := hm.1.1
  have eb : μ.1 172 1 = Int32.ofNat (bm B) := hm.1.2.1
  have f23 : Fr QM ν ξ := (f2.trans f3).mono fun q i z => by unfold FLc at z; unfold QM; omega
  have e2 : ∀ K, f_X10_laysCheap_L28 K 5000 168 (Int32.ofNat (bn B)) (Int32.ofNat (2 ^ bm B)) (Int32.ofNat N) 0 (mem ν) = K 168 (Int32.ofNat (bn B)) (Int32.ofNat (2 ^ bm B)) (mem ζ) := fun K => by
    have q := e2 (5000 - (2 ^ bm B + 1)) K
    rw [show 2 ^ bm B + 1 + (5000 - (2 ^ bm B + 1)) = 5000 by omega] at q
    exact q
  have e3 : f_X10_laysCheap_L92 f_X10_laysCheap_J409 5000 168 (Int32.ofNat (2 ^ bm B)) (Int32.ofNat (bn B) - 1) (mem ζ) = some (mem ξ) := by
    have q := e3 (5000 - (bn B + 1))
    rw [show bn B + 1 + (5000 - (bn B + 1)) = 5000 by omega] at q
    rw [oN_dec1]; exact q
  refine ⟨N, ξ, ?_, fq.trans f23, hN, r3, ?_⟩
  · simp only [f_X10_laysCheap, ↓hbind gR_168_9, ↓hbind mr_h0, ↓hbind mh_a0_0, ea, ↓hbind mh_a0_1, eb, one_shl hb12, lt_go, ↓hvc (fun _ => vc_168), ↓hbind e1, e2, f_X10_laysCheap_J87, e3]
  · rw [((f2.trans f3) _ _ (by unfold FLc; omega)).1, (f1 _ _ (by unfold Fk; omega)).1]
end Ch3
