/-! THE MODEL: a text read -/
section Mx
variable {μ ν : MM} {n p : Nat} {y : Nat → Nat} {B : Bk} {kr : Bool}
/-- a word is not the one: the place stays -/
theorem m_tk_f (hn : n ≤ 300) (hy : ∀ k, y k < 256) {s : Nat} (hs : s ≤ n) (ss : skp n y s = s) (h : TM n y ν s B kr) {j : Nat} (hj : j < 9) (z : ¬ isW y s (sme n y s) (wdW j) = true) : ∃ ξ, f_X10_takes 168 (1000003 + j) (mem ν) = some (0, mem ξ) ∧ TM n y ξ s B kr ∧ Fr GX ν ξ := by
  obtain ⟨ξ, e, r, f⟩ := m_takes hn hy hs h.1 h.2.2.2.1 hj
  have z' : isW y s (sme n y s) (wdW j) = false := by simpa using z
  rw [ss, z'] at e r
  rw [if_neg (by simp)] at r
  exact ⟨ξ, e, h.go r (f.mono fun _ _ z => z.F), f.mono fun _ _ z => z.X⟩
theorem m_tk_t (hn : n ≤ 300) (hy : ∀ k, y k < 256) {s : Nat} (hs : s ≤ n) (ss : skp n y s = s) (h : TM n y ν s B kr) {j : Nat} (hj : j < 9) (z : isW y s (sme n y s) (wdW j) = true) : ∃ ξ, f_X10_takes 168 (1000003 + j) (mem ν) = some (1, mem ξ) ∧ TM n y ξ (sme n y s) B kr ∧ Fr GX ν ξ := by
  obtain ⟨ξ, e, r, f⟩ := m_takes hn hy hs h.1 h.2.2.2.1 hj
  rw [ss, z] at e r
  rw [if_pos rfl] at r
  exact ⟨ξ, e, h.go r (f.mono fun _ _ z => z.F), f.mono fun _ _ z => z.X⟩
theorem m_ln1 (hn : n ≤ 300) (hy : ∀ k, y k < 256) (hp : p ≤ n) (hB : BOK B) (h : TM n y ν p B kr) : ∃ ξ, f_X10_readsLine 168 (mem ν) = f_X10_readsLine_J100 168 (mem ξ) ∧ Fr GX ν ξ ∧ OM n y ξ (ln1 n y p B kr) := by
  have l1 := skp_le (y := y) hp
  have l2 := sme_le (y := y) l1.2
  have ss := skp_skp (y := y) hp
  obtain ⟨ν0, e0, r0, f0⟩ := m_here hn hy hp h.1
  have t0 := h.go r0 (f0.mono fun _ _ z => z.F)
  have f0' : Fr GX ν ν0 := f0.mono fun _ _ z => z.X
  have p0 := r0.2.1
  unfold ln1
  by_cases z2 : isW y (skp n y p) (sme n y (skp n y p)) (wdW 2) = true
  · rw [if_pos z2]
    obtain ⟨ν1, e1, t1, f1⟩ := m_tk_t hn hy l1.2 ss t0 (j := 2) (by decide) z2
    have e1 : f_X10_takes 168 1000005 (mem ν0) = some (1, mem ν1) := e1
    obtain ⟨ξ, e, f, o⟩ := m_lnFit hn hy l2.2 hB t1
    refine ⟨ξ, ?_, (f0'.trans f1).trans f, o⟩
    simp only [f_X10_readsLine, ↓hvc (fun _ => vc_168), ↓hbind e0, ↓hbind gI_168_4, p0, ↓hbind e1, z_1, ↓reduceIte, ↓hbind e]
  · rw [if_neg z2]
    obtain ⟨ν1, e1, t1, f1⟩ := m_tk_f hn hy l1.2 ss t0 (j := 2) (by decide) z2
    have e1 : f_X10_takes 168 1000005 (mem ν0) = some (0, mem ν1) := e1
    have f1 := f0'.trans f1
    by_cases z3 : isW y (skp n y p) (sme n y (skp n y p)) (wdW 3) = true
    · rw [if_pos z3]
      obtain ⟨ν2, e2, t2, f2⟩ := m_tk_t hn hy l1.2 ss t1 (j := 3) (by decide) z3
      have e2 : f_X10_takes 168 1000006 (mem ν1) = some (1, mem ν2) := e2
      obtain ⟨ξ, e, f, o⟩ := m_lnAway hn hy l2.2 hB t2
      refine ⟨ξ, ?_, (f1.trans f2).trans f, o⟩
      simp only [f_X10_readsLine, ↓hvc (fun _ => vc_168), ↓hbind e0, ↓hbind gI_168_4, p0, ↓hbind e1, z_1, ↓reduceIte, ↓hbind e2, ↓hbind e]
    · rw [if_neg z3]
      obtain ⟨ν2, e2, t2, f2⟩ := m_tk_f hn hy l1.2 ss t1 (j := 3) (by decide) z3
      have e2 : f_X10_takes 168 1000006 (mem ν1) = some (0, mem ν2) := e2
      have f2 := f1.trans f2
      by_cases z4 : isW y (skp n y p) (sme n y (skp n y p)) (wdW 4) = true
      · rw [if_pos z4]
        obtain ⟨ν3, e3, t3, f3⟩ := m_tk_t hn hy l1.2 ss t2 (j := 4) (by decide) z4
        have e3 : f_X10_takes 168 1000007 (mem ν2) = some (1, mem ν3) := e3
        obtain ⟨ξ, e, f, o⟩ := m_lnPair hn hy l2.2 hB t3
        refine ⟨ξ, ?_, (f2.trans f3).trans f, o⟩
        simp only [f_X10_readsLine, ↓hvc (fun _ => vc_168), ↓hbind e0, ↓hbind gI_168_4, p0, ↓hbind e1, z_1, ↓reduceIte, ↓hbind e2, ↓hbind e3, ↓hbind e]
      · rw [if_neg z4]
        obtain ⟨ν3, e3, t3, f3⟩ := m_tk_f hn hy l1.2 ss t2 (j := 4) (by decide) z4
        have e3 : f_X10_takes 168 1000007 (mem ν2) = some (0, mem ν3) := e3
        have f3 := f2.trans f3
        by_cases z5 : isW y (skp n y p) (sme n y (skp n y p)) (wdW 5) = true
        · rw [if_pos z5]
          obtain ⟨ν4, e4, t4, f4⟩ := m_tk_t hn hy l1.2 ss t3 (j := 5) (by decide) z5
          have e4 : f_X10_takes 168 1000008 (mem ν3) = some (1, mem ν4) := e4
          obtain ⟨ξ, e, f, o⟩ := m_lnWeight hn hy l2.2 hB t4
          refine ⟨ξ, ?_, (f3.trans f4).trans f, o⟩
          simp only [f_X10_readsLine, ↓hvc (fun _ => vc_168), ↓hbind e0, ↓hbind gI_168_4, p0, ↓hbind e1, z_1, ↓reduceIte, ↓hbind e2, ↓hbind e3, ↓hbind e4, ↓hbind e]
        · rw [if_neg z5]
          obtain ⟨ν4, e4, t4, f4⟩ := m_tk_f hn hy l1.2 ss t3 (j := 5) (by decide) z5
          have e4 : f_X10_takes 168 1000008 (mem ν3) = some (0, mem ν4) := e4
          have f4 := f3.trans f4
          by_cases z6 : isW y (skp n y p) (sme n y (skp n y p)) (wdW 6) = true
          · rw [if_pos z6]
            obtain ⟨ν5, e5, t5, f5⟩ := m_tk_t hn hy l1.2 ss t4 (j := 6) (by decide) z6
            have e5 : f_X10_takes 168 1000009 (mem ν4) = some (1, mem ν5) := e5
            obtain ⟨ξ, e, f, o⟩ := m_lnKeep hn hy l2.2 t5 (s := skp n y p)
            refine ⟨ξ, ?_, (f4.trans f5).trans f, o⟩
            simp only [f_X10_readsLine, ↓hvc (fun _ => vc_168), ↓hbind e0, ↓hbind gI_168_4, p0, ↓hbind e1, z_1, ↓reduceIte, ↓hbind e2, ↓hbind e3, ↓hbind e4, ↓hbind e5, ↓hbind e]
          · rw [if_neg z6]
            obtain ⟨ν5, e5, t5, f5⟩ := m_tk_f hn hy l1.2 ss t4 (j := 6) (by decide) z6
            have e5 : f_X10_takes 168 1000009 (mem ν4) = some (0, mem ν5) := e5
            obtain ⟨ξ, e, f, v1, v2⟩ := m_wrong1 t5.2.2.2.1 (a := 1) (q := Int32.ofNat (skp n y p))
            have p5 := t5.1.2.1
            refine ⟨ξ, ?_, (f4.trans f5).trans (f.mono fun _ _ z => z.X), EM.i v1 v2 (by omega) (by omega)⟩
            simp only [f_X10_readsLine, ↓hvc (fun _ => vc_168), ↓hbind e0, ↓hbind gI_168_4, p0, ↓hbind e1, z_1, ↓reduceIte, ↓hbind e2, ↓hbind e3, ↓hbind e4, ↓hbind e5, p5, ↓hbind e]
/-- the ends behind what has been read -/
theorem m_lnEnd (hn : n ≤ 300) (hy : ∀ k, y k < 256) {i : Nat} {R : Rs} (hR : ROK n i R) (h : OM n y ν R) : ∃ ξ, f_X10_ends 168 (mem ν) = some (mem ξ) ∧ Fr GX ν ξ ∧ OM n y ξ (lnEnd n y R) := by
  rcases R with ⟨p, B, k⟩ | ⟨a, q⟩
  · have hp : p ≤ n := hR.2.1
    have h : TM n y ν p B k := h
    show ∃ ξ, _ ∧ _ ∧ OM n y ξ (if skp n y p < n ∧ y (skp n y p) = 59 then .ok (skp n y p + 1) B k else .er 1 (skp n y p))
    by_cases z : skp n y p < n ∧ y (skp n y p) = 59
    · rw [if_pos z]
      obtain ⟨ξ, a, b, g⟩ := m_end_ok hn hy hp h.1 h.2.2.2.1 z.1 z.2
      exact ⟨ξ, a, g.mono fun _ _ z => z.X, h.go b (g.mono fun _ _ z => z.F)⟩
    · rw [if_neg z]
      obtain ⟨ξ, a, g, v1, v2⟩ := m_end_er hn hy hp h.1 h.2.2.2.1 z
      exact ⟨ξ, a, g, EM.i v1 v2 (by omega) (by omega)⟩
  · have h : EM ν a q := h
    exact ⟨ν, m_end_no h.2.2, Fr.refl _ _, h⟩
theorem m_line (hn : n ≤ 300) (hy : ∀ k, y k < 256) (hp : p ≤ n) (hB : BOK B) (h : TM n y ν p B kr) : ∃ ξ, f_X10_readsLine 168 (mem ν) = some (mem ξ) ∧ Fr GX ν ξ ∧ OM n y ξ (line n y p B kr) := by
  obtain ⟨ν1, e1, f1, o1⟩ := m_ln1 hn hy hp hB h
  obtain ⟨ξ, e2, f2, o2⟩ := m_lnEnd hn hy (ln1_ok (y := y) (kr := kr) hp hB) o1
  refine ⟨ξ, ?_, f1.trans f2, o2⟩
  rw [e1]
  simp only [f_X10_readsLine_J100, ↓hvc (fun _ => vc_168), ↓hbind e2]
/-- all lines -/
def OMf (ξ : MM) : Rs → Prop
  | .inl (_, B, _) => MR ξ 1 B ∧ ξ.1 168 6 = 0 ∧ ξ.1 168 7 = -1
  | .inr (a, q) => EM ξ a q
theorem m_lines (hn : n ≤ 300) (hy : ∀ k, y k < 256) : ∀ (d i : Nat) (ν : MM) (R : Rs), OM n y ν R → ROK n i R → n + 1 ≤ i + d → ∃ ξ, (∀ f K, f_X10_text_L104 K (d + 1 + f) 168 (mem ν) = K 168 (mem ξ)) ∧ Fr GX ν ξ ∧ OMf ξ (lines n y d R)
  | d, i, ν, .inr (a, q), ho, hk, hd => by
    have ho : EM ν a q := ho
    have el : lines n y d (.er a q) = .er a q := by cases d <;> rfl
    rw [el]
    refine ⟨ν, fun f K => ?_, Fr.refl _ _, ho⟩
    rw [show d + 1 + f = d + f + 1 by omega]
    simp only [f_X10_text_L104, ↓hvc (fun _ => vc_168), ↓hbind (m_fine0 ho.2.2), ↓reduceIte]
  | 0, i, ν, .inl (p, B, k), ho, hk, hd => by
    have := hk.1
    have := hk.2.1
    omega
  | d + 1, i, ν, .inl (p, B, k), ho, hk, hd => by
    have t : TM n y ν p B k := ho
    obtain ⟨h1, h2, h3⟩ := hk
    have l := skp_le (y := y) h2
    have el : lines n y (d + 1) (.ok p B k) = if skp n y p < n then lines n y d (line n y (skp n y p) B k) else .ok (skp n y p) B k := rfl
    obtain ⟨ν1, e1, r1, f1⟩ := m_here hn hy h2 t.1
    have t1 := t.go r1 (f1.mono fun _ _ z => z.F)
    rw [el]
    by_cases z : skp n y p < n
    · rw [if_pos z]
      rw [byI_in z] at e1
      have := hy (skp n y p)
      have c : (Int32.ofNat (y (skp n y p)) = -1) = False := oN_n1 (by omega)
      obtain ⟨ν2, e2, f2, o2⟩ := m_line hn hy l.2 h3 t1
      obtain ⟨ξ, e3, f3, o3⟩ := m_lines hn hy d (i + 1) ν2 (line n y (skp n y p) B k) o2 ((line_ok l.2 h3).le (by omega)) (by omega)
      refine ⟨ξ, fun f K => ?_, ((f1.mono fun _ _ z => z.X).trans f2).trans f3, o3⟩
      rw [show d + 1 + 1 + f = d + 1 + f + 1 by omega, ← e3 f K]
      simp only [f_X10_text_L104, ↓hvc (fun _ => vc_168), ↓hbind (m_fine1 t.2.2.2.1), z_1, ↓reduceIte, ↓hbind e1, c, ↓hbind e2]
    · rw [if_neg z]
      rw [byI_out z] at e1
      have c : ((-1 : Int32) = -1) = True := eq_true rfl
      refine ⟨ν1, fun f K => ?_, f1.mono fun _ _ z => z.X, t1.2.1, t1.2.2.2.1, t1.2.2.2.2⟩
      rw [show d + 1 + 1 + f = d + 1 + f + 1 by omega]
      simp only [f_X10_text_L104, ↓hvc (fun _ => vc_168), ↓hbind (m_fine1 t.2.2.2.1), z_1, ↓reduceIte, ↓hbind e1, c]
/-- the head: after a fault nothing counts -/
def HT (ν : MM) : Prop := ν.1 168 16 = 0 ∧ ν.1 168 6 = 0 ∧ ν.1 168 7 = -1
theorem HT.go {ξ : MM} (h : HT ν) (f : Fr G415 ν ξ) : HT ξ := ⟨by rw [(f _ _ (by unfold G415; omega)).1]; exact h.1, by rw [(f _ _ (by unfold G415; omega)).1]; exact h.2.1, by rw [(f _ _ (by unfold G415; omega)).1]; exact h.2.2⟩
/-- the head's second half -/
def h2F (x : Int32) (h : xH) : Option xH :=
  (vc h 10 168 (f_X10_must 168 (1000004 : Nat) h)).bind fun h11 =>
  (vc h11 10 168 (f_X10_number 168 (1 : Int32) (12 : Int32) h11)).bind fun r12 =>
  (vc r12.2 10 168 (f_X10_begins 168 (1 : Int32) x r12.1 r12.2)).bind fun h13 =>
  (vc h13 10 168 (f_X10_ends 168 h13))
def h1G (h8 : xH) : Option xH :=
  (vc h8 10 168 (f_X10_number 168 (1 : Int32) (12 : Int32) h8)).bind fun r9 =>
  (vc r9.2 10 168 (f_X10_ends 168 r9.2)).bind fun h10 => h2F r9.1 h10
def h1F (h : xH) : Option xH := (vc h 10 168 (f_X10_must 168 (1000003 : Nat) h)).bind h1G
theorem m_begin1 {N M : Nat} : ∃ ξ, f_X10_begins 168 1 (Int32.ofNat N) (Int32.ofNat M) (mem ν) = some (mem ξ) ∧ MR ξ 1 (nB N M) ∧ Fr (FR 1) ν ξ := by
  have e : f_X10_begins 168 (Int32.ofNat 1) (Int32.ofNat N) (Int32.ofNat M) (mem ν) = some (mem (mbM ν 1 (Int32.ofNat N) (Int32.ofNat M))) := c_X10_begins mdOK_I (by omega)
  obtain ⟨a, b⟩ := mb_MR (μ := ν) (r := 1) (N := N) (M := M) (by omega)
  exact ⟨_, e, a, b⟩
theorem h2_er {N a q : Nat} (h : EM ν a q) : ∃ ξ, h2F (Int32.ofNat N) (mem ν) = some (mem ξ) ∧ Fr GX ν ξ ∧ EM ξ a q := by
  obtain ⟨ξ, e, -, f⟩ := m_begin1 (ν := ν) (N := N) (M := 1)
  have e : f_X10_begins 168 1 (Int32.ofNat N) 1 (mem ν) = some (mem ξ) := e
  have m := h.fr f (by unfold FR; omega) (by unfold FR; omega)
  refine ⟨ξ, ?_, f.mono fun _ _ z => z.G, m⟩
  simp only [h2F, ↓hvc (fun _ => vc_168), ↓hbind (m_must_no h.2.2), ↓hbind (m_num_no h.2.2), ↓hbind e, m_end_no m.2.2, vc_168]
theorem h1_er {a q : Nat} (h : EM ν a q) : ∃ ξ, h1G (mem ν) = some (mem ξ) ∧ Fr GX ν ξ ∧ EM ξ a q := by
  obtain ⟨ξ, e, f, m⟩ := h2_er (N := 1) h
  have e : h2F 1 (mem ν) = some (mem ξ) := e
  refine ⟨ξ, ?_, f, m⟩
  simp only [h1G, ↓hvc (fun _ => vc_168), ↓hbind (m_num_no h.2.2), ↓hbind (m_end_no h.2.2), e]
theorem m_head (hn : n ≤ 300) (hy : ∀ k, y k < 256) (h : MP ν n y 0) (hT : HT ν) : ∃ ξ, h1F (mem ν) = some (mem ξ) ∧ Fr GX ν ξ ∧ OM n y ξ (txHead n y) := by
  have l1 := skp_le (y := y) (Nat.zero_le n)
  have l2 := sme_le (y := y) l1.2
  unfold txHead
  by_cases z : isW y (skp n y 0) (sme n y (skp n y 0)) (wdW 0) = true
  · rw [if_pos z]
    obtain ⟨ν1, e1, r1, f1⟩ := m_must_ok hn hy (Nat.zero_le n) h hT.2.1 (j := 0) (by decide) z
    have e1 : f_X10_must 168 1000003 (mem ν) = some (mem ν1) := e1
    have T1 := hT.go (f1.mono fun _ _ z => z.F)
    have f1' : Fr GX ν ν1 := f1.mono fun _ _ z => z.X
    rcases q1 : num n y (sme n y (skp n y 0)) 1 12 with ⟨a, q⟩ | ⟨N, s, p1⟩
    · obtain ⟨ν2, e2, f2, v1, v2⟩ := m_num_er (lo := 1) (hi := 12) hn hy l2.2 r1 T1.2.1 (by omega) (by omega) q1
      have e2 : f_X10_number 168 1 12 (mem ν1) = some (Int32.ofNat 1, mem ν2) := e2
      have ne := num_er l2.2 q1
      have m2 : EM ν2 a q := EM.i v1 v2 ne.1 ne.2.1
      obtain ⟨ξ, e3, f3, m3⟩ := h2_er (N := 1) m2
      refine ⟨ξ, ?_, (f1'.trans f2).trans f3, m3⟩
      simp only [h1F, ↓hvc (fun _ => vc_168), ↓hbind e1, h1G, ↓hbind e2, ↓hbind (m_end_no m2.2.2), e3]
    · obtain ⟨-, -, -, N1, N12, -, -, hp1⟩ := num_ok l2.2 q1
      obtain ⟨ν2, e2, r2, -, f2⟩ := m_num_ok (lo := 1) (hi := 12) hn hy l2.2 r1 T1.2.1 (by omega) (by omega) q1
      have e2 : f_X10_number 168 1 12 (mem ν1) = some (Int32.ofNat N, mem ν2) := e2
      have T2 := T1.go f2
      have f2' : Fr GX ν1 ν2 := f2.mono fun _ _ z => z.X
      show ∃ ξ, _ ∧ _ ∧ OM n y ξ (if skp n y p1 < n ∧ y (skp n y p1) = 59 then _ else .er 1 (skp n y p1))
      by_cases x : skp n y p1 < n ∧ y (skp n y p1) = 59
      · rw [if_pos x]
        obtain ⟨ν3, e3, r3, f3⟩ := m_end_ok hn hy hp1 r2 T2.2.1 x.1 x.2
        have T3 := T2.go (f3.mono fun _ _ z => z.F)
        have f3' : Fr GX ν2 ν3 := f3.mono fun _ _ z => z.X
        have hp3 : skp n y p1 + 1 ≤ n := by omega
        have l3 := skp_le (y := y) hp3
        have l4 := sme_le (y := y) l3.2
        by_cases u : isW y (skp n y (skp n y p1 + 1)) (sme n y (skp n y (skp n y p1 + 1))) (wdW 1) = true
        · rw [if_pos u]
          obtain ⟨ν4, e4, r4, f4⟩ := m_must_ok hn hy hp3 r3 T3.2.1 (j := 1) (by decide) u
          have e4 : f_X10_must 168 1000004 (mem ν3) = some (mem ν4) := e4
          have T4 := T3.go (f4.mono fun _ _ z => z.F)
          have f4' : Fr GX ν3 ν4 := f4.mono fun _ _ z => z.X
          rcases q2 : num n y (sme n y (skp n y (skp n y p1 + 1))) 1 12 with ⟨a, q⟩ | ⟨M, s2, p2⟩
          · obtain ⟨ν5, e5, f5, v1, v2⟩ := m_num_er (lo := 1) (hi := 12) hn hy l4.2 r4 T4.2.1 (by omega) (by omega) q2
            have e5 : f_X10_number 168 1 12 (mem ν4) = some (Int32.ofNat 1, mem ν5) := e5
            have ne := num_er l4.2 q2
            have m5 : EM ν5 a q := EM.i v1 v2 ne.1 ne.2.1
            obtain ⟨ξ, e6, -, f6⟩ := m_begin1 (ν := ν5) (N := N) (M := 1)
            have m6 := m5.fr f6 (by unfold FR; omega) (by unfold FR; omega)
            refine ⟨ξ, ?_, ((((f1'.trans f2').trans f3').trans f4').trans f5).trans (f6.mono fun _ _ z => z.G), m6⟩
            simp only [h1F, ↓hvc (fun _ => vc_168), ↓hbind e1, h1G, ↓hbind e2, ↓hbind e3, h2F, ↓hbind e4, ↓hbind e5, ↓hbind e6, m_end_no m6.2.2, vc_168]
          · obtain ⟨-, -, -, M1, M12, -, -, hp2⟩ := num_ok l4.2 q2
            obtain ⟨ν5, e5, r5, -, f5⟩ := m_num_ok (lo := 1) (hi := 12) hn hy l4.2 r4 T4.2.1 (by omega) (by omega) q2
            have e5 : f_X10_number 168 1 12 (mem ν4) = some (Int32.ofNat M, mem ν5) := e5
            have T5 := T4.go f5
            obtain ⟨ν6, e6, b6, f6⟩ := m_begin1 (ν := ν5) (N := N) (M := M)
            have t6 : TM n y ν6 p2 (nB N M) false := ⟨r5.fr f6 (by unfold FR; omega) (by unfold FR; omega) (fun k => by unfold FR; omega), b6, by rw [(f6 _ _ (by unfold FR; omega)).1]; exact T5.1, by rw [(f6 _ _ (by unfold FR; omega)).1]; exact T5.2.1, by rw [(f6 _ _ (by unfold FR; omega)).1]; exact T5.2.2⟩
            obtain ⟨ξ, e7, f7, o7⟩ := m_lnEnd (i := 0) (R := .ok p2 (nB N M) false) hn hy ⟨Nat.zero_le _, hp2, nB_ok N1 N12 M1 M12⟩ t6
            refine ⟨ξ, ?_, (((((f1'.trans f2').trans f3').trans f4').trans (f5.mono fun _ _ z => z.X)).trans (f6.mono fun _ _ z => z.G)).trans f7, o7⟩
            simp only [h1F, ↓hvc (fun _ => vc_168), ↓hbind e1, h1G, ↓hbind e2, ↓hbind e3, h2F, ↓hbind e4, ↓hbind e5, ↓hbind e6, e7, vc_168]
        · have u' : isW y (skp n y (skp n y p1 + 1)) (sme n y (skp n y (skp n y p1 + 1))) (wdW 1) = false := by simpa using u
          rw [if_neg u]
          obtain ⟨ν4, e4, f4, v1, v2⟩ := m_must_er hn hy hp3 r3 T3.2.1 (j := 1) (by decide) u'
          have e4 : f_X10_must 168 1000004 (mem ν3) = some (mem ν4) := e4
          have m4 : EM ν4 1 (skp n y (skp n y p1 + 1)) := EM.i v1 v2 (by omega) (by omega)
          obtain ⟨ξ, e6, -, f6⟩ := m_begin1 (ν := ν4) (N := N) (M := 1)
          have e6 : f_X10_begins 168 1 (Int32.ofNat N) 1 (mem ν4) = some (mem ξ) := e6
          have m6 := m4.fr f6 (by unfold FR; omega) (by unfold FR; omega)
          refine ⟨ξ, ?_, (((f1'.trans f2').trans f3').trans f4).trans (f6.mono fun _ _ z => z.G), m6⟩
          simp only [h1F, ↓hvc (fun _ => vc_168), ↓hbind e1, h1G, ↓hbind e2, ↓hbind e3, h2F, ↓hbind e4, ↓hbind (m_num_no m4.2.2), ↓hbind e6, m_end_no m6.2.2, vc_168]
      · rw [if_neg x]
        obtain ⟨ν3, e3, f3, v1, v2⟩ := m_end_er hn hy hp1 r2 T2.2.1 x
        have m3 : EM ν3 1 (skp n y p1) := EM.i v1 v2 (by omega) (by omega)
        obtain ⟨ξ, e4, f4, m4⟩ := h2_er (N := N) m3
        refine ⟨ξ, ?_, ((f1'.trans f2').trans f3).trans f4, m4⟩
        simp only [h1F, ↓hvc (fun _ => vc_168), ↓hbind e1, h1G, ↓hbind e2, ↓hbind e3, e4]
  · have z' : isW y (skp n y 0) (sme n y (skp n y 0)) (wdW 0) = false := by simpa using z
    rw [if_neg z]
    obtain ⟨ν1, e1, f1, v1, v2⟩ := m_must_er hn hy (Nat.zero_le n) h hT.2.1 (j := 0) (by decide) z'
    have e1 : f_X10_must 168 1000003 (mem ν) = some (mem ν1) := e1
    have m1 : EM ν1 1 (skp n y 0) := EM.i v1 v2 (by omega) (by omega)
    obtain ⟨ξ, e2, f2, m2⟩ := h1_er m1
    refine ⟨ξ, ?_, f1.trans f2, m2⟩
    simp only [h1F, ↓hvc (fun _ => vc_168), ↓hbind e1, e2]
end Mx
