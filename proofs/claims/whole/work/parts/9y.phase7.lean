/-! THE CLASS: a seek; a phase; all phases -/
section Cr
variable {μ : MM} {n m : Nat} {Wt Tt : Int32} {E : Nat → Nat → Bool} {M : Nat → Nat} {lw lr : LA}
theorem SR.pr {ν : MM} {M' : Nat → Nat} {P : Nat → Nat → Prop} (h : SR μ n m Wt Tt E M) (f : Fr P μ ν) (hp : ∀ q i, q = 141 ∨ q = 145 → ¬ P q i) (p : PR ν 142 M') : SR ν n m Wt Tt E M' := by
  obtain ⟨⟨h1, h2, h3, h4⟩, h5, h6⟩ := h
  refine ⟨⟨?_, ?_, ?_, ?_⟩, fun w hw k => ?_, p⟩
  · rw [(f _ _ (hp _ _ (Or.inl rfl))).1]; exact h1
  · rw [(f _ _ (hp _ _ (Or.inl rfl))).1]; exact h2
  · rw [(f _ _ (hp _ _ (Or.inl rfl))).1]; exact h3
  · rw [(f _ _ (hp _ _ (Or.inl rfl))).1]; exact h4
  · rw [(f _ _ (hp _ _ (Or.inr rfl))).1]; exact h5 w hw k
theorem LyR.fr {ν : MM} {P : Nat → Nat → Prop} (h : LyR μ lw lr) (f : Fr P μ ν) (hp : ∀ q i, q = 152 ∨ q = 153 → ¬ P q i) : LyR ν lw lr :=
  ⟨fun w hw => by rw [(f _ _ (hp _ _ (Or.inl rfl))).1]; exact h.1 w hw, fun t ht => by rw [(f _ _ (hp _ _ (Or.inr rfl))).1]; exact h.2 t ht⟩
def FSe (q i : Nat) : Prop := FP 142 q i ∨ q = 154 ∨ q = 155 ∨ (q = 151 ∧ (i = 4 ∨ i = 8))
theorem c_seek (hS : SR μ n m Wt Tt E M) (hE : Eb E) (hM : Ms E M) (hL : LyR μ lw lr) {w : Nat} (hw : w < 12) (fw : M w = 12) {S : SB} (hs : ∀ k, hb (μ.1 151 4) k = S k) : ∃ ξ, Fr FSe μ ξ ∧ (∀ i, hb (ξ.1 151 4) i = (dsN E M lw lr w S).1 i) ∧
    (((dsN E M lw lr w S).2 = none ∧ f_X4_seek 151 141 (Int32.ofNat w) (mem μ) = some (0, mem ξ) ∧ PR ξ 142 M ∧ ξ.1 151 8 = μ.1 151 8) ∨
    ∃ p, (dsN E M lw lr w S).2 = some p ∧ f_X4_seek 151 141 (Int32.ofNat w) (mem μ) = some (1, mem ξ) ∧ PR ξ 142 (updP M p) ∧ ξ.1 151 8 = Int32.ofNat (2 * p.length)) := by
  have h11 : sz M ≤ 11 := by
    have := sz_give hw (show 0 < 12 by decide) fw
    have := sz_le (up M w 0)
    omega
  have e0 : sI (mem μ) 154 0 (Int32.ofNat w) = some (mem (st μ 154 0 (Int32.ofNat w))) := sI_154 (i := 0) (by decide)
  obtain ⟨ν, hd⟩ : ∃ z, z = st μ 154 0 (Int32.ofNat w) := ⟨_, rfl⟩
  have f0 : Fr FSk μ ν := by rw [hd]; exact (Fr.refl _ _).st (Or.inl rfl)
  rw [← hd] at e0
  have u := un_le S
  obtain ⟨ξ, k, f1, s1, _, k1, r⟩ := c_sk hS hE hM hL h11 12 w S 0 0 ν (un_le S) hw f0 (fun k => by rw [hd, st_ne (Or.inl (by omega))]; exact hs k) (by rw [hd]; exact st_same _ _ _ _) (Nat.zero_le _) (by omega)
  have px : PR ξ 142 M := hS.2.2.fr f1 (fun i z => by unfold FSk at z; omega) (fun i z => by unfold FSk at z; omega)
  rcases r with ⟨n1, _, n3⟩ | ⟨p, n1, n2, n3, n4, n5⟩
  · refine ⟨ξ, f1.mono fun q i z => by unfold FSk at z; unfold FSe; omega, s1, Or.inl ⟨n1, ?_, px, (f1 _ _ (by unfold FSk; omega)).1⟩⟩
    have e : f_X4_seek_L12 f_X4_seek_J93 f_X4_seek_J143 5000 151 141 0 0 (mem ν) = f_X4_seek_L12 f_X4_seek_J93 f_X4_seek_J143 (4999 - k + 1) 151 141 (Int32.ofNat 0 + -1) (Int32.ofNat (0 + k)) (mem ξ) := by
      have := n3 (4999 - k + 1)
      rw [show 4999 - k + 1 + k = 5000 by omega] at this
      exact this
    have c1 : (Int32.ofNat (0 + k) ≥ 100) = False := by rw [lge_100 (by omega)]; exact eq_false (by omega)
    have c2 : (Int32.ofNat 0 + (-1) < 0) = True := eq_true (by decide)
    simp only [f_X4_seek, ↓hbind gR_151_2, ↓hbind e0, e]
    simp only [f_X4_seek_L12, c1, c2, ↓reduceIte, f_X4_seek_J143, true_or]
  · obtain ⟨p1, p2⟩ := dsN_path hE 12 w S p u n1
    obtain ⟨_, q2, _, _⟩ := PV.doit hE hM fw p1 p2
    obtain ⟨ζ, e2, f2, g2, l2⟩ := c_follow4 (dep := p.length - 1) (by omega) p 0 ξ M (by omega) n2 px
    have e : f_X4_seek_L12 f_X4_seek_J93 f_X4_seek_J143 5000 151 141 0 0 (mem ν) = f_X4_seek_J93 151 141 (Int32.ofNat (p.length - 1)) (mem ξ) := by
      have := n5 (5000 - k)
      rw [show 5000 - k + k = 5000 by omega, show 0 + p.length - 1 = p.length - 1 by omega] at this
      exact this
    have ef : f_X4_follow_L2 f_X4_follow_J38 5000 151 141 (Int32.ofNat (p.length - 1)) 0 (mem ξ) = some (mem ζ) := by
      have := e2 (5000 - p.length - 1)
      rw [show p.length + 1 + (5000 - p.length - 1) = 5000 by omega] at this
      exact this
    have eg : f_X4_follow 151 141 (Int32.ofNat (p.length - 1)) (mem ξ) = some (mem ζ) := by
      simp only [f_X4_follow, ef]
    rw [q2] at g2
    refine ⟨ζ, (f1.mono fun q i z => by unfold FSk at z; unfold FSe; omega).trans (f2.mono fun q i z => by unfold FP at z; unfold FSe FP; omega), fun i => ?_, Or.inr ⟨p, n1, ?_, g2, ?_⟩⟩
    · rw [(f2 _ _ (by unfold FP; omega)).1]; exact s1 i
    · simp only [f_X4_seek, ↓hbind gR_151_2, ↓hbind e0, e, f_X4_seek_J93, ↓hvc (fun _ => vc_151), ↓hbind eg, ↓reduceIte, or_true]
    · rw [l2, show p.length - 1 + 1 = p.length by omega]
def FPh (q i : Nat) : Prop := FP 142 q i ∨ q = 154 ∨ q = 155 ∨ (q = 151 ∧ (i = 4 ∨ i = 6 ∨ i = 8))
theorem c_ph (hE : Eb E) (hn : n ≤ 12) {M0 : Nat → Nat} {c0 : Nat} : ∀ (k w : Nat) (ν : MM) (s : PS), w + k = n → SR ν n m Wt Tt E s.1 → LyR ν lw lr → (∀ i, hb (ν.1 151 4) i = s.2.1 i) → ν.1 151 6 = Int32.ofNat s.2.2.1 → ν.1 151 8 = Int32.ofNat s.2.2.2 → PfI E M0 lw c0 w s → ∃ ξ, (∀ f K x2, f_X4_run_L60 K (k + 1 + f) 151 141 x2 (Int32.ofNat w) (mem ν) = K 151 141 x2 (mem ξ)) ∧ Fr FPh ν ξ ∧ SR ξ n m Wt Tt E (phF E lw lr k w s).1 ∧ ξ.1 151 6 = Int32.ofNat (phF E lw lr k w s).2.2.1 ∧ ξ.1 151 8 = Int32.ofNat (phF E lw lr k w s).2.2.2
  | 0, w, ν, s, h, hS, hL, h4, h6, h8, hI => by
    refine ⟨ν, fun f K x2 => ?_, Fr.refl _ _, hS, h6, h8⟩
    have e6 : ν.1 141 6 = Int32.ofNat n := hS.1.1
    have c : (Int32.ofNat w ≥ Int32.ofNat n) = True := by rw [oN_ge (by omega) (by omega)]; exact eq_true (by omega)
    rw [show 0 + 1 + f = f + 1 by omega]
    simp only [f_X4_run_L60, ↓hbind gI_141_6, e6, c, ↓reduceIte]
  | k + 1, w, ν, s, h, hS, hL, h4, h6, h8, hI => by
    have e6 : ν.1 141 6 = Int32.ofNat n := hS.1.1
    have c : (Int32.ofNat w ≥ Int32.ofNat n) = False := by rw [oN_ge (by omega) (by omega)]; exact eq_false (by omega)
    have hw : w < 12 := by omega
    have el := c_lW (μ := ν) hw
    rw [hL.1 w hw] at el
    have nx := ph1_I (lt := lr) hE hI
    show ∃ ξ, _ ∧ _ ∧ SR ξ n m Wt Tt E (phF E lw lr k (w + 1) (ph1 E lw lr w s)).1 ∧ ξ.1 151 6 = Int32.ofNat (phF E lw lr k (w + 1) (ph1 E lw lr w s)).2.2.1 ∧ ξ.1 151 8 = Int32.ofNat (phF E lw lr k (w + 1) (ph1 E lw lr w s)).2.2.2
    by_cases z : lw w = 0
    · have z' : (lw w = 0) = True := eq_true z
      obtain ⟨ζ, f1, s1, r⟩ := c_seek hS hE hI.1 hL hw (hI.2.2.2.1 w (Nat.le_refl w) z) h4
      have hL1 : LyR ζ lw lr := hL.fr f1 fun q i a b => by unfold FSe FP at b; omega
      have f1' : Fr FPh ν ζ := f1.mono fun q i z => by unfold FSe FP at z; unfold FPh FP; omega
      rcases r with ⟨n1, n2, n3, n4⟩ | ⟨p, n1, n2, n3, n4⟩
      · have ep : ph1 E lw lr w s = (s.1, (dsN E s.1 lw lr w s.2.1).1, s.2.2.1, s.2.2.2) := by unfold ph1; rw [if_pos z, n1]
        rw [ep] at nx ⊢
        obtain ⟨ξ, e2, f2, r2⟩ := c_ph hE hn k (w + 1) ζ (s.1, (dsN E s.1 lw lr w s.2.1).1, s.2.2.1, s.2.2.2) (by omega) (hS.pr f1 (fun q i a b => by unfold FSe FP at b; omega) n3) hL1 s1 (by rw [(f1 _ _ (by unfold FSe FP; omega)).1]; exact h6) (by rw [n4]; exact h8) nx
        refine ⟨ξ, fun f K x2 => ?_, f1'.trans f2, r2⟩
        rw [show k + 1 + 1 + f = k + 1 + f + 1 by omega, ← e2 f K x2]
        simp only [f_X4_run_L60, ↓hbind gI_141_6, e6, c, ↓reduceIte, ↓hvc (fun _ => vc_151), ↓hbind el, z', ↓hbind n2, f_X4_run_J95, lt_go, i_succ]
      · have ep : ph1 E lw lr w s = (updP s.1 p, (dsN E s.1 lw lr w s.2.1).1, s.2.2.1 + 1, 2 * p.length) := by unfold ph1; rw [if_pos z, n1]
        rw [ep] at nx ⊢
        obtain ⟨ζ2, hd⟩ : ∃ x, x = st ζ 151 6 (Int32.ofNat (s.2.2.1 + 1)) := ⟨_, rfl⟩
        have f3 : Fr (fun q i => q = 151 ∧ i = 6) ζ ζ2 := by rw [hd]; exact (Fr.refl _ _).st ⟨rfl, rfl⟩
        have e6' : ζ.1 151 6 = Int32.ofNat s.2.2.1 := by rw [(f1 _ _ (by unfold FSe FP; omega)).1]; exact h6
        have f13 : Fr FPh ν ζ2 := f1'.trans (f3.mono fun q i z => by unfold FPh; omega)
        obtain ⟨ξ, e2, f2, r2⟩ := c_ph hE hn k (w + 1) ζ2 (updP s.1 p, (dsN E s.1 lw lr w s.2.1).1, s.2.2.1 + 1, 2 * p.length) (by omega) (hS.pr f13 (fun q i a b => by unfold FPh FP at b; omega) (n3.fr f3 (fun i z => by omega) (fun i z => by omega))) (hL1.fr f3 fun q i a b => by omega) (fun i => by rw [(f3 _ _ (by omega)).1]; exact s1 i) (by rw [hd]; exact st_same _ _ _ _) (by rw [(f3 _ _ (by omega)).1]; exact n4) nx
        refine ⟨ξ, fun f K x2 => ?_, f13.trans f2, r2⟩
        rw [show k + 1 + 1 + f = k + 1 + f + 1 by omega, ← e2 f K x2, hd]
        simp only [f_X4_run_L60, ↓hbind gI_141_6, e6, c, ↓reduceIte, ↓hvc (fun _ => vc_151), ↓hbind el, z', ↓hbind n2, z_1, ↓hbind gI_151_6, e6', ↓hbind pI_151_6, f_X4_run_J95, lt_go, i_succ]
    · have z' : (lw w = 0) = False := eq_false z
      have ep : ph1 E lw lr w s = s := by unfold ph1; rw [if_neg z]
      rw [ep] at nx ⊢
      obtain ⟨ξ, e2, f2, r2⟩ := c_ph hE hn k (w + 1) ν s (by omega) hS hL h4 h6 h8 nx
      refine ⟨ξ, fun f K x2 => ?_, f2, r2⟩
      rw [show k + 1 + 1 + f = k + 1 + f + 1 by omega, ← e2 f K x2]
      simp only [f_X4_run_L60, ↓hbind gI_141_6, e6, c, ↓reduceIte, ↓hvc (fun _ => vc_151), ↓hbind el, z', f_X4_run_J95, lt_go, i_succ]
def FRn (q i : Nat) : Prop := FP 142 q i ∨ (152 ≤ q ∧ q ≤ 155) ∨ (q = 151 ∧ 4 ≤ i)
/-- what holds between phases -/
def RsI (E : Nat → Nat → Bool) (s : RS) : Prop := Ms E s.1 ∧ sz s.1 = s.2.2.1 ∧ s.2.1 ≤ s.2.2.1
theorem nxt_I (hE : Eb E) (hn : ∀ w t, E w t = true → w < n) {s : RS} (hI : RsI E s) (hL : LAY E s.1 Wt lw lr) : RsI E (nxt E n lw lr s) ∧ s.2.2.1 + 1 ≤ (nxt E n lw lr s).2.2.1 := by
  obtain ⟨i1, i2, i3⟩ := hI
  obtain ⟨K, hK, ⟨j1, j2, j3⟩, _⟩ := hL.J
  have hi : PfI E s.1 lw s.2.2.1 0 (s.1, fun _ => false, s.2.2.1, s.2.2.2.2) := ⟨i1, Nat.le_refl _, rfl, fun v _ z => ((j1 v).mp z).2, fun v _ => Iff.rfl, fun _ => rfl⟩
  have r := phF_I (lt := lr) hE n 0 hi
  have mo := phF_more (c := s.2.2.1) (l := s.2.2.2.2) hE i1 hL hn
  refine ⟨⟨r.1, ?_, ?_⟩, mo⟩
  · have := r.2.2.1
    show sz (phF E lw lr n 0 (s.1, fun _ => false, s.2.2.1, s.2.2.2.2)).1 = (phF E lw lr n 0 (s.1, fun _ => false, s.2.2.1, s.2.2.2.2)).2.2.1
    omega
  · show s.2.1 + 1 ≤ (phF E lw lr n 0 (s.1, fun _ => false, s.2.2.1, s.2.2.2.2)).2.2.1
    omega
def RsC (ν : MM) (s : RS) : Prop := ν.1 151 5 = Int32.ofNat s.2.1 ∧ ν.1 151 6 = Int32.ofNat s.2.2.1 ∧ ν.1 151 7 = Int32.ofNat s.2.2.2.1 ∧ ν.1 151 8 = Int32.ofNat s.2.2.2.2
theorem c_rn (hE : Eb E) (h12 : n ≤ 12) (hn : ∀ w t, E w t = true → w < n) (hW : ∀ w, hb Wt w = true → w < 12) : ∀ (D : Nat) (s : RS) (ν : MM), 12 ≤ sz s.1 + D → RsI E s → SR ν n m Wt Tt E s.1 → RsC ν s → ∃ d s' ξ, (∀ f, f_X4_run_L29 f_X4_run_J126 (D + 1 + f) 151 141 (Int32.ofNat s.2.1) (mem ν) = some (mem ξ)) ∧ Fr FRn ν ξ ∧ SR ξ n m Wt Tt E s'.1 ∧ RsC ξ s' ∧ Rr E n Wt d s s' := by
  intro D
  induction D with
  | zero =>
    intro s ν h12 hI hS hc
    have sl := sz_le s.1
    obtain ⟨ζ, b, e1, f1, r⟩ := c_makeLayers hS hE hW
    have f1' : Fr FRn ν ζ := f1.mono fun q i z => by unfold FLy at z; unfold FRn; omega
    have c1 : (Int32.ofNat s.2.1 > 12) = False := by rw [show (12 : Int32) = Int32.ofNat 12 from rfl, oN_gt (by have := hI.2.1; have := hI.2.2; omega) (by omega)]; exact eq_false (by have := hI.2.1; have := hI.2.2; omega)
    rcases r with ⟨rfl, lw, lr, l1, l2⟩ | ⟨rfl, l1⟩
    · obtain ⟨⟨_, a, _⟩, b⟩ := nxt_I hE hn hI l1
      have := sz_le (nxt E n lw lr s).1
      have := hI.2.1
      omega
    · refine ⟨0, s, ζ, fun f => ?_, f1', hS.fly f1 (fun q i a b z => by unfold FLy at z; omega), ⟨?_, ?_, ?_, ?_⟩, l1, rfl⟩
      · rw [show 0 + 1 + f = f + 1 by omega]
        simp only [f_X4_run_L29, c1, ↓reduceIte, ↓hvc (fun _ => vc_151), ↓hbind e1, f_X4_run_J126]
      · rw [(f1 _ _ (by unfold FLy; omega)).1]; exact hc.1
      · rw [(f1 _ _ (by unfold FLy; omega)).1]; exact hc.2.1
      · rw [(f1 _ _ (by unfold FLy; omega)).1]; exact hc.2.2.1
      · rw [(f1 _ _ (by unfold FLy; omega)).1]; exact hc.2.2.2
  | succ D ih =>
    intro s ν h12' hI hS hc
    have sl := sz_le s.1
    obtain ⟨ζ, b, e1, f1, r⟩ := c_makeLayers hS hE hW
    have f1' : Fr FRn ν ζ := f1.mono fun q i z => by unfold FLy at z; unfold FRn; omega
    have c1 : (Int32.ofNat s.2.1 > 12) = False := by rw [show (12 : Int32) = Int32.ofNat 12 from rfl, oN_gt (by have := hI.2.1; have := hI.2.2; omega) (by omega)]; exact eq_false (by have := hI.2.1; have := hI.2.2; omega)
    have k5 : ζ.1 151 5 = Int32.ofNat s.2.1 := by rw [(f1 _ _ (by unfold FLy; omega)).1]; exact hc.1
    have k6 : ζ.1 151 6 = Int32.ofNat s.2.2.1 := by rw [(f1 _ _ (by unfold FLy; omega)).1]; exact hc.2.1
    have k7 : ζ.1 151 7 = Int32.ofNat s.2.2.2.1 := by rw [(f1 _ _ (by unfold FLy; omega)).1]; exact hc.2.2.1
    have k8 : ζ.1 151 8 = Int32.ofNat s.2.2.2.2 := by rw [(f1 _ _ (by unfold FLy; omega)).1]; exact hc.2.2.2
    have hS1 := hS.fly f1 (fun q i a b z => by unfold FLy at z; omega)
    rcases r with ⟨rfl, lw, lr, l1, l2⟩ | ⟨rfl, l1⟩
    · obtain ⟨nI, nm⟩ := nxt_I hE hn hI l1
      obtain ⟨K, hK, ⟨j1, j2, j3⟩, _⟩ := l1.J
      have hi : PfI E s.1 lw s.2.2.1 0 (s.1, fun _ => false, s.2.2.1, s.2.2.2.2) := ⟨hI.1, Nat.le_refl _, rfl, fun v _ z => ((j1 v).mp z).2, fun v _ => Iff.rfl, fun _ => rfl⟩
      obtain ⟨ζ2, hd⟩ : ∃ x, x = st (st ζ 151 5 (Int32.ofNat (s.2.1 + 1))) 151 4 0 := ⟨_, rfl⟩
      have f2 : Fr (fun q i => q = 151 ∧ (i = 4 ∨ i = 5)) ζ ζ2 := by rw [hd]; exact ((Fr.refl _ _).st ⟨rfl, Or.inr rfl⟩).st ⟨rfl, Or.inl rfl⟩
      have k5' : ζ2.1 151 5 = Int32.ofNat (s.2.1 + 1) := by rw [hd, st_ne (Or.inr (by omega))]; exact st_same _ _ _ _
      have k4' : ζ2.1 151 4 = 0 := by rw [hd]; exact st_same _ _ _ _
      obtain ⟨η, e3, f3, s3, a6, a8⟩ := c_ph (lw := lw) (lr := lr) hE h12 n 0 ζ2 (s.1, fun _ => false, s.2.2.1, s.2.2.2.2) (by omega) (hS1.fly f2 (fun q i a b z => by omega)) (l2.fr f2 fun q i a b => by omega) (fun i => by rw [k4', hb_zero]) (by rw [(f2 _ _ (by omega)).1]; exact k6) (by rw [(f2 _ _ (by omega)).1]; exact k8) hi
      have k7' : η.1 151 7 = Int32.ofNat s.2.2.2.1 := by rw [(f3 _ _ (by unfold FPh FP; omega)).1, (f2 _ _ (by omega)).1]; exact k7
      have k5'' : η.1 151 5 = Int32.ofNat (s.2.1 + 1) := by rw [(f3 _ _ (by unfold FPh FP; omega)).1]; exact k5'
      obtain ⟨η2, hd2⟩ : ∃ x, x = st η 151 7 (Int32.ofNat (nxt E n lw lr s).2.2.2.1) := ⟨_, rfl⟩
      have f4 : Fr (fun q i => q = 151 ∧ i = 7) η η2 := by rw [hd2]; exact (Fr.refl _ _).st ⟨rfl, rfl⟩
      have rc : RsC η2 (nxt E n lw lr s) := ⟨by rw [(f4 _ _ (by omega)).1]; exact k5'', by rw [(f4 _ _ (by omega)).1]; exact a6, by rw [hd2]; exact st_same _ _ _ _, by rw [(f4 _ _ (by omega)).1]; exact a8⟩
      obtain ⟨d, s', ξ, e5, f5, s5, c5, r5⟩ := ih (nxt E n lw lr s) η2 (by have := hI.2.1; have := nI.2.1; omega) nI (s3.fly f4 (fun q i a b z => by omega)) rc
      have ff : Fr FRn ν η2 := ((f1'.trans (f2.mono fun q i z => by unfold FRn; omega)).trans (f3.mono fun q i z => by unfold FPh FP at z; unfold FRn FP; omega)).trans (f4.mono fun q i z => by unfold FRn; omega)
      refine ⟨d + 1, s', ξ, fun f => ?_, ff.trans f5, s5, c5, lw, lr, l1, r5⟩
      have e3' : ∀ K x2, f_X4_run_L60 K 5000 151 141 x2 0 (mem ζ2) = K 151 141 x2 (mem η) := fun K x2 => by
        have := e3 (5000 - (n + 1)) K x2
        rw [show n + 1 + (5000 - (n + 1)) = 5000 by omega] at this
        exact this
      rw [show D + 1 + 1 + f = D + 1 + f + 1 by omega, ← e5 f]
      show _ = f_X4_run_L29 f_X4_run_J126 (D + 1 + f) 151 141 (Int32.ofNat (s.2.1 + 1)) (mem η2)
      rw [hd2]
      rw [hd] at e3'
      by_cases z : s.2.1 = 0
      · have z' : (Int32.ofNat s.2.1 = 0) = True := by rw [z]; exact eq_true rfl
        have e7 : (nxt E n lw lr s).2.2.2.1 = (phF E lw lr n 0 (s.1, fun _ => false, s.2.2.1, s.2.2.2.2)).2.2.1 := if_pos z
        rw [e7]
        simp only [f_X4_run_L29, c1, ↓reduceIte, ↓hvc (fun _ => vc_151), ↓hbind e1, z_1, ↓hbind gI_151_5, k5, ↓hbind pI_151_5, ↓hbind pI_151_4, i_succ, e3', f_X4_run_J101, z', ↓hbind gI_151_6, a6, f_X4_run_J117, ↓hbind pI_151_7, lt_go]
      · have z' : (Int32.ofNat s.2.1 = 0) = False := by rw [leq_0 (by have := hI.2.1; have := hI.2.2; omega)]; exact eq_false z
        have e7 : (nxt E n lw lr s).2.2.2.1 = s.2.2.2.1 := if_neg z
        rw [e7]
        simp only [f_X4_run_L29, c1, ↓reduceIte, ↓hvc (fun _ => vc_151), ↓hbind e1, z_1, ↓hbind gI_151_5, k5, ↓hbind pI_151_5, ↓hbind pI_151_4, i_succ, e3', f_X4_run_J101, z', ↓hbind gI_151_7, k7', f_X4_run_J117, ↓hbind pI_151_7, lt_go]
    · refine ⟨0, s, ζ, fun f => ?_, f1', hS1, ⟨k5, k6, k7, k8⟩, l1, rfl⟩
      rw [show D + 1 + 1 + f = D + 1 + f + 1 by omega]
      simp only [f_X4_run_L29, c1, ↓reduceIte, ↓hvc (fun _ => vc_151), ↓hbind e1, f_X4_run_J126]
theorem c_run (hS : SR μ n m Wt Tt E M) (hE : Eb E) (h12 : n ≤ 12) (hn : ∀ w t, E w t = true → w < n) (hW : ∀ w, hb Wt w = true → w < 12) : ∃ d s' ξ, f_X4_run 151 141 (mem μ) = some (mem ξ) ∧ Fr FRn μ ξ ∧ SR ξ n m Wt Tt E s'.1 ∧ RsC ξ s' ∧ Rr E n Wt d (fun _ => 12, 0, 0, 0, 0) s' := by
  obtain ⟨ν, e1, p1, f1⟩ := c_pclear (μ := μ) pr142
  obtain ⟨ζ, hd⟩ : ∃ x, x = st (st (st (st ν 151 5 0) 151 6 0) 151 7 0) 151 8 0 := ⟨_, rfl⟩
  have f2 : Fr (fun q i => q = 151 ∧ 5 ≤ i) ν ζ := by rw [hd]; exact ((((Fr.refl _ _).st ⟨rfl, by omega⟩).st ⟨rfl, by omega⟩).st ⟨rfl, by omega⟩).st ⟨rfl, by omega⟩
  have s2 := (hS.pr f1 (fun q i a z => by unfold FP at z; omega) p1).fly f2 (fun q i a b z => by omega)
  have rc : RsC ζ ((fun _ => 12, 0, 0, 0, 0) : RS) := by
    rw [hd]
    refine ⟨?_, ?_, ?_, ?_⟩
    · rw [st_ne (Or.inr (by omega)), st_ne (Or.inr (by omega)), st_ne (Or.inr (by omega)), st_same]; rfl
    · rw [st_ne (Or.inr (by omega)), st_ne (Or.inr (by omega)), st_same]; rfl
    · rw [st_ne (Or.inr (by omega)), st_same]; rfl
    · rw [st_same]; rfl
  obtain ⟨d, s', ξ, e, f, s, c, r⟩ := c_rn hE h12 hn hW 12 (fun _ => 12, 0, 0, 0, 0) ζ (by omega) ⟨e_Ms E, sz_e, Nat.le_refl 0⟩ s2 rc
  have e : f_X4_run_L29 f_X4_run_J126 5000 151 141 0 (mem ζ) = some (mem ξ) := e 4987
  refine ⟨d, s', ξ, ?_, ((f1.mono fun q i z => Or.inl z).trans (f2.mono fun q i z => Or.inr (Or.inr ⟨z.1, by omega⟩))).trans f, s, c, r⟩
  rw [hd] at e
  simp only [f_X4_run, ↓hbind gR_141_0, ↓hvc (fun _ => pr_v pr142), ↓hbind e1, ↓hbind pI_151_5, ↓hbind pI_151_6, ↓hbind pI_151_7, ↓hbind pI_151_8, e]
end Cr
