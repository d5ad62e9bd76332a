/-! OPERATIONS: text -/
noncomputable def ST (A : AS) (R : Rs) (x : Int32 ⊕ String) (A' : AS) : Prop := match R with
  | .inl (_, B, _) => ∃ B', Kp B B' ∧ x = .inl (Int32.ofNat (sz (bM B'))) ∧ A' = mkA B' [] 0 (aY A) (-1) (aX A) (aZ A)
  | .inr (a, q) => x = .inl (Int32.ofNat a - 10) ∧ A' = mkA (aB A) (aH A) 0 (aY A) (Int32.ofNat q) (aX A) (aZ A)
theorem ST.uq {A : AS} {R : Rs} : UQ (ST A R) := fun x A' y A'' h h' => by
  rcases R with ⟨p, B, k⟩ | ⟨a, q⟩
  · obtain ⟨B1, k1, e1, f1⟩ := h
    obtain ⟨B2, k2, e2, f2⟩ := h'
    have e := k1.uniq k2
    subst e
    exact ⟨e1.trans e2.symm, f1.trans f2.symm⟩
  · exact ⟨h.1.trans h'.1.symm, h.2.trans h'.2.symm⟩
def FTe (q i : Nat) : Prop := q = 139 ∨ FB 9 q i
section O30
variable {T : MM → Bk → Prop} {μ : MM} {A : AS}
/-- a text that is none: nothing has changed but the tape and the fault -/
theorem RC.te (hT : TF T) (h : RC T μ A) {ν : MM} (f : Fr FTe μ ν) {q : Int32} (h1 : ν.1 139 1 = 0) (h2 : ν.1 139 2 = q) : RC T ν (mkA (aB A) (aH A) 0 (aY A) q (aX A) (aZ A)) := by
  obtain ⟨k1, k2, -, -, k6, k7, k8⟩ := h
  refine ⟨k1.fr f fun q i a c z => by unfold FTe FB at z; omega, k2.fr f fun q i a z => by unfold FH at a; unfold FTe FB at z; omega, ⟨h1, fun k hk => absurd hk (Nat.not_lt_zero _)⟩, h2, ?_, ?_, ?_⟩
  · rw [(f _ _ (by unfold FTe FB; omega)).1]; exact k6
  · rw [(f _ _ (by unfold FTe FB; omega)).1]; exact k7
  · rw [(f _ _ (by unfold FTe FB; omega)).1]
    exact k8.imp id fun z => ⟨z.1, hT _ _ _ (fun i => f _ _ (by unfold FTe FB; omega)) (fun i => (f _ _ (by unfold FTe FB; omega)).1) z.2⟩
def FTk (q i : Nat) : Prop := FTe q i ∨ FB 1 q i ∨ FS q i ∨ (q = 17 ∧ i = 2) ∨ (q = 0 ∧ i = 9)
theorem RC.tk (h : RC T μ A) {ν : MM} {B : Bk} (f : Fr FTk μ ν) (hb1 : BC ν 1 B) (h17 : ν.1 17 2 = 0) (h9 : ν.1 0 9 = 0) (h1 : ν.1 139 1 = 0) (h2 : ν.1 139 2 = -1) : RC T ν (mkA B [] 0 (aY A) (-1) (aX A) (aZ A)) := by
  obtain ⟨-, ⟨x, x15, hx, -⟩, -, -, k6, k7, -⟩ := h
  refine ⟨hb1, ⟨x, x15, ?_, h17, Nat.zero_le _, fun j B hj => by cases hj⟩, ⟨h1, fun k hk => absurd hk (Nat.not_lt_zero _)⟩, h2, ?_, ?_, Or.inl h9⟩
  · rw [(f _ _ (by unfold FTk FTe FB FS; omega)).1]; exact hx
  · rw [(f _ _ (by unfold FTk FTe FB FS; omega)).1]; exact k6
  · rw [(f _ _ (by unfold FTk FTe FB FS; omega)).1]; exact k7
theorem AOK.te (h : AOK A) {p : Int32} : AOK (mkA (aB A) (aH A) 0 (aY A) p (aX A) (aZ A)) := ⟨h.1, h.2.1, Nat.zero_le _, h.2.2.2⟩
theorem AOK.tk (h : AOK A) {B : Bk} (hB : BOK B) {p : Int32} : AOK (mkA B [] 0 (aY A) p (aX A) (aZ A)) := ⟨hB, fun C hC => (by cases hC), Nat.zero_le _, h.2.2.2⟩
/-- the class's -/
theorem c_text (hT : TF T) (hA : AOK A) (hC : RC T μ A) {n : Nat} (hn : n ≤ aN A) : CX T μ (f_X9_text 0 (Int32.ofNat n) (mem μ)) (ST A (txAll n (aY A))) := by
  have hy := hA.2.2.2
  have n300 : n ≤ 300 := Nat.le_trans hn hA.2.2.1
  have a300 : aN A ≤ 300 := hA.2.2.1
  have p6 : prOK shI 6 = true := bk_pr bk1
  obtain ⟨ξ, a, e1, f1, t1, o1⟩ := c_read (μ := μ) (y := aY A) n300 hy (fun k hk => hC.2.2.1.2 k (by omega))
  have f1 : Fr FTe μ ξ := f1
  have ok := lines_ok (n := n) (y := aY A) (n + 1) (i := 0) (txHead_ok (n := n) (y := aY A))
  have ok : ROK n 0 (txAll n (aY A)) := ok
  have c1 : (Int32.ofNat n < 0) = False := oN_l0 (by omega)
  have c2 : (Int32.ofNat n > Int32.ofNat (aN A)) = False := by rw [oN_gt (by omega) (by omega)]; exact eq_false (by omega)
  have g1 : μ.1 139 1 = Int32.ofNat (aN A) := hC.2.2.1.1
  have go : f_X9_text 0 (Int32.ofNat n) (mem μ) = f_X9_text_J21 0 (Int32.ofNat n) 0 1 (mem μ) := by
    simp only [f_X9_text, c1, ↓reduceIte, ↓hbind gR_0_3, ↓hbind gI_139_1, g1, c2]
  rw [go]
  cases hR : txAll n (aY A) with
  | inr aq =>
    obtain ⟨b, q⟩ := aq
    rw [hR] at o1 ok
    obtain ⟨ea, o2⟩ := o1
    obtain ⟨b1, b5, -⟩ := ok
    have c3 : (Int32.ofNat a = 0) = False := by rw [leq_0 (by omega)]; exact eq_false (by omega)
    refine ⟨_, ξ, _, ?_, f1.mono fun q i z => by unfold FTe FB at z; unfold CL; omega, hC.te hT f1 t1 o2, hA.te, rfl, rfl⟩
    rw [← ea]
    simp only [f_X9_text_J21, ↓hvc (fun _ => vc_0), ↓hbind c_da1, ↓thr_ok, ↓hbind gR_0_3, ↓hbind gR_0_1, ↓hvc (fun _ => vc_139), ↓hbind e1, c3, ↓reduceIte]
  | inl pBk =>
    obtain ⟨p, B, k⟩ := pBk
    rw [hR] at o1 ok
    obtain ⟨ea, o2, o3⟩ := o1
    have hB : BOK B := ok.2.2
    have c3 : (Int32.ofNat a = 0) = True := by rw [ea]; exact eq_true rfl
    obtain ⟨ν1, e2, b2, f2⟩ := c_bcopy (b := 1) bk1 bk9 (by omega) o2
    obtain ⟨ν2, hd⟩ : ∃ x, x = st (st ν1 17 2 0) 0 9 0 := ⟨_, rfl⟩
    have f3 : Fr (fun q i => (q = 17 ∧ i = 2) ∨ (q = 0 ∧ i = 9)) ν1 ν2 := by rw [hd]; exact ((Fr.refl _ _).st (Or.inl ⟨rfl, rfl⟩)).st (Or.inr ⟨rfl, rfl⟩)
    have v17 : ν2.1 17 2 = 0 := by rw [hd, st_ne (Or.inl (by omega)), st_same]
    have v09 : ν2.1 0 9 = 0 := by rw [hd, st_same]
    have b3 : BC ν2 1 B := b2.fr f3 fun q i a c z => by omega
    obtain ⟨ν3, B', e4, b4, k4, f4⟩ := c_keepUp b3 hB
    have hB' := k4.ok hB
    have ff : Fr FTk μ ν3 := (((f1.mono fun q i z => Or.inl z).trans (f2.mono fun q i z => Or.inr (Or.inl z))).trans (f3.mono fun q i z => z.elim (fun y => Or.inr (Or.inr (Or.inr (Or.inl y)))) fun y => Or.inr (Or.inr (Or.inr (Or.inr y))))).trans (f4.mono fun q i z => z.elim (fun y => Or.inr (Or.inr (Or.inl y))) fun y => Or.inr (Or.inl y))
    have es := c_size (μ := ν3) p6 b4.2.2.2.2.2
    have ez : pZ (mem (st ν1 17 2 0)) 9 0 9 0 = some (mem (st (st ν1 17 2 0) 0 9 0)) := pZ_m (by decide +kernel) (Or.inl rfl)
    have w17 : ν3.1 17 2 = 0 := by rw [(f4 _ _ (by unfold FS FB; omega)).1]; exact v17
    have w09 : ν3.1 0 9 = 0 := by rw [(f4 _ _ (by unfold FS FB; omega)).1]; exact v09
    have w1 : ν3.1 139 1 = 0 := by rw [(f4 _ _ (by unfold FS FB; omega)).1, (f3 _ _ (by omega)).1, (f2 _ _ (by unfold FB; omega)).1]; exact t1
    have w2 : ν3.1 139 2 = -1 := by rw [(f4 _ _ (by unfold FS FB; omega)).1, (f3 _ _ (by omega)).1, (f2 _ _ (by unfold FB; omega)).1]; exact o3
    refine ⟨_, ν3, _, ?_, ff.mono fun q i z => by unfold FTk FTe FB FS at z; unfold CL; omega, hC.tk ff b4 w17 w09 w1 w2, hA.tk hB', B', k4, rfl, rfl⟩
    rw [hd] at e4
    simp only [f_X9_text_J21, ↓hvc (fun _ => vc_0), ↓hbind c_da1, ↓thr_ok, ↓hbind gR_0_3, ↓hbind gR_0_1, ↓hvc (fun _ => vc_139), ↓hbind e1, c3, ↓reduceIte, ↓hbind gR_0_0, ↓hvc (fun _ => bk_v bk1), ↓hbind e2, ↓hbind gR_0_2, ↓hbind pI_17_2, ↓hbind ez, ↓hbind e4, ↓hbind (bk_r9 bk1), ↓hvc (fun _ => pr_v p6), ↓hbind es]
/-- the model's: row 0 from row 1 -/
theorem RM.te (h : RM μ A) {ν : MM} {P : Nat → Nat → Prop} (f : Fr P μ ν) (n : ∀ q i, P q i → (q = 168 ∧ i ≠ 14) ∨ FR 1 q i) {q : Int32} (h1 : ν.1 168 2 = 0) (h2 : ν.1 168 5 = q) : RM ν (mkA (aB A) (aH A) 0 (aY A) q (aX A) (aZ A)) := by
  obtain ⟨k1, k2, -, -, k6, k7⟩ := h
  have nn : ∀ q i, ¬ ((q = 168 ∧ i ≠ 14) ∨ FR 1 q i) → ¬ P q i := fun q i a z => a (n q i z)
  refine ⟨k1.fr f fun q i a => nn _ _ (by unfold FR at a ⊢; omega), k2.fr f (nn _ _ (by unfold FR; omega)) (fun r q i a b c => nn _ _ (by unfold FR at c ⊢; omega)), ⟨h1, fun k hk => absurd hk (Nat.not_lt_zero _)⟩, h2, ?_, ?_⟩
  · rw [(f _ _ (nn _ _ (by unfold FR; omega))).1]; exact k6
  · rw [(f _ _ (nn _ _ (by unfold FR; omega))).1]; exact k7
theorem RM.tk (h : RM μ A) {ν : MM} {B : Bk} (h169 : ∀ i, ν.1 169 i = μ.1 169 i) (hm : MR ν 0 B) (h14 : ν.1 168 14 = 0) (h1 : ν.1 168 2 = 0) (h2 : ν.1 168 5 = -1) : RM ν (mkA B [] 0 (aY A) (-1) (aX A) (aZ A)) := by
  obtain ⟨-, -, -, -, k6, k7⟩ := h
  refine ⟨hm, ⟨h14, Nat.zero_le _, fun j B hj => by cases hj⟩, ⟨h1, fun k hk => absurd hk (Nat.not_lt_zero _)⟩, h2, ?_, ?_⟩
  · rw [h169]; exact k6
  · rw [h169]; exact k7
def mS0 (μ : MM) (n : Nat) : MM := st (st (st (st (st (st (tz μ) 168 2 0) 168 3 (Int32.ofNat n)) 168 4 0) 168 6 0) 168 7 (-1)) 168 16 0
theorem m_text_go {ζ : MM} {n : Nat} (e : h1F (mem (mS0 μ n)) = some (mem ζ)) : f_X10_text_J23 168 (Int32.ofNat n) 168 0 (mem (tz μ)) = f_X10_text_L104 f_X10_text_J126 5000 168 (mem ζ) := by
  have ez : pZ (mem (st (st (st (st (st (tz μ) 168 2 0) 168 3 (Int32.ofNat n)) 168 4 0) 168 6 0) 168 7 (-1))) 10 168 16 0 = some (mem (mS0 μ n)) := pZ_m (by decide +kernel) (Or.inl rfl)
  have k1 : f_X10_text_J23 168 (Int32.ofNat n) 168 0 (mem (tz μ)) = (h1F (mem (mS0 μ n))).bind fun h14 => f_X10_text_L104 f_X10_text_J126 5000 168 h14 := by
    simp only [f_X10_text_J23, ↓hvc (fun _ => vc_168), ↓hbind m_b0t, ↓reduceIte, ↓hbind pI_168_2, ↓hbind pI_168_3, ↓hbind pI_168_4, ↓hbind pI_168_6, ↓hbind pI_168_7, ↓hbind ez]
    simp only [h1F, h1G, h2F, Option.bind_assoc]
    rw [vc_168]
  rw [k1, e]; rfl
theorem m_text (hA : AOK A) (hM : RM μ A) {n : Nat} (hn : n ≤ aN A) : MX μ (f_X10_text 168 (Int32.ofNat n) (mem μ)) wc_L_text (ST A (txAll n (aY A))) := by
  have hy := hA.2.2.2
  have n300 : n ≤ 300 := Nat.le_trans hn hA.2.2.1
  have a300 : aN A ≤ 300 := hA.2.2.1
  obtain ⟨η, hd⟩ : ∃ x, x = mS0 μ n := ⟨_, rfl⟩
  have f0 : Fr (fun q i => q = 168 ∧ (i = 0 ∨ i = 2 ∨ i = 3 ∨ i = 4 ∨ i = 6 ∨ i = 7 ∨ i = 16)) μ η := by
    rw [hd]
    unfold mS0 tz
    exact (((((((Fr.refl _ _).st ⟨rfl, by omega⟩).st ⟨rfl, by omega⟩).st ⟨rfl, by omega⟩).st ⟨rfl, by omega⟩).st ⟨rfl, by omega⟩).st ⟨rfl, by omega⟩).st ⟨rfl, by omega⟩
  have v16 : η.1 168 16 = 0 := by rw [hd]; exact st_same _ _ _ _
  have v7 : η.1 168 7 = -1 := by rw [hd]; unfold mS0; rw [st_ne (Or.inr (by omega)), st_same]
  have v6 : η.1 168 6 = 0 := by rw [hd]; unfold mS0; rw [st_ne (Or.inr (by omega)), st_ne (Or.inr (by omega)), st_same]
  have v4 : η.1 168 4 = Int32.ofNat 0 := by rw [hd]; unfold mS0; rw [st_ne (Or.inr (by omega)), st_ne (Or.inr (by omega)), st_ne (Or.inr (by omega)), st_same]; rfl
  have v3 : η.1 168 3 = Int32.ofNat n := by rw [hd]; unfold mS0; rw [st_ne (Or.inr (by omega)), st_ne (Or.inr (by omega)), st_ne (Or.inr (by omega)), st_ne (Or.inr (by omega)), st_same]
  have v2 : η.1 168 2 = 0 := by rw [hd]; unfold mS0; rw [st_ne (Or.inr (by omega)), st_ne (Or.inr (by omega)), st_ne (Or.inr (by omega)), st_ne (Or.inr (by omega)), st_ne (Or.inr (by omega)), st_same]
  have v0 : η.1 168 0 = 0 := by rw [hd]; unfold mS0; rw [st_ne (Or.inr (by omega)), st_ne (Or.inr (by omega)), st_ne (Or.inr (by omega)), st_ne (Or.inr (by omega)), st_ne (Or.inr (by omega)), st_ne (Or.inr (by omega))]; exact t0_0
  have hP : MP η n (aY A) 0 := ⟨v3, v4, fun k hk => by rw [(f0 _ _ (by omega)).1]; exact hM.2.2.1.2 k (by omega)⟩
  obtain ⟨ζ, e1, f1, o1⟩ := m_head n300 hy hP ⟨v16, v6, v7⟩
  obtain ⟨ξ, e2, f2, o2⟩ := m_lines n300 hy (n + 1) 0 ζ (txHead n (aY A)) o1 txHead_ok (by omega)
  have e2 := e2 (5000 - (n + 2)) f_X10_text_J126
  rw [show n + 1 + 1 + (5000 - (n + 2)) = 5000 by omega] at e2
  rw [hd] at e1
  have o2 : OMf ξ (txAll n (aY A)) := o2
  have ok : ROK n 0 (txAll n (aY A)) := lines_ok (n := n) (y := aY A) (n + 1) (i := 0) (txHead_ok (n := n) (y := aY A))
  have f12 := f1.trans f2
  have gt : (tz μ).1 168 2 = Int32.ofNat (aN A) := hM.t.2.2.1.1
  have ei : f_X10_in (Int32.ofNat n) 0 (Int32.ofNat (aN A)) (mem (tz μ)) = some (1, mem (tz μ)) := by
    rw [m_in, decide_eq_true (show (0 : Int32) ≤ Int32.ofNat n ∧ Int32.ofNat n ≤ Int32.ofNat (aN A) by
      rw [show (0 : Int32) = Int32.ofNat 0 from rfl, oN_le (by omega) (by omega), oN_le (by omega) (by omega)]; omega)]
    rfl
  have go : f_X10_text 168 (Int32.ofNat n) (mem μ) = f_X10_text_J126 168 (mem ξ) := by
    rw [← e2, ← m_text_go e1]
    simp only [f_X10_text, ↓hbind pI_t0, ↓hbind gI_168_2, gt, ↓hbind ei, z_1, ↓reduceIte]
  have w2 : ξ.1 168 2 = 0 := by rw [(f12 _ _ (by unfold GX FR; omega)).1]; exact v2
  have w0 : ξ.1 168 0 = 0 := by rw [(f12 _ _ (by unfold GX FR; omega)).1]; exact v0
  have fa : Fr (fun q i => (q = 168 ∧ i ≠ 14) ∨ FR 1 q i) μ ξ := (f0.mono fun q i z => Or.inl ⟨z.1, by omega⟩).trans (f12.mono fun q i z => by unfold GX at z; rcases z with z | z; exact Or.inl ⟨z.1, by omega⟩; exact Or.inr z)
  rw [go]
  cases hR : txAll n (aY A) with
  | inr aq =>
    obtain ⟨a, q⟩ := aq
    rw [hR] at o2
    obtain ⟨m1, m2, m3⟩ := o2
    have f3 : Fr (fun q i => q = 168 ∧ i = 5) ξ (st ξ 168 5 (Int32.ofNat q)) := (Fr.refl _ _).st ⟨rfl, rfl⟩
    have fb : Fr (fun q i => (q = 168 ∧ i ≠ 14) ∨ FR 1 q i) μ (st ξ 168 5 (Int32.ofNat q)) := fa.trans (f3.mono fun q i z => Or.inl ⟨z.1, by omega⟩)
    have n6 : (st ξ 168 5 (Int32.ofNat q)).1 168 6 ≠ 0 := by rw [st_ne (Or.inr (by omega))]; exact m3
    have g6 : (st ξ 168 5 (Int32.ofNat q)).1 168 6 = Int32.ofNat a := by rw [st_ne (Or.inr (by omega))]; exact m1
    refine ⟨_, _, st ξ 168 5 (Int32.ofNat q), _, ?_, fb.mono fun q i z => by unfold FR at z; unfold ML; omega, hM.te fb (fun q i z => z) (by rw [st_ne (Or.inr (by omega))]; exact w2) (st_same _ _ _ _), ⟨rfl, rfl⟩, by rw [st_ne (Or.inr (by omega))]; exact w0, rfl⟩
    simp only [f_X10_text_J126, ↓hbind gI_168_7, m2, ↓hbind pI_168_5, ↓hvc (fun _ => vc_168), ↓hbind (m_fine0 n6), ↓reduceIte, ↓hbind gI_168_6, g6]
  | inl pBk =>
    obtain ⟨p, B, k⟩ := pBk
    rw [hR] at o2 ok
    obtain ⟨r1, m6, m7⟩ := o2
    have hB : BOK B := ok.2.2
    obtain ⟨ν1, hd1⟩ : ∃ x, x = st ξ 168 5 (-1) := ⟨_, rfl⟩
    have f3 : Fr (fun q i => q = 168 ∧ i = 5) ξ ν1 := by rw [hd1]; exact (Fr.refl _ _).st ⟨rfl, rfl⟩
    have h6 : ν1.1 168 6 = 0 := by rw [(f3 _ _ (by omega)).1]; exact m6
    have r2 : MR ν1 1 B := r1.fr f3 fun q i a z => by unfold FR at a; omega
    obtain ⟨ν2, e3, r3, f4⟩ := m_copies (x := 1) (y := 0) (f := 1) (t := 0) rfl rfl (by omega) (by omega) (by omega) r2
    obtain ⟨ν3, hd3⟩ : ∃ x, x = st ν2 168 14 0 := ⟨_, rfl⟩
    have f5 : Fr (fun q i => q = 168 ∧ i = 14) ν2 ν3 := by rw [hd3]; exact (Fr.refl _ _).st ⟨rfl, rfl⟩
    have r4 : MR ν3 0 B := r3.fr f5 fun q i a z => by unfold FR at a; omega
    obtain ⟨ν4, B', e6, r5, k5, f6⟩ := m_keeps r4 hB
    have hB' := k5.ok hB
    have ep := m_pairs (μ := ν4) (M := bM B') hB'.M.1.1 r5.2.2.1
    have fz : ∀ q i, ¬ ((q = 168 ∧ i = 18) ∨ q = 482 ∨ q = 483 ∨ q = 210) → ν4.1 q i = ν3.1 q i := fun q i a => (f6 q i fun z => a z.Q).1
    have w14 : ν4.1 168 14 = 0 := by rw [fz _ _ (by omega), hd3, st_same]
    have x2 : ν4.1 168 2 = 0 := by rw [fz _ _ (by omega), (f5 _ _ (by omega)).1, (f4 _ _ (by unfold FR; omega)).1, (f3 _ _ (by omega)).1]; exact w2
    have x5 : ν4.1 168 5 = -1 := by rw [fz _ _ (by omega), (f5 _ _ (by omega)).1, (f4 _ _ (by unfold FR; omega)).1, hd1, st_same]
    have x0 : ν4.1 168 0 = 0 := by rw [fz _ _ (by omega), (f5 _ _ (by omega)).1, (f4 _ _ (by unfold FR; omega)).1, (f3 _ _ (by omega)).1]; exact w0
    have x169 : ∀ i, ν4.1 169 i = μ.1 169 i := fun i => by rw [fz _ _ (by omega), (f5 _ _ (by omega)).1, (f4 _ _ (by unfold FR; omega)).1, (f3 _ _ (by omega)).1, (fa _ _ (by unfold FR; omega)).1]
    have ff : Fr ML μ ν4 := (((fa.mono fun q i z => by unfold FR at z; unfold ML; omega).trans (f3.mono fun q i z => by unfold ML; omega)).trans (f4.mono fun q i z => by unfold FR at z; unfold ML; omega)).trans ((f5.mono fun q i z => by unfold ML; omega).trans (f6.mono fun q i z => by have := z.Q; unfold ML; omega))
    refine ⟨_, _, ν4, _, ?_, ff, hM.tk x169 r5 w14 x2 x5, ⟨B', k5, rfl, rfl⟩, x0, rfl⟩
    rw [hd1] at e3 h6
    rw [hd3] at e6
    simp only [f_X10_text_J126, ↓hbind gI_168_7, m7, ↓hbind pI_168_5, ↓hvc (fun _ => vc_168), ↓hbind (m_fine1 h6), z_1, ↓reduceIte, ↓hbind e3, ↓hbind pI_168_14, ↓hbind e6, ↓hbind ep]
theorem op_text (hT : TF T) (hA : AOK A) (hC : RC T μ A) (hM : RM μ A) (x : Int32) : OKc T μ (LB wc_L_text (f_X9_text 0 x) (f_X10_text 168 x)) := by
  have a300 : aN A ≤ 300 := hA.2.2.1
  by_cases c : ∃ n, n ≤ aN A ∧ x = Int32.ofNat n
  · obtain ⟨n, hn, rfl⟩ := c
    exact LB_ok hT hM ST.uq (c_text hT hA hC hn) (fun ν hν => m_text hA hν hn)
  · have gt : ∀ ν, RM ν A → (tz ν).1 168 2 = Int32.ofNat (aN A) := fun ν hν => hν.t.2.2.1.1
    have nin : ¬ ((0 : Int32) ≤ x ∧ x ≤ Int32.ofNat (aN A)) := fun z => by
      rcases i32_cases x with q | ⟨k, hk, rfl⟩
      · exact absurd q (Int32.not_lt.mpr z.1)
      · have := z.2
        rw [oN_le hk (by omega)] at this
        exact c ⟨k, this, rfl⟩
    have g1 : μ.1 139 1 = Int32.ofNat (aN A) := hC.2.2.1.1
    refine LB_ok hT hM (SA.uq (A := A)) (CX_A hT hC hA fun ν e => ?_) (fun ν hν => MX_A hν (w := 1) (b := 0) rfl (by decide) ?_)
    · by_cases c1 : x < 0
      · have c1 := eq_true c1
        simp only [f_X9_text, c1, ↓reduceIte, f_X9_text_J20, f_X9_text_J21, ↓hvc (fun _ => vc_0), ↓hbind e, ↓thr_er]
      · have c2 : (x > Int32.ofNat (aN A)) = True := eq_true (Int32.not_le.mp fun z => nin ⟨Int32.not_lt.mp c1, z⟩)
        have c1 := eq_false c1
        simp only [f_X9_text, c1, ↓reduceIte, ↓hbind gR_0_3, ↓hbind gI_139_1, g1, c2, f_X9_text_J20, f_X9_text_J21, ↓hvc (fun _ => vc_0), ↓hbind e, ↓thr_er]
    · have ei : f_X10_in x 0 (Int32.ofNat (aN A)) (mem (tz ν)) = some (0, mem (tz ν)) := by
        rw [m_in, decide_eq_false nin]; rfl
      simp only [f_X10_text, ↓hbind pI_t0, ↓hbind gI_168_2, gt ν hν, ↓hbind ei, ↓reduceIte, f_X10_text_J23, ↓hvc (fun _ => vc_168), ↓hbind (m_bA (show (1 : Int32) ≠ 0 by decide)), z_1]
end O30
