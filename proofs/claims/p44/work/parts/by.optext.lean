/-! OPERATIONS: text -/
variable {Ξ : xH}
noncomputable def ST (A : AS) (R : Rs) (x : Int32 ⊕ String) (A' : AS) : Prop := match R with
  | .inl (_, B, _) => ∃ B', Kp B B' ∧ x = .inl (Int32.ofNat (sz (bM B'))) ∧ A' = mkA B' [] 0 (aY A) (-1) (aX A) (aZ A)
  | .inr (a, q) => x = .inl (Int32.ofNat a - 10) ∧ A' = mkA (aB A) (aH A) 0 (aY A) (Int32.ofNat q) (aX A) (aZ A)
theorem ST.uq {A : AS} {R : Rs} : UQ (ST A R) := fun x A' y A'' h h' => by
  rcases R with ⟨p, B, k⟩ | ⟨a, q⟩
  · obtain ⟨B1, k1, e1, f1⟩ := h
    obtain ⟨B2, k2, e2, f2⟩ := h'
    have e := k1.uniq k2
    subst e
    exact ⟨e1.trans e2.symm, f1.trans f2.symm⟩
  · exact ⟨h.1.trans h'.1.symm, h.2.trans h'.2.symm⟩
def FTe (q i : Nat) : Prop := q = 139 ∨ FB 9 q i
section O30
variable {T : MM → Bk → Prop} {μ : MM} {A : AS}
/-- a text that is none: nothing has changed but the tape and the fault -/
theorem RC.te (hT : TF T) (h : RC T μ A) {ν : MM} (f : Fr FTe μ ν) {q : Int32} (h1 : ν.1 139 1 = 0) (h2 : ν.1 139 2 = q) : RC T ν (mkA (aB A) (aH A) 0 (aY A) q (aX A) (aZ A)) := by
  obtain ⟨k1, k2, -, -, k6, k7, k8⟩ := h
  refine ⟨k1.fr f fun q i a c z => by unfold FTe FB at z; omega, k2.fr f fun q i a z => by unfold FH at a; unfold FTe FB at z; omega, ⟨h1, fun k hk => absurd hk (Nat.not_lt_zero _)⟩, h2, ?_, ?_, ?_⟩
  · rw [(f _ _ (by unfold FTe FB; omega)).1]; exact k6
  · rw [(f _ _ (by unfold FTe FB; omega)).1]; exact k7
  · rw [(f _ _ (by unfold FTe FB; omega)).1]
    exact k8.imp id fun z => ⟨z.1, hT _ _ _ (fun i => f _ _ (by unfold FTe FB; omega)) (fun i => (f _ _ (by unfold FTe FB; omega)).1) z.2⟩
def FTk (q i : Nat) : Prop := FTe q i ∨ FB 1 q i ∨ FS q i ∨ (q = 17 ∧ i = 2) ∨ (q = 0 ∧ i = 9)
theorem RC.tk (h : RC T μ A) {ν : MM} {B : Bk} (f : Fr FTk μ ν) (hb1 : BC ν 1 B) (h17 : ν.1 17 2 = 0) (h9 : ν.1 0 9 = 0) (h1 : ν.1 139 1 = 0) (h2 : ν.1 139 2 = -1) : RC T ν (mkA B [] 0 (aY A) (-1) (aX A) (aZ A)) := by
  obtain ⟨-, ⟨x, x15, hx, -⟩, -, -, k6, k7, -⟩ := h
  refine ⟨hb1, ⟨x, x15, ?_, h17, Nat.zero_le _, fun j B hj => by cases hj⟩, ⟨h1, fun k hk => absurd hk (Nat.not_lt_zero _)⟩, h2, ?_, ?_, Or.inl h9⟩
  · rw [(f _ _ (by unfold FTk FTe FB FS; omega)).1]; exact hx
  · rw [(f _ _ (by unfold FTk FTe FB FS; omega)).1]; exact k6
  · rw [(f _ _ (by unfold FTk FTe FB FS; omega)).1]; exact k7
theorem AOK.te (h : AOK A) {p : Int32} : AOK (mkA (aB A) (aH A) 0 (aY A) p (aX A) (aZ A)) := ⟨h.1, h.2.1, Nat.zero_le _, h.2.2.2⟩
theorem AOK.tk (h : AOK A) {B : Bk} (hB : BOK B) {p : Int32} : AOK (mkA B [] 0 (aY A) p (aX A) (aZ A)) := ⟨hB, fun C hC => (by cases hC), Nat.zero_le _, h.2.2.2⟩
/-- the class's -/
theorem c_text (hT : TF T) (hA : AOK A) (hC : RC T μ A) {n : Nat} (hn : n ≤ aN A) : CX Ξ T μ (f_X9_text 0 (Int32.ofNat n) ((mX Ξ) μ)) (ST A (txAll n (aY A))) := by
  have hy := hA.2.2.2
  have n300 : n ≤ 300 := Nat.le_trans hn hA.2.2.1
  have a300 : aN A ≤ 300 := hA.2.2.1
  have p6 : prOK shI 6 = true := bk_pr bk1
  obtain ⟨ξ, a, e1, f1, t1, o1⟩ := c_read (Ξ := Ξ) (μ := μ) (y := aY A) n300 hy (fun k hk => hC.2.2.1.2 k (by omega))
  have f1 : Fr FTe μ ξ := f1
  have ok := lines_ok (n := n) (y := aY A) (n + 1) (i := 0) (txHead_ok (n := n) (y := aY A))
  have ok : ROK n 0 (txAll n (aY A)) := ok
  have c1 : (Int32.ofNat n < 0) = False := oN_l0 (by omega)
  have c2 : (Int32.ofNat n > Int32.ofNat (aN A)) = False := by rw [oN_gt (by omega) (by omega)]; exact eq_false (by omega)
  have g1 : μ.1 139 1 = Int32.ofNat (aN A) := hC.2.2.1.1
  have go : f_X9_text 0 (Int32.ofNat n) ((mX Ξ) μ) = f_X9_text_J21 0 (Int32.ofNat n) 0 1 ((mX Ξ) μ) := by
    simp only [f_X9_text, c1, ↓reduceIte, ↓hbind gR_0_3, ↓hbind gI_139_1, g1, c2]
  rw [go]
  cases hR : txAll n (aY A) with
  | inr aq =>
    obtain ⟨b, q⟩ := aq
    rw [hR] at o1 ok
    obtain ⟨ea, o2⟩ := o1
    obtain ⟨b1, b5, -⟩ := ok
    have c3 : (Int32.ofNat a = 0) = False := by rw [leq_0 (by omega)]; exact eq_false (by omega)
    refine CX.of _ ξ _ ⟨?_, f1.mono fun q i z => by unfold FTe FB at z; unfold CL; omega, hC.te hT f1 t1 o2, hA.te, rfl, rfl⟩
    rw [← ea]
    simp only [f_X9_text_J21, ↓hvc (fun _ => vc_0), ↓hbind c_da1, ↓thr_ok, ↓hbind gR_0_3, ↓hbind gR_0_1, ↓hvc (fun _ => vc_139), ↓hbind e1, c3, ↓reduceIte]
  | inl pBk =>
    obtain ⟨p, B, k⟩ := pBk
    rw [hR] at o1 ok
    obtain ⟨ea, o2, o3⟩ := o1
    have hB : BOK B := ok.2.2
    have c3 : (Int32.ofNat a = 0) = True := by rw [ea]; exact eq_true rfl
    obtain ⟨ν1, e2, b2, f2⟩ := c_bcopy (Ξ := Ξ) (b := 1) bk1 bk9 (by omega) o2
    obtain ⟨ν2, hd⟩ : ∃ x, x = st (st ν1 17 2 0) 0 9 0 := ⟨_, rfl⟩
    have f3 : Fr (fun q i => (q = 17 ∧ i = 2) ∨ (q = 0 ∧ i = 9)) ν1 ν2 := by rw [hd]; exact ((Fr.refl _ _).st (Or.inl ⟨rfl, rfl⟩)).st (Or.inr ⟨rfl, rfl⟩)
    have v17 : ν2.1 17 2 = 0 := by rw [hd, st_ne (Or.inl (by omega)), st_same]
    have v09 : ν2.1 0 9 = 0 := by rw [hd, st_same]
    have b3 : BC ν2 1 B := b2.fr f3 fun q i a c z => by omega
    obtain ⟨ν3, B', e4, b4, k4, f4⟩ := c_keepUp (Ξ := Ξ) b3 hB
    have hB' := k4.ok hB
    have ff : Fr FTk μ ν3 := (((f1.mono fun q i z => Or.inl z).trans (f2.mono fun q i z => Or.inr (Or.inl z))).trans (f3.mono fun q i z => z.elim (fun y => Or.inr (Or.inr (Or.inr (Or.inl y)))) fun y => Or.inr (Or.inr (Or.inr (Or.inr y))))).trans (f4.mono fun q i z => z.elim (fun y => Or.inr (Or.inr (Or.inl y))) fun y => Or.inr (Or.inl y))
    have es := c_size (Ξ := Ξ) (μ := ν3) p6 b4.2.2.2.2.2
    have ez : pZ ((mX Ξ) (st ν1 17 2 0)) 9 0 9 0 = some ((mX Ξ) (st (st ν1 17 2 0) 0 9 0)) := pZ_x (by decide +kernel) (Or.inl rfl)
    have w17 : ν3.1 17 2 = 0 := by rw [(f4 _ _ (by unfold FS FB; omega)).1]; exact v17
    have w09 : ν3.1 0 9 = 0 := by rw [(f4 _ _ (by unfold FS FB; omega)).1]; exact v09
    have w1 : ν3.1 139 1 = 0 := by rw [(f4 _ _ (by unfold FS FB; omega)).1, (f3 _ _ (by omega)).1, (f2 _ _ (by unfold FB; omega)).1]; exact t1
    have w2 : ν3.1 139 2 = -1 := by rw [(f4 _ _ (by unfold FS FB; omega)).1, (f3 _ _ (by omega)).1, (f2 _ _ (by unfold FB; omega)).1]; exact o3
    refine CX.of _ ν3 _ ⟨?_, ff.mono fun q i z => by unfold FTk FTe FB FS at z; unfold CL; omega, hC.tk ff b4 w17 w09 w1 w2, hA.tk hB', B', k4, rfl, rfl⟩
    rw [hd] at e4
    simp only [f_X9_text_J21, ↓hvc (fun _ => vc_0), ↓hbind c_da1, ↓thr_ok, ↓hbind gR_0_3, ↓hbind gR_0_1, ↓hvc (fun _ => vc_139), ↓hbind e1, c3, ↓reduceIte, ↓hbind gR_0_0, ↓hvc (fun _ => bk_v bk1), ↓hbind e2, ↓hbind gR_0_2, ↓hbind pI_17_2, ↓hbind ez, ↓hbind e4, ↓hbind (bk_r9 bk1), ↓hvc (fun _ => pr_v p6), ↓hbind es]
def mS0 (μ : MM) (n : Nat) : MM := st (st (st (st (st (st (tz μ) 168 2 0) 168 3 (Int32.ofNat n)) 168 4 0) 168 6 0) 168 7 (-1)) 168 16 0
end O30
