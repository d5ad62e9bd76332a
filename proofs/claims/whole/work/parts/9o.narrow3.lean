/-! OPERATIONS: narrow, the loops of the model -/
section Nc
variable {T : MM → Bk → Prop} {μ : MM} {A : AS} {B : Bk}
theorem m_nw_rows (hB : BOK B) (h0 : MR μ 0 B) (h17 : MR μ 17 B) {c : Nat} (hc : c ≤ 99) (N : Int32) : ∀ (k i : Nat) (ν : MM), i + k = 12 → Fr FBk μ ν → (∀ w, w < i → ∀ t, hb (ν.1 191 w) t = true ↔ (t < 12 ∧ hb (bf B w) t = true ∧ bc B w t ≤ c)) →
    ∃ ξ, (∀ f K, f_X10_narrow_L38 K (k + 1 + f) 168 N (Int32.ofNat c) (Int32.ofNat i) (mem ν) = K 168 N (Int32.ofNat c) (mem ξ)) ∧ Fr FBk μ ξ ∧ ∀ w, w < 12 → ∀ t, hb (ξ.1 191 w) t = true ↔ (t < 12 ∧ hb (bf B w) t = true ∧ bc B w t ≤ c)
  | 0, i, ν, h, f, g => by
    have c' : (Int32.ofNat i ≥ 12) = True := by rw [lge_12 (by omega)]; exact eq_true (by omega)
    refine ⟨ν, fun e K => ?_, f, by rw [show i = 12 by omega] at g; exact g⟩
    rw [show 0 + 1 + e = e + 1 by omega]
    simp only [f_X10_narrow_L38, c', ↓reduceIte]
  | k + 1, i, ν, h, f, g => by
    have hi : i < 12 := by omega
    have c' : (Int32.ofNat i ≥ 12) = False := by rw [lge_12 (by omega)]; exact eq_false (by omega)
    have e17 : ν.1 208 i = bf B i := by rw [(f _ _ (by unfold FBk Fk; omega)).1]; exact h17.2.1 i hi
    have ec : ∀ t, t < 12 → hb (bf B i) t = true → ν.1 (249 + i) t = Int32.ofNat (bc B i t) := fun t ht q => by
      rw [(f _ _ (by unfold FBk Fk; omega)).1]; exact h0.2.2.2.2 i t hi ht q
    obtain ⟨ζ, e, f1, g1⟩ := m_nw_row (B := B) hc hi e17 ec (fun t => hB.c i t) N 12 0 (st ν 191 i 0) (by omega) ((Fr.refl _ _).st ⟨rfl, rfl⟩) (fun t => by
      rw [st_same, hb_zero]
      exact ⟨fun z => (by cases z), fun z => absurd z.1 (Nat.not_lt_zero _)⟩)
    obtain ⟨ξ, e2, r⟩ := m_nw_rows hB h0 h17 hc N k (i + 1) ζ (by omega) (f.trans (f1.mono fun q j z => Or.inl z.1)) (fun w hw t => by
      by_cases z : w = i
      · rw [z]; exact g1 t
      · rw [(f1 _ _ (by omega)).1]; exact g w (by omega) t)
    refine ⟨ξ, fun e' K => ?_, r⟩
    have e := e 4987 (f_X10_narrow_J125 (f_X10_narrow_L38 K (k + 1 + e')) K)
    have e : f_X10_narrow_L58 (f_X10_narrow_J125 (f_X10_narrow_L38 K (k + 1 + e')) K) 5000 168 N (Int32.ofNat c) (Int32.ofNat i) 0 (mem (st ν 191 i 0)) = _ := e
    rw [show k + 1 + 1 + e' = k + 1 + e' + 1 by omega, ← e2 e' K]
    simp only [f_X10_narrow_L38, c', ↓reduceIte, ↓hbind gR_168_10, ↓hbind mr_f0, ↓hbind (ms_f0 hi), e, f_X10_narrow_J125, lt, i_succ]
theorem m_nw_nu (hB : BOK B) (h0 : MR μ 0 B) {c : Nat} {ξ : MM} (f : Fr FBk μ ξ) (g : ∀ w, w < 12 → ∀ t, hb (ξ.1 191 w) t = true ↔ (t < 12 ∧ hb (bf B w) t = true ∧ bc B w t ≤ c)) : ∃ η, f_X10_nu 168 (mem ξ) = some (Int32.ofNat (nN (cM B c)), mem η) ∧ Fr FBk μ η := by
  have m := h0.f191 f fun w hw k q => ((g w hw k).mp q).2.1
  have e : gE (mkB (bn B) (bm B) (bk B) (bw B) (bt B) (be B) (fun w => ξ.1 191 w) (bc B) (bM B)) = cM B c := by
    funext w t
    show (hb (ξ.1 191 w) t && hb (bw B) w && hb (bt B) t) = _
    unfold cM gE
    cases qw : hb (bw B) w with
    | false => simp
    | true =>
      have hw := Nat.lt_of_lt_of_le (hB.w qw) hB.n
      have : hb (ξ.1 191 w) t = (hb (bf B w) t && decide (bc B w t ≤ c)) := by
        rw [Bool.eq_iff_iff, g w hw t, Bool.and_eq_true, decide_eq_true_eq]
        refine ⟨fun z => z.2, fun z => ⟨Nat.lt_of_lt_of_le (hB.f z.1).2 hB.m, z⟩⟩
      rw [this]
      cases hb (bf B w) t <;> cases hb (bt B) t <;> simp
  obtain ⟨η, e1, f1⟩ := m_nuG m (by rw [e]; exact cM_Eb hB)
  rw [e] at e1
  exact ⟨η, e1, f.trans (f1.mono fun q i z => Or.inr z)⟩
theorem m_nw_out (hB : BOK B) (h0 : MR μ 0 B) (h17 : MR μ 17 B) : ∀ (d c : Nat) (ν : MM) (x2 : Int32) (y : Nat), c + d = 100 → x2 + 1 = Int32.ofNat c → Fr FBk μ ν → y = nN (cL B c) → y < nN (gE B) → ∃ ξ c', (∀ f, f_X10_narrow_L27 f_X10_narrow_J139 (d + 1 + f) 168 (Int32.ofNat (nN (gE B))) x2 (Int32.ofNat y) (mem ν) = f_X10_narrow_J139 168 (Int32.ofNat c') (mem ξ)) ∧ Fr FBk μ ξ ∧ c' ≤ 99 ∧ nN (gE B) ≤ nN (cM B c') ∧ nN (cL B c') < nN (gE B)
  | 0, c, ν, x2, y, h, e, f, ey, hy => by
    rw [show c = 100 by omega, cL_100 hB] at ey
    omega
  | d + 1, c, ν, x2, y, h, e, f, ey, hy => by
    have hN := nN_le (gE B)
    have hN2 := nN_le (cM B c)
    have c1 : (Int32.ofNat y ≥ Int32.ofNat (nN (gE B))) = False := by rw [oN_ge (by omega) (by omega)]; exact eq_false (by omega)
    obtain ⟨ζ, e1, f1, g1⟩ := m_nw_rows hB h0 h17 (show c ≤ 99 by omega) (Int32.ofNat (nN (gE B))) 12 0 ν (by omega) f (fun w a => absurd a (Nat.not_lt_zero _))
    obtain ⟨η, e2, f2⟩ := m_nw_nu hB h0 f1 g1
    have st : ∀ F, f_X10_narrow_L27 f_X10_narrow_J139 (F + 1) 168 (Int32.ofNat (nN (gE B))) x2 (Int32.ofNat y) (mem ν) = f_X10_narrow_L27 f_X10_narrow_J139 F 168 (Int32.ofNat (nN (gE B))) (Int32.ofNat c) (Int32.ofNat (nN (cM B c))) (mem η) := fun F => by
      have e1 := e1 4987 (f_X10_narrow_J131 (f_X10_narrow_L27 f_X10_narrow_J139 F) f_X10_narrow_J139)
      have e1 : f_X10_narrow_L38 (f_X10_narrow_J131 (f_X10_narrow_L27 f_X10_narrow_J139 F) f_X10_narrow_J139) 5000 168 (Int32.ofNat (nN (gE B))) (Int32.ofNat c) 0 (mem ν) = _ := e1
      simp only [f_X10_narrow_L27, c1, ↓reduceIte, lt, e, e1, f_X10_narrow_J131, ↓hvc (fun _ => vc_168), ↓hbind e2]
    by_cases z : nN (gE B) ≤ nN (cM B c)
    · have c2 : (Int32.ofNat (nN (cM B c)) ≥ Int32.ofNat (nN (gE B))) = True := by rw [oN_ge (by omega) (by omega)]; exact eq_true z
      refine ⟨η, c, fun F => ?_, f2, by omega, z, by omega⟩
      rw [show d + 1 + 1 + F = d + F + 1 + 1 by omega, st]
      simp only [f_X10_narrow_L27, c2, ↓reduceIte]
    · obtain ⟨ξ, c', e3, r⟩ := m_nw_out hB h0 h17 d (c + 1) η (Int32.ofNat c) (nN (cM B c)) (by omega) i_succ f2 (by rw [cL_s]) (by omega)
      refine ⟨ξ, c', fun F => ?_, r⟩
      rw [show d + 1 + 1 + F = d + 1 + F + 1 by omega, st, e3]
theorem m_narrow (hA : AOK A) (hM : RM μ A) : ∃ x ν, f_X10_narrow 168 (mem μ) = some (x, mem ν) ∧ Fr ML μ ν ∧ RM ν A ∧ NRW (aB A) x := by
  have hB := hA.1
  have hE := hB.Eb
  have hN := nN_le (gE (aB A))
  obtain ⟨ν1, e1, f1⟩ := m_nuG hM.t.1 hE
  have m1 := hM.t.1.fr f1 fun q i a z => by unfold FR at a; unfold Fk at z; omega
  have f1' : Fr (fun q i => QM q i ∨ FR 0 q i) (tz μ) ν1 := f1.mono fun q i z => Or.inl z.Q
  by_cases z : nN (gE (aB A)) = 0
  · rw [z] at e1
    have e1 : f_X10_nu 168 (mem (tz μ)) = some (0, mem ν1) := e1
    refine ⟨-1, ν1, ?_, t0_ML.trans (CQ_ML f1' fun _ _ z => z), hM.t.re f1' m1, Or.inl ⟨z, rfl⟩⟩
    simp only [f_X10_narrow, ↓hbind pI_t0, ↓hvc (fun _ => vc_168), ↓hbind e1, ↓reduceIte]
  · have z' : (Int32.ofNat (nN (gE (aB A))) = 0) = False := by rw [leq_0 (by omega)]; exact eq_false z
    obtain ⟨ν2, e2, m2, f2⟩ := m_copies (x := 0) (y := 17) (f := 0) (t := 17) rfl rfl (by omega) (by omega) (by omega) m1
    have m2' : MR ν2 0 (aB A) := m1.fr f2 fun q i a z => by unfold FR at a z; omega
    obtain ⟨ξ, c, e3, f3, c1, c2, c3⟩ := m_nw_out hB m2' m2 100 0 ν2 (-1) 0 (by omega) (by decide) (Fr.refl _ _) (by
      rw [cL_0]
      have : Nu (fun _ _ => false) 0 := ⟨⟨_, e_Ms _, sz_e⟩, fun M hM => by
        rw [show sz M = 0 from cnt_zero fun x _ => by
          cases y : decide (M x < 12) with
          | false => rfl
          | true => have := hM.2 x (of_decide_eq_true y); cases this]
        exact Nat.le_refl _⟩
      exact this.nN) (by omega)
    have e3 : f_X10_narrow_L27 f_X10_narrow_J139 5000 168 (Int32.ofNat (nN (gE (aB A)))) (-1) 0 (mem ν2) = _ := e3 4899
    have m3 : MR ξ 17 (aB A) := m2.fr f3 fun q i a z => by unfold FR at a; unfold FBk Fk at z; omega
    obtain ⟨ω, e4, m4, f4⟩ := m_copies (x := 17) (y := 0) (f := 17) (t := 0) rfl rfl (by omega) (by omega) (by omega) m3
    have ff : Fr (fun q i => QM q i ∨ FR 0 q i) (tz μ) ω := ((f1'.trans (f2.mono fun q i z => Or.inl (Or.inr (Or.inr (Or.inl z))))).trans (f3.mono fun q i z => by
      rcases z with z | z
      · exact Or.inr (by unfold FR; omega)
      · exact Or.inl z.Q)).trans (f4.mono fun q i z => Or.inr z)
    refine ⟨Int32.ofNat c, ω, ?_, t0_ML.trans (CQ_ML ff fun _ _ z => z), hM.t.re ff m4, Or.inr ⟨z, c, c1, rfl, c2, c3⟩⟩
    simp only [f_X10_narrow, ↓hbind pI_t0, ↓hvc (fun _ => vc_168), ↓hbind e1, z', ↓reduceIte, ↓hbind e2, e3, f_X10_narrow_J139, ↓hbind e4]
theorem op_narrow (hT : TF T) (hA : AOK A) (hC : RC T μ A) (hM : RM μ A) : OKc T μ (LI (f_X9_narrow 0) (f_X10_narrow 168)) := by
  obtain ⟨x, ν, e, f, n⟩ := c_narrow hT hA hC
  refine LI_ok hT (S := fun x A' => A' = A ∧ NRW (aB A) x) hM (fun _ _ _ _ h h' => ⟨h.2.uniq h'.2, h.1.trans h'.1.symm⟩) ⟨x, ν, A, e, f.mono fun _ _ z => z.L, hC.fr hT f fun q i _ z => Or.inl z, hA, rfl, n⟩ (fun ν hν => ?_)
  obtain ⟨y, ξ, e2, f2, m2, n2⟩ := m_narrow hA hν
  exact ⟨y, ξ, A, e2, f2, m2, rfl, n2⟩
end Nc
