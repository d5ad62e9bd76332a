/-! OPERATIONS: narrow, class and model together -/
/-- what narrow answers -/
def NRW (B : Bk) (x : Int32) : Prop := (nN (gE B) = 0 ∧ x = -1) ∨ (nN (gE B) ≠ 0 ∧ ∃ c, c ≤ 99 ∧ x = Int32.ofNat c ∧ nN (gE B) ≤ nN (cM B c) ∧ nN (cL B c) < nN (gE B))
theorem cM_L {B : Bk} {c c' : Nat} (h : c < c') : nN (cM B c) ≤ nN (cL B c') := nN_mono fun w t q => by
  unfold cM at q
  unfold cL
  simp only [Bool.and_eq_true, decide_eq_true_eq] at q ⊢
  exact ⟨q.1, by omega⟩
theorem NRW.uniq {B : Bk} {x y : Int32} (h : NRW B x) (h' : NRW B y) : x = y := by
  rcases h with ⟨a, rfl⟩ | ⟨a, c, c1, rfl, c2, c3⟩
  · rcases h' with ⟨_, rfl⟩ | ⟨b, _⟩
    · rfl
    · exact absurd a b
  · rcases h' with ⟨b, _⟩ | ⟨_, d, d1, rfl, d2, d3⟩
    · exact absurd b a
    · rcases Nat.lt_trichotomy c d with z | z | z
      · have := cM_L (B := B) z; omega
      · rw [z]
      · have := cM_L (B := B) z; omega
section Nb
variable {T : MM → Bk → Prop} {μ : MM} {A : AS} {B : Bk}
theorem cL_SOK (hB : BOK B) {c : Nat} {M : Nat → Nat} (hM : Ms (cL B c) M) : SOK (bn B) (bm B) (bw B) (cL B c) M := ⟨hB.n, hB.m, fun w t q => hB.SOK.2.2.1 w t ((Bool.and_eq_true _ _).mp q).1, fun w q => hB.w q, hM⟩
theorem c_narrow (hT : TF T) (hA : AOK A) (hC : RC T μ A) : ∃ x ν, f_X9_narrow 0 (mem μ) = some (x, mem ν) ∧ Fr CQ μ ν ∧ NRW (aB A) x := by
  have hB := hA.1
  have hE := hB.Eb
  obtain ⟨ν, k, M', e1, f1, s1, o1, g⟩ := c_makeMost hC hA
  have nu := g.nu hE hB.M
  have eN := nu.2.1.nN
  have hN := nN_le (gE (aB A))
  have fq : Fr CQ μ ν := f1.mono fun _ _ z => z.Q
  rw [eN] at e1
  by_cases z : nN (gE (aB A)) = 0
  · rw [z] at e1
    have e1 : f_X9_makeMost 0 (mem μ) = some (0, mem ν) := e1
    refine ⟨-1, ν, ?_, fq, Or.inl ⟨z, rfl⟩⟩
    simp only [f_X9_narrow, ↓hvc (fun _ => vc_0), ↓hbind e1, ↓reduceIte]
  · have z' : (Int32.ofNat (nN (gE (aB A))) = 0) = False := by rw [leq_0 (by omega)]; exact eq_false z
    obtain ⟨ν1, e2, f2, s2⟩ := c_shutAll s1
    rw [← cL_0 (B := aB A)] at s2
    have f02 : Fr CQ μ ν1 := fq.trans (f2.mono fun _ _ z => z.Q)
    have key : Hw (f_X9_narrow_L20 f_X9_narrow_J65 f_X9_narrow_J73 5000 0 (Int32.ofNat (nN (gE (aB A)))) 0 (mem ν1)) (fun r => ∃ x ξ, r = (x, mem ξ) ∧ Fr CQ μ ξ ∧ NRW (aB A) x) := by
      refine hw_for (L := fun n i (ν : MM) => f_X9_narrow_L20 f_X9_narrow_J65 f_X9_narrow_J73 n 0 (Int32.ofNat (nN (gE (aB A)))) i (mem ν)) (s0 := ν1) 100 (fun c ξ => Fr CQ μ ξ ∧ ∃ M, SR ξ (bn (aB A)) (bm (aB A)) (bw (aB A)) (bt (aB A)) (cL (aB A) c) M ∧ Ms (cL (aB A) c) M ∧ Nu (cL (aB A) c) (sz M) ∧ sz M < nN (gE (aB A))) ⟨f02, fun _ => 12, s2, e_Ms _, ?_, by rw [sz_e]; omega⟩ (by decide) (fun c hc ξ hξ => ?_) (fun ξ hξ n => ?_)
      · rw [cL_0, sz_e]
        refine ⟨⟨_, e_Ms _, sz_e⟩, fun M hM => ?_⟩
        rw [show sz M = 0 from cnt_zero fun x _ => by
          cases y : decide (M x < 12) with
          | false => rfl
          | true => have := hM.2 x (of_decide_eq_true y); cases this]
        exact Nat.le_refl _
      · obtain ⟨fx, M, sx, mx, nx, lx⟩ := hξ
        have hb1 : BC ξ 1 (aB A) := hC.1.fr fx fun q i a c z => by unfold CQ at z; omega
        obtain ⟨ζ, b, e3, f3, s3, b01, bz⟩ := c_openCost hB (show c ≤ 99 by omega) hb1 sx
        have fζ : Fr CQ μ ζ := fx.trans (f3.mono fun q i z => by unfold CQ; omega)
        have c1 : (Int32.ofNat c > 99) = False := by rw [lgt_99 (by omega)]; exact eq_false (by omega)
        -- what is done with the count
        have fin : ∀ (η : MM) (M2 : Nat → Nat), Fr CQ μ η → SR η (bn (aB A)) (bm (aB A)) (bw (aB A)) (bt (aB A)) (cM (aB A) c) M2 → Ms (cM (aB A) c) M2 → Nu (cM (aB A) c) (sz M2) → (∀ n, f_X9_narrow_L20 f_X9_narrow_J65 f_X9_narrow_J73 (n + 1) 0 (Int32.ofNat (nN (gE (aB A)))) (Int32.ofNat c) (mem ξ) = f_X9_narrow_J51 (f_X9_narrow_L20 f_X9_narrow_J65 f_X9_narrow_J73 n) f_X9_narrow_J65 f_X9_narrow_J73 0 (Int32.ofNat (nN (gE (aB A)))) (Int32.ofNat c) (mem η)) →
            (∃ s', (Fr CQ μ s' ∧ ∃ M, SR s' (bn (aB A)) (bm (aB A)) (bw (aB A)) (bt (aB A)) (cL (aB A) (c + 1)) M ∧ Ms (cL (aB A) (c + 1)) M ∧ Nu (cL (aB A) (c + 1)) (sz M) ∧ sz M < nN (gE (aB A))) ∧ ∀ n, f_X9_narrow_L20 f_X9_narrow_J65 f_X9_narrow_J73 (n + 1) 0 (Int32.ofNat (nN (gE (aB A)))) (Int32.ofNat c) (mem ξ) = f_X9_narrow_L20 f_X9_narrow_J65 f_X9_narrow_J73 n 0 (Int32.ofNat (nN (gE (aB A)))) (Int32.ofNat (c + 1)) (mem s')) ∨ ∀ n, Hw (f_X9_narrow_L20 f_X9_narrow_J65 f_X9_narrow_J73 (n + 1) 0 (Int32.ofNat (nN (gE (aB A)))) (Int32.ofNat c) (mem ξ)) (fun r => ∃ x ξ, r = (x, mem ξ) ∧ Fr CQ μ ξ ∧ NRW (aB A) x) := fun η M2 fη sη mη nη e => by
          have es := c_size pr142 sη.2.2
          have h12 := sz_le M2
          by_cases y : sz M2 < nN (gE (aB A))
          · have y' : (Int32.ofNat (sz M2) < Int32.ofNat (nN (gE (aB A)))) = True := by rw [oN_lt (by omega) (by omega)]; exact eq_true y
            left
            rw [← cL_s] at sη mη nη
            refine ⟨η, ⟨fη, M2, sη, mη, nη, y⟩, fun n => ?_⟩
            rw [e]
            simp only [f_X9_narrow_J51, ↓hbind gR_0_4, ↓hbind gR_141_0, ↓hvc (fun _ => pr_v pr142), ↓hbind es, y', ↓reduceIte, lt, i_succ]
          · have y' : (Int32.ofNat (sz M2) < Int32.ofNat (nN (gE (aB A)))) = False := by rw [oN_lt (by omega) (by omega)]; exact eq_false y
            right
            intro n
            rw [e]
            simp only [f_X9_narrow_J51, ↓hbind gR_0_4, ↓hbind gR_141_0, ↓hvc (fun _ => pr_v pr142), ↓hbind es, y', ↓reduceIte, f_X9_narrow_J65]
            exact hw_ret ⟨_, η, rfl, fη, Or.inr ⟨z, c, by omega, rfl, by rw [← nη.nN]; omega, by rw [← nx.nN]; exact lx⟩⟩
        rcases b01 with rfl | rfl
        · have ee := bz rfl
          refine fin ζ M fζ s3 (by rw [ee]; exact mx) (by rw [ee]; exact nx) fun n => ?_
          simp only [f_X9_narrow_L20, c1, ↓reduceIte, ↓hbind gR_0_4, ↓hbind gR_0_0, ↓hvc (fun _ => vc_141), ↓hbind e3]
        · have mm : Ms (cM (aB A) c) M := mx.congr fun w t q => by
            unfold cL at q
            unfold cM
            simp only [Bool.and_eq_true, decide_eq_true_eq] at q ⊢
            exact ⟨q.1, by omega⟩
          have so : SOK (bn (aB A)) (bm (aB A)) (bw (aB A)) (cM (aB A) c) M := by
            rw [← cL_s] at mm ⊢
            exact cL_SOK hB mm
          obtain ⟨j, η, M2, e4, f4, s4, o4, g4⟩ := c_grow s3 so (Nat.le_refl 12)
          have e4 : f_X7_grow 141 12 (mem ζ) = some (Int32.ofNat j, mem η) := e4
          have n4 := g4.nu so.Eb mm
          refine fin η M2 (fζ.trans (f4.mono fun _ _ z => z.Q)) s4 n4.1 n4.2.1 fun n => ?_
          simp only [f_X9_narrow_L20, c1, ↓reduceIte, ↓hbind gR_0_4, ↓hbind gR_0_0, ↓hvc (fun _ => vc_141), ↓hbind e3, z_1, ↓hbind e4]
      · obtain ⟨fx, M, sx, mx, nx, lx⟩ := hξ
        rw [cL_100 hB] at nx
        have := nx.nN
        omega
    obtain ⟨r, e, x, ξ, rfl, h1, h2⟩ := key
    refine ⟨x, ξ, ?_, h1, h2⟩
    simp only [f_X9_narrow, ↓hvc (fun _ => vc_0), ↓hvc (fun _ => vc_141), ↓hbind e1, z', ↓reduceIte, ↓hbind gR_0_4, ↓hbind e2, e]
/-! the model -/
theorem MR.f191 (h : MR μ 0 B) {ν : MM} (f : Fr FBk μ ν) (hF : ∀ w, w < 12 → ∀ k, hb (ν.1 191 w) k = true → hb (bf B w) k = true) : MR ν 0 (mkB (bn B) (bm B) (bk B) (bw B) (bt B) (be B) (fun w => ν.1 191 w) (bc B) (bM B)) := by
  obtain ⟨⟨h0, h1, h2, h3, h4⟩, h5, h6, h7, h8⟩ := h
  refine ⟨⟨?_, ?_, ?_, ?_, ?_⟩, fun x hx => rfl, fun x hx => ?_, fun x hx => ?_, fun x s hx hs q => ?_⟩
  · rw [(f _ _ (by unfold FBk Fk; omega)).1]; exact h0
  · rw [(f _ _ (by unfold FBk Fk; omega)).1]; exact h1
  · rw [(f _ _ (by unfold FBk Fk; omega)).1]; exact h2
  · rw [(f _ _ (by unfold FBk Fk; omega)).1]; exact h3
  · rw [(f _ _ (by unfold FBk Fk; omega)).1]; exact h4
  · rw [(f _ _ (by unfold FBk Fk; omega)).1]; exact h6 x hx
  · rw [(f _ _ (by unfold FBk Fk; omega)).1]; exact h7 x hx
  · rw [(f _ _ (by unfold FBk Fk; omega)).1]; exact h8 x s hx hs (hF x hx s q)
/-- one worker's row, by cost -/
theorem m_nw_row {c : Nat} (hc : c ≤ 99) {i : Nat} (hi : i < 12) (e17 : μ.1 208 i = bf B i) (ec : ∀ t, t < 12 → hb (bf B i) t = true → μ.1 (249 + i) t = Int32.ofNat (bc B i t)) (hcc : ∀ t, bc B i t ≤ 99) (N : Int32) : ∀ (k j : Nat) (ν : MM), j + k = 12 → Fr (fun q a => q = 191 ∧ a = i) μ ν → (∀ t, hb (ν.1 191 i) t = true ↔ (t < j ∧ hb (bf B i) t = true ∧ bc B i t ≤ c)) →
    ∃ ξ, (∀ f K, f_X10_narrow_L58 K (k + 1 + f) 168 N (Int32.ofNat c) (Int32.ofNat i) (Int32.ofNat j) (mem ν) = K 168 N (Int32.ofNat c) (Int32.ofNat i) (mem ξ)) ∧ Fr (fun q a => q = 191 ∧ a = i) μ ξ ∧ ∀ t, hb (ξ.1 191 i) t = true ↔ (t < 12 ∧ hb (bf B i) t = true ∧ bc B i t ≤ c)
  | 0, j, ν, h, f, g => by
    have c' : (Int32.ofNat j ≥ 12) = True := by rw [lge_12 (by omega)]; exact eq_true (by omega)
    refine ⟨ν, fun e K => ?_, f, by rw [show j = 12 by omega] at g; exact g⟩
    rw [show 0 + 1 + e = e + 1 by omega]
    simp only [f_X10_narrow_L58, c', ↓reduceIte]
  | k + 1, j, ν, h, f, g => by
    have hj : j < 12 := by omega
    have c' : (Int32.ofNat j ≥ 12) = False := by rw [lge_12 (by omega)]; exact eq_false (by omega)
    have e17' : ν.1 208 i = bf B i := by rw [(f _ _ (by omega)).1]; exact e17
    have eh := m_has (x := bf B i) (h := mem ν) (show j < 32 by omega)
    have a17 : aI (mem ν) 208 (Int32.ofNat i) = some (bf B i) := by rw [← e17']; exact ma_f17 hi
    -- nothing comes
    have no : ¬ (hb (bf B i) j = true ∧ bc B i j ≤ c) → (∀ e K, f_X10_narrow_L58 K (k + 1 + e + 1) 168 N (Int32.ofNat c) (Int32.ofNat i) (Int32.ofNat j) (mem ν) = f_X10_narrow_J117 (f_X10_narrow_L58 K (k + 1 + e)) K 168 N (Int32.ofNat c) (Int32.ofNat i) (Int32.ofNat j) 191 (Int32.ofNat i) (ν.1 191 i) 0 (mem ν)) → ∃ ξ, (∀ f K, f_X10_narrow_L58 K (k + 1 + 1 + f) 168 N (Int32.ofNat c) (Int32.ofNat i) (Int32.ofNat j) (mem ν) = K 168 N (Int32.ofNat c) (Int32.ofNat i) (mem ξ)) ∧ Fr (fun q a => q = 191 ∧ a = i) μ ξ ∧ ∀ t, hb (ξ.1 191 i) t = true ↔ (t < 12 ∧ hb (bf B i) t = true ∧ bc B i t ≤ c) := fun np e => by
      obtain ⟨ξ, e2, r⟩ := m_nw_row hc hi e17 ec hcc N k (j + 1) (st ν 191 i (ν.1 191 i)) (by omega) (f.st ⟨rfl, rfl⟩) (fun t => by
        rw [st_same, g t]
        refine ⟨fun ⟨a, b⟩ => ⟨by omega, b⟩, fun ⟨a, b⟩ => ⟨?_, b⟩⟩
        have : t ≠ j := fun z => np (by rw [← z]; exact b)
        omega)
      refine ⟨ξ, fun e' K => ?_, r⟩
      rw [show k + 1 + 1 + e' = k + 1 + e' + 1 by omega, e, ← e2 e' K]
      simp only [f_X10_narrow_J117, or_zero', ↓hbind (ms_f0 hi), lt, i_succ]
    cases q : hb (bf B i) j with
    | false =>
      rw [q] at eh
      refine no (fun z => by rw [q] at z; cases z.1) fun e K => ?_
      simp only [f_X10_narrow_L58, c', ↓reduceIte, ↓hbind gR_168_10, ↓hbind mr_f0, ↓hbind mr_f17, ↓hbind (ma_f0 hi), ↓hbind a17, ↓hbind eh, show bI false = 0 from rfl, f_X10_narrow_J116]
    | true =>
      rw [q] at eh
      have ec' : ν.1 (249 + i) j = Int32.ofNat (bc B i j) := by rw [(f _ _ (by omega)).1]; exact ec j hj q
      have h99 := hcc j
      by_cases y : bc B i j ≤ c
      · have y' : (Int32.ofNat (bc B i j) > Int32.ofNat c) = False := by rw [oN_gt (by omega) (by omega)]; exact eq_false (by omega)
        obtain ⟨ξ, e2, r⟩ := m_nw_row hc hi e17 ec hcc N k (j + 1) (st ν 191 i (ν.1 191 i ||| ((1 : Int32) <<< (Int32.ofNat j &&& 31)))) (by omega) (f.st ⟨rfl, rfl⟩) (fun t => by
          rw [st_same, hb_or, hb_bit t (by omega), Bool.or_eq_true, decide_eq_true_eq, g t]
          constructor
          · rintro (⟨a, b⟩ | a)
            · exact ⟨by omega, b⟩
            · exact ⟨by omega, by rw [a]; exact q, by rw [a]; exact y⟩
          · rintro ⟨a, b⟩
            by_cases z : t = j
            · exact Or.inr z
            · exact Or.inl ⟨by omega, b⟩)
        refine ⟨ξ, fun e' K => ?_, r⟩
        rw [show k + 1 + 1 + e' = k + 1 + e' + 1 by omega, ← e2 e' K]
        simp only [f_X10_narrow_L58, c', ↓reduceIte, ↓hbind gR_168_10, ↓hbind mr_f0, ↓hbind mr_f17, ↓hbind (ma_f0 hi), ↓hbind a17, ↓hbind eh, show bI true = 1 from rfl, z_1, ↓hbind gR_168_13, ↓hbind mr_c0, ↓hbind (mc_c0 hi), ↓hbind (mc_a0 hi hj), ec', y', f_X10_narrow_J117, ↓hbind (ms_f0 hi), lt, i_succ]
      · have y' : (Int32.ofNat (bc B i j) > Int32.ofNat c) = True := by rw [oN_gt (by omega) (by omega)]; exact eq_true (by omega)
        refine no (fun z => y z.2) fun e K => ?_
        simp only [f_X10_narrow_L58, c', ↓reduceIte, ↓hbind gR_168_10, ↓hbind mr_f0, ↓hbind mr_f17, ↓hbind (ma_f0 hi), ↓hbind a17, ↓hbind eh, show bI true = 1 from rfl, z_1, ↓hbind gR_168_13, ↓hbind mr_c0, ↓hbind (mc_c0 hi), ↓hbind (mc_a0 hi hj), ec', y', f_X10_narrow_J116]
end Nb
