/-! OPERATIONS: trade -/
variable {Ξ : xH}
/-- what a trade between two workers gains -/
def gn (B : Bk) (v w : Nat) : Int32 := if bM B v < 12 ∧ bM B w < 12 ∧ hb (bf B v) (bM B w) = true ∧ hb (bf B w) (bM B v) = true then ((Int32.ofNat (bc B v (bM B v)) + Int32.ofNat (bc B w (bM B w))) - Int32.ofNat (bc B v (bM B w))) - Int32.ofNat (bc B w (bM B v)) else 0
abbrev TS : Type := Int32 × Int32 × Int32
def tst (B : Bk) (v w : Nat) (s : TS) : TS := if gn B v w ≤ s.1 then s else (gn B v w, Int32.ofNat v, Int32.ofNat w)
def trR (B : Bk) (v : Nat) : Nat → Nat → TS → TS
  | 0, _, s => s
  | k + 1, j, s => trR B v k (j + 1) (tst B v j s)
def trQ (B : Bk) (n : Nat) : Nat → Nat → TS → TS
  | 0, _, s => s
  | k + 1, i, s => trQ B n k (i + 1) (trR B i (n - (i + 1)) (i + 1) s)
def trF (B : Bk) : TS := trQ B (bn B) (bn B) 0 (0, -1, -1)
/-- what the search for a trade holds -/
def TI (B : Bk) (s : TS) : Prop := s = (0, -1, -1) ∨ ∃ v w, v < w ∧ w < bn B ∧ s = (gn B v w, Int32.ofNat v, Int32.ofNat w) ∧ 0 < gn B v w
theorem TI.ge {B : Bk} {s : TS} (h : TI B s) : 0 ≤ s.1 := by
  rcases h with rfl | ⟨v, w, _, _, rfl, h⟩
  · show (0 : Int32) ≤ 0; decide
  · exact Int32.le_of_lt h
theorem TI.one {B : Bk} {s : TS} {v w : Nat} (h : TI B s) (vw : v < w) (wn : w < bn B) : TI B (tst B v w s) := by
  unfold tst
  split
  · exact h
  · rename_i c
    exact Or.inr ⟨v, w, vw, wn, rfl, Int32.lt_of_le_of_lt h.ge (Int32.not_le.mp c)⟩
theorem TI.inn {B : Bk} {v : Nat} : ∀ (k j : Nat) {s : TS}, TI B s → v < j → j + k ≤ bn B → TI B (trR B v k j s)
  | 0, _, _, h, _, _ => h
  | k + 1, j, _, h, a, b => TI.inn k (j + 1) (h.one a (by omega)) (by omega) (by omega)
theorem TI.out {B : Bk} : ∀ (k i : Nat) {s : TS}, TI B s → i + k ≤ bn B → TI B (trQ B (bn B) k i s)
  | 0, _, _, h, _ => h
  | k + 1, i, _, h, a => TI.out k (i + 1) (TI.inn (bn B - (i + 1)) (i + 1) h (by omega) (by omega)) (by omega)
theorem trF_TI (B : Bk) : TI B (trF B) := TI.out _ _ (Or.inl rfl) (by omega)
section O13
variable {T : MM → Bk → Prop} {μ : MM} {A : AS} {B : Bk}
theorem c_gain (hb' : BC μ 1 B) (hB : BOK B) {v w : Nat} (hv : v < 12) (hw : w < 12) : f_X0_tradeGain 1 (Int32.ofNat v) (Int32.ofNat w) ((mX Ξ) μ) = some (gn B v w, (mX Ξ) μ) := by
  have p6 : prOK shI 6 = true := bk_pr bk1
  have ev := c_taskOf (Ξ := Ξ) (μ := μ) p6 hb'.2.2.2.2.2 hv
  have ew := c_taskOf (Ξ := Ξ) (μ := μ) p6 hb'.2.2.2.2.2 hw
  have s1 : f_X0_tradeGain 1 (Int32.ofNat v) (Int32.ofNat w) ((mX Ξ) μ) = (f_X0_isFit 1 (Int32.ofNat v) (eI (bM B w)) ((mX Ξ) μ)).bind fun r5 =>
      if r5.1 = (0 : Int32) then f_X0_tradeGain_J38 r5.2 else
      (vc r5.2 0 1 (f_X0_isFit 1 (Int32.ofNat w) (eI (bM B v)) r5.2)).bind fun r6 =>
      if r6.1 = (0 : Int32) then f_X0_tradeGain_J38 r6.2 else
      (vc r6.2 0 1 (f_X0_costOf 1 (Int32.ofNat v) (eI (bM B v)) r6.2)).bind fun r7 =>
      (vc r7.2 0 1 (f_X0_costOf 1 (Int32.ofNat w) (eI (bM B w)) r7.2)).bind fun r8 =>
      (vc r8.2 0 1 (f_X0_costOf 1 (Int32.ofNat v) (eI (bM B w)) r8.2)).bind fun r9 =>
      (vc r9.2 0 1 (f_X0_costOf 1 (Int32.ofNat w) (eI (bM B v)) r9.2)).bind fun r10 =>
      some ((((r7.1 + r8.1) - r9.1) - r10.1), r10.2) := by
    simp only [f_X0_tradeGain, ↓hbind (bk_r9 bk1), ↓hvc (fun _ => bk_v bk1), ↓hvc (fun _ => pr_v p6), ↓hbind ev, ↓hbind ew]
  rw [s1]
  by_cases c1 : bM B w < 12
  · rw [eI_lt c1]
    have f1 := c_isFit (Ξ := Ξ) bk1 hb' hB hv c1
    cases q1 : hb (bf B v) (bM B w) with
    | false =>
      rw [q1] at f1
      have e0 : gn B v w = 0 := if_neg (fun z => by rw [q1] at z; simp at z)
      rw [e0]
      simp only [↓hbind f1, show bI false = 0 from rfl, ↓reduceIte, f_X0_tradeGain_J38]
    | true =>
      rw [q1] at f1
      by_cases c2 : bM B v < 12
      · rw [eI_lt c2]
        have f2 := c_isFit (Ξ := Ξ) bk1 hb' hB hw c2
        cases q2 : hb (bf B w) (bM B v) with
        | false =>
          rw [q2] at f2
          have e0 : gn B v w = 0 := if_neg (fun z => by rw [q2] at z; simp at z)
          rw [e0]
          simp only [↓hbind f1, ↓hvc (fun _ => bk_v bk1), ↓hbind f2, show bI true = 1 from rfl, show bI false = 0 from rfl, z_1, ↓reduceIte, f_X0_tradeGain_J38]
        | true =>
          rw [q2] at f2
          have e0 : gn B v w = ((Int32.ofNat (bc B v (bM B v)) + Int32.ofNat (bc B w (bM B w))) - Int32.ofNat (bc B v (bM B w))) - Int32.ofNat (bc B w (bM B v)) := if_pos ⟨c2, c1, q1, q2⟩
          have g1 := c_costOf (Ξ := Ξ) bk1 hb' hv c2
          have g2 := c_costOf (Ξ := Ξ) bk1 hb' hw c1
          have g3 := c_costOf (Ξ := Ξ) bk1 hb' hv c1
          have g4 := c_costOf (Ξ := Ξ) bk1 hb' hw c2
          rw [if_pos (hB.fit c2).1] at g1
          rw [if_pos (hB.fit c1).1] at g2
          rw [if_pos q1] at g3
          rw [if_pos q2] at g4
          rw [e0]
          simp only [↓hbind f1, ↓hvc (fun _ => bk_v bk1), ↓hbind f2, show bI true = 1 from rfl, z_1, ↓reduceIte, ↓hbind g1, ↓hbind g2, ↓hbind g3, ↓hbind g4]
      · have f2 := c_isFit_e (Ξ := Ξ) (w := w) (t := bM B v) bk1 hb' hw (by omega)
        have e0 : gn B v w = 0 := if_neg (fun z => c2 z.1)
        rw [e0]
        simp only [↓hbind f1, ↓hvc (fun _ => bk_v bk1), ↓hbind f2, show bI true = 1 from rfl, z_1, ↓reduceIte, f_X0_tradeGain_J38]
  · have f1 := c_isFit_e (Ξ := Ξ) (w := v) (t := bM B w) bk1 hb' hv (by omega)
    have e0 : gn B v w = 0 := if_neg (fun z => c1 z.2.1)
    rw [e0]
    simp only [↓hbind f1, ↓reduceIte, f_X0_tradeGain_J38]
theorem c_tr_in (hb' : BC μ 1 B) (hB : BOK B) {v : Nat} (hv : v < 12) (K : Nat → Int32 → Int32 → Int32 → Int32 → xH → Option (Int32 × xH)) : ∀ (k j : Nat) (s : TS) (f : Nat), j + k = bn B → f_X9_trade_L27 K (k + 1 + f) 0 s.1 s.2.1 s.2.2 (Int32.ofNat v) (Int32.ofNat j) ((mX Ξ) μ) = K 0 (trR B v k j s).1 (trR B v k j s).2.1 (trR B v k j s).2.2 (Int32.ofNat v) ((mX Ξ) μ)
  | 0, j, s, f, h => by
    have e0 : μ.1 1 0 = Int32.ofNat (bn B) := hb'.1.1
    have hn := hB.n
    have c : (Int32.ofNat j ≥ Int32.ofNat (bn B)) = True := by rw [oN_ge (by omega) (by omega)]; exact eq_true (by omega)
    rw [show 0 + 1 + f = f + 1 by omega]
    simp only [f_X9_trade_L27, ↓hbind gR_0_0, ↓hbind (bk_i0 bk1), e0, c, ↓reduceIte, trR]
  | k + 1, j, s, f, h => by
    have e0 : μ.1 1 0 = Int32.ofNat (bn B) := hb'.1.1
    have hn := hB.n
    have c : (Int32.ofNat j ≥ Int32.ofNat (bn B)) = False := by rw [oN_ge (by omega) (by omega)]; exact eq_false (by omega)
    have eg := c_gain (Ξ := Ξ) hb' hB hv (show j < 12 by omega)
    have ih := c_tr_in hb' hB hv K k (j + 1) (tst B v j s) f (by omega)
    rw [show k + 1 + 1 + f = (k + 1 + f) + 1 by omega, trR]
    rw [← ih]
    unfold tst
    by_cases g : gn B v j ≤ s.1
    · rw [if_pos g]
      simp only [f_X9_trade_L27, f_X9_trade_J67, ↓hbind gR_0_0, ↓hbind (bk_i0 bk1), e0, c, ↓reduceIte, ↓hvc (fun _ => bk_v bk1), ↓hbind eg, if_pos g, lt, i_succ]
    · rw [if_neg g]
      simp only [f_X9_trade_L27, f_X9_trade_J67, ↓hbind gR_0_0, ↓hbind (bk_i0 bk1), e0, c, ↓reduceIte, ↓hvc (fun _ => bk_v bk1), ↓hbind eg, if_neg g, lt, i_succ]
theorem c_tr_out (hb' : BC μ 1 B) (hB : BOK B) (K : Nat → Int32 → Int32 → Int32 → xH → Option (Int32 × xH)) : ∀ (k i : Nat) (s : TS) (f : Nat), i + k = bn B → f_X9_trade_L9 K (k + 1 + f) 0 s.1 s.2.1 s.2.2 (Int32.ofNat i) ((mX Ξ) μ) = K 0 (trQ B (bn B) k i s).1 (trQ B (bn B) k i s).2.1 (trQ B (bn B) k i s).2.2 ((mX Ξ) μ)
  | 0, i, s, f, h => by
    have e0 : μ.1 1 0 = Int32.ofNat (bn B) := hb'.1.1
    have hn := hB.n
    have c : (Int32.ofNat i ≥ Int32.ofNat (bn B)) = True := by rw [oN_ge (by omega) (by omega)]; exact eq_true (by omega)
    rw [show 0 + 1 + f = f + 1 by omega]
    simp only [f_X9_trade_L9, ↓hbind gR_0_0, ↓hbind (bk_i0 bk1), e0, c, ↓reduceIte, trQ]
  | k + 1, i, s, f, h => by
    have e0 : μ.1 1 0 = Int32.ofNat (bn B) := hb'.1.1
    have hn := hB.n
    have c : (Int32.ofNat i ≥ Int32.ofNat (bn B)) = False := by rw [oN_ge (by omega) (by omega)]; exact eq_false (by omega)
    have ih := c_tr_out hb' hB K k (i + 1) (trR B i (bn B - (i + 1)) (i + 1) s) f (by omega)
    have ei := c_tr_in (Ξ := Ξ) hb' hB (show i < 12 by omega) (f_X9_trade_J73 (f_X9_trade_L9 K (k + 1 + f)) K) (bn B - (i + 1)) (i + 1) s (5000 - (bn B - (i + 1) + 1)) (by omega)
    rw [show bn B - (i + 1) + 1 + (5000 - (bn B - (i + 1) + 1)) = 5000 by omega] at ei
    rw [show k + 1 + 1 + f = (k + 1 + f) + 1 by omega, trQ]
    rw [← ih]
    simp only [f_X9_trade_L9, ↓hbind gR_0_0, ↓hbind (bk_i0 bk1), e0, c, ↓reduceIte, lt, i_succ, ei, f_X9_trade_J73]
/-- the swap, in the words of each -/
theorem sw_eq {M : Nat → Nat} (h : Mt M) {v w : Nat} (vw : v ≠ w) (h1 : M v < 12) (h2 : M w < 12) : jo (jo M v (M w)) w (M v) = up (up M v (M w)) w (M v) := by
  funext x
  unfold jo up
  by_cases e : x = w
  · rw [if_pos e, if_pos e]
  · rw [if_neg e, if_neg e]
    by_cases e2 : x = v
    · rw [if_pos e2, if_pos e2, if_neg]
      exact fun z => vw (h.2.2 v w h1 z.symm)
    · rw [if_neg e2, if_neg e2]
      have e3 : ¬ M x = M w := fun z => e (h.2.2 x w (by omega) z)
      rw [if_neg e3]
      exact if_neg fun z => e2 (h.2.2 x v (by omega) z)
theorem gn_pos {v w : Nat} (h : 0 < gn B v w) : bM B v < 12 ∧ bM B w < 12 ∧ hb (bf B v) (bM B w) = true ∧ hb (bf B w) (bM B v) = true := by
  unfold gn at h
  split at h
  · assumption
  · exact absurd h Int32.lt_irrefl
theorem sw_Ms (hB : BOK B) {v w : Nat} (vw : v ≠ w) (g : bM B v < 12 ∧ bM B w < 12 ∧ hb (bf B v) (bM B w) = true ∧ hb (bf B w) (bM B v) = true) : Ms (gE B) (jo (jo (bM B) v (bM B w)) w (bM B v)) := by
  obtain ⟨g1, g2, g3, g4⟩ := g
  have hv := hB.M.1.w12 g1
  have hw := hB.M.1.w12 g2
  obtain ⟨a1, a2, a3⟩ := hB.fit g1
  obtain ⟨b1, b2, b3⟩ := hB.fit g2
  exact jo_Ms (jo_Ms hB.M hv g2 (by unfold gE; rw [g3, a2, b3]; rfl)) hw g1 (by unfold gE; rw [g4, b2, a3]; rfl)
/-- what trade answers and does -/
def TA (A : AS) (x : Int32) (A' : AS) : Prop := x = (trF (aB A)).1 ∧ ((x = 0 ∧ A' = A) ∨ ∃ v w, v ≠ w ∧ 0 < x ∧ trF (aB A) = (x, Int32.ofNat v, Int32.ofNat w) ∧ v < 12 ∧ w < 12 ∧ A' = wAct A (wM (aB A) (jo (jo (bM (aB A)) v (bM (aB A) w)) w (bM (aB A) v))))
theorem TA.uq : UQ (TA A) := by
  rintro x A1 y A2 ⟨rfl, h⟩ ⟨rfl, h'⟩
  refine ⟨rfl, ?_⟩
  rcases h with ⟨h, rfl⟩ | ⟨v, w, _, h, e, v2, w2, rfl⟩
  · rcases h' with ⟨_, rfl⟩ | ⟨v, w, _, h', _⟩
    · rfl
    · rw [h] at h'; exact absurd h' Int32.lt_irrefl
  · rcases h' with ⟨h', rfl⟩ | ⟨v', w', _, h', e', v2', w2', rfl⟩
    · rw [h'] at h; exact absurd h Int32.lt_irrefl
    · rw [e] at e'
      have q := congrArg Prod.snd e'
      have q1 : v = v' := (oN_inj (by omega) (by omega)).mp (congrArg Prod.fst q)
      have q2 : w = w' := (oN_inj (by omega) (by omega)).mp (congrArg Prod.snd q)
      rw [q1, q2]
theorem c_trade (hT : TF T) (hA : AOK A) (hC : RC T μ A) : ∃ x ν A', f_X9_trade 0 ((mX Ξ) μ) = some (x, (mX Ξ) ν) ∧ Fr CL μ ν ∧ RC T ν A' ∧ AOK A' ∧ TA A x A' := by
  have hB := hA.1
  have hn := hB.n
  have p6 : prOK shI 6 = true := bk_pr bk1
  have s1 : f_X9_trade 0 ((mX Ξ) μ) = f_X9_trade_J79 0 (trF (aB A)).1 (trF (aB A)).2.1 (trF (aB A)).2.2 ((mX Ξ) μ) := by
    have e := c_tr_out (Ξ := Ξ) hC.1 hB f_X9_trade_J79 (bn (aB A)) 0 (0, -1, -1) (5000 - (bn (aB A) + 1)) (by omega)
    rw [show bn (aB A) + 1 + (5000 - (bn (aB A) + 1)) = 5000 by omega] at e
    exact e
  rcases trF_TI (aB A) with q | ⟨v, w, vw, wn, q, g⟩
  · have q1 : (trF (aB A)).1 = 0 := by rw [q]
    refine ⟨0, μ, A, ?_, Fr.refl _ _, hC, hA, q1.symm, Or.inl ⟨rfl, rfl⟩⟩
    rw [s1, q1]
    simp only [f_X9_trade_J79, f_X9_trade_J99, z_4, ↓reduceIte]
  · obtain ⟨g1, g2, g3, g4⟩ := gn_pos g
    have v2 : v < 12 := by omega
    have w2 : w < 12 := by omega
    have ng : (gn (aB A) v w ≤ 0) = False := eq_false (Int32.not_le.mpr g)
    obtain ⟨ν1, e1, b1, h1, z1, f1⟩ := c_beginAct (Ξ := Ξ) hC hA
    obtain ⟨ν2, e2, b2, f2⟩ := c_swap (Ξ := Ξ) p6 b1.2.2.2.2.2 v2 w2 g1 g2
    have f2' : Fr (FB 1) ν1 ν2 := f2.mono fun q i z => by unfold FP at z; unfold FB; omega
    have ff : Fr (fun q i => FS q i ∨ FB 1 q i ∨ FH q i ∨ (q = 0 ∧ i = 9)) μ ν2 := (f1.mono fun q i z => Or.inr (Or.inr z)).trans (f2'.mono fun q i z => Or.inr (Or.inl z))
    refine ⟨gn (aB A) v w, ν2, wAct A (wM (aB A) (jo (jo (bM (aB A)) v (bM (aB A) w)) w (bM (aB A) v))), ?_, ff.mono fun q i z => by unfold FS FB FH at z; unfold CL; omega, hC.act hT (b1.prs b2 f2) (h1.fr f2' fun q i a z => by unfold FH at a; unfold FB at z; omega) ?_ ff, wAct_ok hA (wM_ok hB (sw_Ms hB (by omega) ⟨g1, g2, g3, g4⟩)), by rw [q], Or.inr ⟨v, w, by omega, g, q, v2, w2, rfl⟩⟩
    · rw [s1, q]
      simp only [f_X9_trade_J79, f_X9_trade_J99, ng, ↓reduceIte, ↓hvc (fun _ => vc_0), ↓hbind e1, ↓hbind gR_0_0, ↓hbind (bk_r9 bk1), ↓hvc (fun _ => pr_v p6), ↓hbind e2]
    · rw [(f2' _ _ (by unfold FB; omega)).1]; exact z1
end O13
