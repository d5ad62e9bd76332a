/-! THE CLASS: the tally is run; what it lays down -/
variable {Ξ : xH}
def FTal (q _i : Nat) : Prop := 156 ≤ q ∧ q ≤ 161
def TT (μ : MM) (B : Bk) : Prop := ∃ N, Nu (gE B) N ∧ lsB (gE B) (bc B) N 12 0 < 1000000 ∧ μ.2 156 5 = Int64.ofNat (FN (gE B) (bc B) N (2 ^ bm B)).length ∧ μ.1 156 7 = Int32.ofNat (lsB (gE B) (bc B) N 12 0) ∧ μ.2 156 6 = Int64.ofNat (lsW (gE B) (bc B) N 12 0) ∧ ∀ w, w < 12 → μ.1 161 w = eI (gW (gE B) (bc B) N w)
theorem TT_F : TF TT := fun _ _ _ h1 h2 ⟨N, a, b, c, d, e, f⟩ => ⟨N, a, b, (h1 5).2.trans c, (h1 7).1.trans d, (h1 6).2.trans e, fun w hw => (h2 w).trans (f w hw)⟩
section Ta2
variable {μ : MM} {B : Bk} {M : Nat → Nat} {N : Nat}
theorem BOK.c99 (hB : BOK B) : ∀ w t, bc B w t ≤ 99 := hB.2.2.2.2.2.1
theorem BOK.Em (hB : BOK B) : ∀ i j, gE B i j = true → j < bm B := fun i j z => (hB.SOK.2.2.1 i j z).2.1
theorem tal_go {ν ξ ζ : MM} {x3 x4 : Int32} {x5 : Int64} (e2 : f_X8_finish_L20 f_X8_finish_J175 5000 156 x3 x4 0 0 ((mX Ξ) (st (sj (sj ν 156 5 0) 156 6 0) 156 7 0)) = f_X8_finish_J175 156 x5 ((mX Ξ) ξ)) (e3 : f_X8_decode 156 x5 ((mX Ξ) ξ) = some ((mX Ξ) ζ)) : f_X8_run_J148 156 x3 x4 ((mX Ξ) ν) = some ((mX Ξ) ζ) := by
  have e4 := fin_go (Ξ := Ξ) (e2.trans (show _ = some ((mX Ξ) ζ) by simp only [f_X8_finish_J175, ↓hvc (fun _ => vc_156), ↓hbind e3]))
  simp only [f_X8_run_J148, ↓hvc (fun _ => vc_156), ↓hbind e4]
theorem c_tally (hB : BOK B) (hb1 : BC μ 1 B) (hS : SR μ (bn B) (bm B) (bw B) (bt B) (gE B) M) (hM : Ms (gE B) M) (hN : Nu (gE B) N) (hs : sz M = N) : ∃ ξ, f_X8_run 156 1 141 (Int32.ofNat N) ((mX Ξ) μ) = some ((mX Ξ) ξ) ∧ Fr FTal μ ξ ∧ TT ξ B := by
  obtain ⟨ν, old, e1, f1, o0, o1, r1⟩ := c_run8 (Ξ := Ξ) (N := N) hB hb1 hS
  have hc := hB.c99
  have hm : bm B ≤ 12 := hB.m
  have hE := hB.Em
  have N12 : N ≤ 12 := by rw [← hs]; exact sz_le _
  have full12 : 2 ^ bm B ≤ 4096 := Nat.pow_le_pow_right (n := 2) (by decide) hm
  have hQ : ∀ S, S < 2 ^ bm B → cnt (fun k => S.testBit k) 12 = N → Rf (off 12) (AL (gE B) (bc B) 12 S) (tR B (bw B) N old 12 S) := fun S hS z => tR_f hB N12 o0 o1 12 (Nat.le_refl 12) S hS (by omega)
  obtain ⟨ν0, hd⟩ : ∃ x, x = st (sj (sj ν 156 5 0) 156 6 0) 156 7 0 := ⟨_, rfl⟩
  have f0 : Fr FF8 ν ν0 := by rw [hd]; exact (((Fr.refl _ _).sj (by unfold FF8; omega)).sj (by unfold FF8; omega)).st (by unfold FF8; omega)
  have i0 : Rf (off 12) [] (bQ ν0 0) := ⟨by rw [hd]; rfl, fun y => absurd rfl y⟩
  have ho : off 12 < 1000000000000000000 := by rw [off_12]; decide
  obtain ⟨ξ, x3, e2, f2, g2⟩ := fin_loop (Ξ := Ξ) (o := off 12) N12 full12 (Q := tR B (bw B) N old 12) (l := AL (gE B) (bc B) 12) ho hQ (fun S => AL_Bd hc (Nat.le_refl 12)) (fun n hn => FN_Bd hc (Nat.le_trans hn full12)) (2 ^ bm B) 0 ν0 0 (by omega) (fun S hS => by rw [rd4_fr f0 fun q a b z => by unfold FF8 at z; omega]; exact r1 S hS) i0
  have g2 : Rf (off 12) (FN (gE B) (bc B) N (2 ^ bm B)) (bQ ξ x3) := g2
  obtain ⟨g3, g4⟩ := g2
  obtain ⟨L, k, hl, gn, gk, gL⟩ := g4 (FN_ne hm hE hM hs)
  obtain ⟨l1, l2, l3, l4⟩ := FN_least hc hm hE hl
  have k13 : k < 23298085122481 := by
    have := gc_lt (E := gE B) (c := bc B) (N := N) 12 0
    have e : 13 ^ 12 = 23298085122481 := by decide +kernel
    omega
  obtain ⟨ζ, e3, f3, g5⟩ := c_decode (Ξ := Ξ) (μ := ξ) k13
  have gk : x3 = Int64.ofInt ((k : Int) - ((off 12 : Nat) : Int)) := gk
  rw [← gk] at e3
  have e2 : f_X8_finish_L20 f_X8_finish_J175 5000 156 (Int32.ofNat N) (Int32.ofNat (2 ^ bm B)) 0 0 ((mX Ξ) ν0) = f_X8_finish_J175 156 x3 ((mX Ξ) ξ) := by
    have h := e2 (5000 - (2 ^ bm B + 1)) f_X8_finish_J175
    have ef : 2 ^ bm B + 1 + (5000 - (2 ^ bm B + 1)) = 5000 := by omega
    rw [ef] at h
    exact h
  rw [hd] at e2
  have ft : Fr FTal μ ζ := (((f1.mono fun q i z => by unfold FT9 at z; unfold FTal; omega).trans (f0.mono fun q i z => by unfold FF8 at z; unfold FTal; omega)).trans (f2.mono fun q i z => by unfold FF8 at z; unfold FTal; omega)).trans (f3.mono fun q i z => by unfold FTal; omega)
  refine ⟨ζ, by rw [e1]; exact tal_go e2 e3, ft, N, hN, l4, ?_, ?_, ?_, fun w hw => ?_⟩
  · rw [(f3 _ _ (by omega)).2]; exact g3
  · rw [(f3 _ _ (by omega)).1, ← l1]; exact gL
  · rw [(f3 _ _ (by omega)).2, ← l3]; exact gn
  · rw [g5 w hw, l2, gW_dig hw]
end Ta2
section Ta3
variable {T : MM → Bk → Prop} {μ : MM} {A : AS}
theorem RC.tal {ν : MM} {P : Nat → Nat → Prop} (h : RC T μ A) (f : Fr P μ ν) (n : ∀ q i, q < 168 → P q i → CQ q i ∨ (156 ≤ q ∧ q ≤ 161) ∨ (q = 0 ∧ i = 9)) (h9 : ν.1 0 9 = 0 ∨ (ν.1 0 9 = 1 ∧ T ν (aB A))) : RC T ν A := by
  obtain ⟨h1, h2, ⟨h3, h4⟩, h5, h6, h7, h8⟩ := h
  have nn : ∀ q i, q < 168 → ¬ CQ q i → ¬ (156 ≤ q ∧ q ≤ 161) → ¬ (q = 0 ∧ i = 9) → ¬ P q i := fun q i a b c d z => by
    rcases n q i a z with y | y | y
    · exact b y
    · exact c y
    · exact d y
  refine ⟨h1.fr f fun q i a c => nn q i (by omega) (by unfold CQ; omega) (by omega) (by omega), h2.fr f fun q i a => nn q i (by unfold FH at a; omega) (by unfold FH at a; unfold CQ; omega) (by unfold FH at a; omega) (by unfold FH at a; omega), ⟨?_, fun k hk => ?_⟩, ?_, ?_, ?_, h9⟩
  · rw [(f _ _ (nn _ _ (by omega) (by unfold CQ; omega) (by omega) (by omega))).1]; exact h3
  · rw [(f _ _ (nn _ _ (by omega) (by unfold CQ; omega) (by omega) (by omega))).1]; exact h4 k hk
  · rw [(f _ _ (nn _ _ (by omega) (by unfold CQ; omega) (by omega) (by omega))).1]; exact h5
  · rw [(f _ _ (nn _ _ (by omega) (by unfold CQ; omega) (by omega) (by omega))).1]; exact h6
  · rw [(f _ _ (nn _ _ (by omega) (by unfold CQ; omega) (by omega) (by omega))).1]; exact h7
end Ta3
section Ta4
variable {μ : MM} {A : AS}
theorem c_runTally (hC : RC TT μ A) (hA : AOK A) : ∃ ν, f_X9_runTally 0 ((mX Ξ) μ) = some ((mX Ξ) ν) ∧ Fr CL μ ν ∧ RC TT ν A ∧ TT ν (aB A) := by
  have hB := hA.1
  rcases hC.2.2.2.2.2.2 with h9 | ⟨h9, hT⟩
  · obtain ⟨ν, k, M', e1, f1, s1, o1, g⟩ := c_makeMost (Ξ := Ξ) hC hA
    obtain ⟨gm, gn, -⟩ := g.nu hB.Eb hB.M
    have fq : Fr CQ μ ν := f1.mono fun _ _ z => z.Q
    have c1 := hC.fr TT_F fq fun q i _ z => Or.inl z
    obtain ⟨ξ, e2, f2, t2⟩ := c_tally (Ξ := Ξ) (N := sz M') hB c1.1 s1 gm gn rfl
    obtain ⟨ζ, hd⟩ : ∃ x, x = st ξ 0 9 1 := ⟨_, rfl⟩
    have f3 : Fr (fun q i => q = 0 ∧ i = 9) ξ ζ := by rw [hd]; exact (Fr.refl _ _).st ⟨rfl, rfl⟩
    have t3 : TT ζ (aB A) := TT_F ξ ζ _ (fun i => f3 _ _ (by omega)) (fun i => (f3 _ _ (by omega)).1) t2
    have fc : Fr (fun q i => FTal q i ∨ (q = 0 ∧ i = 9)) ν ζ := (f2.mono fun q i z => Or.inl z).trans (f3.mono fun q i z => Or.inr z)
    have ez : pZ ((mX Ξ) ξ) 9 0 9 1 = some ((mX Ξ) (st ξ 0 9 1)) := pZ_x (by decide +kernel) (Or.inr rfl)
    refine ⟨ζ, ?_, (fq.mono fun _ _ z => z.L).trans (fc.mono fun q i z => by unfold FTal at z; unfold CL; omega), c1.tal fc (fun q i _ z => by unfold FTal at z; omega) (Or.inr ⟨by rw [hd, st_same], t3⟩), t3⟩
    rw [hd]
    simp only [f_X9_runTally, ↓hbind gI_0_9, h9, ↓reduceIte, ↓hvc (fun _ => vc_0), ↓hbind e1, ↓hbind gR_0_7, ↓hbind gR_0_0, ↓hbind gR_0_4, ↓hvc (fun _ => vc_156), ↓hbind e2, ↓hbind ez, f_X9_runTally_J33]
  · refine ⟨μ, ?_, Fr.refl _ _, hC, hT⟩
    have n10 : ((1 : Int32) = 0) = False := by decide
    simp only [f_X9_runTally, ↓hbind gI_0_9, h9, n10, ↓reduceIte, f_X9_runTally_J33]
end Ta4
