/-! OPERATIONS: chosen, class and model together -/
section Hd
variable {T : MM → Bk → Prop} {μ : MM} {A : AS} {B : Bk}
theorem m_chooses (hm : MR μ 0 B) (hB : BOK B) : ∃ (C : Nat → Bool) (ξ : MM), f_X10_chooses 168 (mem μ) = some (mem ξ) ∧ Fr FCh μ ξ ∧ (∀ k, hb (ξ.1 168 30) k = C k) ∧ ξ.1 168 31 = Int32.ofNat (wsum B C 12) ∧ ChS B C (fun _ => True) := by
  have fx : Fr FCh μ (st (st μ 168 30 0) 168 31 0) := ((Fr.refl FCh μ).st (Or.inr ⟨rfl, Or.inl rfl⟩)).st (Or.inr ⟨rfl, Or.inr rfl⟩)
  have key : Hw (f_X10_chooses_L12 f_X10_chooses_J31 5000 168 (Int32.ofNat 0) (mem (st (st μ 168 30 0) 168 31 0))) (fun r => ∃ (C : Nat → Bool) (ξ : MM), r = mem ξ ∧ Fr FCh μ ξ ∧ (∀ k, hb (ξ.1 168 30) k = C k) ∧ ξ.1 168 31 = Int32.ofNat (wsum B C 12) ∧ ChS B C (fun _ => True)) := by
    refine m_took (μ := st (st μ 168 30 0) 168 31 0) (L := fun n i h => f_X10_chooses_L12 f_X10_chooses_J31 n 168 i h) (K := fun h => f_X10_chooses_J31 168 h) (fun n i ν hi => ?_) (fun n ν => ?_) (fun ν h1 h2 _ => ?_)
    · have c : (Int32.ofNat i ≥ 12) = False := by rw [lge_12 (by omega)]; exact eq_false (by omega)
      simp only [f_X10_chooses_L12, c, ↓reduceIte, ↓hbind gR_168_28, ↓hbind (sI_486 hi), lt, i_succ]
    · have c : (Int32.ofNat 12 ≥ 12) = True := eq_true (by decide)
      simp only [f_X10_chooses_L12, c, ↓reduceIte]
    · have f1 : Fr FCh μ ν := fx.trans (h1.mono fun q i z => Or.inl z)
      have mi : MI B μ 99 0 ν := by
        refine ⟨fun _ => false, fun _ => 12, f1, h2, ⟨fun _ => Nat.le_refl _, fun _ _ => rfl, fun _ h => absurd h (Nat.lt_irrefl 12)⟩, fun _ _ _ h => absurd h (Nat.lt_irrefl 12), fun u hu => ⟨fun ⟨t, z⟩ => ?_, fun z => (by cases z)⟩, fun k => ?_, ?_, ⟨fun v q => (by cases q), fun w t p => ?_⟩⟩
        · have z : 12 = u := z
          omega
        · rw [(h1 _ _ (by unfold Fk; omega)).1, st_ne (Or.inr (by omega)), st_same, hb_zero]
        · rw [(h1 _ _ (by unfold Fk; omega)).1, st_same, wsum_0]; rfl
        · have p : 99 < be B w ∨ (be B w = 99 ∧ w < 0) := p
          have := hB.e w
          omega
      obtain ⟨C, ξ, r1, r2, r3, r4, e⟩ := m_ch_out hB hm 99 ν (by omega) mi
      have e : f_X10_chooses_L34 f_X10_chooses_J126 5000 168 99 (mem ν) = some (mem ξ) := e 4899
      show Hw (f_X10_chooses_J31 168 (mem ν)) _
      simp only [f_X10_chooses_J31, e]
      exact hw_ret ⟨C, ξ, rfl, r1, r2, r3, r4⟩
  obtain ⟨r, e, C, ξ, rfl, h⟩ := key
  refine ⟨C, ξ, ?_, h⟩
  have e : f_X10_chooses_L12 f_X10_chooses_J31 5000 168 0 (mem (st (st μ 168 30 0) 168 31 0)) = some (mem ξ) := e
  simp only [f_X10_chooses, ↓hbind pI_168_30, ↓hbind pI_168_31, e]
theorem m_chosen (hA : AOK A) (hM : RM μ A) {x : Int32} (c : x = 0 ∨ x = 1) : MX μ (f_X10_chosen 168 x (mem μ)) wc_L_chosen (SCh A x) := by
  obtain ⟨C, ξ, e, f, h30, h31, hc⟩ := m_chooses hM.t.1 hA.1
  have fq : Fr QM (tz μ) ξ := f.mono fun q i z => by unfold FCh Fk at z; unfold QM; omega
  refine ⟨_, _, ξ, A, ?_, t0_ML.trans (fq.mono fun _ _ z => z.L), hM.t.fr fq fun q i _ _ z => z, ⟨rfl, C, ξ.1 168 30, hc, h30, rfl⟩, ?_, rfl⟩
  · rcases c with rfl | rfl
    · simp only [f_X10_chosen, f_X10_chosen_J20, f_X10_chosen_J49, ↓hbind pI_t0, ↓hbind (m_in01 (show (0 : Int32) = 0 ∨ (0 : Int32) = 1 from Or.inl rfl)), z_1, ↓reduceIte, ↓hvc (fun _ => vc_168), ↓hbind m_b0t, ↓hbind e, ↓hbind gI_168_30]
    · simp only [f_X10_chosen, f_X10_chosen_J20, f_X10_chosen_J49, ↓hbind pI_t0, ↓hbind (m_in01 (show (1 : Int32) = 0 ∨ (1 : Int32) = 1 from Or.inr rfl)), z_1, ↓reduceIte, ↓hvc (fun _ => vc_168), ↓hbind m_b0t, ↓hbind e, ↓hbind gI_168_31, h31]
  · rw [(f _ _ (by unfold FCh Fk; omega)).1]; exact t0_0
theorem op_chosen (hT : TF T) (hA : AOK A) (hC : RC T μ A) (hM : RM μ A) (x : Int32) : OKc T μ (LB wc_L_chosen (f_X9_chosen 0 x) (f_X10_chosen 168 x)) := by
  by_cases c : x = 0 ∨ x = 1
  · exact LB_ok hT hM SCh.uq (c_chosen hT hA hC c) (fun ν hν => m_chosen hA hν c)
  · have d1 : ¬ x = 0 := fun z => c (Or.inl z)
    have d2 : ¬ x = 1 := fun z => c (Or.inr z)
    refine LB_ok hT hM (SA.uq (A := A)) (CX_A hT hC hA fun ν e => ?_) (fun ν hν => MX_A hν (w := 1) (b := 0) rfl (by decide) ?_)
    · simp only [f_X9_chosen, f_X9_chosen_J15, if_neg d1, if_neg d2, ↓hvc (fun _ => vc_0), ↓hbind e, ↓thr_er]
    · simp only [f_X10_chosen, f_X10_chosen_J20, ↓hbind pI_t0, ↓hbind (m_out01 c), ↓reduceIte, ↓hvc (fun _ => vc_168), ↓hbind (m_bA (show (1 : Int32) ≠ 0 by decide)), z_1]
end Hd
