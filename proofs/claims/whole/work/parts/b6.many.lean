/-! THE MODEL: many, a worker's fits added to all sets -/
section My
variable {μ : MM} {B : Bk}
def FMy (q _i : Nat) : Prop := q = 502 ∨ q = 503
theorem MR.my {ν : MM} (h : MR μ 0 B) (f : Fr FMy μ ν) : MR ν 0 B := h.fr f fun q i a z => by unfold FR at a; unfold FMy at z; omega
theorem m_my_init {full : Nat} (hf : full ≤ 4096) : ∀ (d i : Nat) (ν : MM), i + d = full → (∀ S, S < i → ν.2 502 S = if S = 0 then 1 else 0) → ∃ ξ, (∀ f K x2, f_X10_many_L23 K (d + 1 + f) 168 (Int32.ofNat full) x2 (Int32.ofNat i) (mem ν) = K 168 (Int32.ofNat full) x2 (mem ξ)) ∧ Fr FMy ν ξ ∧ ∀ S, S < full → ξ.2 502 S = if S = 0 then 1 else 0
  | 0, i, ν, h, hz => by
    have c : (Int32.ofNat i ≥ Int32.ofNat full) = True := by rw [oN_ge (by omega) (by omega)]; exact eq_true (by omega)
    refine ⟨ν, fun f K x2 => ?_, Fr.refl _ _, fun S hS => hz S (by omega)⟩
    rw [show 0 + 1 + f = f + 1 by omega]
    simp only [f_X10_many_L23, c, ↓reduceIte]
  | d + 1, i, ν, h, hz => by
    have c : (Int32.ofNat i ≥ Int32.ofNat full) = False := by rw [oN_ge (by omega) (by omega)]; exact eq_false (by omega)
    have hi : i < 4096 := by omega
    obtain ⟨ν1, hd⟩ : ∃ x, x = sj ν 502 i (if i = 0 then 1 else 0) := ⟨_, rfl⟩
    have f1 : Fr FMy ν ν1 := by rw [hd]; exact (Fr.refl _ _).sj (by unfold FMy; omega)
    obtain ⟨ξ, a, b, g⟩ := m_my_init hf d (i + 1) ν1 (by omega) (fun S hS => by
      rw [hd]
      by_cases z : S = i
      · rw [z, sj_same]
      · rw [sj_ne (Or.inr z)]; exact hz S (by omega))
    refine ⟨ξ, fun f K x2 => ?_, f1.trans b, g⟩
    rw [show d + 1 + 1 + f = d + 1 + f + 1 by omega, ← a f K x2, hd]
    by_cases z : i = 0
    · have c0 : (Int32.ofNat i = 0) = True := by rw [z]; exact eq_true rfl
      rw [if_pos z]
      simp only [f_X10_many_L23, c, ↓reduceIte, ↓hbind gR_168_35, c0, f_X10_many_J42, ↓hbind (sJ_502 hi), lt_go, i_succ]
    · have c0 : (Int32.ofNat i = 0) = False := by rw [leq_0 (by omega)]; exact eq_false z
      rw [if_neg z]
      simp only [f_X10_many_L23, c, ↓reduceIte, ↓hbind gR_168_35, c0, f_X10_many_J42, ↓hbind (sJ_502 hi), lt_go, i_succ]
/-- the sets are taken over -/
theorem m_my_copy {full : Nat} {F : Nat → Int64} (hf : full ≤ 4096) : ∀ (d i : Nat) (ν : MM), i + d = full → (∀ S, S < full → ν.2 503 S = F S) → (∀ S, S < i → ν.2 502 S = F S) → ∃ ξ, (∀ f K x2 x3, f_X10_many_L179 K (d + 1 + f) 168 (Int32.ofNat full) x2 x3 (Int32.ofNat i) (mem ν) = K 168 (Int32.ofNat full) x2 x3 (mem ξ)) ∧ Fr (fun q _ => q = 502) ν ξ ∧ ∀ S, S < full → ξ.2 502 S = F S
  | 0, i, ν, h, h3, hz => by
    have c : (Int32.ofNat i ≥ Int32.ofNat full) = True := by rw [oN_ge (by omega) (by omega)]; exact eq_true (by omega)
    refine ⟨ν, fun f K x2 x3 => ?_, Fr.refl _ _, fun S hS => hz S (by omega)⟩
    rw [show 0 + 1 + f = f + 1 by omega]
    simp only [f_X10_many_L179, c, ↓reduceIte]
  | d + 1, i, ν, h, h3, hz => by
    have c : (Int32.ofNat i ≥ Int32.ofNat full) = False := by rw [oN_ge (by omega) (by omega)]; exact eq_false (by omega)
    have hi : i < 4096 := by omega
    have e3 := h3 i (by omega)
    obtain ⟨ν1, hd⟩ : ∃ x, x = sj ν 502 i (F i) := ⟨_, rfl⟩
    have f1 : Fr (fun q _ => q = 502) ν ν1 := by rw [hd]; exact (Fr.refl _ _).sj rfl
    obtain ⟨ξ, a, b, g⟩ := m_my_copy (F := F) hf d (i + 1) ν1 (by omega) (fun S hS => by rw [(f1 _ _ (by omega)).2]; exact h3 S hS) (fun S hS => by
      rw [hd]
      by_cases z : S = i
      · rw [z, sj_same]
      · rw [sj_ne (Or.inr z)]; exact hz S (by omega))
    refine ⟨ξ, fun f K x2 x3 => ?_, f1.trans b, g⟩
    rw [show d + 1 + 1 + f = d + 1 + f + 1 by omega, ← a f K x2 x3, hd]
    simp only [f_X10_many_L179, c, ↓reduceIte, ↓hbind gR_168_35, ↓hbind gR_168_36, ↓hbind (aJ_503 hi), e3, ↓hbind (sJ_502 hi), lt_go, i_succ]
end My
