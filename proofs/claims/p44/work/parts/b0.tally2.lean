/-! THE CLASS: the tally, one way put to a set of tasks -/
variable {Ξ : xH}
abbrev Q4 : Type := Int64 × Int64 × Int64 × Int32
/-- what the tally says of a set: ways, those of least cost, least code, least cost -/
def rd4 (μ : MM) (S : Nat) : Q4 := (μ.2 157 S, μ.2 158 S, μ.2 159 S, μ.1 160 S)
def pt (a b : Q4) (c : Int32) (k : Int64) : Q4 :=
  if b.1 = 0 then (b.1 + a.1, a.2.1, a.2.2.1 + k, a.2.2.2 + c)
  else if a.2.2.2 + c ≥ b.2.2.2 then
    if a.2.2.2 + c = b.2.2.2 then (b.1 + a.1, b.2.1 + a.2.1, lmin b.2.2.1 (a.2.2.1 + k), b.2.2.2) else (b.1 + a.1, b.2.1, b.2.2.1, b.2.2.2)
  else (b.1 + a.1, a.2.1, a.2.2.1 + k, a.2.2.2 + c)
theorem lg_0 (v : Int64) : (lg_cmp v 0 = 0) = (v = 0) := by
  refine propext ⟨fun z => ?_, fun z => by rw [z]; exact lg_refl 0⟩
  unfold lg_cmp at z
  by_cases h : v > 0
  · rw [if_pos h] at z; exact absurd z (by decide)
  · rw [if_neg h] at z
    by_cases e : v = 0
    · exact e
    · rw [if_neg e] at z; exact absurd z (by decide)
theorem l4096 {a : Nat} (h : a < 2147483648) : (Int32.ofNat a < (4096 : Int32)) = (a < 4096) := by
  have h1 : ((4096 : Int32) > Int32.ofNat a) = (a < 4096) := oN_gt (a := 4096) (b := a) (by decide) h
  exact h1
theorem g4096 {a : Nat} (h : a < 2147483648) : (Int32.ofNat a ≥ (4096 : Int32)) = (4096 ≤ a) := oN_ge (a := a) (b := 4096) h (by decide)
def FT8 (T q i : Nat) : Prop := (157 ≤ q ∧ q ≤ 160) ∧ i = T
section Pu
variable {μ : MM}
theorem c_put8_66 {S T : Nat} (hS : S < 4096) (hT : T < 4096) (ne : S ≠ T) (c : Int32) (k : Int64) : ∃ ξ, f_X8_put_J66 156 (Int32.ofNat S) (Int32.ofNat T) c k ((mX Ξ) μ) = some ((mX Ξ) ξ) ∧ Fr (FT8 T) μ ξ ∧ rd4 ξ T = (μ.2 157 T + μ.2 157 S, μ.2 158 S, k, c) := by
  obtain ⟨ν, hd⟩ : ∃ x, x = sj (sj (st μ 160 T c) 158 T (μ.2 158 S)) 159 T k := ⟨_, rfl⟩
  have f1 : Fr (FT8 T) μ ν := by rw [hd]; exact (((Fr.refl _ _).st (by unfold FT8; omega)).sj (by unfold FT8; omega)).sj (by unfold FT8; omega)
  have a7 : ν.2 157 T = μ.2 157 T := by rw [hd, sj_ne (Or.inl (by omega)), sj_ne (Or.inl (by omega))]; rfl
  have b7 : ν.2 157 S = μ.2 157 S := by rw [hd, sj_ne (Or.inl (by omega)), sj_ne (Or.inl (by omega))]; rfl
  refine ⟨sj ν 157 T (ν.2 157 T + ν.2 157 S), ?_, f1.sj (by unfold FT8; omega), ?_⟩
  · have e8 : (st μ 160 T c).2 158 S = μ.2 158 S := rfl
    rw [hd]
    simp only [f_X8_put_J66, ↓hbind gR_156_3, ↓hbind (sI_160 hT), ↓hbind gR_156_1, ↓hbind (aJ_158 hS), e8, ↓hbind (sJ_158 hT), ↓hbind gR_156_2, ↓hbind (sJ_159 hT), f_X8_put_J140, ↓hbind gR_156_0, ↓hbind (aJ_157 hT), ↓hbind (aJ_157 hS), ↓hbind (sJ_157 hT)]
  · unfold rd4
    rw [sj_same, sj_ne (Or.inl (by omega)), sj_ne (Or.inl (by omega)), sj_1, a7, b7, hd, sj_ne (Or.inl (by omega)), sj_same, sj_same, sj_1, sj_1, st_same]
theorem c_put8 {S T : Nat} (hS : S < 4096) (hT : T < 4096) (ne : S ≠ T) (c : Int32) (k : Int64) : ∃ ξ, f_X8_put 156 (Int32.ofNat S) (Int32.ofNat T) c k ((mX Ξ) μ) = some ((mX Ξ) ξ) ∧ Fr (FT8 T) μ ξ ∧ rd4 ξ T = pt (rd4 μ S) (rd4 μ T) c k := by
  have c1 : (Int32.ofNat S < 0) = False := oN_l0 (by omega)
  have c2 : (Int32.ofNat S ≥ 4096) = False := by rw [g4096 (by omega)]; exact eq_false (by omega)
  have c3 : (Int32.ofNat T < 0) = False := oN_l0 (by omega)
  have c4 : (Int32.ofNat T < 4096) = True := by rw [l4096 (by omega)]; exact eq_true hT
  have start : ∀ (X : Option xH), (if (lg_cmp (μ.2 157 T) (0 : Int64)) = (0 : Int32) then f_X8_put_J66 156 (Int32.ofNat S) (Int32.ofNat T) (μ.1 160 S + c) (μ.2 159 S + k) ((mX Ξ) μ) else
      if μ.1 160 S + c ≥ μ.1 160 T then
        if μ.1 160 S + c = μ.1 160 T then
          (sJ ((mX Ξ) μ) 158 (Int32.ofNat T) (μ.2 158 T + μ.2 158 S)).bind fun h17 =>
          (gR h17 8 156 2).bind fun v18 =>
          (gR h17 8 156 2).bind fun v19 =>
          (aJ h17 v19 (Int32.ofNat T)).bind fun v20 =>
          (sJ h17 v18 (Int32.ofNat T) (lmin v20 (μ.2 159 S + k))).bind fun h21 =>
          f_X8_put_J140 156 (Int32.ofNat S) (Int32.ofNat T) h21
        else f_X8_put_J140 156 (Int32.ofNat S) (Int32.ofNat T) ((mX Ξ) μ)
      else f_X8_put_J66 156 (Int32.ofNat S) (Int32.ofNat T) (μ.1 160 S + c) (μ.2 159 S + k) ((mX Ξ) μ)) = X → f_X8_put 156 (Int32.ofNat S) (Int32.ofNat T) c k ((mX Ξ) μ) = X := fun X e => by
    rw [← e]
    simp only [f_X8_put, c1, c2, c3, c4, ↓reduceIte, ↓hbind gR_156_3, ↓hbind (aI_160 hS), lt_go, ↓hbind gR_156_2, ↓hbind (aJ_159 hS), ↓hbind gR_156_0, ↓hbind (aJ_157 hT), ↓hbind (aI_160 hT), ↓hbind gR_156_1, ↓hbind (aJ_158 hT), ↓hbind (aJ_158 hS)]
  by_cases z : μ.2 157 T = 0
  · obtain ⟨ξ, e, f, r⟩ := c_put8_66 (Ξ := Ξ) (μ := μ) hS hT ne (μ.1 160 S + c) (μ.2 159 S + k)
    refine ⟨ξ, start _ ?_, f, ?_⟩
    · rw [if_pos (by rw [lg_0]; exact z)]; exact e
    · rw [r]
      unfold pt
      rw [if_pos (show (rd4 μ T).1 = 0 from z)]; rfl
  · have z' : ¬ (lg_cmp (μ.2 157 T) (0 : Int64) = 0) := by rw [lg_0]; exact z
    by_cases g : μ.1 160 S + c ≥ μ.1 160 T
    · by_cases q : μ.1 160 S + c = μ.1 160 T
      · obtain ⟨ν, hd⟩ : ∃ x, x = sj (sj μ 158 T (μ.2 158 T + μ.2 158 S)) 159 T (lmin (μ.2 159 T) (μ.2 159 S + k)) := ⟨_, rfl⟩
        have f1 : Fr (FT8 T) μ ν := by rw [hd]; exact ((Fr.refl _ _).sj (by unfold FT8; omega)).sj (by unfold FT8; omega)
        have a7 : ν.2 157 T = μ.2 157 T := by rw [hd, sj_ne (Or.inl (by omega)), sj_ne (Or.inl (by omega))]
        have b7 : ν.2 157 S = μ.2 157 S := by rw [hd, sj_ne (Or.inl (by omega)), sj_ne (Or.inl (by omega))]
        have a9 : (sj μ 158 T (μ.2 158 T + μ.2 158 S)).2 159 T = μ.2 159 T := by rw [sj_ne (Or.inl (by omega))]
        refine ⟨sj ν 157 T (ν.2 157 T + ν.2 157 S), start _ ?_, f1.sj (by unfold FT8; omega), ?_⟩
        · rw [if_neg z', if_pos g, if_pos q, hd]
          simp only [↓hbind (sJ_158 hT), ↓hbind gR_156_2, ↓hbind (aJ_159 hT), a9, ↓hbind (sJ_159 hT), f_X8_put_J140, ↓hbind gR_156_0, ↓hbind (aJ_157 hT), ↓hbind (aJ_157 hS), ↓hbind (sJ_157 hT)]
        · unfold pt
          rw [if_neg (show ¬ (rd4 μ T).1 = 0 from z), if_pos (show (rd4 μ S).2.2.2 + c ≥ (rd4 μ T).2.2.2 from g), if_pos (show (rd4 μ S).2.2.2 + c = (rd4 μ T).2.2.2 from q)]
          unfold rd4
          rw [sj_same, sj_ne (Or.inl (by omega)), sj_ne (Or.inl (by omega)), sj_1, a7, b7, hd, sj_ne (Or.inl (by omega)), sj_same, sj_same, sj_1, sj_1]
      · refine ⟨sj μ 157 T (μ.2 157 T + μ.2 157 S), start _ ?_, (Fr.refl _ _).sj (by unfold FT8; omega), ?_⟩
        · rw [if_neg z', if_pos g, if_neg q]
          simp only [f_X8_put_J140, ↓hbind gR_156_0, ↓hbind (aJ_157 hT), ↓hbind (aJ_157 hS), ↓hbind (sJ_157 hT)]
        · unfold pt
          rw [if_neg (show ¬ (rd4 μ T).1 = 0 from z), if_pos (show (rd4 μ S).2.2.2 + c ≥ (rd4 μ T).2.2.2 from g), if_neg (show ¬ (rd4 μ S).2.2.2 + c = (rd4 μ T).2.2.2 from q)]
          unfold rd4
          rw [sj_same, sj_ne (Or.inl (by omega)), sj_ne (Or.inl (by omega)), sj_1]
    · obtain ⟨ξ, e, f, r⟩ := c_put8_66 (Ξ := Ξ) (μ := μ) hS hT ne (μ.1 160 S + c) (μ.2 159 S + k)
      refine ⟨ξ, start _ ?_, f, ?_⟩
      · rw [if_neg z', if_neg g]; exact e
      · rw [r]
        unfold pt
        rw [if_neg (show ¬ (rd4 μ T).1 = 0 from z), if_neg (show ¬ (rd4 μ S).2.2.2 + c ≥ (rd4 μ T).2.2.2 from g)]; rfl
end Pu
