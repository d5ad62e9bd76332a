/-! MATHEMATICS: what a text comes to is a book, places go on -/
def ROK (n i : Nat) : Rs → Prop
  | .inl (p, B, _) => i ≤ p ∧ p ≤ n ∧ BOK B
  | .inr (a, q) => 1 ≤ a ∧ a ≤ 5 ∧ q ≤ n
theorem ROK.le {n i j : Nat} {R : Rs} (h : ROK n i R) (hj : j ≤ i) : ROK n j R := by
  rcases R with ⟨p, B, k⟩ | ⟨a, q⟩
  · exact ⟨Nat.le_trans hj h.1, h.2.1, h.2.2⟩
  · exact h
section Rk
variable {n p : Nat} {y : Nat → Nat} {B : Bk} {kr : Bool}
theorem num_er {lo hi a q : Nat} (hp : p ≤ n) (h : num n y p lo hi = .inl (a, q)) : 1 ≤ a ∧ a ≤ 5 ∧ q ≤ n := by
  have l := skp_le (y := y) hp
  unfold num at h
  by_cases z : dge n y (skp n y p) = skp n y p
  · rw [if_pos z] at h; cases h; exact ⟨by omega, by omega, l.2⟩
  · rw [if_neg z] at h
    by_cases x : lo ≤ vlY y (dge n y (skp n y p) - skp n y p) (skp n y p) 0 ∧ vlY y (dge n y (skp n y p) - skp n y p) (skp n y p) 0 ≤ hi
    · rw [if_pos x] at h; cases h
    · rw [if_neg x] at h; cases h; exact ⟨by omega, by omega, l.2⟩
theorem lnFit_ok (hp : p ≤ n) (hB : BOK B) : ROK n p (lnFit n y p B kr) := by
  have n1 := hB.n1
  have m1 := hB.m1
  rcases q1 : num n y p 0 (bn B - 1) with ⟨a, q⟩ | ⟨w, s, p1⟩
  · have el : lnFit n y p B kr = .er a q := by simp only [lnFit, q1]
    rw [el]; exact num_er hp q1
  · obtain ⟨-, -, -, -, w12, _, _, hp1⟩ := num_ok hp q1
    rcases q2 : num n y p1 0 (bm B - 1) with ⟨a, q⟩ | ⟨t, s2, p2⟩
    · have el : lnFit n y p B kr = .er a q := by simp only [lnFit, q1, q2]
      rw [el]; exact num_er hp1 q2
    · obtain ⟨-, -, -, -, t12, _, _, hp2⟩ := num_ok hp1 q2
      have l3 := skp_le (y := y) hp2
      by_cases z : skp n y p2 < n ∧ dgY y (skp n y p2) = true
      · rcases q3 : num n y (skp n y p2) 0 99 with ⟨a, q⟩ | ⟨c, s3, p3⟩
        · have el : lnFit n y p B kr = .er a q := by simp only [lnFit, q1, q2, if_pos z, q3]
          rw [el]; exact num_er l3.2 q3
        · obtain ⟨-, -, -, -, c99, _, _, hp3⟩ := num_ok l3.2 q3
          have el : lnFit n y p B kr = .ok p3 (wF B w t c) kr := by simp only [lnFit, q1, q2, if_pos z, q3]
          rw [el]; exact ⟨by omega, hp3, wF_ok hB (by omega) (by omega) c99⟩
      · have el : lnFit n y p B kr = .ok (skp n y p2) (wF B w t 0) kr := by simp only [lnFit, q1, q2, if_neg z]
        rw [el]; exact ⟨by omega, l3.2, wF_ok hB (by omega) (by omega) (by omega)⟩
theorem lnWeight_ok (hp : p ≤ n) (hB : BOK B) : ROK n p (lnWeight n y p B kr) := by
  rcases q1 : num n y p 0 (bn B - 1) with ⟨a, q⟩ | ⟨w, s, p1⟩
  · have el : lnWeight n y p B kr = .er a q := by simp only [lnWeight, q1]
    rw [el]; exact num_er hp q1
  · obtain ⟨-, -, -, -, w12, _, _, hp1⟩ := num_ok hp q1
    rcases q2 : num n y p1 0 99 with ⟨a, q⟩ | ⟨v, s2, p2⟩
    · have el : lnWeight n y p B kr = .er a q := by simp only [lnWeight, q1, q2]
      rw [el]; exact num_er hp1 q2
    · obtain ⟨-, -, -, -, v99, _, _, hp2⟩ := num_ok hp1 q2
      have el : lnWeight n y p B kr = .ok p2 (wE B w v) kr := by simp only [lnWeight, q1, q2]
      rw [el]; exact ⟨by omega, hp2, wE_ok hB v99⟩
theorem lnKeep_ok {s : Nat} (hs : s ≤ p) (hp : p ≤ n) (hB : BOK B) : ROK n p (lnKeep n y s p B kr) := by
  unfold lnKeep
  by_cases z : kr = true
  · rw [if_pos z]; exact ⟨by omega, by omega, by omega⟩
  · rw [if_neg z]
    rcases q2 : num n y p 0 1 with ⟨a, q⟩ | ⟨v, s2, p2⟩
    · exact num_er hp q2
    · obtain ⟨-, -, -, -, v1, _, _, hp2⟩ := num_ok hp q2
      exact ⟨by omega, hp2, wk_ok hB v1⟩
theorem lnPair_ok (hp : p ≤ n) (hB : BOK B) : ROK n p (lnPair n y p B kr) := by
  have n12 := hB.n
  have m12' := hB.m
  rcases q1 : num n y p 0 (bn B - 1) with ⟨a, q⟩ | ⟨w, s, p1⟩
  · have el : lnPair n y p B kr = .er a q := by simp only [lnPair, q1]
    rw [el]; exact num_er hp q1
  · obtain ⟨-, -, -, -, w12, ps, se, hp1⟩ := num_ok hp q1
    by_cases z : hb (bw B) w = true ∧ bM B w = 12
    · rcases q2 : num n y p1 0 (bm B - 1) with ⟨a, q⟩ | ⟨t, s2, p2⟩
      · have el : lnPair n y p B kr = .er a q := by simp only [lnPair, q1, if_pos z, q2]
        rw [el]; exact num_er hp1 q2
      · obtain ⟨-, -, -, -, t12, _, _, hp2⟩ := num_ok hp1 q2
        by_cases x : (hb (bt B) t = true ∧ ow (bM B) t = 12) ∧ hb (bf B w) t = true
        · have el : lnPair n y p B kr = .ok p2 (wM B (jo (bM B) w t)) kr := by simp only [lnPair, q1, if_pos z, q2, if_pos x]
          rw [el]
          exact ⟨by omega, hp2, wM_ok hB (jo_Ms hB.M (by omega) (by omega) (by unfold gE; rw [x.2, z.1, x.1.1]; rfl))⟩
        · have el : lnPair n y p B kr = .er 4 s := by simp only [lnPair, q1, if_pos z, q2, if_neg x]
          rw [el]; exact ⟨by omega, by omega, by omega⟩
    · have el : lnPair n y p B kr = .er 4 s := by simp only [lnPair, q1, if_neg z]
      rw [el]; exact ⟨by omega, by omega, by omega⟩
theorem lnAway_ok (hp : p ≤ n) (hB : BOK B) : ROK n p (lnAway n y p B kr) := by
  have n1 := hB.n1
  have m1 := hB.m1
  have l1 := skp_le (y := y) hp
  have l2 := sme_le (y := y) l1.2
  unfold lnAway
  by_cases z7 : isW y (skp n y p) (sme n y (skp n y p)) (wdW 7) = true
  · rw [if_pos z7]
    rcases q1 : num n y (sme n y (skp n y p)) 0 (bn B - 1) with ⟨a, q⟩ | ⟨w, s, p1⟩
    · exact num_er l2.2 q1
    · obtain ⟨-, -, -, -, w12, ps, se, hp1⟩ := num_ok l2.2 q1
      show ROK n p (if hb (bw B) w = true ∧ bM B w = 12 then .ok p1 (wW B w false) kr else .er 5 s)
      split
      · exact ⟨by omega, hp1, wW_ok hB (by omega)⟩
      · exact ⟨by omega, by omega, by omega⟩
  · rw [if_neg z7]
    by_cases z8 : isW y (skp n y p) (sme n y (skp n y p)) (wdW 8) = true
    · rw [if_pos z8]
      rcases q1 : num n y (sme n y (skp n y p)) 0 (bm B - 1) with ⟨a, q⟩ | ⟨w, s, p1⟩
      · exact num_er l2.2 q1
      · obtain ⟨-, -, -, -, w12, ps, se, hp1⟩ := num_ok l2.2 q1
        show ROK n p (if hb (bt B) w = true ∧ ow (bM B) w = 12 then .ok p1 (wT B w false) kr else .er 5 s)
        split
        · exact ⟨by omega, hp1, wT_ok hB (by omega)⟩
        · exact ⟨by omega, by omega, by omega⟩
    · rw [if_neg z8]
      exact ⟨by omega, by omega, l1.2⟩
theorem ln1_ok (hp : p ≤ n) (hB : BOK B) : ROK n p (ln1 n y p B kr) := by
  have l1 := skp_le (y := y) hp
  have l2 := sme_le (y := y) l1.2
  unfold ln1
  split
  · exact (lnFit_ok l2.2 hB).le (by omega)
  · split
    · exact (lnAway_ok l2.2 hB).le (by omega)
    · split
      · exact (lnPair_ok l2.2 hB).le (by omega)
      · split
        · exact (lnWeight_ok l2.2 hB).le (by omega)
        · split
          · exact (lnKeep_ok l2.1 l2.2 hB).le (by omega)
          · exact ⟨by omega, by omega, l1.2⟩
theorem lnEnd_ok {i : Nat} {R : Rs} (h : ROK n i R) : ROK n (i + 1) (lnEnd n y R) := by
  rcases R with ⟨p, B, k⟩ | ⟨a, q⟩
  · obtain ⟨h1, h2, h3⟩ := h
    have l := skp_le (y := y) h2
    show ROK n (i + 1) (if skp n y p < n ∧ y (skp n y p) = 59 then .ok (skp n y p + 1) B k else .er 1 (skp n y p))
    split
    · rename_i z
      exact ⟨by omega, by omega, h3⟩
    · exact ⟨by omega, by omega, l.2⟩
  · exact h
theorem line_ok (hp : p ≤ n) (hB : BOK B) : ROK n (p + 1) (line n y p B kr) := lnEnd_ok (ln1_ok hp hB)
end Rk
theorem lines_ok {n : Nat} {y : Nat → Nat} : ∀ (d : Nat) {i : Nat} {R : Rs}, ROK n i R → ROK n i (lines n y d R)
  | 0, _, _, h => h
  | d + 1, i, .inr (a, q), h => h
  | d + 1, i, .inl (p, B, k), h => by
    obtain ⟨h1, h2, h3⟩ := h
    have l := skp_le (y := y) h2
    show ROK n i (if skp n y p < n then lines n y d (line n y (skp n y p) B k) else .ok (skp n y p) B k)
    split
    · exact lines_ok d ((line_ok l.2 h3).le (by omega))
    · exact ⟨by omega, l.2, h3⟩
/-! a book begun -/
theorem hb_all {N k : Nat} (hN : N ≤ 12) : hb ((1 <<< (Int32.ofNat N &&& 31)) - 1) k = decide (k < N) := by
  have p1 := Nat.two_pow_pos N
  have p2 : 2 ^ N ≤ 4096 := Nat.pow_le_pow_right (n := 2) (by decide) hN
  rw [one_shl hN, show (1 : Int32) = Int32.ofNat 1 from rfl, oN_sub p1, hb_nat _ _ (by omega), Nat.testBit_two_pow_sub_one]
theorem nB_ok {N M : Nat} (n1 : 1 ≤ N) (hN : N ≤ 12) (m1 : 1 ≤ M) (hM : M ≤ 12) : BOK (nB N M) := by
  refine ⟨⟨n1, hN, m1, hM, Nat.le_refl 1⟩, fun k h => ?_, fun k h => ?_, fun w t h => ?_, fun w => ?_, fun w t => ?_, ⟨e_Mt, fun w h => ?_⟩⟩
  · have h : hb ((1 <<< (Int32.ofNat N &&& 31)) - 1) k = true := h
    rw [hb_all hN, decide_eq_true_eq] at h; exact h
  · have h : hb ((1 <<< (Int32.ofNat M &&& 31)) - 1) k = true := h
    rw [hb_all hM, decide_eq_true_eq] at h; exact h
  · have h : hb 0 t = true := h
    rw [hb_zero] at h; cases h
  · show 1 ≤ 99; omega
  · show 0 ≤ 99; omega
  · have h : 12 < 12 := h
    omega
theorem rwn_ne {μ : MM} {q n p i : Nat} {f : Nat → Int32} (h : p ≠ q) : (rw_ μ q n f).1 p i = μ.1 p i := if_neg fun z => h z.1
theorem rwn_in {μ : MM} {q n i : Nat} {f : Nat → Int32} (h : i < n) : (rw_ μ q n f).1 q i = f i := if_pos ⟨rfl, h⟩
theorem bg_BC {μ : MM} {b N M : Nat} : BC (bgM μ b (Int32.ofNat N) (Int32.ofNat M)) b (nB N M) ∧ Fr (FB b) μ (bgM μ b (Int32.ofNat N) (Int32.ofNat M)) := by
  unfold bgM prM
  refine ⟨⟨⟨?_, ?_, ?_, ?_, ?_⟩, fun w hw => ?_, fun w hw => ?_, fun t ht => ?_, fun w t hw ht => ?_, e_Mt, fun w hw => ?_, fun t ht => ?_⟩, fun q i h => ?_⟩
  · rw [rwn_ne (by omega), rwn_ne (by omega), rwn_ne (by omega), rwn_ne (by omega), rwn_ne (by omega), rwn_ne (by omega), st_ne (Or.inr (by omega)), st_ne (Or.inr (by omega)), st_ne (Or.inr (by omega)), st_ne (Or.inr (by omega)), st_same]; rfl
  · rw [rwn_ne (by omega), rwn_ne (by omega), rwn_ne (by omega), rwn_ne (by omega), rwn_ne (by omega), rwn_ne (by omega), st_ne (Or.inr (by omega)), st_ne (Or.inr (by omega)), st_ne (Or.inr (by omega)), st_same]; rfl
  · rw [rwn_ne (by omega), rwn_ne (by omega), rwn_ne (by omega), rwn_ne (by omega), rwn_ne (by omega), rwn_ne (by omega), st_ne (Or.inr (by omega)), st_ne (Or.inr (by omega)), st_same]; rfl
  · rw [rwn_ne (by omega), rwn_ne (by omega), rwn_ne (by omega), rwn_ne (by omega), rwn_ne (by omega), rwn_ne (by omega), st_ne (Or.inr (by omega)), st_same]; rfl
  · rw [rwn_ne (by omega), rwn_ne (by omega), rwn_ne (by omega), rwn_ne (by omega), rwn_ne (by omega), rwn_ne (by omega), st_same]; rfl
  · rw [rwn_ne (by omega), rwn_ne (by omega), rwn_ne (by omega), rwn_ne (by omega), rwn_ne (by omega), rwn_in hw]; rfl
  · rw [rwn_ne (by omega), rwn_ne (by omega), rwn_ne (by omega), rwn_ne (by omega), rwn_in hw]; rfl
  · rw [rwn_ne (by omega), rwn_ne (by omega), rwn_ne (by omega), rwn_in ht]
    intro k
    show hb 0 k = (decide (k < 12) && hb 0 t)
    rw [hb_zero, hb_zero, Bool.and_false]
  · rw [rwn_ne (by omega), rwn_ne (by omega), rwn_in (by omega)]
    show (-1 : Int32) = if hb 0 t = true then _ else -1
    rw [if_neg (by rw [hb_zero]; simp)]
  · rw [rwn_ne (by omega), rwn_in hw]; exact (eI_ge (Nat.le_refl 12)).symm
  · rw [rwn_in ht, ow_none.mpr (fun w _ => by show 12 ≠ t; omega)]; exact (eI_ge (Nat.le_refl 12)).symm
  · unfold FB at h
    refine ⟨?_, rfl⟩
    rw [rwn_ne (by omega), rwn_ne (by omega), rwn_ne (by omega), rwn_ne (by omega), rwn_ne (by omega), rwn_ne (by omega), st_ne (Or.inl (by omega)), st_ne (Or.inl (by omega)), st_ne (Or.inl (by omega)), st_ne (Or.inl (by omega)), st_ne (Or.inl (by omega))]