/-! THE CLASS: the tally says of each set that is not pruned what there is of its assignments -/
set_option maxRecDepth 100000 in
theorem ks_tab : ∀ i, i < 12 → ∀ j, j < 12 → ksT (x6s i) j = Int64.ofInt (((j * dg i : Nat) : Int) - ((12 * dg i : Nat) : Int)) := by decide +kernel
section Rg
variable {B : Bk} {N : Nat} {old : Nat → Q4}
theorem catj_nil {f : Nat → Fam} : ∀ {n : Nat}, (∀ k, k < n → f k = []) → catj f n = []
  | 0, _ => rfl
  | n + 1, h => by
    show catj f n ++ f n = []
    rw [catj_nil fun k hk => h k (by omega), h n (by omega)]; rfl
theorem Rf_none {o d : Nat} {l : Fam} {q : Q4} (h : Rf o l q) : Rf (o + d) (shf 0 d l) q := by
  have := Rf_shf (o' := o + d) (c := 0) (k := d) (x := 0) h (by
    rw [show ((d : Nat) : Int) - (((o + d : Nat) : Int) - (o : Int)) = 0 by omega]; rfl)
  rw [Int64.add_zero, show q.2.2.2 + Int32.ofNat 0 = q.2.2.2 from Int32.add_zero _] at this
  exact this
theorem tR_f (hB : BOK B) (hN : N ≤ 12) (h0 : old 0 = ((1, 1, 0, 0) : Q4)) (h1 : ∀ S, 0 < S → S < 2 ^ bm B → (old S).1 = 0) : ∀ i, i ≤ 12 → ∀ S, S < 2 ^ bm B → N ≤ cnt (fun k => S.testBit k) 12 + remW (bw B) i → Rf (off i) (AL (gE B) (bc B) i S) (tR B (bw B) N old i S) := by
  have hc : ∀ w t, bc B w t ≤ 99 := hB.2.2.2.2.2.1
  intro i
  induction i with
  | zero =>
    intro _ S hS _
    show Rf 0 (if S = 0 then [(0, 0)] else []) (old S)
    by_cases z : S = 0
    · rw [if_pos z, z, h0]
      refine ⟨rfl, fun _ => ⟨0, 0, ⟨List.mem_singleton.mpr rfl, fun p hp => ?_⟩, rfl, rfl, rfl⟩⟩
      rw [List.mem_singleton.mp hp]
      exact Or.inr ⟨rfl, Nat.le_refl _⟩
    · rw [if_neg z]
      exact ⟨h1 S (by omega) hS, fun y => absurd rfl y⟩
  | succ i ih =>
    intro hi S hS hn
    have i12 : i < 12 := by omega
    have eo : off (i + 1) = off i + 12 * dg i := rfl
    have eA : AL (gE B) (bc B) (i + 1) S = shf 0 (12 * dg i) (AL (gE B) (bc B) i S) ++ catj (fun j => if S.testBit j = true ∧ gE B i j = true then shf (bc B i j) (j * dg i) (AL (gE B) (bc B) i (S ^^^ 2 ^ j)) else []) 12 := rfl
    rw [eA, eo]
    cases q : hb (bw B) i with
    | false =>
      have e : tR B (bw B) N old (i + 1) S = tR B (bw B) N old i S := by
        show (if hb (bw B) i = true then _ else tR B (bw B) N old i) S = _
        rw [if_neg (by rw [q]; simp)]
      have nf : ∀ j, gE B i j = false := fun j => by
        cases z : gE B i j with
        | false => rfl
        | true => have := gE_W _ _ z; rw [q] at this; cases this
      rw [e, catj_nil fun j _ => if_neg fun z => absurd (z.2.symm.trans (nf j)) (by decide), List.append_nil]
      exact Rf_none (ih (by omega) S hS (by rw [remW_f q]; exact hn))
    | true =>
      have rt := remW_t i12 q
      have e : tR B (bw B) N old (i + 1) S = acc (tR B (bw B) N old i) (gE B i) (okT (tR B (bw B) N old i) (Int32.ofNat N - Int32.ofNat (remW (bw B) i))) (csT B i) (ksT (x6s i)) S 0 := by
        show (if hb (bw B) i = true then _ else tR B (bw B) N old i) S = _
        rw [if_pos q]
      rw [e]
      have ol := off_le (show i + 1 ≤ 12 by omega)
      rw [eo] at ol
      have bdS := AL_Bd (E := gE B) (S := S) hc (show i ≤ 12 by omega)
      have key : ∀ k, k ≤ 12 → Rf (off i + 12 * dg i) (shf 0 (12 * dg i) (AL (gE B) (bc B) i S) ++ catj (fun j => if S.testBit j = true ∧ gE B i j = true then shf (bc B i j) (j * dg i) (AL (gE B) (bc B) i (S ^^^ 2 ^ j)) else []) k) (fo (acf (tR B (bw B) N old i) (gE B i) (okT (tR B (bw B) N old i) (Int32.ofNat N - Int32.ofNat (remW (bw B) i))) (csT B i) (ksT (x6s i)) S 0) k (tR B (bw B) N old i S)) := by
        intro k
        induction k with
        | zero =>
          intro _
          show Rf _ (_ ++ []) _
          rw [List.append_nil]
          exact Rf_none (ih (by omega) S hS (by omega))
        | succ k ihk =>
          intro hk
          have ihk := ihk (by omega)
          show Rf _ (_ ++ (catj _ k ++ if S.testBit k = true ∧ gE B i k = true then shf (bc B i k) (k * dg i) (AL (gE B) (bc B) i (S ^^^ 2 ^ k)) else [])) (acf _ _ _ _ _ S 0 k (fo _ k _))
          rw [← List.append_assoc]
          by_cases z : S.testBit k = true ∧ gE B i k = true
          · have jm : k < bm B := (hB.SOK.2.2.1 i k z.2).2.1
            have lx : S ^^^ 2 ^ k < 2 ^ bm B := Nat.xor_lt_two_pow hS (Nat.pow_lt_pow_right (by decide) jm)
            have cx := cnt_xor (show k < 12 by omega) z.1
            have w := ih (by omega) (S ^^^ 2 ^ k) lx (by omega)
            have bdX := AL_Bd (E := gE B) (S := S ^^^ 2 ^ k) hc (show i ≤ 12 by omega)
            have cl : cnt (fun k_1 => (S ^^^ 2 ^ k).testBit k_1) 12 ≤ 12 := cnt_le _ _
            have rl : remW (bw B) i ≤ 12 := cnt_le _ _
            rw [if_pos z]
            unfold acf
            by_cases o : AL (gE B) (bc B) i (S ^^^ 2 ^ k) = []
            · have o1 : (tR B (bw B) N old i (S ^^^ 2 ^ k)).1 = 0 := by rw [w.1, o]; rfl
              rw [if_neg fun y => by
                have := y.2.2
                unfold okT at this
                rw [decide_eq_true o1] at this
                exact absurd this (by simp), o]
              show Rf _ (_ ++ []) _
              rw [List.append_nil]
              exact ihk
            · have o1 : ¬ (tR B (bw B) N old i (S ^^^ 2 ^ k)).1 = 0 := fun y => o ((len0 bdX).mp (by rw [← w.1]; exact y))
              rw [if_pos ⟨z, Nat.zero_le _, by
                unfold okT
                rw [decide_eq_false o1, decide_eq_true (show Int32.ofNat (cnt (fun k_1 => (S ^^^ 2 ^ k).testBit k_1) 12) ≥ Int32.ofNat N - Int32.ofNat (remW (bw B) i) by rw [prune cl hN rl]; omega)]
                rfl⟩, pt_mg]
              have kx := ks_tab i i12 k (by omega)
              have ws := Rf_shf (o' := off i + 12 * dg i) (c := bc B i k) (k := k * dg i) (x := ksT (x6s i) k) w (by
                rw [kx]; congr 1; omega)
              refine Rf_mg (by omega) ws ihk (shf_ne.mpr o) ⟨by rw [shf_len]; exact bdX.1, fun p hp => ?_⟩ ⟨?_, fun p hp => ?_⟩
              · obtain ⟨u, y, a, e1, e2⟩ := mem_shf.mp (show (p.1, p.2) ∈ shf (bc B i k) (k * dg i) (AL (gE B) (bc B) i (S ^^^ 2 ^ k)) from hp)
                have a := AL_bd (E := gE B) hc i _ u y a
                have := hc i k
                have := Nat.mul_le_mul_right (dg i) (show k ≤ 12 by omega)
                omega
              · rw [List.length_append, shf_len, catj_len]
                have a := AL_len (E := gE B) (c := bc B) i S
                have b : sgm (fun j => (if S.testBit j = true ∧ gE B i j = true then shf (bc B i j) (j * dg i) (AL (gE B) (bc B) i (S ^^^ 2 ^ j)) else []).length) k ≤ k * 13 ^ i := sgm_bd fun j _ => by
                  show (if S.testBit j = true ∧ gE B i j = true then shf (bc B i j) (j * dg i) (AL (gE B) (bc B) i (S ^^^ 2 ^ j)) else []).length ≤ 13 ^ i
                  split
                  · rw [shf_len]; exact AL_len i _
                  · exact Nat.zero_le _
                have d : k * 13 ^ i ≤ 12 * 13 ^ i := Nat.mul_le_mul_right _ (by omega)
                have g : 13 ^ i ≤ 13 ^ 12 := Nat.pow_le_pow_right (by decide) (by omega)
                have g2 : 13 ^ 12 = 23298085122481 := by decide +kernel
                omega
              · have hp2 : (p.1, p.2) ∈ AL (gE B) (bc B) (i + 1) S := by
                  rcases List.mem_append.mp hp with y | y
                  · exact List.mem_append.mpr (Or.inl y)
                  · obtain ⟨j, a, b⟩ := mem_catj.mp y
                    exact List.mem_append.mpr (Or.inr (mem_catj.mpr ⟨j, by omega, b⟩))
                exact (AL_Bd hc (show i + 1 ≤ 12 by omega)).2 p hp2
          · rw [if_neg z]
            unfold acf
            rw [if_neg fun y => z y.1]
            show Rf _ (_ ++ []) _
            rw [List.append_nil]
            exact ihk
      exact key 12 (Nat.le_refl 12)
end Rg
