/-! THE LAW'S BOOK: all, walked -/
theorem sj_same' (μ : MM) (a k : Nat) (v : Int64) : (sj μ a k v).2 a k = v := if_pos ⟨rfl, rfl⟩
theorem sj_n2 {μ : MM} {a k q i : Nat} {v : Int64} (h : i ≠ k) : (sj μ a k v).2 q i = μ.2 q i := if_neg fun z => h z.2
section Dc
variable {B : Bk} {N : Nat}
/-- what all leaves -/
def AO (sh : xH) (μ : MM) (B : Bk) (N w S k b : Nat) (r : Option Nat × xH) : Prop := ∃ E ν y C L K, r = (some y, mS (sh ++ E) ν) ∧ Gw k E ∧ Fr (UP sh.length) μ ν ∧ Z ν (sh ++ E).length ∧ sh.length ≤ y ∧ (sh ++ E)[y]? = some (101, dJ 3) ∧ (ν.2 y 0 = Int64.ofNat C ∧ ν.2 y 1 = Int64.ofNat L ∧ ν.2 y 2 = Int64.ofNat K) ∧ AT (fun v => MB (gE B) (bc B) 12 N (12 - w) S v) b C L K ∧ C ≤ k
theorem all_leaf (hn : bn B ≤ 12) (hf : ∀ w t, gE B w t = true → w < bn B ∧ t < bm B) {sh : xH} {μ : MM} {a : LA} (hs : lbS sh a) (hv : lbV μ a B) (hZ : Z μ sh.length) (hl : sh.length + 1 < 1000000) {S due fuel : Nat} (hN : cnt (fun k => S.testBit k) 12 + due = N) (hd : due < 100) :
    Hw (f_X10_all (fuel + 1) (lab a) (Int32.ofNat (bn B)) (Int32.ofNat S) (Int32.ofNat due) (mS sh μ)) (AO sh μ B N (bn B) S 1 0) := by
  have g0 : μ.1 (lab a) 0 = Int32.ofNat (bn B) := hv.1.1
  have hJ : (sh ++ [((101, dJ 3) : xC)])[sh.length]? = some (101, dJ 3) := by rw [List.getElem?_append_right (Nat.le_refl _), Nat.sub_self]; rfl
  have hA := isJ_of hJ
  have nJ := nwJ_s (sh := sh) (μ := μ) (n := 3) (k := 3) hZ rfl (by decide) hl
  have s0 : ∀ (ν : MM) (v : Int64), sJ (mS (sh ++ [(101, dJ 3)]) ν) sh.length 0 v = some (mS (sh ++ [(101, dJ 3)]) (sj ν sh.length 0 v)) := fun ν v => sJ_k (k := 0) hA (by omega) (by omega)
  have s1 : ∀ (ν : MM) (v : Int64), sJ (mS (sh ++ [(101, dJ 3)]) ν) sh.length 1 v = some (mS (sh ++ [(101, dJ 3)]) (sj ν sh.length 1 v)) := fun ν v => sJ_k (k := 1) hA (by omega) (by omega)
  have s2 : ∀ (ν : MM) (v : Int64), sJ (mS (sh ++ [(101, dJ 3)]) ν) sh.length 2 v = some (mS (sh ++ [(101, dJ 3)]) (sj ν sh.length 2 v)) := fun ν v => sJ_k (k := 2) hA (by omega) (by omega)
  have hE : ∀ i, bn B ≤ i → ∀ j, gE B i j = false := fun i hi j => by
    cases e : gE B i j with
    | false => rfl
    | true => have := (hf _ _ e).1; omega
  have leaf : ∀ v, MB (gE B) (bc B) 12 N (12 - bn B) S v = if cnt (fun k => S.testBit k) 12 = N ∧ v = 0 then 1 else 0 := fun v => MB_leaf hE hn S v _ (Nat.le_refl _)
  have fin : ∀ (C L K : Nat), AT (fun v => MB (gE B) (bc B) 12 N (12 - bn B) S v) 0 C L K → C ≤ 1 → AO sh μ B N (bn B) S 1 0 (some sh.length, mS (sh ++ [(101, dJ 3)]) (sj (sj (sj μ sh.length 0 (Int64.ofNat C)) sh.length 1 (Int64.ofNat L)) sh.length 2 (Int64.ofNat K))) := fun C L K h1 h2 => by
    have up : UP sh.length sh.length 0 := Nat.le_refl _
    refine ⟨_, _, sh.length, C, L, K, rfl, Gw.one (by simp [dJ]), (((Fr.refl (UP sh.length) μ).sj (Nat.le_refl _)).sj (Nat.le_refl _)).sj (Nat.le_refl _), ?_, Nat.le_refl _, hJ, ⟨?_, ?_, ?_⟩, h1, h2⟩
    · rw [List.length_append]
      exact (((hZ.mono (Nat.le_add_right _ _)).sj (by show _ < _ + 1; omega)).sj (by show _ < _ + 1; omega)).sj (by show _ < _ + 1; omega)
    · rw [sj_n2 (by decide), sj_n2 (by decide), sj_same']
    · rw [sj_n2 (by decide), sj_same']
    · rw [sj_same']
  show Hw (f_X10_all_B (f_X10_all fuel) (lab a) (Int32.ofNat (bn B)) (Int32.ofNat S) (Int32.ofNat due) (mS sh μ)) _
  by_cases d0 : due = 0
  · have c0 : Int32.ofNat due = 0 := by rw [d0]; rfl
    simp only [f_X10_all_B, hs.g (show 0 < 5 by decide), Option.bind_some, g0, if_true, nJ, if_pos c0, f_X10_all_J22, f_X10_all_J36, f_X10_all_J48, s0, s1, s2]
    refine hw_ret (fin 1 0 1 ?_ (Nat.le_refl 1))
    have e : ∀ v, (if v = 0 then 1 else 0) = MB (gE B) (bc B) 12 N (12 - bn B) S v := fun v => by
      rw [leaf]
      by_cases z : v = 0
      · rw [if_pos z, if_pos ⟨by omega, z⟩]
      · rw [if_neg z, if_neg fun y => z y.2]
    refine AT.congr (F := fun v => if v = 0 then 1 else 0) ⟨?_, fun v hv => if_neg (by omega), Or.inr ⟨rfl, by decide, Nat.le_refl 0, fun u hu => absurd hu (Nat.not_lt_zero u)⟩⟩ e
    exact (sgm_one (a := 0) (c := 1) (n := 2000) (by decide)).symm
  · have c0 : ¬ (Int32.ofNat due = 0) := by
      rw [show (0 : Int32) = Int32.ofNat 0 from rfl, oN_inj (by omega) (by omega)]; exact d0
    simp only [f_X10_all_B, hs.g (show 0 < 5 by decide), Option.bind_some, g0, if_true, nJ, if_neg c0, f_X10_all_J22, f_X10_all_J36, f_X10_all_J48, s0, s1, s2]
    refine hw_ret (fin 0 99999 0 ?_ (Nat.zero_le 1))
    have e : ∀ v, MB (gE B) (bc B) 12 N (12 - bn B) S v = 0 := fun v => by
      rw [leaf, if_neg fun y => by omega]
    exact ⟨(sgm_zero fun v _ => e v).symm, fun v _ => e v, Or.inl ⟨e, rfl, rfl⟩⟩
theorem p5_s (d : Nat) : 5 ^ (d + 1) = 5 * 5 ^ d := by rw [Nat.pow_succ]; omega
theorem l_all_rec (hn : bn B ≤ 12) (hm : bm B ≤ 4) (hf : ∀ w t, gE B w t = true → w < bn B ∧ t < bm B) (hN : N < 100) : ∀ (d w S due fuel : Nat) (sh : xH) (μ : MM) (a : LA), lbS sh a → lbV μ a B → Z μ sh.length → sh.length + 5 ^ d < 1000000 → w + d = bn B → d < fuel → S < 4096 → cnt (fun k => S.testBit k) 12 + due = N →
    Hw (f_X10_all fuel (lab a) (Int32.ofNat w) (Int32.ofNat S) (Int32.ofNat due) (mS sh μ)) (AO sh μ B N w S (5 ^ d) (99 * d)) := by
  intro d
  induction d with
  | zero =>
    intro w S due fuel sh μ a hs hv hZ hl hw hfu hS hd
    obtain ⟨f, rfl⟩ : ∃ f, fuel = f + 1 := ⟨fuel - 1, by omega⟩
    rw [show w = bn B by omega]
    exact all_leaf hn hf hs hv hZ hl hd (by omega)
  | succ d ih =>
    intro w S due fuel sh μ a hs hv hZ hl hw hfu hS hd
    obtain ⟨f, rfl⟩ : ∃ f, fuel = f + 1 := ⟨fuel - 1, by omega⟩
    have w12 : w < 12 := by omega
    have p5 := p5_s d
    have pp : 0 < 5 ^ d := Nat.pow_pos (by decide)
    have g0 : μ.1 (lab a) 0 = Int32.ofNat (bn B) := hv.1.1
    have c : ¬ (Int32.ofNat w = Int32.ofNat (bn B)) := by rw [oN_inj (by omega) (by omega)]; omega
    obtain ⟨r0, er0, E0, ν0, y0, C0, L0, K0, rfl, q2, q3, q4, q5, q6, q7, q8, q9⟩ := ih (w + 1) S due f sh μ a hs hv hZ (by omega) (by omega) (by omega) hS hd
    show Hw (f_X10_all_B (f_X10_all f) (lab a) (Int32.ofNat w) (Int32.ofNat S) (Int32.ofNat due) (mS sh μ)) _
    simp only [f_X10_all_B, hs.g (show 0 < 5 by decide), Option.bind_some, g0, if_neg c, i_succ, er0, hs.vc]
    rw [show (0 : Int32) = Int32.ofNat 0 from rfl]
    refine hw_for (L := fun i t (s : xH × MM) => f_X10_all_L64 (f_X10_all f) (f_X10_all_J221 (f_X10_all f)) i (lab a) (Int32.ofNat w) (Int32.ofNat S) (Int32.ofNat due) y0 t (mS (sh ++ s.1) s.2)) (s0 := (E0, ν0)) (bm B)
      (fun t s => Gw (5 ^ d * (t + 1)) s.1 ∧ Fr (UP sh.length) μ s.2 ∧ Z s.2 (sh ++ s.1).length ∧ (sh ++ s.1)[y0]? = some (101, dJ 3) ∧ ∃ C L K, (s.2.2 y0 0 = Int64.ofNat C ∧ s.2.2 y0 1 = Int64.ofNat L ∧ s.2.2 y0 2 = Int64.ofNat K) ∧ AT (fun v => FA (gE B) (bc B) N w S t v) (99 * (d + 1)) C L K ∧ C ≤ 5 ^ d * (t + 1))
      ⟨q2.mono (by omega), q3, q4, q6, C0, L0, K0, q7, by
        have := q8.le (b' := 99 * (d + 1)) (by omega)
        rw [show 12 - (w + 1) = 11 - w by omega] at this
        exact this, by omega⟩ (by omega) (fun t ht s hJ => ?_) (fun s hJ i => ?_)
    · obtain ⟨E, ν⟩ := s
      obtain ⟨j1, j2, j3, j4, C, L, K, ⟨k0, k1, k2⟩, j6, j7⟩ := hJ
      simp only at j1 j2 j3 j4 k0 k1 k2
      have t12 : t < 12 := by omega
      have hsE : lbS (sh ++ E) a := hs.app E
      have hvE : lbV ν a B := hv.up hs j2
      have g1 : ν.1 (lab a) 1 = Int32.ofNat (bm B) := hvE.1.2.1
      have ct : ¬ (Int32.ofNat t ≥ Int32.ofNat (bm B)) := by rw [oN_ge (by omega) (by omega)]; omega
      have pt4 : 5 ^ d * (t + 1) ≤ 5 ^ d * 4 := Nat.mul_le_mul_left _ (by omega)
      by_cases d0 : due = 0
      · right
        intro i
        have cd : (Int32.ofNat due ≤ 0) := by rw [d0]; decide
        simp only [f_X10_all_L64, hsE.g (show 1 < 5 by decide), Option.bind_some, g1, if_neg ct, if_pos cd, f_X10_all_J221]
        refine hw_ret ⟨E, ν, y0, C, L, K, rfl, j1.mono (by omega), j2, j3, q5, j4, ⟨k0, k1, k2⟩, j6.congr fun v => ?_, by omega⟩
        rw [FA_due (by omega) (by omega), ← FA_due (c := bc B) (E := gE B) (w := w) (t := 12) (Nat.le_refl 12) (show _ = N by omega), FA_fin w12 (Nat.le_refl 12) fun j hj => ?_]
        cases e : gE B w j with
        | false => rfl
        | true => have := (hf _ _ e).2; omega
      · have cd : ¬ (Int32.ofNat due ≤ 0) := by
          rw [show (0 : Int32) = Int32.ofNat 0 from rfl, oN_le (by omega) (by omega)]; omega
        left
        have hc := l_can hsE hvE w12 t12
        have hx := has_eq1 (x := Int32.ofNat S) (show t < 32 by omega)
        rw [hb_nat S t (by omega)] at hx
        cases c1 : gE B w t with
        | false =>
          rw [c1] at hc
          refine ⟨(E, ν), ⟨j1.mono (Nat.mul_le_mul_left _ (by omega)), j2, j3, j4, C, L, K, ⟨k0, k1, k2⟩, j6.congr fun v => (FA_skip (Or.inr c1)).symm, Nat.le_trans j7 (Nat.mul_le_mul_left _ (by omega))⟩, fun i => ?_⟩
          simp only [f_X10_all_L64, hsE.g (show 1 < 5 by decide), Option.bind_some, g1, if_neg ct, if_neg cd, hc, hsE.vc, bI_0, if_true, f_X10_all_J215, lt, i_succ]
        | true =>
          rw [c1] at hc
          have nc : ¬ (bI true = 0) := by rw [bI_0]; simp
          cases c2 : S.testBit t with
          | true =>
            have nx : (((Int32.ofNat S >>> (Int32.ofNat t &&& 31)) &&& (1 : Int32)) = 1) := by rw [hx, c2]
            refine ⟨(E, ν), ⟨j1.mono (Nat.mul_le_mul_left _ (by omega)), j2, j3, j4, C, L, K, ⟨k0, k1, k2⟩, j6.congr fun v => (FA_skip (Or.inl c2)).symm, Nat.le_trans j7 (Nat.mul_le_mul_left _ (by omega))⟩, fun i => ?_⟩
            simp only [f_X10_all_L64, hsE.g (show 1 < 5 by decide), Option.bind_some, g1, if_neg ct, if_neg cd, hc, hsE.vc, if_neg nc, if_pos nx, f_X10_all_J215, lt, i_succ]
          | false =>
            have nx : ¬ (((Int32.ofNat S >>> (Int32.ofNat t &&& 31)) &&& (1 : Int32)) = 1) := by rw [hx, c2]; simp
            have cS := cnt_xor (T := S ^^^ 2 ^ t) t12 (by rw [xor_bit, c2]; rfl)
            rw [xor_xor] at cS
            have lE := j1.1
            have llE : (sh ++ E).length = sh.length + E.length := List.length_append
            obtain ⟨r1, er1, E1, ν1, y1, C1, L1, K1, rfl, u2, u3, u4, u5, u6, ⟨u70, u71, u72⟩, u8, u9⟩ := ih (w + 1) (S ^^^ 2 ^ t) (due - 1) f (sh ++ E) ν a hsE hvE j3 (by omega) (by omega) (by omega) (xor_lt hS t12) (by omega)
            rw [List.append_assoc] at er1 u4 u6
            have e1 : Int32.ofNat due - 1 = Int32.ofNat (due - 1) := by
              rw [show (1 : Int32) = Int32.ofNat 1 from rfl, oN_sub (by omega)]
            have hor : Int32.ofNat S ||| ((1 : Int32) <<< (Int32.ofNat t &&& 31)) = Int32.ofNat (S ^^^ 2 ^ t) := oN_orbit hS t12 c2
            have hs1 : lbS (sh ++ (E ++ E1)) a := hs.app _
            have yl : y0 < (sh ++ E).length := (List.getElem?_eq_some_iff.mp j4).1
            have ny : y0 ≠ y1 := by omega
            have j4' : (sh ++ (E ++ E1))[y0]? = some (101, dJ 3) := by rw [← List.append_assoc, List.getElem?_append_left yl]; exact j4
            have hA0 := isJ_of j4'
            have hA1 := isJ_of u6
            have v0 : ∀ i, ν1.2 y0 i = ν.2 y0 i := fun i => (u3 y0 i (by unfold UP; omega)).2
            have fu : Fr (UP sh.length) μ ν1 := j2.trans (u3.mono fun q i z => by unfold UP at z ⊢; omega)
            have hv1 : lbV ν1 a B := hv.up hs fu
            have bt99 := hv1.2.2.2.2.2.2.2 w t
            have hbf : hb (bf B w) t = true := by
              unfold gE at c1
              simp only [Bool.and_eq_true] at c1
              exact c1.1.1
            have gcst : ν1.1 (lao a w) t = Int32.ofNat (bc B w t) := by rw [hv1.2.1 w t w12 t12, if_pos hbf]
            have r0 : ∀ ξ : MM, aJ (mS (sh ++ (E ++ E1)) ξ) y0 0 = some (ξ.2 y0 0) := fun ξ => aJ_k (k := 0) hA0 (by omega) (by omega)
            have r1 : ∀ ξ : MM, aJ (mS (sh ++ (E ++ E1)) ξ) y0 1 = some (ξ.2 y0 1) := fun ξ => aJ_k (k := 1) hA0 (by omega) (by omega)
            have r2 : ∀ ξ : MM, aJ (mS (sh ++ (E ++ E1)) ξ) y0 2 = some (ξ.2 y0 2) := fun ξ => aJ_k (k := 2) hA0 (by omega) (by omega)
            have z0 : ∀ ξ : MM, aJ (mS (sh ++ (E ++ E1)) ξ) y1 0 = some (ξ.2 y1 0) := fun ξ => aJ_k (k := 0) hA1 (by omega) (by omega)
            have z1 : ∀ ξ : MM, aJ (mS (sh ++ (E ++ E1)) ξ) y1 1 = some (ξ.2 y1 1) := fun ξ => aJ_k (k := 1) hA1 (by omega) (by omega)
            have z2 : ∀ ξ : MM, aJ (mS (sh ++ (E ++ E1)) ξ) y1 2 = some (ξ.2 y1 2) := fun ξ => aJ_k (k := 2) hA1 (by omega) (by omega)
            have s0 : ∀ (ξ : MM) (v : Int64), sJ (mS (sh ++ (E ++ E1)) ξ) y0 0 v = some (mS (sh ++ (E ++ E1)) (sj ξ y0 0 v)) := fun ξ v => sJ_k (k := 0) hA0 (by omega) (by omega)
            have s1 : ∀ (ξ : MM) (v : Int64), sJ (mS (sh ++ (E ++ E1)) ξ) y0 1 v = some (mS (sh ++ (E ++ E1)) (sj ξ y0 1 v)) := fun ξ v => sJ_k (k := 1) hA0 (by omega) (by omega)
            have s2 : ∀ (ξ : MM) (v : Int64), sJ (mS (sh ++ (E ++ E1)) ξ) y0 2 v = some (mS (sh ++ (E ++ E1)) (sj ξ y0 2 v)) := fun ξ v => sJ_k (k := 2) hA0 (by omega) (by omega)
            obtain ⟨ξ1, hξ1⟩ : ∃ x, x = sj ν1 y0 0 (Int64.ofNat (C + C1)) := ⟨_, rfl⟩
            have fx : Fr (UP sh.length) μ ξ1 := by rw [hξ1]; exact fu.sj (by unfold UP; omega)
            have vx : lbV ξ1 a B := hv.up hs fx
            have x0 : ξ1.2 y0 0 = Int64.ofNat (C + C1) := by rw [hξ1, sj_same']
            have x1 : ξ1.2 y0 1 = Int64.ofNat L := by rw [hξ1, sj_n2 (by decide), v0]; exact k1
            have x2 : ξ1.2 y0 2 = Int64.ofNat K := by rw [hξ1, sj_n2 (by decide), v0]; exact k2
            have x4 : ∀ i, ξ1.2 y1 i = ν1.2 y1 i := fun i => by rw [hξ1]; exact if_neg fun z => ny z.1.symm
            have x5 : ξ1.1 (lao a w) t = Int32.ofNat (bc B w t) := by rw [hξ1]; exact gcst
            have zx : Z ξ1 (sh ++ (E ++ E1)).length := by
              rw [hξ1]; exact u4.sj (by rw [← List.append_assoc, List.length_append]; omega)
            have a0 : Int64.ofNat C + Int64.ofNat C1 = Int64.ofNat (C + C1) := (Int64.ofNat_add C C1).symm
            have gw : Gw (5 ^ d * (t + 1 + 1)) (E ++ E1) := (j1.app u2).mono (by rw [Nat.mul_add (5 ^ d) (t + 1) 1]; omega)
            have ge : ∀ v, FA (gE B) (bc B) N w S (t + 1) v = FA (gE B) (bc B) N w S t v + if bc B w t ≤ v then MB (gE B) (bc B) 12 N (11 - w) (S ^^^ 2 ^ t) (v - bc B w t) else 0 := fun v => FA_take c2 c1
            have u8 : AT (fun v => MB (gE B) (bc B) 12 N (11 - w) (S ^^^ 2 ^ t) v) (99 * d) C1 L1 K1 := by
              rw [show 12 - (w + 1) = 11 - w by omega] at u8; exact u8
            have C7 : C + C1 ≤ 5 ^ d * (t + 1 + 1) := by rw [Nat.mul_add (5 ^ d) (t + 1) 1]; omega
            have b1 : 99 * d + bc B w t ≤ 99 * (d + 1) := by omega
            have b2 : 99 * (d + 1) < 1900 := by omega
            have l1 : L1 < 100000 := by
              rcases u8.2.2 with z | z
              · omega
              · omega
            have l2 : L < 100000 := by
              rcases j6.2.2 with z | z
              · omega
              · omega
            have kC : ∀ {F : Nat → Nat} {b C L K : Nat}, b < 2000 → AT F b C L K → K ≤ C := fun {F b C L K} hb h => by
              rcases h.2.2 with z | ⟨z1, -, z3, -⟩
              · omega
              · rw [← z1, h.1]; exact sgm_ge (f := F) (show L < 2000 by omega)
            have kk1 : K1 ≤ C1 := kC (by omega) u8
            have kk : K ≤ C := kC (by omega) j6
            have big : 5 ^ d * 4 < 4000000 := by omega
            have e8 : (lg_cmp (Int64.ofNat K1) 0 = 0) = (K1 = 0) := by
              rw [lg_0, show (0 : Int64) = Int64.ofNat 0 from rfl, j64_eq (by omega) (by omega)]
            have e15 : (lg_cmp (Int64.ofNat K) 0 = 0) = (K = 0) := by
              rw [lg_0, show (0 : Int64) = Int64.ofNat 0 from rfl, j64_eq (by omega) (by omega)]
            have cs : Int64.ofNat L1 + (Int32.ofNat (bc B w t)).toInt64 = Int64.ofNat (L1 + bc B w t) := by
              rw [j64_of (by omega)]; exact (Int64.ofNat_add _ _).symm
            have lgl : (lg_cmp (Int64.ofNat (L1 + bc B w t)) (Int64.ofNat L) < 0) = (L1 + bc B w t < L) := by
              rw [lgc (by omega) (by omega)]
              refine propext ?_
              by_cases p : L < L1 + bc B w t
              · rw [if_pos p]; exact ⟨fun z => absurd z (by decide), fun z => by omega⟩
              · rw [if_neg p]
                by_cases p2 : L1 + bc B w t = L
                · rw [if_pos p2]; exact ⟨fun z => absurd z (by decide), fun z => by omega⟩
                · rw [if_neg p2]; exact ⟨fun _ => by omega, fun _ => by decide⟩
            have lge : (lg_cmp (Int64.ofNat (L1 + bc B w t)) (Int64.ofNat L) = 0) = (L1 + bc B w t = L) := by
              rw [lgc (by omega) (by omega)]
              refine propext ?_
              by_cases p : L < L1 + bc B w t
              · rw [if_pos p]; exact ⟨fun z => absurd z (by decide), fun z => by omega⟩
              · rw [if_neg p]
                by_cases p2 : L1 + bc B w t = L
                · rw [if_pos p2]; exact ⟨fun _ => p2, fun _ => rfl⟩
                · rw [if_neg p2]; exact ⟨fun z => absurd z (by decide), fun z => absurd z p2⟩
            by_cases hk : K1 = 0
            · refine ⟨(E ++ E1, ξ1), ⟨gw, fx, zx, j4', C + C1, L, K, ⟨x0, x1, x2⟩, AT.congr (AT.n0 (hk ▸ u8) b1 b2 j6) fun v => (ge v).symm, C7⟩, fun i => ?_⟩
              simp only [f_X10_all_L64, hsE.g (show 1 < 5 by decide), Option.bind_some, g1, if_neg ct, if_neg cd, hc, hsE.vc, if_neg nc, if_neg nx, i_succ, e1, hor, er1, r0, z0, v0, k0, u70, a0, s0]
              rw [← hξ1]
              simp only [z2, x4, u72, e8, if_pos hk, Option.bind_some, f_X10_all_J215, lt, i_succ]
            · have tail : ∀ i, f_X10_all_L64 (f_X10_all f) (f_X10_all_J221 (f_X10_all f)) (i + 1) (lab a) (Int32.ofNat w) (Int32.ofNat S) (Int32.ofNat due) y0 (Int32.ofNat t) (mS (sh ++ E) ν) =
                  if L1 + bc B w t < L then f_X10_all_J177 (f_X10_all f) (f_X10_all_L64 (f_X10_all f) (f_X10_all_J221 (f_X10_all f)) i) (f_X10_all_J221 (f_X10_all f)) (lab a) (Int32.ofNat w) (Int32.ofNat S) (Int32.ofNat due) y0 (Int32.ofNat t) y1 (Int64.ofNat (L1 + bc B w t)) (mS (sh ++ (E ++ E1)) ξ1)
                  else if K = 0 then f_X10_all_J177 (f_X10_all f) (f_X10_all_L64 (f_X10_all f) (f_X10_all_J221 (f_X10_all f)) i) (f_X10_all_J221 (f_X10_all f)) (lab a) (Int32.ofNat w) (Int32.ofNat S) (Int32.ofNat due) y0 (Int32.ofNat t) y1 (Int64.ofNat (L1 + bc B w t)) (mS (sh ++ (E ++ E1)) ξ1)
                  else if L1 + bc B w t = L then f_X10_all_L64 (f_X10_all f) (f_X10_all_J221 (f_X10_all f)) i (lab a) (Int32.ofNat w) (Int32.ofNat S) (Int32.ofNat due) y0 (Int32.ofNat (t + 1)) (mS (sh ++ (E ++ E1)) (sj ξ1 y0 2 (Int64.ofNat (K + K1))))
                  else f_X10_all_L64 (f_X10_all f) (f_X10_all_J221 (f_X10_all f)) i (lab a) (Int32.ofNat w) (Int32.ofNat S) (Int32.ofNat due) y0 (Int32.ofNat (t + 1)) (mS (sh ++ (E ++ E1)) ξ1) := fun i => by
                simp only [f_X10_all_L64, hsE.g (show 1 < 5 by decide), Option.bind_some, g1, if_neg ct, if_neg cd, hc, hsE.vc, if_neg nc, if_neg nx, i_succ, e1, hor, er1, r0, z0, v0, k0, u70, a0, s0]
                rw [← hξ1]
                simp only [z2, x4, u72, e8, if_neg hk, Option.bind_some, z1, u71, hs1.r5, hs1.ro w12, hs1.ao w12 t12, x5, cs, lt, r1, x1, lgl, r2, x2, e15, lge, s2, (Int64.ofNat_add K K1).symm, f_X10_all_J215, i_succ]
              have put : L1 + bc B w t < L ∨ K = 0 → ∃ s' : xH × MM, (Gw (5 ^ d * (t + 1 + 1)) s'.1 ∧ Fr (UP sh.length) μ s'.2 ∧ Z s'.2 (sh ++ s'.1).length ∧ (sh ++ s'.1)[y0]? = some (101, dJ 3) ∧ ∃ C L K, (s'.2.2 y0 0 = Int64.ofNat C ∧ s'.2.2 y0 1 = Int64.ofNat L ∧ s'.2.2 y0 2 = Int64.ofNat K) ∧ AT (fun v => FA (gE B) (bc B) N w S (t + 1) v) (99 * (d + 1)) C L K ∧ C ≤ 5 ^ d * (t + 1 + 1)) ∧
                  ∀ i, f_X10_all_J177 (f_X10_all f) (f_X10_all_L64 (f_X10_all f) (f_X10_all_J221 (f_X10_all f)) i) (f_X10_all_J221 (f_X10_all f)) (lab a) (Int32.ofNat w) (Int32.ofNat S) (Int32.ofNat due) y0 (Int32.ofNat t) y1 (Int64.ofNat (L1 + bc B w t)) (mS (sh ++ (E ++ E1)) ξ1) = f_X10_all_L64 (f_X10_all f) (f_X10_all_J221 (f_X10_all f)) i (lab a) (Int32.ofNat w) (Int32.ofNat S) (Int32.ofNat due) y0 (Int32.ofNat (t + 1)) (mS (sh ++ s'.1) s'.2) := fun hq => by
                refine ⟨(E ++ E1, sj (sj ξ1 y0 1 (Int64.ofNat (L1 + bc B w t))) y0 2 (Int64.ofNat K1)), ⟨gw, (fx.sj (by unfold UP; omega)).sj (by unfold UP; omega), (zx.sj ?_).sj ?_, j4', C + C1, L1 + bc B w t, K1, ⟨?_, ?_, ?_⟩, AT.congr (AT.n1 u8 hk b1 b2 j6 hq) fun v => (ge v).symm, C7⟩, fun i => ?_⟩
                · rw [← List.append_assoc, List.length_append]; omega
                · rw [← List.append_assoc, List.length_append]; omega
                · rw [sj_n2 (by decide), sj_n2 (by decide)]; exact x0
                · rw [sj_n2 (by decide), sj_same']
                · rw [sj_same']
                · have e2 : (sj ξ1 y0 1 (Int64.ofNat (L1 + bc B w t))).2 y1 2 = Int64.ofNat K1 := by
                    rw [show (sj ξ1 y0 1 (Int64.ofNat (L1 + bc B w t))).2 y1 2 = ξ1.2 y1 2 from if_neg fun z => ny z.1.symm, x4]; exact u72
                  simp only [f_X10_all_J177, s1, Option.bind_some, z2, e2, s2, f_X10_all_J215, lt, i_succ]
              by_cases p1 : L1 + bc B w t < L
              · obtain ⟨s', h1, h2⟩ := put (Or.inl p1)
                exact ⟨s', h1, fun i => by rw [tail i, if_pos p1]; exact h2 i⟩
              · by_cases p2 : K = 0
                · obtain ⟨s', h1, h2⟩ := put (Or.inr p2)
                  exact ⟨s', h1, fun i => by rw [tail i, if_neg p1, if_pos p2]; exact h2 i⟩
                · by_cases p3 : L1 + bc B w t = L
                  · refine ⟨(E ++ E1, sj ξ1 y0 2 (Int64.ofNat (K + K1))), ⟨gw, fx.sj (by unfold UP; omega), zx.sj ?_, j4', C + C1, L, K + K1, ⟨?_, ?_, ?_⟩, AT.congr (AT.n2 u8 hk b1 b2 j6 p2 p3) fun v => (ge v).symm, C7⟩, fun i => by rw [tail i, if_neg p1, if_neg p2, if_pos p3]⟩
                    · rw [← List.append_assoc, List.length_append]; omega
                    · rw [sj_n2 (by decide)]; exact x0
                    · rw [sj_n2 (by decide)]; exact x1
                    · rw [sj_same']
                  · exact ⟨(E ++ E1, ξ1), ⟨gw, fx, zx, j4', C + C1, L, K, ⟨x0, x1, x2⟩, AT.congr (AT.n3 u8 hk b1 b2 j6 p2 (by omega)) fun v => (ge v).symm, C7⟩, fun i => by rw [tail i, if_neg p1, if_neg p2, if_neg p3]⟩
    · obtain ⟨E, ν⟩ := s
      obtain ⟨j1, j2, j3, j4, C, L, K, k0, j6, j7⟩ := hJ
      simp only at j1 j2 j3 j4 k0
      have hsE : lbS (sh ++ E) a := hs.app E
      have hvE : lbV ν a B := hv.up hs j2
      have g1 : ν.1 (lab a) 1 = Int32.ofNat (bm B) := hvE.1.2.1
      have ct : (Int32.ofNat (bm B) ≥ Int32.ofNat (bm B)) := by rw [oN_ge (by omega) (by omega)]; omega
      have pm : 5 ^ d * (bm B + 1) ≤ 5 ^ d * 5 := Nat.mul_le_mul_left _ (by omega)
      show Hw (f_X10_all_L64 (f_X10_all f) (f_X10_all_J221 (f_X10_all f)) (i + 1) (lab a) (Int32.ofNat w) (Int32.ofNat S) (Int32.ofNat due) y0 (Int32.ofNat (bm B)) (mS (sh ++ E) ν)) _
      simp only [f_X10_all_L64, hsE.g (show 1 < 5 by decide), Option.bind_some, g1, if_pos ct, f_X10_all_J221]
      refine hw_ret ⟨E, ν, y0, C, L, K, rfl, j1.mono (by omega), j2, j3, q5, j4, k0, j6.congr fun v => ?_, by omega⟩
      exact FA_fin w12 (by omega) fun j hj => by
        cases e : gE B w j with
        | false => rfl
        | true => have := (hf _ _ e).2; omega
/-- from the first worker on -/
theorem l_all (hm : bm B ≤ 4) (hn4 : bn B ≤ 4) (hf : ∀ w t, gE B w t = true → w < bn B ∧ t < bm B) (hN : N ≤ 12) {sh : xH} {μ : MM} {a : LA} (hs : lbS sh a) (hv : lbV μ a B) (hZ : Z μ sh.length) (hl : sh.length + 1000 < 1000000) :
    ∃ E ν y C L K, f_X10_all 40 (lab a) 0 0 (Int32.ofNat N) (mS sh μ) = some (some y, mS (sh ++ E) ν) ∧ Gw 625 E ∧ Fr (UP sh.length) μ ν ∧ Z ν (sh ++ E).length ∧ sh.length ≤ y ∧ (sh ++ E)[y]? = some (101, dJ 3) ∧ (ν.2 y 0 = Int64.ofNat C ∧ ν.2 y 1 = Int64.ofNat L ∧ ν.2 y 2 = Int64.ofNat K) ∧ AT (fun v => MB (gE B) (bc B) 12 N 12 0 v) 396 C L K := by
  have p4 : 5 ^ bn B ≤ 5 ^ 4 := Nat.pow_le_pow_right (by decide) hn4
  have p625 : (5 : Nat) ^ 4 = 625 := by decide
  have c0 : cnt (fun k => Nat.testBit 0 k) 12 = 0 := cnt_zero fun k _ => Nat.zero_testBit k
  obtain ⟨r, e, E, ν, y, C, L, K, rfl, h2, h3, h4, h5, h6, h7, h8, h9⟩ := l_all_rec (N := N) (by omega) hm hf (by omega) (bn B) 0 0 N 40 sh μ a hs hv hZ (by omega) (by omega) (by omega) (by omega) (by omega)
  exact ⟨E, ν, y, C, L, K, e, h2.mono (by omega), h3, h4, h5, h6, h7, h8.le (by omega)⟩
/-- what that is, for the class's numbers -/
theorem AT_FN {E : Nat → Nat → Bool} {c : Nat → Nat → Nat} {m C L K : Nat} (hc : ∀ w t, c w t ≤ 99) (hm : m ≤ 12) (hE : ∀ i j, E i j = true → j < m) (h : AT (fun v => MB E c 12 N 12 0 v) 396 C L K) (hl : lsB E c N 12 0 < 1000000) : C = (FN E c N (2 ^ m)).length ∧ L = lsB E c N 12 0 ∧ K = lsW E c N 12 0 := by
  obtain ⟨h1, h2, h3⟩ := h
  have len : ∀ (l : Fam), (∀ p, p ∈ l → p.1 < 2000) → l.length = sgm (fun v => nOf l v) 2000 := by
    intro l
    induction l with
    | nil => intro _; exact (sgm_zero fun v _ => rfl).symm
    | cons p l ih =>
      intro hp
      have e : sgm (fun v => nOf (p :: l) v) 2000 = sgm (fun v => nOf l v + if v = p.1 then 1 else 0) 2000 := sgm_congr fun v _ => by
        rw [nOf_cons]
        by_cases z : p.1 = v
        · rw [if_pos z, if_pos z.symm]
        · rw [if_neg z, if_neg fun y => z y.symm]
      rw [e, sgm_add, ← ih fun q hq => hp q (List.mem_cons_of_mem _ hq), sgm_one (hp p List.mem_cons_self)]
      rfl
  have nn : ∀ v, nOf (FN E c N (2 ^ m)) v = MB E c 12 N 12 0 v := fun v => nOf_FN hm hE
  refine ⟨?_, ?_⟩
  · rw [h1, len _ fun p hp => ?_]
    · exact sgm_congr fun v _ => (nn v).symm
    · obtain ⟨v, x⟩ := p
      apply Classical.byContradiction
      intro q
      have q : ¬ v < 2000 := q
      have z := h2 v (by omega)
      have z : MB E c 12 N 12 0 v = 0 := z
      rw [← nn] at z
      have := nOf_pos.mpr ⟨x, hp⟩
      omega
  · rcases lsB_main (E := E) (c := c) (N := N) hc 12 0 (Nat.le_refl 12) with ⟨q, -⟩ | ⟨q1, q2, q3, q4⟩
    · omega
    · rcases h3 with ⟨z, -⟩ | ⟨z1, z2, z3, z4⟩
      · exact absurd (q3.symm.trans (z _)) q2
      · have e : L = lsB E c N 12 0 := by
          rcases Nat.lt_trichotomy L (lsB E c N 12 0) with y | y | y
          · have := q4 _ y
            exact absurd (z1.symm.trans this) z2
          · exact y
          · have := z4 _ y
            exact absurd (q3.symm.trans this) q2
        exact ⟨e, by rw [← z1, e]; exact q3⟩
end Dc
