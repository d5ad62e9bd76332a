/-! THE CLASS: the tally's finish -/
variable {Ξ : xH}
def FF8 (q i : Nat) : Prop := q = 156 ∧ (i = 5 ∨ i = 6 ∨ i = 7)
def bQ (μ : MM) (x : Int64) : Q4 := (μ.2 156 5, μ.2 156 6, x, μ.1 156 7)
section Fi
variable {ν : MM} {s : Nat}
theorem fin_153 (hs : s < 4096) {kH : Nat → Int32 → Int32 → Int64 → Int32 → xH → Option xH} {kE : Nat → Int64 → xH → Option xH} {x1 x2 : Int32} {x3 : Int64} : f_X8_finish_J153 kH kE 156 x1 x2 x3 (Int32.ofNat s) ((mX Ξ) ν) = kH 156 x1 x2 x3 (Int32.ofNat (s + 1)) ((mX Ξ) (sj ν 156 5 (ν.2 156 5 + ν.2 157 s))) := by
  simp only [f_X8_finish_J153, ↓hbind gJ_156_5, ↓hbind gR_156_0, ↓hbind (aJ_157 hs), ↓hbind pJ_156_5, f_X8_finish_J169, lt_go, i_succ]
theorem fin_78 (hs : s < 4096) : ∃ ξ, (∀ (kH : Nat → Int32 → Int32 → Int64 → Int32 → xH → Option xH) (kE : Nat → Int64 → xH → Option xH) (x1 x2 : Int32), f_X8_finish_J78 kH kE 156 x1 x2 (Int32.ofNat s) ((mX Ξ) ν) = kH 156 x1 x2 (ν.2 159 s) (Int32.ofNat (s + 1)) ((mX Ξ) ξ)) ∧ Fr FF8 ν ξ ∧ bQ ξ (ν.2 159 s) = (ν.2 156 5 + ν.2 157 s, ν.2 158 s, ν.2 159 s, ν.1 160 s) := by
  obtain ⟨ν1, hd⟩ : ∃ x, x = sj (st ν 156 7 (ν.1 160 s)) 156 6 (ν.2 158 s) := ⟨_, rfl⟩
  have f1 : Fr FF8 ν ν1 := by rw [hd]; exact ((Fr.refl _ _).st (by unfold FF8; omega)).sj (by unfold FF8; omega)
  have e8 : (st ν 156 7 (ν.1 160 s)).2 158 s = ν.2 158 s := rfl
  have e9 : ν1.2 159 s = ν.2 159 s := (f1 _ _ (by unfold FF8; omega)).2
  have e7 : ν1.2 157 s = ν.2 157 s := (f1 _ _ (by unfold FF8; omega)).2
  have e5 : ν1.2 156 5 = ν.2 156 5 := by rw [hd, sj_ne (Or.inr (by omega))]; rfl
  have e6 : ν1.2 156 6 = ν.2 158 s := by rw [hd, sj_same]
  have ec : ν1.1 156 7 = ν.1 160 s := by rw [hd, sj_1, st_same]
  refine ⟨sj ν1 156 5 (ν1.2 156 5 + ν1.2 157 s), fun kH kE x1 x2 => ?_, f1.sj (by unfold FF8; omega), ?_⟩
  · have q := fin_153 (Ξ := Ξ) (ν := ν1) (s := s) hs (kH := kH) (kE := kE) (x1 := x1) (x2 := x2) (x3 := ν.2 159 s)
    rw [← q]
    rw [hd] at e9 ⊢
    simp only [f_X8_finish_J78, ↓hbind gR_156_3, ↓hbind (aI_160 hs), ↓hbind pI_156_7, ↓hbind gR_156_1, ↓hbind (aJ_158 hs), e8, ↓hbind pJ_156_6, ↓hbind gR_156_2, ↓hbind (aJ_159 hs), e9]
  · unfold bQ
    rw [sj_same, sj_ne (Or.inr (by omega)), sj_1, e5, e7, e6, ec]
theorem fin_loop {N full o : Nat} (hN : N ≤ 12) (hf : full ≤ 4096) {Q : Nat → Q4} {l : Nat → Fam} (ho : o < 1000000000000000000) (hQ : ∀ S, S < full → cnt (fun k => S.testBit k) 12 = N → Rf o (l S) (Q S)) (hl : ∀ S, Bd (l S)) (hp : ∀ n, n ≤ full → Bd (catj (fun S => if cnt (fun k => S.testBit k) 12 = N then l S else []) n)) : ∀ (d s : Nat) (ν : MM) (x3 : Int64), s + d = full → (∀ S, S < full → rd4 ν S = Q S) → Rf o (catj (fun S => if cnt (fun k => S.testBit k) 12 = N then l S else []) s) (bQ ν x3) → ∃ ξ x3', (∀ f K, f_X8_finish_L20 K (d + 1 + f) 156 (Int32.ofNat N) (Int32.ofNat full) x3 (Int32.ofNat s) ((mX Ξ) ν) = K 156 x3' ((mX Ξ) ξ)) ∧ Fr FF8 ν ξ ∧ Rf o (catj (fun S => if cnt (fun k => S.testBit k) 12 = N then l S else []) full) (bQ ξ x3')
  | 0, s, ν, x3, h, hr, hI => by
    have c : (Int32.ofNat s ≥ Int32.ofNat full) = True := by rw [oN_ge (by omega) (by omega)]; exact eq_true (by omega)
    refine ⟨ν, x3, fun f K => ?_, Fr.refl _ _, by rw [show full = s by omega]; exact hI⟩
    rw [show 0 + 1 + f = f + 1 by omega]
    simp only [f_X8_finish_L20, c, ↓reduceIte]
  | d + 1, s, ν, x3, h, hr, hI => by
    have c : (Int32.ofNat s ≥ Int32.ofNat full) = False := by rw [oN_ge (by omega) (by omega)]; exact eq_false (by omega)
    have s4 : s < 4096 := by omega
    have c2 : (Int32.ofNat s ≥ 4096) = False := by rw [g4096 (by omega)]; exact eq_false (by omega)
    have rs := hr s (by omega)
    have r7 : ν.2 157 s = (Q s).1 := congrArg Prod.fst rs
    have next : ∀ (ν1 : MM) (y3 : Int64), (∀ f K, f_X8_finish_L20 K (d + 1 + 1 + f) 156 (Int32.ofNat N) (Int32.ofNat full) x3 (Int32.ofNat s) ((mX Ξ) ν) = f_X8_finish_L20 K (d + 1 + f) 156 (Int32.ofNat N) (Int32.ofNat full) y3 (Int32.ofNat (s + 1)) ((mX Ξ) ν1)) → Fr FF8 ν ν1 → Rf o (catj (fun S => if cnt (fun k => S.testBit k) 12 = N then l S else []) s ++ if cnt (fun k => s.testBit k) 12 = N then l s else []) (bQ ν1 y3) → ∃ ξ x3', (∀ f K, f_X8_finish_L20 K (d + 1 + 1 + f) 156 (Int32.ofNat N) (Int32.ofNat full) x3 (Int32.ofNat s) ((mX Ξ) ν) = K 156 x3' ((mX Ξ) ξ)) ∧ Fr FF8 ν ξ ∧ Rf o (catj (fun S => if cnt (fun k => S.testBit k) 12 = N then l S else []) full) (bQ ξ x3') := fun ν1 y3 e f1 i1 => by
      obtain ⟨ξ, x3', a, b, g⟩ := fin_loop hN hf ho hQ hl hp d (s + 1) ν1 y3 (by omega) (fun S hS => by rw [rd4_fr f1 fun q a b z => by unfold FF8 at z; omega]; exact hr S hS) i1
      exact ⟨ξ, x3', fun f K => by rw [e, a], f1.trans b, g⟩
    by_cases w0 : (Q s).1 = 0
    · have l0 : (lg_cmp (ν.2 157 s) 0 = 0) = True := by rw [lg_0, r7]; exact eq_true w0
      refine next ν x3 (fun f K => ?_) (Fr.refl _ _) ?_
      · rw [show d + 1 + 1 + f = d + 1 + f + 1 by omega]
        simp only [f_X8_finish_L20, c, c2, ↓reduceIte, ↓hbind gR_156_0, ↓hbind (aJ_157 s4), l0, f_X8_finish_J169, lt_go, i_succ]
      · have : (if cnt (fun k => s.testBit k) 12 = N then l s else []) = [] := by
          by_cases z : cnt (fun k => s.testBit k) 12 = N
          · rw [if_pos z]
            exact (len0 (hl s)).mp (by rw [← (hQ s (by omega) z).1]; exact w0)
          · exact if_neg z
        rw [this, List.append_nil]; exact hI
    · have l0 : (lg_cmp (ν.2 157 s) 0 = 0) = False := by rw [lg_0, r7]; exact eq_false w0
      have m12S : m12 (Int32.ofNat s) := fun k hk => by
        rw [hb_nat _ _ (by omega)]
        exact Nat.testBit_lt_two_pow (Nat.lt_of_lt_of_le s4 (Nat.pow_le_pow_right (n := 2) (by decide) hk))
      have ec := c_bitCount (h := (mX Ξ) ν) m12S
      rw [cnt_congr (q := fun k => s.testBit k) fun k _ => hb_nat s k (by omega)] at ec
      have cl : cnt (fun k => s.testBit k) 12 ≤ 12 := cnt_le _ _
      have ceq : (Int32.ofNat (cnt (fun k => s.testBit k) 12) = Int32.ofNat N) = (cnt (fun k => s.testBit k) 12 = N) := oN_inj (by omega) (by omega)
      by_cases z : cnt (fun k => s.testBit k) 12 = N
      · have c3 := ceq.trans (eq_true z)
        have hq := hQ s (by omega) z
        have ne : l s ≠ [] := fun y => w0 (by rw [hq.1, y]; rfl)
        have hm := Rf_mg ho hq hI ne (hl s) (hp s (by omega))
        rw [← rs] at hm
        by_cases k0 : ν.2 156 5 = 0
        · have k0' : (lg_cmp (ν.2 156 5) 0 = 0) = True := by rw [lg_0]; exact eq_true k0
          obtain ⟨ν1, e1, f1, b1⟩ := fin_78 (Ξ := Ξ) (ν := ν) s4
          refine next ν1 (ν.2 159 s) (fun f K => ?_) f1 ?_
          · rw [show d + 1 + 1 + f = d + 1 + f + 1 by omega]
            simp only [f_X8_finish_L20, c, c2, ↓reduceIte, ↓hbind gR_156_0, ↓hbind (aJ_157 s4), l0, ↓hbind ec, c3, ↓hbind gJ_156_5, k0', e1]
          · rw [if_pos z, b1]
            unfold mg at hm
            rw [if_pos (show (bQ ν x3).1 = 0 from k0)] at hm
            exact hm
        · have k0' : (lg_cmp (ν.2 156 5) 0 = 0) = False := by rw [lg_0]; exact eq_false k0
          by_cases g : ν.1 160 s ≥ ν.1 156 7
          · have g' : (ν.1 160 s ≥ ν.1 156 7) = True := eq_true g
            by_cases q : ν.1 160 s = ν.1 156 7
            · have q' : (ν.1 160 s = ν.1 156 7) = True := eq_true q
              obtain ⟨ν1, hd⟩ : ∃ x, x = sj ν 156 6 (ν.2 156 6 + ν.2 158 s) := ⟨_, rfl⟩
              have f1 : Fr FF8 ν ν1 := by rw [hd]; exact (Fr.refl _ _).sj (by unfold FF8; omega)
              have e9 : ν1.2 159 s = ν.2 159 s := (f1 _ _ (by unfold FF8; omega)).2
              have e7 : ν1.2 157 s = ν.2 157 s := (f1 _ _ (by unfold FF8; omega)).2
              have e5 : ν1.2 156 5 = ν.2 156 5 := by rw [hd, sj_ne (Or.inr (by omega))]
              have e6 : ν1.2 156 6 = ν.2 156 6 + ν.2 158 s := by rw [hd, sj_same]
              have ec7 : ν1.1 156 7 = ν.1 156 7 := by rw [hd, sj_1]
              refine next (sj ν1 156 5 (ν1.2 156 5 + ν1.2 157 s)) (lmin x3 (ν.2 159 s)) (fun f K => ?_) (f1.sj (by unfold FF8; omega)) ?_
              · rw [show d + 1 + 1 + f = d + 1 + f + 1 by omega]
                rw [← fin_153 (ν := ν1) (s := s) s4 (kH := f_X8_finish_L20 K (d + 1 + f)) (kE := K) (x1 := Int32.ofNat N) (x2 := Int32.ofNat full) (x3 := lmin x3 (ν.2 159 s))]
                rw [hd] at e9 ⊢
                simp only [f_X8_finish_L20, c, c2, ↓reduceIte, ↓hbind gR_156_0, ↓hbind (aJ_157 s4), l0, ↓hbind ec, c3, ↓hbind gJ_156_5, k0', ↓hbind gR_156_3, ↓hbind (aI_160 s4), ↓hbind gI_156_7, g', q', ↓hbind gJ_156_6, ↓hbind gR_156_1, ↓hbind (aJ_158 s4), ↓hbind pJ_156_6, ↓hbind gR_156_2, ↓hbind (aJ_159 s4), e9, lt_go]
              · rw [if_pos z]
                unfold mg at hm
                rw [if_neg (show ¬ (bQ ν x3).1 = 0 from k0), if_pos (show (rd4 ν s).2.2.2 ≥ (bQ ν x3).2.2.2 from g), if_pos (show (rd4 ν s).2.2.2 = (bQ ν x3).2.2.2 from q)] at hm
                have : bQ (sj ν1 156 5 (ν1.2 156 5 + ν1.2 157 s)) (lmin x3 (ν.2 159 s)) = (ν.2 156 5 + ν.2 157 s, ν.2 156 6 + ν.2 158 s, lmin x3 (ν.2 159 s), ν.1 156 7) := by
                  unfold bQ
                  rw [sj_same, sj_ne (Or.inr (by omega)), sj_1, e5, e7, e6, ec7]
                rw [this]
                exact hm
            · have q' : (ν.1 160 s = ν.1 156 7) = False := eq_false q
              refine next (sj ν 156 5 (ν.2 156 5 + ν.2 157 s)) x3 (fun f K => ?_) ((Fr.refl _ _).sj (by unfold FF8; omega)) ?_
              · rw [show d + 1 + 1 + f = d + 1 + f + 1 by omega]
                rw [← fin_153 (ν := ν) (s := s) s4 (kH := f_X8_finish_L20 K (d + 1 + f)) (kE := K) (x1 := Int32.ofNat N) (x2 := Int32.ofNat full) (x3 := x3)]
                simp only [f_X8_finish_L20, c, c2, ↓reduceIte, ↓hbind gR_156_0, ↓hbind (aJ_157 s4), l0, ↓hbind ec, c3, ↓hbind gJ_156_5, k0', ↓hbind gR_156_3, ↓hbind (aI_160 s4), ↓hbind gI_156_7, g', q']
              · rw [if_pos z]
                unfold mg at hm
                rw [if_neg (show ¬ (bQ ν x3).1 = 0 from k0), if_pos (show (rd4 ν s).2.2.2 ≥ (bQ ν x3).2.2.2 from g), if_neg (show ¬ (rd4 ν s).2.2.2 = (bQ ν x3).2.2.2 from q)] at hm
                have : bQ (sj ν 156 5 (ν.2 156 5 + ν.2 157 s)) x3 = (ν.2 156 5 + ν.2 157 s, ν.2 156 6, x3, ν.1 156 7) := by
                  unfold bQ
                  rw [sj_same, sj_ne (Or.inr (by omega)), sj_1]
                rw [this]
                exact hm
          · have g' : (ν.1 160 s ≥ ν.1 156 7) = False := eq_false g
            obtain ⟨ν1, e1, f1, b1⟩ := fin_78 (Ξ := Ξ) (ν := ν) s4
            refine next ν1 (ν.2 159 s) (fun f K => ?_) f1 ?_
            · rw [show d + 1 + 1 + f = d + 1 + f + 1 by omega]
              simp only [f_X8_finish_L20, c, c2, ↓reduceIte, ↓hbind gR_156_0, ↓hbind (aJ_157 s4), l0, ↓hbind ec, c3, ↓hbind gJ_156_5, k0', ↓hbind gR_156_3, ↓hbind (aI_160 s4), ↓hbind gI_156_7, g', e1]
            · rw [if_pos z, b1]
              unfold mg at hm
              rw [if_neg (show ¬ (bQ ν x3).1 = 0 from k0), if_neg (show ¬ (rd4 ν s).2.2.2 ≥ (bQ ν x3).2.2.2 from g)] at hm
              exact hm
      · have c3 := ceq.trans (eq_false z)
        refine next ν x3 (fun f K => ?_) (Fr.refl _ _) ?_
        · rw [show d + 1 + 1 + f = d + 1 + f + 1 by omega]
          simp only [f_X8_finish_L20, c, c2, ↓reduceIte, ↓hbind gR_156_0, ↓hbind (aJ_157 s4), l0, ↓hbind ec, c3, f_X8_finish_J169, lt_go, i_succ]
        · rw [if_neg z, List.append_nil]; exact hI
end Fi
/-! decode -/
theorem i64_div {R : Nat} (h : R < 1000000000000000000) : Int64.ofNat R / 13 = Int64.ofNat (R / 13) := by
  rw [← Int64.toInt_inj, Int64.toInt_div_of_ne_right _ _ (by decide), Int64.toInt_ofNat_of_lt (by omega), Int64.toInt_ofNat_of_lt (by omega)]
  rfl
theorem i64_mod {R : Nat} (h : R < 1000000000000000000) : (Int64.ofNat R - Int64.ofNat R / 13 * 13).toInt32 = Int32.ofNat (R % 13) := by
  rw [i64_div h, show (13 : Int64) = Int64.ofNat 13 from rfl, ← Int64.ofNat_mul, ← Int64.ofNat_sub _ _ (show R / 13 * 13 ≤ R by omega), show R - R / 13 * 13 = R % 13 by omega]
  exact Int64.toInt32_ofNat'
theorem dec_loop {K : Nat} (hK : K < 23298085122481) : ∀ (w : Nat) (ν : MM), w ≤ 12 → (∀ u, w ≤ u → u < 12 → ν.1 161 u = eI (K / 13 ^ (11 - u) % 13)) → ∃ ξ, (∀ f, f_X8_decode_L12 f_X8_decode_J57 (w + 1 + f) 156 (Int64.ofNat (K / 13 ^ (12 - w))) (Int32.ofNat w + (-1)) ((mX Ξ) ν) = some ((mX Ξ) ξ)) ∧ Fr (fun q _ => q = 161) ν ξ ∧ ∀ u, u < 12 → ξ.1 161 u = eI (K / 13 ^ (11 - u) % 13)
  | 0, ν, _, hI => by
    have c : (Int32.ofNat 0 + (-1) < 0) = True := eq_true (by decide)
    refine ⟨ν, fun f => ?_, Fr.refl _ _, fun u hu => hI u (Nat.zero_le _) hu⟩
    rw [show 0 + 1 + f = f + 1 by omega]
    simp only [f_X8_decode_L12, c, ↓reduceIte, f_X8_decode_J57]
  | w + 1, ν, h, hI => by
    have hw : w < 12 := by omega
    have c1 : (Int32.ofNat w < 0) = False := oN_l0 (by omega)
    obtain ⟨R, hR⟩ : ∃ R, R = K / 13 ^ (11 - w) := ⟨_, rfl⟩
    have eR : 12 - (w + 1) = 11 - w := by omega
    have rK : R ≤ K := by rw [hR]; exact Nat.div_le_self _ _
    have eN : R / 13 = K / 13 ^ (12 - w) := by rw [hR, Nat.div_div_eq_div_mul, ← Nat.pow_succ, show (11 - w).succ = 12 - w by omega]
    have ed := i64_div (R := R) (by omega)
    have em := i64_mod (R := R) (by omega)
    rw [ed] at em
    obtain ⟨ν1, hd⟩ : ∃ x, x = st ν 161 w (eI (R % 13)) := ⟨_, rfl⟩
    have f1 : Fr (fun q _ => q = 161) ν ν1 := by rw [hd]; exact (Fr.refl _ _).st rfl
    obtain ⟨ξ, a, b, g⟩ := dec_loop hK w ν1 (by omega) (fun u h1 h2 => by
      rw [hd]
      by_cases z : u = w
      · rw [z, st_same, hR]
      · rw [st_ne (Or.inr z)]; exact hI u (by omega) h2)
    refine ⟨ξ, fun f => ?_, f1.trans b, g⟩
    rw [eR, ← hR, show w + 1 + 1 + f = w + 1 + f + 1 by omega, i_dec, ← a f, ← eN, hd]
    by_cases z : 12 ≤ R % 13
    · have c2 : (Int32.ofNat (R % 13) ≥ 12) = True := by rw [lge_12 (by omega)]; exact eq_true z
      rw [eI_ge z]
      simp only [f_X8_decode_L12, c1, ↓reduceIte, em, lt_go, ↓hbind gR_156_4, c2, f_X8_decode_J44, ↓hbind (sI_161 hw), ed]
    · have c2 : (Int32.ofNat (R % 13) ≥ 12) = False := by rw [lge_12 (by omega)]; exact eq_false z
      rw [eI_lt (by omega)]
      simp only [f_X8_decode_L12, c1, ↓reduceIte, em, lt_go, ↓hbind gR_156_4, c2, f_X8_decode_J44, ↓hbind (sI_161 hw), ed]
theorem dec_any (L : Nat → Nat → Int64 → Int32 → xH → Option xH) {v : Int64} {h : xH} : lt v (fun v1 => L 5000 156 v1 11 h) = L 5000 156 v 11 h := rfl
theorem dec_go {μ : MM} {p : Int64} {r : Option xH} (e : f_X8_decode_L12 f_X8_decode_J57 5000 156 (p + 23298085122481 - 1) 11 ((mX Ξ) μ) = r) : f_X8_decode 156 p ((mX Ξ) μ) = r := by
  have k1 : f_X8_decode 156 p ((mX Ξ) μ) = lt (p + 23298085122481 - 1) fun v1 => f_X8_decode_L12 f_X8_decode_J57 5000 156 v1 11 ((mX Ξ) μ) := by rw [f_X8_decode]
  exact k1.trans ((dec_any (f_X8_decode_L12 f_X8_decode_J57)).trans e)
theorem dec_k {k : Nat} : Int64.ofInt ((k : Int) - ((off 12 : Nat) : Int)) + 23298085122481 - 1 = Int64.ofNat k := by
  have e1 : (23298085122481 : Int64) = Int64.ofNat 23298085122481 := by decide +kernel
  have e2 : (1 : Int64) = Int64.ofInt 1 := by decide +kernel
  rw [e1, e2, ← Int64.ofInt_eq_ofNat, ← Int64.ofInt_eq_ofNat, ← Int64.ofInt_add, ← Int64.ofInt_sub, off_12]
  congr 1
  omega
theorem c_decode {μ : MM} {k : Nat} (hk : k < 23298085122481) : ∃ ξ, f_X8_decode 156 (Int64.ofInt ((k : Int) - ((off 12 : Nat) : Int))) ((mX Ξ) μ) = some ((mX Ξ) ξ) ∧ Fr (fun q _ => q = 161) μ ξ ∧ ∀ u, u < 12 → ξ.1 161 u = eI (k / 13 ^ (11 - u) % 13) := by
  obtain ⟨ξ, a, b, g⟩ := dec_loop (Ξ := Ξ) hk 12 μ (Nat.le_refl _) (fun u h1 h2 => by omega)
  have a := a 4987
  have e0 : k / 13 ^ (12 - 12) = k := by rw [Nat.sub_self, Nat.pow_zero, Nat.div_one]
  have e1 : (Int32.ofNat 12 + (-1) : Int32) = 11 := by decide
  rw [e0, e1, ← dec_k] at a
  exact ⟨ξ, dec_go a, b, g⟩
theorem fin_go {μ : MM} {x1 x2 : Int32} {r : Option xH} (e : f_X8_finish_L20 f_X8_finish_J175 5000 156 x1 x2 0 0 ((mX Ξ) (st (sj (sj μ 156 5 0) 156 6 0) 156 7 0)) = r) : f_X8_finish 156 x1 x2 ((mX Ξ) μ) = r := by
  rw [← e]
  simp only [f_X8_finish, ↓hbind pJ_156_5, ↓hbind pJ_156_6, ↓hbind pI_156_7]
