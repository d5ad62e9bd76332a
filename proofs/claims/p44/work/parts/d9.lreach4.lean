/-! THE LAW'S BOOK: reached, its beginning and its whole -/
theorem eI_ge0 (k : Nat) : (eI k ≥ 0) = (k < 12) := by
  have e := eI_l0 k
  have h : (eI k ≥ 0) = ¬ (eI k < 0) := propext (by rw [ge_iff_le, Int32.le_iff_toInt_le, Int32.lt_iff_toInt_lt]; omega)
  rw [h, e]
  exact propext (by omega)
section D9
variable {sh : xH} {μ : MM} {a b : LA} {B : Bk} {M : Nat → Nat} {y : Nat}
def I0 (B : Bk) (M : Nat → Nat) (y w : Nat) (ν : MM) : Prop := (∀ k, hb (ν.1 y 0) k = true ↔ k < w ∧ hb (bw B) k = true ∧ M k = 12) ∧ ν.1 y 1 = 0 ∧ ν.1 y 2 = 0 ∧ ν.1 y 3 = 0
def I3 (B : Bk) (M : Nat → Nat) (y t : Nat) (ν : MM) : Prop := (∀ k, hb (ν.1 y 0) k = true ↔ k < bn B ∧ hb (bw B) k = true ∧ M k = 12) ∧ ν.1 y 1 = 0 ∧ ν.1 y 2 = 0 ∧ ∀ k, hb (ν.1 y 3) k = true ↔ k < t ∧ hb (bt B) k = true ∧ ow M k = 12
theorem l_rc_18 (hs : lbS sh a) (hsb : lbS sh b) (hM : Ms (gE B) M) (hy : sh[y]? = some (100, dI 4)) (hyA : ∀ i, ¬ LF a y i) (hyB : ∀ i, ¬ LF b y i) (hn : bn B ≤ 12) : ∀ (d w : Nat) (ν : MM), w + d = bn B → lbV ν a B → lbV ν b (wM B M) → I0 B M y w ν →
    ∃ ξ, (∀ n kE, f_X10_reached_L18 kE (d + 1 + n) (lab a) (lab b) y (Int32.ofNat w) (mS sh ν) = kE (lab a) (lab b) y (mS sh ξ)) ∧ Fr (fun q _ => q = y) ν ξ ∧ I0 B M y (bn B) ξ
  | 0, w, ν, h, hv, hvb, hI => by
    have g0 : ν.1 (lab a) 0 = Int32.ofNat (bn B) := hv.1.1
    have ct : (Int32.ofNat w ≥ Int32.ofNat (bn B)) := by rw [oN_ge (by omega) (by omega)]; omega
    refine ⟨ν, fun n kE => ?_, Fr.refl _ _, by rw [show bn B = w by omega]; exact hI⟩
    rw [show 0 + 1 + n = n + 1 by omega]
    simp only [f_X10_reached_L18, hs.g (show 0 < 5 by decide), Option.bind_some, g0, if_pos ct]
  | d + 1, w, ν, h, hv, hvb, hI => by
    have hA : isA sh 100 y 4 isInt = true := isA_of hy
    have w12 : w < 12 := by omega
    have g0 : ν.1 (lab a) 0 = Int32.ofNat (bn B) := hv.1.1
    have g3 : ν.1 (lab a) 3 = bw B := hv.1.2.2.2.1
    have gq : ν.1 (laq b) w = eI (M w) := hvb.2.2.1 w w12
    have ct : ¬ (Int32.ofNat w ≥ Int32.ofNat (bn B)) := by rw [oN_ge (by omega) (by omega)]; omega
    have hx := has_eq1 (x := bw B) (show w < 32 by omega)
    have key : ∃ ν1, (∀ n kE, f_X10_reached_L18 kE (n + 1) (lab a) (lab b) y (Int32.ofNat w) (mS sh ν) = f_X10_reached_L18 kE n (lab a) (lab b) y (Int32.ofNat (w + 1)) (mS sh ν1)) ∧ Fr (fun q _ => q = y) ν ν1 ∧ I0 B M y (w + 1) ν1 := by
      have skip : (hb (bw B) w = true → M w = 12 → False) → I0 B M y (w + 1) ν := fun q => by
        refine ⟨fun k => ?_, hI.2⟩
        rw [hI.1 k]
        constructor
        · rintro ⟨h1, h2, h3⟩; exact ⟨by omega, h2, h3⟩
        · rintro ⟨h1, h2, h3⟩
          rcases Nat.lt_succ_iff_lt_or_eq.mp h1 with z | z
          · exact ⟨z, h2, h3⟩
          · rw [z] at h2 h3; exact (q h2 h3).elim
      by_cases c1 : hb (bw B) w = true
      · have e1 : (((bw B >>> (Int32.ofNat w &&& 31)) &&& (1 : Int32)) = 1) := by rw [hx]; exact c1
        by_cases c2 : M w < 12
        · have e2 : (eI (M w) ≥ 0) := by rw [eI_ge0]; exact c2
          refine ⟨ν, fun n kE => ?_, Fr.refl _ _, skip fun _ z => by omega⟩
          simp only [f_X10_reached_L18, hs.g (show 0 < 5 by decide), hs.g (show 3 < 5 by decide), Option.bind_some, g0, g3, if_neg ct, if_pos e1, hsb.r6, hsb.aq w12, gq, if_pos e2, f_X10_reached_J56, lt, i_succ]
        · have e2 : ¬ (eI (M w) ≥ 0) := by rw [eI_ge0]; exact c2
          have m12 : M w = 12 := by have := hM.1.1 w; omega
          have r0 : aI (mS sh ν) y 0 = some (ν.1 y 0) := aI_k (k := 0) hA (by omega) (by omega)
          have s0 : ∀ v, sI (mS sh ν) y 0 v = some (mS sh (st ν y 0 v)) := fun v => sI_k (k := 0) hA (by omega) (by omega)
          refine ⟨st ν y 0 (ν.1 y 0 ||| ((1 : Int32) <<< (Int32.ofNat w &&& 31))), fun n kE => ?_, (Fr.refl _ _).st rfl, fun k => ?_, ?_, ?_, ?_⟩
          · simp only [f_X10_reached_L18, hs.g (show 0 < 5 by decide), hs.g (show 3 < 5 by decide), Option.bind_some, g0, g3, if_neg ct, if_pos e1, hsb.r6, hsb.aq w12, gq, if_neg e2, r0, s0, f_X10_reached_J56, lt, i_succ]
          · rw [st_same, hb_or, hb_bit k (by omega), Bool.or_eq_true, hI.1 k, decide_eq_true_eq]
            constructor
            · rintro (⟨h1, h2, h3⟩ | h1)
              · exact ⟨by omega, h2, h3⟩
              · rw [h1]; exact ⟨by omega, c1, m12⟩
            · rintro ⟨h1, h2, h3⟩
              rcases Nat.lt_succ_iff_lt_or_eq.mp h1 with z | z
              · exact Or.inl ⟨z, h2, h3⟩
              · exact Or.inr z
          · rw [st_ne (Or.inr (by omega))]; exact hI.2.1
          · rw [st_ne (Or.inr (by omega))]; exact hI.2.2.1
          · rw [st_ne (Or.inr (by omega))]; exact hI.2.2.2
      · have e1 : ¬ (((bw B >>> (Int32.ofNat w &&& 31)) &&& (1 : Int32)) = 1) := by rw [hx]; exact c1
        refine ⟨ν, fun n kE => ?_, Fr.refl _ _, skip fun z _ => c1 z⟩
        simp only [f_X10_reached_L18, hs.g (show 0 < 5 by decide), hs.g (show 3 < 5 by decide), Option.bind_some, g0, g3, if_neg ct, if_neg e1, f_X10_reached_J56, lt, i_succ]
    obtain ⟨ν1, k1, f1, i1⟩ := key
    have hv1 : lbV ν1 a B := hv.fr hs f1 fun q i z e => hyA i (by rw [← e]; exact z)
    have hvb1 : lbV ν1 b (wM B M) := hvb.fr hsb f1 fun q i z e => hyB i (by rw [← e]; exact z)
    obtain ⟨ξ, e, f2, i2⟩ := l_rc_18 hs hsb hM hy hyA hyB hn d (w + 1) ν1 (by omega) hv1 hvb1 i1
    exact ⟨ξ, fun n kE => by rw [show d + 1 + 1 + n = d + 1 + n + 1 by omega, k1, e], f1.trans f2, i2⟩
theorem l_rc_64 (hs : lbS sh a) (hsb : lbS sh b) (h12 : ∀ w, bn B ≤ w → M w = 12) (hy : sh[y]? = some (100, dI 4)) (hyA : ∀ i, ¬ LF a y i) (hyB : ∀ i, ¬ LF b y i) (hm : bm B ≤ 12) : ∀ (d t : Nat) (ν : MM), t + d = bm B → lbV ν a B → lbV ν b (wM B M) → I3 B M y t ν →
    ∃ ξ, (∀ n kE, f_X10_reached_L64 kE (d + 1 + n) (lab a) (lab b) y (Int32.ofNat t) (mS sh ν) = kE (lab a) (lab b) y (mS sh ξ)) ∧ Fr (fun q _ => q = y) ν ξ ∧ I3 B M y (bm B) ξ
  | 0, t, ν, h, hv, hvb, hI => by
    have g1 : ν.1 (lab a) 1 = Int32.ofNat (bm B) := hv.1.2.1
    have ct : (Int32.ofNat t ≥ Int32.ofNat (bm B)) := by rw [oN_ge (by omega) (by omega)]; omega
    refine ⟨ν, fun n kE => ?_, Fr.refl _ _, by rw [show bm B = t by omega]; exact hI⟩
    rw [show 0 + 1 + n = n + 1 by omega]
    simp only [f_X10_reached_L64, hs.g (show 1 < 5 by decide), Option.bind_some, g1, if_pos ct]
  | d + 1, t, ν, h, hv, hvb, hI => by
    have hA : isA sh 100 y 4 isInt = true := isA_of hy
    have t12 : t < 12 := by omega
    have g1 : ν.1 (lab a) 1 = Int32.ofNat (bm B) := hv.1.2.1
    have g4 : ν.1 (lab a) 4 = bt B := hv.1.2.2.2.2
    have ho : f_X10_owner (lab b) (Int32.ofNat t) (mS sh ν) = some (eI (ow M t), mS sh ν) := l_owner hsb hvb h12 t12
    have ct : ¬ (Int32.ofNat t ≥ Int32.ofNat (bm B)) := by rw [oN_ge (by omega) (by omega)]; omega
    have hx := has_eq1 (x := bt B) (show t < 32 by omega)
    have key : ∃ ν1, (∀ n kE, f_X10_reached_L64 kE (n + 1) (lab a) (lab b) y (Int32.ofNat t) (mS sh ν) = f_X10_reached_L64 kE n (lab a) (lab b) y (Int32.ofNat (t + 1)) (mS sh ν1)) ∧ Fr (fun q _ => q = y) ν ν1 ∧ I3 B M y (t + 1) ν1 := by
      have skip : (hb (bt B) t = true → ow M t = 12 → False) → I3 B M y (t + 1) ν := fun q => by
        refine ⟨hI.1, hI.2.1, hI.2.2.1, fun k => ?_⟩
        rw [hI.2.2.2 k]
        constructor
        · rintro ⟨h1, h2, h3⟩; exact ⟨by omega, h2, h3⟩
        · rintro ⟨h1, h2, h3⟩
          rcases Nat.lt_succ_iff_lt_or_eq.mp h1 with z | z
          · exact ⟨z, h2, h3⟩
          · rw [z] at h2 h3; exact (q h2 h3).elim
      by_cases c1 : hb (bt B) t = true
      · have e1 : (((bt B >>> (Int32.ofNat t &&& 31)) &&& (1 : Int32)) = 1) := by rw [hx]; exact c1
        by_cases c2 : ow M t < 12
        · have e2 : (eI (ow M t) ≥ 0) := by rw [eI_ge0]; exact c2
          refine ⟨ν, fun n kE => ?_, Fr.refl _ _, skip fun _ z => by omega⟩
          simp only [f_X10_reached_L64, hs.g (show 1 < 5 by decide), hs.g (show 4 < 5 by decide), Option.bind_some, g1, g4, if_neg ct, if_pos e1, ho, hsb.vc, if_pos e2, f_X10_reached_J101, lt, i_succ]
        · have e2 : ¬ (eI (ow M t) ≥ 0) := by rw [eI_ge0]; exact c2
          have m12 : ow M t = 12 := by have := ow_le M t; omega
          have r0 : aI (mS sh ν) y 3 = some (ν.1 y 3) := aI_k (k := 3) hA (by omega) (by omega)
          have s0 : ∀ v, sI (mS sh ν) y 3 v = some (mS sh (st ν y 3 v)) := fun v => sI_k (k := 3) hA (by omega) (by omega)
          refine ⟨st ν y 3 (ν.1 y 3 ||| ((1 : Int32) <<< (Int32.ofNat t &&& 31))), fun n kE => ?_, (Fr.refl _ _).st rfl, ?_, ?_, ?_, fun k => ?_⟩
          · simp only [f_X10_reached_L64, hs.g (show 1 < 5 by decide), hs.g (show 4 < 5 by decide), Option.bind_some, g1, g4, if_neg ct, if_pos e1, ho, hsb.vc, if_neg e2, r0, s0, f_X10_reached_J101, lt, i_succ]
          · rw [st_ne (Or.inr (by omega))]; exact hI.1
          · rw [st_ne (Or.inr (by omega))]; exact hI.2.1
          · rw [st_ne (Or.inr (by omega))]; exact hI.2.2.1
          · rw [st_same, hb_or, hb_bit k (by omega), Bool.or_eq_true, hI.2.2.2 k, decide_eq_true_eq]
            constructor
            · rintro (⟨h1, h2, h3⟩ | h1)
              · exact ⟨by omega, h2, h3⟩
              · rw [h1]; exact ⟨by omega, c1, m12⟩
            · rintro ⟨h1, h2, h3⟩
              rcases Nat.lt_succ_iff_lt_or_eq.mp h1 with z | z
              · exact Or.inl ⟨z, h2, h3⟩
              · exact Or.inr z
      · have e1 : ¬ (((bt B >>> (Int32.ofNat t &&& 31)) &&& (1 : Int32)) = 1) := by rw [hx]; exact c1
        refine ⟨ν, fun n kE => ?_, Fr.refl _ _, skip fun z _ => c1 z⟩
        simp only [f_X10_reached_L64, hs.g (show 1 < 5 by decide), hs.g (show 4 < 5 by decide), Option.bind_some, g1, g4, if_neg ct, if_neg e1, f_X10_reached_J101, lt, i_succ]
    obtain ⟨ν1, k1, f1, i1⟩ := key
    have hv1 : lbV ν1 a B := hv.fr hs f1 fun q i z e => hyA i (by rw [← e]; exact z)
    have hvb1 : lbV ν1 b (wM B M) := hvb.fr hsb f1 fun q i z e => hyB i (by rw [← e]; exact z)
    obtain ⟨ξ, e, f2, i2⟩ := l_rc_64 hs hsb h12 hy hyA hyB hm d (t + 1) ν1 (by omega) hv1 hvb1 i1
    exact ⟨ξ, fun n kE => by rw [show d + 1 + 1 + n = d + 1 + n + 1 by omega, k1, e], f1.trans f2, i2⟩
theorem I3.ss (hW : ∀ k, hb (bw B) k = true → k < bn B) (hT : ∀ k, hb (bt B) k = true → k < bm B) (hn : bn B ≤ 12) (hm : bm B ≤ 12) {ν : MM} (h : I3 B M y (bm B) ν) : SS4 (gE B) M (bw B) (bt B) y ν := by
  obtain ⟨h0, h1, h2, h3⟩ := h
  refine ⟨⟨fun k q => ?_, fun k q => ?_, fun k _ b c => ?_⟩, ⟨fun k q => ?_, fun k q => ?_, fun k a b c => ?_⟩⟩
  · obtain ⟨a, b, c⟩ := (h0 k).mp q
    exact fwW.zero (by omega) b c
  · rw [h1, hb_zero] at q; cases q
  · exact (h0 k).mpr ⟨hW k b, b, c⟩
  · obtain ⟨a, b, c⟩ := (h3 k).mp q
    exact fwW.zero (by omega) b (by rw [tr_lt (by omega)]; exact c)
  · rw [h2, hb_zero] at q; cases q
  · rw [tr_lt a] at c
    exact (h3 k).mpr ⟨hT k b, b, c⟩
theorem l_reached (hs : lbS sh a) (hv : lbV μ a B) (hM : Ms (gE B) (bM B)) (h12 : ∀ w, bn B ≤ w → bM B w = 12) (hf : ∀ w t, gE B w t = true → w < bn B ∧ t < bm B) (hW : ∀ k, hb (bw B) k = true → k < bn B) (hT : ∀ k, hb (bt B) k = true → k < bm B) (hZ : Z μ sh.length) (hl : sh.length + 5000 < 1000000) :
    ∃ E ν y k M', f_X10_reached (lab a) (mS sh μ) = some (some y, mS (sh ++ E) ν) ∧ Gw 2100 E ∧ Fr (UP sh.length) μ ν ∧ Z ν (sh ++ E).length ∧ sh.length ≤ y ∧ (sh ++ E)[y]? = some (100, dI 4) ∧ Gr (gE B) 99 k (bM B) M' ∧ AlW (gE B) M' (bw B) (ν.1 y 0) (ν.1 y 1) ∧ AlW (trE (gE B)) (tr M') (bt B) (ν.1 y 3) (ν.1 y 2) := by
  have hn : bn B ≤ 12 := hv.2.2.2.2.1.1
  have hm : bm B ≤ 12 := hv.2.2.2.2.1.2.1
  have hE : Eb (gE B) := fun w t e => by have := hf w t e; omega
  obtain ⟨E1, ν1, e1, len1, gw1, f1, z1, s1, v1⟩ := l_like hs hv hZ (by omega)
  have hs1 : lbS (sh ++ E1) a := hs.app E1
  have ll1 : (sh ++ E1).length = sh.length + 30 := by rw [List.length_append, len1]
  obtain ⟨E2, ν2, k, M', e2, gw2, f2, z2, g, v2⟩ := l_settles s1 v1 hM h12 hf z1 (by omega) (most := 99) (by omega)
  have hs2 := s1.app E2
  have ha2 := hs1.app E2
  have gl := gw2.1
  have ll2 : ((sh ++ E1) ++ E2).length = sh.length + 30 + E2.length := by rw [List.length_append, ll1]
  have n3 := nwI_s (sh := (sh ++ E1) ++ E2) (μ := ν2) (n := 4) (k := 4) z2 rfl (by decide) (by omega)
  obtain ⟨y, hyd⟩ : ∃ y, y = ((sh ++ E1) ++ E2).length := ⟨_, rfl⟩
  rw [← hyd] at n3 ll2 z2
  have hy : (((sh ++ E1) ++ E2) ++ [(100, dI 4)])[y]? = some (100, dI 4) := by rw [hyd, List.getElem?_append_right (Nat.le_refl _), Nat.sub_self]; rfl
  have hs3 := ha2.app [(100, dI 4)]
  have hb3 := hs2.app [(100, dI 4)]
  have hyA : ∀ i, ¬ LF a y i := fun i z => by have := ha2.2.1.2; unfold LF at z; omega
  have hyB : ∀ i, ¬ LF (lkA sh.length) y i := fun i z => by have := hs2.2.1.2; unfold LF at z; omega
  have fu : Fr (UP sh.length) μ ν2 := f1.trans (f2.mono fun q i z => by
    unfold UP at z ⊢
    rcases z with z | z
    · rw [z]; show sh.length ≤ sh.length + 16; omega
    · omega)
  have va : lbV ν2 a B := hv.up hs fu
  have cM := g.1.Ms hE hM
  have m12 : ∀ w, bn B ≤ w → M' w = 12 := fun w hw => by
    by_cases z : M' w < 12
    · have := (hf _ _ (cM.1.2 w z)).1; omega
    · have := cM.1.1.1 w; omega
  have zz : ∀ i, ν2.1 y i = 0 := fun i => (z2 y (Nat.le_refl y) i).1
  obtain ⟨ν3, e3, f3, i3⟩ := l_rc_18 hs3 hb3 cM.1 hy hyA hyB hn (bn B) 0 ν2 (by omega) va v2 ⟨fun k => by rw [zz, hb_zero]; simp, zz 1, zz 2, zz 3⟩
  have va3 : lbV ν3 a B := va.fr hs3 f3 fun q i z e => hyA i (by rw [← e]; exact z)
  have vb3 : lbV ν3 (lkA sh.length) (wM B M') := v2.fr hb3 f3 fun q i z e => hyB i (by rw [← e]; exact z)
  obtain ⟨ν4, e4, f4, i4⟩ := l_rc_64 hs3 hb3 m12 hy hyA hyB hm (bm B) 0 ν3 (by omega) va3 vb3 ⟨i3.1, i3.2.1, i3.2.2.1, fun k => by rw [i3.2.2.2, hb_zero]; simp⟩
  have va4 : lbV ν4 a B := va3.fr hs3 f4 fun q i z e => hyA i (by rw [← e]; exact z)
  have vb4 : lbV ν4 (lkA sh.length) (wM B M') := vb3.fr hb3 f4 fun q i z e => hyB i (by rw [← e]; exact z)
  obtain ⟨ξ, e5, f5, r1, r2⟩ := l_rc_all hs3 hb3 hf hW hT cM.1 hy hyA hyB va4 vb4 (i4.ss hW hT hn hm)
  have fy : Fr (fun q _ => q = y) ν2 ξ := (f3.trans f4).trans f5
  refine ⟨(E1 ++ E2) ++ [(100, dI 4)], ξ, y, k, M', ?_, ((gw1.app gw2).app (Gw.one (by simp [dI]))).mono (by omega), fu.trans (fy.mono fun q i z => by unfold UP; omega), ?_, by omega, ?_, g, r1, r2⟩
  · have k3 := e3 (4999 - bn B) f_X10_reached_J62
    rw [show bn B + 1 + (4999 - bn B) = 5000 by omega] at k3
    have k4 := e4 (4999 - bm B) f_X10_reached_J107
    rw [show bm B + 1 + (4999 - bm B) = 5000 by omega] at k4
    have n99 : f_X10_settles sh.length 99 (mS (sh ++ E1) ν1) = some (Int32.ofNat k, mS ((sh ++ E1) ++ E2) ν2) := e2
    have vcb : ∀ {β : Type} {o : Option β}, vc (mS (sh ++ E1) ν1) 10 sh.length o = o := fun {β o} => s1.vc
    have t0 : f_X10_reached_L18 f_X10_reached_J62 5000 (lab a) sh.length y 0 (mS (((sh ++ E1) ++ E2) ++ [(100, dI 4)]) ν2) = some (some y, mS (((sh ++ E1) ++ E2) ++ [(100, dI 4)]) ξ) := (k3.trans k4).trans e5
    rw [← List.append_assoc, ← List.append_assoc]
    simp only [f_X10_reached, hs.vc, e1, Option.bind_some, vcb, n99, n3]
    exact t0
  · rw [← List.append_assoc, ← List.append_assoc, List.length_append]
    show Z ξ (((sh ++ E1) ++ E2).length + 1)
    rw [← hyd]
    exact (z2.mono (by omega)).fr fy fun q i z => by omega
  · rw [← List.append_assoc, ← List.append_assoc]; exact hy
end D9
