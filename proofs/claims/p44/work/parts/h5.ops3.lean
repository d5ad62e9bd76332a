/-! THE LAW'S RUN: pair, part, keep, settle, trade, undo -/
section H5
variable {Ξ Ξ1 : xH} {μ ν ν1 : MM} {a b : LA} {B Bz Bc : Bk} {H : List Bk} {as : Nat → LA} {i n : Nat} {S : List Int32}
/-- the law's own pair, made -/
theorem lw_pair (hB : BOK B) (hs : lbS (shI ++ Ξ) a) (hv : lbV ν a B) {w t : Nat} (w12 : w < 12) (t12 : t < 12) (hm : bM B w ≠ t) : ∃ ν', lbV ν' a (wM B (jo (bM B) w t)) ∧ (∀ {n Ξ0 μ0}, lbS (shI ++ Ξ0) a → Ost n a Ξ0 μ0 Ξ ν → Ost n a Ξ0 μ0 Ξ ν') ∧ (∀ {C K}, RS ν C K → RS ν' C K) ∧
    ∀ x5 x7 x8 x9 x12 x14 kH kE, f_L_law_J715 S kH kE 0 168 (lab a) 185 x5 x7 x8 x9 (Int32.ofNat w) (Int32.ofNat t) x12 x14 1 (mX Ξ ν) = f_L_law_J752 S kH kE 0 168 (lab a) 185 x5 x7 x8 x9 (Int32.ofNat w) (Int32.ofNat t) x12 1 x14 (mX Ξ ν') := by
  have n10 : ¬ ((1 : Int32) = 0) := by decide
  have eo := l_owner hs hv hB.h12 t12
  have ol := ow_le (bM B) t
  have l0 := hs.2.1.1
  have lq := hs.2.2.2.1
  by_cases o : ow (bM B) t = 12
  · have n1 : (eI (ow (bM B) t) < 0) := by rw [o]; decide
    refine ⟨st ν (laq a) w (Int32.ofNat t), hv.mt hs w12 t12 o, fun h0 h => h.sw h0 (LF.q h0 w).1, fun r => r.sw (by omega), fun x5 x7 x8 x9 x12 x14 kH kE => ?_⟩
    simp only [f_L_law_J715, ↓hvc (fun _ => hs.vc), ↓hbind eo, if_neg n10, if_pos n1, f_L_law_J743, ↓hbind hs.r6, ↓hbind (hs.sq w12)]
  · have ow12 : ow (bM B) t < 12 := by omega
    have n1 : ¬ (eI (ow (bM B) t) < 0) := by rw [eI_l0]; omega
    have e3 := hs.sq (μ := ν) (v := -1) ow12
    rw [← eI_lt ow12] at e3
    have v1 := un_lbV hs hv ow12
    have o2 : ow (bM (wM B (up (bM B) (ow (bM B) t) 12))) t = 12 := by
      show ow (up (bM B) (ow (bM B) t) 12) t = 12
      rw [dr_ow hB.M.1 t12, if_pos (ow_M ow12)]
    have v2 := v1.mt hs w12 t12 o2
    have ej : jo (up (bM B) (ow (bM B) t) 12) w t = jo (bM B) w t := funext fun x => by
      unfold jo
      by_cases z : x = w
      · rw [if_pos z, if_pos z]
      · rw [if_neg z, if_neg z]
        by_cases y : x = ow (bM B) t
        · rw [y, up_same, ow_M ow12, if_pos rfl]
          split <;> rfl
        · rw [up_ne y]
    have v2 : lbV (st (st ν (laq a) (ow (bM B) t) (-1)) (laq a) w (Int32.ofNat t)) a (wM B (jo (bM B) w t)) := by rw [← ej]; exact v2
    refine ⟨_, v2, fun h0 h => (h.sw h0 (LF.q h0 _).1).sw h0 (LF.q h0 w).1, fun r => (r.sw (by omega)).sw (by omega), fun x5 x7 x8 x9 x12 x14 kH kE => ?_⟩
    simp only [f_L_law_J715, ↓hvc (fun _ => hs.vc), ↓hbind eo, if_neg n10, if_neg n1, ↓hbind hs.r6, ↓hbind e3, f_L_law_J743, ↓hbind (hs.sq w12)]
theorem r_pair (hi : i < 12) (h : RPn i Ξ ν a b B H as) {w t : Nat} (hw : w < bn B) (ht : t < bm B) {x8 : Int32} {x13 : Int32} : RD i fun kH kE => f_L_law_J299 S kH kE 0 168 (lab a) 185 (Int32.ofNat H.length) (Int32.ofNat i) x8 4 (Int32.ofNat w) (Int32.ofNat t) (lab b) x13 0 (mX Ξ ν) := by
  have n41 : ¬ ((4 : Int32) = 1) := by decide
  have n42 : ¬ ((4 : Int32) = 2) := by decide
  have n43 : ¬ ((4 : Int32) = 3) := by decide
  have n10 : ¬ ((1 : Int32) = 0) := by decide
  have hl := h.hl hi
  have hB := h.1.2.1.ok
  have w12 : w < 12 := Nat.lt_of_lt_of_le hw hB.n
  have t12 : t < 12 := Nat.lt_of_lt_of_le ht hB.m
  have hs := h.1.2.2.1.1
  have hv := h.1.2.2.1.2.1
  have hm := hB.M.1.1 w
  have ec := l_can hs hv w12 t12
  have g6 := hv.2.2.1 w w12
  have eo := l_owner hs hv hB.h12 t12
  by_cases c : gE B w t = true ∧ bM B w ≠ t
  · have ec : f_X10_can (lab a) (Int32.ofNat w) (Int32.ofNat t) (mX Ξ ν) = some (1, mX Ξ ν) := by rw [ec, c.1]; rfl
    have nm : ¬ (eI (bM B w) = Int32.ofNat t) := by rw [eI_oN hm t12]; exact c.2
    obtain ⟨ν2, v2, of, rf, e2⟩ := lw_pair (S := S) hB hs hv w12 t12 c.2
    have o2 := of hs (Ost.rf h.1.2.2.2.2.2.2.1)
    obtain ⟨Ξ1, ν1, Bc, e1, s1, kp, r1⟩ := (q_pair_k (rf h.1.2.1) (by omega) hw ht c.1 c.2).go o2.z
    obtain ⟨b1, b2⟩ := s1.bk (o2.s hs) v2
    have hB2 := wM_ok hB (jo_Ms hB.M w12 t12 c.1)
    have ep := l_pairs b1 b2 hB2.h12
    refine (h.done (S := S) hi ((o2.tr s1.os).mn (by omega)) r1 b2 hB2 h.1.2.2.2.1.1 h.1.2.2.2.1.2 (Md.l (x8 := x8) (x9 := 4) (fun z => absurd z (by decide)) kp)).eq fun kH kE => ?_
    have t1 : f_L_law_J299 S kH kE 0 168 (lab a) 185 (Int32.ofNat H.length) (Int32.ofNat i) x8 4 (Int32.ofNat w) (Int32.ofNat t) (lab b) x13 0 (mX Ξ ν) = f_L_law_J715 S kH kE 0 168 (lab a) 185 (Int32.ofNat H.length) (Int32.ofNat i) x8 4 (Int32.ofNat w) (Int32.ofNat t) (lab b) 0 1 (mX Ξ ν) := by
      simp only [f_L_law_J299, if_neg n41, if_neg n42, if_neg n43, if_true, ↓hvc (fun _ => hs.vc), ↓hbind ec, if_neg n10, ↓hbind hs.r6, ↓hbind (hs.aq w12), g6, if_neg nm]
    have e3 : f_X10_pairs (lab a) (mX Ξ1 ν1) = some (Int32.ofNat (sz (jo (bM B) w t)), mX Ξ1 ν1) := ep
    rw [t1, e2]
    simp only [f_L_law_J752, ↓hbind e1, if_neg n10, ↓hvc (fun _ => b1.vc), ↓hbind e3, f_L_law_J774, if_true, f_L_law_J782]
  · have q0 : gE B w t = true → bM B w = t := fun g => Classical.byContradiction fun z => c ⟨g, z⟩
    obtain ⟨Ξ1, ν1, e1, s1, r1⟩ := (q_pair_a h.1.2.1 (by omega) hw ht q0).go h.1.2.2.2.2.2.2.1
    obtain ⟨o1, b1, b2⟩ := h.os s1
    refine (h.not (S := S) hi (o1.mn (by omega)) r1 b2 (x8 := x8) (x9 := 4) (x14 := 0)).eq fun kH kE => ?_
    cases g : gE B w t with
    | false =>
      have ec : f_X10_can (lab a) (Int32.ofNat w) (Int32.ofNat t) (mX Ξ ν) = some (0, mX Ξ ν) := by rw [ec, g]; rfl
      simp only [f_L_law_J299, if_neg n41, if_neg n42, if_neg n43, if_true, ↓hvc (fun _ => hs.vc), ↓hbind ec, f_L_law_J714, f_L_law_J715, ↓hbind eo, f_L_law_J752, ↓hbind e1, f_L_law_J774, f_L_law_J782]
    | true =>
      have ec : f_X10_can (lab a) (Int32.ofNat w) (Int32.ofNat t) (mX Ξ ν) = some (1, mX Ξ ν) := by rw [ec, g]; rfl
      have nm : (eI (bM B w) = Int32.ofNat t) := by rw [eI_oN hm t12]; exact q0 g
      simp only [f_L_law_J299, if_neg n41, if_neg n42, if_neg n43, if_true, ↓hvc (fun _ => hs.vc), ↓hbind ec, if_neg n10, ↓hbind hs.r6, ↓hbind (hs.aq w12), g6, if_pos nm, f_L_law_J714, f_L_law_J715, ↓hbind eo, f_L_law_J752, ↓hbind e1, f_L_law_J774, f_L_law_J782]
theorem r_part (hi : i < 12) (h : RPn i Ξ ν a b B H as) {w : Nat} (hw : w < bn B) {x8 x11 : Int32} {x13 : Int32} : RD i fun kH kE => f_L_law_J299 S kH kE 0 168 (lab a) 185 (Int32.ofNat H.length) (Int32.ofNat i) x8 5 (Int32.ofNat w) x11 (lab b) x13 0 (mX Ξ ν) := by
  have n51 : ¬ ((5 : Int32) = 1) := by decide
  have n52 : ¬ ((5 : Int32) = 2) := by decide
  have n53 : ¬ ((5 : Int32) = 3) := by decide
  have n54 : ¬ ((5 : Int32) = 4) := by decide
  have n10 : ¬ ((1 : Int32) = 0) := by decide
  have hl := h.hl hi
  have hB := h.1.2.1.ok
  have w12 : w < 12 := Nat.lt_of_lt_of_le hw hB.n
  have hs := h.1.2.2.1.1
  have hv := h.1.2.2.1.2.1
  have hm := hB.M.1.1 w
  have g6 := hv.2.2.1 w w12
  by_cases c : bM B w < 12
  · have n1 : ¬ (eI (bM B w) < 0) := by rw [eI_l0]; omega
    obtain ⟨Ξ1, ν1, Bc, e1, s1, kp, r1⟩ := (q_part_k h.1.2.1 (by omega) hw c).go h.1.2.2.2.2.2.2.1
    obtain ⟨o1, b1, b2⟩ := h.os s1
    have g61 := b2.2.2.1 w w12
    have v2 := un_lbV b1 b2 w12
    have lq := b1.2.2.2.1
    have l0 := b1.2.1.1
    refine (h.done (S := S) hi ((o1.sw hs (LF.q hs w).1).mn (by omega)) (r1.sw (by omega)) v2 (wM_ok hB (drop_Ms hB.M w)) h.1.2.2.2.1.1 h.1.2.2.2.1.2 (Md.l (x8 := x8) (x9 := 5) (fun z => absurd z (by decide)) kp)).eq fun kH kE => ?_
    simp only [f_L_law_J299, if_neg n51, if_neg n52, if_neg n53, if_neg n54, if_true, ↓hbind hs.r6, ↓hbind (hs.aq w12), g6, if_neg n1, f_L_law_J808, ↓hbind e1, if_neg n10, ↓hbind b1.r6, ↓hbind (b1.aq w12), g61, f_L_law_J833, f_L_law_J841, ↓hbind (b1.sq w12)]
  · have n1 : (eI (bM B w) < 0) := by rw [eI_l0]; omega
    have m12 : bM B w = 12 := by omega
    obtain ⟨Ξ1, ν1, e1, s1, r1⟩ := (q_part_a h.1.2.1 (by omega) hw m12).go h.1.2.2.2.2.2.2.1
    obtain ⟨o1, b1, b2⟩ := h.os s1
    have g61 : ν1.1 (laq a) w = -1 := by rw [b2.2.2.1 w w12, m12]; rfl
    have e2 := b1.sq (μ := ν1) (v := -1) w12
    rw [st_id g61] at e2
    refine (h.not (S := S) hi (o1.mn (by omega)) r1 b2 (x8 := x8) (x9 := 5) (x14 := 0)).eq fun kH kE => ?_
    simp only [f_L_law_J299, if_neg n51, if_neg n52, if_neg n53, if_neg n54, if_true, ↓hbind hs.r6, ↓hbind (hs.aq w12), g6, if_pos n1, f_L_law_J808, ↓hbind e1, f_L_law_J833, f_L_law_J841, ↓hbind b1.r6, ↓hbind e2]
/-- keep -/
theorem lbV.kp (hs : lbS (shI ++ Ξ) a) (h : lbV ν a B) {c : Nat} (hc : c ≤ 1) : lbV (st ν (lab a) 2 (Int32.ofNat c)) a (wk B c) := by
  obtain ⟨⟨h0, h1, h2, h3, h4⟩, h5, h6, h7, ⟨h8, h8', h8''⟩, h9, h10, h11⟩ := h
  obtain ⟨-, -, s1, s2, s3, s4, s5, s6⟩ := hs
  refine ⟨⟨?_, ?_, st_same _ _ _ _, ?_, ?_⟩, fun v s hv hs' => ?_, fun v hv => ?_, fun v hv => ?_, ⟨h8, h8', hc⟩, h9, h10, h11⟩
  · rw [st_ne (Or.inr (by decide))]; exact h0
  · rw [st_ne (Or.inr (by decide))]; exact h1
  · rw [st_ne (Or.inr (by decide))]; exact h3
  · rw [st_ne (Or.inr (by decide))]; exact h4
  · rw [st_ne (Or.inl (by have := s4 v hv; omega))]; exact h5 v s hv hs'
  · rw [st_ne (Or.inl (by omega))]; exact h6 v hv
  · rw [st_ne (Or.inl (by omega))]; exact h7 v hv
theorem r_keep (hi : i < 12) (h : RPn i Ξ ν a b B H as) {x8 x10 x11 : Int32} (c8 : (x8 &&& (1 : Int32)) = 0) : RD i fun kH kE => f_L_law_J299 S kH kE 0 168 (lab a) 185 (Int32.ofNat H.length) (Int32.ofNat i) x8 6 x10 x11 (lab b) 1 0 (mX Ξ ν) := by
  have n61 : ¬ ((6 : Int32) = 1) := by decide
  have n62 : ¬ ((6 : Int32) = 2) := by decide
  have n63 : ¬ ((6 : Int32) = 3) := by decide
  have n64 : ¬ ((6 : Int32) = 4) := by decide
  have n65 : ¬ ((6 : Int32) = 5) := by decide
  have hl := h.hl hi
  have hB := h.1.2.1.ok
  have hs := h.1.2.2.1.1
  obtain ⟨c, c1, c2⟩ := andc (x8 >>> ((1 : Int32) &&& 31)) (m := 1) (by decide)
  have c2 : (x8 >>> ((1 : Int32) &&& 31)) &&& (1 : Int32) = Int32.ofNat c := c2
  obtain ⟨Ξ1, ν1, Bc, e1, s1, kp, r1⟩ := (q_keep h.1.2.1 (by omega) c1).go h.1.2.2.2.2.2.2.1
  obtain ⟨o1, b1, b2⟩ := h.os s1
  have g2 : ν1.1 (lab a) 2 = Int32.ofNat (bk B) := b2.1.2.2.1
  have l0 := b1.2.1.1
  have v2 := b2.kp b1 c1
  have kb := hB.k
  refine (h.done (S := S) hi ((o1.sw hs (LF.l hs 2)).mn (by omega)) (r1.sw l0) v2 (wk_ok hB c1) h.1.2.2.2.1.1 h.1.2.2.2.1.2 (Md.l (x8 := x8) (x9 := 6) (fun _ => c8) kp)).eq fun kH kE => ?_
  have t1 : f_L_law_J299 S kH kE 0 168 (lab a) 185 (Int32.ofNat H.length) (Int32.ofNat i) x8 6 x10 x11 (lab b) 1 0 (mX Ξ ν) = f_L_law_J898 S kH kE 0 168 (lab a) 185 (Int32.ofNat H.length) (Int32.ofNat i) x8 6 (lab b) 1 0 1 (mX Ξ1 ν1) := by
    by_cases z : bk B = 0
    · have z0 : (Int32.ofNat (bk B) = 0) := by rw [z]; rfl
      have g2' : ν1.1 (lab a) 2 = 0 := by rw [g2, z0]
      rw [z0] at e1
      simp only [f_L_law_J299, if_neg n61, if_neg n62, if_neg n63, if_neg n64, if_neg n65, if_true, if_pos c8, c2, ↓hbind e1, ↓hbind (b1.g (show 2 < 5 by decide)), g2', f_L_law_J890]
    · have z1 : (Int32.ofNat (bk B) = 1) := by rw [show bk B = 1 by omega]; rfl
      have g2' : ν1.1 (lab a) 2 = 1 := by rw [g2, z1]
      have n10 : ¬ ((1 : Int32) = 0) := by decide
      rw [z1] at e1
      simp only [f_L_law_J299, if_neg n61, if_neg n62, if_neg n63, if_neg n64, if_neg n65, if_true, if_pos c8, c2, ↓hbind e1, ↓hbind (b1.g (show 2 < 5 by decide)), g2', if_neg n10, f_L_law_J890]
  rw [t1]
  by_cases z : c = 1
  · have ez : (Int32.ofNat c = 1) := by rw [z]; rfl
    have e2 := b1.pz (μ := ν1) (v := 1) (Or.inr rfl)
    rw [ez]
    simp only [f_L_law_J898, c2, if_pos ez, f_L_law_J916, ↓hbind e2]
  · have z0 : c = 0 := by omega
    have ez : ¬ (Int32.ofNat c = 1) := by rw [z0]; decide
    have ez0 : Int32.ofNat c = 0 := by rw [z0]; rfl
    have e2 := b1.pz (μ := ν1) (v := 0) (Or.inl rfl)
    simp only [f_L_law_J898, c2, if_neg ez, f_L_law_J916, ↓hbind e2]
    rw [ez0]
/-- the law settles: a step -/
theorem lw_settle (hB : BOK B) (hs : lbS (shI ++ Ξ) a) (hv : lbV ν a B) (hR : RS ν B H) (hZ : Z ν (shI ++ Ξ).length) (hl : (shI ++ Ξ).length + 4000 < 1000000) {most : Nat} (hm : most < 1000) : ∃ Ξ1 ν1 k M', f_X10_settles (lab a) (Int32.ofNat most) (mX Ξ ν) = some (Int32.ofNat k, mX Ξ1 ν1) ∧ Ost 2000 a Ξ ν Ξ1 ν1 ∧ RS ν1 B H ∧ Gr (gE B) most k (bM B) M' ∧ lbV ν1 a (wM B M') := by
  obtain ⟨E, ν1, k, M', e1, g1, f1, z1, gr, v1⟩ := l_settles hs hv hB.M hB.h12 hB.hf hZ hl (most := most) hm
  rw [xXe] at e1
  rw [List.append_assoc] at z1
  have ql := hs.2.2.2.1
  refine ⟨Ξ ++ E, ν1, k, M', e1, ⟨E, rfl, g1, f1.mono fun q i z => ?_, z1⟩, ?_, gr, v1⟩
  · rcases z with z | z
    · exact Or.inr (Or.inl (by unfold LF; omega))
    · exact Or.inr (Or.inr z)
  · have l169 : 168 ≤ (shI ++ Ξ).length := by rw [xl]; omega
    obtain ⟨A, hC, hA, q1, q2, q3⟩ := hR
    exact ⟨A, hC.fr TT_F f1 fun q i a z => by unfold UP at z; have := hs.2.1.1; omega, hA, q1, q2, q3⟩
theorem r_settle (hi : i < 12) (h : RPn i Ξ ν a b B H as) {x8 x10 x11 x13 : Int32} (c8 : ¬ (x8 &&& (1 : Int32)) = 0) : RD i fun kH kE => f_L_law_J299 S kH kE 0 168 (lab a) 185 (Int32.ofNat H.length) (Int32.ofNat i) x8 6 x10 x11 (lab b) x13 0 (mX Ξ ν) := by
  have n61 : ¬ ((6 : Int32) = 1) := by decide
  have n62 : ¬ ((6 : Int32) = 2) := by decide
  have n63 : ¬ ((6 : Int32) = 3) := by decide
  have n64 : ¬ ((6 : Int32) = 4) := by decide
  have n65 : ¬ ((6 : Int32) = 5) := by decide
  have hl := h.hl hi
  have hB := h.1.2.1.ok
  have hs := h.1.2.2.1.1
  obtain ⟨c, c1, c2⟩ := andc (x8 >>> ((1 : Int32) &&& 31)) (m := 3) (by decide)
  have c2 : (1 : Int32) + ((x8 >>> ((1 : Int32) &&& 31)) &&& (3 : Int32)) = Int32.ofNat (1 + c) := by
    have c2 : (x8 >>> ((1 : Int32) &&& 31)) &&& (3 : Int32) = Int32.ofNat c := c2
    rw [c2]
    exact oN_add 1 c
  obtain ⟨Ξ1, ν1, k, M', e1, o1, r1, gr, v1⟩ := lw_settle hB hs h.1.2.2.1.2.1 h.1.2.1 h.1.2.2.2.2.2.2.1 (by omega) (most := 1 + c) (by omega)
  have l1 := o1.ln.2
  obtain ⟨Δ, ν2, e2, g2, f2, r2⟩ := q_settle (Ξ := Ξ1) r1 (by omega) (show 1 ≤ 1 + c by omega) (show 1 + c ≤ 12 by omega) gr
  have s2 : Gst 1 Ξ1 ν1 (Ξ1 ++ Δ) ν2 := ⟨Δ, rfl, g2, f2.mono fun _ _ z => Or.inl z, (o1.z.fr f2 (fun q i z => by unfold CL at z; rw [xl]; omega)).mono (by rw [xl, xl, List.length_append]; omega)⟩
  obtain ⟨b1, b2⟩ := s2.bk (o1.s hs) v1
  have o2 := (o1.tr s2.os).mn (show 2000 + 1 ≤ 2010 by omega)
  have pre : ∀ kH kE, f_L_law_J299 S kH kE 0 168 (lab a) 185 (Int32.ofNat H.length) (Int32.ofNat i) x8 6 x10 x11 (lab b) x13 0 (mX Ξ ν) = f_L_law_J956 S kH kE 0 168 (lab a) 185 (Int32.ofNat H.length) (Int32.ofNat i) x8 6 (lab b) 0 (Int32.ofNat k) 1 (mX (Ξ1 ++ Δ) ν2) := fun kH kE => by
    simp only [f_L_law_J299, if_neg n61, if_neg n62, if_neg n63, if_neg n64, if_neg n65, if_true, if_neg c8, c2, lt, ↓hvc (fun _ => hs.vc), ↓hbind e1, ↓hbind e2]
  have k12 : k ≤ 12 := by have := gr.2.1; omega
  by_cases z : k = 0
  · subst z
    have eM : M' = bM B := gr.1
    rw [eM] at b2 r2
    rw [if_pos rfl] at r2
    have c0 : (Int32.ofNat 0 ≤ 0) := by decide
    refine (h.not (S := S) hi o2 r2 b2 (x8 := x8) (x9 := 6) (x14 := 0)).eq fun kH kE => ?_
    rw [pre]
    simp only [f_L_law_J956, if_pos c0, f_L_law_J968]
  · rw [if_neg z] at r2
    have c0 : ¬ (Int32.ofNat k ≤ 0) := by rw [lle_0 (by omega)]; omega
    have hB2 := wM_ok hB (gr.1.Ms hB.Eb hB.M).1
    refine (h.done (S := S) hi o2 r2 b2 hB2 h.1.2.2.2.1.1 h.1.2.2.2.1.2 (x8 := x8) (x9 := 6) (x14 := 0) (Or.inr ⟨Or.inr ⟨rfl, rfl, c8⟩, rfl⟩)).eq fun kH kE => ?_
    rw [pre]
    simp only [f_L_law_J956, if_neg c0, f_L_law_J968]
/-- trade -/
theorem r_trade (hi : i < 12) (h : RPn i Ξ ν a b B H as) {x8 x10 x11 x13 x14 : Int32} (c8 : ((x8 >>> ((11 : Int32) &&& 31)) &&& (1 : Int32)) = 0) : RD i fun kH kE => f_L_law_J243 S kH kE 0 168 (lab a) 185 (Int32.ofNat H.length) (Int32.ofNat i) x8 5 x10 x11 (lab b) x13 x14 (mX Ξ ν) := by
  have hl := h.hl hi
  have hB := h.1.2.1.ok
  have hs := h.1.2.2.1.1
  obtain ⟨ν1, M', e1, f1, v1, q1⟩ := l_trades hs h.1.2.2.1.2.1 hB.M
  have lq := hs.2.2.2.1
  have l0 := hs.2.1.1
  have o1 : Ost 0 a Ξ ν Ξ ν1 := ⟨[], by rw [List.append_nil], Gw.nil 0, f1.mono fun q i z => Or.inr (Or.inl (by unfold LF; omega)), h.1.2.2.2.2.2.2.1.fr f1 fun q i z => by have := hs.2.1.2; omega⟩
  have r1 : RS ν1 B H := by
    obtain ⟨A, hC, hA, q1, q2, q3⟩ := h.1.2.1
    exact ⟨A, hC.fr TT_F f1 fun q i a z => by omega, hA, q1, q2, q3⟩
  obtain ⟨ν2, M2, e2, f2, r2, q2⟩ := q_trade (Ξ := Ξ) r1
  have s2 := Gst.cl f2 o1.z
  obtain ⟨b1, b2⟩ := s2.bk (o1.s hs) v1
  have o2 := (o1.tr s2.os (a := a)).mn (show 0 + 0 ≤ 2010 by omega)
  have pre : ∀ kH kE, f_L_law_J243 S kH kE 0 168 (lab a) 185 (Int32.ofNat H.length) (Int32.ofNat i) x8 5 x10 x11 (lab b) x13 x14 (mX Ξ ν) = f_L_law_J279 S kH kE 0 168 (lab a) 185 (Int32.ofNat H.length) (Int32.ofNat i) x8 5 (lab b) (trF B).1 1 (mX Ξ ν2) := fun kH kE => by
    simp only [f_L_law_J243, if_true, if_pos c8, ↓hvc (fun _ => hs.vc), ↓hbind e1, ↓hvc (fun _ => vc_0), ↓hbind e2]
  rcases q1 with ⟨p0, rfl⟩ | ⟨v, w, vw, p, tf, v12, w12, rfl⟩
  · rcases q2 with ⟨-, rfl⟩ | ⟨v, w, -, p, -⟩
    · rw [if_pos p0] at r2
      have c0 : ((0 : Int32) ≤ 0) := by decide
      refine (h.not (S := S) hi o2 r2 b2 (x8 := x8) (x9 := 5) (x14 := 1)).eq fun kH kE => ?_
      rw [pre, p0]
      simp only [f_L_law_J279, if_pos c0, f_L_law_J291]
    · rw [p0] at p; exact absurd p (by decide)
  · have np : ¬ (trF B).1 = 0 := fun z => by rw [z] at p; exact absurd p (by decide)
    rw [if_neg np] at r2
    rcases q2 with ⟨p0, -⟩ | ⟨v', w', -, -, tf', v12', w12', rfl⟩
    · exact absurd p0 np
    · have e := tf.symm.trans tf'
      simp only [Prod.mk.injEq, true_and] at e
      have ev := (oN_inj (by omega) (by omega)).mp e.1
      have ew := (oN_inj (by omega) (by omega)).mp e.2
      subst ev ew
      have g := gn_pos (B := B) (v := v) (w := w)
      have ti := trF_TI B
      have hg : 0 < gn B v w := by
        rcases ti with ti | ⟨v2, w2, vw2, wn2, ti, tp⟩
        · rw [ti] at p; exact absurd p (by decide)
        · have e2 := tf.symm.trans ti
          have e3 : (trF B).1 = gn B v2 w2 := by rw [ti]
          simp only [Prod.mk.injEq] at e2
          have lv : v2 < 12 := by
            have := hB.n
            omega
          have lw : w2 < 12 := by
            have := hB.n
            omega
          have a1 := (oN_inj (by omega) (by omega)).mp e2.2.1
          have a2 := (oN_inj (by omega) (by omega)).mp e2.2.2
          rw [a1, a2]; exact tp
      have hB2 := wM_ok hB (sw_Ms hB vw (g hg))
      have c0 : ¬ ((trF B).1 ≤ 0) := Int32.not_le.mpr p
      refine (h.done (S := S) hi o2 r2 b2 hB2 h.1.2.2.2.1.1 h.1.2.2.2.1.2 (x8 := x8) (x9 := 5) (x14 := 1) (Or.inr ⟨Or.inl rfl, rfl⟩)).eq fun kH kE => ?_
      rw [pre]
      simp only [f_L_law_J279, if_neg c0, f_L_law_J291]
end H5
