/-! THE LAW'S RUN: is, pair, part -/
section H4
variable {Ξ Ξ1 : xH} {μ ν ν1 : MM} {a b : LA} {B Bz Bc : Bk} {H : List Bk} {as : Nat → LA} {i n : Nat} {S : List Int32}
theorem bit1 (x : Int32) : ∃ th, x &&& (1 : Int32) = bI th := by
  obtain ⟨c, c1, c2⟩ := andc x (m := 1) (by decide)
  have c2 : x &&& (1 : Int32) = Int32.ofNat c := c2
  by_cases z : c = 1
  · exact ⟨true, by rw [c2, z]; rfl⟩
  · exact ⟨false, by rw [c2, show c = 0 by omega]; rfl⟩
theorem bit_th {x : Int32} {k : Nat} (hk : k < 32) (th : Bool) : (((x >>> (Int32.ofNat k &&& 31)) &&& (1 : Int32)) = bI th) = (hb x k = th) := by
  cases th with
  | true => exact has_eq1 hk
  | false => exact has_eq hk
theorem wW_m {w : Nat} {th : Bool} (hw : w < 12) (q : hb (bw B) w = !th) : wW B w th = wM (wX B (bw B ^^^ ((1 : Int32) <<< (Int32.ofNat w &&& 31))) (bt B)) (up (bM B) w 12) := by
  have e : (if th = true then bw B ||| ((1 : Int32) <<< (Int32.ofNat w &&& 31)) else bw B &&& (((1 : Int32) <<< (Int32.ofNat w &&& 31)) ^^^ (-1))) = bw B ^^^ ((1 : Int32) <<< (Int32.ofNat w &&& 31)) := wW_xor hw q
  unfold wW
  rw [e]
  rfl
theorem wT_m {t : Nat} {th : Bool} (ht : t < 12) (q : hb (bt B) t = !th) : wT B t th = wM (wX B (bw B) (bt B ^^^ ((1 : Int32) <<< (Int32.ofNat t &&& 31)))) (up (bM B) (ow (bM B) t) 12) := by
  have e : (if th = true then bt B ||| ((1 : Int32) <<< (Int32.ofNat t &&& 31)) else bt B &&& (((1 : Int32) <<< (Int32.ofNat t &&& 31)) ^^^ (-1))) = bt B ^^^ ((1 : Int32) <<< (Int32.ofNat t &&& 31)) := wT_xor ht q
  unfold wT
  rw [e]
  rfl
/-- a worker goes or comes -/
theorem r_is_w (hi : i < 12) (h : RPn i Ξ ν a b B H as) {w : Nat} (hw : w < bn B) {x8 x11 : Int32} (th : Bool) : RD i fun kH kE => f_L_law_J488 S kH kE 0 168 (lab a) 185 (Int32.ofNat H.length) (Int32.ofNat i) x8 3 (Int32.ofNat w) x11 (lab b) 0 (bI th) 1 (mX Ξ ν) := by
  have hl := h.hl hi
  have hB := h.1.2.1.ok
  have w12 : w < 12 := Nat.lt_of_lt_of_le hw hB.n
  have hs := h.1.2.2.1.1
  have n10 : ¬ ((1 : Int32) = 0) := by decide
  have g6 := h.1.2.2.1.2.1.2.2.1 w w12
  have g3 : ν.1 (lab a) 3 = bw B := h.1.2.2.1.2.1.1.2.2.2.1
  have bt' := bit_th (x := bw B) (show w < 32 by omega) th
  by_cases c : hb (bw B) w = th
  · have cc : ((bw B >>> (Int32.ofNat w &&& 31)) &&& (1 : Int32)) = bI th := by rw [bt']; exact c
    obtain ⟨Ξ1, ν1, e1, s1, r1⟩ := (q_is_wa h.1.2.1 (by omega) hw c).go h.1.2.2.2.2.2.2.1
    obtain ⟨o1, b1, b2⟩ := h.os s1
    refine (h.not (S := S) hi (o1.mn (by omega)) r1 b2 (x8 := x8) (x9 := 3) (x14 := 0)).eq fun kH kE => ?_
    simp only [f_L_law_J488, if_neg n10, f_L_law_J502, ↓hbind hs.r6, ↓hbind (hs.aq w12), g6, f_L_law_J525, ↓hbind (hs.g (show 3 < 5 by decide)), g3, f_L_law_J543, if_pos cc, f_L_law_J558, f_L_law_J571, ↓hbind e1, if_true, f_L_law_J600, f_L_law_J608, f_L_law_J678]
  · have cc : ¬ ((bw B >>> (Int32.ofNat w &&& 31)) &&& (1 : Int32)) = bI th := by rw [bt']; exact c
    have q : hb (bw B) w = !th := by cases z : hb (bw B) w <;> cases th <;> simp_all
    obtain ⟨Ξ1, ν1, Bc, e1, s1, kp, r1⟩ := (q_is_w h.1.2.1 (by omega) hw q).go h.1.2.2.2.2.2.2.1
    obtain ⟨o1, b1, b2⟩ := h.os s1
    have g31 : ν1.1 (lab a) 3 = bw B := b2.1.2.2.2.1
    have e2 := b1.p (μ := ν1) (v := bw B ^^^ ((1 : Int32) <<< (Int32.ofNat w &&& 31))) (show 3 < 5 by decide)
    have v2 := b2.w3 b1 (bw B ^^^ ((1 : Int32) <<< (Int32.ofNat w &&& 31)))
    obtain ⟨ν2, hν2⟩ : ∃ x, x = st ν1 (lab a) 3 (bw B ^^^ ((1 : Int32) <<< (Int32.ofNat w &&& 31))) := ⟨_, rfl⟩
    rw [← hν2] at e2 v2
    have e3 := b1.sq (μ := ν2) (v := -1) w12
    have v3 := un_lbV b1 v2 w12
    have l0 := b1.2.1.1
    have lq := b1.2.2.2.1
    have o2 : Ost 1 a Ξ ν Ξ1 ν2 := by rw [hν2]; exact o1.sw hs (LF.l hs 3)
    have r2 : RS ν2 Bc (hpush H B) := by rw [hν2]; exact r1.sw l0
    have eW := wW_m w12 q
    have v3 : lbV (st ν2 (laq a) w (-1)) a (wW B w th) := by rw [eW]; exact v3
    refine (h.done (S := S) hi ((o2.sw hs (LF.q hs w).1).mn (by omega)) (r2.sw (by omega)) v3 (wW_ok hB hw) h.1.2.2.2.1.1 h.1.2.2.2.1.2 (Md.l (x8 := x8) (x9 := 3) (fun z => absurd z (by decide)) kp)).eq fun kH kE => ?_
    cases th with
    | true =>
      have m12 : bM B w = 12 := by
        have := hB.M.1.1 w
        by_cases z : bM B w < 12
        · have := (hB.fit z).2.1
          rw [q] at this; cases this
        · omega
      have e1 : f_L_is 0 0 (Int32.ofNat w) (bI true) (mX Ξ ν) = some (-1, mX Ξ1 ν1) := by rw [e1, m12]; rfl
      have t1 : (bI true = 1) := rfl
      simp only [f_L_law_J488, if_neg n10, f_L_law_J502, ↓hbind hs.r6, ↓hbind (hs.aq w12), g6, f_L_law_J525, ↓hbind (hs.g (show 3 < 5 by decide)), g3, f_L_law_J543, if_neg cc, f_L_law_J558, f_L_law_J571, ↓hbind e1, if_pos t1, if_true, f_L_law_J600, f_L_law_J608, ↓hbind (b1.g (show 3 < 5 by decide)), g31, ↓hbind e2, f_L_law_J649, ↓hbind b1.r6, ↓hbind e3, f_L_law_J678]
    | false =>
      have t1 : ¬ (bI false = 1) := by decide
      simp only [f_L_law_J488, if_neg n10, f_L_law_J502, ↓hbind hs.r6, ↓hbind (hs.aq w12), g6, f_L_law_J525, ↓hbind (hs.g (show 3 < 5 by decide)), g3, f_L_law_J543, if_neg cc, f_L_law_J558, f_L_law_J571, ↓hbind e1, if_neg t1, if_true, f_L_law_J600, f_L_law_J608, ↓hbind (b1.g (show 3 < 5 by decide)), g31, ↓hbind e2, f_L_law_J649, ↓hbind b1.r6, ↓hbind e3, f_L_law_J678]
/-- a task goes or comes -/
theorem r_is_t (hi : i < 12) (h : RPn i Ξ ν a b B H as) {t : Nat} (ht : t < bm B) {x8 x10 : Int32} (th : Bool) : RD i fun kH kE => f_L_law_J488 S kH kE 0 168 (lab a) 185 (Int32.ofNat H.length) (Int32.ofNat i) x8 3 x10 (Int32.ofNat t) (lab b) 0 (bI th) 0 (mX Ξ ν) := by
  have hl := h.hl hi
  have hB := h.1.2.1.ok
  have t12 : t < 12 := Nat.lt_of_lt_of_le ht hB.m
  have hs := h.1.2.2.1.1
  have n10 : ¬ ((1 : Int32) = 0) := by decide
  have eo := l_owner hs h.1.2.2.1.2.1 hB.h12 t12
  have ol := ow_le (bM B) t
  have g4 : ν.1 (lab a) 4 = bt B := h.1.2.2.1.2.1.1.2.2.2.2
  have bt' := bit_th (x := bt B) (show t < 32 by omega) th
  by_cases c : hb (bt B) t = th
  · have cc : ((bt B >>> (Int32.ofNat t &&& 31)) &&& (1 : Int32)) = bI th := by rw [bt']; exact c
    obtain ⟨Ξ1, ν1, e1, s1, r1⟩ := (q_is_ta h.1.2.1 (by omega) ht c).go h.1.2.2.2.2.2.2.1
    obtain ⟨o1, b1, b2⟩ := h.os s1
    refine (h.not (S := S) hi (o1.mn (by omega)) r1 b2 (x8 := x8) (x9 := 3) (x14 := 0)).eq fun kH kE => ?_
    simp only [f_L_law_J488, if_true, f_L_law_J502, ↓hvc (fun _ => hs.vc), ↓hbind eo, f_L_law_J525, ↓hbind (hs.g (show 4 < 5 by decide)), g4, f_L_law_J543, if_pos cc, f_L_law_J558, f_L_law_J571, ↓hbind e1, f_L_law_J600, f_L_law_J608, f_L_law_J678]
  · have cc : ¬ ((bt B >>> (Int32.ofNat t &&& 31)) &&& (1 : Int32)) = bI th := by rw [bt']; exact c
    have q : hb (bt B) t = !th := by cases z : hb (bt B) t <;> cases th <;> simp_all
    obtain ⟨Ξ1, ν1, Bc, e1, s1, kp, r1⟩ := (q_is_t h.1.2.1 (by omega) ht q).go h.1.2.2.2.2.2.2.1
    obtain ⟨o1, b1, b2⟩ := h.os s1
    have g41 : ν1.1 (lab a) 4 = bt B := b2.1.2.2.2.2
    have e2 := b1.p (μ := ν1) (v := bt B ^^^ ((1 : Int32) <<< (Int32.ofNat t &&& 31))) (show 4 < 5 by decide)
    have v2 := b2.w4 b1 (bt B ^^^ ((1 : Int32) <<< (Int32.ofNat t &&& 31)))
    obtain ⟨ν2, hν2⟩ : ∃ x, x = st ν1 (lab a) 4 (bt B ^^^ ((1 : Int32) <<< (Int32.ofNat t &&& 31))) := ⟨_, rfl⟩
    rw [← hν2] at e2 v2
    have l0 := b1.2.1.1
    have lq := b1.2.2.2.1
    have o2 : Ost 1 a Ξ ν Ξ1 ν2 := by rw [hν2]; exact o1.sw hs (LF.l hs 4)
    have r2 : RS ν2 Bc (hpush H B) := by rw [hν2]; exact r1.sw l0
    have eW := wT_m t12 q
    by_cases o : ow (bM B) t = 12
    · have M12 : bM B 12 = 12 := hB.M.1.2.1 12 (Nat.le_refl _)
      have eU : up (bM B) (ow (bM B) t) 12 = bM B := by rw [o]; exact up_eq M12
      have v3 : lbV ν2 a (wT B t th) := by rw [eW, eU]; exact v2
      have n1 : (eI (ow (bM B) t) < 0) := by rw [o]; decide
      have em : eI (ow (bM B) t) = -1 := by rw [o]; rfl
      refine (h.done (S := S) hi (o2.mn (by omega)) r2 v3 (wT_ok hB ht) h.1.2.2.2.1.1 h.1.2.2.2.1.2 (Md.l (x8 := x8) (x9 := 3) (fun z => absurd z (by decide)) kp)).eq fun kH kE => ?_
      cases th with
      | true =>
        have t1 : (bI true = 1) := rfl
        have e1 : f_L_is 0 1 (Int32.ofNat t) (bI true) (mX Ξ ν) = some (-1, mX Ξ1 ν1) := by rw [e1, em]
        simp only [f_L_law_J488, if_true, f_L_law_J502, ↓hvc (fun _ => hs.vc), ↓hbind eo, f_L_law_J525, ↓hbind (hs.g (show 4 < 5 by decide)), g4, f_L_law_J543, if_neg cc, f_L_law_J558, f_L_law_J571, ↓hbind e1, if_neg n10, if_pos t1, f_L_law_J600, f_L_law_J608, ↓hbind (b1.g (show 4 < 5 by decide)), g41, ↓hbind e2, f_L_law_J649, if_pos n1, f_L_law_J678]
      | false =>
        have t1 : ¬ (bI false = 1) := by decide
        simp only [f_L_law_J488, if_true, f_L_law_J502, ↓hvc (fun _ => hs.vc), ↓hbind eo, f_L_law_J525, ↓hbind (hs.g (show 4 < 5 by decide)), g4, f_L_law_J543, if_neg cc, f_L_law_J558, f_L_law_J571, ↓hbind e1, if_neg n10, if_neg t1, f_L_law_J600, f_L_law_J608, ↓hbind (b1.g (show 4 < 5 by decide)), g41, ↓hbind e2, f_L_law_J649, if_pos n1, f_L_law_J678]
    · have ow12 : ow (bM B) t < 12 := by omega
      have n1 : ¬ (eI (ow (bM B) t) < 0) := by rw [eI_l0]; omega
      have e3 := b1.sq (μ := ν2) (v := -1) ow12
      rw [← eI_lt ow12] at e3
      have v3 := un_lbV b1 v2 ow12
      have v3 : lbV (st ν2 (laq a) (ow (bM B) t) (-1)) a (wT B t th) := by rw [eW]; exact v3
      have thf : th = false := by
        cases th with
        | false => rfl
        | true =>
          have := (hB.fit (w := ow (bM B) t) (by rw [ow_M ow12]; exact t12)).2.2
          rw [ow_M ow12, q] at this
          cases this
      subst thf
      have t1 : ¬ (bI false = 1) := by decide
      refine (h.done (S := S) hi ((o2.sw hs (LF.q hs _).1).mn (by omega)) (r2.sw (by omega)) v3 (wT_ok hB ht) h.1.2.2.2.1.1 h.1.2.2.2.1.2 (Md.l (x8 := x8) (x9 := 3) (fun z => absurd z (by decide)) kp)).eq fun kH kE => ?_
      simp only [f_L_law_J488, if_true, f_L_law_J502, ↓hvc (fun _ => hs.vc), ↓hbind eo, f_L_law_J525, ↓hbind (hs.g (show 4 < 5 by decide)), g4, f_L_law_J543, if_neg cc, f_L_law_J558, f_L_law_J571, ↓hbind e1, if_neg n10, if_neg t1, f_L_law_J600, f_L_law_J608, ↓hbind (b1.g (show 4 < 5 by decide)), g41, ↓hbind e2, f_L_law_J649, if_neg n1, ↓hbind b1.r6, ↓hbind e3, f_L_law_J678]
theorem r_is (hi : i < 12) (h : RPn i Ξ ν a b B H as) {w t : Nat} (hw : w < bn B) (ht : t < bm B) {x8 : Int32} {x13 : Int32} : RD i fun kH kE => f_L_law_J299 S kH kE 0 168 (lab a) 185 (Int32.ofNat H.length) (Int32.ofNat i) x8 3 (Int32.ofNat w) (Int32.ofNat t) (lab b) x13 0 (mX Ξ ν) := by
  have n31 : ¬ ((3 : Int32) = 1) := by decide
  have n32 : ¬ ((3 : Int32) = 2) := by decide
  obtain ⟨th, hth⟩ := bit1 (x8 >>> ((8 : Int32) &&& 31))
  by_cases c : ((x8 >>> ((9 : Int32) &&& 31)) &&& (1 : Int32)) = 0
  · refine (r_is_w (S := S) hi h hw (x8 := x8) (x11 := Int32.ofNat t) th).eq fun kH kE => ?_
    simp only [f_L_law_J299, if_neg n31, if_neg n32, if_true, hth, lt, if_pos c]
  · refine (r_is_t (S := S) hi h ht (x8 := x8) (x10 := Int32.ofNat w) th).eq fun kH kE => ?_
    simp only [f_L_law_J299, if_neg n31, if_neg n32, if_true, hth, lt, if_neg c]
end H4
