/-! THE LAW'S RUN: weight, add, drop -/
/-- behind the copy of what was -/
def RPn (i : Nat) (Ξ : xH) (ν : MM) (a b : LA) (B : Bk) (H : List Bk) (as : Nat → LA) : Prop :=
  (TW Ξ ν ∧ RS ν B H ∧ (lbS (shI ++ Ξ) a ∧ lbV ν a B ∧ 169 ≤ lab a) ∧ (bn B ≤ 4 ∧ bm B ≤ 4) ∧ BKs Ξ ν H as a ∧ H.length ≤ i ∧ Z ν (shI ++ Ξ).length ∧ Cz Ξ ∧ (shI ++ Ξ).length ≤ bud i + 30) ∧
  (lbS (shI ++ Ξ) b ∧ lbV ν b B ∧ 169 ≤ lab b) ∧ Dj b a ∧ ∀ j, j < H.length → Dj (as j) b
abbrev KHt : Type := Nat → Nat → Nat → Nat → Int32 → Int32 → Int32 → xH → Option (Int32 × xH)
abbrev KEt : Type := Nat → Nat → Int32 → xH → Option (Int32 × xH)
/-- a round goes on well -/
def RD (i : Nat) (F : KHt → KEt → Option (Int32 × xH)) : Prop := ∃ Ξ' ν' a' B' H' as', LI (i + 1) Ξ' ν' a' B' H' as' ∧ ∀ kH kE, F kH kE = kH 0 168 (lab a') 185 (Int32.ofNat H'.length) 1 (Int32.ofNat (i + 1)) (mX Ξ' ν')
section H3
variable {Ξ Ξ1 : xH} {μ ν ν1 : MM} {a b : LA} {B Bz Bc : Bk} {H : List Bk} {as : Nat → LA} {i n : Nat} {S : List Int32}
theorem RD.eq {F G : KHt → KEt → Option (Int32 × xH)} (h : RD i F) (e : ∀ kH kE, G kH kE = F kH kE) : RD i G := by
  obtain ⟨Ξ', ν', a', B', H', as', li, ee⟩ := h
  exact ⟨Ξ', ν', a', B', H', as', li, fun kH kE => (e kH kE).trans (ee kH kE)⟩
theorem hpush_s (h : H.length < 15) : hpush H B = H ++ [B] := if_pos h
theorem RPn.done (hi : i < 12) (h : RPn i Ξ ν a b B H as) (o : Ost 2010 a Ξ ν Ξ1 ν1) (r : RS ν1 Bc (hpush H B)) (hv : lbV ν1 a Bz) (hz : BOK Bz) (n4 : bn Bz ≤ 4) (m4 : bm Bz ≤ 4) {x8 x9 x14 : Int32} (md : Md x8 x9 x14 Bz Bc) : RD i fun kH kE => f_L_law_J1017 S kH kE 0 168 (lab a) 185 (Int32.ofNat H.length) 1 (Int32.ofNat i) x8 x9 (lab b) 1 x14 (mX Ξ1 ν1) := by
  obtain ⟨⟨t, -, ⟨hs, -, h9⟩, ⟨n4', m4'⟩, k, hH, hZ, cz, hl⟩, ⟨b1, b2, b9⟩, dba, das⟩ := h
  have bl := bud_le (show i ≤ 12 by omega)
  rw [hpush_s (by omega)] at r
  have ln := o.ln.2
  obtain ⟨c1, c2⟩ := o.bk b1 b2 dba
  obtain ⟨Ξ', ν', as', li, ee⟩ := law_17 (S := S) hi hz md (o.tw h9 t) r (o.s hs) hv h9 n4 m4 (o.ks k) hH o.z (o.cz cz) (by omega) c1 c2 b9 dba das n4' m4'
  exact ⟨Ξ', ν', a, Bc, H ++ [B], as', li, ee⟩
theorem RPn.not (hi : i < 12) (h : RPn i Ξ ν a b B H as) (o : Ost 2010 a Ξ ν Ξ1 ν1) (r : RS ν1 B H) (hv : lbV ν1 a B) {x8 x9 x14 : Int32} : RD i fun kH kE => f_L_law_J1017 S kH kE 0 168 (lab a) 185 (Int32.ofNat H.length) 1 (Int32.ofNat i) x8 x9 (lab b) 0 x14 (mX Ξ1 ν1) := by
  obtain ⟨⟨t, -, ⟨hs, -, h9⟩, ⟨n4, m4⟩, k, hH, hZ, cz, hl⟩, -⟩ := h
  have bl := bud_le (show i ≤ 12 by omega)
  have ln := o.ln.2
  obtain ⟨Ξ', ν', li, ee⟩ := law_65 (S := S) hi (o.tw h9 t) r (o.s hs) hv h9 n4 m4 (o.ks k) (by omega) o.z (o.cz cz) (by omega)
  refine ⟨Ξ', ν', a, B, H, as, li, fun kH kE => ?_⟩
  rw [← ee kH kE]
  simp only [f_L_law_J1017, if_true]
theorem RPn.hl (hi : i < 12) (h : RPn i Ξ ν a b B H as) : (shI ++ Ξ).length + 200000 < 1000000 := by
  have bl := bud_le (show i ≤ 12 by omega)
  have := h.1.2.2.2.2.2.2.2.2
  omega
/-- the class's call, then cells of the law's own book -/
theorem RPn.os (h : RPn i Ξ ν a b B H as) (s : Gst n Ξ ν Ξ1 ν1) : Ost n a Ξ ν Ξ1 ν1 ∧ lbS (shI ++ Ξ1) a ∧ lbV ν1 a B := ⟨s.os, (s.bk h.1.2.2.1.1 h.1.2.2.1.2.1).1, (s.bk h.1.2.2.1.1 h.1.2.2.1.2.1).2⟩
theorem LF.q (hs : lbS (shI ++ Ξ) a) (k : Nat) : LF a (laq a) k ∧ LF a (lar a) k ∧ ∀ w, w < 12 → LF a (lao a w) k := by
  obtain ⟨-, -, s1, s2, s3, s4, -⟩ := hs
  refine ⟨by unfold LF; omega, by unfold LF; omega, fun w hw => ?_⟩
  have := s4 w hw
  unfold LF; omega
theorem LF.l (hs : lbS (shI ++ Ξ) a) (k : Nat) : LF a (lab a) k := by
  have := hs.2.2.1
  unfold LF; omega
theorem Md.l {x8 x9 : Int32} (h : x9 = 6 → (x8 &&& (1 : Int32)) = 0) (k : Kp Bz Bc) : Md x8 x9 0 Bz Bc := Or.inl ⟨rfl, h, k⟩
/-- weight -/
theorem r_weight (hi : i < 12) (h : RPn i Ξ ν a b B H as) {w : Nat} (hw : w < bn B) {x8 : Int32} {F : KHt → KEt → Option (Int32 × xH)} (hF : ∀ kH kE, F kH kE = (f_L_weight 0 (Int32.ofNat w) ((x8 >>> ((6 : Int32) &&& 31)) &&& (31 : Int32)) (mX Ξ ν)).bind fun r9 => (gR r9.2 10 (lab a) 7).bind fun v10 => (aI r9.2 v10 (Int32.ofNat w)).bind fun v11 => if r9.1 = v11 then f_L_law_J223 S kH kE 0 168 (lab a) 185 (Int32.ofNat H.length) (Int32.ofNat i) x8 1 (Int32.ofNat w) (lab b) 1 0 1 r9.2 else f_L_law_J223 S kH kE 0 168 (lab a) 185 (Int32.ofNat H.length) (Int32.ofNat i) x8 1 (Int32.ofNat w) (lab b) 1 0 0 r9.2) : RD i F := by
  have hl := h.hl hi
  have hB := h.1.2.1.ok
  have w12 : w < 12 := Nat.lt_of_lt_of_le hw hB.n
  obtain ⟨c, c1, c2⟩ := andc (x8 >>> ((6 : Int32) &&& 31)) (m := 31) (by decide)
  have c2 : (x8 >>> ((6 : Int32) &&& 31)) &&& (31 : Int32) = Int32.ofNat c := c2
  obtain ⟨Ξ1, ν1, Bc, e1, s1, kp, r1⟩ := (q_weight h.1.2.1 (by omega) hw (show c ≤ 99 by omega)).go h.1.2.2.2.2.2.2.1
  obtain ⟨o1, b1, b2⟩ := h.os s1
  have g7 := b2.2.2.2.1 w w12
  have e2 := b1.sr (μ := ν1) (v := Int32.ofNat c) w12
  have v2 := b2.we b1 w12 (show c ≤ 99 by omega)
  refine (h.done (S := S) hi ((o1.sw h.1.2.2.1.1 (LF.q h.1.2.2.1.1 w).2.1).mn (by omega)) (r1.sw (by have := b1.2.2.2.2.1; have := b1.2.1.1; omega)) v2 (wE_ok hB (by omega)) h.1.2.2.2.1.1 h.1.2.2.2.1.2 (Md.l (x8 := x8) (x9 := 1) (fun z => absurd z (by decide)) kp)).eq fun kH kE => ?_
  rw [hF, c2]
  simp only [↓hbind e1, ↓hbind b1.r7, ↓hbind (b1.ar w12), g7, if_true, f_L_law_J223, c2, ↓hbind e2]
/-- add -/
theorem r_add (hi : i < 12) (h : RPn i Ξ ν a b B H as) {w t : Nat} (hw : w < bn B) (ht : t < bm B) {x8 : Int32} : RD i fun kH kE => f_L_law_J299 S kH kE 0 168 (lab a) 185 (Int32.ofNat H.length) (Int32.ofNat i) x8 1 (Int32.ofNat w) (Int32.ofNat t) (lab b) 1 0 (mX Ξ ν) := by
  have hl := h.hl hi
  have hB := h.1.2.1.ok
  have w12 : w < 12 := Nat.lt_of_lt_of_le hw hB.n
  have t12 : t < 12 := Nat.lt_of_lt_of_le ht hB.m
  obtain ⟨c, c1, c2⟩ := andc (x8 >>> ((6 : Int32) &&& 31)) (m := 31) (by decide)
  have c2 : (x8 >>> ((6 : Int32) &&& 31)) &&& (31 : Int32) = Int32.ofNat c := c2
  obtain ⟨Ξ1, ν1, Bc, e1, s1, kp, r1⟩ := (q_add h.1.2.1 (by omega) hw ht (show c ≤ 99 by omega)).go h.1.2.2.2.2.2.2.1
  obtain ⟨o1, b1, b2⟩ := h.os s1
  have go := b2.2.1 w t w12 t12
  have e2 := b1.so (μ := ν1) (v := Int32.ofNat c) w12 t12
  have v2 := b2.wf b1 w12 t12 (show c ≤ 99 by omega)
  refine (h.done (S := S) hi ((o1.sw h.1.2.2.1.1 ((LF.q h.1.2.2.1.1 t).2.2 w w12)).mn (by omega)) (r1.sw (by have := b1.2.2.2.2.2.1 w w12; have := b1.2.1.1; omega)) v2 (wF_ok hB hw ht (by omega)) h.1.2.2.2.1.1 h.1.2.2.2.1.2 (Md.l (x8 := x8) (x9 := 1) (fun z => absurd z (by decide)) kp)).eq fun kH kE => ?_
  simp only [f_L_law_J299, if_true, c2, lt, ↓hbind e1, ↓hbind b1.r5, ↓hbind (b1.ro w12), ↓hbind (b1.ao w12 t12), go, f_L_law_J343, ↓hbind e2]
/-- a mate is taken away -/
theorem un_lbV {D : Bk} (hs : lbS (shI ++ Ξ) a) (h : lbV ν a D) {w : Nat} (hw : w < 12) : lbV (st ν (laq a) w (-1)) a (wM D (up (bM D) w 12)) := by
  obtain ⟨⟨h0, h1, h2, h3, h4⟩, h5, h6, h7, h8, h9, h10, h11⟩ := h
  obtain ⟨-, -, s1, s2, s3, s4, s5, s6⟩ := hs
  refine ⟨⟨?_, ?_, ?_, ?_, ?_⟩, fun v s hv hs' => ?_, fun v hv => ?_, fun v hv => ?_, h8, fun v => ?_, h10, h11⟩
  · rw [st_ne (Or.inl (by omega))]; exact h0
  · rw [st_ne (Or.inl (by omega))]; exact h1
  · rw [st_ne (Or.inl (by omega))]; exact h2
  · rw [st_ne (Or.inl (by omega))]; exact h3
  · rw [st_ne (Or.inl (by omega))]; exact h4
  · rw [st_ne (Or.inl (s5.2 v hv).1)]; exact h5 v s hv hs'
  · show _ = eI (if v = w then 12 else bM D v)
    by_cases z : v = w
    · rw [if_pos z, z, st_same]; rfl
    · rw [if_neg z, st_ne (Or.inr z)]; exact h6 v hv
  · rw [st_ne (Or.inl (Ne.symm s5.1))]; exact h7 v hv
  · show (if v = w then 12 else bM D v) ≤ 12
    split
    · omega
    · exact h9 v
theorem st_id {q k : Nat} {v : Int32} (h : ν.1 q k = v) : st ν q k v = ν := MM.ext (fun p j => by
  rw [st_at]
  by_cases z : p = q ∧ j = k
  · rw [if_pos z, z.1, z.2, h]
  · rw [if_neg z]) (fun p j => rfl)
/-- drop -/
theorem r_drop (hi : i < 12) (h : RPn i Ξ ν a b B H as) {w t : Nat} (hw : w < bn B) (ht : t < bm B) {x8 : Int32} {x13 : Int32} : RD i fun kH kE => f_L_law_J299 S kH kE 0 168 (lab a) 185 (Int32.ofNat H.length) (Int32.ofNat i) x8 2 (Int32.ofNat w) (Int32.ofNat t) (lab b) x13 0 (mX Ξ ν) := by
  have hl := h.hl hi
  have hB := h.1.2.1.ok
  have w12 : w < 12 := Nat.lt_of_lt_of_le hw hB.n
  have t12 : t < 12 := Nat.lt_of_lt_of_le ht hB.m
  have n21 : ¬ ((2 : Int32) = 1) := by decide
  have hs := h.1.2.2.1.1
  have go := h.1.2.2.1.2.1.2.1 w t w12 t12
  have hm := hB.M.1.1 w
  cases c1 : hb (bf B w) t with
  | true =>
    rw [c1] at go
    have go : ν.1 (lao a w) t = Int32.ofNat (bc B w t) := go
    have hc := hB.c w t
    have n1 : ¬ (Int32.ofNat (bc B w t) < 0) := by rw [oN_l0 (by omega)]; exact id
    have n10 : ¬ ((1 : Int32) = 0) := by decide
    obtain ⟨Ξ1, ν1, Bc, e1, s1, kp, r1⟩ := (q_drop_k h.1.2.1 (by omega) hw ht c1).go h.1.2.2.2.2.2.2.1
    obtain ⟨o1, b1, b2⟩ := h.os s1
    have go1 := b2.2.1 w t w12 t12
    rw [c1] at go1
    have go1 : ν1.1 (lao a w) t = Int32.ofNat (bc B w t) := go1
    have e2 := b1.so (μ := ν1) (v := -1) w12 t12
    have v2 := b2.df b1 w12 t12
    obtain ⟨ν2, hν2⟩ : ∃ x, x = st ν1 (lao a w) t (-1) := ⟨_, rfl⟩
    rw [← hν2] at e2 v2
    have o2 : Ost 1 a Ξ ν Ξ1 ν2 := by rw [hν2]; exact o1.sw hs ((LF.q hs t).2.2 w w12)
    have lo := b1.2.2.2.2.2.1 w w12
    have lq := b1.2.2.2.1
    have l0 := b1.2.1.1
    have r2 : RS ν2 Bc (hpush H B) := by rw [hν2]; exact r1.sw (by omega)
    have g6 : ν2.1 (laq a) w = eI (bM B w) := v2.2.2.1 w w12
    by_cases z : bM B w = t
    · have ee : (eI (bM B w) = Int32.ofNat t) := by rw [z, eI_lt t12]
      have e3 := b1.sq (μ := ν2) (v := -1) w12
      have v3 := un_lbV b1 v2 w12
      have ew : wD B w t = wM (wDf B w t) (up (bM (wDf B w t)) w 12) := by
        show mkB (bn B) (bm B) (bk B) (bw B) (bt B) (be B) _ (bc B) (if bM B w = t then up (bM B) w 12 else bM B) = _
        rw [if_pos z]; rfl
      rw [← ew] at v3
      refine (h.done (S := S) hi ((o2.sw hs (LF.q hs w).1).mn (by omega)) (r2.sw (by omega)) v3 (wD_ok hB t12) h.1.2.2.2.1.1 h.1.2.2.2.1.2 (Md.l (x8 := x8) (x9 := 2) (fun z => absurd z (by decide)) kp)).eq fun kH kE => ?_
      simp only [f_L_law_J299, if_neg n21, if_true, ↓hbind hs.r5, ↓hbind (hs.ro w12), ↓hbind (hs.ao w12 t12), go, if_neg n1, f_L_law_J384, ↓hbind e1, if_neg n10, ↓hbind b1.r5, ↓hbind (b1.ro w12), ↓hbind (b1.ao w12 t12), go1, f_L_law_J414, f_L_law_J422, ↓hbind e2, ↓hbind b1.r6, ↓hbind (b1.aq w12), g6, if_pos ee, ↓hbind e3]
    · have ee : ¬ (eI (bM B w) = Int32.ofNat t) := by rw [eI_oN hm t12]; exact z
      have ew : wD B w t = wDf B w t := by
        show mkB (bn B) (bm B) (bk B) (bw B) (bt B) (be B) _ (bc B) (if bM B w = t then up (bM B) w 12 else bM B) = _
        rw [if_neg z]; rfl
      rw [← ew] at v2
      refine (h.done (S := S) hi (o2.mn (by omega)) r2 v2 (wD_ok hB t12) h.1.2.2.2.1.1 h.1.2.2.2.1.2 (Md.l (x8 := x8) (x9 := 2) (fun z => absurd z (by decide)) kp)).eq fun kH kE => ?_
      simp only [f_L_law_J299, if_neg n21, if_true, ↓hbind hs.r5, ↓hbind (hs.ro w12), ↓hbind (hs.ao w12 t12), go, if_neg n1, f_L_law_J384, ↓hbind e1, if_neg n10, ↓hbind b1.r5, ↓hbind (b1.ro w12), ↓hbind (b1.ao w12 t12), go1, f_L_law_J414, f_L_law_J422, ↓hbind e2, ↓hbind b1.r6, ↓hbind (b1.aq w12), g6, if_neg ee]
  | false =>
    rw [c1] at go
    have go : ν.1 (lao a w) t = -1 := go
    have n1 : ((-1 : Int32) < 0) := by decide
    obtain ⟨Ξ1, ν1, e1, s1, r1⟩ := (q_drop_a h.1.2.1 (by omega) hw ht c1).go h.1.2.2.2.2.2.2.1
    obtain ⟨o1, b1, b2⟩ := h.os s1
    have go1 := b2.2.1 w t w12 t12
    rw [c1] at go1
    have go1 : ν1.1 (lao a w) t = -1 := go1
    have e2 := b1.so (μ := ν1) (v := -1) w12 t12
    rw [st_id go1] at e2
    have g6 : ν1.1 (laq a) w = eI (bM B w) := b2.2.2.1 w w12
    have ee : ¬ (eI (bM B w) = Int32.ofNat t) := by
      rw [eI_oN hm t12]
      intro z
      have := (hB.fit (w := w) (by omega)).1
      rw [z, c1] at this
      cases this
    refine (h.not (S := S) hi (o1.mn (by omega)) r1 b2 (x8 := x8) (x9 := 2) (x14 := 0)).eq fun kH kE => ?_
    simp only [f_L_law_J299, if_neg n21, if_true, ↓hbind hs.r5, ↓hbind (hs.ro w12), ↓hbind (hs.ao w12 t12), go, if_pos n1, f_L_law_J384, ↓hbind e1, f_L_law_J414, f_L_law_J422, ↓hbind b1.r5, ↓hbind (b1.ro w12), ↓hbind e2, ↓hbind b1.r6, ↓hbind (b1.aq w12), g6, if_neg ee]
end H3
