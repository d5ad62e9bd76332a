/-! THE LAW'S BOOK: chosen -/
def wWk (B : Bk) (y : Int32) : Bk := mkB (bn B) (bm B) (bk B) y (bt B) (be B) (bf B) (bc B) (bM B)
theorem wWk_gE {B : Bk} {y : Int32} (h : ∀ k, hb y k = true → hb (bw B) k = true) (v t : Nat) : gE (wWk B y) v t = (gE B v t && hb y v) := by
  show (hb (bf B v) t && hb y v && hb (bt B) t) = (hb (bf B v) t && hb (bw B) v && hb (bt B) t && hb y v)
  cases e : hb y v with
  | false => simp
  | true => rw [h v e]; simp
theorem lbV.ww {sh : xH} {μ : MM} {a : LA} {B : Bk} (hs : lbS sh a) (h : lbV μ a B) (y : Int32) : lbV (st μ (lab a) 3 y) a (wWk B y) := by
  obtain ⟨⟨h0, h1, h2, h3, h4⟩, h5, h6, h7, h8⟩ := h
  obtain ⟨-, -, s1, s2, s3, s4, -⟩ := hs
  refine ⟨⟨?_, ?_, ?_, st_same _ _ _ _, ?_⟩, fun w t hw ht => ?_, fun w hw => ?_, fun w hw => ?_, h8⟩
  · rw [st_ne (Or.inr (by decide))]; exact h0
  · rw [st_ne (Or.inr (by decide))]; exact h1
  · rw [st_ne (Or.inr (by decide))]; exact h2
  · rw [st_ne (Or.inr (by decide))]; exact h4
  · have := s4 w hw
    rw [st_ne (Or.inl (by omega))]; exact h5 w t hw ht
  · rw [st_ne (Or.inl (by omega))]; exact h6 w hw
  · rw [st_ne (Or.inl (by omega))]; exact h7 w hw
section Dd
variable {B : Bk}
/-- the same book with other workers: can they all have tasks at once? -/
theorem l_try {sh : xH} {μ : MM} {a : LA} (hs : lbS sh a) (hv : lbV μ a B) (hf : ∀ w t, gE B w t = true → w < bn B ∧ t < bm B) (hZ : Z μ sh.length) (hl : sh.length + 100 < 1000000) {y : Int32} (hy : ∀ k, hb y k = true → hb (bw B) k = true) (h12 : m12 y) :
    ∃ E ν p, f_X10_like (lab a) (mS sh μ) = some (some sh.length, mS (sh ++ E) ν) ∧ pI (mS (sh ++ E) ν) 10 sh.length 3 y = some (mS (sh ++ E) (st ν sh.length 3 y)) ∧ gI (mS (sh ++ E) (st ν sh.length 3 y)) 10 sh.length 3 = some y ∧
      f_X10_most 40 sh.length 0 0 (mS (sh ++ E) (st ν sh.length 3 y)) = some (Int32.ofNat p, mS (sh ++ E) (st ν sh.length 3 y)) ∧ (∀ {β : Type} {o : Option β}, vc (mS (sh ++ E) (st ν sh.length 3 y)) 10 sh.length o = o) ∧ E.length = 30 ∧ Gw 30 E ∧ Fr (UP sh.length) μ (st ν sh.length 3 y) ∧ Z (st ν sh.length 3 y) (sh ++ E).length ∧
      p ≤ 12 ∧ (p = cnt (hb y) 12 ↔ mb (gE B) (hb y)) := by
  obtain ⟨E, ν, e1, l1, gw, f1, z1, s1, v1⟩ := l_like hs hv hZ hl
  have v2 : lbV (st ν sh.length 3 y) (lkA sh.length) (wWk B y) := v1.ww s1 y
  have gg := wWk_gE (B := B) hy
  have hf' : ∀ w t, gE (wWk B y) w t = true → w < bn B ∧ t < bm B := fun w t e => by
    rw [gg] at e
    exact hf w t ((Bool.and_eq_true _ _).mp e).1
  obtain ⟨p, e2, nu⟩ := l_most s1 v2 hf'
  have ll : (sh ++ E).length = sh.length + 30 := by rw [List.length_append, l1]
  have nm := nu_mb gg nu
  have p12 : p ≤ 12 := by
    obtain ⟨M, -, e⟩ := nu.1
    rw [← e]; exact sz_le M
  refine ⟨E, ν, p, e1, s1.p (by decide), ?_, e2, s1.vc, l1, gw, f1.st (Nat.le_refl _), z1.st (by omega), p12, nm⟩
  have := s1.g (μ := st ν sh.length 3 y) (show 3 < 5 by decide)
  rw [show (st ν sh.length 3 y).1 (lab (lkA sh.length)) 3 = y from st_same _ _ _ _] at this
  exact this
/-- what chosen's rounds hold: workers of weight v looked at as far as i -/
def LC (sh : xH) (μ : MM) (B : Bk) (v i j : Nat) (x : Int32) (E : xH) (ν : MM) : Prop := Gw (30 * j) E ∧ Fr (UP sh.length) μ ν ∧ Z ν (sh ++ E).length ∧ j ≤ cnt (fun u => hb (bw B) u && (decide (v < be B u) || (decide (be B u = v) && decide (u < i)))) 12 ∧ ∃ C, (∀ k, hb x k = C k) ∧ mb (gE B) C ∧ ChS B C (fun u => v < be B u ∨ (be B u = v ∧ u < i))
theorem l_ch_step {sh : xH} {μ : MM} {a : LA} (hs : lbS sh a) (hv : lbV μ a B) (hf : ∀ w t, gE B w t = true → w < bn B ∧ t < bm B) (hW : ∀ k, hb (bw B) k = true → k < bn B) (hl : sh.length + 1000 < 1000000) {v i j : Nat} (h99 : v ≤ 99) (hi : i < bn B) {x : Int32} {E : xH} {ν : MM} (h : LC sh μ B v i j x E ν) :
    ∃ j' x' E' ξ, LC sh μ B v (i + 1) j' x' E' ξ ∧ ∀ n K, f_X10_chosen_L11 K (n + 1) (lab a) x (Int32.ofNat v) (Int32.ofNat i) (mS (sh ++ E) ν) = f_X10_chosen_L11 K n (lab a) x' (Int32.ofNat v) (Int32.ofNat (i + 1)) (mS (sh ++ E') ξ) := by
  have hn : bn B ≤ 12 := hv.2.2.2.2.1.1
  have i12 : i < 12 := by omega
  have he := hv.2.2.2.2.2.2.1
  obtain ⟨g0, f0, z0, jc, C, hC, hm, hch⟩ := h
  have hsE : lbS (sh ++ E) a := hs.app E
  have hvE : lbV ν a B := hv.up hs f0
  have e0 : ν.1 (lab a) 0 = Int32.ofNat (bn B) := hvE.1.1
  have e3 : ν.1 (lab a) 3 = bw B := hvE.1.2.2.2.1
  have er : ν.1 (lar a) i = Int32.ofNat (be B i) := hvE.2.2.2.1 i i12
  have cc : ¬ (Int32.ofNat i ≥ Int32.ofNat (bn B)) := by rw [oN_ge (by omega) (by omega)]; omega
  have hx := has_eq (x := bw B) (show i < 32 by omega)
  have j12 : j ≤ 12 := Nat.le_trans jc (cnt_le _ _)
  -- nothing is done
  have no : ¬ (hb (bw B) i = true ∧ be B i = v) → LC sh μ B v (i + 1) j x E ν := fun np => ⟨g0, f0, z0, Nat.le_trans jc (cnt_mono fun u _ q => by
    simp only [Bool.and_eq_true, Bool.or_eq_true, decide_eq_true_eq] at q ⊢
    exact ⟨q.1, q.2.imp id fun y => ⟨y.1, by omega⟩⟩), C, hC, hm, hch.congr fun u tu => by
    constructor
    · rintro (a | ⟨a, b⟩)
      · exact Or.inl a
      · exact Or.inr ⟨a, by omega⟩
    · rintro (a | ⟨a, b⟩)
      · exact Or.inl a
      · refine Or.inr ⟨a, ?_⟩
        have : u ≠ i := fun z => np (by rw [← z]; exact ⟨tu, a⟩)
        omega⟩
  by_cases q : be B i = v
  · have cq : Int32.ofNat (be B i) = Int32.ofNat v := by rw [q]
    cases th : hb (bw B) i with
    | false =>
      have c1 : (((bw B >>> (Int32.ofNat i &&& 31)) &&& (1 : Int32)) = 0) := by rw [hx, th]
      refine ⟨j, x, E, ν, no fun z => (by rw [th] at z; cases z.1), fun n K => ?_⟩
      simp only [f_X10_chosen_L11, hsE.g (show 0 < 5 by decide), hsE.g (show 3 < 5 by decide), Option.bind_some, e0, e3, if_neg cc, hsE.r7, hsE.ar i12, er, if_pos cq, if_pos c1, f_X10_chosen_J83, lt, i_succ]
    | true =>
      have c1 : ¬ (((bw B >>> (Int32.ofNat i &&& 31)) &&& (1 : Int32)) = 0) := by rw [hx, th]; simp
      have np : ¬ (v < be B i ∨ (be B i = v ∧ i < i)) := by omega
      have cw : C i = false := by
        cases z : C i with
        | false => rfl
        | true => exact absurd (hch.1 i z).2 np
      obtain ⟨y, hyd⟩ : ∃ y, y = x ||| ((1 : Int32) <<< (Int32.ofNat i &&& 31)) := ⟨_, rfl⟩
      have hyk : ∀ k, hb y k = (C k || decide (k = i)) := fun k => by rw [hyd, hb_or, hb_bit k (by omega), hC k]
      have hyw : ∀ k, hb y k = true → hb (bw B) k = true := fun k z => by
        rw [hyk, Bool.or_eq_true, decide_eq_true_eq] at z
        rcases z with z | z
        · exact (hch.1 k z).1
        · rw [z]; exact th
      have hy12 : m12 y := fun k hk => by
        cases z : hb y k with
        | false => rfl
        | true => have := hW k (hyw k z); omega
      have gl := g0.1
      have ll : (sh ++ E).length = sh.length + E.length := List.length_append
      obtain ⟨E1, ν1, p, a1, a2, a3, a4, a5, a6, a7, a8, a9, a10, a11⟩ := l_try hsE hvE hf z0 (by omega) hyw hy12
      rw [List.append_assoc] at a1 a2 a3 a4 a5 a9
      have bc := c_bitCount (h := mS (sh ++ (E ++ E1)) (st ν1 (sh ++ E).length 3 y)) hy12
      have fy : hb y = fun k => C k || decide (k = i) := funext hyk
      have bf' : ∀ u, (v < be B u ∨ (be B u = v ∧ u < i)) → hb (bw B) u = true → rk B u < rk B i := fun u p' hu => by
        have := he u
        have := hW u hu
        unfold rk
        omega
      have cg : ∀ u, ((v < be B u ∨ (be B u = v ∧ u < i)) ∨ u = i) ↔ (v < be B u ∨ (be B u = v ∧ u < i + 1)) := fun u => by
        constructor
        · rintro ((a | ⟨a, b⟩) | a)
          · exact Or.inl a
          · exact Or.inr ⟨a, by omega⟩
          · exact Or.inr ⟨by rw [a]; exact q, by omega⟩
        · rintro (a | ⟨a, b⟩)
          · exact Or.inl (Or.inl a)
          · by_cases z : u = i
            · exact Or.inr z
            · exact Or.inl (Or.inr ⟨a, by omega⟩)
      have jc' : j + 1 ≤ cnt (fun u => hb (bw B) u && (decide (v < be B u) || (decide (be B u = v) && decide (u < i + 1)))) 12 := Nat.lt_of_le_of_lt jc (cnt_lt (j := i) (fun u _ z => by
        simp only [Bool.and_eq_true, Bool.or_eq_true, decide_eq_true_eq] at z ⊢
        exact ⟨z.1, z.2.imp id fun y => ⟨y.1, by omega⟩⟩) i12 (by simp [q]) (by simp [q, th]))
      have gw : Gw (30 * (j + 1)) (E ++ E1) := (g0.app a7).mono (by omega)
      have fr : Fr (UP sh.length) μ (st ν1 (sh ++ E).length 3 y) := f0.trans (a8.mono fun q i z => by unfold UP at z ⊢; omega)
      have c12 := cnt_le (hb y) 12
      have head : ∀ n K, f_X10_chosen_L11 K (n + 1) (lab a) x (Int32.ofNat v) (Int32.ofNat i) (mS (sh ++ E) ν) =
          if Int32.ofNat p = Int32.ofNat (cnt (hb y) 12) then f_X10_chosen_L11 K n (lab a) y (Int32.ofNat v) (Int32.ofNat (i + 1)) (mS (sh ++ (E ++ E1)) (st ν1 (sh ++ E).length 3 y))
          else f_X10_chosen_L11 K n (lab a) x (Int32.ofNat v) (Int32.ofNat (i + 1)) (mS (sh ++ (E ++ E1)) (st ν1 (sh ++ E).length 3 y)) := fun n K => by
        simp only [f_X10_chosen_L11, hsE.g (show 0 < 5 by decide), hsE.g (show 3 < 5 by decide), Option.bind_some, e0, e3, if_neg cc, hsE.r7, hsE.ar i12, er, if_pos cq, if_neg c1, hsE.vc, a1, ← hyd, a2, a4, a5, a3, bc, f_X10_chosen_J83, lt, i_succ]
      by_cases mm : p = cnt (hb y) 12
      · have hb' : mb (gE B) (fun k => C k || decide (k = i)) := by rw [← fy]; exact a11.mp mm
        have hch' := hch.next (b := true) th np bf' ⟨fun _ => hb', fun _ => rfl⟩
        rw [or_t] at hch'
        refine ⟨j + 1, y, E ++ E1, _, ⟨gw, fr, a9, jc', _, hyk, hb', hch'.congr fun u _ => cg u⟩, fun n K => ?_⟩
        rw [head n K, if_pos (by rw [mm])]
      · have hb' : ¬ mb (gE B) (fun k => C k || decide (k = i)) := by rw [← fy]; exact fun z => mm (a11.mpr z)
        have hch' := hch.next (b := false) th np bf' ⟨fun z => (by cases z), fun z => absurd z hb'⟩
        rw [or_f] at hch'
        refine ⟨j + 1, x, E ++ E1, _, ⟨gw, fr, a9, jc', C, hC, hm, hch'.congr fun u _ => cg u⟩, fun n K => ?_⟩
        rw [head n K, if_neg (by rw [oN_inj (by omega) (by omega)]; exact mm)]
  · have cq : ¬ (Int32.ofNat (be B i) = Int32.ofNat v) := by rw [oN_inj (by have := he i; omega) (by omega)]; exact q
    refine ⟨j, x, E, ν, no fun z => q z.2, fun n K => ?_⟩
    simp only [f_X10_chosen_L11, hsE.g (show 0 < 5 by decide), Option.bind_some, e0, if_neg cc, hsE.r7, hsE.ar i12, er, if_neg cq, f_X10_chosen_J83, lt, i_succ]
theorem l_ch_in {sh : xH} {μ : MM} {a : LA} (hs : lbS sh a) (hv : lbV μ a B) (hf : ∀ w t, gE B w t = true → w < bn B ∧ t < bm B) (hW : ∀ k, hb (bw B) k = true → k < bn B) (hl : sh.length + 1000 < 1000000) {v : Nat} (h99 : v ≤ 99) : ∀ (k i j : Nat) (x : Int32) (E : xH) (ν : MM), i + k = bn B → LC sh μ B v i j x E ν →
    ∃ j' x' E' ξ, LC sh μ B v (bn B) j' x' E' ξ ∧ ∀ f K, f_X10_chosen_L11 K (k + 1 + f) (lab a) x (Int32.ofNat v) (Int32.ofNat i) (mS (sh ++ E) ν) = K (lab a) x' (Int32.ofNat v) (mS (sh ++ E') ξ)
  | 0, i, j, x, E, ν, h, hi => by
    have hn : bn B ≤ 12 := hv.2.2.2.2.1.1
    have hsE : lbS (sh ++ E) a := hs.app E
    have hvE : lbV ν a B := hv.up hs hi.2.1
    have e0 : ν.1 (lab a) 0 = Int32.ofNat (bn B) := hvE.1.1
    have cc : (Int32.ofNat i ≥ Int32.ofNat (bn B)) := by rw [oN_ge (by omega) (by omega)]; omega
    refine ⟨j, x, E, ν, by rw [show bn B = i by omega]; exact hi, fun f K => ?_⟩
    rw [show 0 + 1 + f = f + 1 by omega]
    simp only [f_X10_chosen_L11, hsE.g (show 0 < 5 by decide), Option.bind_some, e0, if_pos cc]
  | k + 1, i, j, x, E, ν, h, hi => by
    obtain ⟨j1, x1, E1, ν1, h1, e1⟩ := l_ch_step hs hv hf hW hl h99 (show i < bn B by omega) hi
    obtain ⟨j2, x2, E2, ν2, h2, e2⟩ := l_ch_in hs hv hf hW hl h99 k (i + 1) j1 x1 E1 ν1 (by omega) h1
    exact ⟨j2, x2, E2, ν2, h2, fun f K => by rw [show k + 1 + 1 + f = k + 1 + f + 1 by omega, e1, e2]⟩
theorem LC.end {sh : xH} {μ : MM} {v j : Nat} {x : Int32} {E : xH} {ν : MM} (hW : ∀ k, hb (bw B) k = true → k < bn B) (h : LC sh μ B (v + 1) (bn B) j x E ν) : LC sh μ B v 0 j x E ν := by
  obtain ⟨g0, f0, z0, jc, C, hC, hm, hch⟩ := h
  refine ⟨g0, f0, z0, Nat.le_trans jc (cnt_mono fun u _ q => ?_), C, hC, hm, hch.congr fun u tu => ?_⟩
  · simp only [Bool.and_eq_true, Bool.or_eq_true, decide_eq_true_eq] at q ⊢
    exact ⟨q.1, Or.inl (by omega)⟩
  · have := hW u tu
    constructor
    · rintro (z | z)
      · exact Or.inl (by omega)
      · exact Or.inl (by omega)
    · rintro (z | z)
      · by_cases y : be B u = v + 1
        · exact Or.inr ⟨y, this⟩
        · exact Or.inl (by omega)
      · omega
theorem l_ch_out {sh : xH} {μ : MM} {a : LA} (hs : lbS sh a) (hv : lbV μ a B) (hf : ∀ w t, gE B w t = true → w < bn B ∧ t < bm B) (hW : ∀ k, hb (bw B) k = true → k < bn B) (hl : sh.length + 1000 < 1000000) : ∀ (v j : Nat) (x : Int32) (E : xH) (ν : MM), v ≤ 99 → LC sh μ B v 0 j x E ν →
    ∃ (x' : Int32) (E' : xH) (ξ : MM) (C : Nat → Bool), (∀ f, f_X10_chosen_L5 f_X10_chosen_J95 (v + 2 + f) (lab a) x (Int32.ofNat v) (mS (sh ++ E) ν) = some (x', mS (sh ++ E') ξ)) ∧ Gw 360 E' ∧ Fr (UP sh.length) μ ξ ∧ Z ξ (sh ++ E').length ∧ (∀ k, hb x' k = C k) ∧ mb (gE B) C ∧ ChS B C (fun _ => True)
  | v, j, x, E, ν, h99, h => by
    have hn : bn B ≤ 12 := hv.2.2.2.2.1.1
    have c0 : ¬ (Int32.ofNat v < 0) := by rw [oN_l0 (by omega)]; exact id
    obtain ⟨j1, x1, E1, ν1, h1, e1⟩ := l_ch_in hs hv hf hW hl h99 (bn B) 0 j x E ν (by omega) h
    have st1 : ∀ F, f_X10_chosen_L5 f_X10_chosen_J95 (F + 1) (lab a) x (Int32.ofNat v) (mS (sh ++ E) ν) = f_X10_chosen_L5 f_X10_chosen_J95 F (lab a) x1 (Int32.ofNat v + (-1)) (mS (sh ++ E1) ν1) := fun F => by
      have e2 := e1 (4999 - bn B) (f_X10_chosen_J89 (f_X10_chosen_L5 f_X10_chosen_J95 F) f_X10_chosen_J95)
      rw [show bn B + 1 + (4999 - bn B) = 5000 by omega] at e2
      simp only [f_X10_chosen_L5, if_neg c0]
      refine Eq.trans e2 ?_
      simp only [f_X10_chosen_J89, lt]
    match v, h99, h1, st1 with
    | 0, _, h1, st1 =>
      obtain ⟨g0, f0, z0, jc, C, hC, hm, hch⟩ := h1
      have := cnt_le (fun u => hb (bw B) u && (decide (0 < be B u) || (decide (be B u = 0) && decide (u < bn B)))) 12
      refine ⟨x1, E1, ν1, C, fun f => ?_, g0.mono (by omega), f0, z0, hC, hm, hch.congr fun u tu => ⟨fun _ => trivial, fun _ => ?_⟩⟩
      · rw [show 0 + 2 + f = f + 1 + 1 by omega, st1]
        have m1 : (Int32.ofNat 0 + (-1) < 0) := by decide
        simp only [f_X10_chosen_L5, if_pos m1, f_X10_chosen_J95]
      · have := hW u tu
        omega
    | v + 1, h99, h1, st1 =>
      obtain ⟨x2, E2, ν2, C, e2, r⟩ := l_ch_out hs hv hf hW hl v j1 x1 E1 ν1 (by omega) (h1.end hW)
      refine ⟨x2, E2, ν2, C, fun f => ?_, r⟩
      rw [show v + 1 + 2 + f = v + 2 + f + 1 by omega, st1, i_dec, e2]
theorem l_chosen {sh : xH} {μ : MM} {a : LA} (hs : lbS sh a) (hv : lbV μ a B) (hf : ∀ w t, gE B w t = true → w < bn B ∧ t < bm B) (hW : ∀ k, hb (bw B) k = true → k < bn B) (hZ : Z μ sh.length) (hl : sh.length + 1000 < 1000000) :
    ∃ (x : Int32) (E : xH) (ν : MM) (C : Nat → Bool), f_X10_chosen (lab a) (mS sh μ) = some (x, mS (sh ++ E) ν) ∧ Gw 360 E ∧ Fr (UP sh.length) μ ν ∧ Z ν (sh ++ E).length ∧ (∀ k, hb x k = C k) ∧ mb (gE B) C ∧ ChS B C (fun _ => True) := by
  have he := hv.2.2.2.2.2.2.1
  have emp : mb (gE B) (fun _ => false) := ⟨fun _ => 12, e_Ms (gE B), fun v _ => ⟨fun z => absurd z (Nat.lt_irrefl 12), fun z => (by cases z)⟩⟩
  obtain ⟨x, E, ν, C, e, r⟩ := l_ch_out hs hv hf hW hl 99 0 0 [] μ (Nat.le_refl 99) ⟨Gw.nil _, Fr.refl _ _, by rw [List.append_nil]; exact hZ, Nat.zero_le _, fun _ => false, fun k => hb_zero k, emp, fun v z => (by cases z), fun w _ z => by have := he w; omega⟩
  refine ⟨x, E, ν, C, ?_, r⟩
  have e := e 4899
  rw [List.append_nil] at e
  exact e
end Dd
