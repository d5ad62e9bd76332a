/-! THE LAW'S RUN: undo; a round; all rounds -/
section H7
variable {Ξ Ξ1 : xH} {μ ν ν1 : MM} {a b : LA} {B Bz Bc : Bk} {H : List Bk} {as : Nat → LA} {i n : Nat} {S : List Int32}
theorem r_undo (hi : i < 12) (h : RPn i Ξ ν a b B H as) {x8 x10 x11 x13 : Int32} : RD i fun kH kE => f_L_law_J299 S kH kE 0 168 (lab a) 185 (Int32.ofNat H.length) (Int32.ofNat i) x8 7 x10 x11 (lab b) x13 0 (mX Ξ ν) := by
  have n71 : ¬ ((7 : Int32) = 1) := by decide
  have n72 : ¬ ((7 : Int32) = 2) := by decide
  have n73 : ¬ ((7 : Int32) = 3) := by decide
  have n74 : ¬ ((7 : Int32) = 4) := by decide
  have n75 : ¬ ((7 : Int32) = 5) := by decide
  have n76 : ¬ ((7 : Int32) = 6) := by decide
  have hl := h.hl hi
  have bl := bud_le (show i ≤ 12 by omega)
  rcases List.eq_nil_or_concat H with h0 | ⟨H0, C, h1⟩
  · subst h0
    obtain ⟨ν1, e1, f1, r1⟩ := q_undo0 (Ξ := Ξ) h.1.2.1
    have s1 := Gst.cl f1 h.1.2.2.2.2.2.2.1
    obtain ⟨o1, b1, b2⟩ := h.os s1
    have c0 : (Int32.ofNat ([] : List Bk).length = 0) := rfl
    have c1 : (Int32.ofNat ([] : List Bk).length ≤ 0) := by decide
    refine (h.not (S := S) hi (o1.mn (by omega)) r1 b2 (x8 := x8) (x9 := 7) (x14 := 0)).eq fun kH kE => ?_
    simp only [f_L_law_J299, if_neg n71, if_neg n72, if_neg n73, if_neg n74, if_neg n75, if_neg n76, ↓hvc (fun _ => vc_0), ↓hbind e1, if_pos c0, f_L_law_J990, if_true, f_L_law_J998, if_pos c1]
  · rw [List.concat_eq_append] at h1
    subst h1
    obtain ⟨ν1, e1, f1, r1⟩ := q_undo1 (Ξ := Ξ) h.1.2.1
    have s1 := Gst.cl f1 h.1.2.2.2.2.2.2.1
    obtain ⟨o1, b1, b2⟩ := h.os s1
    obtain ⟨l, k1, k2, k3⟩ := o1.ks h.1.2.2.2.2.1
    have hH := h.1.2.2.2.2.2.1
    have hL : (H0 ++ [C]).length = H0.length + 1 := by rw [List.length_append]; rfl
    obtain ⟨q1, q2, q3, q4, q5, q6, q7, q8⟩ := k3 H0.length C (by rw [List.getElem?_append_right (Nat.le_refl _), Nat.sub_self]; rfl)
    have ar : aR 103 (mX Ξ ν1) 185 (Int32.ofNat H0.length) = some (lab (as H0.length)) := aR_k (slot_of k1 q1 (by simp [isRef])) (by omega)
    have kk : BKs Ξ ν1 H0 as (as H0.length) := by
      refine ⟨l, k1, k2, fun j D e => ?_⟩
      have jl := (List.getElem?_eq_some_iff.mp e).1
      obtain ⟨p1, p2, p3, p4, p5, p6, p7⟩ := k3 j D (by rw [List.getElem?_append_left jl]; exact e)
      exact ⟨p1, p2, p3, p4, q6 j jl, p6, p7⟩
    obtain ⟨Ξ', ν', li, ee⟩ := law_65 (S := S) hi (o1.tw h.1.2.2.1.2.2 h.1.1) r1 q2 q3 q4 q7 q8 kk (by omega) o1.z (o1.cz h.1.2.2.2.2.2.2.2.1) (by have := h.1.2.2.2.2.2.2.2.2; omega)
    refine ⟨Ξ', ν', as H0.length, C, H0, as, li, fun kH kE => ?_⟩
    rw [← ee kH kE, hL]
    have c0 : ¬ (Int32.ofNat (H0.length + 1) = 0) := by rw [leq_0 (by omega)]; omega
    have c1 : ¬ (Int32.ofNat (H0.length + 1) ≤ 0) := by rw [lle_0 (by omega)]; omega
    have e2 : Int32.ofNat (H0.length + 1) - 1 = Int32.ofNat H0.length := by
      rw [show (1 : Int32) = Int32.ofNat 1 from rfl, oN_sub (by omega)]
      rfl
    simp only [f_L_law_J299, if_neg n71, if_neg n72, if_neg n73, if_neg n74, if_neg n75, if_neg n76, ↓hvc (fun _ => vc_0), ↓hbind e1, if_neg c0, e2, f_L_law_J990, if_true, f_L_law_J998, if_neg c1, lt, i_dec, ↓hbind ar, f_L_law_J1017]
theorem l_new' {sh : xH} (h : Z μ sh.length) (h168 : 168 ≤ sh.length) (hl : sh.length + 40 < 1000000) :
    ∃ ν, (∀ {β : Type} (K : Nat → xH → Option β), ((nwC (mS sh μ) (10, dv_X10)).bind fun r1 => (ic r1.2 r1.1 (f_X10_init r1.1 r1.2)).bind fun h2 => K r1.1 h2) = K sh.length (mS (sh ++ lbC sh.length) ν)) ∧ Fr (UP sh.length) μ ν ∧ Z ν (sh ++ lbC sh.length).length ∧ lbS (sh ++ lbC sh.length) (lbA sh.length) ∧ lbV ν (lbA sh.length) B00 := by
  obtain ⟨ν, e, r⟩ := l_new h h168 hl (β := Nat × xH) (fun p h => some (p, h))
  refine ⟨ν, fun {β} K => ?_, r⟩
  generalize nwC (mS sh μ) (10, dv_X10) = o at e ⊢
  cases o with
  | none => cases e
  | some r1 =>
    simp only [Option.bind_some] at e ⊢
    generalize ic r1.2 r1.1 (f_X10_init r1.1 r1.2) = o2 at e ⊢
    cases o2 with
    | none => cases e
    | some h2 =>
      simp only [Option.bind_some, Option.some.injEq, Prod.mk.injEq] at e ⊢
      rw [e.1, e.2]
/-- a text begins anew -/
theorem r_book (hi : i < 12) (h : RPn i Ξ ν a b B H as) {x8 : Int32} {F : KHt → KEt → Option (Int32 × xH)} {N M : Nat} (n1 : 2 ≤ N) (n4 : N ≤ 4) (m1 : 2 ≤ M) (m4 : M ≤ 4)
    (hF : ∀ kH kE, F kH kE = (nwC (mX Ξ ν) (10, dv_X10)).bind fun r12 => (ic r12.2 r12.1 (f_X10_init r12.1 r12.2)).bind fun h13 => (f_L_book 0 168 r12.1 x8 (Int32.ofNat N) (Int32.ofNat M) h13).bind fun r14 => f_L_law_J1017 S kH kE 0 168 r12.1 185 0 r14.1 (Int32.ofNat i) x8 0 (lab b) 0 0 r14.2) : RD i F := by
  have hl := h.hl hi
  have bl := bud_le (show i ≤ 12 by omega)
  obtain ⟨⟨t, r, -, -, k, hH, hZ, cz, hl2⟩, -⟩ := h
  have l0 : 168 ≤ (shI ++ Ξ).length := by rw [xl]; omega
  obtain ⟨l, k1, k2, -⟩ := k
  have l185 := (List.getElem?_eq_some_iff.mp k1).1
  obtain ⟨ν1, e1, f1, z1, s1, v1⟩ := l_new' hZ l0 (by omega)
  rw [List.append_assoc] at z1 s1
  obtain ⟨p, hp⟩ : ∃ p, p = (shI ++ Ξ).length := ⟨_, rfl⟩
  rw [← hp] at e1 z1 s1 v1
  have gl := (lbC_gw p).1
  have pl : p = lab (lbA p) := rfl
  have t1 := ((t.tp r).fr9 (ν' := ν1) (f1.mono fun q i z => by unfold UP at z; omega)).ap (lbC p)
  have h9 : 169 ≤ lab (lbA p) := by rw [← pl]; omega
  obtain ⟨Δ, ν2, C, e2, g2, tp2, s2, v2, z2, hC, cn, cm⟩ := bk_go (N := N) (M := M) s1 h9 t1 v1 (by rw [xl, List.length_append]; rw [xl] at hl; omega) z1 n1 n4 m1 m4 x8
  obtain ⟨tw2, r2⟩ := tp2.tw
  have kk : BKs ((Ξ ++ lbC p) ++ Δ) ν2 [] as (lbA p) := by
    refine ⟨l, ?_, k2, fun j D e => by cases e⟩
    rw [List.append_assoc, ← List.append_assoc, List.getElem?_append_left l185]; exact k1
  have cz2 : Cz ((Ξ ++ lbC p) ++ Δ) := (cz.gw (lbC_gw p)).gw g2
  have ln2 : (shI ++ ((Ξ ++ lbC p) ++ Δ)).length ≤ bud i + 4060 := by
    have := g2.1
    rw [xl] at hl2 ⊢
    rw [List.length_append, List.length_append]
    omega
  obtain ⟨Ξ', ν', li, ee⟩ := law_65 (S := S) hi tw2 r2 s2 v2 h9 (by omega) (by omega) kk (show ([] : List Bk).length ≤ i + 1 from Nat.zero_le _) z2 cz2 ln2
  refine ⟨Ξ', ν', lbA p, C, [], as, li, fun kH kE => ?_⟩
  have e3 := e1 (fun p h13 => (f_L_book 0 168 p x8 (Int32.ofNat N) (Int32.ofNat M) h13).bind fun r14 => f_L_law_J1017 S kH kE 0 168 p 185 0 r14.1 (Int32.ofNat i) x8 0 (lab b) 0 0 r14.2)
  rw [← ee kH kE, hF]
  refine e3.trans ?_
  have e2 : f_L_book 0 168 p x8 (Int32.ofNat N) (Int32.ofNat M) (mS ((shI ++ Ξ) ++ lbC p) ν1) = some (1, mX ((Ξ ++ lbC p) ++ Δ) ν2) := by
    rw [xXe]; exact e2
  simp only [↓hbind e2, f_L_law_J1017, if_true]
  rfl
/-- one round -/
theorem r_80 (hi : i < 12) (h : LI i Ξ ν a B H as) {x8 : Int32} {j : Nat} (hj : j < 8) : RD i fun kH kE => f_L_law_J80 S kH kE 0 168 (lab a) 185 (Int32.ofNat H.length) (Int32.ofNat i) x8 (Int32.ofNat j) (mX Ξ ν) := by
  have bl := bud_le (show i ≤ 12 by omega)
  obtain ⟨t, r, ⟨hs, hv, h9⟩, ⟨n4, m4⟩, k, hH, hZ, cz, hl⟩ := h
  have hB := r.ok
  have hn1 := hB.n1
  have hm1 := hB.m1
  have g0 : ν.1 (lab a) 0 = Int32.ofNat (bn B) := hv.1.1
  have g1 : ν.1 (lab a) 1 = Int32.ofNat (bm B) := hv.1.2.1
  have n0 : ¬ (Int32.ofNat (bn B) = 0) := by rw [leq_0 (by omega)]; omega
  have m0 : ¬ (Int32.ofNat (bm B) = 0) := by rw [leq_0 (by omega)]; omega
  obtain ⟨u, u1, u2⟩ := andc x8 (m := 255) (by decide)
  have u2 : x8 &&& (255 : Int32) = Int32.ofNat u := u2
  have eu := modN u (by omega) (bn B) (by omega) (by omega)
  obtain ⟨u', u1', u2'⟩ := andc (x8 >>> ((3 : Int32) &&& 31)) (m := 255) (by decide)
  have u2' : (x8 >>> ((3 : Int32) &&& 31)) &&& (255 : Int32) = Int32.ofNat u' := u2'
  have eu' := modN u' (by omega) (bm B) (by omega) (by omega)
  obtain ⟨w, hw⟩ : ∃ w, w = u % bn B := ⟨_, rfl⟩
  obtain ⟨s, hss⟩ : ∃ s, s = u' % bm B := ⟨_, rfl⟩
  have wn : w < bn B := by rw [hw]; exact Nat.mod_lt _ (by omega)
  have sm : s < bm B := by rw [hss]; exact Nat.mod_lt _ (by omega)
  rw [← hw] at eu
  rw [← hss] at eu'
  obtain ⟨Ξ1, ν1, p, e1, s1, r1, lp, lp2, hp, hb1, hb2⟩ := lk_go hs hv hZ (by omega) r
  obtain ⟨a1, a2⟩ := s1.bk hs hv
  have o1 := s1.os (a := a)
  have ln1 := s1.ln.2
  have la := hs.2.1.2
  have dba : Dj (lkA p) a := by
    unfold Dj
    rw [← hp]; omega
  have das : ∀ j, j < H.length → Dj (as j) (lkA p) := fun j hj => by
    obtain ⟨l, -, -, k3⟩ := k
    obtain ⟨-, q2, -⟩ := k3 j H[j] (List.getElem?_eq_getElem hj)
    have := q2.2.1.2
    unfold Dj
    rw [← hp]; omega
  have RP0 : RPn i Ξ1 ν1 a (lkA p) B H as := ⟨⟨o1.tw h9 t, r1, ⟨a1, a2, h9⟩, ⟨n4, m4⟩, o1.ks k, hH, s1.z, o1.cz cz, by omega⟩, ⟨hb1, hb2, by rw [← hp]; have := (List.getElem?_eq_some_iff.mp t.1).1; omega⟩, dba, das⟩
  have lkl : lab (lkA p) = p := rfl
  have pre : ∀ kH kE, f_L_law_J80 S kH kE 0 168 (lab a) 185 (Int32.ofNat H.length) (Int32.ofNat i) x8 (Int32.ofNat j) (mX Ξ ν) = (if Int32.ofNat j = 0 then
    (nwC (mX Ξ1 ν1) (10, dv_X10)).bind fun r12 =>
    (ic r12.2 r12.1 (f_X10_init r12.1 r12.2)).bind fun h13 =>
    (f_L_book 0 168 r12.1 x8 ((2 : Int32) + (((x8 >>> ((2 : Int32) &&& 31)) &&& (255 : Int32)) - ((x8 >>> ((2 : Int32) &&& 31)) &&& (255 : Int32)) / (3 : Int32) * (3 : Int32))) ((2 : Int32) + (((x8 >>> ((5 : Int32) &&& 31)) &&& (255 : Int32)) - ((x8 >>> ((5 : Int32) &&& 31)) &&& (255 : Int32)) / (3 : Int32) * (3 : Int32))) h13).bind fun r14 =>
    f_L_law_J1017 S kH kE 0 168 r12.1 185 (0 : Int32) r14.1 (Int32.ofNat i) x8 (Int32.ofNat j) (lab (lkA p)) (0 : Int32) (0 : Int32) r14.2
  else
    if Int32.ofNat j = 1 then
      if ((x8 >>> ((11 : Int32) &&& 31)) &&& (3 : Int32)) = (0 : Int32) then
        (f_L_weight 0 (Int32.ofNat w) ((x8 >>> ((6 : Int32) &&& 31)) &&& (31 : Int32)) (mX Ξ1 ν1)).bind fun r9 =>
        (gR r9.2 10 (lab a) 7).bind fun v10 =>
        (aI r9.2 v10 (Int32.ofNat w)).bind fun v11 =>
        if r9.1 = v11 then
          f_L_law_J223 S kH kE 0 168 (lab a) 185 (Int32.ofNat H.length) (Int32.ofNat i) x8 (Int32.ofNat j) (Int32.ofNat w) (lab (lkA p)) (1 : Int32) (0 : Int32) (1 : Int32) r9.2
        else
          f_L_law_J223 S kH kE 0 168 (lab a) 185 (Int32.ofNat H.length) (Int32.ofNat i) x8 (Int32.ofNat j) (Int32.ofNat w) (lab (lkA p)) (1 : Int32) (0 : Int32) (0 : Int32) r9.2
      else
        f_L_law_J243 S kH kE 0 168 (lab a) 185 (Int32.ofNat H.length) (Int32.ofNat i) x8 (Int32.ofNat j) (Int32.ofNat w) (Int32.ofNat s) (lab (lkA p)) (1 : Int32) (0 : Int32) (mX Ξ1 ν1)
    else
      f_L_law_J243 S kH kE 0 168 (lab a) 185 (Int32.ofNat H.length) (Int32.ofNat i) x8 (Int32.ofNat j) (Int32.ofNat w) (Int32.ofNat s) (lab (lkA p)) (1 : Int32) (0 : Int32) (mX Ξ1 ν1)) := fun kH kE => by
    rw [lkl]
    simp only [f_L_law_J80, ↓hbind (hs.g (show 0 < 5 by decide)), g0, if_neg n0, u2, eu, lt, ↓hbind (hs.g (show 1 < 5 by decide)), g1, if_neg m0, u2', eu', ↓hvc (fun _ => hs.vc), ↓hbind e1, Option.bind_some]
  have n5 : ∀ c : Nat, c ≠ 5 → c < 8 → ¬ (Int32.ofNat c = 5) := fun c h h8 => by
    rw [leq_5 (by omega)]; exact h
  match j, hj with
  | 0, _ =>
    have c0 : (Int32.ofNat 0 = 0) := rfl
    obtain ⟨q, q1, q2⟩ := andc (x8 >>> ((2 : Int32) &&& 31)) (m := 255) (by decide)
    have q2 : (x8 >>> ((2 : Int32) &&& 31)) &&& (255 : Int32) = Int32.ofNat q := q2
    have eq := modN q (by omega) 3 (by omega) (by omega)
    obtain ⟨q', q1', q2'⟩ := andc (x8 >>> ((5 : Int32) &&& 31)) (m := 255) (by decide)
    have q2' : (x8 >>> ((5 : Int32) &&& 31)) &&& (255 : Int32) = Int32.ofNat q' := q2'
    have eq' := modN q' (by omega) 3 (by omega) (by omega)
    have eN : (2 : Int32) + (((x8 >>> ((2 : Int32) &&& 31)) &&& (255 : Int32)) - ((x8 >>> ((2 : Int32) &&& 31)) &&& (255 : Int32)) / (3 : Int32) * (3 : Int32)) = Int32.ofNat (2 + q % 3) := by
      rw [q2]
      have eq : Int32.ofNat q - Int32.ofNat q / (3 : Int32) * (3 : Int32) = Int32.ofNat (q % 3) := eq
      rw [eq]
      exact oN_add 2 (q % 3)
    have eM : (2 : Int32) + (((x8 >>> ((5 : Int32) &&& 31)) &&& (255 : Int32)) - ((x8 >>> ((5 : Int32) &&& 31)) &&& (255 : Int32)) / (3 : Int32) * (3 : Int32)) = Int32.ofNat (2 + q' % 3) := by
      rw [q2']
      have eq' : Int32.ofNat q' - Int32.ofNat q' / (3 : Int32) * (3 : Int32) = Int32.ofNat (q' % 3) := eq'
      rw [eq']
      exact oN_add 2 (q' % 3)
    refine r_book (S := S) hi RP0 (x8 := x8) (N := 2 + q % 3) (M := 2 + q' % 3) (by omega) (by omega) (by omega) (by omega) fun kH kE => ?_
    rw [pre kH kE, if_pos c0, eN, eM]
    rfl
  | 1, _ =>
    have c0 : ¬ (Int32.ofNat 1 = 0) := by decide
    have c1 : (Int32.ofNat 1 = 1) := rfl
    by_cases c : ((x8 >>> ((11 : Int32) &&& 31)) &&& (3 : Int32)) = (0 : Int32)
    · refine r_weight (S := S) hi RP0 wn (x8 := x8) fun kH kE => ?_
      rw [pre kH kE, if_neg c0, if_pos c1, if_pos c]
      rfl
    · refine (r_add (S := S) hi RP0 wn sm (x8 := x8)).eq fun kH kE => ?_
      rw [pre kH kE, if_neg c0, if_pos c1, if_neg c]
      simp only [f_L_law_J243, if_neg (n5 1 (by decide) (by decide))]
      rfl
  | 2, _ =>
    refine (r_drop (S := S) hi RP0 wn sm (x8 := x8) (x13 := 1)).eq fun kH kE => ?_
    rw [pre kH kE, if_neg (by decide), if_neg (by decide)]
    simp only [f_L_law_J243, if_neg (n5 2 (by decide) (by decide))]
    rfl
  | 3, _ =>
    refine (r_is (S := S) hi RP0 wn sm (x8 := x8) (x13 := 1)).eq fun kH kE => ?_
    rw [pre kH kE, if_neg (by decide), if_neg (by decide)]
    simp only [f_L_law_J243, if_neg (n5 3 (by decide) (by decide))]
    rfl
  | 4, _ =>
    refine (r_pair (S := S) hi RP0 wn sm (x8 := x8) (x13 := 1)).eq fun kH kE => ?_
    rw [pre kH kE, if_neg (by decide), if_neg (by decide)]
    simp only [f_L_law_J243, if_neg (n5 4 (by decide) (by decide))]
    rfl
  | 5, _ =>
    by_cases c : ((x8 >>> ((11 : Int32) &&& 31)) &&& (1 : Int32)) = (0 : Int32)
    · refine (r_trade (S := S) hi RP0 (x8 := x8) (x10 := Int32.ofNat w) (x11 := Int32.ofNat s) (x13 := 1) (x14 := 0) c).eq fun kH kE => ?_
      rw [pre kH kE, if_neg (by decide), if_neg (by decide)]
      rfl
    · refine (r_part (S := S) hi RP0 wn (x8 := x8) (x11 := Int32.ofNat s) (x13 := 1)).eq fun kH kE => ?_
      rw [pre kH kE, if_neg (by decide), if_neg (by decide)]
      have c5 : (Int32.ofNat 5 = 5) := rfl
      simp only [f_L_law_J243, if_pos c5, if_neg c]
      rfl
  | 6, _ =>
    by_cases c : (x8 &&& (1 : Int32)) = (0 : Int32)
    · refine (r_keep (S := S) hi RP0 (x8 := x8) (x10 := Int32.ofNat w) (x11 := Int32.ofNat s) c).eq fun kH kE => ?_
      rw [pre kH kE, if_neg (by decide), if_neg (by decide)]
      simp only [f_L_law_J243, if_neg (n5 6 (by decide) (by decide))]
      rfl
    · refine (r_settle (S := S) hi RP0 (x8 := x8) (x10 := Int32.ofNat w) (x11 := Int32.ofNat s) (x13 := 1) c).eq fun kH kE => ?_
      rw [pre kH kE, if_neg (by decide), if_neg (by decide)]
      simp only [f_L_law_J243, if_neg (n5 6 (by decide) (by decide))]
      rfl
  | 7, _ =>
    refine (r_undo (S := S) hi RP0 (x8 := x8) (x10 := Int32.ofNat w) (x11 := Int32.ofNat s) (x13 := 1)).eq fun kH kE => ?_
    rw [pre kH kE, if_neg (by decide), if_neg (by decide)]
    simp only [f_L_law_J243, if_neg (n5 7 (by decide) (by decide))]
    rfl
end H7
