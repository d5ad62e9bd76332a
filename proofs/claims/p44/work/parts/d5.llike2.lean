/-! THE LAW'S BOOK: like -/
section D5
variable {sh : xH} {μ : MM} {a : LA} {B : Bk}
theorem mS_congr {ν : MM} (h : ∀ p, p < sh.length → ∀ i, ν.1 p i = μ.1 p i ∧ ν.2 p i = μ.2 p i) : mS sh ν = mS sh μ := by
  apply List.ext_getElem?
  intro k
  rw [mem_at, mem_at]
  cases e : sh[k]? with
  | none => rfl
  | some c =>
    have hk := (List.getElem?_eq_some_iff.mp e).1
    refine congrArg some (Prod.ext rfl (memV_ext fun i v _ => ?_))
    cases v <;> simp [ov, (h k hk i).1, (h k hk i).2]
theorem nwK_s {q n : Nat} (e : sh[q]? = some (100, dI n)) (hl : sh.length + 1 < 1000000) : nwK (mS sh μ) q = some (sh.length, mS (sh ++ [(100, dI n)]) (rw_ μ sh.length n (μ.1 q))) := by
  have e1 : mS sh (rw_ μ sh.length n (μ.1 q)) = mS sh μ := mS_congr fun p hp i => ⟨by show (if p = sh.length ∧ i < n then _ else _) = _; rw [if_neg fun z => by omega], rfl⟩
  have e2 : mS (sh ++ [(100, dI n)]) (rw_ μ sh.length n (μ.1 q)) = mS sh μ ++ [(100, memV μ q 0 (dI n))] := by
    rw [mS, memF_app, Nat.zero_add]
    refine congr (congrArg _ e1) ?_
    show [((100, memV (rw_ μ sh.length n (μ.1 q)) sh.length 0 (dI n)) : xC)] = _
    refine congrArg (fun z => [((100, z) : xC)]) (memV_ext fun i v hv => ?_)
    have hi : i < n := by
      have := (List.getElem?_eq_some_iff.mp hv).1
      simpa [dI] using this
    have hv : v = .int 0 := by
      rw [dI, List.getElem?_replicate, if_pos hi] at hv
      exact (Option.some.inj hv).symm
    rw [hv]
    show Value.int (if sh.length = sh.length ∧ i < n then μ.1 q i else _) = .int (μ.1 q i)
    rw [if_pos ⟨rfl, hi⟩]
  unfold nwK
  rw [mem_get e]
  simp only [if_true]
  unfold nwC
  rw [mS_len, if_pos hl, e2]
theorem mS_ref {p k t q : Nat} {l : List Value} (e : sh[p]? = some (t, l)) (hk : k < l.length) : (mS sh μ).set p (t, (memV μ p 0 l).set k (.ref q)) = mS (sh.set p (t, l.set k (.ref q))) μ := by
  have ha : p < sh.length := (List.getElem?_eq_some_iff.mp e).1
  refine List.ext_getElem? fun p' => ?_
  rw [List.getElem?_set, mem_at, mem_at, List.getElem?_set, mS_len]
  by_cases hp : p = p'
  · subst hp
    rw [if_pos rfl, if_pos ha, if_pos rfl, if_pos ha]
    refine congrArg some (Prod.ext rfl ?_)
    show (memV μ p 0 l).set k (.ref q) = memV μ p 0 (l.set k (.ref q))
    refine List.ext_getElem? fun i => ?_
    rw [List.getElem?_set, memV_at, memV_at, List.getElem?_set, memV_len]
    by_cases hi : k = i
    · subst hi
      rw [if_pos rfl, if_pos hk, if_pos rfl]; rfl
    · rw [if_neg hi, if_neg hi]
  · rw [if_neg hp, if_neg hp]
theorem sA_s {p k q : Nat} {l l' : List Value} (e : sh[p]? = some (102, l)) (e' : sh[q]? = some (100, l')) (hk : k < l.length) (hn : l.length ≤ 100000) : sA (mS sh μ) p (Int32.ofNat k) q = some (mS (sh.set p (102, l.set k (.ref q))) μ) := by
  obtain ⟨a1, a2⟩ := ain_nat (k := k) (n := l.length) hk hn
  unfold sA
  rw [mem_get e, mem_get e']
  simp only [memV_len]
  rw [if_pos ⟨trivial, trivial, a1⟩, a2, mS_ref e hk]
theorem sB_s {p k q : Nat} {l l' : List Value} (e : sh[p]? = some (103, l)) (e' : sh[q]? = some (10, l')) (hk : k < l.length) (hn : l.length ≤ 100000) : sB (mS sh μ) p (Int32.ofNat k) q = some (mS (sh.set p (103, l.set k (.ref q))) μ) := by
  obtain ⟨a1, a2⟩ := ain_nat (k := k) (n := l.length) hk hn
  unfold sB
  rw [mem_get e, mem_get e']
  simp only [memV_len]
  rw [if_pos ⟨trivial, trivial, a1⟩, a2, mS_ref e hk]
/-- the rows' places ahead of round i -/
def lkR (b i j : Nat) : Nat := if j < i then b + 18 + j else b + 2 + j
theorem lkR_set {b i : Nat} (hi : i < 12) : ((List.range 12).map fun j => Value.ref (lkR b i j)).set i (.ref (b + 18 + i)) = (List.range 12).map fun j => Value.ref (lkR b (i + 1) j) := by
  apply List.ext_getElem?
  intro k
  rw [List.getElem?_set]
  by_cases z : i = k
  · subst z
    rw [if_pos rfl, if_pos (by simp; exact hi), List.getElem?_map, List.getElem?_range hi]
    simp [lkR]
  · rw [if_neg z, List.getElem?_map, List.getElem?_map]
    by_cases y : k < 12
    · rw [List.getElem?_range y]
      simp only [Option.map_some, Option.some.injEq, Value.ref.injEq]
      unfold lkR
      by_cases x : k < i
      · rw [if_pos x, if_pos (by omega)]
      · rw [if_neg x, if_neg (by omega)]
    · rw [List.getElem?_eq_none (by rw [List.length_range]; omega)]
      rfl
/-- ahead of round i of like's loop -/
def LKI (sh : xH) (μ : MM) (a : LA) (i : Nat) (E : xH) (ν : MM) : Prop :=
  E.length = 18 + i ∧ (∀ c, c ∈ E → c.2.length ≤ 24) ∧ E[0]? = some (10, lb3 (sh.length + 1) (sh.length + 16) (sh.length + 17)) ∧ E[1]? = some (102, (List.range 12).map fun j => Value.ref (lkR sh.length i j)) ∧ (∀ j, 2 ≤ j → j < 18 + i → E[j]? = some (100, dI 12)) ∧
  Z ν (sh.length + (18 + i)) ∧ ∀ j, j < i → ∀ t, t < 12 → ν.1 (sh.length + 18 + j) t = μ.1 (lao a j) t
theorem l_like_loop (hs : lbS sh a) (hl : sh.length + 100 < 1000000) {ν0 : MM} (f0 : Fr (UP sh.length) μ ν0) : ∀ (d i : Nat) (E : xH) (ν : MM), i + d = 12 → LKI sh μ a i E ν → Fr (UP (sh.length + 18)) ν0 ν →
    ∃ E' ν', (∀ f K, f_X10_like_L78 K (d + 1 + f) (lab a) sh.length (Int32.ofNat i) (mS (sh ++ E) ν) = K sh.length (mS (sh ++ E') ν')) ∧ LKI sh μ a 12 E' ν' ∧ Fr (UP (sh.length + 18)) ν0 ν'
  | 0, i, E, ν, h, hI, hF => by
    have e : i = 12 := by omega
    subst e
    refine ⟨E, ν, fun f K => ?_, hI, hF⟩
    have c : (Int32.ofNat 12 ≥ 12) := by decide
    rw [show 0 + 1 + f = f + 1 by omega]
    simp only [f_X10_like_L78, if_pos c]
  | d + 1, i, E, ν, h, hI, hF => by
    obtain ⟨i1, i2, i3, i4, i5, i6, i7⟩ := hI
    have hi : i < 12 := by omega
    have ll : (sh ++ E).length = sh.length + (18 + i) := by rw [List.length_append, i1]
    have hsE : lbS (sh ++ E) a := hs.app E
    have c : ¬ (Int32.ofNat i ≥ 12) := by rw [lge_12 (by omega)]; omega
    have e0 : (sh ++ E)[sh.length]? = some (10, lb3 (sh.length + 1) (sh.length + 16) (sh.length + 17)) := by
      have := app_at (sh := sh) (t := E) (j := 0); rw [i3] at this; exact this
    have e1 : (sh ++ E)[sh.length + 1]? = some (102, (List.range 12).map fun j => Value.ref (lkR sh.length i j)) := by
      have := app_at (sh := sh) (t := E) (j := 1); rw [i4] at this; exact this
    have g5 : gR (mS (sh ++ E) ν) 10 sh.length 5 = some (sh.length + 1) := gR_m (slot_of e0 rfl (by simp [isRef]))
    have n1 := nwK_s (μ := ν) (hsE.1.2.2.2.2 i hi) (by rw [ll]; omega)
    obtain ⟨ν1, hν1⟩ : ∃ x, x = rw_ ν (sh ++ E).length 12 (ν.1 (lao a i)) := ⟨_, rfl⟩
    rw [← hν1, List.append_assoc, ll] at n1
    have k1 : (sh ++ (E ++ [(100, dI 12)]))[sh.length + (18 + i)]? = some (100, dI 12) := by
      rw [app_at, List.getElem?_append_right (by omega), i1, Nat.sub_self]; rfl
    have k2 : (sh ++ (E ++ [(100, dI 12)]))[sh.length + 1]? = some (102, (List.range 12).map fun j => Value.ref (lkR sh.length i j)) := by
      rw [app_at, List.getElem?_append_left (by omega)]; exact i4
    have v1 : ∀ {β : Type} {o : Option β}, vc (mS (sh ++ (E ++ [(100, dI 12)])) ν1) 100 (sh.length + (18 + i)) o = o := vc_m (isT_of k1)
    have s1 := sA_s (μ := ν1) k2 k1 (k := i) (by simp; exact hi) (by simp)
    have s2 : (sh ++ (E ++ [(100, dI 12)])).set (sh.length + 1) (102, ((List.range 12).map fun j => Value.ref (lkR sh.length i j)).set i (.ref (sh.length + (18 + i)))) = sh ++ (E ++ [(100, dI 12)]).set 1 (102, (List.range 12).map fun j => Value.ref (lkR sh.length (i + 1) j)) := by
      rw [app_set, show sh.length + (18 + i) = sh.length + 18 + i by omega, lkR_set hi]
    rw [s2] at s1
    have fr1 : Fr (UP (sh.length + 18)) ν0 ν1 := by
      intro q j n
      have := hF q j n
      rw [hν1]
      exact ⟨by show (if q = (sh ++ E).length ∧ j < 12 then _ else _) = _; rw [if_neg fun z => n (by show sh.length + 18 ≤ q; omega)]; exact this.1, this.2⟩
    have frμ : ∀ q t, q < sh.length → ν.1 q t = μ.1 q t := fun q t hq => ((hF q t (by unfold UP; omega)).1).trans (f0 q t (by unfold UP; omega)).1
    have hI2 : LKI sh μ a (i + 1) ((E ++ [(100, dI 12)]).set 1 (102, (List.range 12).map fun j => Value.ref (lkR sh.length (i + 1) j))) ν1 := by
      refine ⟨by rw [List.length_set, List.length_append, i1]; show 18 + i + 1 = _; omega, fun c hc => ?_, ?_, ?_, fun j h1 h2 => ?_, ?_, fun j hj t ht => ?_⟩
      · rcases List.mem_or_eq_of_mem_set hc with q | q
        · rcases List.mem_append.mp q with q | q
          · exact i2 c q
          · rw [List.mem_singleton.mp q]; simp [dI]
        · rw [q]; simp
      · rw [List.getElem?_set, if_neg (by omega), List.getElem?_append_left (by omega)]; exact i3
      · rw [List.getElem?_set, if_pos rfl, if_pos (by rw [List.length_append]; omega)]
      · rw [List.getElem?_set, if_neg (by omega)]
        by_cases z : j < 18 + i
        · rw [List.getElem?_append_left (by omega)]; exact i5 j h1 z
        · rw [show j = 18 + i by omega, List.getElem?_append_right (by omega), i1, Nat.sub_self]; rfl
      · intro p hp j
        have := i6 p (by omega) j
        rw [hν1]
        exact ⟨by show (if p = (sh ++ E).length ∧ j < 12 then _ else _) = _; rw [if_neg fun z => by omega]; exact this.1, this.2⟩
      · rw [hν1]
        show (if sh.length + 18 + j = (sh ++ E).length ∧ t < 12 then _ else _) = _
        by_cases z : j = i
        · rw [if_pos ⟨by omega, ht⟩, z]
          have := hs.2.2.2.2.2.1 i hi
          have := hs.2.1.2
          exact frμ _ _ (by omega)
        · rw [if_neg fun y => by omega]
          exact i7 j (by omega) t ht
    obtain ⟨E', ν', a1, a2, a3⟩ := l_like_loop hs hl f0 d (i + 1) ((E ++ [(100, dI 12)]).set 1 (102, (List.range 12).map fun j => Value.ref (lkR sh.length (i + 1) j))) ν1 (by omega) hI2 fr1
    refine ⟨E', ν', fun f K => ?_, a2, a3⟩
    rw [show d + 1 + 1 + f = d + 1 + f + 1 by omega, ← a1 f K]
    simp only [f_X10_like_L78, if_neg c, g5, hsE.r5, hsE.ro hi, n1, v1, s1, Option.bind_some, lt, i_succ]
/-- where like's copy lies -/
def lkA (b : Nat) : LA := (b, 30, b + 1, b + 16, b + 17, fun w => b + 18 + w)
theorem lkA_S (h168 : 168 ≤ sh.length) {E : xH} {ν : MM} (h : LKI sh μ a 12 E ν) : lbS (sh ++ E) (lkA sh.length) := by
  obtain ⟨i1, i2, i3, i4, i5, -⟩ := h
  have e1 : ((List.range 12).map fun j => Value.ref (lkR sh.length 12 j)) = (List.range 12).map fun j => Value.ref (sh.length + 18 + j) := by
    apply List.map_congr_left
    intro j hj
    have := List.mem_range.mp hj
    unfold lkR
    rw [if_pos this]
  rw [e1] at i4
  refine ⟨⟨?_, ?_, ?_, ?_, fun w hw => ?_⟩, ⟨h168, ?_⟩, ⟨?_, ?_⟩, ⟨?_, ?_⟩, ⟨?_, ?_⟩, fun w hw => ⟨?_, ?_⟩, ⟨?_, fun w hw => ⟨?_, ?_⟩⟩, fun w v hw hv e => ?_⟩
  · have := app_at (sh := sh) (t := E) (j := 0); rw [i3] at this; exact this
  · have := app_at (sh := sh) (t := E) (j := 1); rw [i4] at this; exact this
  · have := app_at (sh := sh) (t := E) (j := 16); rw [i5 16 (by omega) (by omega)] at this; exact this
  · have := app_at (sh := sh) (t := E) (j := 17); rw [i5 17 (by omega) (by omega)] at this; exact this
  · have := app_at (sh := sh) (t := E) (j := 18 + w); rw [i5 (18 + w) (by omega) (by omega)] at this
    show (sh ++ E)[sh.length + 18 + w]? = _
    rw [Nat.add_assoc]; exact this
  · show sh.length + 30 ≤ (sh ++ E).length
    rw [List.length_append, i1]; omega
  · show sh.length < sh.length + 1; omega
  · show sh.length + 1 < sh.length + 30; omega
  · show sh.length < sh.length + 16; omega
  · show sh.length + 16 < sh.length + 30; omega
  · show sh.length < sh.length + 17; omega
  · show sh.length + 17 < sh.length + 30; omega
  · show sh.length < sh.length + 18 + w; omega
  · show sh.length + 18 + w < sh.length + 30; omega
  · show sh.length + 16 ≠ sh.length + 17; omega
  · show sh.length + 18 + w ≠ sh.length + 16; omega
  · show sh.length + 18 + w ≠ sh.length + 17; omega
  · have e : sh.length + 18 + w = sh.length + 18 + v := e
    omega
theorem l_like (hs : lbS sh a) (hv : lbV μ a B) (hZ : Z μ sh.length) (hl : sh.length + 100 < 1000000) :
    ∃ E ν, f_X10_like (lab a) (mS sh μ) = some (some sh.length, mS (sh ++ E) ν) ∧ E.length = 30 ∧ Gw 30 E ∧ Fr (UP sh.length) μ ν ∧ Z ν (sh ++ E).length ∧ lbS (sh ++ E) (lkA sh.length) ∧ lbV ν (lkA sh.length) B := by
  have h168 : 168 ≤ sh.length := by have := hs.2.1; omega
  obtain ⟨⟨v0, v1, v2, v3, v4⟩, vo, vq, vr, vn, vM, ve, vc'⟩ := hv
  -- the new book
  let K : Nat → xH → Option (Option Nat × xH) := fun r h2 =>
    (gI h2 10 (lab a) 0).bind fun v3 => (pI h2 10 r 0 v3).bind fun h4 => (gI h4 10 (lab a) 1).bind fun v5 => (pI h4 10 r 1 v5).bind fun h6 => (gI h6 10 (lab a) 2).bind fun v7 => (pZ h6 10 r 2 v7).bind fun h8 =>
    (gI h8 10 (lab a) 3).bind fun v9 => (pI h8 10 r 3 v9).bind fun h10 => (gI h10 10 (lab a) 4).bind fun v11 => (pI h10 10 r 4 v11).bind fun h12 => (gR h12 10 (lab a) 6).bind fun v13 => (nwK h12 v13).bind fun r14 => vc r14.2 100 r14.1 <|
    (pR r14.2 10 r 6 r14.1).bind fun h15 => (gR h15 10 (lab a) 7).bind fun v16 => (nwK h15 v16).bind fun r17 => vc r17.2 100 r17.1 <| (pR r17.2 10 r 7 r17.1).bind fun h18 => f_X10_like_L78 f_X10_like_J108 5000 (lab a) r 0 h18
  obtain ⟨ν1, e1, f1, z1, s1, -⟩ := l_new (μ := μ) hZ h168 (by omega) K
  have e1 : f_X10_like (lab a) (mS sh μ) = K sh.length (mS (sh ++ lbC sh.length) ν1) := e1
  have hs1 : lbS (sh ++ lbC sh.length) a := hs.app _
  have ll : (sh ++ lbC sh.length).length = sh.length + 16 := by rw [List.length_append, lbC_len]
  rw [ll] at z1
  have lt := hs.2.1.2
  have lb0 : lab a < sh.length := by have := hs.2.2.1; omega
  have m1 : ∀ (ξ : MM), Fr (fun q _ => q = sh.length) ν1 ξ → ∀ i, ξ.1 (lab a) i = μ.1 (lab a) i := fun ξ f i => ((f _ _ (by omega)).1).trans (f1 _ _ (by unfold UP; omega)).1
  have p : ∀ (k : Nat) (v : Int32) (ξ : MM), k < 5 → pI (mS (sh ++ lbC sh.length) ξ) 10 sh.length k v = some (mS (sh ++ lbC sh.length) (st ξ sh.length k v)) := fun k v ξ hk => s1.p hk
  have pz : ∀ (v : Int32) (ξ : MM), (v = 0 ∨ v = 1) → pZ (mS (sh ++ lbC sh.length) ξ) 10 sh.length 2 v = some (mS (sh ++ lbC sh.length) (st ξ sh.length 2 v)) := fun v ξ hv => s1.pz hv
  have hk2 : Int32.ofNat (bk B) = 0 ∨ Int32.ofNat (bk B) = 1 := by
    have := vn.2.2
    rcases Nat.le_one_iff_eq_zero_or_eq_one.mp this with q | q
    · rw [q]; exact Or.inl rfl
    · rw [q]; exact Or.inr rfl
  let x1 := st ν1 sh.length 0 (Int32.ofNat (bn B))
  let x2 := st x1 sh.length 1 (Int32.ofNat (bm B))
  let x3 := st x2 sh.length 2 (Int32.ofNat (bk B))
  let x4 := st x3 sh.length 3 (bw B)
  let x5 := st x4 sh.length 4 (bt B)
  have y1 : Fr (fun q _ => q = sh.length) ν1 x1 := (Fr.refl _ _).st rfl
  have y2 : Fr (fun q _ => q = sh.length) ν1 x2 := y1.st rfl
  have y3 : Fr (fun q _ => q = sh.length) ν1 x3 := y2.st rfl
  have y4 : Fr (fun q _ => q = sh.length) ν1 x4 := y3.st rfl
  have y5 : Fr (fun q _ => q = sh.length) ν1 x5 := y4.st rfl
  have z5 : Z x5 (sh.length + 16) := z1.fr y5 fun q i z => by omega
  have g0 := (hs1.g (μ := ν1) (show 0 < 5 by decide)).trans (congrArg some ((m1 ν1 (Fr.refl _ _) 0).trans v0))
  have g1 := (hs1.g (μ := x1) (show 1 < 5 by decide)).trans (congrArg some ((m1 x1 y1 1).trans v1))
  have g2 := (hs1.g (μ := x2) (show 2 < 5 by decide)).trans (congrArg some ((m1 x2 y2 2).trans v2))
  have g3 := (hs1.g (μ := x3) (show 3 < 5 by decide)).trans (congrArg some ((m1 x3 y3 3).trans v3))
  have g4 := (hs1.g (μ := x4) (show 4 < 5 by decide)).trans (congrArg some ((m1 x4 y4 4).trans v4))
  have n1 := nwK_s (μ := x5) hs1.1.2.2.1 (by rw [ll]; omega)
  rw [List.append_assoc, ll] at n1
  obtain ⟨x6, hx6⟩ : ∃ x, x = rw_ x5 (sh.length + 16) 12 (x5.1 (laq a)) := ⟨_, rfl⟩
  rw [← hx6] at n1
  obtain ⟨X1, hX1⟩ : ∃ X, X = lbC sh.length ++ [(100, dI 12)] := ⟨_, rfl⟩
  have lX1 : X1.length = 17 := by rw [hX1]; rfl
  rw [← hX1] at n1
  have a16 : (sh ++ X1)[sh.length + 16]? = some (100, dI 12) := by rw [app_at, hX1]; rfl
  have vc1 : ∀ {o : Option (Option Nat × xH)}, vc (mS (sh ++ X1) x6) 100 (sh.length + 16) o = o := vc_m (isT_of a16)
  have q1 : pR (mS (sh ++ X1) x6) 10 sh.length 6 (sh.length + 16) = some (mS (sh ++ X1.set 0 (10, lb3 (sh.length + 1) (sh.length + 16) (sh.length + 15))) x6) := pR_t (t := X1) (j := 0) (k := 6) (q := sh.length + 16) (l := lb3 (sh.length + 1) (sh.length + 14) (sh.length + 15)) (by rw [hX1]; rfl) (show 6 < 8 by decide)
  obtain ⟨X2, hX2⟩ : ∃ X, X = X1.set 0 (10, lb3 (sh.length + 1) (sh.length + 16) (sh.length + 15)) := ⟨_, rfl⟩
  have lX2 : X2.length = 17 := by rw [hX2, List.length_set, lX1]
  rw [← hX2] at q1
  have l2 : (sh ++ X2).length = sh.length + 17 := by rw [List.length_append, lX2]
  have hs2 : lbS (sh ++ X2) a := hs.app _
  have n2 := nwK_s (μ := x6) hs2.1.2.2.2.1 (by rw [l2]; omega)
  rw [List.append_assoc, l2] at n2
  obtain ⟨x7, hx7⟩ : ∃ x, x = rw_ x6 (sh.length + 17) 12 (x6.1 (lar a)) := ⟨_, rfl⟩
  rw [← hx7] at n2
  obtain ⟨X3, hX3⟩ : ∃ X, X = X2 ++ [(100, dI 12)] := ⟨_, rfl⟩
  have lX3 : X3.length = 18 := by rw [hX3, List.length_append, lX2]; rfl
  rw [← hX3] at n2
  have h30 : X3[0]? = some (10, lb3 (sh.length + 1) (sh.length + 16) (sh.length + 15)) := by rw [hX3, hX2, hX1]; rfl
  have a17 : (sh ++ X3)[sh.length + 17]? = some (100, dI 12) := by rw [app_at, hX3, hX2, hX1]; rfl
  have vc2 : ∀ {o : Option (Option Nat × xH)}, vc (mS (sh ++ X3) x7) 100 (sh.length + 17) o = o := vc_m (isT_of a17)
  have q2 : pR (mS (sh ++ X3) x7) 10 sh.length 7 (sh.length + 17) = some (mS (sh ++ X3.set 0 (10, lb3 (sh.length + 1) (sh.length + 16) (sh.length + 17))) x7) := pR_t (t := X3) (j := 0) (k := 7) (q := sh.length + 17) (l := lb3 (sh.length + 1) (sh.length + 16) (sh.length + 15)) h30 (show 7 < 8 by decide)
  obtain ⟨X4, hX4⟩ : ∃ X, X = X3.set 0 (10, lb3 (sh.length + 1) (sh.length + 16) (sh.length + 17)) := ⟨_, rfl⟩
  rw [← hX4] at q2
  have e2 : K sh.length (mS (sh ++ lbC sh.length) ν1) = f_X10_like_L78 f_X10_like_J108 5000 (lab a) sh.length 0 (mS (sh ++ X4) x7) := by
    show (gI (mS (sh ++ lbC sh.length) ν1) 10 (lab a) 0).bind _ = _
    rw [g0, Option.bind_some, p 0 _ _ (by decide), Option.bind_some]
    show (gI (mS (sh ++ lbC sh.length) x1) 10 (lab a) 1).bind _ = _
    rw [g1, Option.bind_some, p 1 _ _ (by decide), Option.bind_some]
    show (gI (mS (sh ++ lbC sh.length) x2) 10 (lab a) 2).bind _ = _
    rw [g2, Option.bind_some, pz _ _ hk2, Option.bind_some]
    show (gI (mS (sh ++ lbC sh.length) x3) 10 (lab a) 3).bind _ = _
    rw [g3, Option.bind_some, p 3 _ _ (by decide), Option.bind_some]
    show (gI (mS (sh ++ lbC sh.length) x4) 10 (lab a) 4).bind _ = _
    rw [g4, Option.bind_some, p 4 _ _ (by decide), Option.bind_some]
    show (gR (mS (sh ++ lbC sh.length) x5) 10 (lab a) 6).bind _ = _
    rw [hs1.r6, Option.bind_some, n1, Option.bind_some]
    show vc (mS (sh ++ X1) x6) 100 (sh.length + 16) _ = _
    rw [vc1, q1, Option.bind_some, hs2.r7, Option.bind_some, n2, Option.bind_some]
    show vc (mS (sh ++ X3) x7) 100 (sh.length + 17) _ = _
    rw [vc2, q2, Option.bind_some]
  have f6 : Fr (fun q _ => q = sh.length ∨ q = sh.length + 16 ∨ q = sh.length + 17) ν1 x7 := by
    intro q i n
    have := y5 q i fun z => n (Or.inl z)
    rw [hx7, hx6]
    refine ⟨?_, this.2⟩
    show (if q = sh.length + 17 ∧ i < 12 then _ else if q = sh.length + 16 ∧ i < 12 then _ else x5.1 q i) = _
    rw [if_neg fun z => n (Or.inr (Or.inr z.1)), if_neg fun z => n (Or.inr (Or.inl z.1))]
    exact this.1
  have z7 : Z x7 (sh.length + 18) := (z1.mono (by omega)).fr f6 fun q i z => by omega
  have fμ : Fr (UP sh.length) μ x7 := f1.trans (f6.mono fun q i z => by unfold UP; omega)
  have inv : LKI sh μ a 0 X4 x7 := by
    refine ⟨by rw [hX4, List.length_set, lX3], fun c hc => ?_, ?_, ?_, fun j h1 h2 => ?_, z7, fun j hj => absurd hj (Nat.not_lt_zero j)⟩
    · have gw := (lbC_gw sh.length).2
      rw [hX4] at hc
      rcases List.mem_or_eq_of_mem_set hc with q | q
      · rw [hX3] at q
        rcases List.mem_append.mp q with q | q
        · rw [hX2] at q
          rcases List.mem_or_eq_of_mem_set q with q | q
          · rw [hX1] at q
            rcases List.mem_append.mp q with q | q
            · exact gw c q
            · rw [List.mem_singleton.mp q]; simp [dI]
          · rw [q]; simp [lb3]
        · rw [List.mem_singleton.mp q]; simp [dI]
      · rw [q]; simp [lb3]
    · rw [hX4, List.getElem?_set, if_pos rfl, if_pos (by omega)]
    · rw [hX4, hX3, hX2, hX1]
      show some _ = some _
      refine congrArg some (Prod.ext rfl ?_)
      show List.map (fun i => Value.ref (sh.length + 1 + 1 + i)) (List.range 12) = List.map (fun j => Value.ref (lkR sh.length 0 j)) (List.range 12)
      apply List.map_congr_left
      intro j hj
      show Value.ref (sh.length + 1 + 1 + j) = .ref (lkR sh.length 0 j)
      unfold lkR
      rw [if_neg (Nat.not_lt_zero j)]
    · rw [hX4, List.getElem?_set, if_neg (by omega), hX3]
      by_cases z : j < 17
      · rw [List.getElem?_append_left (by omega), hX2, List.getElem?_set, if_neg (by omega), hX1]
        by_cases y : j < 16
        · rw [List.getElem?_append_left (by rw [lbC_len]; exact y)]
          by_cases x : j < 14
          · obtain ⟨w, hw⟩ : ∃ w, j = 2 + w := ⟨j - 2, by omega⟩
            rw [hw]; exact lbC_row _ w (by omega)
          · rcases (show j = 14 ∨ j = 15 by omega) with x | x
            · rw [x]; rfl
            · rw [x]; rfl
        · rw [show j = 16 by omega]; rfl
      · rw [show j = 17 by omega, List.getElem?_append_right (by omega), lX2]; rfl
  obtain ⟨E, ν, b1, b2, b3⟩ := l_like_loop hs hl fμ 12 0 X4 x7 (by omega) inv (Fr.refl _ _)
  have b1 := b1 4987 f_X10_like_J108
  have b1 : f_X10_like_L78 f_X10_like_J108 5000 (lab a) sh.length 0 (mS (sh ++ X4) x7) = some (some sh.length, mS (sh ++ E) ν) := b1
  have hsE := lkA_S h168 b2
  obtain ⟨w1, w2, w3, w4, w5, w6, w7⟩ := b2
  have eb : ∀ i, ν.1 sh.length i = x7.1 sh.length i := fun i => (b3 _ _ (by unfold UP; omega)).1
  have e16 : ∀ i, ν.1 (sh.length + 16) i = x7.1 (sh.length + 16) i := fun i => (b3 _ _ (by unfold UP; omega)).1
  have e17 : ∀ i, ν.1 (sh.length + 17) i = x7.1 (sh.length + 17) i := fun i => (b3 _ _ (by unfold UP; omega)).1
  have e7 : ∀ i, x7.1 sh.length i = x5.1 sh.length i := fun i => by
    rw [hx7, hx6]
    show (if sh.length = sh.length + 17 ∧ i < 12 then _ else if sh.length = sh.length + 16 ∧ i < 12 then _ else x5.1 sh.length i) = _
    rw [if_neg fun z => by omega, if_neg fun z => by omega]
  have old : ∀ q i, q < sh.length → x5.1 q i = μ.1 q i := fun q i hq => ((y5 _ _ (by omega)).1).trans (f1 _ _ (by unfold UP; omega)).1
  have lq := hs.2.2.2.1
  have lr := hs.2.2.2.2.1
  refine ⟨E, ν, by rw [e1, e2, b1], w1, ⟨by omega, w2⟩, fμ.trans (b3.mono fun q i z => by unfold UP at z ⊢; omega), by rw [List.length_append, w1]; exact w6, hsE, ⟨⟨?_, ?_, ?_, ?_, ?_⟩, fun w t hw ht => ?_, fun w hw => ?_, fun w hw => ?_, vn, vM, ve, vc'⟩⟩
  · show ν.1 sh.length 0 = _
    rw [eb, e7]
    show (st (st (st (st (st ν1 sh.length 0 (Int32.ofNat (bn B))) sh.length 1 _) sh.length 2 _) sh.length 3 _) sh.length 4 _).1 sh.length 0 = _
    rw [st_ne (Or.inr (by decide)), st_ne (Or.inr (by decide)), st_ne (Or.inr (by decide)), st_ne (Or.inr (by decide)), st_same]
  · show ν.1 sh.length 1 = _
    rw [eb, e7]
    show (st (st (st (st x1 sh.length 1 (Int32.ofNat (bm B))) sh.length 2 _) sh.length 3 _) sh.length 4 _).1 sh.length 1 = _
    rw [st_ne (Or.inr (by decide)), st_ne (Or.inr (by decide)), st_ne (Or.inr (by decide)), st_same]
  · show ν.1 sh.length 2 = _
    rw [eb, e7]
    show (st (st (st x2 sh.length 2 (Int32.ofNat (bk B))) sh.length 3 _) sh.length 4 _).1 sh.length 2 = _
    rw [st_ne (Or.inr (by decide)), st_ne (Or.inr (by decide)), st_same]
  · show ν.1 sh.length 3 = _
    rw [eb, e7]
    show (st (st x3 sh.length 3 (bw B)) sh.length 4 _).1 sh.length 3 = _
    rw [st_ne (Or.inr (by decide)), st_same]
  · show ν.1 sh.length 4 = _
    rw [eb, e7]
    show (st x4 sh.length 4 (bt B)).1 sh.length 4 = _
    rw [st_same]
  · show ν.1 (sh.length + 18 + w) t = _
    rw [w7 w hw t ht]; exact vo w t hw ht
  · show ν.1 (sh.length + 16) w = _
    rw [e16, hx7]
    show (if sh.length + 16 = sh.length + 17 ∧ w < 12 then _ else x6.1 (sh.length + 16) w) = _
    rw [if_neg fun z => by omega, hx6]
    show (if sh.length + 16 = sh.length + 16 ∧ w < 12 then x5.1 (laq a) w else _) = _
    rw [if_pos ⟨rfl, hw⟩, old _ _ (by omega)]; exact vq w hw
  · show ν.1 (sh.length + 17) w = _
    rw [e17, hx7]
    show (if sh.length + 17 = sh.length + 17 ∧ w < 12 then x6.1 (lar a) w else _) = _
    rw [if_pos ⟨rfl, hw⟩, hx6]
    show (if lar a = sh.length + 16 ∧ w < 12 then _ else x5.1 (lar a) w) = _
    rw [if_neg fun z => by omega, old _ _ (by omega)]; exact vr w hw
end D5
