/-! THE LAW'S BOOK: made, copied -/
def gC (n t t1 : Nat) (dv : Value) (N M : Nat) : xH := (t, (List.range N).map fun i => .ref (n + 1 + i)) :: List.replicate N (t1, List.replicate M dv)
theorem rep_all {n : Nat} {v : Value} (h : dfl v = true) : (List.replicate n v).all dfl = true := by
  rw [List.all_eq_true]
  intro w hw
  rw [(List.mem_replicate.mp hw).2]; exact h
theorem refs_all {n : Nat} {f : Nat → Nat} : ((List.range n).map fun i => Value.ref (f i)).all dfl = true := by
  rw [List.all_eq_true]
  intro w hw
  obtain ⟨i, -, rfl⟩ := List.mem_map.mp hw
  rfl
theorem gC_all {n t t1 N M : Nat} {dv : Value} (h : dfl dv = true) : (gC n t t1 dv N M).all (fun c => c.2.all dfl) = true := by
  rw [gC, List.all_cons, Bool.and_eq_true]
  refine ⟨refs_all, ?_⟩
  rw [List.all_eq_true]
  intro c hc
  rw [(List.mem_replicate.mp hc).2]
  exact rep_all h
theorem gC_len {n t t1 N M : Nat} {dv : Value} : (gC n t t1 dv N M).length = 1 + N := by simp [gC]; omega
theorem nwG_s {sh : xH} {μ : MM} {t t1 N M : Nat} {dv : Value} {n k : Int32} (h : Z μ sh.length) (hd : dfl dv = true) (hn : n = Int32.ofNat N) (hk : k = Int32.ofNat M) (hN : N < 100000) (hM : M < 100000) (hl : sh.length + 1 + N < 1000000) : nwG t t1 dv (mS sh μ) n k = some (sh.length, mS (sh ++ gC sh.length t t1 dv N M) μ) := by
  subst hn; subst hk
  obtain ⟨⟨a1, -⟩, a2⟩ := ain_nat (k := N) (n := N + 1) (by omega) (by omega)
  obtain ⟨⟨b1, -⟩, b2⟩ := ain_nat (k := M) (n := M + 1) (by omega) (by omega)
  unfold nwG
  rw [a2, b2, mS_len, if_pos ⟨a1, b1, by omega, by omega, hl⟩, ← mS_push h (gC_all hd)]
  rfl
def lbC (b : Nat) : xH := (10, lb3 (b + 1) (b + 14) (b + 15)) :: (gC (b + 1) 102 100 (.int 0) 12 12 ++ [(100, dI 12), (100, dI 12)])
def lbA (b : Nat) : LA := (b, 16, b + 1, b + 14, b + 15, fun w => b + 2 + w)
theorem lbC_len (b : Nat) : (lbC b).length = 16 := rfl
theorem lbC_gw (b : Nat) : Gw 16 (lbC b) := by
  refine ⟨Nat.le_refl 16, fun c hc => ?_⟩
  have : ∀ c ∈ lbC b, c.2.length ≤ 24 := by
    intro c hc
    unfold lbC gC at hc
    simp only [List.cons_append, List.mem_cons, List.mem_append, List.mem_replicate, List.not_mem_nil, or_false] at hc
    rcases hc with rfl | rfl | ⟨-, rfl⟩ | rfl | rfl <;> simp [lb3, dI]
  exact this c hc
section D4
variable {sh : xH} {μ : MM} {a : LA} {B : Bk}
theorem lbC_at (j : Nat) : (sh ++ lbC sh.length)[sh.length + j]? = (lbC sh.length)[j]? := app_at
theorem lbC_row (b w : Nat) (hw : w < 12) : (lbC b)[2 + w]? = some (100, dI 12) := by
  unfold lbC gC
  rw [show 2 + w = w + 1 + 1 by omega, List.getElem?_cons_succ, List.cons_append, List.getElem?_cons_succ, List.getElem?_append_left (by rw [List.length_replicate]; exact hw), List.getElem?_replicate, if_pos hw]
  rfl
theorem lbC_S (h168 : 168 ≤ sh.length) : lbS (sh ++ lbC sh.length) (lbA sh.length) := by
  refine ⟨⟨?_, ?_, ?_, ?_, fun w hw => ?_⟩, ⟨h168, ?_⟩, ⟨?_, ?_⟩, ⟨?_, ?_⟩, ⟨?_, ?_⟩, fun w hw => ⟨?_, ?_⟩, ⟨?_, fun w hw => ⟨?_, ?_⟩⟩, fun w v hw hv e => ?_⟩
  · exact lbC_at 0
  · exact lbC_at 1
  · exact lbC_at 14
  · exact lbC_at 15
  · show (sh ++ lbC sh.length)[sh.length + 2 + w]? = _
    rw [Nat.add_assoc, lbC_at]; exact lbC_row _ w hw
  · show sh.length + 16 ≤ (sh ++ lbC sh.length).length
    rw [List.length_append, lbC_len]; exact Nat.le_refl _
  all_goals first | (show sh.length < sh.length + _; omega) | (show sh.length + _ < sh.length + 16; omega) | skip
  · show sh.length < sh.length + 2 + w; omega
  · show sh.length + 2 + w < sh.length + 16; omega
  · show sh.length + 14 ≠ sh.length + 15; omega
  · show sh.length + 2 + w ≠ sh.length + 14; omega
  · show sh.length + 2 + w ≠ sh.length + 15; omega
  · have e : sh.length + 2 + w = sh.length + 2 + v := e
    omega
/-- the ints of a book just made -/
def lbM0 (μ : MM) (b : Nat) : MM := st (st (st (st (st μ b 0 1) b 1 1) b 2 1) b 3 1) b 4 1
theorem lbM0_Z {n b : Nat} (h : Z μ n) (hb : b < n) : Z (lbM0 μ b) n := ((((h.st hb).st hb).st hb).st hb).st hb
theorem lb_alloc (h : Z μ sh.length) (hl : sh.length + 40 < 1000000) : f_X10_init sh.length (mS (sh ++ [(10, dv_X10)]) μ) = f_X10_init_L59 f_X10_init_J108 5000 sh.length 0 (mS (sh ++ lbC sh.length) (lbM0 μ sh.length)) := by
  have z1 : Z (lbM0 μ sh.length) (sh.length + 1) := lbM0_Z (h.mono (by omega)) (by omega)
  have p0 : ∀ (k : Nat) (v : Int32) (ν : MM), k < 5 → pI (mS (sh ++ [(10, dv_X10)]) ν) 10 sh.length k v = some (mS (sh ++ [(10, dv_X10)]) (st ν sh.length k v)) := fun k v ν hk => by
    match k, hk with
    | 0, _ => exact pI_t (t := [(10, dv_X10)]) (j := 0) rfl
    | 1, _ => exact pI_t (t := [(10, dv_X10)]) (j := 0) rfl
    | 2, _ => exact pI_t (t := [(10, dv_X10)]) (j := 0) rfl
    | 3, _ => exact pI_t (t := [(10, dv_X10)]) (j := 0) rfl
    | 4, _ => exact pI_t (t := [(10, dv_X10)]) (j := 0) rfl
  have pz : ∀ (ν : MM), pZ (mS (sh ++ [(10, dv_X10)]) ν) 10 sh.length 2 1 = some (mS (sh ++ [(10, dv_X10)]) (st ν sh.length 2 1)) := fun ν => pZ_t (t := [(10, dv_X10)]) (j := 0) rfl (Or.inr rfl)
  unfold f_X10_init
  simp only [p0 0 _ _ (by decide), p0 1 _ _ (by decide), pz, p0 3 _ _ (by decide), p0 4 _ _ (by decide), Option.bind_some]
  generalize hM : st (st (st (st (st μ sh.length 0 1) sh.length 1 1) sh.length 2 1) sh.length 3 1) sh.length 4 1 = M
  have hM : lbM0 μ sh.length = M := hM
  rw [hM] at z1 ⊢
  have l1 : (sh ++ [(10, dv_X10)]).length = sh.length + 1 := by simp
  have g1 := nwG_s (sh := sh ++ [(10, dv_X10)]) (μ := M) (t := 102) (t1 := 100) (dv := .int 0) (n := 12) (k := 12) (N := 12) (M := 12) (by rw [l1]; exact z1) rfl rfl rfl (by decide) (by decide) (by rw [l1]; omega)
  rw [l1, List.append_assoc] at g1
  rw [g1]
  simp only [Option.bind_some]
  obtain ⟨G, hG⟩ : ∃ G, G = gC (sh.length + 1) 102 100 (.int 0) 12 12 := ⟨_, rfl⟩
  have lG : G.length = 13 := by rw [hG]; rfl
  rw [← hG]
  have q1 : pR (mS (sh ++ ([(10, dv_X10)] ++ G)) M) 10 sh.length 5 (sh.length + 1) = some (mS (sh ++ ((10, [.int 0, .int 0, .int 0, .int 0, .int 0, .ref (sh.length + 1), .null, .null]) :: G)) M) := pR_t (t := [(10, dv_X10)] ++ G) (j := 0) (k := 5) (l := dv_X10) rfl (by decide)
  rw [q1]
  simp only [Option.bind_some]
  have n1 := nwI_u (sh := sh) (μ := M) (t := (10, [.int 0, .int 0, .int 0, .int 0, .int 0, .ref (sh.length + 1), .null, .null]) :: G) (n := 12) (k := 12) (z1.mono (by rw [List.length_cons, lG]; omega)) rfl (by decide) (by rw [List.length_cons, lG]; omega)
  rw [List.length_cons, lG] at n1
  rw [n1]
  simp only [Option.bind_some]
  have q2 : pR (mS (sh ++ ((10, [.int 0, .int 0, .int 0, .int 0, .int 0, .ref (sh.length + 1), .null, .null]) :: G ++ [(100, dI 12)])) M) 10 sh.length 6 (sh.length + 14) = some (mS (sh ++ ((10, [.int 0, .int 0, .int 0, .int 0, .int 0, .ref (sh.length + 1), .ref (sh.length + 14), .null]) :: (G ++ [(100, dI 12)]))) M) := pR_t (t := (10, [.int 0, .int 0, .int 0, .int 0, .int 0, .ref (sh.length + 1), .null, .null]) :: G ++ [(100, dI 12)]) (j := 0) (k := 6) (l := [.int 0, .int 0, .int 0, .int 0, .int 0, .ref (sh.length + 1), .null, .null]) rfl (show 6 < 8 by decide)
  rw [show sh.length + (13 + 1) = sh.length + 14 from rfl, q2]
  simp only [Option.bind_some]
  have n2 := nwI_u (sh := sh) (μ := M) (t := (10, [.int 0, .int 0, .int 0, .int 0, .int 0, .ref (sh.length + 1), .ref (sh.length + 14), .null]) :: (G ++ [(100, dI 12)])) (n := 12) (k := 12) (z1.mono (by rw [List.length_cons, List.length_append, lG]; omega)) rfl (by decide) (by rw [List.length_cons, List.length_append, lG]; show _ + (13 + 1 + 1) + 1 < _; omega)
  rw [List.length_cons, List.length_append, lG] at n2
  rw [n2]
  simp only [Option.bind_some]
  have q3 : pR (mS (sh ++ ((10, [.int 0, .int 0, .int 0, .int 0, .int 0, .ref (sh.length + 1), .ref (sh.length + 14), .null]) :: (G ++ [(100, dI 12)]) ++ [(100, dI 12)])) M) 10 sh.length 7 (sh.length + 15) = some (mS (sh ++ ((10, lb3 (sh.length + 1) (sh.length + 14) (sh.length + 15)) :: (G ++ [(100, dI 12)] ++ [(100, dI 12)]))) M) := pR_t (t := (10, [.int 0, .int 0, .int 0, .int 0, .int 0, .ref (sh.length + 1), .ref (sh.length + 14), .null]) :: (G ++ [(100, dI 12)]) ++ [(100, dI 12)]) (j := 0) (k := 7) (l := [.int 0, .int 0, .int 0, .int 0, .int 0, .ref (sh.length + 1), .ref (sh.length + 14), .null]) rfl (show 7 < 8 by decide)
  rw [show sh.length + (13 + [((100, dI 12) : xC)].length + 1) = sh.length + 15 from rfl, q3]
  simp only [Option.bind_some]
  rw [show lbC sh.length = (10, lb3 (sh.length + 1) (sh.length + 14) (sh.length + 15)) :: (G ++ [(100, dI 12)] ++ [(100, dI 12)]) by rw [hG]; rfl]
/-- ahead of round w -/
def lbI (μ : MM) (a : LA) : Nat → MM
  | 0 => μ
  | w + 1 => rw_ (st (st (lbI μ a w) (laq a) w (-1)) (lar a) w 1) (lao a w) 12 fun _ => -1
theorem lb_rounds (hs : lbS sh a) : f_X10_init_L59 f_X10_init_J108 5000 (lab a) 0 (mS sh μ) = some (mS sh (lbI μ a 12)) := by
  have inner : ∀ (K : Nat → Int32 → xH → Option xH) (w : Nat) (ν : MM), w < 12 → f_X10_init_L81 K 5000 (lab a) (Int32.ofNat w) 0 (mS sh ν) = K (lab a) (Int32.ofNat w) (mS sh (rw_ ν (lao a w) 12 fun _ => -1)) := fun K w ν hw => by
    have := loopN (L := fun n i (ν : MM) => f_X10_init_L81 K n (lab a) (Int32.ofNat w) i (mS sh ν)) (N := 12) (fuel := 5000) (S := fun i => rw_ ν (lao a w) i fun _ => -1) (r := K (lab a) (Int32.ofNat w) (mS sh (rw_ ν (lao a w) 12 fun _ => -1))) (by decide) (fun i hi n => ?_) (fun n => ?_)
    · simp only [rw_zero] at this
      exact this
    · simp only [f_X10_init_L81, if_neg (nge (m := 12) (n := 12) rfl (by decide) hi), hs.r5, hs.ro hw, hs.so hw hi, Option.bind_some, lt, i_succ]
      rw [rw_succ]
    · simp only [f_X10_init_L81, if_pos (yge (m := 12) (n := 12) rfl (by decide))]
  have := loopN (L := fun n i (ν : MM) => f_X10_init_L59 f_X10_init_J108 n (lab a) i (mS sh ν)) (N := 12) (fuel := 5000) (S := fun i => lbI μ a i) (r := some (mS sh (lbI μ a 12))) (by decide) (fun i hi n => ?_) (fun n => ?_)
  · exact this
  · simp only [f_X10_init_L59, if_neg (nge (m := 12) (n := 12) rfl (by decide) hi), hs.r6, hs.sq hi, hs.r7, hs.sr hi, Option.bind_some, inner _ i _ hi, f_X10_init_J102, lt, i_succ]
    rfl
  · simp only [f_X10_init_L59, if_pos (yge (m := 12) (n := 12) rfl (by decide)), f_X10_init_J108]
theorem lbI_fr (hs : lbS sh a) : ∀ w, w ≤ 12 → Fr (fun q _ => q = laq a ∨ q = lar a ∨ ∃ v, v < w ∧ q = lao a v) μ (lbI μ a w)
  | 0, _ => Fr.refl _ _
  | w + 1, hw => by
    have f1 := ((lbI_fr hs w (by omega)).mono (P' := fun q _ => q = laq a ∨ q = lar a ∨ ∃ v, v < w + 1 ∧ q = lao a v) fun q i z => by
      rcases z with z | z | ⟨v, z, e⟩
      · exact Or.inl z
      · exact Or.inr (Or.inl z)
      · exact Or.inr (Or.inr ⟨v, by omega, e⟩)).st (a := laq a) (k := w) (v := -1) (Or.inl rfl)
    have f2 := f1.st (a := lar a) (k := w) (v := 1) (Or.inr (Or.inl rfl))
    intro q i n
    have nq : q ≠ lao a w := fun z => n (Or.inr (Or.inr ⟨w, by omega, z⟩))
    have := f2 q i n
    exact ⟨by show (if q = lao a w ∧ i < 12 then _ else _) = _; rw [if_neg fun z => nq z.1]; exact this.1, this.2⟩
theorem lbI_at (hs : lbS sh a) : ∀ w, w ≤ 12 → ∀ v, v < w → (lbI μ a w).1 (laq a) v = -1 ∧ (lbI μ a w).1 (lar a) v = 1 ∧ ∀ t, t < 12 → (lbI μ a w).1 (lao a v) t = -1
  | 0, _, v, hv => absurd hv (Nat.not_lt_zero v)
  | w + 1, hw, v, hv => by
    obtain ⟨d1, d2⟩ := hs.2.2.2.2.2.2
    have e : ∀ q i, q ≠ lao a w → (lbI μ a (w + 1)).1 q i = (st (st (lbI μ a w) (laq a) w (-1)) (lar a) w 1).1 q i := fun q i z => by
      show (if q = lao a w ∧ i < 12 then _ else _) = _
      rw [if_neg fun y => z y.1]
    have n1 : laq a ≠ lao a w := fun z => (d1.2 w (by omega)).1 z.symm
    have n2 : lar a ≠ lao a w := fun z => (d1.2 w (by omega)).2 z.symm
    by_cases c : v = w
    · subst c
      refine ⟨?_, ?_, fun t ht => ?_⟩
      · rw [e _ _ n1, st_ne (Or.inl d1.1), st_same]
      · rw [e _ _ n2, st_same]
      · show (if lao a v = lao a v ∧ t < 12 then _ else _) = _
        rw [if_pos ⟨rfl, ht⟩]
    · obtain ⟨h1, h2, h3⟩ := lbI_at hs w (by omega) v (by omega)
      have nv : lao a v ≠ lao a w := fun z => c (d2 v w (by omega) (by omega) z)
      refine ⟨?_, ?_, fun t ht => ?_⟩
      · rw [e _ _ n1, st_ne (Or.inl d1.1), st_ne (Or.inr c)]; exact h1
      · rw [e _ _ n2, st_ne (Or.inr c), st_ne (Or.inl fun z => d1.1 z.symm)]; exact h2
      · rw [e _ _ nv, st_ne (Or.inl (d1.2 v (by omega)).2), st_ne (Or.inl (d1.2 v (by omega)).1)]; exact h3 t ht
/-- the book of a beginning -/
def B00 : Bk := mkB 1 1 1 1 1 (fun _ => 1) (fun _ => 0) (fun _ _ => 0) (fun _ => 12)
theorem l_new (h : Z μ sh.length) (h168 : 168 ≤ sh.length) (hl : sh.length + 40 < 1000000) {β : Type} (K : Nat → xH → Option β) :
    ∃ ν, ((nwC (mS sh μ) (10, dv_X10)).bind fun r1 => (ic r1.2 r1.1 (f_X10_init r1.1 r1.2)).bind fun h2 => K r1.1 h2) = K sh.length (mS (sh ++ lbC sh.length) ν) ∧ Fr (UP sh.length) μ ν ∧ Z ν (sh ++ lbC sh.length).length ∧ lbS (sh ++ lbC sh.length) (lbA sh.length) ∧ lbV ν (lbA sh.length) B00 := by
  have hs := lbC_S (sh := sh) h168
  have e1 : nwC (mS sh μ) (10, dv_X10) = some (sh.length, mS (sh ++ [(10, dv_X10)]) μ) := nwC_s h rfl (by omega)
  have e2 := lb_alloc (μ := μ) h hl
  have e3 := lb_rounds (μ := lbM0 μ sh.length) hs
  have e3 : f_X10_init_L59 f_X10_init_J108 5000 sh.length 0 (mS (sh ++ lbC sh.length) (lbM0 μ sh.length)) = some (mS (sh ++ lbC sh.length) (lbI (lbM0 μ sh.length) (lbA sh.length) 12)) := e3
  have ll : (sh ++ lbC sh.length).length = sh.length + 16 := by rw [List.length_append, lbC_len]
  have f1 : Fr (UP sh.length) μ (lbM0 μ sh.length) := (((((Fr.refl (UP sh.length) μ).st (Nat.le_refl _)).st (Nat.le_refl _)).st (Nat.le_refl _)).st (Nat.le_refl _)).st (Nat.le_refl _)
  have fi := lbI_fr (μ := lbM0 μ sh.length) hs 12 (Nat.le_refl 12)
  have f2 : Fr (UP sh.length) μ (lbI (lbM0 μ sh.length) (lbA sh.length) 12) := f1.trans (fi.mono fun q i z => by
    rcases z with z | z | ⟨v, -, z⟩
    · rw [z]; show sh.length ≤ sh.length + 14; omega
    · rw [z]; show sh.length ≤ sh.length + 15; omega
    · rw [z]; show sh.length ≤ sh.length + 2 + v; omega)
  refine ⟨lbI (lbM0 μ sh.length) (lbA sh.length) 12, ?_, f2, ?_, hs, ?_⟩
  · rw [e1]
    simp only [Option.bind_some]
    rw [ic_s (by simp), e2, e3]
    rfl
  · have z0 : Z (lbM0 μ sh.length) (sh.length + 16) := lbM0_Z (h.mono (by omega)) (by omega)
    rw [ll]
    refine z0.fr fi fun q i z => ?_
    rcases z with z | z | ⟨v, hv, z⟩
    · rw [z]; show sh.length + 14 < sh.length + 16; omega
    · rw [z]; show sh.length + 15 < sh.length + 16; omega
    · rw [z]; show sh.length + 2 + v < sh.length + 16; omega
  · have at' := lbI_at (μ := lbM0 μ sh.length) hs 12 (Nat.le_refl 12)
    have nb : ∀ i, (lbI (lbM0 μ sh.length) (lbA sh.length) 12).1 sh.length i = (lbM0 μ sh.length).1 sh.length i := fun i => (fi _ _ fun z => by
      rcases z with z | z | ⟨v, -, z⟩
      · have z : sh.length = sh.length + 14 := z; omega
      · have z : sh.length = sh.length + 15 := z; omega
      · have z : sh.length = sh.length + 2 + v := z; omega).1
    refine ⟨⟨?_, ?_, ?_, ?_, ?_⟩, fun w t hw ht => ?_, fun w hw => ?_, fun w hw => ?_, ⟨by decide, by decide, by decide⟩, fun w => Nat.le_refl 12, fun w => (by show 1 ≤ 99; omega), fun w t => Nat.zero_le _⟩
    · show (lbI (lbM0 μ sh.length) (lbA sh.length) 12).1 sh.length 0 = _
      rw [nb]; unfold lbM0; rw [st_ne (Or.inr (by decide)), st_ne (Or.inr (by decide)), st_ne (Or.inr (by decide)), st_ne (Or.inr (by decide)), st_same]; rfl
    · show (lbI (lbM0 μ sh.length) (lbA sh.length) 12).1 sh.length 1 = _
      rw [nb]; unfold lbM0; rw [st_ne (Or.inr (by decide)), st_ne (Or.inr (by decide)), st_ne (Or.inr (by decide)), st_same]; rfl
    · show (lbI (lbM0 μ sh.length) (lbA sh.length) 12).1 sh.length 2 = _
      rw [nb]; unfold lbM0; rw [st_ne (Or.inr (by decide)), st_ne (Or.inr (by decide)), st_same]; rfl
    · show (lbI (lbM0 μ sh.length) (lbA sh.length) 12).1 sh.length 3 = _
      rw [nb]; unfold lbM0; rw [st_ne (Or.inr (by decide)), st_same]; rfl
    · show (lbI (lbM0 μ sh.length) (lbA sh.length) 12).1 sh.length 4 = _
      rw [nb]; unfold lbM0; rw [st_same]; rfl
    · rw [(at' w hw).2.2 t ht]
      show -1 = if hb 0 t = true then _ else _
      rw [hb_zero]; rfl
    · rw [(at' w hw).1]
      show -1 = eI 12
      rfl
    · rw [(at' w hw).2.1]; rfl
end D4
