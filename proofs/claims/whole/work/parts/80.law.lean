/-! THE LAW'S CASES: class and model answer alike -/
def MO (wc : String → Option Int32) (x : Int32 ⊕ String) (b th : Int32) : Prop := match x with
  | .inl v => th = 0 ∧ b = v
  | .inr E => ∃ c, wc E = some c ∧ c ≠ 0 ∧ th = c
def CX (T : MM → Bk → Prop) (μ : MM) (o : Option ((Int32 ⊕ String) × xH)) (S : (Int32 ⊕ String) → AS → Prop) : Prop :=
  ∃ x ν A', o = some (x, mem ν) ∧ Fr CL μ ν ∧ RC T ν A' ∧ AOK A' ∧ S x A'
def MX (μ : MM) (o : Option (Int32 × xH)) (wc : String → Option Int32) (S : (Int32 ⊕ String) → AS → Prop) : Prop :=
  ∃ b x ν A', o = some (b, mem ν) ∧ Fr ML μ ν ∧ RM ν A' ∧ S x A' ∧ MO wc x b (ν.1 168 0)
def UQ {α : Type} (S : α → AS → Prop) : Prop := ∀ x A' y A'', S x A' → S y A'' → x = y ∧ A' = A''
def RR (T : MM → Bk → Prop) (μ : MM) : Prop := ∃ A, AOK A ∧ RC T μ A ∧ RM μ A
/-- a case with a wrapper -/
def LB (wc : String → Option Int32) (F : xH → Option ((Int32 ⊕ String) × xH)) (G : xH → Option (Int32 × xH)) (K : Int32 → xH → Nat → Option (Int32 × xH × Nat)) (i : Int32) (h : xH) (ex : Nat) : Option (Int32 × xH × Nat) :=
  ((vc h 9 0 (F h)).bind (wrp 532 wc)).bind fun r2 =>
  (vc r2.2.1 10 168 (G r2.2.1)).bind fun r4 =>
  (vc r4.2 10 168 (f_X10_thrown 168 r4.2)).bind fun r5 =>
  if r5.1 = r2.1 then
    if r2.1 = (0 : Int32) then
      (aJ r5.2 532 (0 : Int32)).bind fun v6 =>
      if (lg_cmp v6 r4.1.toInt64) = (0 : Int32) then
        K i r5.2 (ex + r2.2.2)
      else
        some ((0 : Int32), r5.2, (ex + r2.2.2))
    else
      K i r5.2 (ex + r2.2.2)
  else
    some ((0 : Int32), r5.2, (ex + r2.2.2))
/-- the case goes on -/
def OKc (T : MM → Bk → Prop) (μ : MM) (L : (Int32 → xH → Nat → Option (Int32 × xH × Nat)) → Int32 → xH → Nat → Option (Int32 × xH × Nat)) : Prop :=
  ∃ ξ e, e ≤ 1 ∧ RR T ξ ∧ ∀ K i ex, L K i (mem μ) ex = K i (mem ξ) (ex + e)
theorem lg_refl (v : Int64) : lg_cmp v v = 0 := by
  unfold lg_cmp
  rw [if_neg (show ¬ v > v from Int64.lt_irrefl), if_pos rfl]
section Lc
variable {T : MM → Bk → Prop} {μ : MM} {A : AS}
theorem RM.cl {ν : MM} (h : RM μ A) (f : Fr CL μ ν) : RM ν A := h.fr f fun q i a b c => by unfold CL at c; omega
theorem RM.o {ν : MM} (h : RM μ A) (f : Fr (fun q _ => q = 532) μ ν) : RM ν A := h.fr f fun q i a b c => by omega
theorem RC.o (hT : TF T) {ν : MM} (h : RC T μ A) (f : Fr (fun q _ => q = 532) μ ν) : RC T ν A := h.fr hT f fun q i a b => by omega
theorem RC.ml (hT : TF T) {ν : MM} (h : RC T μ A) (f : Fr ML μ ν) : RC T ν A := h.fr hT f fun q i a b => by unfold ML at b; omega
theorem LB_ok (hT : TF T) {wc : String → Option Int32} {F : xH → Option ((Int32 ⊕ String) × xH)} {G : xH → Option (Int32 × xH)} {S : (Int32 ⊕ String) → AS → Prop} (hR : RM μ A) (hU : UQ S)
    (hC : CX T μ (F (mem μ)) S) (hM : ∀ ν, RM ν A → MX ν (G (mem ν)) wc S) : OKc T μ (LB wc F G) := by
  obtain ⟨x, ν, A', e1, f1, r1, ok, s1⟩ := hC
  have m1 := hR.cl f1
  cases x with
  | inl v =>
    let ν' := sj ν 532 0 v.toInt64
    have f2 : Fr (fun q _ => q = 532) ν ν' := (Fr.refl (fun q _ => q = 532) ν).sj rfl
    obtain ⟨b, y, ξ, A'', e2, f3, m3, s2, mo⟩ := hM ν' (m1.o f2)
    obtain ⟨rfl, rfl⟩ := hU _ _ _ _ s1 s2
    obtain ⟨t0, t1⟩ := mo
    rw [t1] at e2
    have eo : sJ (mem ν) 532 0 v.toInt64 = some (mem ν') := sJ_532 (i := 0) (by omega)
    have ea : aJ (mem ξ) 532 0 = some v.toInt64 := by
      rw [show aJ (mem ξ) 532 0 = some (ξ.2 532 0) from aJ_532 (i := 0) (by omega), (f3 532 0 (by unfold ML; omega)).2]
      exact congrArg some (sj_same _ _ _ _)
    refine ⟨ξ, 0, by omega, ⟨A', ok, (r1.o hT f2).ml hT f3, m3⟩, fun K i ex => ?_⟩
    simp only [LB, vc_0, vc_168, e1, Option.bind_some, wrp, eo, e2, f_X10_thrown, gI_168_0, t0, if_true, ea, lg_refl]
  | inr E =>
    obtain ⟨b, y, ξ, A'', e2, f3, m3, s2, mo⟩ := hM ν m1
    obtain ⟨rfl, rfl⟩ := hU _ _ _ _ s1 s2
    obtain ⟨c, w1, w2, w3⟩ := mo
    refine ⟨ξ, 1, by omega, ⟨A', ok, r1.ml hT f3, m3⟩, fun K i ex => ?_⟩
    simp only [LB, vc_0, vc_168, e1, Option.bind_some, wrp, w1, e2, f_X10_thrown, gI_168_0, w3, if_true, if_neg w2]
/-- a case without one -/
def LI (F G : xH → Option (Int32 × xH)) (K : Int32 → xH → Nat → Option (Int32 × xH × Nat)) (i : Int32) (h : xH) (ex : Nat) : Option (Int32 × xH × Nat) :=
  (vc h 9 0 (F h)).bind fun r1 =>
  (vc r1.2 10 168 (G r1.2)).bind fun r2 =>
  if r1.1 = r2.1 then
    K i r2.2 ex
  else
    some ((0 : Int32), r2.2, ex)
def LJ (F G : xH → Option (Int64 × xH)) (K : Int32 → xH → Nat → Option (Int32 × xH × Nat)) (i : Int32) (h : xH) (ex : Nat) : Option (Int32 × xH × Nat) :=
  (vc h 9 0 (F h)).bind fun r1 =>
  (vc r1.2 10 168 (G r1.2)).bind fun r2 =>
  if (lg_cmp r1.1 r2.1) = (0 : Int32) then
    K i r2.2 ex
  else
    some ((0 : Int32), r2.2, ex)
theorem LI_ok (hT : TF T) {F G : xH → Option (Int32 × xH)} {S : Int32 → AS → Prop} (hR : RM μ A) (hU : UQ S)
    (hC : ∃ x ν A', F (mem μ) = some (x, mem ν) ∧ Fr CL μ ν ∧ RC T ν A' ∧ AOK A' ∧ S x A') (hM : ∀ ν, RM ν A → ∃ x ξ A', G (mem ν) = some (x, mem ξ) ∧ Fr ML ν ξ ∧ RM ξ A' ∧ S x A') : OKc T μ (LI F G) := by
  obtain ⟨x, ν, A', e1, f1, r1, ok, s1⟩ := hC
  obtain ⟨y, ξ, A'', e2, f3, m3, s2⟩ := hM ν (hR.cl f1)
  obtain ⟨rfl, rfl⟩ := hU _ _ _ _ s1 s2
  refine ⟨ξ, 0, by omega, ⟨A', ok, r1.ml hT f3, m3⟩, fun K i ex => ?_⟩
  simp only [LI, vc_0, vc_168, e1, Option.bind_some, e2, if_true, Nat.add_zero]
theorem LJ_ok (hT : TF T) {F G : xH → Option (Int64 × xH)} {S : Int64 → AS → Prop} (hR : RM μ A) (hU : UQ S)
    (hC : ∃ x ν A', F (mem μ) = some (x, mem ν) ∧ Fr CL μ ν ∧ RC T ν A' ∧ AOK A' ∧ S x A') (hM : ∀ ν, RM ν A → ∃ x ξ A', G (mem ν) = some (x, mem ξ) ∧ Fr ML ν ξ ∧ RM ξ A' ∧ S x A') : OKc T μ (LJ F G) := by
  obtain ⟨x, ν, A', e1, f1, r1, ok, s1⟩ := hC
  obtain ⟨y, ξ, A'', e2, f3, m3, s2⟩ := hM ν (hR.cl f1)
  obtain ⟨rfl, rfl⟩ := hU _ _ _ _ s1 s2
  refine ⟨ξ, 0, by omega, ⟨A', ok, r1.ml hT f3, m3⟩, fun K i ex => ?_⟩
  simp only [LJ, vc_0, vc_168, e1, Option.bind_some, e2, lg_refl, if_true, Nat.add_zero]
/-- refusals -/
theorem CX.p (hT : TF T) (h : RC T μ A) (hA : AOK A) : ∃ ν, f_X9_demandPlace 0 0 (mem μ) = some (.inr NSE, mem ν) ∧ Fr CL μ ν ∧ RC T ν (refP A) := by
  have f2 : Fr (fun q i => q = 0 ∧ i = 10) μ (st μ 0 10 (μ.1 0 10 + 1)) := (Fr.refl _ _).st ⟨rfl, rfl⟩
  refine ⟨st μ 0 10 (μ.1 0 10 + 1), ?_, f2.mono fun q i z => by unfold CL; omega, ?_⟩
  · simp only [f_X9_demandPlace, if_true, vc_0, gR_0_0, gR_0_1, gR_0_2, gR_0_3, gR_0_4, gR_0_5, gR_0_6, gR_0_7, gR_0_8, gI_0_9, pI_0_9, gI_0_10, pI_0_10, gI_0_11, pI_0_11, Option.bind_some]
    rfl
  · obtain ⟨h1, h2, ⟨h3, h4⟩, h5, h6, h7, h8⟩ := h
    refine ⟨h1.fr f2 fun q i a c z => by omega, h2.fr f2 fun q i a => by unfold FH at a; omega, ⟨?_, fun k hk => ?_⟩, ?_, ?_, ?_, ?_⟩
    · rw [(f2 _ _ (by omega)).1]; exact h3
    · rw [(f2 _ _ (by omega)).1]; exact h4 k hk
    · rw [(f2 _ _ (by omega)).1]; exact h5
    · rw [st_same, h6]; rfl
    · rw [(f2 _ _ (by omega)).1]; exact h7
    · rw [(f2 _ _ (by omega)).1]
      exact h8.imp id fun z => ⟨z.1, hT _ _ _ (fun i => f2 _ _ (by omega)) (fun i => (f2 _ _ (by omega)).1) z.2⟩
theorem CX.a (hT : TF T) (h : RC T μ A) (hA : AOK A) : ∃ ν, f_X9_demand 0 0 (mem μ) = some (.inr IAE, mem ν) ∧ Fr CL μ ν ∧ RC T ν (refA A) := by
  have f2 : Fr (fun q i => q = 0 ∧ i = 11) μ (st μ 0 11 (μ.1 0 11 + 1)) := (Fr.refl _ _).st ⟨rfl, rfl⟩
  refine ⟨st μ 0 11 (μ.1 0 11 + 1), ?_, f2.mono fun q i z => by unfold CL; omega, ?_⟩
  · simp only [f_X9_demand, if_true, vc_0, gR_0_0, gR_0_1, gR_0_2, gR_0_3, gR_0_4, gR_0_5, gR_0_6, gR_0_7, gR_0_8, gI_0_9, pI_0_9, gI_0_10, pI_0_10, gI_0_11, pI_0_11, Option.bind_some]
    rfl
  · obtain ⟨h1, h2, ⟨h3, h4⟩, h5, h6, h7, h8⟩ := h
    refine ⟨h1.fr f2 fun q i a c z => by omega, h2.fr f2 fun q i a => by unfold FH at a; omega, ⟨?_, fun k hk => ?_⟩, ?_, ?_, ?_, ?_⟩
    · rw [(f2 _ _ (by omega)).1]; exact h3
    · rw [(f2 _ _ (by omega)).1]; exact h4 k hk
    · rw [(f2 _ _ (by omega)).1]; exact h5
    · rw [(f2 _ _ (by omega)).1]; exact h6
    · rw [st_same, h7]; rfl
    · rw [(f2 _ _ (by omega)).1]
      exact h8.imp id fun z => ⟨z.1, hT _ _ _ (fun i => f2 _ _ (by omega)) (fun i => (f2 _ _ (by omega)).1) z.2⟩
theorem c_dp1 {h : xH} : f_X9_demandPlace 0 1 h = some (.inl (), h) := by
  have : ¬ ((1 : Int32) = 0) := by decide
  simp only [f_X9_demandPlace, if_neg this]
theorem c_da1 {h : xH} : f_X9_demand 0 1 h = some (.inl (), h) := by
  have : ¬ ((1 : Int32) = 0) := by decide
  simp only [f_X9_demand, if_neg this]
/-- refused, in the words of a case -/
def SP (A : AS) (x : Int32 ⊕ String) (A' : AS) : Prop := x = .inr NSE ∧ A' = refP A
def SA (A : AS) (x : Int32 ⊕ String) (A' : AS) : Prop := x = .inr IAE ∧ A' = refA A
theorem SP.uq : UQ (SP A) := fun _ _ _ _ h h' => ⟨h.1.trans h'.1.symm, h.2.trans h'.2.symm⟩
theorem SA.uq : UQ (SA A) := fun _ _ _ _ h h' => ⟨h.1.trans h'.1.symm, h.2.trans h'.2.symm⟩
/-- an answer without a change -/
def SV (A : AS) (v : Int32) (x : Int32 ⊕ String) (A' : AS) : Prop := x = .inl v ∧ A' = A
theorem SV.uq {v : Int32} : UQ (SV A v) := fun _ _ _ _ h h' => ⟨h.1.trans h'.1.symm, h.2.trans h'.2.symm⟩
/-- the act's answer, and what KEEP makes of the book -/
def SK (A : AS) (v : Int32) (B : Bk) (x : Int32 ⊕ String) (A' : AS) : Prop := x = .inl v ∧ ∃ B', Kp B B' ∧ A' = wAct A B'
theorem SK.uq {v : Int32} {B : Bk} : UQ (SK A v B) := fun _ _ _ _ h h' => by
  obtain ⟨h1, B1, h2, h3⟩ := h
  obtain ⟨g1, B2, g2, g3⟩ := h'
  exact ⟨h1.trans g1.symm, by rw [h3, g3, Kp.uniq h2 g2]⟩
theorem inN_iff {n : Nat} {x : Int32} (hn : n < 2147483648) : (0 ≤ x ∧ x < Int32.ofNat n) ↔ ∃ k, k < n ∧ x = Int32.ofNat k := by
  rcases i32_cases x with h | ⟨k, hk, rfl⟩
  · constructor
    · rintro ⟨a, _⟩; exact absurd h (Int32.not_lt.mpr a)
    · rintro ⟨k, hk, rfl⟩
      rw [oN_l0 (by omega)] at h; exact h.elim
  · rw [oN_lt hk hn]
    constructor
    · rintro ⟨_, b⟩; exact ⟨k, b, rfl⟩
    · rintro ⟨j, hj, e⟩
      rw [oN_inj hk (by omega)] at e
      subst e
      exact ⟨Int32.not_lt.mp (by rw [oN_l0 hk]; exact id), hj⟩
/-- a side and a place of it -/
def KN (B : Bk) (s x : Int32) : Prop := (s = 0 ∧ 0 ≤ x ∧ x < Int32.ofNat (bn B)) ∨ (s = 1 ∧ 0 ≤ x ∧ x < Int32.ofNat (bm B))
end Lc
