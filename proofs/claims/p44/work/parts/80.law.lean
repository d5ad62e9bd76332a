/-! THE LAW'S CASES: class and model answer alike -/
variable {Ξ : xH}
def CX (Ξ : xH) (T : MM → Bk → Prop) (μ : MM) (o : Option ((Int32 ⊕ String) × xH)) (S : (Int32 ⊕ String) → AS → Prop) : Prop :=
  (shI ++ Ξ).length + 1 < 1000000 → ∃ x ν A' Δ, o = some (x, mX (Ξ ++ Δ) ν) ∧ (Δ.length ≤ 1 ∧ ∀ c, c ∈ Δ → c.2.length ≤ 24) ∧ Fr CL μ ν ∧ RC T ν A' ∧ AOK A' ∧ S x A'
theorem CX.of {Ξ : xH} {T : MM → Bk → Prop} {μ : MM} {o : Option ((Int32 ⊕ String) × xH)} {S : (Int32 ⊕ String) → AS → Prop} (x : Int32 ⊕ String) (ν : MM) (A' : AS) (h : o = some (x, (mX Ξ) ν) ∧ Fr CL μ ν ∧ RC T ν A' ∧ AOK A' ∧ S x A') : CX Ξ T μ o S :=
  fun _ => ⟨x, ν, A', [], by rw [List.append_nil]; exact h.1, ⟨Nat.zero_le 1, fun c z => nomatch z⟩, h.2⟩
theorem mS_dX {sh : xH} {μ : MM} {k : Nat} : mS (sh ++ [(k, dX)]) μ = mS sh μ ++ [(k, dX)] := by
  apply List.ext_getElem?
  intro q
  rw [mem_at]
  by_cases z : q < sh.length
  · rw [List.getElem?_append_left z, List.getElem?_append_left (by rw [mS_len]; exact z), mem_at]
  · rw [List.getElem?_append_right (by omega), List.getElem?_append_right (by rw [mS_len]; omega), mS_len]
    cases q - sh.length with
    | zero => rfl
    | succ n => rfl
theorem nwD_X {Ξ : xH} {μ : MM} {k : Nat} (h : (shI ++ Ξ).length + 1 < 1000000) : nwD ((mX Ξ) μ) k = some (mX (Ξ ++ [(k, dX)]) μ) := by
  unfold nwD
  rw [if_pos (show (mS (shI ++ Ξ) μ).length + 1 < 1000000 by rw [mS_len]; exact h)]
  show some (mS (shI ++ Ξ) μ ++ [(k, dX)]) = some (mS (shI ++ (Ξ ++ [(k, dX)])) μ)
  rw [← List.append_assoc, mS_dX]
def UQ {α : Type} (S : α → AS → Prop) : Prop := ∀ x A' y A'', S x A' → S y A'' → x = y ∧ A' = A''
theorem lg_refl (v : Int64) : lg_cmp v v = 0 := by
  unfold lg_cmp
  rw [if_neg (show ¬ v > v from Int64.lt_irrefl), if_pos rfl]
section Lc
variable {T : MM → Bk → Prop} {μ : MM} {A : AS}
/-- refusals -/
theorem CX.p (hT : TF T) (h : RC T μ A) (hA : AOK A) (hl : (shI ++ Ξ).length + 1 < 1000000) : ∃ ν, f_X9_demandPlace 0 0 ((mX Ξ) μ) = some (.inr NSE, mX (Ξ ++ [(12, dX)]) ν) ∧ Fr CL μ ν ∧ RC T ν (refP A) := by
  have f2 : Fr (fun q i => q = 0 ∧ i = 10) μ (st μ 0 10 (μ.1 0 10 + 1)) := (Fr.refl _ _).st ⟨rfl, rfl⟩
  refine ⟨st μ 0 10 (μ.1 0 10 + 1), ?_, f2.mono fun q i z => by unfold CL; omega, ?_⟩
  · simp only [f_X9_demandPlace, if_true, vc_0, gR_0_0, gR_0_1, gR_0_2, gR_0_3, gR_0_4, gR_0_5, gR_0_6, gR_0_7, gR_0_8, gI_0_9, pI_0_9, gI_0_10, pI_0_10, gI_0_11, pI_0_11, Option.bind_some, nwD_X hl]
    rfl
  · obtain ⟨h1, h2, ⟨h3, h4⟩, h5, h6, h7, h8⟩ := h
    refine ⟨h1.fr f2 fun q i a c z => by omega, h2.fr f2 fun q i a => by unfold FH at a; omega, ⟨?_, fun k hk => ?_⟩, ?_, ?_, ?_, ?_⟩
    · rw [(f2 _ _ (by omega)).1]; exact h3
    · rw [(f2 _ _ (by omega)).1]; exact h4 k hk
    · rw [(f2 _ _ (by omega)).1]; exact h5
    · rw [st_same, h6]; rfl
    · rw [(f2 _ _ (by omega)).1]; exact h7
    · rw [(f2 _ _ (by omega)).1]
      exact h8.imp id fun z => ⟨z.1, hT _ _ _ (fun i => f2 _ _ (by omega)) (fun i => (f2 _ _ (by omega)).1) z.2⟩
theorem CX.a (hT : TF T) (h : RC T μ A) (hA : AOK A) (hl : (shI ++ Ξ).length + 1 < 1000000) : ∃ ν, f_X9_demand 0 0 ((mX Ξ) μ) = some (.inr IAE, mX (Ξ ++ [(11, dX)]) ν) ∧ Fr CL μ ν ∧ RC T ν (refA A) := by
  have f2 : Fr (fun q i => q = 0 ∧ i = 11) μ (st μ 0 11 (μ.1 0 11 + 1)) := (Fr.refl _ _).st ⟨rfl, rfl⟩
  refine ⟨st μ 0 11 (μ.1 0 11 + 1), ?_, f2.mono fun q i z => by unfold CL; omega, ?_⟩
  · simp only [f_X9_demand, if_true, vc_0, gR_0_0, gR_0_1, gR_0_2, gR_0_3, gR_0_4, gR_0_5, gR_0_6, gR_0_7, gR_0_8, gI_0_9, pI_0_9, gI_0_10, pI_0_10, gI_0_11, pI_0_11, Option.bind_some, nwD_X hl]
    rfl
  · obtain ⟨h1, h2, ⟨h3, h4⟩, h5, h6, h7, h8⟩ := h
    refine ⟨h1.fr f2 fun q i a c z => by omega, h2.fr f2 fun q i a => by unfold FH at a; omega, ⟨?_, fun k hk => ?_⟩, ?_, ?_, ?_, ?_⟩
    · rw [(f2 _ _ (by omega)).1]; exact h3
    · rw [(f2 _ _ (by omega)).1]; exact h4 k hk
    · rw [(f2 _ _ (by omega)).1]; exact h5
    · rw [(f2 _ _ (by omega)).1]; exact h6
    · rw [st_same, h7]; rfl
    · rw [(f2 _ _ (by omega)).1]
      exact h8.imp id fun z => ⟨z.1, hT _ _ _ (fun i => f2 _ _ (by omega)) (fun i => (f2 _ _ (by omega)).1) z.2⟩
theorem c_dp1 {h : xH} : f_X9_demandPlace 0 1 h = some (.inl (), h) := by
  have : ¬ ((1 : Int32) = 0) := by decide
  simp only [f_X9_demandPlace, if_neg this]
theorem c_da1 {h : xH} : f_X9_demand 0 1 h = some (.inl (), h) := by
  have : ¬ ((1 : Int32) = 0) := by decide
  simp only [f_X9_demand, if_neg this]
/-- refused, in the words of a case -/
def SP (A : AS) (x : Int32 ⊕ String) (A' : AS) : Prop := x = .inr NSE ∧ A' = refP A
def SA (A : AS) (x : Int32 ⊕ String) (A' : AS) : Prop := x = .inr IAE ∧ A' = refA A
theorem SP.uq : UQ (SP A) := fun _ _ _ _ h h' => ⟨h.1.trans h'.1.symm, h.2.trans h'.2.symm⟩
theorem SA.uq : UQ (SA A) := fun _ _ _ _ h h' => ⟨h.1.trans h'.1.symm, h.2.trans h'.2.symm⟩
/-- an answer without a change -/
def SV (A : AS) (v : Int32) (x : Int32 ⊕ String) (A' : AS) : Prop := x = .inl v ∧ A' = A
theorem SV.uq {v : Int32} : UQ (SV A v) := fun _ _ _ _ h h' => ⟨h.1.trans h'.1.symm, h.2.trans h'.2.symm⟩
/-- the act's answer, and what KEEP makes of the book -/
def SK (A : AS) (v : Int32) (B : Bk) (x : Int32 ⊕ String) (A' : AS) : Prop := x = .inl v ∧ ∃ B', Kp B B' ∧ A' = wAct A B'
theorem SK.uq {v : Int32} {B : Bk} : UQ (SK A v B) := fun _ _ _ _ h h' => by
  obtain ⟨h1, B1, h2, h3⟩ := h
  obtain ⟨g1, B2, g2, g3⟩ := h'
  exact ⟨h1.trans g1.symm, by rw [h3, g3, Kp.uniq h2 g2]⟩
theorem inN_iff {n : Nat} {x : Int32} (hn : n < 2147483648) : (0 ≤ x ∧ x < Int32.ofNat n) ↔ ∃ k, k < n ∧ x = Int32.ofNat k := by
  rcases i32_cases x with h | ⟨k, hk, rfl⟩
  · constructor
    · rintro ⟨a, _⟩; exact absurd h (Int32.not_lt.mpr a)
    · rintro ⟨k, hk, rfl⟩
      rw [oN_l0 (by omega)] at h; exact h.elim
  · rw [oN_lt hk hn]
    constructor
    · rintro ⟨_, b⟩; exact ⟨k, b, rfl⟩
    · rintro ⟨j, hj, e⟩
      rw [oN_inj hk (by omega)] at e
      subst e
      exact ⟨Int32.not_lt.mp (by rw [oN_l0 hk]; exact id), hj⟩
/-- a side and a place of it -/
def KN (B : Bk) (s x : Int32) : Prop := (s = 0 ∧ 0 ≤ x ∧ x < Int32.ofNat (bn B)) ∨ (s = 1 ∧ 0 ≤ x ∧ x < Int32.ofNat (bm B))
end Lc
