/-! OPERATIONS: helpers; fault partner cost most way -/
variable {Ξ : xH}
theorem pb_dec {p : Prop} [Decidable p] : decide p = pb p := by
  rw [Bool.eq_iff_iff, decide_eq_true_eq, pb_t]
theorem pb_f {p : Prop} (h : ¬ p) : pb p = false := by
  cases e : pb p with
  | false => rfl
  | true => exact absurd (pb_t.mp e) h
theorem pb_1 {p : Prop} (h : p) : pb p = true := pb_t.mpr h
def bP (μ : MM) (w : Int32) : MM := st (st μ 168 0 w) 169 0 (μ.1 169 0 + 1)
def bA (μ : MM) (w : Int32) : MM := st (st μ 168 0 w) 169 1 (μ.1 169 1 + 1)
def tz (μ : MM) : MM := st μ 168 0 0
section Oh
variable {T : MM → Bk → Prop} {μ : MM} {A : AS}
theorem t0_0 : (tz μ).1 168 0 = 0 := st_same _ _ _ _
theorem t0_F : Fr (fun q i => q = 168 ∧ i = 0) μ (tz μ) := (Fr.refl _ _).st ⟨rfl, rfl⟩
theorem bP_0 {ν : MM} {w : Int32} : (bP ν w).1 168 0 = w := by unfold bP; rw [st_ne (Or.inl (by omega)), st_same]
theorem bA_0 {ν : MM} {w : Int32} : (bA ν w).1 168 0 = w := by unfold bA; rw [st_ne (Or.inl (by omega)), st_same]
/-- a place refused -/
theorem CX_P (hT : TF T) (h : RC T μ A) (hA : AOK A) {o : Option ((Int32 ⊕ String) × xH)} (e : ∀ h', f_X9_demandPlace 0 0 ((mX Ξ) μ) = some (.inr NSE, h') → o = some (.inr NSE, h')) : CX Ξ T μ o (SP A) := by
  intro hl
  obtain ⟨ν, e1, f, r⟩ := CX.p hT h hA hl
  exact ⟨.inr NSE, ν, _, [(12, dX)], e _ e1, ⟨Nat.le_refl 1, fun c z => by rw [List.mem_singleton.mp z]; simp [dX]⟩, f, r, refP_ok hA, rfl, rfl⟩
theorem CX_A (hT : TF T) (h : RC T μ A) (hA : AOK A) {o : Option ((Int32 ⊕ String) × xH)} (e : ∀ h', f_X9_demand 0 0 ((mX Ξ) μ) = some (.inr IAE, h') → o = some (.inr IAE, h')) : CX Ξ T μ o (SA A) := by
  intro hl
  obtain ⟨ν, e1, f, r⟩ := CX.a hT h hA hl
  exact ⟨.inr IAE, ν, _, [(11, dX)], e _ e1, ⟨Nat.le_refl 1, fun c z => by rw [List.mem_singleton.mp z]; simp [dX]⟩, f, r, refA_ok hA, rfl, rfl⟩
/-- an answer without a change of what counts -/
theorem CX_V (hT : TF T) (h : RC T μ A) (hA : AOK A) {o : Option ((Int32 ⊕ String) × xH)} {v : Int32} {ν : MM} (e : o = some (.inl v, (mX Ξ) ν)) (f : Fr CQ μ ν) : CX Ξ T μ o (SV A v) :=
  CX.of (.inl v) ν A ⟨e, f.mono fun _ _ z => z.L, h.fr hT f fun q i _ z => Or.inl z, hA, rfl, rfl⟩
theorem c_kn {b : Nat} {B : Bk} (hk : bkOK shI b = true) (h : BC μ b B) (hB : BOK B) (s x : Int32) : f_X0_knows b s x ((mX Ξ) μ) = some (bI (pb (KN B s x)), (mX Ξ) μ) := by
  rw [c_knows hk h hB, pb_dec]; rfl
theorem c_kb {b : Nat} {B : Bk} (hk : bkOK shI b = true) (h : BC μ b B) (hB : BOK B) (x y : Int32) : f_X0_knowsBoth b x y ((mX Ξ) μ) = some (bI (pb (KN B 0 x) && pb (KN B 1 y)), (mX Ξ) μ) := by
  cases e : pb (KN B 0 x) <;> cases e2 : pb (KN B 1 y) <;> simp only [f_X0_knowsBoth, f_X0_knowsBoth_J23, f_X0_knowsBoth_J22, bk_v hk, c_kn hk h hB, e, e2, bI_0, Option.bind_some, if_true, if_false, Bool.true_eq_false, z_0, z_1, z_2, true_or, or_true] <;> rfl
theorem KN.c {B : Bk} (hB : BOK B) {s x : Int32} (h : KN B s x) : (s = 0 ∧ ∃ k, k < bn B ∧ k < 12 ∧ x = Int32.ofNat k) ∨ (s = 1 ∧ ∃ k, k < bm B ∧ k < 12 ∧ x = Int32.ofNat k) := by
  have h2 := hB.n
  have h4 := hB.m
  rcases h with ⟨a, b⟩ | ⟨a, b⟩
  · obtain ⟨k, hk, e⟩ := (inN_iff (by omega)).mp b
    exact Or.inl ⟨a, k, hk, by omega, e⟩
  · obtain ⟨k, hk, e⟩ := (inN_iff (by omega)).mp b
    exact Or.inr ⟨a, k, hk, by omega, e⟩
theorem KN.w {B : Bk} (hB : BOK B) {x : Int32} (h : KN B 0 x) : ∃ k, k < bn B ∧ k < 12 ∧ x = Int32.ofNat k := by
  rcases h.c hB with ⟨-, q⟩ | ⟨q, -⟩
  · exact q
  · exact absurd q (by decide)
theorem KN.t {B : Bk} (hB : BOK B) {x : Int32} (h : KN B 1 x) : ∃ k, k < bm B ∧ k < 12 ∧ x = Int32.ofNat k := by
  rcases h.c hB with ⟨q, -⟩ | ⟨-, q⟩
  · exact absurd q (by decide)
  · exact q
end Oh
section O1
variable {T : MM → Bk → Prop} {μ : MM} {A : AS}
end O1
