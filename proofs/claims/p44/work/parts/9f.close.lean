/-! THE CLASS: rings; the kind of a fit -/
variable {Ξ : xH}
/-- ways in D with all between below k -/
def Wk (E : Nat → Nat → Bool) (M : Nat → Nat) : Nat → Nat → Nat → Prop
  | 0, i, j => D1 E M i j
  | k + 1, i, j => Wk E M k i j ∨ (Wk E M k i k ∧ Wk E M k k j)
section Wa
variable {E : Nat → Nat → Bool} {M : Nat → Nat}
theorem Dr.trans {i m j : Nat} (h : Dr E M i m) (h' : Dr E M m j) : Dr E M i j := by
  obtain ⟨a, h⟩ := h
  obtain ⟨b, h'⟩ := h'
  induction b generalizing j with
  | zero => exact ⟨a + 1, m, h, h'⟩
  | succ b ih =>
    obtain ⟨l, g, g'⟩ := h'
    obtain ⟨c, e⟩ := ih g
    exact ⟨c + 1, l, e, g'⟩
theorem Wk.dr : ∀ {k i j : Nat}, Wk E M k i j → Dr E M i j
  | 0, _, _, h => ⟨0, h⟩
  | k + 1, _, _, h => by
    rcases h with h | ⟨h1, h2⟩
    · exact h.dr
    · exact h1.dr.trans h2.dr
theorem Wk.tr : ∀ {k i m j : Nat}, m < k → Wk E M k i m → Wk E M k m j → Wk E M k i j
  | 0, _, _, _, h, _, _ => absurd h (Nat.not_lt_zero _)
  | k + 1, i, m, j, hm, h1, h2 => by
    by_cases c : m = k
    · subst c
      have a : Wk E M m i m := h1.elim id fun z => z.1
      have b : Wk E M m m j := h2.elim id fun z => z.2
      exact Or.inr ⟨a, b⟩
    · have hm : m < k := by omega
      rcases h1 with a | ⟨a, b⟩
      · rcases h2 with c | ⟨c, d⟩
        · exact Or.inl (Wk.tr hm a c)
        · exact Or.inr ⟨Wk.tr hm a c, d⟩
      · rcases h2 with c | ⟨c, d⟩
        · exact Or.inr ⟨a, Wk.tr hm b c⟩
        · exact Or.inr ⟨a, d⟩
theorem Wk.up : ∀ {k i j : Nat}, D1 E M i j → Wk E M k i j
  | 0, _, _, h => h
  | _ + 1, _, _, h => Or.inl (Wk.up h)
theorem Wk.lt : ∀ {k i j : Nat}, Wk E M k i j → j < 12
  | 0, _, _, h => h.1
  | _ + 1, _, _, h => h.elim Wk.lt fun z => z.2.lt
theorem Wk.all {i j : Nat} : Wk E M 12 i j ↔ Dr E M i j := by
  refine ⟨Wk.dr, ?_⟩
  rintro ⟨k, h⟩
  induction k generalizing j with
  | zero => exact Wk.up h
  | succ k ih =>
    obtain ⟨m, a, b⟩ := h
    have := ih a
    exact Wk.tr this.lt this (Wk.up b)
theorem Wk.self {k j : Nat} : Wk E M (k + 1) k j ↔ Wk E M k k j := ⟨fun h => h.elim id fun z => z.2, Or.inl⟩
end Wa
section Cls
variable {μ : MM} {n m : Nat} {Wt Tt : Int32} {E : Nat → Nat → Bool} {M : Nat → Nat}
theorem c_cl_in (hp : PR μ 142 M) {i : Nat} (hi : i < 12) {op : Int32} (hop : ∀ k, hb op k = true → k < 12) : ∀ (k s : Nat) (ν : MM), s + k = 12 → Fr (fun q j => q = 150 ∧ j = i) μ ν → (∀ j, hb (ν.1 150 i) j = true ↔ (j < 12 ∧ ∃ x, x < s ∧ hb op x = true ∧ ow M x = j)) →
    ∃ ξ, (∀ f K, f_X5_close_L54 K (k + 1 + f) 149 141 (Int32.ofNat i) op (Int32.ofNat s) ((mX Ξ) ν) = K 149 141 (Int32.ofNat i) ((mX Ξ) ξ)) ∧ Fr (fun q j => q = 150 ∧ j = i) μ ξ ∧ ∀ j, hb (ξ.1 150 i) j = true ↔ (j < 12 ∧ ∃ x, hb op x = true ∧ ow M x = j)
  | 0, s, ν, h, f, g => by
    have c : (Int32.ofNat s ≥ 12) = True := by rw [lge_12 (by omega)]; exact eq_true (by omega)
    refine ⟨ν, fun e K => ?_, f, fun j => ?_⟩
    · rw [show 0 + 1 + e = e + 1 by omega]
      simp only [f_X5_close_L54, c, ↓reduceIte]
    · rw [g j]
      exact ⟨fun ⟨a, x, b, d⟩ => ⟨a, x, d⟩, fun ⟨a, x, d⟩ => ⟨a, x, by have := hop x d.1; omega, d⟩⟩
  | k + 1, s, ν, h, f, g => by
    have c : (Int32.ofNat s ≥ 12) = False := by rw [lge_12 (by omega)]; exact eq_false (by omega)
    by_cases z : op = 0
    · refine ⟨ν, fun e K => ?_, f, fun j => ?_⟩
      · rw [show k + 1 + 1 + e = (k + 1 + e) + 1 by omega]
        simp only [f_X5_close_L54, c, ↓reduceIte, z]
      · rw [g j]
        have n : ∀ x, hb op x = false := fun x => by rw [z, hb_zero]
        exact ⟨fun ⟨a, x, b, d⟩ => ⟨a, x, d⟩, fun ⟨a, x, d⟩ => by rw [n x] at d; cases d.1⟩
    · have z' : (op = 0) = False := eq_false z
      have hs : s < 12 := by omega
      have hp2 : PR ν 142 M := hp.fr f (fun i z => by omega) (fun i z => by omega)
      have ew := c_workerOf (Ξ := Ξ) pr142 hp2 hs
      have eh := c_has (x := op) (h := (mX Ξ) ν) (show s < 32 by omega)
      cases q : hb op s with
      | false =>
        rw [q] at eh
        obtain ⟨ξ, e, r⟩ := c_cl_in hp hi hop k (s + 1) ν (by omega) f (fun j => by
          rw [g j]
          refine ⟨fun ⟨a, x, b, d⟩ => ⟨a, x, by omega, d⟩, fun ⟨a, x, b, d⟩ => ⟨a, x, ?_, d⟩⟩
          have : x ≠ s := fun y => by rw [y, q] at d; cases d.1
          omega)
        refine ⟨ξ, fun e' K => ?_, r⟩
        rw [show k + 1 + 1 + e' = (k + 1 + e') + 1 by omega, ← e e' K]
        simp only [f_X5_close_L54, f_X5_close_J107, c, z', ↓reduceIte, ↓hbind gR_141_0, ↓hvc (fun _ => pr_v pr142), ↓hbind ew, ↓hbind eh, show bI false = 0 from rfl, lt, i_succ]
      | true =>
        rw [q] at eh
        by_cases o : ow M s < 12
        · rw [eI_lt o] at ew
          have nz : (Int32.ofNat (ow M s) = -1) = False := oN_n1 (by omega)
          obtain ⟨ξ, e, r⟩ := c_cl_in hp hi hop k (s + 1) (st ν 150 i (ν.1 150 i ||| ((1 : Int32) <<< (Int32.ofNat (ow M s) &&& 31)))) (by omega) (f.st ⟨rfl, rfl⟩) (fun j => by
            rw [st_same, hb_or, hb_bit j (by omega), Bool.or_eq_true, decide_eq_true_eq, g j]
            constructor
            · rintro (⟨a, x, b, d⟩ | b)
              · exact ⟨a, x, by omega, d⟩
              · exact ⟨by omega, s, by omega, q, b.symm⟩
            · rintro ⟨a, x, b, d, e⟩
              by_cases y : x = s
              · exact Or.inr (by rw [← e, y])
              · exact Or.inl ⟨a, x, by omega, d, e⟩)
          refine ⟨ξ, fun e' K => ?_, r⟩
          rw [show k + 1 + 1 + e' = (k + 1 + e') + 1 by omega, ← e e' K]
          simp only [f_X5_close_L54, f_X5_close_J107, c, z', ↓reduceIte, ↓hbind gR_141_0, ↓hvc (fun _ => pr_v pr142), ↓hbind ew, ↓hbind eh, show bI true = 1 from rfl, z_1, nz, ↓hbind gR_149_4, ↓hbind (aI_150 hi), ↓hbind c_bit, ↓hbind (sI_150 hi), lt, i_succ]
        · rw [eI_ge (by omega)] at ew
          obtain ⟨ξ, e, r⟩ := c_cl_in hp hi hop k (s + 1) ν (by omega) f (fun j => by
            rw [g j]
            refine ⟨fun ⟨a, x, b, d⟩ => ⟨a, x, by omega, d⟩, fun ⟨a, x, b, d⟩ => ⟨a, x, ?_, d⟩⟩
            have : x ≠ s := fun y => by rw [y] at d; omega
            omega)
          refine ⟨ξ, fun e' K => ?_, r⟩
          rw [show k + 1 + 1 + e' = (k + 1 + e') + 1 by omega, ← e e' K]
          simp only [f_X5_close_L54, f_X5_close_J107, c, z', ↓reduceIte, ↓hbind gR_141_0, ↓hvc (fun _ => pr_v pr142), ↓hbind ew, ↓hbind eh, show bI true = 1 from rfl, z_1, n1_n1, lt, i_succ]
/-- one worker's row of D -/
theorem c_cl_row (hS : SR μ n m Wt Tt E M) (hE : Eb E) {i : Nat} (hi : i < 12) : ∃ ξ, (∀ f K, f_X5_close_L2 K (f + 1) 149 141 (Int32.ofNat i) ((mX Ξ) μ) = f_X5_close_L2 K f 149 141 (Int32.ofNat (i + 1)) ((mX Ξ) ξ)) ∧ Fr (fun q j => q = 150 ∧ j = i) μ ξ ∧ ∀ j, hb (ξ.1 150 i) j = true ↔ D1 E M i j := by
  have c : (Int32.ofNat i ≥ 12) = False := by rw [lge_12 (by omega)]; exact eq_false (by omega)
  have et := c_taskOf (Ξ := Ξ) pr142 hS.2.2 hi
  have er := c_rowX (Ξ := Ξ) (μ := μ) hi
  have f0 : Fr (fun q j => q = 150 ∧ j = i) μ (st μ 150 i 0) := (Fr.refl _ _).st ⟨rfl, rfl⟩
  have g0 : ∀ j, hb ((st μ 150 i 0).1 150 i) j = true ↔ (j < 12 ∧ ∃ x, x < 0 ∧ hb (0 : Int32) x = true ∧ ow M x = j) := fun j => by
    rw [st_same, hb_zero]
    exact ⟨fun z => (by cases z), fun ⟨_, x, z, _⟩ => absurd z (Nat.not_lt_zero _)⟩
  by_cases q : M i < 12
  · rw [eI_lt q] at et
    have nz : (Int32.ofNat (M i) = -1) = False := oN_n1 (by omega)
    have hk : ∀ k, hb (μ.1 145 i &&& (((1 : Int32) <<< (Int32.ofNat (M i) &&& 31)) ^^^ (-1))) k = true ↔ (E i k = true ∧ k ≠ M i) := fun k => by
      rw [hb_and, hb_not, hb_bit k (by omega), hS.2.1 i hi k]
      cases y : E i k with
      | false => simp
      | true => have := (hE _ _ y).2; simp [show k < 32 by omega]
    obtain ⟨ξ, e, f, g⟩ := c_cl_in (Ξ := Ξ) hS.2.2 hi (op := μ.1 145 i &&& (((1 : Int32) <<< (Int32.ofNat (M i) &&& 31)) ^^^ (-1))) (fun k z => (hE _ _ ((hk k).mp z).1).2) 12 0 (st μ 150 i 0) (by omega) f0 (fun j => by
      rw [st_same, hb_zero]
      exact ⟨fun z => (by cases z), fun ⟨_, x, z, _⟩ => absurd z (Nat.not_lt_zero _)⟩)
    refine ⟨ξ, fun k K => ?_, f, fun j => ?_⟩
    · have e := e 4987 (f_X5_close_J113 (f_X5_close_L2 K k) K)
      have e : f_X5_close_L54 (f_X5_close_J113 (f_X5_close_L2 K k) K) 5000 149 141 (Int32.ofNat i) (μ.1 145 i &&& (((1 : Int32) <<< (Int32.ofNat (M i) &&& 31)) ^^^ (-1))) 0 ((mX Ξ) (st μ 150 i 0)) = _ := e
      simp only [f_X5_close_L2, c, ↓reduceIte, ↓hbind gR_141_0, ↓hvc (fun _ => pr_v pr142), ↓hbind et, nz, ↓hvc (fun _ => vc_141), ↓hbind er, ↓hbind c_bit, f_X5_close_J42, ↓hbind gR_149_4, ↓hbind (sI_150 hi), e, f_X5_close_J113, lt, i_succ]
    · rw [g j]
      unfold D1
      exact ⟨fun ⟨a, x, b, d⟩ => ⟨a, x, ((hk x).mp b).1, ((hk x).mp b).2, d⟩, fun ⟨a, x, b, b', d⟩ => ⟨a, x, (hk x).mpr ⟨b, b'⟩, d⟩⟩
  · have q12 : M i = 12 := Nat.le_antisymm (hS.2.2.1.1 i) (by omega)
    rw [eI_ge (by omega)] at et
    obtain ⟨ξ, e, f, g⟩ := c_cl_in (Ξ := Ξ) hS.2.2 hi (op := μ.1 145 i) (fun k z => (hE i k (by rw [← hS.2.1 i hi k]; exact z)).2) 12 0 (st μ 150 i 0) (by omega) f0 (fun j => by
      rw [st_same, hb_zero]
      exact ⟨fun z => (by cases z), fun ⟨_, x, z, _⟩ => absurd z (Nat.not_lt_zero _)⟩)
    refine ⟨ξ, fun k K => ?_, f, fun j => ?_⟩
    · have e := e 4987 (f_X5_close_J113 (f_X5_close_L2 K k) K)
      have e : f_X5_close_L54 (f_X5_close_J113 (f_X5_close_L2 K k) K) 5000 149 141 (Int32.ofNat i) (μ.1 145 i) 0 ((mX Ξ) (st μ 150 i 0)) = _ := e
      simp only [f_X5_close_L2, c, ↓reduceIte, ↓hbind gR_141_0, ↓hvc (fun _ => pr_v pr142), ↓hbind et, n1_n1, ↓hvc (fun _ => vc_141), ↓hbind er, f_X5_close_J42, ↓hbind gR_149_4, ↓hbind (sI_150 hi), e, f_X5_close_J113, lt, i_succ]
    · rw [g j]
      unfold D1
      refine ⟨fun ⟨a, x, b, d⟩ => ⟨a, x, by rw [← hS.2.1 i hi x]; exact b, ?_, d⟩, fun ⟨a, x, b, b', d⟩ => ⟨a, x, by rw [hS.2.1 i hi x]; exact b, d⟩⟩
      have := (hE i x (by rw [← hS.2.1 i hi x]; exact b)).2
      omega
/-- one pass of Warshall: through k -/
theorem c_cl_pass {k : Nat} (hk : k < 12) (h : ∀ i, i < 12 → ∀ j, hb (μ.1 150 i) j = true ↔ Wk E M k i j) : ∃ ξ, (∀ K, f_X5_close_L129 K 5000 149 (Int32.ofNat k) 0 ((mX Ξ) μ) = K 149 (Int32.ofNat k) ((mX Ξ) ξ)) ∧ Fr (fun q _ => q = 150) μ ξ ∧ ∀ i, i < 12 → ∀ j, hb (ξ.1 150 i) j = true ↔ Wk E M (k + 1) i j := by
  have key : ∀ (d i : Nat) (ν : MM), i + d = 12 → Fr (fun q _ => q = 150) μ ν → (∀ x, x < 12 → ∀ j, hb (ν.1 150 x) j = true ↔ (if x < i then Wk E M (k + 1) x j else Wk E M k x j)) → ∃ ξ, (∀ f K, f_X5_close_L129 K (d + 1 + f) 149 (Int32.ofNat k) (Int32.ofNat i) ((mX Ξ) ν) = K 149 (Int32.ofNat k) ((mX Ξ) ξ)) ∧ Fr (fun q _ => q = 150) μ ξ ∧ ∀ i, i < 12 → ∀ j, hb (ξ.1 150 i) j = true ↔ Wk E M (k + 1) i j := by
    intro d
    induction d with
    | zero =>
      intro i ν hi f g
      have c : (Int32.ofNat i ≥ 12) = True := by rw [lge_12 (by omega)]; exact eq_true (by omega)
      refine ⟨ν, fun e K => ?_, f, fun x hx j => ?_⟩
      · rw [show 0 + 1 + e = e + 1 by omega]
        simp only [f_X5_close_L129, c, ↓reduceIte]
      · rw [g x hx j, if_pos (by omega)]
    | succ d ih =>
      intro i ν hi f g
      have hi2 : i < 12 := by omega
      have c : (Int32.ofNat i ≥ 12) = False := by rw [lge_12 (by omega)]; exact eq_false (by omega)
      have eh := c_has (x := ν.1 150 i) (h := (mX Ξ) ν) (show k < 32 by omega)
      have gi : ∀ j, hb (ν.1 150 i) j = true ↔ Wk E M k i j := fun j => by rw [g i hi2 j, if_neg (Nat.lt_irrefl i)]
      have gk : ∀ j, hb (ν.1 150 k) j = true ↔ Wk E M k k j := fun j => by
        rw [g k hk j]
        split
        · exact Wk.self
        · exact Iff.rfl
      cases q : hb (ν.1 150 i) k with
      | false =>
        rw [q] at eh
        have nq : ¬ Wk E M k i k := fun z => by rw [(gi k).mpr z] at q; cases q
        obtain ⟨ξ, e, r⟩ := ih (i + 1) ν (by omega) f (fun x hx j => by
          rw [g x hx j]
          by_cases y : x = i
          · rw [if_neg (by omega), if_pos (by omega), y]
            exact ⟨Or.inl, fun z => z.elim id fun z => absurd z.1 nq⟩
          · by_cases z : x < i
            · rw [if_pos z, if_pos (by omega)]
            · rw [if_neg z, if_neg (by omega)])
        refine ⟨ξ, fun e' K => ?_, r⟩
        rw [show d + 1 + 1 + e' = (d + 1 + e') + 1 by omega, ← e e' K]
        simp only [f_X5_close_L129, f_X5_close_J163, c, ↓reduceIte, ↓hbind gR_149_4, ↓hbind (aI_150 hi2), ↓hbind eh, show bI false = 0 from rfl, lt, i_succ]
      | true =>
        rw [q] at eh
        have hq : Wk E M k i k := (gi k).mp q
        obtain ⟨ξ, e, r⟩ := ih (i + 1) (st ν 150 i (ν.1 150 i ||| ν.1 150 k)) (by omega) (f.st rfl) (fun x hx j => by
          by_cases y : x = i
          · rw [if_pos (by omega), y, st_same, hb_or, Bool.or_eq_true, gi j, gk j]
            exact ⟨fun z => z.elim Or.inl fun z => Or.inr ⟨hq, z⟩, fun z => z.elim Or.inl fun z => Or.inr z.2⟩
          · rw [st_ne (Or.inr y), g x hx j]
            by_cases z : x < i
            · rw [if_pos z, if_pos (by omega)]
            · rw [if_neg z, if_neg (by omega)])
        refine ⟨ξ, fun e' K => ?_, r⟩
        rw [show d + 1 + 1 + e' = (d + 1 + e') + 1 by omega, ← e e' K]
        simp only [f_X5_close_L129, f_X5_close_J163, c, ↓reduceIte, ↓hbind gR_149_4, ↓hbind (aI_150 hi2), ↓hbind (aI_150 hk), ↓hbind eh, show bI true = 1 from rfl, z_1, ↓hbind (sI_150 hi2), lt, i_succ]
  obtain ⟨ξ, e, r⟩ := key 12 0 μ (by omega) (Fr.refl _ _) (fun x hx j => by rw [if_neg (Nat.not_lt_zero _)]; exact h x hx j)
  exact ⟨ξ, fun K => e 4987 K, r⟩
theorem c_close (hS : SR μ n m Wt Tt E M) (hE : Eb E) : ∃ ν, f_X5_close 149 141 ((mX Ξ) μ) = some ((mX Ξ) ν) ∧ Fr (fun q _ => q = 150) μ ν ∧ ∀ i, i < 12 → ∀ j, hb (ν.1 150 i) j = true ↔ Dr E M i j := by
  have p2 : ∀ (d k : Nat) (ν : MM), k + d = 12 → Fr (fun q _ => q = 150) μ ν → (∀ i, i < 12 → ∀ j, hb (ν.1 150 i) j = true ↔ Wk E M k i j) → ∃ ξ, (∀ f, f_X5_close_L121 f_X5_close_J175 (d + 1 + f) 149 (Int32.ofNat k) ((mX Ξ) ν) = some ((mX Ξ) ξ)) ∧ Fr (fun q _ => q = 150) μ ξ ∧ ∀ i, i < 12 → ∀ j, hb (ξ.1 150 i) j = true ↔ Dr E M i j := by
    intro d
    induction d with
    | zero =>
      intro k ν hk f g
      have c : (Int32.ofNat k ≥ 12) = True := by rw [lge_12 (by omega)]; exact eq_true (by omega)
      refine ⟨ν, fun e => ?_, f, fun i hi j => ?_⟩
      · rw [show 0 + 1 + e = e + 1 by omega]
        simp only [f_X5_close_L121, c, ↓reduceIte, f_X5_close_J175]
      · rw [g i hi j, show k = 12 by omega]; exact Wk.all
    | succ d ih =>
      intro k ν hk f g
      have c : (Int32.ofNat k ≥ 12) = False := by rw [lge_12 (by omega)]; exact eq_false (by omega)
      obtain ⟨ζ, e, f', g'⟩ := c_cl_pass (Ξ := Ξ) (show k < 12 by omega) g
      obtain ⟨ξ, e2, r⟩ := ih (k + 1) ζ (by omega) (f.trans f') g'
      refine ⟨ξ, fun e' => ?_, r⟩
      rw [show d + 1 + 1 + e' = (d + 1 + e') + 1 by omega, ← e2 e']
      simp only [f_X5_close_L121, c, ↓reduceIte, e, f_X5_close_J169, lt, i_succ]
  have p1 : ∀ (d i : Nat) (ν : MM), i + d = 12 → Fr (fun q _ => q = 150) μ ν → (∀ x, x < i → ∀ j, hb (ν.1 150 x) j = true ↔ D1 E M x j) → ∃ ξ, (∀ f, f_X5_close_L2 f_X5_close_J119 (d + 1 + f) 149 141 (Int32.ofNat i) ((mX Ξ) ν) = some ((mX Ξ) ξ)) ∧ Fr (fun q _ => q = 150) μ ξ ∧ ∀ i, i < 12 → ∀ j, hb (ξ.1 150 i) j = true ↔ Dr E M i j := by
    intro d
    induction d with
    | zero =>
      intro i ν hi f g
      have c : (Int32.ofNat i ≥ 12) = True := by rw [lge_12 (by omega)]; exact eq_true (by omega)
      obtain ⟨ξ, e, r⟩ := p2 12 0 ν (by omega) f (fun x hx j => g x (by omega) j)
      refine ⟨ξ, fun e' => ?_, r⟩
      have e : f_X5_close_L121 f_X5_close_J175 5000 149 0 ((mX Ξ) ν) = _ := e 4987
      rw [show 0 + 1 + e' = e' + 1 by omega]
      simp only [f_X5_close_L2, c, ↓reduceIte, f_X5_close_J119, e]
    | succ d ih =>
      intro i ν hi f g
      have hS2 : SR ν n m Wt Tt E M := by
        obtain ⟨⟨h1, h2, h3, h4⟩, h5, h6⟩ := hS
        refine ⟨⟨?_, ?_, ?_, ?_⟩, fun w hw k => ?_, h6.fr f (fun i z => by omega) (fun i z => by omega)⟩
        · rw [(f _ _ (by omega)).1]; exact h1
        · rw [(f _ _ (by omega)).1]; exact h2
        · rw [(f _ _ (by omega)).1]; exact h3
        · rw [(f _ _ (by omega)).1]; exact h4
        · rw [(f _ _ (by omega)).1]; exact h5 w hw k
      obtain ⟨ζ, e, f', g'⟩ := c_cl_row (Ξ := Ξ) hS2 hE (show i < 12 by omega)
      obtain ⟨ξ, e2, r⟩ := ih (i + 1) ζ (by omega) (f.trans (f'.mono fun q j z => z.1)) (fun x hx j => by
        by_cases y : x = i
        · rw [y]; exact g' j
        · rw [(f' _ _ (by omega)).1]; exact g x (by omega) j)
      refine ⟨ξ, fun e' => ?_, r⟩
      rw [show d + 1 + 1 + e' = (d + 1 + e') + 1 by omega, ← e2 e', e]
  obtain ⟨ξ, e, r⟩ := p1 12 0 μ (by omega) (Fr.refl _ _) (fun x hx => absurd hx (Nat.not_lt_zero _))
  exact ⟨ξ, e 4987, r⟩
end Cls
