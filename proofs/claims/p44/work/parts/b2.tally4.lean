/-! THE CLASS: the tally, extend -/
variable {Ξ : xH}
def FT9 (q _i : Nat) : Prop := 157 ≤ q ∧ q ≤ 160
theorem rd4_fr {μ ν : MM} {P : Nat → Nat → Prop} {T : Nat} (f : Fr P μ ν) (h : ∀ q, 157 ≤ q → q ≤ 160 → ¬ P q T) : rd4 ν T = rd4 μ T := by
  unfold rd4
  rw [(f _ _ (h 157 (by omega) (by omega))).2, (f _ _ (h 158 (by omega) (by omega))).2, (f _ _ (h 159 (by omega) (by omega))).2, (f _ _ (h 160 (by omega) (by omega))).1]
/-- put from S, by the tasks below j -/
def JT (row : Nat → Bool) (S T j : Nat) : Prop := ∃ i, i < j ∧ S.testBit i = false ∧ row i = true ∧ T = S ^^^ 2 ^ i
section Ex
variable {μ : MM} {B : Bk} {old : Nat → Q4} {row : Nat → Bool} {x : Int32} {x4 : Int64} {p5 : Int32} {w full : Nat}
def okT (old : Nat → Q4) (p5 : Int32) (S : Nat) : Bool := !decide ((old S).1 = 0) && decide (Int32.ofNat (cnt (fun k => S.testBit k) 12) ≥ p5)
def csT (B : Bk) (w j : Nat) : Int32 := Int32.ofNat (bc B w j)
def ksT (x4 : Int64) (j : Nat) : Int64 := x4 * (Int32.ofNat j - 12).toInt64
theorem xor_ne {S i j : Nat} (h : S ^^^ 2 ^ j = S ^^^ 2 ^ i) : j = i := by
  have e : 2 ^ j = 2 ^ i := by
    have := congrArg (fun z => S ^^^ z) h
    simpa [← Nat.xor_assoc, Nat.xor_self] using this
  rcases Nat.lt_trichotomy j i with z | z | z
  · have := Nat.pow_lt_pow_right (a := 2) (by decide) z; omega
  · exact z
  · have := Nat.pow_lt_pow_right (a := 2) (by decide) z; omega
theorem c_ext_t (hB : BOK B) (hw : w < 12) (hx : ∀ j, hb x j = row j) (hr : ∀ j, row j = true → gE B w j = true) (hf : full ≤ 4096) (cl : ∀ S j, S < full → row j = true → S.testBit j = false → S ^^^ 2 ^ j < full) {S : Nat} (hS : S < full) (ho : okT old p5 S = true) : ∀ (d j : Nat) (ν : MM), j + d = 12 → BC ν 1 B → (∀ T, T < full → (JT row S T j → rd4 ν T = acc old row (okT old p5) (csT B w) (ksT x4) T S) ∧ (¬ JT row S T j → rd4 ν T = acc old row (okT old p5) (csT B w) (ksT x4) T (S + 1))) →
    ∃ ξ, (∀ f K, f_X8_extend_L60 K (d + 1 + f) 156 1 x (Int32.ofNat w) x4 p5 (Int32.ofNat S) (x &&& (Int32.ofNat S ^^^ (-1))) (Int32.ofNat j) ((mX Ξ) ν) = K 156 1 x (Int32.ofNat w) x4 p5 (Int32.ofNat S) ((mX Ξ) ξ)) ∧ Fr FT9 ν ξ ∧ ∀ T, T < full → rd4 ξ T = acc old row (okT old p5) (csT B w) (ksT x4) T S
  | 0, j, ν, h, hb1, hI => by
    have c : (Int32.ofNat j ≥ 12) = True := by rw [lge_12 (by omega)]; exact eq_true (by omega)
    refine ⟨ν, fun f K => ?_, Fr.refl _ _, fun T hT => ?_⟩
    · rw [show 0 + 1 + f = f + 1 by omega]
      simp only [f_X8_extend_L60, c, ↓reduceIte]
    · by_cases z : JT row S T j
      · exact (hI T hT).1 z
      · rw [(hI T hT).2 z]
        refine (acc_same fun i i12 ti ri e => absurd ⟨i, by omega, ?_, ri, ?_⟩ z).symm
        · rw [← e, xor_bit, ti]; rfl
        · rw [← e, xor_xor]
  | d + 1, j, ν, h, hb1, hI => by
    have c : (Int32.ofNat j ≥ 12) = False := by rw [lge_12 (by omega)]; exact eq_false (by omega)
    have hj : j < 12 := by omega
    have S4 : S < 4096 := by omega
    have eh := c_has (x := x &&& (Int32.ofNat S ^^^ (-1))) (h := (mX Ξ) ν) (show j < 32 by omega)
    have eb : hb (x &&& (Int32.ofNat S ^^^ (-1))) j = (row j && !S.testBit j) := by
      rw [hb_and, hb_not, hx j, hb_nat _ _ (by omega)]
      simp [show j < 32 by omega]
    rw [eb] at eh
    cases q : (row j && !S.testBit j) with
    | false =>
      rw [q] at eh
      have nj : ∀ T, JT row S T (j + 1) ↔ JT row S T j := fun T => by
        constructor
        · rintro ⟨i, i1, i2, i3, i4⟩
          by_cases y : i = j
          · rw [y] at i2 i3
            rw [i2, i3] at q; cases q
          · exact ⟨i, by omega, i2, i3, i4⟩
        · rintro ⟨i, i1, i2⟩
          exact ⟨i, by omega, i2⟩
      obtain ⟨ξ, a, b, g⟩ := c_ext_t hB hw hx hr hf cl hS ho d (j + 1) ν (by omega) hb1 (fun T hT => ⟨fun z => (hI T hT).1 ((nj T).mp z), fun z => (hI T hT).2 fun y => z ((nj T).mpr y)⟩)
      refine ⟨ξ, fun f K => ?_, b, g⟩
      rw [show d + 1 + 1 + f = d + 1 + f + 1 by omega, ← a f K]
      simp only [f_X8_extend_L60, c, ↓reduceIte, ↓hbind eh, show bI false = 0 from rfl, f_X8_extend_J107, lt_go, i_succ]
    | true =>
      rw [q] at eh
      have rj : row j = true := ((Bool.and_eq_true _ _).mp q).1
      have sj' : S.testBit j = false := by
        have := ((Bool.and_eq_true _ _).mp q).2
        cases y : S.testBit j with
        | false => rfl
        | true => rw [y] at this; cases this
      have hT0 := cl S j hS rj sj'
      have T4 : S ^^^ 2 ^ j < 4096 := by omega
      have fit : hb (bf B w) j = true := by
        have := hr j rj
        unfold gE at this
        simp only [Bool.and_eq_true] at this
        exact this.1.1
      have ec := c_costOf (Ξ := Ξ) bk1 hb1 (μ := ν) hw hj
      rw [if_pos fit] at ec
      have ne : S ≠ S ^^^ 2 ^ j := fun e => by
        have := xor_add S4 hj sj'
        have := Nat.two_pow_pos j
        omega
      obtain ⟨ζ, ep, f1, r1⟩ := c_put8 (Ξ := Ξ) (μ := ν) S4 T4 ne (csT B w j) (ksT x4 j)
      have rS : rd4 ν S = old S := by
        rw [(hI S hS).2 fun ⟨i, i1, i2, i3, i4⟩ => by
          have := xor_add S4 (show i < 12 by omega) i2
          have := Nat.two_pow_pos i
          omega]
        exact acc_self S4 (by omega)
      have rT : rd4 ν (S ^^^ 2 ^ j) = acc old row (okT old p5) (csT B w) (ksT x4) (S ^^^ 2 ^ j) (S + 1) := (hI _ hT0).2 fun ⟨i, i1, i2, i3, i4⟩ => by
        have := xor_ne i4; omega
      rw [rS, rT, ← acc_more T4 hj (by rw [xor_bit, sj']; rfl) rj xor_xor ho] at r1
      have hb2 : BC ζ 1 B := hb1.fr f1 fun q i a b z => by unfold FT8 at z; omega
      have nj : ∀ T, JT row S T (j + 1) ↔ (JT row S T j ∨ T = S ^^^ 2 ^ j) := fun T => by
        constructor
        · rintro ⟨i, i1, i2, i3, i4⟩
          by_cases y : i = j
          · rw [y] at i4; exact Or.inr i4
          · exact Or.inl ⟨i, by omega, i2, i3, i4⟩
        · rintro (⟨i, i1, i2⟩ | rfl)
          · exact ⟨i, by omega, i2⟩
          · exact ⟨j, by omega, sj', rj, rfl⟩
      obtain ⟨ξ, a, b, g⟩ := c_ext_t hB hw hx hr hf cl hS ho d (j + 1) ζ (by omega) hb2 (fun T hT => by
        by_cases y : T = S ^^^ 2 ^ j
        · rw [y]
          exact ⟨fun _ => r1, fun z => absurd ((nj _).mpr (Or.inr rfl)) z⟩
        · rw [rd4_fr f1 fun q _ _ z => y z.2]
          exact ⟨fun z => (hI T hT).1 (((nj T).mp z).resolve_right y), fun z => (hI T hT).2 fun u => z ((nj T).mpr (Or.inl u))⟩)
      refine ⟨ξ, fun f K => ?_, (f1.mono fun q i z => z.1).trans b, g⟩
      have eo := oN_orbit S4 hj sj'
      have ep : f_X8_put 156 (Int32.ofNat S) (Int32.ofNat (S ^^^ 2 ^ j)) (Int32.ofNat (bc B w j)) (x4 * (Int32.ofNat j - 12).toInt64) ((mX Ξ) ν) = some ((mX Ξ) ζ) := ep
      rw [show d + 1 + 1 + f = d + 1 + f + 1 by omega, ← a f K]
      simp only [f_X8_extend_L60, c, ↓reduceIte, ↓hbind eh, show bI true = 1 from rfl, z_1, ↓hbind c_bit, ↓hvc (fun _ => bk_v bk1), ↓hbind ec, eo, ↓hvc (fun _ => vc_156), ↓hbind ep, f_X8_extend_J107, lt_go, i_succ]
theorem c_ext_s (hB : BOK B) (hw : w < 12) (hx : ∀ j, hb x j = row j) (hr : ∀ j, row j = true → gE B w j = true) (hf : full ≤ 4096) (cl : ∀ S j, S < full → row j = true → S.testBit j = false → S ^^^ 2 ^ j < full) : ∀ (s : Nat) (ν : MM), s ≤ full → BC ν 1 B → (∀ T, T < full → rd4 ν T = acc old row (okT old p5) (csT B w) (ksT x4) T s) →
    ∃ ξ, (∀ f, f_X8_extend_L6 f_X8_extend_J119 (s + 1 + f) 156 1 x (Int32.ofNat w) x4 p5 (Int32.ofNat s + (-1)) ((mX Ξ) ν) = some ((mX Ξ) ξ)) ∧ Fr FT9 ν ξ ∧ ∀ T, T < full → rd4 ξ T = acc old row (okT old p5) (csT B w) (ksT x4) T 0
  | 0, ν, h, hb1, hI => by
    have c : (Int32.ofNat 0 + (-1) < 0) = True := eq_true (by decide)
    refine ⟨ν, fun f => ?_, Fr.refl _ _, hI⟩
    rw [show 0 + 1 + f = f + 1 by omega]
    simp only [f_X8_extend_L6, c, ↓reduceIte, f_X8_extend_J119]
  | S + 1, ν, h, hb1, hI => by
    have hS : S < full := by omega
    have S4 : S < 4096 := by omega
    have c1 : (Int32.ofNat S < 0) = False := oN_l0 (by omega)
    have c2 : (Int32.ofNat S ≥ 4096) = False := by rw [g4096 (by omega)]; exact eq_false (by omega)
    have rS : rd4 ν S = old S := by rw [hI S hS]; exact acc_self S4 (by omega)
    have r7 : ν.2 157 S = (old S).1 := congrArg Prod.fst rS
    have skip : (∀ T, T < full → acc old row (okT old p5) (csT B w) (ksT x4) T S = acc old row (okT old p5) (csT B w) (ksT x4) T (S + 1)) → (∀ f, f_X8_extend_L6 f_X8_extend_J119 (S + 1 + 1 + f) 156 1 x (Int32.ofNat w) x4 p5 (Int32.ofNat (S + 1) + (-1)) ((mX Ξ) ν) = f_X8_extend_L6 f_X8_extend_J119 (S + 1 + f) 156 1 x (Int32.ofNat w) x4 p5 (Int32.ofNat S + (-1)) ((mX Ξ) ν)) → ∃ ξ, (∀ f, f_X8_extend_L6 f_X8_extend_J119 (S + 1 + 1 + f) 156 1 x (Int32.ofNat w) x4 p5 (Int32.ofNat (S + 1) + (-1)) ((mX Ξ) ν) = some ((mX Ξ) ξ)) ∧ Fr FT9 ν ξ ∧ ∀ T, T < full → rd4 ξ T = acc old row (okT old p5) (csT B w) (ksT x4) T 0 := fun q g => by
      obtain ⟨ξ, a, b⟩ := c_ext_s hB hw hx hr hf cl S ν (by omega) hb1 (fun T hT => by rw [hI T hT, q T hT])
      exact ⟨ξ, fun f => by rw [g, a], b⟩
    by_cases v0 : x &&& (Int32.ofNat S ^^^ (-1)) = 0
    · refine skip (fun T hT => acc_same fun j hj tj rj e => ?_) (fun f => ?_)
      · have sj' : S.testBit j = false := by rw [← e, xor_bit, tj]; rfl
        have : hb (x &&& (Int32.ofNat S ^^^ (-1))) j = true := by
          rw [hb_and, hb_not, hx j, hb_nat _ _ (by omega), rj, sj']
          simp; omega
        rw [v0, hb_zero] at this; cases this
      · rw [show S + 1 + 1 + f = S + 1 + f + 1 by omega, i_dec]
        simp only [f_X8_extend_L6, c1, c2, v0, ↓reduceIte, lt_go, f_X8_extend_J113]
    · have v0' : (x &&& (Int32.ofNat S ^^^ (-1)) = 0) = False := eq_false v0
      by_cases w0 : (old S).1 = 0
      · refine skip (fun T hT => acc_same fun j hj tj rj e => by unfold okT; rw [decide_eq_true w0]; rfl) (fun f => ?_)
        have l0 : (lg_cmp (ν.2 157 S) 0 = 0) = True := by rw [lg_0, r7]; exact eq_true w0
        rw [show S + 1 + 1 + f = S + 1 + f + 1 by omega, i_dec]
        simp only [f_X8_extend_L6, c1, c2, v0', ↓reduceIte, lt_go, ↓hbind gR_156_0, ↓hbind (aJ_157 S4), l0, f_X8_extend_J113]
      · have l0 : (lg_cmp (ν.2 157 S) 0 = 0) = False := by rw [lg_0, r7]; exact eq_false w0
        have m12S : m12 (Int32.ofNat S) := fun k hk => by
          rw [hb_nat _ _ (by omega)]
          exact Nat.testBit_lt_two_pow (Nat.lt_of_lt_of_le S4 (Nat.pow_le_pow_right (n := 2) (by decide) hk))
        have ec := c_bitCount (h := (mX Ξ) ν) m12S
        rw [cnt_congr (q := fun k => S.testBit k) fun k _ => hb_nat S k (by omega)] at ec
        by_cases g5 : Int32.ofNat (cnt (fun k => S.testBit k) 12) ≥ p5
        · have g5' : (Int32.ofNat (cnt (fun k => S.testBit k) 12) ≥ p5) = True := eq_true g5
          have ho : okT old p5 S = true := by unfold okT; rw [decide_eq_false w0, decide_eq_true g5]; rfl
          obtain ⟨ζ, e1, f1, r1⟩ := c_ext_t (Ξ := Ξ) hB hw hx hr hf cl hS ho 12 0 ν (by omega) hb1 (fun T hT => ⟨fun ⟨i, z, _⟩ => absurd z (Nat.not_lt_zero _), fun _ => hI T hT⟩)
          have e1 : ∀ K, f_X8_extend_L60 K 5000 156 1 x (Int32.ofNat w) x4 p5 (Int32.ofNat S) (x &&& (Int32.ofNat S ^^^ (-1))) 0 ((mX Ξ) ν) = K 156 1 x (Int32.ofNat w) x4 p5 (Int32.ofNat S) ((mX Ξ) ζ) := fun K => e1 4987 K
          obtain ⟨ξ, a, b, g⟩ := c_ext_s hB hw hx hr hf cl S ζ (by omega) (hb1.fr f1 fun q i a b z => by unfold FT9 at z; omega) r1
          refine ⟨ξ, fun f => ?_, f1.trans b, g⟩
          rw [show S + 1 + 1 + f = S + 1 + f + 1 by omega, i_dec, ← a f]
          simp only [f_X8_extend_L6, c1, c2, v0', ↓reduceIte, lt_go, ↓hbind gR_156_0, ↓hbind (aJ_157 S4), l0, ↓hbind ec, g5', e1, f_X8_extend_J113]
        · have g5' : (Int32.ofNat (cnt (fun k => S.testBit k) 12) ≥ p5) = False := eq_false g5
          refine skip (fun T hT => acc_same fun j hj tj rj e => by unfold okT; rw [decide_eq_false g5]; simp) (fun f => ?_)
          rw [show S + 1 + 1 + f = S + 1 + f + 1 by omega, i_dec]
          simp only [f_X8_extend_L6, c1, c2, v0', ↓reduceIte, lt_go, ↓hbind gR_156_0, ↓hbind (aJ_157 S4), l0, ↓hbind ec, g5', f_X8_extend_J113]
theorem ext_go {b1 : Nat} {y p w' p5' : Int32} {x4' : Int64} {r : Option xH} (e : f_X8_extend_L6 f_X8_extend_J119 5000 156 b1 y w' x4' p5' (p - 1) ((mX Ξ) μ) = r) : f_X8_extend 156 b1 y w' x4' p5' p ((mX Ξ) μ) = r := by
  rw [← e]
  simp only [f_X8_extend, lt_go]
theorem oN_dec1 (k : Nat) : Int32.ofNat k - 1 = Int32.ofNat k + (-1) := by rw [Int32.sub_eq_add_neg]
/-- a worker's fits are added -/
theorem c_extend (hB : BOK B) (hb1 : BC μ 1 B) (hw : w < 12) (hx : ∀ j, hb x j = row j) (hr : ∀ j, row j = true → gE B w j = true) (hf : full ≤ 4096) (cl : ∀ S j, S < full → row j = true → S.testBit j = false → S ^^^ 2 ^ j < full) : ∃ ξ, f_X8_extend 156 1 x (Int32.ofNat w) x4 p5 (Int32.ofNat full) ((mX Ξ) μ) = some ((mX Ξ) ξ) ∧ Fr FT9 μ ξ ∧ ∀ T, T < full → rd4 ξ T = acc (rd4 μ) row (okT (rd4 μ) p5) (csT B w) (ksT x4) T 0 := by
  obtain ⟨ξ, a, b, g⟩ := c_ext_s (Ξ := Ξ) (old := rd4 μ) (p5 := p5) (x4 := x4) hB hw hx hr hf cl full μ (Nat.le_refl _) hb1 (fun T hT => (acc_self (by omega) (by omega)).symm)
  refine ⟨ξ, ext_go ?_, b, g⟩
  have a := a (5000 - (full + 1))
  have ef : full + 1 + (5000 - (full + 1)) = 5000 := by omega
  rw [ef] at a
  rw [oN_dec1]
  exact a
end Ex
