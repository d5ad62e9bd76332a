/-! OPERATIONS: chosen -/
variable {Ξ : xH}
/-- all of these, and no others, can have tasks at once -/
def mb (E : Nat → Nat → Bool) (C : Nat → Bool) : Prop := ∃ M, Ms E M ∧ ∀ v, v < 12 → (M v < 12 ↔ C v = true)
/-- a worker's rank -/
def rk (B : Bk) (w : Nat) : Nat := (99 - be B w) * 12 + w
/-- those before w, and w -/
def pfw (B : Bk) (C : Nat → Bool) (w v : Nat) : Bool := (C v && decide (rk B v < rk B w)) || decide (v = w)
/-- chosen so far: of the workers of rank below r -/
def ChS (B : Bk) (C : Nat → Bool) (P : Nat → Prop) : Prop := (∀ v, C v = true → hb (bw B) v = true ∧ P v) ∧ ∀ w, hb (bw B) w = true → P w → (C w = true ↔ mb (gE B) (pfw B C w))
theorem ChS.uniq {B : Bk} {C C' : Nat → Bool} (h : ChS B C fun _ => True) (h' : ChS B C' fun _ => True) : C = C' := by
  have key : ∀ n w, rk B w ≤ n → C w = C' w := by
    intro n
    induction n with
    | zero =>
      intro w hw
      by_cases t : hb (bw B) w = true
      · rw [Bool.eq_iff_iff, h.2 w t trivial, h'.2 w t trivial]
        have : pfw B C w = pfw B C' w := by
          funext v
          unfold pfw
          have : decide (rk B v < rk B w) = false := decide_eq_false (by omega)
          rw [this]; simp
        rw [this]
      · rw [Bool.eq_iff_iff]
        exact ⟨fun z => absurd (h.1 w z).1 t, fun z => absurd (h'.1 w z).1 t⟩
    | succ n ih =>
      intro w hw
      by_cases t : hb (bw B) w = true
      · rw [Bool.eq_iff_iff, h.2 w t trivial, h'.2 w t trivial]
        have : pfw B C w = pfw B C' w := by
          funext v
          unfold pfw
          by_cases z : rk B v < rk B w
          · rw [ih v (by omega)]
          · rw [decide_eq_false z]; simp
        rw [this]
      · rw [Bool.eq_iff_iff]
        exact ⟨fun z => absurd (h.1 w z).1 t, fun z => absurd (h'.1 w z).1 t⟩
  funext w
  exact key (rk B w) w (Nat.le_refl _)
/-- a worker more is looked at -/
theorem ChS.next {B : Bk} {C : Nat → Bool} {P : Nat → Prop} {w : Nat} {b : Bool} (h : ChS B C P) (tw : hb (bw B) w = true) (np : ¬ P w) (bf' : ∀ v, P v → hb (bw B) v = true → rk B v < rk B w) (hb' : b = true ↔ mb (gE B) (fun v => C v || decide (v = w))) : ChS B (fun v => C v || (decide (v = w) && b)) (fun v => P v ∨ v = w) := by
  have cw : C w = false := by
    cases q : C w with
    | false => rfl
    | true => exact absurd (h.1 w q).2 np
  refine ⟨fun v q => ?_, fun v tv pv => ?_⟩
  · rw [Bool.or_eq_true, Bool.and_eq_true, decide_eq_true_eq] at q
    rcases q with q | q
    · exact ⟨(h.1 v q).1, Or.inl (h.1 v q).2⟩
    · rw [q.1]; exact ⟨tw, Or.inr rfl⟩
  · rcases pv with pv | rfl
    · have vw : v ≠ w := fun z => np (by rw [← z]; exact pv)
      have e1 : (C v || (decide (v = w) && b)) = C v := by simp [vw]
      have e2 : pfw B (fun v => C v || (decide (v = w) && b)) v = pfw B C v := by
        funext x
        unfold pfw
        by_cases z : x = w
        · have : decide (rk B x < rk B v) = false := decide_eq_false (by have := bf' v pv tv; rw [z]; omega)
          rw [this]; simp
        · simp [z]
      show (C v || (decide (v = w) && b)) = true ↔ _
      rw [e1, e2]
      exact h.2 v tv pv
    · have e1 : (C v || (decide (v = v) && b)) = b := by simp [cw]
      have e2 : pfw B (fun x => C x || (decide (x = v) && b)) v = fun x => C x || decide (x = v) := by
        funext x
        unfold pfw
        by_cases z : x = v
        · simp [z]
        · have : C x = true → rk B x < rk B v := fun q => bf' x (h.1 x q).2 (h.1 x q).1
          show ((C x || (decide (x = v) && b)) && decide (rk B x < rk B v) || decide (x = v)) = (C x || decide (x = v))
          rw [decide_eq_false z]
          cases q : C x with
          | false => rfl
          | true => rw [decide_eq_true (this q)]; rfl
      show (C v || (decide (v = v) && b)) = true ↔ _
      rw [e1, e2]; exact hb'
/-- no way on: it can't be with them -/
theorem mb_no {E : Nat → Nat → Bool} {M : Nat → Nat} {C : Nat → Bool} {D : Nat → Bool} {w : Nat} (hE : Eb E) (hM : Ms E M) (hC : ∀ v, v < 12 → (M v < 12 ↔ C v = true)) (hw : w < 12) (cw : C w = false) (hD : Dd E M D) (hf : ∀ t, E w t = true → D t = true) : ¬ mb E (fun v => C v || decide (v = w)) := by
  rintro ⟨M', hM', hC'⟩
  let E' : Nat → Nat → Bool := fun v t => E v t && (C v || decide (v = w))
  have hE' : Eb E' := fun v t q => hE v t ((Bool.and_eq_true _ _).mp q).1
  have m1 : Ms E' M := ⟨hM.1, fun x q => by
    show (E x (M x) && (C x || decide (x = w))) = true
    rw [hM.2 x q, (hC x (hM.1.w12 q)).mp q]; rfl⟩
  have m2 : Ms E' M' := ⟨hM'.1, fun x q => by
    show (E x (M' x) && (C x || decide (x = w))) = true
    have z : (C x || decide (x = w)) = true := (hC' x (hM'.1.w12 q)).mp q
    rw [hM'.2 x q, z]; rfl⟩
  have dd : Dd E' M D := fun t ht q => ⟨(hD t ht q).1, fun s e => (hD t ht q).2 s ((Bool.and_eq_true _ _).mp e).1⟩
  have le := dd_max hE' m1 dd (fun v hv q t e => by
    have e := (Bool.and_eq_true _ _).mp e
    rcases (Bool.or_eq_true _ _).mp e.2 with z | z
    · have := (hC v hv).mpr z
      omega
    · rw [of_decide_eq_true z] at e; exact hf t e.1) m2
  have s1 : sz M = cnt C 12 := cnt_congr fun v hv => by rw [Bool.eq_iff_iff, decide_eq_true_eq]; exact hC v hv
  have s2 : sz M' = cnt (fun v => C v || decide (v = w)) 12 := cnt_congr fun v hv => by rw [Bool.eq_iff_iff, decide_eq_true_eq]; exact hC' v hv
  rw [s1, s2, cnt_ins hw cw] at le
  omega
/-- what they weigh together -/
def wsum (B : Bk) (C : Nat → Bool) : Nat → Nat
  | 0 => 0
  | n + 1 => wsum B C n + if C n then be B n else 0
theorem wsum_ins {B : Bk} {C : Nat → Bool} {w : Nat} (cw : C w = false) : ∀ n, wsum B (fun v => C v || decide (v = w)) n = wsum B C n + if w < n then be B w else 0
  | 0 => by simp [wsum]
  | n + 1 => by
    unfold wsum
    rw [wsum_ins cw n]
    by_cases z : n = w
    · rw [z, cw]; simp
    · by_cases y : w < n
      · have : w < n + 1 := by omega
        simp [z, y, this]; omega
      · have : ¬ w < n + 1 := by omega
        simp [z, y, this]
theorem wsum_0 {B : Bk} : ∀ n, wsum B (fun _ => false) n = 0
  | 0 => rfl
  | n + 1 => by unfold wsum; rw [wsum_0 n]; rfl
section Ho
variable {μ : MM} {B : Bk} {n m : Nat} {Wt Tt : Int32} {E : Nat → Nat → Bool} {M : Nat → Nat}
/-- the heaviest of a mask, the first of them -/
theorem c_heaviest (hB : BOK B) (hb1 : BC μ 1 B) {x : Int32} (hx : ∀ k, hb x k = true → k < bn B) (nz : x ≠ 0) : ∃ w, f_X0_heaviest 1 x ((mX Ξ) μ) = some (Int32.ofNat w, (mX Ξ) μ) ∧ hb x w = true ∧ ∀ v, hb x v = true → rk B w ≤ rk B v := by
  have hn := hB.n
  have e0 : μ.1 1 0 = Int32.ofNat (bn B) := hb1.1.1
  have key : Hw (f_X0_heaviest 1 x ((mX Ξ) μ)) (fun r => ∃ w, r = (Int32.ofNat w, (mX Ξ) μ) ∧ hb x w = true ∧ ∀ v, hb x v = true → rk B w ≤ rk B v) := by
    refine hw_for (L := fun N i (s : Int32) => f_X0_heaviest_L4 f_X0_heaviest_J46 N 1 x s i ((mX Ξ) μ)) (s0 := -1) (bn B) (fun i s => (s = -1 ∧ ∀ v, v < i → hb x v = false) ∨ ∃ b, b < i ∧ s = Int32.ofNat b ∧ hb x b = true ∧ ∀ v, v < i → hb x v = true → rk B b ≤ rk B v) (Or.inl ⟨rfl, fun v a => absurd a (Nat.not_lt_zero _)⟩) (by omega) (fun i hi s hs => Or.inl ?_) (fun s hs N => ?_)
    · have hi2 : i < 12 := by omega
      have c : (Int32.ofNat i ≥ Int32.ofNat (bn B)) = False := by rw [oN_ge (by omega) (by omega)]; exact eq_false (by omega)
      have eh := c_has (x := x) (h := (mX Ξ) μ) (show i < 32 by omega)
      cases q : hb x i with
      | false =>
        rw [q] at eh
        refine ⟨s, ?_, fun N => ?_⟩
        · rcases hs with ⟨a, b⟩ | ⟨b, b1, b2, b3, b4⟩
          · refine Or.inl ⟨a, fun v hv => ?_⟩
            by_cases z : v = i
            · rw [z]; exact q
            · exact b v (by omega)
          · refine Or.inr ⟨b, by omega, b2, b3, fun v hv z => ?_⟩
            by_cases y : v = i
            · rw [y, q] at z; cases z
            · exact b4 v (by omega) z
        · show f_X0_heaviest_L4 f_X0_heaviest_J46 (N + 1) 1 x s (Int32.ofNat i) ((mX Ξ) μ) = f_X0_heaviest_L4 f_X0_heaviest_J46 N 1 x s (Int32.ofNat (i + 1)) ((mX Ξ) μ)
          simp only [f_X0_heaviest_L4, ↓hbind (bk_i0 bk1), e0, c, ↓reduceIte, ↓hbind eh, show bI false = 0 from rfl, f_X0_heaviest_J40, lt, i_succ]
      | true =>
        rw [q] at eh
        rcases hs with ⟨rfl, b⟩ | ⟨b, b1, rfl, b3, b4⟩
        · refine ⟨Int32.ofNat i, Or.inr ⟨i, by omega, rfl, q, fun v hv z => ?_⟩, fun N => ?_⟩
          · by_cases y : v = i
            · rw [y]; exact Nat.le_refl _
            · rw [b v (by omega)] at z; cases z
          · show f_X0_heaviest_L4 f_X0_heaviest_J46 (N + 1) 1 x (-1) (Int32.ofNat i) ((mX Ξ) μ) = f_X0_heaviest_L4 f_X0_heaviest_J46 N 1 x (Int32.ofNat i) (Int32.ofNat (i + 1)) ((mX Ξ) μ)
            simp only [f_X0_heaviest_L4, ↓hbind (bk_i0 bk1), e0, c, ↓reduceIte, ↓hbind eh, show bI true = 1 from rfl, z_1, f_X0_heaviest_J38, f_X0_heaviest_J40, lt, i_succ]
        · have nb : (Int32.ofNat b = -1) = False := oN_n1 (by omega)
          have w1 := c_weightOf (Ξ := Ξ) bk1 hb1 hi2
          have w2 := c_weightOf (Ξ := Ξ) bk1 hb1 (show b < 12 by omega)
          have l1 := hB.e i
          have l2 := hB.e b
          by_cases y : be B i ≤ be B b
          · have y' : (Int32.ofNat (be B i) ≤ Int32.ofNat (be B b)) = True := by rw [oN_le (by omega) (by omega)]; exact eq_true y
            refine ⟨Int32.ofNat b, Or.inr ⟨b, by omega, rfl, b3, fun v hv z => ?_⟩, fun N => ?_⟩
            · by_cases y2 : v = i
              · rw [y2]; unfold rk; omega
              · exact b4 v (by omega) z
            · show f_X0_heaviest_L4 f_X0_heaviest_J46 (N + 1) 1 x (Int32.ofNat b) (Int32.ofNat i) ((mX Ξ) μ) = f_X0_heaviest_L4 f_X0_heaviest_J46 N 1 x (Int32.ofNat b) (Int32.ofNat (i + 1)) ((mX Ξ) μ)
              simp only [f_X0_heaviest_L4, ↓hbind (bk_i0 bk1), e0, c, ↓reduceIte, ↓hbind eh, show bI true = 1 from rfl, z_1, nb, ↓hvc (fun _ => bk_v bk1), ↓hbind w1, ↓hbind w2, y', f_X0_heaviest_J40, lt, i_succ]
          · have y' : (Int32.ofNat (be B i) ≤ Int32.ofNat (be B b)) = False := by rw [oN_le (by omega) (by omega)]; exact eq_false y
            refine ⟨Int32.ofNat i, Or.inr ⟨i, by omega, rfl, q, fun v hv z => ?_⟩, fun N => ?_⟩
            · by_cases y2 : v = i
              · rw [y2]; exact Nat.le_refl _
              · have := b4 v (by omega) z
                have : rk B i ≤ rk B b := by unfold rk; omega
                omega
            · show f_X0_heaviest_L4 f_X0_heaviest_J46 (N + 1) 1 x (Int32.ofNat b) (Int32.ofNat i) ((mX Ξ) μ) = f_X0_heaviest_L4 f_X0_heaviest_J46 N 1 x (Int32.ofNat i) (Int32.ofNat (i + 1)) ((mX Ξ) μ)
              simp only [f_X0_heaviest_L4, ↓hbind (bk_i0 bk1), e0, c, ↓reduceIte, ↓hbind eh, show bI true = 1 from rfl, z_1, nb, ↓hvc (fun _ => bk_v bk1), ↓hbind w1, ↓hbind w2, y', f_X0_heaviest_J38, f_X0_heaviest_J40, lt, i_succ]
    · have c : (Int32.ofNat (bn B) ≥ Int32.ofNat (bn B)) = True := by rw [oN_ge (by omega) (by omega)]; exact eq_true (by omega)
      rcases hs with ⟨rfl, b⟩ | ⟨b, b1, rfl, b3, b4⟩
      · exfalso
        refine nz (hb_ext fun k _ => ?_)
        rw [hb_zero]
        cases q : hb x k with
        | false => rfl
        | true => rw [b k (hx k q)] at q; cases q
      · have nb : (Int32.ofNat b = -1) = False := oN_n1 (by omega)
        show Hw (f_X0_heaviest_L4 f_X0_heaviest_J46 (N + 1) 1 x (Int32.ofNat b) (Int32.ofNat (bn B)) ((mX Ξ) μ)) _
        simp only [f_X0_heaviest_L4, ↓hbind (bk_i0 bk1), e0, c, ↓reduceIte, f_X0_heaviest_J46, nb, f_X0_heaviest_J56]
        exact hw_ret ⟨b, rfl, b3, fun v z => b4 v (hx v z) z⟩
  obtain ⟨r, e, w, rfl, h⟩ := key
  exact ⟨w, e, h⟩
end Ho
