/-! MATHEMATICS: families of assignments, each by its cost and its code -/
abbrev Fam : Type := List (Nat × Nat)
def shf (c k : Nat) (l : Fam) : Fam := l.map fun p => (p.1 + c, p.2 + k)
def nOf (l : Fam) (v : Nat) : Nat := l.countP fun p => p.1 == v
/-- least cost, and of these the least code -/
def Lst (l : Fam) (L k : Nat) : Prop := (L, k) ∈ l ∧ ∀ p, p ∈ l → L < p.1 ∨ (L = p.1 ∧ k ≤ p.2)
def catj (f : Nat → Fam) : Nat → Fam
  | 0 => []
  | n + 1 => catj f n ++ f n
theorem mem_shf {c k : Nat} {l : Fam} {v x : Nat} : (v, x) ∈ shf c k l ↔ ∃ u y, (u, y) ∈ l ∧ v = u + c ∧ x = y + k := by
  unfold shf
  rw [List.mem_map]
  constructor
  · rintro ⟨⟨u, y⟩, h, e⟩
    exact ⟨u, y, h, (congrArg Prod.fst e).symm, (congrArg Prod.snd e).symm⟩
  · rintro ⟨u, y, h, e1, e2⟩
    exact ⟨(u, y), h, by rw [e1, e2]⟩
theorem shf_ne {c k : Nat} {l : Fam} : shf c k l ≠ [] ↔ l ≠ [] := by
  unfold shf; simp
theorem shf_len {c k : Nat} {l : Fam} : (shf c k l).length = l.length := List.length_map _
theorem nOf_app (l r : Fam) (v : Nat) : nOf (l ++ r) v = nOf l v + nOf r v := List.countP_append
theorem nOf_cons (p : Nat × Nat) (l : Fam) (v : Nat) : nOf (p :: l) v = nOf l v + if p.1 = v then 1 else 0 := by
  unfold nOf
  rw [List.countP_cons]
  by_cases z : p.1 = v
  · simp [z]
  · simp [z]
theorem nOf_shf (c k : Nat) : ∀ (l : Fam) (v : Nat), nOf (shf c k l) v = if c ≤ v then nOf l (v - c) else 0
  | [], v => by
    show nOf [] v = _
    split <;> rfl
  | p :: l, v => by
    show nOf ((p.1 + c, p.2 + k) :: shf c k l) v = _
    rw [nOf_cons, nOf_shf c k l v, nOf_cons]
    by_cases z : c ≤ v
    · rw [if_pos z, if_pos z]
      by_cases y : p.1 = v - c
      · rw [if_pos (show p.1 + c = v by omega), if_pos y]
      · rw [if_neg (show ¬ p.1 + c = v by omega), if_neg y]
    · rw [if_neg z, if_neg z, if_neg (show ¬ p.1 + c = v by omega)]
theorem nOf_pos {l : Fam} {v : Nat} : 0 < nOf l v ↔ ∃ x, (v, x) ∈ l := by
  unfold nOf
  rw [List.countP_pos_iff]
  constructor
  · rintro ⟨⟨u, y⟩, h, e⟩
    have e : u = v := by simpa using e
    exact ⟨y, e ▸ h⟩
  · rintro ⟨x, h⟩
    exact ⟨(v, x), h, by simp⟩
theorem nOf_zero {l : Fam} {v : Nat} (h : ∀ p, p ∈ l → p.1 ≠ v) : nOf l v = 0 := by
  rcases Nat.eq_zero_or_pos (nOf l v) with z | z
  · exact z
  · obtain ⟨x, q⟩ := nOf_pos.mp z
    exact absurd rfl (h _ q)
theorem mem_catj {f : Nat → Fam} {p : Nat × Nat} : ∀ {n : Nat}, p ∈ catj f n ↔ ∃ j, j < n ∧ p ∈ f j
  | 0 => ⟨fun h => absurd h List.not_mem_nil, fun ⟨_, a, _⟩ => absurd a (Nat.not_lt_zero _)⟩
  | n + 1 => by
    show p ∈ catj f n ++ f n ↔ _
    rw [List.mem_append, mem_catj (n := n)]
    constructor
    · rintro (⟨j, a, b⟩ | b)
      · exact ⟨j, by omega, b⟩
      · exact ⟨n, by omega, b⟩
    · rintro ⟨j, a, b⟩
      by_cases z : j = n
      · exact Or.inr (z ▸ b)
      · exact Or.inl ⟨j, by omega, b⟩
theorem nOf_catj (f : Nat → Fam) (v : Nat) : ∀ n : Nat, nOf (catj f n) v = sgm (fun j => nOf (f j) v) n
  | 0 => rfl
  | n + 1 => by
    show nOf (catj f n ++ f n) v = sgm (fun j => nOf (f j) v) n + nOf (f n) v
    rw [nOf_app, nOf_catj f v n]
theorem catj_len (f : Nat → Fam) : ∀ n : Nat, (catj f n).length = sgm (fun j => (f j).length) n
  | 0 => rfl
  | n + 1 => by
    show (catj f n ++ f n).length = sgm (fun j => (f j).length) n + (f n).length
    rw [List.length_append, catj_len f n]
theorem sgm_bd {f : Nat → Nat} {M : Nat} : ∀ {n : Nat}, (∀ k, k < n → f k ≤ M) → sgm f n ≤ n * M
  | 0, _ => by simp [sgm]
  | n + 1, h => by
    show sgm f n + f n ≤ (n + 1) * M
    have a := sgm_bd (n := n) fun k hk => h k (by omega)
    have b := h n (by omega)
    rw [Nat.add_mul, Nat.one_mul]
    omega
def dg (i : Nat) : Nat := 13 ^ (11 - i)
def off : Nat → Nat
  | 0 => 0
  | i + 1 => off i + 12 * dg i
theorem off_12 : off 12 = 23298085122480 := by decide +kernel
theorem off_le : ∀ {i : Nat}, i ≤ 12 → off i ≤ 23298085122480 := by
  intro i hi
  have : ∀ d, off (12 - d) ≤ off 12 := by
    intro d
    induction d with
    | zero => exact Nat.le_refl _
    | succ d ih =>
      by_cases z : d < 12
      · have e : 12 - d = (12 - (d + 1)) + 1 := by omega
        rw [e] at ih
        exact Nat.le_trans (Nat.le_add_right _ _) ih
      · rw [show 12 - (d + 1) = 12 - d by omega]; exact ih
  have := this (12 - i)
  rw [show 12 - (12 - i) = i by omega, off_12] at this
  exact this
section Fa
variable (E : Nat → Nat → Bool) (c : Nat → Nat → Nat)
/-- the assignments of the first i workers that use the tasks S -/
def AL : Nat → Nat → Fam
  | 0, S => if S = 0 then [(0, 0)] else []
  | i + 1, S => shf 0 (12 * dg i) (AL i S) ++ catj (fun j => if S.testBit j = true ∧ E i j = true then shf (c i j) (j * dg i) (AL i (S ^^^ 2 ^ j)) else []) 12
end Fa
section Fb
variable {E : Nat → Nat → Bool} {c : Nat → Nat → Nat}
theorem mem_AL {i S v x : Nat} : (v, x) ∈ AL E c (i + 1) S ↔ (∃ y, (v, y) ∈ AL E c i S ∧ x = y + 12 * dg i) ∨ ∃ j, j < 12 ∧ S.testBit j = true ∧ E i j = true ∧ ∃ u y, (u, y) ∈ AL E c i (S ^^^ 2 ^ j) ∧ v = u + c i j ∧ x = y + j * dg i := by
  show (v, x) ∈ shf 0 (12 * dg i) (AL E c i S) ++ catj _ 12 ↔ _
  rw [List.mem_append, mem_shf, mem_catj]
  constructor
  · rintro (⟨u, y, a, b, d⟩ | ⟨j, a, b⟩)
    · exact Or.inl ⟨y, by rw [b]; exact a, d⟩
    · right
      by_cases z : S.testBit j = true ∧ E i j = true
      · rw [if_pos z] at b
        exact ⟨j, a, z.1, z.2, mem_shf.mp b⟩
      · rw [if_neg z] at b
        exact absurd b List.not_mem_nil
  · rintro (⟨y, a, b⟩ | ⟨j, a, z1, z2, b⟩)
    · exact Or.inl ⟨v, y, a, rfl, b⟩
    · refine Or.inr ⟨j, a, ?_⟩
      rw [if_pos ⟨z1, z2⟩]
      exact mem_shf.mpr b
theorem AL_bd (hc : ∀ w t, c w t ≤ 99) : ∀ (i S v x : Nat), (v, x) ∈ AL E c i S → v ≤ 99 * i ∧ x ≤ off i
  | 0, S, v, x, h => by
    have h : (v, x) ∈ (if S = 0 then [(0, 0)] else [] : Fam) := h
    by_cases z : S = 0
    · rw [if_pos z] at h
      have e := List.mem_singleton.mp h
      have e1 : v = 0 := congrArg Prod.fst e
      have e2 : x = 0 := congrArg Prod.snd e
      rw [e1, e2]; exact ⟨Nat.le_refl _, Nat.le_refl _⟩
    · rw [if_neg z] at h
      exact absurd h List.not_mem_nil
  | i + 1, S, v, x, h => by
    show v ≤ 99 * (i + 1) ∧ x ≤ off i + 12 * dg i
    rcases mem_AL.mp h with ⟨y, a, b⟩ | ⟨j, hj, _, _, u, y, a, b, d⟩
    · have := AL_bd hc i S v y a
      omega
    · have := AL_bd hc i _ u y a
      have := hc i j
      have : j * dg i ≤ 12 * dg i := Nat.mul_le_mul_right _ (by omega)
      omega
theorem AL_len : ∀ (i S : Nat), (AL E c i S).length ≤ 13 ^ i
  | 0, S => by
    show (if S = 0 then [(0, 0)] else [] : Fam).length ≤ 1
    split <;> simp
  | i + 1, S => by
    show (shf 0 (12 * dg i) (AL E c i S) ++ catj _ 12).length ≤ 13 ^ (i + 1)
    rw [List.length_append, shf_len, catj_len, Nat.pow_succ]
    have a := AL_len i S
    have b : sgm (fun j => (if S.testBit j = true ∧ E i j = true then shf (c i j) (j * dg i) (AL E c i (S ^^^ 2 ^ j)) else []).length) 12 ≤ 12 * 13 ^ i := sgm_bd fun j _ => by
      show (if S.testBit j = true ∧ E i j = true then shf (c i j) (j * dg i) (AL E c i (S ^^^ 2 ^ j)) else []).length ≤ 13 ^ i
      split
      · rw [shf_len]; exact AL_len i _
      · exact Nat.zero_le _
    omega
theorem AL_NF : ∀ (i S v : Nat), nOf (AL E c i S) v = NF E c i S v
  | 0, S, v => by
    show nOf (if S = 0 then [(0, 0)] else []) v = if S = 0 ∧ v = 0 then 1 else 0
    by_cases z : S = 0
    · rw [if_pos z]
      by_cases y : v = 0
      · rw [if_pos ⟨z, y⟩, y]; rfl
      · rw [if_neg fun q => y q.2, nOf_cons, if_neg (show ¬ 0 = v by omega)]; rfl
    · rw [if_neg z, if_neg fun q => z q.1]; rfl
  | i + 1, S, v => by
    show nOf (shf 0 (12 * dg i) (AL E c i S) ++ catj _ 12) v = NF E c i S v + sgm (fun j => if (S.testBit j = true ∧ E i j = true) ∧ c i j ≤ v then NF E c i (S ^^^ 2 ^ j) (v - c i j) else 0) 12
    rw [nOf_app, nOf_shf, if_pos (Nat.zero_le _), Nat.sub_zero, AL_NF i S v, nOf_catj]
    congr 1
    refine sgm_congr fun j _ => ?_
    by_cases z : S.testBit j = true ∧ E i j = true
    · rw [if_pos z, nOf_shf]
      by_cases y : c i j ≤ v
      · rw [if_pos y, if_pos ⟨z, y⟩, AL_NF i _ _]
      · rw [if_neg y, if_neg fun q => y q.2]
    · rw [if_neg z, if_neg fun q => z q.1]; rfl
theorem AL_Wy : ∀ (i S : Nat), WyI E i S = Int64.ofNat (AL E c i S).length
  | 0, S => by
    show (if S = 0 then 1 else 0) = Int64.ofNat (if S = 0 then [(0, 0)] else [] : Fam).length
    by_cases z : S = 0
    · rw [if_pos z, if_pos z]; rfl
    · rw [if_neg z, if_neg z]; rfl
  | i + 1, S => by
    show fo64 (wf E (WyI E i) i S) 12 (WyI E i S) = Int64.ofNat (shf 0 (12 * dg i) (AL E c i S) ++ catj _ 12).length
    have key : ∀ k, fo64 (wf E (WyI E i) i S) k (WyI E i S) = Int64.ofNat ((AL E c i S).length + (catj (fun j => if S.testBit j = true ∧ E i j = true then shf (c i j) (j * dg i) (AL E c i (S ^^^ 2 ^ j)) else []) k).length) := by
      intro k
      induction k with
      | zero => exact AL_Wy i S
      | succ k ih =>
        show wf E (WyI E i) i S k (fo64 (wf E (WyI E i) i S) k (WyI E i S)) = Int64.ofNat (_ + (catj _ k ++ if S.testBit k = true ∧ E i k = true then shf (c i k) (k * dg i) (AL E c i (S ^^^ 2 ^ k)) else []).length)
        rw [ih, List.length_append, ← Nat.add_assoc]
        obtain ⟨Z, hZ⟩ : ∃ Z, Z = (AL E c i S).length + (catj (fun j => if S.testBit j = true ∧ E i j = true then shf (c i j) (j * dg i) (AL E c i (S ^^^ 2 ^ j)) else []) k).length := ⟨_, rfl⟩
        rw [← hZ, Int64.ofNat_add]
        unfold wf
        by_cases z : S.testBit k = true ∧ E i k = true
        · rw [if_pos z, if_pos z, shf_len, ← AL_Wy i _]
        · rw [if_neg z, if_neg z]
          exact (Int64.add_zero _).symm
    rw [key 12, List.length_append, shf_len]
theorem AL_full {m : Nat} (hE : ∀ i j, E i j = true → j < m) : ∀ (i S : Nat), AL E c i S ≠ [] → S < 2 ^ m
  | 0, S, h => by
    by_cases z : S = 0
    · rw [z]; exact Nat.two_pow_pos m
    · exact absurd (if_neg z) h
  | i + 1, S, h => by
    obtain ⟨⟨v, x⟩, hp⟩ := List.exists_mem_of_ne_nil _ h
    rcases mem_AL.mp hp with ⟨y, a, _⟩ | ⟨j, hj, s, e, u, y, a, _⟩
    · exact AL_full hE i S (List.ne_nil_of_mem a)
    · have b := AL_full hE i _ (List.ne_nil_of_mem a)
      have d : (S ^^^ 2 ^ j) ^^^ 2 ^ j < 2 ^ m := Nat.xor_lt_two_pow b (Nat.pow_lt_pow_right (by decide) (hE i j e))
      rw [xor_xor] at d; exact d
end Fb
/-! the tally says of a family -/
def mg (x b : Q4) : Q4 :=
  if b.1 = 0 then (b.1 + x.1, x.2.1, x.2.2.1, x.2.2.2)
  else if x.2.2.2 ≥ b.2.2.2 then
    if x.2.2.2 = b.2.2.2 then (b.1 + x.1, b.2.1 + x.2.1, lmin b.2.2.1 x.2.2.1, b.2.2.2) else (b.1 + x.1, b.2.1, b.2.2.1, b.2.2.2)
  else (b.1 + x.1, x.2.1, x.2.2.1, x.2.2.2)
theorem pt_mg (a b : Q4) (c : Int32) (k : Int64) : pt a b c k = mg (a.1, a.2.1, a.2.2.1 + k, a.2.2.2 + c) b := rfl
/-- how many, least cost and how many of it, least code -/
def Rf (o : Nat) (l : Fam) (q : Q4) : Prop := q.1 = Int64.ofNat l.length ∧ (l ≠ [] → ∃ L k, Lst l L k ∧ q.2.1 = Int64.ofNat (nOf l L) ∧ q.2.2.1 = Int64.ofInt ((k : Int) - (o : Int)) ∧ q.2.2.2 = Int32.ofNat L)
def Bd (l : Fam) : Prop := l.length < 1000000000000000000 ∧ ∀ p, p ∈ l → p.1 < 2147483648 ∧ p.2 < 1000000000000000000
theorem len0 {l : Fam} (h : Bd l) : Int64.ofNat l.length = 0 ↔ l = [] := by
  constructor
  · intro z
    have e := congrArg Int64.toInt z
    rw [Int64.toInt_ofNat_of_lt (Nat.lt_trans h.1 (by decide))] at e
    have e : (l.length : Int) = 0 := e
    exact List.eq_nil_of_length_eq_zero (by omega)
  · intro z; rw [z]; rfl
theorem lmin_of {a b : Int} (h1 : -1000000000000000000 < a) (h2 : a < 1000000000000000000) (h3 : -1000000000000000000 < b) (h4 : b < 1000000000000000000) : lmin (Int64.ofInt a) (Int64.ofInt b) = Int64.ofInt (min a b) := by
  have c : (Int64.ofInt b < Int64.ofInt a) = (b < a) := by
    rw [Int64.lt_iff_toInt_lt, Int64.toInt_ofInt_of_le (by omega) (by omega), Int64.toInt_ofInt_of_le (by omega) (by omega)]
  unfold lmin
  by_cases z : b < a
  · rw [if_pos (by rw [c]; exact z), Int.min_eq_right (by omega)]
  · rw [if_neg (by rw [c]; exact z), Int.min_eq_left (by omega)]
theorem Rf_mg {o : Nat} {lx lb : Fam} {x b : Q4} (ho : o < 1000000000000000000) (hx : Rf o lx x) (hb1 : Rf o lb b) (ne : lx ≠ []) (bx : Bd lx) (bb : Bd lb) : Rf o (lb ++ lx) (mg x b) := by
  obtain ⟨x1, x2⟩ := hx
  obtain ⟨b1, b2⟩ := hb1
  obtain ⟨L, k, ⟨lm, ll⟩, xn, xk, xL⟩ := x2 ne
  have e1 : b.1 + x.1 = Int64.ofNat (lb ++ lx).length := by rw [b1, x1, List.length_append, Int64.ofNat_add]
  have ne2 : lb ++ lx ≠ [] → True := fun _ => trivial
  have L31 : L < 2147483648 := (bx.2 _ lm).1
  have k60 : k < 1000000000000000000 := (bx.2 _ lm).2
  by_cases z : lb = []
  · have b0 : b.1 = 0 := by rw [b1, z]; rfl
    unfold mg
    rw [if_pos b0]
    refine ⟨e1, fun _ => ⟨L, k, ?_, ?_, xk, xL⟩⟩
    · rw [z]; exact ⟨lm, ll⟩
    · rw [z]; exact xn
  · have b0 : ¬ b.1 = 0 := fun y => z ((len0 bb).mp (by rw [← b1]; exact y))
    obtain ⟨L', k', ⟨lm', ll'⟩, bn', bk', bL⟩ := b2 z
    have L31' : L' < 2147483648 := (bb.2 _ lm').1
    have k60' : k' < 1000000000000000000 := (bb.2 _ lm').2
    have cge : (x.2.2.2 ≥ b.2.2.2) = (L' ≤ L) := by rw [xL, bL]; exact oN_ge L31 L31'
    have ceq : (x.2.2.2 = b.2.2.2) = (L = L') := by rw [xL, bL]; exact oN_inj L31 L31'
    unfold mg
    rw [if_neg b0]
    by_cases g : L' ≤ L
    · rw [if_pos (by rw [cge]; exact g)]
      by_cases q : L = L'
      · rw [if_pos (by rw [ceq]; exact q)]
        subst q
        refine ⟨e1, fun _ => ⟨L, min k' k, ⟨?_, fun p hp => ?_⟩, ?_, ?_, bL⟩⟩
        · rcases Nat.le_total k' k with y | y
          · rw [Nat.min_eq_left y]; exact List.mem_append.mpr (Or.inl lm')
          · rw [Nat.min_eq_right y]; exact List.mem_append.mpr (Or.inr lm)
        · rcases List.mem_append.mp hp with y | y
          · have := ll' p y; omega
          · have := ll p y; omega
        · show b.2.1 + x.2.1 = _
          rw [bn', xn, nOf_app, Int64.ofNat_add]
        · show lmin b.2.2.1 x.2.2.1 = _
          rw [bk', xk, lmin_of (by omega) (by omega) (by omega) (by omega)]
          congr 1
          omega
      · rw [if_neg (by rw [ceq]; exact q)]
        refine ⟨e1, fun _ => ⟨L', k', ⟨List.mem_append.mpr (Or.inl lm'), fun p hp => ?_⟩, ?_, bk', bL⟩⟩
        · rcases List.mem_append.mp hp with y | y
          · exact ll' p y
          · have := ll p y; omega
        · show b.2.1 = _
          rw [bn', nOf_app, nOf_zero (l := lx) fun p hp => by have := ll p hp; omega, Nat.add_zero]
    · rw [if_neg (by rw [cge]; exact g)]
      refine ⟨e1, fun _ => ⟨L, k, ⟨List.mem_append.mpr (Or.inr lm), fun p hp => ?_⟩, ?_, xk, xL⟩⟩
      · rcases List.mem_append.mp hp with y | y
        · have := ll' p y; omega
        · exact ll p y
      · show x.2.1 = _
        rw [xn, nOf_app, nOf_zero (l := lb) fun p hp => by have := ll' p hp; omega, Nat.zero_add]
theorem Rf_shf {o o' c k : Nat} {l : Fam} {q : Q4} {x : Int64} (h : Rf o l q) (hx : x = Int64.ofInt ((k : Int) - ((o' : Int) - (o : Int)))) : Rf o' (shf c k l) (q.1, q.2.1, q.2.2.1 + x, q.2.2.2 + Int32.ofNat c) := by
  obtain ⟨h1, h2⟩ := h
  refine ⟨by rw [shf_len]; exact h1, fun ne => ?_⟩
  obtain ⟨L, y, ⟨lm, ll⟩, n, e, eL⟩ := h2 (shf_ne.mp ne)
  refine ⟨L + c, y + k, ⟨mem_shf.mpr ⟨L, y, lm, rfl, rfl⟩, fun p hp => ?_⟩, ?_, ?_, ?_⟩
  · obtain ⟨u, z, a, b, d⟩ := mem_shf.mp (show (p.1, p.2) ∈ shf c k l from hp)
    have := ll _ a
    omega
  · show q.2.1 = _
    rw [n, nOf_shf, if_pos (by omega), show L + c - c = L by omega]
  · show q.2.2.1 + x = _
    rw [e, hx, ← Int64.ofInt_add]
    congr 1
    omega
  · show q.2.2.2 + Int32.ofNat c = _
    rw [eL, oN_add]
