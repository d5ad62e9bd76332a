/-! PHASE 2, TOOLS: total correctness of the functional layer, bits, small ints, frames -/
def Hw {β : Type} (o : Option β) (Q : β → Prop) : Prop := ∃ r, o = some r ∧ Q r
theorem hw_ret {β : Type} {r : β} {Q : β → Prop} (h : Q r) : Hw (some r) Q := ⟨r, rfl, h⟩
theorem hw_bind {α β : Type} {o : Option α} {K : α → Option β} {Q : β → Prop} (h : Hw o fun r => Hw (K r) Q) : Hw (o.bind K) Q := by
  obtain ⟨r, h0, s, h1, h2⟩ := h
  exact ⟨s, by rw [h0]; exact h1, h2⟩
theorem hw_mono {β : Type} {o : Option β} {Q Q' : β → Prop} (h : Hw o Q) (i : ∀ r, Q r → Q' r) : Hw o Q' := by
  obtain ⟨r, h0, h1⟩ := h
  exact ⟨r, h0, i r h1⟩
theorem hw_eq {β : Type} {o : Option β} {r : β} (h : Hw o fun s => s = r) : o = some r := by
  obtain ⟨s, h0, h1⟩ := h
  rw [h0, h1]
theorem hw_of {β : Type} {o : Option β} {r : β} {Q : β → Prop} (e : o = some r) (h : Q r) : Hw o Q := ⟨r, e, h⟩
theorem hw_cong {β : Type} {o o' : Option β} {Q : β → Prop} (e : o = o') (h : Hw o' Q) : Hw o Q := by rw [e]; exact h
/-- a loop with a measure -/
theorem hw_loop {σ β : Type} {L : Nat → σ → Option β} {Q : β → Prop} (I : Nat → σ → Prop) (hs : ∀ (k : Nat) (s : σ), I k s → (∃ k' s', k' < k ∧ I k' s' ∧ ∀ n, L (n + 1) s = L n s') ∨ ∀ n, Hw (L (n + 1) s) Q) :
    ∀ (k : Nat) (s : σ), I k s → ∀ fuel, k < fuel → Hw (L fuel s) Q := by
  intro k
  induction k using Nat.strongRecOn with
  | ind k ih =>
    intro s hI fuel hf
    rw [show fuel = (fuel - 1) + 1 by omega]
    rcases hs k s hI with ⟨k', s', h1, h2, h3⟩ | h
    · rw [h3]
      exact ih k' h1 s' h2 _ (by omega)
    · exact h _
/-- a loop whose round goes through other loops -/
theorem hw_rec {σ β : Type} {L : Nat → σ → Option β} {Q : β → Prop} (I : Nat → σ → Prop) (hs : ∀ (k : Nat) (s : σ) (n : Nat), I k s → (∀ k' s', k' < k → I k' s' → Hw (L n s') Q) → Hw (L (n + 1) s) Q) :
    ∀ (k : Nat) (s : σ), I k s → ∀ fuel, k < fuel → Hw (L fuel s) Q := by
  intro k
  induction k using Nat.strongRecOn with
  | ind k ih =>
    intro s hI fuel hf
    rw [show fuel = (fuel - 1) + 1 by omega]
    exact hs k s _ hI fun k' s' h1 h2 => ih k' h1 s' h2 _ (by omega)
/-- a counting loop -/
theorem hw_for {σ β : Type} {L : Nat → Int32 → σ → Option β} {Q : β → Prop} (N : Nat) (J : Nat → σ → Prop) {s0 : σ} {fuel : Nat} (h0 : J 0 s0) (hf : N < fuel)
    (step : ∀ i, i < N → ∀ s, J i s → (∃ s', J (i + 1) s' ∧ ∀ n, L (n + 1) (Int32.ofNat i) s = L n (Int32.ofNat (i + 1)) s') ∨ ∀ n, Hw (L (n + 1) (Int32.ofNat i) s) Q)
    (fin : ∀ s, J N s → ∀ n, Hw (L (n + 1) (Int32.ofNat N) s) Q) : Hw (L fuel (Int32.ofNat 0) s0) Q := by
  refine hw_loop (L := fun n (p : Nat × σ) => L n (Int32.ofNat p.1) p.2) (I := fun k p => p.1 + k = N ∧ J p.1 p.2) ?_ N (0, s0) ⟨by simp, h0⟩ fuel hf
  rintro k ⟨i, s⟩ ⟨hk, hJ⟩
  simp only at hk hJ
  cases k with
  | zero => rw [show i = N by omega] at hJ ⊢; exact Or.inr (fin s hJ)
  | succ k =>
    rcases step i (by omega) s hJ with ⟨s', h1, h2⟩ | h
    · exact Or.inl ⟨k, (i + 1, s'), by omega, ⟨by show i + 1 + k = N; omega, h1⟩, h2⟩
    · exact Or.inr h
/-! bits -/
def hb (x : Int32) (k : Nat) : Bool := x.toBitVec.getLsbD k
theorem hb_or (x y : Int32) (k : Nat) : hb (x ||| y) k = (hb x k || hb y k) := by simp [hb]
theorem hb_and (x y : Int32) (k : Nat) : hb (x &&& y) k = (hb x k && hb y k) := by simp [hb]
theorem hb_xor (x y : Int32) (k : Nat) : hb (x ^^^ y) k = Bool.xor (hb x k) (hb y k) := by simp [hb]
theorem hb_zero (k : Nat) : hb 0 k = false := by simp [hb]
theorem hb_ge (x : Int32) {k : Nat} (h : 32 ≤ k) : hb x k = false := BitVec.getLsbD_of_ge _ _ h
theorem hb_neg1 (k : Nat) : hb (-1) k = decide (k < 32) := by
  by_cases h : k < 32
  · have : ∀ k, k < 32 → hb (-1) k = decide (k < 32) := by decide +kernel
    exact this k h
  · rw [hb_ge _ (by omega)]; simp [h]
theorem hb_not (x : Int32) (k : Nat) : hb (x ^^^ (-1)) k = (decide (k < 32) && !hb x k) := by
  rw [hb_xor, hb_neg1]
  by_cases h : k < 32
  · simp [h]
  · rw [hb_ge x (by omega)]; simp [h]
theorem hb_ext {x y : Int32} (h : ∀ k, k < 32 → hb x k = hb y k) : x = y := by
  apply Int32.toBitVec_inj.mp
  exact BitVec.eq_of_getLsbD_eq fun i hi => h i hi
theorem sh_small {i : Nat} (hi : i < 32) : Int32.ofNat i &&& 31 = Int32.ofNat i := by
  have : ∀ i, i < 32 → Int32.ofNat i &&& 31 = Int32.ofNat i := by decide +kernel
  exact this i hi
theorem hb_bit {i : Nat} (k : Nat) (hi : i < 32) : hb ((1 : Int32) <<< (Int32.ofNat i &&& 31)) k = decide (k = i) := by
  by_cases h : k < 32
  · have : ∀ i, i < 32 → ∀ k, k < 32 → hb ((1 : Int32) <<< (Int32.ofNat i &&& 31)) k = decide (k = i) := by decide +kernel
    exact this i hi k h
  · rw [hb_ge _ (by omega)]
    simp only [Bool.false_eq, decide_eq_false_iff_not]
    omega
theorem hb_1 (k : Nat) : hb 1 k = decide (k = 0) := hb_bit (i := 0) k (by omega)
theorem hb_shr {x : Int32} {i : Nat} (hi : i < 32) : hb (x >>> (Int32.ofNat i &&& 31)) 0 = hb x i := by
  have h2 : ∀ i, i < 32 → ((Int32.ofNat i &&& 31).toBitVec.smod 32).toNat = i := by decide +kernel
  unfold hb
  rw [Int32.toBitVec_shiftRight, BitVec.sshiftRight', BitVec.getLsbD_sshiftRight, h2 i hi]
  simp [hi]
def bI (b : Bool) : Int32 := if b then 1 else 0
theorem bI_0 (b : Bool) : (bI b = 0) = (b = false) := by cases b <;> decide
theorem bI_1 (b : Bool) : (bI b = 1) = (b = true) := by cases b <;> decide
theorem bI_z (b : Bool) : (bI b = 0 ∨ bI b = 1) = True := by cases b <;> decide
theorem has_eq {x : Int32} {i : Nat} (hi : i < 32) : (((x >>> (Int32.ofNat i &&& 31)) &&& (1 : Int32)) = 0) = (hb x i = false) := by
  apply propext
  constructor
  · intro h
    have := congrArg (fun z => hb z 0) h
    simp only [hb_and, hb_shr hi, hb_1, hb_zero] at this
    simpa using this
  · intro h
    apply hb_ext
    intro k _
    rw [hb_and, hb_1, hb_zero]
    by_cases h0 : k = 0
    · subst h0; rw [hb_shr hi, h]; rfl
    · simp [h0]
theorem has_eq1 {x : Int32} {i : Nat} (hi : i < 32) : (((x >>> (Int32.ofNat i &&& 31)) &&& (1 : Int32)) = 1) = (hb x i = true) := by
  apply propext
  constructor
  · intro h
    have := congrArg (fun z => hb z 0) h
    simp only [hb_and, hb_shr hi, hb_1] at this
    simpa using this
  · intro h
    apply hb_ext
    intro k _
    rw [hb_and, hb_1]
    by_cases h0 : k = 0
    · subst h0; rw [hb_shr hi, h]; rfl
    · simp [h0]
theorem c_has {x : Int32} {i : Nat} {h : xH} (hi : i < 32) : f_X9_has x (Int32.ofNat i) h = some (bI (hb x i), h) := by
  simp only [f_X9_has, f_X9_has_J13, has_eq hi]
  cases hb x i <;> simp [bI]
theorem c_bit {x : Int32} {h : xH} : f_X9_bit x h = some ((1 : Int32) <<< (x &&& 31), h) := rfl
/-- within twelve bits -/
def m12 (x : Int32) : Prop := ∀ k, 12 ≤ k → hb x k = false
/-- how many -/
def cnt (p : Nat → Bool) : Nat → Nat
  | 0 => 0
  | n + 1 => cnt p n + (p n).toNat
theorem cnt_le (p : Nat → Bool) : ∀ n, cnt p n ≤ n
  | 0 => Nat.le_refl _
  | n + 1 => by have := cnt_le p n; have := (p n).toNat_le; unfold cnt; omega
theorem cnt_congr {p q : Nat → Bool} : ∀ {n : Nat}, (∀ k, k < n → p k = q k) → cnt p n = cnt q n
  | 0, _ => rfl
  | n + 1, h => by unfold cnt; rw [cnt_congr (fun k hk => h k (by omega)), h n (by omega)]
theorem hb_nat (m k : Nat) (h : m < 4294967296) : hb (Int32.ofNat m) k = m.testBit k := by
  unfold hb
  rw [show (Int32.ofNat m).toBitVec = BitVec.ofNat 32 m from rfl, BitVec.getLsbD_ofNat]
  by_cases hk : k < 32
  · simp [hk]
  · have : m.testBit k = false := Nat.testBit_lt_two_pow (Nat.lt_of_lt_of_le h (by rw [show 4294967296 = 2 ^ 32 from rfl]; exact Nat.pow_le_pow_right (by omega) (by omega)))
    simp [hk, this]
theorem m12_nat {x : Int32} (h : m12 x) : ∃ m, m < 4096 ∧ x = Int32.ofNat m := by
  refine ⟨x.toBitVec.toNat, ?_, ?_⟩
  · rw [show 4096 = 2 ^ 12 from rfl]
    apply Nat.lt_pow_two_of_testBit
    intro i hi
    exact h i hi
  · apply Int32.toBitVec_inj.mp
    show _ = BitVec.ofNat 32 x.toBitVec.toNat
    simp
def bcf (p1 : Int32) : Int32 :=
  lt ((p1 - (((p1.toUInt32 >>> ((1 : Int32).toUInt32 &&& (31 : Int32).toUInt32)).toInt32) &&& (1431655765 : Int32)))) fun v1 =>
  lt (((v1 &&& (858993459 : Int32)) + (((v1.toUInt32 >>> ((2 : Int32).toUInt32 &&& (31 : Int32).toUInt32)).toInt32) &&& (858993459 : Int32)))) fun v2 =>
  lt (((v2 + ((v2.toUInt32 >>> ((4 : Int32).toUInt32 &&& (31 : Int32).toUInt32)).toInt32)) &&& (252645135 : Int32))) fun v3 =>
  lt ((v3 + ((v3.toUInt32 >>> ((8 : Int32).toUInt32 &&& (31 : Int32).toUInt32)).toInt32))) fun v4 =>
  lt ((v4 + ((v4.toUInt32 >>> ((16 : Int32).toUInt32 &&& (31 : Int32).toUInt32)).toInt32))) fun v5 =>
  v5 &&& (63 : Int32)
set_option maxRecDepth 100000 in
theorem bc_tab : ∀ a, a < 64 → ∀ b, b < 64 → bcf (Int32.ofNat (64 * a + b)) = Int32.ofNat (cnt (fun k => (64 * a + b).testBit k) 12) := by decide +kernel
theorem c_bitCount {x : Int32} {h : xH} (hx : m12 x) : f_J6_bitCount_0f7a4 x h = some (Int32.ofNat (cnt (hb x) 12), h) := by
  obtain ⟨m, hm, rfl⟩ := m12_nat hx
  have h1 := bc_tab (m / 64) (by omega) (m % 64) (by omega)
  rw [Nat.div_add_mod] at h1
  show some (bcf (Int32.ofNat m), h) = _
  rw [h1, cnt_congr (q := hb (Int32.ofNat m)) (fun k _ => (hb_nat m k (by omega)).symm)]
/-! ints that are a number below 12, or none (-1) -/
def eI (k : Nat) : Int32 := if k < 12 then Int32.ofNat k else -1
theorem eI_lt {k : Nat} (h : k < 12) : eI k = Int32.ofNat k := if_pos h
theorem eI_ge {k : Nat} (h : 12 ≤ k) : eI k = -1 := if_neg (by omega)
theorem eI_n1 (k : Nat) : (eI k = -1) = (12 ≤ k) := by
  apply propext
  by_cases h : k < 12
  · rw [eI_lt h]
    have : ∀ k, k < 12 → Int32.ofNat k ≠ -1 := by decide +kernel
    have := this k h
    constructor
    · intro q; exact absurd q this
    · intro q; omega
  · rw [eI_ge (by omega)]; simp; omega
theorem eI_l0 (k : Nat) : (eI k < 0) = (12 ≤ k) := by
  apply propext
  by_cases h : k < 12
  · rw [eI_lt h]
    have : ∀ k, k < 12 → ¬ (Int32.ofNat k < 0) := by decide +kernel
    have := this k h
    constructor
    · intro q; exact absurd q this
    · intro q; omega
  · rw [eI_ge (by omega)]
    constructor
    · intro _; omega
    · intro _; decide
theorem eI_g12 (k : Nat) : (eI k ≥ 12) = False := by
  apply eq_false
  by_cases h : k < 12
  · rw [eI_lt h]
    have : ∀ k, k < 12 → ¬ (Int32.ofNat k ≥ 12) := by decide +kernel
    exact this k h
  · rw [eI_ge (by omega)]; decide
theorem oN_n1 {k : Nat} (h : k < 2147483648) : (Int32.ofNat k = -1) = False := by
  apply eq_false
  intro q
  have := congrArg Int32.toInt q
  rw [i_toInt h] at this
  rw [show (-1 : Int32).toInt = -1 from rfl] at this
  omega
theorem oN_l0 {k : Nat} (h : k < 2147483648) : (Int32.ofNat k < 0) = False := by
  apply eq_false
  rw [Int32.lt_iff_toInt_lt, i_toInt h, show (0 : Int32).toInt = 0 from rfl]
  omega
theorem oN_g0 {k : Nat} (h : k < 2147483648) : (Int32.ofNat k ≥ 0) = True := by
  apply eq_true
  show (0 : Int32) ≤ _
  rw [Int32.le_iff_toInt_le, i_toInt h, show (0 : Int32).toInt = 0 from rfl]
  omega
theorem n1_l0 : ((-1 : Int32) < 0) = True := by decide
theorem n1_g12 : ((-1 : Int32) ≥ 12) = False := by decide
theorem n1_0 : ((-1 : Int32) = 0) = False := by decide
theorem n1_n1 : ((-1 : Int32) = -1) = True := by decide
theorem z_0 : ((0 : Int32) = 0) = True := by decide
theorem z_1 : ((1 : Int32) = 0) = False := by decide
theorem z_2 : ((1 : Int32) = 1) = True := by decide
theorem z_4 : ((0 : Int32) ≤ 0) = True := by decide
theorem z_5 : ((0 : Int32) ≥ 0) = True := by decide
theorem z_6 : ((0 : Int32) < 0) = False := by decide
theorem z_7 : ((0 : Int32) > 0) = False := by decide
theorem z_8 : ((1 : Int32) ≤ 0) = False := by decide
theorem z_9 : ((1 : Int32) > 0) = True := by decide
theorem z_a : ((0 : Int32) = -1) = False := by decide
theorem z_b : ((1 : Int32) = -1) = False := by decide
theorem z_c : ((-1 : Int32) = 1) = False := by decide
theorem z_d : ((-1 : Int32) ≤ 0) = True := by decide
theorem z_e : ((-1 : Int32) > 0) = False := by decide
theorem z_f : ((-1 : Int32) ≥ 0) = False := by decide
theorem z_3 : ((0 : Int32) = 1) = False := by decide
theorem eI_inj {a b : Nat} (ha : a ≤ 12) (hb : b ≤ 12) : (eI a = eI b) = (a = b) := by
  have : ∀ a, a ≤ 12 → ∀ b, b ≤ 12 → (eI a = eI b ↔ a = b) := by decide +kernel
  exact propext (this a ha b hb)
theorem eI_oN {a b : Nat} (ha : a ≤ 12) (hb : b < 12) : (eI a = Int32.ofNat b) = (a = b) := by rw [← eI_lt hb, eI_inj ha (by omega)]
theorem oN_inj {a b : Nat} (ha : a < 2147483648) (hb : b < 2147483648) : (Int32.ofNat a = Int32.ofNat b) = (a = b) := propext (i_eq ha hb)
theorem oN_lt {a b : Nat} (ha : a < 2147483648) (hb : b < 2147483648) : (Int32.ofNat a < Int32.ofNat b) = (a < b) := propext (i_lt ha hb)
theorem oN_gt {a b : Nat} (ha : a < 2147483648) (hb : b < 2147483648) : (Int32.ofNat a > Int32.ofNat b) = (b < a) := propext (i_lt hb ha)
theorem oN_ge {a b : Nat} (ha : a < 2147483648) (hb : b < 2147483648) : (Int32.ofNat a ≥ Int32.ofNat b) = (b ≤ a) := propext (i_ge ha hb)
theorem oN_le {a b : Nat} (ha : a < 2147483648) (hb : b < 2147483648) : (Int32.ofNat a ≤ Int32.ofNat b) = (a ≤ b) := propext (i_ge hb ha)
theorem oN_add (a b : Nat) : Int32.ofNat a + Int32.ofNat b = Int32.ofNat (a + b) := (Int32.ofNat_add a b).symm
theorem oN_mul (a b : Nat) : Int32.ofNat a * Int32.ofNat b = Int32.ofNat (a * b) := (Int32.ofNat_mul a b).symm
theorem oN_sub {a b : Nat} (h : b ≤ a) : Int32.ofNat a - Int32.ofNat b = Int32.ofNat (a - b) := by
  have h2 : Int32.ofNat (a - b) + Int32.ofNat b = Int32.ofNat a := by rw [oN_add, Nat.sub_add_cancel h]
  rw [← h2, Int32.add_sub_cancel]
/-- an int seen by its cases -/
theorem i32_cases (x : Int32) : x < 0 ∨ ∃ k, k < 2147483648 ∧ x = Int32.ofNat k := by
  by_cases h : x < 0
  · exact Or.inl h
  · refine Or.inr ⟨x.toInt.toNat, ?_, ?_⟩
    · have := x.toInt_lt; omega
    · rw [Int32.lt_iff_toInt_lt, show (0 : Int32).toInt = 0 from rfl] at h
      have h1 : x.toInt.toNat < 2147483648 := by have := x.toInt_lt; omega
      rw [← Int32.toInt_inj, i_toInt h1]
      omega
/-! frames -/
def Fr (P : Nat → Nat → Prop) (μ ν : MM) : Prop := ∀ q i, ¬ P q i → ν.1 q i = μ.1 q i ∧ ν.2 q i = μ.2 q i
theorem Fr.refl (P : Nat → Nat → Prop) (μ : MM) : Fr P μ μ := fun _ _ _ => ⟨rfl, rfl⟩
theorem Fr.trans {P : Nat → Nat → Prop} {μ ν ξ : MM} (h1 : Fr P μ ν) (h2 : Fr P ν ξ) : Fr P μ ξ := fun q i n => ⟨(h2 q i n).1.trans (h1 q i n).1, (h2 q i n).2.trans (h1 q i n).2⟩
theorem Fr.mono {P P' : Nat → Nat → Prop} {μ ν : MM} (h : Fr P μ ν) (i : ∀ q j, P q j → P' q j) : Fr P' μ ν := fun q j n => h q j fun z => n (i q j z)
theorem Fr.st {P : Nat → Nat → Prop} {μ ν : MM} {a k : Nat} {v : Int32} (h : Fr P μ ν) (hp : P a k) : Fr P μ (st ν a k v) := fun q i n => by
  refine ⟨?_, (h q i n).2⟩
  show (if q = a ∧ i = k then v else ν.1 q i) = _
  rw [if_neg (fun z => n (by rw [z.1, z.2]; exact hp))]
  exact (h q i n).1
theorem Fr.sj {P : Nat → Nat → Prop} {μ ν : MM} {a k : Nat} {v : Int64} (h : Fr P μ ν) (hp : P a k) : Fr P μ (sj ν a k v) := fun q i n => by
  refine ⟨(h q i n).1, ?_⟩
  show (if q = a ∧ i = k then v else ν.2 q i) = _
  rw [if_neg (fun z => n (by rw [z.1, z.2]; exact hp))]
  exact (h q i n).2
theorem st_at (μ : MM) (a k q i : Nat) (v : Int32) : (st μ a k v).1 q i = if q = a ∧ i = k then v else μ.1 q i := rfl
theorem st_same (μ : MM) (a k : Nat) (v : Int32) : (st μ a k v).1 a k = v := if_pos ⟨rfl, rfl⟩
theorem st_ne {μ : MM} {a k q i : Nat} {v : Int32} (h : q ≠ a ∨ i ≠ k) : (st μ a k v).1 q i = μ.1 q i := if_neg (fun z => h.elim (fun n => n z.1) (fun n => n z.2))
theorem st_2 (μ : MM) (a k q i : Nat) (v : Int32) : (st μ a k v).2 q i = μ.2 q i := rfl
theorem sj_at (μ : MM) (a k q i : Nat) (v : Int64) : (sj μ a k v).2 q i = if q = a ∧ i = k then v else μ.2 q i := rfl
theorem sj_same (μ : MM) (a k : Nat) (v : Int64) : (sj μ a k v).2 a k = v := if_pos ⟨rfl, rfl⟩
theorem sj_ne {μ : MM} {a k q i : Nat} {v : Int64} (h : q ≠ a ∨ i ≠ k) : (sj μ a k v).2 q i = μ.2 q i := if_neg (fun z => h.elim (fun n => n z.1) (fun n => n z.2))
theorem sj_1 (μ : MM) (a k q i : Nat) (v : Int64) : (sj μ a k v).1 q i = μ.1 q i := rfl
theorem lle_0 {a : Nat} (h : a < 2147483648) : (Int32.ofNat a ≤ (0 : Int32)) = (a ≤ 0) := propext (i_ge (n := a) (k := 0) (by decide) h)
theorem lge_0 {a : Nat} (h : a < 2147483648) : (Int32.ofNat a ≥ (0 : Int32)) = (0 ≤ a) := propext (i_ge (n := 0) h (by decide))
theorem llt_0 {a : Nat} (h : a < 2147483648) : (Int32.ofNat a < (0 : Int32)) = (a < 0) := propext (i_lt (n := 0) h (by decide))
theorem lgt_0 {a : Nat} (h : a < 2147483648) : (Int32.ofNat a > (0 : Int32)) = (0 < a) := propext (i_lt (n := a) (k := 0) (by decide) h)
theorem leq_0 {a : Nat} (h : a < 2147483648) : (Int32.ofNat a = (0 : Int32)) = (a = 0) := propext (i_eq (n := 0) h (by decide))
theorem lle_1 {a : Nat} (h : a < 2147483648) : (Int32.ofNat a ≤ (1 : Int32)) = (a ≤ 1) := propext (i_ge (n := a) (k := 1) (by decide) h)
theorem lge_1 {a : Nat} (h : a < 2147483648) : (Int32.ofNat a ≥ (1 : Int32)) = (1 ≤ a) := propext (i_ge (n := 1) h (by decide))
theorem llt_1 {a : Nat} (h : a < 2147483648) : (Int32.ofNat a < (1 : Int32)) = (a < 1) := propext (i_lt (n := 1) h (by decide))
theorem lgt_1 {a : Nat} (h : a < 2147483648) : (Int32.ofNat a > (1 : Int32)) = (1 < a) := propext (i_lt (n := a) (k := 1) (by decide) h)
theorem leq_1 {a : Nat} (h : a < 2147483648) : (Int32.ofNat a = (1 : Int32)) = (a = 1) := propext (i_eq (n := 1) h (by decide))
theorem lle_2 {a : Nat} (h : a < 2147483648) : (Int32.ofNat a ≤ (2 : Int32)) = (a ≤ 2) := propext (i_ge (n := a) (k := 2) (by decide) h)
theorem lge_2 {a : Nat} (h : a < 2147483648) : (Int32.ofNat a ≥ (2 : Int32)) = (2 ≤ a) := propext (i_ge (n := 2) h (by decide))
theorem llt_2 {a : Nat} (h : a < 2147483648) : (Int32.ofNat a < (2 : Int32)) = (a < 2) := propext (i_lt (n := 2) h (by decide))
theorem lgt_2 {a : Nat} (h : a < 2147483648) : (Int32.ofNat a > (2 : Int32)) = (2 < a) := propext (i_lt (n := a) (k := 2) (by decide) h)
theorem leq_2 {a : Nat} (h : a < 2147483648) : (Int32.ofNat a = (2 : Int32)) = (a = 2) := propext (i_eq (n := 2) h (by decide))
theorem lle_3 {a : Nat} (h : a < 2147483648) : (Int32.ofNat a ≤ (3 : Int32)) = (a ≤ 3) := propext (i_ge (n := a) (k := 3) (by decide) h)
theorem lge_3 {a : Nat} (h : a < 2147483648) : (Int32.ofNat a ≥ (3 : Int32)) = (3 ≤ a) := propext (i_ge (n := 3) h (by decide))
theorem llt_3 {a : Nat} (h : a < 2147483648) : (Int32.ofNat a < (3 : Int32)) = (a < 3) := propext (i_lt (n := 3) h (by decide))
theorem lgt_3 {a : Nat} (h : a < 2147483648) : (Int32.ofNat a > (3 : Int32)) = (3 < a) := propext (i_lt (n := a) (k := 3) (by decide) h)
theorem leq_3 {a : Nat} (h : a < 2147483648) : (Int32.ofNat a = (3 : Int32)) = (a = 3) := propext (i_eq (n := 3) h (by decide))
theorem lle_4 {a : Nat} (h : a < 2147483648) : (Int32.ofNat a ≤ (4 : Int32)) = (a ≤ 4) := propext (i_ge (n := a) (k := 4) (by decide) h)
theorem lge_4 {a : Nat} (h : a < 2147483648) : (Int32.ofNat a ≥ (4 : Int32)) = (4 ≤ a) := propext (i_ge (n := 4) h (by decide))
theorem llt_4 {a : Nat} (h : a < 2147483648) : (Int32.ofNat a < (4 : Int32)) = (a < 4) := propext (i_lt (n := 4) h (by decide))
theorem lgt_4 {a : Nat} (h : a < 2147483648) : (Int32.ofNat a > (4 : Int32)) = (4 < a) := propext (i_lt (n := a) (k := 4) (by decide) h)
theorem leq_4 {a : Nat} (h : a < 2147483648) : (Int32.ofNat a = (4 : Int32)) = (a = 4) := propext (i_eq (n := 4) h (by decide))
theorem lle_5 {a : Nat} (h : a < 2147483648) : (Int32.ofNat a ≤ (5 : Int32)) = (a ≤ 5) := propext (i_ge (n := a) (k := 5) (by decide) h)
theorem lge_5 {a : Nat} (h : a < 2147483648) : (Int32.ofNat a ≥ (5 : Int32)) = (5 ≤ a) := propext (i_ge (n := 5) h (by decide))
theorem llt_5 {a : Nat} (h : a < 2147483648) : (Int32.ofNat a < (5 : Int32)) = (a < 5) := propext (i_lt (n := 5) h (by decide))
theorem lgt_5 {a : Nat} (h : a < 2147483648) : (Int32.ofNat a > (5 : Int32)) = (5 < a) := propext (i_lt (n := a) (k := 5) (by decide) h)
theorem leq_5 {a : Nat} (h : a < 2147483648) : (Int32.ofNat a = (5 : Int32)) = (a = 5) := propext (i_eq (n := 5) h (by decide))
theorem lle_6 {a : Nat} (h : a < 2147483648) : (Int32.ofNat a ≤ (6 : Int32)) = (a ≤ 6) := propext (i_ge (n := a) (k := 6) (by decide) h)
theorem lge_6 {a : Nat} (h : a < 2147483648) : (Int32.ofNat a ≥ (6 : Int32)) = (6 ≤ a) := propext (i_ge (n := 6) h (by decide))
theorem llt_6 {a : Nat} (h : a < 2147483648) : (Int32.ofNat a < (6 : Int32)) = (a < 6) := propext (i_lt (n := 6) h (by decide))
theorem lgt_6 {a : Nat} (h : a < 2147483648) : (Int32.ofNat a > (6 : Int32)) = (6 < a) := propext (i_lt (n := a) (k := 6) (by decide) h)
theorem leq_6 {a : Nat} (h : a < 2147483648) : (Int32.ofNat a = (6 : Int32)) = (a = 6) := propext (i_eq (n := 6) h (by decide))
theorem lle_7 {a : Nat} (h : a < 2147483648) : (Int32.ofNat a ≤ (7 : Int32)) = (a ≤ 7) := propext (i_ge (n := a) (k := 7) (by decide) h)
theorem lge_7 {a : Nat} (h : a < 2147483648) : (Int32.ofNat a ≥ (7 : Int32)) = (7 ≤ a) := propext (i_ge (n := 7) h (by decide))
theorem llt_7 {a : Nat} (h : a < 2147483648) : (Int32.ofNat a < (7 : Int32)) = (a < 7) := propext (i_lt (n := 7) h (by decide))
theorem lgt_7 {a : Nat} (h : a < 2147483648) : (Int32.ofNat a > (7 : Int32)) = (7 < a) := propext (i_lt (n := a) (k := 7) (by decide) h)
theorem leq_7 {a : Nat} (h : a < 2147483648) : (Int32.ofNat a = (7 : Int32)) = (a = 7) := propext (i_eq (n := 7) h (by decide))
theorem lle_11 {a : Nat} (h : a < 2147483648) : (Int32.ofNat a ≤ (11 : Int32)) = (a ≤ 11) := propext (i_ge (n := a) (k := 11) (by decide) h)
theorem lge_11 {a : Nat} (h : a < 2147483648) : (Int32.ofNat a ≥ (11 : Int32)) = (11 ≤ a) := propext (i_ge (n := 11) h (by decide))
theorem llt_11 {a : Nat} (h : a < 2147483648) : (Int32.ofNat a < (11 : Int32)) = (a < 11) := propext (i_lt (n := 11) h (by decide))
theorem lgt_11 {a : Nat} (h : a < 2147483648) : (Int32.ofNat a > (11 : Int32)) = (11 < a) := propext (i_lt (n := a) (k := 11) (by decide) h)
theorem leq_11 {a : Nat} (h : a < 2147483648) : (Int32.ofNat a = (11 : Int32)) = (a = 11) := propext (i_eq (n := 11) h (by decide))
theorem lle_12 {a : Nat} (h : a < 2147483648) : (Int32.ofNat a ≤ (12 : Int32)) = (a ≤ 12) := propext (i_ge (n := a) (k := 12) (by decide) h)
theorem lge_12 {a : Nat} (h : a < 2147483648) : (Int32.ofNat a ≥ (12 : Int32)) = (12 ≤ a) := propext (i_ge (n := 12) h (by decide))
theorem llt_12 {a : Nat} (h : a < 2147483648) : (Int32.ofNat a < (12 : Int32)) = (a < 12) := propext (i_lt (n := 12) h (by decide))
theorem lgt_12 {a : Nat} (h : a < 2147483648) : (Int32.ofNat a > (12 : Int32)) = (12 < a) := propext (i_lt (n := a) (k := 12) (by decide) h)
theorem leq_12 {a : Nat} (h : a < 2147483648) : (Int32.ofNat a = (12 : Int32)) = (a = 12) := propext (i_eq (n := 12) h (by decide))
theorem lle_15 {a : Nat} (h : a < 2147483648) : (Int32.ofNat a ≤ (15 : Int32)) = (a ≤ 15) := propext (i_ge (n := a) (k := 15) (by decide) h)
theorem lge_15 {a : Nat} (h : a < 2147483648) : (Int32.ofNat a ≥ (15 : Int32)) = (15 ≤ a) := propext (i_ge (n := 15) h (by decide))
theorem llt_15 {a : Nat} (h : a < 2147483648) : (Int32.ofNat a < (15 : Int32)) = (a < 15) := propext (i_lt (n := 15) h (by decide))
theorem lgt_15 {a : Nat} (h : a < 2147483648) : (Int32.ofNat a > (15 : Int32)) = (15 < a) := propext (i_lt (n := a) (k := 15) (by decide) h)
theorem leq_15 {a : Nat} (h : a < 2147483648) : (Int32.ofNat a = (15 : Int32)) = (a = 15) := propext (i_eq (n := 15) h (by decide))
theorem lle_20 {a : Nat} (h : a < 2147483648) : (Int32.ofNat a ≤ (20 : Int32)) = (a ≤ 20) := propext (i_ge (n := a) (k := 20) (by decide) h)
theorem lge_20 {a : Nat} (h : a < 2147483648) : (Int32.ofNat a ≥ (20 : Int32)) = (20 ≤ a) := propext (i_ge (n := 20) h (by decide))
theorem llt_20 {a : Nat} (h : a < 2147483648) : (Int32.ofNat a < (20 : Int32)) = (a < 20) := propext (i_lt (n := 20) h (by decide))
theorem lgt_20 {a : Nat} (h : a < 2147483648) : (Int32.ofNat a > (20 : Int32)) = (20 < a) := propext (i_lt (n := a) (k := 20) (by decide) h)
theorem leq_20 {a : Nat} (h : a < 2147483648) : (Int32.ofNat a = (20 : Int32)) = (a = 20) := propext (i_eq (n := 20) h (by decide))
theorem lle_24 {a : Nat} (h : a < 2147483648) : (Int32.ofNat a ≤ (24 : Int32)) = (a ≤ 24) := propext (i_ge (n := a) (k := 24) (by decide) h)
theorem lge_24 {a : Nat} (h : a < 2147483648) : (Int32.ofNat a ≥ (24 : Int32)) = (24 ≤ a) := propext (i_ge (n := 24) h (by decide))
theorem llt_24 {a : Nat} (h : a < 2147483648) : (Int32.ofNat a < (24 : Int32)) = (a < 24) := propext (i_lt (n := 24) h (by decide))
theorem lgt_24 {a : Nat} (h : a < 2147483648) : (Int32.ofNat a > (24 : Int32)) = (24 < a) := propext (i_lt (n := a) (k := 24) (by decide) h)
theorem leq_24 {a : Nat} (h : a < 2147483648) : (Int32.ofNat a = (24 : Int32)) = (a = 24) := propext (i_eq (n := 24) h (by decide))
theorem lle_25 {a : Nat} (h : a < 2147483648) : (Int32.ofNat a ≤ (25 : Int32)) = (a ≤ 25) := propext (i_ge (n := a) (k := 25) (by decide) h)
theorem lge_25 {a : Nat} (h : a < 2147483648) : (Int32.ofNat a ≥ (25 : Int32)) = (25 ≤ a) := propext (i_ge (n := 25) h (by decide))
theorem llt_25 {a : Nat} (h : a < 2147483648) : (Int32.ofNat a < (25 : Int32)) = (a < 25) := propext (i_lt (n := 25) h (by decide))
theorem lgt_25 {a : Nat} (h : a < 2147483648) : (Int32.ofNat a > (25 : Int32)) = (25 < a) := propext (i_lt (n := a) (k := 25) (by decide) h)
theorem leq_25 {a : Nat} (h : a < 2147483648) : (Int32.ofNat a = (25 : Int32)) = (a = 25) := propext (i_eq (n := 25) h (by decide))
theorem lle_31 {a : Nat} (h : a < 2147483648) : (Int32.ofNat a ≤ (31 : Int32)) = (a ≤ 31) := propext (i_ge (n := a) (k := 31) (by decide) h)
theorem lge_31 {a : Nat} (h : a < 2147483648) : (Int32.ofNat a ≥ (31 : Int32)) = (31 ≤ a) := propext (i_ge (n := 31) h (by decide))
theorem llt_31 {a : Nat} (h : a < 2147483648) : (Int32.ofNat a < (31 : Int32)) = (a < 31) := propext (i_lt (n := 31) h (by decide))
theorem lgt_31 {a : Nat} (h : a < 2147483648) : (Int32.ofNat a > (31 : Int32)) = (31 < a) := propext (i_lt (n := a) (k := 31) (by decide) h)
theorem leq_31 {a : Nat} (h : a < 2147483648) : (Int32.ofNat a = (31 : Int32)) = (a = 31) := propext (i_eq (n := 31) h (by decide))
theorem lle_48 {a : Nat} (h : a < 2147483648) : (Int32.ofNat a ≤ (48 : Int32)) = (a ≤ 48) := propext (i_ge (n := a) (k := 48) (by decide) h)
theorem lge_48 {a : Nat} (h : a < 2147483648) : (Int32.ofNat a ≥ (48 : Int32)) = (48 ≤ a) := propext (i_ge (n := 48) h (by decide))
theorem llt_48 {a : Nat} (h : a < 2147483648) : (Int32.ofNat a < (48 : Int32)) = (a < 48) := propext (i_lt (n := 48) h (by decide))
theorem lgt_48 {a : Nat} (h : a < 2147483648) : (Int32.ofNat a > (48 : Int32)) = (48 < a) := propext (i_lt (n := a) (k := 48) (by decide) h)
theorem leq_48 {a : Nat} (h : a < 2147483648) : (Int32.ofNat a = (48 : Int32)) = (a = 48) := propext (i_eq (n := 48) h (by decide))
theorem lle_57 {a : Nat} (h : a < 2147483648) : (Int32.ofNat a ≤ (57 : Int32)) = (a ≤ 57) := propext (i_ge (n := a) (k := 57) (by decide) h)
theorem lge_57 {a : Nat} (h : a < 2147483648) : (Int32.ofNat a ≥ (57 : Int32)) = (57 ≤ a) := propext (i_ge (n := 57) h (by decide))
theorem llt_57 {a : Nat} (h : a < 2147483648) : (Int32.ofNat a < (57 : Int32)) = (a < 57) := propext (i_lt (n := 57) h (by decide))
theorem lgt_57 {a : Nat} (h : a < 2147483648) : (Int32.ofNat a > (57 : Int32)) = (57 < a) := propext (i_lt (n := a) (k := 57) (by decide) h)
theorem leq_57 {a : Nat} (h : a < 2147483648) : (Int32.ofNat a = (57 : Int32)) = (a = 57) := propext (i_eq (n := 57) h (by decide))
theorem lle_32 {a : Nat} (h : a < 2147483648) : (Int32.ofNat a ≤ (32 : Int32)) = (a ≤ 32) := propext (i_ge (n := a) (k := 32) (by decide) h)
theorem lge_32 {a : Nat} (h : a < 2147483648) : (Int32.ofNat a ≥ (32 : Int32)) = (32 ≤ a) := propext (i_ge (n := 32) h (by decide))
theorem llt_32 {a : Nat} (h : a < 2147483648) : (Int32.ofNat a < (32 : Int32)) = (a < 32) := propext (i_lt (n := 32) h (by decide))
theorem lgt_32 {a : Nat} (h : a < 2147483648) : (Int32.ofNat a > (32 : Int32)) = (32 < a) := propext (i_lt (n := a) (k := 32) (by decide) h)
theorem leq_32 {a : Nat} (h : a < 2147483648) : (Int32.ofNat a = (32 : Int32)) = (a = 32) := propext (i_eq (n := 32) h (by decide))
theorem lle_59 {a : Nat} (h : a < 2147483648) : (Int32.ofNat a ≤ (59 : Int32)) = (a ≤ 59) := propext (i_ge (n := a) (k := 59) (by decide) h)
theorem lge_59 {a : Nat} (h : a < 2147483648) : (Int32.ofNat a ≥ (59 : Int32)) = (59 ≤ a) := propext (i_ge (n := 59) h (by decide))
theorem llt_59 {a : Nat} (h : a < 2147483648) : (Int32.ofNat a < (59 : Int32)) = (a < 59) := propext (i_lt (n := 59) h (by decide))
theorem lgt_59 {a : Nat} (h : a < 2147483648) : (Int32.ofNat a > (59 : Int32)) = (59 < a) := propext (i_lt (n := a) (k := 59) (by decide) h)
theorem leq_59 {a : Nat} (h : a < 2147483648) : (Int32.ofNat a = (59 : Int32)) = (a = 59) := propext (i_eq (n := 59) h (by decide))
theorem lle_97 {a : Nat} (h : a < 2147483648) : (Int32.ofNat a ≤ (97 : Int32)) = (a ≤ 97) := propext (i_ge (n := a) (k := 97) (by decide) h)
theorem lge_97 {a : Nat} (h : a < 2147483648) : (Int32.ofNat a ≥ (97 : Int32)) = (97 ≤ a) := propext (i_ge (n := 97) h (by decide))
theorem llt_97 {a : Nat} (h : a < 2147483648) : (Int32.ofNat a < (97 : Int32)) = (a < 97) := propext (i_lt (n := 97) h (by decide))
theorem lgt_97 {a : Nat} (h : a < 2147483648) : (Int32.ofNat a > (97 : Int32)) = (97 < a) := propext (i_lt (n := a) (k := 97) (by decide) h)
theorem leq_97 {a : Nat} (h : a < 2147483648) : (Int32.ofNat a = (97 : Int32)) = (a = 97) := propext (i_eq (n := 97) h (by decide))
theorem lle_122 {a : Nat} (h : a < 2147483648) : (Int32.ofNat a ≤ (122 : Int32)) = (a ≤ 122) := propext (i_ge (n := a) (k := 122) (by decide) h)
theorem lge_122 {a : Nat} (h : a < 2147483648) : (Int32.ofNat a ≥ (122 : Int32)) = (122 ≤ a) := propext (i_ge (n := 122) h (by decide))
theorem llt_122 {a : Nat} (h : a < 2147483648) : (Int32.ofNat a < (122 : Int32)) = (a < 122) := propext (i_lt (n := 122) h (by decide))
theorem lgt_122 {a : Nat} (h : a < 2147483648) : (Int32.ofNat a > (122 : Int32)) = (122 < a) := propext (i_lt (n := a) (k := 122) (by decide) h)
theorem leq_122 {a : Nat} (h : a < 2147483648) : (Int32.ofNat a = (122 : Int32)) = (a = 122) := propext (i_eq (n := 122) h (by decide))
theorem lle_99 {a : Nat} (h : a < 2147483648) : (Int32.ofNat a ≤ (99 : Int32)) = (a ≤ 99) := propext (i_ge (n := a) (k := 99) (by decide) h)
theorem lge_99 {a : Nat} (h : a < 2147483648) : (Int32.ofNat a ≥ (99 : Int32)) = (99 ≤ a) := propext (i_ge (n := 99) h (by decide))
theorem llt_99 {a : Nat} (h : a < 2147483648) : (Int32.ofNat a < (99 : Int32)) = (a < 99) := propext (i_lt (n := 99) h (by decide))
theorem lgt_99 {a : Nat} (h : a < 2147483648) : (Int32.ofNat a > (99 : Int32)) = (99 < a) := propext (i_lt (n := a) (k := 99) (by decide) h)
theorem leq_99 {a : Nat} (h : a < 2147483648) : (Int32.ofNat a = (99 : Int32)) = (a = 99) := propext (i_eq (n := 99) h (by decide))
theorem lle_100 {a : Nat} (h : a < 2147483648) : (Int32.ofNat a ≤ (100 : Int32)) = (a ≤ 100) := propext (i_ge (n := a) (k := 100) (by decide) h)
theorem lge_100 {a : Nat} (h : a < 2147483648) : (Int32.ofNat a ≥ (100 : Int32)) = (100 ≤ a) := propext (i_ge (n := 100) h (by decide))
theorem llt_100 {a : Nat} (h : a < 2147483648) : (Int32.ofNat a < (100 : Int32)) = (a < 100) := propext (i_lt (n := 100) h (by decide))
theorem lgt_100 {a : Nat} (h : a < 2147483648) : (Int32.ofNat a > (100 : Int32)) = (100 < a) := propext (i_lt (n := a) (k := 100) (by decide) h)
theorem leq_100 {a : Nat} (h : a < 2147483648) : (Int32.ofNat a = (100 : Int32)) = (a = 100) := propext (i_eq (n := 100) h (by decide))
theorem lle_144 {a : Nat} (h : a < 2147483648) : (Int32.ofNat a ≤ (144 : Int32)) = (a ≤ 144) := propext (i_ge (n := a) (k := 144) (by decide) h)
theorem lge_144 {a : Nat} (h : a < 2147483648) : (Int32.ofNat a ≥ (144 : Int32)) = (144 ≤ a) := propext (i_ge (n := 144) h (by decide))
theorem llt_144 {a : Nat} (h : a < 2147483648) : (Int32.ofNat a < (144 : Int32)) = (a < 144) := propext (i_lt (n := 144) h (by decide))
theorem lgt_144 {a : Nat} (h : a < 2147483648) : (Int32.ofNat a > (144 : Int32)) = (144 < a) := propext (i_lt (n := a) (k := 144) (by decide) h)
theorem leq_144 {a : Nat} (h : a < 2147483648) : (Int32.ofNat a = (144 : Int32)) = (a = 144) := propext (i_eq (n := 144) h (by decide))
theorem lle_255 {a : Nat} (h : a < 2147483648) : (Int32.ofNat a ≤ (255 : Int32)) = (a ≤ 255) := propext (i_ge (n := a) (k := 255) (by decide) h)
theorem lge_255 {a : Nat} (h : a < 2147483648) : (Int32.ofNat a ≥ (255 : Int32)) = (255 ≤ a) := propext (i_ge (n := 255) h (by decide))
theorem llt_255 {a : Nat} (h : a < 2147483648) : (Int32.ofNat a < (255 : Int32)) = (a < 255) := propext (i_lt (n := 255) h (by decide))
theorem lgt_255 {a : Nat} (h : a < 2147483648) : (Int32.ofNat a > (255 : Int32)) = (255 < a) := propext (i_lt (n := a) (k := 255) (by decide) h)
theorem leq_255 {a : Nat} (h : a < 2147483648) : (Int32.ofNat a = (255 : Int32)) = (a = 255) := propext (i_eq (n := 255) h (by decide))
theorem lle_300 {a : Nat} (h : a < 2147483648) : (Int32.ofNat a ≤ (300 : Int32)) = (a ≤ 300) := propext (i_ge (n := a) (k := 300) (by decide) h)
theorem lge_300 {a : Nat} (h : a < 2147483648) : (Int32.ofNat a ≥ (300 : Int32)) = (300 ≤ a) := propext (i_ge (n := 300) h (by decide))
theorem llt_300 {a : Nat} (h : a < 2147483648) : (Int32.ofNat a < (300 : Int32)) = (a < 300) := propext (i_lt (n := 300) h (by decide))
theorem lgt_300 {a : Nat} (h : a < 2147483648) : (Int32.ofNat a > (300 : Int32)) = (300 < a) := propext (i_lt (n := a) (k := 300) (by decide) h)
theorem leq_300 {a : Nat} (h : a < 2147483648) : (Int32.ofNat a = (300 : Int32)) = (a = 300) := propext (i_eq (n := 300) h (by decide))
theorem lle_1000 {a : Nat} (h : a < 2147483648) : (Int32.ofNat a ≤ (1000 : Int32)) = (a ≤ 1000) := propext (i_ge (n := a) (k := 1000) (by decide) h)
theorem lge_1000 {a : Nat} (h : a < 2147483648) : (Int32.ofNat a ≥ (1000 : Int32)) = (1000 ≤ a) := propext (i_ge (n := 1000) h (by decide))
theorem llt_1000 {a : Nat} (h : a < 2147483648) : (Int32.ofNat a < (1000 : Int32)) = (a < 1000) := propext (i_lt (n := 1000) h (by decide))
theorem lgt_1000 {a : Nat} (h : a < 2147483648) : (Int32.ofNat a > (1000 : Int32)) = (1000 < a) := propext (i_lt (n := a) (k := 1000) (by decide) h)
theorem leq_1000 {a : Nat} (h : a < 2147483648) : (Int32.ofNat a = (1000 : Int32)) = (a = 1000) := propext (i_eq (n := 1000) h (by decide))
theorem lle_1000000 {a : Nat} (h : a < 2147483648) : (Int32.ofNat a ≤ (1000000 : Int32)) = (a ≤ 1000000) := propext (i_ge (n := a) (k := 1000000) (by decide) h)
theorem lge_1000000 {a : Nat} (h : a < 2147483648) : (Int32.ofNat a ≥ (1000000 : Int32)) = (1000000 ≤ a) := propext (i_ge (n := 1000000) h (by decide))
theorem llt_1000000 {a : Nat} (h : a < 2147483648) : (Int32.ofNat a < (1000000 : Int32)) = (a < 1000000) := propext (i_lt (n := 1000000) h (by decide))
theorem lgt_1000000 {a : Nat} (h : a < 2147483648) : (Int32.ofNat a > (1000000 : Int32)) = (1000000 < a) := propext (i_lt (n := a) (k := 1000000) (by decide) h)
theorem leq_1000000 {a : Nat} (h : a < 2147483648) : (Int32.ofNat a = (1000000 : Int32)) = (a = 1000000) := propext (i_eq (n := 1000000) h (by decide))
theorem lle_4096 {a : Nat} (h : a < 2147483648) : (Int32.ofNat a ≤ (4096 : Int32)) = (a ≤ 4096) := propext (i_ge (n := a) (k := 4096) (by decide) h)
theorem lge_4096 {a : Nat} (h : a < 2147483648) : (Int32.ofNat a ≥ (4096 : Int32)) = (4096 ≤ a) := propext (i_ge (n := 4096) h (by decide))
theorem llt_4096 {a : Nat} (h : a < 2147483648) : (Int32.ofNat a < (4096 : Int32)) = (a < 4096) := propext (i_lt (n := 4096) h (by decide))
theorem lgt_4096 {a : Nat} (h : a < 2147483648) : (Int32.ofNat a > (4096 : Int32)) = (4096 < a) := propext (i_lt (n := a) (k := 4096) (by decide) h)
theorem leq_4096 {a : Nat} (h : a < 2147483648) : (Int32.ofNat a = (4096 : Int32)) = (a = 4096) := propext (i_eq (n := 4096) h (by decide))
