/-! MATHEMATICS: sums; assignments counted by their cost, forwards and backwards -/
def sgm (f : Nat → Nat) : Nat → Nat
  | 0 => 0
  | n + 1 => sgm f n + f n
theorem sgm_congr {f g : Nat → Nat} : ∀ {n : Nat}, (∀ k, k < n → f k = g k) → sgm f n = sgm g n
  | 0, _ => rfl
  | n + 1, h => by
    show sgm f n + f n = sgm g n + g n
    rw [sgm_congr fun k hk => h k (by omega), h n (by omega)]
theorem sgm_add (f g : Nat → Nat) : ∀ n : Nat, sgm (fun k => f k + g k) n = sgm f n + sgm g n
  | 0 => rfl
  | n + 1 => by
    show sgm (fun k => f k + g k) n + (f n + g n) = sgm f n + f n + (sgm g n + g n)
    rw [sgm_add f g n]; omega
theorem sgm_zero {f : Nat → Nat} : ∀ {n : Nat}, (∀ k, k < n → f k = 0) → sgm f n = 0
  | 0, _ => rfl
  | n + 1, h => by
    show sgm f n + f n = 0
    rw [sgm_zero fun k hk => h k (by omega), h n (by omega)]
theorem sgm_mul (c : Nat) (f : Nat → Nat) : ∀ n : Nat, sgm (fun k => c * f k) n = c * sgm f n
  | 0 => rfl
  | n + 1 => by
    show sgm (fun k => c * f k) n + c * f n = c * (sgm f n + f n)
    rw [sgm_mul c f n, Nat.mul_add]
theorem sgm_mul' (c : Nat) (f : Nat → Nat) (n : Nat) : sgm (fun k => f k * c) n = sgm f n * c := by
  rw [Nat.mul_comm, ← sgm_mul]
  exact sgm_congr fun k _ => Nat.mul_comm _ _
theorem sgm_swap (f : Nat → Nat → Nat) (m : Nat) : ∀ n : Nat, sgm (fun i => sgm (f i) m) n = sgm (fun j => sgm (fun i => f i j) n) m
  | 0 => (sgm_zero fun _ _ => rfl).symm
  | n + 1 => by
    show sgm (fun i => sgm (f i) m) n + sgm (f n) m = sgm (fun j => sgm (fun i => f i j) n + f n j) m
    rw [sgm_swap f m n, sgm_add]
theorem sgm_one {a c : Nat} : ∀ {n : Nat}, a < n → sgm (fun k => if k = a then c else 0) n = c
  | n + 1, h => by
    show sgm (fun k => if k = a then c else 0) n + (if n = a then c else 0) = c
    by_cases z : n = a
    · rw [if_pos z, sgm_zero fun k hk => if_neg (by omega), Nat.zero_add]
    · rw [if_neg z, sgm_one (by omega), Nat.add_zero]
/-- each term somewhere else -/
theorem sgm_inv {f p : Nat → Nat} {n : Nat} (h1 : ∀ k, k < n → p k < n) (h2 : ∀ k, k < n → p (p k) = k) : sgm (fun k => f (p k)) n = sgm f n := by
  have a : sgm (fun k => f (p k)) n = sgm (fun k => sgm (fun t => if t = p k then f t else 0) n) n := sgm_congr fun k hk => by
    have : sgm (fun t => if t = p k then f t else 0) n = sgm (fun t => if t = p k then f (p k) else 0) n := sgm_congr fun t _ => by
      by_cases z : t = p k
      · rw [if_pos z, if_pos z, z]
      · rw [if_neg z, if_neg z]
    rw [this, sgm_one (h1 k hk)]
  rw [a, sgm_swap]
  refine sgm_congr fun t ht => ?_
  have : sgm (fun k => if t = p k then f t else 0) n = sgm (fun k => if k = p t then f t else 0) n := sgm_congr fun k hk => by
    by_cases z : t = p k
    · rw [if_pos z, if_pos (by rw [z, h2 k hk])]
    · rw [if_neg z, if_neg fun y => z (by rw [y, h2 t ht])]
  rw [this, sgm_one (h1 t ht)]
theorem sgm_shift (c : Nat) (g : Nat → Nat) : ∀ k : Nat, sgm (fun u => if c ≤ u then g (u - c) else 0) (c + k) = sgm g k
  | 0 => sgm_zero fun u hu => if_neg (by omega)
  | k + 1 => by
    show sgm (fun u => if c ≤ u then g (u - c) else 0) (c + k) + (if c ≤ c + k then g (c + k - c) else 0) = sgm g k + g k
    rw [sgm_shift c g k, if_pos (by omega), show c + k - c = k by omega]
theorem sgm_cut {f : Nat → Nat} {k : Nat} : ∀ c : Nat, (∀ u, k ≤ u → f u = 0) → sgm f (k + c) = sgm f k
  | 0, _ => rfl
  | c + 1, h => by
    show sgm f (k + c) + f (k + c) = sgm f k
    rw [sgm_cut c h, h (k + c) (by omega), Nat.add_zero]
theorem sgm_sh2 (v c : Nat) (g : Nat → Nat → Nat) : sgm (fun u => if c ≤ u then g (u - c) (v - u) else 0) (v + 1) = sgm (fun u => if c ≤ v - u then g u (v - u - c) else 0) (v + 1) := by
  by_cases h : c ≤ v
  · have a := sgm_shift c (fun u => g u (v - u - c)) (v + 1 - c)
    rw [show c + (v + 1 - c) = v + 1 by omega] at a
    have b : sgm (fun u => if c ≤ u then g (u - c) (v - u) else 0) (v + 1) = sgm (fun u => if c ≤ u then (fun u => g u (v - u - c)) (u - c) else 0) (v + 1) := sgm_congr fun u hu => by
      by_cases z : c ≤ u
      · rw [if_pos z, if_pos z]
        show g (u - c) (v - u) = g (u - c) (v - (u - c) - c)
        rw [show v - (u - c) - c = v - u by omega]
      · rw [if_neg z, if_neg z]
    rw [b, a]
    have d := sgm_cut (f := fun u => if c ≤ v - u ∧ u ≤ v then g u (v - u - c) else 0) (k := v + 1 - c) c (fun u hu => if_neg (by omega))
    rw [show v + 1 - c + c = v + 1 by omega] at d
    have e : sgm (fun u => if c ≤ v - u then g u (v - u - c) else 0) (v + 1) = sgm (fun u => if c ≤ v - u ∧ u ≤ v then g u (v - u - c) else 0) (v + 1) := sgm_congr fun u hu => by
      by_cases z : c ≤ v - u
      · rw [if_pos z, if_pos ⟨z, by omega⟩]
      · rw [if_neg z, if_neg fun y => z y.1]
    rw [e, d]
    exact sgm_congr fun u hu => by rw [if_pos ⟨by omega, by omega⟩]
  · rw [sgm_zero fun u hu => if_neg (by omega), sgm_zero fun u hu => if_neg (by omega)]
section Ta
variable (E : Nat → Nat → Bool) (c : Nat → Nat → Nat)
/-- assignments of the first i workers: how many use the tasks S and cost v -/
def NF : Nat → Nat → Nat → Nat
  | 0, S, v => if S = 0 ∧ v = 0 then 1 else 0
  | i + 1, S, v => NF i S v + sgm (fun j => if (S.testBit j = true ∧ E i j = true) ∧ c i j ≤ v then NF i (S ^^^ 2 ^ j) (v - c i j) else 0) 12
/-- assignments of the last d of n workers behind the tasks S, to N tasks in all, that cost v -/
def MB (n N : Nat) : Nat → Nat → Nat → Nat
  | 0, S, v => if cnt (fun k => S.testBit k) 12 = N ∧ v = 0 then 1 else 0
  | d + 1, S, v => MB n N d S v + sgm (fun j => if (S.testBit j = false ∧ E (n - (d + 1)) j = true) ∧ c (n - (d + 1)) j ≤ v then MB n N d (S ^^^ 2 ^ j) (v - c (n - (d + 1)) j) else 0) 12
def QF (n N i v : Nat) : Nat := sgm (fun S => sgm (fun u => NF E c i S u * MB E c n N (n - i) S (v - u)) (v + 1)) 4096
end Ta
section Tb
variable {E : Nat → Nat → Bool} {c : Nat → Nat → Nat} {n N : Nat}
theorem xor_lt {S j : Nat} (h : S < 4096) (hj : j < 12) : S ^^^ 2 ^ j < 4096 := Nat.xor_lt_two_pow (n := 12) h (Nat.pow_lt_pow_right (by decide) hj)
theorem xor_xor {S j : Nat} : S ^^^ 2 ^ j ^^^ 2 ^ j = S := by rw [Nat.xor_assoc, Nat.xor_self, Nat.xor_zero]
theorem xor_bit {S j : Nat} : (S ^^^ 2 ^ j).testBit j = !S.testBit j := by rw [Nat.testBit_xor, Nat.testBit_two_pow_self, Bool.xor_true]
theorem MB_succ (d S v : Nat) : MB E c n N (d + 1) S v = MB E c n N d S v + sgm (fun j => if (S.testBit j = false ∧ E (n - (d + 1)) j = true) ∧ c (n - (d + 1)) j ≤ v then MB E c n N d (S ^^^ 2 ^ j) (v - c (n - (d + 1)) j) else 0) 12 := rfl
/-- forwards and backwards meet anywhere -/
theorem QF_step {i v : Nat} (hi : i < n) : QF E c n N (i + 1) v = QF E c n N i v := by
  obtain ⟨d, hd⟩ : ∃ d, n - i = d + 1 := ⟨n - i - 1, by omega⟩
  have hd1 : n - (i + 1) = d := by omega
  have hw : n - (d + 1) = i := by omega
  unfold QF
  rw [hd, hd1]
  have l : ∀ S, S < 4096 → sgm (fun u => NF E c (i + 1) S u * MB E c n N d S (v - u)) (v + 1) = sgm (fun u => NF E c i S u * MB E c n N d S (v - u)) (v + 1) + sgm (fun j => sgm (fun u => (if (S.testBit j = true ∧ E i j = true) ∧ c i j ≤ u then NF E c i (S ^^^ 2 ^ j) (u - c i j) else 0) * MB E c n N d S (v - u)) (v + 1)) 12 := fun S _ => by
    rw [← sgm_swap, ← sgm_add]
    refine sgm_congr fun u _ => ?_
    rw [sgm_mul', ← Nat.add_mul]; rfl
  have r : ∀ S, S < 4096 → sgm (fun u => NF E c i S u * MB E c n N (d + 1) S (v - u)) (v + 1) = sgm (fun u => NF E c i S u * MB E c n N d S (v - u)) (v + 1) + sgm (fun j => sgm (fun u => NF E c i S u * (if (S.testBit j = false ∧ E i j = true) ∧ c i j ≤ v - u then MB E c n N d (S ^^^ 2 ^ j) (v - u - c i j) else 0)) (v + 1)) 12 := fun S _ => by
    rw [← sgm_swap, ← sgm_add]
    refine sgm_congr fun u _ => ?_
    rw [sgm_mul, ← Nat.mul_add, MB_succ, hw]
  rw [sgm_congr l, sgm_congr r, sgm_add, sgm_add]
  refine Nat.add_left_cancel_iff.mpr ?_
  rw [sgm_swap, sgm_swap (n := 4096)]
  refine sgm_congr fun j hj => ?_
  rw [← sgm_inv (f := fun S => sgm (fun u => (if (S.testBit j = true ∧ E i j = true) ∧ c i j ≤ u then NF E c i (S ^^^ 2 ^ j) (u - c i j) else 0) * MB E c n N d S (v - u)) (v + 1)) (p := fun S => S ^^^ 2 ^ j) (fun k hk => xor_lt hk hj) (fun k _ => xor_xor)]
  refine sgm_congr fun S hS => ?_
  show sgm (fun u => (if ((S ^^^ 2 ^ j).testBit j = true ∧ E i j = true) ∧ c i j ≤ u then NF E c i (S ^^^ 2 ^ j ^^^ 2 ^ j) (u - c i j) else 0) * MB E c n N d (S ^^^ 2 ^ j) (v - u)) (v + 1) = _
  rw [xor_xor, xor_bit]
  by_cases z : S.testBit j = false ∧ E i j = true
  · have z' : (!S.testBit j) = true ∧ E i j = true := ⟨by rw [z.1]; rfl, z.2⟩
    have a := sgm_sh2 v (c i j) (fun x y => NF E c i S x * MB E c n N d (S ^^^ 2 ^ j) y)
    refine Eq.trans (sgm_congr fun u _ => ?_) (a.trans (sgm_congr fun u _ => ?_))
    · by_cases y : c i j ≤ u
      · rw [if_pos ⟨z', y⟩, if_pos y]
      · rw [if_neg fun x => y x.2, if_neg y, Nat.zero_mul]
    · by_cases y : c i j ≤ v - u
      · rw [if_pos y, if_pos ⟨z, y⟩]
      · rw [if_neg y, if_neg fun x => y x.2, Nat.mul_zero]
  · have z' : ¬ ((!S.testBit j) = true ∧ E i j = true) := fun x => z ⟨by simpa using x.1, x.2⟩
    rw [sgm_zero fun u _ => by rw [if_neg fun x => z' x.1, Nat.zero_mul], sgm_zero fun u _ => by rw [if_neg fun x => z x.1, Nat.mul_zero]]
theorem QF_all (v : Nat) : ∀ i, i ≤ n → QF E c n N i v = QF E c n N 0 v
  | 0, _ => rfl
  | i + 1, h => by rw [QF_step (by omega), QF_all v i (by omega)]
/-- all behind nothing = all at the end, of N tasks -/
theorem MB_NF (v : Nat) : MB E c n N n 0 v = sgm (fun S => if cnt (fun k => S.testBit k) 12 = N then NF E c n S v else 0) 4096 := by
  have a := QF_all (E := E) (c := c) (N := N) (n := n) v n (Nat.le_refl n)
  have e0 : QF E c n N 0 v = MB E c n N n 0 v := by
    unfold QF
    have : ∀ S, S < 4096 → sgm (fun u => NF E c 0 S u * MB E c n N (n - 0) S (v - u)) (v + 1) = if S = 0 then MB E c n N n 0 v else 0 := fun S _ => by
      by_cases z : S = 0
      · rw [if_pos z, z]
        have : sgm (fun u => NF E c 0 0 u * MB E c n N (n - 0) 0 (v - u)) (v + 1) = sgm (fun u => if u = 0 then MB E c n N n 0 v else 0) (v + 1) := sgm_congr fun u _ => by
          show (if 0 = 0 ∧ u = 0 then 1 else 0) * _ = _
          by_cases y : u = 0
          · rw [if_pos ⟨rfl, y⟩, if_pos y, Nat.one_mul, y]; rfl
          · rw [if_neg fun x => y x.2, if_neg y, Nat.zero_mul]
        rw [this, sgm_one (Nat.succ_pos v)]
      · rw [if_neg z]
        exact sgm_zero fun u _ => by
          show (if S = 0 ∧ u = 0 then 1 else 0) * _ = 0
          rw [if_neg fun x => z x.1, Nat.zero_mul]
    rw [sgm_congr this, sgm_one (by decide)]
  rw [← e0, ← a]
  unfold QF
  refine sgm_congr fun S _ => ?_
  rw [Nat.sub_self]
  have : sgm (fun u => NF E c n S u * MB E c n N 0 S (v - u)) (v + 1) = sgm (fun u => if u = v then (if cnt (fun k => S.testBit k) 12 = N then NF E c n S v else 0) else 0) (v + 1) := sgm_congr fun u hu => by
    show NF E c n S u * (if cnt (fun k => S.testBit k) 12 = N ∧ v - u = 0 then 1 else 0) = _
    by_cases y : u = v
    · rw [if_pos y]
      by_cases x : cnt (fun k => S.testBit k) 12 = N
      · rw [if_pos ⟨x, by omega⟩, if_pos x, Nat.mul_one, y]
      · rw [if_neg fun q => x q.1, if_neg x, Nat.mul_zero]
    · rw [if_neg fun q => y (by omega), if_neg y, Nat.mul_zero]
  rw [this, sgm_one (Nat.lt_succ_self v)]
end Tb
