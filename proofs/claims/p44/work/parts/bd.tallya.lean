/-! MATHEMATICS: forwards and backwards meet; the pairings of most pairs -/
section Me
variable {E : Nat → Nat → Bool} {c : Nat → Nat → Nat} {N : Nat}
def MEET (E : Nat → Nat → Bool) (c : Nat → Nat → Nat) (N i v x : Nat) : Prop := ∃ S, S < 4096 ∧ ∃ u y u' y', (u, y) ∈ AL E c i S ∧ BP E c N (12 - i) S u' y' ∧ v = u + u' ∧ x = y + y'
theorem dg_pow {i d : Nat} (h : 12 - i = d + 1) : dg i = 13 ^ d := by unfold dg; rw [show 11 - i = d by omega]
theorem meet_step {i v x : Nat} (hi : i < 12) : MEET E c N i v x ↔ MEET E c N (i + 1) v x := by
  obtain ⟨d, hd⟩ : ∃ d, 12 - i = d + 1 := ⟨11 - i, by omega⟩
  have hd1 : 12 - (i + 1) = d := by omega
  have hw : 12 - (d + 1) = i := by omega
  have ed := dg_pow hd
  unfold MEET
  rw [hd, hd1]
  constructor
  · rintro ⟨S, hS, u, y, u', y', a, b, ev, ex⟩
    rcases b with ⟨z, b, e⟩ | ⟨j, hj, s, e, u2, z, b, e1, e2⟩
    · exact ⟨S, hS, u, y + 12 * 13 ^ d, u', z, mem_AL.mpr (Or.inl ⟨y, a, by rw [ed]⟩), b, ev, by omega⟩
    · rw [hw] at e e1
      exact ⟨S ^^^ 2 ^ j, xor_lt hS hj, u + c i j, y + j * 13 ^ d, u2, z, mem_AL.mpr (Or.inr ⟨j, hj, by rw [xor_bit, s]; rfl, e, u, y, by rw [xor_xor]; exact a, rfl, by rw [ed]⟩), b, by omega, by omega⟩
  · rintro ⟨S, hS, u, y, u', y', a, b, ev, ex⟩
    rcases mem_AL.mp a with ⟨z, a, e⟩ | ⟨j, hj, s, e, u2, z, a, e1, e2⟩
    · rw [ed] at e
      exact ⟨S, hS, u, z, u', y' + 12 * 13 ^ d, a, Or.inl ⟨y', b, rfl⟩, ev, by omega⟩
    · rw [ed] at e2
      exact ⟨S ^^^ 2 ^ j, xor_lt hS hj, u2, z, u' + c i j, y' + j * 13 ^ d, a, Or.inr ⟨j, hj, by rw [xor_bit, s]; rfl, by rw [hw]; exact e, u', y', by rw [xor_xor]; exact b, by rw [hw], rfl⟩, by omega, by omega⟩
theorem meet_all {v x : Nat} : (∃ S, S < 4096 ∧ cnt (fun k => S.testBit k) 12 = N ∧ (v, x) ∈ AL E c 12 S) ↔ BP E c N 12 0 v x := by
  have up : ∀ i, i ≤ 12 → (MEET E c N 0 v x ↔ MEET E c N i v x) := by
    intro i
    induction i with
    | zero => exact fun _ => Iff.rfl
    | succ i ih => exact fun h => (ih (by omega)).trans (meet_step (by omega))
  have up := up 12 (Nat.le_refl 12)
  constructor
  · rintro ⟨S, hS, hn, a⟩
    have b0 : BP E c N (12 - 12) S 0 0 := ⟨hn, rfl, rfl⟩
    obtain ⟨S', _, u, y, u', y', a', b, ev, ex⟩ := up.mpr ⟨S, hS, v, x, 0, 0, a, b0, by omega, by omega⟩
    have a' : (u, y) ∈ (if S' = 0 then [(0, 0)] else [] : Fam) := a'
    have b : BP E c N 12 S' u' y' := b
    by_cases z : S' = 0
    · rw [if_pos z] at a'
      have e := List.mem_singleton.mp a'
      have e1 : u = 0 := congrArg Prod.fst e
      have e2 : y = 0 := congrArg Prod.snd e
      rw [z] at b
      rw [show v = u' by omega, show x = y' by omega]
      exact b
    · rw [if_neg z] at a'
      exact absurd a' List.not_mem_nil
  · intro b
    have a0 : ((0, 0) : Nat × Nat) ∈ AL E c 0 0 := by
      show ((0, 0) : Nat × Nat) ∈ (if (0 : Nat) = 0 then [(0, 0)] else [] : Fam)
      rw [if_pos rfl]; exact List.mem_singleton.mpr rfl
    obtain ⟨S, hS, u, y, u', y', a, b, ev, ex⟩ := up.mp ⟨0, by decide, 0, 0, v, x, a0, b, by omega, by omega⟩
    have b : cnt (fun k => S.testBit k) 12 = N ∧ u' = 0 ∧ y' = 0 := b
    refine ⟨S, hS, b.1, ?_⟩
    rw [show v = u by omega, show x = y by omega]
    exact a
/-- the assignments of N tasks, set by set -/
def FN (E : Nat → Nat → Bool) (c : Nat → Nat → Nat) (N full : Nat) : Fam := catj (fun S => if cnt (fun k => S.testBit k) 12 = N then AL E c 12 S else []) full
theorem mem_FN {m v x : Nat} (hm : m ≤ 12) (hE : ∀ i j, E i j = true → j < m) : (v, x) ∈ FN E c N (2 ^ m) ↔ BP E c N 12 0 v x := by
  have f4 : 2 ^ m ≤ 4096 := Nat.pow_le_pow_right (n := 2) (by decide) hm
  unfold FN
  rw [mem_catj, ← meet_all]
  constructor
  · rintro ⟨S, hS, a⟩
    by_cases z : cnt (fun k => S.testBit k) 12 = N
    · rw [if_pos z] at a
      exact ⟨S, by omega, z, a⟩
    · rw [if_neg z] at a
      exact absurd a List.not_mem_nil
  · rintro ⟨S, hS, z, a⟩
    exact ⟨S, AL_full hE 12 S (List.ne_nil_of_mem a), by rw [if_pos z]; exact a⟩
theorem nOf_FN {m v : Nat} (hm : m ≤ 12) (hE : ∀ i j, E i j = true → j < m) : nOf (FN E c N (2 ^ m)) v = MB E c 12 N 12 0 v := by
  have f4 : 2 ^ m ≤ 4096 := Nat.pow_le_pow_right (n := 2) (by decide) hm
  unfold FN
  rw [nOf_catj, MB_NF]
  obtain ⟨e, he⟩ : ∃ e, 2 ^ m + e = 4096 := ⟨4096 - 2 ^ m, by omega⟩
  have a : sgm (fun S => nOf (if cnt (fun k => S.testBit k) 12 = N then AL E c 12 S else []) v) (2 ^ m) = sgm (fun S => if cnt (fun k => S.testBit k) 12 = N then NF E c 12 S v else 0) (2 ^ m) := sgm_congr fun S _ => by
    show nOf (if cnt (fun k => S.testBit k) 12 = N then AL E c 12 S else []) v = if cnt (fun k => S.testBit k) 12 = N then NF E c 12 S v else 0
    by_cases z : cnt (fun k => S.testBit k) 12 = N
    · rw [if_pos z, if_pos z, AL_NF]
    · rw [if_neg z, if_neg z]; rfl
  have b := sgm_cut (f := fun S => if cnt (fun k => S.testBit k) 12 = N then NF E c 12 S v else 0) (k := 2 ^ m) e (fun S hS => by
    show (if cnt (fun k => S.testBit k) 12 = N then NF E c 12 S v else 0) = 0
    have : NF E c 12 S v = 0 := by
      rw [← AL_NF]
      by_cases z : AL E c 12 S = []
      · rw [z]; rfl
      · have := AL_full hE 12 S z; omega
    rw [this]; split <;> rfl)
  rw [he] at b
  rw [a, b]
theorem FN_least {m L k : Nat} (hc : ∀ w t, c w t ≤ 99) (hm : m ≤ 12) (hE : ∀ i j, E i j = true → j < m) (h : Lst (FN E c N (2 ^ m)) L k) : L = lsB E c N 12 0 ∧ k = gc E c N 12 0 ∧ nOf (FN E c N (2 ^ m)) L = lsW E c N 12 0 ∧ lsB E c N 12 0 < 1000000 := by
  obtain ⟨a, b⟩ := h
  have p := (mem_FN hm hE).mp a
  obtain ⟨l1, l2⟩ := BP_ls hc (Nat.le_refl 12) p
  have q := gc_BP 12 0 l2
  have r := b _ ((mem_FN hm hE).mpr q)
  have r : L < lsB E c N 12 0 ∨ (L = lsB E c N 12 0 ∧ k ≤ gc E c N 12 0) := r
  have eL : L = lsB E c N 12 0 := by omega
  rw [eL] at p
  have g := gc_min hc 12 0 k (Nat.le_refl 12) p
  refine ⟨eL, by omega, ?_, l2⟩
  rw [nOf_FN hm hE, eL]
  rcases lsB_main (E := E) (N := N) hc 12 0 (Nat.le_refl 12) with ⟨z, _⟩ | ⟨_, _, z, _⟩
  · omega
  · exact z
/-- the tasks of the first i workers in M -/
def sM (M : Nat → Nat) : Nat → Nat
  | 0 => 0
  | i + 1 => if M i < 12 then sM M i ^^^ 2 ^ M i else sM M i
theorem sM_bit {M : Nat → Nat} (h : Mt M) : ∀ (i t : Nat), (sM M i).testBit t = true ↔ ∃ w, w < i ∧ M w < 12 ∧ M w = t
  | 0, t => ⟨fun z => absurd z (by show ¬ Nat.testBit 0 t = true; simp), fun ⟨w, a, _⟩ => absurd a (Nat.not_lt_zero _)⟩
  | i + 1, t => by
    have ih := sM_bit h i t
    show (if M i < 12 then sM M i ^^^ 2 ^ M i else sM M i).testBit t = true ↔ _
    by_cases z : M i < 12
    · rw [if_pos z]
      by_cases y : M i = t
      · have n : (sM M i).testBit t = false := by
          cases q : (sM M i).testBit t with
          | false => rfl
          | true =>
            obtain ⟨w, a, b, d⟩ := ih.mp q
            have := h.2.2 w i b (d.trans y.symm)
            omega
        rw [y, xor_bit, n]
        exact ⟨fun _ => ⟨i, by omega, z, y⟩, fun _ => rfl⟩
      · rw [Nat.testBit_xor, Nat.testBit_two_pow, decide_eq_false y, Bool.xor_false, ih]
        constructor
        · rintro ⟨w, a, b⟩
          exact ⟨w, by omega, b⟩
        · rintro ⟨w, a, b, d⟩
          by_cases x : w = i
          · rw [x] at d; exact absurd d y
          · exact ⟨w, by omega, b, d⟩
    · rw [if_neg z, ih]
      constructor
      · rintro ⟨w, a, b⟩
        exact ⟨w, by omega, b⟩
      · rintro ⟨w, a, b, d⟩
        by_cases x : w = i
        · rw [x] at b; exact absurd b z
        · exact ⟨w, by omega, b, d⟩
theorem sM_new {M : Nat → Nat} (h : Mt M) {i : Nat} (hi : M i < 12) : (sM M i).testBit (M i) = false := by
  cases q : (sM M i).testBit (M i) with
  | false => rfl
  | true =>
    obtain ⟨w, a, b, d⟩ := (sM_bit h i _).mp q
    have := h.2.2 w i b d
    omega
theorem sM_cnt {M : Nat → Nat} (h : Mt M) : ∀ i : Nat, cnt (fun k => (sM M i).testBit k) 12 = cnt (fun w => decide (M w < 12)) i
  | 0 => by
    show _ = 0
    exact cnt_zero fun k _ => by show Nat.testBit 0 k = false; simp
  | i + 1 => by
    have ih := sM_cnt h i
    show cnt (fun k => (if M i < 12 then sM M i ^^^ 2 ^ M i else sM M i).testBit k) 12 = cnt (fun w => decide (M w < 12)) i + (decide (M i < 12)).toNat
    by_cases z : M i < 12
    · rw [if_pos z, cnt_xor z (by rw [xor_bit, sM_new h z]; rfl), xor_xor, ih, decide_eq_true z]; rfl
    · rw [if_neg z, ih, decide_eq_false z]; rfl
theorem sM_lt {M : Nat → Nat} : ∀ i : Nat, sM M i < 4096
  | 0 => by show 0 < 4096; decide
  | i + 1 => by
    show (if M i < 12 then sM M i ^^^ 2 ^ M i else sM M i) < 4096
    split
    · exact xor_lt (sM_lt i) (by assumption)
    · exact sM_lt i
theorem sM_AL {M : Nat → Nat} (h : Ms E M) : ∀ i : Nat, ∃ v x, (v, x) ∈ AL E c i (sM M i)
  | 0 => ⟨0, 0, by
    show ((0, 0) : Nat × Nat) ∈ (if (0 : Nat) = 0 then [(0, 0)] else [] : Fam)
    rw [if_pos rfl]; exact List.mem_singleton.mpr rfl⟩
  | i + 1 => by
    obtain ⟨v, x, a⟩ := sM_AL h i
    by_cases z : M i < 12
    · have e : sM M (i + 1) = sM M i ^^^ 2 ^ M i := if_pos z
      rw [e]
      exact ⟨_, _, mem_AL.mpr (Or.inr ⟨M i, z, by rw [xor_bit, sM_new h.1 z]; rfl, h.2 i z, v, x, by rw [xor_xor]; exact a, rfl, rfl⟩)⟩
    · have e : sM M (i + 1) = sM M i := if_neg z
      rw [e]
      exact ⟨_, _, mem_AL.mpr (Or.inl ⟨x, a, rfl⟩)⟩
theorem FN_ne {m : Nat} (hm : m ≤ 12) (hE : ∀ i j, E i j = true → j < m) {M : Nat → Nat} (h : Ms E M) (hs : sz M = N) : FN E c N (2 ^ m) ≠ [] := by
  obtain ⟨v, x, a⟩ := sM_AL (c := c) h 12
  have b : BP E c N 12 0 v x := meet_all.mp ⟨sM M 12, sM_lt 12, (sM_cnt h.1 12).trans hs, a⟩
  exact List.ne_nil_of_mem ((mem_FN hm hE).mpr b)
/-! bounds -/
theorem AL_Bd (hc : ∀ w t, c w t ≤ 99) {i S : Nat} (hi : i ≤ 12) : Bd (AL E c i S) := by
  refine ⟨?_, fun p hp => ?_⟩
  · have a := AL_len (E := E) (c := c) i S
    have b : 13 ^ i ≤ 13 ^ 12 := Nat.pow_le_pow_right (by decide) hi
    have d : 13 ^ 12 = 23298085122481 := by decide +kernel
    omega
  · have a := AL_bd (E := E) hc i S p.1 p.2 hp
    have b := off_le hi
    omega
theorem FN_Bd (hc : ∀ w t, c w t ≤ 99) {s : Nat} (hs : s ≤ 4096) : Bd (FN E c N s) := by
  refine ⟨?_, fun p hp => ?_⟩
  · unfold FN
    rw [catj_len]
    have a : sgm (fun S => (if cnt (fun k => S.testBit k) 12 = N then AL E c 12 S else []).length) s ≤ s * 23298085122481 := sgm_bd fun S _ => by
      show (if cnt (fun k => S.testBit k) 12 = N then AL E c 12 S else []).length ≤ 23298085122481
      split
      · exact AL_len 12 S
      · exact Nat.zero_le _
    have b : s * 23298085122481 ≤ 4096 * 23298085122481 := Nat.mul_le_mul_right _ hs
    omega
  · obtain ⟨S, _, a⟩ := mem_catj.mp hp
    by_cases z : cnt (fun k => S.testBit k) 12 = N
    · rw [if_pos z] at a
      exact (AL_Bd hc (Nat.le_refl 12)).2 p a
    · rw [if_neg z] at a
      exact absurd a List.not_mem_nil
end Me
