/-! THE LAW'S BOOK: all pairings of so many pairs, by cost -/
theorem isJ_of {sh : xH} {p n : Nat} (e : sh[p]? = some (101, dJ n)) : isA sh 101 p n isLong = true := by
  unfold isA
  rw [e]
  have h1 : (dJ n).length = n := by simp [dJ]
  have h2 : (dJ n).all isLong = true := List.all_eq_true.mpr fun v hv => by rw [(List.mem_replicate.mp hv).2]; rfl
  simp [h1, h2]
theorem j64_toInt {a : Nat} (h : a < 4611686018427387904) : (Int64.ofNat a).toInt = (a : Int) := Int64.toInt_ofNat_of_lt (by omega)
theorem j64_eq {a b : Nat} (ha : a < 4611686018427387904) (hb : b < 4611686018427387904) : (Int64.ofNat a = Int64.ofNat b) = (a = b) := propext ⟨fun e => by
  have := congrArg Int64.toInt e
  rw [j64_toInt ha, j64_toInt hb] at this
  omega, fun e => by rw [e]⟩
theorem j64_lt {a b : Nat} (ha : a < 4611686018427387904) (hb : b < 4611686018427387904) : (Int64.ofNat a < Int64.ofNat b) = (a < b) := propext (by
  rw [Int64.lt_iff_toInt_lt, j64_toInt ha, j64_toInt hb]
  omega)
theorem lgc {a b : Nat} (ha : a < 4611686018427387904) (hb : b < 4611686018427387904) : lg_cmp (Int64.ofNat a) (Int64.ofNat b) = if b < a then 1 else if a = b then 0 else -1 := by
  unfold lg_cmp
  simp only [gt_iff_lt, j64_lt hb ha, j64_eq ha hb]
theorem j64_of {c : Nat} (h : c < 2147483648) : (Int32.ofNat c).toInt64 = Int64.ofNat c := by
  apply Int64.toInt_inj.mp
  rw [Int32.toInt_toInt64, j64_toInt (by omega), Int32.toInt_ofNat_of_lt (by omega)]
/-- so many in all; the least cost, and how many have it -/
def AT (F : Nat → Nat) (b C L K : Nat) : Prop := C = sgm F 2000 ∧ (∀ v, b < v → F v = 0) ∧ (((∀ v, F v = 0) ∧ L = 99999 ∧ K = 0) ∨ (F L = K ∧ K ≠ 0 ∧ L ≤ b ∧ ∀ u, u < L → F u = 0))
section Da
variable {F G : Nat → Nat} {b b' C L K C' L' K' c : Nat}
theorem AT.congr (h : AT F b C L K) (e : ∀ v, F v = G v) : AT G b C L K := by
  have : F = G := funext e
  rw [← this]; exact h
theorem AT.le (h : AT F b C L K) (l : b ≤ b') : AT F b' C L K := ⟨h.1, fun v hv => h.2.1 v (by omega), h.2.2.imp id fun z => ⟨z.1, z.2.1, by omega, z.2.2.2⟩⟩
theorem AT.sum (hG : AT G b' C' L' K') (hc : b' + c < 1900) (h : AT F b C L K) : sgm (fun v => F v + if c ≤ v then G (v - c) else 0) 2000 = C + C' := by
  rw [sgm_add, ← h.1]
  have e1 := sgm_shift c G (2000 - c)
  rw [show c + (2000 - c) = 2000 by omega] at e1
  have e2 := sgm_cut (f := G) (k := 2000 - c) c fun u hu => hG.2.1 u (by omega)
  rw [show 2000 - c + c = 2000 by omega] at e2
  rw [e1, ← e2, ← hG.1]
theorem AT.bd (hG : AT G b' C' L' K') (hc : b' + c ≤ b) (h : AT F b C L K) : ∀ v, b < v → F v + (if c ≤ v then G (v - c) else 0) = 0 := fun v hv => by
  rw [h.2.1 v hv, Nat.zero_add]
  split
  · exact hG.2.1 _ (by omega)
  · rfl
/-- nothing comes -/
theorem AT.n0 (hG : AT G b' C' L' 0) (hc : b' + c ≤ b) (hb : b < 1900) (h : AT F b C L K) : AT (fun v => F v + if c ≤ v then G (v - c) else 0) b (C + C') L K := by
  have z : ∀ v, G v = 0 := (hG.2.2.resolve_right fun z => z.2.1 rfl).1
  refine ⟨(hG.sum (by omega) h).symm, hG.bd hc h, ?_⟩
  have e : ∀ v, F v + (if c ≤ v then G (v - c) else 0) = F v := fun v => by
    split
    · rw [z]; rfl
    · rfl
  rcases h.2.2 with q | ⟨q1, q2, q3, q4⟩
  · exact Or.inl ⟨fun v => (e v).trans (q.1 v), q.2⟩
  · exact Or.inr ⟨(e L).trans q1, q2, q3, fun u hu => (e u).trans (q4 u hu)⟩
/-- cheaper ones come, or the first ones -/
theorem AT.n1 (hG : AT G b' C' L' K') (hK : K' ≠ 0) (hc : b' + c ≤ b) (hb : b < 1900) (h : AT F b C L K) (q : L' + c < L ∨ K = 0) : AT (fun v => F v + if c ≤ v then G (v - c) else 0) b (C + C') (L' + c) K' := by
  obtain ⟨g1, g2, g3, g4⟩ := hG.2.2.resolve_left fun z => hK z.2.2
  refine ⟨(hG.sum (by omega) h).symm, hG.bd hc h, Or.inr ⟨?_, hK, by omega, fun u hu => ?_⟩⟩
  · show F (L' + c) + (if c ≤ L' + c then G (L' + c - c) else 0) = K'
    rw [if_pos (Nat.le_add_left _ _), Nat.add_sub_cancel, g1]
    have : F (L' + c) = 0 := by
      rcases h.2.2 with z | ⟨z1, z2, z3, z4⟩
      · exact z.1 _
      · rcases q with q | q
        · exact z4 _ q
        · exact absurd q z2
    omega
  · have f0 : F u = 0 := by
      rcases h.2.2 with z | ⟨z1, z2, z3, z4⟩
      · exact z.1 _
      · rcases q with q | q
        · exact z4 _ (by omega)
        · exact absurd q z2
    show F u + (if c ≤ u then G (u - c) else 0) = 0
    rw [f0, Nat.zero_add]
    split
    · exact g4 _ (by omega)
    · rfl
/-- as cheap ones come -/
theorem AT.n2 (hG : AT G b' C' L' K') (hK : K' ≠ 0) (hc : b' + c ≤ b) (hb : b < 1900) (h : AT F b C L K) (hK0 : K ≠ 0) (q : L' + c = L) : AT (fun v => F v + if c ≤ v then G (v - c) else 0) b (C + C') L (K + K') := by
  obtain ⟨g1, g2, g3, g4⟩ := hG.2.2.resolve_left fun z => hK z.2.2
  obtain ⟨f1, f2, f3, f4⟩ := h.2.2.resolve_left fun z => hK0 z.2.2
  refine ⟨(hG.sum (by omega) h).symm, hG.bd hc h, Or.inr ⟨?_, by omega, f3, fun u hu => ?_⟩⟩
  · show F L + (if c ≤ L then G (L - c) else 0) = K + K'
    rw [if_pos (by omega), f1, show L - c = L' by omega, g1]
  · show F u + (if c ≤ u then G (u - c) else 0) = 0
    rw [f4 u hu, Nat.zero_add]
    split
    · exact g4 _ (by omega)
    · rfl
/-- dearer ones come -/
theorem AT.n3 (hG : AT G b' C' L' K') (hK : K' ≠ 0) (hc : b' + c ≤ b) (hb : b < 1900) (h : AT F b C L K) (hK0 : K ≠ 0) (q : L < L' + c) : AT (fun v => F v + if c ≤ v then G (v - c) else 0) b (C + C') L K := by
  obtain ⟨g1, g2, g3, g4⟩ := hG.2.2.resolve_left fun z => hK z.2.2
  obtain ⟨f1, f2, f3, f4⟩ := h.2.2.resolve_left fun z => hK0 z.2.2
  refine ⟨(hG.sum (by omega) h).symm, hG.bd hc h, Or.inr ⟨?_, f2, f3, fun u hu => ?_⟩⟩
  · show F L + (if c ≤ L then G (L - c) else 0) = K
    rw [f1]
    split
    · rw [g4 _ (by omega)]; rfl
    · rfl
  · show F u + (if c ≤ u then G (u - c) else 0) = 0
    rw [f4 u hu, Nat.zero_add]
    split
    · exact g4 _ (by omega)
    · rfl
end Da
section Db
variable {E : Nat → Nat → Bool} {c : Nat → Nat → Nat} {N n : Nat}
theorem MB_leaf (h : ∀ i, n ≤ i → ∀ j, E i j = false) (hn : n ≤ 12) (S v : Nat) : ∀ d, d ≤ 12 - n → MB E c 12 N d S v = if cnt (fun k => S.testBit k) 12 = N ∧ v = 0 then 1 else 0
  | 0, _ => rfl
  | d + 1, hd => by
    rw [MB_succ, MB_leaf h hn S v d (by omega), sgm_zero fun j _ => ?_, Nat.add_zero]
    rw [if_neg fun z => ?_]
    have := h (12 - (d + 1)) (by omega) j
    rw [this] at z
    exact absurd z.1.2 (by decide)
theorem MB_over : ∀ (d S v : Nat), N < cnt (fun k => S.testBit k) 12 → MB E c 12 N d S v = 0
  | 0, S, v, h => if_neg fun z => by omega
  | d + 1, S, v, h => by
    rw [MB_succ, MB_over d S v h, sgm_zero fun j hj => ?_]
    by_cases z : (S.testBit j = false ∧ E (12 - (d + 1)) j = true) ∧ c (12 - (d + 1)) j ≤ v
    · rw [if_pos z]
      have := cnt_xor (T := S ^^^ 2 ^ j) hj (by rw [xor_bit, z.1.1]; rfl)
      rw [xor_xor] at this
      exact MB_over d _ _ (by omega)
    · exact if_neg z
/-- with the tasks ahead of t for worker w -/
def FA (E : Nat → Nat → Bool) (c : Nat → Nat → Nat) (N w S t v : Nat) : Nat := MB E c 12 N (11 - w) S v + sgm (fun j => if (S.testBit j = false ∧ E w j = true) ∧ c w j ≤ v then MB E c 12 N (11 - w) (S ^^^ 2 ^ j) (v - c w j) else 0) t
theorem FA_zero {w S v : Nat} : FA E c N w S 0 v = MB E c 12 N (11 - w) S v := rfl
theorem FA_skip {w S t v : Nat} (h : S.testBit t = true ∨ E w t = false) : FA E c N w S (t + 1) v = FA E c N w S t v := by
  unfold FA
  rw [sgm, if_neg fun z => ?_, Nat.add_zero]
  rcases h with h | h
  · rw [h] at z; exact absurd z.1.1 (by decide)
  · rw [h] at z; exact absurd z.1.2 (by decide)
theorem FA_take {w S t v : Nat} (h1 : S.testBit t = false) (h2 : E w t = true) : FA E c N w S (t + 1) v = FA E c N w S t v + if c w t ≤ v then MB E c 12 N (11 - w) (S ^^^ 2 ^ t) (v - c w t) else 0 := by
  unfold FA
  rw [sgm, Nat.add_assoc]
  congr 2
  by_cases z : c w t ≤ v
  · rw [if_pos ⟨⟨h1, h2⟩, z⟩, if_pos z]
  · rw [if_neg fun y => z y.2, if_neg z]
theorem FA_fin {w S m v : Nat} (hw : w < 12) (hm : m ≤ 12) (h : ∀ j, m ≤ j → E w j = false) : FA E c N w S m v = MB E c 12 N (12 - w) S v := by
  rw [show 12 - w = (11 - w) + 1 by omega, MB_succ, show 12 - (11 - w + 1) = w by omega]
  unfold FA
  have := sgm_cut (f := fun j => if (S.testBit j = false ∧ E w j = true) ∧ c w j ≤ v then MB E c 12 N (11 - w) (S ^^^ 2 ^ j) (v - c w j) else 0) (k := m) (12 - m) fun j hj => if_neg fun z => by
    rw [h j hj] at z; exact absurd z.1.2 (by decide)
  rw [show m + (12 - m) = 12 by omega] at this
  rw [this]
theorem FA_due {w S t v : Nat} (ht : t ≤ 12) (h : cnt (fun k => S.testBit k) 12 = N) : FA E c N w S t v = MB E c 12 N (11 - w) S v := by
  unfold FA
  rw [sgm_zero fun j hj => ?_, Nat.add_zero]
  by_cases z : (S.testBit j = false ∧ E w j = true) ∧ c w j ≤ v
  · rw [if_pos z]
    have := cnt_xor (T := S ^^^ 2 ^ j) (j := j) (show j < 12 by omega) (by rw [xor_bit, z.1.1]; rfl)
    rw [xor_xor] at this
    exact MB_over _ _ _ (by omega)
  · exact if_neg z
end Db
