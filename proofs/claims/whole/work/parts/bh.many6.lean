/-! THE MODEL: many; OPERATIONS: many -/
theorem ssum_FN {E : Nat → Nat → Bool} {c : Nat → Nat → Nat} {N : Nat} : ∀ s : Nat, ssum (WyI E 12) N s = Int64.ofNat (FN E c N s).length
  | 0 => rfl
  | s + 1 => by
    show ssum (WyI E 12) N s + (if cnt (fun k => s.testBit k) 12 = N then WyI E 12 s else 0) = Int64.ofNat (catj (fun S => if cnt (fun k => S.testBit k) 12 = N then AL E c 12 S else []) s ++ if cnt (fun k => s.testBit k) 12 = N then AL E c 12 s else []).length
    have ih : ssum (WyI E 12) N s = Int64.ofNat (catj (fun S => if cnt (fun k => S.testBit k) 12 = N then AL E c 12 S else []) s).length := ssum_FN s
    rw [ih, List.length_append, Int64.ofNat_add]
    by_cases z : cnt (fun k => s.testBit k) 12 = N
    · rw [if_pos z, if_pos z, AL_Wy (c := c)]
    · rw [if_neg z, if_neg z]; rfl
theorem WyI_n {E : Nat → Nat → Bool} {n S : Nat} (h : ∀ i, n ≤ i → ∀ j, E i j = false) : ∀ d : Nat, WyI E (n + d) S = WyI E n S
  | 0 => rfl
  | d + 1 => by
    show WyI E ((n + d) + 1) S = _
    rw [WyI_no (h (n + d) (by omega)), WyI_n h d]
theorem ssum_congr {W V : Nat → Int64} {N : Nat} (h : ∀ S, W S = V S) : ∀ s : Nat, ssum W N s = ssum V N s
  | 0 => rfl
  | s + 1 => by
    show ssum W N s + (if cnt (fun k => s.testBit k) 12 = N then W s else 0) = ssum V N s + (if cnt (fun k => s.testBit k) 12 = N then V s else 0)
    rw [ssum_congr h s, h s]
section Mo
variable {μ : MM} {B : Bk} {N : Nat}
theorem BOK.En (hB : BOK B) : ∀ i, bn B ≤ i → ∀ j, gE B i j = false := fun i h j => by
  cases z : gE B i j with
  | false => rfl
  | true => have := (hB.SOK.2.2.1 i j z).1; omega
theorem ssum_B (hB : BOK B) : ssum (WyI (gE B) (bn B)) N (2 ^ bm B) = Int64.ofNat (FN (gE B) (bc B) N (2 ^ bm B)).length := by
  have hn : bn B ≤ 12 := hB.n
  rw [← ssum_FN]
  refine ssum_congr (fun S => ?_) _
  have := WyI_n (S := S) hB.En (12 - bn B)
  rw [show bn B + (12 - bn B) = 12 by omega] at this
  exact this.symm
theorem m_manyL (hm : MR μ 0 B) (hB : BOK B) (hN : N ≤ 12) : ∃ ξ, f_X10_many_L23 f_X10_many_J49 5000 168 (Int32.ofNat (2 ^ bm B)) (Int32.ofNat N) 0 (mem μ) = some (Int64.ofNat (FN (gE B) (bc B) N (2 ^ bm B)).length, mem ξ) ∧ Fr FMy μ ξ := by
  have hb12 : bm B ≤ 12 := hB.m
  have hn12 : bn B ≤ 12 := hB.n
  have full12 : 2 ^ bm B ≤ 4096 := Nat.pow_le_pow_right (n := 2) (by decide) hb12
  have ef : 2 ^ bm B + 1 + (5000 - (2 ^ bm B + 1)) = 5000 := by omega
  have eg : bn B + 1 + (5000 - (bn B + 1)) = 5000 := by omega
  obtain ⟨ν, e1, f1, r1⟩ := m_my_init full12 (2 ^ bm B) 0 μ (by omega) (fun S hS => absurd hS (Nat.not_lt_zero _))
  obtain ⟨ξ, e2, f2, r2⟩ := m_my_w hB (bn B) 0 ν (by omega) (hm.my f1) r1
  have e3 := m_my_sum full12 hN r2 (2 ^ bm B) 0 (by omega) (5000 - (2 ^ bm B + 1))
  rw [ef, ssum_B hB] at e3
  have e1 : f_X10_many_L23 f_X10_many_J49 5000 168 (Int32.ofNat (2 ^ bm B)) (Int32.ofNat N) 0 (mem μ) = f_X10_many_J49 168 (Int32.ofNat (2 ^ bm B)) (Int32.ofNat N) (mem ν) := by
    have h := e1 (5000 - (2 ^ bm B + 1)) f_X10_many_J49 (Int32.ofNat N)
    rw [ef] at h
    exact h
  have e2 : f_X10_many_L51 f_X10_many_J211 5000 168 (Int32.ofNat (2 ^ bm B)) (Int32.ofNat N) 0 (mem ν) = f_X10_many_J211 168 (Int32.ofNat (2 ^ bm B)) (Int32.ofNat N) (mem ξ) := by
    have h := e2 (5000 - (bn B + 1)) f_X10_many_J211 (Int32.ofNat N)
    rw [eg] at h
    exact h
  have e4 : f_X10_many_J211 168 (Int32.ofNat (2 ^ bm B)) (Int32.ofNat N) (mem ξ) = some (Int64.ofNat (FN (gE B) (bc B) N (2 ^ bm B)).length, mem ξ) := e3
  refine ⟨ξ, ?_, f1.trans f2⟩
  rw [e1, ← e4, ← e2]
  simp only [f_X10_many_J49]
theorem Nu.l12 {E : Nat → Nat → Bool} (h : Nu E N) : N ≤ 12 := by
  obtain ⟨⟨M, _, a⟩, _⟩ := h
  rw [← a]; exact sz_le _
end Mo
section O28
variable {μ : MM} {A : AS}
theorem op_many (hA : AOK A) (hC : RC TT μ A) (hM : RM μ A) : OKc TT μ (LJ (f_X9_many 0) (f_X10_many 168)) := by
  have hB := hA.1
  have hb12 : bm (aB A) ≤ 12 := hB.m
  obtain ⟨ν, e1, f1, c1, N, n1, -, t1, -⟩ := c_runTally hC hA
  refine LJ_ok TT_F (S := fun v A' => (∃ N, Nu (gE (aB A)) N ∧ v = Int64.ofNat (FN (gE (aB A)) (bc (aB A)) N (2 ^ bm (aB A))).length) ∧ A' = A) hM (fun _ _ _ _ h h' => ?_) ⟨_, ν, A, ?_, f1, c1, hA, ⟨N, n1, t1⟩, rfl⟩ (fun μ' hν => ?_)
  · obtain ⟨⟨k, q, rfl⟩, h2⟩ := h
    obtain ⟨⟨k', q', rfl⟩, h2'⟩ := h'
    exact ⟨by rw [q.uniq q'], h2.trans h2'.symm⟩
  · simp only [f_X9_many, ↓hvc (fun _ => vc_0), ↓hbind e1, ↓hbind gR_0_7, ↓hbind gJ_156_5]
  · have hm := hν.t.1
    obtain ⟨k, ξ, e2, f2, n2⟩ := m_nuB hm hB
    have fq : Fr QM (tz μ') ξ := f2.mono fun _ _ z => z.Q
    obtain ⟨ζ, e3, f3⟩ := m_manyL (hν.t.fr fq fun q i _ _ z => z).1 hB n2.l12
    have f3' : Fr QM ξ ζ := f3.mono fun q i z => by unfold FMy at z; unfold QM; omega
    have ea : (tz μ').1 172 1 = Int32.ofNat (bm (aB A)) := hm.1.2.1
    refine ⟨_, ζ, A, ?_, (t0_ML.trans (fq.mono fun _ _ z => z.L)).trans (f3'.mono fun _ _ z => z.L), (hν.t.fr fq fun q i _ _ z => z).fr f3' fun q i _ _ z => z, ⟨k, n2, rfl⟩, rfl⟩
    simp only [f_X10_many, ↓hbind pI_t0, ↓hbind gR_168_9, ↓hbind mr_h0, ↓hbind mh_a0_1, ea, one_shl hb12, lt_go, ↓hvc (fun _ => vc_168), ↓hbind e2, e3]
end O28
