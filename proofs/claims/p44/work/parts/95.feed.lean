/-! OPERATIONS: feed -/
variable {Ξ : xH}
/-- a byte of a word -/
def fby (x : Int32) (i : Nat) : Nat := ((x >>> (Int32.ofNat (24 - 8 * i) &&& 31)) &&& (255 : Int32)).toBitVec.toNat
theorem fby_eq (x : Int32) (i : Nat) : (x >>> (Int32.ofNat (24 - 8 * i) &&& 31)) &&& (255 : Int32) = Int32.ofNat (fby x i) := by
  apply Int32.toBitVec_inj.mp
  show _ = BitVec.ofNat 32 (fby x i)
  unfold fby
  simp
theorem fby_lt (x : Int32) (i : Nat) : fby x i < 256 := by
  unfold fby
  rw [Int32.toBitVec_and, BitVec.toNat_and]
  have := Nat.and_le_right (n := (x >>> (Int32.ofNat (24 - 8 * i) &&& 31)).toBitVec.toNat) (m := (255 : Int32).toBitVec.toNat)
  have e : (255 : Int32).toBitVec.toNat = 255 := by decide
  rw [e] at this ⊢
  omega
/-- the tape behind -/
def fY (A : AS) (p : Nat → Int32) (k : Nat) : Nat := if k < aN A then aY A k else fby (p ((k - aN A) / 4)) ((k - aN A) % 4)
def fA (A : AS) (p : Nat → Int32) : AS := mkA (aB A) (aH A) (aN A + 20) (fY A p) (aP A) (aX A) (aZ A)
/-- i bytes are put: class, model -/
def CFd (μ ν : MM) (A : AS) (p : Nat → Int32) (i : Nat) : Prop := Fr (fun q j => (q = 139 ∧ j = 1) ∨ q = 140) μ ν ∧ ν.1 139 1 = Int32.ofNat (aN A + i) ∧ ∀ k, k < aN A + i → ν.1 140 k = Int32.ofNat (fY A p k)
def MFd (μ ν : MM) (A : AS) (p : Nat → Int32) (i : Nat) : Prop := Fr (fun q j => (q = 168 ∧ j = 2) ∨ q = 170) μ ν ∧ ν.1 168 2 = Int32.ofNat (aN A + i) ∧ ∀ k, k < aN A + i → ν.1 170 k = Int32.ofNat (fY A p k)
section O14
variable {T : MM → Bk → Prop} {μ : MM} {A : AS} {p : Nat → Int32}
theorem c_put1 (hN : aN A + 20 ≤ 300) {ν : MM} {j k : Nat} (hj : j < 5) (hk : k < 4) (h : CFd μ ν A p (4 * j + k)) : ∃ ξ, (∀ n K, f_X6_put_L3 K (n + 1) 139 (p j) (Int32.ofNat (24 - 8 * k)) ((mX Ξ) ν) = f_X6_put_L3 K n 139 (p j) (Int32.ofNat (24 - 8 * k) + (-8)) ((mX Ξ) ξ)) ∧ CFd μ ξ A p (4 * j + k + 1) := by
  obtain ⟨h1, h2, h3⟩ := h
  refine ⟨st (st ν 140 (aN A + (4 * j + k)) (Int32.ofNat (fby (p j) k))) 139 1 (Int32.ofNat (aN A + (4 * j + k) + 1)), fun n K => ?_, (h1.st (Or.inr rfl)).st (Or.inl ⟨rfl, rfl⟩), st_same _ _ _ _, fun i hi => ?_⟩
  · have c0 : (Int32.ofNat (24 - 8 * k) < 0) = False := oN_l0 (by omega)
    have c1 : (Int32.ofNat (aN A + (4 * j + k)) < 0) = False := oN_l0 (by omega)
    have c2 : (Int32.ofNat (aN A + (4 * j + k)) ≥ 300) = False := by rw [lge_300 (by omega)]; exact eq_false (by omega)
    have e2 : ∀ v, (st ν 140 (aN A + (4 * j + k)) v).1 139 1 = Int32.ofNat (aN A + (4 * j + k)) := fun v => by rw [st_ne (Or.inl (by omega))]; exact h2
    simp only [f_X6_put_L3, f_X6_put_J50, c0, ↓reduceIte, ↓hbind gI_139_1, h2, c1, c2, ↓hbind gR_139_0, fby_eq, ↓hbind (sI_140 (show aN A + (4 * j + k) < 300 by omega)), e2, i_succ, ↓hbind pI_139_1, lt]
  · rw [st_ne (Or.inl (by omega)), st_at]
    by_cases z : i = aN A + (4 * j + k)
    · rw [if_pos ⟨rfl, z⟩, z]
      unfold fY
      rw [if_neg (by omega), show aN A + (4 * j + k) - aN A = 4 * j + k by omega, show (4 * j + k) / 4 = j by omega, show (4 * j + k) % 4 = k by omega]
    · rw [if_neg (fun y => z y.2)]; exact h3 i (by omega)
theorem c_put (hN : aN A + 20 ≤ 300) {ν : MM} {j : Nat} (hj : j < 5) (h : CFd μ ν A p (4 * j)) : ∃ ξ, f_X6_put 139 (p j) ((mX Ξ) ν) = some ((mX Ξ) ξ) ∧ CFd μ ξ A p (4 * (j + 1)) := by
  obtain ⟨ν1, e1, h1⟩ := c_put1 (Ξ := Ξ) hN hj (show 0 < 4 by omega) h
  obtain ⟨ν2, e2, h2⟩ := c_put1 (Ξ := Ξ) hN hj (show 1 < 4 by omega) h1
  obtain ⟨ν3, e3, h3⟩ := c_put1 (Ξ := Ξ) hN hj (show 2 < 4 by omega) h2
  obtain ⟨ν4, e4, h4⟩ := c_put1 (Ξ := Ξ) hN hj (show 3 < 4 by omega) h3
  refine ⟨ν4, ?_, h4⟩
  have t1 : f_X6_put 139 (p j) ((mX Ξ) ν) = f_X6_put_L3 f_X6_put_J56 (4995 + 1 + 1 + 1 + 1 + 1) 139 (p j) (Int32.ofNat (24 - 8 * 0)) ((mX Ξ) ν) := rfl
  have t2 : Int32.ofNat (24 - 8 * 0) + (-8) = Int32.ofNat (24 - 8 * 1) := by decide
  have t3 : Int32.ofNat (24 - 8 * 1) + (-8) = Int32.ofNat (24 - 8 * 2) := by decide
  have t4 : Int32.ofNat (24 - 8 * 2) + (-8) = Int32.ofNat (24 - 8 * 3) := by decide
  have t5 : Int32.ofNat (24 - 8 * 3) + (-8) = -8 := by decide
  have t6 : ((-8 : Int32) < 0) = True := eq_true (by decide)
  rw [t1, e1, t2, e2, t3, e3, t4, e4, t5]
  simp only [f_X6_put_L3, t6, ↓reduceIte, f_X6_put_J56]
theorem c_feed (hC : RC T μ A) (hN : aN A + 20 ≤ 300) : ∃ ν, f_X9_feed 0 (p 0) (p 1) (p 2) (p 3) (p 4) ((mX Ξ) μ) = some (Int32.ofNat (aN A + 20), (mX Ξ) ν) ∧ CFd μ ν A p 20 := by
  obtain ⟨-, -, ⟨q1, q2⟩, -⟩ := hC
  have h0 : CFd μ μ A p (4 * 0) := ⟨Fr.refl _ _, q1, fun k hk => by rw [q2 k hk]; unfold fY; rw [if_pos (by omega)]⟩
  obtain ⟨ν1, e1, h1⟩ := c_put (Ξ := Ξ) hN (show 0 < 5 by omega) h0
  obtain ⟨ν2, e2, h2⟩ := c_put (Ξ := Ξ) hN (show 1 < 5 by omega) h1
  obtain ⟨ν3, e3, h3⟩ := c_put (Ξ := Ξ) hN (show 2 < 5 by omega) h2
  obtain ⟨ν4, e4, h4⟩ := c_put (Ξ := Ξ) hN (show 3 < 5 by omega) h3
  obtain ⟨ν5, e5, h5⟩ := c_put (Ξ := Ξ) hN (show 4 < 5 by omega) h4
  refine ⟨ν5, ?_, h5⟩
  have er : f_X6_hasRoom 139 ((mX Ξ) μ) = some (1, (mX Ξ) μ) := by
    have c : (Int32.ofNat (aN A) + 20 > 300) = False := by
      rw [show (20 : Int32) = Int32.ofNat 20 from rfl, oN_add, lgt_300 (by omega)]; exact eq_false (by omega)
    simp only [f_X6_hasRoom, f_X6_hasRoom_J18, ↓hbind gI_139_1, q1, c, ↓reduceIte, or_true]
  have ec : ν5.1 139 1 = Int32.ofNat (aN A + 20) := h5.2.1
  simp only [f_X9_feed, ↓hbind gR_0_3, ↓hvc (fun _ => vc_139), ↓hbind er, z_1, ↓reduceIte, ↓hbind e1, ↓hbind e2, ↓hbind e3, ↓hbind e4, ↓hbind e5, ↓hbind gI_139_1, ec]
theorem sh_feed {i : Nat} (hi : i < 20) : (24 : Int32) - (8 : Int32) * (Int32.ofNat i - Int32.ofNat i / (4 : Int32) * (4 : Int32)) = Int32.ofNat (24 - 8 * (i % 4)) := by
  have : ∀ i, i < 20 → (24 : Int32) - (8 : Int32) * (Int32.ofNat i - Int32.ofNat i / (4 : Int32) * (4 : Int32)) = Int32.ofNat (24 - 8 * (i % 4)) := by decide
  exact this i hi
theorem RC.fed (hT : TF T) (h : RC T μ A) {ν : MM} (f : CFd μ ν A p 20) : RC T ν (fA A p) := by
  obtain ⟨f1, f2, f3⟩ := f
  obtain ⟨h1, h2, ⟨h3, h4⟩, h5, h6, h7, h8⟩ := h
  refine ⟨h1.fr f1 fun q i a c z => by omega, h2.fr f1 fun q i a => by unfold FH at a; omega, ⟨f2, f3⟩, ?_, ?_, ?_, ?_⟩
  · rw [(f1 _ _ (by omega)).1]; exact h5
  · rw [(f1 _ _ (by omega)).1]; exact h6
  · rw [(f1 _ _ (by omega)).1]; exact h7
  · rw [(f1 _ _ (by omega)).1]
    exact h8.imp id fun z => ⟨z.1, hT _ _ _ (fun i => f1 _ _ (by omega)) (fun i => (f1 _ _ (by omega)).1) z.2⟩
theorem fA_ok (h : AOK A) (hN : aN A + 20 ≤ 300) : AOK (fA A p) := ⟨h.1, h.2.1, hN, fun k => by
  show fY A p k < 256
  unfold fY
  split
  · exact h.2.2.2 k
  · exact fby_lt _ _⟩
end O14
