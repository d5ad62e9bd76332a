/-! A BOOK BEGUN -/
def prOK (sh : xH) (p : Nat) : Bool := isT sh 3 p && slot sh 3 p 0 (isRef (p + 1)) && slot sh 3 p 1 (isRef (p + 2)) && isA sh 100 (p + 1) 12 isInt && isA sh 100 (p + 2) 12 isInt
def bkOK (sh : xH) (b : Nat) : Bool := isT sh 0 b && slot sh 0 b 0 isInt && slot sh 0 b 1 isInt && slot sh 0 b 2 isInt && slot sh 0 b 3 isInt && slot sh 0 b 4 isInt && slot sh 0 b 5 (isRef (b + 1)) && slot sh 0 b 6 (isRef (b + 2)) && slot sh 0 b 7 (isRef (b + 3)) && slot sh 0 b 8 (isRef (b + 4)) && slot sh 0 b 9 (isRef (b + 5)) &&
  isA sh 100 (b + 1) 12 isInt && isA sh 100 (b + 2) 12 isInt && isA sh 100 (b + 3) 12 isInt && isA sh 100 (b + 4) 144 isInt && prOK sh (b + 5)
section Begin
variable {sh : xH} {μ : MM}
theorem prOK_spec {p : Nat} (h : prOK sh p = true) : isT sh 3 p = true ∧ slot sh 3 p 0 (isRef (p + 1)) = true ∧ slot sh 3 p 1 (isRef (p + 2)) = true ∧ isA sh 100 (p + 1) 12 isInt = true ∧ isA sh 100 (p + 2) 12 isInt = true := by
  simpa [prOK, Bool.and_eq_true, and_assoc] using h
theorem bkOK_spec {b : Nat} (h : bkOK sh b = true) : isT sh 0 b = true ∧ slot sh 0 b 0 isInt = true ∧ slot sh 0 b 1 isInt = true ∧ slot sh 0 b 2 isInt = true ∧ slot sh 0 b 3 isInt = true ∧ slot sh 0 b 4 isInt = true ∧ slot sh 0 b 5 (isRef (b + 1)) = true ∧ slot sh 0 b 6 (isRef (b + 2)) = true ∧ slot sh 0 b 7 (isRef (b + 3)) = true ∧ slot sh 0 b 8 (isRef (b + 4)) = true ∧ slot sh 0 b 9 (isRef (b + 5)) = true ∧
    isA sh 100 (b + 1) 12 isInt = true ∧ isA sh 100 (b + 2) 12 isInt = true ∧ isA sh 100 (b + 3) 12 isInt = true ∧ isA sh 100 (b + 4) 144 isInt = true ∧ prOK sh (b + 5) = true := by
  simpa [bkOK, Bool.and_eq_true, and_assoc] using h
theorem c_clear {p : Nat} (h : prOK sh p = true) : f_X3_clear p (mS sh μ) = some (mS sh (prM μ p)) := by
  obtain ⟨-, h1, h2, h3, h4⟩ := prOK_spec h
  exact c_X3_clear h1 h2 h3 h4 (by omega)
def bgM (μ : MM) (b : Nat) (n m : Int32) : MM :=
  prM (rw_ (rw_ (rw_ (rw_ (st (st (st (st (st μ b 0 n) b 1 m) b 2 ((1 <<< (n &&& 31)) - 1)) b 3 ((1 <<< (m &&& 31)) - 1)) b 4 1) (b + 1) 12 fun _ => 1) (b + 2) 12 fun _ => 0) (b + 3) 12 fun _ => 0) (b + 4) 144 fun _ => -1) (b + 5)
theorem c_X0_begin {b : Nat} {n m : Int32} (h : bkOK sh b = true) : f_X0_begin b n m (mS sh μ) = some (mS sh (bgM μ b n m)) := by
  obtain ⟨-, i0, i1, i2, i3, i4, r5, r6, r7, r8, r9, a1, a2, a3, a4, hp⟩ := bkOK_spec h
  have hT := (prOK_spec hp).1
  have J92 : ∀ ν : MM, f_X0_begin_J92 b (mS sh ν) = some (mS sh (prM ν (b + 5))) := fun ν => by
    simp only [f_X0_begin_J92, gR_m r9, Option.bind_some, vc_m hT, c_clear hp]
  have J70 : ∀ ν : MM, f_X0_begin_J70 b (mS sh ν) = some (mS sh (prM (rw_ ν (b + 4) 144 fun _ => -1) (b + 5))) := fun ν => by
    have := loopN (L := fun n i (ν : MM) => f_X0_begin_L72 f_X0_begin_J92 n b i (mS sh ν)) (N := 144) (fuel := 5000) (S := fun i => rw_ ν (b + 4) i fun _ => -1) (r := some (mS sh (prM (rw_ ν (b + 4) 144 fun _ => -1) (b + 5)))) (by decide) (fun i hi n => ?_) (fun n => ?_)
    · simp only [rw_zero] at this
      exact this
    · simp only [f_X0_begin_L72, if_neg (nge (m := 144) (n := 144) rfl (by decide) hi), gR_m r8, Option.bind_some, sI_k a4 hi (by omega), lt, i_succ]
      rw [rw_succ]
    · simp only [f_X0_begin_L72, if_pos (yge (m := 144) (n := 144) rfl (by decide)), J92]
  have L37 : ∀ ν : MM, f_X0_begin_L37 f_X0_begin_J70 5000 b 0 (mS sh ν) = some (mS sh (prM (rw_ (rw_ (rw_ (rw_ ν (b + 1) 12 fun _ => 1) (b + 2) 12 fun _ => 0) (b + 3) 12 fun _ => 0) (b + 4) 144 fun _ => -1) (b + 5))) := fun ν => by
    have := loopN (L := fun n i (ν : MM) => f_X0_begin_L37 f_X0_begin_J70 n b i (mS sh ν)) (N := 12) (fuel := 5000) (S := fun i => rw_ (rw_ (rw_ ν (b + 1) i fun _ => 1) (b + 2) i fun _ => 0) (b + 3) i fun _ => 0) (r := some (mS sh (prM (rw_ (rw_ (rw_ (rw_ ν (b + 1) 12 fun _ => 1) (b + 2) 12 fun _ => 0) (b + 3) 12 fun _ => 0) (b + 4) 144 fun _ => -1) (b + 5)))) (by decide) (fun i hi n => ?_) (fun n => ?_)
    · simp only [rw_zero] at this
      exact this
    · simp only [f_X0_begin_L37, if_neg (nge (m := 12) (n := 12) rfl (by decide) hi), gR_m r5, gR_m r6, gR_m r7, Option.bind_some, sI_k a1 hi (by omega), sI_k a2 hi (by omega), sI_k a3 hi (by omega), lt, i_succ]
      rw [st_rw (show b + 1 ≠ b + 3 by omega), st_rw (show b + 1 ≠ b + 2 by omega), rw_succ, st_rw (show b + 2 ≠ b + 3 by omega), rw_succ, rw_succ]
    · simp only [f_X0_begin_L37, if_pos (yge (m := 12) (n := 12) rfl (by decide)), J70]
  simp only [f_X0_begin, f_X9_bit, pI_m i0, pI_m i1, pI_m i2, pI_m i3, pI_m i4, Option.bind_some, L37]
  rfl
/-- a Book, at n -/
def bkC (n : Nat) : xH := (0, [.int 0, .int 0, .int 0, .int 0, .int 0, .ref (n + 1), .ref (n + 2), .ref (n + 3), .ref (n + 4), .ref (n + 5)]) :: (100, dI 12) :: (100, dI 12) :: (100, dI 12) :: (100, dI 144) :: prC (n + 5)
end Begin
theorem prM_Z {μ : MM} {n m : Nat} (h : Z μ m) (hn : n + 3 ≤ m) : Z (prM μ n) m := (h.rw (by omega)).rw (by omega)
theorem bgM_Z {μ : MM} {b k : Nat} {n m : Int32} (h : Z μ k) (hb : b + 8 ≤ k) : Z (bgM μ b n m) k :=
  prM_Z (((((((((h.st (by omega)).st (by omega)).st (by omega)).st (by omega)).st (by omega)).rw (by omega)).rw (by omega)).rw (by omega)).rw (by omega)) (by omega)
