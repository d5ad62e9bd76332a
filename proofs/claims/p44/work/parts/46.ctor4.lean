/-! CONSTRUCTORS: History -/
theorem sR_s {sh : xH} {μ : MM} {a i v : Nat} {l fs : List Value} (e : sh[a]? = some (105, l)) (ev : sh[v]? = some (0, fs)) (hi : i < l.length) (hb : i < 100000) : sR (mS sh μ) a (Int32.ofNat i) v = some (mS (sh.set a (105, l.set i (.ref v))) μ) := by
  have ha : a < sh.length := (List.getElem?_eq_some_iff.mp e).1
  obtain ⟨⟨a1, -⟩, a2⟩ := ain_nat (k := i) (n := i + 1) (by omega) (by omega)
  unfold sR
  rw [mem_get e, mem_get ev]
  simp only [memV_len]
  rw [if_pos ⟨trivial, trivial, a1, by rw [a2]; exact hi⟩, a2]
  refine congrArg some (List.ext_getElem? fun p => ?_)
  rw [List.getElem?_set, mem_at, mem_at, List.getElem?_set, mS_len]
  by_cases hp : a = p
  · subst hp
    rw [if_pos rfl, if_pos ha, if_pos rfl, if_pos ha]
    refine congrArg some (Prod.ext rfl ?_)
    show (memV μ a 0 l).set i (.ref v) = memV μ a 0 (l.set i (.ref v))
    refine List.ext_getElem? fun k => ?_
    rw [List.getElem?_set, memV_at, memV_at, List.getElem?_set, memV_len]
    by_cases hk : i = k
    · subst hk
      rw [if_pos rfl, if_pos hi, if_pos rfl]; rfl
    · rw [if_neg hk, if_neg hk]
  · rw [if_neg hp, if_neg hp]
def hbR (n k : Nat) : List Value := (List.range 15).map fun j => if j < k then .ref (n + 2 + 8 * j) else .null
def hbB (n : Nat) : Nat → xH
  | 0 => []
  | k + 1 => hbB n k ++ bkC (n + 2 + 8 * k)
def hsC (n k : Nat) : xH := (2, [.ref (n + 1), .int 0, .int 0]) :: (105, hbR n k) :: hbB n k
def hsM (μ : MM) (n : Nat) : Nat → MM
  | 0 => st (st μ n 1 0) n 2 0
  | k + 1 => bgM (prM (hsM μ n k) (n + 2 + 8 * k + 5)) (n + 2 + 8 * k) 1 1
theorem hbB_len (n : Nat) : ∀ k, (hbB n k).length = 8 * k
  | 0 => rfl
  | k + 1 => by rw [hbB, List.length_append, hbB_len n k]; simp [bkC, prC]; omega
theorem hsC_len (n k : Nat) : (hsC n k).length = 2 + 8 * k := by simp [hsC, hbB_len]; omega
theorem hsM_Z {μ : MM} {n : Nat} (h : Z μ n) : ∀ k, Z (hsM μ n k) (n + 2 + 8 * k)
  | 0 => ((h.mono (by omega)).st (by omega)).st (by omega)
  | k + 1 => bgM_Z (prM_Z ((hsM_Z h k).mono (by omega)) (by omega)) (by omega)
theorem hbR_set (n k : Nat) (hk : k < 15) : (hbR n k).set k (.ref (n + 2 + 8 * k)) = hbR n (k + 1) := by
  refine List.ext_getElem? fun i => ?_
  unfold hbR
  rw [List.getElem?_set, List.getElem?_map, List.getElem?_map, List.length_map, List.length_range]
  by_cases h : k = i
  · subst h
    rw [if_pos rfl, if_pos hk, List.getElem?_range hk]
    simp
  · rw [if_neg h]
    by_cases hi : i < 15
    · rw [List.getElem?_range hi]
      refine congrArg some ?_
      show (if i < k then Value.ref (n + 2 + 8 * i) else Value.null) = if i < k + 1 then Value.ref (n + 2 + 8 * i) else Value.null
      by_cases h2 : i < k
      · rw [if_pos h2, if_pos (by omega)]
      · rw [if_neg h2, if_neg (by omega)]
    · rw [List.getElem?_eq_none (by simp; omega)]; rfl
theorem c_X2_init {sh : xH} {μ : MM} (h : Z μ sh.length) (hl : sh.length + 130 < 1000000) : f_X2_init sh.length (mS (sh ++ [(2, dv_X2)]) μ) = some (mS (sh ++ hsC sh.length 15) (hsM μ sh.length 15)) := by
  unfold f_X2_init
  rw [nwQ_s (n := 15) (k := 15) (h.mono (by rw [List.length_append]; omega)) rfl (by decide) (by simp; omega)]
  simp only [Option.bind_some, List.append_assoc, List.length_append, List.length_cons, List.length_nil]
  rw [show pR (mS (sh ++ ([(2, dv_X2)] ++ [(105, List.replicate 15 .null)])) μ) 2 sh.length 0 (sh.length + (0 + 1)) = some (mS (sh ++ hsC sh.length 0) μ) from pR_t (t := [(2, dv_X2)] ++ [(105, List.replicate 15 .null)]) (j := 0) (k := 0) (q := sh.length + 1) (l := dv_X2) rfl (Nat.le_of_ble_eq_true rfl)]
  simp only [Option.bind_some]
  rw [show pI (mS (sh ++ hsC sh.length 0) μ) 2 sh.length 1 0 = some (mS (sh ++ hsC sh.length 0) (st μ sh.length 1 0)) from pI_t (t := hsC sh.length 0) (j := 0) rfl]
  simp only [Option.bind_some]
  rw [show pI (mS (sh ++ hsC sh.length 0) (st μ sh.length 1 0)) 2 sh.length 2 0 = some (mS (sh ++ hsC sh.length 0) (hsM μ sh.length 0)) from pI_t (t := hsC sh.length 0) (j := 0) rfl]
  simp only [Option.bind_some]
  refine loopN (L := fun n i h => f_X2_init_L25 f_X2_init_J50 n sh.length i h) (N := 15) (fuel := 5000) (S := fun k => mS (sh ++ hsC sh.length k) (hsM μ sh.length k)) (by decide) (fun k hk n => ?_) (fun n => ?_)
  · have e1 : slot (sh ++ hsC sh.length k) 2 sh.length 0 (isRef (sh.length + 1)) = true := (slot_app (j := 0)).trans (by simp [slot, hsC, isRef])
    have e2 : (sh ++ hsC sh.length k).length = sh.length + 2 + 8 * k := by rw [List.length_append, hsC_len]; omega
    have e3 := c_X0_init (sh := sh ++ hsC sh.length k) (μ := hsM μ sh.length k) (by rw [e2]; exact hsM_Z h k) (by rw [e2]; omega)
    rw [e2] at e3
    simp only [f_X2_init_L25, if_neg (nge (m := 15) (n := 15) rfl (by decide) hk), gR_m e1, Option.bind_some, nwC_s (sh := sh ++ hsC sh.length k) (c := (0, dv_X0)) (by rw [e2]; exact hsM_Z h k) rfl (by rw [e2]; omega), e2]
    rw [ic_s (by rw [List.length_append, e2]; simp), e3]
    simp only [Option.bind_some]
    rw [sR_s (l := hbR sh.length k) (fs := [.int 0, .int 0, .int 0, .int 0, .int 0, .ref (sh.length + 2 + 8 * k + 1), .ref (sh.length + 2 + 8 * k + 2), .ref (sh.length + 2 + 8 * k + 3), .ref (sh.length + 2 + 8 * k + 4), .ref (sh.length + 2 + 8 * k + 5)]) (i := k)]
    · simp only [Option.bind_some, lt, i_succ]
      have e4 : ((sh ++ hsC sh.length k) ++ bkC (sh.length + 2 + 8 * k)).set (sh.length + 1) (105, (hbR sh.length k).set k (.ref (sh.length + 2 + 8 * k))) = sh ++ hsC sh.length (k + 1) := by
        rw [hbR_set _ _ hk, List.append_assoc, app_set]; rfl
      rw [e4]; rfl
    · rw [List.append_assoc]; exact app_at (j := 1)
    · rw [show sh.length + 2 + 8 * k = (sh ++ hsC sh.length k).length + 0 by rw [e2]; rfl, app_at]; rfl
    · simp [hbR]; exact hk
    · omega
  · simp only [f_X2_init_L25, if_pos (yge (m := 15) (n := 15) rfl (by decide)), f_X2_init_J50]
