/-! THE HEAP AS A FUNCTION: its shape never changes behind the constructors -/
def dI (n : Nat) : List Value := List.replicate n (.int 0)
def dJ (n : Nat) : List Value := List.replicate n (.long 0)
def shI_0 : xH := [(9, [.ref 1, .ref 9, .ref 17, .ref 139, .ref 141, .ref 149, .ref 151, .ref 156, .ref 162, .int 0, .int 0, .int 0]), (0, [.int 0, .int 0, .int 0, .int 0, .int 0, .ref 2, .ref 3, .ref 4, .ref 5, .ref 6]), (100, dI 12), (100, dI 12), (100, dI 12), (100, dI 144), (3, [.ref 7, .ref 8]), (100, dI 12), (100, dI 12), (0, [.int 0, .int 0, .int 0, .int 0, .int 0, .ref 10, .ref 11, .ref 12, .ref 13, .ref 14]), (100, dI 12), (100, dI 12), (100, dI 12), (100, dI 144), (3, [.ref 15, .ref 16]), (100, dI 12), (100, dI 12), (2, [.ref 18, .int 0, .int 0]), (105, [.ref 19, .ref 27, .ref 35, .ref 43, .ref 51, .ref 59, .ref 67, .ref 75, .ref 83, .ref 91, .ref 99, .ref 107, .ref 115, .ref 123, .ref 131]), (0, [.int 0, .int 0, .int 0, .int 0, .int 0, .ref 20, .ref 21, .ref 22, .ref 23, .ref 24]), (100, dI 12), (100, dI 12), (100, dI 12), (100, dI 144), (3, [.ref 25, .ref 26]), (100, dI 12), (100, dI 12), (0, [.int 0, .int 0, .int 0, .int 0, .int 0, .ref 28, .ref 29, .ref 30, .ref 31, .ref 32]), (100, dI 12), (100, dI 12), (100, dI 12), (100, dI 144), (3, [.ref 33, .ref 34]), (100, dI 12), (100, dI 12), (0, [.int 0, .int 0, .int 0, .int 0, .int 0, .ref 36, .ref 37, .ref 38, .ref 39, .ref 40]), (100, dI 12), (100, dI 12), (100, dI 12), (100, dI 144), (3, [.ref 41, .ref 42]), (100, dI 12), (100, dI 12), (0, [.int 0, .int 0, .int 0, .int 0, .int 0, .ref 44, .ref 45, .ref 46, .ref 47, .ref 48]), (100, dI 12), (100, dI 12), (100, dI 12), (100, dI 144), (3, [.ref 49, .ref 50]), (100, dI 12), (100, dI 12), (0, [.int 0, .int 0, .int 0, .int 0, .int 0, .ref 52, .ref 53, .ref 54, .ref 55, .ref 56]), (100, dI 12), (100, dI 12), (100, dI 12), (100, dI 144), (3, [.ref 57, .ref 58]), (100, dI 12), (100, dI 12), (0, [.int 0, .int 0, .int 0, .int 0, .int 0, .ref 60, .ref 61, .ref 62, .ref 63, .ref 64])]
def shI_1 : xH := [(100, dI 12), (100, dI 12), (100, dI 12), (100, dI 144), (3, [.ref 65, .ref 66]), (100, dI 12), (100, dI 12), (0, [.int 0, .int 0, .int 0, .int 0, .int 0, .ref 68, .ref 69, .ref 70, .ref 71, .ref 72]), (100, dI 12), (100, dI 12), (100, dI 12), (100, dI 144), (3, [.ref 73, .ref 74]), (100, dI 12), (100, dI 12), (0, [.int 0, .int 0, .int 0, .int 0, .int 0, .ref 76, .ref 77, .ref 78, .ref 79, .ref 80]), (100, dI 12), (100, dI 12), (100, dI 12), (100, dI 144), (3, [.ref 81, .ref 82]), (100, dI 12), (100, dI 12), (0, [.int 0, .int 0, .int 0, .int 0, .int 0, .ref 84, .ref 85, .ref 86, .ref 87, .ref 88]), (100, dI 12), (100, dI 12), (100, dI 12), (100, dI 144), (3, [.ref 89, .ref 90]), (100, dI 12), (100, dI 12), (0, [.int 0, .int 0, .int 0, .int 0, .int 0, .ref 92, .ref 93, .ref 94, .ref 95, .ref 96]), (100, dI 12), (100, dI 12), (100, dI 12), (100, dI 144), (3, [.ref 97, .ref 98]), (100, dI 12), (100, dI 12), (0, [.int 0, .int 0, .int 0, .int 0, .int 0, .ref 100, .ref 101, .ref 102, .ref 103, .ref 104]), (100, dI 12), (100, dI 12), (100, dI 12), (100, dI 144), (3, [.ref 105, .ref 106]), (100, dI 12), (100, dI 12), (0, [.int 0, .int 0, .int 0, .int 0, .int 0, .ref 108, .ref 109, .ref 110, .ref 111, .ref 112]), (100, dI 12), (100, dI 12), (100, dI 12), (100, dI 144), (3, [.ref 113, .ref 114]), (100, dI 12), (100, dI 12), (0, [.int 0, .int 0, .int 0, .int 0, .int 0, .ref 116, .ref 117, .ref 118, .ref 119, .ref 120]), (100, dI 12), (100, dI 12), (100, dI 12), (100, dI 144)]
def shI_2 : xH := [(3, [.ref 121, .ref 122]), (100, dI 12), (100, dI 12), (0, [.int 0, .int 0, .int 0, .int 0, .int 0, .ref 124, .ref 125, .ref 126, .ref 127, .ref 128]), (100, dI 12), (100, dI 12), (100, dI 12), (100, dI 144), (3, [.ref 129, .ref 130]), (100, dI 12), (100, dI 12), (0, [.int 0, .int 0, .int 0, .int 0, .int 0, .ref 132, .ref 133, .ref 134, .ref 135, .ref 136]), (100, dI 12), (100, dI 12), (100, dI 12), (100, dI 144), (3, [.ref 137, .ref 138]), (100, dI 12), (100, dI 12), (6, [.ref 140, .int 0, .int 0, .int 0, .int 0, .int 0, .int 0, .int 0]), (100, dI 300), (7, [.ref 142, .ref 145, .ref 146, .ref 147, .ref 148, .int 0, .int 0, .int 0, .int 0, .int 0]), (3, [.ref 143, .ref 144]), (100, dI 12), (100, dI 12), (100, dI 12), (100, dI 12), (100, dI 12), (100, dI 24), (5, [.int 0, .int 0, .int 0, .int 0, .ref 150]), (100, dI 12), (4, [.ref 152, .ref 153, .ref 154, .ref 155, .int 0, .int 0, .int 0, .int 0, .int 0]), (100, dI 12), (100, dI 12), (100, dI 12), (100, dI 12), (8, [.ref 157, .ref 158, .ref 159, .ref 160, .ref 161, .long 0, .long 0, .int 0]), (101, dJ 4096), (101, dJ 4096), (101, dJ 4096), (100, dI 4096), (100, dI 12), (1, [.ref 163, .ref 164, .ref 165, .ref 166, .ref 167, .int 0]), (100, dI 144), (100, dI 144), (100, dI 144), (100, dI 24), (100, dI 24)]
def shI : xH := shI_0 ++ (shI_1 ++ (shI_2
))
abbrev MM : Type := (Nat → Nat → Int32) × (Nat → Nat → Int64)
def ov (μ : MM) (p i : Nat) (v : Value) : Value := match v with
  | .int _ => .int (μ.1 p i)
  | .long _ => .long (μ.2 p i)
  | w => w
def memV (μ : MM) (p : Nat) : Nat → List Value → List Value
  | _, [] => []
  | i, v :: t => ov μ p i v :: memV μ p (i + 1) t
def memF (μ : MM) : Nat → xH → xH
  | _, [] => []
  | p, c :: t => (c.1, memV μ p 0 c.2) :: memF μ (p + 1) t
def mS (sh : xH) (μ : MM) : xH := memF μ 0 sh
theorem memV_at (μ : MM) (p : Nat) : ∀ (l : List Value) (o i : Nat), (memV μ p o l)[i]? = l[i]?.map (ov μ p (o + i))
  | [], o, i => by simp [memV]
  | v :: t, o, 0 => by simp [memV]
  | v :: t, o, i + 1 => by
    rw [memV, List.getElem?_cons_succ, List.getElem?_cons_succ, memV_at μ p t (o + 1) i, show o + 1 + i = o + (i + 1) by omega]
theorem memV_len (μ : MM) (p : Nat) : ∀ (l : List Value) (o : Nat), (memV μ p o l).length = l.length
  | [], o => rfl
  | v :: t, o => by rw [memV, List.length_cons, memV_len μ p t, List.length_cons]
theorem memF_at (μ : MM) : ∀ (h : xH) (o k : Nat), (memF μ o h)[k]? = h[k]?.map fun c => (c.1, memV μ (o + k) 0 c.2)
  | [], o, k => by simp [memF]
  | c :: t, o, 0 => by simp [memF]
  | c :: t, o, k + 1 => by
    rw [memF, List.getElem?_cons_succ, List.getElem?_cons_succ, memF_at μ t (o + 1) k, show o + 1 + k = o + (k + 1) by omega]
theorem mem_at {sh : xH} (μ : MM) (k : Nat) : (mS sh μ)[k]? = sh[k]?.map fun c => (c.1, memV μ k 0 c.2) := by
  rw [mS, memF_at, Nat.zero_add]
theorem mem_get {sh : xH} {μ : MM} {k : Nat} {c : xC} (e : sh[k]? = some c) : (mS sh μ)[k]? = some (c.1, memV μ k 0 c.2) := by rw [mem_at, e]; rfl
def st (μ : MM) (a k : Nat) (v : Int32) : MM := (fun p i => if p = a ∧ i = k then v else μ.1 p i, μ.2)
def sj (μ : MM) (a k : Nat) (v : Int64) : MM := (μ.1, fun p i => if p = a ∧ i = k then v else μ.2 p i)
theorem memV_ext {μ ν : MM} {p q : Nat} {l : List Value} (h : ∀ i v, l[i]? = some v → ov μ p i v = ov ν q i v) : memV μ p 0 l = memV ν q 0 l := by
  apply List.ext_getElem?
  intro i
  rw [memV_at, memV_at, Nat.zero_add]
  cases e : l[i]? with
  | none => rfl
  | some v => exact congrArg some (h i v e)
theorem mem_st {sh : xH} {μ : MM} {a k c : Nat} {l : List Value} {v w : Int32} (e : sh[a]? = some (c, l)) (ek : l[k]? = some (.int w)) : (mS sh μ).set a (c, (memV μ a 0 l).set k (.int v)) = mS sh (st μ a k v) := by
  apply List.ext_getElem?
  intro q
  rw [List.getElem?_set, mem_at, mem_at]
  have hl : a < (mS sh μ).length := (List.getElem?_eq_some_iff.mp (mem_get (μ := μ) e)).1
  by_cases h : a = q
  · subst h
    rw [if_pos rfl, if_pos hl, e]
    refine congrArg some (Prod.ext rfl ?_)
    show (memV μ a 0 l).set k (.int v) = memV (st μ a k v) a 0 l
    apply List.ext_getElem?
    intro i
    rw [List.getElem?_set, memV_at, memV_at, Nat.zero_add, memV_len]
    by_cases hi : k = i
    · subst hi
      have hk : k < l.length := (List.getElem?_eq_some_iff.mp ek).1
      rw [if_pos rfl, if_pos hk, ek]
      simp [ov, st]
    · rw [if_neg hi]
      cases l[i]? with
      | none => rfl
      | some u =>
        refine congrArg some ?_
        cases u <;> simp [ov, st, Ne.symm hi]
  · rw [if_neg h]
    cases sh[q]? with
    | none => rfl
    | some d =>
      refine congrArg some (Prod.ext rfl (memV_ext fun i u _ => ?_))
      cases u <;> simp [ov, st, Ne.symm h]
theorem mem_sj {sh : xH} {μ : MM} {a k c : Nat} {l : List Value} {v w : Int64} (e : sh[a]? = some (c, l)) (ek : l[k]? = some (.long w)) : (mS sh μ).set a (c, (memV μ a 0 l).set k (.long v)) = mS sh (sj μ a k v) := by
  apply List.ext_getElem?
  intro q
  rw [List.getElem?_set, mem_at, mem_at]
  have hl : a < (mS sh μ).length := (List.getElem?_eq_some_iff.mp (mem_get (μ := μ) e)).1
  by_cases h : a = q
  · subst h
    rw [if_pos rfl, if_pos hl, e]
    refine congrArg some (Prod.ext rfl ?_)
    show (memV μ a 0 l).set k (.long v) = memV (sj μ a k v) a 0 l
    apply List.ext_getElem?
    intro i
    rw [List.getElem?_set, memV_at, memV_at, Nat.zero_add, memV_len]
    by_cases hi : k = i
    · subst hi
      have hk : k < l.length := (List.getElem?_eq_some_iff.mp ek).1
      rw [if_pos rfl, if_pos hk, ek]
      simp [ov, sj]
    · rw [if_neg hi]
      cases l[i]? with
      | none => rfl
      | some u =>
        refine congrArg some ?_
        cases u <;> simp [ov, sj, Ne.symm hi]
  · rw [if_neg h]
    cases sh[q]? with
    | none => rfl
    | some d =>
      refine congrArg some (Prod.ext rfl (memV_ext fun i u _ => ?_))
      cases u <;> simp [ov, sj, Ne.symm h]
/-! what the shape says of a place, by computation -/
def isInt (v : Value) : Bool := match v with | .int _ => true | _ => false
def isLong (v : Value) : Bool := match v with | .long _ => true | _ => false
def isRef (q : Nat) (v : Value) : Bool := match v with | .ref r => q == r | _ => false
def slot (sh : xH) (ci a k : Nat) (f : Value → Bool) : Bool := match sh[a]? with
  | some c => c.1 == ci && (match c.2[k]? with | some v => f v | none => false)
  | none => false
def isA (sh : xH) (t a n : Nat) (f : Value → Bool) : Bool := match sh[a]? with
  | some c => c.1 == t && c.2.length == n && c.2.all f
  | none => false
def isT (sh : xH) (ci a : Nat) : Bool := match sh[a]? with
  | some c => c.1 == ci
  | none => false
theorem slot_spec {sh : xH} {ci a k : Nat} {f : Value → Bool} (e : slot sh ci a k f = true) : ∃ l v, sh[a]? = some (ci, l) ∧ l[k]? = some v ∧ f v = true := by
  unfold slot at e
  split at e
  · rename_i c hc
    simp only [Bool.and_eq_true, beq_iff_eq] at e
    obtain ⟨e1, e2⟩ := e
    split at e2
    · rename_i v hv
      exact ⟨c.2, v, by rw [hc, ← e1], hv, e2⟩
    · cases e2
  · cases e
theorem isA_spec {sh : xH} {t a n : Nat} {f : Value → Bool} (e : isA sh t a n f = true) : ∃ l, sh[a]? = some (t, l) ∧ l.length = n ∧ ∀ k, k < n → ∃ v, l[k]? = some v ∧ f v = true := by
  unfold isA at e
  split at e
  · rename_i c hc
    simp only [Bool.and_eq_true, beq_iff_eq] at e
    obtain ⟨⟨e1, e2⟩, e3⟩ := e
    refine ⟨c.2, by rw [hc, ← e1], e2, fun k hk => ?_⟩
    have hk : k < c.2.length := by omega
    exact ⟨c.2[k], List.getElem?_eq_getElem hk, List.all_eq_true.mp e3 _ (List.getElem_mem hk)⟩
  · cases e
section MemOps
variable {sh : xH} {μ : MM} {ci a k : Nat}
theorem gI_m (e : slot sh ci a k isInt = true) : gI (mS sh μ) ci a k = some (μ.1 a k) := by
  obtain ⟨l, v, h1, h2, h3⟩ := slot_spec e
  unfold gI gf
  rw [mem_get h1]
  simp only [if_true, memV_at, h2]
  cases v <;> simp_all [isInt, ov]
theorem gJ_m (e : slot sh ci a k isLong = true) : gJ (mS sh μ) ci a k = some (μ.2 a k) := by
  obtain ⟨l, v, h1, h2, h3⟩ := slot_spec e
  unfold gJ gf
  rw [mem_get h1]
  simp only [if_true, memV_at, h2]
  cases v <;> simp_all [isLong, ov]
theorem gR_m {q : Nat} (e : slot sh ci a k (isRef q) = true) : gR (mS sh μ) ci a k = some q := by
  obtain ⟨l, v, h1, h2, h3⟩ := slot_spec e
  unfold gR gf
  rw [mem_get h1]
  simp only [if_true, memV_at, h2]
  cases v <;> simp_all [isRef, ov]
theorem pf_m {v : Value} {h' : xH} (e : ∃ l, sh[a]? = some (ci, l) ∧ k < l.length ∧ (mS sh μ).set a (ci, (memV μ a 0 l).set k v) = h') : pf (mS sh μ) ci a k v = some h' := by
  obtain ⟨l, h1, h2, h3⟩ := e
  unfold pf
  rw [mem_get h1]
  simp only [memV_len]
  rw [if_pos ⟨trivial, h2⟩, h3]
theorem pI_m {v : Int32} (e : slot sh ci a k isInt = true) : pI (mS sh μ) ci a k v = some (mS sh (st μ a k v)) := by
  obtain ⟨l, w, h1, h2, h3⟩ := slot_spec e
  refine pf_m ⟨l, h1, (List.getElem?_eq_some_iff.mp h2).1, ?_⟩
  cases w <;> simp [isInt] at h3
  exact mem_st h1 h2
theorem pZ_m {v : Int32} (e : slot sh ci a k isInt = true) (hv : v = 0 ∨ v = 1) : pZ (mS sh μ) ci a k v = some (mS sh (st μ a k v)) := by
  unfold pZ
  rw [if_pos hv]
  exact pI_m e
theorem pJ_m {v : Int64} (e : slot sh ci a k isLong = true) : pJ (mS sh μ) ci a k v = some (mS sh (sj μ a k v)) := by
  obtain ⟨l, w, h1, h2, h3⟩ := slot_spec e
  refine pf_m ⟨l, h1, (List.getElem?_eq_some_iff.mp h2).1, ?_⟩
  cases w <;> simp [isLong] at h3
  exact mem_sj h1 h2
theorem vc_m {β : Type} {o : Option β} (e : isT sh ci a = true) : vc (mS sh μ) ci a o = o := by
  unfold isT at e
  split at e
  · rename_i c hc
    unfold vc
    rw [mem_get hc]
    simp only
    rw [if_pos (by simpa using e)]
  · cases e
theorem ain_nat {k n : Nat} (hk : k < n) (hn : n ≤ 100000) : ain (Int32.ofNat k) n ∧ (Int32.ofNat k).toNatClampNeg = k := by
  have h1 : (Int32.ofNat k).toInt = k := Int32.toInt_ofNat_of_lt (by omega)
  have h2 : (Int32.ofNat k).toNatClampNeg = k := by
    show (Int32.ofNat k).toInt.toNat = k
    rw [h1]; rfl
  refine ⟨⟨?_, by rw [h2]; exact hk⟩, h2⟩
  rw [Int32.lt_iff_toInt_lt, h1]
  show ¬ ((k : Int) < 0)
  omega
theorem aI_k {n : Nat} (e : isA sh 100 a n isInt = true) (hk : k < n) (hn : n ≤ 100000) : aI (mS sh μ) a (Int32.ofNat k) = some (μ.1 a k) := by
  obtain ⟨l, h1, h2, h3⟩ := isA_spec e
  obtain ⟨a1, a2⟩ := ain_nat hk hn
  obtain ⟨v, h4, h5⟩ := h3 k hk
  unfold aI
  rw [mem_get h1]
  simp only [memV_len, h2]
  rw [if_pos ⟨trivial, a1⟩, a2, List.getD_eq_getElem?_getD, memV_at, h4, Nat.zero_add]
  cases v <;> simp_all [isInt, ov, vI]
theorem aJ_k {n : Nat} (e : isA sh 101 a n isLong = true) (hk : k < n) (hn : n ≤ 100000) : aJ (mS sh μ) a (Int32.ofNat k) = some (μ.2 a k) := by
  obtain ⟨l, h1, h2, h3⟩ := isA_spec e
  obtain ⟨a1, a2⟩ := ain_nat hk hn
  obtain ⟨v, h4, h5⟩ := h3 k hk
  unfold aJ
  rw [mem_get h1]
  simp only [memV_len, h2]
  rw [if_pos ⟨trivial, a1⟩, a2, List.getD_eq_getElem?_getD, memV_at, h4, Nat.zero_add]
  cases v <;> simp_all [isLong, ov, vJ]
theorem sI_k {n : Nat} {v : Int32} (e : isA sh 100 a n isInt = true) (hk : k < n) (hn : n ≤ 100000) : sI (mS sh μ) a (Int32.ofNat k) v = some (mS sh (st μ a k v)) := by
  obtain ⟨l, h1, h2, h3⟩ := isA_spec e
  obtain ⟨a1, a2⟩ := ain_nat hk hn
  obtain ⟨w, h4, h5⟩ := h3 k hk
  unfold sI
  rw [mem_get h1]
  simp only [memV_len, h2]
  rw [if_pos ⟨trivial, a1⟩, a2]
  cases w <;> simp [isInt] at h5
  exact congrArg some (mem_st h1 h4)
theorem sJ_k {n : Nat} {v : Int64} (e : isA sh 101 a n isLong = true) (hk : k < n) (hn : n ≤ 100000) : sJ (mS sh μ) a (Int32.ofNat k) v = some (mS sh (sj μ a k v)) := by
  obtain ⟨l, h1, h2, h3⟩ := isA_spec e
  obtain ⟨a1, a2⟩ := ain_nat hk hn
  obtain ⟨w, h4, h5⟩ := h3 k hk
  unfold sJ
  rw [mem_get h1]
  simp only [memV_len, h2]
  rw [if_pos ⟨trivial, a1⟩, a2]
  cases w <;> simp [isLong] at h5
  exact congrArg some (mem_sj h1 h4)
theorem aR_k {t q : Nat} (e : slot sh t a k (isRef q) = true) (hk : k < 100000) : aR t (mS sh μ) a (Int32.ofNat k) = some q := by
  obtain ⟨l, v, h1, h2, h3⟩ := slot_spec e
  have hl := (List.getElem?_eq_some_iff.mp h2).1
  have h9 : (Int32.ofNat k).toInt = k := Int32.toInt_ofNat_of_lt (by omega)
  have a2 : (Int32.ofNat k).toNatClampNeg = k := by
    show (Int32.ofNat k).toInt.toNat = k
    rw [h9]; rfl
  have a0 : ¬ Int32.ofNat k < 0 := by
    rw [Int32.lt_iff_toInt_lt, h9]
    show ¬ ((k : Int) < 0)
    omega
  unfold aR
  rw [mem_get h1]
  simp only [memV_len]
  rw [if_pos ⟨trivial, a0, by rw [a2]; exact hl⟩, a2, List.getD_eq_getElem?_getD, memV_at, h2]
  cases v <;> simp_all [isRef, ov]
end MemOps
/-! THE CLASS'S CELLS AHEAD OF ANY OTHERS -/
abbrev mX (Ξ : xH) (μ : MM) : xH := mS (shI ++ Ξ) μ
theorem shI_len : shI.length = 168 := by decide +kernel
theorem sh_app {Ξ : xH} {a : Nat} {c : xC} (e : shI[a]? = some c) : (shI ++ Ξ)[a]? = some c := by
  rw [List.getElem?_append_left (List.getElem?_eq_some_iff.mp e).1]; exact e
theorem slot_x {Ξ : xH} {ci a k : Nat} {f : Value → Bool} (e : slot shI ci a k f = true) : slot (shI ++ Ξ) ci a k f = true := by
  obtain ⟨l, v, h1, h2, h3⟩ := slot_spec e
  unfold slot
  rw [sh_app h1]
  simp [h2, h3]
theorem isA_x {Ξ : xH} {t a n : Nat} {f : Value → Bool} (e : isA shI t a n f = true) : isA (shI ++ Ξ) t a n f = true := by
  have e0 := e
  unfold isA at e
  split at e
  · rename_i c hc
    unfold isA
    rw [sh_app hc]
    exact e
  · cases e
theorem isT_x {Ξ : xH} {ci a : Nat} (e : isT shI ci a = true) : isT (shI ++ Ξ) ci a = true := by
  unfold isT at e
  split at e
  · rename_i c hc
    unfold isT
    rw [sh_app hc]
    exact e
  · cases e
section MemX
variable {Ξ : xH} {μ : MM} {ci a k : Nat}
theorem gI_x (e : slot shI ci a k isInt = true) : gI (mX Ξ μ) ci a k = some (μ.1 a k) := gI_m (slot_x e)
theorem gJ_x (e : slot shI ci a k isLong = true) : gJ (mX Ξ μ) ci a k = some (μ.2 a k) := gJ_m (slot_x e)
theorem gR_x {q : Nat} (e : slot shI ci a k (isRef q) = true) : gR (mX Ξ μ) ci a k = some q := gR_m (slot_x e)
theorem pI_x {v : Int32} (e : slot shI ci a k isInt = true) : pI (mX Ξ μ) ci a k v = some (mX Ξ (st μ a k v)) := pI_m (slot_x e)
theorem pZ_x {v : Int32} (e : slot shI ci a k isInt = true) (hv : v = 0 ∨ v = 1) : pZ (mX Ξ μ) ci a k v = some (mX Ξ (st μ a k v)) := pZ_m (slot_x e) hv
theorem pJ_x {v : Int64} (e : slot shI ci a k isLong = true) : pJ (mX Ξ μ) ci a k v = some (mX Ξ (sj μ a k v)) := pJ_m (slot_x e)
theorem vc_x {β : Type} {o : Option β} (e : isT shI ci a = true) : vc (mX Ξ μ) ci a o = o := vc_m (isT_x e)
theorem aI_kx {n : Nat} (e : isA shI 100 a n isInt = true) (hk : k < n) (hn : n ≤ 100000) : aI (mX Ξ μ) a (Int32.ofNat k) = some (μ.1 a k) := aI_k (isA_x e) hk hn
theorem aJ_kx {n : Nat} (e : isA shI 101 a n isLong = true) (hk : k < n) (hn : n ≤ 100000) : aJ (mX Ξ μ) a (Int32.ofNat k) = some (μ.2 a k) := aJ_k (isA_x e) hk hn
theorem sI_kx {n : Nat} {v : Int32} (e : isA shI 100 a n isInt = true) (hk : k < n) (hn : n ≤ 100000) : sI (mX Ξ μ) a (Int32.ofNat k) v = some (mX Ξ (st μ a k v)) := sI_k (isA_x e) hk hn
theorem sJ_kx {n : Nat} {v : Int64} (e : isA shI 101 a n isLong = true) (hk : k < n) (hn : n ≤ 100000) : sJ (mX Ξ μ) a (Int32.ofNat k) v = some (mX Ξ (sj μ a k v)) := sJ_k (isA_x e) hk hn
theorem aR_kx {t q : Nat} (e : slot shI t a k (isRef q) = true) (hk : k < 100000) : aR t (mX Ξ μ) a (Int32.ofNat k) = some q := aR_k (slot_x e) hk
end MemX
