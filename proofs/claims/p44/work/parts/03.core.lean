/-! THE JUDGEMENT X: the machine's W over an abstract heap (a list of cells, by place), abstract locals and stack. -/
abbrev xC : Type := Nat × List Value
abbrev xH : Type := List xC
abbrev xL : Type := List (Option Value)
abbrev xO : Type := Option Value ⊕ String
abbrev xR : Type := xO × xH × Nat
/-- launch; the address of the heap's place 0; places from 1000000 on: constant things; classes; slots; array classes; the script -/
abbrev xG : Type := Launch × Nat × (Nat → Nat) × (Nat → ClassId) × (Nat → Nat → Nat) × (Nat → ClassId) × List Int32
def gl (g : xG) : Launch := g.1
def gB (g : xG) : Nat := g.2.1
def gS (g : xG) : Nat → Nat := g.2.2.1
def gD (g : xG) : va_G := (g.2.2.2.1, g.2.2.2.2.1)
def gT (g : xG) : Nat → ClassId := g.2.2.2.2.2.1
def gX (g : xG) : List Int32 := g.2.2.2.2.2.2
def gA (g : xG) : Nat → Prop := fun q => gB g ≤ q
def gad (g : xG) (k : Nat) : Nat := if k < 1000000 then gB g + k else gS g (k - 1000000)
def cv (g : xG) (v : Value) : Value := match v with
  | .ref k => .ref (gad g k)
  | w => w
theorem cv_i (g : xG) (x : Int32) : cv g (.int x) = .int x := rfl
theorem cv_l (g : xG) (x : Int64) : cv g (.long x) = .long x := rfl
theorem cv_n (g : xG) : cv g .null = .null := rfl
theorem cv_cat (g : xG) (v : Value) : (cv g v).category = v.category := by cases v <;> rfl
def vI (v : Value) : Int32 := match v with | .int x => x | _ => 0
def vJ (v : Value) : Int64 := match v with | .long x => x | _ => 0
def vQ (g : xG) (v : Value) : Option Nat := match v with | .ref k => some (gad g k) | _ => none
def xA (g : xG) (t : Nat) (l : List Value) : vp_A := (l.length, if t = 0 then .inl (fun j => vI (l.getD j .null)) else if t = 1 then .inr (.inl (fun j => vJ (l.getD j .null))) else .inr (.inr (.inr (.inr (fun j => vQ g (l.getD j .null))))))
def cE (g : xG) (c : xC) : va_E := if c.1 < 100 then .inr (c.1, c.2.map (cv g)) else .inl (gT g (c.1 - 100), xA g (c.1 - 100) c.2)
def cwF (g : xG) : Nat → xH → va_W
  | _, [] => []
  | o, c :: t => (gB g + o, cE g c) :: cwF g (o + 1) t
def cw (g : xG) (h : xH) : va_W := cwF g 0 h
theorem cwF_at (g : xG) : ∀ (h : xH) (o k : Nat), (cwF g o h)[k]? = h[k]?.map (fun c => (gB g + (o + k), cE g c))
  | [], o, k => by simp [cwF]
  | c :: t, o, 0 => by simp [cwF]
  | c :: t, o, k + 1 => by
    rw [cwF, List.getElem?_cons_succ, List.getElem?_cons_succ, cwF_at g t (o + 1) k]
    rw [show o + 1 + k = o + (k + 1) by omega]
theorem cw_at (g : xG) (h : xH) (k : Nat) : (cw g h)[k]? = h[k]?.map (fun c => (gB g + k, cE g c)) := by
  rw [cw, cwF_at]; simp
theorem cw_get {g : xG} {h : xH} {k : Nat} {c : xC} (e : h[k]? = some c) : (cw g h)[k]? = some (gB g + k, cE g c) := by rw [cw_at, e]; rfl
theorem cw_set (g : xG) (h : xH) (k : Nat) (c : xC) : cw g (h.set k c) = (cw g h).set k (gB g + k, cE g c) := by
  apply List.ext_getElem?
  intro i
  rw [cw_at, List.getElem?_set, List.getElem?_set, cw_at]
  have hl : (cw g h).length = h.length := by
    have : ∀ (h : xH) (o : Nat), (cwF g o h).length = h.length := by
      intro h; induction h with
      | nil => intro o; rfl
      | cons a t ih => intro o; simp [cwF, ih]
    exact this h 0
  by_cases hk : k = i
  · subst hk
    by_cases h2 : k < h.length
    · simp [h2, hl]
    · simp [h2, hl]
  · simp [hk]
theorem cw_push (g : xG) (h : xH) (c : xC) : cw g (h ++ [c]) = cw g h ++ [(gB g + h.length, cE g c)] := by
  have : ∀ (h : xH) (o : Nat), cwF g o (h ++ [c]) = cwF g o h ++ [(gB g + (o + h.length), cE g c)] := by
    intro h; induction h with
    | nil => intro o; simp [cwF]
    | cons a t ih =>
      intro o
      show (gB g + o, cE g a) :: cwF g (o + 1) (t ++ [c]) = (gB g + o, cE g a) :: cwF g (o + 1) t ++ _
      rw [ih, List.length_cons, show o + (t.length + 1) = o + 1 + t.length by omega]
      rfl
  rw [cw, this]; simp [cw]
theorem cw_D (g : xG) (h : xH) : va_D (gA g) (cw g h) := by
  refine ⟨fun i j p q hi hj e => ?_, fun k q hk => ?_⟩
  · rw [cw_at] at hi hj
    cases h1 : h[i]? <;> cases h2 : h[j]? <;> simp [h1, h2] at hi hj
    subst hi; subst hj
    simp at e
    exact e
  · rw [cw_at] at hk
    cases h1 : h[k]? <;> simp [h1] at hk
    subst hk
    exact Nat.le_add_right _ _
def szs : xH → Nat
  | [] => 0
  | c :: t => c.2.length + szs t
theorem szs_push (h : xH) (c : xC) : szs (h ++ [c]) = szs h + c.2.length := by
  induction h with
  | nil => simp [szs]
  | cons a t ih => simp only [List.cons_append, szs, ih]; omega
theorem szs_set {h : xH} {k : Nat} {c c' : xC} (e : h[k]? = some c) (l : c'.2.length = c.2.length) : szs (h.set k c') = szs h := by
  induction h generalizing k with
  | nil => simp at e
  | cons a t ih =>
    cases k with
    | zero => simp at e; subst e; simp [szs, l]
    | succ k => simp at e; simp [szs, ih e]
/-- the heap -/
def HR (g : xG) (h : xH) (H : Heap) : Prop := va_P (gD g) vwCl (cw g h) H ∧ gB g + h.length ≤ H.size ∧ h.length < 1000000
/-- the locals -/
def LR (g : xG) (ls : Array Slot) (nL : Nat) (loc : xL) : Prop := lv_has ls nL [] ∧ loc.length = nL ∧ ∀ (i : Nat) (v : Value), loc[i]? = some (some v) → ls[i]? = some (.val (cv g v))
def xas (g : xG) : Nat → xL → List (Nat × Value)
  | _, [] => []
  | o, none :: t => xas g (o + 1) t
  | o, some v :: t => (o, cv g v) :: xas g (o + 1) t
theorem xas_mem (g : xG) : ∀ (loc : xL) (o i : Nat) (v : Value), loc[i]? = some (some v) → (o + i, cv g v) ∈ xas g o loc
  | [], _, _, _, h => by simp at h
  | none :: t, o, 0, v, h => by simp at h
  | some w :: t, o, 0, v, h => by simp at h; subst h; simp [xas]
  | none :: t, o, i + 1, v, h => by
    have := xas_mem g t (o + 1) i v (by simpa using h)
    rw [xas, show o + (i + 1) = o + 1 + i by omega]; exact this
  | some w :: t, o, i + 1, v, h => by
    have := xas_mem g t (o + 1) i v (by simpa using h)
    rw [xas, show o + (i + 1) = o + 1 + i by omega]; exact List.mem_cons_of_mem _ this
theorem xas_of (g : xG) : ∀ (loc : xL) (o : Nat) (q : Nat × Value), q ∈ xas g o loc → ∃ i v, loc[i]? = some (some v) ∧ q = (o + i, cv g v)
  | [], _, _, h => by simp [xas] at h
  | none :: t, o, q, h => by
    obtain ⟨i, v, h1, h2⟩ := xas_of g t (o + 1) q h
    exact ⟨i + 1, v, by simpa using h1, by rw [h2]; congr 1; omega⟩
  | some w :: t, o, q, h => by
    rcases List.mem_cons.mp h with h | h
    · exact ⟨0, w, by simp, by rw [h]; rfl⟩
    · obtain ⟨i, v, h1, h2⟩ := xas_of g t (o + 1) q h
      exact ⟨i + 1, v, by simpa using h1, by rw [h2]; congr 1; omega⟩
theorem LR.has {g : xG} {ls : Array Slot} {nL : Nat} {loc : xL} (h : LR g ls nL loc) : lv_has ls nL (xas g 0 loc) := by
  refine ⟨h.1.1, h.1.2.1, fun q hq => ?_⟩
  obtain ⟨i, v, h1, h2⟩ := xas_of g loc 0 q hq
  subst h2
  have := h.2.2 i v h1
  simpa using this
theorem LR.mk' {g : xG} {ls : Array Slot} {nL : Nat} {loc : xL} {l : List (Nat × Value)} (h : lv_has ls nL l) (hn : loc.length = nL) (hm : ∀ i v, loc[i]? = some (some v) → (i, cv g v) ∈ l) : LR g ls nL loc :=
  ⟨⟨h.1, h.2.1, fun _ q => nomatch q⟩, hn, fun i v hi => h.2.2 _ (hm i v hi)⟩
/-- a value of one slot is stored: a long ahead of it is gone -/
def st1 (loc : xL) (i : Nat) (v : Value) : xL := match i with
  | 0 => loc.set 0 (some v)
  | j + 1 => match loc[j]? with
    | some (some (.long _)) => (loc.set j none).set (j + 1) (some v)
    | some (some (.double _)) => (loc.set j none).set (j + 1) (some v)
    | _ => loc.set (j + 1) (some v)
def st2 (loc : xL) (i : Nat) (v : Value) : xL := (st1 loc i v).set (i + 1) none
theorem st1_at {loc : xL} {i k : Nat} {v w : Value} (h : (st1 loc i v)[k]? = some (some w)) : (k = i ∧ w = v) ∨ (k ≠ i ∧ loc[k]? = some (some w) ∧ ¬ (k + 1 = i ∧ w.category = 2)) := by
  cases i with
  | zero =>
    simp only [st1, List.getElem?_set] at h
    by_cases hk : 0 = k
    · subst hk
      simp at h
      exact Or.inl ⟨rfl, h.2.symm⟩
    · rw [if_neg hk] at h
      exact Or.inr ⟨fun q => hk q.symm, h, fun q => by omega⟩
  | succ j =>
    have key : ∀ l : xL, (l.set (j + 1) (some v))[k]? = some (some w) → (k = j + 1 ∧ w = v) ∨ (k ≠ j + 1 ∧ l[k]? = some (some w)) := by
      intro l hl
      rw [List.getElem?_set] at hl
      by_cases hk : j + 1 = k
      · subst hk
        simp at hl
        exact Or.inl ⟨rfl, hl.2.symm⟩
      · rw [if_neg hk] at hl
        exact Or.inr ⟨fun q => hk q.symm, hl⟩
    have hj : ∀ l : xL, (l.set j none)[k]? = some (some w) → k ≠ j ∧ l[k]? = some (some w) := by
      intro l hl
      rw [List.getElem?_set] at hl
      by_cases hk : j = k
      · subst hk
        simp at hl
      · rw [if_neg hk] at hl
        exact ⟨fun q => hk q.symm, hl⟩
    unfold st1 at h
    simp only at h
    split at h
    · rcases key _ h with q | ⟨q1, q2⟩
      · exact Or.inl q
      · obtain ⟨q3, q4⟩ := hj _ q2
        exact Or.inr ⟨q1, q4, fun q => q3 (by omega)⟩
    · rcases key _ h with q | ⟨q1, q2⟩
      · exact Or.inl q
      · obtain ⟨q3, q4⟩ := hj _ q2
        exact Or.inr ⟨q1, q4, fun q => q3 (by omega)⟩
    · rename_i n1 n2
      rcases key _ h with q | ⟨q1, q2⟩
      · exact Or.inl q
      · refine Or.inr ⟨q1, q2, fun q => ?_⟩
        have e : k = j := by omega
        subst e
        cases w <;> simp [Value.category] at q
        · exact n1 _ q2
        · exact n2 _ q2
theorem st1_len (loc : xL) (i : Nat) (v : Value) : (st1 loc i v).length = loc.length := by
  unfold st1
  split
  · simp
  · split <;> simp
theorem st2_len (loc : xL) (i : Nat) (v : Value) : (st2 loc i v).length = loc.length := by simp [st2, st1_len]
