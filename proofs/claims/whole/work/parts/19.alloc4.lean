/-! rows of rows of rows: new int[n][m][k] -/
def ot3 (c : ClassId) (N h0 w : Nat) : Nat → Cell
  | 0 => { cls := c, slots := Array.replicate N .null, vm := .none }
  | i + 1 => (ot3 c N h0 w i).setSlot i (.ref (h0 + 1 + i * w))
def fi3 (s : State) (c3 c2 c1 : ClassId) (N M K : Nat) (dv : Value) : Nat → State
  | 0 => s.pushCell (ot3 c3 N s.heap.size (1 + M) 0)
  | i + 1 => (Jvm.Free.Multi.fill (fi3 s c3 c2 c1 N M K dv i) c2 c1 M K dv M).setCell s.heap.size (ot3 c3 N s.heap.size (1 + M) (i + 1))
theorem ot3_facts (c : ClassId) (N h0 w : Nat) : ∀ i, (ot3 c N h0 w i).cls = c ∧ (ot3 c N h0 w i).vm = .none ∧ (ot3 c N h0 w i).slots.size = N
  | 0 => ⟨rfl, rfl, by simp [ot3]⟩
  | i + 1 => by
    obtain ⟨a, b, d⟩ := ot3_facts c N h0 w i
    exact ⟨by simp [ot3, Cell.setSlot, a], by simp [ot3, Cell.setSlot, b], by simp [ot3, Cell.setSlot, d]⟩
theorem ot3_eq (c : ClassId) (N h0 w : Nat) : ∀ i : Nat, ot3 c N h0 w i = arrV c N (fun j => va_rf (if j < i then some (h0 + 1 + j * w) else none))
  | 0 => by
    show ({ cls := c, slots := Array.replicate N .null, vm := .none } : Cell) = _
    rw [arrV_new]
    refine congrArg (arrV c N) (funext fun j => ?_)
    simp [va_rf]
  | i + 1 => by
    show (ot3 c N h0 w i).setSlot i (.ref (h0 + 1 + i * w)) = _
    rw [ot3_eq c N h0 w i, arrV_store]
    refine congrArg (arrV c N) (funext fun j => ?_)
    by_cases e : j = i
    · subst e
      simp [updV, va_rf]
    · by_cases h : j < i
      · simp [updV, e, h, Nat.lt_succ_of_lt h]
      · simp [updV, e, h, show ¬ j < i + 1 by omega]
theorem fi3_facts (s : State) (c3 c2 c1 : ClassId) (N M K : Nat) (dv : Value) : ∀ i, (fi3 s c3 c2 c1 N M K dv i).heap.size = s.heap.size + 1 + i * (1 + M) ∧ (fi3 s c3 c2 c1 N M K dv i).heap[s.heap.size]? = some (ot3 c3 N s.heap.size (1 + M) i) ∧
    (fi3 s c3 c2 c1 N M K dv i).vm = s.vm ∧ (fi3 s c3 c2 c1 N M K dv i).slotsUsed = s.slotsUsed + N + i * (M + M * K)
  | 0 => ⟨by simp [fi3], by simp [fi3], rfl, by simp [fi3, ot3]⟩
  | i + 1 => by
    obtain ⟨a, b, d, u⟩ := fi3_facts s c3 c2 c1 N M K dv i
    obtain ⟨a2, b2, d2, u2⟩ := Jvm.Free.Multi.fill_facts (fi3 s c3 c2 c1 N M K dv i) c2 c1 M K dv M
    have hlt : s.heap.size < (fi3 s c3 c2 c1 N M K dv i).heap.size := by omega
    have hb' : (Jvm.Free.Multi.fill (fi3 s c3 c2 c1 N M K dv i) c2 c1 M K dv M).heap[s.heap.size]? = some (ot3 c3 N s.heap.size (1 + M) i) := by
      rw [Jvm.Free.Multi.fill_old _ _ _ _ _ _ hlt]; exact b
    refine ⟨?_, State.heap_setCell_self hb', by simp [fi3, d2, d], ?_⟩
    · simp only [fi3, State.setCell, Array.size_setIfInBounds, a2, a, Nat.succ_mul]; omega
    · simp only [fi3, State.slotsUsed_setCell, u2, u, Nat.succ_mul]; omega
theorem fi3_setTop (s : State) (f : JFrame) (c3 c2 c1 : ClassId) (N M K : Nat) (dv : Value) : ∀ i, fi3 (s.setTop f) c3 c2 c1 N M K dv i = (fi3 s c3 c2 c1 N M K dv i).setTop f
  | 0 => rfl
  | i + 1 => by simp only [fi3, fi3_setTop s f c3 c2 c1 N M K dv i, Jvm.Free.Multi.fill_setTop, State.heap_setTop, State.setCell_setTop]
theorem fi3_old (s : State) (c3 c2 c1 : ClassId) (N M K : Nat) (dv : Value) {a : Addr} (ha : a < s.heap.size) : ∀ i, (fi3 s c3 c2 c1 N M K dv i).heap[a]? = s.heap[a]?
  | 0 => State.heap_pushCell_of_lt _ _ ha
  | i + 1 => by
    have f1 := (fi3_facts s c3 c2 c1 N M K dv i).1
    have hlt : a < (fi3 s c3 c2 c1 N M K dv i).heap.size := Nat.lt_of_lt_of_le ha (by rw [f1]; omega)
    show ((Jvm.Free.Multi.fill (fi3 s c3 c2 c1 N M K dv i) c2 c1 M K dv M).setCell s.heap.size _).heap[a]? = _
    rw [State.heap_setCell_other (Nat.ne_of_gt ha), Jvm.Free.Multi.fill_old _ _ _ _ _ _ hlt]
    exact fi3_old s c3 c2 c1 N M K dv ha i
/-- the row j and what is in it -/
theorem fi3_row (s : State) (c3 c2 c1 : ClassId) (N M K : Nat) (dv : Value) : ∀ i j, j < i → (fi3 s c3 c2 c1 N M K dv i).heap[s.heap.size + 1 + j * (1 + M)]? = some (Jvm.Free.Multi.outerC c2 M (s.heap.size + 1 + j * (1 + M)) M) ∧
    ∀ q, q < M → (fi3 s c3 c2 c1 N M K dv i).heap[s.heap.size + 1 + j * (1 + M) + 1 + q]? = some (Jvm.Free.Multi.innerC c1 K dv)
  | 0, _, h => absurd h (Nat.not_lt_zero _)
  | i + 1, j, h => by
    have f1 := (fi3_facts s c3 c2 c1 N M K dv i).1
    have ne : ∀ x : Nat, s.heap.size < x → ((Jvm.Free.Multi.fill (fi3 s c3 c2 c1 N M K dv i) c2 c1 M K dv M).setCell s.heap.size (ot3 c3 N s.heap.size (1 + M) (i + 1))).heap[x]? = (Jvm.Free.Multi.fill (fi3 s c3 c2 c1 N M K dv i) c2 c1 M K dv M).heap[x]? := fun x hx => State.heap_setCell_other (Nat.ne_of_lt hx)
    show ((Jvm.Free.Multi.fill (fi3 s c3 c2 c1 N M K dv i) c2 c1 M K dv M).setCell s.heap.size _).heap[_]? = _ ∧ ∀ q, q < M → ((Jvm.Free.Multi.fill (fi3 s c3 c2 c1 N M K dv i) c2 c1 M K dv M).setCell s.heap.size _).heap[_]? = _
    rcases Nat.lt_or_ge j i with hj | hj
    · obtain ⟨r1, r2⟩ := fi3_row s c3 c2 c1 N M K dv i j hj
      have hm : j * (1 + M) + (1 + M) ≤ i * (1 + M) := by
        have := Nat.mul_le_mul_right (1 + M) (show j + 1 ≤ i from hj)
        rw [Nat.succ_mul] at this; exact this
      refine ⟨?_, fun q hq => ?_⟩
      · have hlt1 : s.heap.size + 1 + j * (1 + M) < (fi3 s c3 c2 c1 N M K dv i).heap.size := by rw [f1]; omega
        rw [ne _ (by omega), Jvm.Free.Multi.fill_old _ _ _ _ _ _ hlt1]; exact r1
      · have hlt1 : s.heap.size + 1 + j * (1 + M) + 1 + q < (fi3 s c3 c2 c1 N M K dv i).heap.size := by rw [f1]; omega
        rw [ne _ (by omega), Jvm.Free.Multi.fill_old _ _ _ _ _ _ hlt1]; exact r2 q hq
    · have e : j = i := by omega
      subst e
      obtain ⟨a2, b2, d2, u2⟩ := Jvm.Free.Multi.fill_facts (fi3 s c3 c2 c1 N M K dv j) c2 c1 M K dv M
      rw [f1] at b2
      refine ⟨?_, fun q hq => ?_⟩
      · rw [ne _ (by omega)]; exact b2
      · rw [ne _ (by omega)]
        have := Jvm.Free.Multi.fill_inner (fi3 s c3 c2 c1 N M K dv j) c2 c1 M K dv M q hq
        rw [f1] at this
        exact this
section M3
variable {E : CtlPost} {e : Env} {d : Bool} {acts : List Action} {s : State}
theorem wp_make3 {c3 c2 c1 cc : ClassId} {k3 k2 k1 : Class} {t3 t2 type : FieldType} {n m k : Int32} (hk3 : s.vm.classes[c3]? = some k3) (hkind3 : k3.kind = .array c2 t3) (href3 : t3.isReference = true) (hk2 : s.vm.classes[c2]? = some k2) (hkind2 : k2.kind = .array c1 t2) (href2 : t2.isReference = true)
    (hk1 : s.vm.classes[c1]? = some k1) (hkind1 : k1.kind = .array cc type) (hn : ¬ n < 0) (hm : ¬ m < 0) (hk : ¬ k < 0)
    (hl3 : ¬ n.toNatClampNeg > e.platform.arrayLengthLimit) (hh3 : ¬ n.toNatClampNeg * componentBytes t3 > e.platform.maxHeapBytes)
    (hl2 : ¬ m.toNatClampNeg > e.platform.arrayLengthLimit) (hh2 : ¬ m.toNatClampNeg * componentBytes t2 > e.platform.maxHeapBytes)
    (hl1 : ¬ k.toNatClampNeg > e.platform.arrayLengthLimit) (hh1 : ¬ k.toNatClampNeg * componentBytes type > e.platform.maxHeapBytes)
    (hdf : fits type (defaultValue type) = true) (hdd : (defaultValue type).isDefault = true)
    (hc : s.heap.size + 1 + n.toNatClampNeg * (1 + m.toNatClampNeg) ≤ e.platform.maxCells) (hs : s.slotsUsed + n.toNatClampNeg + n.toNatClampNeg * (m.toNatClampNeg + m.toNatClampNeg * k.toNatClampNeg) ≤ e.platform.maxSlots)
    {Q : Addr → Pre} (hq : ∀ d' acts', Q s.heap.size d' acts' (fi3 s c3 c2 c1 n.toNatClampNeg m.toNatClampNeg k.toNatClampNeg (defaultValue type) n.toNatClampNeg)) :
    wp (multianewarray.make c3 [n, m, k]) Q E e d acts s := by
  have hfind : ([m, k].find? (· < 0)) = none := by simp [hm, hk]
  rw [multianewarray.make]
  simp only [wp_bind', W.ite, hn, if_false, wp_pure', W.theClass, hk3, hkind3, Option.some.injEq, exists_eq_left']
  refine Jvm.Free.Multi.wp_newArray hk3 hkind3 hl3 hh3 (Jvm.Free.Multi.refFits href3 _ (Or.inl rfl)) rfl (by omega) (by have := Nat.zero_le (n.toNatClampNeg * (m.toNatClampNeg + m.toNatClampNeg * k.toNatClampNeg)); omega) ?_
  simp only [hfind]
  rw [ite_self, wp_bind', Std.Legacy.Range.forIn_eq_forIn_range']
  have hsz : ([:n.toNatClampNeg] : Std.Legacy.Range).size = n.toNatClampNeg := by simp [Std.Legacy.Range.size]
  rw [hsz]
  show wp (forIn (List.range' 0 n.toNatClampNeg 1) PUnit.unit _) _ E e d acts _
  refine wp_forIn_inv (fun rest s' => ∃ i, i ≤ n.toNatClampNeg ∧ rest = List.range' i (n.toNatClampNeg - i) ∧ s' = fi3 s c3 c2 c1 n.toNatClampNeg m.toNatClampNeg k.toNatClampNeg (defaultValue type) i) _ _ ⟨0, Nat.zero_le _, rfl, rfl⟩ ?_ ?_
  · rintro x rest s' d' acts' Q' ⟨i, hi, hl, rfl⟩ hnext
    have hlt : i < n.toNatClampNeg := by
      rcases Nat.lt_or_ge i n.toNatClampNeg with h | h
      · exact h
      · rw [show n.toNatClampNeg - i = 0 from by omega] at hl; simp at hl
    obtain ⟨rfl, hrest⟩ : x = i ∧ rest = List.range' (i + 1) (n.toNatClampNeg - (i + 1)) := by
      rw [show n.toNatClampNeg - i = (n.toNatClampNeg - (i + 1)) + 1 from by omega, List.range'_succ] at hl
      exact ⟨(List.cons.inj hl).1, (List.cons.inj hl).2⟩
    obtain ⟨f1, f2, f3, f4⟩ := fi3_facts s c3 c2 c1 n.toNatClampNeg m.toNatClampNeg k.toNatClampNeg (defaultValue type) x
    obtain ⟨o1, o2, o3⟩ := ot3_facts c3 n.toNatClampNeg s.heap.size (1 + m.toNatClampNeg) x
    have hmul1 : x * (1 + m.toNatClampNeg) + (1 + m.toNatClampNeg) ≤ n.toNatClampNeg * (1 + m.toNatClampNeg) := by
      have := Nat.mul_le_mul_right (1 + m.toNatClampNeg) (show x + 1 ≤ n.toNatClampNeg from hlt)
      rw [Nat.succ_mul] at this; exact this
    have hmul2 : x * (m.toNatClampNeg + m.toNatClampNeg * k.toNatClampNeg) + (m.toNatClampNeg + m.toNatClampNeg * k.toNatClampNeg) ≤ n.toNatClampNeg * (m.toNatClampNeg + m.toNatClampNeg * k.toNatClampNeg) := by
      have := Nat.mul_le_mul_right (m.toNatClampNeg + m.toNatClampNeg * k.toNatClampNeg) (show x + 1 ≤ n.toNatClampNeg from hlt)
      rw [Nat.succ_mul] at this; exact this
    simp only [wp_bind']
    refine Jvm.Free.Multi.wp_make2 (comp := c1) (by rw [f3]; exact hk2) hkind2 href2 (by rw [f3]; exact hk1) hkind1 hm hk hl2 hh2 hl1 hh1 hdf hdd (by rw [f1]; omega) (by rw [f4]; omega) (fun d2 acts2 => ?_)
    obtain ⟨g1, g2, g3, g4⟩ := Jvm.Free.Multi.fill_facts (fi3 s c3 c2 c1 n.toNatClampNeg m.toNatClampNeg k.toNatClampNeg (defaultValue type) x) c2 c1 m.toNatClampNeg k.toNatClampNeg (defaultValue type) m.toNatClampNeg
    have hlt0 : s.heap.size < (fi3 s c3 c2 c1 n.toNatClampNeg m.toNatClampNeg k.toNatClampNeg (defaultValue type) x).heap.size := by rw [f1]; omega
    simp only [wp_bind', W.writeLoc, wp_pure']
    refine ⟨ot3 c3 n.toNatClampNeg s.heap.size (1 + m.toNatClampNeg) x, by rw [Jvm.Free.Multi.fill_old _ _ _ _ _ _ hlt0]; exact f2, by rw [o2]; simp, by rw [o3]; exact hlt, ?_, hnext _ _ _ ⟨x + 1, hlt, hrest, ?_⟩⟩
    · rw [o1, o2]
      simp [State.fitsSlot, State.slotType?, g3, f3, hk3, hkind3, Jvm.Free.Multi.refFits href3 _ (Or.inr ⟨_, rfl⟩)]
    · rw [f1]; rfl
  · rintro s' d' acts' ⟨i, hi, hl, rfl⟩
    have hiN : i = n.toNatClampNeg := by
      rcases Nat.lt_or_ge i n.toNatClampNeg with h | h
      · rw [show n.toNatClampNeg - i = (n.toNatClampNeg - (i + 1)) + 1 from by omega, List.range'_succ] at hl; cases hl
      · omega
    subst hiN
    simp only [wp_pure']
    exact hq _ _
end M3
section S3
variable {p : Program} {l : Launch} {e : Env} {R : Room} {s : State} {m : MethodId} {args : Array Value} {below : List Frame} {meth : Method} {c : Code} {T : State} {locs : List Loc} {cells slots : Nat}
theorem filled3 (X : Stand p l e R s m args below meth c T locs cells slots) (c3 c2 c1 : ClassId) (N M K : Nat) (dv : Value) :
    ∀ i, ∃ L : List Loc, Stand p l e R s m args below meth c (fi3 T c3 c2 c1 N M K dv i) (locs ++ L) (cells + 1 + i * (1 + M)) (slots + N + i * (M + M * K)) ∧ ∀ y ∈ L, T.heap.size ≤ y.base
  | 0 => by
    have h := X.pushed (ot3 c3 N T.heap.size (1 + M) 0)
    rw [(ot3_facts c3 N T.heap.size (1 + M) 0).2.2] at h
    exact ⟨[], by simpa [fi3] using h, fun y hy => nomatch hy⟩
  | i + 1 => by
    obtain ⟨L, Xi, hL⟩ := filled3 X c3 c2 c1 N M K dv i
    obtain ⟨f1, f2, f3, f4⟩ := fi3_facts T c3 c2 c1 N M K dv i
    have hlt0 : T.heap.size < (fi3 T c3 c2 c1 N M K dv i).heap.size := by rw [f1]; omega
    have h2 := Xi.filled c2 c1 M K dv M
    have hcell : (Jvm.Free.Multi.fill (fi3 T c3 c2 c1 N M K dv i) c2 c1 M K dv M).heap[T.heap.size]? = some (ot3 c3 N T.heap.size (1 + M) i) := by rw [Jvm.Free.Multi.fill_old _ _ _ _ _ _ hlt0]; exact f2
    have h := h2.stored hcell i (.ref (T.heap.size + 1 + i * (1 + M)))
    have e3 : slots + N + (i + 1) * (M + M * K) = slots + N + i * (M + M * K) + M + M * K := by rw [Nat.succ_mul]; omega
    have e4 : cells + 1 + (i + 1) * (1 + M) = cells + 1 + i * (1 + M) + 1 + M := by rw [Nat.succ_mul]; omega
    rw [e3, e4]
    refine ⟨L ++ ((List.range M).map fun j => (⟨(fi3 T c3 c2 c1 N M K dv i).heap.size, j⟩ : Loc)) ++ [⟨T.heap.size, i⟩], ?_, fun y hy => ?_⟩
    · rw [← List.append_assoc, ← List.append_assoc]
      exact h
    · rcases List.mem_append.mp hy with hy | hy
      · rcases List.mem_append.mp hy with hy | hy
        · exact hL y hy
        · obtain ⟨z, -, rfl⟩ := List.mem_map.mp hy
          exact Nat.le_of_lt hlt0
      · rw [List.mem_singleton.mp hy]
        exact Nat.le_refl _
theorem multi3 (X : Stand p l e R s m args below meth c T locs cells slots) (hexec : p.tables.exec = Jvm.exec) {own : String} {index : Nat} {ty : FieldType}
    (hown : s.vm.findClass own = some m.cls) (hclink : (Cond.classLink own index ("[" ++ (FieldType.array (.array ty)).toString)).before args s = true)
    (hover3 : (Cond.arrayOver (.array (.array ty))).before args s = true) (hover2 : (Cond.arrayOver (.array ty)).before args s = true) (harr : (Cond.arrayClass ty).before args s = true)
    {g : JFrame} (hg : g.method = m) (hdg : decode c.code g.pc = .ok (.multianewarray index 3, 4)) {n k q : Int32} {rest : List Value} (hstack : g.stack = .int q :: .int k :: .int n :: rest)
    (hn : ¬ n < 0) (hk : ¬ k < 0) (hq0 : ¬ q < 0) (hb1 : n.toNatClampNeg * 4 ≤ 536870912) (hb2 : k.toNatClampNeg * 4 ≤ 536870912) (hb3 : q.toNatClampNeg * componentBytes ty ≤ 536870912) (hb4 : q.toNatClampNeg ≤ 536870912)
    (hdf : fits ty (defaultValue ty) = true) (hdd : (defaultValue ty).isDefault = true)
    (hcells : cells + (1 + n.toNatClampNeg * (1 + k.toNatClampNeg)) ≤ R.cells) (hslots : slots + (n.toNatClampNeg + n.toNatClampNeg * (k.toNatClampNeg + k.toNatClampNeg * q.toNatClampNeg)) ≤ R.slots) :
    ∃ (vm₁ : Vm) (c3 c2 c1 : ClassId) (L : List Loc), s.WarmedH vm₁ ∧ s.vm.findClass ("[" ++ (FieldType.array (.array ty)).toString) = some c3 ∧ s.vm.findClass ("[" ++ (FieldType.array ty).toString) = some c2 ∧ s.vm.findClass (FieldType.array ty).toString = some c1 ∧
      Stand p l e R s m args below meth c (fi3 (T.setVm vm₁) c3 c2 c1 n.toNatClampNeg k.toNatClampNeg q.toNatClampNeg (defaultValue ty) n.toNatClampNeg) (locs ++ L) (cells + 1 + n.toNatClampNeg * (1 + k.toNatClampNeg)) (slots + n.toNatClampNeg + n.toNatClampNeg * (k.toNatClampNeg + k.toNatClampNeg * q.toNatClampNeg)) ∧ (∀ y ∈ L, T.heap.size ≤ y.base) ∧
      ∀ target, Steps p.tables e below ((fi3 (T.setVm vm₁) c3 c2 c1 n.toNatClampNeg k.toNatClampNeg q.toNatClampNeg (defaultValue ty) n.toNatClampNeg).setTop { g with pc := g.pc + 4, stack := .ref T.heap.size :: rest }) target →
        Steps p.tables e below (T.setTop g) target := by
  subst hg
  have hpl : e.platform.magicAccessors = ({} : Platform).magicAccessors := by rw [X.admits.platform]
  obtain ⟨comp3, c3, k3, hcomp3, hk3, hkind3, hname3⟩ := Cond.arrayOver_specA hover3
  obtain ⟨comp2, c2, k2, hcomp2, hk2, hkind2, hname2⟩ := Cond.arrayOver_specA hover2
  obtain ⟨comp1, k1, cc, hcomp1, hk1, hkind1⟩ := Cond.arrayClass_spec harr
  have e3 : comp3 = c2 := Option.some.inj (hcomp3.symm.trans hname2)
  subst e3
  have e2 : comp2 = comp1 := Option.some.inj (hcomp2.symm.trans hcomp1)
  subst e2
  obtain ⟨c0, hfc0, hcl⟩ := Cond.classLink_spec hown hclink e.platform hpl
  cases hname3.symm.trans hfc0
  obtain ⟨hg₁, hwarm₁, hready₁⟩ := State.classEntry (e := e) X.warmed hcl
  generalize T.vm.noted g.method.cls index (.cls c3) = vm₁ at hg₁ hwarm₁ hready₁
  have hal : s.vm.Alike vm₁ := hwarm₁.alike
  obtain ⟨k3', hk3', h3e⟩ := hal.2.2 _ _ hk3
  obtain ⟨k2', hk2', h2e⟩ := hal.2.2 _ _ hk2
  obtain ⟨k1', hk1', h1e⟩ := hal.2.2 _ _ hk1
  have hkind3' : k3'.kind = .array comp3 (.array (.array ty)) := by rw [h3e]; exact hkind3
  have hkind2' : k2'.kind = .array comp2 (.array ty) := by rw [h2e]; exact hkind2
  have hkind1' : k1'.kind = .array cc ty := by rw [h1e]; exact hkind1
  have X₁ := X.noted hwarm₁
  obtain ⟨hr1, hr2⟩ := X.roomAbove hcells hslots
  obtain ⟨L, XF, hL⟩ := filled3 X₁ c3 comp3 comp2 n.toNatClampNeg k.toNatClampNeg q.toNatClampNeg (defaultValue ty) n.toNatClampNeg
  refine ⟨vm₁, c3, comp3, comp2, L, hwarm₁, hname3, hname2, hcomp2, XF, hL, fun target hrest => ?_⟩
  have hl3 : ¬ n.toNatClampNeg > e.platform.arrayLengthLimit := by rw [Launch.admits_arrayLengthLimit X.admits]; omega
  have hh3 : ¬ n.toNatClampNeg * componentBytes (.array (.array ty)) > e.platform.maxHeapBytes := by
    rw [Launch.admits_maxHeapBytes X.admits]; show ¬ n.toNatClampNeg * 4 > 536870912; omega
  have hl2 : ¬ k.toNatClampNeg > e.platform.arrayLengthLimit := by rw [Launch.admits_arrayLengthLimit X.admits]; omega
  have hh2 : ¬ k.toNatClampNeg * componentBytes (.array ty) > e.platform.maxHeapBytes := by
    rw [Launch.admits_maxHeapBytes X.admits]; show ¬ k.toNatClampNeg * 4 > 536870912; omega
  have hl1 : ¬ q.toNatClampNeg > e.platform.arrayLengthLimit := by rw [Launch.admits_arrayLengthLimit X.admits]; omega
  have hh1 : ¬ q.toNatClampNeg * componentBytes ty > e.platform.maxHeapBytes := by rw [Launch.admits_maxHeapBytes X.admits]; omega
  jvm_step X.here [hexec, hdg]
  simp only [multianewarray.sem, wp_bind', W.resolveClassAt_links (State.method?_setTop g X.here.top) hg₁]
  rw [W.popN, if_neg (by decide)]
  refine ⟨g, State.topJava?_setTop' (s := T.setVm vm₁) g X.here.top, [.int n, .int k, .int q], rest, rfl, hstack, ?_⟩
  simp only [List.mapM_cons, List.mapM_nil, wp_bind', wp_pure']
  refine wp_make3 (k3 := k3') (k2 := k2') (k1 := k1') (c2 := comp3) (c1 := comp2) (cc := cc) (t3 := .array (.array ty)) (t2 := .array ty) (type := ty) hk3' hkind3' rfl hk2' hkind2' rfl hk1' hkind1' hn hk hq0 hl3 hh3 hl2 hh2 hl1 hh1 hdf hdd (by show T.heap.size + 1 + _ ≤ _; omega) (by show T.slotsUsed + _ + _ ≤ _; omega) (fun d' acts' => ?_)
  have eS : ((T.setTop g).setVm vm₁).setTop { g with stack := rest } = (T.setVm vm₁).setTop { g with stack := rest } := by
    show ((T.setVm vm₁).setTop g).setTop _ = _
    rw [State.setTop_setTop]
  rw [eS, fi3_setTop]
  simp only [wp_bind', W.mark, W.pushRef, State.topJava?_setTop' _ XF.here.top, Option.some.injEq, exists_eq_left', State.setTop_setTop, State.heap_setTop]
  intro acts
  simp [jvm, XF.here.top]
  exact hrest
end S3
