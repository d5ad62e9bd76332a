/-! rows of rows of rows: new int[n][m][k] -/
def ot3 (c : ClassId) (N h0 w : Nat) : Nat → Cell
  | 0 => { cls := c, slots := Array.replicate N .null, vm := .none }
  | i + 1 => (ot3 c N h0 w i).setSlot i (.ref (h0 + 1 + i * w))
def fi3 (s : State) (c3 c2 c1 : ClassId) (N M K : Nat) (dv : Value) : Nat → State
  | 0 => s.pushCell (ot3 c3 N s.heap.size (1 + M) 0)
  | i + 1 => (Jvm.Free.Multi.fill (fi3 s c3 c2 c1 N M K dv i) c2 c1 M K dv M).setCell s.heap.size (ot3 c3 N s.heap.size (1 + M) (i + 1))
theorem ot3_facts (c : ClassId) (N h0 w : Nat) : ∀ i, (ot3 c N h0 w i).cls = c ∧ (ot3 c N h0 w i).vm = .none ∧ (ot3 c N h0 w i).slots.size = N
  | 0 => ⟨rfl, rfl, by simp [ot3]⟩
  | i + 1 => by
    obtain ⟨a, b, d⟩ := ot3_facts c N h0 w i
    exact ⟨by simp [ot3, Cell.setSlot, a], by simp [ot3, Cell.setSlot, b], by simp [ot3, Cell.setSlot, d]⟩
theorem ot3_eq (c : ClassId) (N h0 w : Nat) : ∀ i : Nat, ot3 c N h0 w i = arrV c N (fun j => va_rf (if j < i then some (h0 + 1 + j * w) else none))
  | 0 => by
    show ({ cls := c, slots := Array.replicate N .null, vm := .none } : Cell) = _
    rw [arrV_new]
    refine congrArg (arrV c N) (funext fun j => ?_)
    simp [va_rf]
  | i + 1 => by
    show (ot3 c N h0 w i).setSlot i (.ref (h0 + 1 + i * w)) = _
    rw [ot3_eq c N h0 w i, arrV_store]
    refine congrArg (arrV c N) (funext fun j => ?_)
    by_cases e : j = i
    · subst e
      simp [updV, va_rf]
    · by_cases h : j < i
      · simp [updV, e, h, Nat.lt_succ_of_lt h]
      · simp [updV, e, h, show ¬ j < i + 1 by omega]
theorem fi3_facts (s : State) (c3 c2 c1 : ClassId) (N M K : Nat) (dv : Value) : ∀ i, (fi3 s c3 c2 c1 N M K dv i).heap.size = s.heap.size + 1 + i * (1 + M) ∧ (fi3 s c3 c2 c1 N M K dv i).heap[s.heap.size]? = some (ot3 c3 N s.heap.size (1 + M) i) ∧
    (fi3 s c3 c2 c1 N M K dv i).vm = s.vm ∧ (fi3 s c3 c2 c1 N M K dv i).slotsUsed = s.slotsUsed + N + i * (M + M * K)
  | 0 => ⟨by simp [fi3], by simp [fi3], rfl, by simp [fi3, ot3]⟩
  | i + 1 => by
    obtain ⟨a, b, d, u⟩ := fi3_facts s c3 c2 c1 N M K dv i
    obtain ⟨a2, b2, d2, u2⟩ := Jvm.Free.Multi.fill_facts (fi3 s c3 c2 c1 N M K dv i) c2 c1 M K dv M
    have hlt : s.heap.size < (fi3 s c3 c2 c1 N M K dv i).heap.size := by omega
    have hb' : (Jvm.Free.Multi.fill (fi3 s c3 c2 c1 N M K dv i) c2 c1 M K dv M).heap[s.heap.size]? = some (ot3 c3 N s.heap.size (1 + M) i) := by
      rw [Jvm.Free.Multi.fill_old _ _ _ _ _ _ hlt]; exact b
    refine ⟨?_, State.heap_setCell_self hb', by simp [fi3, d2, d], ?_⟩
    · simp only [fi3, State.setCell, Array.size_setIfInBounds, a2, a, Nat.succ_mul]; omega
    · simp only [fi3, State.slotsUsed_setCell, u2, u, Nat.succ_mul]; omega
theorem fi3_setTop (s : State) (f : JFrame) (c3 c2 c1 : ClassId) (N M K : Nat) (dv : Value) : ∀ i, fi3 (s.setTop f) c3 c2 c1 N M K dv i = (fi3 s c3 c2 c1 N M K dv i).setTop f
  | 0 => rfl
  | i + 1 => by simp only [fi3, fi3_setTop s f c3 c2 c1 N M K dv i, Jvm.Free.Multi.fill_setTop, State.heap_setTop, State.setCell_setTop]
theorem fi3_old (s : State) (c3 c2 c1 : ClassId) (N M K : Nat) (dv : Value) {a : Addr} (ha : a < s.heap.size) : ∀ i, (fi3 s c3 c2 c1 N M K dv i).heap[a]? = s.heap[a]?
  | 0 => State.heap_pushCell_of_lt _ _ ha
  | i + 1 => by
    have f1 := (fi3_facts s c3 c2 c1 N M K dv i).1
    have hlt : a < (fi3 s c3 c2 c1 N M K dv i).heap.size := Nat.lt_of_lt_of_le ha (by rw [f1]; omega)
    show ((Jvm.Free.Multi.fill (fi3 s c3 c2 c1 N M K dv i) c2 c1 M K dv M).setCell s.heap.size _).heap[a]? = _
    rw [State.heap_setCell_other (Nat.ne_of_gt ha), Jvm.Free.Multi.fill_old _ _ _ _ _ _ hlt]
    exact fi3_old s c3 c2 c1 N M K dv ha i
/-- the row j and what is in it -/
theorem fi3_row (s : State) (c3 c2 c1 : ClassId) (N M K : Nat) (dv : Value) : ∀ i j, j < i → (fi3 s c3 c2 c1 N M K dv i).heap[s.heap.size + 1 + j * (1 + M)]? = some (Jvm.Free.Multi.outerC c2 M (s.heap.size + 1 + j * (1 + M)) M) ∧
    ∀ q, q < M → (fi3 s c3 c2 c1 N M K dv i).heap[s.heap.size + 1 + j * (1 + M) + 1 + q]? = some (Jvm.Free.Multi.innerC c1 K dv)
  | 0, _, h => absurd h (Nat.not_lt_zero _)
  | i + 1, j, h => by
    have f1 := (fi3_facts s c3 c2 c1 N M K dv i).1
    have ne : ∀ x : Nat, s.heap.size < x → ((Jvm.Free.Multi.fill (fi3 s c3 c2 c1 N M K dv i) c2 c1 M K dv M).setCell s.heap.size (ot3 c3 N s.heap.size (1 + M) (i + 1))).heap[x]? = (Jvm.Free.Multi.fill (fi3 s c3 c2 c1 N M K dv i) c2 c1 M K dv M).heap[x]? := fun x hx => State.heap_setCell_other (Nat.ne_of_lt hx)
    show ((Jvm.Free.Multi.fill (fi3 s c3 c2 c1 N M K dv i) c2 c1 M K dv M).setCell s.heap.size _).heap[_]? = _ ∧ ∀ q, q < M → ((Jvm.Free.Multi.fill (fi3 s c3 c2 c1 N M K dv i) c2 c1 M K dv M).setCell s.heap.size _).heap[_]? = _
    rcases Nat.lt_or_ge j i with hj | hj
    · obtain ⟨r1, r2⟩ := fi3_row s c3 c2 c1 N M K dv i j hj
      have hm : j * (1 + M) + (1 + M) ≤ i * (1 + M) := by
        have := Nat.mul_le_mul_right (1 + M) (show j + 1 ≤ i from hj)
        rw [Nat.succ_mul] at this; exact this
      refine ⟨?_, fun q hq => ?_⟩
      · have hlt1 : s.heap.size + 1 + j * (1 + M) < (fi3 s c3 c2 c1 N M K dv i).heap.size := by rw [f1]; omega
        rw [ne _ (by omega), Jvm.Free.Multi.fill_old _ _ _ _ _ _ hlt1]; exact r1
      · have hlt1 : s.heap.size + 1 + j * (1 + M) + 1 + q < (fi3 s c3 c2 c1 N M K dv i).heap.size := by rw [f1]; omega
        rw [ne _ (by omega), Jvm.Free.Multi.fill_old _ _ _ _ _ _ hlt1]; exact r2 q hq
    · have e : j = i := by omega
      subst e
      obtain ⟨a2, b2, d2, u2⟩ := Jvm.Free.Multi.fill_facts (fi3 s c3 c2 c1 N M K dv j) c2 c1 M K dv M
      rw [f1] at b2
      refine ⟨?_, fun q hq => ?_⟩
      · rw [ne _ (by omega)]; exact b2
      · rw [ne _ (by omega)]
        have := Jvm.Free.Multi.fill_inner (fi3 s c3 c2 c1 N M K dv j) c2 c1 M K dv M q hq
        rw [f1] at this
        exact this
section M3
variable {E : CtlPost} {e : Env} {d : Bool} {acts : List Action} {s : State}
theorem wp_make3 {c3 c2 c1 cc : ClassId} {k3 k2 k1 : Class} {t3 t2 type : FieldType} {n m k : Int32} (hk3 : s.vm.classes[c3]? = some k3) (hkind3 : k3.kind = .array c2 t3) (href3 : t3.isReference = true) (hk2 : s.vm.classes[c2]? = some k2) (hkind2 : k2.kind = .array c1 t2) (href2 : t2.isReference = true)
    (hk1 : s.vm.classes[c1]? = some k1) (hkind1 : k1.kind = .array cc type) (hn : ¬ n < 0) (hm : ¬ m < 0) (hk : ¬ k < 0)
    (hl3 : ¬ n.toNatClampNeg > e.platform.arrayLengthLimit) (hh3 : ¬ n.toNatClampNeg * componentBytes t3 > e.platform.maxHeapBytes)
    (hl2 : ¬ m.toNatClampNeg > e.platform.arrayLengthLimit) (hh2 : ¬ m.toNatClampNeg * componentBytes t2 > e.platform.maxHeapBytes)
    (hl1 : ¬ k.toNatClampNeg > e.platform.arrayLengthLimit) (hh1 : ¬ k.toNatClampNeg * componentBytes type > e.platform.maxHeapBytes)
    (hdf : fits type (defaultValue type) = true) (hdd : (defaultValue type).isDefault = true)
    (hc : s.heap.size + 1 + n.toNatClampNeg * (1 + m.toNatClampNeg) ≤ e.platform.maxCells) (hs : s.slotsUsed + n.toNatClampNeg + n.toNatClampNeg * (m.toNatClampNeg + m.toNatClampNeg * k.toNatClampNeg) ≤ e.platform.maxSlots)
    {Q : Addr → Pre} (hq : ∀ d' acts', Q s.heap.size d' acts' (fi3 s c3 c2 c1 n.toNatClampNeg m.toNatClampNeg k.toNatClampNeg (defaultValue type) n.toNatClampNeg)) :
    wp (multianewarray.make c3 [n, m, k]) Q E e d acts s := by
  have hfind : ([m, k].find? (· < 0)) = none := by simp [hm, hk]
  rw [multianewarray.make]
  simp only [wp_bind', W.ite, hn, if_false, wp_pure', W.theClass, hk3, hkind3, Option.some.injEq, exists_eq_left']
  refine Jvm.Free.Multi.wp_newArray hk3 hkind3 hl3 hh3 (Jvm.Free.Multi.refFits href3 _ (Or.inl rfl)) rfl (by omega) (by have := Nat.zero_le (n.toNatClampNeg * (m.toNatClampNeg + m.toNatClampNeg * k.toNatClampNeg)); omega) ?_
  simp only [hfind]
  rw [ite_self, wp_bind', Std.Legacy.Range.forIn_eq_forIn_range']
  have hsz : ([:n.toNatClampNeg] : Std.Legacy.Range).size = n.toNatClampNeg := by simp [Std.Legacy.Range.size]
  rw [hsz]
  show wp (forIn (List.range' 0 n.toNatClampNeg 1) PUnit.unit _) _ E e d acts _
  refine wp_forIn_inv (fun rest s' => ∃ i, i ≤ n.toNatClampNeg ∧ rest = List.range' i (n.toNatClampNeg - i) ∧ s' = fi3 s c3 c2 c1 n.toNatClampNeg m.toNatClampNeg k.toNatClampNeg (defaultValue type) i) _ _ ⟨0, Nat.zero_le _, rfl, rfl⟩ ?_ ?_
  · rintro x rest s' d' acts' Q' ⟨i, hi, hl, rfl⟩ hnext
    have hlt : i < n.toNatClampNeg := by
      rcases Nat.lt_or_ge i n.toNatClampNeg with h | h
      · exact h
      · rw [show n.toNatClampNeg - i = 0 from by omega] at hl; simp at hl
    obtain ⟨rfl, hrest⟩ : x = i ∧ rest = List.range' (i + 1) (n.toNatClampNeg - (i + 1)) := by
      rw [show n.toNatClampNeg - i = (n.toNatClampNeg - (i + 1)) + 1 from by omega, List.range'_succ] at hl
      exact ⟨(List.cons.inj hl).1, (List.cons.inj hl).2⟩
    obtain ⟨f1, f2, f3, f4⟩ := fi3_facts s c3 c2 c1 n.toNatClampNeg m.toNatClampNeg k.toNatClampNeg (defaultValue type) x
    obtain ⟨o1, o2, o3⟩ := ot3_facts c3 n.toNatClampNeg s.heap.size (1 + m.toNatClampNeg) x
    have hmul1 : x * (1 + m.toNatClampNeg) + (1 + m.toNatClampNeg) ≤ n.toNatClampNeg * (1 + m.toNatClampNeg) := by
      have := Nat.mul_le_mul_right (1 + m.toNatClampNeg) (show x + 1 ≤ n.toNatClampNeg from hlt)
      rw [Nat.succ_mul] at this; exact this
    have hmul2 : x * (m.toNatClampNeg + m.toNatClampNeg * k.toNatClampNeg) + (m.toNatClampNeg + m.toNatClampNeg * k.toNatClampNeg) ≤ n.toNatClampNeg * (m.toNatClampNeg + m.toNatClampNeg * k.toNatClampNeg) := by
      have := Nat.mul_le_mul_right (m.toNatClampNeg + m.toNatClampNeg * k.toNatClampNeg) (show x + 1 ≤ n.toNatClampNeg from hlt)
      rw [Nat.succ_mul] at this; exact this
    simp only [wp_bind']
    refine Jvm.Free.Multi.wp_make2 (comp := c1) (by rw [f3]; exact hk2) hkind2 href2 (by rw [f3]; exact hk1) hkind1 hm hk hl2 hh2 hl1 hh1 hdf hdd (by rw [f1]; omega) (by rw [f4]; omega) (fun d2 acts2 => ?_)
    obtain ⟨g1, g2, g3, g4⟩ := Jvm.Free.Multi.fill_facts (fi3 s c3 c2 c1 n.toNatClampNeg m.toNatClampNeg k.toNatClampNeg (defaultValue type) x) c2 c1 m.toNatClampNeg k.toNatClampNeg (defaultValue type) m.toNatClampNeg
    have hlt0 : s.heap.size < (fi3 s c3 c2 c1 n.toNatClampNeg m.toNatClampNeg k.toNatClampNeg (defaultValue type) x).heap.size := by rw [f1]; omega
    simp only [wp_bind', W.writeLoc, wp_pure']
    refine ⟨ot3 c3 n.toNatClampNeg s.heap.size (1 + m.toNatClampNeg) x, by rw [Jvm.Free.Multi.fill_old _ _ _ _ _ _ hlt0]; exact f2, by rw [o2]; simp, by rw [o3]; exact hlt, ?_, hnext _ _ _ ⟨x + 1, hlt, hrest, ?_⟩⟩
    · rw [o1, o2]
      simp [State.fitsSlot, State.slotType?, g3, f3, hk3, hkind3, Jvm.Free.Multi.refFits href3 _ (Or.inr ⟨_, rfl⟩)]
    · rw [f1]; rfl
  · rintro s' d' acts' ⟨i, hi, hl, rfl⟩
    have hiN : i = n.toNatClampNeg := by
      rcases Nat.lt_or_ge i n.toNatClampNeg with h | h
      · rw [show n.toNatClampNeg - i = (n.toNatClampNeg - (i + 1)) + 1 from by omega, List.range'_succ] at hl; cases hl
      · omega
    subst hiN
    simp only [wp_pure']
    exact hq _ _
end M3
section S3
variable {p : Program} {l : Launch} {e : Env} {R : Room} {s : State} {m : MethodId} {args : Array Value} {below : List Frame} {meth : Method} {c : Code} {T : State} {locs : List Loc} {cells slots : Nat}
theorem filled3 (X : Stand p l e R s m args below meth c T locs cells slots) (c3 c2 c1 : ClassId) (N M K : Nat) (dv : Value) :
    ∀ i, ∃ L : List Loc, Stand p l e R s m args below meth c (fi3 T c3 c2 c1 N M K dv i) (locs ++ L) (cells + 1 + i * (1 + M)) (slots + N + i * (M + M * K)) ∧ ∀ y ∈ L, T.heap.size ≤ y.base
  | 0 => by
    have h := X.pushed (ot3 c3 N T.heap.size (1 + M) 0)
    rw [(ot3_facts c3 N T.heap.size (1 + M) 0).2.2] at h
    exact ⟨[], by simpa [fi3] using h, fun y hy => nomatch hy⟩
  | i + 1 => by
    obtain ⟨L, Xi, hL⟩ := filled3 X c3 c2 c1 N M K dv i
    obtain ⟨f1, f2, f3, f4⟩ := fi3_facts T c3 c2 c1 N M K dv i
    have hlt0 : T.heap.size < (fi3 T c3 c2 c1 N M K dv i).heap.size := by rw [f1]; omega
    have h2 := Xi.filled c2 c1 M K dv M
    have hcell : (Jvm.Free.Multi.fill (fi3 T c3 c2 c1 N M K dv i) c2 c1 M K dv M).heap[T.heap.size]? = some (ot3 c3 N T.heap.size (1 + M) i) := by rw [Jvm.Free.Multi.fill_old _ _ _ _ _ _ hlt0]; exact f2
    have h := h2.stored hcell i (.ref (T.heap.size + 1 + i * (1 + M)))
    have e3 : slots + N + (i + 1) * (M + M * K) = slots + N + i * (M + M * K) + M + M * K := by rw [Nat.succ_mul]; omega
    have e4 : cells + 1 + (i + 1) * (1 + M) = cells + 1 + i * (1 + M) + 1 + M := by rw [Nat.succ_mul]; omega
    rw [e3, e4]
    refine ⟨L ++ ((List.range M).map fun j => (⟨(fi3 T c3 c2 c1 N M K dv i).heap.size, j⟩ : Loc)) ++ [⟨T.heap.size, i⟩], ?_, fun y hy => ?_⟩
    · rw [← List.append_assoc, ← List.append_assoc]
      exact h
    · rcases List.mem_append.mp hy with hy | hy
      · rcases List.mem_append.mp hy with hy | hy
        · exact hL y hy
        · obtain ⟨z, -, rfl⟩ := List.mem_map.mp hy
          exact Nat.le_of_lt hlt0
      · rw [List.mem_singleton.mp hy]
        exact Nat.le_refl _
theorem multi3 (X : Stand p l e R s m args below meth c T locs cells slots) (hexec : p.tables.exec = Jvm.exec) {own : String} {index : Nat} {ty : FieldType}
    (hown : s.vm.findClass own = some m.cls) (hclink : (Cond.classLink own index ("[" ++ (FieldType.array (.array ty)).toString)).before args s = true)
    (hover3 : (Cond.arrayOver (.array (.array ty))).before args s = true) (hover2 : (Cond.arrayOver (.array ty)).before args s = true) (harr : (Cond.arrayClass ty).before args s = true)
    {g : JFrame} (hg : g.method = m) (hdg : decode c.code g.pc = .ok (.multianewarray index 3, 4)) {n k q : Int32} {rest : List Value} (hstack : g.stack = .int q :: .int k :: .int n :: rest)
    (hn : ¬ n < 0) (hk : ¬ k < 0) (hq0 : ¬ q < 0) (hb1 : n.toNatClampNeg * 4 ≤ 536870912) (hb2 : k.toNatClampNeg * 4 ≤ 536870912) (hb3 : q.toNatClampNeg * componentBytes ty ≤ 536870912) (hb4 : q.toNatClampNeg ≤ 536870912)
    (hdf : fits ty (defaultValue ty) = true) (hdd : (defaultValue ty).isDefault = true)
    (hcells : cells + (1 + n.toNatClampNeg * (1 + k.toNatClampNeg)) ≤ R.cells) (hslots : slots + (n.toNatClampNeg + n.toNatClampNeg * (k.toNatClampNeg + k.toNatClampNeg * q.toNatClampNeg)) ≤ R.slots) :
    ∃ (vm₁ : Vm) (c3 c2 c1 : ClassId) (L : List Loc), s.WarmedH vm₁ ∧ s.vm.findClass ("[" ++ (FieldType.array (.array ty)).toString) = some c3 ∧ s.vm.findClass ("[" ++ (FieldType.array ty).toString) = some c2 ∧ s.vm.findClass (FieldType.array ty).toString = some c1 ∧
      Stand p l e R s m args below meth c (fi3 (T.setVm vm₁) c3 c2 c1 n.toNatClampNeg k.toNatClampNeg q.toNatClampNeg (defaultValue ty) n.toNatClampNeg) (locs ++ L) (cells + 1 + n.toNatClampNeg * (1 + k.toNatClampNeg)) (slots + n.toNatClampNeg + n.toNatClampNeg * (k.toNatClampNeg + k.toNatClampNeg * q.toNatClampNeg)) ∧ (∀ y ∈ L, T.heap.size ≤ y.base) ∧
      ∀ target, Steps p.tables e below ((fi3 (T.setVm vm₁) c3 c2 c1 n.toNatClampNeg k.toNatClampNeg q.toNatClampNeg (defaultValue ty) n.toNatClampNeg).setTop { g with pc := g.pc + 4, stack := .ref T.heap.size :: rest }) target →
        Steps p.tables e below (T.setTop g) target := by
  subst hg
  have hpl : e.platform.magicAccessors = ({} : Platform).magicAccessors := by rw [X.admits.platform]
  obtain ⟨comp3, c3, k3, hcomp3, hk3, hkind3, hname3⟩ := Cond.arrayOver_specA hover3
  obtain ⟨comp2, c2, k2, hcomp2, hk2, hkind2, hname2⟩ := Cond.arrayOver_specA hover2
  obtain ⟨comp1, k1, cc, hcomp1, hk1, hkind1⟩ := Cond.arrayClass_spec harr
  have e3 : comp3 = c2 := Option.some.inj (hcomp3.symm.trans hname2)
  subst e3
  have e2 : comp2 = comp1 := Option.some.inj (hcomp2.symm.trans hcomp1)
  subst e2
  obtain ⟨c0, hfc0, hcl⟩ := Cond.classLink_spec hown hclink e.platform hpl
  cases hname3.symm.trans hfc0
  obtain ⟨hg₁, hwarm₁, hready₁⟩ := State.classEntry (e := e) X.warmed hcl
  generalize T.vm.noted g.method.cls index (.cls c3) = vm₁ at hg₁ hwarm₁ hready₁
  have hal : s.vm.Alike vm₁ := hwarm₁.alike
  obtain ⟨k3', hk3', h3e⟩ := hal.2.2 _ _ hk3
  obtain ⟨k2', hk2', h2e⟩ := hal.2.2 _ _ hk2
  obtain ⟨k1', hk1', h1e⟩ := hal.2.2 _ _ hk1
  have hkind3' : k3'.kind = .array comp3 (.array (.array ty)) := by rw [h3e]; exact hkind3
  have hkind2' : k2'.kind = .array comp2 (.array ty) := by rw [h2e]; exact hkind2
  have hkind1' : k1'.kind = .array cc ty := by rw [h1e]; exact hkind1
  have X₁ := X.noted hwarm₁
  obtain ⟨hr1, hr2⟩ := X.roomAbove hcells hslots
  obtain ⟨L, XF, hL⟩ := filled3 X₁ c3 comp3 comp2 n.toNatClampNeg k.toNatClampNeg q.toNatClampNeg (defaultValue ty) n.toNatClampNeg
  refine ⟨vm₁, c3, comp3, comp2, L, hwarm₁, hname3, hname2, hcomp2, XF, hL, fun target hrest => ?_⟩
  have hl3 : ¬ n.toNatClampNeg > e.platform.arrayLengthLimit := by rw [Launch.admits_arrayLengthLimit X.admits]; omega
  have hh3 : ¬ n.toNatClampNeg * componentBytes (.array (.array ty)) > e.platform.maxHeapBytes := by
    rw [Launch.admits_maxHeapBytes X.admits]; show ¬ n.toNatClampNeg * 4 > 536870912; omega
  have hl2 : ¬ k.toNatClampNeg > e.platform.arrayLengthLimit := by rw [Launch.admits_arrayLengthLimit X.admits]; omega
  have hh2 : ¬ k.toNatClampNeg * componentBytes (.array ty) > e.platform.maxHeapBytes := by
    rw [Launch.admits_maxHeapBytes X.admits]; show ¬ k.toNatClampNeg * 4 > 536870912; omega
  have hl1 : ¬ q.toNatClampNeg > e.platform.arrayLengthLimit := by rw [Launch.admits_arrayLengthLimit X.admits]; omega
  have hh1 : ¬ q.toNatClampNeg * componentBytes ty > e.platform.maxHeapBytes := by rw [Launch.admits_maxHeapBytes X.admits]; omega
  jvm_step X.here [hexec, hdg]
  simp only [multianewarray.sem, wp_bind', W.resolveClassAt_links (State.method?_setTop g X.here.top) hg₁]
  rw [W.popN, if_neg (by decide)]
  refine ⟨g, State.topJava?_setTop' (s := T.setVm vm₁) g X.here.top, [.int n, .int k, .int q], rest, rfl, hstack, ?_⟩
  simp only [List.mapM_cons, List.mapM_nil, wp_bind', wp_pure']
  refine wp_make3 (k3 := k3') (k2 := k2') (k1 := k1') (c2 := comp3) (c1 := comp2) (cc := cc) (t3 := .array (.array ty)) (t2 := .array ty) (type := ty) hk3' hkind3' rfl hk2' hkind2' rfl hk1' hkind1' hn hk hq0 hl3 hh3 hl2 hh2 hl1 hh1 hdf hdd (by show T.heap.size + 1 + _ ≤ _; omega) (by show T.slotsUsed + _ + _ ≤ _; omega) (fun d' acts' => ?_)
  have eS : ((T.setTop g).setVm vm₁).setTop { g with stack := rest } = (T.setVm vm₁).setTop { g with stack := rest } := by
    show ((T.setVm vm₁).setTop g).setTop _ = _
    rw [State.setTop_setTop]
  rw [eS, fi3_setTop]
  simp only [wp_bind', W.mark, W.pushRef, State.topJava?_setTop' _ XF.here.top, Option.some.injEq, exists_eq_left', State.setTop_setTop, State.heap_setTop]
  intro acts
  simp [jvm, XF.here.top]
  exact hrest
end S3
def row3 (b M K : Nat) : List xC := (102, (List.range M).map fun j => .ref (b + 1 + j)) :: List.replicate M (100, List.replicate K (.int 0))
def rows3 (b M K : Nat) : Nat → List xC
  | 0 => []
  | i + 1 => rows3 b M K i ++ row3 (b + i * (1 + M)) M K
theorem row3_len (b M K : Nat) : (row3 b M K).length = 1 + M := by simp [row3]; omega
theorem rows3_len (b M K : Nat) : ∀ i, (rows3 b M K i).length = i * (1 + M)
  | 0 => by simp [rows3]
  | i + 1 => by rw [rows3, List.length_append, rows3_len b M K i, row3_len, Nat.succ_mul]
theorem rows3_szs (b M K : Nat) : ∀ i, szs (rows3 b M K i) = i * (M + M * K)
  | 0 => by simp [rows3, szs]
  | i + 1 => by rw [rows3, szs_app, rows3_szs b M K i, row3, szs, szs_rep]; simp only [List.length_map, List.length_range, List.length_replicate, Nat.succ_mul]
theorem rows3_at (b M K : Nat) : ∀ i j q, j < i → q < 1 + M → (rows3 b M K i)[j * (1 + M) + q]? = (row3 (b + j * (1 + M)) M K)[q]?
  | 0, j, q, h, _ => absurd h (Nat.not_lt_zero _)
  | i + 1, j, q, h, hq => by
    rw [rows3]
    rcases Nat.lt_or_ge j i with hj | hj
    · have hm : j * (1 + M) + (1 + M) ≤ i * (1 + M) := by
        have := Nat.mul_le_mul_right (1 + M) (show j + 1 ≤ i from hj)
        rw [Nat.succ_mul] at this; exact this
      rw [List.getElem?_append_left (by rw [rows3_len]; omega)]
      exact rows3_at b M K i j q hj hq
    · have e : j = i := by omega
      subst e
      rw [List.getElem?_append_right (by rw [rows3_len]; omega), rows3_len]
      congr 1
      omega
def nwG3 (h : xH) (n k q : Int32) : Option (Nat × xH) :=
  if ¬ n < 0 ∧ ¬ k < 0 ∧ ¬ q < 0 ∧ n.toNatClampNeg ≤ 100000 ∧ k.toNatClampNeg ≤ 100000 ∧ q.toNatClampNeg ≤ 100000 ∧ h.length + 1 + n.toNatClampNeg * (1 + k.toNatClampNeg) < 1000000 then
    some (h.length, h ++ (103, (List.range n.toNatClampNeg).map fun i => .ref (h.length + 1 + i * (1 + k.toNatClampNeg))) :: rows3 (h.length + 1) k.toNatClampNeg q.toNatClampNeg n.toNatClampNeg)
  else none
section YG3
variable {ρ : Type} {g : xG} {D : xD} {h0 : xH} {inj : ρ → xR} {pc : Nat} {loc : xL} {st : List Value} {h : xH}
theorem Y.mna3 {own : String} {idx : Nat} {n k u : Int32} {K : Nat × xH → Option ρ} (w1 : Cond.classLink own idx ("[" ++ (FieldType.array (.array .int)).toString) ∈ lw_gd) (w2 : Cond.arrayClass .int ∈ lw_gd) (ho : (dy D).cls = own) (d : decode (dc D) pc = .ok (.multianewarray idx 3, 4))
    (kk : ∀ r, Y g D h0 false inj (K r) (pc + 4) loc (.ref r.1 :: st) r.2) : Y g D h0 false inj ((nwG3 h n k u).bind K) pc loc (.int u :: .int k :: .int n :: st) h := by
  intro r e
  obtain ⟨r', e1, e2⟩ := Option.bind_eq_some_iff.mp e
  unfold nwG3 at e1
  split at e1
  · rename_i hn
    obtain ⟨hn0, hk0, hu0, hN, hM, hU, hlt⟩ := hn
    cases e1
    have q := kk _ r e2
    generalize hN' : n.toNatClampNeg = N at *
    generalize hK' : k.toNatClampNeg = M at *
    generalize hU' : u.toNatClampNeg = U at *
    generalize hnew : (h ++ (103, (List.range N).map fun i => Value.ref (h.length + 1 + i * (1 + M))) :: rows3 (h.length + 1) M U N : xH) = h' at q
    have q : xle h' 0 (inj r) ∧ X g D h0 (inj r) (pc + 4) loc (.ref h.length :: st) h' false 0 := q
    have hlen : h'.length = h.length + 1 + N * (1 + M) := by rw [← hnew, List.length_append, List.length_cons, rows3_len]; omega
    have hsz : szs h' = szs h + N + N * (M + M * U) := by rw [← hnew, szs_app, szs, rows3_szs]; simp; omega
    generalize hNM : N * (1 + M) = NM at *
    generalize hNU : N * (M + M * U) = NU at *
    refine ⟨⟨by have := q.1.1; omega, by have := q.1.2.1; omega, q.1.2.2⟩, ?_⟩
    intro p e' R s m args below meth c H locs ls C hH hS hL h1 h2
    obtain ⟨hx, hb, hml, hown⟩ := C.1
    rw [ho] at hown
    have hwd : ∀ w, w ∈ lw_gd → w.before args s = true := fun w hw => C.2.1 w (gd_in hw)
    have hK := C.2.2.2.1.1.1.1
    have hs0 := C.2.2.2.1.2.2 rfl
    have a9 := C.2.2.2.2.2.2.1
    have b9 := C.2.2.2.2.2.2.2
    have ec : nC h0 h' 0 = nC h0 h 0 + 1 + NM := by unfold nC; omega
    have es : nS h0 h' 0 = nS h0 h 0 + N + NU := by unfold nS; omega
    have hcR : nC h0 h 0 + (1 + NM) ≤ R.cells := by have := nC_le (h0 := h0) q.1.1 q.1.2.2; omega
    have hsR : nS h0 h 0 + (N + NU) ≤ R.slots := by have := nS_le (h0 := h0) q.1.2.1 q.1.2.2; omega
    have hAO : (Cond.arrayOver (.array .int)).before args s = true := va_AOA.use (C.2.2.2.1.1.1.2.2.2.1 _ (by simp [kAO]))
    have hAO3 : (Cond.arrayOver (.array (.array .int))).before args s = true := va_AOA.use (C.2.2.2.1.1.1.2.2.2.1 _ (by simp [kAO]))
    intro T hT Xs
    have hszH : H.size = gB g + h.length := by
      have := Xs.same.2.2.1
      have e0 : (T.setVm s.vm).heap.size = H.size := by rw [← hT]; rfl
      rw [e0] at this
      have := hH.2.1
      unfold nC at *
      omega
    obtain ⟨vm₁, c3, c2, c1, L, hW, f3, f2, f1, X', hL', step⟩ := multi3 (ty := .int) Xs hx hown (hwd _ w1) hAO3 hAO (hwd _ w2) (g := F0 m pc ls (.int u :: .int k :: .int n :: st.map (cv g))) rfl (by rw [hb]; exact d) rfl hn0 hk0 hu0 (by rw [hN']; omega) (by rw [hK']; omega) (by rw [hU']; show U * 4 ≤ _; omega) (by rw [hU']; omega) rfl rfl (by rw [hN', hK', hNM]; exact hcR) (by rw [hN', hK', hU', hNU]; exact hsR)
    rw [hN', hK', hU'] at X' step
    have hTh : (T.setVm vm₁).heap = H := hT
    obtain ⟨g1, g2, -, -⟩ := fi3_facts (T.setVm vm₁) c3 c2 c1 N M U (defaultValue .int) N
    rw [hTh] at g1 g2
    have hold : ∀ x : Nat, x < H.size → (fi3 (T.setVm vm₁) c3 c2 c1 N M U (defaultValue .int) N).heap[x]? = H[x]? := fun x hx => by
      have := fi3_old (T.setVm vm₁) c3 c2 c1 N M U (defaultValue .int) (a := x) (by rw [hTh]; exact hx) N
      rw [hTh] at this
      exact this
    have hrow := fi3_row (T.setVm vm₁) c3 c2 c1 N M U (defaultValue .int) N
    rw [hTh] at hrow
    generalize hF : fi3 (T.setVm vm₁) c3 c2 c1 N M U (defaultValue .int) N = F at X' step g1 g2 hold hrow
    have hc3 : c3 = gT g 3 := Option.some.inj (f3.symm.trans (hK.2 3 (gT g 3, .array (.array .int)) rfl).2)
    have hc2 : c2 = gT g 2 := Option.some.inj (f2.symm.trans (hK.2 2 (gT g 2, .array .int) rfl).2)
    have hc1 : c1 = gT g 0 := Option.some.inj (f1.symm.trans (hK.2 0 (gT g 0, .int) rfl).2)
    have hH1 : HR g h' F.heap := by
      refine hH.of (fun i hi => by rw [← hnew, List.getElem?_append_left hi]) (fun i cc hi hc => ?_) hold (by rw [g1, hlen, hNM]; omega) (by omega)
      rw [← hnew, List.getElem?_append_right hi] at hc
      rcases Nat.eq_or_lt_of_le hi with hi2 | hi2
      · rw [← hi2, Nat.sub_self] at hc
        cases hc
        rw [cE_q g 103 _ (by decide), ← hi2]
        show F.heap[gB g + h.length]? = some (vp_cell (gT g 3) _)
        rw [← hszH, g2, ← hc3, vp_cell_q]
        rw [ot3_eq c3 N H.size (1 + M) N, List.length_map, List.length_range]
        refine congrArg (fun z => some (arrV c3 N z)) (funext fun j => congrArg va_rf ?_)
        rw [List.getD_eq_getElem?_getD, List.getElem?_map]
        by_cases hj : j < N
        · rw [if_pos hj, List.getElem?_range hj]
          show some (H.size + 1 + j * (1 + M)) = some (gad g (h.length + 1 + j * (1 + M)))
          have hm : j * (1 + M) + (1 + M) ≤ NM := by
            have := Nat.mul_le_mul_right (1 + M) (show j + 1 ≤ N from hj)
            rw [Nat.succ_mul, hNM] at this; exact this
          rw [gad_lt g (by omega), hszH]
          congr 1
          omega
        · rw [if_neg hj, List.getElem?_eq_none (by rw [List.length_range]; omega)]
          rfl
      · obtain ⟨x, hx9⟩ : ∃ x, i = h.length + 1 + x := ⟨i - h.length - 1, by omega⟩
        subst hx9
        rw [show h.length + 1 + x - h.length = x + 1 by omega, List.getElem?_cons_succ] at hc
        have hxl : x < N * (1 + M) := by
          have := (List.getElem?_eq_some_iff.mp hc).1
          rw [rows3_len] at this
          exact this
        have hq : x % (1 + M) < 1 + M := Nat.mod_lt _ (by omega)
        have hj : x / (1 + M) < N := Nat.div_lt_of_lt_mul (by rw [Nat.mul_comm]; exact hxl)
        have hxe : x / (1 + M) * (1 + M) + x % (1 + M) = x := by
          have := Nat.div_add_mod x (1 + M)
          rw [Nat.mul_comm] at this
          exact this
        generalize x / (1 + M) = j at hj hxe
        generalize x % (1 + M) = y at hq hxe
        subst hxe
        rw [rows3_at _ _ _ _ _ _ hj hq] at hc
        obtain ⟨r1, r2⟩ := hrow j hj
        have hm : j * (1 + M) + (1 + M) ≤ NM := by
          have := Nat.mul_le_mul_right (1 + M) (show j + 1 ≤ N from hj)
          rw [Nat.succ_mul, hNM] at this; exact this
        generalize j * (1 + M) = jm at *
        cases y with
        | zero =>
          cases hc
          rw [cE_q g 102 _ (by decide)]
          show F.heap[gB g + (h.length + 1 + (jm + 0))]? = some (vp_cell (gT g 2) _)
          rw [show gB g + (h.length + 1 + (jm + 0)) = H.size + 1 + jm by omega, r1, ← hc2, vp_cell_q]
          rw [vr_outer c2 M (H.size + 1 + jm) M, List.length_map, List.length_range]
          refine congrArg (fun z => some (arrV c2 M z)) (funext fun j => congrArg va_rf ?_)
          rw [List.getD_eq_getElem?_getD, List.getElem?_map]
          by_cases hj : j < M
          · rw [if_pos hj, List.getElem?_range hj]
            show some (H.size + 1 + jm + 1 + j) = some (gad g (h.length + 1 + jm + 1 + j))
            rw [gad_lt g (by omega), hszH]
            congr 1
            omega
          · rw [if_neg hj, List.getElem?_eq_none (by rw [List.length_range]; omega)]
            rfl
        | succ y =>
          rw [row3, List.getElem?_cons_succ, List.getElem?_replicate] at hc
          split at hc
          · rename_i hyM
            cases hc
            have hr := r2 y hyM
            rw [cE_i, List.length_replicate, rep_null vI (z := 0) rfl rfl]
            show F.heap[gB g + (h.length + 1 + (jm + (y + 1)))]? = some (vp_cell (gT g 0) (U, .inl fun _ => 0))
            rw [show gB g + (h.length + 1 + (jm + (y + 1))) = H.size + 1 + jm + 1 + y by omega, hr, hc1]
            exact congrArg some (arrV_new _ _ _)
          · cases hc
    have hgB : gB g ≤ H.size := by omega
    have hS1 : va_S (gA g) s.heap F.heap (locs ++ L) := by
      refine ⟨by rw [g1]; have := hS.1; omega, fun x x1 x2 => (hold x (Nat.lt_of_lt_of_le x1 hS.1)).trans (hS.2.1 x x1 x2), fun l hl => ?_⟩
      rcases List.mem_append.mp hl with hl | hl
      · exact hS.2.2 l hl
      · have := hL' l hl
        rw [hT] at this
        show gB g ≤ l.base
        omega
    have kk2 := q.2 p e' R s m args below meth c F.heap (locs ++ L) ls C hH1 hS1 hL (by omega) (by omega)
    have e3 : cv g (.ref h.length) = .ref T.heap.size := by
      show Value.ref (gad g h.length) = _
      rw [gad_lt g (by omega), hT, hszH]
    rw [hNM, hNU] at X'
    rw [ec, es, List.map_cons, e3] at kk2
    obtain ⟨t2, a1, b1⟩ := kk2 F rfl X'
    exact ⟨t2, step t2 a1, b1⟩
  · cases e1
end YG3
