/-! THE JUDGEMENTS: what holds of a method's start, X, contracts XM -/
def sLen : List Nat := [20, 35, 7, 5, 3, 4, 4, 6, 4, 6, 4, 8, 7, 2, 4, 1, 1, 12, 5, 7, 7]
def sByt : List (List Int32) := [[110, 111, 116, 32, 115, 117, 99, 104, 32, 97, 110, 32, 97, 114, 103, 117, 109, 101, 110, 116], [110, 111, 32, 115, 117, 99, 104, 32, 115, 105, 100, 101, 44, 32, 119, 111, 114, 107, 101, 114, 44, 32, 116, 97, 115, 107, 32, 111, 114, 32, 112, 108, 97, 99, 101], [119, 111, 114, 107, 101, 114, 115], [116, 97, 115, 107, 115], [102, 105, 116], [97, 119, 97, 121], [112, 97, 105, 114], [119, 101, 105, 103, 104, 116], [107, 101, 101, 112], [119, 111, 114, 107, 101, 114], [116, 97, 115, 107], [119, 111, 114, 107, 101, 114, 115, 32], [59, 116, 97, 115, 107, 115, 32], [32, 59], [102, 105, 116, 32], [32], [59], [97, 119, 97, 121, 32, 119, 111, 114, 107, 101, 114, 32], [112, 97, 105, 114, 32], [119, 101, 105, 103, 104, 116, 32], [107, 101, 101, 112, 32, 48, 59]]
def sCon : List (String × Nat × String × Nat) := [("PairKeeper", 342, "not such an argument", 0), ("PairKeeper", 349, "no such side, worker, task or place", 1), ("PairKeeper$Reader", 52, "workers", 2), ("PairKeeper$Reader", 66, "tasks", 3), ("PairKeeper$Reader", 77, "fit", 4), ("PairKeeper$Reader", 85, "away", 5), ("PairKeeper$Reader", 90, "pair", 6), ("PairKeeper$Reader", 95, "weight", 7), ("PairKeeper$Reader", 100, "keep", 8), ("PairKeeper$Reader", 127, "worker", 9), ("PairKeeper$Reader", 129, "task", 10), ("PairKeeperLaw", 157, "workers ", 11), ("PairKeeperLaw", 167, ";tasks ", 12), ("PairKeeperLaw", 169, " ;", 13), ("PairKeeperLaw", 174, "fit ", 14), ("PairKeeperLaw", 176, " ", 15), ("PairKeeperLaw", 178, ";", 16), ("PairKeeperLaw", 180, "away worker ", 17), ("PairKeeperLaw", 193, "pair ", 18), ("PairKeeperLaw", 197, "weight ", 19), ("PairKeeperLaw", 199, "keep 0;", 20)]
def lw_isNw (w : Cond) : Bool := match w with
  | .fieldLinkNest .. => true
  | .methodLinkNest .. => true
  | .castable .. => true
  | .declares _ => true
  | _ => false
def lw_nw : List Cond := lw_tbl.filter lw_isNw
def lw_gd : List Cond := lw_tbl.filter goodWord
def tysG (g : xG) : List (ClassId × FieldType) := [(gT g 0, .int), (gT g 1, .long), (gT g 2, .array .int), (gT g 3, .object "PairKeeperLaw$Book"), (gT g 4, .array .int), (gT g 5, .object "PairKeeper$Book")]
def kAO : List FieldType := [.array .int, .object "PairKeeperLaw$Book", .object "PairKeeper$Book"]
def kStr (g : xG) (U : State) (H : Heap) : Prop := ∀ i : Nat, i < sLen.length → va_O "java/lang/String" (gS g (1 + i)) (gA g) U H ∧ va_OF "java/lang/String" "coder" "B" (.int 0) (gS g (1 + i)) (gA g) U H ∧ va_OF "java/lang/String" "value" "[B" (.ref (gS g (101 + i))) (gS g (1 + i)) (gA g) U H ∧ va_T .byte (gS g (101 + i)) (sLen.getD i 0) (fun j => .int ((sByt.getD i []).getD j 0)) (gA g) U H
def kScr (g : xG) (U : State) (H : Heap) : Prop := va_T .int (gS g 0) (gX g).length (fun j => .int ((gX g).getD j 0)) (gA g) U H
def kForm (g : xG) (U : State) (H : Heap) : Prop := va_Z "jdk/internal/util/Preconditions" "SIOOBE_FORMATTER" "Ljava/util/function/BiFunction;" .null (gA g) U H ∨ va_Z "jdk/internal/util/Preconditions" "SIOOBE_FORMATTER" "Ljava/util/function/BiFunction;" (.ref (gS g 200)) (gA g) U H
theorem kForm.moved {g : xG} {u U : State} {H H1 : Heap} (hvm : u.vm.Alike U.vm) (hq : ∀ a : Nat, a < H.size → ¬ gA g a → H1[a]? = H[a]?) (h : kForm g u H) : kForm g U H1 := h.elim (fun q => Or.inl (va_Z.moved hvm (q.kept hq))) (fun q => Or.inr (va_Z.moved hvm (q.kept hq)))
def KK (g : xG) (U : State) : Prop :=
  (va_K (gD g) vwCl (tysG g) U ∧ (∀ w ∈ lw_nw, va_Nw w U) ∧ (∀ q ∈ sCon, vk_R q.1 q.2.1 q.2.2.1 (gS g (1 + q.2.2.2)) U) ∧ ((∀ ty ∈ kAO, (Cond.arrayOver ty).before #[] U = true) ∧ va_Nc "java/lang/IllegalArgumentException" "java/util/NoSuchElementException" U)) ∧
  (kStr g U U.heap ∧ kScr g U U.heap ∧ vx_Zq Bundle.tN "UNASSIGNED_STACK" Bundle.steD (gA g) U U.heap ∧ vx_Zq Bundle.tN "SUPPRESSED_SENTINEL" Bundle.listD (gA g) U U.heap ∧ (va_Z "java/lang/String" "COMPACT_STRINGS" "Z" (.int 1) (gA g) U U.heap ∧ kForm g U U.heap)) ∧ (gl g).stackTraces = false
theorem kStr.moved {g : xG} {u U : State} {H H1 : Heap} (hvm : u.vm.Alike U.vm) (hq : ∀ a : Nat, a < H.size → ¬ gA g a → H1[a]? = H[a]?) (h : kStr g u H) : kStr g U H1 := fun i hi =>
  ⟨va_O.moved hvm ((h i hi).1.kept hq), va_OF.moved hvm ((h i hi).2.1.kept hq), va_OF.moved hvm ((h i hi).2.2.1.kept hq), va_T.moved hvm ((h i hi).2.2.2.kept hq)⟩
theorem arrayOver_moved {ty : FieldType} (hty : ty ∈ kAO) {u U : State} (hvm : u.vm.Alike U.vm) (h : (Cond.arrayOver ty).before #[] u = true) : (Cond.arrayOver ty).before #[] U = true := by
  simp only [kAO, List.mem_cons, List.not_mem_nil, or_false] at hty
  rcases hty with rfl | rfl | rfl
  · exact arrayOver_alikeB hvm h
  · exact va_AO.moved hvm h
  · exact va_AO.moved hvm h
theorem KK.moved {g : xG} {u U : State} (hW : u.WarmedH U.vm) (hq : ∀ a : Nat, a < u.heap.size → ¬ gA g a → U.heap[a]? = u.heap[a]?) (h : KK g u) : KK g U := by
  obtain ⟨⟨h1, h2, h3, h4⟩, ⟨h5, h6, h7, h8, h9⟩, h10⟩ := h
  have hvm := hW.alike
  refine ⟨⟨va_K.moved hvm h1, fun w hw => ?_, fun q hq => (h3 q hq).warm hW, ⟨fun ty ht => arrayOver_moved ht hvm (h4.1 ty ht), h4.2.moved hvm⟩⟩, ⟨h5.moved hvm hq, va_T.moved hvm (h6.kept hq), vx_Zq.moved hvm (h7.kept hq), vx_Zq.moved hvm (h8.kept hq), ⟨va_Z.moved hvm (h9.1.kept hq), h9.2.moved hvm hq⟩⟩, h10⟩
  have hw2 := h2 w hw
  have hb := (List.mem_filter.mp hw).2
  cases w <;> first | exact va_Nw.warmF hW hw2 | exact va_Nw.warmM hW hw2 | exact va_Nw.warmC hW hw2 | exact va_Nw.warmD hW hw2 | cases hb
theorem KK.same {g : xG} {u U : State} (hv : U.vm = u.vm) (hh : U.heap = u.heap) (h : KK g u) : KK g U := by
  obtain ⟨⟨h1, h2, h3, h4⟩, ⟨h5, h6, h7, h8, h9⟩, h10⟩ := h
  have hvm : u.vm.Alike U.vm := by rw [hv]; exact Vm.Alike.refl _
  have hq : ∀ a : Nat, a < u.heap.size → ¬ gA g a → U.heap[a]? = u.heap[a]? := fun a _ _ => by rw [hh]
  refine ⟨⟨va_K.moved hvm h1, fun w hw => ?_, fun q hq => (h3 q hq).same hv, ⟨fun ty ht => arrayOver_moved ht hvm (h4.1 ty ht), h4.2.moved hvm⟩⟩, ⟨h5.moved hvm hq, va_T.moved hvm (h6.kept hq), vx_Zq.moved hvm (h7.kept hq), vx_Zq.moved hvm (h8.kept hq), ⟨va_Z.moved hvm (h9.1.kept hq), h9.2.moved hvm hq⟩⟩, h10⟩
  have hw2 := h2 w hw
  have hb := (List.mem_filter.mp hw).2
  cases w <;> first | exact va_Nw.same rfl hv.symm hw2 | cases hb
/-- a method: its name, code, locals, answer, table, level -/
abbrev xD : Type := MethodName × ByteArray × Nat × Option FieldType × List (Nat × Nat × Nat × Nat) × Nat
def dy (D : xD) : MethodName := D.1
def dc (D : xD) : ByteArray := D.2.1
def dn (D : xD) : Nat := D.2.2.1
def dr (D : xD) : Option FieldType := D.2.2.2.1
def dh (D : xD) : List (Nat × Nat × Nat × Nat) := D.2.2.2.2.1
def dd (D : xD) : Nat := D.2.2.2.2.2
def dw (D : xD) : List Cond := (match dh D with | [] => .code (dy D) (dc D) (dn D) (dr D) | hh => .codeWith (dy D) (dc D) (dn D) (dr D) hh) :: lw_gd
def xo (x : xR) : xO := x.1
def xh (x : xR) : xH := x.2.1
def xe (x : xR) : Nat := x.2.2
def nC (h0 h : xH) (ex : Nat) : Nat := (h.length - h0.length) + ex
def nS (h0 h : xH) (ex : Nat) : Nat := (szs h - szs h0) + 6 * ex
def xQ (g : xG) (x : xR) : Array Value → State → Outcome → State → Prop := fun _ st o t => (∃ v, xo x = .inl v ∧ o = .returned (v.map (cv g)) ∧ HR g (xh x) t.heap) ∧ va_F (gA g) st t
def xX (g : xG) (x : xR) : String → State → State → Prop := fun E st t => (xo x = .inr E ∧ HR g (xh x) t.heap) ∧ va_F (gA g) st t
def xCtx (g : xG) (D : xD) (h0 : xH) (cl : Bool) (x : xR) (p : Program) (R : Room) (s : State) (m : MethodId) (args : Array Value) (meth : Method) (c : Code) : Prop :=
  (p.tables.exec = Jvm.exec ∧ c.code = dc D ∧ c.maxLocals = dn D ∧ s.vm.findClass (dy D).cls = some m.cls) ∧ (∀ w ∈ dw D, w.before args s = true) ∧ (meth.sig.returnType = dr D ∧ meth.locks = false ∧ c.exceptionTable.toList = tableOf (dh D) ∧ meth.name = (dy D).name) ∧ (KK g s ∧ gB g + h0.length ≤ s.heap.size ∧ (cl = false → s.heap.size = gB g + h0.length)) ∧
  (dd D ≤ R.frames ∧ 60 * dd D ≤ R.locals ∧ nC h0 (xh x) (xe x) ≤ R.cells ∧ nS h0 (xh x) (xe x) ≤ R.slots)
/-- from here the method comes to its end x -/
def X (g : xG) (D : xD) (h0 : xH) (x : xR) (pc : Nat) (loc : xL) (st : List Value) (h : xH) (cl : Bool) (ex : Nat) : Prop :=
  ∀ (p : Program) (e : Env) (R : Room) (s : State) (m : MethodId) (args : Array Value) (below : List Frame) (meth : Method) (c : Code) (H : Heap) (locs : List Loc) (ls : Array Slot),
    xCtx g D h0 cl x p R s m args meth c → HR g h H → va_S (gA g) s.heap H locs → LR g ls (dn D) loc → h0.length ≤ h.length → szs h0 ≤ szs h →
    W p (gl g) e R s m args below meth c H locs (nC h0 h ex) (nS h0 h ex) (vx_MQ below (xQ g x) (xX g x) args s (nC h0 (xh x) (xe x)) (nS h0 (xh x) (xe x)) (gA g)) (F0 m pc ls (st.map (cv g)))
def xP (g : xG) (args : List Value) (h : xH) (cl : Bool) : Array Value → State → Prop := fun v U => v = (args.map (cv g)).toArray ∧ HR g h U.heap ∧ (cl = false → U.heap.size = gB g + h.length) ∧ KK g U
theorem xP_blind (g : xG) (args : List Value) (h : xH) (cl : Bool) : FrameBlind (xP g args h cl) := by
  intro a U f mk ⟨h1, h2, h4, h3⟩
  exact ⟨h1, h2, h4, KK.same (u := U) (U := U.calling f mk a) rfl rfl h3⟩
def xRm (D : xD) (h : xH) (x : xR) : Room := { frames := dd D, cells := nC h (xh x) (xe x), slots := nS h (xh x) (xe x), locals := 60 * dd D }
/-- the contract of one call: with these arguments over this heap it comes to x -/
def XM (g : xG) (D : xD) (args : List Value) (h : xH) (cl : Bool) (x : xR) : Prop := h.length ≤ (xh x).length ∧ szs h ≤ szs (xh x) ∧
  vx_Met (gl g) (dy D) (dw D) (xRm D h x) (xP g args h cl) (xQ g x) (xX g x) (nC h (xh x) (xe x)) (nS h (xh x) (xe x)) (gA g)
def xent : List Value → xL
  | [] => []
  | .long x :: t => some (.long x) :: none :: xent t
  | .double x :: t => some (.double x) :: none :: xent t
  | v :: t => some v :: xent t
def xloc (n : Nat) (args : List Value) : xL := xent args ++ List.replicate (n - (xent args).length) none
theorem lg_sl_cons (v : Value) (t : List Value) : lg_sl (v :: t) = (if v.category = 2 then [.val v, .second] else [.val v]) ++ lg_sl t := rfl
theorem xent_len (g : xG) : ∀ args : List Value, (lg_sl (args.map (cv g))).length = (xent args).length := by
  intro args
  induction args with
  | nil => rfl
  | cons v t ih =>
    rw [List.map_cons, lg_sl_cons, List.length_append, ih]
    cases v <;> simp [cv, xent, Value.category] <;> omega
theorem xent_at (g : xG) : ∀ (args : List Value) (o i : Nat) (v : Value), (xent args)[i]? = some (some v) → (o + i, cv g v) ∈ lv_args o (args.map (cv g)) := by
  intro args
  induction args with
  | nil => intro o i v h; simp [xent] at h
  | cons w t ih =>
    intro o i v h
    have one : w.category = 1 → xent (w :: t) = some w :: xent t := by cases w <;> simp [xent, Value.category]
    have two : w.category = 2 → xent (w :: t) = some w :: none :: xent t := by cases w <;> simp [xent, Value.category]
    rw [List.map_cons, lv_args, cv_cat]
    rcases lv_cat w with hc | hc
    · rw [one hc] at h
      rw [if_neg (by omega)]
      cases i with
      | zero => simp at h; subst h; simp
      | succ i =>
        have := ih (o + 1) i v (by simpa using h)
        rw [show o + (i + 1) = o + 1 + i by omega]
        exact List.mem_cons_of_mem _ this
    · rw [two hc] at h
      rw [if_pos hc]
      match i, h with
      | 0, h => simp at h; subst h; simp
      | 1, h => simp at h
      | i + 2, h =>
        have := ih (o + 2) i v (by simpa using h)
        rw [show o + (i + 2) = o + 2 + i by omega]
        exact List.mem_cons_of_mem _ this
theorem LR.entry (g : xG) (args : List Value) {n : Nat} (hn : (xent args).length ≤ n) : LR g ((lg_sl (args.map (cv g)) ++ List.replicate (n - (lg_sl (args.map (cv g))).length) Slot.unset).toArray) n (xloc n args) := by
  have h := lv_entry (args.map (cv g)) (n := n) (by rw [xent_len]; exact hn)
  refine LR.mk' h (by simp [xloc]; omega) (fun i v hi => ?_)
  have h2 : (xent args)[i]? = some (some v) := by
    unfold xloc at hi
    by_cases q : i < (xent args).length
    · rw [List.getElem?_append_left q] at hi; exact hi
    · rw [List.getElem?_append_right (by omega), List.getElem?_replicate] at hi
      split at hi <;> cases hi
  have := xent_at g args 0 i v h2
  simpa using this
theorem LR.sto1 {g : xG} {ls : Array Slot} {nL i : Nat} {loc : xL} {v : Value} {ls' : Array Slot} (h : LR g ls nL loc) (h' : lv_has ls' nL ((i, cv g v) :: (xas g 0 loc).filter (fun q => !(q.1 == i) && !(q.1 + 1 == i && q.2.category == 2)))) : LR g ls' nL (st1 loc i v) := by
  refine LR.mk' h' (by rw [st1_len]; exact h.2.1) (fun k w hk => ?_)
  rcases st1_at hk with ⟨rfl, rfl⟩ | ⟨h1, h2, h3⟩
  · exact List.mem_cons_self
  · refine List.mem_cons_of_mem _ (List.mem_filter.mpr ⟨by have := xas_mem g loc 0 k w h2; simpa using this, ?_⟩)
    simp only [cv_cat]
    simp only [Bool.and_eq_true, Bool.not_eq_true', beq_eq_false_iff_ne, ne_eq, Bool.and_eq_false_iff]
    refine ⟨h1, ?_⟩
    by_cases q : k + 1 = i
    · exact Or.inr (fun z => h3 ⟨q, z⟩)
    · exact Or.inl q
theorem LR.sto2 {g : xG} {ls : Array Slot} {nL i : Nat} {loc : xL} {v : Value} {ls' : Array Slot} (h : LR g ls nL loc) (h' : lv_has ls' nL ((i, cv g v) :: (xas g 0 loc).filter (fun q => !(q.1 == i) && (!(q.1 == i + 1) && !(q.1 + 1 == i && q.2.category == 2))))) : LR g ls' nL (st2 loc i v) := by
  refine LR.mk' h' (by rw [st2_len]; exact h.2.1) (fun k w hk => ?_)
  have hk : ((st1 loc i v).set (i + 1) none)[k]? = some (some w) := hk
  rw [List.getElem?_set] at hk
  by_cases q0 : i + 1 = k
  · subst q0
    simp at hk
  · rw [if_neg q0] at hk
    rcases st1_at hk with ⟨rfl, rfl⟩ | ⟨h1, h2, h3⟩
    · exact List.mem_cons_self
    · refine List.mem_cons_of_mem _ (List.mem_filter.mpr ⟨by have := xas_mem g loc 0 k w h2; simpa using this, ?_⟩)
      simp only [cv_cat]
      simp only [Bool.and_eq_true, Bool.not_eq_true', beq_eq_false_iff_ne, ne_eq, Bool.and_eq_false_iff]
      refine ⟨h1, fun z => q0 z.symm, ?_⟩
      by_cases q : k + 1 = i
      · exact Or.inr (fun z => h3 ⟨q, z⟩)
      · exact Or.inl q
