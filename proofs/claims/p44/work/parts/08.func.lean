/-! THE FUNCTIONAL LAYER: what a method does to the abstract heap, as a function; Y ties it to X -/
def lt {α β : Type} (v : α) (k : α → β) : β := k v
def jn {α β : Type} (j : α) (k : α → β) : β := k j
def gf (h : xH) (ci a k : Nat) : Option Value := match h[a]? with
  | some c => if c.1 = ci then c.2[k]? else none
  | none => none
def gI (h : xH) (ci a k : Nat) : Option Int32 := match gf h ci a k with
  | some (.int v) => some v
  | _ => none
def gJ (h : xH) (ci a k : Nat) : Option Int64 := match gf h ci a k with
  | some (.long v) => some v
  | _ => none
def gR (h : xH) (ci a k : Nat) : Option Nat := match gf h ci a k with
  | some (.ref v) => some v
  | _ => none
def pf (h : xH) (ci a k : Nat) (v : Value) : Option xH := match h[a]? with
  | some c => if c.1 = ci ∧ k < c.2.length then some (h.set a (ci, c.2.set k v)) else none
  | none => none
def pI (h : xH) (ci a k : Nat) (v : Int32) : Option xH := pf h ci a k (.int v)
def pZ (h : xH) (ci a k : Nat) (v : Int32) : Option xH := if v = 0 ∨ v = 1 then pf h ci a k (.int v) else none
def pJ (h : xH) (ci a k : Nat) (v : Int64) : Option xH := pf h ci a k (.long v)
def pR (h : xH) (ci a k : Nat) (v : Nat) : Option xH := pf h ci a k (.ref v)
abbrev ain (i : Int32) (n : Nat) : Prop := ¬ (i < 0) ∧ i.toNatClampNeg < n

def aI (h : xH) (a : Nat) (i : Int32) : Option Int32 := match h[a]? with
  | some c => if c.1 = 100 ∧ ain i c.2.length then some (vI (c.2.getD i.toNatClampNeg .null)) else none
  | none => none
def aJ (h : xH) (a : Nat) (i : Int32) : Option Int64 := match h[a]? with
  | some c => if c.1 = 101 ∧ ain i c.2.length then some (vJ (c.2.getD i.toNatClampNeg .null)) else none
  | none => none
def aR (t : Nat) (h : xH) (a : Nat) (i : Int32) : Option Nat := match h[a]? with
  | some c => if c.1 = t ∧ ain i c.2.length then (match c.2.getD i.toNatClampNeg .null with | .ref k => some k | _ => none) else none
  | none => none
def sI (h : xH) (a : Nat) (i v : Int32) : Option xH := match h[a]? with
  | some c => if c.1 = 100 ∧ ain i c.2.length then some (h.set a (100, c.2.set i.toNatClampNeg (.int v))) else none
  | none => none
def sJ (h : xH) (a : Nat) (i : Int32) (v : Int64) : Option xH := match h[a]? with
  | some c => if c.1 = 101 ∧ ain i c.2.length then some (h.set a (101, c.2.set i.toNatClampNeg (.long v))) else none
  | none => none
theorem ain_in {i : Int32} {n : Nat} (h : ain i n) : vp_in i n := fun q => q.elim h.1 (fun q => by have := h.2; omega)
def iI : Int32 × xH → xR := fun r => (.inl (some (.int r.1)), r.2, 0)
def iJ : Int64 × xH → xR := fun r => (.inl (some (.long r.1)), r.2, 0)
def iV : xH → xR := fun r => (.inl none, r, 0)
def rv (o : Option Nat) : Value := match o with | none => .null | some a => .ref a
def iN : Option Nat × xH → xR := fun r => (.inl (some (rv r.1)), r.2, 0)
/-- a method that returns an int or throws; nothing or throws -/
def iIx : (Int32 ⊕ String) × xH → xR := fun r => match r.1 with | .inl v => (.inl (some (.int v)), r.2, 0) | .inr E => (.inr E, r.2, 0)
def iVx : (Unit ⊕ String) × xH → xR := fun r => match r.1 with | .inl _ => (.inl none, r.2, 0) | .inr E => (.inr E, r.2, 0)
def Y {ρ : Type} (g : xG) (D : xD) (h0 : xH) (cl : Bool) (inj : ρ → xR) (o : Option ρ) (pc : Nat) (loc : xL) (st : List Value) (h : xH) : Prop :=
  ∀ r, o = some r → xle h 0 (inj r) ∧ X g D h0 (inj r) pc loc st h cl 0
section YR
variable {ρ : Type} {g : xG} {D : xD} {h0 : xH} {cl : Bool} {inj : ρ → xR} {o : Option ρ} {pc : Nat} {loc : xL} {st : List Value} {h : xH}
theorem Y.op {pc' : Nat} {loc' : xL} {st' : List Value} (f : ∀ x, X g D h0 x pc' loc' st' h cl 0 → X g D h0 x pc loc st h cl 0) (k : Y g D h0 cl inj o pc' loc' st' h) : Y g D h0 cl inj o pc loc st h :=
  fun r e => ⟨(k r e).1, f _ (k r e).2⟩
theorem Y.top {v : Int32} {K : Int32 → Option ρ} (k : ∀ z, Y g D h0 cl inj (K z) pc loc (.int z :: st) h) : Y g D h0 cl inj (lt v K) pc loc (.int v :: st) h := k v
theorem Y.topl {v : Int64} {K : Int64 → Option ρ} (k : ∀ z, Y g D h0 cl inj (K z) pc loc (.long z :: st) h) : Y g D h0 cl inj (lt v K) pc loc (.long v :: st) h := k v
theorem Y.jn {α : Type} {j : α} {K : α → Option ρ} (P : α → Prop) (hj : P j) (k : ∀ z, P z → Y g D h0 cl inj (K z) pc loc st h) : Y g D h0 cl inj (jn j K) pc loc st h := k j hj
theorem Y.nothing : Y g D h0 cl inj none pc loc st h := fun r e => nomatch e
/-- locals forgotten -/
def xsub : xL → xL → Prop
  | [], [] => True
  | none :: a, _ :: b => xsub a b
  | some v :: a, w :: b => w = some v ∧ xsub a b
  | _, _ => False
theorem xsub_spec : ∀ {a b : xL}, xsub a b → a.length = b.length ∧ ∀ (i : Nat) (v : Value), a[i]? = some (some v) → b[i]? = some (some v)
  | [], [], _ => ⟨rfl, fun i v q => by simp at q⟩
  | none :: a, w :: b, q => by
    obtain ⟨h1, h2⟩ := xsub_spec (a := a) (b := b) q
    refine ⟨by simp [h1], fun i v e => ?_⟩
    cases i with
    | zero => simp at e
    | succ i => simpa using h2 i v (by simpa using e)
  | some u :: a, w :: b, q => by
    obtain ⟨h1, h2⟩ := xsub_spec (a := a) (b := b) q.2
    refine ⟨by simp [h1], fun i v e => ?_⟩
    cases i with
    | zero => simp at e; subst e; rw [q.1]; rfl
    | succ i => simpa using h2 i v (by simpa using e)
  | [], _ :: _, q => q.elim
  | none :: _, [], q => q.elim
  | some _ :: _, [], q => q.elim
theorem Y.forget {loc' : xL} (q : xsub loc' loc) (k : Y g D h0 cl inj o pc loc' st h) : Y g D h0 cl inj o pc loc st h := by
  refine fun r e => ⟨(k r e).1, ?_⟩
  intro p e' R s m args below meth c H locs ls C hH hS hL h1 h2
  obtain ⟨q1, q2⟩ := xsub_spec q
  exact (k r e).2 p e' R s m args below meth c H locs ls C hH hS ⟨hL.1, q1.trans hL.2.1, fun i v hi => hL.2.2 i v (q2 i v hi)⟩ h1 h2
theorem Y.ite {c : Prop} [Decidable c] {o1 o2 : Option ρ} (hc : c → Y g D h0 cl inj o1 pc loc st h) (hn : ¬ c → Y g D h0 cl inj o2 pc loc st h) : Y g D h0 cl inj (if c then o1 else o2) pc loc st h := by
  by_cases q : c
  · rw [if_pos q]; exact hc q
  · rw [if_neg q]; exact hn q
theorem Y.ifeq {a : Int32} {off : Int} {o1 o2 : Option ρ} (tgt : Nat) (ht : (pc : Int) + off = (tgt : Int)) (d : decode (dc D) pc = .ok (.ifCond .eq off, 3)) (k1 : Y g D h0 cl inj o1 tgt loc st h) (k2 : Y g D h0 cl inj o2 (pc + 3) loc st h) : Y g D h0 cl inj (if a = 0 then o1 else o2) pc loc (.int a :: st) h :=
  Y.ite (fun q r e => ⟨(k1 r e).1, X.ifeq tgt ht d (fun _ => (k1 r e).2) (fun z => absurd q z)⟩) (fun q r e => ⟨(k2 r e).1, X.ifeq tgt ht d (fun z => absurd z q) (fun _ => (k2 r e).2)⟩)
theorem Y.iflt {a : Int32} {off : Int} {o1 o2 : Option ρ} (tgt : Nat) (ht : (pc : Int) + off = (tgt : Int)) (d : decode (dc D) pc = .ok (.ifCond .lt off, 3)) (k1 : Y g D h0 cl inj o1 tgt loc st h) (k2 : Y g D h0 cl inj o2 (pc + 3) loc st h) : Y g D h0 cl inj (if a < 0 then o1 else o2) pc loc (.int a :: st) h :=
  Y.ite (fun q r e => ⟨(k1 r e).1, X.iflt tgt ht d (fun _ => (k1 r e).2) (fun z => absurd q z)⟩) (fun q r e => ⟨(k2 r e).1, X.iflt tgt ht d (fun z => absurd z q) (fun _ => (k2 r e).2)⟩)
theorem Y.ifge {a : Int32} {off : Int} {o1 o2 : Option ρ} (tgt : Nat) (ht : (pc : Int) + off = (tgt : Int)) (d : decode (dc D) pc = .ok (.ifCond .ge off, 3)) (k1 : Y g D h0 cl inj o1 tgt loc st h) (k2 : Y g D h0 cl inj o2 (pc + 3) loc st h) : Y g D h0 cl inj (if a ≥ 0 then o1 else o2) pc loc (.int a :: st) h :=
  Y.ite (fun q r e => ⟨(k1 r e).1, X.ifge tgt ht d (fun _ => (k1 r e).2) (fun z => absurd q z)⟩) (fun q r e => ⟨(k2 r e).1, X.ifge tgt ht d (fun z => absurd z q) (fun _ => (k2 r e).2)⟩)
theorem Y.ifgt {a : Int32} {off : Int} {o1 o2 : Option ρ} (tgt : Nat) (ht : (pc : Int) + off = (tgt : Int)) (d : decode (dc D) pc = .ok (.ifCond .gt off, 3)) (k1 : Y g D h0 cl inj o1 tgt loc st h) (k2 : Y g D h0 cl inj o2 (pc + 3) loc st h) : Y g D h0 cl inj (if a > 0 then o1 else o2) pc loc (.int a :: st) h :=
  Y.ite (fun q r e => ⟨(k1 r e).1, X.ifgt tgt ht d (fun _ => (k1 r e).2) (fun z => absurd q z)⟩) (fun q r e => ⟨(k2 r e).1, X.ifgt tgt ht d (fun z => absurd z q) (fun _ => (k2 r e).2)⟩)
theorem Y.ifle {a : Int32} {off : Int} {o1 o2 : Option ρ} (tgt : Nat) (ht : (pc : Int) + off = (tgt : Int)) (d : decode (dc D) pc = .ok (.ifCond .le off, 3)) (k1 : Y g D h0 cl inj o1 tgt loc st h) (k2 : Y g D h0 cl inj o2 (pc + 3) loc st h) : Y g D h0 cl inj (if a ≤ 0 then o1 else o2) pc loc (.int a :: st) h :=
  Y.ite (fun q r e => ⟨(k1 r e).1, X.ifle tgt ht d (fun _ => (k1 r e).2) (fun z => absurd q z)⟩) (fun q r e => ⟨(k2 r e).1, X.ifle tgt ht d (fun z => absurd z q) (fun _ => (k2 r e).2)⟩)
theorem Y.cmpeq {a b : Int32} {off : Int} {o1 o2 : Option ρ} (tgt : Nat) (ht : (pc : Int) + off = (tgt : Int)) (d : decode (dc D) pc = .ok (.if_icmp .eq off, 3)) (k1 : Y g D h0 cl inj o1 tgt loc st h) (k2 : Y g D h0 cl inj o2 (pc + 3) loc st h) : Y g D h0 cl inj (if a = b then o1 else o2) pc loc (.int b :: .int a :: st) h :=
  Y.ite (fun q r e => ⟨(k1 r e).1, X.cmpeq tgt ht d (fun _ => (k1 r e).2) (fun z => absurd q z)⟩) (fun q r e => ⟨(k2 r e).1, X.cmpeq tgt ht d (fun z => absurd z q) (fun _ => (k2 r e).2)⟩)
theorem Y.cmplt {a b : Int32} {off : Int} {o1 o2 : Option ρ} (tgt : Nat) (ht : (pc : Int) + off = (tgt : Int)) (d : decode (dc D) pc = .ok (.if_icmp .lt off, 3)) (k1 : Y g D h0 cl inj o1 tgt loc st h) (k2 : Y g D h0 cl inj o2 (pc + 3) loc st h) : Y g D h0 cl inj (if a < b then o1 else o2) pc loc (.int b :: .int a :: st) h :=
  Y.ite (fun q r e => ⟨(k1 r e).1, X.cmplt tgt ht d (fun _ => (k1 r e).2) (fun z => absurd q z)⟩) (fun q r e => ⟨(k2 r e).1, X.cmplt tgt ht d (fun z => absurd z q) (fun _ => (k2 r e).2)⟩)
theorem Y.cmpge {a b : Int32} {off : Int} {o1 o2 : Option ρ} (tgt : Nat) (ht : (pc : Int) + off = (tgt : Int)) (d : decode (dc D) pc = .ok (.if_icmp .ge off, 3)) (k1 : Y g D h0 cl inj o1 tgt loc st h) (k2 : Y g D h0 cl inj o2 (pc + 3) loc st h) : Y g D h0 cl inj (if a ≥ b then o1 else o2) pc loc (.int b :: .int a :: st) h :=
  Y.ite (fun q r e => ⟨(k1 r e).1, X.cmpge tgt ht d (fun _ => (k1 r e).2) (fun z => absurd q z)⟩) (fun q r e => ⟨(k2 r e).1, X.cmpge tgt ht d (fun z => absurd z q) (fun _ => (k2 r e).2)⟩)
theorem Y.cmpgt {a b : Int32} {off : Int} {o1 o2 : Option ρ} (tgt : Nat) (ht : (pc : Int) + off = (tgt : Int)) (d : decode (dc D) pc = .ok (.if_icmp .gt off, 3)) (k1 : Y g D h0 cl inj o1 tgt loc st h) (k2 : Y g D h0 cl inj o2 (pc + 3) loc st h) : Y g D h0 cl inj (if a > b then o1 else o2) pc loc (.int b :: .int a :: st) h :=
  Y.ite (fun q r e => ⟨(k1 r e).1, X.cmpgt tgt ht d (fun _ => (k1 r e).2) (fun z => absurd q z)⟩) (fun q r e => ⟨(k2 r e).1, X.cmpgt tgt ht d (fun z => absurd z q) (fun _ => (k2 r e).2)⟩)
theorem Y.cmple {a b : Int32} {off : Int} {o1 o2 : Option ρ} (tgt : Nat) (ht : (pc : Int) + off = (tgt : Int)) (d : decode (dc D) pc = .ok (.if_icmp .le off, 3)) (k1 : Y g D h0 cl inj o1 tgt loc st h) (k2 : Y g D h0 cl inj o2 (pc + 3) loc st h) : Y g D h0 cl inj (if a ≤ b then o1 else o2) pc loc (.int b :: .int a :: st) h :=
  Y.ite (fun q r e => ⟨(k1 r e).1, X.cmple tgt ht d (fun _ => (k1 r e).2) (fun z => absurd q z)⟩) (fun q r e => ⟨(k2 r e).1, X.cmple tgt ht d (fun z => absurd z q) (fun _ => (k2 r e).2)⟩)
theorem Y.ifne {a : Int32} {off : Int} {o1 o2 : Option ρ} (tgt : Nat) (ht : (pc : Int) + off = (tgt : Int)) (d : decode (dc D) pc = .ok (.ifCond .ne off, 3)) (k1 : Y g D h0 cl inj o1 tgt loc st h) (k2 : Y g D h0 cl inj o2 (pc + 3) loc st h) : Y g D h0 cl inj (if a = 0 then o2 else o1) pc loc (.int a :: st) h :=
  Y.ite (fun q r e => ⟨(k2 r e).1, X.ifne tgt ht d (fun z => absurd q z) (fun _ => (k2 r e).2)⟩) (fun q r e => ⟨(k1 r e).1, X.ifne tgt ht d (fun _ => (k1 r e).2) (fun z => absurd z q)⟩)
theorem Y.cmpne {a b : Int32} {off : Int} {o1 o2 : Option ρ} (tgt : Nat) (ht : (pc : Int) + off = (tgt : Int)) (d : decode (dc D) pc = .ok (.if_icmp .ne off, 3)) (k1 : Y g D h0 cl inj o1 tgt loc st h) (k2 : Y g D h0 cl inj o2 (pc + 3) loc st h) : Y g D h0 cl inj (if a = b then o2 else o1) pc loc (.int b :: .int a :: st) h :=
  Y.ite (fun q r e => ⟨(k2 r e).1, X.cmpne tgt ht d (fun z => absurd q z) (fun _ => (k2 r e).2)⟩) (fun q r e => ⟨(k1 r e).1, X.cmpne tgt ht d (fun _ => (k1 r e).2) (fun z => absurd z q)⟩)
theorem gf_spec {ci a k : Nat} {v : Value} (e : gf h ci a k = some v) : ∃ fs, h[a]? = some (ci, fs) ∧ fs[k]? = some v := by
  unfold gf at e
  cases hc : h[a]? with
  | none => rw [hc] at e; cases e
  | some c =>
    rw [hc] at e
    simp only at e
    split at e
    · rename_i q
      subst q
      exact ⟨c.2, rfl, e⟩
    · cases e
theorem Y.getI {own : String} {idx ci k a : Nat} {tk : FieldType} {fin : Bool} {K : Int32 → Option ρ} (f : xFld own idx ci k tk fin) (ho : (dy D).cls = own) (d : decode (dc D) pc = .ok (.getfield idx, 3)) (kk : ∀ v, Y g D h0 cl inj (K v) (pc + 3) loc (.int v :: st) h) : Y g D h0 cl inj ((gI h ci a k).bind K) pc loc (.ref a :: st) h := by
  intro r e
  obtain ⟨v, e1, e2⟩ := Option.bind_eq_some_iff.mp e
  unfold gI at e1
  split at e1
  · rename_i w hw
    cases e1
    obtain ⟨fs, q1, q2⟩ := gf_spec hw
    exact ⟨(kk v r e2).1, X.getf f ho q1 q2 d (kk v r e2).2⟩
  · cases e1
theorem Y.getJ {own : String} {idx ci k a : Nat} {tk : FieldType} {fin : Bool} {K : Int64 → Option ρ} (f : xFld own idx ci k tk fin) (ho : (dy D).cls = own) (d : decode (dc D) pc = .ok (.getfield idx, 3)) (kk : ∀ v, Y g D h0 cl inj (K v) (pc + 3) loc (.long v :: st) h) : Y g D h0 cl inj ((gJ h ci a k).bind K) pc loc (.ref a :: st) h := by
  intro r e
  obtain ⟨v, e1, e2⟩ := Option.bind_eq_some_iff.mp e
  unfold gJ at e1
  split at e1
  · rename_i w hw
    cases e1
    obtain ⟨fs, q1, q2⟩ := gf_spec hw
    exact ⟨(kk v r e2).1, X.getf f ho q1 q2 d (kk v r e2).2⟩
  · cases e1
theorem Y.getR {own : String} {idx ci k a : Nat} {tk : FieldType} {fin : Bool} {K : Nat → Option ρ} (f : xFld own idx ci k tk fin) (ho : (dy D).cls = own) (d : decode (dc D) pc = .ok (.getfield idx, 3)) (kk : ∀ v, Y g D h0 cl inj (K v) (pc + 3) loc (.ref v :: st) h) : Y g D h0 cl inj ((gR h ci a k).bind K) pc loc (.ref a :: st) h := by
  intro r e
  obtain ⟨v, e1, e2⟩ := Option.bind_eq_some_iff.mp e
  unfold gR at e1
  split at e1
  · rename_i w hw
    cases e1
    obtain ⟨fs, q1, q2⟩ := gf_spec hw
    exact ⟨(kk v r e2).1, X.getf f ho q1 q2 d (kk v r e2).2⟩
  · cases e1
theorem pf_spec {ci a k : Nat} {v : Value} {h' : xH} (e : pf h ci a k v = some h') : ∃ fs, h[a]? = some (ci, fs) ∧ k < fs.length ∧ h' = h.set a (ci, fs.set k v) := by
  unfold pf at e
  cases hc : h[a]? with
  | none => rw [hc] at e; cases e
  | some c =>
    rw [hc] at e
    simp only at e
    split at e
    · rename_i q
      obtain ⟨q1, q2⟩ := q
      subst q1
      exact ⟨c.2, rfl, q2, (Option.some.inj e).symm⟩
    · cases e
theorem xle_set {a : Nat} {c c' : xC} {x : xR} (e : h[a]? = some c) (l : c'.2.length = c.2.length) (q : xle (h.set a c') 0 x) : xle h 0 x := by
  refine ⟨?_, ?_, q.2.2⟩
  · have := q.1
    rwa [List.length_set] at this
  · have := q.2.1
    rwa [szs_set e l] at this
theorem Y.putI {own : String} {idx ci k a : Nat} {v : Int32} {K : xH → Option ρ} (f : xFld own idx ci k .int false) (ho : (dy D).cls = own) (d : decode (dc D) pc = .ok (.putfield idx, 3)) (kk : ∀ h', Y g D h0 cl inj (K h') (pc + 3) loc st h') : Y g D h0 cl inj ((pI h ci a k v).bind K) pc loc (.int v :: .ref a :: st) h := by
  intro r e
  obtain ⟨h', e1, e2⟩ := Option.bind_eq_some_iff.mp e
  obtain ⟨fs, q1, q2, rfl⟩ := pf_spec e1
  exact ⟨xle_set q1 (by simp) (kk _ r e2).1, X.putf f ho q1 q2 rfl rfl d (kk _ r e2).2⟩
theorem Y.putJ {own : String} {idx ci k a : Nat} {v : Int64} {K : xH → Option ρ} (f : xFld own idx ci k .long false) (ho : (dy D).cls = own) (d : decode (dc D) pc = .ok (.putfield idx, 3)) (kk : ∀ h', Y g D h0 cl inj (K h') (pc + 3) loc st h') : Y g D h0 cl inj ((pJ h ci a k v).bind K) pc loc (.long v :: .ref a :: st) h := by
  intro r e
  obtain ⟨h', e1, e2⟩ := Option.bind_eq_some_iff.mp e
  obtain ⟨fs, q1, q2, rfl⟩ := pf_spec e1
  exact ⟨xle_set q1 (by simp) (kk _ r e2).1, X.putf f ho q1 q2 rfl rfl d (kk _ r e2).2⟩
theorem Y.putZ {own : String} {idx ci k a : Nat} {v : Int32} {K : xH → Option ρ} (f : xFld own idx ci k .boolean false) (ho : (dy D).cls = own) (d : decode (dc D) pc = .ok (.putfield idx, 3)) (kk : ∀ h', Y g D h0 cl inj (K h') (pc + 3) loc st h') : Y g D h0 cl inj ((pZ h ci a k v).bind K) pc loc (.int v :: .ref a :: st) h := by
  intro r e
  obtain ⟨h', e1, e2⟩ := Option.bind_eq_some_iff.mp e
  unfold pZ at e1
  split at e1
  · rename_i hv
    obtain ⟨fs, q1, q2, rfl⟩ := pf_spec e1
    refine ⟨xle_set q1 (by simp) (kk _ r e2).1, X.putf f ho q1 q2 ?_ ?_ d (kk _ r e2).2⟩
    · rcases hv with rfl | rfl <;> rfl
    · rcases hv with rfl | rfl <;> rfl
  · cases e1
theorem Y.aldI {a : Nat} {i : Int32} {K : Int32 → Option ρ} (d : decode (dc D) pc = .ok (.iaload, 1)) (kk : ∀ v, Y g D h0 cl inj (K v) (pc + 1) loc (.int v :: st) h) : Y g D h0 cl inj ((aI h a i).bind K) pc loc (.int i :: .ref a :: st) h := by
  intro r e
  obtain ⟨v, e1, e2⟩ := Option.bind_eq_some_iff.mp e
  unfold aI at e1
  cases hc : h[a]? with
  | none => rw [hc] at e1; cases e1
  | some c =>
    rw [hc] at e1
    simp only at e1
    split at e1
    · rename_i q
      obtain ⟨q1, q2⟩ := q
      obtain ⟨c1, c2⟩ := c
      simp only at q1 q2
      subst q1
      cases e1
      exact ⟨(kk _ r e2).1, X.iald hc (ain_in q2) d (kk _ r e2).2⟩
    · cases e1
theorem Y.aldJ {a : Nat} {i : Int32} {K : Int64 → Option ρ} (d : decode (dc D) pc = .ok (.laload, 1)) (kk : ∀ v, Y g D h0 cl inj (K v) (pc + 1) loc (.long v :: st) h) : Y g D h0 cl inj ((aJ h a i).bind K) pc loc (.int i :: .ref a :: st) h := by
  intro r e
  obtain ⟨v, e1, e2⟩ := Option.bind_eq_some_iff.mp e
  unfold aJ at e1
  cases hc : h[a]? with
  | none => rw [hc] at e1; cases e1
  | some c =>
    rw [hc] at e1
    simp only at e1
    split at e1
    · rename_i q
      obtain ⟨q1, q2⟩ := q
      obtain ⟨c1, c2⟩ := c
      simp only at q1 q2
      subst q1
      cases e1
      exact ⟨(kk _ r e2).1, X.lald hc (ain_in q2) d (kk _ r e2).2⟩
    · cases e1
theorem Y.aldR {a : Nat} {i : Int32} {K : Nat → Option ρ} (t : Nat) (ht : 102 ≤ t) (ht6 : t < 106) (d : decode (dc D) pc = .ok (.aaload, 1)) (kk : ∀ v, Y g D h0 cl inj (K v) (pc + 1) loc (.ref v :: st) h) : Y g D h0 cl inj ((aR t h a i).bind K) pc loc (.int i :: .ref a :: st) h := by
  intro r e
  obtain ⟨v, e1, e2⟩ := Option.bind_eq_some_iff.mp e
  unfold aR at e1
  cases hc : h[a]? with
  | none => rw [hc] at e1; cases e1
  | some c =>
    rw [hc] at e1
    simp only at e1
    split at e1
    · rename_i q
      obtain ⟨q1, q2⟩ := q
      obtain ⟨c1, c2⟩ := c
      simp only at q1 q2 e1
      subst q1
      split at e1
      · rename_i k9 hk9
        cases e1
        exact ⟨(kk _ r e2).1, X.aald ht ht6 hc (ain_in q2) hk9 (Or.inr ⟨_, rfl⟩) d (kk _ r e2).2⟩
      · cases e1
    · cases e1
theorem Y.astI {a : Nat} {i v : Int32} {K : xH → Option ρ} (d : decode (dc D) pc = .ok (.iastore, 1)) (kk : ∀ h', Y g D h0 cl inj (K h') (pc + 1) loc st h') : Y g D h0 cl inj ((sI h a i v).bind K) pc loc (.int v :: .int i :: .ref a :: st) h := by
  intro r e
  obtain ⟨h', e1, e2⟩ := Option.bind_eq_some_iff.mp e
  unfold sI at e1
  cases hc : h[a]? with
  | none => rw [hc] at e1; cases e1
  | some c =>
    rw [hc] at e1
    simp only at e1
    split at e1
    · rename_i q
      obtain ⟨q1, q2⟩ := q
      obtain ⟨c1, c2⟩ := c
      simp only at q1 q2 e1
      subst q1
      cases e1
      exact ⟨xle_set hc (by simp) (kk _ r e2).1, X.iast hc (ain_in q2) d (kk _ r e2).2⟩
    · cases e1
theorem Y.astJ {a : Nat} {i : Int32} {v : Int64} {K : xH → Option ρ} (d : decode (dc D) pc = .ok (.lastore, 1)) (kk : ∀ h', Y g D h0 cl inj (K h') (pc + 1) loc st h') : Y g D h0 cl inj ((sJ h a i v).bind K) pc loc (.long v :: .int i :: .ref a :: st) h := by
  intro r e
  obtain ⟨h', e1, e2⟩ := Option.bind_eq_some_iff.mp e
  unfold sJ at e1
  cases hc : h[a]? with
  | none => rw [hc] at e1; cases e1
  | some c =>
    rw [hc] at e1
    simp only at e1
    split at e1
    · rename_i q
      obtain ⟨q1, q2⟩ := q
      obtain ⟨c1, c2⟩ := c
      simp only at q1 q2 e1
      subst q1
      cases e1
      exact ⟨xle_set hc (by simp) (kk _ r e2).1, X.last hc (ain_in q2) d (kk _ r e2).2⟩
    · cases e1
end YR
