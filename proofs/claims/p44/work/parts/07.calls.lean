/-! RULES OF X: entry, returns, calls -/
theorem lw_gd_good : ∀ w ∈ lw_gd, (w.onTables && w.keeps) = true ∨ ∃ ty, w = .arrayClass ty := fun w hw => good_of_word (List.mem_filter.mp hw).2
theorem nC_self (h : xH) : nC h h 0 = 0 := by simp [nC]
theorem nS_self (h : xH) : nS h h 0 = 0 := by simp [nS]
theorem nC_add {h0 h h' : xH} {ex ex' : Nat} (h1 : h0.length ≤ h.length) (h2 : h.length ≤ h'.length) : nC h0 h ex + nC h h' ex' = nC h0 h' (ex + ex') := by unfold nC; omega
theorem nS_add {h0 h h' : xH} {ex ex' : Nat} (h1 : szs h0 ≤ szs h) (h2 : szs h ≤ szs h') : nS h0 h ex + nS h h' ex' = nS h0 h' (ex + ex') := by unfold nS; omega
theorem nC_le {h0 h h' : xH} {ex ex' : Nat} (h1 : h.length ≤ h'.length) (h2 : ex ≤ ex') : nC h0 h ex ≤ nC h0 h' ex' := by unfold nC; omega
theorem nS_le {h0 h h' : xH} {ex ex' : Nat} (h1 : szs h ≤ szs h') (h2 : ex ≤ ex') : nS h0 h ex ≤ nS h0 h' ex' := by unfold nS; omega
/-- x may still be reached from h, ex -/
def xle (h : xH) (ex : Nat) (x : xR) : Prop := h.length ≤ (xh x).length ∧ szs h ≤ szs (xh x) ∧ ex ≤ xe x
theorem XM.of {g : xG} {D : xD} {args : List Value} {h : xH} {cl : Bool} {x : xR} (hp : plainName (dy D).cls = true) (ht : dh D = []) (hn : (xent args).length ≤ dn D) (m1 : h.length ≤ (xh x).length) (m2 : szs h ≤ szs (xh x)) (k : X g D h x 0 (xloc (dn D) args) [] h cl 0) : XM g D args h cl x := by
  refine ⟨m1, m2, ?_⟩
  have hw : dw D = Cond.code (dy D) (dc D) (dn D) (dr D) :: lw_gd := by unfold dw; rw [ht]
  refine vx_ofW (cc := dc D) (maxL := dn D) (ret := dr D) hp hw ?_
  intro p e s m as below meth c s₁ B hml htab hv
  obtain ⟨rfl, hH, hcl, hK⟩ := hv
  have htab2 : c.exceptionTable.toList = tableOf (dh D) := by
    rw [ht]
    exact List.eq_nil_iff_forall_not_mem.mpr (fun q hq => htab q hq)
  rw [lg_entry_eq]
  have := k p e (xRm D h x) s m _ below meth c s.heap [] _ ⟨⟨B.exec, B.bytes, hml, findClass_of_methodNamed B.named⟩, atoms_spec (ws := dw D) B.pre, ⟨B.returns, B.notSynchronized, htab2, (name_of_methodNamed B.named B.method).1⟩, ⟨hK, hH.2.1, hcl⟩, Nat.le_refl _, Nat.le_refl _, Nat.le_refl _, Nat.le_refl _⟩ hH va_S.rf (LR.entry g args hn) (Nat.le_refl _) (Nat.le_refl _)
  rw [nC_self, nS_self] at this
  exact this
theorem XM.ofH {g : xG} {D : xD} {args : List Value} {h : xH} {cl : Bool} {x : xR} (hp : plainName (dy D).cls = true) {hh : Nat × Nat × Nat × Nat} {ht : List (Nat × Nat × Nat × Nat)} (hd : dh D = hh :: ht) (hn : (xent args).length ≤ dn D) (m1 : h.length ≤ (xh x).length) (m2 : szs h ≤ szs (xh x)) (k : X g D h x 0 (xloc (dn D) args) [] h cl 0) : XM g D args h cl x := by
  refine ⟨m1, m2, ?_⟩
  have hw : dw D = Cond.codeWith (dy D) (dc D) (dn D) (dr D) (dh D) :: lw_gd := by unfold dw; rw [hd]
  refine vx_ofWH (cc := dc D) (maxL := dn D) (ret := dr D) hp hw ?_
  intro p e s m as below meth c s₁ B hml hv
  obtain ⟨rfl, hH, hcl, hK⟩ := hv
  have hts : ∀ w ∈ dw D, w.before _ s = true := atoms_spec (ws := dw D) B.pre
  have htab2 : c.exceptionTable.toList = tableOf (dh D) := vx_table (x := dy D) B (hts _ (by rw [hw]; exact List.mem_cons_self))
  rw [lg_entry_eq]
  have := k p e (xRm D h x) s m _ below meth c s.heap [] _ ⟨⟨B.exec, B.bytes, hml, findClass_of_methodNamed B.named⟩, hts, ⟨B.returns, B.notSynchronized, htab2, (name_of_methodNamed B.named B.method).1⟩, ⟨hK, hH.2.1, hcl⟩, Nat.le_refl _, Nat.le_refl _, Nat.le_refl _, Nat.le_refl _⟩ hH va_S.rf (LR.entry g args hn) (Nat.le_refl _) (Nat.le_refl _)
  rw [nC_self, nS_self] at this
  exact this
section XR
variable {g : xG} {D : xD} {h0 : xH} {x : xR} {pc : Nat} {loc : xL} {st : List Value} {h : xH} {cl : Bool} {ex : Nat}
theorem X.ireturn {v : Int32} (hr : dr D = some .int) (d : decode (dc D) pc = .ok (.ireturn, 1)) : X g D h0 (.inl (some (.int v)), h, ex) pc loc [.int v] h cl ex := by
  intro p e R s m args below meth c H locs ls C hH hS hL h1 h2
  exact vx_ret (W.iret C.1.1 C.1.2.1 (C.2.2.1.1.trans hr) (fun t ht _ => ⟨⟨_, rfl, rfl, by rw [ht]; exact hH⟩, hS.F ht⟩) hS.2.2 d C.2.2.1.2.1)
theorem X.zreturn {v : Int32} (hr : dr D = some .boolean) (hv : v &&& 1 = v) (d : decode (dc D) pc = .ok (.ireturn, 1)) : X g D h0 (.inl (some (.int v)), h, ex) pc loc [.int v] h cl ex := by
  intro p e R s m args below meth c H locs ls C hH hS hL h1 h2
  exact vx_ret (W.zret C.1.1 C.1.2.1 (C.2.2.1.1.trans hr) (show Value.int (v &&& 1) = .int v by rw [hv]) (fun t ht _ => ⟨⟨_, rfl, rfl, by rw [ht]; exact hH⟩, hS.F ht⟩) hS.2.2 d C.2.2.1.2.1)
theorem X.creturn {v : Int32} (hr : dr D = some .char) (hv : v.toUInt32.toUInt16.toUInt32.toInt32 = v) (d : decode (dc D) pc = .ok (.ireturn, 1)) : X g D h0 (.inl (some (.int v)), h, ex) pc loc [.int v] h cl ex := by
  intro p e R s m args below meth c H locs ls C hH hS hL h1 h2
  exact vx_ret (W.zret C.1.1 C.1.2.1 (C.2.2.1.1.trans hr) (show Value.int (v.toUInt32.toUInt16.toUInt32.toInt32) = .int v by rw [hv]) (fun t ht _ => ⟨⟨_, rfl, rfl, by rw [ht]; exact hH⟩, hS.F ht⟩) hS.2.2 d C.2.2.1.2.1)
theorem X.lreturn {v : Int64} (hr : dr D = some .long) (d : decode (dc D) pc = .ok (.lreturn, 1)) : X g D h0 (.inl (some (.long v)), h, ex) pc loc [.long v] h cl ex := by
  intro p e R s m args below meth c H locs ls C hH hS hL h1 h2
  exact vx_ret (W.lret C.1.1 C.1.2.1 (C.2.2.1.1.trans hr) (fun t ht _ => ⟨⟨_, rfl, rfl, by rw [ht]; exact hH⟩, hS.F ht⟩) hS.2.2 d C.2.2.1.2.1)
theorem X.vreturn (hr : dr D = none) (d : decode (dc D) pc = .ok (.return_, 1)) : X g D h0 (.inl none, h, ex) pc loc [] h cl ex := by
  intro p e R s m args below meth c H locs ls C hH hS hL h1 h2
  exact vx_ret (W.vret C.1.1 C.1.2.1 (C.2.2.1.1.trans hr) (fun t ht _ => ⟨⟨_, rfl, rfl, by rw [ht]; exact hH⟩, hS.F ht⟩) hS.2.2 d C.2.2.1.2.1)
theorem X.areturn {v : Value} {rt : FieldType} (hr : dr D = some rt) (hrt : (∃ n, rt = .object n) ∨ ∃ t, rt = .array t) (hv : v = .null ∨ ∃ a, v = .ref a) (d : decode (dc D) pc = .ok (.areturn, 1)) : X g D h0 (.inl (some v), h, ex) pc loc [v] h cl ex := by
  intro p e R s m args below meth c H locs ls C hH hS hL h1 h2
  exact vx_ret (W.aret C.1.1 C.1.2.1 (C.2.2.1.1.trans hr) hrt (by rcases hv with rfl | ⟨a, rfl⟩; exact Or.inl rfl; exact Or.inr ⟨_, rfl⟩) (fun t ht _ => ⟨⟨_, rfl, rfl, by rw [ht]; exact hH⟩, hS.F ht⟩) hS.2.2 d C.2.2.1.2.1)
end XR
/-- what a callee's start needs, out of the caller's place -/
theorem xP_at {g : xG} {As : List Value} {h : xH} {cl : Bool} {s U : State} {H : Heap} {locs : List Loc} (hK : KK g s) (hS : va_S (gA g) s.heap H locs) (hH : HR g h H) (hcl : cl = false → H.size = gB g + h.length) (hU : U.heap = H) (hW : s.WarmedH U.vm) : xP g As h cl (As.map (cv g)).toArray U := by
  refine ⟨rfl, by rw [hU]; exact hH, fun q => by rw [hU]; exact hcl q, KK.moved hW (fun a h1 h2 => ?_) hK⟩
  rw [hU]
  exact hS.2.1 a h1 h2
theorem W.sz {p : Program} {l : Launch} {e : Env} {R : Room} {s : State} {m : MethodId} {args : Array Value} {below : List Frame} {meth : Method} {c : Code} {H : Heap} {locs : List Loc} {cells slots : Nat} {Q : State → Prop} {f : JFrame} (k : H.size ≤ s.heap.size + cells → W p l e R s m args below meth c H locs cells slots Q f) : W p l e R s m args below meth c H locs cells slots Q f := by
  intro T hT Xs
  exact k (by rw [← hT]; exact Xs.same.2.2.1) T hT Xs
/-- the callee returned -/
theorem W.ofRun {g : xG} {p : Program} {e : Env} {R : Room} {s : State} {m : MethodId} {args : Array Value} {below : List Frame} {meth : Method} {c : Code} {H : Heap} {locs : List Loc} {cells slots mc ms : Nat} {Q : State → Prop} {pc : Nat} {ls : Array Slot} {stA rest : List Value} {A' : Array Value} {x' : xR} {v0 : Option Value} (hx' : xo x' = .inl v0)
    (hr : vx_Run p (gl g) e R s m args below meth c H locs cells slots mc ms (F0 m pc ls stA) rest (xQ g x' A') (xX g x') (gA g)) (hS : va_S (gA g) s.heap H locs)
    (k : ∀ (H1 : Heap) (locs1 : List Loc), HR g (xh x') H1 → va_S (gA g) s.heap H1 locs1 → W p (gl g) e R s m args below meth c H1 locs1 (cells + mc) (slots + ms) Q (F0 m (pc + 3) ls ((v0.map (cv g)).toList ++ rest))) : W p (gl g) e R s m args below meth c H locs cells slots Q (F0 m pc ls stA) := by
  intro T hT Xs
  rcases hr T hT Xs with ⟨v, st₀, t, T', L, h0', X', hL, e1, e2, ⟨⟨v1, hv1, hv2, hH1⟩, hF⟩, stp⟩ | ⟨q, st₀, t, T', L, E, ce, h0', X', hL, e1, e2, ⟨⟨hv1, hH1⟩, hF⟩, hce, hcv, hcl, stp⟩
  · rw [hx'] at hv1
    cases hv1
    cases hv2
    obtain ⟨k1, k2, k3⟩ := vx_keep h0' e1 hS (fun _ _ q => q) (fun _ q => q) hL hF
    obtain ⟨t2, a1, b1⟩ := k T'.heap (locs ++ L) (by rw [e1]; exact hH1) k3 T' rfl X'
    exact ⟨t2, stp t2 a1, b1⟩
  · rw [hx'] at hv1
    cases hv1
/-- the callee threw -/
theorem W.ofRunX {g : xG} {p : Program} {e : Env} {R : Room} {s : State} {m : MethodId} {args : Array Value} {below : List Frame} {meth : Method} {c : Code} {H : Heap} {locs : List Loc} {cells slots mc ms : Nat} {Q : State → Prop} {pc : Nat} {ls : Array Slot} {stA rest : List Value} {A' : Array Value} {x' : xR} {E0 : String} (hx' : xo x' = .inr E0)
    (hr : vx_Run p (gl g) e R s m args below meth c H locs cells slots mc ms (F0 m pc ls stA) rest (xQ g x' A') (xX g x') (gA g)) (hS : va_S (gA g) s.heap H locs)
    (k : ∀ (H1 : Heap) (locs1 : List Loc) (ce : Cell) (q : Addr), HR g (xh x') H1 → va_S (gA g) s.heap H1 locs1 → H1[q]? = some ce → ce.vm = .none → s.vm.findClass E0 = some ce.cls → vx_W p (gl g) e R s m args below meth c H1 locs1 (cells + mc) (slots + ms) Q (F0 m pc ls rest) q) : W p (gl g) e R s m args below meth c H locs cells slots Q (F0 m pc ls stA) := by
  intro T hT Xs
  rcases hr T hT Xs with ⟨v, st₀, t, T', L, h0', X', hL, e1, e2, ⟨⟨v1, hv1, hv2, hH1⟩, hF⟩, stp⟩ | ⟨q, st₀, t, T', L, E, ce, h0', X', hL, e1, e2, ⟨⟨hv1, hH1⟩, hF⟩, hce, hcv, hcl, stp⟩
  · rw [hx'] at hv1
    cases hv1
  · rw [hx'] at hv1
    cases hv1
    obtain ⟨k1, k2, k3⟩ := vx_keep h0' e1 hS (fun _ _ q => q) (fun _ q => q) hL hF
    obtain ⟨t2, a1, b1⟩ := k T'.heap (locs ++ L) ce q (by rw [e1]; exact hH1) k3 (by rw [e1]; exact hce) hcv hcl T' rfl X'
    exact ⟨t2, stp.trans a1, b1⟩
/-- how a method of level and table is called from class own by its entry idx -/
def xLnk (own : String) (idx : Nat) (y : MethodName) : Prop := Cond.methodLink own idx y ∈ lw_gd
def xNst (own : String) (idx : Nat) (y : MethodName) : Prop := ∃ host, Cond.methodLinkNest own idx y host ∈ lw_nw
/-- a method that can be called: its code, its words -/
def xCal (D : xD) (n : Nat) : Prop := dh D = [] ∧ Cond.code (dy D) (dc D) (dn D) (dr D) ∈ lw_gd ∧ Cond.initialized (dy D).cls ∈ lw_gd ∧ ((dy D).cls ≠ "java/lang/invoke/MethodHandle" ∧ (dy D).cls ≠ "java/lang/invoke/VarHandle" ∧ (parseMethodDescriptor (dy D).desc).map (fun d => d.parameters.length) = some n) ∧ dn D ≤ 41
def xVir (D : xD) : Prop := Cond.instanceMethod (dy D) ∈ lw_gd ∧ Cond.selects (dy D).cls (dy D) (dy D) ∈ lw_gd
def xSta (D : xD) : Prop := Cond.static (dy D) ∈ lw_gd
def xIni (D : xD) : Prop := (dy D).name = "<init>" ∧ Cond.instanceMethod (dy D) ∈ lw_gd ∧ dr D = none
theorem xCal.gi {D D' : xD} {n : Nat} (hc : xCal D' n) : GoodIn (dw D) (dw D') := by
  intro w hw
  have e : dw D' = Cond.code (dy D') (dc D') (dn D') (dr D') :: lw_gd := by unfold dw; rw [hc.1]
  rw [e] at hw
  rcases List.mem_cons.mp hw with rfl | hw
  · exact ⟨gd_in hc.2.1, lw_gd_good _ hc.2.1⟩
  · exact ⟨gd_in hw, lw_gd_good _ hw⟩
theorem xCal.eq {D' : xD} {n : Nat} (hc : xCal D' n) : dw D' = Cond.code (dy D') (dc D') (dn D') (dr D') :: lw_gd := by unfold dw; rw [hc.1]

/-- a call from this place, running to x' -/
def xRuns (g : xG) (D : xD) (h0 : xH) (x : xR) (pc : Nat) (loc : xL) (st0 st : List Value) (h : xH) (cl : Bool) (ex : Nat) (x' : xR) : Prop :=
  ∀ (p : Program) (e : Env) (R : Room) (s : State) (m : MethodId) (args : Array Value) (below : List Frame) (meth : Method) (c : Code) (H : Heap) (locs : List Loc) (ls : Array Slot),
    xCtx g D h0 cl x p R s m args meth c → HR g h H → va_S (gA g) s.heap H locs → LR g ls (dn D) loc → h0.length ≤ h.length → szs h0 ≤ szs h → H.size ≤ s.heap.size + nC h0 h ex →
    vx_Run p (gl g) e R s m args below meth c H locs (nC h0 h ex) (nS h0 h ex) (nC h (xh x') (xe x')) (nS h (xh x') (xe x')) (F0 m pc ls (st0.map (cv g))) (st.map (cv g)) (xQ g x' #[]) (xX g x') (gA g)
section XR
variable {g : xG} {D : xD} {h0 : xH} {x : xR} {pc : Nat} {loc : xL} {st : List Value} {h : xH} {cl : Bool} {ex : Nat}
theorem xcl_size {h0 h : xH} {cl cl' : Bool} {ex : Nat} {s : State} {H : Heap} (hcl : cl' = false → cl = false ∧ ex = 0) (hs : cl = false → s.heap.size = gB g + h0.length) (hH : HR g h H) (h1 : h0.length ≤ h.length) (sz : H.size ≤ s.heap.size + nC h0 h ex) : cl' = false → H.size = gB g + h.length := by
  intro q
  obtain ⟨q1, q2⟩ := hcl q
  have := hs q1
  have := hH.2.1
  unfold nC at sz
  omega
theorem X.runs {st0 : List Value} {x' : xR} {v0 : Option Value} (hr : xRuns g D h0 x pc loc st0 st h cl ex x') (hm : h.length ≤ (xh x').length ∧ szs h ≤ szs (xh x')) (hx' : xo x' = .inl v0) (k : X g D h0 x (pc + 3) loc (v0.toList ++ st) (xh x') cl (ex + xe x')) : X g D h0 x pc loc st0 h cl ex := by
  intro p e R s m args below meth c H locs ls C hH hS hL h1 h2
  refine W.sz (fun sz => W.ofRun hx' (hr p e R s m args below meth c H locs ls C hH hS hL h1 h2 sz) hS (fun H1 locs1 hH1 hS1 => ?_))
  have := k p e R s m args below meth c H1 locs1 ls C hH1 hS1 hL (Nat.le_trans h1 hm.1) (Nat.le_trans h2 hm.2)
  rw [nC_add h1 hm.1, nS_add h2 hm.2]
  rw [List.map_append] at this
  have e2 : v0.toList.map (cv g) = (v0.map (cv g)).toList := by cases v0 <;> rfl
  rw [e2] at this
  exact this
/-- thrown by the callee, no handler here -/
theorem X.runsOut {st0 : List Value} {x' : xR} {E : String} (hr : xRuns g D h0 (.inr E, xh x', ex + xe x') pc loc st0 st h cl ex x') (hm : h.length ≤ (xh x').length ∧ szs h ≤ szs (xh x')) (hx' : xo x' = .inr E) (ht : dh D = []) : X g D h0 (.inr E, xh x', ex + xe x') pc loc st0 h cl ex := by
  intro p e R s m args below meth c H locs ls C hH hS hL h1 h2
  refine W.sz (fun sz => W.ofRunX hx' (hr p e R s m args below meth c H locs ls C hH hS hL h1 h2 sz) hS (fun H1 locs1 ce q hH1 hS1 hq hv hcls => ?_))
  have htab : ∀ z ∈ c.exceptionTable.toList, covers z pc = false := by
    rw [C.2.2.1.2.2.1, ht]
    intro z hz
    cases hz
  rw [nC_add h1 hm.1, nS_add h2 hm.2]
  exact vx_out htab C.2.2.1.2.1 hq hv hcls (fun t ht2 _ => ⟨⟨rfl, by rw [ht2]; exact hH1⟩, hS1.F ht2⟩) hS1.2.2 (Nat.le_refl _) (Nat.le_refl _)
end XR
section XC
variable {g : xG} {D D' : xD} {h0 : xH} {x x' : xR} {pc : Nat} {loc : xL} {st st0 As : List Value} {h : xH} {cl cl' : Bool} {ex idx n : Nat} {own : String}
theorem xRuns.hf {g : xG} {D : xD} {h0 h : xH} {x x' : xR} {ex : Nat} {p : Program} {R : Room} {s : State} {m : MethodId} {args : Array Value} {meth : Method} {c : Code} (C : xCtx g D h0 cl x p R s m args meth c) (h1 : h0.length ≤ h.length) (h2 : szs h0 ≤ szs h) (hm : h.length ≤ (xh x').length ∧ szs h ≤ szs (xh x')) (hle : xle (xh x') (ex + xe x') x) : nC h0 h ex + nC h (xh x') (xe x') ≤ R.cells ∧ nS h0 h ex + nS h (xh x') (xe x') ≤ R.slots := by
  rw [nC_add h1 hm.1, nS_add h2 hm.2]
  exact ⟨Nat.le_trans (nC_le hle.1 hle.2.2) C.2.2.2.2.2.2.1, Nat.le_trans (nS_le hle.2.1 hle.2.2) C.2.2.2.2.2.2.2⟩
theorem xRuns.hR {p : Program} {R : Room} {s : State} {m : MethodId} {args : Array Value} {meth : Method} {c : Code} (C : xCtx g D h0 cl x p R s m args meth c) (hd : dd D' + 1 ≤ dd D) (hn : dn D' ≤ 41) : (xRm D' h x').frames + 1 ≤ R.frames ∧ 8 + (dn D' + 11) + (xRm D' h x').locals ≤ R.locals := by
  have q1 := C.2.2.2.2.1
  have q2 := C.2.2.2.2.2.1
  refine ⟨Nat.le_trans hd q1, ?_⟩
  show 8 + (dn D' + 11) + 60 * dd D' ≤ R.locals
  omega
theorem xrm (h : (st.map Value.category).sum ≤ 8) : ((st.map (cv g)).map fun v => v.category).sum ≤ 8 := by
  rw [List.map_map]
  have : ((fun v => Value.category v) ∘ cv g) = Value.category := funext fun v => cv_cat g v
  rw [this]
  exact h
theorem xRuns.V {a ci N : Nat} {T : u_T} {fs : List Value} (hl : xLnk own idx (dy D') ∨ xNst own idx (dy D')) (ho : (dy D).cls = own) (hc : xCal D' n) (hv : xVir D') (hd : dd D' + 1 ≤ dd D) (ha : h[a]? = some (ci, fs)) (hci : ci < 100) (hcn : vwCl[ci]? = some ((dy D').cls, T, N)) (hn : As.length = n) (hst : st0 = As.reverse ++ .ref a :: st) (hrm : (st.map Value.category).sum ≤ 8)
    (hM : XM g D' (.ref a :: As) h cl' x') (hcl : cl' = false → cl = false ∧ ex = 0) (hle : xle (xh x') (ex + xe x') x) (d : decode (dc D) pc = .ok (.invokevirtual idx, 3)) : xRuns g D h0 x pc loc st0 st h cl ex x' := by
  intro p e R s m args below meth c H locs ls C hH hS hL h1 h2 sz
  obtain ⟨hx, hb, hml, hown⟩ := C.1
  rw [ho] at hown
  have hal := idx_lt ha
  have he : (cw g h)[a]? = some (gB g + a, .inr (ci, fs.map (cv g))) := by rw [cw_get ha, cE_o g fs hci]
  have ea : cv g (.ref a) = .ref (gB g + a) := by rw [← gad_lt g (Nat.lt_trans hal hH.2.2)]; rfl
  have hK := C.2.2.2.1.1
  have hp : PreV s H (dy D').cls (gB g + a) (xP g (.ref a :: As) h cl') (As.map (cv g)) := by
    refine ⟨xP_blind g _ h cl', va_recv hK.1.1 hH.1 hcn he, fun U hU hW => ?_⟩
    have := xP_at (As := .ref a :: As) hK hS hH (xcl_size hcl C.2.2.2.1.2.2 hH h1 sz) hU hW
    rw [List.map_cons, ea] at this
    exact this
  have es : st0.map (cv g) = (As.map (cv g)).reverse ++ .ref (gB g + a) :: st.map (cv g) := by rw [hst, List.map_append, List.map_cons, ea, List.map_reverse]
  have hG : GoodIn (dw D) (dw D') := hc.gi
  have hwd : ∀ w, w ∈ lw_gd → w.before args s = true := fun w hw => C.2.1 w (gd_in hw)
  have hf := xRuns.hf C h1 h2 ⟨hM.1, hM.2.1⟩ hle
  have hR := xRuns.hR (h := h) (x' := x') C hd hc.2.2.2.2
  rw [es]
  rcases hl with hl | ⟨host, hl⟩
  · exact vx_runV (As := As.map (cv g)) (nL := dn D) ⟨hx, hb, hml, hown, C.2.1⟩ hM.2.2 ⟨callB_of n C.2.1 hG hc.eq rfl rfl (hwd _ hc.2.2.1) (hwd _ hl) hc.2.2.2.1 hR, hwd _ hv.1, hwd _ hv.2⟩ hp rfl (by rw [List.length_map]; exact hn) hL.1.1 rfl (lv_room (xrm hrm)) d hf
  · exact vx_runVN (As := As.map (cv g)) (nL := dn D) ⟨hx, hb, hml, hown, C.2.1⟩ hM.2.2 ⟨va_cnB n C.2.1 hG hc.eq rfl rfl (hK.1.2.1 _ hl) (hwd _ hc.2.2.1) hc.2.2.2.1 hR, hwd _ hv.1, hwd _ hv.2⟩ hp rfl (by rw [List.length_map]; exact hn) hL.1.1 rfl (lv_room (xrm hrm)) d hf
theorem xRuns.S (hl : xLnk own idx (dy D') ∨ xNst own idx (dy D')) (ho : (dy D).cls = own) (hc : xCal D' n) (hv : xSta D') (hd : dd D' + 1 ≤ dd D) (hn : As.length = n) (hst : st0 = As.reverse ++ st) (hrm : (st.map Value.category).sum ≤ 8)
    (hM : XM g D' As h cl' x') (hcl : cl' = false → cl = false ∧ ex = 0) (hle : xle (xh x') (ex + xe x') x) (d : decode (dc D) pc = .ok (.invokestatic idx, 3)) : xRuns g D h0 x pc loc st0 st h cl ex x' := by
  intro p e R s m args below meth c H locs ls C hH hS hL h1 h2 sz
  obtain ⟨hx, hb, hml, hown⟩ := C.1
  rw [ho] at hown
  have hK := C.2.2.2.1.1
  have hp : PreS s H (xP g As h cl') (As.map (cv g)) :=
    ⟨xP_blind g _ h cl', fun U hU hW => xP_at hK hS hH (xcl_size hcl C.2.2.2.1.2.2 hH h1 sz) hU hW⟩
  have es : st0.map (cv g) = (As.map (cv g)).reverse ++ st.map (cv g) := by rw [hst, List.map_append, List.map_reverse]
  have hG : GoodIn (dw D) (dw D') := hc.gi
  have hwd : ∀ w, w ∈ lw_gd → w.before args s = true := fun w hw => C.2.1 w (gd_in hw)
  have hf := xRuns.hf C h1 h2 ⟨hM.1, hM.2.1⟩ hle
  have hR := xRuns.hR (h := h) (x' := x') C hd hc.2.2.2.2
  rw [es]
  rcases hl with hl | ⟨host, hl⟩
  · exact vx_runS (As := As.map (cv g)) (nL := dn D) ⟨hx, hb, hml, hown, C.2.1⟩ hM.2.2 ⟨callB_of n C.2.1 hG hc.eq rfl rfl (hwd _ hc.2.2.1) (hwd _ hl) hc.2.2.2.1 hR, hwd _ hv⟩ hp rfl (by rw [List.length_map]; exact hn) hL.1.1 rfl (lv_room (xrm hrm)) d hf
  · exact vx_runSN (As := As.map (cv g)) (nL := dn D) ⟨hx, hb, hml, hown, C.2.1⟩ hM.2.2 ⟨va_cnB n C.2.1 hG hc.eq rfl rfl (hK.1.2.1 _ hl) (hwd _ hc.2.2.1) hc.2.2.2.1 hR, hwd _ hv, trivial⟩ hp rfl (by rw [List.length_map]; exact hn) hL.1.1 rfl (lv_room (xrm hrm)) d hf
theorem xRuns.I {a : Nat} (hal : a < h.length) (hl : xLnk own idx (dy D') ∨ xNst own idx (dy D')) (ho : (dy D).cls = own) (hc : xCal D' n) (hv : xIni D') (hd : dd D' + 1 ≤ dd D) (hn : As.length = n) (hst : st0 = As.reverse ++ .ref a :: st) (hrm : (st.map Value.category).sum ≤ 8)
    (hM : XM g D' (.ref a :: As) h cl' x') (hcl : cl' = false → cl = false ∧ ex = 0) (hle : xle (xh x') (ex + xe x') x) (d : decode (dc D) pc = .ok (.invokespecial idx, 3)) : xRuns g D h0 x pc loc st0 st h cl ex x' := by
  intro p e R s m args below meth c H locs ls C hH hS hL h1 h2 sz
  obtain ⟨hx, hb, hml, hown⟩ := C.1
  rw [ho] at hown
  have hK := C.2.2.2.1.1
  have ea : cv g (.ref a) = .ref (gB g + a) := by rw [← gad_lt g (Nat.lt_trans hal hH.2.2)]; rfl
  have hp : PreS s H (xP g (.ref a :: As) h cl') (.ref (gB g + a) :: As.map (cv g)) := by
    refine ⟨xP_blind g _ h cl', fun U hU hW => ?_⟩
    have := xP_at (As := .ref a :: As) hK hS hH (xcl_size hcl C.2.2.2.1.2.2 hH h1 sz) hU hW
    rw [List.map_cons, ea] at this
    exact this
  have es : st0.map (cv g) = (As.map (cv g)).reverse ++ .ref (gB g + a) :: st.map (cv g) := by rw [hst, List.map_append, List.map_cons, ea, List.map_reverse]
  have hG : GoodIn (dw D) (dw D') := hc.gi
  have hwd : ∀ w, w ∈ lw_gd → w.before args s = true := fun w hw => C.2.1 w (gd_in hw)
  have hf := xRuns.hf C h1 h2 ⟨hM.1, hM.2.1⟩ hle
  have hR := xRuns.hR (h := h) (x' := x') C hd hc.2.2.2.2
  have e3 : dw D' = Cond.code (dy D') (dc D') (dn D') none :: lw_gd := by rw [hc.eq, hv.2.2]
  rw [es]
  rcases hl with hl | ⟨host, hl⟩
  · exact vx_runI (As := As.map (cv g)) (nL := dn D) ⟨hx, hb, hml, hown, C.2.1⟩ hM.2.2 (cwI n C.2.1 hG e3 rfl rfl (hwd _ hc.2.2.1) (hwd _ hl) (hwd _ hv.2.1) hv.1 hc.2.2.2.1 hR) hp rfl (by rw [List.length_map]; exact hn) hL.1.1 rfl (lv_room (xrm hrm)) d hf
  · exact vx_runIN (As := As.map (cv g)) (nL := dn D) ⟨hx, hb, hml, hown, C.2.1⟩ hM.2.2 ⟨va_cnB n C.2.1 hG e3 rfl rfl (hK.1.2.1 _ hl) (hwd _ hc.2.2.1) hc.2.2.2.1 hR, hv.1, hwd _ hv.2.1⟩ hp rfl (by rw [List.length_map]; exact hn) hL.1.1 rfl (lv_room (xrm hrm)) d hf
end XC
