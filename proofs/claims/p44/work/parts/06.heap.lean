/-! RULES OF X: fields, arrays, constants -/
def xCls (ci : Nat) (C : String) (T : u_T) (N : Nat) (ty : Nat → FieldType) : Prop := vwCl[ci]? = some (C, T, N) ∧ (∀ w ∈ u_ws C T N, w ∈ lw_gd) ∧ (∀ k, k < N → parseFieldDescriptor (T k).2.2.1 = some (ty k)) ∧ (∀ a, a < N → ∀ b, b < N → a ≠ b → (T a).2.1 ≠ (T b).2.1) ∧ ci < 100
/-- the entry idx of the class own is the field k of the class ci, of type tk, final or not -/
def xFld (own : String) (idx ci k : Nat) (tk : FieldType) (fin : Bool) : Prop := ∃ (C : String) (T : u_T) (N : Nat) (ty : Nat → FieldType), xCls ci C T N ty ∧ k < N ∧ ty k = tk ∧ (T k).2.2.2 = fin ∧
  (Cond.fieldLink own idx (T k).1 (T k).2.1 (T k).2.2.1 ∈ lw_gd ∨ ∃ host, Cond.fieldLinkNest own idx (T k).1 (T k).2.1 (T k).2.2.1 host ∈ lw_nw)
theorem gd_in {D : xD} {w : Cond} (h : w ∈ lw_gd) : w ∈ dw D := List.mem_cons_of_mem _ h
theorem gad_lt (g : xG) {k : Nat} (h : k < 1000000) : gad g k = gB g + k := if_pos h
theorem idx_lt {h : xH} {a : Nat} {c : xC} (e : h[a]? = some c) : a < h.length := (List.getElem?_eq_some_iff.mp e).1
theorem va_S.two {A : Nat → Prop} {H0 H H1 : Heap} {locs locs1 : List Loc} (h : va_S A H0 H locs) (h1 : va_S A H H1 locs1) : va_S A H0 H1 locs1 :=
  ⟨Nat.le_trans h.1 h1.1, fun q q1 q2 => (h1.2.1 q (Nat.lt_of_lt_of_le q1 h.1) q2).trans (h.2.1 q q1 q2), h1.2.2⟩
theorem va_S.here {A : Nat → Prop} {H0 H : Heap} {locs : List Loc} (h : va_S A H0 H locs) : va_S A H H locs := ⟨Nat.le_refl _, fun _ _ _ => rfl, h.2.2⟩
theorem cE_o (g : xG) {ci : Nat} (fs : List Value) (h : ci < 100) : cE g (ci, fs) = .inr (ci, fs.map (cv g)) := if_pos h
theorem cE_i (g : xG) (l : List Value) : cE g (100, l) = .inl (gT g 0, (l.length, .inl (fun j => vI (l.getD j .null)))) := rfl
theorem cE_l (g : xG) (l : List Value) : cE g (101, l) = .inl (gT g 1, (l.length, .inr (.inl (fun j => vJ (l.getD j .null))))) := rfl
theorem cE_q (g : xG) (t : Nat) (l : List Value) (h : 102 ≤ t) : cE g (t, l) = .inl (gT g (t - 100), (l.length, .inr (.inr (.inr (.inr (fun j => vQ g (l.getD j .null))))))) := by
  unfold cE xA
  rw [if_neg (by show ¬ t < 100; omega)]
  show (.inl (gT g (t - 100), (l.length, if t - 100 = 0 then _ else if t - 100 = 1 then _ else _)) : va_E) = _
  rw [if_neg (by omega), if_neg (by omega)]
theorem getD_set {l : List Value} {i j : Nat} {v : Value} (hi : i < l.length) : (l.set i v).getD j .null = if j = i then v else l.getD j .null := by
  simp only [List.getD_eq_getElem?_getD, List.getElem?_set]
  by_cases h : i = j
  · subst h; simp [hi]
  · rw [if_neg h, if_neg (fun q => h q.symm)]
section XR
variable {g : xG} {D : xD} {h0 : xH} {x : xR} {pc : Nat} {loc : xL} {st : List Value} {h : xH} {cl : Bool} {ex : Nat}
theorem X.getf {own : String} {idx ci k a : Nat} {tk : FieldType} {fin : Bool} {fs : List Value} {v : Value} (f : xFld own idx ci k tk fin) (ho : (dy D).cls = own) (ha : h[a]? = some (ci, fs)) (hv : fs[k]? = some v) (d : decode (dc D) pc = .ok (.getfield idx, 3))
    (kk : X g D h0 x (pc + 3) loc (v :: st) h cl ex) : X g D h0 x pc loc (.ref a :: st) h cl ex := by
  intro p e R s m args below meth c H locs ls C hH hS hL h1 h2
  obtain ⟨C0, T, N, ty, ⟨hc, hin, -, -, hci⟩, hk, -, -, hl⟩ := f
  obtain ⟨hx, hb, -, hown⟩ := C.1
  rw [ho] at hown
  have hal := idx_lt ha
  have he : (cw g h)[a]? = some (gB g + a, .inr (ci, fs.map (cv g))) := by rw [cw_get ha, cE_o g fs hci]
  have ea : cv g (.ref a) = .ref (gB g + a) := by rw [← gad_lt g (Nat.lt_trans hal hH.2.2)]; rfl
  have hv2 : (fs.map (cv g))[k]? = some (cv g v) := by rw [List.getElem?_map, hv]; rfl
  rw [List.map_cons, ea]
  have kk2 := kk p e R s m args below meth c H locs ls C hH hS hL h1 h2
  rcases hl with hl | ⟨host, hl⟩
  · exact va_get (ref := (T k).1) hx hb C.2.1 (fun w hw => gd_in (hin w hw)) hown C.2.2.2.1.1.1.1 hH.1 a he hc k hk (C.2.1 _ (gd_in hl)) (fun _ q => q) hv2 d kk2
  · exact va_getN (ref := (T k).1) hx hb C.2.1 (fun w hw => gd_in (hin w hw)) hown C.2.2.2.1.1.1.1 hH.1 a he hc k hk (va_Nw.use rfl (C.2.2.2.1.1.1.2.1 _ hl)) (fun _ q => q) hv2 d kk2
theorem HR.put {H H1 : Heap} {a : Nat} {c : xC} (hH : HR g h H) (hs : H.size ≤ H1.size) (hP : va_P (gD g) vwCl ((cw g h).set a (gB g + a, cE g c)) H1) : HR g (h.set a c) H1 := by
  refine ⟨by rw [cw_set]; exact hP, by rw [List.length_set]; exact Nat.le_trans hH.2.1 hs, by rw [List.length_set]; exact hH.2.2⟩
theorem X.putK {ci k a : Nat} {fs : List Value} {v : Value} {pc' : Nat} {st' : List Value} {p : Program} {e : Env} {R : Room} {s : State} {m : MethodId} {args : Array Value} {below : List Frame} {meth : Method} {c : Code} {H : Heap} {locs : List Loc} {ls : Array Slot} (ha : h[a]? = some (ci, fs)) (hci : ci < 100)
    (kk : X g D h0 x pc' loc st' (h.set a (ci, fs.set k v)) cl ex) (C : xCtx g D h0 cl x p R s m args meth c) (hH : HR g h H) (hS : va_S (gA g) s.heap H locs) (hL : LR g ls (dn D) loc) (h1 : h0.length ≤ h.length) (h2 : szs h0 ≤ szs h) :
    ∀ (H1 : Heap) (locs1 : List Loc), va_P (gD g) vwCl ((cw g h).set a (gB g + a, .inr (ci, (fs.map (cv g)).set k (cv g v)))) H1 → va_D (gA g) ((cw g h).set a (gB g + a, .inr (ci, (fs.map (cv g)).set k (cv g v)))) → va_S (gA g) H H1 locs1 → W p (gl g) e R s m args below meth c H1 locs1 (nC h0 h ex) (nS h0 h ex) (vx_MQ below (xQ g x) (xX g x) args s (nC h0 (xh x) (xe x)) (nS h0 (xh x) (xe x)) (gA g)) (F0 m pc' ls (st'.map (cv g))) := by
  intro H1 locs1 q1 q2 q3
  have ew : (gB g + a, cE g (ci, fs.set k v)) = ((gB g + a, .inr (ci, (fs.map (cv g)).set k (cv g v))) : Nat × va_E) := by rw [cE_o g _ hci, List.map_set]
  rw [← ew] at q1
  have hsz : szs (h.set a (ci, fs.set k v)) = szs h := szs_set ha (by simp)
  have := kk p e R s m args below meth c H1 locs1 ls C (hH.put q3.1 q1) (hS.two q3) hL (by simpa using h1) (by rw [hsz]; exact h2)
  unfold nC nS at this ⊢
  rw [hsz, List.length_set] at this
  exact this
theorem X.putf {own : String} {idx ci k a : Nat} {tk : FieldType} {fs : List Value} {v : Value} (f : xFld own idx ci k tk false) (ho : (dy D).cls = own) (ha : h[a]? = some (ci, fs)) (hk9 : k < fs.length) (hn : narrow tk (cv g v) = cv g v) (hf : fits tk (cv g v) = true) (d : decode (dc D) pc = .ok (.putfield idx, 3))
    (kk : X g D h0 x (pc + 3) loc st (h.set a (ci, fs.set k v)) cl ex) : X g D h0 x pc loc (v :: .ref a :: st) h cl ex := by
  intro p e R s m args below meth c H locs ls C hH hS hL h1 h2
  obtain ⟨C0, T, N, ty, ⟨hc, hin, hty, hnm, hci⟩, hk, htk, hfin, hl⟩ := f
  obtain ⟨hx, hb, -, hown⟩ := C.1
  rw [ho] at hown
  have hal := idx_lt ha
  have he : (cw g h)[a]? = some (gB g + a, .inr (ci, fs.map (cv g))) := by rw [cw_get ha, cE_o g fs hci]
  have ea : cv g (.ref a) = .ref (gB g + a) := by rw [← gad_lt g (Nat.lt_trans hal hH.2.2)]; rfl
  have hd : parseFieldDescriptor (T k).2.2.1 = some tk := by rw [hty k hk, htk]
  have kk2 := X.putK (e := e) (below := below) (locs := locs) ha hci kk C hH hS hL h1 h2
  rw [List.map_cons, List.map_cons, ea]
  have hlen : k < (fs.map (cv g)).length := by simpa using hk9
  rcases hl with hl | ⟨host, hl⟩
  · exact va_put (ref := (T k).1) hx hb C.2.1 (fun w hw => gd_in (hin w hw)) ty hty hnm hown C.2.2.2.1.1.1.1 hH.1 (cw_D g h) hS.here a he hc k hk (C.2.1 _ (gd_in hl)) (fun _ q => q) hfin hd hn hf hlen d kk2
  · exact va_putN (ref := (T k).1) hx hb C.2.1 (fun w hw => gd_in (hin w hw)) ty hty hnm hown C.2.2.2.1.1.1.1 hH.1 (cw_D g h) hS.here a he hc k hk (va_Nw.use rfl (C.2.2.2.1.1.1.2.1 _ hl)) (fun _ q => q) hfin hd hn hf hlen d kk2
def xFldF (own : String) (idx ci k : Nat) (tk : FieldType) : Prop := ∃ (C : String) (T : u_T) (N : Nat) (ty : Nat → FieldType), xCls ci C T N ty ∧ k < N ∧ ty k = tk ∧ (T k).2.2.2 = true ∧ (T k).1 = own ∧ Cond.fieldLink own idx (T k).1 (T k).2.1 (T k).2.2.1 ∈ lw_gd
theorem X.putfF {own : String} {idx ci k a : Nat} {tk : FieldType} {fs : List Value} {v : Value} (f : xFldF own idx ci k tk) (ho : (dy D).cls = own) (hfi : (dy D).name = "<init>") (ha : h[a]? = some (ci, fs)) (hk9 : k < fs.length) (hn : narrow tk (cv g v) = cv g v) (hf : fits tk (cv g v) = true) (d : decode (dc D) pc = .ok (.putfield idx, 3))
    (kk : X g D h0 x (pc + 3) loc st (h.set a (ci, fs.set k v)) cl ex) : X g D h0 x pc loc (v :: .ref a :: st) h cl ex := by
  intro p e R s m args below meth c H locs ls C hH hS hL h1 h2
  obtain ⟨C0, T, N, ty, ⟨hc, hin, hty, hnm, hci⟩, hk, htk, hfin, hdecl, hl⟩ := f
  obtain ⟨hx, hb, -, hown⟩ := C.1
  rw [ho] at hown
  have hal := idx_lt ha
  have he : (cw g h)[a]? = some (gB g + a, .inr (ci, fs.map (cv g))) := by rw [cw_get ha, cE_o g fs hci]
  have ea : cv g (.ref a) = .ref (gB g + a) := by rw [← gad_lt g (Nat.lt_trans hal hH.2.2)]; rfl
  have hd : parseFieldDescriptor (T k).2.2.1 = some tk := by rw [hty k hk, htk]
  have kk2 := X.putK (e := e) (below := below) (locs := locs) ha hci kk C hH hS hL h1 h2
  rw [List.map_cons, List.map_cons, ea]
  have hlen : k < (fs.map (cv g)).length := by simpa using hk9
  exact va_putF (ref := (T k).1) hx hb C.2.1 (fun w hw => gd_in (hin w hw)) ty hty hnm hown C.2.2.2.1.1.1.1 hH.1 (cw_D g h) hS.here a he hc k hk (C.2.1 _ (gd_in hl)) (fun _ q => q) hfin (C.2.2.1.2.2.2.trans hfi) hdecl hd hn hf hlen d kk2
theorem X.iald {a : Nat} {l : List Value} {i : Int32} (ha : h[a]? = some (100, l)) (hi : vp_in i l.length) (d : decode (dc D) pc = .ok (.iaload, 1))
    (kk : X g D h0 x (pc + 1) loc (.int (vI (l.getD i.toNatClampNeg .null)) :: st) h cl ex) : X g D h0 x pc loc (.int i :: .ref a :: st) h cl ex := by
  intro p e R s m args below meth c H locs ls C hH hS hL h1 h2
  have he := cw_get (g := g) ha
  rw [cE_i] at he
  have ea : cv g (.ref a) = .ref (gB g + a) := by rw [← gad_lt g (Nat.lt_trans (idx_lt ha) hH.2.2)]; rfl
  rw [List.map_cons, List.map_cons, ea]
  exact va_iald C.1.1 C.1.2.1 C.2.2.2.1.1.1.1 hH.1 a 0 he rfl hi d (kk p e R s m args below meth c H locs ls C hH hS hL h1 h2)
theorem X.lald {a : Nat} {l : List Value} {i : Int32} (ha : h[a]? = some (101, l)) (hi : vp_in i l.length) (d : decode (dc D) pc = .ok (.laload, 1))
    (kk : X g D h0 x (pc + 1) loc (.long (vJ (l.getD i.toNatClampNeg .null)) :: st) h cl ex) : X g D h0 x pc loc (.int i :: .ref a :: st) h cl ex := by
  intro p e R s m args below meth c H locs ls C hH hS hL h1 h2
  have he := cw_get (g := g) ha
  rw [cE_l] at he
  have ea : cv g (.ref a) = .ref (gB g + a) := by rw [← gad_lt g (Nat.lt_trans (idx_lt ha) hH.2.2)]; rfl
  rw [List.map_cons, List.map_cons, ea]
  exact va_lald C.1.1 C.1.2.1 C.2.2.2.1.1.1.1 hH.1 a 1 he rfl hi d (kk p e R s m args below meth c H locs ls C hH hS hL h1 h2)
theorem X.aald {a t : Nat} {l : List Value} {i : Int32} {v : Value} (ht : 102 ≤ t) (ht6 : t < 106) (ha : h[a]? = some (t, l)) (hi : vp_in i l.length) (hv : l.getD i.toNatClampNeg .null = v) (hq : v = .null ∨ ∃ b, v = .ref b) (d : decode (dc D) pc = .ok (.aaload, 1))
    (kk : X g D h0 x (pc + 1) loc (v :: st) h cl ex) : X g D h0 x pc loc (.int i :: .ref a :: st) h cl ex := by
  intro p e R s m args below meth c H locs ls C hH hS hL h1 h2
  have he := cw_get (g := g) ha
  rw [cE_q g t l ht] at he
  have ea : cv g (.ref a) = .ref (gB g + a) := by rw [← gad_lt g (Nat.lt_trans (idx_lt ha) hH.2.2)]; rfl
  have hlt : i.toNatClampNeg < l.length := Nat.not_le.mp fun q => hi (Or.inr q)
  have hK := C.2.2.2.1.1.1.1
  have key : ∀ ty : FieldType, ty.isReference = true → (tysG g)[t - 100]? = some (gT g (t - 100), ty) → W p (gl g) e R s m args below meth c H locs (nC h0 h ex) (nS h0 h ex) (vx_MQ below (xQ g x) (xX g x) args s (nC h0 (xh x) (xe x)) (nS h0 (xh x) (xe x)) (gA g)) (F0 m pc ls (.int i :: .ref (gB g + a) :: st.map (cv g))) := by
    intro ty hty hk
    refine W.aald (v := va_rf (vQ g (l.getD i.toNatClampNeg .null))) (ty := ty) C.1.1 C.1.2.1 (hH.1 a _ he) ((hK.2 (t - 100) _ hk).1 l.length (fun j => va_rf (vQ g (l.getD j .null)))) hty (fun q => by cases q) (by show ¬ (i < 0 ∨ (arrV _ _ _).slots.size ≤ _); rw [arrV_size]; exact hi) (by show (arrV _ _ _).slots[_]? = _; rw [arrV_read _ _ hlt]) rfl rfl d ?_
    have kk2 := kk p e R s m args below meth c H locs ls C hH hS hL h1 h2
    rw [List.map_cons] at kk2
    have ev : va_rf (vQ g (l.getD i.toNatClampNeg .null)) = cv g v := by
      rw [hv]
      rcases hq with rfl | ⟨b, rfl⟩ <;> rfl
    rw [ev]
    exact kk2
  rw [List.map_cons, List.map_cons, ea]
  have : t = 102 ∨ t = 103 ∨ t = 104 ∨ t = 105 := by omega
  rcases this with rfl | rfl | rfl | rfl
  · exact key (.array .int) rfl rfl
  · exact key (.object "PairKeeperLaw$Book") rfl rfl
  · exact key (.array .int) rfl rfl
  · exact key (.object "PairKeeper$Book") rfl rfl
theorem X.astK {t a : Nat} {l : List Value} {i : Nat} {v : Value} {pc' : Nat} {st' : List Value} {p : Program} {e : Env} {R : Room} {s : State} {m : MethodId} {args : Array Value} {below : List Frame} {meth : Method} {c : Code} {H : Heap} {locs : List Loc} {ls : Array Slot} {en : va_E} (ha : h[a]? = some (t, l)) (hen : cE g (t, l.set i v) = en)
    (kk : X g D h0 x pc' loc st' (h.set a (t, l.set i v)) cl ex) (C : xCtx g D h0 cl x p R s m args meth c) (hH : HR g h H) (hS : va_S (gA g) s.heap H locs) (hL : LR g ls (dn D) loc) (h1 : h0.length ≤ h.length) (h2 : szs h0 ≤ szs h) :
    ∀ (H1 : Heap) (locs1 : List Loc), va_P (gD g) vwCl ((cw g h).set a (gB g + a, en)) H1 → va_D (gA g) ((cw g h).set a (gB g + a, en)) → va_S (gA g) H H1 locs1 → W p (gl g) e R s m args below meth c H1 locs1 (nC h0 h ex) (nS h0 h ex) (vx_MQ below (xQ g x) (xX g x) args s (nC h0 (xh x) (xe x)) (nS h0 (xh x) (xe x)) (gA g)) (F0 m pc' ls (st'.map (cv g))) := by
  intro H1 locs1 q1 q2 q3
  rw [← hen] at q1
  have hsz : szs (h.set a (t, l.set i v)) = szs h := szs_set ha (by simp)
  have := kk p e R s m args below meth c H1 locs1 ls C (hH.put q3.1 q1) (hS.two q3) hL (by simpa using h1) (by rw [hsz]; exact h2)
  unfold nC nS at this ⊢
  rw [hsz, List.length_set] at this
  exact this
theorem X.iast {a : Nat} {l : List Value} {i v : Int32} (ha : h[a]? = some (100, l)) (hi : vp_in i l.length) (d : decode (dc D) pc = .ok (.iastore, 1))
    (kk : X g D h0 x (pc + 1) loc st (h.set a (100, l.set i.toNatClampNeg (.int v))) cl ex) : X g D h0 x pc loc (.int v :: .int i :: .ref a :: st) h cl ex := by
  intro p e R s m args below meth c H locs ls C hH hS hL h1 h2
  have he := cw_get (g := g) ha
  rw [cE_i] at he
  have hlt : i.toNatClampNeg < l.length := Nat.not_le.mp fun q => hi (Or.inr q)
  have ea : cv g (.ref a) = .ref (gB g + a) := by rw [← gad_lt g (Nat.lt_trans (idx_lt ha) hH.2.2)]; rfl
  rw [List.map_cons, List.map_cons, List.map_cons, ea]
  refine va_iast C.1.1 C.1.2.1 C.2.2.2.1.1.1.1 hH.1 (cw_D g h) hS.here a 0 he rfl hi d (X.astK (e := e) (below := below) (locs := locs) ha ?_ kk C hH hS hL h1 h2)
  rw [cE_i, List.length_set]
  congr 4
  funext j
  rw [getD_set hlt]
  unfold upd
  split <;> rfl
theorem X.last {a : Nat} {l : List Value} {i : Int32} {v : Int64} (ha : h[a]? = some (101, l)) (hi : vp_in i l.length) (d : decode (dc D) pc = .ok (.lastore, 1))
    (kk : X g D h0 x (pc + 1) loc st (h.set a (101, l.set i.toNatClampNeg (.long v))) cl ex) : X g D h0 x pc loc (.long v :: .int i :: .ref a :: st) h cl ex := by
  intro p e R s m args below meth c H locs ls C hH hS hL h1 h2
  have he := cw_get (g := g) ha
  rw [cE_l] at he
  have hlt : i.toNatClampNeg < l.length := Nat.not_le.mp fun q => hi (Or.inr q)
  have ea : cv g (.ref a) = .ref (gB g + a) := by rw [← gad_lt g (Nat.lt_trans (idx_lt ha) hH.2.2)]; rfl
  rw [List.map_cons, List.map_cons, List.map_cons, ea]
  refine va_last C.1.1 C.1.2.1 C.2.2.2.1.1.1.1 hH.1 (cw_D g h) hS.here a 1 he rfl hi d (X.astK (e := e) (below := below) (locs := locs) ha ?_ kk C hH hS hL h1 h2)
  rw [cE_l, List.length_set]
  congr 5
  funext j
  rw [getD_set hlt]
  unfold vp_updL
  split <;> rfl
/-- the script's k-th -/
theorem X.sald {i : Int32} (hi : vp_in i (gX g).length) (d : decode (dc D) pc = .ok (.iaload, 1))
    (kk : X g D h0 x (pc + 1) loc (.int ((gX g).getD i.toNatClampNeg 0) :: st) h cl ex) : X g D h0 x pc loc (.int i :: .ref 1000000 :: st) h cl ex := by
  intro p e R s m args below meth c H locs ls C hH hS hL h1 h2
  have ea : cv g (.ref 1000000) = .ref (gS g 0) := by
    show Value.ref (gad g 1000000) = _
    rw [gad, if_neg (by omega)]
  rw [List.map_cons, List.map_cons, ea]
  exact va_ti C.1.1 C.1.2.1 C.2.2.2.1.1.2.1.2.1 hS hi rfl d (kk p e R s m args below meth c H locs ls C hH hS hL h1 h2)
theorem X.ldcI {own : String} {idx : Nat} {v : Int32} (hw : Cond.constant own idx v ∈ lw_gd) (ho : (dy D).cls = own) (d : decode (dc D) pc = .ok (.ldc idx, 2)) (k : X g D h0 x (pc + 2) loc (.int v :: st) h cl ex) : X g D h0 x pc loc st h cl ex := by
  intro p e R s m args below meth c H locs ls C hH hS hL h1 h2
  obtain ⟨hx, hb, -, hown⟩ := C.1
  rw [ho] at hown
  exact lv_ldc hx hb hown (C.2.1 _ (gd_in hw)) d (k p e R s m args below meth c H locs ls C hH hS hL h1 h2)
theorem X.ldcL {own : String} {idx : Nat} {v : Int64} (hw : Cond.constantLong own idx v ∈ lw_gd) (ho : (dy D).cls = own) (d : decode (dc D) pc = .ok (.ldc2_w idx, 3)) (k : X g D h0 x (pc + 3) loc (.long v :: st) h cl ex) : X g D h0 x pc loc st h cl ex := by
  intro p e R s m args below meth c H locs ls C hH hS hL h1 h2
  obtain ⟨hx, hb, -, hown⟩ := C.1
  rw [ho] at hown
  exact lv_ldc2 hx hb hown (C.2.1 _ (gd_in hw)) d (k p e R s m args below meth c H locs ls C hH hS hL h1 h2)
theorem X.ldcS {own tx : String} {idx j : Nat} (hw : (own, idx, tx, j) ∈ sCon) (ho : (dy D).cls = own) (d : decode (dc D) pc = .ok (.ldc idx, 2)) (k : X g D h0 x (pc + 2) loc (.ref (1000001 + j) :: st) h cl ex) : X g D h0 x pc loc st h cl ex := by
  intro p e R s m args below meth c H locs ls C hH hS hL h1 h2
  obtain ⟨hx, hb, -, hown⟩ := C.1
  rw [ho] at hown
  have ea : cv g (.ref (1000001 + j)) = .ref (gS g (1 + j)) := by
    show Value.ref (gad g (1000001 + j)) = _
    rw [gad, if_neg (by omega), show 1000001 + j - 1000000 = 1 + j by omega]
  have kk := k p e R s m args below meth c H locs ls C hH hS hL h1 h2
  rw [List.map_cons, ea] at kk
  exact va_ldcS hx hb hown (C.2.2.2.1.1.1.2.2.1 _ hw) d kk
end XR
