/-! new cells: their place is the next one, as long as no exception was made -/
def nwC (h : xH) (c : xC) : Option (Nat × xH) := if h.length + 1 < 1000000 then some (h.length, h ++ [c]) else none
def nwI (h : xH) (n : Int32) : Option (Nat × xH) := if ¬ n < 0 ∧ n.toNatClampNeg ≤ 1000000 then nwC h (100, List.replicate n.toNatClampNeg (.int 0)) else none
def nwJ (h : xH) (n : Int32) : Option (Nat × xH) := if ¬ n < 0 ∧ n.toNatClampNeg ≤ 1000000 then nwC h (101, List.replicate n.toNatClampNeg (.long 0)) else none
def nwQ (h : xH) (n : Int32) : Option (Nat × xH) := if ¬ n < 0 ∧ n.toNatClampNeg ≤ 1000000 then nwC h (105, List.replicate n.toNatClampNeg .null) else none
theorem nw_place {g : xG} {h : xH} {H1 : Heap} {q : Nat} {e : va_E} (hP : va_P (gD g) vwCl (cw g h ++ [(q, e)]) H1) (hD : va_D (gA g) (cw g h ++ [(q, e)])) (hs : H1.size ≤ gB g + h.length + 1) : q = gB g + h.length := by
  have hlen : (cw g h).length = h.length := by
    have : ∀ (h : xH) (o : Nat), (cwF g o h).length = h.length := by
      intro h; induction h with
      | nil => intro o; rfl
      | cons a t ih => intro o; simp [cwF, ih]
    exact this h 0
  have hq : (cw g h ++ [(q, e)])[h.length]? = some (q, e) := by rw [List.getElem?_append_right (by omega), hlen]; simp
  have h1 : q < H1.size := (hP _ _ hq).lt
  have h2 : gB g ≤ q := hD.2 _ _ hq
  rcases Nat.lt_or_ge q (gB g + h.length) with h3 | h3
  · exfalso
    have hk : q - gB g < h.length := by omega
    have hc : (cw g h ++ [(q, e)])[q - gB g]? = some (gB g + (q - gB g), cE g h[q - gB g]) := by
      rw [List.getElem?_append_left (by omega), cw_at, List.getElem?_eq_getElem hk]; rfl
    have := hD.1 _ _ _ _ hc hq (by show gB g + (q - gB g) = q; omega)
    omega
  · omega
section YN
variable {ρ : Type} {g : xG} {D : xD} {h0 : xH} {inj : ρ → xR} {pc : Nat} {loc : xL} {st : List Value} {h : xH}
theorem nw_go {pc' : Nat} {st' : List Value} {x : xR} {c : xC} {p : Program} {e : Env} {R : Room} {s : State} {m : MethodId} {args : Array Value} {below : List Frame} {meth : Method} {cd : Code} {H1 : Heap} {locs : List Loc} {ls : Array Slot} {q : Nat} {n : Nat} (hn : c.2.length = n)
    (kk : X g D h0 x pc' loc (.ref h.length :: st') (h ++ [c]) false 0) (C : xCtx g D h0 false x p R s m args meth cd) (hlt : h.length + 1 < 1000000) (hL : LR g ls (dn D) loc) (h1 : h0.length ≤ h.length) (h2 : szs h0 ≤ szs h)
    (hP : va_P (gD g) vwCl (cw g h ++ [(q, cE g c)]) H1) (hD : va_D (gA g) (cw g h ++ [(q, cE g c)])) (hS : va_S (gA g) s.heap H1 locs) :
    W p (gl g) e R s m args below meth cd H1 locs (nC h0 h 0 + 1) (nS h0 h 0 + n) (vx_MQ below (xQ g x) (xX g x) args s (nC h0 (xh x) (xe x)) (nS h0 (xh x) (xe x)) (gA g)) (F0 m pc' ls (.ref q :: st'.map (cv g))) := by
  refine W.sz (fun sz => ?_)
  have hs0 := C.2.2.2.1.2.2 rfl
  have hb : H1.size ≤ gB g + h.length + 1 := by unfold nC at sz; omega
  have hq := nw_place hP hD hb
  subst hq
  have hlast : gB g + h.length < H1.size := by
    have hlen : (cw g h).length = h.length := by
      have : ∀ (h : xH) (o : Nat), (cwF g o h).length = h.length := by
        intro h; induction h with
        | nil => intro o; rfl
        | cons a t ih => intro o; simp [cwF, ih]
      exact this h 0
    exact (hP h.length (gB g + h.length, cE g c) (by rw [List.getElem?_append_right (by omega), hlen]; simp)).lt
  have hH : HR g (h ++ [c]) H1 := ⟨by rw [cw_push]; exact hP, by simp; omega, by simp; omega⟩
  have := kk p e R s m args below meth cd H1 locs ls C hH hS hL (by simp; omega) (by rw [szs_push]; omega)
  have e1 : nC h0 (h ++ [c]) 0 = nC h0 h 0 + 1 := by unfold nC; simp; omega
  have e2 : nS h0 (h ++ [c]) 0 = nS h0 h 0 + n := by unfold nS; rw [szs_push, hn]; omega
  have e3 : cv g (.ref h.length) = .ref (gB g + h.length) := by rw [← gad_lt g (show h.length < 1000000 by omega)]; rfl
  rw [e1, e2, List.map_cons, e3] at this
  exact this
theorem nw_room {x : xR} {c : xC} {n : Nat} {p : Program} {R : Room} {s : State} {m : MethodId} {args : Array Value} {meth : Method} {cd : Code} (hn : c.2.length = n) (C : xCtx g D h0 false x p R s m args meth cd) (h1 : h0.length ≤ h.length) (h2 : szs h0 ≤ szs h) (q : xle (h ++ [c]) 0 x) : nC h0 h 0 + 1 ≤ R.cells ∧ nS h0 h 0 + n ≤ R.slots := by
  have a := C.2.2.2.2.2.2.1
  have b := C.2.2.2.2.2.2.2
  have e1 : nC h0 (h ++ [c]) 0 = nC h0 h 0 + 1 := by unfold nC; simp; omega
  have e2 : nS h0 (h ++ [c]) 0 = nS h0 h 0 + n := by unfold nS; rw [szs_push, hn]; omega
  rw [← e1, ← e2]
  exact ⟨Nat.le_trans (nC_le q.1 q.2.2) a, Nat.le_trans (nS_le q.2.1 q.2.2) b⟩
theorem xle_push {c : xC} {x : xR} (q : xle (h ++ [c]) 0 x) : xle h 0 x := ⟨by have := q.1; simp at this; omega, by have := q.2.1; rw [szs_push] at this; omega, q.2.2⟩
/-- the entry idx of own is the class ci, that can be made -/
def xNew (own : String) (idx ci : Nat) (fs : List Value) : Prop := ∃ (C : String) (T : u_T) (N : Nat) (ty : Nat → FieldType), xCls ci C T N ty ∧ Cond.classLink own idx C ∈ lw_gd ∧ Cond.instantiable C N ∈ lw_gd ∧ Cond.initialized C ∈ lw_gd ∧ (∀ j, j < N → defaultValue (ty j) = vp_V fs j) ∧ fs.length = N
theorem Y.new {own : String} {idx ci : Nat} {fs : List Value} {K : Nat × xH → Option ρ} (w : xNew own idx ci fs) (hcv : fs.map (cv g) = fs) (ho : (dy D).cls = own) (d : decode (dc D) pc = .ok (.new idx, 3)) (kk : ∀ r, Y g D h0 false inj (K r) (pc + 3) loc (.ref r.1 :: st) r.2) : Y g D h0 false inj ((nwC h (ci, fs)).bind K) pc loc st h := by
  intro r e
  obtain ⟨r', e1, e2⟩ := Option.bind_eq_some_iff.mp e
  unfold nwC at e1
  split at e1
  · rename_i hlt
    cases e1
    have q := kk _ r e2
    refine ⟨xle_push q.1, ?_⟩
    obtain ⟨C0, T, N, ty, ⟨hc, hin, hty, hnm, hci⟩, w1, w2, w3, hfs, hN⟩ := w
    intro p e' R s m args below meth c H locs ls C hH hS hL h1 h2
    obtain ⟨hx, hb, hml, hown⟩ := C.1
    rw [ho] at hown
    have hwd : ∀ w, w ∈ lw_gd → w.before args s = true := fun w hw => C.2.1 w (gd_in hw)
    have hr := nw_room (c := (ci, fs)) hN C h1 h2 q.1
    have hA : ∀ q, s.heap.size ≤ q → gA g q := fun q hq => Nat.le_trans (Nat.le_trans (Nat.le_add_right _ _) C.2.2.2.1.2.1) hq
    have hce : cE g (ci, fs) = .inr (ci, fs) := by rw [cE_o g fs hci, hcv]
    refine va_new (ci := ci) (fs := fs) hx hb C.2.1 (fun w hw => gd_in (hin w hw)) ty hty hown (hwd _ w1) (hwd _ w2) (hwd _ w3) C.2.2.2.1.1.1.1 hH.1 (cw_D g h) hS hA hc hfs hr.1 hr.2 d (fun q0 H1 hP hD hS1 => ?_)
    rw [← hce] at hP hD
    exact nw_go (c := (ci, fs)) hN q.2 C hlt hL h1 h2 hP hD hS1
  · cases e1
theorem Y.newI {n : Int32} {K : Nat × xH → Option ρ} (w : Cond.arrayClass .int ∈ lw_gd) (d : decode (dc D) pc = .ok (.newarray .int, 2)) (kk : ∀ r, Y g D h0 false inj (K r) (pc + 2) loc (.ref r.1 :: st) r.2) : Y g D h0 false inj ((nwI h n).bind K) pc loc (.int n :: st) h := by
  intro r e
  obtain ⟨r', e1, e2⟩ := Option.bind_eq_some_iff.mp e
  unfold nwI at e1
  split at e1
  · rename_i hn
    unfold nwC at e1
    split at e1
    · rename_i hlt
      cases e1
      have q := kk _ r e2
      refine ⟨xle_push q.1, ?_⟩
      intro p e' R s m args below meth c H locs ls C hH hS hL h1 h2
      obtain ⟨hx, hb, hml, hown⟩ := C.1
      have hN : ((100, List.replicate n.toNatClampNeg (.int 0)) : xC).2.length = n.toNatClampNeg := List.length_replicate
      have hr := nw_room hN C h1 h2 q.1
      have hA : ∀ q, s.heap.size ≤ q → gA g q := fun q hq => Nat.le_trans (Nat.le_trans (Nat.le_add_right _ _) C.2.2.2.1.2.1) hq
      have hK := C.2.2.2.1.1.1.1
      have hz : ∀ j, vI ((List.replicate n.toNatClampNeg (Value.int 0)).getD j .null) = 0 := by
        intro j
        rw [List.getD_eq_getElem?_getD, List.getElem?_replicate]
        split <;> rfl
      have hz2 : (fun j => vI ((List.replicate n.toNatClampNeg (Value.int 0)).getD j .null)) = fun _ => 0 := funext hz
      refine va_newa (atype := .int) (ty := .int) (a0 := (n.toNatClampNeg, .inl (fun _ => 0))) hx hb (C.2.1 _ (gd_in w)) rfl hK hH.1 (cw_D g h) hS hA (fun cA => rfl) hn.1 rfl (by show n.toNatClampNeg * 4 ≤ _; omega) hr.1 hr.2 d (fun q0 cA H1 hK1 hP hD hS1 => ?_)
      have hcA : cA = gT g 0 := by
        have a1 := (hK1.2 6 (cA, .int) rfl).2
        have a2 := (hK.2 0 (gT g 0, .int) rfl).2
        exact Option.some.inj (Eq.trans (Eq.symm a1) a2)
      have hce : cE g (100, List.replicate n.toNatClampNeg (.int 0)) = .inl (cA, n.toNatClampNeg, .inl (fun _ => 0)) := by
        rw [cE_i, List.length_replicate, hz2, hcA]
      rw [← hce] at hP hD
      exact nw_go hN q.2 C hlt hL h1 h2 hP hD hS1
    · cases e1
  · cases e1
theorem Y.newJ {n : Int32} {K : Nat × xH → Option ρ} (w : Cond.arrayClass .long ∈ lw_gd) (d : decode (dc D) pc = .ok (.newarray .long, 2)) (kk : ∀ r, Y g D h0 false inj (K r) (pc + 2) loc (.ref r.1 :: st) r.2) : Y g D h0 false inj ((nwJ h n).bind K) pc loc (.int n :: st) h := by
  intro r e
  obtain ⟨r', e1, e2⟩ := Option.bind_eq_some_iff.mp e
  unfold nwJ at e1
  split at e1
  · rename_i hn
    unfold nwC at e1
    split at e1
    · rename_i hlt
      cases e1
      have q := kk _ r e2
      refine ⟨xle_push q.1, ?_⟩
      intro p e' R s m args below meth c H locs ls C hH hS hL h1 h2
      obtain ⟨hx, hb, hml, hown⟩ := C.1
      have hN : ((101, List.replicate n.toNatClampNeg (.long 0)) : xC).2.length = n.toNatClampNeg := List.length_replicate
      have hr := nw_room hN C h1 h2 q.1
      have hA : ∀ q, s.heap.size ≤ q → gA g q := fun q hq => Nat.le_trans (Nat.le_trans (Nat.le_add_right _ _) C.2.2.2.1.2.1) hq
      have hK := C.2.2.2.1.1.1.1
      have hz : ∀ j, vJ ((List.replicate n.toNatClampNeg (Value.long 0)).getD j .null) = 0 := by
        intro j
        rw [List.getD_eq_getElem?_getD, List.getElem?_replicate]
        split <;> rfl
      have hz2 : (fun j => vJ ((List.replicate n.toNatClampNeg (Value.long 0)).getD j .null)) = fun _ => 0 := funext hz
      refine va_newa (atype := .long) (ty := .long) (a0 := (n.toNatClampNeg, .inr (.inl (fun _ => 0)))) hx hb (C.2.1 _ (gd_in w)) rfl hK hH.1 (cw_D g h) hS hA (fun cA => rfl) hn.1 rfl (by show n.toNatClampNeg * 8 ≤ _; omega) hr.1 hr.2 d (fun q0 cA H1 hK1 hP hD hS1 => ?_)
      have hcA : cA = gT g 1 := by
        have a1 := (hK1.2 6 (cA, .long) rfl).2
        have a2 := (hK.2 1 (gT g 1, .long) rfl).2
        exact Option.some.inj (Eq.trans (Eq.symm a1) a2)
      have hce : cE g (101, List.replicate n.toNatClampNeg (.long 0)) = .inl (cA, n.toNatClampNeg, .inr (.inl (fun _ => 0))) := by
        rw [cE_l, List.length_replicate, hz2, hcA]
      rw [← hce] at hP hD
      exact nw_go hN q.2 C hlt hL h1 h2 hP hD hS1
    · cases e1
  · cases e1
theorem Y.newQ {own : String} {idx : Nat} {n : Int32} {K : Nat × xH → Option ρ} (w : Cond.classLink own idx "PairKeeper$Book" ∈ lw_gd) (ho : (dy D).cls = own) (d : decode (dc D) pc = .ok (.anewarray idx, 3)) (kk : ∀ r, Y g D h0 false inj (K r) (pc + 3) loc (.ref r.1 :: st) r.2) : Y g D h0 false inj ((nwQ h n).bind K) pc loc (.int n :: st) h := by
  intro r e
  obtain ⟨r', e1, e2⟩ := Option.bind_eq_some_iff.mp e
  unfold nwQ at e1
  split at e1
  · rename_i hn
    unfold nwC at e1
    split at e1
    · rename_i hlt
      cases e1
      have q := kk _ r e2
      refine ⟨xle_push q.1, ?_⟩
      intro p e' R s m args below meth c H locs ls C hH hS hL h1 h2
      obtain ⟨hx, hb, hml, hown⟩ := C.1
      rw [ho] at hown
      have hN : ((105, List.replicate n.toNatClampNeg .null) : xC).2.length = n.toNatClampNeg := List.length_replicate
      have hr := nw_room hN C h1 h2 q.1
      have hA : ∀ q, s.heap.size ≤ q → gA g q := fun q hq => Nat.le_trans (Nat.le_trans (Nat.le_add_right _ _) C.2.2.2.1.2.1) hq
      have hK := C.2.2.2.1.1.1.1
      have hz : ∀ j, vQ g ((List.replicate n.toNatClampNeg Value.null).getD j .null) = none := by
        intro j
        rw [List.getD_eq_getElem?_getD, List.getElem?_replicate]
        split <;> rfl
      have hz2 : (fun j => vQ g ((List.replicate n.toNatClampNeg Value.null).getD j .null)) = fun _ => none := funext hz
      refine va_newq hx hb hown (C.2.1 _ (gd_in w)) (va_AO.of (C.2.2.2.1.1.1.2.2.2.1 _ (by simp [kAO]))) hK hH.1 (cw_D g h) hS hA hn.1 rfl (by omega) hr.1 hr.2 d (fun q0 cA H1 hK1 hP hD hS1 => ?_)
      have hcA : cA = gT g 5 := by
        obtain ⟨_, _, _, _, _, a1⟩ := (hK1.2 6 (cA, .object "PairKeeper$Book") rfl).2
        obtain ⟨_, _, _, _, _, a2⟩ := (hK.2 5 (gT g 5, .object "PairKeeper$Book") rfl).2
        exact Option.some.inj (Eq.trans (Eq.symm a1) a2)
      have hce : cE g (105, List.replicate n.toNatClampNeg .null) = .inl (cA, n.toNatClampNeg, .inr (.inr (.inr (.inr (fun _ => none))))) := by
        rw [cE_q g 105 _ (by decide), List.length_replicate, hz2, hcA]
      rw [← hce] at hP hD
      exact nw_go hN q.2 C hlt hL h1 h2 hP hD hS1
    · cases e1
  · cases e1
end YN
